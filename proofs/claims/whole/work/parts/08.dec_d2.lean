theorem dX9_sorts_24 : decode cX9_sorts 24 = .ok (.iaload, 1) := by decide +kernel
theorem dX9_sorts_25 : decode cX9_sorts 25 = .ok (.ifCond .le 49, 3) := by decide +kernel
theorem dX9_sorts_28 : decode cX9_sorts 28 = .ok (.iload_n 3, 1) := by decide +kernel
theorem dX9_sorts_29 : decode cX9_sorts 29 = .ok (.ifCond .le 45, 3) := by decide +kernel
theorem dX9_sorts_32 : decode cX9_sorts 32 = .ok (.aload_n 0, 1) := by decide +kernel
theorem dX9_sorts_33 : decode cX9_sorts 33 = .ok (.getfield 13, 3) := by decide +kernel
theorem dX9_sorts_36 : decode cX9_sorts 36 = .ok (.aload_n 0, 1) := by decide +kernel
theorem dX9_sorts_37 : decode cX9_sorts 37 = .ok (.getfield 46, 3) := by decide +kernel
theorem dX9_sorts_40 : decode cX9_sorts 40 = .ok (.iload_n 3, 1) := by decide +kernel
theorem dX9_sorts_41 : decode cX9_sorts 41 = .ok (.iconst 1, 1) := by decide +kernel
theorem dX9_sorts_42 : decode cX9_sorts 42 = .ok (.isub, 1) := by decide +kernel
theorem dX9_sorts_43 : decode cX9_sorts 43 = .ok (.iaload, 1) := by decide +kernel
theorem dX9_sorts_44 : decode cX9_sorts 44 = .ok (.iaload, 1) := by decide +kernel
theorem dX9_sorts_45 : decode cX9_sorts 45 = .ok (.aload_n 0, 1) := by decide +kernel
theorem dX9_sorts_46 : decode cX9_sorts 46 = .ok (.getfield 13, 3) := by decide +kernel
theorem dX9_sorts_49 : decode cX9_sorts 49 = .ok (.iload_n 2, 1) := by decide +kernel
theorem dX9_sorts_50 : decode cX9_sorts 50 = .ok (.iaload, 1) := by decide +kernel
theorem dX9_sorts_51 : decode cX9_sorts 51 = .ok (.if_icmp .le 23, 3) := by decide +kernel
theorem dX9_sorts_54 : decode cX9_sorts 54 = .ok (.aload_n 0, 1) := by decide +kernel
theorem dX9_sorts_55 : decode cX9_sorts 55 = .ok (.getfield 46, 3) := by decide +kernel
theorem dX9_sorts_58 : decode cX9_sorts 58 = .ok (.iload_n 3, 1) := by decide +kernel
theorem dX9_sorts_59 : decode cX9_sorts 59 = .ok (.aload_n 0, 1) := by decide +kernel
theorem dX9_sorts_60 : decode cX9_sorts 60 = .ok (.getfield 46, 3) := by decide +kernel
theorem dX9_sorts_63 : decode cX9_sorts 63 = .ok (.iload_n 3, 1) := by decide +kernel
theorem dX9_sorts_64 : decode cX9_sorts 64 = .ok (.iconst 1, 1) := by decide +kernel
theorem dX9_sorts_65 : decode cX9_sorts 65 = .ok (.isub, 1) := by decide +kernel
theorem dX9_sorts_66 : decode cX9_sorts 66 = .ok (.iaload, 1) := by decide +kernel
theorem dX9_sorts_67 : decode cX9_sorts 67 = .ok (.iastore, 1) := by decide +kernel
theorem dX9_sorts_68 : decode cX9_sorts 68 = .ok (.iinc 3 (-1), 3) := by decide +kernel
theorem dX9_sorts_71 : decode cX9_sorts 71 = .ok (.goto (-52), 3) := by decide +kernel
theorem dX9_sorts_74 : decode cX9_sorts 74 = .ok (.aload_n 0, 1) := by decide +kernel
theorem dX9_sorts_75 : decode cX9_sorts 75 = .ok (.getfield 46, 3) := by decide +kernel
theorem dX9_sorts_78 : decode cX9_sorts 78 = .ok (.iload_n 3, 1) := by decide +kernel
theorem dX9_sorts_79 : decode cX9_sorts 79 = .ok (.iload_n 2, 1) := by decide +kernel
theorem dX9_sorts_80 : decode cX9_sorts 80 = .ok (.iastore, 1) := by decide +kernel
theorem dX9_sorts_81 : decode cX9_sorts 81 = .ok (.iinc 1 1, 3) := by decide +kernel
theorem dX9_sorts_84 : decode cX9_sorts 84 = .ok (.goto (-82), 3) := by decide +kernel
theorem dX9_sorts_87 : decode cX9_sorts 87 = .ok (.return_, 1) := by decide +kernel
theorem dX9_joins_0 : decode cX9_joins 0 = .ok (.aload_n 0, 1) := by decide +kernel
theorem dX9_joins_1 : decode cX9_joins 1 = .ok (.invokevirtual 166, 3) := by decide +kernel
theorem dX9_joins_4 : decode cX9_joins 4 = .ok (.aload_n 0, 1) := by decide +kernel
theorem dX9_joins_5 : decode cX9_joins 5 = .ok (.iconst 0, 1) := by decide +kernel
theorem dX9_joins_6 : decode cX9_joins 6 = .ok (.putfield 157, 3) := by decide +kernel
theorem dX9_joins_9 : decode cX9_joins 9 = .ok (.bipush (-9), 2) := by decide +kernel
theorem dX9_joins_11 : decode cX9_joins 11 = .ok (.istore_n 1, 1) := by decide +kernel
theorem dX9_joins_12 : decode cX9_joins 12 = .ok (.iconst 0, 1) := by decide +kernel
theorem dX9_joins_13 : decode cX9_joins 13 = .ok (.istore_n 2, 1) := by decide +kernel
theorem dX9_joins_14 : decode cX9_joins 14 = .ok (.iload_n 2, 1) := by decide +kernel
theorem dX9_joins_15 : decode cX9_joins 15 = .ok (.aload_n 0, 1) := by decide +kernel
theorem dX9_joins_16 : decode cX9_joins 16 = .ok (.getfield 163, 3) := by decide +kernel
theorem dX9_joins_19 : decode cX9_joins 19 = .ok (.if_icmp .ge 105, 3) := by decide +kernel
theorem dX9_joins_22 : decode cX9_joins 22 = .ok (.aload_n 0, 1) := by decide +kernel
theorem dX9_joins_23 : decode cX9_joins 23 = .ok (.getfield 49, 3) := by decide +kernel
theorem dX9_joins_26 : decode cX9_joins 26 = .ok (.iload_n 2, 1) := by decide +kernel
theorem dX9_joins_27 : decode cX9_joins 27 = .ok (.iaload, 1) := by decide +kernel
theorem dX9_joins_28 : decode cX9_joins 28 = .ok (.istore_n 3, 1) := by decide +kernel
theorem dX9_joins_29 : decode cX9_joins 29 = .ok (.iload_n 1, 1) := by decide +kernel
theorem dX9_joins_30 : decode cX9_joins 30 = .ok (.bipush (-9), 2) := by decide +kernel
theorem dX9_joins_32 : decode cX9_joins 32 = .ok (.if_icmp .eq 12, 3) := by decide +kernel
theorem dX9_joins_35 : decode cX9_joins 35 = .ok (.aload_n 0, 1) := by decide +kernel
theorem dX9_joins_36 : decode cX9_joins 36 = .ok (.iload_n 1, 1) := by decide +kernel
theorem dX9_joins_37 : decode cX9_joins 37 = .ok (.iload_n 3, 1) := by decide +kernel
theorem dX9_joins_38 : decode cX9_joins 38 = .ok (.invokevirtual 169, 3) := by decide +kernel
theorem dX9_joins_41 : decode cX9_joins 41 = .ok (.ifCond .eq 8, 3) := by decide +kernel
theorem dX9_joins_44 : decode cX9_joins 44 = .ok (.bipush (-9), 2) := by decide +kernel
theorem dX9_joins_46 : decode cX9_joins 46 = .ok (.goto 14, 3) := by decide +kernel
theorem dX9_joins_49 : decode cX9_joins 49 = .ok (.aload_n 0, 1) := by decide +kernel
theorem dX9_joins_50 : decode cX9_joins 50 = .ok (.aload_n 0, 1) := by decide +kernel
theorem dX9_joins_51 : decode cX9_joins 51 = .ok (.getfield 46, 3) := by decide +kernel
theorem dX9_joins_54 : decode cX9_joins 54 = .ok (.iload_n 1, 1) := by decide +kernel
theorem dX9_joins_55 : decode cX9_joins 55 = .ok (.iaload, 1) := by decide +kernel
theorem dX9_joins_56 : decode cX9_joins 56 = .ok (.iload_n 3, 1) := by decide +kernel
theorem dX9_joins_57 : decode cX9_joins 57 = .ok (.invokevirtual 78, 3) := by decide +kernel
theorem dX9_joins_60 : decode cX9_joins 60 = .ok (.istore 4, 2) := by decide +kernel
theorem dX9_joins_62 : decode cX9_joins 62 = .ok (.iload 4, 2) := by decide +kernel
theorem dX9_joins_64 : decode cX9_joins 64 = .ok (.bipush (-9), 2) := by decide +kernel
theorem dX9_joins_66 : decode cX9_joins 66 = .ok (.if_icmp .eq 14, 3) := by decide +kernel
theorem dX9_joins_69 : decode cX9_joins 69 = .ok (.aload_n 0, 1) := by decide +kernel
theorem dX9_joins_70 : decode cX9_joins 70 = .ok (.getfield 46, 3) := by decide +kernel
theorem dX9_joins_73 : decode cX9_joins 73 = .ok (.iload_n 1, 1) := by decide +kernel
theorem dX9_joins_74 : decode cX9_joins 74 = .ok (.iload 4, 2) := by decide +kernel
theorem dX9_joins_76 : decode cX9_joins 76 = .ok (.iastore, 1) := by decide +kernel
theorem dX9_joins_77 : decode cX9_joins 77 = .ok (.goto 41, 3) := by decide +kernel
theorem dX9_joins_80 : decode cX9_joins 80 = .ok (.aload_n 0, 1) := by decide +kernel
theorem dX9_joins_81 : decode cX9_joins 81 = .ok (.getfield 13, 3) := by decide +kernel
theorem dX9_joins_84 : decode cX9_joins 84 = .ok (.iload_n 3, 1) := by decide +kernel
theorem dX9_joins_85 : decode cX9_joins 85 = .ok (.iaload, 1) := by decide +kernel
theorem dX9_joins_86 : decode cX9_joins 86 = .ok (.ifCond .ne 10, 3) := by decide +kernel
theorem dX9_joins_89 : decode cX9_joins 89 = .ok (.aload_n 0, 1) := by decide +kernel
theorem dX9_joins_90 : decode cX9_joins 90 = .ok (.getfield 157, 3) := by decide +kernel
theorem dX9_joins_93 : decode cX9_joins 93 = .ok (.goto 4, 3) := by decide +kernel
theorem dX9_joins_96 : decode cX9_joins 96 = .ok (.iload_n 1, 1) := by decide +kernel
theorem dX9_joins_97 : decode cX9_joins 97 = .ok (.istore_n 1, 1) := by decide +kernel
theorem dX9_joins_98 : decode cX9_joins 98 = .ok (.aload_n 0, 1) := by decide +kernel
theorem dX9_joins_99 : decode cX9_joins 99 = .ok (.getfield 46, 3) := by decide +kernel
theorem dX9_joins_102 : decode cX9_joins 102 = .ok (.aload_n 0, 1) := by decide +kernel
theorem dX9_joins_103 : decode cX9_joins 103 = .ok (.getfield 157, 3) := by decide +kernel
theorem dX9_joins_106 : decode cX9_joins 106 = .ok (.iload_n 3, 1) := by decide +kernel
theorem dX9_joins_107 : decode cX9_joins 107 = .ok (.iastore, 1) := by decide +kernel
theorem dX9_joins_108 : decode cX9_joins 108 = .ok (.aload_n 0, 1) := by decide +kernel
theorem dX9_joins_109 : decode cX9_joins 109 = .ok (.dup, 1) := by decide +kernel
theorem dX9_joins_110 : decode cX9_joins 110 = .ok (.getfield 157, 3) := by decide +kernel
theorem dX9_joins_113 : decode cX9_joins 113 = .ok (.iconst 1, 1) := by decide +kernel
theorem dX9_joins_114 : decode cX9_joins 114 = .ok (.iadd, 1) := by decide +kernel
theorem dX9_joins_115 : decode cX9_joins 115 = .ok (.putfield 157, 3) := by decide +kernel
theorem dX9_joins_118 : decode cX9_joins 118 = .ok (.iinc 2 1, 3) := by decide +kernel
theorem dX9_joins_121 : decode cX9_joins 121 = .ok (.goto (-107), 3) := by decide +kernel
theorem dX9_joins_124 : decode cX9_joins 124 = .ok (.return_, 1) := by decide +kernel
theorem dX9_isBlocked_0 : decode cX9_isBlocked 0 = .ok (.iconst 0, 1) := by decide +kernel
theorem dX9_isBlocked_1 : decode cX9_isBlocked 1 = .ok (.istore_n 3, 1) := by decide +kernel
theorem dX9_isBlocked_2 : decode cX9_isBlocked 2 = .ok (.iload_n 1, 1) := by decide +kernel
theorem dX9_isBlocked_3 : decode cX9_isBlocked 3 = .ok (.iconst 1, 1) := by decide +kernel
theorem dX9_isBlocked_4 : decode cX9_isBlocked 4 = .ok (.iadd, 1) := by decide +kernel
theorem dX9_isBlocked_5 : decode cX9_isBlocked 5 = .ok (.istore 4, 2) := by decide +kernel
theorem dX9_isBlocked_7 : decode cX9_isBlocked 7 = .ok (.iload 4, 2) := by decide +kernel
theorem dX9_isBlocked_9 : decode cX9_isBlocked 9 = .ok (.aload_n 0, 1) := by decide +kernel
theorem dX9_isBlocked_10 : decode cX9_isBlocked 10 = .ok (.getfield 157, 3) := by decide +kernel
theorem dX9_isBlocked_13 : decode cX9_isBlocked 13 = .ok (.if_icmp .ge 55, 3) := by decide +kernel
theorem dX9_isBlocked_16 : decode cX9_isBlocked 16 = .ok (.iload_n 3, 1) := by decide +kernel
theorem dX9_isBlocked_17 : decode cX9_isBlocked 17 = .ok (.ifCond .ne 39, 3) := by decide +kernel
theorem dX9_isBlocked_20 : decode cX9_isBlocked 20 = .ok (.aload_n 0, 1) := by decide +kernel
theorem dX9_isBlocked_21 : decode cX9_isBlocked 21 = .ok (.getfield 13, 3) := by decide +kernel
theorem dX9_isBlocked_24 : decode cX9_isBlocked 24 = .ok (.aload_n 0, 1) := by decide +kernel
theorem dX9_isBlocked_25 : decode cX9_isBlocked 25 = .ok (.getfield 46, 3) := by decide +kernel
theorem dX9_isBlocked_28 : decode cX9_isBlocked 28 = .ok (.iload 4, 2) := by decide +kernel
theorem dX9_isBlocked_30 : decode cX9_isBlocked 30 = .ok (.iaload, 1) := by decide +kernel
theorem dX9_isBlocked_31 : decode cX9_isBlocked 31 = .ok (.iaload, 1) := by decide +kernel
theorem dX9_isBlocked_32 : decode cX9_isBlocked 32 = .ok (.ifCond .eq 24, 3) := by decide +kernel
theorem dX9_isBlocked_35 : decode cX9_isBlocked 35 = .ok (.aload_n 0, 1) := by decide +kernel
theorem dX9_isBlocked_36 : decode cX9_isBlocked 36 = .ok (.getfield 13, 3) := by decide +kernel
theorem dX9_isBlocked_39 : decode cX9_isBlocked 39 = .ok (.aload_n 0, 1) := by decide +kernel
theorem dX9_isBlocked_40 : decode cX9_isBlocked 40 = .ok (.getfield 46, 3) := by decide +kernel
theorem dX9_isBlocked_43 : decode cX9_isBlocked 43 = .ok (.iload 4, 2) := by decide +kernel
theorem dX9_isBlocked_45 : decode cX9_isBlocked 45 = .ok (.iaload, 1) := by decide +kernel
theorem dX9_isBlocked_46 : decode cX9_isBlocked 46 = .ok (.iaload, 1) := by decide +kernel
theorem dX9_isBlocked_47 : decode cX9_isBlocked 47 = .ok (.aload_n 0, 1) := by decide +kernel
theorem dX9_isBlocked_48 : decode cX9_isBlocked 48 = .ok (.getfield 13, 3) := by decide +kernel
theorem dX9_isBlocked_51 : decode cX9_isBlocked 51 = .ok (.iload_n 2, 1) := by decide +kernel
theorem dX9_isBlocked_52 : decode cX9_isBlocked 52 = .ok (.iaload, 1) := by decide +kernel
theorem dX9_isBlocked_53 : decode cX9_isBlocked 53 = .ok (.if_icmp .lt 7, 3) := by decide +kernel
theorem dX9_isBlocked_56 : decode cX9_isBlocked 56 = .ok (.iconst 1, 1) := by decide +kernel
theorem dX9_isBlocked_57 : decode cX9_isBlocked 57 = .ok (.goto 4, 3) := by decide +kernel
theorem dX9_isBlocked_60 : decode cX9_isBlocked 60 = .ok (.iconst 0, 1) := by decide +kernel
theorem dX9_isBlocked_61 : decode cX9_isBlocked 61 = .ok (.istore_n 3, 1) := by decide +kernel
theorem dX9_isBlocked_62 : decode cX9_isBlocked 62 = .ok (.iinc 4 1, 3) := by decide +kernel
theorem dX9_isBlocked_65 : decode cX9_isBlocked 65 = .ok (.goto (-58), 3) := by decide +kernel
theorem dX9_isBlocked_68 : decode cX9_isBlocked 68 = .ok (.iload_n 3, 1) := by decide +kernel
theorem dX9_isBlocked_69 : decode cX9_isBlocked 69 = .ok (.ireturn, 1) := by decide +kernel
theorem dX9_keepsBases_0 : decode cX9_keepsBases 0 = .ok (.aload_n 0, 1) := by decide +kernel
theorem dX9_keepsBases_1 : decode cX9_keepsBases 1 = .ok (.invokevirtual 166, 3) := by decide +kernel
theorem dX9_keepsBases_4 : decode cX9_keepsBases 4 = .ok (.aload_n 0, 1) := by decide +kernel
theorem dX9_keepsBases_5 : decode cX9_keepsBases 5 = .ok (.iconst 0, 1) := by decide +kernel
theorem dX9_keepsBases_6 : decode cX9_keepsBases 6 = .ok (.putfield 157, 3) := by decide +kernel
theorem dX9_keepsBases_9 : decode cX9_keepsBases 9 = .ok (.iconst 0, 1) := by decide +kernel
theorem dX9_keepsBases_10 : decode cX9_keepsBases 10 = .ok (.istore_n 1, 1) := by decide +kernel
theorem dX9_keepsBases_11 : decode cX9_keepsBases 11 = .ok (.iload_n 1, 1) := by decide +kernel
theorem dX9_keepsBases_12 : decode cX9_keepsBases 12 = .ok (.aload_n 0, 1) := by decide +kernel
theorem dX9_keepsBases_13 : decode cX9_keepsBases 13 = .ok (.getfield 163, 3) := by decide +kernel
theorem dX9_keepsBases_16 : decode cX9_keepsBases 16 = .ok (.if_icmp .ge 48, 3) := by decide +kernel
theorem dX9_keepsBases_19 : decode cX9_keepsBases 19 = .ok (.aload_n 0, 1) := by decide +kernel
theorem dX9_keepsBases_20 : decode cX9_keepsBases 20 = .ok (.getfield 13, 3) := by decide +kernel
theorem dX9_keepsBases_23 : decode cX9_keepsBases 23 = .ok (.aload_n 0, 1) := by decide +kernel
theorem dX9_keepsBases_24 : decode cX9_keepsBases 24 = .ok (.getfield 49, 3) := by decide +kernel
theorem dX9_keepsBases_27 : decode cX9_keepsBases 27 = .ok (.iload_n 1, 1) := by decide +kernel
theorem dX9_keepsBases_28 : decode cX9_keepsBases 28 = .ok (.iaload, 1) := by decide +kernel
theorem dX9_keepsBases_29 : decode cX9_keepsBases 29 = .ok (.iaload, 1) := by decide +kernel
theorem dX9_keepsBases_30 : decode cX9_keepsBases 30 = .ok (.ifCond .ne 28, 3) := by decide +kernel
theorem dX9_keepsBases_33 : decode cX9_keepsBases 33 = .ok (.aload_n 0, 1) := by decide +kernel
theorem dX9_keepsBases_34 : decode cX9_keepsBases 34 = .ok (.getfield 46, 3) := by decide +kernel
theorem dX9_keepsBases_37 : decode cX9_keepsBases 37 = .ok (.aload_n 0, 1) := by decide +kernel
theorem dX9_keepsBases_38 : decode cX9_keepsBases 38 = .ok (.getfield 157, 3) := by decide +kernel
theorem dX9_keepsBases_41 : decode cX9_keepsBases 41 = .ok (.aload_n 0, 1) := by decide +kernel
theorem dX9_keepsBases_42 : decode cX9_keepsBases 42 = .ok (.getfield 49, 3) := by decide +kernel
theorem dX9_keepsBases_45 : decode cX9_keepsBases 45 = .ok (.iload_n 1, 1) := by decide +kernel
theorem dX9_keepsBases_46 : decode cX9_keepsBases 46 = .ok (.iaload, 1) := by decide +kernel
theorem dX9_keepsBases_47 : decode cX9_keepsBases 47 = .ok (.iastore, 1) := by decide +kernel
theorem dX9_keepsBases_48 : decode cX9_keepsBases 48 = .ok (.aload_n 0, 1) := by decide +kernel
theorem dX9_keepsBases_49 : decode cX9_keepsBases 49 = .ok (.dup, 1) := by decide +kernel
theorem dX9_keepsBases_50 : decode cX9_keepsBases 50 = .ok (.getfield 157, 3) := by decide +kernel
theorem dX9_keepsBases_53 : decode cX9_keepsBases 53 = .ok (.iconst 1, 1) := by decide +kernel
theorem dX9_keepsBases_54 : decode cX9_keepsBases 54 = .ok (.iadd, 1) := by decide +kernel
theorem dX9_keepsBases_55 : decode cX9_keepsBases 55 = .ok (.putfield 157, 3) := by decide +kernel
theorem dX9_keepsBases_58 : decode cX9_keepsBases 58 = .ok (.iinc 1 1, 3) := by decide +kernel
theorem dX9_keepsBases_61 : decode cX9_keepsBases 61 = .ok (.goto (-50), 3) := by decide +kernel
theorem dX9_keepsBases_64 : decode cX9_keepsBases 64 = .ok (.return_, 1) := by decide +kernel
theorem dX9_turns_0 : decode cX9_turns 0 = .ok (.aload_n 0, 1) := by decide +kernel
theorem dX9_turns_1 : decode cX9_turns 1 = .ok (.invokevirtual 166, 3) := by decide +kernel
theorem dX9_turns_4 : decode cX9_turns 4 = .ok (.iconst 0, 1) := by decide +kernel
theorem dX9_turns_5 : decode cX9_turns 5 = .ok (.istore_n 1, 1) := by decide +kernel
theorem dX9_turns_6 : decode cX9_turns 6 = .ok (.iload_n 1, 1) := by decide +kernel
theorem dX9_turns_7 : decode cX9_turns 7 = .ok (.aload_n 0, 1) := by decide +kernel
theorem dX9_turns_8 : decode cX9_turns 8 = .ok (.getfield 157, 3) := by decide +kernel
theorem dX9_turns_11 : decode cX9_turns 11 = .ok (.if_icmp .ge 28, 3) := by decide +kernel
theorem dX9_turns_14 : decode cX9_turns 14 = .ok (.aload_n 0, 1) := by decide +kernel
theorem dX9_turns_15 : decode cX9_turns 15 = .ok (.getfield 46, 3) := by decide +kernel
theorem dX9_turns_18 : decode cX9_turns 18 = .ok (.iload_n 1, 1) := by decide +kernel
theorem dX9_turns_19 : decode cX9_turns 19 = .ok (.aload_n 0, 1) := by decide +kernel
theorem dX9_turns_20 : decode cX9_turns 20 = .ok (.getfield 49, 3) := by decide +kernel
theorem dX9_turns_23 : decode cX9_turns 23 = .ok (.aload_n 0, 1) := by decide +kernel
theorem dX9_turns_24 : decode cX9_turns 24 = .ok (.getfield 157, 3) := by decide +kernel
theorem dX9_turns_27 : decode cX9_turns 27 = .ok (.iconst 1, 1) := by decide +kernel
theorem dX9_turns_28 : decode cX9_turns 28 = .ok (.isub, 1) := by decide +kernel
theorem dX9_turns_29 : decode cX9_turns 29 = .ok (.iload_n 1, 1) := by decide +kernel
theorem dX9_turns_30 : decode cX9_turns 30 = .ok (.isub, 1) := by decide +kernel
theorem dX9_turns_31 : decode cX9_turns 31 = .ok (.iaload, 1) := by decide +kernel
theorem dX9_turns_32 : decode cX9_turns 32 = .ok (.iastore, 1) := by decide +kernel
theorem dX9_turns_33 : decode cX9_turns 33 = .ok (.iinc 1 1, 3) := by decide +kernel
theorem dX9_turns_36 : decode cX9_turns 36 = .ok (.goto (-30), 3) := by decide +kernel
theorem dX9_turns_39 : decode cX9_turns 39 = .ok (.return_, 1) := by decide +kernel
theorem dX9_keepsFirst_0 : decode cX9_keepsFirst 0 = .ok (.iconst 0, 1) := by decide +kernel
theorem dX9_keepsFirst_1 : decode cX9_keepsFirst 1 = .ok (.istore_n 1, 1) := by decide +kernel
theorem dX9_keepsFirst_2 : decode cX9_keepsFirst 2 = .ok (.aload_n 0, 1) := by decide +kernel
theorem dX9_keepsFirst_3 : decode cX9_keepsFirst 3 = .ok (.getfield 157, 3) := by decide +kernel
theorem dX9_keepsFirst_6 : decode cX9_keepsFirst 6 = .ok (.istore_n 2, 1) := by decide +kernel
theorem dX9_keepsFirst_7 : decode cX9_keepsFirst 7 = .ok (.aload_n 0, 1) := by decide +kernel
theorem dX9_keepsFirst_8 : decode cX9_keepsFirst 8 = .ok (.getfield 157, 3) := by decide +kernel
theorem dX9_keepsFirst_11 : decode cX9_keepsFirst 11 = .ok (.iconst 1, 1) := by decide +kernel
theorem dX9_keepsFirst_12 : decode cX9_keepsFirst 12 = .ok (.isub, 1) := by decide +kernel
theorem dX9_keepsFirst_13 : decode cX9_keepsFirst 13 = .ok (.istore_n 3, 1) := by decide +kernel
theorem dX9_keepsFirst_14 : decode cX9_keepsFirst 14 = .ok (.iload_n 3, 1) := by decide +kernel
theorem dX9_keepsFirst_15 : decode cX9_keepsFirst 15 = .ok (.ifCond .lt 60, 3) := by decide +kernel
theorem dX9_keepsFirst_18 : decode cX9_keepsFirst 18 = .ok (.iconst 0, 1) := by decide +kernel
theorem dX9_keepsFirst_19 : decode cX9_keepsFirst 19 = .ok (.istore_n 1, 1) := by decide +kernel
theorem dX9_keepsFirst_20 : decode cX9_keepsFirst 20 = .ok (.iconst 0, 1) := by decide +kernel
theorem dX9_keepsFirst_21 : decode cX9_keepsFirst 21 = .ok (.istore 4, 2) := by decide +kernel
theorem dX9_keepsFirst_23 : decode cX9_keepsFirst 23 = .ok (.iload 4, 2) := by decide +kernel
theorem dX9_keepsFirst_25 : decode cX9_keepsFirst 25 = .ok (.iload_n 3, 1) := by decide +kernel
theorem dX9_keepsFirst_26 : decode cX9_keepsFirst 26 = .ok (.if_icmp .gt 32, 3) := by decide +kernel
theorem dX9_keepsFirst_29 : decode cX9_keepsFirst 29 = .ok (.iload_n 1, 1) := by decide +kernel
theorem dX9_keepsFirst_30 : decode cX9_keepsFirst 30 = .ok (.aload_n 0, 1) := by decide +kernel
theorem dX9_keepsFirst_31 : decode cX9_keepsFirst 31 = .ok (.getfield 13, 3) := by decide +kernel
theorem dX9_keepsFirst_34 : decode cX9_keepsFirst 34 = .ok (.aload_n 0, 1) := by decide +kernel
theorem dX9_keepsFirst_35 : decode cX9_keepsFirst 35 = .ok (.getfield 46, 3) := by decide +kernel
theorem dX9_keepsFirst_38 : decode cX9_keepsFirst 38 = .ok (.iload 4, 2) := by decide +kernel
theorem dX9_keepsFirst_40 : decode cX9_keepsFirst 40 = .ok (.iaload, 1) := by decide +kernel
theorem dX9_keepsFirst_41 : decode cX9_keepsFirst 41 = .ok (.iaload, 1) := by decide +kernel
theorem dX9_keepsFirst_42 : decode cX9_keepsFirst 42 = .ok (.ifCond .ne 7, 3) := by decide +kernel
theorem dX9_keepsFirst_45 : decode cX9_keepsFirst 45 = .ok (.iconst 1, 1) := by decide +kernel
theorem dX9_keepsFirst_46 : decode cX9_keepsFirst 46 = .ok (.goto 4, 3) := by decide +kernel
theorem dX9_keepsFirst_49 : decode cX9_keepsFirst 49 = .ok (.iconst 0, 1) := by decide +kernel
theorem dX9_keepsFirst_50 : decode cX9_keepsFirst 50 = .ok (.iadd, 1) := by decide +kernel
theorem dX9_keepsFirst_51 : decode cX9_keepsFirst 51 = .ok (.istore_n 1, 1) := by decide +kernel
theorem dX9_keepsFirst_52 : decode cX9_keepsFirst 52 = .ok (.iinc 4 1, 3) := by decide +kernel
theorem dX9_keepsFirst_55 : decode cX9_keepsFirst 55 = .ok (.goto (-32), 3) := by decide +kernel
theorem dX9_keepsFirst_58 : decode cX9_keepsFirst 58 = .ok (.iload_n 1, 1) := by decide +kernel
theorem dX9_keepsFirst_59 : decode cX9_keepsFirst 59 = .ok (.iconst 1, 1) := by decide +kernel
theorem dX9_keepsFirst_60 : decode cX9_keepsFirst 60 = .ok (.if_icmp .le 7, 3) := by decide +kernel
theorem dX9_keepsFirst_63 : decode cX9_keepsFirst 63 = .ok (.iload_n 3, 1) := by decide +kernel
theorem dX9_keepsFirst_64 : decode cX9_keepsFirst 64 = .ok (.goto 4, 3) := by decide +kernel
theorem dX9_keepsFirst_67 : decode cX9_keepsFirst 67 = .ok (.iload_n 2, 1) := by decide +kernel
theorem dX9_keepsFirst_68 : decode cX9_keepsFirst 68 = .ok (.istore_n 2, 1) := by decide +kernel
theorem dX9_keepsFirst_69 : decode cX9_keepsFirst 69 = .ok (.iinc 3 (-1), 3) := by decide +kernel
theorem dX9_keepsFirst_72 : decode cX9_keepsFirst 72 = .ok (.goto (-58), 3) := by decide +kernel
theorem dX9_keepsFirst_75 : decode cX9_keepsFirst 75 = .ok (.aload_n 0, 1) := by decide +kernel
theorem dX9_keepsFirst_76 : decode cX9_keepsFirst 76 = .ok (.iload_n 2, 1) := by decide +kernel
theorem dX9_keepsFirst_77 : decode cX9_keepsFirst 77 = .ok (.putfield 157, 3) := by decide +kernel
theorem dX9_keepsFirst_80 : decode cX9_keepsFirst 80 = .ok (.return_, 1) := by decide +kernel
theorem dX9_rules_0 : decode cX9_rules 0 = .ok (.iload_n 1, 1) := by decide +kernel
theorem dX9_rules_1 : decode cX9_rules 1 = .ok (.ifCond .eq 13, 3) := by decide +kernel
theorem dX9_rules_4 : decode cX9_rules 4 = .ok (.iload_n 1, 1) := by decide +kernel
theorem dX9_rules_5 : decode cX9_rules 5 = .ok (.iconst 1, 1) := by decide +kernel
theorem dX9_rules_6 : decode cX9_rules 6 = .ok (.if_icmp .eq 8, 3) := by decide +kernel
theorem dX9_rules_9 : decode cX9_rules 9 = .ok (.iload_n 1, 1) := by decide +kernel
theorem dX9_rules_10 : decode cX9_rules 10 = .ok (.iconst 3, 1) := by decide +kernel
theorem dX9_rules_11 : decode cX9_rules 11 = .ok (.if_icmp .ne 11, 3) := by decide +kernel
theorem dX9_rules_14 : decode cX9_rules 14 = .ok (.aload_n 0, 1) := by decide +kernel
theorem dX9_rules_15 : decode cX9_rules 15 = .ok (.invokevirtual 172, 3) := by decide +kernel
theorem dX9_rules_18 : decode cX9_rules 18 = .ok (.aload_n 0, 1) := by decide +kernel
theorem dX9_rules_19 : decode cX9_rules 19 = .ok (.invokevirtual 175, 3) := by decide +kernel
theorem dX9_rules_22 : decode cX9_rules 22 = .ok (.iload_n 1, 1) := by decide +kernel
theorem dX9_rules_23 : decode cX9_rules 23 = .ok (.tableswitch 68 1 5 #[33, 40, 47, 54, 61], 33) := by decide +kernel
theorem dX9_rules_56 : decode cX9_rules 56 = .ok (.aload_n 0, 1) := by decide +kernel
theorem dX9_rules_57 : decode cX9_rules 57 = .ok (.invokevirtual 178, 3) := by decide +kernel
theorem dX9_rules_60 : decode cX9_rules 60 = .ok (.goto 31, 3) := by decide +kernel
theorem dX9_rules_63 : decode cX9_rules 63 = .ok (.aload_n 0, 1) := by decide +kernel
theorem dX9_rules_64 : decode cX9_rules 64 = .ok (.invokevirtual 175, 3) := by decide +kernel
theorem dX9_rules_67 : decode cX9_rules 67 = .ok (.goto 24, 3) := by decide +kernel
theorem dX9_rules_70 : decode cX9_rules 70 = .ok (.aload_n 0, 1) := by decide +kernel
theorem dX9_rules_71 : decode cX9_rules 71 = .ok (.invokevirtual 181, 3) := by decide +kernel
theorem dX9_rules_74 : decode cX9_rules 74 = .ok (.goto 17, 3) := by decide +kernel
theorem dX9_rules_77 : decode cX9_rules 77 = .ok (.aload_n 0, 1) := by decide +kernel
theorem dX9_rules_78 : decode cX9_rules 78 = .ok (.invokevirtual 184, 3) := by decide +kernel
theorem dX9_rules_81 : decode cX9_rules 81 = .ok (.goto 10, 3) := by decide +kernel
theorem dX9_rules_84 : decode cX9_rules 84 = .ok (.aload_n 0, 1) := by decide +kernel
theorem dX9_rules_85 : decode cX9_rules 85 = .ok (.invokevirtual 187, 3) := by decide +kernel
theorem dX9_rules_88 : decode cX9_rules 88 = .ok (.goto 3, 3) := by decide +kernel
theorem dX9_rules_91 : decode cX9_rules 91 = .ok (.return_, 1) := by decide +kernel
theorem dX9_told_0 : decode cX9_told 0 = .ok (.iload_n 1, 1) := by decide +kernel
theorem dX9_told_1 : decode cX9_told 1 = .ok (.iconst (-1), 1) := by decide +kernel
theorem dX9_told_2 : decode cX9_told 2 = .ok (.aload_n 0, 1) := by decide +kernel
theorem dX9_told_3 : decode cX9_told 3 = .ok (.getfield 157, 3) := by decide +kernel
theorem dX9_told_6 : decode cX9_told 6 = .ok (.iconst 1, 1) := by decide +kernel
theorem dX9_told_7 : decode cX9_told 7 = .ok (.isub, 1) := by decide +kernel
theorem dX9_told_8 : decode cX9_told 8 = .ok (.invokestatic 66, 3) := by decide +kernel
theorem dX9_told_11 : decode cX9_told 11 = .ok (.ifCond .ne 5, 3) := by decide +kernel
theorem dX9_told_14 : decode cX9_told 14 = .ok (.iconst (-1), 1) := by decide +kernel
theorem dX9_told_15 : decode cX9_told 15 = .ok (.ireturn, 1) := by decide +kernel
theorem dX9_told_16 : decode cX9_told 16 = .ok (.iload_n 1, 1) := by decide +kernel
theorem dX9_told_17 : decode cX9_told 17 = .ok (.iconst (-1), 1) := by decide +kernel
theorem dX9_told_18 : decode cX9_told 18 = .ok (.if_icmp .ne 10, 3) := by decide +kernel
theorem dX9_told_21 : decode cX9_told 21 = .ok (.aload_n 0, 1) := by decide +kernel
theorem dX9_told_22 : decode cX9_told 22 = .ok (.getfield 157, 3) := by decide +kernel
theorem dX9_told_25 : decode cX9_told 25 = .ok (.goto 9, 3) := by decide +kernel
theorem dX9_told_28 : decode cX9_told 28 = .ok (.aload_n 0, 1) := by decide +kernel
theorem dX9_told_29 : decode cX9_told 29 = .ok (.getfield 46, 3) := by decide +kernel
theorem dX9_told_32 : decode cX9_told 32 = .ok (.iload_n 1, 1) := by decide +kernel
theorem dX9_told_33 : decode cX9_told 33 = .ok (.iaload, 1) := by decide +kernel
theorem dX9_told_34 : decode cX9_told 34 = .ok (.ireturn, 1) := by decide +kernel
theorem dX9_forms_0 : decode cX9_forms 0 = .ok (.iload_n 1, 1) := by decide +kernel
theorem dX9_forms_1 : decode cX9_forms 1 = .ok (.invokestatic 147, 3) := by decide +kernel
theorem dX9_forms_4 : decode cX9_forms 4 = .ok (.ifCond .eq 10, 3) := by decide +kernel
theorem dX9_forms_7 : decode cX9_forms 7 = .ok (.iload_n 2, 1) := by decide +kernel
theorem dX9_forms_8 : decode cX9_forms 8 = .ok (.invokestatic 190, 3) := by decide +kernel
theorem dX9_forms_11 : decode cX9_forms 11 = .ok (.ifCond .ne 5, 3) := by decide +kernel
theorem dX9_forms_14 : decode cX9_forms 14 = .ok (.iconst (-1), 1) := by decide +kernel
theorem dX9_forms_15 : decode cX9_forms 15 = .ok (.ireturn, 1) := by decide +kernel
theorem dX9_forms_16 : decode cX9_forms 16 = .ok (.aload_n 0, 1) := by decide +kernel
theorem dX9_forms_17 : decode cX9_forms 17 = .ok (.iload_n 1, 1) := by decide +kernel
theorem dX9_forms_18 : decode cX9_forms 18 = .ok (.invokevirtual 193, 3) := by decide +kernel
theorem dX9_forms_21 : decode cX9_forms 21 = .ok (.aload_n 0, 1) := by decide +kernel
theorem dX9_forms_22 : decode cX9_forms 22 = .ok (.iload_n 2, 1) := by decide +kernel
theorem dX9_forms_23 : decode cX9_forms 23 = .ok (.invokevirtual 196, 3) := by decide +kernel
theorem dX9_forms_26 : decode cX9_forms 26 = .ok (.aload_n 0, 1) := by decide +kernel
theorem dX9_forms_27 : decode cX9_forms 27 = .ok (.getfield 157, 3) := by decide +kernel
theorem dX9_forms_30 : decode cX9_forms 30 = .ok (.bipush 16, 2) := by decide +kernel
theorem dX9_forms_32 : decode cX9_forms 32 = .ok (.if_icmp .le 6, 3) := by decide +kernel
theorem dX9_forms_35 : decode cX9_forms 35 = .ok (.bipush (-3), 2) := by decide +kernel
theorem dX9_forms_37 : decode cX9_forms 37 = .ok (.ireturn, 1) := by decide +kernel
theorem dX9_forms_38 : decode cX9_forms 38 = .ok (.aload_n 0, 1) := by decide +kernel
theorem dX9_forms_39 : decode cX9_forms 39 = .ok (.iload_n 1, 1) := by decide +kernel
theorem dX9_forms_40 : decode cX9_forms 40 = .ok (.invokevirtual 150, 3) := by decide +kernel
theorem dX9_forms_43 : decode cX9_forms 43 = .ok (.aload_n 0, 1) := by decide +kernel
theorem dX9_forms_44 : decode cX9_forms 44 = .ok (.getfield 34, 3) := by decide +kernel
theorem dX9_forms_47 : decode cX9_forms 47 = .ok (.iload_n 1, 1) := by decide +kernel
theorem dX9_forms_48 : decode cX9_forms 48 = .ok (.iconst 0, 1) := by decide +kernel
theorem dX9_forms_49 : decode cX9_forms 49 = .ok (.iastore, 1) := by decide +kernel
theorem dX9_forms_50 : decode cX9_forms 50 = .ok (.iconst 0, 1) := by decide +kernel
theorem dX9_forms_51 : decode cX9_forms 51 = .ok (.istore_n 3, 1) := by decide +kernel
theorem dX9_forms_52 : decode cX9_forms 52 = .ok (.iload_n 3, 1) := by decide +kernel
theorem dX9_forms_53 : decode cX9_forms 53 = .ok (.aload_n 0, 1) := by decide +kernel
theorem dX9_forms_54 : decode cX9_forms 54 = .ok (.getfield 157, 3) := by decide +kernel
theorem dX9_forms_57 : decode cX9_forms 57 = .ok (.if_icmp .ge 20, 3) := by decide +kernel
theorem dX9_forms_60 : decode cX9_forms 60 = .ok (.aload_n 0, 1) := by decide +kernel
theorem dX9_forms_61 : decode cX9_forms 61 = .ok (.iload_n 1, 1) := by decide +kernel
theorem dX9_forms_62 : decode cX9_forms 62 = .ok (.aload_n 0, 1) := by decide +kernel
theorem dX9_forms_63 : decode cX9_forms 63 = .ok (.getfield 46, 3) := by decide +kernel
theorem dX9_forms_66 : decode cX9_forms 66 = .ok (.iload_n 3, 1) := by decide +kernel
theorem dX9_forms_67 : decode cX9_forms 67 = .ok (.iaload, 1) := by decide +kernel
theorem dX9_forms_68 : decode cX9_forms 68 = .ok (.invokevirtual 154, 3) := by decide +kernel
theorem dX9_forms_71 : decode cX9_forms 71 = .ok (.iinc 3 1, 3) := by decide +kernel
theorem dX9_forms_74 : decode cX9_forms 74 = .ok (.goto (-22), 3) := by decide +kernel
theorem dX9_forms_77 : decode cX9_forms 77 = .ok (.aload_n 0, 1) := by decide +kernel
theorem dX9_forms_78 : decode cX9_forms 78 = .ok (.getfield 157, 3) := by decide +kernel
theorem dX9_forms_81 : decode cX9_forms 81 = .ok (.ireturn, 1) := by decide +kernel
theorem dX9_undo_0 : decode cX9_undo 0 = .ok (.aload_n 0, 1) := by decide +kernel
theorem dX9_undo_1 : decode cX9_undo 1 = .ok (.getfield 144, 3) := by decide +kernel
theorem dX9_undo_4 : decode cX9_undo 4 = .ok (.ifCond .ne 6, 3) := by decide +kernel
theorem dX9_undo_7 : decode cX9_undo 7 = .ok (.bipush (-2), 2) := by decide +kernel
theorem dX9_undo_9 : decode cX9_undo 9 = .ok (.ireturn, 1) := by decide +kernel
theorem dX9_undo_10 : decode cX9_undo 10 = .ok (.aload_n 0, 1) := by decide +kernel
theorem dX9_undo_11 : decode cX9_undo 11 = .ok (.dup, 1) := by decide +kernel
theorem dX9_undo_12 : decode cX9_undo 12 = .ok (.getfield 144, 3) := by decide +kernel
theorem dX9_undo_15 : decode cX9_undo 15 = .ok (.iconst 1, 1) := by decide +kernel
theorem dX9_undo_16 : decode cX9_undo 16 = .ok (.isub, 1) := by decide +kernel
theorem dX9_undo_17 : decode cX9_undo 17 = .ok (.putfield 144, 3) := by decide +kernel
theorem dX9_undo_20 : decode cX9_undo 20 = .ok (.bipush 18, 2) := by decide +kernel
theorem dX9_undo_22 : decode cX9_undo 22 = .ok (.aload_n 0, 1) := by decide +kernel
theorem dX9_undo_23 : decode cX9_undo 23 = .ok (.getfield 144, 3) := by decide +kernel
theorem dX9_undo_26 : decode cX9_undo 26 = .ok (.imul, 1) := by decide +kernel
theorem dX9_undo_27 : decode cX9_undo 27 = .ok (.istore_n 1, 1) := by decide +kernel
theorem dX9_undo_28 : decode cX9_undo 28 = .ok (.aload_n 0, 1) := by decide +kernel
theorem dX9_undo_29 : decode cX9_undo 29 = .ok (.getfield 43, 3) := by decide +kernel
theorem dX9_undo_32 : decode cX9_undo 32 = .ok (.iload_n 1, 1) := by decide +kernel
theorem dX9_undo_33 : decode cX9_undo 33 = .ok (.iaload, 1) := by decide +kernel
theorem dX9_undo_34 : decode cX9_undo 34 = .ok (.istore_n 2, 1) := by decide +kernel
theorem dX9_undo_35 : decode cX9_undo 35 = .ok (.aload_n 0, 1) := by decide +kernel
theorem dX9_undo_36 : decode cX9_undo 36 = .ok (.getfield 34, 3) := by decide +kernel
theorem dX9_undo_39 : decode cX9_undo 39 = .ok (.iload_n 2, 1) := by decide +kernel
theorem dX9_undo_40 : decode cX9_undo 40 = .ok (.aload_n 0, 1) := by decide +kernel
theorem dX9_undo_41 : decode cX9_undo 41 = .ok (.getfield 43, 3) := by decide +kernel
theorem dX9_undo_44 : decode cX9_undo 44 = .ok (.iload_n 1, 1) := by decide +kernel
theorem dX9_undo_45 : decode cX9_undo 45 = .ok (.iconst 1, 1) := by decide +kernel
theorem dX9_undo_46 : decode cX9_undo 46 = .ok (.iadd, 1) := by decide +kernel
theorem dX9_undo_47 : decode cX9_undo 47 = .ok (.iaload, 1) := by decide +kernel
theorem dX9_undo_48 : decode cX9_undo 48 = .ok (.iastore, 1) := by decide +kernel
theorem dX9_undo_49 : decode cX9_undo 49 = .ok (.iconst 0, 1) := by decide +kernel
theorem dX9_undo_50 : decode cX9_undo 50 = .ok (.istore_n 3, 1) := by decide +kernel
theorem dX9_undo_51 : decode cX9_undo 51 = .ok (.iload_n 3, 1) := by decide +kernel
theorem dX9_undo_52 : decode cX9_undo 52 = .ok (.bipush 16, 2) := by decide +kernel
theorem dX9_undo_54 : decode cX9_undo 54 = .ok (.if_icmp .ge 30, 3) := by decide +kernel
theorem dX9_undo_57 : decode cX9_undo 57 = .ok (.aload_n 0, 1) := by decide +kernel
theorem dX9_undo_58 : decode cX9_undo 58 = .ok (.getfield 37, 3) := by decide +kernel
theorem dX9_undo_61 : decode cX9_undo 61 = .ok (.bipush 16, 2) := by decide +kernel
theorem dX9_undo_63 : decode cX9_undo 63 = .ok (.iload_n 2, 1) := by decide +kernel
theorem dX9_undo_64 : decode cX9_undo 64 = .ok (.imul, 1) := by decide +kernel
theorem dX9_undo_65 : decode cX9_undo 65 = .ok (.iload_n 3, 1) := by decide +kernel
theorem dX9_undo_66 : decode cX9_undo 66 = .ok (.iadd, 1) := by decide +kernel
theorem dX9_undo_67 : decode cX9_undo 67 = .ok (.aload_n 0, 1) := by decide +kernel
theorem dX9_undo_68 : decode cX9_undo 68 = .ok (.getfield 43, 3) := by decide +kernel
theorem dX9_undo_71 : decode cX9_undo 71 = .ok (.iload_n 1, 1) := by decide +kernel
theorem dX9_undo_72 : decode cX9_undo 72 = .ok (.iconst 2, 1) := by decide +kernel
theorem dX9_undo_73 : decode cX9_undo 73 = .ok (.iadd, 1) := by decide +kernel
theorem dX9_undo_74 : decode cX9_undo 74 = .ok (.iload_n 3, 1) := by decide +kernel
theorem dX9_undo_75 : decode cX9_undo 75 = .ok (.iadd, 1) := by decide +kernel
theorem dX9_undo_76 : decode cX9_undo 76 = .ok (.iaload, 1) := by decide +kernel
theorem dX9_undo_77 : decode cX9_undo 77 = .ok (.iastore, 1) := by decide +kernel
theorem dX9_undo_78 : decode cX9_undo 78 = .ok (.iinc 3 1, 3) := by decide +kernel
theorem dX9_undo_81 : decode cX9_undo 81 = .ok (.goto (-30), 3) := by decide +kernel
theorem dX9_undo_84 : decode cX9_undo 84 = .ok (.aload_n 0, 1) := by decide +kernel
theorem dX9_undo_85 : decode cX9_undo 85 = .ok (.getfield 144, 3) := by decide +kernel
theorem dX9_undo_88 : decode cX9_undo 88 = .ok (.ireturn, 1) := by decide +kernel
theorem dX9_at_0 : decode cX9_at 0 = .ok (.iload_n 1, 1) := by decide +kernel
theorem dX9_at_1 : decode cX9_at 1 = .ok (.invokestatic 147, 3) := by decide +kernel
theorem dX9_at_4 : decode cX9_at 4 = .ok (.ifCond .ne 5, 3) := by decide +kernel
theorem dX9_at_7 : decode cX9_at 7 = .ok (.iconst (-1), 1) := by decide +kernel
theorem dX9_at_8 : decode cX9_at 8 = .ok (.ireturn, 1) := by decide +kernel
theorem dX9_at_9 : decode cX9_at 9 = .ok (.aload_n 0, 1) := by decide +kernel
theorem dX9_at_10 : decode cX9_at 10 = .ok (.iload_n 1, 1) := by decide +kernel
theorem dX9_at_11 : decode cX9_at 11 = .ok (.invokevirtual 193, 3) := by decide +kernel
theorem dX9_at_14 : decode cX9_at 14 = .ok (.aload_n 0, 1) := by decide +kernel
theorem dX9_at_15 : decode cX9_at 15 = .ok (.iload_n 2, 1) := by decide +kernel
theorem dX9_at_16 : decode cX9_at 16 = .ok (.invokevirtual 199, 3) := by decide +kernel
theorem dX9_at_19 : decode cX9_at 19 = .ok (.ireturn, 1) := by decide +kernel
theorem dX9_ruled_0 : decode cX9_ruled 0 = .ok (.iload_n 1, 1) := by decide +kernel
theorem dX9_ruled_1 : decode cX9_ruled 1 = .ok (.invokestatic 147, 3) := by decide +kernel
theorem dX9_ruled_4 : decode cX9_ruled 4 = .ok (.ifCond .eq 10, 3) := by decide +kernel
theorem dX9_ruled_7 : decode cX9_ruled 7 = .ok (.iload_n 2, 1) := by decide +kernel
theorem dX9_ruled_8 : decode cX9_ruled 8 = .ok (.invokestatic 190, 3) := by decide +kernel
theorem dX9_ruled_11 : decode cX9_ruled 11 = .ok (.ifCond .ne 5, 3) := by decide +kernel
theorem dX9_ruled_14 : decode cX9_ruled 14 = .ok (.iconst (-1), 1) := by decide +kernel
theorem dX9_ruled_15 : decode cX9_ruled 15 = .ok (.ireturn, 1) := by decide +kernel
theorem dX9_ruled_16 : decode cX9_ruled 16 = .ok (.aload_n 0, 1) := by decide +kernel
theorem dX9_ruled_17 : decode cX9_ruled 17 = .ok (.iload_n 1, 1) := by decide +kernel
theorem dX9_ruled_18 : decode cX9_ruled 18 = .ok (.invokevirtual 193, 3) := by decide +kernel
theorem dX9_ruled_21 : decode cX9_ruled 21 = .ok (.aload_n 0, 1) := by decide +kernel
theorem dX9_ruled_22 : decode cX9_ruled 22 = .ok (.iload_n 2, 1) := by decide +kernel
theorem dX9_ruled_23 : decode cX9_ruled 23 = .ok (.invokevirtual 196, 3) := by decide +kernel
theorem dX9_ruled_26 : decode cX9_ruled 26 = .ok (.aload_n 0, 1) := by decide +kernel
theorem dX9_ruled_27 : decode cX9_ruled 27 = .ok (.iload_n 3, 1) := by decide +kernel
theorem dX9_ruled_28 : decode cX9_ruled 28 = .ok (.invokevirtual 199, 3) := by decide +kernel
theorem dX9_ruled_31 : decode cX9_ruled 31 = .ok (.ireturn, 1) := by decide +kernel
theorem dX9_keeps_0 : decode cX9_keeps 0 = .ok (.aload_n 0, 1) := by decide +kernel
theorem dX9_keeps_1 : decode cX9_keeps 1 = .ok (.aload_n 0, 1) := by decide +kernel
theorem dX9_keeps_2 : decode cX9_keeps 2 = .ok (.getfield 157, 3) := by decide +kernel
theorem dX9_keeps_5 : decode cX9_keeps 5 = .ok (.putfield 202, 3) := by decide +kernel
theorem dX9_keeps_8 : decode cX9_keeps 8 = .ok (.iconst 0, 1) := by decide +kernel
theorem dX9_keeps_9 : decode cX9_keeps 9 = .ok (.istore_n 1, 1) := by decide +kernel
theorem dX9_keeps_10 : decode cX9_keeps 10 = .ok (.iload_n 1, 1) := by decide +kernel
theorem dX9_keeps_11 : decode cX9_keeps 11 = .ok (.aload_n 0, 1) := by decide +kernel
theorem dX9_keeps_12 : decode cX9_keeps 12 = .ok (.getfield 157, 3) := by decide +kernel
theorem dX9_keeps_15 : decode cX9_keeps 15 = .ok (.if_icmp .ge 21, 3) := by decide +kernel
theorem dX9_keeps_18 : decode cX9_keeps 18 = .ok (.aload_n 0, 1) := by decide +kernel
theorem dX9_keeps_19 : decode cX9_keeps 19 = .ok (.getfield 52, 3) := by decide +kernel
theorem dX9_keeps_22 : decode cX9_keeps 22 = .ok (.iload_n 1, 1) := by decide +kernel
theorem dX9_keeps_23 : decode cX9_keeps 23 = .ok (.aload_n 0, 1) := by decide +kernel
theorem dX9_keeps_24 : decode cX9_keeps 24 = .ok (.getfield 46, 3) := by decide +kernel
theorem dX9_keeps_27 : decode cX9_keeps 27 = .ok (.iload_n 1, 1) := by decide +kernel
theorem dX9_keeps_28 : decode cX9_keeps 28 = .ok (.iaload, 1) := by decide +kernel
theorem dX9_keeps_29 : decode cX9_keeps 29 = .ok (.iastore, 1) := by decide +kernel
theorem dX9_keeps_30 : decode cX9_keeps 30 = .ok (.iinc 1 1, 3) := by decide +kernel
theorem dX9_keeps_33 : decode cX9_keeps 33 = .ok (.goto (-23), 3) := by decide +kernel
theorem dX9_keeps_36 : decode cX9_keeps 36 = .ok (.return_, 1) := by decide +kernel
theorem dX9_isKept_0 : decode cX9_isKept 0 = .ok (.aload_n 0, 1) := by decide +kernel
theorem dX9_isKept_1 : decode cX9_isKept 1 = .ok (.getfield 157, 3) := by decide +kernel
theorem dX9_isKept_4 : decode cX9_isKept 4 = .ok (.aload_n 0, 1) := by decide +kernel
theorem dX9_isKept_5 : decode cX9_isKept 5 = .ok (.getfield 202, 3) := by decide +kernel
theorem dX9_isKept_8 : decode cX9_isKept 8 = .ok (.if_icmp .ne 7, 3) := by decide +kernel
theorem dX9_isKept_11 : decode cX9_isKept 11 = .ok (.iconst 1, 1) := by decide +kernel
theorem dX9_isKept_12 : decode cX9_isKept 12 = .ok (.goto 4, 3) := by decide +kernel
theorem dX9_isKept_15 : decode cX9_isKept 15 = .ok (.iconst 0, 1) := by decide +kernel
theorem dX9_isKept_16 : decode cX9_isKept 16 = .ok (.istore_n 1, 1) := by decide +kernel
theorem dX9_isKept_17 : decode cX9_isKept 17 = .ok (.iconst 0, 1) := by decide +kernel
theorem dX9_isKept_18 : decode cX9_isKept 18 = .ok (.istore_n 2, 1) := by decide +kernel
theorem dX9_isKept_19 : decode cX9_isKept 19 = .ok (.iload_n 2, 1) := by decide +kernel
theorem dX9_isKept_20 : decode cX9_isKept 20 = .ok (.aload_n 0, 1) := by decide +kernel
theorem dX9_isKept_21 : decode cX9_isKept 21 = .ok (.getfield 157, 3) := by decide +kernel
theorem dX9_isKept_24 : decode cX9_isKept 24 = .ok (.if_icmp .ge 34, 3) := by decide +kernel
theorem dX9_isKept_27 : decode cX9_isKept 27 = .ok (.iload_n 1, 1) := by decide +kernel
theorem dX9_isKept_28 : decode cX9_isKept 28 = .ok (.ifCond .eq 30, 3) := by decide +kernel
theorem dX9_isKept_31 : decode cX9_isKept 31 = .ok (.aload_n 0, 1) := by decide +kernel
theorem dX9_isKept_32 : decode cX9_isKept 32 = .ok (.getfield 46, 3) := by decide +kernel
theorem dX9_isKept_35 : decode cX9_isKept 35 = .ok (.iload_n 2, 1) := by decide +kernel
theorem dX9_isKept_36 : decode cX9_isKept 36 = .ok (.iaload, 1) := by decide +kernel
theorem dX9_isKept_37 : decode cX9_isKept 37 = .ok (.aload_n 0, 1) := by decide +kernel
theorem dX9_isKept_38 : decode cX9_isKept 38 = .ok (.getfield 52, 3) := by decide +kernel
theorem dX9_isKept_41 : decode cX9_isKept 41 = .ok (.iload_n 2, 1) := by decide +kernel
theorem dX9_isKept_42 : decode cX9_isKept 42 = .ok (.iaload, 1) := by decide +kernel
theorem dX9_isKept_43 : decode cX9_isKept 43 = .ok (.if_icmp .ne 7, 3) := by decide +kernel
theorem dX9_isKept_46 : decode cX9_isKept 46 = .ok (.iconst 1, 1) := by decide +kernel
theorem dX9_isKept_47 : decode cX9_isKept 47 = .ok (.goto 4, 3) := by decide +kernel
theorem dX9_isKept_50 : decode cX9_isKept 50 = .ok (.iconst 0, 1) := by decide +kernel
theorem dX9_isKept_51 : decode cX9_isKept 51 = .ok (.istore_n 1, 1) := by decide +kernel
theorem dX9_isKept_52 : decode cX9_isKept 52 = .ok (.iinc 2 1, 3) := by decide +kernel
theorem dX9_isKept_55 : decode cX9_isKept 55 = .ok (.goto (-36), 3) := by decide +kernel
theorem dX9_isKept_58 : decode cX9_isKept 58 = .ok (.iload_n 1, 1) := by decide +kernel
theorem dX9_isKept_59 : decode cX9_isKept 59 = .ok (.ireturn, 1) := by decide +kernel
theorem dX9_isSorted_0 : decode cX9_isSorted 0 = .ok (.aload_n 0, 1) := by decide +kernel
theorem dX9_isSorted_1 : decode cX9_isSorted 1 = .ok (.invokevirtual 205, 3) := by decide +kernel
theorem dX9_isSorted_4 : decode cX9_isSorted 4 = .ok (.aload_n 0, 1) := by decide +kernel
theorem dX9_isSorted_5 : decode cX9_isSorted 5 = .ok (.invokevirtual 175, 3) := by decide +kernel
theorem dX9_isSorted_8 : decode cX9_isSorted 8 = .ok (.aload_n 0, 1) := by decide +kernel
theorem dX9_isSorted_9 : decode cX9_isSorted 9 = .ok (.invokevirtual 208, 3) := by decide +kernel
theorem dX9_isSorted_12 : decode cX9_isSorted 12 = .ok (.ireturn, 1) := by decide +kernel
theorem dX9_isSecond_0 : decode cX9_isSecond 0 = .ok (.iconst 0, 1) := by decide +kernel
theorem dX9_isSecond_1 : decode cX9_isSecond 1 = .ok (.istore_n 2, 1) := by decide +kernel
theorem dX9_isSecond_2 : decode cX9_isSecond 2 = .ok (.iconst 0, 1) := by decide +kernel
theorem dX9_isSecond_3 : decode cX9_isSecond 3 = .ok (.istore_n 3, 1) := by decide +kernel
theorem dX9_isSecond_4 : decode cX9_isSecond 4 = .ok (.iload_n 3, 1) := by decide +kernel
theorem dX9_isSecond_5 : decode cX9_isSecond 5 = .ok (.aload_n 0, 1) := by decide +kernel
theorem dX9_isSecond_6 : decode cX9_isSecond 6 = .ok (.getfield 62, 3) := by decide +kernel
theorem dX9_isSecond_9 : decode cX9_isSecond 9 = .ok (.if_icmp .ge 39, 3) := by decide +kernel
theorem dX9_isSecond_12 : decode cX9_isSecond 12 = .ok (.iload_n 2, 1) := by decide +kernel
theorem dX9_isSecond_13 : decode cX9_isSecond 13 = .ok (.ifCond .ne 23, 3) := by decide +kernel
theorem dX9_isSecond_16 : decode cX9_isSecond 16 = .ok (.aload_n 0, 1) := by decide +kernel
theorem dX9_isSecond_17 : decode cX9_isSecond 17 = .ok (.getfield 7, 3) := by decide +kernel
theorem dX9_isSecond_20 : decode cX9_isSecond 20 = .ok (.iload_n 3, 1) := by decide +kernel
theorem dX9_isSecond_21 : decode cX9_isSecond 21 = .ok (.iaload, 1) := by decide +kernel
theorem dX9_isSecond_22 : decode cX9_isSecond 22 = .ok (.iconst 1, 1) := by decide +kernel
theorem dX9_isSecond_23 : decode cX9_isSecond 23 = .ok (.if_icmp .ne 17, 3) := by decide +kernel
theorem dX9_isSecond_26 : decode cX9_isSecond 26 = .ok (.aload_n 0, 1) := by decide +kernel
theorem dX9_isSecond_27 : decode cX9_isSecond 27 = .ok (.getfield 19, 3) := by decide +kernel
theorem dX9_isSecond_30 : decode cX9_isSecond 30 = .ok (.iload_n 3, 1) := by decide +kernel
theorem dX9_isSecond_31 : decode cX9_isSecond 31 = .ok (.iaload, 1) := by decide +kernel
theorem dX9_isSecond_32 : decode cX9_isSecond 32 = .ok (.iload_n 1, 1) := by decide +kernel
theorem dX9_isSecond_33 : decode cX9_isSecond 33 = .ok (.if_icmp .ne 7, 3) := by decide +kernel
theorem dX9_isSecond_36 : decode cX9_isSecond 36 = .ok (.iconst 1, 1) := by decide +kernel
theorem dX9_isSecond_37 : decode cX9_isSecond 37 = .ok (.goto 4, 3) := by decide +kernel
theorem dX9_isSecond_40 : decode cX9_isSecond 40 = .ok (.iconst 0, 1) := by decide +kernel
theorem dX9_isSecond_41 : decode cX9_isSecond 41 = .ok (.istore_n 2, 1) := by decide +kernel
theorem dX9_isSecond_42 : decode cX9_isSecond 42 = .ok (.iinc 3 1, 3) := by decide +kernel
theorem dX9_isSecond_45 : decode cX9_isSecond 45 = .ok (.goto (-41), 3) := by decide +kernel
theorem dX9_isSecond_48 : decode cX9_isSecond 48 = .ok (.iload_n 2, 1) := by decide +kernel
theorem dX9_isSecond_49 : decode cX9_isSecond 49 = .ok (.ireturn, 1) := by decide +kernel
theorem dX9_quick_0 : decode cX9_quick 0 = .ok (.iload_n 1, 1) := by decide +kernel
theorem dX9_quick_1 : decode cX9_quick 1 = .ok (.invokestatic 147, 3) := by decide +kernel
theorem dX9_quick_4 : decode cX9_quick 4 = .ok (.ifCond .eq 12, 3) := by decide +kernel
theorem dX9_quick_7 : decode cX9_quick 7 = .ok (.iload_n 2, 1) := by decide +kernel
theorem dX9_quick_8 : decode cX9_quick 8 = .ok (.iconst 0, 1) := by decide +kernel
theorem dX9_quick_9 : decode cX9_quick 9 = .ok (.iconst 1, 1) := by decide +kernel
theorem dX9_quick_10 : decode cX9_quick 10 = .ok (.invokestatic 66, 3) := by decide +kernel
theorem dX9_quick_13 : decode cX9_quick 13 = .ok (.ifCond .ne 5, 3) := by decide +kernel
theorem dX9_quick_16 : decode cX9_quick 16 = .ok (.iconst (-1), 1) := by decide +kernel
theorem dX9_quick_17 : decode cX9_quick 17 = .ok (.ireturn, 1) := by decide +kernel
theorem dX9_quick_18 : decode cX9_quick 18 = .ok (.iconst 1, 1) := by decide +kernel
theorem dX9_quick_19 : decode cX9_quick 19 = .ok (.istore_n 3, 1) := by decide +kernel
theorem dX9_quick_20 : decode cX9_quick 20 = .ok (.iconst 0, 1) := by decide +kernel
theorem dX9_quick_21 : decode cX9_quick 21 = .ok (.istore 4, 2) := by decide +kernel
theorem dX9_quick_23 : decode cX9_quick 23 = .ok (.iconst 0, 1) := by decide +kernel
theorem dX9_quick_24 : decode cX9_quick 24 = .ok (.istore 5, 2) := by decide +kernel
theorem dX9_quick_26 : decode cX9_quick 26 = .ok (.iconst 0, 1) := by decide +kernel
theorem dX9_quick_27 : decode cX9_quick 27 = .ok (.istore 6, 2) := by decide +kernel
theorem dX9_quick_29 : decode cX9_quick 29 = .ok (.iload 6, 2) := by decide +kernel
theorem dX9_quick_31 : decode cX9_quick 31 = .ok (.aload_n 0, 1) := by decide +kernel
theorem dX9_quick_32 : decode cX9_quick 32 = .ok (.getfield 34, 3) := by decide +kernel
theorem dX9_quick_35 : decode cX9_quick 35 = .ok (.iload_n 1, 1) := by decide +kernel
theorem dX9_quick_36 : decode cX9_quick 36 = .ok (.iaload, 1) := by decide +kernel
theorem dX9_quick_37 : decode cX9_quick 37 = .ok (.if_icmp .ge 105, 3) := by decide +kernel
theorem dX9_quick_40 : decode cX9_quick 40 = .ok (.aload_n 0, 1) := by decide +kernel
theorem dX9_quick_41 : decode cX9_quick 41 = .ok (.getfield 37, 3) := by decide +kernel
theorem dX9_quick_44 : decode cX9_quick 44 = .ok (.bipush 16, 2) := by decide +kernel
theorem dX9_quick_46 : decode cX9_quick 46 = .ok (.iload_n 1, 1) := by decide +kernel
theorem dX9_quick_47 : decode cX9_quick 47 = .ok (.imul, 1) := by decide +kernel
theorem dX9_quick_48 : decode cX9_quick 48 = .ok (.iload 6, 2) := by decide +kernel
theorem dX9_quick_50 : decode cX9_quick 50 = .ok (.iadd, 1) := by decide +kernel
theorem dX9_quick_51 : decode cX9_quick 51 = .ok (.iaload, 1) := by decide +kernel
theorem dX9_quick_52 : decode cX9_quick 52 = .ok (.istore 7, 2) := by decide +kernel
theorem dX9_quick_54 : decode cX9_quick 54 = .ok (.iload_n 3, 1) := by decide +kernel
theorem dX9_quick_55 : decode cX9_quick 55 = .ok (.ifCond .eq 17, 3) := by decide +kernel
theorem dX9_quick_58 : decode cX9_quick 58 = .ok (.aload_n 0, 1) := by decide +kernel
theorem dX9_quick_59 : decode cX9_quick 59 = .ok (.getfield 7, 3) := by decide +kernel
theorem dX9_quick_62 : decode cX9_quick 62 = .ok (.iload 7, 2) := by decide +kernel
theorem dX9_quick_64 : decode cX9_quick 64 = .ok (.iaload, 1) := by decide +kernel
theorem dX9_quick_65 : decode cX9_quick 65 = .ok (.ifCond .ne 7, 3) := by decide +kernel
theorem dX9_quick_68 : decode cX9_quick 68 = .ok (.iconst 1, 1) := by decide +kernel
theorem dX9_quick_69 : decode cX9_quick 69 = .ok (.goto 4, 3) := by decide +kernel
theorem dX9_quick_72 : decode cX9_quick 72 = .ok (.iconst 0, 1) := by decide +kernel
theorem dX9_quick_73 : decode cX9_quick 73 = .ok (.istore_n 3, 1) := by decide +kernel
theorem dX9_quick_74 : decode cX9_quick 74 = .ok (.iload 4, 2) := by decide +kernel
theorem dX9_quick_76 : decode cX9_quick 76 = .ok (.ifCond .ne 25, 3) := by decide +kernel
theorem dX9_quick_79 : decode cX9_quick 79 = .ok (.aload_n 0, 1) := by decide +kernel
theorem dX9_quick_80 : decode cX9_quick 80 = .ok (.getfield 7, 3) := by decide +kernel
theorem dX9_quick_83 : decode cX9_quick 83 = .ok (.iload 7, 2) := by decide +kernel
theorem dX9_quick_85 : decode cX9_quick 85 = .ok (.iaload, 1) := by decide +kernel
theorem dX9_quick_86 : decode cX9_quick 86 = .ok (.iconst 2, 1) := by decide +kernel
theorem dX9_quick_87 : decode cX9_quick 87 = .ok (.if_icmp .eq 14, 3) := by decide +kernel
theorem dX9_quick_90 : decode cX9_quick 90 = .ok (.aload_n 0, 1) := by decide +kernel
theorem dX9_quick_91 : decode cX9_quick 91 = .ok (.getfield 7, 3) := by decide +kernel
theorem dX9_quick_94 : decode cX9_quick 94 = .ok (.iload 7, 2) := by decide +kernel
theorem dX9_quick_96 : decode cX9_quick 96 = .ok (.iaload, 1) := by decide +kernel
theorem dX9_quick_97 : decode cX9_quick 97 = .ok (.iconst 3, 1) := by decide +kernel
theorem dX9_quick_98 : decode cX9_quick 98 = .ok (.if_icmp .ne 7, 3) := by decide +kernel
theorem dX9_quick_101 : decode cX9_quick 101 = .ok (.iconst 1, 1) := by decide +kernel
theorem dX9_quick_102 : decode cX9_quick 102 = .ok (.goto 4, 3) := by decide +kernel
theorem dX9_quick_105 : decode cX9_quick 105 = .ok (.iconst 0, 1) := by decide +kernel
theorem dX9_quick_106 : decode cX9_quick 106 = .ok (.istore 4, 2) := by decide +kernel
theorem dX9_quick_108 : decode cX9_quick 108 = .ok (.iload 5, 2) := by decide +kernel
theorem dX9_quick_110 : decode cX9_quick 110 = .ok (.ifCond .ne 19, 3) := by decide +kernel
theorem dX9_quick_113 : decode cX9_quick 113 = .ok (.aload_n 0, 1) := by decide +kernel
theorem dX9_quick_114 : decode cX9_quick 114 = .ok (.aload_n 0, 1) := by decide +kernel
theorem dX9_quick_115 : decode cX9_quick 115 = .ok (.getfield 25, 3) := by decide +kernel
theorem dX9_quick_118 : decode cX9_quick 118 = .ok (.iconst 4, 1) := by decide +kernel
theorem dX9_quick_119 : decode cX9_quick 119 = .ok (.iload 7, 2) := by decide +kernel
theorem dX9_quick_121 : decode cX9_quick 121 = .ok (.imul, 1) := by decide +kernel
theorem dX9_quick_122 : decode cX9_quick 122 = .ok (.iaload, 1) := by decide +kernel
theorem dX9_quick_123 : decode cX9_quick 123 = .ok (.invokevirtual 211, 3) := by decide +kernel
theorem dX9_quick_126 : decode cX9_quick 126 = .ok (.ifCond .eq 7, 3) := by decide +kernel
theorem dX9_quick_129 : decode cX9_quick 129 = .ok (.iconst 1, 1) := by decide +kernel
theorem dX9_quick_130 : decode cX9_quick 130 = .ok (.goto 4, 3) := by decide +kernel
theorem dX9_quick_133 : decode cX9_quick 133 = .ok (.iconst 0, 1) := by decide +kernel
theorem dX9_quick_134 : decode cX9_quick 134 = .ok (.istore 5, 2) := by decide +kernel
theorem dX9_quick_136 : decode cX9_quick 136 = .ok (.iinc 6 1, 3) := by decide +kernel
theorem dX9_quick_139 : decode cX9_quick 139 = .ok (.goto (-110), 3) := by decide +kernel
theorem dX9_quick_142 : decode cX9_quick 142 = .ok (.aload_n 0, 1) := by decide +kernel
theorem dX9_quick_143 : decode cX9_quick 143 = .ok (.iload_n 1, 1) := by decide +kernel
theorem dX9_quick_144 : decode cX9_quick 144 = .ok (.invokevirtual 193, 3) := by decide +kernel
theorem dX9_quick_147 : decode cX9_quick 147 = .ok (.aload_n 0, 1) := by decide +kernel
theorem dX9_quick_148 : decode cX9_quick 148 = .ok (.invokevirtual 214, 3) := by decide +kernel
theorem dX9_quick_151 : decode cX9_quick 151 = .ok (.istore 6, 2) := by decide +kernel
theorem dX9_quick_153 : decode cX9_quick 153 = .ok (.iload_n 2, 1) := by decide +kernel
theorem dX9_quick_154 : decode cX9_quick 154 = .ok (.ifCond .ne 18, 3) := by decide +kernel
theorem dX9_quick_157 : decode cX9_quick 157 = .ok (.iload_n 3, 1) := by decide +kernel
theorem dX9_quick_158 : decode cX9_quick 158 = .ok (.ifCond .eq 12, 3) := by decide +kernel
theorem dX9_quick_161 : decode cX9_quick 161 = .ok (.iload 6, 2) := by decide +kernel
theorem dX9_quick_163 : decode cX9_quick 163 = .ok (.ifCond .eq 7, 3) := by decide +kernel
theorem dX9_quick_166 : decode cX9_quick 166 = .ok (.iconst 1, 1) := by decide +kernel
theorem dX9_quick_167 : decode cX9_quick 167 = .ok (.goto 4, 3) := by decide +kernel
theorem dX9_quick_170 : decode cX9_quick 170 = .ok (.iconst 0, 1) := by decide +kernel
theorem dX9_quick_171 : decode cX9_quick 171 = .ok (.ireturn, 1) := by decide +kernel
theorem dX9_quick_172 : decode cX9_quick 172 = .ok (.iload 4, 2) := by decide +kernel
theorem dX9_quick_174 : decode cX9_quick 174 = .ok (.ifCond .ne 8, 3) := by decide +kernel
theorem dX9_quick_177 : decode cX9_quick 177 = .ok (.iload 6, 2) := by decide +kernel
theorem dX9_quick_179 : decode cX9_quick 179 = .ok (.ifCond .ne 7, 3) := by decide +kernel
theorem dX9_quick_182 : decode cX9_quick 182 = .ok (.iconst 0, 1) := by decide +kernel
theorem dX9_quick_183 : decode cX9_quick 183 = .ok (.goto 13, 3) := by decide +kernel
theorem dX9_quick_186 : decode cX9_quick 186 = .ok (.iload 5, 2) := by decide +kernel
theorem dX9_quick_188 : decode cX9_quick 188 = .ok (.ifCond .eq 7, 3) := by decide +kernel
theorem dX9_quick_191 : decode cX9_quick 191 = .ok (.iconst 2, 1) := by decide +kernel
theorem dX9_quick_192 : decode cX9_quick 192 = .ok (.goto 4, 3) := by decide +kernel
theorem dX9_quick_195 : decode cX9_quick 195 = .ok (.iconst 1, 1) := by decide +kernel
theorem dX9_quick_196 : decode cX9_quick 196 = .ok (.ireturn, 1) := by decide +kernel
theorem dX9_same_0 : decode cX9_same 0 = .ok (.iload_n 1, 1) := by decide +kernel
theorem dX9_same_1 : decode cX9_same 1 = .ok (.invokestatic 147, 3) := by decide +kernel
theorem dX9_same_4 : decode cX9_same 4 = .ok (.ifCond .eq 17, 3) := by decide +kernel
theorem dX9_same_7 : decode cX9_same 7 = .ok (.iload_n 2, 1) := by decide +kernel
theorem dX9_same_8 : decode cX9_same 8 = .ok (.invokestatic 147, 3) := by decide +kernel
theorem dX9_same_11 : decode cX9_same 11 = .ok (.ifCond .eq 10, 3) := by decide +kernel
theorem dX9_same_14 : decode cX9_same 14 = .ok (.iload_n 3, 1) := by decide +kernel
theorem dX9_same_15 : decode cX9_same 15 = .ok (.invokestatic 190, 3) := by decide +kernel
theorem dX9_same_18 : decode cX9_same 18 = .ok (.ifCond .ne 5, 3) := by decide +kernel
theorem dX9_same_21 : decode cX9_same 21 = .ok (.iconst (-1), 1) := by decide +kernel
theorem dX9_same_22 : decode cX9_same 22 = .ok (.ireturn, 1) := by decide +kernel
theorem dX9_same_23 : decode cX9_same 23 = .ok (.aload_n 0, 1) := by decide +kernel
theorem dX9_same_24 : decode cX9_same 24 = .ok (.iload_n 1, 1) := by decide +kernel
theorem dX9_same_25 : decode cX9_same 25 = .ok (.invokevirtual 193, 3) := by decide +kernel
theorem dX9_same_28 : decode cX9_same 28 = .ok (.aload_n 0, 1) := by decide +kernel
theorem dX9_same_29 : decode cX9_same 29 = .ok (.iload_n 3, 1) := by decide +kernel
theorem dX9_same_30 : decode cX9_same 30 = .ok (.invokevirtual 196, 3) := by decide +kernel
theorem dX9_same_33 : decode cX9_same 33 = .ok (.aload_n 0, 1) := by decide +kernel
theorem dX9_same_34 : decode cX9_same 34 = .ok (.invokevirtual 205, 3) := by decide +kernel
theorem dX9_same_37 : decode cX9_same 37 = .ok (.aload_n 0, 1) := by decide +kernel
theorem dX9_same_38 : decode cX9_same 38 = .ok (.iload_n 2, 1) := by decide +kernel
theorem dX9_same_39 : decode cX9_same 39 = .ok (.invokevirtual 193, 3) := by decide +kernel
theorem dX9_same_42 : decode cX9_same 42 = .ok (.aload_n 0, 1) := by decide +kernel
theorem dX9_same_43 : decode cX9_same 43 = .ok (.iload_n 3, 1) := by decide +kernel
theorem dX9_same_44 : decode cX9_same 44 = .ok (.invokevirtual 196, 3) := by decide +kernel
theorem dX9_same_47 : decode cX9_same 47 = .ok (.aload_n 0, 1) := by decide +kernel
theorem dX9_same_48 : decode cX9_same 48 = .ok (.invokevirtual 208, 3) := by decide +kernel
theorem dX9_same_51 : decode cX9_same 51 = .ok (.ifCond .eq 7, 3) := by decide +kernel
theorem dX9_same_54 : decode cX9_same 54 = .ok (.iconst 1, 1) := by decide +kernel
theorem dX9_same_55 : decode cX9_same 55 = .ok (.goto 4, 3) := by decide +kernel
theorem dX9_same_58 : decode cX9_same 58 = .ok (.iconst 0, 1) := by decide +kernel
theorem dX9_same_59 : decode cX9_same 59 = .ok (.ireturn, 1) := by decide +kernel
theorem dX9_seam_0 : decode cX9_seam 0 = .ok (.iload_n 1, 1) := by decide +kernel
theorem dX9_seam_1 : decode cX9_seam 1 = .ok (.invokestatic 147, 3) := by decide +kernel
theorem dX9_seam_4 : decode cX9_seam 4 = .ok (.ifCond .eq 27, 3) := by decide +kernel
theorem dX9_seam_7 : decode cX9_seam 7 = .ok (.iload_n 2, 1) := by decide +kernel
theorem dX9_seam_8 : decode cX9_seam 8 = .ok (.invokestatic 147, 3) := by decide +kernel
theorem dX9_seam_11 : decode cX9_seam 11 = .ok (.ifCond .eq 20, 3) := by decide +kernel
theorem dX9_seam_14 : decode cX9_seam 14 = .ok (.iload_n 3, 1) := by decide +kernel
theorem dX9_seam_15 : decode cX9_seam 15 = .ok (.invokestatic 190, 3) := by decide +kernel
theorem dX9_seam_18 : decode cX9_seam 18 = .ok (.ifCond .eq 13, 3) := by decide +kernel
theorem dX9_seam_21 : decode cX9_seam 21 = .ok (.iload 4, 2) := by decide +kernel
theorem dX9_seam_23 : decode cX9_seam 23 = .ok (.iconst 0, 1) := by decide +kernel
theorem dX9_seam_24 : decode cX9_seam 24 = .ok (.iconst 2, 1) := by decide +kernel
theorem dX9_seam_25 : decode cX9_seam 25 = .ok (.invokestatic 66, 3) := by decide +kernel
theorem dX9_seam_28 : decode cX9_seam 28 = .ok (.ifCond .ne 5, 3) := by decide +kernel
theorem dX9_seam_31 : decode cX9_seam 31 = .ok (.iconst (-1), 1) := by decide +kernel
theorem dX9_seam_32 : decode cX9_seam 32 = .ok (.ireturn, 1) := by decide +kernel
theorem dX9_seam_33 : decode cX9_seam 33 = .ok (.aload_n 0, 1) := by decide +kernel
theorem dX9_seam_34 : decode cX9_seam 34 = .ok (.iload_n 1, 1) := by decide +kernel
theorem dX9_seam_35 : decode cX9_seam 35 = .ok (.invokevirtual 193, 3) := by decide +kernel
theorem dX9_seam_38 : decode cX9_seam 38 = .ok (.aload_n 0, 1) := by decide +kernel
theorem dX9_seam_39 : decode cX9_seam 39 = .ok (.iload_n 2, 1) := by decide +kernel
theorem dX9_seam_40 : decode cX9_seam 40 = .ok (.invokevirtual 160, 3) := by decide +kernel
theorem dX9_seam_43 : decode cX9_seam 43 = .ok (.aload_n 0, 1) := by decide +kernel
theorem dX9_seam_44 : decode cX9_seam 44 = .ok (.iload_n 3, 1) := by decide +kernel
theorem dX9_seam_45 : decode cX9_seam 45 = .ok (.invokevirtual 196, 3) := by decide +kernel
theorem dX9_seam_48 : decode cX9_seam 48 = .ok (.aload_n 0, 1) := by decide +kernel
theorem dX9_seam_49 : decode cX9_seam 49 = .ok (.invokevirtual 205, 3) := by decide +kernel
theorem dX9_seam_52 : decode cX9_seam 52 = .ok (.aload_n 0, 1) := by decide +kernel
theorem dX9_seam_53 : decode cX9_seam 53 = .ok (.iload_n 1, 1) := by decide +kernel
theorem dX9_seam_54 : decode cX9_seam 54 = .ok (.invokevirtual 193, 3) := by decide +kernel
theorem dX9_seam_57 : decode cX9_seam 57 = .ok (.aload_n 0, 1) := by decide +kernel
theorem dX9_seam_58 : decode cX9_seam 58 = .ok (.iload_n 3, 1) := by decide +kernel
theorem dX9_seam_59 : decode cX9_seam 59 = .ok (.invokevirtual 196, 3) := by decide +kernel
theorem dX9_seam_62 : decode cX9_seam 62 = .ok (.iconst 0, 1) := by decide +kernel
theorem dX9_seam_63 : decode cX9_seam 63 = .ok (.istore 5, 2) := by decide +kernel
theorem dX9_seam_65 : decode cX9_seam 65 = .ok (.iload 5, 2) := by decide +kernel
theorem dX9_seam_67 : decode cX9_seam 67 = .ok (.aload_n 0, 1) := by decide +kernel
theorem dX9_seam_68 : decode cX9_seam 68 = .ok (.getfield 157, 3) := by decide +kernel
theorem dX9_seam_71 : decode cX9_seam 71 = .ok (.if_icmp .ge 35, 3) := by decide +kernel
theorem dX9_seam_74 : decode cX9_seam 74 = .ok (.iload 5, 2) := by decide +kernel
theorem dX9_seam_76 : decode cX9_seam 76 = .ok (.aload_n 0, 1) := by decide +kernel
theorem dX9_seam_77 : decode cX9_seam 77 = .ok (.getfield 202, 3) := by decide +kernel
theorem dX9_seam_80 : decode cX9_seam 80 = .ok (.if_icmp .ge 26, 3) := by decide +kernel
theorem dX9_seam_83 : decode cX9_seam 83 = .ok (.aload_n 0, 1) := by decide +kernel
theorem dX9_seam_84 : decode cX9_seam 84 = .ok (.getfield 46, 3) := by decide +kernel
theorem dX9_seam_87 : decode cX9_seam 87 = .ok (.iload 5, 2) := by decide +kernel
theorem dX9_seam_89 : decode cX9_seam 89 = .ok (.iaload, 1) := by decide +kernel
theorem dX9_seam_90 : decode cX9_seam 90 = .ok (.aload_n 0, 1) := by decide +kernel
theorem dX9_seam_91 : decode cX9_seam 91 = .ok (.getfield 52, 3) := by decide +kernel
theorem dX9_seam_94 : decode cX9_seam 94 = .ok (.iload 5, 2) := by decide +kernel
theorem dX9_seam_96 : decode cX9_seam 96 = .ok (.iaload, 1) := by decide +kernel
theorem dX9_seam_97 : decode cX9_seam 97 = .ok (.if_icmp .ne 9, 3) := by decide +kernel
theorem dX9_seam_100 : decode cX9_seam 100 = .ok (.iinc 5 1, 3) := by decide +kernel
theorem dX9_seam_103 : decode cX9_seam 103 = .ok (.goto (-38), 3) := by decide +kernel
theorem dX9_seam_106 : decode cX9_seam 106 = .ok (.aload_n 0, 1) := by decide +kernel
theorem dX9_seam_107 : decode cX9_seam 107 = .ok (.iload_n 2, 1) := by decide +kernel
theorem dX9_seam_108 : decode cX9_seam 108 = .ok (.invokevirtual 193, 3) := by decide +kernel
theorem dX9_seam_111 : decode cX9_seam 111 = .ok (.aload_n 0, 1) := by decide +kernel
theorem dX9_seam_112 : decode cX9_seam 112 = .ok (.iload_n 3, 1) := by decide +kernel
theorem dX9_seam_113 : decode cX9_seam 113 = .ok (.invokevirtual 196, 3) := by decide +kernel
theorem dX9_seam_116 : decode cX9_seam 116 = .ok (.iconst 0, 1) := by decide +kernel
theorem dX9_seam_117 : decode cX9_seam 117 = .ok (.istore 6, 2) := by decide +kernel
theorem dX9_seam_119 : decode cX9_seam 119 = .ok (.iload 6, 2) := by decide +kernel
theorem dX9_seam_121 : decode cX9_seam 121 = .ok (.aload_n 0, 1) := by decide +kernel
theorem dX9_seam_122 : decode cX9_seam 122 = .ok (.getfield 157, 3) := by decide +kernel
theorem dX9_seam_125 : decode cX9_seam 125 = .ok (.if_icmp .ge 52, 3) := by decide +kernel
theorem dX9_seam_128 : decode cX9_seam 128 = .ok (.iload 6, 2) := by decide +kernel
theorem dX9_seam_130 : decode cX9_seam 130 = .ok (.aload_n 0, 1) := by decide +kernel
theorem dX9_seam_131 : decode cX9_seam 131 = .ok (.getfield 202, 3) := by decide +kernel
theorem dX9_seam_134 : decode cX9_seam 134 = .ok (.iload 5, 2) := by decide +kernel
theorem dX9_seam_136 : decode cX9_seam 136 = .ok (.isub, 1) := by decide +kernel
theorem dX9_seam_137 : decode cX9_seam 137 = .ok (.if_icmp .ge 40, 3) := by decide +kernel
theorem dX9_seam_140 : decode cX9_seam 140 = .ok (.aload_n 0, 1) := by decide +kernel
theorem dX9_seam_141 : decode cX9_seam 141 = .ok (.getfield 46, 3) := by decide +kernel
theorem dX9_seam_144 : decode cX9_seam 144 = .ok (.aload_n 0, 1) := by decide +kernel
theorem dX9_seam_145 : decode cX9_seam 145 = .ok (.getfield 157, 3) := by decide +kernel
theorem dX9_seam_148 : decode cX9_seam 148 = .ok (.iconst 1, 1) := by decide +kernel
theorem dX9_seam_149 : decode cX9_seam 149 = .ok (.isub, 1) := by decide +kernel
theorem dX9_seam_150 : decode cX9_seam 150 = .ok (.iload 6, 2) := by decide +kernel
theorem dX9_seam_152 : decode cX9_seam 152 = .ok (.isub, 1) := by decide +kernel
theorem dX9_seam_153 : decode cX9_seam 153 = .ok (.iaload, 1) := by decide +kernel
theorem dX9_seam_154 : decode cX9_seam 154 = .ok (.aload_n 0, 1) := by decide +kernel
theorem dX9_seam_155 : decode cX9_seam 155 = .ok (.getfield 52, 3) := by decide +kernel
theorem dX9_seam_158 : decode cX9_seam 158 = .ok (.aload_n 0, 1) := by decide +kernel
theorem dX9_seam_159 : decode cX9_seam 159 = .ok (.getfield 202, 3) := by decide +kernel
theorem dX9_seam_162 : decode cX9_seam 162 = .ok (.iconst 1, 1) := by decide +kernel
theorem dX9_seam_163 : decode cX9_seam 163 = .ok (.isub, 1) := by decide +kernel
theorem dX9_seam_164 : decode cX9_seam 164 = .ok (.iload 6, 2) := by decide +kernel
theorem dX9_seam_166 : decode cX9_seam 166 = .ok (.isub, 1) := by decide +kernel
theorem dX9_seam_167 : decode cX9_seam 167 = .ok (.iaload, 1) := by decide +kernel
theorem dX9_seam_168 : decode cX9_seam 168 = .ok (.if_icmp .ne 9, 3) := by decide +kernel
theorem dX9_seam_171 : decode cX9_seam 171 = .ok (.iinc 6 1, 3) := by decide +kernel
theorem dX9_seam_174 : decode cX9_seam 174 = .ok (.goto (-55), 3) := by decide +kernel
theorem dX9_seam_177 : decode cX9_seam 177 = .ok (.iload 4, 2) := by decide +kernel
theorem dX9_seam_179 : decode cX9_seam 179 = .ok (.ifCond .ne 8, 3) := by decide +kernel
theorem dX9_seam_182 : decode cX9_seam 182 = .ok (.iload 5, 2) := by decide +kernel
theorem dX9_seam_184 : decode cX9_seam 184 = .ok (.goto 24, 3) := by decide +kernel
theorem dX9_seam_187 : decode cX9_seam 187 = .ok (.iload 4, 2) := by decide +kernel
theorem dX9_seam_189 : decode cX9_seam 189 = .ok (.iconst 1, 1) := by decide +kernel
theorem dX9_seam_190 : decode cX9_seam 190 = .ok (.if_icmp .ne 8, 3) := by decide +kernel
theorem dX9_seam_193 : decode cX9_seam 193 = .ok (.iload 6, 2) := by decide +kernel
theorem dX9_seam_195 : decode cX9_seam 195 = .ok (.goto 13, 3) := by decide +kernel
theorem dX9_seam_198 : decode cX9_seam 198 = .ok (.aload_n 0, 1) := by decide +kernel
theorem dX9_seam_199 : decode cX9_seam 199 = .ok (.getfield 202, 3) := by decide +kernel
theorem dX9_seam_202 : decode cX9_seam 202 = .ok (.iload 5, 2) := by decide +kernel
theorem dX9_seam_204 : decode cX9_seam 204 = .ok (.isub, 1) := by decide +kernel
theorem dX9_seam_205 : decode cX9_seam 205 = .ok (.iload 6, 2) := by decide +kernel
theorem dX9_seam_207 : decode cX9_seam 207 = .ok (.isub, 1) := by decide +kernel
theorem dX9_seam_208 : decode cX9_seam 208 = .ok (.ireturn, 1) := by decide +kernel
theorem dX9_stands_0 : decode cX9_stands 0 = .ok (.iload_n 2, 1) := by decide +kernel
theorem dX9_stands_1 : decode cX9_stands 1 = .ok (.aload_n 0, 1) := by decide +kernel
theorem dX9_stands_2 : decode cX9_stands 2 = .ok (.getfield 22, 3) := by decide +kernel
theorem dX9_stands_5 : decode cX9_stands 5 = .ok (.iload_n 1, 1) := by decide +kernel
theorem dX9_stands_6 : decode cX9_stands 6 = .ok (.iaload, 1) := by decide +kernel
theorem dX9_stands_7 : decode cX9_stands 7 = .ok (.iadd, 1) := by decide +kernel
theorem dX9_stands_8 : decode cX9_stands 8 = .ok (.aload_n 0, 1) := by decide +kernel
theorem dX9_stands_9 : decode cX9_stands 9 = .ok (.getfield 157, 3) := by decide +kernel
theorem dX9_stands_12 : decode cX9_stands 12 = .ok (.if_icmp .gt 7, 3) := by decide +kernel
theorem dX9_stands_15 : decode cX9_stands 15 = .ok (.iconst 1, 1) := by decide +kernel
theorem dX9_stands_16 : decode cX9_stands 16 = .ok (.goto 4, 3) := by decide +kernel
theorem dX9_stands_19 : decode cX9_stands 19 = .ok (.iconst 0, 1) := by decide +kernel
theorem dX9_stands_20 : decode cX9_stands 20 = .ok (.istore_n 3, 1) := by decide +kernel
theorem dX9_stands_21 : decode cX9_stands 21 = .ok (.iconst 0, 1) := by decide +kernel
theorem dX9_stands_22 : decode cX9_stands 22 = .ok (.istore 4, 2) := by decide +kernel
theorem dX9_stands_24 : decode cX9_stands 24 = .ok (.iload 4, 2) := by decide +kernel
theorem dX9_stands_26 : decode cX9_stands 26 = .ok (.aload_n 0, 1) := by decide +kernel
theorem dX9_stands_27 : decode cX9_stands 27 = .ok (.getfield 22, 3) := by decide +kernel
theorem dX9_stands_30 : decode cX9_stands 30 = .ok (.iload_n 1, 1) := by decide +kernel
theorem dX9_stands_31 : decode cX9_stands 31 = .ok (.iaload, 1) := by decide +kernel
theorem dX9_stands_32 : decode cX9_stands 32 = .ok (.if_icmp .ge 42, 3) := by decide +kernel
theorem dX9_stands_35 : decode cX9_stands 35 = .ok (.iload_n 3, 1) := by decide +kernel
theorem dX9_stands_36 : decode cX9_stands 36 = .ok (.ifCond .eq 38, 3) := by decide +kernel
theorem dX9_stands_39 : decode cX9_stands 39 = .ok (.aload_n 0, 1) := by decide +kernel
theorem dX9_stands_40 : decode cX9_stands 40 = .ok (.getfield 46, 3) := by decide +kernel
theorem dX9_stands_43 : decode cX9_stands 43 = .ok (.iload_n 2, 1) := by decide +kernel
theorem dX9_stands_44 : decode cX9_stands 44 = .ok (.iload 4, 2) := by decide +kernel
theorem dX9_stands_46 : decode cX9_stands 46 = .ok (.iadd, 1) := by decide +kernel
theorem dX9_stands_47 : decode cX9_stands 47 = .ok (.iaload, 1) := by decide +kernel
theorem dX9_stands_48 : decode cX9_stands 48 = .ok (.aload_n 0, 1) := by decide +kernel
theorem dX9_stands_49 : decode cX9_stands 49 = .ok (.getfield 25, 3) := by decide +kernel
theorem dX9_stands_52 : decode cX9_stands 52 = .ok (.iconst 4, 1) := by decide +kernel
theorem dX9_stands_53 : decode cX9_stands 53 = .ok (.iload_n 1, 1) := by decide +kernel
theorem dX9_stands_54 : decode cX9_stands 54 = .ok (.imul, 1) := by decide +kernel
theorem dX9_stands_55 : decode cX9_stands 55 = .ok (.iload 4, 2) := by decide +kernel
theorem dX9_stands_57 : decode cX9_stands 57 = .ok (.iadd, 1) := by decide +kernel
theorem dX9_stands_58 : decode cX9_stands 58 = .ok (.iaload, 1) := by decide +kernel
theorem dX9_stands_59 : decode cX9_stands 59 = .ok (.if_icmp .ne 7, 3) := by decide +kernel
theorem dX9_stands_62 : decode cX9_stands 62 = .ok (.iconst 1, 1) := by decide +kernel
theorem dX9_stands_63 : decode cX9_stands 63 = .ok (.goto 4, 3) := by decide +kernel
theorem dX9_stands_66 : decode cX9_stands 66 = .ok (.iconst 0, 1) := by decide +kernel
theorem dX9_stands_67 : decode cX9_stands 67 = .ok (.istore_n 3, 1) := by decide +kernel
theorem dX9_stands_68 : decode cX9_stands 68 = .ok (.iinc 4 1, 3) := by decide +kernel
theorem dX9_stands_71 : decode cX9_stands 71 = .ok (.goto (-47), 3) := by decide +kernel
theorem dX9_stands_74 : decode cX9_stands 74 = .ok (.iload_n 3, 1) := by decide +kernel
theorem dX9_stands_75 : decode cX9_stands 75 = .ok (.ireturn, 1) := by decide +kernel
theorem dX9_spellings_0 : decode cX9_spellings 0 = .ok (.iload_n 1, 1) := by decide +kernel
theorem dX9_spellings_1 : decode cX9_spellings 1 = .ok (.invokestatic 147, 3) := by decide +kernel
theorem dX9_spellings_4 : decode cX9_spellings 4 = .ok (.ifCond .ne 7, 3) := by decide +kernel
theorem dX9_spellings_7 : decode cX9_spellings 7 = .ok (.ldc2_w 217, 3) := by decide +kernel
theorem dX9_spellings_10 : decode cX9_spellings 10 = .ok (.lreturn, 1) := by decide +kernel
theorem dX9_spellings_11 : decode cX9_spellings 11 = .ok (.aload_n 0, 1) := by decide +kernel
theorem dX9_spellings_12 : decode cX9_spellings 12 = .ok (.iload_n 1, 1) := by decide +kernel
theorem dX9_spellings_13 : decode cX9_spellings 13 = .ok (.invokevirtual 193, 3) := by decide +kernel
theorem dX9_spellings_16 : decode cX9_spellings 16 = .ok (.aload_n 0, 1) := by decide +kernel
theorem dX9_spellings_17 : decode cX9_spellings 17 = .ok (.iconst 0, 1) := by decide +kernel
theorem dX9_spellings_18 : decode cX9_spellings 18 = .ok (.invokevirtual 196, 3) := by decide +kernel
theorem dX9_spellings_21 : decode cX9_spellings 21 = .ok (.aload_n 0, 1) := by decide +kernel
theorem dX9_spellings_22 : decode cX9_spellings 22 = .ok (.getfield 55, 3) := by decide +kernel
theorem dX9_spellings_25 : decode cX9_spellings 25 = .ok (.aload_n 0, 1) := by decide +kernel
theorem dX9_spellings_26 : decode cX9_spellings 26 = .ok (.getfield 157, 3) := by decide +kernel
theorem dX9_spellings_29 : decode cX9_spellings 29 = .ok (.lconst 1, 1) := by decide +kernel
theorem dX9_spellings_30 : decode cX9_spellings 30 = .ok (.lastore, 1) := by decide +kernel
theorem dX9_spellings_31 : decode cX9_spellings 31 = .ok (.aload_n 0, 1) := by decide +kernel
theorem dX9_spellings_32 : decode cX9_spellings 32 = .ok (.getfield 157, 3) := by decide +kernel
theorem dX9_spellings_35 : decode cX9_spellings 35 = .ok (.iconst 1, 1) := by decide +kernel
theorem dX9_spellings_36 : decode cX9_spellings 36 = .ok (.isub, 1) := by decide +kernel
theorem dX9_spellings_37 : decode cX9_spellings 37 = .ok (.istore_n 2, 1) := by decide +kernel
theorem dX9_spellings_38 : decode cX9_spellings 38 = .ok (.iload_n 2, 1) := by decide +kernel
theorem dX9_spellings_39 : decode cX9_spellings 39 = .ok (.ifCond .lt 97, 3) := by decide +kernel
theorem dX9_spellings_42 : decode cX9_spellings 42 = .ok (.aload_n 0, 1) := by decide +kernel
theorem dX9_spellings_43 : decode cX9_spellings 43 = .ok (.getfield 55, 3) := by decide +kernel
theorem dX9_spellings_46 : decode cX9_spellings 46 = .ok (.iload_n 2, 1) := by decide +kernel
theorem dX9_spellings_47 : decode cX9_spellings 47 = .ok (.lconst 0, 1) := by decide +kernel
theorem dX9_spellings_48 : decode cX9_spellings 48 = .ok (.lastore, 1) := by decide +kernel
theorem dX9_spellings_49 : decode cX9_spellings 49 = .ok (.iconst 0, 1) := by decide +kernel
theorem dX9_spellings_50 : decode cX9_spellings 50 = .ok (.istore_n 3, 1) := by decide +kernel
theorem dX9_spellings_51 : decode cX9_spellings 51 = .ok (.iload_n 3, 1) := by decide +kernel
theorem dX9_spellings_52 : decode cX9_spellings 52 = .ok (.aload_n 0, 1) := by decide +kernel
theorem dX9_spellings_53 : decode cX9_spellings 53 = .ok (.getfield 62, 3) := by decide +kernel
theorem dX9_spellings_56 : decode cX9_spellings 56 = .ok (.if_icmp .ge 74, 3) := by decide +kernel
theorem dX9_spellings_59 : decode cX9_spellings 59 = .ok (.aload_n 0, 1) := by decide +kernel
theorem dX9_spellings_60 : decode cX9_spellings 60 = .ok (.iload_n 3, 1) := by decide +kernel
theorem dX9_spellings_61 : decode cX9_spellings 61 = .ok (.iload_n 2, 1) := by decide +kernel
theorem dX9_spellings_62 : decode cX9_spellings 62 = .ok (.invokevirtual 219, 3) := by decide +kernel
theorem dX9_spellings_65 : decode cX9_spellings 65 = .ok (.ifCond .eq 19, 3) := by decide +kernel
theorem dX9_spellings_68 : decode cX9_spellings 68 = .ok (.aload_n 0, 1) := by decide +kernel
theorem dX9_spellings_69 : decode cX9_spellings 69 = .ok (.getfield 55, 3) := by decide +kernel
theorem dX9_spellings_72 : decode cX9_spellings 72 = .ok (.iload_n 2, 1) := by decide +kernel
theorem dX9_spellings_73 : decode cX9_spellings 73 = .ok (.aload_n 0, 1) := by decide +kernel
theorem dX9_spellings_74 : decode cX9_spellings 74 = .ok (.getfield 22, 3) := by decide +kernel
theorem dX9_spellings_77 : decode cX9_spellings 77 = .ok (.iload_n 3, 1) := by decide +kernel
theorem dX9_spellings_78 : decode cX9_spellings 78 = .ok (.iaload, 1) := by decide +kernel
theorem dX9_spellings_79 : decode cX9_spellings 79 = .ok (.iadd, 1) := by decide +kernel
theorem dX9_spellings_80 : decode cX9_spellings 80 = .ok (.laload, 1) := by decide +kernel
theorem dX9_spellings_81 : decode cX9_spellings 81 = .ok (.goto 4, 3) := by decide +kernel
theorem dX9_spellings_84 : decode cX9_spellings 84 = .ok (.lconst 0, 1) := by decide +kernel
theorem dX9_spellings_85 : decode cX9_spellings 85 = .ok (.lstore 4, 2) := by decide +kernel
theorem dX9_spellings_87 : decode cX9_spellings 87 = .ok (.aload_n 0, 1) := by decide +kernel
theorem dX9_spellings_88 : decode cX9_spellings 88 = .ok (.getfield 55, 3) := by decide +kernel
theorem dX9_spellings_91 : decode cX9_spellings 91 = .ok (.iload_n 2, 1) := by decide +kernel
theorem dX9_spellings_92 : decode cX9_spellings 92 = .ok (.aload_n 0, 1) := by decide +kernel
theorem dX9_spellings_93 : decode cX9_spellings 93 = .ok (.getfield 55, 3) := by decide +kernel
theorem dX9_spellings_96 : decode cX9_spellings 96 = .ok (.iload_n 2, 1) := by decide +kernel
theorem dX9_spellings_97 : decode cX9_spellings 97 = .ok (.laload, 1) := by decide +kernel
theorem dX9_spellings_98 : decode cX9_spellings 98 = .ok (.lload 4, 2) := by decide +kernel
theorem dX9_spellings_100 : decode cX9_spellings 100 = .ok (.ladd, 1) := by decide +kernel
theorem dX9_spellings_101 : decode cX9_spellings 101 = .ok (.ldc2_w 222, 3) := by decide +kernel
theorem dX9_spellings_104 : decode cX9_spellings 104 = .ok (.lcmp, 1) := by decide +kernel
theorem dX9_spellings_105 : decode cX9_spellings 105 = .ok (.ifCond .le 9, 3) := by decide +kernel
theorem dX9_spellings_108 : decode cX9_spellings 108 = .ok (.ldc2_w 222, 3) := by decide +kernel
theorem dX9_spellings_111 : decode cX9_spellings 111 = .ok (.goto 12, 3) := by decide +kernel
theorem dX9_spellings_114 : decode cX9_spellings 114 = .ok (.aload_n 0, 1) := by decide +kernel
theorem dX9_spellings_115 : decode cX9_spellings 115 = .ok (.getfield 55, 3) := by decide +kernel
theorem dX9_spellings_118 : decode cX9_spellings 118 = .ok (.iload_n 2, 1) := by decide +kernel
theorem dX9_spellings_119 : decode cX9_spellings 119 = .ok (.laload, 1) := by decide +kernel
theorem dX9_spellings_120 : decode cX9_spellings 120 = .ok (.lload 4, 2) := by decide +kernel
theorem dX9_spellings_122 : decode cX9_spellings 122 = .ok (.ladd, 1) := by decide +kernel
theorem dX9_spellings_123 : decode cX9_spellings 123 = .ok (.lastore, 1) := by decide +kernel
theorem dX9_spellings_124 : decode cX9_spellings 124 = .ok (.iinc 3 1, 3) := by decide +kernel
theorem dX9_spellings_127 : decode cX9_spellings 127 = .ok (.goto (-76), 3) := by decide +kernel
theorem dX9_spellings_130 : decode cX9_spellings 130 = .ok (.iinc 2 (-1), 3) := by decide +kernel
theorem dX9_spellings_133 : decode cX9_spellings 133 = .ok (.goto (-95), 3) := by decide +kernel
theorem dX9_spellings_136 : decode cX9_spellings 136 = .ok (.aload_n 0, 1) := by decide +kernel
theorem dX9_spellings_137 : decode cX9_spellings 137 = .ok (.getfield 55, 3) := by decide +kernel
theorem dX9_spellings_140 : decode cX9_spellings 140 = .ok (.iconst 0, 1) := by decide +kernel
theorem dX9_spellings_141 : decode cX9_spellings 141 = .ok (.laload, 1) := by decide +kernel
theorem dX9_spellings_142 : decode cX9_spellings 142 = .ok (.lreturn, 1) := by decide +kernel
theorem dX9_pipes_0 : decode cX9_pipes 0 = .ok (.iload_n 1, 1) := by decide +kernel
theorem dX9_pipes_1 : decode cX9_pipes 1 = .ok (.invokestatic 190, 3) := by decide +kernel
theorem dX9_pipes_4 : decode cX9_pipes 4 = .ok (.ifCond .ne 5, 3) := by decide +kernel
theorem dX9_pipes_7 : decode cX9_pipes 7 = .ok (.iconst (-1), 1) := by decide +kernel
theorem dX9_pipes_8 : decode cX9_pipes 8 = .ok (.ireturn, 1) := by decide +kernel
theorem dX9_pipes_9 : decode cX9_pipes 9 = .ok (.aload_n 0, 1) := by decide +kernel
theorem dX9_pipes_10 : decode cX9_pipes 10 = .ok (.getfield 141, 3) := by decide +kernel
theorem dX9_pipes_13 : decode cX9_pipes 13 = .ok (.iconst 4, 1) := by decide +kernel
theorem dX9_pipes_14 : decode cX9_pipes 14 = .ok (.if_icmp .ne 6, 3) := by decide +kernel
theorem dX9_pipes_17 : decode cX9_pipes 17 = .ok (.bipush (-3), 2) := by decide +kernel
theorem dX9_pipes_19 : decode cX9_pipes 19 = .ok (.ireturn, 1) := by decide +kernel
theorem dX9_pipes_20 : decode cX9_pipes 20 = .ok (.aload_n 0, 1) := by decide +kernel
theorem dX9_pipes_21 : decode cX9_pipes 21 = .ok (.getfield 40, 3) := by decide +kernel
theorem dX9_pipes_24 : decode cX9_pipes 24 = .ok (.aload_n 0, 1) := by decide +kernel
theorem dX9_pipes_25 : decode cX9_pipes 25 = .ok (.getfield 141, 3) := by decide +kernel
theorem dX9_pipes_28 : decode cX9_pipes 28 = .ok (.iload_n 1, 1) := by decide +kernel
theorem dX9_pipes_29 : decode cX9_pipes 29 = .ok (.iastore, 1) := by decide +kernel
theorem dX9_pipes_30 : decode cX9_pipes 30 = .ok (.aload_n 0, 1) := by decide +kernel
theorem dX9_pipes_31 : decode cX9_pipes 31 = .ok (.dup, 1) := by decide +kernel
theorem dX9_pipes_32 : decode cX9_pipes 32 = .ok (.getfield 141, 3) := by decide +kernel
theorem dX9_pipes_35 : decode cX9_pipes 35 = .ok (.iconst 1, 1) := by decide +kernel
theorem dX9_pipes_36 : decode cX9_pipes 36 = .ok (.iadd, 1) := by decide +kernel
theorem dX9_pipes_37 : decode cX9_pipes 37 = .ok (.putfield 141, 3) := by decide +kernel
theorem dX9_pipes_40 : decode cX9_pipes 40 = .ok (.aload_n 0, 1) := by decide +kernel
theorem dX9_pipes_41 : decode cX9_pipes 41 = .ok (.getfield 141, 3) := by decide +kernel
theorem dX9_pipes_44 : decode cX9_pipes 44 = .ok (.ireturn, 1) := by decide +kernel
theorem dX9_unpipe_0 : decode cX9_unpipe 0 = .ok (.aload_n 0, 1) := by decide +kernel
theorem dX9_unpipe_1 : decode cX9_unpipe 1 = .ok (.getfield 141, 3) := by decide +kernel
theorem dX9_unpipe_4 : decode cX9_unpipe 4 = .ok (.istore_n 1, 1) := by decide +kernel
theorem dX9_unpipe_5 : decode cX9_unpipe 5 = .ok (.aload_n 0, 1) := by decide +kernel
theorem dX9_unpipe_6 : decode cX9_unpipe 6 = .ok (.iconst 0, 1) := by decide +kernel
theorem dX9_unpipe_7 : decode cX9_unpipe 7 = .ok (.putfield 141, 3) := by decide +kernel
theorem dX9_unpipe_10 : decode cX9_unpipe 10 = .ok (.iload_n 1, 1) := by decide +kernel
theorem dX9_unpipe_11 : decode cX9_unpipe 11 = .ok (.ireturn, 1) := by decide +kernel
theorem dX9_goesThrough_0 : decode cX9_goesThrough 0 = .ok (.iconst 0, 1) := by decide +kernel
theorem dX9_goesThrough_1 : decode cX9_goesThrough 1 = .ok (.istore_n 1, 1) := by decide +kernel
theorem dX9_goesThrough_2 : decode cX9_goesThrough 2 = .ok (.iload_n 1, 1) := by decide +kernel
theorem dX9_goesThrough_3 : decode cX9_goesThrough 3 = .ok (.aload_n 0, 1) := by decide +kernel
theorem dX9_goesThrough_4 : decode cX9_goesThrough 4 = .ok (.getfield 141, 3) := by decide +kernel
theorem dX9_goesThrough_7 : decode cX9_goesThrough 7 = .ok (.if_icmp .ge 19, 3) := by decide +kernel
theorem dX9_goesThrough_10 : decode cX9_goesThrough 10 = .ok (.aload_n 0, 1) := by decide +kernel
theorem dX9_goesThrough_11 : decode cX9_goesThrough 11 = .ok (.aload_n 0, 1) := by decide +kernel
theorem dX9_goesThrough_12 : decode cX9_goesThrough 12 = .ok (.getfield 40, 3) := by decide +kernel
theorem dX9_goesThrough_15 : decode cX9_goesThrough 15 = .ok (.iload_n 1, 1) := by decide +kernel
theorem dX9_goesThrough_16 : decode cX9_goesThrough 16 = .ok (.iaload, 1) := by decide +kernel
theorem dX9_goesThrough_17 : decode cX9_goesThrough 17 = .ok (.invokevirtual 196, 3) := by decide +kernel
theorem dX9_goesThrough_20 : decode cX9_goesThrough 20 = .ok (.iinc 1 1, 3) := by decide +kernel
theorem dX9_goesThrough_23 : decode cX9_goesThrough 23 = .ok (.goto (-21), 3) := by decide +kernel
theorem dX9_goesThrough_26 : decode cX9_goesThrough 26 = .ok (.return_, 1) := by decide +kernel
theorem dX9_piped_0 : decode cX9_piped 0 = .ok (.iload_n 1, 1) := by decide +kernel
theorem dX9_piped_1 : decode cX9_piped 1 = .ok (.invokestatic 147, 3) := by decide +kernel
theorem dX9_piped_4 : decode cX9_piped 4 = .ok (.ifCond .ne 5, 3) := by decide +kernel
theorem dX9_piped_7 : decode cX9_piped 7 = .ok (.iconst (-1), 1) := by decide +kernel
theorem dX9_piped_8 : decode cX9_piped 8 = .ok (.ireturn, 1) := by decide +kernel
theorem dX9_piped_9 : decode cX9_piped 9 = .ok (.aload_n 0, 1) := by decide +kernel
theorem dX9_piped_10 : decode cX9_piped 10 = .ok (.iload_n 1, 1) := by decide +kernel
theorem dX9_piped_11 : decode cX9_piped 11 = .ok (.invokevirtual 193, 3) := by decide +kernel
theorem dX9_piped_14 : decode cX9_piped 14 = .ok (.aload_n 0, 1) := by decide +kernel
theorem dX9_piped_15 : decode cX9_piped 15 = .ok (.invokevirtual 224, 3) := by decide +kernel
theorem dX9_piped_18 : decode cX9_piped 18 = .ok (.aload_n 0, 1) := by decide +kernel
theorem dX9_piped_19 : decode cX9_piped 19 = .ok (.iload_n 2, 1) := by decide +kernel
theorem dX9_piped_20 : decode cX9_piped 20 = .ok (.invokevirtual 199, 3) := by decide +kernel
theorem dX9_piped_23 : decode cX9_piped 23 = .ok (.ireturn, 1) := by decide +kernel
theorem dX9_fixed_0 : decode cX9_fixed 0 = .ok (.iload_n 1, 1) := by decide +kernel
theorem dX9_fixed_1 : decode cX9_fixed 1 = .ok (.invokestatic 147, 3) := by decide +kernel
theorem dX9_fixed_4 : decode cX9_fixed 4 = .ok (.ifCond .ne 5, 3) := by decide +kernel
theorem dX9_fixed_7 : decode cX9_fixed 7 = .ok (.iconst (-1), 1) := by decide +kernel
theorem dX9_fixed_8 : decode cX9_fixed 8 = .ok (.ireturn, 1) := by decide +kernel
theorem dX9_fixed_9 : decode cX9_fixed 9 = .ok (.aload_n 0, 1) := by decide +kernel
theorem dX9_fixed_10 : decode cX9_fixed 10 = .ok (.iload_n 1, 1) := by decide +kernel
theorem dX9_fixed_11 : decode cX9_fixed 11 = .ok (.invokevirtual 193, 3) := by decide +kernel
theorem dX9_fixed_14 : decode cX9_fixed 14 = .ok (.iconst 0, 1) := by decide +kernel
theorem dX9_fixed_15 : decode cX9_fixed 15 = .ok (.istore_n 2, 1) := by decide +kernel
theorem dX9_fixed_16 : decode cX9_fixed 16 = .ok (.iload_n 2, 1) := by decide +kernel
theorem dX9_fixed_17 : decode cX9_fixed 17 = .ok (.bipush 9, 2) := by decide +kernel
theorem dX9_fixed_19 : decode cX9_fixed 19 = .ok (.if_icmp .gt 26, 3) := by decide +kernel
theorem dX9_fixed_22 : decode cX9_fixed 22 = .ok (.aload_n 0, 1) := by decide +kernel
theorem dX9_fixed_23 : decode cX9_fixed 23 = .ok (.invokevirtual 205, 3) := by decide +kernel
theorem dX9_fixed_26 : decode cX9_fixed 26 = .ok (.aload_n 0, 1) := by decide +kernel
theorem dX9_fixed_27 : decode cX9_fixed 27 = .ok (.invokevirtual 224, 3) := by decide +kernel
theorem dX9_fixed_30 : decode cX9_fixed 30 = .ok (.aload_n 0, 1) := by decide +kernel
theorem dX9_fixed_31 : decode cX9_fixed 31 = .ok (.invokevirtual 208, 3) := by decide +kernel
theorem dX9_fixed_34 : decode cX9_fixed 34 = .ok (.ifCond .eq 5, 3) := by decide +kernel
theorem dX9_fixed_37 : decode cX9_fixed 37 = .ok (.iload_n 2, 1) := by decide +kernel
theorem dX9_fixed_38 : decode cX9_fixed 38 = .ok (.ireturn, 1) := by decide +kernel
theorem dX9_fixed_39 : decode cX9_fixed 39 = .ok (.iinc 2 1, 3) := by decide +kernel
theorem dX9_fixed_42 : decode cX9_fixed 42 = .ok (.goto (-26), 3) := by decide +kernel
theorem dX9_fixed_45 : decode cX9_fixed 45 = .ok (.bipush (-9), 2) := by decide +kernel
theorem dX9_fixed_47 : decode cX9_fixed 47 = .ok (.ireturn, 1) := by decide +kernel
theorem dX9_allMany_0 : decode cX9_allMany 0 = .ok (.aload_n 0, 1) := by decide +kernel
theorem dX9_allMany_1 : decode cX9_allMany 1 = .ok (.getfield 34, 3) := by decide +kernel
theorem dX9_allMany_4 : decode cX9_allMany 4 = .ok (.iconst 0, 1) := by decide +kernel
theorem dX9_allMany_5 : decode cX9_allMany 5 = .ok (.iaload, 1) := by decide +kernel
theorem dX9_allMany_6 : decode cX9_allMany 6 = .ok (.aload_n 0, 1) := by decide +kernel
theorem dX9_allMany_7 : decode cX9_allMany 7 = .ok (.getfield 34, 3) := by decide +kernel
theorem dX9_allMany_10 : decode cX9_allMany 10 = .ok (.iconst 1, 1) := by decide +kernel
theorem dX9_allMany_11 : decode cX9_allMany 11 = .ok (.iaload, 1) := by decide +kernel
theorem dX9_allMany_12 : decode cX9_allMany 12 = .ok (.iadd, 1) := by decide +kernel
theorem dX9_allMany_13 : decode cX9_allMany 13 = .ok (.aload_n 0, 1) := by decide +kernel
theorem dX9_allMany_14 : decode cX9_allMany 14 = .ok (.getfield 34, 3) := by decide +kernel
theorem dX9_allMany_17 : decode cX9_allMany 17 = .ok (.iconst 2, 1) := by decide +kernel
theorem dX9_allMany_18 : decode cX9_allMany 18 = .ok (.iaload, 1) := by decide +kernel
theorem dX9_allMany_19 : decode cX9_allMany 19 = .ok (.iadd, 1) := by decide +kernel
theorem dX9_allMany_20 : decode cX9_allMany 20 = .ok (.aload_n 0, 1) := by decide +kernel
theorem dX9_allMany_21 : decode cX9_allMany 21 = .ok (.getfield 34, 3) := by decide +kernel
theorem dX9_allMany_24 : decode cX9_allMany 24 = .ok (.iconst 3, 1) := by decide +kernel
theorem dX9_allMany_25 : decode cX9_allMany 25 = .ok (.iaload, 1) := by decide +kernel
theorem dX9_allMany_26 : decode cX9_allMany 26 = .ok (.iadd, 1) := by decide +kernel
theorem dX9_allMany_27 : decode cX9_allMany 27 = .ok (.ireturn, 1) := by decide +kernel
theorem dX9_keep_0 : decode cX9_keep 0 = .ok (.iload_n 1, 1) := by decide +kernel
theorem dX9_keep_1 : decode cX9_keep 1 = .ok (.iconst 0, 1) := by decide +kernel
theorem dX9_keep_2 : decode cX9_keep 2 = .ok (.iconst 1, 1) := by decide +kernel
theorem dX9_keep_3 : decode cX9_keep 3 = .ok (.invokestatic 66, 3) := by decide +kernel
theorem dX9_keep_6 : decode cX9_keep 6 = .ok (.ifCond .ne 5, 3) := by decide +kernel
theorem dX9_keep_9 : decode cX9_keep 9 = .ok (.iconst (-1), 1) := by decide +kernel
theorem dX9_keep_10 : decode cX9_keep 10 = .ok (.ireturn, 1) := by decide +kernel
theorem dX9_keep_11 : decode cX9_keep 11 = .ok (.bipush 74, 2) := by decide +kernel
theorem dX9_keep_13 : decode cX9_keep 13 = .ok (.iload_n 1, 1) := by decide +kernel
theorem dX9_keep_14 : decode cX9_keep 14 = .ok (.imul, 1) := by decide +kernel
theorem dX9_keep_15 : decode cX9_keep 15 = .ok (.istore_n 2, 1) := by decide +kernel
theorem dX9_keep_16 : decode cX9_keep 16 = .ok (.aload_n 0, 1) := by decide +kernel
theorem dX9_keep_17 : decode cX9_keep 17 = .ok (.getfield 59, 3) := by decide +kernel
theorem dX9_keep_20 : decode cX9_keep 20 = .ok (.iload_n 2, 1) := by decide +kernel
theorem dX9_keep_21 : decode cX9_keep 21 = .ok (.iconst 1, 1) := by decide +kernel
theorem dX9_keep_22 : decode cX9_keep 22 = .ok (.iastore, 1) := by decide +kernel
theorem dX9_keep_23 : decode cX9_keep 23 = .ok (.aload_n 0, 1) := by decide +kernel
theorem dX9_keep_24 : decode cX9_keep 24 = .ok (.getfield 59, 3) := by decide +kernel
theorem dX9_keep_27 : decode cX9_keep 27 = .ok (.iload_n 2, 1) := by decide +kernel
theorem dX9_keep_28 : decode cX9_keep 28 = .ok (.iconst 1, 1) := by decide +kernel
theorem dX9_keep_29 : decode cX9_keep 29 = .ok (.iadd, 1) := by decide +kernel
theorem dX9_keep_30 : decode cX9_keep 30 = .ok (.aload_n 0, 1) := by decide +kernel
theorem dX9_keep_31 : decode cX9_keep 31 = .ok (.getfield 141, 3) := by decide +kernel
theorem dX9_keep_34 : decode cX9_keep 34 = .ok (.iastore, 1) := by decide +kernel
theorem dX9_keep_35 : decode cX9_keep 35 = .ok (.iconst 0, 1) := by decide +kernel
theorem dX9_keep_36 : decode cX9_keep 36 = .ok (.istore_n 3, 1) := by decide +kernel
theorem dX9_keep_37 : decode cX9_keep 37 = .ok (.iload_n 3, 1) := by decide +kernel
theorem dX9_keep_38 : decode cX9_keep 38 = .ok (.iconst 4, 1) := by decide +kernel
theorem dX9_keep_39 : decode cX9_keep 39 = .ok (.if_icmp .ge 42, 3) := by decide +kernel
theorem dX9_keep_42 : decode cX9_keep 42 = .ok (.aload_n 0, 1) := by decide +kernel
theorem dX9_keep_43 : decode cX9_keep 43 = .ok (.getfield 59, 3) := by decide +kernel
theorem dX9_keep_46 : decode cX9_keep 46 = .ok (.iload_n 2, 1) := by decide +kernel
theorem dX9_keep_47 : decode cX9_keep 47 = .ok (.iconst 2, 1) := by decide +kernel
theorem dX9_keep_48 : decode cX9_keep 48 = .ok (.iadd, 1) := by decide +kernel
theorem dX9_keep_49 : decode cX9_keep 49 = .ok (.iload_n 3, 1) := by decide +kernel
theorem dX9_keep_50 : decode cX9_keep 50 = .ok (.iadd, 1) := by decide +kernel
theorem dX9_keep_51 : decode cX9_keep 51 = .ok (.aload_n 0, 1) := by decide +kernel
theorem dX9_keep_52 : decode cX9_keep 52 = .ok (.getfield 40, 3) := by decide +kernel
theorem dX9_keep_55 : decode cX9_keep 55 = .ok (.iload_n 3, 1) := by decide +kernel
theorem dX9_keep_56 : decode cX9_keep 56 = .ok (.iaload, 1) := by decide +kernel
theorem dX9_keep_57 : decode cX9_keep 57 = .ok (.iastore, 1) := by decide +kernel
theorem dX9_keep_58 : decode cX9_keep 58 = .ok (.aload_n 0, 1) := by decide +kernel
theorem dX9_keep_59 : decode cX9_keep 59 = .ok (.getfield 59, 3) := by decide +kernel
theorem dX9_keep_62 : decode cX9_keep 62 = .ok (.iload_n 2, 1) := by decide +kernel
theorem dX9_keep_63 : decode cX9_keep 63 = .ok (.bipush 6, 2) := by decide +kernel
theorem dX9_keep_65 : decode cX9_keep 65 = .ok (.iadd, 1) := by decide +kernel
theorem dX9_keep_66 : decode cX9_keep 66 = .ok (.iload_n 3, 1) := by decide +kernel
theorem dX9_keep_67 : decode cX9_keep 67 = .ok (.iadd, 1) := by decide +kernel
theorem dX9_keep_68 : decode cX9_keep 68 = .ok (.aload_n 0, 1) := by decide +kernel
theorem dX9_keep_69 : decode cX9_keep 69 = .ok (.getfield 34, 3) := by decide +kernel
theorem dX9_keep_72 : decode cX9_keep 72 = .ok (.iload_n 3, 1) := by decide +kernel
theorem dX9_keep_73 : decode cX9_keep 73 = .ok (.iaload, 1) := by decide +kernel
theorem dX9_keep_74 : decode cX9_keep 74 = .ok (.iastore, 1) := by decide +kernel
theorem dX9_keep_75 : decode cX9_keep 75 = .ok (.iinc 3 1, 3) := by decide +kernel
theorem dX9_keep_78 : decode cX9_keep 78 = .ok (.goto (-41), 3) := by decide +kernel
theorem dX9_keep_81 : decode cX9_keep 81 = .ok (.iconst 0, 1) := by decide +kernel
theorem dX9_keep_82 : decode cX9_keep 82 = .ok (.istore_n 3, 1) := by decide +kernel
theorem dX9_keep_83 : decode cX9_keep 83 = .ok (.iload_n 3, 1) := by decide +kernel
theorem dX9_keep_84 : decode cX9_keep 84 = .ok (.bipush 64, 2) := by decide +kernel
theorem dX9_keep_86 : decode cX9_keep 86 = .ok (.if_icmp .ge 26, 3) := by decide +kernel
theorem dX9_keep_89 : decode cX9_keep 89 = .ok (.aload_n 0, 1) := by decide +kernel
theorem dX9_keep_90 : decode cX9_keep 90 = .ok (.getfield 59, 3) := by decide +kernel
theorem dX9_keep_93 : decode cX9_keep 93 = .ok (.iload_n 2, 1) := by decide +kernel
theorem dX9_keep_94 : decode cX9_keep 94 = .ok (.bipush 10, 2) := by decide +kernel
theorem dX9_keep_96 : decode cX9_keep 96 = .ok (.iadd, 1) := by decide +kernel
theorem dX9_keep_97 : decode cX9_keep 97 = .ok (.iload_n 3, 1) := by decide +kernel
theorem dX9_keep_98 : decode cX9_keep 98 = .ok (.iadd, 1) := by decide +kernel
theorem dX9_keep_99 : decode cX9_keep 99 = .ok (.aload_n 0, 1) := by decide +kernel
theorem dX9_keep_100 : decode cX9_keep 100 = .ok (.getfield 37, 3) := by decide +kernel
theorem dX9_keep_103 : decode cX9_keep 103 = .ok (.iload_n 3, 1) := by decide +kernel
theorem dX9_keep_104 : decode cX9_keep 104 = .ok (.iaload, 1) := by decide +kernel
theorem dX9_keep_105 : decode cX9_keep 105 = .ok (.iastore, 1) := by decide +kernel
theorem dX9_keep_106 : decode cX9_keep 106 = .ok (.iinc 3 1, 3) := by decide +kernel
theorem dX9_keep_109 : decode cX9_keep 109 = .ok (.goto (-26), 3) := by decide +kernel
theorem dX9_keep_112 : decode cX9_keep 112 = .ok (.aload_n 0, 1) := by decide +kernel
theorem dX9_keep_113 : decode cX9_keep 113 = .ok (.invokevirtual 227, 3) := by decide +kernel
theorem dX9_keep_116 : decode cX9_keep 116 = .ok (.ireturn, 1) := by decide +kernel
theorem dX9_back_0 : decode cX9_back 0 = .ok (.iload_n 1, 1) := by decide +kernel
theorem dX9_back_1 : decode cX9_back 1 = .ok (.iconst 0, 1) := by decide +kernel
theorem dX9_back_2 : decode cX9_back 2 = .ok (.iconst 1, 1) := by decide +kernel
theorem dX9_back_3 : decode cX9_back 3 = .ok (.invokestatic 66, 3) := by decide +kernel
theorem dX9_back_6 : decode cX9_back 6 = .ok (.ifCond .ne 5, 3) := by decide +kernel
theorem dX9_back_9 : decode cX9_back 9 = .ok (.iconst (-1), 1) := by decide +kernel
theorem dX9_back_10 : decode cX9_back 10 = .ok (.ireturn, 1) := by decide +kernel
theorem dX9_back_11 : decode cX9_back 11 = .ok (.bipush 74, 2) := by decide +kernel
theorem dX9_back_13 : decode cX9_back 13 = .ok (.iload_n 1, 1) := by decide +kernel
theorem dX9_back_14 : decode cX9_back 14 = .ok (.imul, 1) := by decide +kernel
theorem dX9_back_15 : decode cX9_back 15 = .ok (.istore_n 2, 1) := by decide +kernel
theorem dX9_back_16 : decode cX9_back 16 = .ok (.aload_n 0, 1) := by decide +kernel
theorem dX9_back_17 : decode cX9_back 17 = .ok (.getfield 59, 3) := by decide +kernel
theorem dX9_back_20 : decode cX9_back 20 = .ok (.iload_n 2, 1) := by decide +kernel
theorem dX9_back_21 : decode cX9_back 21 = .ok (.iaload, 1) := by decide +kernel
theorem dX9_back_22 : decode cX9_back 22 = .ok (.ifCond .ne 6, 3) := by decide +kernel
theorem dX9_back_25 : decode cX9_back 25 = .ok (.bipush (-2), 2) := by decide +kernel
theorem dX9_back_27 : decode cX9_back 27 = .ok (.ireturn, 1) := by decide +kernel
theorem dX9_back_28 : decode cX9_back 28 = .ok (.aload_n 0, 1) := by decide +kernel
theorem dX9_back_29 : decode cX9_back 29 = .ok (.aload_n 0, 1) := by decide +kernel
theorem dX9_back_30 : decode cX9_back 30 = .ok (.getfield 59, 3) := by decide +kernel
theorem dX9_back_33 : decode cX9_back 33 = .ok (.iload_n 2, 1) := by decide +kernel
theorem dX9_back_34 : decode cX9_back 34 = .ok (.iconst 1, 1) := by decide +kernel
theorem dX9_back_35 : decode cX9_back 35 = .ok (.iadd, 1) := by decide +kernel
theorem dX9_back_36 : decode cX9_back 36 = .ok (.iaload, 1) := by decide +kernel
theorem dX9_back_37 : decode cX9_back 37 = .ok (.putfield 141, 3) := by decide +kernel
theorem dX9_back_40 : decode cX9_back 40 = .ok (.iconst 0, 1) := by decide +kernel
theorem dX9_back_41 : decode cX9_back 41 = .ok (.istore_n 3, 1) := by decide +kernel
theorem dX9_back_42 : decode cX9_back 42 = .ok (.iload_n 3, 1) := by decide +kernel
theorem dX9_back_43 : decode cX9_back 43 = .ok (.iconst 4, 1) := by decide +kernel
theorem dX9_back_44 : decode cX9_back 44 = .ok (.if_icmp .ge 42, 3) := by decide +kernel
theorem dX9_back_47 : decode cX9_back 47 = .ok (.aload_n 0, 1) := by decide +kernel
theorem dX9_back_48 : decode cX9_back 48 = .ok (.getfield 40, 3) := by decide +kernel
theorem dX9_back_51 : decode cX9_back 51 = .ok (.iload_n 3, 1) := by decide +kernel
theorem dX9_back_52 : decode cX9_back 52 = .ok (.aload_n 0, 1) := by decide +kernel
theorem dX9_back_53 : decode cX9_back 53 = .ok (.getfield 59, 3) := by decide +kernel
theorem dX9_back_56 : decode cX9_back 56 = .ok (.iload_n 2, 1) := by decide +kernel
theorem dX9_back_57 : decode cX9_back 57 = .ok (.iconst 2, 1) := by decide +kernel
theorem dX9_back_58 : decode cX9_back 58 = .ok (.iadd, 1) := by decide +kernel
theorem dX9_back_59 : decode cX9_back 59 = .ok (.iload_n 3, 1) := by decide +kernel
theorem dX9_back_60 : decode cX9_back 60 = .ok (.iadd, 1) := by decide +kernel
theorem dX9_back_61 : decode cX9_back 61 = .ok (.iaload, 1) := by decide +kernel
theorem dX9_back_62 : decode cX9_back 62 = .ok (.iastore, 1) := by decide +kernel
theorem dX9_back_63 : decode cX9_back 63 = .ok (.aload_n 0, 1) := by decide +kernel
theorem dX9_back_64 : decode cX9_back 64 = .ok (.getfield 34, 3) := by decide +kernel
theorem dX9_back_67 : decode cX9_back 67 = .ok (.iload_n 3, 1) := by decide +kernel
theorem dX9_back_68 : decode cX9_back 68 = .ok (.aload_n 0, 1) := by decide +kernel
theorem dX9_back_69 : decode cX9_back 69 = .ok (.getfield 59, 3) := by decide +kernel
theorem dX9_back_72 : decode cX9_back 72 = .ok (.iload_n 2, 1) := by decide +kernel
theorem dX9_back_73 : decode cX9_back 73 = .ok (.bipush 6, 2) := by decide +kernel
theorem dX9_back_75 : decode cX9_back 75 = .ok (.iadd, 1) := by decide +kernel
theorem dX9_back_76 : decode cX9_back 76 = .ok (.iload_n 3, 1) := by decide +kernel
theorem dX9_back_77 : decode cX9_back 77 = .ok (.iadd, 1) := by decide +kernel
theorem dX9_back_78 : decode cX9_back 78 = .ok (.iaload, 1) := by decide +kernel
theorem dX9_back_79 : decode cX9_back 79 = .ok (.iastore, 1) := by decide +kernel
theorem dX9_back_80 : decode cX9_back 80 = .ok (.iinc 3 1, 3) := by decide +kernel
theorem dX9_back_83 : decode cX9_back 83 = .ok (.goto (-41), 3) := by decide +kernel
theorem dX9_back_86 : decode cX9_back 86 = .ok (.iconst 0, 1) := by decide +kernel
theorem dX9_back_87 : decode cX9_back 87 = .ok (.istore_n 3, 1) := by decide +kernel
theorem dX9_back_88 : decode cX9_back 88 = .ok (.iload_n 3, 1) := by decide +kernel
theorem dX9_back_89 : decode cX9_back 89 = .ok (.bipush 64, 2) := by decide +kernel
theorem dX9_back_91 : decode cX9_back 91 = .ok (.if_icmp .ge 26, 3) := by decide +kernel
theorem dX9_back_94 : decode cX9_back 94 = .ok (.aload_n 0, 1) := by decide +kernel
theorem dX9_back_95 : decode cX9_back 95 = .ok (.getfield 37, 3) := by decide +kernel
theorem dX9_back_98 : decode cX9_back 98 = .ok (.iload_n 3, 1) := by decide +kernel
theorem dX9_back_99 : decode cX9_back 99 = .ok (.aload_n 0, 1) := by decide +kernel
theorem dX9_back_100 : decode cX9_back 100 = .ok (.getfield 59, 3) := by decide +kernel
theorem dX9_back_103 : decode cX9_back 103 = .ok (.iload_n 2, 1) := by decide +kernel
theorem dX9_back_104 : decode cX9_back 104 = .ok (.bipush 10, 2) := by decide +kernel
theorem dX9_back_106 : decode cX9_back 106 = .ok (.iadd, 1) := by decide +kernel
theorem dX9_back_107 : decode cX9_back 107 = .ok (.iload_n 3, 1) := by decide +kernel
theorem dX9_back_108 : decode cX9_back 108 = .ok (.iadd, 1) := by decide +kernel
theorem dX9_back_109 : decode cX9_back 109 = .ok (.iaload, 1) := by decide +kernel
theorem dX9_back_110 : decode cX9_back 110 = .ok (.iastore, 1) := by decide +kernel
theorem dX9_back_111 : decode cX9_back 111 = .ok (.iinc 3 1, 3) := by decide +kernel
theorem dX9_back_114 : decode cX9_back 114 = .ok (.goto (-26), 3) := by decide +kernel
theorem dX9_back_117 : decode cX9_back 117 = .ok (.aload_n 0, 1) := by decide +kernel
theorem dX9_back_118 : decode cX9_back 118 = .ok (.iconst 0, 1) := by decide +kernel
theorem dX9_back_119 : decode cX9_back 119 = .ok (.putfield 144, 3) := by decide +kernel
theorem dX9_back_122 : decode cX9_back 122 = .ok (.aload_n 0, 1) := by decide +kernel
theorem dX9_back_123 : decode cX9_back 123 = .ok (.invokevirtual 227, 3) := by decide +kernel
theorem dX9_back_126 : decode cX9_back 126 = .ok (.ireturn, 1) := by decide +kernel
theorem dX9_marks_0 : decode cX9_marks 0 = .ok (.iconst 0, 1) := by decide +kernel
theorem dX9_marks_1 : decode cX9_marks 1 = .ok (.istore_n 1, 1) := by decide +kernel
theorem dX9_marks_2 : decode cX9_marks 2 = .ok (.iconst 0, 1) := by decide +kernel
theorem dX9_marks_3 : decode cX9_marks 3 = .ok (.istore_n 2, 1) := by decide +kernel
theorem dX9_marks_4 : decode cX9_marks 4 = .ok (.iload_n 2, 1) := by decide +kernel
theorem dX9_marks_5 : decode cX9_marks 5 = .ok (.aload_n 0, 1) := by decide +kernel
theorem dX9_marks_6 : decode cX9_marks 6 = .ok (.getfield 62, 3) := by decide +kernel
theorem dX9_marks_9 : decode cX9_marks 9 = .ok (.if_icmp .ge 26, 3) := by decide +kernel
theorem dX9_marks_12 : decode cX9_marks 12 = .ok (.iload_n 1, 1) := by decide +kernel
theorem dX9_marks_13 : decode cX9_marks 13 = .ok (.aload_n 0, 1) := by decide +kernel
theorem dX9_marks_14 : decode cX9_marks 14 = .ok (.getfield 13, 3) := by decide +kernel
theorem dX9_marks_17 : decode cX9_marks 17 = .ok (.iload_n 2, 1) := by decide +kernel
theorem dX9_marks_18 : decode cX9_marks 18 = .ok (.iaload, 1) := by decide +kernel
theorem dX9_marks_19 : decode cX9_marks 19 = .ok (.ifCond .le 7, 3) := by decide +kernel
theorem dX9_marks_22 : decode cX9_marks 22 = .ok (.iconst 1, 1) := by decide +kernel
theorem dX9_marks_23 : decode cX9_marks 23 = .ok (.goto 4, 3) := by decide +kernel
theorem dX9_marks_26 : decode cX9_marks 26 = .ok (.iconst 0, 1) := by decide +kernel
theorem dX9_marks_27 : decode cX9_marks 27 = .ok (.iadd, 1) := by decide +kernel
theorem dX9_marks_28 : decode cX9_marks 28 = .ok (.istore_n 1, 1) := by decide +kernel
theorem dX9_marks_29 : decode cX9_marks 29 = .ok (.iinc 2 1, 3) := by decide +kernel
theorem dX9_marks_32 : decode cX9_marks 32 = .ok (.goto (-28), 3) := by decide +kernel
theorem dX9_marks_35 : decode cX9_marks 35 = .ok (.iload_n 1, 1) := by decide +kernel
theorem dX9_marks_36 : decode cX9_marks 36 = .ok (.ireturn, 1) := by decide +kernel
theorem dX9_count_0 : decode cX9_count 0 = .ok (.iload_n 1, 1) := by decide +kernel
theorem dX9_count_1 : decode cX9_count 1 = .ok (.iconst 0, 1) := by decide +kernel
theorem dX9_count_2 : decode cX9_count 2 = .ok (.bipush 7, 2) := by decide +kernel
theorem dX9_count_4 : decode cX9_count 4 = .ok (.invokestatic 66, 3) := by decide +kernel
theorem dX9_count_7 : decode cX9_count 7 = .ok (.ifCond .ne 5, 3) := by decide +kernel
theorem dX9_count_10 : decode cX9_count 10 = .ok (.iconst (-1), 1) := by decide +kernel
theorem dX9_count_11 : decode cX9_count 11 = .ok (.ireturn, 1) := by decide +kernel
theorem dX9_count_12 : decode cX9_count 12 = .ok (.iload_n 1, 1) := by decide +kernel
theorem dX9_count_13 : decode cX9_count 13 = .ok (.tableswitch 81 0 6 #[43, 48, 53, 59, 65, 71, 76], 43) := by decide +kernel
theorem dX9_count_56 : decode cX9_count 56 = .ok (.aload_n 0, 1) := by decide +kernel
theorem dX9_count_57 : decode cX9_count 57 = .ok (.getfield 62, 3) := by decide +kernel
theorem dX9_count_60 : decode cX9_count 60 = .ok (.ireturn, 1) := by decide +kernel
theorem dX9_count_61 : decode cX9_count 61 = .ok (.aload_n 0, 1) := by decide +kernel
theorem dX9_count_62 : decode cX9_count 62 = .ok (.invokevirtual 230, 3) := by decide +kernel
theorem dX9_count_65 : decode cX9_count 65 = .ok (.ireturn, 1) := by decide +kernel
theorem dX9_count_66 : decode cX9_count 66 = .ok (.aload_n 0, 1) := by decide +kernel
theorem dX9_count_67 : decode cX9_count 67 = .ok (.iconst 1, 1) := by decide +kernel
theorem dX9_count_68 : decode cX9_count 68 = .ok (.invokevirtual 116, 3) := by decide +kernel
theorem dX9_count_71 : decode cX9_count 71 = .ok (.ireturn, 1) := by decide +kernel
theorem dX9_count_72 : decode cX9_count 72 = .ok (.aload_n 0, 1) := by decide +kernel
theorem dX9_count_73 : decode cX9_count 73 = .ok (.iconst 2, 1) := by decide +kernel
theorem dX9_count_74 : decode cX9_count 74 = .ok (.invokevirtual 116, 3) := by decide +kernel
theorem dX9_count_77 : decode cX9_count 77 = .ok (.ireturn, 1) := by decide +kernel
theorem dX9_count_78 : decode cX9_count 78 = .ok (.aload_n 0, 1) := by decide +kernel
theorem dX9_count_79 : decode cX9_count 79 = .ok (.iconst 3, 1) := by decide +kernel
theorem dX9_count_80 : decode cX9_count 80 = .ok (.invokevirtual 116, 3) := by decide +kernel
theorem dX9_count_83 : decode cX9_count 83 = .ok (.ireturn, 1) := by decide +kernel
theorem dX9_count_84 : decode cX9_count 84 = .ok (.aload_n 0, 1) := by decide +kernel
theorem dX9_count_85 : decode cX9_count 85 = .ok (.getfield 141, 3) := by decide +kernel
theorem dX9_count_88 : decode cX9_count 88 = .ok (.ireturn, 1) := by decide +kernel
theorem dX9_count_89 : decode cX9_count 89 = .ok (.aload_n 0, 1) := by decide +kernel
theorem dX9_count_90 : decode cX9_count 90 = .ok (.getfield 144, 3) := by decide +kernel
theorem dX9_count_93 : decode cX9_count 93 = .ok (.ireturn, 1) := by decide +kernel
theorem dX9_count_94 : decode cX9_count 94 = .ok (.aload_n 0, 1) := by decide +kernel
theorem dX9_count_95 : decode cX9_count 95 = .ok (.getfield 82, 3) := by decide +kernel
theorem dX9_count_98 : decode cX9_count 98 = .ok (.ireturn, 1) := by decide +kernel
