theorem dX8_init_0 : decode cX8_init 0 = .ok (.aload_n 0, 1) := by decide +kernel
theorem dX8_init_1 : decode cX8_init 1 = .ok (.invokespecial 3, 3) := by decide +kernel
theorem dX8_init_4 : decode cX8_init 4 = .ok (.aload_n 0, 1) := by decide +kernel
theorem dX8_init_5 : decode cX8_init 5 = .ok (.new 9, 3) := by decide +kernel
theorem dX8_init_8 : decode cX8_init 8 = .ok (.dup, 1) := by decide +kernel
theorem dX8_init_9 : decode cX8_init 9 = .ok (.invokespecial 11, 3) := by decide +kernel
theorem dX8_init_12 : decode cX8_init 12 = .ok (.putfield 12, 3) := by decide +kernel
theorem dX8_init_15 : decode cX8_init 15 = .ok (.aload_n 0, 1) := by decide +kernel
theorem dX8_init_16 : decode cX8_init 16 = .ok (.new 16, 3) := by decide +kernel
theorem dX8_init_19 : decode cX8_init 19 = .ok (.dup, 1) := by decide +kernel
theorem dX8_init_20 : decode cX8_init 20 = .ok (.invokespecial 18, 3) := by decide +kernel
theorem dX8_init_23 : decode cX8_init 23 = .ok (.putfield 19, 3) := by decide +kernel
theorem dX8_init_26 : decode cX8_init 26 = .ok (.aload_n 0, 1) := by decide +kernel
theorem dX8_init_27 : decode cX8_init 27 = .ok (.new 16, 3) := by decide +kernel
theorem dX8_init_30 : decode cX8_init 30 = .ok (.dup, 1) := by decide +kernel
theorem dX8_init_31 : decode cX8_init 31 = .ok (.invokespecial 18, 3) := by decide +kernel
theorem dX8_init_34 : decode cX8_init 34 = .ok (.putfield 23, 3) := by decide +kernel
theorem dX8_init_37 : decode cX8_init 37 = .ok (.aload_n 0, 1) := by decide +kernel
theorem dX8_init_38 : decode cX8_init 38 = .ok (.new 26, 3) := by decide +kernel
theorem dX8_init_41 : decode cX8_init 41 = .ok (.dup, 1) := by decide +kernel
theorem dX8_init_42 : decode cX8_init 42 = .ok (.invokespecial 28, 3) := by decide +kernel
theorem dX8_init_45 : decode cX8_init 45 = .ok (.putfield 29, 3) := by decide +kernel
theorem dX8_init_48 : decode cX8_init 48 = .ok (.aload_n 0, 1) := by decide +kernel
theorem dX8_init_49 : decode cX8_init 49 = .ok (.new 33, 3) := by decide +kernel
theorem dX8_init_52 : decode cX8_init 52 = .ok (.dup, 1) := by decide +kernel
theorem dX8_init_53 : decode cX8_init 53 = .ok (.invokespecial 35, 3) := by decide +kernel
theorem dX8_init_56 : decode cX8_init 56 = .ok (.putfield 36, 3) := by decide +kernel
theorem dX8_init_59 : decode cX8_init 59 = .ok (.aload_n 0, 1) := by decide +kernel
theorem dX8_init_60 : decode cX8_init 60 = .ok (.new 40, 3) := by decide +kernel
theorem dX8_init_63 : decode cX8_init 63 = .ok (.dup, 1) := by decide +kernel
theorem dX8_init_64 : decode cX8_init 64 = .ok (.invokespecial 42, 3) := by decide +kernel
theorem dX8_init_67 : decode cX8_init 67 = .ok (.putfield 43, 3) := by decide +kernel
theorem dX8_init_70 : decode cX8_init 70 = .ok (.aload_n 0, 1) := by decide +kernel
theorem dX8_init_71 : decode cX8_init 71 = .ok (.new 47, 3) := by decide +kernel
theorem dX8_init_74 : decode cX8_init 74 = .ok (.dup, 1) := by decide +kernel
theorem dX8_init_75 : decode cX8_init 75 = .ok (.invokespecial 49, 3) := by decide +kernel
theorem dX8_init_78 : decode cX8_init 78 = .ok (.putfield 50, 3) := by decide +kernel
theorem dX8_init_81 : decode cX8_init 81 = .ok (.aload_n 0, 1) := by decide +kernel
theorem dX8_init_82 : decode cX8_init 82 = .ok (.new 54, 3) := by decide +kernel
theorem dX8_init_85 : decode cX8_init 85 = .ok (.dup, 1) := by decide +kernel
theorem dX8_init_86 : decode cX8_init 86 = .ok (.invokespecial 56, 3) := by decide +kernel
theorem dX8_init_89 : decode cX8_init 89 = .ok (.putfield 57, 3) := by decide +kernel
theorem dX8_init_92 : decode cX8_init 92 = .ok (.aload_n 0, 1) := by decide +kernel
theorem dX8_init_93 : decode cX8_init 93 = .ok (.new 61, 3) := by decide +kernel
theorem dX8_init_96 : decode cX8_init 96 = .ok (.dup, 1) := by decide +kernel
theorem dX8_init_97 : decode cX8_init 97 = .ok (.sipush 128, 3) := by decide +kernel
theorem dX8_init_100 : decode cX8_init 100 = .ok (.invokespecial 63, 3) := by decide +kernel
theorem dX8_init_103 : decode cX8_init 103 = .ok (.putfield 66, 3) := by decide +kernel
theorem dX8_init_106 : decode cX8_init 106 = .ok (.aload_n 0, 1) := by decide +kernel
theorem dX8_init_107 : decode cX8_init 107 = .ok (.new 61, 3) := by decide +kernel
theorem dX8_init_110 : decode cX8_init 110 = .ok (.dup, 1) := by decide +kernel
theorem dX8_init_111 : decode cX8_init 111 = .ok (.sipush 128, 3) := by decide +kernel
theorem dX8_init_114 : decode cX8_init 114 = .ok (.invokespecial 63, 3) := by decide +kernel
theorem dX8_init_117 : decode cX8_init 117 = .ok (.putfield 70, 3) := by decide +kernel
theorem dX8_init_120 : decode cX8_init 120 = .ok (.aload_n 0, 1) := by decide +kernel
theorem dX8_init_121 : decode cX8_init 121 = .ok (.new 61, 3) := by decide +kernel
theorem dX8_init_124 : decode cX8_init 124 = .ok (.dup, 1) := by decide +kernel
theorem dX8_init_125 : decode cX8_init 125 = .ok (.sipush 128, 3) := by decide +kernel
theorem dX8_init_128 : decode cX8_init 128 = .ok (.invokespecial 63, 3) := by decide +kernel
theorem dX8_init_131 : decode cX8_init 131 = .ok (.putfield 73, 3) := by decide +kernel
theorem dX8_init_134 : decode cX8_init 134 = .ok (.return_, 1) := by decide +kernel
theorem dX8_type_0 : decode cX8_type 0 = .ok (.iload_n 1, 1) := by decide +kernel
theorem dX8_type_1 : decode cX8_type 1 = .ok (.ifCond .lt 10, 3) := by decide +kernel
theorem dX8_type_4 : decode cX8_type 4 = .ok (.iload_n 1, 1) := by decide +kernel
theorem dX8_type_5 : decode cX8_type 5 = .ok (.sipush 255, 3) := by decide +kernel
theorem dX8_type_8 : decode cX8_type 8 = .ok (.if_icmp .le 5, 3) := by decide +kernel
theorem dX8_type_11 : decode cX8_type 11 = .ok (.iconst (-1), 1) := by decide +kernel
theorem dX8_type_12 : decode cX8_type 12 = .ok (.ireturn, 1) := by decide +kernel
theorem dX8_type_13 : decode cX8_type 13 = .ok (.aload_n 0, 1) := by decide +kernel
theorem dX8_type_14 : decode cX8_type 14 = .ok (.getfield 12, 3) := by decide +kernel
theorem dX8_type_17 : decode cX8_type 17 = .ok (.invokevirtual 76, 3) := by decide +kernel
theorem dX8_type_20 : decode cX8_type 20 = .ok (.astore_n 2, 1) := by decide +kernel
theorem dX8_type_21 : decode cX8_type 21 = .ok (.aload_n 2, 1) := by decide +kernel
theorem dX8_type_22 : decode cX8_type 22 = .ok (.iload_n 1, 1) := by decide +kernel
theorem dX8_type_23 : decode cX8_type 23 = .ok (.invokevirtual 80, 3) := by decide +kernel
theorem dX8_type_26 : decode cX8_type 26 = .ok (.ifCond .eq 10, 3) := by decide +kernel
theorem dX8_type_29 : decode cX8_type 29 = .ok (.aload_n 2, 1) := by decide +kernel
theorem dX8_type_30 : decode cX8_type 30 = .ok (.invokevirtual 84, 3) := by decide +kernel
theorem dX8_type_33 : decode cX8_type 33 = .ok (.goto 5, 3) := by decide +kernel
theorem dX8_type_36 : decode cX8_type 36 = .ok (.bipush (-3), 2) := by decide +kernel
theorem dX8_type_38 : decode cX8_type 38 = .ok (.ireturn, 1) := by decide +kernel
theorem dX8_clear_0 : decode cX8_clear 0 = .ok (.aload_n 0, 1) := by decide +kernel
theorem dX8_clear_1 : decode cX8_clear 1 = .ok (.getfield 12, 3) := by decide +kernel
theorem dX8_clear_4 : decode cX8_clear 4 = .ok (.invokevirtual 76, 3) := by decide +kernel
theorem dX8_clear_7 : decode cX8_clear 7 = .ok (.astore_n 1, 1) := by decide +kernel
theorem dX8_clear_8 : decode cX8_clear 8 = .ok (.aload_n 1, 1) := by decide +kernel
theorem dX8_clear_9 : decode cX8_clear 9 = .ok (.invokevirtual 84, 3) := by decide +kernel
theorem dX8_clear_12 : decode cX8_clear 12 = .ok (.istore_n 2, 1) := by decide +kernel
theorem dX8_clear_13 : decode cX8_clear 13 = .ok (.aload_n 1, 1) := by decide +kernel
theorem dX8_clear_14 : decode cX8_clear 14 = .ok (.invokevirtual 88, 3) := by decide +kernel
theorem dX8_clear_17 : decode cX8_clear 17 = .ok (.iload_n 2, 1) := by decide +kernel
theorem dX8_clear_18 : decode cX8_clear 18 = .ok (.ireturn, 1) := by decide +kernel
theorem dX8_tables_0 : decode cX8_tables 0 = .ok (.aload_n 0, 1) := by decide +kernel
theorem dX8_tables_1 : decode cX8_tables 1 = .ok (.getfield 12, 3) := by decide +kernel
theorem dX8_tables_4 : decode cX8_tables 4 = .ok (.aload_n 0, 1) := by decide +kernel
theorem dX8_tables_5 : decode cX8_tables 5 = .ok (.getfield 23, 3) := by decide +kernel
theorem dX8_tables_8 : decode cX8_tables 8 = .ok (.invokevirtual 91, 3) := by decide +kernel
theorem dX8_tables_11 : decode cX8_tables 11 = .ok (.istore_n 1, 1) := by decide +kernel
theorem dX8_tables_12 : decode cX8_tables 12 = .ok (.iload_n 1, 1) := by decide +kernel
theorem dX8_tables_13 : decode cX8_tables 13 = .ok (.iconst (-1), 1) := by decide +kernel
theorem dX8_tables_14 : decode cX8_tables 14 = .ok (.if_icmp .eq 8, 3) := by decide +kernel
theorem dX8_tables_17 : decode cX8_tables 17 = .ok (.bipush (-10), 2) := by decide +kernel
theorem dX8_tables_19 : decode cX8_tables 19 = .ok (.iload_n 1, 1) := by decide +kernel
theorem dX8_tables_20 : decode cX8_tables 20 = .ok (.isub, 1) := by decide +kernel
theorem dX8_tables_21 : decode cX8_tables 21 = .ok (.ireturn, 1) := by decide +kernel
theorem dX8_tables_22 : decode cX8_tables 22 = .ok (.aload_n 0, 1) := by decide +kernel
theorem dX8_tables_23 : decode cX8_tables 23 = .ok (.getfield 19, 3) := by decide +kernel
theorem dX8_tables_26 : decode cX8_tables 26 = .ok (.astore_n 2, 1) := by decide +kernel
theorem dX8_tables_27 : decode cX8_tables 27 = .ok (.aload_n 0, 1) := by decide +kernel
theorem dX8_tables_28 : decode cX8_tables 28 = .ok (.aload_n 0, 1) := by decide +kernel
theorem dX8_tables_29 : decode cX8_tables 29 = .ok (.getfield 23, 3) := by decide +kernel
theorem dX8_tables_32 : decode cX8_tables 32 = .ok (.putfield 19, 3) := by decide +kernel
theorem dX8_tables_35 : decode cX8_tables 35 = .ok (.aload_n 0, 1) := by decide +kernel
theorem dX8_tables_36 : decode cX8_tables 36 = .ok (.aload_n 2, 1) := by decide +kernel
theorem dX8_tables_37 : decode cX8_tables 37 = .ok (.putfield 23, 3) := by decide +kernel
theorem dX8_tables_40 : decode cX8_tables 40 = .ok (.aload_n 0, 1) := by decide +kernel
theorem dX8_tables_41 : decode cX8_tables 41 = .ok (.getfield 12, 3) := by decide +kernel
theorem dX8_tables_44 : decode cX8_tables 44 = .ok (.invokevirtual 76, 3) := by decide +kernel
theorem dX8_tables_47 : decode cX8_tables 47 = .ok (.invokevirtual 88, 3) := by decide +kernel
theorem dX8_tables_50 : decode cX8_tables 50 = .ok (.aload_n 0, 1) := by decide +kernel
theorem dX8_tables_51 : decode cX8_tables 51 = .ok (.getfield 29, 3) := by decide +kernel
theorem dX8_tables_54 : decode cX8_tables 54 = .ok (.invokevirtual 95, 3) := by decide +kernel
theorem dX8_tables_57 : decode cX8_tables 57 = .ok (.aload_n 0, 1) := by decide +kernel
theorem dX8_tables_58 : decode cX8_tables 58 = .ok (.getfield 36, 3) := by decide +kernel
theorem dX8_tables_61 : decode cX8_tables 61 = .ok (.invokevirtual 96, 3) := by decide +kernel
theorem dX8_tables_64 : decode cX8_tables 64 = .ok (.aload_n 0, 1) := by decide +kernel
theorem dX8_tables_65 : decode cX8_tables 65 = .ok (.getfield 43, 3) := by decide +kernel
theorem dX8_tables_68 : decode cX8_tables 68 = .ok (.invokevirtual 99, 3) := by decide +kernel
theorem dX8_tables_71 : decode cX8_tables 71 = .ok (.aload_n 0, 1) := by decide +kernel
theorem dX8_tables_72 : decode cX8_tables 72 = .ok (.getfield 19, 3) := by decide +kernel
theorem dX8_tables_75 : decode cX8_tables 75 = .ok (.invokevirtual 102, 3) := by decide +kernel
theorem dX8_tables_78 : decode cX8_tables 78 = .ok (.ireturn, 1) := by decide +kernel
theorem dX8_code_0 : decode cX8_code 0 = .ok (.aload_n 0, 1) := by decide +kernel
theorem dX8_code_1 : decode cX8_code 1 = .ok (.getfield 19, 3) := by decide +kernel
theorem dX8_code_4 : decode cX8_code 4 = .ok (.iload_n 1, 1) := by decide +kernel
theorem dX8_code_5 : decode cX8_code 5 = .ok (.invokevirtual 105, 3) := by decide +kernel
theorem dX8_code_8 : decode cX8_code 8 = .ok (.ifCond .ne 5, 3) := by decide +kernel
theorem dX8_code_11 : decode cX8_code 11 = .ok (.iconst (-1), 1) := by decide +kernel
theorem dX8_code_12 : decode cX8_code 12 = .ok (.ireturn, 1) := by decide +kernel
theorem dX8_code_13 : decode cX8_code 13 = .ok (.iload_n 2, 1) := by decide +kernel
theorem dX8_code_14 : decode cX8_code 14 = .ok (.tableswitch 107 0 8 #[50, 59, 68, 77, 86, 95, 95, 95, 95], 50) := by decide +kernel
theorem dX8_code_64 : decode cX8_code 64 = .ok (.aload_n 0, 1) := by decide +kernel
theorem dX8_code_65 : decode cX8_code 65 = .ok (.getfield 19, 3) := by decide +kernel
theorem dX8_code_68 : decode cX8_code 68 = .ok (.iload_n 1, 1) := by decide +kernel
theorem dX8_code_69 : decode cX8_code 69 = .ok (.invokevirtual 108, 3) := by decide +kernel
theorem dX8_code_72 : decode cX8_code 72 = .ok (.ireturn, 1) := by decide +kernel
theorem dX8_code_73 : decode cX8_code 73 = .ok (.aload_n 0, 1) := by decide +kernel
theorem dX8_code_74 : decode cX8_code 74 = .ok (.getfield 19, 3) := by decide +kernel
theorem dX8_code_77 : decode cX8_code 77 = .ok (.iload_n 1, 1) := by decide +kernel
theorem dX8_code_78 : decode cX8_code 78 = .ok (.invokevirtual 112, 3) := by decide +kernel
theorem dX8_code_81 : decode cX8_code 81 = .ok (.ireturn, 1) := by decide +kernel
theorem dX8_code_82 : decode cX8_code 82 = .ok (.aload_n 0, 1) := by decide +kernel
theorem dX8_code_83 : decode cX8_code 83 = .ok (.getfield 19, 3) := by decide +kernel
theorem dX8_code_86 : decode cX8_code 86 = .ok (.iload_n 1, 1) := by decide +kernel
theorem dX8_code_87 : decode cX8_code 87 = .ok (.invokevirtual 115, 3) := by decide +kernel
theorem dX8_code_90 : decode cX8_code 90 = .ok (.ireturn, 1) := by decide +kernel
theorem dX8_code_91 : decode cX8_code 91 = .ok (.aload_n 0, 1) := by decide +kernel
theorem dX8_code_92 : decode cX8_code 92 = .ok (.getfield 19, 3) := by decide +kernel
theorem dX8_code_95 : decode cX8_code 95 = .ok (.iload_n 1, 1) := by decide +kernel
theorem dX8_code_96 : decode cX8_code 96 = .ok (.invokevirtual 118, 3) := by decide +kernel
theorem dX8_code_99 : decode cX8_code 99 = .ok (.ireturn, 1) := by decide +kernel
theorem dX8_code_100 : decode cX8_code 100 = .ok (.aload_n 0, 1) := by decide +kernel
theorem dX8_code_101 : decode cX8_code 101 = .ok (.getfield 19, 3) := by decide +kernel
theorem dX8_code_104 : decode cX8_code 104 = .ok (.iload_n 1, 1) := by decide +kernel
theorem dX8_code_105 : decode cX8_code 105 = .ok (.invokevirtual 121, 3) := by decide +kernel
theorem dX8_code_108 : decode cX8_code 108 = .ok (.ireturn, 1) := by decide +kernel
theorem dX8_code_109 : decode cX8_code 109 = .ok (.aload_n 0, 1) := by decide +kernel
theorem dX8_code_110 : decode cX8_code 110 = .ok (.getfield 19, 3) := by decide +kernel
theorem dX8_code_113 : decode cX8_code 113 = .ok (.iload_n 1, 1) := by decide +kernel
theorem dX8_code_114 : decode cX8_code 114 = .ok (.iload_n 2, 1) := by decide +kernel
theorem dX8_code_115 : decode cX8_code 115 = .ok (.iconst 5, 1) := by decide +kernel
theorem dX8_code_116 : decode cX8_code 116 = .ok (.isub, 1) := by decide +kernel
theorem dX8_code_117 : decode cX8_code 117 = .ok (.invokevirtual 124, 3) := by decide +kernel
theorem dX8_code_120 : decode cX8_code 120 = .ok (.ireturn, 1) := by decide +kernel
theorem dX8_code_121 : decode cX8_code 121 = .ok (.iconst (-1), 1) := by decide +kernel
theorem dX8_code_122 : decode cX8_code 122 = .ok (.ireturn, 1) := by decide +kernel
theorem dX8_pair_0 : decode cX8_pair 0 = .ok (.aload_n 0, 1) := by decide +kernel
theorem dX8_pair_1 : decode cX8_pair 1 = .ok (.getfield 19, 3) := by decide +kernel
theorem dX8_pair_4 : decode cX8_pair 4 = .ok (.iload_n 1, 1) := by decide +kernel
theorem dX8_pair_5 : decode cX8_pair 5 = .ok (.invokevirtual 105, 3) := by decide +kernel
theorem dX8_pair_8 : decode cX8_pair 8 = .ok (.ifCond .eq 14, 3) := by decide +kernel
theorem dX8_pair_11 : decode cX8_pair 11 = .ok (.aload_n 0, 1) := by decide +kernel
theorem dX8_pair_12 : decode cX8_pair 12 = .ok (.getfield 19, 3) := by decide +kernel
theorem dX8_pair_15 : decode cX8_pair 15 = .ok (.iload_n 2, 1) := by decide +kernel
theorem dX8_pair_16 : decode cX8_pair 16 = .ok (.invokevirtual 105, 3) := by decide +kernel
theorem dX8_pair_19 : decode cX8_pair 19 = .ok (.ifCond .ne 5, 3) := by decide +kernel
theorem dX8_pair_22 : decode cX8_pair 22 = .ok (.iconst (-1), 1) := by decide +kernel
theorem dX8_pair_23 : decode cX8_pair 23 = .ok (.ireturn, 1) := by decide +kernel
theorem dX8_pair_24 : decode cX8_pair 24 = .ok (.aload_n 0, 1) := by decide +kernel
theorem dX8_pair_25 : decode cX8_pair 25 = .ok (.getfield 19, 3) := by decide +kernel
theorem dX8_pair_28 : decode cX8_pair 28 = .ok (.iload_n 1, 1) := by decide +kernel
theorem dX8_pair_29 : decode cX8_pair 29 = .ok (.iload_n 2, 1) := by decide +kernel
theorem dX8_pair_30 : decode cX8_pair 30 = .ok (.invokevirtual 128, 3) := by decide +kernel
theorem dX8_pair_33 : decode cX8_pair 33 = .ok (.ireturn, 1) := by decide +kernel
theorem dX8_puts_0 : decode cX8_puts 0 = .ok (.aload_n 0, 1) := by decide +kernel
theorem dX8_puts_1 : decode cX8_puts 1 = .ok (.getfield 29, 3) := by decide +kernel
theorem dX8_puts_4 : decode cX8_puts 4 = .ok (.iload_n 1, 1) := by decide +kernel
theorem dX8_puts_5 : decode cX8_puts 5 = .ok (.invokevirtual 131, 3) := by decide +kernel
theorem dX8_puts_8 : decode cX8_puts 8 = .ok (.astore_n 3, 1) := by decide +kernel
theorem dX8_puts_9 : decode cX8_puts 9 = .ok (.aload_n 3, 1) := by decide +kernel
theorem dX8_puts_10 : decode cX8_puts 10 = .ok (.ifnull 14, 3) := by decide +kernel
theorem dX8_puts_13 : decode cX8_puts 13 = .ok (.aload_n 0, 1) := by decide +kernel
theorem dX8_puts_14 : decode cX8_puts 14 = .ok (.getfield 19, 3) := by decide +kernel
theorem dX8_puts_17 : decode cX8_puts 17 = .ok (.iload_n 2, 1) := by decide +kernel
theorem dX8_puts_18 : decode cX8_puts 18 = .ok (.invokevirtual 105, 3) := by decide +kernel
theorem dX8_puts_21 : decode cX8_puts 21 = .ok (.ifCond .ne 5, 3) := by decide +kernel
theorem dX8_puts_24 : decode cX8_puts 24 = .ok (.iconst (-1), 1) := by decide +kernel
theorem dX8_puts_25 : decode cX8_puts 25 = .ok (.ireturn, 1) := by decide +kernel
theorem dX8_puts_26 : decode cX8_puts 26 = .ok (.aload_n 3, 1) := by decide +kernel
theorem dX8_puts_27 : decode cX8_puts 27 = .ok (.invokevirtual 84, 3) := by decide +kernel
theorem dX8_puts_30 : decode cX8_puts 30 = .ok (.bipush 16, 2) := by decide +kernel
theorem dX8_puts_32 : decode cX8_puts 32 = .ok (.if_icmp .lt 6, 3) := by decide +kernel
theorem dX8_puts_35 : decode cX8_puts 35 = .ok (.bipush (-3), 2) := by decide +kernel
theorem dX8_puts_37 : decode cX8_puts 37 = .ok (.ireturn, 1) := by decide +kernel
theorem dX8_puts_38 : decode cX8_puts 38 = .ok (.aload_n 0, 1) := by decide +kernel
theorem dX8_puts_39 : decode cX8_puts 39 = .ok (.getfield 43, 3) := by decide +kernel
theorem dX8_puts_42 : decode cX8_puts 42 = .ok (.iload_n 1, 1) := by decide +kernel
theorem dX8_puts_43 : decode cX8_puts 43 = .ok (.aload_n 3, 1) := by decide +kernel
theorem dX8_puts_44 : decode cX8_puts 44 = .ok (.invokevirtual 135, 3) := by decide +kernel
theorem dX8_puts_47 : decode cX8_puts 47 = .ok (.aload_n 3, 1) := by decide +kernel
theorem dX8_puts_48 : decode cX8_puts 48 = .ok (.iload_n 2, 1) := by decide +kernel
theorem dX8_puts_49 : decode cX8_puts 49 = .ok (.invokevirtual 80, 3) := by decide +kernel
theorem dX8_puts_52 : decode cX8_puts 52 = .ok (.pop, 1) := by decide +kernel
theorem dX8_puts_53 : decode cX8_puts 53 = .ok (.aload_n 3, 1) := by decide +kernel
theorem dX8_puts_54 : decode cX8_puts 54 = .ok (.invokevirtual 84, 3) := by decide +kernel
theorem dX8_puts_57 : decode cX8_puts 57 = .ok (.ireturn, 1) := by decide +kernel
theorem dX8_cuts_0 : decode cX8_cuts 0 = .ok (.aload_n 0, 1) := by decide +kernel
theorem dX8_cuts_1 : decode cX8_cuts 1 = .ok (.getfield 29, 3) := by decide +kernel
theorem dX8_cuts_4 : decode cX8_cuts 4 = .ok (.iload_n 1, 1) := by decide +kernel
theorem dX8_cuts_5 : decode cX8_cuts 5 = .ok (.invokevirtual 131, 3) := by decide +kernel
theorem dX8_cuts_8 : decode cX8_cuts 8 = .ok (.astore_n 2, 1) := by decide +kernel
theorem dX8_cuts_9 : decode cX8_cuts 9 = .ok (.aload_n 2, 1) := by decide +kernel
theorem dX8_cuts_10 : decode cX8_cuts 10 = .ok (.ifnonnull 5, 3) := by decide +kernel
theorem dX8_cuts_13 : decode cX8_cuts 13 = .ok (.iconst (-1), 1) := by decide +kernel
theorem dX8_cuts_14 : decode cX8_cuts 14 = .ok (.ireturn, 1) := by decide +kernel
theorem dX8_cuts_15 : decode cX8_cuts 15 = .ok (.aload_n 2, 1) := by decide +kernel
theorem dX8_cuts_16 : decode cX8_cuts 16 = .ok (.invokevirtual 84, 3) := by decide +kernel
theorem dX8_cuts_19 : decode cX8_cuts 19 = .ok (.istore_n 3, 1) := by decide +kernel
theorem dX8_cuts_20 : decode cX8_cuts 20 = .ok (.iload_n 3, 1) := by decide +kernel
theorem dX8_cuts_21 : decode cX8_cuts 21 = .ok (.ifCond .ne 6, 3) := by decide +kernel
theorem dX8_cuts_24 : decode cX8_cuts 24 = .ok (.bipush (-2), 2) := by decide +kernel
theorem dX8_cuts_26 : decode cX8_cuts 26 = .ok (.ireturn, 1) := by decide +kernel
theorem dX8_cuts_27 : decode cX8_cuts 27 = .ok (.aload_n 0, 1) := by decide +kernel
theorem dX8_cuts_28 : decode cX8_cuts 28 = .ok (.getfield 43, 3) := by decide +kernel
theorem dX8_cuts_31 : decode cX8_cuts 31 = .ok (.iload_n 1, 1) := by decide +kernel
theorem dX8_cuts_32 : decode cX8_cuts 32 = .ok (.aload_n 2, 1) := by decide +kernel
theorem dX8_cuts_33 : decode cX8_cuts 33 = .ok (.invokevirtual 135, 3) := by decide +kernel
theorem dX8_cuts_36 : decode cX8_cuts 36 = .ok (.aload_n 2, 1) := by decide +kernel
theorem dX8_cuts_37 : decode cX8_cuts 37 = .ok (.iload_n 3, 1) := by decide +kernel
theorem dX8_cuts_38 : decode cX8_cuts 38 = .ok (.iconst 1, 1) := by decide +kernel
theorem dX8_cuts_39 : decode cX8_cuts 39 = .ok (.isub, 1) := by decide +kernel
theorem dX8_cuts_40 : decode cX8_cuts 40 = .ok (.invokevirtual 139, 3) := by decide +kernel
theorem dX8_cuts_43 : decode cX8_cuts 43 = .ok (.istore 4, 2) := by decide +kernel
theorem dX8_cuts_45 : decode cX8_cuts 45 = .ok (.aload_n 2, 1) := by decide +kernel
theorem dX8_cuts_46 : decode cX8_cuts 46 = .ok (.iload_n 3, 1) := by decide +kernel
theorem dX8_cuts_47 : decode cX8_cuts 47 = .ok (.iconst 1, 1) := by decide +kernel
theorem dX8_cuts_48 : decode cX8_cuts 48 = .ok (.isub, 1) := by decide +kernel
theorem dX8_cuts_49 : decode cX8_cuts 49 = .ok (.invokevirtual 142, 3) := by decide +kernel
theorem dX8_cuts_52 : decode cX8_cuts 52 = .ok (.iload 4, 2) := by decide +kernel
theorem dX8_cuts_54 : decode cX8_cuts 54 = .ok (.ireturn, 1) := by decide +kernel
theorem dX8_appends_0 : decode cX8_appends 0 = .ok (.aload_n 0, 1) := by decide +kernel
theorem dX8_appends_1 : decode cX8_appends 1 = .ok (.getfield 29, 3) := by decide +kernel
theorem dX8_appends_4 : decode cX8_appends 4 = .ok (.iload_n 1, 1) := by decide +kernel
theorem dX8_appends_5 : decode cX8_appends 5 = .ok (.invokevirtual 131, 3) := by decide +kernel
theorem dX8_appends_8 : decode cX8_appends 8 = .ok (.astore_n 3, 1) := by decide +kernel
theorem dX8_appends_9 : decode cX8_appends 9 = .ok (.aload_n 0, 1) := by decide +kernel
theorem dX8_appends_10 : decode cX8_appends 10 = .ok (.getfield 29, 3) := by decide +kernel
theorem dX8_appends_13 : decode cX8_appends 13 = .ok (.iload_n 2, 1) := by decide +kernel
theorem dX8_appends_14 : decode cX8_appends 14 = .ok (.invokevirtual 131, 3) := by decide +kernel
theorem dX8_appends_17 : decode cX8_appends 17 = .ok (.astore 4, 2) := by decide +kernel
theorem dX8_appends_19 : decode cX8_appends 19 = .ok (.aload_n 3, 1) := by decide +kernel
theorem dX8_appends_20 : decode cX8_appends 20 = .ok (.ifnull 8, 3) := by decide +kernel
theorem dX8_appends_23 : decode cX8_appends 23 = .ok (.aload 4, 2) := by decide +kernel
theorem dX8_appends_25 : decode cX8_appends 25 = .ok (.ifnonnull 5, 3) := by decide +kernel
theorem dX8_appends_28 : decode cX8_appends 28 = .ok (.iconst (-1), 1) := by decide +kernel
theorem dX8_appends_29 : decode cX8_appends 29 = .ok (.ireturn, 1) := by decide +kernel
theorem dX8_appends_30 : decode cX8_appends 30 = .ok (.aload_n 3, 1) := by decide +kernel
theorem dX8_appends_31 : decode cX8_appends 31 = .ok (.invokevirtual 84, 3) := by decide +kernel
theorem dX8_appends_34 : decode cX8_appends 34 = .ok (.aload 4, 2) := by decide +kernel
theorem dX8_appends_36 : decode cX8_appends 36 = .ok (.invokevirtual 84, 3) := by decide +kernel
theorem dX8_appends_39 : decode cX8_appends 39 = .ok (.iadd, 1) := by decide +kernel
theorem dX8_appends_40 : decode cX8_appends 40 = .ok (.bipush 16, 2) := by decide +kernel
theorem dX8_appends_42 : decode cX8_appends 42 = .ok (.if_icmp .le 6, 3) := by decide +kernel
theorem dX8_appends_45 : decode cX8_appends 45 = .ok (.bipush (-3), 2) := by decide +kernel
theorem dX8_appends_47 : decode cX8_appends 47 = .ok (.ireturn, 1) := by decide +kernel
theorem dX8_appends_48 : decode cX8_appends 48 = .ok (.aload_n 0, 1) := by decide +kernel
theorem dX8_appends_49 : decode cX8_appends 49 = .ok (.getfield 43, 3) := by decide +kernel
theorem dX8_appends_52 : decode cX8_appends 52 = .ok (.iload_n 1, 1) := by decide +kernel
theorem dX8_appends_53 : decode cX8_appends 53 = .ok (.aload_n 3, 1) := by decide +kernel
theorem dX8_appends_54 : decode cX8_appends 54 = .ok (.invokevirtual 135, 3) := by decide +kernel
theorem dX8_appends_57 : decode cX8_appends 57 = .ok (.aload_n 3, 1) := by decide +kernel
theorem dX8_appends_58 : decode cX8_appends 58 = .ok (.aload 4, 2) := by decide +kernel
theorem dX8_appends_60 : decode cX8_appends 60 = .ok (.invokevirtual 145, 3) := by decide +kernel
theorem dX8_appends_63 : decode cX8_appends 63 = .ok (.aload_n 3, 1) := by decide +kernel
theorem dX8_appends_64 : decode cX8_appends 64 = .ok (.invokevirtual 84, 3) := by decide +kernel
theorem dX8_appends_67 : decode cX8_appends 67 = .ok (.ireturn, 1) := by decide +kernel
theorem dX8_forms_0 : decode cX8_forms 0 = .ok (.aload_n 0, 1) := by decide +kernel
theorem dX8_forms_1 : decode cX8_forms 1 = .ok (.getfield 29, 3) := by decide +kernel
theorem dX8_forms_4 : decode cX8_forms 4 = .ok (.iload_n 1, 1) := by decide +kernel
theorem dX8_forms_5 : decode cX8_forms 5 = .ok (.invokevirtual 131, 3) := by decide +kernel
theorem dX8_forms_8 : decode cX8_forms 8 = .ok (.astore_n 3, 1) := by decide +kernel
theorem dX8_forms_9 : decode cX8_forms 9 = .ok (.aload_n 3, 1) := by decide +kernel
theorem dX8_forms_10 : decode cX8_forms 10 = .ok (.ifnull 10, 3) := by decide +kernel
theorem dX8_forms_13 : decode cX8_forms 13 = .ok (.iload_n 2, 1) := by decide +kernel
theorem dX8_forms_14 : decode cX8_forms 14 = .ok (.invokestatic 149, 3) := by decide +kernel
theorem dX8_forms_17 : decode cX8_forms 17 = .ok (.ifCond .ne 5, 3) := by decide +kernel
theorem dX8_forms_20 : decode cX8_forms 20 = .ok (.iconst (-1), 1) := by decide +kernel
theorem dX8_forms_21 : decode cX8_forms 21 = .ok (.ireturn, 1) := by decide +kernel
theorem dX8_forms_22 : decode cX8_forms 22 = .ok (.aload_n 0, 1) := by decide +kernel
theorem dX8_forms_23 : decode cX8_forms 23 = .ok (.getfield 50, 3) := by decide +kernel
theorem dX8_forms_26 : decode cX8_forms 26 = .ok (.iload_n 2, 1) := by decide +kernel
theorem dX8_forms_27 : decode cX8_forms 27 = .ok (.aload_n 0, 1) := by decide +kernel
theorem dX8_forms_28 : decode cX8_forms 28 = .ok (.getfield 19, 3) := by decide +kernel
theorem dX8_forms_31 : decode cX8_forms 31 = .ok (.aload_n 3, 1) := by decide +kernel
theorem dX8_forms_32 : decode cX8_forms 32 = .ok (.aload_n 0, 1) := by decide +kernel
theorem dX8_forms_33 : decode cX8_forms 33 = .ok (.getfield 66, 3) := by decide +kernel
theorem dX8_forms_36 : decode cX8_forms 36 = .ok (.invokevirtual 152, 3) := by decide +kernel
theorem dX8_forms_39 : decode cX8_forms 39 = .ok (.aload_n 0, 1) := by decide +kernel
theorem dX8_forms_40 : decode cX8_forms 40 = .ok (.getfield 66, 3) := by decide +kernel
theorem dX8_forms_43 : decode cX8_forms 43 = .ok (.invokevirtual 84, 3) := by decide +kernel
theorem dX8_forms_46 : decode cX8_forms 46 = .ok (.bipush 16, 2) := by decide +kernel
theorem dX8_forms_48 : decode cX8_forms 48 = .ok (.if_icmp .le 6, 3) := by decide +kernel
theorem dX8_forms_51 : decode cX8_forms 51 = .ok (.bipush (-3), 2) := by decide +kernel
theorem dX8_forms_53 : decode cX8_forms 53 = .ok (.ireturn, 1) := by decide +kernel
theorem dX8_forms_54 : decode cX8_forms 54 = .ok (.aload_n 0, 1) := by decide +kernel
theorem dX8_forms_55 : decode cX8_forms 55 = .ok (.getfield 43, 3) := by decide +kernel
theorem dX8_forms_58 : decode cX8_forms 58 = .ok (.iload_n 1, 1) := by decide +kernel
theorem dX8_forms_59 : decode cX8_forms 59 = .ok (.aload_n 3, 1) := by decide +kernel
theorem dX8_forms_60 : decode cX8_forms 60 = .ok (.invokevirtual 135, 3) := by decide +kernel
theorem dX8_forms_63 : decode cX8_forms 63 = .ok (.aload_n 3, 1) := by decide +kernel
theorem dX8_forms_64 : decode cX8_forms 64 = .ok (.aload_n 0, 1) := by decide +kernel
theorem dX8_forms_65 : decode cX8_forms 65 = .ok (.getfield 66, 3) := by decide +kernel
theorem dX8_forms_68 : decode cX8_forms 68 = .ok (.invokevirtual 156, 3) := by decide +kernel
theorem dX8_forms_71 : decode cX8_forms 71 = .ok (.aload_n 3, 1) := by decide +kernel
theorem dX8_forms_72 : decode cX8_forms 72 = .ok (.invokevirtual 84, 3) := by decide +kernel
theorem dX8_forms_75 : decode cX8_forms 75 = .ok (.ireturn, 1) := by decide +kernel
theorem dX8_undo_0 : decode cX8_undo 0 = .ok (.aload_n 0, 1) := by decide +kernel
theorem dX8_undo_1 : decode cX8_undo 1 = .ok (.getfield 29, 3) := by decide +kernel
theorem dX8_undo_4 : decode cX8_undo 4 = .ok (.aload_n 0, 1) := by decide +kernel
theorem dX8_undo_5 : decode cX8_undo 5 = .ok (.getfield 43, 3) := by decide +kernel
theorem dX8_undo_8 : decode cX8_undo 8 = .ok (.invokevirtual 159, 3) := by decide +kernel
theorem dX8_undo_11 : decode cX8_undo 11 = .ok (.invokevirtual 131, 3) := by decide +kernel
theorem dX8_undo_14 : decode cX8_undo 14 = .ok (.astore_n 1, 1) := by decide +kernel
theorem dX8_undo_15 : decode cX8_undo 15 = .ok (.aload_n 1, 1) := by decide +kernel
theorem dX8_undo_16 : decode cX8_undo 16 = .ok (.ifnonnull 6, 3) := by decide +kernel
theorem dX8_undo_19 : decode cX8_undo 19 = .ok (.bipush (-2), 2) := by decide +kernel
theorem dX8_undo_21 : decode cX8_undo 21 = .ok (.ireturn, 1) := by decide +kernel
theorem dX8_undo_22 : decode cX8_undo 22 = .ok (.aload_n 0, 1) := by decide +kernel
theorem dX8_undo_23 : decode cX8_undo 23 = .ok (.getfield 43, 3) := by decide +kernel
theorem dX8_undo_26 : decode cX8_undo 26 = .ok (.aload_n 1, 1) := by decide +kernel
theorem dX8_undo_27 : decode cX8_undo 27 = .ok (.invokevirtual 162, 3) := by decide +kernel
theorem dX8_undo_30 : decode cX8_undo 30 = .ok (.aload_n 0, 1) := by decide +kernel
theorem dX8_undo_31 : decode cX8_undo 31 = .ok (.getfield 43, 3) := by decide +kernel
theorem dX8_undo_34 : decode cX8_undo 34 = .ok (.invokevirtual 165, 3) := by decide +kernel
theorem dX8_undo_37 : decode cX8_undo 37 = .ok (.ireturn, 1) := by decide +kernel
theorem dX8_at_0 : decode cX8_at 0 = .ok (.aload_n 0, 1) := by decide +kernel
theorem dX8_at_1 : decode cX8_at 1 = .ok (.getfield 29, 3) := by decide +kernel
theorem dX8_at_4 : decode cX8_at 4 = .ok (.iload_n 1, 1) := by decide +kernel
theorem dX8_at_5 : decode cX8_at 5 = .ok (.invokevirtual 131, 3) := by decide +kernel
theorem dX8_at_8 : decode cX8_at 8 = .ok (.astore_n 3, 1) := by decide +kernel
theorem dX8_at_9 : decode cX8_at 9 = .ok (.aload_n 3, 1) := by decide +kernel
theorem dX8_at_10 : decode cX8_at 10 = .ok (.ifnonnull 7, 3) := by decide +kernel
theorem dX8_at_13 : decode cX8_at 13 = .ok (.iconst (-1), 1) := by decide +kernel
theorem dX8_at_14 : decode cX8_at 14 = .ok (.goto 8, 3) := by decide +kernel
theorem dX8_at_17 : decode cX8_at 17 = .ok (.aload_n 3, 1) := by decide +kernel
theorem dX8_at_18 : decode cX8_at 18 = .ok (.iload_n 2, 1) := by decide +kernel
theorem dX8_at_19 : decode cX8_at 19 = .ok (.invokestatic 168, 3) := by decide +kernel
theorem dX8_at_22 : decode cX8_at 22 = .ok (.ireturn, 1) := by decide +kernel
theorem dX8_ruled_0 : decode cX8_ruled 0 = .ok (.aload_n 0, 1) := by decide +kernel
theorem dX8_ruled_1 : decode cX8_ruled 1 = .ok (.getfield 29, 3) := by decide +kernel
theorem dX8_ruled_4 : decode cX8_ruled 4 = .ok (.iload_n 1, 1) := by decide +kernel
theorem dX8_ruled_5 : decode cX8_ruled 5 = .ok (.invokevirtual 131, 3) := by decide +kernel
theorem dX8_ruled_8 : decode cX8_ruled 8 = .ok (.astore 4, 2) := by decide +kernel
theorem dX8_ruled_10 : decode cX8_ruled 10 = .ok (.aload 4, 2) := by decide +kernel
theorem dX8_ruled_12 : decode cX8_ruled 12 = .ok (.ifnull 10, 3) := by decide +kernel
theorem dX8_ruled_15 : decode cX8_ruled 15 = .ok (.iload_n 2, 1) := by decide +kernel
theorem dX8_ruled_16 : decode cX8_ruled 16 = .ok (.invokestatic 149, 3) := by decide +kernel
theorem dX8_ruled_19 : decode cX8_ruled 19 = .ok (.ifCond .ne 5, 3) := by decide +kernel
theorem dX8_ruled_22 : decode cX8_ruled 22 = .ok (.iconst (-1), 1) := by decide +kernel
theorem dX8_ruled_23 : decode cX8_ruled 23 = .ok (.ireturn, 1) := by decide +kernel
theorem dX8_ruled_24 : decode cX8_ruled 24 = .ok (.aload_n 0, 1) := by decide +kernel
theorem dX8_ruled_25 : decode cX8_ruled 25 = .ok (.getfield 50, 3) := by decide +kernel
theorem dX8_ruled_28 : decode cX8_ruled 28 = .ok (.iload_n 2, 1) := by decide +kernel
theorem dX8_ruled_29 : decode cX8_ruled 29 = .ok (.aload_n 0, 1) := by decide +kernel
theorem dX8_ruled_30 : decode cX8_ruled 30 = .ok (.getfield 19, 3) := by decide +kernel
theorem dX8_ruled_33 : decode cX8_ruled 33 = .ok (.aload 4, 2) := by decide +kernel
theorem dX8_ruled_35 : decode cX8_ruled 35 = .ok (.aload_n 0, 1) := by decide +kernel
theorem dX8_ruled_36 : decode cX8_ruled 36 = .ok (.getfield 66, 3) := by decide +kernel
theorem dX8_ruled_39 : decode cX8_ruled 39 = .ok (.invokevirtual 152, 3) := by decide +kernel
theorem dX8_ruled_42 : decode cX8_ruled 42 = .ok (.aload_n 0, 1) := by decide +kernel
theorem dX8_ruled_43 : decode cX8_ruled 43 = .ok (.getfield 66, 3) := by decide +kernel
theorem dX8_ruled_46 : decode cX8_ruled 46 = .ok (.iload_n 3, 1) := by decide +kernel
theorem dX8_ruled_47 : decode cX8_ruled 47 = .ok (.invokestatic 168, 3) := by decide +kernel
theorem dX8_ruled_50 : decode cX8_ruled 50 = .ok (.ireturn, 1) := by decide +kernel
theorem dX8_quick_0 : decode cX8_quick 0 = .ok (.aload_n 0, 1) := by decide +kernel
theorem dX8_quick_1 : decode cX8_quick 1 = .ok (.getfield 29, 3) := by decide +kernel
theorem dX8_quick_4 : decode cX8_quick 4 = .ok (.iload_n 1, 1) := by decide +kernel
theorem dX8_quick_5 : decode cX8_quick 5 = .ok (.invokevirtual 131, 3) := by decide +kernel
theorem dX8_quick_8 : decode cX8_quick 8 = .ok (.astore_n 3, 1) := by decide +kernel
theorem dX8_quick_9 : decode cX8_quick 9 = .ok (.aload_n 3, 1) := by decide +kernel
theorem dX8_quick_10 : decode cX8_quick 10 = .ok (.ifnonnull 5, 3) := by decide +kernel
theorem dX8_quick_13 : decode cX8_quick 13 = .ok (.iconst (-1), 1) := by decide +kernel
theorem dX8_quick_14 : decode cX8_quick 14 = .ok (.ireturn, 1) := by decide +kernel
theorem dX8_quick_15 : decode cX8_quick 15 = .ok (.iload_n 2, 1) := by decide +kernel
theorem dX8_quick_16 : decode cX8_quick 16 = .ok (.lookupswitch 40 #[(0, 28), (1, 34)], 28) := by decide +kernel
theorem dX8_quick_44 : decode cX8_quick 44 = .ok (.aload_n 0, 1) := by decide +kernel
theorem dX8_quick_45 : decode cX8_quick 45 = .ok (.aload_n 3, 1) := by decide +kernel
theorem dX8_quick_46 : decode cX8_quick 46 = .ok (.invokevirtual 172, 3) := by decide +kernel
theorem dX8_quick_49 : decode cX8_quick 49 = .ok (.ireturn, 1) := by decide +kernel
theorem dX8_quick_50 : decode cX8_quick 50 = .ok (.aload_n 0, 1) := by decide +kernel
theorem dX8_quick_51 : decode cX8_quick 51 = .ok (.aload_n 3, 1) := by decide +kernel
theorem dX8_quick_52 : decode cX8_quick 52 = .ok (.invokevirtual 176, 3) := by decide +kernel
theorem dX8_quick_55 : decode cX8_quick 55 = .ok (.ireturn, 1) := by decide +kernel
theorem dX8_quick_56 : decode cX8_quick 56 = .ok (.iconst (-1), 1) := by decide +kernel
theorem dX8_quick_57 : decode cX8_quick 57 = .ok (.ireturn, 1) := by decide +kernel
theorem dX8_same_0 : decode cX8_same 0 = .ok (.aload_n 0, 1) := by decide +kernel
theorem dX8_same_1 : decode cX8_same 1 = .ok (.getfield 29, 3) := by decide +kernel
theorem dX8_same_4 : decode cX8_same 4 = .ok (.iload_n 1, 1) := by decide +kernel
theorem dX8_same_5 : decode cX8_same 5 = .ok (.invokevirtual 131, 3) := by decide +kernel
theorem dX8_same_8 : decode cX8_same 8 = .ok (.astore 4, 2) := by decide +kernel
theorem dX8_same_10 : decode cX8_same 10 = .ok (.aload_n 0, 1) := by decide +kernel
theorem dX8_same_11 : decode cX8_same 11 = .ok (.getfield 29, 3) := by decide +kernel
theorem dX8_same_14 : decode cX8_same 14 = .ok (.iload_n 2, 1) := by decide +kernel
theorem dX8_same_15 : decode cX8_same 15 = .ok (.invokevirtual 131, 3) := by decide +kernel
theorem dX8_same_18 : decode cX8_same 18 = .ok (.astore 5, 2) := by decide +kernel
theorem dX8_same_20 : decode cX8_same 20 = .ok (.aload 4, 2) := by decide +kernel
theorem dX8_same_22 : decode cX8_same 22 = .ok (.ifnull 15, 3) := by decide +kernel
theorem dX8_same_25 : decode cX8_same 25 = .ok (.aload 5, 2) := by decide +kernel
theorem dX8_same_27 : decode cX8_same 27 = .ok (.ifnull 10, 3) := by decide +kernel
theorem dX8_same_30 : decode cX8_same 30 = .ok (.iload_n 3, 1) := by decide +kernel
theorem dX8_same_31 : decode cX8_same 31 = .ok (.invokestatic 149, 3) := by decide +kernel
theorem dX8_same_34 : decode cX8_same 34 = .ok (.ifCond .ne 5, 3) := by decide +kernel
theorem dX8_same_37 : decode cX8_same 37 = .ok (.iconst (-1), 1) := by decide +kernel
theorem dX8_same_38 : decode cX8_same 38 = .ok (.ireturn, 1) := by decide +kernel
theorem dX8_same_39 : decode cX8_same 39 = .ok (.aload_n 0, 1) := by decide +kernel
theorem dX8_same_40 : decode cX8_same 40 = .ok (.getfield 50, 3) := by decide +kernel
theorem dX8_same_43 : decode cX8_same 43 = .ok (.iload_n 3, 1) := by decide +kernel
theorem dX8_same_44 : decode cX8_same 44 = .ok (.aload_n 0, 1) := by decide +kernel
theorem dX8_same_45 : decode cX8_same 45 = .ok (.getfield 19, 3) := by decide +kernel
theorem dX8_same_48 : decode cX8_same 48 = .ok (.aload 4, 2) := by decide +kernel
theorem dX8_same_50 : decode cX8_same 50 = .ok (.aload_n 0, 1) := by decide +kernel
theorem dX8_same_51 : decode cX8_same 51 = .ok (.getfield 70, 3) := by decide +kernel
theorem dX8_same_54 : decode cX8_same 54 = .ok (.invokevirtual 152, 3) := by decide +kernel
theorem dX8_same_57 : decode cX8_same 57 = .ok (.aload_n 0, 1) := by decide +kernel
theorem dX8_same_58 : decode cX8_same 58 = .ok (.getfield 50, 3) := by decide +kernel
theorem dX8_same_61 : decode cX8_same 61 = .ok (.iload_n 3, 1) := by decide +kernel
theorem dX8_same_62 : decode cX8_same 62 = .ok (.aload_n 0, 1) := by decide +kernel
theorem dX8_same_63 : decode cX8_same 63 = .ok (.getfield 19, 3) := by decide +kernel
theorem dX8_same_66 : decode cX8_same 66 = .ok (.aload 5, 2) := by decide +kernel
theorem dX8_same_68 : decode cX8_same 68 = .ok (.aload_n 0, 1) := by decide +kernel
theorem dX8_same_69 : decode cX8_same 69 = .ok (.getfield 73, 3) := by decide +kernel
theorem dX8_same_72 : decode cX8_same 72 = .ok (.invokevirtual 152, 3) := by decide +kernel
theorem dX8_same_75 : decode cX8_same 75 = .ok (.aload_n 0, 1) := by decide +kernel
theorem dX8_same_76 : decode cX8_same 76 = .ok (.getfield 70, 3) := by decide +kernel
theorem dX8_same_79 : decode cX8_same 79 = .ok (.aload_n 0, 1) := by decide +kernel
theorem dX8_same_80 : decode cX8_same 80 = .ok (.getfield 73, 3) := by decide +kernel
theorem dX8_same_83 : decode cX8_same 83 = .ok (.invokevirtual 179, 3) := by decide +kernel
theorem dX8_same_86 : decode cX8_same 86 = .ok (.ifCond .eq 7, 3) := by decide +kernel
theorem dX8_same_89 : decode cX8_same 89 = .ok (.iconst 1, 1) := by decide +kernel
theorem dX8_same_90 : decode cX8_same 90 = .ok (.goto 4, 3) := by decide +kernel
theorem dX8_same_93 : decode cX8_same 93 = .ok (.iconst 0, 1) := by decide +kernel
theorem dX8_same_94 : decode cX8_same 94 = .ok (.ireturn, 1) := by decide +kernel
theorem dX8_seam_0 : decode cX8_seam 0 = .ok (.aload_n 0, 1) := by decide +kernel
theorem dX8_seam_1 : decode cX8_seam 1 = .ok (.getfield 29, 3) := by decide +kernel
theorem dX8_seam_4 : decode cX8_seam 4 = .ok (.iload_n 1, 1) := by decide +kernel
theorem dX8_seam_5 : decode cX8_seam 5 = .ok (.invokevirtual 131, 3) := by decide +kernel
theorem dX8_seam_8 : decode cX8_seam 8 = .ok (.astore 5, 2) := by decide +kernel
theorem dX8_seam_10 : decode cX8_seam 10 = .ok (.aload_n 0, 1) := by decide +kernel
theorem dX8_seam_11 : decode cX8_seam 11 = .ok (.getfield 29, 3) := by decide +kernel
theorem dX8_seam_14 : decode cX8_seam 14 = .ok (.iload_n 2, 1) := by decide +kernel
theorem dX8_seam_15 : decode cX8_seam 15 = .ok (.invokevirtual 131, 3) := by decide +kernel
theorem dX8_seam_18 : decode cX8_seam 18 = .ok (.astore 6, 2) := by decide +kernel
theorem dX8_seam_20 : decode cX8_seam 20 = .ok (.aload 5, 2) := by decide +kernel
theorem dX8_seam_22 : decode cX8_seam 22 = .ok (.ifnull 26, 3) := by decide +kernel
theorem dX8_seam_25 : decode cX8_seam 25 = .ok (.aload 6, 2) := by decide +kernel
theorem dX8_seam_27 : decode cX8_seam 27 = .ok (.ifnull 21, 3) := by decide +kernel
theorem dX8_seam_30 : decode cX8_seam 30 = .ok (.iload_n 3, 1) := by decide +kernel
theorem dX8_seam_31 : decode cX8_seam 31 = .ok (.invokestatic 149, 3) := by decide +kernel
theorem dX8_seam_34 : decode cX8_seam 34 = .ok (.ifCond .eq 14, 3) := by decide +kernel
theorem dX8_seam_37 : decode cX8_seam 37 = .ok (.iload 4, 2) := by decide +kernel
theorem dX8_seam_39 : decode cX8_seam 39 = .ok (.ifCond .lt 9, 3) := by decide +kernel
theorem dX8_seam_42 : decode cX8_seam 42 = .ok (.iload 4, 2) := by decide +kernel
theorem dX8_seam_44 : decode cX8_seam 44 = .ok (.iconst 2, 1) := by decide +kernel
theorem dX8_seam_45 : decode cX8_seam 45 = .ok (.if_icmp .le 5, 3) := by decide +kernel
theorem dX8_seam_48 : decode cX8_seam 48 = .ok (.iconst (-1), 1) := by decide +kernel
theorem dX8_seam_49 : decode cX8_seam 49 = .ok (.ireturn, 1) := by decide +kernel
theorem dX8_seam_50 : decode cX8_seam 50 = .ok (.aload_n 0, 1) := by decide +kernel
theorem dX8_seam_51 : decode cX8_seam 51 = .ok (.getfield 50, 3) := by decide +kernel
theorem dX8_seam_54 : decode cX8_seam 54 = .ok (.iload_n 3, 1) := by decide +kernel
theorem dX8_seam_55 : decode cX8_seam 55 = .ok (.aload_n 0, 1) := by decide +kernel
theorem dX8_seam_56 : decode cX8_seam 56 = .ok (.getfield 19, 3) := by decide +kernel
theorem dX8_seam_59 : decode cX8_seam 59 = .ok (.aload 5, 2) := by decide +kernel
theorem dX8_seam_61 : decode cX8_seam 61 = .ok (.aload_n 0, 1) := by decide +kernel
theorem dX8_seam_62 : decode cX8_seam 62 = .ok (.getfield 70, 3) := by decide +kernel
theorem dX8_seam_65 : decode cX8_seam 65 = .ok (.invokevirtual 152, 3) := by decide +kernel
theorem dX8_seam_68 : decode cX8_seam 68 = .ok (.aload_n 0, 1) := by decide +kernel
theorem dX8_seam_69 : decode cX8_seam 69 = .ok (.getfield 50, 3) := by decide +kernel
theorem dX8_seam_72 : decode cX8_seam 72 = .ok (.iload_n 3, 1) := by decide +kernel
theorem dX8_seam_73 : decode cX8_seam 73 = .ok (.aload_n 0, 1) := by decide +kernel
theorem dX8_seam_74 : decode cX8_seam 74 = .ok (.getfield 19, 3) := by decide +kernel
theorem dX8_seam_77 : decode cX8_seam 77 = .ok (.aload 6, 2) := by decide +kernel
theorem dX8_seam_79 : decode cX8_seam 79 = .ok (.aload_n 0, 1) := by decide +kernel
theorem dX8_seam_80 : decode cX8_seam 80 = .ok (.getfield 73, 3) := by decide +kernel
theorem dX8_seam_83 : decode cX8_seam 83 = .ok (.invokevirtual 152, 3) := by decide +kernel
theorem dX8_seam_86 : decode cX8_seam 86 = .ok (.aload_n 0, 1) := by decide +kernel
theorem dX8_seam_87 : decode cX8_seam 87 = .ok (.getfield 50, 3) := by decide +kernel
theorem dX8_seam_90 : decode cX8_seam 90 = .ok (.iload_n 3, 1) := by decide +kernel
theorem dX8_seam_91 : decode cX8_seam 91 = .ok (.aload_n 0, 1) := by decide +kernel
theorem dX8_seam_92 : decode cX8_seam 92 = .ok (.getfield 19, 3) := by decide +kernel
theorem dX8_seam_95 : decode cX8_seam 95 = .ok (.aload 5, 2) := by decide +kernel
theorem dX8_seam_97 : decode cX8_seam 97 = .ok (.aload 6, 2) := by decide +kernel
theorem dX8_seam_99 : decode cX8_seam 99 = .ok (.aload_n 0, 1) := by decide +kernel
theorem dX8_seam_100 : decode cX8_seam 100 = .ok (.getfield 66, 3) := by decide +kernel
theorem dX8_seam_103 : decode cX8_seam 103 = .ok (.invokevirtual 183, 3) := by decide +kernel
theorem dX8_seam_106 : decode cX8_seam 106 = .ok (.aload_n 0, 1) := by decide +kernel
theorem dX8_seam_107 : decode cX8_seam 107 = .ok (.getfield 66, 3) := by decide +kernel
theorem dX8_seam_110 : decode cX8_seam 110 = .ok (.aload_n 0, 1) := by decide +kernel
theorem dX8_seam_111 : decode cX8_seam 111 = .ok (.getfield 70, 3) := by decide +kernel
theorem dX8_seam_114 : decode cX8_seam 114 = .ok (.invokevirtual 187, 3) := by decide +kernel
theorem dX8_seam_117 : decode cX8_seam 117 = .ok (.istore 7, 2) := by decide +kernel
theorem dX8_seam_119 : decode cX8_seam 119 = .ok (.aload_n 0, 1) := by decide +kernel
theorem dX8_seam_120 : decode cX8_seam 120 = .ok (.getfield 66, 3) := by decide +kernel
theorem dX8_seam_123 : decode cX8_seam 123 = .ok (.aload_n 0, 1) := by decide +kernel
theorem dX8_seam_124 : decode cX8_seam 124 = .ok (.getfield 73, 3) := by decide +kernel
theorem dX8_seam_127 : decode cX8_seam 127 = .ok (.invokevirtual 190, 3) := by decide +kernel
theorem dX8_seam_130 : decode cX8_seam 130 = .ok (.aload_n 0, 1) := by decide +kernel
theorem dX8_seam_131 : decode cX8_seam 131 = .ok (.getfield 66, 3) := by decide +kernel
theorem dX8_seam_134 : decode cX8_seam 134 = .ok (.invokevirtual 84, 3) := by decide +kernel
theorem dX8_seam_137 : decode cX8_seam 137 = .ok (.iload 7, 2) := by decide +kernel
theorem dX8_seam_139 : decode cX8_seam 139 = .ok (.isub, 1) := by decide +kernel
theorem dX8_seam_140 : decode cX8_seam 140 = .ok (.invokestatic 193, 3) := by decide +kernel
theorem dX8_seam_143 : decode cX8_seam 143 = .ok (.istore 8, 2) := by decide +kernel
theorem dX8_seam_145 : decode cX8_seam 145 = .ok (.iload 4, 2) := by decide +kernel
theorem dX8_seam_147 : decode cX8_seam 147 = .ok (.ifCond .ne 6, 3) := by decide +kernel
theorem dX8_seam_150 : decode cX8_seam 150 = .ok (.iload 7, 2) := by decide +kernel
theorem dX8_seam_152 : decode cX8_seam 152 = .ok (.ireturn, 1) := by decide +kernel
theorem dX8_seam_153 : decode cX8_seam 153 = .ok (.iload 4, 2) := by decide +kernel
theorem dX8_seam_155 : decode cX8_seam 155 = .ok (.iconst 1, 1) := by decide +kernel
theorem dX8_seam_156 : decode cX8_seam 156 = .ok (.if_icmp .ne 8, 3) := by decide +kernel
theorem dX8_seam_159 : decode cX8_seam 159 = .ok (.iload 8, 2) := by decide +kernel
theorem dX8_seam_161 : decode cX8_seam 161 = .ok (.goto 16, 3) := by decide +kernel
theorem dX8_seam_164 : decode cX8_seam 164 = .ok (.aload_n 0, 1) := by decide +kernel
theorem dX8_seam_165 : decode cX8_seam 165 = .ok (.getfield 66, 3) := by decide +kernel
theorem dX8_seam_168 : decode cX8_seam 168 = .ok (.invokevirtual 84, 3) := by decide +kernel
theorem dX8_seam_171 : decode cX8_seam 171 = .ok (.iload 7, 2) := by decide +kernel
theorem dX8_seam_173 : decode cX8_seam 173 = .ok (.isub, 1) := by decide +kernel
theorem dX8_seam_174 : decode cX8_seam 174 = .ok (.iload 8, 2) := by decide +kernel
theorem dX8_seam_176 : decode cX8_seam 176 = .ok (.isub, 1) := by decide +kernel
theorem dX8_seam_177 : decode cX8_seam 177 = .ok (.ireturn, 1) := by decide +kernel
theorem dX8_spellings_0 : decode cX8_spellings 0 = .ok (.aload_n 0, 1) := by decide +kernel
theorem dX8_spellings_1 : decode cX8_spellings 1 = .ok (.getfield 29, 3) := by decide +kernel
theorem dX8_spellings_4 : decode cX8_spellings 4 = .ok (.iload_n 1, 1) := by decide +kernel
theorem dX8_spellings_5 : decode cX8_spellings 5 = .ok (.invokevirtual 131, 3) := by decide +kernel
theorem dX8_spellings_8 : decode cX8_spellings 8 = .ok (.astore_n 2, 1) := by decide +kernel
theorem dX8_spellings_9 : decode cX8_spellings 9 = .ok (.aload_n 2, 1) := by decide +kernel
theorem dX8_spellings_10 : decode cX8_spellings 10 = .ok (.ifnonnull 7, 3) := by decide +kernel
theorem dX8_spellings_13 : decode cX8_spellings 13 = .ok (.ldc2_w 198, 3) := by decide +kernel
theorem dX8_spellings_16 : decode cX8_spellings 16 = .ok (.lreturn, 1) := by decide +kernel
theorem dX8_spellings_17 : decode cX8_spellings 17 = .ok (.aload_n 0, 1) := by decide +kernel
theorem dX8_spellings_18 : decode cX8_spellings 18 = .ok (.getfield 50, 3) := by decide +kernel
theorem dX8_spellings_21 : decode cX8_spellings 21 = .ok (.iconst 0, 1) := by decide +kernel
theorem dX8_spellings_22 : decode cX8_spellings 22 = .ok (.aload_n 0, 1) := by decide +kernel
theorem dX8_spellings_23 : decode cX8_spellings 23 = .ok (.getfield 19, 3) := by decide +kernel
theorem dX8_spellings_26 : decode cX8_spellings 26 = .ok (.aload_n 2, 1) := by decide +kernel
theorem dX8_spellings_27 : decode cX8_spellings 27 = .ok (.aload_n 0, 1) := by decide +kernel
theorem dX8_spellings_28 : decode cX8_spellings 28 = .ok (.getfield 66, 3) := by decide +kernel
theorem dX8_spellings_31 : decode cX8_spellings 31 = .ok (.invokevirtual 152, 3) := by decide +kernel
theorem dX8_spellings_34 : decode cX8_spellings 34 = .ok (.aload_n 0, 1) := by decide +kernel
theorem dX8_spellings_35 : decode cX8_spellings 35 = .ok (.getfield 57, 3) := by decide +kernel
theorem dX8_spellings_38 : decode cX8_spellings 38 = .ok (.aload_n 0, 1) := by decide +kernel
theorem dX8_spellings_39 : decode cX8_spellings 39 = .ok (.getfield 66, 3) := by decide +kernel
theorem dX8_spellings_42 : decode cX8_spellings 42 = .ok (.aload_n 0, 1) := by decide +kernel
theorem dX8_spellings_43 : decode cX8_spellings 43 = .ok (.getfield 19, 3) := by decide +kernel
theorem dX8_spellings_46 : decode cX8_spellings 46 = .ok (.invokevirtual 200, 3) := by decide +kernel
theorem dX8_spellings_49 : decode cX8_spellings 49 = .ok (.lreturn, 1) := by decide +kernel
theorem dX8_pipes_0 : decode cX8_pipes 0 = .ok (.iload_n 1, 1) := by decide +kernel
theorem dX8_pipes_1 : decode cX8_pipes 1 = .ok (.invokestatic 149, 3) := by decide +kernel
theorem dX8_pipes_4 : decode cX8_pipes 4 = .ok (.ifCond .ne 5, 3) := by decide +kernel
theorem dX8_pipes_7 : decode cX8_pipes 7 = .ok (.iconst (-1), 1) := by decide +kernel
theorem dX8_pipes_8 : decode cX8_pipes 8 = .ok (.ireturn, 1) := by decide +kernel
theorem dX8_pipes_9 : decode cX8_pipes 9 = .ok (.aload_n 0, 1) := by decide +kernel
theorem dX8_pipes_10 : decode cX8_pipes 10 = .ok (.getfield 29, 3) := by decide +kernel
theorem dX8_pipes_13 : decode cX8_pipes 13 = .ok (.invokevirtual 204, 3) := by decide +kernel
theorem dX8_pipes_16 : decode cX8_pipes 16 = .ok (.astore_n 2, 1) := by decide +kernel
theorem dX8_pipes_17 : decode cX8_pipes 17 = .ok (.aload_n 2, 1) := by decide +kernel
theorem dX8_pipes_18 : decode cX8_pipes 18 = .ok (.iload_n 1, 1) := by decide +kernel
theorem dX8_pipes_19 : decode cX8_pipes 19 = .ok (.invokevirtual 80, 3) := by decide +kernel
theorem dX8_pipes_22 : decode cX8_pipes 22 = .ok (.ifCond .eq 10, 3) := by decide +kernel
theorem dX8_pipes_25 : decode cX8_pipes 25 = .ok (.aload_n 2, 1) := by decide +kernel
theorem dX8_pipes_26 : decode cX8_pipes 26 = .ok (.invokevirtual 84, 3) := by decide +kernel
theorem dX8_pipes_29 : decode cX8_pipes 29 = .ok (.goto 5, 3) := by decide +kernel
theorem dX8_pipes_32 : decode cX8_pipes 32 = .ok (.bipush (-3), 2) := by decide +kernel
theorem dX8_pipes_34 : decode cX8_pipes 34 = .ok (.ireturn, 1) := by decide +kernel
theorem dX8_unpipe_0 : decode cX8_unpipe 0 = .ok (.aload_n 0, 1) := by decide +kernel
theorem dX8_unpipe_1 : decode cX8_unpipe 1 = .ok (.getfield 29, 3) := by decide +kernel
theorem dX8_unpipe_4 : decode cX8_unpipe 4 = .ok (.invokevirtual 204, 3) := by decide +kernel
theorem dX8_unpipe_7 : decode cX8_unpipe 7 = .ok (.astore_n 1, 1) := by decide +kernel
theorem dX8_unpipe_8 : decode cX8_unpipe 8 = .ok (.aload_n 1, 1) := by decide +kernel
theorem dX8_unpipe_9 : decode cX8_unpipe 9 = .ok (.invokevirtual 84, 3) := by decide +kernel
theorem dX8_unpipe_12 : decode cX8_unpipe 12 = .ok (.istore_n 2, 1) := by decide +kernel
theorem dX8_unpipe_13 : decode cX8_unpipe 13 = .ok (.aload_n 1, 1) := by decide +kernel
theorem dX8_unpipe_14 : decode cX8_unpipe 14 = .ok (.invokevirtual 88, 3) := by decide +kernel
theorem dX8_unpipe_17 : decode cX8_unpipe 17 = .ok (.iload_n 2, 1) := by decide +kernel
theorem dX8_unpipe_18 : decode cX8_unpipe 18 = .ok (.ireturn, 1) := by decide +kernel
theorem dX8_piped_0 : decode cX8_piped 0 = .ok (.aload_n 0, 1) := by decide +kernel
theorem dX8_piped_1 : decode cX8_piped 1 = .ok (.getfield 29, 3) := by decide +kernel
theorem dX8_piped_4 : decode cX8_piped 4 = .ok (.iload_n 1, 1) := by decide +kernel
theorem dX8_piped_5 : decode cX8_piped 5 = .ok (.invokevirtual 131, 3) := by decide +kernel
theorem dX8_piped_8 : decode cX8_piped 8 = .ok (.astore_n 3, 1) := by decide +kernel
theorem dX8_piped_9 : decode cX8_piped 9 = .ok (.aload_n 3, 1) := by decide +kernel
theorem dX8_piped_10 : decode cX8_piped 10 = .ok (.ifnonnull 5, 3) := by decide +kernel
theorem dX8_piped_13 : decode cX8_piped 13 = .ok (.iconst (-1), 1) := by decide +kernel
theorem dX8_piped_14 : decode cX8_piped 14 = .ok (.ireturn, 1) := by decide +kernel
theorem dX8_piped_15 : decode cX8_piped 15 = .ok (.aload_n 0, 1) := by decide +kernel
theorem dX8_piped_16 : decode cX8_piped 16 = .ok (.getfield 66, 3) := by decide +kernel
theorem dX8_piped_19 : decode cX8_piped 19 = .ok (.aload_n 3, 1) := by decide +kernel
theorem dX8_piped_20 : decode cX8_piped 20 = .ok (.invokevirtual 156, 3) := by decide +kernel
theorem dX8_piped_23 : decode cX8_piped 23 = .ok (.aload_n 0, 1) := by decide +kernel
theorem dX8_piped_24 : decode cX8_piped 24 = .ok (.getfield 50, 3) := by decide +kernel
theorem dX8_piped_27 : decode cX8_piped 27 = .ok (.aload_n 0, 1) := by decide +kernel
theorem dX8_piped_28 : decode cX8_piped 28 = .ok (.getfield 29, 3) := by decide +kernel
theorem dX8_piped_31 : decode cX8_piped 31 = .ok (.invokevirtual 204, 3) := by decide +kernel
theorem dX8_piped_34 : decode cX8_piped 34 = .ok (.aload_n 0, 1) := by decide +kernel
theorem dX8_piped_35 : decode cX8_piped 35 = .ok (.getfield 19, 3) := by decide +kernel
theorem dX8_piped_38 : decode cX8_piped 38 = .ok (.aload_n 0, 1) := by decide +kernel
theorem dX8_piped_39 : decode cX8_piped 39 = .ok (.getfield 66, 3) := by decide +kernel
theorem dX8_piped_42 : decode cX8_piped 42 = .ok (.invokevirtual 207, 3) := by decide +kernel
theorem dX8_piped_45 : decode cX8_piped 45 = .ok (.aload_n 0, 1) := by decide +kernel
theorem dX8_piped_46 : decode cX8_piped 46 = .ok (.getfield 66, 3) := by decide +kernel
theorem dX8_piped_49 : decode cX8_piped 49 = .ok (.iload_n 2, 1) := by decide +kernel
theorem dX8_piped_50 : decode cX8_piped 50 = .ok (.invokestatic 168, 3) := by decide +kernel
theorem dX8_piped_53 : decode cX8_piped 53 = .ok (.ireturn, 1) := by decide +kernel
theorem dX8_fixed_0 : decode cX8_fixed 0 = .ok (.aload_n 0, 1) := by decide +kernel
theorem dX8_fixed_1 : decode cX8_fixed 1 = .ok (.getfield 29, 3) := by decide +kernel
theorem dX8_fixed_4 : decode cX8_fixed 4 = .ok (.iload_n 1, 1) := by decide +kernel
theorem dX8_fixed_5 : decode cX8_fixed 5 = .ok (.invokevirtual 131, 3) := by decide +kernel
theorem dX8_fixed_8 : decode cX8_fixed 8 = .ok (.astore_n 2, 1) := by decide +kernel
theorem dX8_fixed_9 : decode cX8_fixed 9 = .ok (.aload_n 2, 1) := by decide +kernel
theorem dX8_fixed_10 : decode cX8_fixed 10 = .ok (.ifnonnull 5, 3) := by decide +kernel
theorem dX8_fixed_13 : decode cX8_fixed 13 = .ok (.iconst (-1), 1) := by decide +kernel
theorem dX8_fixed_14 : decode cX8_fixed 14 = .ok (.ireturn, 1) := by decide +kernel
theorem dX8_fixed_15 : decode cX8_fixed 15 = .ok (.aload_n 0, 1) := by decide +kernel
theorem dX8_fixed_16 : decode cX8_fixed 16 = .ok (.getfield 66, 3) := by decide +kernel
theorem dX8_fixed_19 : decode cX8_fixed 19 = .ok (.aload_n 2, 1) := by decide +kernel
theorem dX8_fixed_20 : decode cX8_fixed 20 = .ok (.invokevirtual 156, 3) := by decide +kernel
theorem dX8_fixed_23 : decode cX8_fixed 23 = .ok (.iconst 0, 1) := by decide +kernel
theorem dX8_fixed_24 : decode cX8_fixed 24 = .ok (.istore_n 3, 1) := by decide +kernel
theorem dX8_fixed_25 : decode cX8_fixed 25 = .ok (.iload_n 3, 1) := by decide +kernel
theorem dX8_fixed_26 : decode cX8_fixed 26 = .ok (.bipush 9, 2) := by decide +kernel
theorem dX8_fixed_28 : decode cX8_fixed 28 = .ok (.if_icmp .gt 58, 3) := by decide +kernel
theorem dX8_fixed_31 : decode cX8_fixed 31 = .ok (.aload_n 0, 1) := by decide +kernel
theorem dX8_fixed_32 : decode cX8_fixed 32 = .ok (.getfield 70, 3) := by decide +kernel
theorem dX8_fixed_35 : decode cX8_fixed 35 = .ok (.aload_n 0, 1) := by decide +kernel
theorem dX8_fixed_36 : decode cX8_fixed 36 = .ok (.getfield 66, 3) := by decide +kernel
theorem dX8_fixed_39 : decode cX8_fixed 39 = .ok (.invokevirtual 156, 3) := by decide +kernel
theorem dX8_fixed_42 : decode cX8_fixed 42 = .ok (.aload_n 0, 1) := by decide +kernel
theorem dX8_fixed_43 : decode cX8_fixed 43 = .ok (.getfield 50, 3) := by decide +kernel
theorem dX8_fixed_46 : decode cX8_fixed 46 = .ok (.aload_n 0, 1) := by decide +kernel
theorem dX8_fixed_47 : decode cX8_fixed 47 = .ok (.getfield 29, 3) := by decide +kernel
theorem dX8_fixed_50 : decode cX8_fixed 50 = .ok (.invokevirtual 204, 3) := by decide +kernel
theorem dX8_fixed_53 : decode cX8_fixed 53 = .ok (.aload_n 0, 1) := by decide +kernel
theorem dX8_fixed_54 : decode cX8_fixed 54 = .ok (.getfield 19, 3) := by decide +kernel
theorem dX8_fixed_57 : decode cX8_fixed 57 = .ok (.aload_n 0, 1) := by decide +kernel
theorem dX8_fixed_58 : decode cX8_fixed 58 = .ok (.getfield 66, 3) := by decide +kernel
theorem dX8_fixed_61 : decode cX8_fixed 61 = .ok (.invokevirtual 207, 3) := by decide +kernel
theorem dX8_fixed_64 : decode cX8_fixed 64 = .ok (.aload_n 0, 1) := by decide +kernel
theorem dX8_fixed_65 : decode cX8_fixed 65 = .ok (.getfield 66, 3) := by decide +kernel
theorem dX8_fixed_68 : decode cX8_fixed 68 = .ok (.aload_n 0, 1) := by decide +kernel
theorem dX8_fixed_69 : decode cX8_fixed 69 = .ok (.getfield 70, 3) := by decide +kernel
theorem dX8_fixed_72 : decode cX8_fixed 72 = .ok (.invokevirtual 179, 3) := by decide +kernel
theorem dX8_fixed_75 : decode cX8_fixed 75 = .ok (.ifCond .eq 5, 3) := by decide +kernel
theorem dX8_fixed_78 : decode cX8_fixed 78 = .ok (.iload_n 3, 1) := by decide +kernel
theorem dX8_fixed_79 : decode cX8_fixed 79 = .ok (.ireturn, 1) := by decide +kernel
theorem dX8_fixed_80 : decode cX8_fixed 80 = .ok (.iinc 3 1, 3) := by decide +kernel
theorem dX8_fixed_83 : decode cX8_fixed 83 = .ok (.goto (-58), 3) := by decide +kernel
theorem dX8_fixed_86 : decode cX8_fixed 86 = .ok (.bipush (-9), 2) := by decide +kernel
theorem dX8_fixed_88 : decode cX8_fixed 88 = .ok (.ireturn, 1) := by decide +kernel
theorem dX8_keep_0 : decode cX8_keep 0 = .ok (.aload_n 0, 1) := by decide +kernel
theorem dX8_keep_1 : decode cX8_keep 1 = .ok (.getfield 36, 3) := by decide +kernel
theorem dX8_keep_4 : decode cX8_keep 4 = .ok (.iload_n 1, 1) := by decide +kernel
theorem dX8_keep_5 : decode cX8_keep 5 = .ok (.aload_n 0, 1) := by decide +kernel
theorem dX8_keep_6 : decode cX8_keep 6 = .ok (.getfield 29, 3) := by decide +kernel
theorem dX8_keep_9 : decode cX8_keep 9 = .ok (.invokevirtual 211, 3) := by decide +kernel
theorem dX8_keep_12 : decode cX8_keep 12 = .ok (.ifCond .eq 13, 3) := by decide +kernel
theorem dX8_keep_15 : decode cX8_keep 15 = .ok (.aload_n 0, 1) := by decide +kernel
theorem dX8_keep_16 : decode cX8_keep 16 = .ok (.getfield 29, 3) := by decide +kernel
theorem dX8_keep_19 : decode cX8_keep 19 = .ok (.invokevirtual 215, 3) := by decide +kernel
theorem dX8_keep_22 : decode cX8_keep 22 = .ok (.goto 4, 3) := by decide +kernel
theorem dX8_keep_25 : decode cX8_keep 25 = .ok (.iconst (-1), 1) := by decide +kernel
theorem dX8_keep_26 : decode cX8_keep 26 = .ok (.ireturn, 1) := by decide +kernel
theorem dX8_back_0 : decode cX8_back 0 = .ok (.aload_n 0, 1) := by decide +kernel
theorem dX8_back_1 : decode cX8_back 1 = .ok (.getfield 36, 3) := by decide +kernel
theorem dX8_back_4 : decode cX8_back 4 = .ok (.iload_n 1, 1) := by decide +kernel
theorem dX8_back_5 : decode cX8_back 5 = .ok (.invokevirtual 218, 3) := by decide +kernel
theorem dX8_back_8 : decode cX8_back 8 = .ok (.astore_n 2, 1) := by decide +kernel
theorem dX8_back_9 : decode cX8_back 9 = .ok (.aload_n 2, 1) := by decide +kernel
theorem dX8_back_10 : decode cX8_back 10 = .ok (.ifnonnull 5, 3) := by decide +kernel
theorem dX8_back_13 : decode cX8_back 13 = .ok (.iconst (-1), 1) := by decide +kernel
theorem dX8_back_14 : decode cX8_back 14 = .ok (.ireturn, 1) := by decide +kernel
theorem dX8_back_15 : decode cX8_back 15 = .ok (.aload_n 0, 1) := by decide +kernel
theorem dX8_back_16 : decode cX8_back 16 = .ok (.getfield 36, 3) := by decide +kernel
theorem dX8_back_19 : decode cX8_back 19 = .ok (.iload_n 1, 1) := by decide +kernel
theorem dX8_back_20 : decode cX8_back 20 = .ok (.invokevirtual 222, 3) := by decide +kernel
theorem dX8_back_23 : decode cX8_back 23 = .ok (.ifCond .ne 6, 3) := by decide +kernel
theorem dX8_back_26 : decode cX8_back 26 = .ok (.bipush (-2), 2) := by decide +kernel
theorem dX8_back_28 : decode cX8_back 28 = .ok (.ireturn, 1) := by decide +kernel
theorem dX8_back_29 : decode cX8_back 29 = .ok (.aload_n 0, 1) := by decide +kernel
theorem dX8_back_30 : decode cX8_back 30 = .ok (.getfield 29, 3) := by decide +kernel
theorem dX8_back_33 : decode cX8_back 33 = .ok (.aload_n 2, 1) := by decide +kernel
theorem dX8_back_34 : decode cX8_back 34 = .ok (.invokevirtual 225, 3) := by decide +kernel
theorem dX8_back_37 : decode cX8_back 37 = .ok (.aload_n 0, 1) := by decide +kernel
theorem dX8_back_38 : decode cX8_back 38 = .ok (.getfield 43, 3) := by decide +kernel
theorem dX8_back_41 : decode cX8_back 41 = .ok (.invokevirtual 99, 3) := by decide +kernel
theorem dX8_back_44 : decode cX8_back 44 = .ok (.aload_n 0, 1) := by decide +kernel
theorem dX8_back_45 : decode cX8_back 45 = .ok (.getfield 29, 3) := by decide +kernel
theorem dX8_back_48 : decode cX8_back 48 = .ok (.invokevirtual 215, 3) := by decide +kernel
theorem dX8_back_51 : decode cX8_back 51 = .ok (.ireturn, 1) := by decide +kernel
theorem dX8_count_0 : decode cX8_count 0 = .ok (.iload_n 1, 1) := by decide +kernel
theorem dX8_count_1 : decode cX8_count 1 = .ok (.tableswitch 120 0 7 #[47, 55, 63, 72, 81, 90, 101, 109], 47) := by decide +kernel
theorem dX8_count_48 : decode cX8_count 48 = .ok (.aload_n 0, 1) := by decide +kernel
theorem dX8_count_49 : decode cX8_count 49 = .ok (.getfield 19, 3) := by decide +kernel
theorem dX8_count_52 : decode cX8_count 52 = .ok (.invokevirtual 102, 3) := by decide +kernel
theorem dX8_count_55 : decode cX8_count 55 = .ok (.ireturn, 1) := by decide +kernel
theorem dX8_count_56 : decode cX8_count 56 = .ok (.aload_n 0, 1) := by decide +kernel
theorem dX8_count_57 : decode cX8_count 57 = .ok (.getfield 19, 3) := by decide +kernel
theorem dX8_count_60 : decode cX8_count 60 = .ok (.invokevirtual 228, 3) := by decide +kernel
theorem dX8_count_63 : decode cX8_count 63 = .ok (.ireturn, 1) := by decide +kernel
theorem dX8_count_64 : decode cX8_count 64 = .ok (.aload_n 0, 1) := by decide +kernel
theorem dX8_count_65 : decode cX8_count 65 = .ok (.getfield 19, 3) := by decide +kernel
theorem dX8_count_68 : decode cX8_count 68 = .ok (.iconst 1, 1) := by decide +kernel
theorem dX8_count_69 : decode cX8_count 69 = .ok (.invokevirtual 231, 3) := by decide +kernel
theorem dX8_count_72 : decode cX8_count 72 = .ok (.ireturn, 1) := by decide +kernel
theorem dX8_count_73 : decode cX8_count 73 = .ok (.aload_n 0, 1) := by decide +kernel
theorem dX8_count_74 : decode cX8_count 74 = .ok (.getfield 19, 3) := by decide +kernel
theorem dX8_count_77 : decode cX8_count 77 = .ok (.iconst 2, 1) := by decide +kernel
theorem dX8_count_78 : decode cX8_count 78 = .ok (.invokevirtual 231, 3) := by decide +kernel
theorem dX8_count_81 : decode cX8_count 81 = .ok (.ireturn, 1) := by decide +kernel
theorem dX8_count_82 : decode cX8_count 82 = .ok (.aload_n 0, 1) := by decide +kernel
theorem dX8_count_83 : decode cX8_count 83 = .ok (.getfield 19, 3) := by decide +kernel
theorem dX8_count_86 : decode cX8_count 86 = .ok (.iconst 3, 1) := by decide +kernel
theorem dX8_count_87 : decode cX8_count 87 = .ok (.invokevirtual 231, 3) := by decide +kernel
theorem dX8_count_90 : decode cX8_count 90 = .ok (.ireturn, 1) := by decide +kernel
theorem dX8_count_91 : decode cX8_count 91 = .ok (.aload_n 0, 1) := by decide +kernel
theorem dX8_count_92 : decode cX8_count 92 = .ok (.getfield 29, 3) := by decide +kernel
theorem dX8_count_95 : decode cX8_count 95 = .ok (.invokevirtual 204, 3) := by decide +kernel
theorem dX8_count_98 : decode cX8_count 98 = .ok (.invokevirtual 84, 3) := by decide +kernel
theorem dX8_count_101 : decode cX8_count 101 = .ok (.ireturn, 1) := by decide +kernel
theorem dX8_count_102 : decode cX8_count 102 = .ok (.aload_n 0, 1) := by decide +kernel
theorem dX8_count_103 : decode cX8_count 103 = .ok (.getfield 43, 3) := by decide +kernel
theorem dX8_count_106 : decode cX8_count 106 = .ok (.invokevirtual 165, 3) := by decide +kernel
theorem dX8_count_109 : decode cX8_count 109 = .ok (.ireturn, 1) := by decide +kernel
theorem dX8_count_110 : decode cX8_count 110 = .ok (.aload_n 0, 1) := by decide +kernel
theorem dX8_count_111 : decode cX8_count 111 = .ok (.getfield 12, 3) := by decide +kernel
theorem dX8_count_114 : decode cX8_count 114 = .ok (.invokevirtual 76, 3) := by decide +kernel
theorem dX8_count_117 : decode cX8_count 117 = .ok (.invokevirtual 84, 3) := by decide +kernel
theorem dX8_count_120 : decode cX8_count 120 = .ok (.ireturn, 1) := by decide +kernel
theorem dX8_count_121 : decode cX8_count 121 = .ok (.iconst (-1), 1) := by decide +kernel
theorem dX8_count_122 : decode cX8_count 122 = .ok (.ireturn, 1) := by decide +kernel
theorem dX8_isRule_0 : decode cX8_isRule 0 = .ok (.iload_n 0, 1) := by decide +kernel
theorem dX8_isRule_1 : decode cX8_isRule 1 = .ok (.ifCond .lt 12, 3) := by decide +kernel
theorem dX8_isRule_4 : decode cX8_isRule 4 = .ok (.iload_n 0, 1) := by decide +kernel
theorem dX8_isRule_5 : decode cX8_isRule 5 = .ok (.iconst 5, 1) := by decide +kernel
theorem dX8_isRule_6 : decode cX8_isRule 6 = .ok (.if_icmp .gt 7, 3) := by decide +kernel
theorem dX8_isRule_9 : decode cX8_isRule 9 = .ok (.iconst 1, 1) := by decide +kernel
theorem dX8_isRule_10 : decode cX8_isRule 10 = .ok (.goto 4, 3) := by decide +kernel
theorem dX8_isRule_13 : decode cX8_isRule 13 = .ok (.iconst 0, 1) := by decide +kernel
theorem dX8_isRule_14 : decode cX8_isRule 14 = .ok (.ireturn, 1) := by decide +kernel
theorem dX8_look_0 : decode cX8_look 0 = .ok (.iload_n 1, 1) := by decide +kernel
theorem dX8_look_1 : decode cX8_look 1 = .ok (.iconst (-1), 1) := by decide +kernel
theorem dX8_look_2 : decode cX8_look 2 = .ok (.if_icmp .ne 8, 3) := by decide +kernel
theorem dX8_look_5 : decode cX8_look 5 = .ok (.aload_n 0, 1) := by decide +kernel
theorem dX8_look_6 : decode cX8_look 6 = .ok (.invokevirtual 84, 3) := by decide +kernel
theorem dX8_look_9 : decode cX8_look 9 = .ok (.ireturn, 1) := by decide +kernel
theorem dX8_look_10 : decode cX8_look 10 = .ok (.aload_n 0, 1) := by decide +kernel
theorem dX8_look_11 : decode cX8_look 11 = .ok (.iload_n 1, 1) := by decide +kernel
theorem dX8_look_12 : decode cX8_look 12 = .ok (.invokevirtual 234, 3) := by decide +kernel
theorem dX8_look_15 : decode cX8_look 15 = .ok (.ifCond .eq 11, 3) := by decide +kernel
theorem dX8_look_18 : decode cX8_look 18 = .ok (.aload_n 0, 1) := by decide +kernel
theorem dX8_look_19 : decode cX8_look 19 = .ok (.iload_n 1, 1) := by decide +kernel
theorem dX8_look_20 : decode cX8_look 20 = .ok (.invokevirtual 139, 3) := by decide +kernel
theorem dX8_look_23 : decode cX8_look 23 = .ok (.goto 4, 3) := by decide +kernel
theorem dX8_look_26 : decode cX8_look 26 = .ok (.iconst (-1), 1) := by decide +kernel
theorem dX8_look_27 : decode cX8_look 27 = .ok (.ireturn, 1) := by decide +kernel
theorem dX8_quickApart_0 : decode cX8_quickApart 0 = .ok (.iconst 0, 1) := by decide +kernel
theorem dX8_quickApart_1 : decode cX8_quickApart 1 = .ok (.istore_n 2, 1) := by decide +kernel
theorem dX8_quickApart_2 : decode cX8_quickApart 2 = .ok (.iload_n 2, 1) := by decide +kernel
theorem dX8_quickApart_3 : decode cX8_quickApart 3 = .ok (.aload_n 1, 1) := by decide +kernel
theorem dX8_quickApart_4 : decode cX8_quickApart 4 = .ok (.invokevirtual 84, 3) := by decide +kernel
theorem dX8_quickApart_7 : decode cX8_quickApart 7 = .ok (.if_icmp .ge 26, 3) := by decide +kernel
theorem dX8_quickApart_10 : decode cX8_quickApart 10 = .ok (.aload_n 0, 1) := by decide +kernel
theorem dX8_quickApart_11 : decode cX8_quickApart 11 = .ok (.getfield 19, 3) := by decide +kernel
theorem dX8_quickApart_14 : decode cX8_quickApart 14 = .ok (.aload_n 1, 1) := by decide +kernel
theorem dX8_quickApart_15 : decode cX8_quickApart 15 = .ok (.iload_n 2, 1) := by decide +kernel
theorem dX8_quickApart_16 : decode cX8_quickApart 16 = .ok (.invokevirtual 139, 3) := by decide +kernel
theorem dX8_quickApart_19 : decode cX8_quickApart 19 = .ok (.invokevirtual 112, 3) := by decide +kernel
theorem dX8_quickApart_22 : decode cX8_quickApart 22 = .ok (.ifCond .eq 5, 3) := by decide +kernel
theorem dX8_quickApart_25 : decode cX8_quickApart 25 = .ok (.iconst 0, 1) := by decide +kernel
theorem dX8_quickApart_26 : decode cX8_quickApart 26 = .ok (.ireturn, 1) := by decide +kernel
theorem dX8_quickApart_27 : decode cX8_quickApart 27 = .ok (.iinc 2 1, 3) := by decide +kernel
theorem dX8_quickApart_30 : decode cX8_quickApart 30 = .ok (.goto (-28), 3) := by decide +kernel
theorem dX8_quickApart_33 : decode cX8_quickApart 33 = .ok (.aload_n 0, 1) := by decide +kernel
theorem dX8_quickApart_34 : decode cX8_quickApart 34 = .ok (.getfield 50, 3) := by decide +kernel
theorem dX8_quickApart_37 : decode cX8_quickApart 37 = .ok (.aload_n 0, 1) := by decide +kernel
theorem dX8_quickApart_38 : decode cX8_quickApart 38 = .ok (.getfield 19, 3) := by decide +kernel
theorem dX8_quickApart_41 : decode cX8_quickApart 41 = .ok (.aload_n 1, 1) := by decide +kernel
theorem dX8_quickApart_42 : decode cX8_quickApart 42 = .ok (.invokevirtual 237, 3) := by decide +kernel
theorem dX8_quickApart_45 : decode cX8_quickApart 45 = .ok (.ifCond .eq 7, 3) := by decide +kernel
theorem dX8_quickApart_48 : decode cX8_quickApart 48 = .ok (.iconst 1, 1) := by decide +kernel
theorem dX8_quickApart_49 : decode cX8_quickApart 49 = .ok (.goto 4, 3) := by decide +kernel
theorem dX8_quickApart_52 : decode cX8_quickApart 52 = .ok (.iconst 0, 1) := by decide +kernel
theorem dX8_quickApart_53 : decode cX8_quickApart 53 = .ok (.ireturn, 1) := by decide +kernel
theorem dX8_quickJoined_0 : decode cX8_quickJoined 0 = .ok (.iconst 0, 1) := by decide +kernel
theorem dX8_quickJoined_1 : decode cX8_quickJoined 1 = .ok (.istore_n 2, 1) := by decide +kernel
theorem dX8_quickJoined_2 : decode cX8_quickJoined 2 = .ok (.iconst 0, 1) := by decide +kernel
theorem dX8_quickJoined_3 : decode cX8_quickJoined 3 = .ok (.istore_n 3, 1) := by decide +kernel
theorem dX8_quickJoined_4 : decode cX8_quickJoined 4 = .ok (.iload_n 3, 1) := by decide +kernel
theorem dX8_quickJoined_5 : decode cX8_quickJoined 5 = .ok (.aload_n 1, 1) := by decide +kernel
theorem dX8_quickJoined_6 : decode cX8_quickJoined 6 = .ok (.invokevirtual 84, 3) := by decide +kernel
theorem dX8_quickJoined_9 : decode cX8_quickJoined 9 = .ok (.if_icmp .ge 63, 3) := by decide +kernel
theorem dX8_quickJoined_12 : decode cX8_quickJoined 12 = .ok (.aload_n 1, 1) := by decide +kernel
theorem dX8_quickJoined_13 : decode cX8_quickJoined 13 = .ok (.iload_n 3, 1) := by decide +kernel
theorem dX8_quickJoined_14 : decode cX8_quickJoined 14 = .ok (.invokevirtual 139, 3) := by decide +kernel
theorem dX8_quickJoined_17 : decode cX8_quickJoined 17 = .ok (.istore 4, 2) := by decide +kernel
theorem dX8_quickJoined_19 : decode cX8_quickJoined 19 = .ok (.aload_n 0, 1) := by decide +kernel
theorem dX8_quickJoined_20 : decode cX8_quickJoined 20 = .ok (.getfield 19, 3) := by decide +kernel
theorem dX8_quickJoined_23 : decode cX8_quickJoined 23 = .ok (.iload 4, 2) := by decide +kernel
theorem dX8_quickJoined_25 : decode cX8_quickJoined 25 = .ok (.invokevirtual 112, 3) := by decide +kernel
theorem dX8_quickJoined_28 : decode cX8_quickJoined 28 = .ok (.istore 5, 2) := by decide +kernel
theorem dX8_quickJoined_30 : decode cX8_quickJoined 30 = .ok (.iload 5, 2) := by decide +kernel
theorem dX8_quickJoined_32 : decode cX8_quickJoined 32 = .ok (.iconst 2, 1) := by decide +kernel
theorem dX8_quickJoined_33 : decode cX8_quickJoined 33 = .ok (.if_icmp .eq 9, 3) := by decide +kernel
theorem dX8_quickJoined_36 : decode cX8_quickJoined 36 = .ok (.iload 5, 2) := by decide +kernel
theorem dX8_quickJoined_38 : decode cX8_quickJoined 38 = .ok (.iconst 3, 1) := by decide +kernel
theorem dX8_quickJoined_39 : decode cX8_quickJoined 39 = .ok (.if_icmp .ne 5, 3) := by decide +kernel
theorem dX8_quickJoined_42 : decode cX8_quickJoined 42 = .ok (.iconst 0, 1) := by decide +kernel
theorem dX8_quickJoined_43 : decode cX8_quickJoined 43 = .ok (.ireturn, 1) := by decide +kernel
theorem dX8_quickJoined_44 : decode cX8_quickJoined 44 = .ok (.aload_n 0, 1) := by decide +kernel
theorem dX8_quickJoined_45 : decode cX8_quickJoined 45 = .ok (.getfield 19, 3) := by decide +kernel
theorem dX8_quickJoined_48 : decode cX8_quickJoined 48 = .ok (.aload_n 0, 1) := by decide +kernel
theorem dX8_quickJoined_49 : decode cX8_quickJoined 49 = .ok (.getfield 19, 3) := by decide +kernel
theorem dX8_quickJoined_52 : decode cX8_quickJoined 52 = .ok (.iload 4, 2) := by decide +kernel
theorem dX8_quickJoined_54 : decode cX8_quickJoined 54 = .ok (.iconst 0, 1) := by decide +kernel
theorem dX8_quickJoined_55 : decode cX8_quickJoined 55 = .ok (.invokevirtual 124, 3) := by decide +kernel
theorem dX8_quickJoined_58 : decode cX8_quickJoined 58 = .ok (.invokevirtual 241, 3) := by decide +kernel
theorem dX8_quickJoined_61 : decode cX8_quickJoined 61 = .ok (.ifCond .eq 5, 3) := by decide +kernel
theorem dX8_quickJoined_64 : decode cX8_quickJoined 64 = .ok (.iconst 1, 1) := by decide +kernel
theorem dX8_quickJoined_65 : decode cX8_quickJoined 65 = .ok (.istore_n 2, 1) := by decide +kernel
theorem dX8_quickJoined_66 : decode cX8_quickJoined 66 = .ok (.iinc 3 1, 3) := by decide +kernel
theorem dX8_quickJoined_69 : decode cX8_quickJoined 69 = .ok (.goto (-65), 3) := by decide +kernel
theorem dX8_quickJoined_72 : decode cX8_quickJoined 72 = .ok (.aload_n 0, 1) := by decide +kernel
theorem dX8_quickJoined_73 : decode cX8_quickJoined 73 = .ok (.getfield 50, 3) := by decide +kernel
theorem dX8_quickJoined_76 : decode cX8_quickJoined 76 = .ok (.aload_n 0, 1) := by decide +kernel
theorem dX8_quickJoined_77 : decode cX8_quickJoined 77 = .ok (.getfield 19, 3) := by decide +kernel
theorem dX8_quickJoined_80 : decode cX8_quickJoined 80 = .ok (.aload_n 1, 1) := by decide +kernel
theorem dX8_quickJoined_81 : decode cX8_quickJoined 81 = .ok (.invokevirtual 237, 3) := by decide +kernel
theorem dX8_quickJoined_84 : decode cX8_quickJoined 84 = .ok (.ifCond .ne 5, 3) := by decide +kernel
theorem dX8_quickJoined_87 : decode cX8_quickJoined 87 = .ok (.iconst 0, 1) := by decide +kernel
theorem dX8_quickJoined_88 : decode cX8_quickJoined 88 = .ok (.ireturn, 1) := by decide +kernel
theorem dX8_quickJoined_89 : decode cX8_quickJoined 89 = .ok (.iload_n 2, 1) := by decide +kernel
theorem dX8_quickJoined_90 : decode cX8_quickJoined 90 = .ok (.ifCond .eq 7, 3) := by decide +kernel
theorem dX8_quickJoined_93 : decode cX8_quickJoined 93 = .ok (.iconst 2, 1) := by decide +kernel
theorem dX8_quickJoined_94 : decode cX8_quickJoined 94 = .ok (.goto 4, 3) := by decide +kernel
theorem dX8_quickJoined_97 : decode cX8_quickJoined 97 = .ok (.iconst 1, 1) := by decide +kernel
theorem dX8_quickJoined_98 : decode cX8_quickJoined 98 = .ok (.ireturn, 1) := by decide +kernel
