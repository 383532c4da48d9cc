theorem dX4_copied_13 : decode cX4_copied 13 = .ok (.iload_n 3, 1) := by decide +kernel
theorem dX4_copied_14 : decode cX4_copied 14 = .ok (.iand, 1) := by decide +kernel
theorem dX4_copied_15 : decode cX4_copied 15 = .ok (.ior, 1) := by decide +kernel
theorem dX4_copied_16 : decode cX4_copied 16 = .ok (.ireturn, 1) := by decide +kernel
theorem dX4_unlike_0 : decode cX4_unlike 0 = .ok (.iload_n 0, 1) := by decide +kernel
theorem dX4_unlike_1 : decode cX4_unlike 1 = .ok (.iload_n 1, 1) := by decide +kernel
theorem dX4_unlike_2 : decode cX4_unlike 2 = .ok (.ixor, 1) := by decide +kernel
theorem dX4_unlike_3 : decode cX4_unlike 3 = .ok (.istore_n 2, 1) := by decide +kernel
theorem dX4_unlike_4 : decode cX4_unlike 4 = .ok (.iload_n 2, 1) := by decide +kernel
theorem dX4_unlike_5 : decode cX4_unlike 5 = .ok (.iload_n 2, 1) := by decide +kernel
theorem dX4_unlike_6 : decode cX4_unlike 6 = .ok (.bipush 9, 2) := by decide +kernel
theorem dX4_unlike_8 : decode cX4_unlike 8 = .ok (.ishr, 1) := by decide +kernel
theorem dX4_unlike_9 : decode cX4_unlike 9 = .ok (.ior, 1) := by decide +kernel
theorem dX4_unlike_10 : decode cX4_unlike 10 = .ok (.sipush 511, 3) := by decide +kernel
theorem dX4_unlike_13 : decode cX4_unlike 13 = .ok (.iand, 1) := by decide +kernel
theorem dX4_unlike_14 : decode cX4_unlike 14 = .ok (.ireturn, 1) := by decide +kernel
theorem dX4_leastOf_0 : decode cX4_leastOf 0 = .ok (.iconst 0, 1) := by decide +kernel
theorem dX4_leastOf_1 : decode cX4_leastOf 1 = .ok (.istore_n 1, 1) := by decide +kernel
theorem dX4_leastOf_2 : decode cX4_leastOf 2 = .ok (.iload_n 1, 1) := by decide +kernel
theorem dX4_leastOf_3 : decode cX4_leastOf 3 = .ok (.bipush 9, 2) := by decide +kernel
theorem dX4_leastOf_5 : decode cX4_leastOf 5 = .ok (.if_icmp .ge 19, 3) := by decide +kernel
theorem dX4_leastOf_8 : decode cX4_leastOf 8 = .ok (.iload_n 0, 1) := by decide +kernel
theorem dX4_leastOf_9 : decode cX4_leastOf 9 = .ok (.iload_n 1, 1) := by decide +kernel
theorem dX4_leastOf_10 : decode cX4_leastOf 10 = .ok (.ishr, 1) := by decide +kernel
theorem dX4_leastOf_11 : decode cX4_leastOf 11 = .ok (.iconst 1, 1) := by decide +kernel
theorem dX4_leastOf_12 : decode cX4_leastOf 12 = .ok (.iand, 1) := by decide +kernel
theorem dX4_leastOf_13 : decode cX4_leastOf 13 = .ok (.ifCond .eq 5, 3) := by decide +kernel
theorem dX4_leastOf_16 : decode cX4_leastOf 16 = .ok (.iload_n 1, 1) := by decide +kernel
theorem dX4_leastOf_17 : decode cX4_leastOf 17 = .ok (.ireturn, 1) := by decide +kernel
theorem dX4_leastOf_18 : decode cX4_leastOf 18 = .ok (.iinc 1 1, 3) := by decide +kernel
theorem dX4_leastOf_21 : decode cX4_leastOf 21 = .ok (.goto (-19), 3) := by decide +kernel
theorem dX4_leastOf_24 : decode cX4_leastOf 24 = .ok (.iconst (-1), 1) := by decide +kernel
theorem dX4_leastOf_25 : decode cX4_leastOf 25 = .ok (.ireturn, 1) := by decide +kernel
theorem dX5_init_0 : decode cX5_init 0 = .ok (.aload_n 0, 1) := by decide +kernel
theorem dX5_init_1 : decode cX5_init 1 = .ok (.invokespecial 1, 3) := by decide +kernel
theorem dX5_init_4 : decode cX5_init 4 = .ok (.aload_n 0, 1) := by decide +kernel
theorem dX5_init_5 : decode cX5_init 5 = .ok (.sipush 201, 3) := by decide +kernel
theorem dX5_init_8 : decode cX5_init 8 = .ok (.newarray .int, 2) := by decide +kernel
theorem dX5_init_10 : decode cX5_init 10 = .ok (.putfield 7, 3) := by decide +kernel
theorem dX5_init_13 : decode cX5_init 13 = .ok (.aload_n 0, 1) := by decide +kernel
theorem dX5_init_14 : decode cX5_init 14 = .ok (.sipush 201, 3) := by decide +kernel
theorem dX5_init_17 : decode cX5_init 17 = .ok (.newarray .int, 2) := by decide +kernel
theorem dX5_init_19 : decode cX5_init 19 = .ok (.putfield 13, 3) := by decide +kernel
theorem dX5_init_22 : decode cX5_init 22 = .ok (.aload_n 0, 1) := by decide +kernel
theorem dX5_init_23 : decode cX5_init 23 = .ok (.sipush 201, 3) := by decide +kernel
theorem dX5_init_26 : decode cX5_init 26 = .ok (.newarray .int, 2) := by decide +kernel
theorem dX5_init_28 : decode cX5_init 28 = .ok (.putfield 16, 3) := by decide +kernel
theorem dX5_init_31 : decode cX5_init 31 = .ok (.aload_n 0, 1) := by decide +kernel
theorem dX5_init_32 : decode cX5_init 32 = .ok (.sipush 201, 3) := by decide +kernel
theorem dX5_init_35 : decode cX5_init 35 = .ok (.newarray .int, 2) := by decide +kernel
theorem dX5_init_37 : decode cX5_init 37 = .ok (.putfield 19, 3) := by decide +kernel
theorem dX5_init_40 : decode cX5_init 40 = .ok (.aload_n 0, 1) := by decide +kernel
theorem dX5_init_41 : decode cX5_init 41 = .ok (.bipush 8, 2) := by decide +kernel
theorem dX5_init_43 : decode cX5_init 43 = .ok (.newarray .int, 2) := by decide +kernel
theorem dX5_init_45 : decode cX5_init 45 = .ok (.putfield 22, 3) := by decide +kernel
theorem dX5_init_48 : decode cX5_init 48 = .ok (.aload_n 0, 1) := by decide +kernel
theorem dX5_init_49 : decode cX5_init 49 = .ok (.bipush 120, 2) := by decide +kernel
theorem dX5_init_51 : decode cX5_init 51 = .ok (.newarray .int, 2) := by decide +kernel
theorem dX5_init_53 : decode cX5_init 53 = .ok (.putfield 25, 3) := by decide +kernel
theorem dX5_init_56 : decode cX5_init 56 = .ok (.aload_n 0, 1) := by decide +kernel
theorem dX5_init_57 : decode cX5_init 57 = .ok (.iconst 4, 1) := by decide +kernel
theorem dX5_init_58 : decode cX5_init 58 = .ok (.newarray .int, 2) := by decide +kernel
theorem dX5_init_60 : decode cX5_init 60 = .ok (.dup, 1) := by decide +kernel
theorem dX5_init_61 : decode cX5_init 61 = .ok (.iconst 0, 1) := by decide +kernel
theorem dX5_init_62 : decode cX5_init 62 = .ok (.iconst (-1), 1) := by decide +kernel
theorem dX5_init_63 : decode cX5_init 63 = .ok (.iastore, 1) := by decide +kernel
theorem dX5_init_64 : decode cX5_init 64 = .ok (.dup, 1) := by decide +kernel
theorem dX5_init_65 : decode cX5_init 65 = .ok (.iconst 1, 1) := by decide +kernel
theorem dX5_init_66 : decode cX5_init 66 = .ok (.iconst (-1), 1) := by decide +kernel
theorem dX5_init_67 : decode cX5_init 67 = .ok (.iastore, 1) := by decide +kernel
theorem dX5_init_68 : decode cX5_init 68 = .ok (.dup, 1) := by decide +kernel
theorem dX5_init_69 : decode cX5_init 69 = .ok (.iconst 2, 1) := by decide +kernel
theorem dX5_init_70 : decode cX5_init 70 = .ok (.iconst (-1), 1) := by decide +kernel
theorem dX5_init_71 : decode cX5_init 71 = .ok (.iastore, 1) := by decide +kernel
theorem dX5_init_72 : decode cX5_init 72 = .ok (.dup, 1) := by decide +kernel
theorem dX5_init_73 : decode cX5_init 73 = .ok (.iconst 3, 1) := by decide +kernel
theorem dX5_init_74 : decode cX5_init 74 = .ok (.iconst (-1), 1) := by decide +kernel
theorem dX5_init_75 : decode cX5_init 75 = .ok (.iastore, 1) := by decide +kernel
theorem dX5_init_76 : decode cX5_init 76 = .ok (.putfield 28, 3) := by decide +kernel
theorem dX5_init_79 : decode cX5_init 79 = .ok (.aload_n 0, 1) := by decide +kernel
theorem dX5_init_80 : decode cX5_init 80 = .ok (.iconst 4, 1) := by decide +kernel
theorem dX5_init_81 : decode cX5_init 81 = .ok (.newarray .int, 2) := by decide +kernel
theorem dX5_init_83 : decode cX5_init 83 = .ok (.putfield 31, 3) := by decide +kernel
theorem dX5_init_86 : decode cX5_init 86 = .ok (.aload_n 0, 1) := by decide +kernel
theorem dX5_init_87 : decode cX5_init 87 = .ok (.sipush 160, 3) := by decide +kernel
theorem dX5_init_90 : decode cX5_init 90 = .ok (.newarray .long, 2) := by decide +kernel
theorem dX5_init_92 : decode cX5_init 92 = .ok (.putfield 34, 3) := by decide +kernel
theorem dX5_init_95 : decode cX5_init 95 = .ok (.aload_n 0, 1) := by decide +kernel
theorem dX5_init_96 : decode cX5_init 96 = .ok (.iconst (-1), 1) := by decide +kernel
theorem dX5_init_97 : decode cX5_init 97 = .ok (.putfield 38, 3) := by decide +kernel
theorem dX5_init_100 : decode cX5_init 100 = .ok (.iconst 0, 1) := by decide +kernel
theorem dX5_init_101 : decode cX5_init 101 = .ok (.istore_n 1, 1) := by decide +kernel
theorem dX5_init_102 : decode cX5_init 102 = .ok (.iload_n 1, 1) := by decide +kernel
theorem dX5_init_103 : decode cX5_init 103 = .ok (.bipush 9, 2) := by decide +kernel
theorem dX5_init_105 : decode cX5_init 105 = .ok (.if_icmp .ge 28, 3) := by decide +kernel
theorem dX5_init_108 : decode cX5_init 108 = .ok (.aload_n 0, 1) := by decide +kernel
theorem dX5_init_109 : decode cX5_init 109 = .ok (.getfield 7, 3) := by decide +kernel
theorem dX5_init_112 : decode cX5_init 112 = .ok (.iconst 3, 1) := by decide +kernel
theorem dX5_init_113 : decode cX5_init 113 = .ok (.iload_n 1, 1) := by decide +kernel
theorem dX5_init_114 : decode cX5_init 114 = .ok (.iadd, 1) := by decide +kernel
theorem dX5_init_115 : decode cX5_init 115 = .ok (.iconst 1, 1) := by decide +kernel
theorem dX5_init_116 : decode cX5_init 116 = .ok (.iastore, 1) := by decide +kernel
theorem dX5_init_117 : decode cX5_init 117 = .ok (.aload_n 0, 1) := by decide +kernel
theorem dX5_init_118 : decode cX5_init 118 = .ok (.getfield 7, 3) := by decide +kernel
theorem dX5_init_121 : decode cX5_init 121 = .ok (.bipush 12, 2) := by decide +kernel
theorem dX5_init_123 : decode cX5_init 123 = .ok (.iload_n 1, 1) := by decide +kernel
theorem dX5_init_124 : decode cX5_init 124 = .ok (.iadd, 1) := by decide +kernel
theorem dX5_init_125 : decode cX5_init 125 = .ok (.iconst 2, 1) := by decide +kernel
theorem dX5_init_126 : decode cX5_init 126 = .ok (.iastore, 1) := by decide +kernel
theorem dX5_init_127 : decode cX5_init 127 = .ok (.iinc 1 1, 3) := by decide +kernel
theorem dX5_init_130 : decode cX5_init 130 = .ok (.goto (-28), 3) := by decide +kernel
theorem dX5_init_133 : decode cX5_init 133 = .ok (.return_, 1) := by decide +kernel
theorem dX5_isIn_0 : decode cX5_isIn 0 = .ok (.lload_n 0, 1) := by decide +kernel
theorem dX5_isIn_1 : decode cX5_isIn 1 = .ok (.lload_n 2, 1) := by decide +kernel
theorem dX5_isIn_2 : decode cX5_isIn 2 = .ok (.lcmp, 1) := by decide +kernel
theorem dX5_isIn_3 : decode cX5_isIn 3 = .ok (.ifCond .lt 14, 3) := by decide +kernel
theorem dX5_isIn_6 : decode cX5_isIn 6 = .ok (.lload_n 0, 1) := by decide +kernel
theorem dX5_isIn_7 : decode cX5_isIn 7 = .ok (.lload 4, 2) := by decide +kernel
theorem dX5_isIn_9 : decode cX5_isIn 9 = .ok (.lcmp, 1) := by decide +kernel
theorem dX5_isIn_10 : decode cX5_isIn 10 = .ok (.ifCond .gt 7, 3) := by decide +kernel
theorem dX5_isIn_13 : decode cX5_isIn 13 = .ok (.iconst 1, 1) := by decide +kernel
theorem dX5_isIn_14 : decode cX5_isIn 14 = .ok (.goto 4, 3) := by decide +kernel
theorem dX5_isIn_17 : decode cX5_isIn 17 = .ok (.iconst 0, 1) := by decide +kernel
theorem dX5_isIn_18 : decode cX5_isIn 18 = .ok (.ireturn, 1) := by decide +kernel
theorem dX5_finds_0 : decode cX5_finds 0 = .ok (.aload_n 0, 1) := by decide +kernel
theorem dX5_finds_1 : decode cX5_finds 1 = .ok (.getfield 22, 3) := by decide +kernel
theorem dX5_finds_4 : decode cX5_finds 4 = .ok (.iconst 0, 1) := by decide +kernel
theorem dX5_finds_5 : decode cX5_finds 5 = .ok (.dup2, 1) := by decide +kernel
theorem dX5_finds_6 : decode cX5_finds 6 = .ok (.iaload, 1) := by decide +kernel
theorem dX5_finds_7 : decode cX5_finds 7 = .ok (.iconst 1, 1) := by decide +kernel
theorem dX5_finds_8 : decode cX5_finds 8 = .ok (.iadd, 1) := by decide +kernel
theorem dX5_finds_9 : decode cX5_finds 9 = .ok (.iastore, 1) := by decide +kernel
theorem dX5_finds_10 : decode cX5_finds 10 = .ok (.aload_n 0, 1) := by decide +kernel
theorem dX5_finds_11 : decode cX5_finds 11 = .ok (.getfield 22, 3) := by decide +kernel
theorem dX5_finds_14 : decode cX5_finds 14 = .ok (.ldc 42, 2) := by decide +kernel
theorem dX5_finds_16 : decode cX5_finds 16 = .ok (.iload_n 1, 1) := by decide +kernel
theorem dX5_finds_17 : decode cX5_finds 17 = .ok (.isub, 1) := by decide +kernel
theorem dX5_finds_18 : decode cX5_finds 18 = .ok (.iconst 1, 1) := by decide +kernel
theorem dX5_finds_19 : decode cX5_finds 19 = .ok (.iadd, 1) := by decide +kernel
theorem dX5_finds_20 : decode cX5_finds 20 = .ok (.dup2, 1) := by decide +kernel
theorem dX5_finds_21 : decode cX5_finds 21 = .ok (.iaload, 1) := by decide +kernel
theorem dX5_finds_22 : decode cX5_finds 22 = .ok (.iconst 1, 1) := by decide +kernel
theorem dX5_finds_23 : decode cX5_finds 23 = .ok (.iadd, 1) := by decide +kernel
theorem dX5_finds_24 : decode cX5_finds 24 = .ok (.iastore, 1) := by decide +kernel
theorem dX5_finds_25 : decode cX5_finds 25 = .ok (.iload_n 1, 1) := by decide +kernel
theorem dX5_finds_26 : decode cX5_finds 26 = .ok (.ireturn, 1) := by decide +kernel
theorem dX5_becomes_0 : decode cX5_becomes 0 = .ok (.aload_n 0, 1) := by decide +kernel
theorem dX5_becomes_1 : decode cX5_becomes 1 = .ok (.getfield 7, 3) := by decide +kernel
theorem dX5_becomes_4 : decode cX5_becomes 4 = .ok (.iload_n 1, 1) := by decide +kernel
theorem dX5_becomes_5 : decode cX5_becomes 5 = .ok (.iaload, 1) := by decide +kernel
theorem dX5_becomes_6 : decode cX5_becomes 6 = .ok (.istore_n 3, 1) := by decide +kernel
theorem dX5_becomes_7 : decode cX5_becomes 7 = .ok (.aload_n 0, 1) := by decide +kernel
theorem dX5_becomes_8 : decode cX5_becomes 8 = .ok (.getfield 7, 3) := by decide +kernel
theorem dX5_becomes_11 : decode cX5_becomes 11 = .ok (.iload_n 1, 1) := by decide +kernel
theorem dX5_becomes_12 : decode cX5_becomes 12 = .ok (.iload_n 2, 1) := by decide +kernel
theorem dX5_becomes_13 : decode cX5_becomes 13 = .ok (.iastore, 1) := by decide +kernel
theorem dX5_becomes_14 : decode cX5_becomes 14 = .ok (.iload_n 3, 1) := by decide +kernel
theorem dX5_becomes_15 : decode cX5_becomes 15 = .ok (.ireturn, 1) := by decide +kernel
theorem dX5_is_0 : decode cX5_is 0 = .ok (.aload_n 0, 1) := by decide +kernel
theorem dX5_is_1 : decode cX5_is 1 = .ok (.getfield 7, 3) := by decide +kernel
theorem dX5_is_4 : decode cX5_is 4 = .ok (.bipush 21, 2) := by decide +kernel
theorem dX5_is_6 : decode cX5_is 6 = .ok (.bipush 15, 2) := by decide +kernel
theorem dX5_is_8 : decode cX5_is 8 = .ok (.iload_n 1, 1) := by decide +kernel
theorem dX5_is_9 : decode cX5_is 9 = .ok (.imul, 1) := by decide +kernel
theorem dX5_is_10 : decode cX5_is 10 = .ok (.iadd, 1) := by decide +kernel
theorem dX5_is_11 : decode cX5_is 11 = .ok (.iload_n 2, 1) := by decide +kernel
theorem dX5_is_12 : decode cX5_is 12 = .ok (.iadd, 1) := by decide +kernel
theorem dX5_is_13 : decode cX5_is 13 = .ok (.iaload, 1) := by decide +kernel
theorem dX5_is_14 : decode cX5_is 14 = .ok (.ireturn, 1) := by decide +kernel
theorem dX5_puts_0 : decode cX5_puts 0 = .ok (.aload_n 0, 1) := by decide +kernel
theorem dX5_puts_1 : decode cX5_puts 1 = .ok (.getfield 7, 3) := by decide +kernel
theorem dX5_puts_4 : decode cX5_puts 4 = .ok (.bipush 21, 2) := by decide +kernel
theorem dX5_puts_6 : decode cX5_puts 6 = .ok (.bipush 15, 2) := by decide +kernel
theorem dX5_puts_8 : decode cX5_puts 8 = .ok (.iload_n 1, 1) := by decide +kernel
theorem dX5_puts_9 : decode cX5_puts 9 = .ok (.imul, 1) := by decide +kernel
theorem dX5_puts_10 : decode cX5_puts 10 = .ok (.iadd, 1) := by decide +kernel
theorem dX5_puts_11 : decode cX5_puts 11 = .ok (.iload_n 2, 1) := by decide +kernel
theorem dX5_puts_12 : decode cX5_puts 12 = .ok (.iadd, 1) := by decide +kernel
theorem dX5_puts_13 : decode cX5_puts 13 = .ok (.iload_n 3, 1) := by decide +kernel
theorem dX5_puts_14 : decode cX5_puts 14 = .ok (.iastore, 1) := by decide +kernel
theorem dX5_puts_15 : decode cX5_puts 15 = .ok (.return_, 1) := by decide +kernel
theorem dX5_isOne_0 : decode cX5_isOne 0 = .ok (.iload_n 1, 1) := by decide +kernel
theorem dX5_isOne_1 : decode cX5_isOne 1 = .ok (.ifCond .lt 17, 3) := by decide +kernel
theorem dX5_isOne_4 : decode cX5_isOne 4 = .ok (.iload_n 1, 1) := by decide +kernel
theorem dX5_isOne_5 : decode cX5_isOne 5 = .ok (.aload_n 0, 1) := by decide +kernel
theorem dX5_isOne_6 : decode cX5_isOne 6 = .ok (.getfield 7, 3) := by decide +kernel
theorem dX5_isOne_9 : decode cX5_isOne 9 = .ok (.iconst 0, 1) := by decide +kernel
theorem dX5_isOne_10 : decode cX5_isOne 10 = .ok (.iaload, 1) := by decide +kernel
theorem dX5_isOne_11 : decode cX5_isOne 11 = .ok (.if_icmp .ge 7, 3) := by decide +kernel
theorem dX5_isOne_14 : decode cX5_isOne 14 = .ok (.iconst 1, 1) := by decide +kernel
theorem dX5_isOne_15 : decode cX5_isOne 15 = .ok (.goto 4, 3) := by decide +kernel
theorem dX5_isOne_18 : decode cX5_isOne 18 = .ok (.iconst 0, 1) := by decide +kernel
theorem dX5_isOne_19 : decode cX5_isOne 19 = .ok (.ireturn, 1) := by decide +kernel
theorem dX5_areTwo_0 : decode cX5_areTwo 0 = .ok (.aload_n 0, 1) := by decide +kernel
theorem dX5_areTwo_1 : decode cX5_areTwo 1 = .ok (.iload_n 1, 1) := by decide +kernel
theorem dX5_areTwo_2 : decode cX5_areTwo 2 = .ok (.invokevirtual 43, 3) := by decide +kernel
theorem dX5_areTwo_5 : decode cX5_areTwo 5 = .ok (.ifCond .eq 20, 3) := by decide +kernel
theorem dX5_areTwo_8 : decode cX5_areTwo 8 = .ok (.aload_n 0, 1) := by decide +kernel
theorem dX5_areTwo_9 : decode cX5_areTwo 9 = .ok (.iload_n 2, 1) := by decide +kernel
theorem dX5_areTwo_10 : decode cX5_areTwo 10 = .ok (.invokevirtual 43, 3) := by decide +kernel
theorem dX5_areTwo_13 : decode cX5_areTwo 13 = .ok (.ifCond .eq 12, 3) := by decide +kernel
theorem dX5_areTwo_16 : decode cX5_areTwo 16 = .ok (.iload_n 1, 1) := by decide +kernel
theorem dX5_areTwo_17 : decode cX5_areTwo 17 = .ok (.iload_n 2, 1) := by decide +kernel
theorem dX5_areTwo_18 : decode cX5_areTwo 18 = .ok (.if_icmp .eq 7, 3) := by decide +kernel
theorem dX5_areTwo_21 : decode cX5_areTwo 21 = .ok (.iconst 1, 1) := by decide +kernel
theorem dX5_areTwo_22 : decode cX5_areTwo 22 = .ok (.goto 4, 3) := by decide +kernel
theorem dX5_areTwo_25 : decode cX5_areTwo 25 = .ok (.iconst 0, 1) := by decide +kernel
theorem dX5_areTwo_26 : decode cX5_areTwo 26 = .ok (.ireturn, 1) := by decide +kernel
theorem dX5_lives_0 : decode cX5_lives 0 = .ok (.aload_n 0, 1) := by decide +kernel
theorem dX5_lives_1 : decode cX5_lives 1 = .ok (.iload_n 1, 1) := by decide +kernel
theorem dX5_lives_2 : decode cX5_lives 2 = .ok (.iconst 5, 1) := by decide +kernel
theorem dX5_lives_3 : decode cX5_lives 3 = .ok (.invokevirtual 47, 3) := by decide +kernel
theorem dX5_lives_6 : decode cX5_lives 6 = .ok (.iconst 1, 1) := by decide +kernel
theorem dX5_lives_7 : decode cX5_lives 7 = .ok (.if_icmp .ne 7, 3) := by decide +kernel
theorem dX5_lives_10 : decode cX5_lives 10 = .ok (.iconst 1, 1) := by decide +kernel
theorem dX5_lives_11 : decode cX5_lives 11 = .ok (.goto 4, 3) := by decide +kernel
theorem dX5_lives_14 : decode cX5_lives 14 = .ok (.iconst 0, 1) := by decide +kernel
theorem dX5_lives_15 : decode cX5_lives 15 = .ok (.ireturn, 1) := by decide +kernel
theorem dX5_isMark_0 : decode cX5_isMark 0 = .ok (.iload_n 0, 1) := by decide +kernel
theorem dX5_isMark_1 : decode cX5_isMark 1 = .ok (.ifCond .lt 13, 3) := by decide +kernel
theorem dX5_isMark_4 : decode cX5_isMark 4 = .ok (.iload_n 0, 1) := by decide +kernel
theorem dX5_isMark_5 : decode cX5_isMark 5 = .ok (.bipush 9, 2) := by decide +kernel
theorem dX5_isMark_7 : decode cX5_isMark 7 = .ok (.if_icmp .ge 7, 3) := by decide +kernel
theorem dX5_isMark_10 : decode cX5_isMark 10 = .ok (.iconst 1, 1) := by decide +kernel
theorem dX5_isMark_11 : decode cX5_isMark 11 = .ok (.goto 4, 3) := by decide +kernel
theorem dX5_isMark_14 : decode cX5_isMark 14 = .ok (.iconst 0, 1) := by decide +kernel
theorem dX5_isMark_15 : decode cX5_isMark 15 = .ok (.ireturn, 1) := by decide +kernel
theorem dX5_isFar_0 : decode cX5_isFar 0 = .ok (.aload_n 0, 1) := by decide +kernel
theorem dX5_isFar_1 : decode cX5_isFar 1 = .ok (.getfield 7, 3) := by decide +kernel
theorem dX5_isFar_4 : decode cX5_isFar 4 = .ok (.iconst 1, 1) := by decide +kernel
theorem dX5_isFar_5 : decode cX5_isFar 5 = .ok (.iaload, 1) := by decide +kernel
theorem dX5_isFar_6 : decode cX5_isFar 6 = .ok (.iload_n 1, 1) := by decide +kernel
theorem dX5_isFar_7 : decode cX5_isFar 7 = .ok (.iadd, 1) := by decide +kernel
theorem dX5_isFar_8 : decode cX5_isFar 8 = .ok (.sipush 9999, 3) := by decide +kernel
theorem dX5_isFar_11 : decode cX5_isFar 11 = .ok (.if_icmp .le 7, 3) := by decide +kernel
theorem dX5_isFar_14 : decode cX5_isFar 14 = .ok (.iconst 1, 1) := by decide +kernel
theorem dX5_isFar_15 : decode cX5_isFar 15 = .ok (.goto 4, 3) := by decide +kernel
theorem dX5_isFar_18 : decode cX5_isFar 18 = .ok (.iconst 0, 1) := by decide +kernel
theorem dX5_isFar_19 : decode cX5_isFar 19 = .ok (.ireturn, 1) := by decide +kernel
theorem dX5_copyRow_0 : decode cX5_copyRow 0 = .ok (.iconst 0, 1) := by decide +kernel
theorem dX5_copyRow_1 : decode cX5_copyRow 1 = .ok (.istore_n 2, 1) := by decide +kernel
theorem dX5_copyRow_2 : decode cX5_copyRow 2 = .ok (.iload_n 2, 1) := by decide +kernel
theorem dX5_copyRow_3 : decode cX5_copyRow 3 = .ok (.sipush 201, 3) := by decide +kernel
theorem dX5_copyRow_6 : decode cX5_copyRow 6 = .ok (.if_icmp .ge 15, 3) := by decide +kernel
theorem dX5_copyRow_9 : decode cX5_copyRow 9 = .ok (.aload_n 1, 1) := by decide +kernel
theorem dX5_copyRow_10 : decode cX5_copyRow 10 = .ok (.iload_n 2, 1) := by decide +kernel
theorem dX5_copyRow_11 : decode cX5_copyRow 11 = .ok (.aload_n 0, 1) := by decide +kernel
theorem dX5_copyRow_12 : decode cX5_copyRow 12 = .ok (.iload_n 2, 1) := by decide +kernel
theorem dX5_copyRow_13 : decode cX5_copyRow 13 = .ok (.iaload, 1) := by decide +kernel
theorem dX5_copyRow_14 : decode cX5_copyRow 14 = .ok (.iastore, 1) := by decide +kernel
theorem dX5_copyRow_15 : decode cX5_copyRow 15 = .ok (.iinc 2 1, 3) := by decide +kernel
theorem dX5_copyRow_18 : decode cX5_copyRow 18 = .ok (.goto (-16), 3) := by decide +kernel
theorem dX5_copyRow_21 : decode cX5_copyRow 21 = .ok (.return_, 1) := by decide +kernel
theorem dX5_mark_0 : decode cX5_mark 0 = .ok (.iload_n 1, 1) := by decide +kernel
theorem dX5_mark_1 : decode cX5_mark 1 = .ok (.invokestatic 51, 3) := by decide +kernel
theorem dX5_mark_4 : decode cX5_mark 4 = .ok (.ifCond .eq 35, 3) := by decide +kernel
theorem dX5_mark_7 : decode cX5_mark 7 = .ok (.iload_n 2, 1) := by decide +kernel
theorem dX5_mark_8 : decode cX5_mark 8 = .ok (.i2l, 1) := by decide +kernel
theorem dX5_mark_9 : decode cX5_mark 9 = .ok (.lconst 0, 1) := by decide +kernel
theorem dX5_mark_10 : decode cX5_mark 10 = .ok (.lconst 1, 1) := by decide +kernel
theorem dX5_mark_11 : decode cX5_mark 11 = .ok (.invokestatic 54, 3) := by decide +kernel
theorem dX5_mark_14 : decode cX5_mark 14 = .ok (.ifCond .eq 25, 3) := by decide +kernel
theorem dX5_mark_17 : decode cX5_mark 17 = .ok (.iload_n 3, 1) := by decide +kernel
theorem dX5_mark_18 : decode cX5_mark 18 = .ok (.i2l, 1) := by decide +kernel
theorem dX5_mark_19 : decode cX5_mark 19 = .ok (.lconst 0, 1) := by decide +kernel
theorem dX5_mark_20 : decode cX5_mark 20 = .ok (.iload_n 2, 1) := by decide +kernel
theorem dX5_mark_21 : decode cX5_mark 21 = .ok (.ifCond .ne 9, 3) := by decide +kernel
theorem dX5_mark_24 : decode cX5_mark 24 = .ok (.ldc2_w 58, 3) := by decide +kernel
theorem dX5_mark_27 : decode cX5_mark 27 = .ok (.goto 6, 3) := by decide +kernel
theorem dX5_mark_30 : decode cX5_mark 30 = .ok (.ldc2_w 60, 3) := by decide +kernel
theorem dX5_mark_33 : decode cX5_mark 33 = .ok (.invokestatic 54, 3) := by decide +kernel
theorem dX5_mark_36 : decode cX5_mark 36 = .ok (.ifCond .ne 10, 3) := by decide +kernel
theorem dX5_mark_39 : decode cX5_mark 39 = .ok (.aload_n 0, 1) := by decide +kernel
theorem dX5_mark_40 : decode cX5_mark 40 = .ok (.ldc 42, 2) := by decide +kernel
theorem dX5_mark_42 : decode cX5_mark 42 = .ok (.invokevirtual 62, 3) := by decide +kernel
theorem dX5_mark_45 : decode cX5_mark 45 = .ok (.ireturn, 1) := by decide +kernel
theorem dX5_mark_46 : decode cX5_mark 46 = .ok (.aload_n 0, 1) := by decide +kernel
theorem dX5_mark_47 : decode cX5_mark 47 = .ok (.iload_n 2, 1) := by decide +kernel
theorem dX5_mark_48 : decode cX5_mark 48 = .ok (.ifCond .ne 7, 3) := by decide +kernel
theorem dX5_mark_51 : decode cX5_mark 51 = .ok (.iconst 3, 1) := by decide +kernel
theorem dX5_mark_52 : decode cX5_mark 52 = .ok (.goto 5, 3) := by decide +kernel
theorem dX5_mark_55 : decode cX5_mark 55 = .ok (.bipush 12, 2) := by decide +kernel
theorem dX5_mark_57 : decode cX5_mark 57 = .ok (.iload_n 1, 1) := by decide +kernel
theorem dX5_mark_58 : decode cX5_mark 58 = .ok (.iadd, 1) := by decide +kernel
theorem dX5_mark_59 : decode cX5_mark 59 = .ok (.iload_n 3, 1) := by decide +kernel
theorem dX5_mark_60 : decode cX5_mark 60 = .ok (.invokevirtual 66, 3) := by decide +kernel
theorem dX5_mark_63 : decode cX5_mark 63 = .ok (.ireturn, 1) := by decide +kernel
theorem dX5_let_0 : decode cX5_let 0 = .ok (.iload_n 1, 1) := by decide +kernel
theorem dX5_let_1 : decode cX5_let 1 = .ok (.i2l, 1) := by decide +kernel
theorem dX5_let_2 : decode cX5_let 2 = .ok (.lconst 0, 1) := by decide +kernel
theorem dX5_let_3 : decode cX5_let 3 = .ok (.ldc2_w 69, 3) := by decide +kernel
theorem dX5_let_6 : decode cX5_let 6 = .ok (.invokestatic 54, 3) := by decide +kernel
theorem dX5_let_9 : decode cX5_let 9 = .ok (.ifCond .eq 12, 3) := by decide +kernel
theorem dX5_let_12 : decode cX5_let 12 = .ok (.aload_n 0, 1) := by decide +kernel
theorem dX5_let_13 : decode cX5_let 13 = .ok (.iconst 2, 1) := by decide +kernel
theorem dX5_let_14 : decode cX5_let 14 = .ok (.iload_n 1, 1) := by decide +kernel
theorem dX5_let_15 : decode cX5_let 15 = .ok (.invokevirtual 66, 3) := by decide +kernel
theorem dX5_let_18 : decode cX5_let 18 = .ok (.goto 9, 3) := by decide +kernel
theorem dX5_let_21 : decode cX5_let 21 = .ok (.aload_n 0, 1) := by decide +kernel
theorem dX5_let_22 : decode cX5_let 22 = .ok (.ldc 42, 2) := by decide +kernel
theorem dX5_let_24 : decode cX5_let 24 = .ok (.invokevirtual 62, 3) := by decide +kernel
theorem dX5_let_27 : decode cX5_let 27 = .ok (.ireturn, 1) := by decide +kernel
theorem dX5_comes_0 : decode cX5_comes 0 = .ok (.aload_n 0, 1) := by decide +kernel
theorem dX5_comes_1 : decode cX5_comes 1 = .ok (.getfield 7, 3) := by decide +kernel
theorem dX5_comes_4 : decode cX5_comes 4 = .ok (.iconst 0, 1) := by decide +kernel
theorem dX5_comes_5 : decode cX5_comes 5 = .ok (.iaload, 1) := by decide +kernel
theorem dX5_comes_6 : decode cX5_comes 6 = .ok (.istore_n 3, 1) := by decide +kernel
theorem dX5_comes_7 : decode cX5_comes 7 = .ok (.aload_n 0, 1) := by decide +kernel
theorem dX5_comes_8 : decode cX5_comes 8 = .ok (.getfield 7, 3) := by decide +kernel
theorem dX5_comes_11 : decode cX5_comes 11 = .ok (.iconst 0, 1) := by decide +kernel
theorem dX5_comes_12 : decode cX5_comes 12 = .ok (.dup2, 1) := by decide +kernel
theorem dX5_comes_13 : decode cX5_comes 13 = .ok (.iaload, 1) := by decide +kernel
theorem dX5_comes_14 : decode cX5_comes 14 = .ok (.iconst 1, 1) := by decide +kernel
theorem dX5_comes_15 : decode cX5_comes 15 = .ok (.iadd, 1) := by decide +kernel
theorem dX5_comes_16 : decode cX5_comes 16 = .ok (.iastore, 1) := by decide +kernel
theorem dX5_comes_17 : decode cX5_comes 17 = .ok (.iconst 0, 1) := by decide +kernel
theorem dX5_comes_18 : decode cX5_comes 18 = .ok (.istore 4, 2) := by decide +kernel
theorem dX5_comes_20 : decode cX5_comes 20 = .ok (.iload 4, 2) := by decide +kernel
theorem dX5_comes_22 : decode cX5_comes 22 = .ok (.bipush 9, 2) := by decide +kernel
theorem dX5_comes_24 : decode cX5_comes 24 = .ok (.if_icmp .ge 20, 3) := by decide +kernel
theorem dX5_comes_27 : decode cX5_comes 27 = .ok (.aload_n 0, 1) := by decide +kernel
theorem dX5_comes_28 : decode cX5_comes 28 = .ok (.iload_n 3, 1) := by decide +kernel
theorem dX5_comes_29 : decode cX5_comes 29 = .ok (.bipush 6, 2) := by decide +kernel
theorem dX5_comes_31 : decode cX5_comes 31 = .ok (.iload 4, 2) := by decide +kernel
theorem dX5_comes_33 : decode cX5_comes 33 = .ok (.iadd, 1) := by decide +kernel
theorem dX5_comes_34 : decode cX5_comes 34 = .ok (.iconst 0, 1) := by decide +kernel
theorem dX5_comes_35 : decode cX5_comes 35 = .ok (.invokevirtual 71, 3) := by decide +kernel
theorem dX5_comes_38 : decode cX5_comes 38 = .ok (.iinc 4 1, 3) := by decide +kernel
theorem dX5_comes_41 : decode cX5_comes 41 = .ok (.goto (-21), 3) := by decide +kernel
theorem dX5_comes_44 : decode cX5_comes 44 = .ok (.aload_n 0, 1) := by decide +kernel
theorem dX5_comes_45 : decode cX5_comes 45 = .ok (.iload_n 3, 1) := by decide +kernel
theorem dX5_comes_46 : decode cX5_comes 46 = .ok (.iconst 0, 1) := by decide +kernel
theorem dX5_comes_47 : decode cX5_comes 47 = .ok (.iload_n 1, 1) := by decide +kernel
theorem dX5_comes_48 : decode cX5_comes 48 = .ok (.invokevirtual 71, 3) := by decide +kernel
theorem dX5_comes_51 : decode cX5_comes 51 = .ok (.aload_n 0, 1) := by decide +kernel
theorem dX5_comes_52 : decode cX5_comes 52 = .ok (.iload_n 3, 1) := by decide +kernel
theorem dX5_comes_53 : decode cX5_comes 53 = .ok (.iconst 1, 1) := by decide +kernel
theorem dX5_comes_54 : decode cX5_comes 54 = .ok (.iload_n 2, 1) := by decide +kernel
theorem dX5_comes_55 : decode cX5_comes 55 = .ok (.invokevirtual 71, 3) := by decide +kernel
theorem dX5_comes_58 : decode cX5_comes 58 = .ok (.aload_n 0, 1) := by decide +kernel
theorem dX5_comes_59 : decode cX5_comes 59 = .ok (.iload_n 3, 1) := by decide +kernel
theorem dX5_comes_60 : decode cX5_comes 60 = .ok (.iconst 2, 1) := by decide +kernel
theorem dX5_comes_61 : decode cX5_comes 61 = .ok (.bipush 10, 2) := by decide +kernel
theorem dX5_comes_63 : decode cX5_comes 63 = .ok (.invokevirtual 71, 3) := by decide +kernel
theorem dX5_comes_66 : decode cX5_comes 66 = .ok (.aload_n 0, 1) := by decide +kernel
theorem dX5_comes_67 : decode cX5_comes 67 = .ok (.iload_n 3, 1) := by decide +kernel
theorem dX5_comes_68 : decode cX5_comes 68 = .ok (.iconst 3, 1) := by decide +kernel
theorem dX5_comes_69 : decode cX5_comes 69 = .ok (.bipush 70, 2) := by decide +kernel
theorem dX5_comes_71 : decode cX5_comes 71 = .ok (.invokevirtual 71, 3) := by decide +kernel
theorem dX5_comes_74 : decode cX5_comes 74 = .ok (.aload_n 0, 1) := by decide +kernel
theorem dX5_comes_75 : decode cX5_comes 75 = .ok (.iload_n 3, 1) := by decide +kernel
theorem dX5_comes_76 : decode cX5_comes 76 = .ok (.iconst 4, 1) := by decide +kernel
theorem dX5_comes_77 : decode cX5_comes 77 = .ok (.iconst (-1), 1) := by decide +kernel
theorem dX5_comes_78 : decode cX5_comes 78 = .ok (.invokevirtual 71, 3) := by decide +kernel
theorem dX5_comes_81 : decode cX5_comes 81 = .ok (.aload_n 0, 1) := by decide +kernel
theorem dX5_comes_82 : decode cX5_comes 82 = .ok (.iload_n 3, 1) := by decide +kernel
theorem dX5_comes_83 : decode cX5_comes 83 = .ok (.iconst 5, 1) := by decide +kernel
theorem dX5_comes_84 : decode cX5_comes 84 = .ok (.iconst 1, 1) := by decide +kernel
theorem dX5_comes_85 : decode cX5_comes 85 = .ok (.invokevirtual 71, 3) := by decide +kernel
theorem dX5_comes_88 : decode cX5_comes 88 = .ok (.iload_n 3, 1) := by decide +kernel
theorem dX5_comes_89 : decode cX5_comes 89 = .ok (.ireturn, 1) := by decide +kernel
theorem dX5_person_0 : decode cX5_person 0 = .ok (.iload_n 1, 1) := by decide +kernel
theorem dX5_person_1 : decode cX5_person 1 = .ok (.i2l, 1) := by decide +kernel
theorem dX5_person_2 : decode cX5_person 2 = .ok (.lconst 0, 1) := by decide +kernel
theorem dX5_person_3 : decode cX5_person 3 = .ok (.ldc2_w 75, 3) := by decide +kernel
theorem dX5_person_6 : decode cX5_person 6 = .ok (.invokestatic 54, 3) := by decide +kernel
theorem dX5_person_9 : decode cX5_person 9 = .ok (.ifCond .eq 15, 3) := by decide +kernel
theorem dX5_person_12 : decode cX5_person 12 = .ok (.iload_n 2, 1) := by decide +kernel
theorem dX5_person_13 : decode cX5_person 13 = .ok (.i2l, 1) := by decide +kernel
theorem dX5_person_14 : decode cX5_person 14 = .ok (.lconst 0, 1) := by decide +kernel
theorem dX5_person_15 : decode cX5_person 15 = .ok (.ldc2_w 77, 3) := by decide +kernel
theorem dX5_person_18 : decode cX5_person 18 = .ok (.invokestatic 54, 3) := by decide +kernel
theorem dX5_person_21 : decode cX5_person 21 = .ok (.ifCond .ne 10, 3) := by decide +kernel
theorem dX5_person_24 : decode cX5_person 24 = .ok (.aload_n 0, 1) := by decide +kernel
theorem dX5_person_25 : decode cX5_person 25 = .ok (.ldc 42, 2) := by decide +kernel
theorem dX5_person_27 : decode cX5_person 27 = .ok (.invokevirtual 62, 3) := by decide +kernel
theorem dX5_person_30 : decode cX5_person 30 = .ok (.ireturn, 1) := by decide +kernel
theorem dX5_person_31 : decode cX5_person 31 = .ok (.aload_n 0, 1) := by decide +kernel
theorem dX5_person_32 : decode cX5_person 32 = .ok (.getfield 7, 3) := by decide +kernel
theorem dX5_person_35 : decode cX5_person 35 = .ok (.iconst 0, 1) := by decide +kernel
theorem dX5_person_36 : decode cX5_person 36 = .ok (.iaload, 1) := by decide +kernel
theorem dX5_person_37 : decode cX5_person 37 = .ok (.bipush 12, 2) := by decide +kernel
theorem dX5_person_39 : decode cX5_person 39 = .ok (.if_icmp .ne 12, 3) := by decide +kernel
theorem dX5_person_42 : decode cX5_person 42 = .ok (.aload_n 0, 1) := by decide +kernel
theorem dX5_person_43 : decode cX5_person 43 = .ok (.ldc 79, 2) := by decide +kernel
theorem dX5_person_45 : decode cX5_person 45 = .ok (.invokevirtual 62, 3) := by decide +kernel
theorem dX5_person_48 : decode cX5_person 48 = .ok (.goto 9, 3) := by decide +kernel
theorem dX5_person_51 : decode cX5_person 51 = .ok (.aload_n 0, 1) := by decide +kernel
theorem dX5_person_52 : decode cX5_person 52 = .ok (.iload_n 1, 1) := by decide +kernel
theorem dX5_person_53 : decode cX5_person 53 = .ok (.iload_n 2, 1) := by decide +kernel
theorem dX5_person_54 : decode cX5_person 54 = .ok (.invokevirtual 80, 3) := by decide +kernel
theorem dX5_person_57 : decode cX5_person 57 = .ok (.ireturn, 1) := by decide +kernel
theorem dX5_of_0 : decode cX5_of 0 = .ok (.aload_n 0, 1) := by decide +kernel
theorem dX5_of_1 : decode cX5_of 1 = .ok (.iload_n 1, 1) := by decide +kernel
theorem dX5_of_2 : decode cX5_of 2 = .ok (.invokevirtual 43, 3) := by decide +kernel
theorem dX5_of_5 : decode cX5_of 5 = .ok (.ifCond .eq 15, 3) := by decide +kernel
theorem dX5_of_8 : decode cX5_of 8 = .ok (.iload_n 2, 1) := by decide +kernel
theorem dX5_of_9 : decode cX5_of 9 = .ok (.i2l, 1) := by decide +kernel
theorem dX5_of_10 : decode cX5_of 10 = .ok (.lconst 0, 1) := by decide +kernel
theorem dX5_of_11 : decode cX5_of 11 = .ok (.ldc2_w 83, 3) := by decide +kernel
theorem dX5_of_14 : decode cX5_of 14 = .ok (.invokestatic 54, 3) := by decide +kernel
theorem dX5_of_17 : decode cX5_of 17 = .ok (.ifCond .ne 10, 3) := by decide +kernel
theorem dX5_of_20 : decode cX5_of 20 = .ok (.aload_n 0, 1) := by decide +kernel
theorem dX5_of_21 : decode cX5_of 21 = .ok (.ldc 42, 2) := by decide +kernel
theorem dX5_of_23 : decode cX5_of 23 = .ok (.invokevirtual 62, 3) := by decide +kernel
theorem dX5_of_26 : decode cX5_of 26 = .ok (.ireturn, 1) := by decide +kernel
theorem dX5_of_27 : decode cX5_of 27 = .ok (.iload_n 2, 1) := by decide +kernel
theorem dX5_of_28 : decode cX5_of 28 = .ok (.bipush 6, 2) := by decide +kernel
theorem dX5_of_30 : decode cX5_of 30 = .ok (.if_icmp .ne 11, 3) := by decide +kernel
theorem dX5_of_33 : decode cX5_of 33 = .ok (.aload_n 0, 1) := by decide +kernel
theorem dX5_of_34 : decode cX5_of 34 = .ok (.iload_n 1, 1) := by decide +kernel
theorem dX5_of_35 : decode cX5_of 35 = .ok (.invokevirtual 85, 3) := by decide +kernel
theorem dX5_of_38 : decode cX5_of 38 = .ok (.goto 9, 3) := by decide +kernel
theorem dX5_of_41 : decode cX5_of 41 = .ok (.aload_n 0, 1) := by decide +kernel
theorem dX5_of_42 : decode cX5_of 42 = .ok (.iload_n 1, 1) := by decide +kernel
theorem dX5_of_43 : decode cX5_of 43 = .ok (.iload_n 2, 1) := by decide +kernel
theorem dX5_of_44 : decode cX5_of 44 = .ok (.invokevirtual 47, 3) := by decide +kernel
theorem dX5_of_47 : decode cX5_of 47 = .ok (.ireturn, 1) := by decide +kernel
theorem dX5_mayBe_0 : decode cX5_mayBe 0 = .ok (.iload_n 2, 1) := by decide +kernel
theorem dX5_mayBe_1 : decode cX5_mayBe 1 = .ok (.tableswitch 93 1 5 #[35, 45, 55, 65, 85], 35) := by decide +kernel
theorem dX5_mayBe_36 : decode cX5_mayBe 36 = .ok (.iload_n 3, 1) := by decide +kernel
theorem dX5_mayBe_37 : decode cX5_mayBe 37 = .ok (.i2l, 1) := by decide +kernel
theorem dX5_mayBe_38 : decode cX5_mayBe 38 = .ok (.lconst 0, 1) := by decide +kernel
theorem dX5_mayBe_39 : decode cX5_mayBe 39 = .ok (.ldc2_w 77, 3) := by decide +kernel
theorem dX5_mayBe_42 : decode cX5_mayBe 42 = .ok (.invokestatic 54, 3) := by decide +kernel
theorem dX5_mayBe_45 : decode cX5_mayBe 45 = .ok (.ireturn, 1) := by decide +kernel
theorem dX5_mayBe_46 : decode cX5_mayBe 46 = .ok (.iload_n 3, 1) := by decide +kernel
theorem dX5_mayBe_47 : decode cX5_mayBe 47 = .ok (.i2l, 1) := by decide +kernel
theorem dX5_mayBe_48 : decode cX5_mayBe 48 = .ok (.lconst 0, 1) := by decide +kernel
theorem dX5_mayBe_49 : decode cX5_mayBe 49 = .ok (.ldc2_w 88, 3) := by decide +kernel
theorem dX5_mayBe_52 : decode cX5_mayBe 52 = .ok (.invokestatic 54, 3) := by decide +kernel
theorem dX5_mayBe_55 : decode cX5_mayBe 55 = .ok (.ireturn, 1) := by decide +kernel
theorem dX5_mayBe_56 : decode cX5_mayBe 56 = .ok (.iload_n 3, 1) := by decide +kernel
theorem dX5_mayBe_57 : decode cX5_mayBe 57 = .ok (.i2l, 1) := by decide +kernel
theorem dX5_mayBe_58 : decode cX5_mayBe 58 = .ok (.lconst 1, 1) := by decide +kernel
theorem dX5_mayBe_59 : decode cX5_mayBe 59 = .ok (.ldc2_w 77, 3) := by decide +kernel
theorem dX5_mayBe_62 : decode cX5_mayBe 62 = .ok (.invokestatic 54, 3) := by decide +kernel
theorem dX5_mayBe_65 : decode cX5_mayBe 65 = .ok (.ireturn, 1) := by decide +kernel
theorem dX5_mayBe_66 : decode cX5_mayBe 66 = .ok (.iload_n 3, 1) := by decide +kernel
theorem dX5_mayBe_67 : decode cX5_mayBe 67 = .ok (.iconst (-1), 1) := by decide +kernel
theorem dX5_mayBe_68 : decode cX5_mayBe 68 = .ok (.if_icmp .eq 12, 3) := by decide +kernel
theorem dX5_mayBe_71 : decode cX5_mayBe 71 = .ok (.aload_n 0, 1) := by decide +kernel
theorem dX5_mayBe_72 : decode cX5_mayBe 72 = .ok (.iload_n 1, 1) := by decide +kernel
theorem dX5_mayBe_73 : decode cX5_mayBe 73 = .ok (.iload_n 3, 1) := by decide +kernel
theorem dX5_mayBe_74 : decode cX5_mayBe 74 = .ok (.invokevirtual 90, 3) := by decide +kernel
theorem dX5_mayBe_77 : decode cX5_mayBe 77 = .ok (.ifCond .eq 7, 3) := by decide +kernel
theorem dX5_mayBe_80 : decode cX5_mayBe 80 = .ok (.iconst 1, 1) := by decide +kernel
theorem dX5_mayBe_81 : decode cX5_mayBe 81 = .ok (.goto 4, 3) := by decide +kernel
theorem dX5_mayBe_84 : decode cX5_mayBe 84 = .ok (.iconst 0, 1) := by decide +kernel
theorem dX5_mayBe_85 : decode cX5_mayBe 85 = .ok (.ireturn, 1) := by decide +kernel
theorem dX5_mayBe_86 : decode cX5_mayBe 86 = .ok (.iload_n 3, 1) := by decide +kernel
theorem dX5_mayBe_87 : decode cX5_mayBe 87 = .ok (.i2l, 1) := by decide +kernel
theorem dX5_mayBe_88 : decode cX5_mayBe 88 = .ok (.lconst 0, 1) := by decide +kernel
theorem dX5_mayBe_89 : decode cX5_mayBe 89 = .ok (.lconst 1, 1) := by decide +kernel
theorem dX5_mayBe_90 : decode cX5_mayBe 90 = .ok (.invokestatic 54, 3) := by decide +kernel
theorem dX5_mayBe_93 : decode cX5_mayBe 93 = .ok (.ireturn, 1) := by decide +kernel
theorem dX5_mayBe_94 : decode cX5_mayBe 94 = .ok (.iconst 0, 1) := by decide +kernel
theorem dX5_mayBe_95 : decode cX5_mayBe 95 = .ok (.ireturn, 1) := by decide +kernel
theorem dX5_set_0 : decode cX5_set 0 = .ok (.aload_n 0, 1) := by decide +kernel
theorem dX5_set_1 : decode cX5_set 1 = .ok (.iload_n 1, 1) := by decide +kernel
theorem dX5_set_2 : decode cX5_set 2 = .ok (.invokevirtual 43, 3) := by decide +kernel
theorem dX5_set_5 : decode cX5_set 5 = .ok (.ifCond .eq 30, 3) := by decide +kernel
theorem dX5_set_8 : decode cX5_set 8 = .ok (.aload_n 0, 1) := by decide +kernel
theorem dX5_set_9 : decode cX5_set 9 = .ok (.iload_n 1, 1) := by decide +kernel
theorem dX5_set_10 : decode cX5_set 10 = .ok (.iload_n 2, 1) := by decide +kernel
theorem dX5_set_11 : decode cX5_set 11 = .ok (.iload_n 3, 1) := by decide +kernel
theorem dX5_set_12 : decode cX5_set 12 = .ok (.invokevirtual 94, 3) := by decide +kernel
theorem dX5_set_15 : decode cX5_set 15 = .ok (.ifCond .eq 20, 3) := by decide +kernel
theorem dX5_set_18 : decode cX5_set 18 = .ok (.aload_n 0, 1) := by decide +kernel
theorem dX5_set_19 : decode cX5_set 19 = .ok (.bipush 21, 2) := by decide +kernel
theorem dX5_set_21 : decode cX5_set 21 = .ok (.bipush 15, 2) := by decide +kernel
theorem dX5_set_23 : decode cX5_set 23 = .ok (.iload_n 1, 1) := by decide +kernel
theorem dX5_set_24 : decode cX5_set 24 = .ok (.imul, 1) := by decide +kernel
theorem dX5_set_25 : decode cX5_set 25 = .ok (.iadd, 1) := by decide +kernel
theorem dX5_set_26 : decode cX5_set 26 = .ok (.iload_n 2, 1) := by decide +kernel
theorem dX5_set_27 : decode cX5_set 27 = .ok (.iadd, 1) := by decide +kernel
theorem dX5_set_28 : decode cX5_set 28 = .ok (.iload_n 3, 1) := by decide +kernel
theorem dX5_set_29 : decode cX5_set 29 = .ok (.invokevirtual 66, 3) := by decide +kernel
theorem dX5_set_32 : decode cX5_set 32 = .ok (.goto 9, 3) := by decide +kernel
theorem dX5_set_35 : decode cX5_set 35 = .ok (.aload_n 0, 1) := by decide +kernel
theorem dX5_set_36 : decode cX5_set 36 = .ok (.ldc 42, 2) := by decide +kernel
theorem dX5_set_38 : decode cX5_set 38 = .ok (.invokevirtual 62, 3) := by decide +kernel
theorem dX5_set_41 : decode cX5_set 41 = .ok (.ireturn, 1) := by decide +kernel
theorem dX5_way_0 : decode cX5_way 0 = .ok (.aload_n 0, 1) := by decide +kernel
theorem dX5_way_1 : decode cX5_way 1 = .ok (.iload_n 1, 1) := by decide +kernel
theorem dX5_way_2 : decode cX5_way 2 = .ok (.invokevirtual 43, 3) := by decide +kernel
theorem dX5_way_5 : decode cX5_way 5 = .ok (.ifCond .eq 22, 3) := by decide +kernel
theorem dX5_way_8 : decode cX5_way 8 = .ok (.iload_n 2, 1) := by decide +kernel
theorem dX5_way_9 : decode cX5_way 9 = .ok (.invokestatic 51, 3) := by decide +kernel
theorem dX5_way_12 : decode cX5_way 12 = .ok (.ifCond .eq 15, 3) := by decide +kernel
theorem dX5_way_15 : decode cX5_way 15 = .ok (.aload_n 0, 1) := by decide +kernel
theorem dX5_way_16 : decode cX5_way 16 = .ok (.iload_n 1, 1) := by decide +kernel
theorem dX5_way_17 : decode cX5_way 17 = .ok (.bipush 6, 2) := by decide +kernel
theorem dX5_way_19 : decode cX5_way 19 = .ok (.iload_n 2, 1) := by decide +kernel
theorem dX5_way_20 : decode cX5_way 20 = .ok (.iadd, 1) := by decide +kernel
theorem dX5_way_21 : decode cX5_way 21 = .ok (.invokevirtual 47, 3) := by decide +kernel
theorem dX5_way_24 : decode cX5_way 24 = .ok (.goto 9, 3) := by decide +kernel
theorem dX5_way_27 : decode cX5_way 27 = .ok (.aload_n 0, 1) := by decide +kernel
theorem dX5_way_28 : decode cX5_way 28 = .ok (.ldc 42, 2) := by decide +kernel
theorem dX5_way_30 : decode cX5_way 30 = .ok (.invokevirtual 62, 3) := by decide +kernel
theorem dX5_way_33 : decode cX5_way 33 = .ok (.ireturn, 1) := by decide +kernel
theorem dX5_be_0 : decode cX5_be 0 = .ok (.aload_n 0, 1) := by decide +kernel
theorem dX5_be_1 : decode cX5_be 1 = .ok (.iload_n 1, 1) := by decide +kernel
theorem dX5_be_2 : decode cX5_be 2 = .ok (.invokevirtual 43, 3) := by decide +kernel
theorem dX5_be_5 : decode cX5_be 5 = .ok (.ifCond .eq 42, 3) := by decide +kernel
theorem dX5_be_8 : decode cX5_be 8 = .ok (.iload_n 2, 1) := by decide +kernel
theorem dX5_be_9 : decode cX5_be 9 = .ok (.invokestatic 51, 3) := by decide +kernel
theorem dX5_be_12 : decode cX5_be 12 = .ok (.ifCond .eq 35, 3) := by decide +kernel
theorem dX5_be_15 : decode cX5_be 15 = .ok (.iload_n 3, 1) := by decide +kernel
theorem dX5_be_16 : decode cX5_be 16 = .ok (.i2l, 1) := by decide +kernel
theorem dX5_be_17 : decode cX5_be 17 = .ok (.lconst 0, 1) := by decide +kernel
theorem dX5_be_18 : decode cX5_be 18 = .ok (.ldc2_w 98, 3) := by decide +kernel
theorem dX5_be_21 : decode cX5_be 21 = .ok (.invokestatic 54, 3) := by decide +kernel
theorem dX5_be_24 : decode cX5_be 24 = .ok (.ifCond .eq 23, 3) := by decide +kernel
theorem dX5_be_27 : decode cX5_be 27 = .ok (.aload_n 0, 1) := by decide +kernel
theorem dX5_be_28 : decode cX5_be 28 = .ok (.bipush 21, 2) := by decide +kernel
theorem dX5_be_30 : decode cX5_be 30 = .ok (.bipush 15, 2) := by decide +kernel
theorem dX5_be_32 : decode cX5_be 32 = .ok (.iload_n 1, 1) := by decide +kernel
theorem dX5_be_33 : decode cX5_be 33 = .ok (.imul, 1) := by decide +kernel
theorem dX5_be_34 : decode cX5_be 34 = .ok (.iadd, 1) := by decide +kernel
theorem dX5_be_35 : decode cX5_be 35 = .ok (.bipush 6, 2) := by decide +kernel
theorem dX5_be_37 : decode cX5_be 37 = .ok (.iadd, 1) := by decide +kernel
theorem dX5_be_38 : decode cX5_be 38 = .ok (.iload_n 2, 1) := by decide +kernel
theorem dX5_be_39 : decode cX5_be 39 = .ok (.iadd, 1) := by decide +kernel
theorem dX5_be_40 : decode cX5_be 40 = .ok (.iload_n 3, 1) := by decide +kernel
theorem dX5_be_41 : decode cX5_be 41 = .ok (.invokevirtual 66, 3) := by decide +kernel
theorem dX5_be_44 : decode cX5_be 44 = .ok (.goto 9, 3) := by decide +kernel
theorem dX5_be_47 : decode cX5_be 47 = .ok (.aload_n 0, 1) := by decide +kernel
theorem dX5_be_48 : decode cX5_be 48 = .ok (.ldc 42, 2) := by decide +kernel
theorem dX5_be_50 : decode cX5_be 50 = .ok (.invokevirtual 62, 3) := by decide +kernel
theorem dX5_be_53 : decode cX5_be 53 = .ok (.ireturn, 1) := by decide +kernel
theorem dX5_turn_0 : decode cX5_turn 0 = .ok (.aload_n 0, 1) := by decide +kernel
theorem dX5_turn_1 : decode cX5_turn 1 = .ok (.iload_n 1, 1) := by decide +kernel
theorem dX5_turn_2 : decode cX5_turn 2 = .ok (.invokevirtual 43, 3) := by decide +kernel
theorem dX5_turn_5 : decode cX5_turn 5 = .ok (.ifCond .eq 30, 3) := by decide +kernel
theorem dX5_turn_8 : decode cX5_turn 8 = .ok (.iload_n 2, 1) := by decide +kernel
theorem dX5_turn_9 : decode cX5_turn 9 = .ok (.i2l, 1) := by decide +kernel
theorem dX5_turn_10 : decode cX5_turn 10 = .ok (.lconst 0, 1) := by decide +kernel
theorem dX5_turn_11 : decode cX5_turn 11 = .ok (.ldc2_w 75, 3) := by decide +kernel
theorem dX5_turn_14 : decode cX5_turn 14 = .ok (.invokestatic 54, 3) := by decide +kernel
theorem dX5_turn_17 : decode cX5_turn 17 = .ok (.ifCond .eq 18, 3) := by decide +kernel
theorem dX5_turn_20 : decode cX5_turn 20 = .ok (.aload_n 0, 1) := by decide +kernel
theorem dX5_turn_21 : decode cX5_turn 21 = .ok (.bipush 21, 2) := by decide +kernel
theorem dX5_turn_23 : decode cX5_turn 23 = .ok (.bipush 15, 2) := by decide +kernel
theorem dX5_turn_25 : decode cX5_turn 25 = .ok (.iload_n 1, 1) := by decide +kernel
theorem dX5_turn_26 : decode cX5_turn 26 = .ok (.imul, 1) := by decide +kernel
theorem dX5_turn_27 : decode cX5_turn 27 = .ok (.iadd, 1) := by decide +kernel
theorem dX5_turn_28 : decode cX5_turn 28 = .ok (.iload_n 2, 1) := by decide +kernel
theorem dX5_turn_29 : decode cX5_turn 29 = .ok (.invokevirtual 66, 3) := by decide +kernel
theorem dX5_turn_32 : decode cX5_turn 32 = .ok (.goto 9, 3) := by decide +kernel
theorem dX5_turn_35 : decode cX5_turn 35 = .ok (.aload_n 0, 1) := by decide +kernel
theorem dX5_turn_36 : decode cX5_turn 36 = .ok (.ldc 42, 2) := by decide +kernel
theorem dX5_turn_38 : decode cX5_turn 38 = .ok (.invokevirtual 62, 3) := by decide +kernel
theorem dX5_turn_41 : decode cX5_turn 41 = .ok (.ireturn, 1) := by decide +kernel
theorem dX5_isUnder_0 : decode cX5_isUnder 0 = .ok (.iload_n 0, 1) := by decide +kernel
theorem dX5_isUnder_1 : decode cX5_isUnder 1 = .ok (.iload_n 1, 1) := by decide +kernel
theorem dX5_isUnder_2 : decode cX5_isUnder 2 = .ok (.if_icmp .eq 27, 3) := by decide +kernel
theorem dX5_isUnder_5 : decode cX5_isUnder 5 = .ok (.iload_n 1, 1) := by decide +kernel
theorem dX5_isUnder_6 : decode cX5_isUnder 6 = .ok (.ifCond .eq 23, 3) := by decide +kernel
theorem dX5_isUnder_9 : decode cX5_isUnder 9 = .ok (.iload_n 1, 1) := by decide +kernel
theorem dX5_isUnder_10 : decode cX5_isUnder 10 = .ok (.iconst 1, 1) := by decide +kernel
theorem dX5_isUnder_11 : decode cX5_isUnder 11 = .ok (.if_icmp .ne 8, 3) := by decide +kernel
theorem dX5_isUnder_14 : decode cX5_isUnder 14 = .ok (.iload_n 0, 1) := by decide +kernel
theorem dX5_isUnder_15 : decode cX5_isUnder 15 = .ok (.iconst 4, 1) := by decide +kernel
theorem dX5_isUnder_16 : decode cX5_isUnder 16 = .ok (.if_icmp .eq 13, 3) := by decide +kernel
theorem dX5_isUnder_19 : decode cX5_isUnder 19 = .ok (.iload_n 1, 1) := by decide +kernel
theorem dX5_isUnder_20 : decode cX5_isUnder 20 = .ok (.iconst 3, 1) := by decide +kernel
theorem dX5_isUnder_21 : decode cX5_isUnder 21 = .ok (.if_icmp .ne 12, 3) := by decide +kernel
theorem dX5_isUnder_24 : decode cX5_isUnder 24 = .ok (.iload_n 0, 1) := by decide +kernel
theorem dX5_isUnder_25 : decode cX5_isUnder 25 = .ok (.iconst 5, 1) := by decide +kernel
theorem dX5_isUnder_26 : decode cX5_isUnder 26 = .ok (.if_icmp .ne 7, 3) := by decide +kernel
theorem dX5_isUnder_29 : decode cX5_isUnder 29 = .ok (.iconst 1, 1) := by decide +kernel
theorem dX5_isUnder_30 : decode cX5_isUnder 30 = .ok (.goto 4, 3) := by decide +kernel
theorem dX5_isUnder_33 : decode cX5_isUnder 33 = .ok (.iconst 0, 1) := by decide +kernel
theorem dX5_isUnder_34 : decode cX5_isUnder 34 = .ok (.ireturn, 1) := by decide +kernel
theorem dX5_as_0 : decode cX5_as 0 = .ok (.aload_n 0, 1) := by decide +kernel
theorem dX5_as_1 : decode cX5_as 1 = .ok (.iload_n 1, 1) := by decide +kernel
theorem dX5_as_2 : decode cX5_as 2 = .ok (.invokevirtual 43, 3) := by decide +kernel
theorem dX5_as_5 : decode cX5_as 5 = .ok (.ifCond .eq 15, 3) := by decide +kernel
theorem dX5_as_8 : decode cX5_as 8 = .ok (.iload_n 2, 1) := by decide +kernel
theorem dX5_as_9 : decode cX5_as 9 = .ok (.i2l, 1) := by decide +kernel
theorem dX5_as_10 : decode cX5_as 10 = .ok (.lconst 0, 1) := by decide +kernel
theorem dX5_as_11 : decode cX5_as 11 = .ok (.ldc2_w 75, 3) := by decide +kernel
theorem dX5_as_14 : decode cX5_as 14 = .ok (.invokestatic 54, 3) := by decide +kernel
theorem dX5_as_17 : decode cX5_as 17 = .ok (.ifCond .ne 10, 3) := by decide +kernel
theorem dX5_as_20 : decode cX5_as 20 = .ok (.aload_n 0, 1) := by decide +kernel
theorem dX5_as_21 : decode cX5_as 21 = .ok (.ldc 42, 2) := by decide +kernel
theorem dX5_as_23 : decode cX5_as 23 = .ok (.invokevirtual 62, 3) := by decide +kernel
theorem dX5_as_26 : decode cX5_as 26 = .ok (.ireturn, 1) := by decide +kernel
theorem dX5_as_27 : decode cX5_as 27 = .ok (.aload_n 0, 1) := by decide +kernel
theorem dX5_as_28 : decode cX5_as 28 = .ok (.iload_n 1, 1) := by decide +kernel
theorem dX5_as_29 : decode cX5_as 29 = .ok (.iconst 0, 1) := by decide +kernel
theorem dX5_as_30 : decode cX5_as 30 = .ok (.invokevirtual 47, 3) := by decide +kernel
theorem dX5_as_33 : decode cX5_as 33 = .ok (.iload_n 2, 1) := by decide +kernel
theorem dX5_as_34 : decode cX5_as 34 = .ok (.invokestatic 100, 3) := by decide +kernel
theorem dX5_as_37 : decode cX5_as 37 = .ok (.ifCond .eq 12, 3) := by decide +kernel
theorem dX5_as_40 : decode cX5_as 40 = .ok (.aload_n 0, 1) := by decide +kernel
theorem dX5_as_41 : decode cX5_as 41 = .ok (.iload_n 1, 1) := by decide +kernel
theorem dX5_as_42 : decode cX5_as 42 = .ok (.iconst 2, 1) := by decide +kernel
theorem dX5_as_43 : decode cX5_as 43 = .ok (.invokevirtual 47, 3) := by decide +kernel
theorem dX5_as_46 : decode cX5_as 46 = .ok (.goto 9, 3) := by decide +kernel
theorem dX5_as_49 : decode cX5_as 49 = .ok (.aload_n 0, 1) := by decide +kernel
theorem dX5_as_50 : decode cX5_as 50 = .ok (.ldc 103, 2) := by decide +kernel
theorem dX5_as_52 : decode cX5_as 52 = .ok (.invokevirtual 62, 3) := by decide +kernel
theorem dX5_as_55 : decode cX5_as 55 = .ok (.ireturn, 1) := by decide +kernel
theorem dX5_likeOf_0 : decode cX5_likeOf 0 = .ok (.aload_n 0, 1) := by decide +kernel
theorem dX5_likeOf_1 : decode cX5_likeOf 1 = .ok (.getfield 7, 3) := by decide +kernel
theorem dX5_likeOf_4 : decode cX5_likeOf 4 = .ok (.iconst 2, 1) := by decide +kernel
theorem dX5_likeOf_5 : decode cX5_likeOf 5 = .ok (.iaload, 1) := by decide +kernel
theorem dX5_likeOf_6 : decode cX5_likeOf 6 = .ok (.iconst 1, 1) := by decide +kernel
theorem dX5_likeOf_7 : decode cX5_likeOf 7 = .ok (.if_icmp .ne 17, 3) := by decide +kernel
theorem dX5_likeOf_10 : decode cX5_likeOf 10 = .ok (.aload_n 0, 1) := by decide +kernel
theorem dX5_likeOf_11 : decode cX5_likeOf 11 = .ok (.iload_n 1, 1) := by decide +kernel
theorem dX5_likeOf_12 : decode cX5_likeOf 12 = .ok (.iconst 4, 1) := by decide +kernel
theorem dX5_likeOf_13 : decode cX5_likeOf 13 = .ok (.invokevirtual 47, 3) := by decide +kernel
theorem dX5_likeOf_16 : decode cX5_likeOf 16 = .ok (.iload_n 2, 1) := by decide +kernel
theorem dX5_likeOf_17 : decode cX5_likeOf 17 = .ok (.if_icmp .ne 7, 3) := by decide +kernel
theorem dX5_likeOf_20 : decode cX5_likeOf 20 = .ok (.iconst 5, 1) := by decide +kernel
theorem dX5_likeOf_21 : decode cX5_likeOf 21 = .ok (.goto 4, 3) := by decide +kernel
theorem dX5_likeOf_24 : decode cX5_likeOf 24 = .ok (.iconst 0, 1) := by decide +kernel
theorem dX5_likeOf_25 : decode cX5_likeOf 25 = .ok (.istore_n 3, 1) := by decide +kernel
theorem dX5_likeOf_26 : decode cX5_likeOf 26 = .ok (.iconst 0, 1) := by decide +kernel
theorem dX5_likeOf_27 : decode cX5_likeOf 27 = .ok (.istore 4, 2) := by decide +kernel
theorem dX5_likeOf_29 : decode cX5_likeOf 29 = .ok (.iload 4, 2) := by decide +kernel
theorem dX5_likeOf_31 : decode cX5_likeOf 31 = .ok (.bipush 9, 2) := by decide +kernel
theorem dX5_likeOf_33 : decode cX5_likeOf 33 = .ok (.if_icmp .ge 77, 3) := by decide +kernel
theorem dX5_likeOf_36 : decode cX5_likeOf 36 = .ok (.aload_n 0, 1) := by decide +kernel
theorem dX5_likeOf_37 : decode cX5_likeOf 37 = .ok (.iload_n 1, 1) := by decide +kernel
theorem dX5_likeOf_38 : decode cX5_likeOf 38 = .ok (.bipush 6, 2) := by decide +kernel
theorem dX5_likeOf_40 : decode cX5_likeOf 40 = .ok (.iload 4, 2) := by decide +kernel
theorem dX5_likeOf_42 : decode cX5_likeOf 42 = .ok (.iadd, 1) := by decide +kernel
theorem dX5_likeOf_43 : decode cX5_likeOf 43 = .ok (.invokevirtual 47, 3) := by decide +kernel
theorem dX5_likeOf_46 : decode cX5_likeOf 46 = .ok (.aload_n 0, 1) := by decide +kernel
theorem dX5_likeOf_47 : decode cX5_likeOf 47 = .ok (.iload_n 2, 1) := by decide +kernel
theorem dX5_likeOf_48 : decode cX5_likeOf 48 = .ok (.bipush 6, 2) := by decide +kernel
theorem dX5_likeOf_50 : decode cX5_likeOf 50 = .ok (.iload 4, 2) := by decide +kernel
theorem dX5_likeOf_52 : decode cX5_likeOf 52 = .ok (.iadd, 1) := by decide +kernel
theorem dX5_likeOf_53 : decode cX5_likeOf 53 = .ok (.invokevirtual 47, 3) := by decide +kernel
theorem dX5_likeOf_56 : decode cX5_likeOf 56 = .ok (.if_icmp .eq 20, 3) := by decide +kernel
theorem dX5_likeOf_59 : decode cX5_likeOf 59 = .ok (.iload 4, 2) := by decide +kernel
theorem dX5_likeOf_61 : decode cX5_likeOf 61 = .ok (.bipush 8, 2) := by decide +kernel
theorem dX5_likeOf_63 : decode cX5_likeOf 63 = .ok (.if_icmp .ne 17, 3) := by decide +kernel
theorem dX5_likeOf_66 : decode cX5_likeOf 66 = .ok (.aload_n 0, 1) := by decide +kernel
theorem dX5_likeOf_67 : decode cX5_likeOf 67 = .ok (.iload_n 2, 1) := by decide +kernel
theorem dX5_likeOf_68 : decode cX5_likeOf 68 = .ok (.iconst 0, 1) := by decide +kernel
theorem dX5_likeOf_69 : decode cX5_likeOf 69 = .ok (.invokevirtual 47, 3) := by decide +kernel
theorem dX5_likeOf_72 : decode cX5_likeOf 72 = .ok (.iconst 4, 1) := by decide +kernel
theorem dX5_likeOf_73 : decode cX5_likeOf 73 = .ok (.if_icmp .ne 7, 3) := by decide +kernel
theorem dX5_likeOf_76 : decode cX5_likeOf 76 = .ok (.iconst 1, 1) := by decide +kernel
theorem dX5_likeOf_77 : decode cX5_likeOf 77 = .ok (.goto 4, 3) := by decide +kernel
theorem dX5_likeOf_80 : decode cX5_likeOf 80 = .ok (.iconst 0, 1) := by decide +kernel
theorem dX5_likeOf_81 : decode cX5_likeOf 81 = .ok (.istore 5, 2) := by decide +kernel
theorem dX5_likeOf_83 : decode cX5_likeOf 83 = .ok (.iload_n 3, 1) := by decide +kernel
theorem dX5_likeOf_84 : decode cX5_likeOf 84 = .ok (.iload 5, 2) := by decide +kernel
theorem dX5_likeOf_86 : decode cX5_likeOf 86 = .ok (.ifCond .eq 15, 3) := by decide +kernel
theorem dX5_likeOf_89 : decode cX5_likeOf 89 = .ok (.aload_n 0, 1) := by decide +kernel
theorem dX5_likeOf_90 : decode cX5_likeOf 90 = .ok (.getfield 7, 3) := by decide +kernel
theorem dX5_likeOf_93 : decode cX5_likeOf 93 = .ok (.iconst 3, 1) := by decide +kernel
theorem dX5_likeOf_94 : decode cX5_likeOf 94 = .ok (.iload 4, 2) := by decide +kernel
theorem dX5_likeOf_96 : decode cX5_likeOf 96 = .ok (.iadd, 1) := by decide +kernel
theorem dX5_likeOf_97 : decode cX5_likeOf 97 = .ok (.iaload, 1) := by decide +kernel
theorem dX5_likeOf_98 : decode cX5_likeOf 98 = .ok (.goto 4, 3) := by decide +kernel
theorem dX5_likeOf_101 : decode cX5_likeOf 101 = .ok (.iconst 0, 1) := by decide +kernel
theorem dX5_likeOf_102 : decode cX5_likeOf 102 = .ok (.iadd, 1) := by decide +kernel
theorem dX5_likeOf_103 : decode cX5_likeOf 103 = .ok (.istore_n 3, 1) := by decide +kernel
theorem dX5_likeOf_104 : decode cX5_likeOf 104 = .ok (.iinc 4 1, 3) := by decide +kernel
theorem dX5_likeOf_107 : decode cX5_likeOf 107 = .ok (.goto (-78), 3) := by decide +kernel
theorem dX5_likeOf_110 : decode cX5_likeOf 110 = .ok (.iload_n 3, 1) := by decide +kernel
theorem dX5_likeOf_111 : decode cX5_likeOf 111 = .ok (.ireturn, 1) := by decide +kernel
theorem dX5_like_0 : decode cX5_like 0 = .ok (.aload_n 0, 1) := by decide +kernel
theorem dX5_like_1 : decode cX5_like 1 = .ok (.iload_n 1, 1) := by decide +kernel
theorem dX5_like_2 : decode cX5_like 2 = .ok (.iload_n 2, 1) := by decide +kernel
theorem dX5_like_3 : decode cX5_like 3 = .ok (.invokevirtual 90, 3) := by decide +kernel
theorem dX5_like_6 : decode cX5_like 6 = .ok (.ifCond .eq 12, 3) := by decide +kernel
theorem dX5_like_9 : decode cX5_like 9 = .ok (.aload_n 0, 1) := by decide +kernel
theorem dX5_like_10 : decode cX5_like 10 = .ok (.iload_n 1, 1) := by decide +kernel
theorem dX5_like_11 : decode cX5_like 11 = .ok (.iload_n 2, 1) := by decide +kernel
theorem dX5_like_12 : decode cX5_like 12 = .ok (.invokevirtual 104, 3) := by decide +kernel
theorem dX5_like_15 : decode cX5_like 15 = .ok (.goto 9, 3) := by decide +kernel
theorem dX5_like_18 : decode cX5_like 18 = .ok (.aload_n 0, 1) := by decide +kernel
theorem dX5_like_19 : decode cX5_like 19 = .ok (.ldc 42, 2) := by decide +kernel
theorem dX5_like_21 : decode cX5_like 21 = .ok (.invokevirtual 62, 3) := by decide +kernel
theorem dX5_like_24 : decode cX5_like 24 = .ok (.ireturn, 1) := by decide +kernel
theorem dX5_same_0 : decode cX5_same 0 = .ok (.aload_n 0, 1) := by decide +kernel
theorem dX5_same_1 : decode cX5_same 1 = .ok (.iload_n 1, 1) := by decide +kernel
theorem dX5_same_2 : decode cX5_same 2 = .ok (.iload_n 2, 1) := by decide +kernel
theorem dX5_same_3 : decode cX5_same 3 = .ok (.invokevirtual 90, 3) := by decide +kernel
theorem dX5_same_6 : decode cX5_same 6 = .ok (.ifCond .ne 10, 3) := by decide +kernel
theorem dX5_same_9 : decode cX5_same 9 = .ok (.aload_n 0, 1) := by decide +kernel
theorem dX5_same_10 : decode cX5_same 10 = .ok (.ldc 42, 2) := by decide +kernel
theorem dX5_same_12 : decode cX5_same 12 = .ok (.invokevirtual 62, 3) := by decide +kernel
theorem dX5_same_15 : decode cX5_same 15 = .ok (.ireturn, 1) := by decide +kernel
theorem dX5_same_16 : decode cX5_same 16 = .ok (.iconst 0, 1) := by decide +kernel
theorem dX5_same_17 : decode cX5_same 17 = .ok (.istore_n 3, 1) := by decide +kernel
theorem dX5_same_18 : decode cX5_same 18 = .ok (.iconst 0, 1) := by decide +kernel
theorem dX5_same_19 : decode cX5_same 19 = .ok (.istore 4, 2) := by decide +kernel
theorem dX5_same_21 : decode cX5_same 21 = .ok (.iload 4, 2) := by decide +kernel
theorem dX5_same_23 : decode cX5_same 23 = .ok (.bipush 9, 2) := by decide +kernel
theorem dX5_same_25 : decode cX5_same 25 = .ok (.if_icmp .ge 40, 3) := by decide +kernel
theorem dX5_same_28 : decode cX5_same 28 = .ok (.iload_n 3, 1) := by decide +kernel
theorem dX5_same_29 : decode cX5_same 29 = .ok (.aload_n 0, 1) := by decide +kernel
theorem dX5_same_30 : decode cX5_same 30 = .ok (.iload_n 1, 1) := by decide +kernel
theorem dX5_same_31 : decode cX5_same 31 = .ok (.bipush 6, 2) := by decide +kernel
theorem dX5_same_33 : decode cX5_same 33 = .ok (.iload 4, 2) := by decide +kernel
theorem dX5_same_35 : decode cX5_same 35 = .ok (.iadd, 1) := by decide +kernel
theorem dX5_same_36 : decode cX5_same 36 = .ok (.invokevirtual 47, 3) := by decide +kernel
theorem dX5_same_39 : decode cX5_same 39 = .ok (.aload_n 0, 1) := by decide +kernel
theorem dX5_same_40 : decode cX5_same 40 = .ok (.iload_n 2, 1) := by decide +kernel
theorem dX5_same_41 : decode cX5_same 41 = .ok (.bipush 6, 2) := by decide +kernel
theorem dX5_same_43 : decode cX5_same 43 = .ok (.iload 4, 2) := by decide +kernel
theorem dX5_same_45 : decode cX5_same 45 = .ok (.iadd, 1) := by decide +kernel
theorem dX5_same_46 : decode cX5_same 46 = .ok (.invokevirtual 47, 3) := by decide +kernel
theorem dX5_same_49 : decode cX5_same 49 = .ok (.if_icmp .ne 7, 3) := by decide +kernel
theorem dX5_same_52 : decode cX5_same 52 = .ok (.iconst 1, 1) := by decide +kernel
theorem dX5_same_53 : decode cX5_same 53 = .ok (.goto 4, 3) := by decide +kernel
theorem dX5_same_56 : decode cX5_same 56 = .ok (.iconst 0, 1) := by decide +kernel
theorem dX5_same_57 : decode cX5_same 57 = .ok (.iadd, 1) := by decide +kernel
theorem dX5_same_58 : decode cX5_same 58 = .ok (.istore_n 3, 1) := by decide +kernel
theorem dX5_same_59 : decode cX5_same 59 = .ok (.iinc 4 1, 3) := by decide +kernel
theorem dX5_same_62 : decode cX5_same 62 = .ok (.goto (-41), 3) := by decide +kernel
theorem dX5_same_65 : decode cX5_same 65 = .ok (.iload_n 3, 1) := by decide +kernel
theorem dX5_same_66 : decode cX5_same 66 = .ok (.ireturn, 1) := by decide +kernel
theorem dX5_heirBut_0 : decode cX5_heirBut 0 = .ok (.iconst (-1), 1) := by decide +kernel
theorem dX5_heirBut_1 : decode cX5_heirBut 1 = .ok (.istore_n 3, 1) := by decide +kernel
theorem dX5_heirBut_2 : decode cX5_heirBut 2 = .ok (.iconst 0, 1) := by decide +kernel
theorem dX5_heirBut_3 : decode cX5_heirBut 3 = .ok (.istore 4, 2) := by decide +kernel
theorem dX5_heirBut_5 : decode cX5_heirBut 5 = .ok (.iload 4, 2) := by decide +kernel
theorem dX5_heirBut_7 : decode cX5_heirBut 7 = .ok (.aload_n 0, 1) := by decide +kernel
theorem dX5_heirBut_8 : decode cX5_heirBut 8 = .ok (.getfield 7, 3) := by decide +kernel
theorem dX5_heirBut_11 : decode cX5_heirBut 11 = .ok (.iconst 0, 1) := by decide +kernel
theorem dX5_heirBut_12 : decode cX5_heirBut 12 = .ok (.iaload, 1) := by decide +kernel
theorem dX5_heirBut_13 : decode cX5_heirBut 13 = .ok (.if_icmp .ge 90, 3) := by decide +kernel
theorem dX5_heirBut_16 : decode cX5_heirBut 16 = .ok (.iload 4, 2) := by decide +kernel
theorem dX5_heirBut_18 : decode cX5_heirBut 18 = .ok (.iload_n 1, 1) := by decide +kernel
theorem dX5_heirBut_19 : decode cX5_heirBut 19 = .ok (.if_icmp .eq 78, 3) := by decide +kernel
theorem dX5_heirBut_22 : decode cX5_heirBut 22 = .ok (.iload 4, 2) := by decide +kernel
theorem dX5_heirBut_24 : decode cX5_heirBut 24 = .ok (.iload_n 2, 1) := by decide +kernel
theorem dX5_heirBut_25 : decode cX5_heirBut 25 = .ok (.if_icmp .eq 72, 3) := by decide +kernel
theorem dX5_heirBut_28 : decode cX5_heirBut 28 = .ok (.aload_n 0, 1) := by decide +kernel
theorem dX5_heirBut_29 : decode cX5_heirBut 29 = .ok (.iload 4, 2) := by decide +kernel
theorem dX5_heirBut_31 : decode cX5_heirBut 31 = .ok (.invokevirtual 107, 3) := by decide +kernel
theorem dX5_heirBut_34 : decode cX5_heirBut 34 = .ok (.ifCond .ne 6, 3) := by decide +kernel
theorem dX5_heirBut_37 : decode cX5_heirBut 37 = .ok (.goto 60, 3) := by decide +kernel
theorem dX5_heirBut_40 : decode cX5_heirBut 40 = .ok (.iload_n 3, 1) := by decide +kernel
theorem dX5_heirBut_41 : decode cX5_heirBut 41 = .ok (.ifCond .ge 7, 3) := by decide +kernel
theorem dX5_heirBut_44 : decode cX5_heirBut 44 = .ok (.iconst 1, 1) := by decide +kernel
theorem dX5_heirBut_45 : decode cX5_heirBut 45 = .ok (.goto 17, 3) := by decide +kernel
theorem dX5_heirBut_48 : decode cX5_heirBut 48 = .ok (.aload_n 0, 1) := by decide +kernel
theorem dX5_heirBut_49 : decode cX5_heirBut 49 = .ok (.iload_n 1, 1) := by decide +kernel
theorem dX5_heirBut_50 : decode cX5_heirBut 50 = .ok (.iload 4, 2) := by decide +kernel
theorem dX5_heirBut_52 : decode cX5_heirBut 52 = .ok (.invokevirtual 104, 3) := by decide +kernel
theorem dX5_heirBut_55 : decode cX5_heirBut 55 = .ok (.aload_n 0, 1) := by decide +kernel
theorem dX5_heirBut_56 : decode cX5_heirBut 56 = .ok (.iload_n 1, 1) := by decide +kernel
theorem dX5_heirBut_57 : decode cX5_heirBut 57 = .ok (.iload_n 3, 1) := by decide +kernel
theorem dX5_heirBut_58 : decode cX5_heirBut 58 = .ok (.invokevirtual 104, 3) := by decide +kernel
theorem dX5_heirBut_61 : decode cX5_heirBut 61 = .ok (.isub, 1) := by decide +kernel
theorem dX5_heirBut_62 : decode cX5_heirBut 62 = .ok (.istore 5, 2) := by decide +kernel
theorem dX5_heirBut_64 : decode cX5_heirBut 64 = .ok (.iload 5, 2) := by decide +kernel
theorem dX5_heirBut_66 : decode cX5_heirBut 66 = .ok (.ifCond .gt 24, 3) := by decide +kernel
theorem dX5_heirBut_69 : decode cX5_heirBut 69 = .ok (.iload 5, 2) := by decide +kernel
theorem dX5_heirBut_71 : decode cX5_heirBut 71 = .ok (.ifCond .ne 24, 3) := by decide +kernel
theorem dX5_heirBut_74 : decode cX5_heirBut 74 = .ok (.aload_n 0, 1) := by decide +kernel
theorem dX5_heirBut_75 : decode cX5_heirBut 75 = .ok (.iload 4, 2) := by decide +kernel
theorem dX5_heirBut_77 : decode cX5_heirBut 77 = .ok (.iconst 1, 1) := by decide +kernel
theorem dX5_heirBut_78 : decode cX5_heirBut 78 = .ok (.invokevirtual 47, 3) := by decide +kernel
theorem dX5_heirBut_81 : decode cX5_heirBut 81 = .ok (.aload_n 0, 1) := by decide +kernel
theorem dX5_heirBut_82 : decode cX5_heirBut 82 = .ok (.iload_n 3, 1) := by decide +kernel
theorem dX5_heirBut_83 : decode cX5_heirBut 83 = .ok (.iconst 1, 1) := by decide +kernel
theorem dX5_heirBut_84 : decode cX5_heirBut 84 = .ok (.invokevirtual 47, 3) := by decide +kernel
theorem dX5_heirBut_87 : decode cX5_heirBut 87 = .ok (.if_icmp .le 8, 3) := by decide +kernel
theorem dX5_heirBut_90 : decode cX5_heirBut 90 = .ok (.iload 4, 2) := by decide +kernel
theorem dX5_heirBut_92 : decode cX5_heirBut 92 = .ok (.goto 4, 3) := by decide +kernel
theorem dX5_heirBut_95 : decode cX5_heirBut 95 = .ok (.iload_n 3, 1) := by decide +kernel
theorem dX5_heirBut_96 : decode cX5_heirBut 96 = .ok (.istore_n 3, 1) := by decide +kernel
theorem dX5_heirBut_97 : decode cX5_heirBut 97 = .ok (.iinc 4 1, 3) := by decide +kernel
theorem dX5_heirBut_100 : decode cX5_heirBut 100 = .ok (.goto (-95), 3) := by decide +kernel
theorem dX5_heirBut_103 : decode cX5_heirBut 103 = .ok (.iload_n 3, 1) := by decide +kernel
theorem dX5_heirBut_104 : decode cX5_heirBut 104 = .ok (.ireturn, 1) := by decide +kernel
theorem dX5_heirFor_0 : decode cX5_heirFor 0 = .ok (.aload_n 0, 1) := by decide +kernel
theorem dX5_heirFor_1 : decode cX5_heirFor 1 = .ok (.iload_n 1, 1) := by decide +kernel
theorem dX5_heirFor_2 : decode cX5_heirFor 2 = .ok (.iload_n 1, 1) := by decide +kernel
theorem dX5_heirFor_3 : decode cX5_heirFor 3 = .ok (.invokevirtual 110, 3) := by decide +kernel
theorem dX5_heirFor_6 : decode cX5_heirFor 6 = .ok (.ireturn, 1) := by decide +kernel
theorem dX5_heir_0 : decode cX5_heir 0 = .ok (.aload_n 0, 1) := by decide +kernel
theorem dX5_heir_1 : decode cX5_heir 1 = .ok (.iload_n 1, 1) := by decide +kernel
theorem dX5_heir_2 : decode cX5_heir 2 = .ok (.invokevirtual 43, 3) := by decide +kernel
theorem dX5_heir_5 : decode cX5_heir 5 = .ok (.ifCond .ne 10, 3) := by decide +kernel
theorem dX5_heir_8 : decode cX5_heir 8 = .ok (.aload_n 0, 1) := by decide +kernel
theorem dX5_heir_9 : decode cX5_heir 9 = .ok (.ldc 42, 2) := by decide +kernel
theorem dX5_heir_11 : decode cX5_heir 11 = .ok (.invokevirtual 62, 3) := by decide +kernel
theorem dX5_heir_14 : decode cX5_heir 14 = .ok (.ireturn, 1) := by decide +kernel
theorem dX5_heir_15 : decode cX5_heir 15 = .ok (.aload_n 0, 1) := by decide +kernel
theorem dX5_heir_16 : decode cX5_heir 16 = .ok (.iload_n 1, 1) := by decide +kernel
theorem dX5_heir_17 : decode cX5_heir 17 = .ok (.invokevirtual 113, 3) := by decide +kernel
theorem dX5_heir_20 : decode cX5_heir 20 = .ok (.istore_n 2, 1) := by decide +kernel
theorem dX5_heir_21 : decode cX5_heir 21 = .ok (.iload_n 2, 1) := by decide +kernel
theorem dX5_heir_22 : decode cX5_heir 22 = .ok (.ifCond .ge 12, 3) := by decide +kernel
theorem dX5_heir_25 : decode cX5_heir 25 = .ok (.aload_n 0, 1) := by decide +kernel
theorem dX5_heir_26 : decode cX5_heir 26 = .ok (.ldc 116, 2) := by decide +kernel
theorem dX5_heir_28 : decode cX5_heir 28 = .ok (.invokevirtual 62, 3) := by decide +kernel
theorem dX5_heir_31 : decode cX5_heir 31 = .ok (.goto 4, 3) := by decide +kernel
theorem dX5_heir_34 : decode cX5_heir 34 = .ok (.iload_n 2, 1) := by decide +kernel
theorem dX5_heir_35 : decode cX5_heir 35 = .ok (.ireturn, 1) := by decide +kernel
theorem dX5_heirsSet_0 : decode cX5_heirsSet 0 = .ok (.iconst 0, 1) := by decide +kernel
theorem dX5_heirsSet_1 : decode cX5_heirsSet 1 = .ok (.istore_n 2, 1) := by decide +kernel
theorem dX5_heirsSet_2 : decode cX5_heirsSet 2 = .ok (.iconst 0, 1) := by decide +kernel
theorem dX5_heirsSet_3 : decode cX5_heirsSet 3 = .ok (.istore_n 3, 1) := by decide +kernel
theorem dX5_heirsSet_4 : decode cX5_heirsSet 4 = .ok (.iload_n 3, 1) := by decide +kernel
theorem dX5_heirsSet_5 : decode cX5_heirsSet 5 = .ok (.aload_n 0, 1) := by decide +kernel
theorem dX5_heirsSet_6 : decode cX5_heirsSet 6 = .ok (.getfield 7, 3) := by decide +kernel
theorem dX5_heirsSet_9 : decode cX5_heirsSet 9 = .ok (.iconst 0, 1) := by decide +kernel
theorem dX5_heirsSet_10 : decode cX5_heirsSet 10 = .ok (.iaload, 1) := by decide +kernel
theorem dX5_heirsSet_11 : decode cX5_heirsSet 11 = .ok (.if_icmp .ge 41, 3) := by decide +kernel
theorem dX5_heirsSet_14 : decode cX5_heirsSet 14 = .ok (.iload_n 2, 1) := by decide +kernel
theorem dX5_heirsSet_15 : decode cX5_heirsSet 15 = .ok (.iload_n 3, 1) := by decide +kernel
theorem dX5_heirsSet_16 : decode cX5_heirsSet 16 = .ok (.iload_n 1, 1) := by decide +kernel
theorem dX5_heirsSet_17 : decode cX5_heirsSet 17 = .ok (.if_icmp .eq 26, 3) := by decide +kernel
theorem dX5_heirsSet_20 : decode cX5_heirsSet 20 = .ok (.aload_n 0, 1) := by decide +kernel
theorem dX5_heirsSet_21 : decode cX5_heirsSet 21 = .ok (.iload_n 3, 1) := by decide +kernel
theorem dX5_heirsSet_22 : decode cX5_heirsSet 22 = .ok (.invokevirtual 107, 3) := by decide +kernel
theorem dX5_heirsSet_25 : decode cX5_heirsSet 25 = .ok (.ifCond .eq 18, 3) := by decide +kernel
theorem dX5_heirsSet_28 : decode cX5_heirsSet 28 = .ok (.aload_n 0, 1) := by decide +kernel
theorem dX5_heirsSet_29 : decode cX5_heirsSet 29 = .ok (.iload_n 3, 1) := by decide +kernel
theorem dX5_heirsSet_30 : decode cX5_heirsSet 30 = .ok (.invokevirtual 113, 3) := by decide +kernel
theorem dX5_heirsSet_33 : decode cX5_heirsSet 33 = .ok (.iload_n 1, 1) := by decide +kernel
theorem dX5_heirsSet_34 : decode cX5_heirsSet 34 = .ok (.if_icmp .ne 9, 3) := by decide +kernel
theorem dX5_heirsSet_37 : decode cX5_heirsSet 37 = .ok (.iconst 1, 1) := by decide +kernel
theorem dX5_heirsSet_38 : decode cX5_heirsSet 38 = .ok (.iload_n 3, 1) := by decide +kernel
theorem dX5_heirsSet_39 : decode cX5_heirsSet 39 = .ok (.ishl, 1) := by decide +kernel
theorem dX5_heirsSet_40 : decode cX5_heirsSet 40 = .ok (.goto 4, 3) := by decide +kernel
theorem dX5_heirsSet_43 : decode cX5_heirsSet 43 = .ok (.iconst 0, 1) := by decide +kernel
theorem dX5_heirsSet_44 : decode cX5_heirsSet 44 = .ok (.ior, 1) := by decide +kernel
theorem dX5_heirsSet_45 : decode cX5_heirsSet 45 = .ok (.istore_n 2, 1) := by decide +kernel
theorem dX5_heirsSet_46 : decode cX5_heirsSet 46 = .ok (.iinc 3 1, 3) := by decide +kernel
theorem dX5_heirsSet_49 : decode cX5_heirsSet 49 = .ok (.goto (-45), 3) := by decide +kernel
theorem dX5_heirsSet_52 : decode cX5_heirsSet 52 = .ok (.iload_n 2, 1) := by decide +kernel
theorem dX5_heirsSet_53 : decode cX5_heirsSet 53 = .ok (.ireturn, 1) := by decide +kernel
theorem dX5_heirOf_0 : decode cX5_heirOf 0 = .ok (.aload_n 0, 1) := by decide +kernel
theorem dX5_heirOf_1 : decode cX5_heirOf 1 = .ok (.iload_n 1, 1) := by decide +kernel
theorem dX5_heirOf_2 : decode cX5_heirOf 2 = .ok (.invokevirtual 43, 3) := by decide +kernel
theorem dX5_heirOf_5 : decode cX5_heirOf 5 = .ok (.ifCond .eq 11, 3) := by decide +kernel
theorem dX5_heirOf_8 : decode cX5_heirOf 8 = .ok (.aload_n 0, 1) := by decide +kernel
theorem dX5_heirOf_9 : decode cX5_heirOf 9 = .ok (.iload_n 1, 1) := by decide +kernel
theorem dX5_heirOf_10 : decode cX5_heirOf 10 = .ok (.invokevirtual 117, 3) := by decide +kernel
theorem dX5_heirOf_13 : decode cX5_heirOf 13 = .ok (.goto 9, 3) := by decide +kernel
theorem dX5_heirOf_16 : decode cX5_heirOf 16 = .ok (.aload_n 0, 1) := by decide +kernel
theorem dX5_heirOf_17 : decode cX5_heirOf 17 = .ok (.ldc 42, 2) := by decide +kernel
theorem dX5_heirOf_19 : decode cX5_heirOf 19 = .ok (.invokevirtual 62, 3) := by decide +kernel
theorem dX5_heirOf_22 : decode cX5_heirOf 22 = .ok (.ireturn, 1) := by decide +kernel
theorem dX5_richestBut_0 : decode cX5_richestBut 0 = .ok (.iconst (-1), 1) := by decide +kernel
theorem dX5_richestBut_1 : decode cX5_richestBut 1 = .ok (.istore_n 2, 1) := by decide +kernel
theorem dX5_richestBut_2 : decode cX5_richestBut 2 = .ok (.iconst 0, 1) := by decide +kernel
theorem dX5_richestBut_3 : decode cX5_richestBut 3 = .ok (.istore_n 3, 1) := by decide +kernel
theorem dX5_richestBut_4 : decode cX5_richestBut 4 = .ok (.iload_n 3, 1) := by decide +kernel
theorem dX5_richestBut_5 : decode cX5_richestBut 5 = .ok (.aload_n 0, 1) := by decide +kernel
theorem dX5_richestBut_6 : decode cX5_richestBut 6 = .ok (.getfield 7, 3) := by decide +kernel
theorem dX5_richestBut_9 : decode cX5_richestBut 9 = .ok (.iconst 0, 1) := by decide +kernel
theorem dX5_richestBut_10 : decode cX5_richestBut 10 = .ok (.iaload, 1) := by decide +kernel
theorem dX5_richestBut_11 : decode cX5_richestBut 11 = .ok (.if_icmp .ge 59, 3) := by decide +kernel
theorem dX5_richestBut_14 : decode cX5_richestBut 14 = .ok (.iload_n 3, 1) := by decide +kernel
theorem dX5_richestBut_15 : decode cX5_richestBut 15 = .ok (.iload_n 1, 1) := by decide +kernel
theorem dX5_richestBut_16 : decode cX5_richestBut 16 = .ok (.if_icmp .eq 34, 3) := by decide +kernel
theorem dX5_richestBut_19 : decode cX5_richestBut 19 = .ok (.aload_n 0, 1) := by decide +kernel
theorem dX5_richestBut_20 : decode cX5_richestBut 20 = .ok (.iload_n 3, 1) := by decide +kernel
theorem dX5_richestBut_21 : decode cX5_richestBut 21 = .ok (.invokevirtual 107, 3) := by decide +kernel
theorem dX5_richestBut_24 : decode cX5_richestBut 24 = .ok (.ifCond .eq 26, 3) := by decide +kernel
theorem dX5_richestBut_27 : decode cX5_richestBut 27 = .ok (.iload_n 2, 1) := by decide +kernel
theorem dX5_richestBut_28 : decode cX5_richestBut 28 = .ok (.ifCond .lt 18, 3) := by decide +kernel
theorem dX5_richestBut_31 : decode cX5_richestBut 31 = .ok (.aload_n 0, 1) := by decide +kernel
theorem dX5_richestBut_32 : decode cX5_richestBut 32 = .ok (.iload_n 3, 1) := by decide +kernel
theorem dX5_richestBut_33 : decode cX5_richestBut 33 = .ok (.iconst 2, 1) := by decide +kernel
theorem dX5_richestBut_34 : decode cX5_richestBut 34 = .ok (.invokevirtual 47, 3) := by decide +kernel
theorem dX5_richestBut_37 : decode cX5_richestBut 37 = .ok (.aload_n 0, 1) := by decide +kernel
theorem dX5_richestBut_38 : decode cX5_richestBut 38 = .ok (.iload_n 2, 1) := by decide +kernel
theorem dX5_richestBut_39 : decode cX5_richestBut 39 = .ok (.iconst 2, 1) := by decide +kernel
theorem dX5_richestBut_40 : decode cX5_richestBut 40 = .ok (.invokevirtual 47, 3) := by decide +kernel
theorem dX5_richestBut_43 : decode cX5_richestBut 43 = .ok (.if_icmp .le 7, 3) := by decide +kernel
theorem dX5_richestBut_46 : decode cX5_richestBut 46 = .ok (.iconst 1, 1) := by decide +kernel
theorem dX5_richestBut_47 : decode cX5_richestBut 47 = .ok (.goto 4, 3) := by decide +kernel
theorem dX5_richestBut_50 : decode cX5_richestBut 50 = .ok (.iconst 0, 1) := by decide +kernel
theorem dX5_richestBut_51 : decode cX5_richestBut 51 = .ok (.istore 4, 2) := by decide +kernel
theorem dX5_richestBut_53 : decode cX5_richestBut 53 = .ok (.iload 4, 2) := by decide +kernel
theorem dX5_richestBut_55 : decode cX5_richestBut 55 = .ok (.ifCond .eq 7, 3) := by decide +kernel
theorem dX5_richestBut_58 : decode cX5_richestBut 58 = .ok (.iload_n 3, 1) := by decide +kernel
theorem dX5_richestBut_59 : decode cX5_richestBut 59 = .ok (.goto 4, 3) := by decide +kernel
theorem dX5_richestBut_62 : decode cX5_richestBut 62 = .ok (.iload_n 2, 1) := by decide +kernel
theorem dX5_richestBut_63 : decode cX5_richestBut 63 = .ok (.istore_n 2, 1) := by decide +kernel
theorem dX5_richestBut_64 : decode cX5_richestBut 64 = .ok (.iinc 3 1, 3) := by decide +kernel
theorem dX5_richestBut_67 : decode cX5_richestBut 67 = .ok (.goto (-63), 3) := by decide +kernel
theorem dX5_richestBut_70 : decode cX5_richestBut 70 = .ok (.iload_n 2, 1) := by decide +kernel
theorem dX5_richestBut_71 : decode cX5_richestBut 71 = .ok (.ireturn, 1) := by decide +kernel
theorem dX5_childOf_0 : decode cX5_childOf 0 = .ok (.aload_n 0, 1) := by decide +kernel
theorem dX5_childOf_1 : decode cX5_childOf 1 = .ok (.iload_n 1, 1) := by decide +kernel
theorem dX5_childOf_2 : decode cX5_childOf 2 = .ok (.iconst 4, 1) := by decide +kernel
theorem dX5_childOf_3 : decode cX5_childOf 3 = .ok (.invokevirtual 47, 3) := by decide +kernel
theorem dX5_childOf_6 : decode cX5_childOf 6 = .ok (.istore_n 2, 1) := by decide +kernel
theorem dX5_childOf_7 : decode cX5_childOf 7 = .ok (.iload_n 2, 1) := by decide +kernel
theorem dX5_childOf_8 : decode cX5_childOf 8 = .ok (.ifCond .lt 15, 3) := by decide +kernel
theorem dX5_childOf_11 : decode cX5_childOf 11 = .ok (.aload_n 0, 1) := by decide +kernel
theorem dX5_childOf_12 : decode cX5_childOf 12 = .ok (.iload_n 2, 1) := by decide +kernel
theorem dX5_childOf_13 : decode cX5_childOf 13 = .ok (.invokevirtual 107, 3) := by decide +kernel
theorem dX5_childOf_16 : decode cX5_childOf 16 = .ok (.ifCond .eq 7, 3) := by decide +kernel
theorem dX5_childOf_19 : decode cX5_childOf 19 = .ok (.iload_n 2, 1) := by decide +kernel
theorem dX5_childOf_20 : decode cX5_childOf 20 = .ok (.goto 4, 3) := by decide +kernel
theorem dX5_childOf_23 : decode cX5_childOf 23 = .ok (.iconst (-1), 1) := by decide +kernel
theorem dX5_childOf_24 : decode cX5_childOf 24 = .ok (.ireturn, 1) := by decide +kernel
theorem dX5_aimOf_0 : decode cX5_aimOf 0 = .ok (.aload_n 0, 1) := by decide +kernel
theorem dX5_aimOf_1 : decode cX5_aimOf 1 = .ok (.iload_n 1, 1) := by decide +kernel
theorem dX5_aimOf_2 : decode cX5_aimOf 2 = .ok (.iconst 0, 1) := by decide +kernel
theorem dX5_aimOf_3 : decode cX5_aimOf 3 = .ok (.invokevirtual 47, 3) := by decide +kernel
theorem dX5_aimOf_6 : decode cX5_aimOf 6 = .ok (.tableswitch 68 1 5 #[34, 68, 40, 34, 46], 34) := by decide +kernel
theorem dX5_aimOf_40 : decode cX5_aimOf 40 = .ok (.aload_n 0, 1) := by decide +kernel
theorem dX5_aimOf_41 : decode cX5_aimOf 41 = .ok (.iload_n 1, 1) := by decide +kernel
theorem dX5_aimOf_42 : decode cX5_aimOf 42 = .ok (.invokevirtual 120, 3) := by decide +kernel
theorem dX5_aimOf_45 : decode cX5_aimOf 45 = .ok (.ireturn, 1) := by decide +kernel
theorem dX5_aimOf_46 : decode cX5_aimOf 46 = .ok (.aload_n 0, 1) := by decide +kernel
theorem dX5_aimOf_47 : decode cX5_aimOf 47 = .ok (.iload_n 1, 1) := by decide +kernel
theorem dX5_aimOf_48 : decode cX5_aimOf 48 = .ok (.invokevirtual 123, 3) := by decide +kernel
theorem dX5_aimOf_51 : decode cX5_aimOf 51 = .ok (.ireturn, 1) := by decide +kernel
theorem dX5_aimOf_52 : decode cX5_aimOf 52 = .ok (.aload_n 0, 1) := by decide +kernel
theorem dX5_aimOf_53 : decode cX5_aimOf 53 = .ok (.iload_n 1, 1) := by decide +kernel
theorem dX5_aimOf_54 : decode cX5_aimOf 54 = .ok (.invokevirtual 123, 3) := by decide +kernel
theorem dX5_aimOf_57 : decode cX5_aimOf 57 = .ok (.ifCond .ge 11, 3) := by decide +kernel
theorem dX5_aimOf_60 : decode cX5_aimOf 60 = .ok (.aload_n 0, 1) := by decide +kernel
theorem dX5_aimOf_61 : decode cX5_aimOf 61 = .ok (.iload_n 1, 1) := by decide +kernel
theorem dX5_aimOf_62 : decode cX5_aimOf 62 = .ok (.invokevirtual 113, 3) := by decide +kernel
theorem dX5_aimOf_65 : decode cX5_aimOf 65 = .ok (.goto 8, 3) := by decide +kernel
theorem dX5_aimOf_68 : decode cX5_aimOf 68 = .ok (.aload_n 0, 1) := by decide +kernel
theorem dX5_aimOf_69 : decode cX5_aimOf 69 = .ok (.iload_n 1, 1) := by decide +kernel
theorem dX5_aimOf_70 : decode cX5_aimOf 70 = .ok (.invokevirtual 123, 3) := by decide +kernel
theorem dX5_aimOf_73 : decode cX5_aimOf 73 = .ok (.ireturn, 1) := by decide +kernel
theorem dX5_aimOf_74 : decode cX5_aimOf 74 = .ok (.iconst (-1), 1) := by decide +kernel
theorem dX5_aimOf_75 : decode cX5_aimOf 75 = .ok (.ireturn, 1) := by decide +kernel
theorem dX5_watched_0 : decode cX5_watched 0 = .ok (.aload_n 0, 1) := by decide +kernel
theorem dX5_watched_1 : decode cX5_watched 1 = .ok (.iload_n 1, 1) := by decide +kernel
theorem dX5_watched_2 : decode cX5_watched 2 = .ok (.invokevirtual 43, 3) := by decide +kernel
theorem dX5_watched_5 : decode cX5_watched 5 = .ok (.ifCond .ne 10, 3) := by decide +kernel
theorem dX5_watched_8 : decode cX5_watched 8 = .ok (.aload_n 0, 1) := by decide +kernel
theorem dX5_watched_9 : decode cX5_watched 9 = .ok (.ldc 42, 2) := by decide +kernel
theorem dX5_watched_11 : decode cX5_watched 11 = .ok (.invokevirtual 62, 3) := by decide +kernel
theorem dX5_watched_14 : decode cX5_watched 14 = .ok (.ireturn, 1) := by decide +kernel
theorem dX5_watched_15 : decode cX5_watched 15 = .ok (.iconst 0, 1) := by decide +kernel
theorem dX5_watched_16 : decode cX5_watched 16 = .ok (.istore_n 2, 1) := by decide +kernel
theorem dX5_watched_17 : decode cX5_watched 17 = .ok (.iconst 0, 1) := by decide +kernel
theorem dX5_watched_18 : decode cX5_watched 18 = .ok (.istore_n 3, 1) := by decide +kernel
theorem dX5_watched_19 : decode cX5_watched 19 = .ok (.iload_n 3, 1) := by decide +kernel
theorem dX5_watched_20 : decode cX5_watched 20 = .ok (.aload_n 0, 1) := by decide +kernel
theorem dX5_watched_21 : decode cX5_watched 21 = .ok (.getfield 7, 3) := by decide +kernel
theorem dX5_watched_24 : decode cX5_watched 24 = .ok (.iconst 0, 1) := by decide +kernel
theorem dX5_watched_25 : decode cX5_watched 25 = .ok (.iaload, 1) := by decide +kernel
theorem dX5_watched_26 : decode cX5_watched 26 = .ok (.if_icmp .ge 36, 3) := by decide +kernel
theorem dX5_watched_29 : decode cX5_watched 29 = .ok (.iload_n 2, 1) := by decide +kernel
theorem dX5_watched_30 : decode cX5_watched 30 = .ok (.aload_n 0, 1) := by decide +kernel
theorem dX5_watched_31 : decode cX5_watched 31 = .ok (.iload_n 3, 1) := by decide +kernel
theorem dX5_watched_32 : decode cX5_watched 32 = .ok (.invokevirtual 107, 3) := by decide +kernel
theorem dX5_watched_35 : decode cX5_watched 35 = .ok (.ifCond .eq 18, 3) := by decide +kernel
theorem dX5_watched_38 : decode cX5_watched 38 = .ok (.aload_n 0, 1) := by decide +kernel
theorem dX5_watched_39 : decode cX5_watched 39 = .ok (.iload_n 3, 1) := by decide +kernel
theorem dX5_watched_40 : decode cX5_watched 40 = .ok (.invokevirtual 85, 3) := by decide +kernel
theorem dX5_watched_43 : decode cX5_watched 43 = .ok (.iload_n 1, 1) := by decide +kernel
theorem dX5_watched_44 : decode cX5_watched 44 = .ok (.if_icmp .ne 9, 3) := by decide +kernel
theorem dX5_watched_47 : decode cX5_watched 47 = .ok (.iconst 1, 1) := by decide +kernel
theorem dX5_watched_48 : decode cX5_watched 48 = .ok (.iload_n 3, 1) := by decide +kernel
theorem dX5_watched_49 : decode cX5_watched 49 = .ok (.ishl, 1) := by decide +kernel
theorem dX5_watched_50 : decode cX5_watched 50 = .ok (.goto 4, 3) := by decide +kernel
theorem dX5_watched_53 : decode cX5_watched 53 = .ok (.iconst 0, 1) := by decide +kernel
theorem dX5_watched_54 : decode cX5_watched 54 = .ok (.ior, 1) := by decide +kernel
theorem dX5_watched_55 : decode cX5_watched 55 = .ok (.istore_n 2, 1) := by decide +kernel
theorem dX5_watched_56 : decode cX5_watched 56 = .ok (.iinc 3 1, 3) := by decide +kernel
theorem dX5_watched_59 : decode cX5_watched 59 = .ok (.goto (-40), 3) := by decide +kernel
theorem dX5_watched_62 : decode cX5_watched 62 = .ok (.iload_n 2, 1) := by decide +kernel
theorem dX5_watched_63 : decode cX5_watched 63 = .ok (.ireturn, 1) := by decide +kernel
theorem dX5_wishOf_0 : decode cX5_wishOf 0 = .ok (.aload_n 0, 1) := by decide +kernel
theorem dX5_wishOf_1 : decode cX5_wishOf 1 = .ok (.iload_n 1, 1) := by decide +kernel
theorem dX5_wishOf_2 : decode cX5_wishOf 2 = .ok (.iconst 0, 1) := by decide +kernel
theorem dX5_wishOf_3 : decode cX5_wishOf 3 = .ok (.invokevirtual 47, 3) := by decide +kernel
theorem dX5_wishOf_6 : decode cX5_wishOf 6 = .ok (.iconst 2, 1) := by decide +kernel
theorem dX5_wishOf_7 : decode cX5_wishOf 7 = .ok (.if_icmp .ne 7, 3) := by decide +kernel
theorem dX5_wishOf_10 : decode cX5_wishOf 10 = .ok (.iconst 1, 1) := by decide +kernel
theorem dX5_wishOf_11 : decode cX5_wishOf 11 = .ok (.goto 4, 3) := by decide +kernel
theorem dX5_wishOf_14 : decode cX5_wishOf 14 = .ok (.iconst 0, 1) := by decide +kernel
theorem dX5_wishOf_15 : decode cX5_wishOf 15 = .ok (.istore_n 2, 1) := by decide +kernel
theorem dX5_wishOf_16 : decode cX5_wishOf 16 = .ok (.iload_n 2, 1) := by decide +kernel
theorem dX5_wishOf_17 : decode cX5_wishOf 17 = .ok (.ifCond .eq 11, 3) := by decide +kernel
theorem dX5_wishOf_20 : decode cX5_wishOf 20 = .ok (.aload_n 0, 1) := by decide +kernel
theorem dX5_wishOf_21 : decode cX5_wishOf 21 = .ok (.iload_n 1, 1) := by decide +kernel
theorem dX5_wishOf_22 : decode cX5_wishOf 22 = .ok (.invokevirtual 113, 3) := by decide +kernel
theorem dX5_wishOf_25 : decode cX5_wishOf 25 = .ok (.goto 8, 3) := by decide +kernel
theorem dX5_wishOf_28 : decode cX5_wishOf 28 = .ok (.aload_n 0, 1) := by decide +kernel
theorem dX5_wishOf_29 : decode cX5_wishOf 29 = .ok (.iload_n 1, 1) := by decide +kernel
theorem dX5_wishOf_30 : decode cX5_wishOf 30 = .ok (.invokevirtual 85, 3) := by decide +kernel
theorem dX5_wishOf_33 : decode cX5_wishOf 33 = .ok (.istore_n 3, 1) := by decide +kernel
theorem dX5_wishOf_34 : decode cX5_wishOf 34 = .ok (.iload_n 3, 1) := by decide +kernel
theorem dX5_wishOf_35 : decode cX5_wishOf 35 = .ok (.ifCond .ge 5, 3) := by decide +kernel
theorem dX5_wishOf_38 : decode cX5_wishOf 38 = .ok (.iconst (-1), 1) := by decide +kernel
theorem dX5_wishOf_39 : decode cX5_wishOf 39 = .ok (.ireturn, 1) := by decide +kernel
theorem dX5_wishOf_40 : decode cX5_wishOf 40 = .ok (.aload_n 0, 1) := by decide +kernel
theorem dX5_wishOf_41 : decode cX5_wishOf 41 = .ok (.iload_n 1, 1) := by decide +kernel
theorem dX5_wishOf_42 : decode cX5_wishOf 42 = .ok (.iconst 0, 1) := by decide +kernel
theorem dX5_wishOf_43 : decode cX5_wishOf 43 = .ok (.invokevirtual 47, 3) := by decide +kernel
theorem dX5_wishOf_46 : decode cX5_wishOf 46 = .ok (.iconst 4, 1) := by decide +kernel
theorem dX5_wishOf_47 : decode cX5_wishOf 47 = .ok (.if_icmp .ne 8, 3) := by decide +kernel
theorem dX5_wishOf_50 : decode cX5_wishOf 50 = .ok (.bipush 8, 2) := by decide +kernel
theorem dX5_wishOf_52 : decode cX5_wishOf 52 = .ok (.goto 5, 3) := by decide +kernel
theorem dX5_wishOf_55 : decode cX5_wishOf 55 = .ok (.bipush 9, 2) := by decide +kernel
theorem dX5_wishOf_57 : decode cX5_wishOf 57 = .ok (.istore 4, 2) := by decide +kernel
theorem dX5_wishOf_59 : decode cX5_wishOf 59 = .ok (.iconst 0, 1) := by decide +kernel
theorem dX5_wishOf_60 : decode cX5_wishOf 60 = .ok (.istore 5, 2) := by decide +kernel
theorem dX5_wishOf_62 : decode cX5_wishOf 62 = .ok (.iload 5, 2) := by decide +kernel
theorem dX5_wishOf_64 : decode cX5_wishOf 64 = .ok (.iload 4, 2) := by decide +kernel
theorem dX5_wishOf_66 : decode cX5_wishOf 66 = .ok (.if_icmp .ge 44, 3) := by decide +kernel
theorem dX5_wishOf_69 : decode cX5_wishOf 69 = .ok (.aload_n 0, 1) := by decide +kernel
theorem dX5_wishOf_70 : decode cX5_wishOf 70 = .ok (.iload_n 1, 1) := by decide +kernel
theorem dX5_wishOf_71 : decode cX5_wishOf 71 = .ok (.bipush 6, 2) := by decide +kernel
theorem dX5_wishOf_73 : decode cX5_wishOf 73 = .ok (.iload 5, 2) := by decide +kernel
theorem dX5_wishOf_75 : decode cX5_wishOf 75 = .ok (.iadd, 1) := by decide +kernel
theorem dX5_wishOf_76 : decode cX5_wishOf 76 = .ok (.invokevirtual 47, 3) := by decide +kernel
theorem dX5_wishOf_79 : decode cX5_wishOf 79 = .ok (.aload_n 0, 1) := by decide +kernel
theorem dX5_wishOf_80 : decode cX5_wishOf 80 = .ok (.iload_n 3, 1) := by decide +kernel
theorem dX5_wishOf_81 : decode cX5_wishOf 81 = .ok (.bipush 6, 2) := by decide +kernel
theorem dX5_wishOf_83 : decode cX5_wishOf 83 = .ok (.iload 5, 2) := by decide +kernel
theorem dX5_wishOf_85 : decode cX5_wishOf 85 = .ok (.iadd, 1) := by decide +kernel
theorem dX5_wishOf_86 : decode cX5_wishOf 86 = .ok (.invokevirtual 47, 3) := by decide +kernel
theorem dX5_wishOf_89 : decode cX5_wishOf 89 = .ok (.if_icmp .ne 7, 3) := by decide +kernel
theorem dX5_wishOf_92 : decode cX5_wishOf 92 = .ok (.iconst 1, 1) := by decide +kernel
theorem dX5_wishOf_93 : decode cX5_wishOf 93 = .ok (.goto 4, 3) := by decide +kernel
theorem dX5_wishOf_96 : decode cX5_wishOf 96 = .ok (.iconst 0, 1) := by decide +kernel
theorem dX5_wishOf_97 : decode cX5_wishOf 97 = .ok (.iload_n 2, 1) := by decide +kernel
theorem dX5_wishOf_98 : decode cX5_wishOf 98 = .ok (.if_icmp .ne 6, 3) := by decide +kernel
theorem dX5_wishOf_101 : decode cX5_wishOf 101 = .ok (.iload 5, 2) := by decide +kernel
theorem dX5_wishOf_103 : decode cX5_wishOf 103 = .ok (.ireturn, 1) := by decide +kernel
theorem dX5_wishOf_104 : decode cX5_wishOf 104 = .ok (.iinc 5 1, 3) := by decide +kernel
theorem dX5_wishOf_107 : decode cX5_wishOf 107 = .ok (.goto (-45), 3) := by decide +kernel
theorem dX5_wishOf_110 : decode cX5_wishOf 110 = .ok (.iconst (-1), 1) := by decide +kernel
theorem dX5_wishOf_111 : decode cX5_wishOf 111 = .ok (.ireturn, 1) := by decide +kernel
theorem dX5_changeOf_0 : decode cX5_changeOf 0 = .ok (.aload_n 0, 1) := by decide +kernel
theorem dX5_changeOf_1 : decode cX5_changeOf 1 = .ok (.iload_n 1, 1) := by decide +kernel
theorem dX5_changeOf_2 : decode cX5_changeOf 2 = .ok (.invokevirtual 126, 3) := by decide +kernel
theorem dX5_changeOf_5 : decode cX5_changeOf 5 = .ok (.istore_n 2, 1) := by decide +kernel
theorem dX5_changeOf_6 : decode cX5_changeOf 6 = .ok (.iload_n 2, 1) := by decide +kernel
theorem dX5_changeOf_7 : decode cX5_changeOf 7 = .ok (.ifCond .lt 21, 3) := by decide +kernel
theorem dX5_changeOf_10 : decode cX5_changeOf 10 = .ok (.aload_n 0, 1) := by decide +kernel
theorem dX5_changeOf_11 : decode cX5_changeOf 11 = .ok (.iload_n 1, 1) := by decide +kernel
theorem dX5_changeOf_12 : decode cX5_changeOf 12 = .ok (.iconst 2, 1) := by decide +kernel
theorem dX5_changeOf_13 : decode cX5_changeOf 13 = .ok (.invokevirtual 47, 3) := by decide +kernel
theorem dX5_changeOf_16 : decode cX5_changeOf 16 = .ok (.aload_n 0, 1) := by decide +kernel
theorem dX5_changeOf_17 : decode cX5_changeOf 17 = .ok (.getfield 7, 3) := by decide +kernel
theorem dX5_changeOf_20 : decode cX5_changeOf 20 = .ok (.bipush 12, 2) := by decide +kernel
theorem dX5_changeOf_22 : decode cX5_changeOf 22 = .ok (.iload_n 2, 1) := by decide +kernel
theorem dX5_changeOf_23 : decode cX5_changeOf 23 = .ok (.iadd, 1) := by decide +kernel
theorem dX5_changeOf_24 : decode cX5_changeOf 24 = .ok (.iaload, 1) := by decide +kernel
theorem dX5_changeOf_25 : decode cX5_changeOf 25 = .ok (.if_icmp .ge 7, 3) := by decide +kernel
theorem dX5_changeOf_28 : decode cX5_changeOf 28 = .ok (.iconst (-1), 1) := by decide +kernel
theorem dX5_changeOf_29 : decode cX5_changeOf 29 = .ok (.goto 4, 3) := by decide +kernel
theorem dX5_changeOf_32 : decode cX5_changeOf 32 = .ok (.iload_n 2, 1) := by decide +kernel
theorem dX5_changeOf_33 : decode cX5_changeOf 33 = .ok (.ireturn, 1) := by decide +kernel
theorem dX5_changes_0 : decode cX5_changes 0 = .ok (.aload_n 0, 1) := by decide +kernel
theorem dX5_changes_1 : decode cX5_changes 1 = .ok (.iload_n 1, 1) := by decide +kernel
theorem dX5_changes_2 : decode cX5_changes 2 = .ok (.invokevirtual 43, 3) := by decide +kernel
theorem dX5_changes_5 : decode cX5_changes 5 = .ok (.ifCond .ne 10, 3) := by decide +kernel
theorem dX5_changes_8 : decode cX5_changes 8 = .ok (.aload_n 0, 1) := by decide +kernel
theorem dX5_changes_9 : decode cX5_changes 9 = .ok (.ldc 42, 2) := by decide +kernel
theorem dX5_changes_11 : decode cX5_changes 11 = .ok (.invokevirtual 62, 3) := by decide +kernel
theorem dX5_changes_14 : decode cX5_changes 14 = .ok (.ireturn, 1) := by decide +kernel
theorem dX5_changes_15 : decode cX5_changes 15 = .ok (.aload_n 0, 1) := by decide +kernel
theorem dX5_changes_16 : decode cX5_changes 16 = .ok (.iload_n 1, 1) := by decide +kernel
theorem dX5_changes_17 : decode cX5_changes 17 = .ok (.invokevirtual 107, 3) := by decide +kernel
theorem dX5_changes_20 : decode cX5_changes 20 = .ok (.ifCond .eq 11, 3) := by decide +kernel
theorem dX5_changes_23 : decode cX5_changes 23 = .ok (.aload_n 0, 1) := by decide +kernel
theorem dX5_changes_24 : decode cX5_changes 24 = .ok (.iload_n 1, 1) := by decide +kernel
theorem dX5_changes_25 : decode cX5_changes 25 = .ok (.invokevirtual 129, 3) := by decide +kernel
theorem dX5_changes_28 : decode cX5_changes 28 = .ok (.goto 4, 3) := by decide +kernel
theorem dX5_changes_31 : decode cX5_changes 31 = .ok (.iconst (-1), 1) := by decide +kernel
theorem dX5_changes_32 : decode cX5_changes 32 = .ok (.istore_n 2, 1) := by decide +kernel
theorem dX5_changes_33 : decode cX5_changes 33 = .ok (.iload_n 2, 1) := by decide +kernel
theorem dX5_changes_34 : decode cX5_changes 34 = .ok (.ifCond .ge 12, 3) := by decide +kernel
theorem dX5_changes_37 : decode cX5_changes 37 = .ok (.aload_n 0, 1) := by decide +kernel
theorem dX5_changes_38 : decode cX5_changes 38 = .ok (.ldc 116, 2) := by decide +kernel
theorem dX5_changes_40 : decode cX5_changes 40 = .ok (.invokevirtual 62, 3) := by decide +kernel
theorem dX5_changes_43 : decode cX5_changes 43 = .ok (.goto 4, 3) := by decide +kernel
theorem dX5_changes_46 : decode cX5_changes 46 = .ok (.iload_n 2, 1) := by decide +kernel
theorem dX5_changes_47 : decode cX5_changes 47 = .ok (.ireturn, 1) := by decide +kernel
theorem dX5_alters_0 : decode cX5_alters 0 = .ok (.aload_n 0, 1) := by decide +kernel
theorem dX5_alters_1 : decode cX5_alters 1 = .ok (.iload_n 1, 1) := by decide +kernel
theorem dX5_alters_2 : decode cX5_alters 2 = .ok (.invokevirtual 129, 3) := by decide +kernel
theorem dX5_alters_5 : decode cX5_alters 5 = .ok (.istore_n 2, 1) := by decide +kernel
theorem dX5_alters_6 : decode cX5_alters 6 = .ok (.iload_n 2, 1) := by decide +kernel
theorem dX5_alters_7 : decode cX5_alters 7 = .ok (.ifCond .lt 75, 3) := by decide +kernel
theorem dX5_alters_10 : decode cX5_alters 10 = .ok (.aload_n 0, 1) := by decide +kernel
theorem dX5_alters_11 : decode cX5_alters 11 = .ok (.iload_n 1, 1) := by decide +kernel
theorem dX5_alters_12 : decode cX5_alters 12 = .ok (.iconst 0, 1) := by decide +kernel
theorem dX5_alters_13 : decode cX5_alters 13 = .ok (.invokevirtual 47, 3) := by decide +kernel
theorem dX5_alters_16 : decode cX5_alters 16 = .ok (.iconst 2, 1) := by decide +kernel
theorem dX5_alters_17 : decode cX5_alters 17 = .ok (.if_icmp .ne 19, 3) := by decide +kernel
theorem dX5_alters_20 : decode cX5_alters 20 = .ok (.aload_n 0, 1) := by decide +kernel
theorem dX5_alters_21 : decode cX5_alters 21 = .ok (.iload_n 1, 1) := by decide +kernel
theorem dX5_alters_22 : decode cX5_alters 22 = .ok (.bipush 6, 2) := by decide +kernel
theorem dX5_alters_24 : decode cX5_alters 24 = .ok (.iload_n 2, 1) := by decide +kernel
theorem dX5_alters_25 : decode cX5_alters 25 = .ok (.iadd, 1) := by decide +kernel
theorem dX5_alters_26 : decode cX5_alters 26 = .ok (.invokevirtual 47, 3) := by decide +kernel
theorem dX5_alters_29 : decode cX5_alters 29 = .ok (.iconst 1, 1) := by decide +kernel
theorem dX5_alters_30 : decode cX5_alters 30 = .ok (.iadd, 1) := by decide +kernel
theorem dX5_alters_31 : decode cX5_alters 31 = .ok (.iconst 4, 1) := by decide +kernel
theorem dX5_alters_32 : decode cX5_alters 32 = .ok (.irem, 1) := by decide +kernel
theorem dX5_alters_33 : decode cX5_alters 33 = .ok (.goto 16, 3) := by decide +kernel
theorem dX5_alters_36 : decode cX5_alters 36 = .ok (.aload_n 0, 1) := by decide +kernel
theorem dX5_alters_37 : decode cX5_alters 37 = .ok (.aload_n 0, 1) := by decide +kernel
theorem dX5_alters_38 : decode cX5_alters 38 = .ok (.iload_n 1, 1) := by decide +kernel
theorem dX5_alters_39 : decode cX5_alters 39 = .ok (.invokevirtual 85, 3) := by decide +kernel
theorem dX5_alters_42 : decode cX5_alters 42 = .ok (.bipush 6, 2) := by decide +kernel
theorem dX5_alters_44 : decode cX5_alters 44 = .ok (.iload_n 2, 1) := by decide +kernel
theorem dX5_alters_45 : decode cX5_alters 45 = .ok (.iadd, 1) := by decide +kernel
theorem dX5_alters_46 : decode cX5_alters 46 = .ok (.invokevirtual 47, 3) := by decide +kernel
theorem dX5_alters_49 : decode cX5_alters 49 = .ok (.istore_n 3, 1) := by decide +kernel
theorem dX5_alters_50 : decode cX5_alters 50 = .ok (.aload_n 0, 1) := by decide +kernel
theorem dX5_alters_51 : decode cX5_alters 51 = .ok (.iload_n 1, 1) := by decide +kernel
theorem dX5_alters_52 : decode cX5_alters 52 = .ok (.bipush 6, 2) := by decide +kernel
theorem dX5_alters_54 : decode cX5_alters 54 = .ok (.iload_n 2, 1) := by decide +kernel
theorem dX5_alters_55 : decode cX5_alters 55 = .ok (.iadd, 1) := by decide +kernel
theorem dX5_alters_56 : decode cX5_alters 56 = .ok (.iload_n 3, 1) := by decide +kernel
theorem dX5_alters_57 : decode cX5_alters 57 = .ok (.invokevirtual 71, 3) := by decide +kernel
theorem dX5_alters_60 : decode cX5_alters 60 = .ok (.aload_n 0, 1) := by decide +kernel
theorem dX5_alters_61 : decode cX5_alters 61 = .ok (.iload_n 1, 1) := by decide +kernel
theorem dX5_alters_62 : decode cX5_alters 62 = .ok (.iconst 2, 1) := by decide +kernel
theorem dX5_alters_63 : decode cX5_alters 63 = .ok (.aload_n 0, 1) := by decide +kernel
theorem dX5_alters_64 : decode cX5_alters 64 = .ok (.iload_n 1, 1) := by decide +kernel
theorem dX5_alters_65 : decode cX5_alters 65 = .ok (.iconst 2, 1) := by decide +kernel
theorem dX5_alters_66 : decode cX5_alters 66 = .ok (.invokevirtual 47, 3) := by decide +kernel
theorem dX5_alters_69 : decode cX5_alters 69 = .ok (.aload_n 0, 1) := by decide +kernel
theorem dX5_alters_70 : decode cX5_alters 70 = .ok (.getfield 7, 3) := by decide +kernel
theorem dX5_alters_73 : decode cX5_alters 73 = .ok (.bipush 12, 2) := by decide +kernel
theorem dX5_alters_75 : decode cX5_alters 75 = .ok (.iload_n 2, 1) := by decide +kernel
theorem dX5_alters_76 : decode cX5_alters 76 = .ok (.iadd, 1) := by decide +kernel
theorem dX5_alters_77 : decode cX5_alters 77 = .ok (.iaload, 1) := by decide +kernel
theorem dX5_alters_78 : decode cX5_alters 78 = .ok (.isub, 1) := by decide +kernel
theorem dX5_alters_79 : decode cX5_alters 79 = .ok (.invokevirtual 71, 3) := by decide +kernel
theorem dX5_alters_82 : decode cX5_alters 82 = .ok (.return_, 1) := by decide +kernel
theorem dX5_gains_0 : decode cX5_gains 0 = .ok (.aload_n 0, 1) := by decide +kernel
theorem dX5_gains_1 : decode cX5_gains 1 = .ok (.iload_n 1, 1) := by decide +kernel
theorem dX5_gains_2 : decode cX5_gains 2 = .ok (.iconst 2, 1) := by decide +kernel
theorem dX5_gains_3 : decode cX5_gains 3 = .ok (.invokevirtual 47, 3) := by decide +kernel
theorem dX5_gains_6 : decode cX5_gains 6 = .ok (.iload_n 2, 1) := by decide +kernel
theorem dX5_gains_7 : decode cX5_gains 7 = .ok (.iadd, 1) := by decide +kernel
theorem dX5_gains_8 : decode cX5_gains 8 = .ok (.istore_n 3, 1) := by decide +kernel
theorem dX5_gains_9 : decode cX5_gains 9 = .ok (.aload_n 0, 1) := by decide +kernel
theorem dX5_gains_10 : decode cX5_gains 10 = .ok (.iload_n 1, 1) := by decide +kernel
theorem dX5_gains_11 : decode cX5_gains 11 = .ok (.iconst 2, 1) := by decide +kernel
theorem dX5_gains_12 : decode cX5_gains 12 = .ok (.iload_n 3, 1) := by decide +kernel
theorem dX5_gains_13 : decode cX5_gains 13 = .ok (.ldc 132, 2) := by decide +kernel
theorem dX5_gains_15 : decode cX5_gains 15 = .ok (.if_icmp .le 8, 3) := by decide +kernel
theorem dX5_gains_18 : decode cX5_gains 18 = .ok (.ldc 132, 2) := by decide +kernel
theorem dX5_gains_20 : decode cX5_gains 20 = .ok (.goto 4, 3) := by decide +kernel
theorem dX5_gains_23 : decode cX5_gains 23 = .ok (.iload_n 3, 1) := by decide +kernel
theorem dX5_gains_24 : decode cX5_gains 24 = .ok (.invokevirtual 71, 3) := by decide +kernel
theorem dX5_gains_27 : decode cX5_gains 27 = .ok (.return_, 1) := by decide +kernel
theorem dX5_ends_0 : decode cX5_ends 0 = .ok (.aload_n 0, 1) := by decide +kernel
theorem dX5_ends_1 : decode cX5_ends 1 = .ok (.iload_n 1, 1) := by decide +kernel
theorem dX5_ends_2 : decode cX5_ends 2 = .ok (.iconst 5, 1) := by decide +kernel
theorem dX5_ends_3 : decode cX5_ends 3 = .ok (.iconst 0, 1) := by decide +kernel
theorem dX5_ends_4 : decode cX5_ends 4 = .ok (.invokevirtual 71, 3) := by decide +kernel
theorem dX5_ends_7 : decode cX5_ends 7 = .ok (.aload_n 0, 1) := by decide +kernel
theorem dX5_ends_8 : decode cX5_ends 8 = .ok (.iload_n 1, 1) := by decide +kernel
theorem dX5_ends_9 : decode cX5_ends 9 = .ok (.invokevirtual 113, 3) := by decide +kernel
theorem dX5_ends_12 : decode cX5_ends 12 = .ok (.istore_n 2, 1) := by decide +kernel
theorem dX5_ends_13 : decode cX5_ends 13 = .ok (.aload_n 0, 1) := by decide +kernel
theorem dX5_ends_14 : decode cX5_ends 14 = .ok (.iload_n 2, 1) := by decide +kernel
theorem dX5_ends_15 : decode cX5_ends 15 = .ok (.putfield 133, 3) := by decide +kernel
theorem dX5_ends_18 : decode cX5_ends 18 = .ok (.aload_n 0, 1) := by decide +kernel
theorem dX5_ends_19 : decode cX5_ends 19 = .ok (.iload_n 1, 1) := by decide +kernel
theorem dX5_ends_20 : decode cX5_ends 20 = .ok (.iconst 2, 1) := by decide +kernel
theorem dX5_ends_21 : decode cX5_ends 21 = .ok (.invokevirtual 47, 3) := by decide +kernel
theorem dX5_ends_24 : decode cX5_ends 24 = .ok (.istore_n 3, 1) := by decide +kernel
theorem dX5_ends_25 : decode cX5_ends 25 = .ok (.aload_n 0, 1) := by decide +kernel
theorem dX5_ends_26 : decode cX5_ends 26 = .ok (.iload_n 1, 1) := by decide +kernel
theorem dX5_ends_27 : decode cX5_ends 27 = .ok (.iconst 2, 1) := by decide +kernel
theorem dX5_ends_28 : decode cX5_ends 28 = .ok (.iconst 0, 1) := by decide +kernel
theorem dX5_ends_29 : decode cX5_ends 29 = .ok (.invokevirtual 71, 3) := by decide +kernel
theorem dX5_ends_32 : decode cX5_ends 32 = .ok (.iload_n 2, 1) := by decide +kernel
theorem dX5_ends_33 : decode cX5_ends 33 = .ok (.ifCond .ge 4, 3) := by decide +kernel
theorem dX5_ends_36 : decode cX5_ends 36 = .ok (.return_, 1) := by decide +kernel
theorem dX5_ends_37 : decode cX5_ends 37 = .ok (.aload_n 0, 1) := by decide +kernel
theorem dX5_ends_38 : decode cX5_ends 38 = .ok (.getfield 7, 3) := by decide +kernel
theorem dX5_ends_41 : decode cX5_ends 41 = .ok (.iconst 2, 1) := by decide +kernel
theorem dX5_ends_42 : decode cX5_ends 42 = .ok (.iaload, 1) := by decide +kernel
theorem dX5_ends_43 : decode cX5_ends 43 = .ok (.iconst 2, 1) := by decide +kernel
theorem dX5_ends_44 : decode cX5_ends 44 = .ok (.if_icmp .ne 12, 3) := by decide +kernel
theorem dX5_ends_47 : decode cX5_ends 47 = .ok (.aload_n 0, 1) := by decide +kernel
theorem dX5_ends_48 : decode cX5_ends 48 = .ok (.iload_n 1, 1) := by decide +kernel
theorem dX5_ends_49 : decode cX5_ends 49 = .ok (.iload_n 2, 1) := by decide +kernel
theorem dX5_ends_50 : decode cX5_ends 50 = .ok (.invokevirtual 110, 3) := by decide +kernel
theorem dX5_ends_53 : decode cX5_ends 53 = .ok (.goto 4, 3) := by decide +kernel
theorem dX5_ends_56 : decode cX5_ends 56 = .ok (.iconst (-1), 1) := by decide +kernel
theorem dX5_ends_57 : decode cX5_ends 57 = .ok (.istore 4, 2) := by decide +kernel
theorem dX5_ends_59 : decode cX5_ends 59 = .ok (.iload 4, 2) := by decide +kernel
theorem dX5_ends_61 : decode cX5_ends 61 = .ok (.ifCond .ge 12, 3) := by decide +kernel
theorem dX5_ends_64 : decode cX5_ends 64 = .ok (.aload_n 0, 1) := by decide +kernel
theorem dX5_ends_65 : decode cX5_ends 65 = .ok (.iload_n 2, 1) := by decide +kernel
theorem dX5_ends_66 : decode cX5_ends 66 = .ok (.iload_n 3, 1) := by decide +kernel
theorem dX5_ends_67 : decode cX5_ends 67 = .ok (.invokevirtual 136, 3) := by decide +kernel
theorem dX5_ends_70 : decode cX5_ends 70 = .ok (.goto 22, 3) := by decide +kernel
theorem dX5_ends_73 : decode cX5_ends 73 = .ok (.aload_n 0, 1) := by decide +kernel
theorem dX5_ends_74 : decode cX5_ends 74 = .ok (.iload_n 2, 1) := by decide +kernel
theorem dX5_ends_75 : decode cX5_ends 75 = .ok (.iload_n 3, 1) := by decide +kernel
theorem dX5_ends_76 : decode cX5_ends 76 = .ok (.iload_n 3, 1) := by decide +kernel
theorem dX5_ends_77 : decode cX5_ends 77 = .ok (.iconst 2, 1) := by decide +kernel
theorem dX5_ends_78 : decode cX5_ends 78 = .ok (.idiv, 1) := by decide +kernel
theorem dX5_ends_79 : decode cX5_ends 79 = .ok (.isub, 1) := by decide +kernel
theorem dX5_ends_80 : decode cX5_ends 80 = .ok (.invokevirtual 136, 3) := by decide +kernel
theorem dX5_ends_83 : decode cX5_ends 83 = .ok (.aload_n 0, 1) := by decide +kernel
theorem dX5_ends_84 : decode cX5_ends 84 = .ok (.iload 4, 2) := by decide +kernel
theorem dX5_ends_86 : decode cX5_ends 86 = .ok (.iload_n 3, 1) := by decide +kernel
theorem dX5_ends_87 : decode cX5_ends 87 = .ok (.iconst 2, 1) := by decide +kernel
theorem dX5_ends_88 : decode cX5_ends 88 = .ok (.idiv, 1) := by decide +kernel
theorem dX5_ends_89 : decode cX5_ends 89 = .ok (.invokevirtual 136, 3) := by decide +kernel
theorem dX5_ends_92 : decode cX5_ends 92 = .ok (.return_, 1) := by decide +kernel
theorem dX5_goesOn_0 : decode cX5_goesOn 0 = .ok (.iconst 0, 1) := by decide +kernel
theorem dX5_goesOn_1 : decode cX5_goesOn 1 = .ok (.istore_n 1, 1) := by decide +kernel
theorem dX5_goesOn_2 : decode cX5_goesOn 2 = .ok (.iload_n 1, 1) := by decide +kernel
theorem dX5_goesOn_3 : decode cX5_goesOn 3 = .ok (.aload_n 0, 1) := by decide +kernel
theorem dX5_goesOn_4 : decode cX5_goesOn 4 = .ok (.getfield 7, 3) := by decide +kernel
theorem dX5_goesOn_7 : decode cX5_goesOn 7 = .ok (.iconst 0, 1) := by decide +kernel
theorem dX5_goesOn_8 : decode cX5_goesOn 8 = .ok (.iaload, 1) := by decide +kernel
theorem dX5_goesOn_9 : decode cX5_goesOn 9 = .ok (.if_icmp .ge 22, 3) := by decide +kernel
theorem dX5_goesOn_12 : decode cX5_goesOn 12 = .ok (.aload_n 0, 1) := by decide +kernel
theorem dX5_goesOn_13 : decode cX5_goesOn 13 = .ok (.iload_n 1, 1) := by decide +kernel
theorem dX5_goesOn_14 : decode cX5_goesOn 14 = .ok (.invokevirtual 107, 3) := by decide +kernel
theorem dX5_goesOn_17 : decode cX5_goesOn 17 = .ok (.ifCond .eq 8, 3) := by decide +kernel
theorem dX5_goesOn_20 : decode cX5_goesOn 20 = .ok (.aload_n 0, 1) := by decide +kernel
theorem dX5_goesOn_21 : decode cX5_goesOn 21 = .ok (.iload_n 1, 1) := by decide +kernel
theorem dX5_goesOn_22 : decode cX5_goesOn 22 = .ok (.invokevirtual 140, 3) := by decide +kernel
theorem dX5_goesOn_25 : decode cX5_goesOn 25 = .ok (.iinc 1 1, 3) := by decide +kernel
theorem dX5_goesOn_28 : decode cX5_goesOn 28 = .ok (.goto (-26), 3) := by decide +kernel
theorem dX5_goesOn_31 : decode cX5_goesOn 31 = .ok (.iconst 0, 1) := by decide +kernel
theorem dX5_goesOn_32 : decode cX5_goesOn 32 = .ok (.istore_n 1, 1) := by decide +kernel
theorem dX5_goesOn_33 : decode cX5_goesOn 33 = .ok (.iload_n 1, 1) := by decide +kernel
theorem dX5_goesOn_34 : decode cX5_goesOn 34 = .ok (.aload_n 0, 1) := by decide +kernel
theorem dX5_goesOn_35 : decode cX5_goesOn 35 = .ok (.getfield 7, 3) := by decide +kernel
theorem dX5_goesOn_38 : decode cX5_goesOn 38 = .ok (.iconst 0, 1) := by decide +kernel
theorem dX5_goesOn_39 : decode cX5_goesOn 39 = .ok (.iaload, 1) := by decide +kernel
theorem dX5_goesOn_40 : decode cX5_goesOn 40 = .ok (.if_icmp .ge 42, 3) := by decide +kernel
theorem dX5_goesOn_43 : decode cX5_goesOn 43 = .ok (.aload_n 0, 1) := by decide +kernel
theorem dX5_goesOn_44 : decode cX5_goesOn 44 = .ok (.iload_n 1, 1) := by decide +kernel
theorem dX5_goesOn_45 : decode cX5_goesOn 45 = .ok (.invokevirtual 107, 3) := by decide +kernel
theorem dX5_goesOn_48 : decode cX5_goesOn 48 = .ok (.ifCond .eq 28, 3) := by decide +kernel
theorem dX5_goesOn_51 : decode cX5_goesOn 51 = .ok (.aload_n 0, 1) := by decide +kernel
theorem dX5_goesOn_52 : decode cX5_goesOn 52 = .ok (.iload_n 1, 1) := by decide +kernel
theorem dX5_goesOn_53 : decode cX5_goesOn 53 = .ok (.iconst 1, 1) := by decide +kernel
theorem dX5_goesOn_54 : decode cX5_goesOn 54 = .ok (.invokevirtual 47, 3) := by decide +kernel
theorem dX5_goesOn_57 : decode cX5_goesOn 57 = .ok (.bipush 120, 2) := by decide +kernel
theorem dX5_goesOn_59 : decode cX5_goesOn 59 = .ok (.if_icmp .ge 17, 3) := by decide +kernel
theorem dX5_goesOn_62 : decode cX5_goesOn 62 = .ok (.aload_n 0, 1) := by decide +kernel
theorem dX5_goesOn_63 : decode cX5_goesOn 63 = .ok (.iload_n 1, 1) := by decide +kernel
theorem dX5_goesOn_64 : decode cX5_goesOn 64 = .ok (.iconst 1, 1) := by decide +kernel
theorem dX5_goesOn_65 : decode cX5_goesOn 65 = .ok (.aload_n 0, 1) := by decide +kernel
theorem dX5_goesOn_66 : decode cX5_goesOn 66 = .ok (.iload_n 1, 1) := by decide +kernel
theorem dX5_goesOn_67 : decode cX5_goesOn 67 = .ok (.iconst 1, 1) := by decide +kernel
theorem dX5_goesOn_68 : decode cX5_goesOn 68 = .ok (.invokevirtual 47, 3) := by decide +kernel
theorem dX5_goesOn_71 : decode cX5_goesOn 71 = .ok (.iconst 1, 1) := by decide +kernel
theorem dX5_goesOn_72 : decode cX5_goesOn 72 = .ok (.iadd, 1) := by decide +kernel
theorem dX5_goesOn_73 : decode cX5_goesOn 73 = .ok (.invokevirtual 71, 3) := by decide +kernel
theorem dX5_goesOn_76 : decode cX5_goesOn 76 = .ok (.iinc 1 1, 3) := by decide +kernel
theorem dX5_goesOn_79 : decode cX5_goesOn 79 = .ok (.goto (-46), 3) := by decide +kernel
theorem dX5_goesOn_82 : decode cX5_goesOn 82 = .ok (.iconst 0, 1) := by decide +kernel
theorem dX5_goesOn_83 : decode cX5_goesOn 83 = .ok (.istore_n 1, 1) := by decide +kernel
theorem dX5_goesOn_84 : decode cX5_goesOn 84 = .ok (.iconst 0, 1) := by decide +kernel
theorem dX5_goesOn_85 : decode cX5_goesOn 85 = .ok (.istore_n 2, 1) := by decide +kernel
theorem dX5_goesOn_86 : decode cX5_goesOn 86 = .ok (.iload_n 2, 1) := by decide +kernel
theorem dX5_goesOn_87 : decode cX5_goesOn 87 = .ok (.aload_n 0, 1) := by decide +kernel
theorem dX5_goesOn_88 : decode cX5_goesOn 88 = .ok (.getfield 7, 3) := by decide +kernel
theorem dX5_goesOn_91 : decode cX5_goesOn 91 = .ok (.iconst 0, 1) := by decide +kernel
theorem dX5_goesOn_92 : decode cX5_goesOn 92 = .ok (.iaload, 1) := by decide +kernel
theorem dX5_goesOn_93 : decode cX5_goesOn 93 = .ok (.if_icmp .ge 63, 3) := by decide +kernel
theorem dX5_goesOn_96 : decode cX5_goesOn 96 = .ok (.aload_n 0, 1) := by decide +kernel
theorem dX5_goesOn_97 : decode cX5_goesOn 97 = .ok (.iload_n 2, 1) := by decide +kernel
theorem dX5_goesOn_98 : decode cX5_goesOn 98 = .ok (.invokevirtual 107, 3) := by decide +kernel
theorem dX5_goesOn_101 : decode cX5_goesOn 101 = .ok (.ifCond .eq 49, 3) := by decide +kernel
theorem dX5_goesOn_104 : decode cX5_goesOn 104 = .ok (.aload_n 0, 1) := by decide +kernel
theorem dX5_goesOn_105 : decode cX5_goesOn 105 = .ok (.iload_n 2, 1) := by decide +kernel
theorem dX5_goesOn_106 : decode cX5_goesOn 106 = .ok (.iconst 1, 1) := by decide +kernel
theorem dX5_goesOn_107 : decode cX5_goesOn 107 = .ok (.invokevirtual 47, 3) := by decide +kernel
theorem dX5_goesOn_110 : decode cX5_goesOn 110 = .ok (.aload_n 0, 1) := by decide +kernel
theorem dX5_goesOn_111 : decode cX5_goesOn 111 = .ok (.iload_n 2, 1) := by decide +kernel
theorem dX5_goesOn_112 : decode cX5_goesOn 112 = .ok (.iconst 3, 1) := by decide +kernel
theorem dX5_goesOn_113 : decode cX5_goesOn 113 = .ok (.invokevirtual 47, 3) := by decide +kernel
theorem dX5_goesOn_116 : decode cX5_goesOn 116 = .ok (.if_icmp .lt 34, 3) := by decide +kernel
theorem dX5_goesOn_119 : decode cX5_goesOn 119 = .ok (.aload_n 0, 1) := by decide +kernel
theorem dX5_goesOn_120 : decode cX5_goesOn 120 = .ok (.iload_n 2, 1) := by decide +kernel
theorem dX5_goesOn_121 : decode cX5_goesOn 121 = .ok (.invokevirtual 144, 3) := by decide +kernel
theorem dX5_goesOn_124 : decode cX5_goesOn 124 = .ok (.aload_n 0, 1) := by decide +kernel
theorem dX5_goesOn_125 : decode cX5_goesOn 125 = .ok (.iload_n 2, 1) := by decide +kernel
theorem dX5_goesOn_126 : decode cX5_goesOn 126 = .ok (.aload_n 0, 1) := by decide +kernel
theorem dX5_goesOn_127 : decode cX5_goesOn 127 = .ok (.getfield 38, 3) := by decide +kernel
theorem dX5_goesOn_130 : decode cX5_goesOn 130 = .ok (.if_icmp .ne 10, 3) := by decide +kernel
theorem dX5_goesOn_133 : decode cX5_goesOn 133 = .ok (.aload_n 0, 1) := by decide +kernel
theorem dX5_goesOn_134 : decode cX5_goesOn 134 = .ok (.getfield 133, 3) := by decide +kernel
theorem dX5_goesOn_137 : decode cX5_goesOn 137 = .ok (.goto 7, 3) := by decide +kernel
theorem dX5_goesOn_140 : decode cX5_goesOn 140 = .ok (.aload_n 0, 1) := by decide +kernel
theorem dX5_goesOn_141 : decode cX5_goesOn 141 = .ok (.getfield 147, 3) := by decide +kernel
theorem dX5_goesOn_144 : decode cX5_goesOn 144 = .ok (.putfield 147, 3) := by decide +kernel
theorem dX5_goesOn_147 : decode cX5_goesOn 147 = .ok (.iinc 1 1, 3) := by decide +kernel
theorem dX5_goesOn_150 : decode cX5_goesOn 150 = .ok (.iinc 2 1, 3) := by decide +kernel
theorem dX5_goesOn_153 : decode cX5_goesOn 153 = .ok (.goto (-67), 3) := by decide +kernel
theorem dX5_goesOn_156 : decode cX5_goesOn 156 = .ok (.aload_n 0, 1) := by decide +kernel
theorem dX5_goesOn_157 : decode cX5_goesOn 157 = .ok (.getfield 7, 3) := by decide +kernel
theorem dX5_goesOn_160 : decode cX5_goesOn 160 = .ok (.iconst 1, 1) := by decide +kernel
theorem dX5_goesOn_161 : decode cX5_goesOn 161 = .ok (.dup2, 1) := by decide +kernel
theorem dX5_goesOn_162 : decode cX5_goesOn 162 = .ok (.iaload, 1) := by decide +kernel
theorem dX5_goesOn_163 : decode cX5_goesOn 163 = .ok (.iconst 1, 1) := by decide +kernel
theorem dX5_goesOn_164 : decode cX5_goesOn 164 = .ok (.iadd, 1) := by decide +kernel
theorem dX5_goesOn_165 : decode cX5_goesOn 165 = .ok (.iastore, 1) := by decide +kernel
theorem dX5_goesOn_166 : decode cX5_goesOn 166 = .ok (.iload_n 1, 1) := by decide +kernel
theorem dX5_goesOn_167 : decode cX5_goesOn 167 = .ok (.ireturn, 1) := by decide +kernel
theorem dX5_goesOnMany_0 : decode cX5_goesOnMany 0 = .ok (.iconst 0, 1) := by decide +kernel
theorem dX5_goesOnMany_1 : decode cX5_goesOnMany 1 = .ok (.istore_n 2, 1) := by decide +kernel
theorem dX5_goesOnMany_2 : decode cX5_goesOnMany 2 = .ok (.iconst 0, 1) := by decide +kernel
theorem dX5_goesOnMany_3 : decode cX5_goesOnMany 3 = .ok (.istore_n 3, 1) := by decide +kernel
theorem dX5_goesOnMany_4 : decode cX5_goesOnMany 4 = .ok (.iload_n 3, 1) := by decide +kernel
theorem dX5_goesOnMany_5 : decode cX5_goesOnMany 5 = .ok (.iload_n 1, 1) := by decide +kernel
theorem dX5_goesOnMany_6 : decode cX5_goesOnMany 6 = .ok (.if_icmp .ge 16, 3) := by decide +kernel
theorem dX5_goesOnMany_9 : decode cX5_goesOnMany 9 = .ok (.iload_n 2, 1) := by decide +kernel
theorem dX5_goesOnMany_10 : decode cX5_goesOnMany 10 = .ok (.aload_n 0, 1) := by decide +kernel
theorem dX5_goesOnMany_11 : decode cX5_goesOnMany 11 = .ok (.invokevirtual 150, 3) := by decide +kernel
theorem dX5_goesOnMany_14 : decode cX5_goesOnMany 14 = .ok (.iadd, 1) := by decide +kernel
theorem dX5_goesOnMany_15 : decode cX5_goesOnMany 15 = .ok (.istore_n 2, 1) := by decide +kernel
theorem dX5_goesOnMany_16 : decode cX5_goesOnMany 16 = .ok (.iinc 3 1, 3) := by decide +kernel
theorem dX5_goesOnMany_19 : decode cX5_goesOnMany 19 = .ok (.goto (-15), 3) := by decide +kernel
theorem dX5_goesOnMany_22 : decode cX5_goesOnMany 22 = .ok (.iload_n 2, 1) := by decide +kernel
theorem dX5_goesOnMany_23 : decode cX5_goesOnMany 23 = .ok (.ireturn, 1) := by decide +kernel
theorem dX5_years_0 : decode cX5_years 0 = .ok (.iload_n 1, 1) := by decide +kernel
theorem dX5_years_1 : decode cX5_years 1 = .ok (.i2l, 1) := by decide +kernel
theorem dX5_years_2 : decode cX5_years 2 = .ok (.lconst 1, 1) := by decide +kernel
theorem dX5_years_3 : decode cX5_years 3 = .ok (.ldc2_w 154, 3) := by decide +kernel
theorem dX5_years_6 : decode cX5_years 6 = .ok (.invokestatic 54, 3) := by decide +kernel
theorem dX5_years_9 : decode cX5_years 9 = .ok (.ifCond .ne 10, 3) := by decide +kernel
theorem dX5_years_12 : decode cX5_years 12 = .ok (.aload_n 0, 1) := by decide +kernel
theorem dX5_years_13 : decode cX5_years 13 = .ok (.ldc 42, 2) := by decide +kernel
theorem dX5_years_15 : decode cX5_years 15 = .ok (.invokevirtual 62, 3) := by decide +kernel
theorem dX5_years_18 : decode cX5_years 18 = .ok (.ireturn, 1) := by decide +kernel
theorem dX5_years_19 : decode cX5_years 19 = .ok (.aload_n 0, 1) := by decide +kernel
theorem dX5_years_20 : decode cX5_years 20 = .ok (.iload_n 1, 1) := by decide +kernel
theorem dX5_years_21 : decode cX5_years 21 = .ok (.invokevirtual 156, 3) := by decide +kernel
theorem dX5_years_24 : decode cX5_years 24 = .ok (.ifCond .eq 12, 3) := by decide +kernel
theorem dX5_years_27 : decode cX5_years 27 = .ok (.aload_n 0, 1) := by decide +kernel
theorem dX5_years_28 : decode cX5_years 28 = .ok (.ldc 159, 2) := by decide +kernel
theorem dX5_years_30 : decode cX5_years 30 = .ok (.invokevirtual 62, 3) := by decide +kernel
theorem dX5_years_33 : decode cX5_years 33 = .ok (.goto 8, 3) := by decide +kernel
theorem dX5_years_36 : decode cX5_years 36 = .ok (.aload_n 0, 1) := by decide +kernel
theorem dX5_years_37 : decode cX5_years 37 = .ok (.iload_n 1, 1) := by decide +kernel
theorem dX5_years_38 : decode cX5_years 38 = .ok (.invokevirtual 160, 3) := by decide +kernel
theorem dX5_years_41 : decode cX5_years 41 = .ok (.ireturn, 1) := by decide +kernel
theorem dX5_dies_0 : decode cX5_dies 0 = .ok (.aload_n 0, 1) := by decide +kernel
theorem dX5_dies_1 : decode cX5_dies 1 = .ok (.iload_n 1, 1) := by decide +kernel
theorem dX5_dies_2 : decode cX5_dies 2 = .ok (.invokevirtual 43, 3) := by decide +kernel
theorem dX5_dies_5 : decode cX5_dies 5 = .ok (.ifCond .ne 10, 3) := by decide +kernel
theorem dX5_dies_8 : decode cX5_dies 8 = .ok (.aload_n 0, 1) := by decide +kernel
theorem dX5_dies_9 : decode cX5_dies 9 = .ok (.ldc 42, 2) := by decide +kernel
theorem dX5_dies_11 : decode cX5_dies 11 = .ok (.invokevirtual 62, 3) := by decide +kernel
theorem dX5_dies_14 : decode cX5_dies 14 = .ok (.ireturn, 1) := by decide +kernel
theorem dX5_dies_15 : decode cX5_dies 15 = .ok (.aload_n 0, 1) := by decide +kernel
theorem dX5_dies_16 : decode cX5_dies 16 = .ok (.iload_n 1, 1) := by decide +kernel
theorem dX5_dies_17 : decode cX5_dies 17 = .ok (.invokevirtual 107, 3) := by decide +kernel
theorem dX5_dies_20 : decode cX5_dies 20 = .ok (.ifCond .ne 10, 3) := by decide +kernel
theorem dX5_dies_23 : decode cX5_dies 23 = .ok (.aload_n 0, 1) := by decide +kernel
theorem dX5_dies_24 : decode cX5_dies 24 = .ok (.ldc 159, 2) := by decide +kernel
theorem dX5_dies_26 : decode cX5_dies 26 = .ok (.invokevirtual 62, 3) := by decide +kernel
theorem dX5_dies_29 : decode cX5_dies 29 = .ok (.ireturn, 1) := by decide +kernel
theorem dX5_dies_30 : decode cX5_dies 30 = .ok (.aload_n 0, 1) := by decide +kernel
theorem dX5_dies_31 : decode cX5_dies 31 = .ok (.iload_n 1, 1) := by decide +kernel
theorem dX5_dies_32 : decode cX5_dies 32 = .ok (.invokevirtual 144, 3) := by decide +kernel
theorem dX5_dies_35 : decode cX5_dies 35 = .ok (.aload_n 0, 1) := by decide +kernel
theorem dX5_dies_36 : decode cX5_dies 36 = .ok (.getfield 133, 3) := by decide +kernel
theorem dX5_dies_39 : decode cX5_dies 39 = .ok (.ireturn, 1) := by decide +kernel
theorem dX5_livingSet_0 : decode cX5_livingSet 0 = .ok (.iconst 0, 1) := by decide +kernel
theorem dX5_livingSet_1 : decode cX5_livingSet 1 = .ok (.istore_n 1, 1) := by decide +kernel
theorem dX5_livingSet_2 : decode cX5_livingSet 2 = .ok (.iconst 0, 1) := by decide +kernel
theorem dX5_livingSet_3 : decode cX5_livingSet 3 = .ok (.istore_n 2, 1) := by decide +kernel
theorem dX5_livingSet_4 : decode cX5_livingSet 4 = .ok (.iload_n 2, 1) := by decide +kernel
theorem dX5_livingSet_5 : decode cX5_livingSet 5 = .ok (.aload_n 0, 1) := by decide +kernel
theorem dX5_livingSet_6 : decode cX5_livingSet 6 = .ok (.getfield 7, 3) := by decide +kernel
theorem dX5_livingSet_9 : decode cX5_livingSet 9 = .ok (.iconst 0, 1) := by decide +kernel
theorem dX5_livingSet_10 : decode cX5_livingSet 10 = .ok (.iaload, 1) := by decide +kernel
theorem dX5_livingSet_11 : decode cX5_livingSet 11 = .ok (.if_icmp .ge 20, 3) := by decide +kernel
theorem dX5_livingSet_14 : decode cX5_livingSet 14 = .ok (.iload_n 1, 1) := by decide +kernel
theorem dX5_livingSet_15 : decode cX5_livingSet 15 = .ok (.aload_n 0, 1) := by decide +kernel
theorem dX5_livingSet_16 : decode cX5_livingSet 16 = .ok (.iload_n 2, 1) := by decide +kernel
theorem dX5_livingSet_17 : decode cX5_livingSet 17 = .ok (.iconst 5, 1) := by decide +kernel
theorem dX5_livingSet_18 : decode cX5_livingSet 18 = .ok (.invokevirtual 47, 3) := by decide +kernel
theorem dX5_livingSet_21 : decode cX5_livingSet 21 = .ok (.iload_n 2, 1) := by decide +kernel
theorem dX5_livingSet_22 : decode cX5_livingSet 22 = .ok (.ishl, 1) := by decide +kernel
theorem dX5_livingSet_23 : decode cX5_livingSet 23 = .ok (.ior, 1) := by decide +kernel
theorem dX5_livingSet_24 : decode cX5_livingSet 24 = .ok (.istore_n 1, 1) := by decide +kernel
theorem dX5_livingSet_25 : decode cX5_livingSet 25 = .ok (.iinc 2 1, 3) := by decide +kernel
theorem dX5_livingSet_28 : decode cX5_livingSet 28 = .ok (.goto (-24), 3) := by decide +kernel
theorem dX5_livingSet_31 : decode cX5_livingSet 31 = .ok (.iload_n 1, 1) := by decide +kernel
theorem dX5_livingSet_32 : decode cX5_livingSet 32 = .ok (.ireturn, 1) := by decide +kernel
theorem dX5_allOf_0 : decode cX5_allOf 0 = .ok (.iconst 0, 1) := by decide +kernel
theorem dX5_allOf_1 : decode cX5_allOf 1 = .ok (.istore_n 2, 1) := by decide +kernel
theorem dX5_allOf_2 : decode cX5_allOf 2 = .ok (.iconst 0, 1) := by decide +kernel
theorem dX5_allOf_3 : decode cX5_allOf 3 = .ok (.istore_n 3, 1) := by decide +kernel
theorem dX5_allOf_4 : decode cX5_allOf 4 = .ok (.iload_n 3, 1) := by decide +kernel
theorem dX5_allOf_5 : decode cX5_allOf 5 = .ok (.aload_n 0, 1) := by decide +kernel
theorem dX5_allOf_6 : decode cX5_allOf 6 = .ok (.getfield 7, 3) := by decide +kernel
theorem dX5_allOf_9 : decode cX5_allOf 9 = .ok (.iconst 0, 1) := by decide +kernel
theorem dX5_allOf_10 : decode cX5_allOf 10 = .ok (.iaload, 1) := by decide +kernel
theorem dX5_allOf_11 : decode cX5_allOf 11 = .ok (.if_icmp .ge 30, 3) := by decide +kernel
theorem dX5_allOf_14 : decode cX5_allOf 14 = .ok (.iload_n 2, 1) := by decide +kernel
theorem dX5_allOf_15 : decode cX5_allOf 15 = .ok (.aload_n 0, 1) := by decide +kernel
theorem dX5_allOf_16 : decode cX5_allOf 16 = .ok (.iload_n 3, 1) := by decide +kernel
theorem dX5_allOf_17 : decode cX5_allOf 17 = .ok (.invokevirtual 107, 3) := by decide +kernel
theorem dX5_allOf_20 : decode cX5_allOf 20 = .ok (.ifCond .eq 12, 3) := by decide +kernel
theorem dX5_allOf_23 : decode cX5_allOf 23 = .ok (.aload_n 0, 1) := by decide +kernel
theorem dX5_allOf_24 : decode cX5_allOf 24 = .ok (.iload_n 3, 1) := by decide +kernel
theorem dX5_allOf_25 : decode cX5_allOf 25 = .ok (.iload_n 1, 1) := by decide +kernel
theorem dX5_allOf_26 : decode cX5_allOf 26 = .ok (.invokevirtual 47, 3) := by decide +kernel
theorem dX5_allOf_29 : decode cX5_allOf 29 = .ok (.goto 4, 3) := by decide +kernel
theorem dX5_allOf_32 : decode cX5_allOf 32 = .ok (.iconst 0, 1) := by decide +kernel
theorem dX5_allOf_33 : decode cX5_allOf 33 = .ok (.iadd, 1) := by decide +kernel
theorem dX5_allOf_34 : decode cX5_allOf 34 = .ok (.istore_n 2, 1) := by decide +kernel
theorem dX5_allOf_35 : decode cX5_allOf 35 = .ok (.iinc 3 1, 3) := by decide +kernel
theorem dX5_allOf_38 : decode cX5_allOf 38 = .ok (.goto (-34), 3) := by decide +kernel
theorem dX5_allOf_41 : decode cX5_allOf 41 = .ok (.iload_n 2, 1) := by decide +kernel
theorem dX5_allOf_42 : decode cX5_allOf 42 = .ok (.ireturn, 1) := by decide +kernel
theorem dX5_now_0 : decode cX5_now 0 = .ok (.iload_n 1, 1) := by decide +kernel
theorem dX5_now_1 : decode cX5_now 1 = .ok (.tableswitch 57 0 3 #[31, 38, 45, 51], 31) := by decide +kernel
theorem dX5_now_32 : decode cX5_now 32 = .ok (.aload_n 0, 1) := by decide +kernel
theorem dX5_now_33 : decode cX5_now 33 = .ok (.getfield 7, 3) := by decide +kernel
theorem dX5_now_36 : decode cX5_now 36 = .ok (.iconst 1, 1) := by decide +kernel
theorem dX5_now_37 : decode cX5_now 37 = .ok (.iaload, 1) := by decide +kernel
theorem dX5_now_38 : decode cX5_now 38 = .ok (.ireturn, 1) := by decide +kernel
theorem dX5_now_39 : decode cX5_now 39 = .ok (.aload_n 0, 1) := by decide +kernel
theorem dX5_now_40 : decode cX5_now 40 = .ok (.getfield 7, 3) := by decide +kernel
theorem dX5_now_43 : decode cX5_now 43 = .ok (.iconst 2, 1) := by decide +kernel
theorem dX5_now_44 : decode cX5_now 44 = .ok (.iaload, 1) := by decide +kernel
theorem dX5_now_45 : decode cX5_now 45 = .ok (.ireturn, 1) := by decide +kernel
theorem dX5_now_46 : decode cX5_now 46 = .ok (.aload_n 0, 1) := by decide +kernel
theorem dX5_now_47 : decode cX5_now 47 = .ok (.iconst 5, 1) := by decide +kernel
theorem dX5_now_48 : decode cX5_now 48 = .ok (.invokevirtual 163, 3) := by decide +kernel
theorem dX5_now_51 : decode cX5_now 51 = .ok (.ireturn, 1) := by decide +kernel
theorem dX5_now_52 : decode cX5_now 52 = .ok (.aload_n 0, 1) := by decide +kernel
theorem dX5_now_53 : decode cX5_now 53 = .ok (.iconst 2, 1) := by decide +kernel
theorem dX5_now_54 : decode cX5_now 54 = .ok (.invokevirtual 163, 3) := by decide +kernel
theorem dX5_now_57 : decode cX5_now 57 = .ok (.ireturn, 1) := by decide +kernel
theorem dX5_now_58 : decode cX5_now 58 = .ok (.aload_n 0, 1) := by decide +kernel
theorem dX5_now_59 : decode cX5_now 59 = .ok (.ldc 42, 2) := by decide +kernel
theorem dX5_now_61 : decode cX5_now 61 = .ok (.invokevirtual 62, 3) := by decide +kernel
theorem dX5_now_64 : decode cX5_now 64 = .ok (.ireturn, 1) := by decide +kernel
theorem dX5_laysBy_0 : decode cX5_laysBy 0 = .ok (.aload_n 0, 1) := by decide +kernel
theorem dX5_laysBy_1 : decode cX5_laysBy 1 = .ok (.getfield 7, 3) := by decide +kernel
theorem dX5_laysBy_4 : decode cX5_laysBy 4 = .ok (.aload_n 0, 1) := by decide +kernel
theorem dX5_laysBy_5 : decode cX5_laysBy 5 = .ok (.getfield 16, 3) := by decide +kernel
theorem dX5_laysBy_8 : decode cX5_laysBy 8 = .ok (.invokestatic 166, 3) := by decide +kernel
theorem dX5_laysBy_11 : decode cX5_laysBy 11 = .ok (.return_, 1) := by decide +kernel
theorem dX5_laysBack_0 : decode cX5_laysBack 0 = .ok (.aload_n 0, 1) := by decide +kernel
theorem dX5_laysBack_1 : decode cX5_laysBack 1 = .ok (.getfield 16, 3) := by decide +kernel
theorem dX5_laysBack_4 : decode cX5_laysBack 4 = .ok (.aload_n 0, 1) := by decide +kernel
theorem dX5_laysBack_5 : decode cX5_laysBack 5 = .ok (.getfield 7, 3) := by decide +kernel
theorem dX5_laysBack_8 : decode cX5_laysBack 8 = .ok (.invokestatic 166, 3) := by decide +kernel
theorem dX5_laysBack_11 : decode cX5_laysBack 11 = .ok (.return_, 1) := by decide +kernel
theorem dX5_barsOn_0 : decode cX5_barsOn 0 = .ok (.iload_n 1, 1) := by decide +kernel
theorem dX5_barsOn_1 : decode cX5_barsOn 1 = .ok (.i2l, 1) := by decide +kernel
theorem dX5_barsOn_2 : decode cX5_barsOn 2 = .ok (.lconst 0, 1) := by decide +kernel
theorem dX5_barsOn_3 : decode cX5_barsOn 3 = .ok (.ldc2_w 154, 3) := by decide +kernel
theorem dX5_barsOn_6 : decode cX5_barsOn 6 = .ok (.invokestatic 54, 3) := by decide +kernel
theorem dX5_barsOn_9 : decode cX5_barsOn 9 = .ok (.ifCond .ne 8, 3) := by decide +kernel
theorem dX5_barsOn_12 : decode cX5_barsOn 12 = .ok (.ldc 42, 2) := by decide +kernel
theorem dX5_barsOn_14 : decode cX5_barsOn 14 = .ok (.goto 17, 3) := by decide +kernel
theorem dX5_barsOn_17 : decode cX5_barsOn 17 = .ok (.aload_n 0, 1) := by decide +kernel
theorem dX5_barsOn_18 : decode cX5_barsOn 18 = .ok (.iload_n 1, 1) := by decide +kernel
theorem dX5_barsOn_19 : decode cX5_barsOn 19 = .ok (.invokevirtual 156, 3) := by decide +kernel
theorem dX5_barsOn_22 : decode cX5_barsOn 22 = .ok (.ifCond .eq 8, 3) := by decide +kernel
theorem dX5_barsOn_25 : decode cX5_barsOn 25 = .ok (.ldc 159, 2) := by decide +kernel
theorem dX5_barsOn_27 : decode cX5_barsOn 27 = .ok (.goto 4, 3) := by decide +kernel
theorem dX5_barsOn_30 : decode cX5_barsOn 30 = .ok (.iconst 0, 1) := by decide +kernel
theorem dX5_barsOn_31 : decode cX5_barsOn 31 = .ok (.ireturn, 1) := by decide +kernel
theorem dX5_on_0 : decode cX5_on 0 = .ok (.aload_n 0, 1) := by decide +kernel
theorem dX5_on_1 : decode cX5_on 1 = .ok (.iload_n 1, 1) := by decide +kernel
theorem dX5_on_2 : decode cX5_on 2 = .ok (.invokevirtual 43, 3) := by decide +kernel
theorem dX5_on_5 : decode cX5_on 5 = .ok (.ifCond .eq 11, 3) := by decide +kernel
theorem dX5_on_8 : decode cX5_on 8 = .ok (.aload_n 0, 1) := by decide +kernel
theorem dX5_on_9 : decode cX5_on 9 = .ok (.iload_n 2, 1) := by decide +kernel
theorem dX5_on_10 : decode cX5_on 10 = .ok (.invokevirtual 170, 3) := by decide +kernel
theorem dX5_on_13 : decode cX5_on 13 = .ok (.goto 5, 3) := by decide +kernel
theorem dX5_on_16 : decode cX5_on 16 = .ok (.ldc 42, 2) := by decide +kernel
theorem dX5_on_18 : decode cX5_on 18 = .ok (.istore_n 3, 1) := by decide +kernel
theorem dX5_on_19 : decode cX5_on 19 = .ok (.iload_n 3, 1) := by decide +kernel
theorem dX5_on_20 : decode cX5_on 20 = .ok (.ifCond .eq 9, 3) := by decide +kernel
theorem dX5_on_23 : decode cX5_on 23 = .ok (.aload_n 0, 1) := by decide +kernel
theorem dX5_on_24 : decode cX5_on 24 = .ok (.iload_n 3, 1) := by decide +kernel
theorem dX5_on_25 : decode cX5_on 25 = .ok (.invokevirtual 62, 3) := by decide +kernel
theorem dX5_on_28 : decode cX5_on 28 = .ok (.ireturn, 1) := by decide +kernel
theorem dX5_on_29 : decode cX5_on 29 = .ok (.aload_n 0, 1) := by decide +kernel
theorem dX5_on_30 : decode cX5_on 30 = .ok (.invokevirtual 173, 3) := by decide +kernel
theorem dX5_on_33 : decode cX5_on 33 = .ok (.aload_n 0, 1) := by decide +kernel
theorem dX5_on_34 : decode cX5_on 34 = .ok (.iload_n 2, 1) := by decide +kernel
theorem dX5_on_35 : decode cX5_on 35 = .ok (.invokevirtual 160, 3) := by decide +kernel
theorem dX5_on_38 : decode cX5_on 38 = .ok (.istore 4, 2) := by decide +kernel
theorem dX5_on_40 : decode cX5_on 40 = .ok (.aload_n 0, 1) := by decide +kernel
theorem dX5_on_41 : decode cX5_on 41 = .ok (.iload_n 1, 1) := by decide +kernel
theorem dX5_on_42 : decode cX5_on 42 = .ok (.iconst 2, 1) := by decide +kernel
theorem dX5_on_43 : decode cX5_on 43 = .ok (.invokevirtual 47, 3) := by decide +kernel
theorem dX5_on_46 : decode cX5_on 46 = .ok (.istore 5, 2) := by decide +kernel
theorem dX5_on_48 : decode cX5_on 48 = .ok (.aload_n 0, 1) := by decide +kernel
theorem dX5_on_49 : decode cX5_on 49 = .ok (.invokevirtual 176, 3) := by decide +kernel
theorem dX5_on_52 : decode cX5_on 52 = .ok (.iload 5, 2) := by decide +kernel
theorem dX5_on_54 : decode cX5_on 54 = .ok (.ireturn, 1) := by decide +kernel
theorem dX5_living_0 : decode cX5_living 0 = .ok (.aload_n 0, 1) := by decide +kernel
theorem dX5_living_1 : decode cX5_living 1 = .ok (.iload_n 1, 1) := by decide +kernel
theorem dX5_living_2 : decode cX5_living 2 = .ok (.invokevirtual 170, 3) := by decide +kernel
theorem dX5_living_5 : decode cX5_living 5 = .ok (.ifCond .eq 13, 3) := by decide +kernel
theorem dX5_living_8 : decode cX5_living 8 = .ok (.aload_n 0, 1) := by decide +kernel
theorem dX5_living_9 : decode cX5_living 9 = .ok (.aload_n 0, 1) := by decide +kernel
theorem dX5_living_10 : decode cX5_living 10 = .ok (.iload_n 1, 1) := by decide +kernel
theorem dX5_living_11 : decode cX5_living 11 = .ok (.invokevirtual 170, 3) := by decide +kernel
theorem dX5_living_14 : decode cX5_living 14 = .ok (.invokevirtual 62, 3) := by decide +kernel
theorem dX5_living_17 : decode cX5_living 17 = .ok (.ireturn, 1) := by decide +kernel
theorem dX5_living_18 : decode cX5_living 18 = .ok (.aload_n 0, 1) := by decide +kernel
theorem dX5_living_19 : decode cX5_living 19 = .ok (.invokevirtual 173, 3) := by decide +kernel
theorem dX5_living_22 : decode cX5_living 22 = .ok (.aload_n 0, 1) := by decide +kernel
theorem dX5_living_23 : decode cX5_living 23 = .ok (.iload_n 1, 1) := by decide +kernel
theorem dX5_living_24 : decode cX5_living 24 = .ok (.invokevirtual 160, 3) := by decide +kernel
theorem dX5_living_27 : decode cX5_living 27 = .ok (.istore_n 2, 1) := by decide +kernel
theorem dX5_living_28 : decode cX5_living 28 = .ok (.aload_n 0, 1) := by decide +kernel
theorem dX5_living_29 : decode cX5_living 29 = .ok (.invokevirtual 179, 3) := by decide +kernel
theorem dX5_living_32 : decode cX5_living 32 = .ok (.istore_n 3, 1) := by decide +kernel
theorem dX5_living_33 : decode cX5_living 33 = .ok (.aload_n 0, 1) := by decide +kernel
theorem dX5_living_34 : decode cX5_living 34 = .ok (.invokevirtual 176, 3) := by decide +kernel
theorem dX5_living_37 : decode cX5_living 37 = .ok (.iload_n 3, 1) := by decide +kernel
theorem dX5_living_38 : decode cX5_living 38 = .ok (.ireturn, 1) := by decide +kernel
theorem dX5_rich_0 : decode cX5_rich 0 = .ok (.aload_n 0, 1) := by decide +kernel
theorem dX5_rich_1 : decode cX5_rich 1 = .ok (.iload_n 1, 1) := by decide +kernel
theorem dX5_rich_2 : decode cX5_rich 2 = .ok (.invokevirtual 170, 3) := by decide +kernel
theorem dX5_rich_5 : decode cX5_rich 5 = .ok (.ifCond .eq 13, 3) := by decide +kernel
theorem dX5_rich_8 : decode cX5_rich 8 = .ok (.aload_n 0, 1) := by decide +kernel
theorem dX5_rich_9 : decode cX5_rich 9 = .ok (.aload_n 0, 1) := by decide +kernel
theorem dX5_rich_10 : decode cX5_rich 10 = .ok (.iload_n 1, 1) := by decide +kernel
theorem dX5_rich_11 : decode cX5_rich 11 = .ok (.invokevirtual 170, 3) := by decide +kernel
theorem dX5_rich_14 : decode cX5_rich 14 = .ok (.invokevirtual 62, 3) := by decide +kernel
theorem dX5_rich_17 : decode cX5_rich 17 = .ok (.ireturn, 1) := by decide +kernel
theorem dX5_rich_18 : decode cX5_rich 18 = .ok (.aload_n 0, 1) := by decide +kernel
theorem dX5_rich_19 : decode cX5_rich 19 = .ok (.invokevirtual 173, 3) := by decide +kernel
theorem dX5_rich_22 : decode cX5_rich 22 = .ok (.aload_n 0, 1) := by decide +kernel
theorem dX5_rich_23 : decode cX5_rich 23 = .ok (.iload_n 1, 1) := by decide +kernel
theorem dX5_rich_24 : decode cX5_rich 24 = .ok (.invokevirtual 160, 3) := by decide +kernel
theorem dX5_rich_27 : decode cX5_rich 27 = .ok (.istore_n 2, 1) := by decide +kernel
theorem dX5_rich_28 : decode cX5_rich 28 = .ok (.aload_n 0, 1) := by decide +kernel
theorem dX5_rich_29 : decode cX5_rich 29 = .ok (.iconst (-1), 1) := by decide +kernel
theorem dX5_rich_30 : decode cX5_rich 30 = .ok (.invokevirtual 120, 3) := by decide +kernel
theorem dX5_rich_33 : decode cX5_rich 33 = .ok (.istore_n 3, 1) := by decide +kernel
theorem dX5_rich_34 : decode cX5_rich 34 = .ok (.aload_n 0, 1) := by decide +kernel
theorem dX5_rich_35 : decode cX5_rich 35 = .ok (.invokevirtual 176, 3) := by decide +kernel
theorem dX5_rich_38 : decode cX5_rich 38 = .ok (.iload_n 3, 1) := by decide +kernel
theorem dX5_rich_39 : decode cX5_rich 39 = .ok (.ifCond .ge 12, 3) := by decide +kernel
theorem dX5_rich_42 : decode cX5_rich 42 = .ok (.aload_n 0, 1) := by decide +kernel
theorem dX5_rich_43 : decode cX5_rich 43 = .ok (.ldc 116, 2) := by decide +kernel
theorem dX5_rich_45 : decode cX5_rich 45 = .ok (.invokevirtual 62, 3) := by decide +kernel
theorem dX5_rich_48 : decode cX5_rich 48 = .ok (.goto 4, 3) := by decide +kernel
theorem dX5_rich_51 : decode cX5_rich 51 = .ok (.iload_n 3, 1) := by decide +kernel
theorem dX5_rich_52 : decode cX5_rich 52 = .ok (.ireturn, 1) := by decide +kernel
theorem dX5_when_0 : decode cX5_when 0 = .ok (.aload_n 0, 1) := by decide +kernel
theorem dX5_when_1 : decode cX5_when 1 = .ok (.iload_n 1, 1) := by decide +kernel
theorem dX5_when_2 : decode cX5_when 2 = .ok (.invokevirtual 43, 3) := by decide +kernel
theorem dX5_when_5 : decode cX5_when 5 = .ok (.ifCond .ne 10, 3) := by decide +kernel
theorem dX5_when_8 : decode cX5_when 8 = .ok (.aload_n 0, 1) := by decide +kernel
theorem dX5_when_9 : decode cX5_when 9 = .ok (.ldc 42, 2) := by decide +kernel
theorem dX5_when_11 : decode cX5_when 11 = .ok (.invokevirtual 62, 3) := by decide +kernel
theorem dX5_when_14 : decode cX5_when 14 = .ok (.ireturn, 1) := by decide +kernel
theorem dX5_when_15 : decode cX5_when 15 = .ok (.aload_n 0, 1) := by decide +kernel
theorem dX5_when_16 : decode cX5_when 16 = .ok (.bipush 100, 2) := by decide +kernel
theorem dX5_when_18 : decode cX5_when 18 = .ok (.invokevirtual 156, 3) := by decide +kernel
theorem dX5_when_21 : decode cX5_when 21 = .ok (.ifCond .eq 10, 3) := by decide +kernel
theorem dX5_when_24 : decode cX5_when 24 = .ok (.aload_n 0, 1) := by decide +kernel
theorem dX5_when_25 : decode cX5_when 25 = .ok (.ldc 159, 2) := by decide +kernel
theorem dX5_when_27 : decode cX5_when 27 = .ok (.invokevirtual 62, 3) := by decide +kernel
theorem dX5_when_30 : decode cX5_when 30 = .ok (.ireturn, 1) := by decide +kernel
theorem dX5_when_31 : decode cX5_when 31 = .ok (.aload_n 0, 1) := by decide +kernel
theorem dX5_when_32 : decode cX5_when 32 = .ok (.invokevirtual 173, 3) := by decide +kernel
theorem dX5_when_35 : decode cX5_when 35 = .ok (.aload_n 0, 1) := by decide +kernel
theorem dX5_when_36 : decode cX5_when 36 = .ok (.iload_n 1, 1) := by decide +kernel
theorem dX5_when_37 : decode cX5_when 37 = .ok (.invokevirtual 107, 3) := by decide +kernel
theorem dX5_when_40 : decode cX5_when 40 = .ok (.ifCond .eq 7, 3) := by decide +kernel
theorem dX5_when_43 : decode cX5_when 43 = .ok (.iconst (-1), 1) := by decide +kernel
theorem dX5_when_44 : decode cX5_when 44 = .ok (.goto 4, 3) := by decide +kernel
theorem dX5_when_47 : decode cX5_when 47 = .ok (.iconst 0, 1) := by decide +kernel
theorem dX5_when_48 : decode cX5_when 48 = .ok (.istore_n 2, 1) := by decide +kernel
theorem dX5_when_49 : decode cX5_when 49 = .ok (.iconst 1, 1) := by decide +kernel
theorem dX5_when_50 : decode cX5_when 50 = .ok (.istore_n 3, 1) := by decide +kernel
theorem dX5_when_51 : decode cX5_when 51 = .ok (.iload_n 3, 1) := by decide +kernel
theorem dX5_when_52 : decode cX5_when 52 = .ok (.bipush 100, 2) := by decide +kernel
theorem dX5_when_54 : decode cX5_when 54 = .ok (.if_icmp .gt 33, 3) := by decide +kernel
theorem dX5_when_57 : decode cX5_when 57 = .ok (.iload_n 2, 1) := by decide +kernel
theorem dX5_when_58 : decode cX5_when 58 = .ok (.ifCond .ge 29, 3) := by decide +kernel
theorem dX5_when_61 : decode cX5_when 61 = .ok (.aload_n 0, 1) := by decide +kernel
theorem dX5_when_62 : decode cX5_when 62 = .ok (.invokevirtual 150, 3) := by decide +kernel
theorem dX5_when_65 : decode cX5_when 65 = .ok (.istore 4, 2) := by decide +kernel
theorem dX5_when_67 : decode cX5_when 67 = .ok (.aload_n 0, 1) := by decide +kernel
theorem dX5_when_68 : decode cX5_when 68 = .ok (.iload_n 1, 1) := by decide +kernel
theorem dX5_when_69 : decode cX5_when 69 = .ok (.invokevirtual 107, 3) := by decide +kernel
theorem dX5_when_72 : decode cX5_when 72 = .ok (.ifCond .eq 7, 3) := by decide +kernel
theorem dX5_when_75 : decode cX5_when 75 = .ok (.iconst (-1), 1) := by decide +kernel
theorem dX5_when_76 : decode cX5_when 76 = .ok (.goto 4, 3) := by decide +kernel
theorem dX5_when_79 : decode cX5_when 79 = .ok (.iload_n 3, 1) := by decide +kernel
theorem dX5_when_80 : decode cX5_when 80 = .ok (.istore_n 2, 1) := by decide +kernel
theorem dX5_when_81 : decode cX5_when 81 = .ok (.iinc 3 1, 3) := by decide +kernel
theorem dX5_when_84 : decode cX5_when 84 = .ok (.goto (-33), 3) := by decide +kernel
theorem dX5_when_87 : decode cX5_when 87 = .ok (.aload_n 0, 1) := by decide +kernel
theorem dX5_when_88 : decode cX5_when 88 = .ok (.invokevirtual 176, 3) := by decide +kernel
theorem dX5_when_91 : decode cX5_when 91 = .ok (.iload_n 2, 1) := by decide +kernel
theorem dX5_when_92 : decode cX5_when 92 = .ok (.ifCond .ge 12, 3) := by decide +kernel
theorem dX5_when_95 : decode cX5_when 95 = .ok (.aload_n 0, 1) := by decide +kernel
theorem dX5_when_96 : decode cX5_when 96 = .ok (.ldc 116, 2) := by decide +kernel
theorem dX5_when_98 : decode cX5_when 98 = .ok (.invokevirtual 62, 3) := by decide +kernel
theorem dX5_when_101 : decode cX5_when 101 = .ok (.goto 4, 3) := by decide +kernel
theorem dX5_when_104 : decode cX5_when 104 = .ok (.iload_n 2, 1) := by decide +kernel
theorem dX5_when_105 : decode cX5_when 105 = .ok (.ireturn, 1) := by decide +kernel
theorem dX5_gets_0 : decode cX5_gets 0 = .ok (.aload_n 0, 1) := by decide +kernel
theorem dX5_gets_1 : decode cX5_gets 1 = .ok (.iload_n 1, 1) := by decide +kernel
theorem dX5_gets_2 : decode cX5_gets 2 = .ok (.invokevirtual 43, 3) := by decide +kernel
theorem dX5_gets_5 : decode cX5_gets 5 = .ok (.ifCond .ne 10, 3) := by decide +kernel
theorem dX5_gets_8 : decode cX5_gets 8 = .ok (.aload_n 0, 1) := by decide +kernel
theorem dX5_gets_9 : decode cX5_gets 9 = .ok (.ldc 42, 2) := by decide +kernel
theorem dX5_gets_11 : decode cX5_gets 11 = .ok (.invokevirtual 62, 3) := by decide +kernel
theorem dX5_gets_14 : decode cX5_gets 14 = .ok (.ireturn, 1) := by decide +kernel
theorem dX5_gets_15 : decode cX5_gets 15 = .ok (.aload_n 0, 1) := by decide +kernel
theorem dX5_gets_16 : decode cX5_gets 16 = .ok (.iload_n 1, 1) := by decide +kernel
theorem dX5_gets_17 : decode cX5_gets 17 = .ok (.invokevirtual 107, 3) := by decide +kernel
theorem dX5_gets_20 : decode cX5_gets 20 = .ok (.ifCond .eq 12, 3) := by decide +kernel
theorem dX5_gets_23 : decode cX5_gets 23 = .ok (.aload_n 0, 1) := by decide +kernel
theorem dX5_gets_24 : decode cX5_gets 24 = .ok (.bipush 100, 2) := by decide +kernel
theorem dX5_gets_26 : decode cX5_gets 26 = .ok (.invokevirtual 156, 3) := by decide +kernel
theorem dX5_gets_29 : decode cX5_gets 29 = .ok (.ifCond .eq 10, 3) := by decide +kernel
theorem dX5_gets_32 : decode cX5_gets 32 = .ok (.aload_n 0, 1) := by decide +kernel
theorem dX5_gets_33 : decode cX5_gets 33 = .ok (.ldc 159, 2) := by decide +kernel
theorem dX5_gets_35 : decode cX5_gets 35 = .ok (.invokevirtual 62, 3) := by decide +kernel
theorem dX5_gets_38 : decode cX5_gets 38 = .ok (.ireturn, 1) := by decide +kernel
theorem dX5_gets_39 : decode cX5_gets 39 = .ok (.aload_n 0, 1) := by decide +kernel
theorem dX5_gets_40 : decode cX5_gets 40 = .ok (.invokevirtual 173, 3) := by decide +kernel
theorem dX5_gets_43 : decode cX5_gets 43 = .ok (.aload_n 0, 1) := by decide +kernel
theorem dX5_gets_44 : decode cX5_gets 44 = .ok (.iload_n 1, 1) := by decide +kernel
theorem dX5_gets_45 : decode cX5_gets 45 = .ok (.putfield 38, 3) := by decide +kernel
theorem dX5_gets_48 : decode cX5_gets 48 = .ok (.aload_n 0, 1) := by decide +kernel
theorem dX5_gets_49 : decode cX5_gets 49 = .ok (.bipush (-2), 2) := by decide +kernel
theorem dX5_gets_51 : decode cX5_gets 51 = .ok (.putfield 147, 3) := by decide +kernel
theorem dX5_gets_54 : decode cX5_gets 54 = .ok (.iconst 1, 1) := by decide +kernel
theorem dX5_gets_55 : decode cX5_gets 55 = .ok (.istore_n 2, 1) := by decide +kernel
theorem dX5_gets_56 : decode cX5_gets 56 = .ok (.iload_n 2, 1) := by decide +kernel
theorem dX5_gets_57 : decode cX5_gets 57 = .ok (.bipush 100, 2) := by decide +kernel
theorem dX5_gets_59 : decode cX5_gets 59 = .ok (.if_icmp .gt 23, 3) := by decide +kernel
theorem dX5_gets_62 : decode cX5_gets 62 = .ok (.aload_n 0, 1) := by decide +kernel
theorem dX5_gets_63 : decode cX5_gets 63 = .ok (.getfield 147, 3) := by decide +kernel
theorem dX5_gets_66 : decode cX5_gets 66 = .ok (.bipush (-2), 2) := by decide +kernel
theorem dX5_gets_68 : decode cX5_gets 68 = .ok (.if_icmp .ne 14, 3) := by decide +kernel
theorem dX5_gets_71 : decode cX5_gets 71 = .ok (.aload_n 0, 1) := by decide +kernel
theorem dX5_gets_72 : decode cX5_gets 72 = .ok (.invokevirtual 150, 3) := by decide +kernel
theorem dX5_gets_75 : decode cX5_gets 75 = .ok (.istore_n 3, 1) := by decide +kernel
theorem dX5_gets_76 : decode cX5_gets 76 = .ok (.iinc 2 1, 3) := by decide +kernel
theorem dX5_gets_79 : decode cX5_gets 79 = .ok (.goto (-23), 3) := by decide +kernel
theorem dX5_gets_82 : decode cX5_gets 82 = .ok (.aload_n 0, 1) := by decide +kernel
theorem dX5_gets_83 : decode cX5_gets 83 = .ok (.iconst (-1), 1) := by decide +kernel
theorem dX5_gets_84 : decode cX5_gets 84 = .ok (.putfield 38, 3) := by decide +kernel
theorem dX5_gets_87 : decode cX5_gets 87 = .ok (.aload_n 0, 1) := by decide +kernel
theorem dX5_gets_88 : decode cX5_gets 88 = .ok (.invokevirtual 176, 3) := by decide +kernel
theorem dX5_gets_91 : decode cX5_gets 91 = .ok (.aload_n 0, 1) := by decide +kernel
theorem dX5_gets_92 : decode cX5_gets 92 = .ok (.getfield 147, 3) := by decide +kernel
theorem dX5_gets_95 : decode cX5_gets 95 = .ok (.bipush (-2), 2) := by decide +kernel
theorem dX5_gets_97 : decode cX5_gets 97 = .ok (.if_icmp .ne 12, 3) := by decide +kernel
theorem dX5_gets_100 : decode cX5_gets 100 = .ok (.aload_n 0, 1) := by decide +kernel
theorem dX5_gets_101 : decode cX5_gets 101 = .ok (.ldc 116, 2) := by decide +kernel
theorem dX5_gets_103 : decode cX5_gets 103 = .ok (.invokevirtual 62, 3) := by decide +kernel
theorem dX5_gets_106 : decode cX5_gets 106 = .ok (.goto 7, 3) := by decide +kernel
theorem dX5_gets_109 : decode cX5_gets 109 = .ok (.aload_n 0, 1) := by decide +kernel
theorem dX5_gets_110 : decode cX5_gets 110 = .ok (.getfield 147, 3) := by decide +kernel
theorem dX5_gets_113 : decode cX5_gets 113 = .ok (.ireturn, 1) := by decide +kernel
theorem dX5_leastChange_0 : decode cX5_leastChange 0 = .ok (.iconst 0, 1) := by decide +kernel
theorem dX5_leastChange_1 : decode cX5_leastChange 1 = .ok (.istore 4, 2) := by decide +kernel
theorem dX5_leastChange_3 : decode cX5_leastChange 3 = .ok (.iload 4, 2) := by decide +kernel
theorem dX5_leastChange_5 : decode cX5_leastChange 5 = .ok (.bipush 9, 2) := by decide +kernel
theorem dX5_leastChange_7 : decode cX5_leastChange 7 = .ok (.if_icmp .ge 97, 3) := by decide +kernel
theorem dX5_leastChange_10 : decode cX5_leastChange 10 = .ok (.aload_n 0, 1) := by decide +kernel
theorem dX5_leastChange_11 : decode cX5_leastChange 11 = .ok (.iload_n 1, 1) := by decide +kernel
theorem dX5_leastChange_12 : decode cX5_leastChange 12 = .ok (.bipush 6, 2) := by decide +kernel
theorem dX5_leastChange_14 : decode cX5_leastChange 14 = .ok (.iload 4, 2) := by decide +kernel
theorem dX5_leastChange_16 : decode cX5_leastChange 16 = .ok (.iadd, 1) := by decide +kernel
theorem dX5_leastChange_17 : decode cX5_leastChange 17 = .ok (.invokevirtual 47, 3) := by decide +kernel
theorem dX5_leastChange_20 : decode cX5_leastChange 20 = .ok (.istore 5, 2) := by decide +kernel
theorem dX5_leastChange_22 : decode cX5_leastChange 22 = .ok (.iconst 0, 1) := by decide +kernel
theorem dX5_leastChange_23 : decode cX5_leastChange 23 = .ok (.istore 6, 2) := by decide +kernel
theorem dX5_leastChange_25 : decode cX5_leastChange 25 = .ok (.iload 6, 2) := by decide +kernel
theorem dX5_leastChange_27 : decode cX5_leastChange 27 = .ok (.iconst 4, 1) := by decide +kernel
theorem dX5_leastChange_28 : decode cX5_leastChange 28 = .ok (.if_icmp .ge 70, 3) := by decide +kernel
theorem dX5_leastChange_31 : decode cX5_leastChange 31 = .ok (.aload_n 0, 1) := by decide +kernel
theorem dX5_leastChange_32 : decode cX5_leastChange 32 = .ok (.iload_n 1, 1) := by decide +kernel
theorem dX5_leastChange_33 : decode cX5_leastChange 33 = .ok (.bipush 6, 2) := by decide +kernel
theorem dX5_leastChange_35 : decode cX5_leastChange 35 = .ok (.iload 4, 2) := by decide +kernel
theorem dX5_leastChange_37 : decode cX5_leastChange 37 = .ok (.iadd, 1) := by decide +kernel
theorem dX5_leastChange_38 : decode cX5_leastChange 38 = .ok (.iload 6, 2) := by decide +kernel
theorem dX5_leastChange_40 : decode cX5_leastChange 40 = .ok (.invokevirtual 71, 3) := by decide +kernel
theorem dX5_leastChange_43 : decode cX5_leastChange 43 = .ok (.iload 6, 2) := by decide +kernel
theorem dX5_leastChange_45 : decode cX5_leastChange 45 = .ok (.iload 5, 2) := by decide +kernel
theorem dX5_leastChange_47 : decode cX5_leastChange 47 = .ok (.if_icmp .eq 16, 3) := by decide +kernel
theorem dX5_leastChange_50 : decode cX5_leastChange 50 = .ok (.aload_n 0, 1) := by decide +kernel
theorem dX5_leastChange_51 : decode cX5_leastChange 51 = .ok (.iload_n 2, 1) := by decide +kernel
theorem dX5_leastChange_52 : decode cX5_leastChange 52 = .ok (.invokevirtual 113, 3) := by decide +kernel
theorem dX5_leastChange_55 : decode cX5_leastChange 55 = .ok (.iload_n 3, 1) := by decide +kernel
theorem dX5_leastChange_56 : decode cX5_leastChange 56 = .ok (.if_icmp .ne 7, 3) := by decide +kernel
theorem dX5_leastChange_59 : decode cX5_leastChange 59 = .ok (.iconst 1, 1) := by decide +kernel
theorem dX5_leastChange_60 : decode cX5_leastChange 60 = .ok (.goto 4, 3) := by decide +kernel
theorem dX5_leastChange_63 : decode cX5_leastChange 63 = .ok (.iconst 0, 1) := by decide +kernel
theorem dX5_leastChange_64 : decode cX5_leastChange 64 = .ok (.istore 7, 2) := by decide +kernel
theorem dX5_leastChange_66 : decode cX5_leastChange 66 = .ok (.aload_n 0, 1) := by decide +kernel
theorem dX5_leastChange_67 : decode cX5_leastChange 67 = .ok (.iload_n 1, 1) := by decide +kernel
theorem dX5_leastChange_68 : decode cX5_leastChange 68 = .ok (.bipush 6, 2) := by decide +kernel
theorem dX5_leastChange_70 : decode cX5_leastChange 70 = .ok (.iload 4, 2) := by decide +kernel
theorem dX5_leastChange_72 : decode cX5_leastChange 72 = .ok (.iadd, 1) := by decide +kernel
theorem dX5_leastChange_73 : decode cX5_leastChange 73 = .ok (.iload 5, 2) := by decide +kernel
theorem dX5_leastChange_75 : decode cX5_leastChange 75 = .ok (.invokevirtual 71, 3) := by decide +kernel
theorem dX5_leastChange_78 : decode cX5_leastChange 78 = .ok (.iload 7, 2) := by decide +kernel
theorem dX5_leastChange_80 : decode cX5_leastChange 80 = .ok (.ifCond .eq 12, 3) := by decide +kernel
theorem dX5_leastChange_83 : decode cX5_leastChange 83 = .ok (.bipush 10, 2) := by decide +kernel
theorem dX5_leastChange_85 : decode cX5_leastChange 85 = .ok (.iload 4, 2) := by decide +kernel
theorem dX5_leastChange_87 : decode cX5_leastChange 87 = .ok (.imul, 1) := by decide +kernel
theorem dX5_leastChange_88 : decode cX5_leastChange 88 = .ok (.iload 6, 2) := by decide +kernel
theorem dX5_leastChange_90 : decode cX5_leastChange 90 = .ok (.iadd, 1) := by decide +kernel
theorem dX5_leastChange_91 : decode cX5_leastChange 91 = .ok (.ireturn, 1) := by decide +kernel
theorem dX5_leastChange_92 : decode cX5_leastChange 92 = .ok (.iinc 6 1, 3) := by decide +kernel
theorem dX5_leastChange_95 : decode cX5_leastChange 95 = .ok (.goto (-70), 3) := by decide +kernel
theorem dX5_leastChange_98 : decode cX5_leastChange 98 = .ok (.iinc 4 1, 3) := by decide +kernel
theorem dX5_leastChange_101 : decode cX5_leastChange 101 = .ok (.goto (-98), 3) := by decide +kernel
theorem dX5_leastChange_104 : decode cX5_leastChange 104 = .ok (.iconst (-1), 1) := by decide +kernel
theorem dX5_leastChange_105 : decode cX5_leastChange 105 = .ok (.ireturn, 1) := by decide +kernel
theorem dX5_change_0 : decode cX5_change 0 = .ok (.aload_n 0, 1) := by decide +kernel
theorem dX5_change_1 : decode cX5_change 1 = .ok (.iload_n 1, 1) := by decide +kernel
theorem dX5_change_2 : decode cX5_change 2 = .ok (.iload_n 2, 1) := by decide +kernel
theorem dX5_change_3 : decode cX5_change 3 = .ok (.invokevirtual 90, 3) := by decide +kernel
theorem dX5_change_6 : decode cX5_change 6 = .ok (.ifCond .ne 10, 3) := by decide +kernel
theorem dX5_change_9 : decode cX5_change 9 = .ok (.aload_n 0, 1) := by decide +kernel
theorem dX5_change_10 : decode cX5_change 10 = .ok (.ldc 42, 2) := by decide +kernel
theorem dX5_change_12 : decode cX5_change 12 = .ok (.invokevirtual 62, 3) := by decide +kernel
theorem dX5_change_15 : decode cX5_change 15 = .ok (.ireturn, 1) := by decide +kernel
theorem dX5_change_16 : decode cX5_change 16 = .ok (.aload_n 0, 1) := by decide +kernel
theorem dX5_change_17 : decode cX5_change 17 = .ok (.iload_n 1, 1) := by decide +kernel
theorem dX5_change_18 : decode cX5_change 18 = .ok (.invokevirtual 107, 3) := by decide +kernel
theorem dX5_change_21 : decode cX5_change 21 = .ok (.ifCond .eq 12, 3) := by decide +kernel
theorem dX5_change_24 : decode cX5_change 24 = .ok (.aload_n 0, 1) := by decide +kernel
theorem dX5_change_25 : decode cX5_change 25 = .ok (.iload_n 2, 1) := by decide +kernel
theorem dX5_change_26 : decode cX5_change 26 = .ok (.invokevirtual 113, 3) := by decide +kernel
theorem dX5_change_29 : decode cX5_change 29 = .ok (.iload_n 1, 1) := by decide +kernel
theorem dX5_change_30 : decode cX5_change 30 = .ok (.if_icmp .ne 10, 3) := by decide +kernel
theorem dX5_change_33 : decode cX5_change 33 = .ok (.aload_n 0, 1) := by decide +kernel
theorem dX5_change_34 : decode cX5_change 34 = .ok (.ldc 159, 2) := by decide +kernel
theorem dX5_change_36 : decode cX5_change 36 = .ok (.invokevirtual 62, 3) := by decide +kernel
theorem dX5_change_39 : decode cX5_change 39 = .ok (.ireturn, 1) := by decide +kernel
theorem dX5_change_40 : decode cX5_change 40 = .ok (.aload_n 0, 1) := by decide +kernel
theorem dX5_change_41 : decode cX5_change 41 = .ok (.iload_n 1, 1) := by decide +kernel
theorem dX5_change_42 : decode cX5_change 42 = .ok (.iload_n 2, 1) := by decide +kernel
theorem dX5_change_43 : decode cX5_change 43 = .ok (.iload_n 1, 1) := by decide +kernel
theorem dX5_change_44 : decode cX5_change 44 = .ok (.invokevirtual 182, 3) := by decide +kernel
theorem dX5_change_47 : decode cX5_change 47 = .ok (.istore_n 3, 1) := by decide +kernel
theorem dX5_change_48 : decode cX5_change 48 = .ok (.iload_n 3, 1) := by decide +kernel
theorem dX5_change_49 : decode cX5_change 49 = .ok (.ifCond .ge 12, 3) := by decide +kernel
theorem dX5_change_52 : decode cX5_change 52 = .ok (.aload_n 0, 1) := by decide +kernel
theorem dX5_change_53 : decode cX5_change 53 = .ok (.ldc 116, 2) := by decide +kernel
theorem dX5_change_55 : decode cX5_change 55 = .ok (.invokevirtual 62, 3) := by decide +kernel
theorem dX5_change_58 : decode cX5_change 58 = .ok (.goto 4, 3) := by decide +kernel
theorem dX5_change_61 : decode cX5_change 61 = .ok (.iload_n 3, 1) := by decide +kernel
theorem dX5_change_62 : decode cX5_change 62 = .ok (.ireturn, 1) := by decide +kernel
theorem dX5_manyIn_0 : decode cX5_manyIn 0 = .ok (.iconst 0, 1) := by decide +kernel
theorem dX5_manyIn_1 : decode cX5_manyIn 1 = .ok (.istore_n 1, 1) := by decide +kernel
theorem dX5_manyIn_2 : decode cX5_manyIn 2 = .ok (.iload_n 0, 1) := by decide +kernel
theorem dX5_manyIn_3 : decode cX5_manyIn 3 = .ok (.istore_n 2, 1) := by decide +kernel
theorem dX5_manyIn_4 : decode cX5_manyIn 4 = .ok (.iload_n 2, 1) := by decide +kernel
theorem dX5_manyIn_5 : decode cX5_manyIn 5 = .ok (.ifCond .eq 15, 3) := by decide +kernel
theorem dX5_manyIn_8 : decode cX5_manyIn 8 = .ok (.iinc 1 1, 3) := by decide +kernel
theorem dX5_manyIn_11 : decode cX5_manyIn 11 = .ok (.iload_n 2, 1) := by decide +kernel
theorem dX5_manyIn_12 : decode cX5_manyIn 12 = .ok (.iload_n 2, 1) := by decide +kernel
theorem dX5_manyIn_13 : decode cX5_manyIn 13 = .ok (.iconst 1, 1) := by decide +kernel
theorem dX5_manyIn_14 : decode cX5_manyIn 14 = .ok (.isub, 1) := by decide +kernel
theorem dX5_manyIn_15 : decode cX5_manyIn 15 = .ok (.iand, 1) := by decide +kernel
theorem dX5_manyIn_16 : decode cX5_manyIn 16 = .ok (.istore_n 2, 1) := by decide +kernel
theorem dX5_manyIn_17 : decode cX5_manyIn 17 = .ok (.goto (-13), 3) := by decide +kernel
theorem dX5_manyIn_20 : decode cX5_manyIn 20 = .ok (.iload_n 1, 1) := by decide +kernel
theorem dX5_manyIn_21 : decode cX5_manyIn 21 = .ok (.ireturn, 1) := by decide +kernel
theorem dX5_isHeirBy_0 : decode cX5_isHeirBy 0 = .ok (.aload_n 0, 1) := by decide +kernel
theorem dX5_isHeirBy_1 : decode cX5_isHeirBy 1 = .ok (.invokevirtual 173, 3) := by decide +kernel
theorem dX5_isHeirBy_4 : decode cX5_isHeirBy 4 = .ok (.iconst 0, 1) := by decide +kernel
theorem dX5_isHeirBy_5 : decode cX5_isHeirBy 5 = .ok (.istore 4, 2) := by decide +kernel
theorem dX5_isHeirBy_7 : decode cX5_isHeirBy 7 = .ok (.iload 4, 2) := by decide +kernel
theorem dX5_isHeirBy_9 : decode cX5_isHeirBy 9 = .ok (.bipush 9, 2) := by decide +kernel
theorem dX5_isHeirBy_11 : decode cX5_isHeirBy 11 = .ok (.if_icmp .ge 39, 3) := by decide +kernel
theorem dX5_isHeirBy_14 : decode cX5_isHeirBy 14 = .ok (.iload_n 3, 1) := by decide +kernel
theorem dX5_isHeirBy_15 : decode cX5_isHeirBy 15 = .ok (.iload 4, 2) := by decide +kernel
theorem dX5_isHeirBy_17 : decode cX5_isHeirBy 17 = .ok (.ishr, 1) := by decide +kernel
theorem dX5_isHeirBy_18 : decode cX5_isHeirBy 18 = .ok (.iconst 1, 1) := by decide +kernel
theorem dX5_isHeirBy_19 : decode cX5_isHeirBy 19 = .ok (.iand, 1) := by decide +kernel
theorem dX5_isHeirBy_20 : decode cX5_isHeirBy 20 = .ok (.iconst 1, 1) := by decide +kernel
theorem dX5_isHeirBy_21 : decode cX5_isHeirBy 21 = .ok (.if_icmp .ne 23, 3) := by decide +kernel
theorem dX5_isHeirBy_24 : decode cX5_isHeirBy 24 = .ok (.aload_n 0, 1) := by decide +kernel
theorem dX5_isHeirBy_25 : decode cX5_isHeirBy 25 = .ok (.iload_n 1, 1) := by decide +kernel
theorem dX5_isHeirBy_26 : decode cX5_isHeirBy 26 = .ok (.bipush 6, 2) := by decide +kernel
theorem dX5_isHeirBy_28 : decode cX5_isHeirBy 28 = .ok (.iload 4, 2) := by decide +kernel
theorem dX5_isHeirBy_30 : decode cX5_isHeirBy 30 = .ok (.iadd, 1) := by decide +kernel
