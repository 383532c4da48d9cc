theorem dX4_of_81 : decode cX4_of 81 = .ok (.getfield 12, 3) := by decide +kernel
theorem dX4_of_84 : decode cX4_of 84 = .ok (.getfield 81, 3) := by decide +kernel
theorem dX4_of_87 : decode cX4_of 87 = .ok (.iload_n 1, 1) := by decide +kernel
theorem dX4_of_88 : decode cX4_of 88 = .ok (.iaload, 1) := by decide +kernel
theorem dX4_of_89 : decode cX4_of 89 = .ok (.ireturn, 1) := by decide +kernel
theorem dX4_of_90 : decode cX4_of 90 = .ok (.aload_n 0, 1) := by decide +kernel
theorem dX4_of_91 : decode cX4_of 91 = .ok (.getfield 12, 3) := by decide +kernel
theorem dX4_of_94 : decode cX4_of 94 = .ok (.getfield 84, 3) := by decide +kernel
theorem dX4_of_97 : decode cX4_of 97 = .ok (.iload_n 1, 1) := by decide +kernel
theorem dX4_of_98 : decode cX4_of 98 = .ok (.iaload, 1) := by decide +kernel
theorem dX4_of_99 : decode cX4_of 99 = .ok (.ireturn, 1) := by decide +kernel
theorem dX4_of_100 : decode cX4_of 100 = .ok (.aload_n 0, 1) := by decide +kernel
theorem dX4_of_101 : decode cX4_of 101 = .ok (.getfield 12, 3) := by decide +kernel
theorem dX4_of_104 : decode cX4_of 104 = .ok (.getfield 87, 3) := by decide +kernel
theorem dX4_of_107 : decode cX4_of 107 = .ok (.iload_n 1, 1) := by decide +kernel
theorem dX4_of_108 : decode cX4_of 108 = .ok (.iaload, 1) := by decide +kernel
theorem dX4_of_109 : decode cX4_of 109 = .ok (.ireturn, 1) := by decide +kernel
theorem dX4_of_110 : decode cX4_of 110 = .ok (.aload_n 0, 1) := by decide +kernel
theorem dX4_of_111 : decode cX4_of 111 = .ok (.getfield 12, 3) := by decide +kernel
theorem dX4_of_114 : decode cX4_of 114 = .ok (.iload_n 1, 1) := by decide +kernel
theorem dX4_of_115 : decode cX4_of 115 = .ok (.invokevirtual 90, 3) := by decide +kernel
theorem dX4_of_118 : decode cX4_of 118 = .ok (.ifCond .eq 7, 3) := by decide +kernel
theorem dX4_of_121 : decode cX4_of 121 = .ok (.iconst 1, 1) := by decide +kernel
theorem dX4_of_122 : decode cX4_of 122 = .ok (.goto 4, 3) := by decide +kernel
theorem dX4_of_125 : decode cX4_of 125 = .ok (.iconst 0, 1) := by decide +kernel
theorem dX4_of_126 : decode cX4_of 126 = .ok (.ireturn, 1) := by decide +kernel
theorem dX4_of_127 : decode cX4_of 127 = .ok (.aload_n 0, 1) := by decide +kernel
theorem dX4_of_128 : decode cX4_of 128 = .ok (.getfield 12, 3) := by decide +kernel
theorem dX4_of_131 : decode cX4_of 131 = .ok (.iload_n 1, 1) := by decide +kernel
theorem dX4_of_132 : decode cX4_of 132 = .ok (.invokevirtual 93, 3) := by decide +kernel
theorem dX4_of_135 : decode cX4_of 135 = .ok (.ireturn, 1) := by decide +kernel
theorem dX4_of_136 : decode cX4_of 136 = .ok (.aload_n 0, 1) := by decide +kernel
theorem dX4_of_137 : decode cX4_of 137 = .ok (.ldc 44, 2) := by decide +kernel
theorem dX4_of_139 : decode cX4_of 139 = .ok (.invokevirtual 45, 3) := by decide +kernel
theorem dX4_of_142 : decode cX4_of 142 = .ok (.ireturn, 1) := by decide +kernel
theorem dX4_set_0 : decode cX4_set 0 = .ok (.aload_n 0, 1) := by decide +kernel
theorem dX4_set_1 : decode cX4_set 1 = .ok (.iload_n 1, 1) := by decide +kernel
theorem dX4_set_2 : decode cX4_set 2 = .ok (.invokevirtual 72, 3) := by decide +kernel
theorem dX4_set_5 : decode cX4_set 5 = .ok (.ifCond .eq 13, 3) := by decide +kernel
theorem dX4_set_8 : decode cX4_set 8 = .ok (.aload_n 0, 1) := by decide +kernel
theorem dX4_set_9 : decode cX4_set 9 = .ok (.iload_n 1, 1) := by decide +kernel
theorem dX4_set_10 : decode cX4_set 10 = .ok (.iload_n 2, 1) := by decide +kernel
theorem dX4_set_11 : decode cX4_set 11 = .ok (.iload_n 3, 1) := by decide +kernel
theorem dX4_set_12 : decode cX4_set 12 = .ok (.invokevirtual 96, 3) := by decide +kernel
theorem dX4_set_15 : decode cX4_set 15 = .ok (.ifCond .ne 10, 3) := by decide +kernel
theorem dX4_set_18 : decode cX4_set 18 = .ok (.aload_n 0, 1) := by decide +kernel
theorem dX4_set_19 : decode cX4_set 19 = .ok (.ldc 44, 2) := by decide +kernel
theorem dX4_set_21 : decode cX4_set 21 = .ok (.invokevirtual 45, 3) := by decide +kernel
theorem dX4_set_24 : decode cX4_set 24 = .ok (.ireturn, 1) := by decide +kernel
theorem dX4_set_25 : decode cX4_set 25 = .ok (.iload_n 2, 1) := by decide +kernel
theorem dX4_set_26 : decode cX4_set 26 = .ok (.tableswitch 82 1 4 #[30, 43, 56, 69], 30) := by decide +kernel
theorem dX4_set_56 : decode cX4_set 56 = .ok (.aload_n 0, 1) := by decide +kernel
theorem dX4_set_57 : decode cX4_set 57 = .ok (.getfield 12, 3) := by decide +kernel
theorem dX4_set_60 : decode cX4_set 60 = .ok (.getfield 78, 3) := by decide +kernel
theorem dX4_set_63 : decode cX4_set 63 = .ok (.iload_n 1, 1) := by decide +kernel
theorem dX4_set_64 : decode cX4_set 64 = .ok (.iload_n 3, 1) := by decide +kernel
theorem dX4_set_65 : decode cX4_set 65 = .ok (.invokestatic 56, 3) := by decide +kernel
theorem dX4_set_68 : decode cX4_set 68 = .ok (.ireturn, 1) := by decide +kernel
theorem dX4_set_69 : decode cX4_set 69 = .ok (.aload_n 0, 1) := by decide +kernel
theorem dX4_set_70 : decode cX4_set 70 = .ok (.getfield 12, 3) := by decide +kernel
theorem dX4_set_73 : decode cX4_set 73 = .ok (.getfield 81, 3) := by decide +kernel
theorem dX4_set_76 : decode cX4_set 76 = .ok (.iload_n 1, 1) := by decide +kernel
theorem dX4_set_77 : decode cX4_set 77 = .ok (.iload_n 3, 1) := by decide +kernel
theorem dX4_set_78 : decode cX4_set 78 = .ok (.invokestatic 56, 3) := by decide +kernel
theorem dX4_set_81 : decode cX4_set 81 = .ok (.ireturn, 1) := by decide +kernel
theorem dX4_set_82 : decode cX4_set 82 = .ok (.aload_n 0, 1) := by decide +kernel
theorem dX4_set_83 : decode cX4_set 83 = .ok (.getfield 12, 3) := by decide +kernel
theorem dX4_set_86 : decode cX4_set 86 = .ok (.getfield 84, 3) := by decide +kernel
theorem dX4_set_89 : decode cX4_set 89 = .ok (.iload_n 1, 1) := by decide +kernel
theorem dX4_set_90 : decode cX4_set 90 = .ok (.iload_n 3, 1) := by decide +kernel
theorem dX4_set_91 : decode cX4_set 91 = .ok (.invokestatic 56, 3) := by decide +kernel
theorem dX4_set_94 : decode cX4_set 94 = .ok (.ireturn, 1) := by decide +kernel
theorem dX4_set_95 : decode cX4_set 95 = .ok (.aload_n 0, 1) := by decide +kernel
theorem dX4_set_96 : decode cX4_set 96 = .ok (.getfield 12, 3) := by decide +kernel
theorem dX4_set_99 : decode cX4_set 99 = .ok (.getfield 87, 3) := by decide +kernel
theorem dX4_set_102 : decode cX4_set 102 = .ok (.iload_n 1, 1) := by decide +kernel
theorem dX4_set_103 : decode cX4_set 103 = .ok (.iload_n 3, 1) := by decide +kernel
theorem dX4_set_104 : decode cX4_set 104 = .ok (.invokestatic 56, 3) := by decide +kernel
theorem dX4_set_107 : decode cX4_set 107 = .ok (.ireturn, 1) := by decide +kernel
theorem dX4_set_108 : decode cX4_set 108 = .ok (.aload_n 0, 1) := by decide +kernel
theorem dX4_set_109 : decode cX4_set 109 = .ok (.getfield 12, 3) := by decide +kernel
theorem dX4_set_112 : decode cX4_set 112 = .ok (.iload_n 1, 1) := by decide +kernel
theorem dX4_set_113 : decode cX4_set 113 = .ok (.iload_n 3, 1) := by decide +kernel
theorem dX4_set_114 : decode cX4_set 114 = .ok (.invokevirtual 99, 3) := by decide +kernel
theorem dX4_set_117 : decode cX4_set 117 = .ok (.ireturn, 1) := by decide +kernel
theorem dX4_way_0 : decode cX4_way 0 = .ok (.aload_n 0, 1) := by decide +kernel
theorem dX4_way_1 : decode cX4_way 1 = .ok (.iload_n 1, 1) := by decide +kernel
theorem dX4_way_2 : decode cX4_way 2 = .ok (.invokevirtual 72, 3) := by decide +kernel
theorem dX4_way_5 : decode cX4_way 5 = .ok (.ifCond .eq 13, 3) := by decide +kernel
theorem dX4_way_8 : decode cX4_way 8 = .ok (.iload_n 2, 1) := by decide +kernel
theorem dX4_way_9 : decode cX4_way 9 = .ok (.iconst 0, 1) := by decide +kernel
theorem dX4_way_10 : decode cX4_way 10 = .ok (.bipush 8, 2) := by decide +kernel
theorem dX4_way_12 : decode cX4_way 12 = .ok (.invokestatic 40, 3) := by decide +kernel
theorem dX4_way_15 : decode cX4_way 15 = .ok (.ifCond .ne 10, 3) := by decide +kernel
theorem dX4_way_18 : decode cX4_way 18 = .ok (.aload_n 0, 1) := by decide +kernel
theorem dX4_way_19 : decode cX4_way 19 = .ok (.ldc 44, 2) := by decide +kernel
theorem dX4_way_21 : decode cX4_way 21 = .ok (.invokevirtual 45, 3) := by decide +kernel
theorem dX4_way_24 : decode cX4_way 24 = .ok (.ireturn, 1) := by decide +kernel
theorem dX4_way_25 : decode cX4_way 25 = .ok (.aload_n 0, 1) := by decide +kernel
theorem dX4_way_26 : decode cX4_way 26 = .ok (.getfield 12, 3) := by decide +kernel
theorem dX4_way_29 : decode cX4_way 29 = .ok (.getfield 102, 3) := by decide +kernel
theorem dX4_way_32 : decode cX4_way 32 = .ok (.iload_n 1, 1) := by decide +kernel
theorem dX4_way_33 : decode cX4_way 33 = .ok (.iaload, 1) := by decide +kernel
theorem dX4_way_34 : decode cX4_way 34 = .ok (.iload_n 2, 1) := by decide +kernel
theorem dX4_way_35 : decode cX4_way 35 = .ok (.invokestatic 105, 3) := by decide +kernel
theorem dX4_way_38 : decode cX4_way 38 = .ok (.ireturn, 1) := by decide +kernel
theorem dX4_be_0 : decode cX4_be 0 = .ok (.aload_n 0, 1) := by decide +kernel
theorem dX4_be_1 : decode cX4_be 1 = .ok (.iload_n 1, 1) := by decide +kernel
theorem dX4_be_2 : decode cX4_be 2 = .ok (.invokevirtual 72, 3) := by decide +kernel
theorem dX4_be_5 : decode cX4_be 5 = .ok (.ifCond .eq 22, 3) := by decide +kernel
theorem dX4_be_8 : decode cX4_be 8 = .ok (.iload_n 2, 1) := by decide +kernel
theorem dX4_be_9 : decode cX4_be 9 = .ok (.iconst 0, 1) := by decide +kernel
theorem dX4_be_10 : decode cX4_be 10 = .ok (.bipush 8, 2) := by decide +kernel
theorem dX4_be_12 : decode cX4_be 12 = .ok (.invokestatic 40, 3) := by decide +kernel
theorem dX4_be_15 : decode cX4_be 15 = .ok (.ifCond .eq 12, 3) := by decide +kernel
theorem dX4_be_18 : decode cX4_be 18 = .ok (.iload_n 3, 1) := by decide +kernel
theorem dX4_be_19 : decode cX4_be 19 = .ok (.iconst 0, 1) := by decide +kernel
theorem dX4_be_20 : decode cX4_be 20 = .ok (.iconst 3, 1) := by decide +kernel
theorem dX4_be_21 : decode cX4_be 21 = .ok (.invokestatic 40, 3) := by decide +kernel
theorem dX4_be_24 : decode cX4_be 24 = .ok (.ifCond .ne 10, 3) := by decide +kernel
theorem dX4_be_27 : decode cX4_be 27 = .ok (.aload_n 0, 1) := by decide +kernel
theorem dX4_be_28 : decode cX4_be 28 = .ok (.ldc 44, 2) := by decide +kernel
theorem dX4_be_30 : decode cX4_be 30 = .ok (.invokevirtual 45, 3) := by decide +kernel
theorem dX4_be_33 : decode cX4_be 33 = .ok (.ireturn, 1) := by decide +kernel
theorem dX4_be_34 : decode cX4_be 34 = .ok (.aload_n 0, 1) := by decide +kernel
theorem dX4_be_35 : decode cX4_be 35 = .ok (.getfield 12, 3) := by decide +kernel
theorem dX4_be_38 : decode cX4_be 38 = .ok (.getfield 102, 3) := by decide +kernel
theorem dX4_be_41 : decode cX4_be 41 = .ok (.iload_n 1, 1) := by decide +kernel
theorem dX4_be_42 : decode cX4_be 42 = .ok (.aload_n 0, 1) := by decide +kernel
theorem dX4_be_43 : decode cX4_be 43 = .ok (.getfield 12, 3) := by decide +kernel
theorem dX4_be_46 : decode cX4_be 46 = .ok (.getfield 102, 3) := by decide +kernel
theorem dX4_be_49 : decode cX4_be 49 = .ok (.iload_n 1, 1) := by decide +kernel
theorem dX4_be_50 : decode cX4_be 50 = .ok (.iaload, 1) := by decide +kernel
theorem dX4_be_51 : decode cX4_be 51 = .ok (.iload_n 2, 1) := by decide +kernel
theorem dX4_be_52 : decode cX4_be 52 = .ok (.iload_n 3, 1) := by decide +kernel
theorem dX4_be_53 : decode cX4_be 53 = .ok (.invokestatic 108, 3) := by decide +kernel
theorem dX4_be_56 : decode cX4_be 56 = .ok (.invokestatic 56, 3) := by decide +kernel
theorem dX4_be_59 : decode cX4_be 59 = .ok (.istore 4, 2) := by decide +kernel
theorem dX4_be_61 : decode cX4_be 61 = .ok (.iload 4, 2) := by decide +kernel
theorem dX4_be_63 : decode cX4_be 63 = .ok (.iload_n 2, 1) := by decide +kernel
theorem dX4_be_64 : decode cX4_be 64 = .ok (.invokestatic 105, 3) := by decide +kernel
theorem dX4_be_67 : decode cX4_be 67 = .ok (.ireturn, 1) := by decide +kernel
theorem dX4_turn_0 : decode cX4_turn 0 = .ok (.aload_n 0, 1) := by decide +kernel
theorem dX4_turn_1 : decode cX4_turn 1 = .ok (.iload_n 1, 1) := by decide +kernel
theorem dX4_turn_2 : decode cX4_turn 2 = .ok (.invokevirtual 72, 3) := by decide +kernel
theorem dX4_turn_5 : decode cX4_turn 5 = .ok (.ifCond .eq 10, 3) := by decide +kernel
theorem dX4_turn_8 : decode cX4_turn 8 = .ok (.iload_n 2, 1) := by decide +kernel
theorem dX4_turn_9 : decode cX4_turn 9 = .ok (.invokestatic 64, 3) := by decide +kernel
theorem dX4_turn_12 : decode cX4_turn 12 = .ok (.ifCond .ne 10, 3) := by decide +kernel
theorem dX4_turn_15 : decode cX4_turn 15 = .ok (.aload_n 0, 1) := by decide +kernel
theorem dX4_turn_16 : decode cX4_turn 16 = .ok (.ldc 44, 2) := by decide +kernel
theorem dX4_turn_18 : decode cX4_turn 18 = .ok (.invokevirtual 45, 3) := by decide +kernel
theorem dX4_turn_21 : decode cX4_turn 21 = .ok (.ireturn, 1) := by decide +kernel
theorem dX4_turn_22 : decode cX4_turn 22 = .ok (.aload_n 0, 1) := by decide +kernel
theorem dX4_turn_23 : decode cX4_turn 23 = .ok (.getfield 12, 3) := by decide +kernel
theorem dX4_turn_26 : decode cX4_turn 26 = .ok (.getfield 75, 3) := by decide +kernel
theorem dX4_turn_29 : decode cX4_turn 29 = .ok (.iload_n 1, 1) := by decide +kernel
theorem dX4_turn_30 : decode cX4_turn 30 = .ok (.iload_n 2, 1) := by decide +kernel
theorem dX4_turn_31 : decode cX4_turn 31 = .ok (.invokestatic 56, 3) := by decide +kernel
theorem dX4_turn_34 : decode cX4_turn 34 = .ok (.ireturn, 1) := by decide +kernel
theorem dX4_as_0 : decode cX4_as 0 = .ok (.aload_n 0, 1) := by decide +kernel
theorem dX4_as_1 : decode cX4_as 1 = .ok (.iload_n 1, 1) := by decide +kernel
theorem dX4_as_2 : decode cX4_as 2 = .ok (.invokevirtual 72, 3) := by decide +kernel
theorem dX4_as_5 : decode cX4_as 5 = .ok (.ifCond .eq 10, 3) := by decide +kernel
theorem dX4_as_8 : decode cX4_as 8 = .ok (.iload_n 2, 1) := by decide +kernel
theorem dX4_as_9 : decode cX4_as 9 = .ok (.invokestatic 64, 3) := by decide +kernel
theorem dX4_as_12 : decode cX4_as 12 = .ok (.ifCond .ne 10, 3) := by decide +kernel
theorem dX4_as_15 : decode cX4_as 15 = .ok (.aload_n 0, 1) := by decide +kernel
theorem dX4_as_16 : decode cX4_as 16 = .ok (.ldc 44, 2) := by decide +kernel
theorem dX4_as_18 : decode cX4_as 18 = .ok (.invokevirtual 45, 3) := by decide +kernel
theorem dX4_as_21 : decode cX4_as 21 = .ok (.ireturn, 1) := by decide +kernel
theorem dX4_as_22 : decode cX4_as 22 = .ok (.aload_n 0, 1) := by decide +kernel
theorem dX4_as_23 : decode cX4_as 23 = .ok (.getfield 12, 3) := by decide +kernel
theorem dX4_as_26 : decode cX4_as 26 = .ok (.getfield 75, 3) := by decide +kernel
theorem dX4_as_29 : decode cX4_as 29 = .ok (.iload_n 1, 1) := by decide +kernel
theorem dX4_as_30 : decode cX4_as 30 = .ok (.iaload, 1) := by decide +kernel
theorem dX4_as_31 : decode cX4_as 31 = .ok (.iload_n 2, 1) := by decide +kernel
theorem dX4_as_32 : decode cX4_as 32 = .ok (.invokestatic 112, 3) := by decide +kernel
theorem dX4_as_35 : decode cX4_as 35 = .ok (.ifCond .ne 10, 3) := by decide +kernel
theorem dX4_as_38 : decode cX4_as 38 = .ok (.aload_n 0, 1) := by decide +kernel
theorem dX4_as_39 : decode cX4_as 39 = .ok (.ldc 116, 2) := by decide +kernel
theorem dX4_as_41 : decode cX4_as 41 = .ok (.invokevirtual 45, 3) := by decide +kernel
theorem dX4_as_44 : decode cX4_as 44 = .ok (.ireturn, 1) := by decide +kernel
theorem dX4_as_45 : decode cX4_as 45 = .ok (.aload_n 0, 1) := by decide +kernel
theorem dX4_as_46 : decode cX4_as 46 = .ok (.getfield 12, 3) := by decide +kernel
theorem dX4_as_49 : decode cX4_as 49 = .ok (.getfield 81, 3) := by decide +kernel
theorem dX4_as_52 : decode cX4_as 52 = .ok (.iload_n 1, 1) := by decide +kernel
theorem dX4_as_53 : decode cX4_as 53 = .ok (.iaload, 1) := by decide +kernel
theorem dX4_as_54 : decode cX4_as 54 = .ok (.ireturn, 1) := by decide +kernel
theorem dX4_like_0 : decode cX4_like 0 = .ok (.aload_n 0, 1) := by decide +kernel
theorem dX4_like_1 : decode cX4_like 1 = .ok (.iload_n 1, 1) := by decide +kernel
theorem dX4_like_2 : decode cX4_like 2 = .ok (.iload_n 2, 1) := by decide +kernel
theorem dX4_like_3 : decode cX4_like 3 = .ok (.invokevirtual 117, 3) := by decide +kernel
theorem dX4_like_6 : decode cX4_like 6 = .ok (.ifCond .ne 10, 3) := by decide +kernel
theorem dX4_like_9 : decode cX4_like 9 = .ok (.aload_n 0, 1) := by decide +kernel
theorem dX4_like_10 : decode cX4_like 10 = .ok (.ldc 44, 2) := by decide +kernel
theorem dX4_like_12 : decode cX4_like 12 = .ok (.invokevirtual 45, 3) := by decide +kernel
theorem dX4_like_15 : decode cX4_like 15 = .ok (.ireturn, 1) := by decide +kernel
theorem dX4_like_16 : decode cX4_like 16 = .ok (.aload_n 0, 1) := by decide +kernel
theorem dX4_like_17 : decode cX4_like 17 = .ok (.getfield 12, 3) := by decide +kernel
theorem dX4_like_20 : decode cX4_like 20 = .ok (.iload_n 1, 1) := by decide +kernel
theorem dX4_like_21 : decode cX4_like 21 = .ok (.iload_n 2, 1) := by decide +kernel
theorem dX4_like_22 : decode cX4_like 22 = .ok (.invokevirtual 120, 3) := by decide +kernel
theorem dX4_like_25 : decode cX4_like 25 = .ok (.ireturn, 1) := by decide +kernel
theorem dX4_same_0 : decode cX4_same 0 = .ok (.aload_n 0, 1) := by decide +kernel
theorem dX4_same_1 : decode cX4_same 1 = .ok (.iload_n 1, 1) := by decide +kernel
theorem dX4_same_2 : decode cX4_same 2 = .ok (.iload_n 2, 1) := by decide +kernel
theorem dX4_same_3 : decode cX4_same 3 = .ok (.invokevirtual 117, 3) := by decide +kernel
theorem dX4_same_6 : decode cX4_same 6 = .ok (.ifCond .ne 10, 3) := by decide +kernel
theorem dX4_same_9 : decode cX4_same 9 = .ok (.aload_n 0, 1) := by decide +kernel
theorem dX4_same_10 : decode cX4_same 10 = .ok (.ldc 44, 2) := by decide +kernel
theorem dX4_same_12 : decode cX4_same 12 = .ok (.invokevirtual 45, 3) := by decide +kernel
theorem dX4_same_15 : decode cX4_same 15 = .ok (.ireturn, 1) := by decide +kernel
theorem dX4_same_16 : decode cX4_same 16 = .ok (.bipush 9, 2) := by decide +kernel
theorem dX4_same_18 : decode cX4_same 18 = .ok (.aload_n 0, 1) := by decide +kernel
theorem dX4_same_19 : decode cX4_same 19 = .ok (.getfield 12, 3) := by decide +kernel
theorem dX4_same_22 : decode cX4_same 22 = .ok (.getfield 102, 3) := by decide +kernel
theorem dX4_same_25 : decode cX4_same 25 = .ok (.iload_n 1, 1) := by decide +kernel
theorem dX4_same_26 : decode cX4_same 26 = .ok (.iaload, 1) := by decide +kernel
theorem dX4_same_27 : decode cX4_same 27 = .ok (.aload_n 0, 1) := by decide +kernel
theorem dX4_same_28 : decode cX4_same 28 = .ok (.getfield 12, 3) := by decide +kernel
theorem dX4_same_31 : decode cX4_same 31 = .ok (.getfield 102, 3) := by decide +kernel
theorem dX4_same_34 : decode cX4_same 34 = .ok (.iload_n 2, 1) := by decide +kernel
theorem dX4_same_35 : decode cX4_same 35 = .ok (.iaload, 1) := by decide +kernel
theorem dX4_same_36 : decode cX4_same 36 = .ok (.invokestatic 123, 3) := by decide +kernel
theorem dX4_same_39 : decode cX4_same 39 = .ok (.invokestatic 126, 3) := by decide +kernel
theorem dX4_same_42 : decode cX4_same 42 = .ok (.isub, 1) := by decide +kernel
theorem dX4_same_43 : decode cX4_same 43 = .ok (.ireturn, 1) := by decide +kernel
theorem dX4_heir_0 : decode cX4_heir 0 = .ok (.aload_n 0, 1) := by decide +kernel
theorem dX4_heir_1 : decode cX4_heir 1 = .ok (.iload_n 1, 1) := by decide +kernel
theorem dX4_heir_2 : decode cX4_heir 2 = .ok (.invokevirtual 72, 3) := by decide +kernel
theorem dX4_heir_5 : decode cX4_heir 5 = .ok (.ifCond .ne 10, 3) := by decide +kernel
theorem dX4_heir_8 : decode cX4_heir 8 = .ok (.aload_n 0, 1) := by decide +kernel
theorem dX4_heir_9 : decode cX4_heir 9 = .ok (.ldc 44, 2) := by decide +kernel
theorem dX4_heir_11 : decode cX4_heir 11 = .ok (.invokevirtual 45, 3) := by decide +kernel
theorem dX4_heir_14 : decode cX4_heir 14 = .ok (.ireturn, 1) := by decide +kernel
theorem dX4_heir_15 : decode cX4_heir 15 = .ok (.aload_n 0, 1) := by decide +kernel
theorem dX4_heir_16 : decode cX4_heir 16 = .ok (.getfield 12, 3) := by decide +kernel
theorem dX4_heir_19 : decode cX4_heir 19 = .ok (.iload_n 1, 1) := by decide +kernel
theorem dX4_heir_20 : decode cX4_heir 20 = .ok (.invokevirtual 131, 3) := by decide +kernel
theorem dX4_heir_23 : decode cX4_heir 23 = .ok (.istore_n 2, 1) := by decide +kernel
theorem dX4_heir_24 : decode cX4_heir 24 = .ok (.iload_n 2, 1) := by decide +kernel
theorem dX4_heir_25 : decode cX4_heir 25 = .ok (.iconst (-1), 1) := by decide +kernel
theorem dX4_heir_26 : decode cX4_heir 26 = .ok (.if_icmp .ne 12, 3) := by decide +kernel
theorem dX4_heir_29 : decode cX4_heir 29 = .ok (.aload_n 0, 1) := by decide +kernel
theorem dX4_heir_30 : decode cX4_heir 30 = .ok (.ldc 134, 2) := by decide +kernel
theorem dX4_heir_32 : decode cX4_heir 32 = .ok (.invokevirtual 45, 3) := by decide +kernel
theorem dX4_heir_35 : decode cX4_heir 35 = .ok (.goto 4, 3) := by decide +kernel
theorem dX4_heir_38 : decode cX4_heir 38 = .ok (.iload_n 2, 1) := by decide +kernel
theorem dX4_heir_39 : decode cX4_heir 39 = .ok (.ireturn, 1) := by decide +kernel
theorem dX4_heirOf_0 : decode cX4_heirOf 0 = .ok (.aload_n 0, 1) := by decide +kernel
theorem dX4_heirOf_1 : decode cX4_heirOf 1 = .ok (.iload_n 1, 1) := by decide +kernel
theorem dX4_heirOf_2 : decode cX4_heirOf 2 = .ok (.invokevirtual 72, 3) := by decide +kernel
theorem dX4_heirOf_5 : decode cX4_heirOf 5 = .ok (.ifCond .eq 14, 3) := by decide +kernel
theorem dX4_heirOf_8 : decode cX4_heirOf 8 = .ok (.aload_n 0, 1) := by decide +kernel
theorem dX4_heirOf_9 : decode cX4_heirOf 9 = .ok (.getfield 12, 3) := by decide +kernel
theorem dX4_heirOf_12 : decode cX4_heirOf 12 = .ok (.iload_n 1, 1) := by decide +kernel
theorem dX4_heirOf_13 : decode cX4_heirOf 13 = .ok (.invokevirtual 135, 3) := by decide +kernel
theorem dX4_heirOf_16 : decode cX4_heirOf 16 = .ok (.goto 9, 3) := by decide +kernel
theorem dX4_heirOf_19 : decode cX4_heirOf 19 = .ok (.aload_n 0, 1) := by decide +kernel
theorem dX4_heirOf_20 : decode cX4_heirOf 20 = .ok (.ldc 44, 2) := by decide +kernel
theorem dX4_heirOf_22 : decode cX4_heirOf 22 = .ok (.invokevirtual 45, 3) := by decide +kernel
theorem dX4_heirOf_25 : decode cX4_heirOf 25 = .ok (.ireturn, 1) := by decide +kernel
theorem dX4_watched_0 : decode cX4_watched 0 = .ok (.aload_n 0, 1) := by decide +kernel
theorem dX4_watched_1 : decode cX4_watched 1 = .ok (.iload_n 1, 1) := by decide +kernel
theorem dX4_watched_2 : decode cX4_watched 2 = .ok (.invokevirtual 72, 3) := by decide +kernel
theorem dX4_watched_5 : decode cX4_watched 5 = .ok (.ifCond .eq 14, 3) := by decide +kernel
theorem dX4_watched_8 : decode cX4_watched 8 = .ok (.aload_n 0, 1) := by decide +kernel
theorem dX4_watched_9 : decode cX4_watched 9 = .ok (.getfield 12, 3) := by decide +kernel
theorem dX4_watched_12 : decode cX4_watched 12 = .ok (.iload_n 1, 1) := by decide +kernel
theorem dX4_watched_13 : decode cX4_watched 13 = .ok (.invokevirtual 138, 3) := by decide +kernel
theorem dX4_watched_16 : decode cX4_watched 16 = .ok (.goto 9, 3) := by decide +kernel
theorem dX4_watched_19 : decode cX4_watched 19 = .ok (.aload_n 0, 1) := by decide +kernel
theorem dX4_watched_20 : decode cX4_watched 20 = .ok (.ldc 44, 2) := by decide +kernel
theorem dX4_watched_22 : decode cX4_watched 22 = .ok (.invokevirtual 45, 3) := by decide +kernel
theorem dX4_watched_25 : decode cX4_watched 25 = .ok (.ireturn, 1) := by decide +kernel
theorem dX4_changes_0 : decode cX4_changes 0 = .ok (.aload_n 0, 1) := by decide +kernel
theorem dX4_changes_1 : decode cX4_changes 1 = .ok (.iload_n 1, 1) := by decide +kernel
theorem dX4_changes_2 : decode cX4_changes 2 = .ok (.invokevirtual 72, 3) := by decide +kernel
theorem dX4_changes_5 : decode cX4_changes 5 = .ok (.ifCond .ne 10, 3) := by decide +kernel
theorem dX4_changes_8 : decode cX4_changes 8 = .ok (.aload_n 0, 1) := by decide +kernel
theorem dX4_changes_9 : decode cX4_changes 9 = .ok (.ldc 44, 2) := by decide +kernel
theorem dX4_changes_11 : decode cX4_changes 11 = .ok (.invokevirtual 45, 3) := by decide +kernel
theorem dX4_changes_14 : decode cX4_changes 14 = .ok (.ireturn, 1) := by decide +kernel
theorem dX4_changes_15 : decode cX4_changes 15 = .ok (.aload_n 0, 1) := by decide +kernel
theorem dX4_changes_16 : decode cX4_changes 16 = .ok (.getfield 12, 3) := by decide +kernel
theorem dX4_changes_19 : decode cX4_changes 19 = .ok (.iload_n 1, 1) := by decide +kernel
theorem dX4_changes_20 : decode cX4_changes 20 = .ok (.invokevirtual 90, 3) := by decide +kernel
theorem dX4_changes_23 : decode cX4_changes 23 = .ok (.ifCond .eq 14, 3) := by decide +kernel
theorem dX4_changes_26 : decode cX4_changes 26 = .ok (.aload_n 0, 1) := by decide +kernel
theorem dX4_changes_27 : decode cX4_changes 27 = .ok (.getfield 12, 3) := by decide +kernel
theorem dX4_changes_30 : decode cX4_changes 30 = .ok (.iload_n 1, 1) := by decide +kernel
theorem dX4_changes_31 : decode cX4_changes 31 = .ok (.invokevirtual 141, 3) := by decide +kernel
theorem dX4_changes_34 : decode cX4_changes 34 = .ok (.goto 4, 3) := by decide +kernel
theorem dX4_changes_37 : decode cX4_changes 37 = .ok (.iconst (-1), 1) := by decide +kernel
theorem dX4_changes_38 : decode cX4_changes 38 = .ok (.istore_n 2, 1) := by decide +kernel
theorem dX4_changes_39 : decode cX4_changes 39 = .ok (.iload_n 2, 1) := by decide +kernel
theorem dX4_changes_40 : decode cX4_changes 40 = .ok (.iconst (-1), 1) := by decide +kernel
theorem dX4_changes_41 : decode cX4_changes 41 = .ok (.if_icmp .ne 12, 3) := by decide +kernel
theorem dX4_changes_44 : decode cX4_changes 44 = .ok (.aload_n 0, 1) := by decide +kernel
theorem dX4_changes_45 : decode cX4_changes 45 = .ok (.ldc 134, 2) := by decide +kernel
theorem dX4_changes_47 : decode cX4_changes 47 = .ok (.invokevirtual 45, 3) := by decide +kernel
theorem dX4_changes_50 : decode cX4_changes 50 = .ok (.goto 7, 3) := by decide +kernel
theorem dX4_changes_53 : decode cX4_changes 53 = .ok (.iload_n 2, 1) := by decide +kernel
theorem dX4_changes_54 : decode cX4_changes 54 = .ok (.bipush 10, 2) := by decide +kernel
theorem dX4_changes_56 : decode cX4_changes 56 = .ok (.idiv, 1) := by decide +kernel
theorem dX4_changes_57 : decode cX4_changes 57 = .ok (.ireturn, 1) := by decide +kernel
theorem dX4_years_0 : decode cX4_years 0 = .ok (.iload_n 1, 1) := by decide +kernel
theorem dX4_years_1 : decode cX4_years 1 = .ok (.iconst 1, 1) := by decide +kernel
theorem dX4_years_2 : decode cX4_years 2 = .ok (.bipush 100, 2) := by decide +kernel
theorem dX4_years_4 : decode cX4_years 4 = .ok (.invokestatic 40, 3) := by decide +kernel
theorem dX4_years_7 : decode cX4_years 7 = .ok (.ifCond .ne 10, 3) := by decide +kernel
theorem dX4_years_10 : decode cX4_years 10 = .ok (.aload_n 0, 1) := by decide +kernel
theorem dX4_years_11 : decode cX4_years 11 = .ok (.ldc 44, 2) := by decide +kernel
theorem dX4_years_13 : decode cX4_years 13 = .ok (.invokevirtual 45, 3) := by decide +kernel
theorem dX4_years_16 : decode cX4_years 16 = .ok (.ireturn, 1) := by decide +kernel
theorem dX4_years_17 : decode cX4_years 17 = .ok (.aload_n 0, 1) := by decide +kernel
theorem dX4_years_18 : decode cX4_years 18 = .ok (.iload_n 1, 1) := by decide +kernel
theorem dX4_years_19 : decode cX4_years 19 = .ok (.invokevirtual 144, 3) := by decide +kernel
theorem dX4_years_22 : decode cX4_years 22 = .ok (.ifCond .eq 10, 3) := by decide +kernel
theorem dX4_years_25 : decode cX4_years 25 = .ok (.aload_n 0, 1) := by decide +kernel
theorem dX4_years_26 : decode cX4_years 26 = .ok (.ldc 147, 2) := by decide +kernel
theorem dX4_years_28 : decode cX4_years 28 = .ok (.invokevirtual 45, 3) := by decide +kernel
theorem dX4_years_31 : decode cX4_years 31 = .ok (.ireturn, 1) := by decide +kernel
theorem dX4_years_32 : decode cX4_years 32 = .ok (.aload_n 0, 1) := by decide +kernel
theorem dX4_years_33 : decode cX4_years 33 = .ok (.getfield 12, 3) := by decide +kernel
theorem dX4_years_36 : decode cX4_years 36 = .ok (.iload_n 1, 1) := by decide +kernel
theorem dX4_years_37 : decode cX4_years 37 = .ok (.invokevirtual 148, 3) := by decide +kernel
theorem dX4_years_40 : decode cX4_years 40 = .ok (.ireturn, 1) := by decide +kernel
theorem dX4_dies_0 : decode cX4_dies 0 = .ok (.aload_n 0, 1) := by decide +kernel
theorem dX4_dies_1 : decode cX4_dies 1 = .ok (.iload_n 1, 1) := by decide +kernel
theorem dX4_dies_2 : decode cX4_dies 2 = .ok (.invokevirtual 72, 3) := by decide +kernel
theorem dX4_dies_5 : decode cX4_dies 5 = .ok (.ifCond .ne 10, 3) := by decide +kernel
theorem dX4_dies_8 : decode cX4_dies 8 = .ok (.aload_n 0, 1) := by decide +kernel
theorem dX4_dies_9 : decode cX4_dies 9 = .ok (.ldc 44, 2) := by decide +kernel
theorem dX4_dies_11 : decode cX4_dies 11 = .ok (.invokevirtual 45, 3) := by decide +kernel
theorem dX4_dies_14 : decode cX4_dies 14 = .ok (.ireturn, 1) := by decide +kernel
theorem dX4_dies_15 : decode cX4_dies 15 = .ok (.aload_n 0, 1) := by decide +kernel
theorem dX4_dies_16 : decode cX4_dies 16 = .ok (.getfield 12, 3) := by decide +kernel
theorem dX4_dies_19 : decode cX4_dies 19 = .ok (.iload_n 1, 1) := by decide +kernel
theorem dX4_dies_20 : decode cX4_dies 20 = .ok (.invokevirtual 90, 3) := by decide +kernel
theorem dX4_dies_23 : decode cX4_dies 23 = .ok (.ifCond .ne 10, 3) := by decide +kernel
theorem dX4_dies_26 : decode cX4_dies 26 = .ok (.aload_n 0, 1) := by decide +kernel
theorem dX4_dies_27 : decode cX4_dies 27 = .ok (.ldc 147, 2) := by decide +kernel
theorem dX4_dies_29 : decode cX4_dies 29 = .ok (.invokevirtual 45, 3) := by decide +kernel
theorem dX4_dies_32 : decode cX4_dies 32 = .ok (.ireturn, 1) := by decide +kernel
theorem dX4_dies_33 : decode cX4_dies 33 = .ok (.aload_n 0, 1) := by decide +kernel
theorem dX4_dies_34 : decode cX4_dies 34 = .ok (.getfield 12, 3) := by decide +kernel
theorem dX4_dies_37 : decode cX4_dies 37 = .ok (.iload_n 1, 1) := by decide +kernel
theorem dX4_dies_38 : decode cX4_dies 38 = .ok (.invokevirtual 151, 3) := by decide +kernel
theorem dX4_dies_41 : decode cX4_dies 41 = .ok (.ireturn, 1) := by decide +kernel
theorem dX4_now_0 : decode cX4_now 0 = .ok (.iload_n 1, 1) := by decide +kernel
theorem dX4_now_1 : decode cX4_now 1 = .ok (.tableswitch 80 0 3 #[31, 39, 47, 58], 31) := by decide +kernel
theorem dX4_now_32 : decode cX4_now 32 = .ok (.aload_n 0, 1) := by decide +kernel
theorem dX4_now_33 : decode cX4_now 33 = .ok (.getfield 12, 3) := by decide +kernel
theorem dX4_now_36 : decode cX4_now 36 = .ok (.getfield 154, 3) := by decide +kernel
theorem dX4_now_39 : decode cX4_now 39 = .ok (.ireturn, 1) := by decide +kernel
theorem dX4_now_40 : decode cX4_now 40 = .ok (.aload_n 0, 1) := by decide +kernel
theorem dX4_now_41 : decode cX4_now 41 = .ok (.getfield 12, 3) := by decide +kernel
theorem dX4_now_44 : decode cX4_now 44 = .ok (.getfield 60, 3) := by decide +kernel
theorem dX4_now_47 : decode cX4_now 47 = .ok (.ireturn, 1) := by decide +kernel
theorem dX4_now_48 : decode cX4_now 48 = .ok (.aload_n 0, 1) := by decide +kernel
theorem dX4_now_49 : decode cX4_now 49 = .ok (.getfield 12, 3) := by decide +kernel
theorem dX4_now_52 : decode cX4_now 52 = .ok (.getfield 157, 3) := by decide +kernel
theorem dX4_now_55 : decode cX4_now 55 = .ok (.invokestatic 126, 3) := by decide +kernel
theorem dX4_now_58 : decode cX4_now 58 = .ok (.ireturn, 1) := by decide +kernel
theorem dX4_now_59 : decode cX4_now 59 = .ok (.aload_n 0, 1) := by decide +kernel
theorem dX4_now_60 : decode cX4_now 60 = .ok (.getfield 12, 3) := by decide +kernel
theorem dX4_now_63 : decode cX4_now 63 = .ok (.aload_n 0, 1) := by decide +kernel
theorem dX4_now_64 : decode cX4_now 64 = .ok (.getfield 12, 3) := by decide +kernel
theorem dX4_now_67 : decode cX4_now 67 = .ok (.getfield 81, 3) := by decide +kernel
theorem dX4_now_70 : decode cX4_now 70 = .ok (.aload_n 0, 1) := by decide +kernel
theorem dX4_now_71 : decode cX4_now 71 = .ok (.getfield 12, 3) := by decide +kernel
theorem dX4_now_74 : decode cX4_now 74 = .ok (.getfield 157, 3) := by decide +kernel
theorem dX4_now_77 : decode cX4_now 77 = .ok (.invokevirtual 160, 3) := by decide +kernel
theorem dX4_now_80 : decode cX4_now 80 = .ok (.ireturn, 1) := by decide +kernel
theorem dX4_now_81 : decode cX4_now 81 = .ok (.aload_n 0, 1) := by decide +kernel
theorem dX4_now_82 : decode cX4_now 82 = .ok (.ldc 44, 2) := by decide +kernel
theorem dX4_now_84 : decode cX4_now 84 = .ok (.invokevirtual 45, 3) := by decide +kernel
theorem dX4_now_87 : decode cX4_now 87 = .ok (.ireturn, 1) := by decide +kernel
theorem dX4_on_0 : decode cX4_on 0 = .ok (.aload_n 0, 1) := by decide +kernel
theorem dX4_on_1 : decode cX4_on 1 = .ok (.iload_n 1, 1) := by decide +kernel
theorem dX4_on_2 : decode cX4_on 2 = .ok (.invokevirtual 72, 3) := by decide +kernel
theorem dX4_on_5 : decode cX4_on 5 = .ok (.ifCond .eq 13, 3) := by decide +kernel
theorem dX4_on_8 : decode cX4_on 8 = .ok (.iload_n 2, 1) := by decide +kernel
theorem dX4_on_9 : decode cX4_on 9 = .ok (.iconst 0, 1) := by decide +kernel
theorem dX4_on_10 : decode cX4_on 10 = .ok (.bipush 100, 2) := by decide +kernel
theorem dX4_on_12 : decode cX4_on 12 = .ok (.invokestatic 40, 3) := by decide +kernel
theorem dX4_on_15 : decode cX4_on 15 = .ok (.ifCond .ne 10, 3) := by decide +kernel
theorem dX4_on_18 : decode cX4_on 18 = .ok (.aload_n 0, 1) := by decide +kernel
theorem dX4_on_19 : decode cX4_on 19 = .ok (.ldc 44, 2) := by decide +kernel
theorem dX4_on_21 : decode cX4_on 21 = .ok (.invokevirtual 45, 3) := by decide +kernel
theorem dX4_on_24 : decode cX4_on 24 = .ok (.ireturn, 1) := by decide +kernel
theorem dX4_on_25 : decode cX4_on 25 = .ok (.aload_n 0, 1) := by decide +kernel
theorem dX4_on_26 : decode cX4_on 26 = .ok (.iload_n 2, 1) := by decide +kernel
theorem dX4_on_27 : decode cX4_on 27 = .ok (.invokevirtual 144, 3) := by decide +kernel
theorem dX4_on_30 : decode cX4_on 30 = .ok (.ifCond .eq 10, 3) := by decide +kernel
theorem dX4_on_33 : decode cX4_on 33 = .ok (.aload_n 0, 1) := by decide +kernel
theorem dX4_on_34 : decode cX4_on 34 = .ok (.ldc 147, 2) := by decide +kernel
theorem dX4_on_36 : decode cX4_on 36 = .ok (.invokevirtual 45, 3) := by decide +kernel
theorem dX4_on_39 : decode cX4_on 39 = .ok (.ireturn, 1) := by decide +kernel
theorem dX4_on_40 : decode cX4_on 40 = .ok (.aload_n 0, 1) := by decide +kernel
theorem dX4_on_41 : decode cX4_on 41 = .ok (.getfield 19, 3) := by decide +kernel
theorem dX4_on_44 : decode cX4_on 44 = .ok (.aload_n 0, 1) := by decide +kernel
theorem dX4_on_45 : decode cX4_on 45 = .ok (.getfield 12, 3) := by decide +kernel
theorem dX4_on_48 : decode cX4_on 48 = .ok (.invokevirtual 164, 3) := by decide +kernel
theorem dX4_on_51 : decode cX4_on 51 = .ok (.aload_n 0, 1) := by decide +kernel
theorem dX4_on_52 : decode cX4_on 52 = .ok (.getfield 19, 3) := by decide +kernel
theorem dX4_on_55 : decode cX4_on 55 = .ok (.iload_n 2, 1) := by decide +kernel
theorem dX4_on_56 : decode cX4_on 56 = .ok (.invokevirtual 148, 3) := by decide +kernel
theorem dX4_on_59 : decode cX4_on 59 = .ok (.pop, 1) := by decide +kernel
theorem dX4_on_60 : decode cX4_on 60 = .ok (.aload_n 0, 1) := by decide +kernel
theorem dX4_on_61 : decode cX4_on 61 = .ok (.getfield 19, 3) := by decide +kernel
theorem dX4_on_64 : decode cX4_on 64 = .ok (.getfield 81, 3) := by decide +kernel
theorem dX4_on_67 : decode cX4_on 67 = .ok (.iload_n 1, 1) := by decide +kernel
theorem dX4_on_68 : decode cX4_on 68 = .ok (.iaload, 1) := by decide +kernel
theorem dX4_on_69 : decode cX4_on 69 = .ok (.ireturn, 1) := by decide +kernel
theorem dX4_living_0 : decode cX4_living 0 = .ok (.iload_n 1, 1) := by decide +kernel
theorem dX4_living_1 : decode cX4_living 1 = .ok (.iconst 0, 1) := by decide +kernel
theorem dX4_living_2 : decode cX4_living 2 = .ok (.bipush 100, 2) := by decide +kernel
theorem dX4_living_4 : decode cX4_living 4 = .ok (.invokestatic 40, 3) := by decide +kernel
theorem dX4_living_7 : decode cX4_living 7 = .ok (.ifCond .ne 10, 3) := by decide +kernel
theorem dX4_living_10 : decode cX4_living 10 = .ok (.aload_n 0, 1) := by decide +kernel
theorem dX4_living_11 : decode cX4_living 11 = .ok (.ldc 44, 2) := by decide +kernel
theorem dX4_living_13 : decode cX4_living 13 = .ok (.invokevirtual 45, 3) := by decide +kernel
theorem dX4_living_16 : decode cX4_living 16 = .ok (.ireturn, 1) := by decide +kernel
theorem dX4_living_17 : decode cX4_living 17 = .ok (.aload_n 0, 1) := by decide +kernel
theorem dX4_living_18 : decode cX4_living 18 = .ok (.iload_n 1, 1) := by decide +kernel
theorem dX4_living_19 : decode cX4_living 19 = .ok (.invokevirtual 144, 3) := by decide +kernel
theorem dX4_living_22 : decode cX4_living 22 = .ok (.ifCond .eq 10, 3) := by decide +kernel
theorem dX4_living_25 : decode cX4_living 25 = .ok (.aload_n 0, 1) := by decide +kernel
theorem dX4_living_26 : decode cX4_living 26 = .ok (.ldc 147, 2) := by decide +kernel
theorem dX4_living_28 : decode cX4_living 28 = .ok (.invokevirtual 45, 3) := by decide +kernel
theorem dX4_living_31 : decode cX4_living 31 = .ok (.ireturn, 1) := by decide +kernel
theorem dX4_living_32 : decode cX4_living 32 = .ok (.aload_n 0, 1) := by decide +kernel
theorem dX4_living_33 : decode cX4_living 33 = .ok (.getfield 19, 3) := by decide +kernel
theorem dX4_living_36 : decode cX4_living 36 = .ok (.aload_n 0, 1) := by decide +kernel
theorem dX4_living_37 : decode cX4_living 37 = .ok (.getfield 12, 3) := by decide +kernel
theorem dX4_living_40 : decode cX4_living 40 = .ok (.invokevirtual 164, 3) := by decide +kernel
theorem dX4_living_43 : decode cX4_living 43 = .ok (.aload_n 0, 1) := by decide +kernel
theorem dX4_living_44 : decode cX4_living 44 = .ok (.getfield 19, 3) := by decide +kernel
theorem dX4_living_47 : decode cX4_living 47 = .ok (.iload_n 1, 1) := by decide +kernel
theorem dX4_living_48 : decode cX4_living 48 = .ok (.invokevirtual 148, 3) := by decide +kernel
theorem dX4_living_51 : decode cX4_living 51 = .ok (.pop, 1) := by decide +kernel
theorem dX4_living_52 : decode cX4_living 52 = .ok (.aload_n 0, 1) := by decide +kernel
theorem dX4_living_53 : decode cX4_living 53 = .ok (.getfield 19, 3) := by decide +kernel
theorem dX4_living_56 : decode cX4_living 56 = .ok (.getfield 157, 3) := by decide +kernel
theorem dX4_living_59 : decode cX4_living 59 = .ok (.ireturn, 1) := by decide +kernel
theorem dX4_rich_0 : decode cX4_rich 0 = .ok (.iload_n 1, 1) := by decide +kernel
theorem dX4_rich_1 : decode cX4_rich 1 = .ok (.iconst 0, 1) := by decide +kernel
theorem dX4_rich_2 : decode cX4_rich 2 = .ok (.bipush 100, 2) := by decide +kernel
theorem dX4_rich_4 : decode cX4_rich 4 = .ok (.invokestatic 40, 3) := by decide +kernel
theorem dX4_rich_7 : decode cX4_rich 7 = .ok (.ifCond .ne 10, 3) := by decide +kernel
theorem dX4_rich_10 : decode cX4_rich 10 = .ok (.aload_n 0, 1) := by decide +kernel
theorem dX4_rich_11 : decode cX4_rich 11 = .ok (.ldc 44, 2) := by decide +kernel
theorem dX4_rich_13 : decode cX4_rich 13 = .ok (.invokevirtual 45, 3) := by decide +kernel
theorem dX4_rich_16 : decode cX4_rich 16 = .ok (.ireturn, 1) := by decide +kernel
theorem dX4_rich_17 : decode cX4_rich 17 = .ok (.aload_n 0, 1) := by decide +kernel
theorem dX4_rich_18 : decode cX4_rich 18 = .ok (.iload_n 1, 1) := by decide +kernel
theorem dX4_rich_19 : decode cX4_rich 19 = .ok (.invokevirtual 144, 3) := by decide +kernel
theorem dX4_rich_22 : decode cX4_rich 22 = .ok (.ifCond .eq 10, 3) := by decide +kernel
theorem dX4_rich_25 : decode cX4_rich 25 = .ok (.aload_n 0, 1) := by decide +kernel
theorem dX4_rich_26 : decode cX4_rich 26 = .ok (.ldc 147, 2) := by decide +kernel
theorem dX4_rich_28 : decode cX4_rich 28 = .ok (.invokevirtual 45, 3) := by decide +kernel
theorem dX4_rich_31 : decode cX4_rich 31 = .ok (.ireturn, 1) := by decide +kernel
theorem dX4_rich_32 : decode cX4_rich 32 = .ok (.aload_n 0, 1) := by decide +kernel
theorem dX4_rich_33 : decode cX4_rich 33 = .ok (.getfield 19, 3) := by decide +kernel
theorem dX4_rich_36 : decode cX4_rich 36 = .ok (.aload_n 0, 1) := by decide +kernel
theorem dX4_rich_37 : decode cX4_rich 37 = .ok (.getfield 12, 3) := by decide +kernel
theorem dX4_rich_40 : decode cX4_rich 40 = .ok (.invokevirtual 164, 3) := by decide +kernel
theorem dX4_rich_43 : decode cX4_rich 43 = .ok (.aload_n 0, 1) := by decide +kernel
theorem dX4_rich_44 : decode cX4_rich 44 = .ok (.getfield 19, 3) := by decide +kernel
theorem dX4_rich_47 : decode cX4_rich 47 = .ok (.iload_n 1, 1) := by decide +kernel
theorem dX4_rich_48 : decode cX4_rich 48 = .ok (.invokevirtual 148, 3) := by decide +kernel
theorem dX4_rich_51 : decode cX4_rich 51 = .ok (.pop, 1) := by decide +kernel
theorem dX4_rich_52 : decode cX4_rich 52 = .ok (.aload_n 0, 1) := by decide +kernel
theorem dX4_rich_53 : decode cX4_rich 53 = .ok (.getfield 19, 3) := by decide +kernel
theorem dX4_rich_56 : decode cX4_rich 56 = .ok (.iconst (-1), 1) := by decide +kernel
theorem dX4_rich_57 : decode cX4_rich 57 = .ok (.invokevirtual 168, 3) := by decide +kernel
theorem dX4_rich_60 : decode cX4_rich 60 = .ok (.istore_n 2, 1) := by decide +kernel
theorem dX4_rich_61 : decode cX4_rich 61 = .ok (.iload_n 2, 1) := by decide +kernel
theorem dX4_rich_62 : decode cX4_rich 62 = .ok (.iconst (-1), 1) := by decide +kernel
theorem dX4_rich_63 : decode cX4_rich 63 = .ok (.if_icmp .ne 12, 3) := by decide +kernel
theorem dX4_rich_66 : decode cX4_rich 66 = .ok (.aload_n 0, 1) := by decide +kernel
theorem dX4_rich_67 : decode cX4_rich 67 = .ok (.ldc 134, 2) := by decide +kernel
theorem dX4_rich_69 : decode cX4_rich 69 = .ok (.invokevirtual 45, 3) := by decide +kernel
theorem dX4_rich_72 : decode cX4_rich 72 = .ok (.goto 4, 3) := by decide +kernel
theorem dX4_rich_75 : decode cX4_rich 75 = .ok (.iload_n 2, 1) := by decide +kernel
theorem dX4_rich_76 : decode cX4_rich 76 = .ok (.ireturn, 1) := by decide +kernel
theorem dX4_when_0 : decode cX4_when 0 = .ok (.aload_n 0, 1) := by decide +kernel
theorem dX4_when_1 : decode cX4_when 1 = .ok (.iload_n 1, 1) := by decide +kernel
theorem dX4_when_2 : decode cX4_when 2 = .ok (.invokevirtual 72, 3) := by decide +kernel
theorem dX4_when_5 : decode cX4_when 5 = .ok (.ifCond .ne 10, 3) := by decide +kernel
theorem dX4_when_8 : decode cX4_when 8 = .ok (.aload_n 0, 1) := by decide +kernel
theorem dX4_when_9 : decode cX4_when 9 = .ok (.ldc 44, 2) := by decide +kernel
theorem dX4_when_11 : decode cX4_when 11 = .ok (.invokevirtual 45, 3) := by decide +kernel
theorem dX4_when_14 : decode cX4_when 14 = .ok (.ireturn, 1) := by decide +kernel
theorem dX4_when_15 : decode cX4_when 15 = .ok (.aload_n 0, 1) := by decide +kernel
theorem dX4_when_16 : decode cX4_when 16 = .ok (.bipush 100, 2) := by decide +kernel
theorem dX4_when_18 : decode cX4_when 18 = .ok (.invokevirtual 144, 3) := by decide +kernel
theorem dX4_when_21 : decode cX4_when 21 = .ok (.ifCond .eq 10, 3) := by decide +kernel
theorem dX4_when_24 : decode cX4_when 24 = .ok (.aload_n 0, 1) := by decide +kernel
theorem dX4_when_25 : decode cX4_when 25 = .ok (.ldc 147, 2) := by decide +kernel
theorem dX4_when_27 : decode cX4_when 27 = .ok (.invokevirtual 45, 3) := by decide +kernel
theorem dX4_when_30 : decode cX4_when 30 = .ok (.ireturn, 1) := by decide +kernel
theorem dX4_when_31 : decode cX4_when 31 = .ok (.aload_n 0, 1) := by decide +kernel
theorem dX4_when_32 : decode cX4_when 32 = .ok (.getfield 12, 3) := by decide +kernel
theorem dX4_when_35 : decode cX4_when 35 = .ok (.iload_n 1, 1) := by decide +kernel
theorem dX4_when_36 : decode cX4_when 36 = .ok (.invokevirtual 90, 3) := by decide +kernel
theorem dX4_when_39 : decode cX4_when 39 = .ok (.ifCond .ne 5, 3) := by decide +kernel
theorem dX4_when_42 : decode cX4_when 42 = .ok (.iconst 0, 1) := by decide +kernel
theorem dX4_when_43 : decode cX4_when 43 = .ok (.ireturn, 1) := by decide +kernel
theorem dX4_when_44 : decode cX4_when 44 = .ok (.aload_n 0, 1) := by decide +kernel
theorem dX4_when_45 : decode cX4_when 45 = .ok (.getfield 19, 3) := by decide +kernel
theorem dX4_when_48 : decode cX4_when 48 = .ok (.aload_n 0, 1) := by decide +kernel
theorem dX4_when_49 : decode cX4_when 49 = .ok (.getfield 12, 3) := by decide +kernel
theorem dX4_when_52 : decode cX4_when 52 = .ok (.invokevirtual 164, 3) := by decide +kernel
theorem dX4_when_55 : decode cX4_when 55 = .ok (.aload_n 0, 1) := by decide +kernel
theorem dX4_when_56 : decode cX4_when 56 = .ok (.getfield 19, 3) := by decide +kernel
theorem dX4_when_59 : decode cX4_when 59 = .ok (.bipush 100, 2) := by decide +kernel
theorem dX4_when_61 : decode cX4_when 61 = .ok (.invokevirtual 148, 3) := by decide +kernel
theorem dX4_when_64 : decode cX4_when 64 = .ok (.pop, 1) := by decide +kernel
theorem dX4_when_65 : decode cX4_when 65 = .ok (.aload_n 0, 1) := by decide +kernel
theorem dX4_when_66 : decode cX4_when 66 = .ok (.getfield 19, 3) := by decide +kernel
theorem dX4_when_69 : decode cX4_when 69 = .ok (.iload_n 1, 1) := by decide +kernel
theorem dX4_when_70 : decode cX4_when 70 = .ok (.invokevirtual 90, 3) := by decide +kernel
theorem dX4_when_73 : decode cX4_when 73 = .ok (.ifCond .eq 12, 3) := by decide +kernel
theorem dX4_when_76 : decode cX4_when 76 = .ok (.aload_n 0, 1) := by decide +kernel
theorem dX4_when_77 : decode cX4_when 77 = .ok (.ldc 134, 2) := by decide +kernel
theorem dX4_when_79 : decode cX4_when 79 = .ok (.invokevirtual 45, 3) := by decide +kernel
theorem dX4_when_82 : decode cX4_when 82 = .ok (.goto 20, 3) := by decide +kernel
theorem dX4_when_85 : decode cX4_when 85 = .ok (.aload_n 0, 1) := by decide +kernel
theorem dX4_when_86 : decode cX4_when 86 = .ok (.getfield 19, 3) := by decide +kernel
theorem dX4_when_89 : decode cX4_when 89 = .ok (.getfield 171, 3) := by decide +kernel
theorem dX4_when_92 : decode cX4_when 92 = .ok (.iload_n 1, 1) := by decide +kernel
theorem dX4_when_93 : decode cX4_when 93 = .ok (.iaload, 1) := by decide +kernel
theorem dX4_when_94 : decode cX4_when 94 = .ok (.aload_n 0, 1) := by decide +kernel
theorem dX4_when_95 : decode cX4_when 95 = .ok (.getfield 12, 3) := by decide +kernel
theorem dX4_when_98 : decode cX4_when 98 = .ok (.getfield 154, 3) := by decide +kernel
theorem dX4_when_101 : decode cX4_when 101 = .ok (.isub, 1) := by decide +kernel
theorem dX4_when_102 : decode cX4_when 102 = .ok (.ireturn, 1) := by decide +kernel
theorem dX4_gets_0 : decode cX4_gets 0 = .ok (.aload_n 0, 1) := by decide +kernel
theorem dX4_gets_1 : decode cX4_gets 1 = .ok (.iload_n 1, 1) := by decide +kernel
theorem dX4_gets_2 : decode cX4_gets 2 = .ok (.invokevirtual 72, 3) := by decide +kernel
theorem dX4_gets_5 : decode cX4_gets 5 = .ok (.ifCond .ne 10, 3) := by decide +kernel
theorem dX4_gets_8 : decode cX4_gets 8 = .ok (.aload_n 0, 1) := by decide +kernel
theorem dX4_gets_9 : decode cX4_gets 9 = .ok (.ldc 44, 2) := by decide +kernel
theorem dX4_gets_11 : decode cX4_gets 11 = .ok (.invokevirtual 45, 3) := by decide +kernel
theorem dX4_gets_14 : decode cX4_gets 14 = .ok (.ireturn, 1) := by decide +kernel
theorem dX4_gets_15 : decode cX4_gets 15 = .ok (.aload_n 0, 1) := by decide +kernel
theorem dX4_gets_16 : decode cX4_gets 16 = .ok (.getfield 12, 3) := by decide +kernel
theorem dX4_gets_19 : decode cX4_gets 19 = .ok (.iload_n 1, 1) := by decide +kernel
theorem dX4_gets_20 : decode cX4_gets 20 = .ok (.invokevirtual 90, 3) := by decide +kernel
theorem dX4_gets_23 : decode cX4_gets 23 = .ok (.ifCond .eq 12, 3) := by decide +kernel
theorem dX4_gets_26 : decode cX4_gets 26 = .ok (.aload_n 0, 1) := by decide +kernel
theorem dX4_gets_27 : decode cX4_gets 27 = .ok (.bipush 100, 2) := by decide +kernel
theorem dX4_gets_29 : decode cX4_gets 29 = .ok (.invokevirtual 144, 3) := by decide +kernel
theorem dX4_gets_32 : decode cX4_gets 32 = .ok (.ifCond .eq 10, 3) := by decide +kernel
theorem dX4_gets_35 : decode cX4_gets 35 = .ok (.aload_n 0, 1) := by decide +kernel
theorem dX4_gets_36 : decode cX4_gets 36 = .ok (.ldc 147, 2) := by decide +kernel
theorem dX4_gets_38 : decode cX4_gets 38 = .ok (.invokevirtual 45, 3) := by decide +kernel
theorem dX4_gets_41 : decode cX4_gets 41 = .ok (.ireturn, 1) := by decide +kernel
theorem dX4_gets_42 : decode cX4_gets 42 = .ok (.aload_n 0, 1) := by decide +kernel
theorem dX4_gets_43 : decode cX4_gets 43 = .ok (.getfield 19, 3) := by decide +kernel
theorem dX4_gets_46 : decode cX4_gets 46 = .ok (.aload_n 0, 1) := by decide +kernel
theorem dX4_gets_47 : decode cX4_gets 47 = .ok (.getfield 12, 3) := by decide +kernel
theorem dX4_gets_50 : decode cX4_gets 50 = .ok (.invokevirtual 164, 3) := by decide +kernel
theorem dX4_gets_53 : decode cX4_gets 53 = .ok (.aload_n 0, 1) := by decide +kernel
theorem dX4_gets_54 : decode cX4_gets 54 = .ok (.getfield 19, 3) := by decide +kernel
theorem dX4_gets_57 : decode cX4_gets 57 = .ok (.bipush 100, 2) := by decide +kernel
theorem dX4_gets_59 : decode cX4_gets 59 = .ok (.invokevirtual 148, 3) := by decide +kernel
theorem dX4_gets_62 : decode cX4_gets 62 = .ok (.pop, 1) := by decide +kernel
theorem dX4_gets_63 : decode cX4_gets 63 = .ok (.aload_n 0, 1) := by decide +kernel
theorem dX4_gets_64 : decode cX4_gets 64 = .ok (.getfield 19, 3) := by decide +kernel
theorem dX4_gets_67 : decode cX4_gets 67 = .ok (.iload_n 1, 1) := by decide +kernel
theorem dX4_gets_68 : decode cX4_gets 68 = .ok (.invokevirtual 90, 3) := by decide +kernel
theorem dX4_gets_71 : decode cX4_gets 71 = .ok (.ifCond .eq 12, 3) := by decide +kernel
theorem dX4_gets_74 : decode cX4_gets 74 = .ok (.aload_n 0, 1) := by decide +kernel
theorem dX4_gets_75 : decode cX4_gets 75 = .ok (.ldc 134, 2) := by decide +kernel
theorem dX4_gets_77 : decode cX4_gets 77 = .ok (.invokevirtual 45, 3) := by decide +kernel
theorem dX4_gets_80 : decode cX4_gets 80 = .ok (.goto 12, 3) := by decide +kernel
theorem dX4_gets_83 : decode cX4_gets 83 = .ok (.aload_n 0, 1) := by decide +kernel
theorem dX4_gets_84 : decode cX4_gets 84 = .ok (.getfield 19, 3) := by decide +kernel
theorem dX4_gets_87 : decode cX4_gets 87 = .ok (.getfield 174, 3) := by decide +kernel
theorem dX4_gets_90 : decode cX4_gets 90 = .ok (.iload_n 1, 1) := by decide +kernel
theorem dX4_gets_91 : decode cX4_gets 91 = .ok (.iaload, 1) := by decide +kernel
theorem dX4_gets_92 : decode cX4_gets 92 = .ok (.ireturn, 1) := by decide +kernel
theorem dX4_change_0 : decode cX4_change 0 = .ok (.aload_n 0, 1) := by decide +kernel
theorem dX4_change_1 : decode cX4_change 1 = .ok (.iload_n 1, 1) := by decide +kernel
theorem dX4_change_2 : decode cX4_change 2 = .ok (.iload_n 2, 1) := by decide +kernel
theorem dX4_change_3 : decode cX4_change 3 = .ok (.invokevirtual 117, 3) := by decide +kernel
theorem dX4_change_6 : decode cX4_change 6 = .ok (.ifCond .ne 10, 3) := by decide +kernel
theorem dX4_change_9 : decode cX4_change 9 = .ok (.aload_n 0, 1) := by decide +kernel
theorem dX4_change_10 : decode cX4_change 10 = .ok (.ldc 44, 2) := by decide +kernel
theorem dX4_change_12 : decode cX4_change 12 = .ok (.invokevirtual 45, 3) := by decide +kernel
theorem dX4_change_15 : decode cX4_change 15 = .ok (.ireturn, 1) := by decide +kernel
theorem dX4_change_16 : decode cX4_change 16 = .ok (.aload_n 0, 1) := by decide +kernel
theorem dX4_change_17 : decode cX4_change 17 = .ok (.getfield 12, 3) := by decide +kernel
theorem dX4_change_20 : decode cX4_change 20 = .ok (.iload_n 1, 1) := by decide +kernel
theorem dX4_change_21 : decode cX4_change 21 = .ok (.invokevirtual 90, 3) := by decide +kernel
theorem dX4_change_24 : decode cX4_change 24 = .ok (.ifCond .eq 15, 3) := by decide +kernel
theorem dX4_change_27 : decode cX4_change 27 = .ok (.aload_n 0, 1) := by decide +kernel
theorem dX4_change_28 : decode cX4_change 28 = .ok (.getfield 12, 3) := by decide +kernel
theorem dX4_change_31 : decode cX4_change 31 = .ok (.iload_n 2, 1) := by decide +kernel
theorem dX4_change_32 : decode cX4_change 32 = .ok (.invokevirtual 131, 3) := by decide +kernel
theorem dX4_change_35 : decode cX4_change 35 = .ok (.iload_n 1, 1) := by decide +kernel
theorem dX4_change_36 : decode cX4_change 36 = .ok (.if_icmp .ne 10, 3) := by decide +kernel
theorem dX4_change_39 : decode cX4_change 39 = .ok (.aload_n 0, 1) := by decide +kernel
theorem dX4_change_40 : decode cX4_change 40 = .ok (.ldc 147, 2) := by decide +kernel
theorem dX4_change_42 : decode cX4_change 42 = .ok (.invokevirtual 45, 3) := by decide +kernel
theorem dX4_change_45 : decode cX4_change 45 = .ok (.ireturn, 1) := by decide +kernel
theorem dX4_change_46 : decode cX4_change 46 = .ok (.aload_n 0, 1) := by decide +kernel
theorem dX4_change_47 : decode cX4_change 47 = .ok (.iload_n 1, 1) := by decide +kernel
theorem dX4_change_48 : decode cX4_change 48 = .ok (.iload_n 2, 1) := by decide +kernel
theorem dX4_change_49 : decode cX4_change 49 = .ok (.iload_n 1, 1) := by decide +kernel
theorem dX4_change_50 : decode cX4_change 50 = .ok (.invokevirtual 177, 3) := by decide +kernel
theorem dX4_change_53 : decode cX4_change 53 = .ok (.istore_n 3, 1) := by decide +kernel
theorem dX4_change_54 : decode cX4_change 54 = .ok (.iload_n 3, 1) := by decide +kernel
theorem dX4_change_55 : decode cX4_change 55 = .ok (.iconst (-1), 1) := by decide +kernel
theorem dX4_change_56 : decode cX4_change 56 = .ok (.if_icmp .ne 12, 3) := by decide +kernel
theorem dX4_change_59 : decode cX4_change 59 = .ok (.aload_n 0, 1) := by decide +kernel
theorem dX4_change_60 : decode cX4_change 60 = .ok (.ldc 134, 2) := by decide +kernel
theorem dX4_change_62 : decode cX4_change 62 = .ok (.invokevirtual 45, 3) := by decide +kernel
theorem dX4_change_65 : decode cX4_change 65 = .ok (.goto 4, 3) := by decide +kernel
theorem dX4_change_68 : decode cX4_change 68 = .ok (.iload_n 3, 1) := by decide +kernel
theorem dX4_change_69 : decode cX4_change 69 = .ok (.ireturn, 1) := by decide +kernel
theorem dX4_fewest_0 : decode cX4_fewest 0 = .ok (.aload_n 0, 1) := by decide +kernel
theorem dX4_fewest_1 : decode cX4_fewest 1 = .ok (.iload_n 1, 1) := by decide +kernel
theorem dX4_fewest_2 : decode cX4_fewest 2 = .ok (.iload_n 2, 1) := by decide +kernel
theorem dX4_fewest_3 : decode cX4_fewest 3 = .ok (.invokevirtual 117, 3) := by decide +kernel
theorem dX4_fewest_6 : decode cX4_fewest 6 = .ok (.ifCond .ne 10, 3) := by decide +kernel
theorem dX4_fewest_9 : decode cX4_fewest 9 = .ok (.aload_n 0, 1) := by decide +kernel
theorem dX4_fewest_10 : decode cX4_fewest 10 = .ok (.ldc 44, 2) := by decide +kernel
theorem dX4_fewest_12 : decode cX4_fewest 12 = .ok (.invokevirtual 45, 3) := by decide +kernel
theorem dX4_fewest_15 : decode cX4_fewest 15 = .ok (.ireturn, 1) := by decide +kernel
theorem dX4_fewest_16 : decode cX4_fewest 16 = .ok (.aload_n 0, 1) := by decide +kernel
theorem dX4_fewest_17 : decode cX4_fewest 17 = .ok (.getfield 12, 3) := by decide +kernel
theorem dX4_fewest_20 : decode cX4_fewest 20 = .ok (.iload_n 1, 1) := by decide +kernel
theorem dX4_fewest_21 : decode cX4_fewest 21 = .ok (.invokevirtual 90, 3) := by decide +kernel
theorem dX4_fewest_24 : decode cX4_fewest 24 = .ok (.ifCond .ne 10, 3) := by decide +kernel
theorem dX4_fewest_27 : decode cX4_fewest 27 = .ok (.aload_n 0, 1) := by decide +kernel
theorem dX4_fewest_28 : decode cX4_fewest 28 = .ok (.ldc 147, 2) := by decide +kernel
theorem dX4_fewest_30 : decode cX4_fewest 30 = .ok (.invokevirtual 45, 3) := by decide +kernel
theorem dX4_fewest_33 : decode cX4_fewest 33 = .ok (.ireturn, 1) := by decide +kernel
theorem dX4_fewest_34 : decode cX4_fewest 34 = .ok (.aload_n 0, 1) := by decide +kernel
theorem dX4_fewest_35 : decode cX4_fewest 35 = .ok (.getfield 19, 3) := by decide +kernel
theorem dX4_fewest_38 : decode cX4_fewest 38 = .ok (.aload_n 0, 1) := by decide +kernel
theorem dX4_fewest_39 : decode cX4_fewest 39 = .ok (.getfield 12, 3) := by decide +kernel
theorem dX4_fewest_42 : decode cX4_fewest 42 = .ok (.invokevirtual 164, 3) := by decide +kernel
theorem dX4_fewest_45 : decode cX4_fewest 45 = .ok (.bipush 10, 2) := by decide +kernel
theorem dX4_fewest_47 : decode cX4_fewest 47 = .ok (.istore_n 3, 1) := by decide +kernel
theorem dX4_fewest_48 : decode cX4_fewest 48 = .ok (.iconst 0, 1) := by decide +kernel
theorem dX4_fewest_49 : decode cX4_fewest 49 = .ok (.istore 4, 2) := by decide +kernel
theorem dX4_fewest_51 : decode cX4_fewest 51 = .ok (.iload 4, 2) := by decide +kernel
theorem dX4_fewest_53 : decode cX4_fewest 53 = .ok (.sipush 511, 3) := by decide +kernel
theorem dX4_fewest_56 : decode cX4_fewest 56 = .ok (.if_icmp .gt 63, 3) := by decide +kernel
theorem dX4_fewest_59 : decode cX4_fewest 59 = .ok (.aload_n 0, 1) := by decide +kernel
theorem dX4_fewest_60 : decode cX4_fewest 60 = .ok (.getfield 19, 3) := by decide +kernel
theorem dX4_fewest_63 : decode cX4_fewest 63 = .ok (.getfield 102, 3) := by decide +kernel
theorem dX4_fewest_66 : decode cX4_fewest 66 = .ok (.iload_n 1, 1) := by decide +kernel
theorem dX4_fewest_67 : decode cX4_fewest 67 = .ok (.aload_n 0, 1) := by decide +kernel
theorem dX4_fewest_68 : decode cX4_fewest 68 = .ok (.getfield 12, 3) := by decide +kernel
theorem dX4_fewest_71 : decode cX4_fewest 71 = .ok (.getfield 102, 3) := by decide +kernel
theorem dX4_fewest_74 : decode cX4_fewest 74 = .ok (.iload_n 1, 1) := by decide +kernel
theorem dX4_fewest_75 : decode cX4_fewest 75 = .ok (.iaload, 1) := by decide +kernel
theorem dX4_fewest_76 : decode cX4_fewest 76 = .ok (.aload_n 0, 1) := by decide +kernel
theorem dX4_fewest_77 : decode cX4_fewest 77 = .ok (.getfield 12, 3) := by decide +kernel
theorem dX4_fewest_80 : decode cX4_fewest 80 = .ok (.getfield 102, 3) := by decide +kernel
theorem dX4_fewest_83 : decode cX4_fewest 83 = .ok (.iload_n 2, 1) := by decide +kernel
theorem dX4_fewest_84 : decode cX4_fewest 84 = .ok (.iaload, 1) := by decide +kernel
theorem dX4_fewest_85 : decode cX4_fewest 85 = .ok (.iload 4, 2) := by decide +kernel
theorem dX4_fewest_87 : decode cX4_fewest 87 = .ok (.invokestatic 180, 3) := by decide +kernel
theorem dX4_fewest_90 : decode cX4_fewest 90 = .ok (.iastore, 1) := by decide +kernel
theorem dX4_fewest_91 : decode cX4_fewest 91 = .ok (.aload_n 0, 1) := by decide +kernel
theorem dX4_fewest_92 : decode cX4_fewest 92 = .ok (.getfield 19, 3) := by decide +kernel
theorem dX4_fewest_95 : decode cX4_fewest 95 = .ok (.iload_n 2, 1) := by decide +kernel
theorem dX4_fewest_96 : decode cX4_fewest 96 = .ok (.invokevirtual 131, 3) := by decide +kernel
theorem dX4_fewest_99 : decode cX4_fewest 99 = .ok (.iload_n 1, 1) := by decide +kernel
theorem dX4_fewest_100 : decode cX4_fewest 100 = .ok (.if_icmp .ne 13, 3) := by decide +kernel
theorem dX4_fewest_103 : decode cX4_fewest 103 = .ok (.iload_n 3, 1) := by decide +kernel
theorem dX4_fewest_104 : decode cX4_fewest 104 = .ok (.iload 4, 2) := by decide +kernel
theorem dX4_fewest_106 : decode cX4_fewest 106 = .ok (.invokestatic 126, 3) := by decide +kernel
theorem dX4_fewest_109 : decode cX4_fewest 109 = .ok (.invokestatic 183, 3) := by decide +kernel
theorem dX4_fewest_112 : decode cX4_fewest 112 = .ok (.istore_n 3, 1) := by decide +kernel
theorem dX4_fewest_113 : decode cX4_fewest 113 = .ok (.iinc 4 1, 3) := by decide +kernel
theorem dX4_fewest_116 : decode cX4_fewest 116 = .ok (.goto (-65), 3) := by decide +kernel
theorem dX4_fewest_119 : decode cX4_fewest 119 = .ok (.iload_n 3, 1) := by decide +kernel
theorem dX4_fewest_120 : decode cX4_fewest 120 = .ok (.bipush 9, 2) := by decide +kernel
theorem dX4_fewest_122 : decode cX4_fewest 122 = .ok (.if_icmp .le 12, 3) := by decide +kernel
theorem dX4_fewest_125 : decode cX4_fewest 125 = .ok (.aload_n 0, 1) := by decide +kernel
theorem dX4_fewest_126 : decode cX4_fewest 126 = .ok (.ldc 134, 2) := by decide +kernel
theorem dX4_fewest_128 : decode cX4_fewest 128 = .ok (.invokevirtual 45, 3) := by decide +kernel
theorem dX4_fewest_131 : decode cX4_fewest 131 = .ok (.goto 4, 3) := by decide +kernel
theorem dX4_fewest_134 : decode cX4_fewest 134 = .ok (.iload_n 3, 1) := by decide +kernel
theorem dX4_fewest_135 : decode cX4_fewest 135 = .ok (.ireturn, 1) := by decide +kernel
theorem dX4_worth_0 : decode cX4_worth 0 = .ok (.aload_n 0, 1) := by decide +kernel
theorem dX4_worth_1 : decode cX4_worth 1 = .ok (.iload_n 1, 1) := by decide +kernel
theorem dX4_worth_2 : decode cX4_worth 2 = .ok (.invokevirtual 72, 3) := by decide +kernel
theorem dX4_worth_5 : decode cX4_worth 5 = .ok (.ifCond .eq 13, 3) := by decide +kernel
theorem dX4_worth_8 : decode cX4_worth 8 = .ok (.iload_n 2, 1) := by decide +kernel
theorem dX4_worth_9 : decode cX4_worth 9 = .ok (.iconst 0, 1) := by decide +kernel
theorem dX4_worth_10 : decode cX4_worth 10 = .ok (.bipush 8, 2) := by decide +kernel
theorem dX4_worth_12 : decode cX4_worth 12 = .ok (.invokestatic 40, 3) := by decide +kernel
theorem dX4_worth_15 : decode cX4_worth 15 = .ok (.ifCond .ne 10, 3) := by decide +kernel
theorem dX4_worth_18 : decode cX4_worth 18 = .ok (.aload_n 0, 1) := by decide +kernel
theorem dX4_worth_19 : decode cX4_worth 19 = .ok (.ldc 44, 2) := by decide +kernel
theorem dX4_worth_21 : decode cX4_worth 21 = .ok (.invokevirtual 45, 3) := by decide +kernel
theorem dX4_worth_24 : decode cX4_worth 24 = .ok (.ireturn, 1) := by decide +kernel
theorem dX4_worth_25 : decode cX4_worth 25 = .ok (.aload_n 0, 1) := by decide +kernel
theorem dX4_worth_26 : decode cX4_worth 26 = .ok (.getfield 12, 3) := by decide +kernel
theorem dX4_worth_29 : decode cX4_worth 29 = .ok (.getfield 102, 3) := by decide +kernel
theorem dX4_worth_32 : decode cX4_worth 32 = .ok (.iload_n 1, 1) := by decide +kernel
theorem dX4_worth_33 : decode cX4_worth 33 = .ok (.iaload, 1) := by decide +kernel
theorem dX4_worth_34 : decode cX4_worth 34 = .ok (.istore_n 3, 1) := by decide +kernel
theorem dX4_worth_35 : decode cX4_worth 35 = .ok (.aload_n 0, 1) := by decide +kernel
theorem dX4_worth_36 : decode cX4_worth 36 = .ok (.getfield 19, 3) := by decide +kernel
theorem dX4_worth_39 : decode cX4_worth 39 = .ok (.aload_n 0, 1) := by decide +kernel
theorem dX4_worth_40 : decode cX4_worth 40 = .ok (.getfield 12, 3) := by decide +kernel
theorem dX4_worth_43 : decode cX4_worth 43 = .ok (.invokevirtual 164, 3) := by decide +kernel
theorem dX4_worth_46 : decode cX4_worth 46 = .ok (.aload_n 0, 1) := by decide +kernel
theorem dX4_worth_47 : decode cX4_worth 47 = .ok (.getfield 19, 3) := by decide +kernel
theorem dX4_worth_50 : decode cX4_worth 50 = .ok (.getfield 102, 3) := by decide +kernel
theorem dX4_worth_53 : decode cX4_worth 53 = .ok (.iload_n 1, 1) := by decide +kernel
theorem dX4_worth_54 : decode cX4_worth 54 = .ok (.iload_n 3, 1) := by decide +kernel
theorem dX4_worth_55 : decode cX4_worth 55 = .ok (.iload_n 2, 1) := by decide +kernel
theorem dX4_worth_56 : decode cX4_worth 56 = .ok (.iload_n 3, 1) := by decide +kernel
theorem dX4_worth_57 : decode cX4_worth 57 = .ok (.iload_n 2, 1) := by decide +kernel
theorem dX4_worth_58 : decode cX4_worth 58 = .ok (.invokestatic 105, 3) := by decide +kernel
theorem dX4_worth_61 : decode cX4_worth 61 = .ok (.invokestatic 188, 3) := by decide +kernel
theorem dX4_worth_64 : decode cX4_worth 64 = .ok (.invokestatic 108, 3) := by decide +kernel
theorem dX4_worth_67 : decode cX4_worth 67 = .ok (.iastore, 1) := by decide +kernel
theorem dX4_worth_68 : decode cX4_worth 68 = .ok (.aload_n 0, 1) := by decide +kernel
theorem dX4_worth_69 : decode cX4_worth 69 = .ok (.getfield 12, 3) := by decide +kernel
theorem dX4_worth_72 : decode cX4_worth 72 = .ok (.iload_n 1, 1) := by decide +kernel
theorem dX4_worth_73 : decode cX4_worth 73 = .ok (.invokevirtual 191, 3) := by decide +kernel
theorem dX4_worth_76 : decode cX4_worth 76 = .ok (.aload_n 0, 1) := by decide +kernel
theorem dX4_worth_77 : decode cX4_worth 77 = .ok (.getfield 19, 3) := by decide +kernel
theorem dX4_worth_80 : decode cX4_worth 80 = .ok (.iload_n 1, 1) := by decide +kernel
theorem dX4_worth_81 : decode cX4_worth 81 = .ok (.invokevirtual 191, 3) := by decide +kernel
theorem dX4_worth_84 : decode cX4_worth 84 = .ok (.isub, 1) := by decide +kernel
theorem dX4_worth_85 : decode cX4_worth 85 = .ok (.ireturn, 1) := by decide +kernel
theorem dX4_best_0 : decode cX4_best 0 = .ok (.aload_n 0, 1) := by decide +kernel
theorem dX4_best_1 : decode cX4_best 1 = .ok (.iload_n 1, 1) := by decide +kernel
theorem dX4_best_2 : decode cX4_best 2 = .ok (.invokevirtual 72, 3) := by decide +kernel
theorem dX4_best_5 : decode cX4_best 5 = .ok (.ifCond .ne 10, 3) := by decide +kernel
theorem dX4_best_8 : decode cX4_best 8 = .ok (.aload_n 0, 1) := by decide +kernel
theorem dX4_best_9 : decode cX4_best 9 = .ok (.ldc 44, 2) := by decide +kernel
theorem dX4_best_11 : decode cX4_best 11 = .ok (.invokevirtual 45, 3) := by decide +kernel
theorem dX4_best_14 : decode cX4_best 14 = .ok (.ireturn, 1) := by decide +kernel
theorem dX4_best_15 : decode cX4_best 15 = .ok (.aload_n 0, 1) := by decide +kernel
theorem dX4_best_16 : decode cX4_best 16 = .ok (.getfield 12, 3) := by decide +kernel
theorem dX4_best_19 : decode cX4_best 19 = .ok (.iload_n 1, 1) := by decide +kernel
theorem dX4_best_20 : decode cX4_best 20 = .ok (.invokevirtual 90, 3) := by decide +kernel
theorem dX4_best_23 : decode cX4_best 23 = .ok (.ifCond .ne 10, 3) := by decide +kernel
theorem dX4_best_26 : decode cX4_best 26 = .ok (.aload_n 0, 1) := by decide +kernel
theorem dX4_best_27 : decode cX4_best 27 = .ok (.ldc 147, 2) := by decide +kernel
theorem dX4_best_29 : decode cX4_best 29 = .ok (.invokevirtual 45, 3) := by decide +kernel
theorem dX4_best_32 : decode cX4_best 32 = .ok (.ireturn, 1) := by decide +kernel
theorem dX4_best_33 : decode cX4_best 33 = .ok (.aload_n 0, 1) := by decide +kernel
theorem dX4_best_34 : decode cX4_best 34 = .ok (.getfield 19, 3) := by decide +kernel
theorem dX4_best_37 : decode cX4_best 37 = .ok (.aload_n 0, 1) := by decide +kernel
theorem dX4_best_38 : decode cX4_best 38 = .ok (.getfield 12, 3) := by decide +kernel
theorem dX4_best_41 : decode cX4_best 41 = .ok (.invokevirtual 164, 3) := by decide +kernel
theorem dX4_best_44 : decode cX4_best 44 = .ok (.iconst 0, 1) := by decide +kernel
theorem dX4_best_45 : decode cX4_best 45 = .ok (.istore_n 2, 1) := by decide +kernel
theorem dX4_best_46 : decode cX4_best 46 = .ok (.iconst (-1), 1) := by decide +kernel
theorem dX4_best_47 : decode cX4_best 47 = .ok (.istore_n 3, 1) := by decide +kernel
theorem dX4_best_48 : decode cX4_best 48 = .ok (.iconst 0, 1) := by decide +kernel
theorem dX4_best_49 : decode cX4_best 49 = .ok (.istore 4, 2) := by decide +kernel
theorem dX4_best_51 : decode cX4_best 51 = .ok (.iload 4, 2) := by decide +kernel
theorem dX4_best_53 : decode cX4_best 53 = .ok (.bipush 9, 2) := by decide +kernel
theorem dX4_best_55 : decode cX4_best 55 = .ok (.if_icmp .ge 77, 3) := by decide +kernel
theorem dX4_best_58 : decode cX4_best 58 = .ok (.iconst 0, 1) := by decide +kernel
theorem dX4_best_59 : decode cX4_best 59 = .ok (.istore 5, 2) := by decide +kernel
theorem dX4_best_61 : decode cX4_best 61 = .ok (.iload 5, 2) := by decide +kernel
theorem dX4_best_63 : decode cX4_best 63 = .ok (.iconst 4, 1) := by decide +kernel
theorem dX4_best_64 : decode cX4_best 64 = .ok (.if_icmp .ge 62, 3) := by decide +kernel
theorem dX4_best_67 : decode cX4_best 67 = .ok (.aload_n 0, 1) := by decide +kernel
theorem dX4_best_68 : decode cX4_best 68 = .ok (.getfield 19, 3) := by decide +kernel
theorem dX4_best_71 : decode cX4_best 71 = .ok (.getfield 102, 3) := by decide +kernel
theorem dX4_best_74 : decode cX4_best 74 = .ok (.iload_n 1, 1) := by decide +kernel
theorem dX4_best_75 : decode cX4_best 75 = .ok (.aload_n 0, 1) := by decide +kernel
theorem dX4_best_76 : decode cX4_best 76 = .ok (.getfield 12, 3) := by decide +kernel
theorem dX4_best_79 : decode cX4_best 79 = .ok (.getfield 102, 3) := by decide +kernel
theorem dX4_best_82 : decode cX4_best 82 = .ok (.iload_n 1, 1) := by decide +kernel
theorem dX4_best_83 : decode cX4_best 83 = .ok (.iaload, 1) := by decide +kernel
theorem dX4_best_84 : decode cX4_best 84 = .ok (.iload 4, 2) := by decide +kernel
theorem dX4_best_86 : decode cX4_best 86 = .ok (.iload 5, 2) := by decide +kernel
theorem dX4_best_88 : decode cX4_best 88 = .ok (.invokestatic 108, 3) := by decide +kernel
theorem dX4_best_91 : decode cX4_best 91 = .ok (.iastore, 1) := by decide +kernel
theorem dX4_best_92 : decode cX4_best 92 = .ok (.aload_n 0, 1) := by decide +kernel
theorem dX4_best_93 : decode cX4_best 93 = .ok (.getfield 19, 3) := by decide +kernel
theorem dX4_best_96 : decode cX4_best 96 = .ok (.iload_n 1, 1) := by decide +kernel
theorem dX4_best_97 : decode cX4_best 97 = .ok (.invokevirtual 191, 3) := by decide +kernel
theorem dX4_best_100 : decode cX4_best 100 = .ok (.istore 6, 2) := by decide +kernel
theorem dX4_best_102 : decode cX4_best 102 = .ok (.iload 6, 2) := by decide +kernel
theorem dX4_best_104 : decode cX4_best 104 = .ok (.iload_n 3, 1) := by decide +kernel
theorem dX4_best_105 : decode cX4_best 105 = .ok (.if_icmp .le 15, 3) := by decide +kernel
theorem dX4_best_108 : decode cX4_best 108 = .ok (.iload 6, 2) := by decide +kernel
theorem dX4_best_110 : decode cX4_best 110 = .ok (.istore_n 3, 1) := by decide +kernel
theorem dX4_best_111 : decode cX4_best 111 = .ok (.bipush 10, 2) := by decide +kernel
theorem dX4_best_113 : decode cX4_best 113 = .ok (.iload 4, 2) := by decide +kernel
theorem dX4_best_115 : decode cX4_best 115 = .ok (.imul, 1) := by decide +kernel
theorem dX4_best_116 : decode cX4_best 116 = .ok (.iload 5, 2) := by decide +kernel
theorem dX4_best_118 : decode cX4_best 118 = .ok (.iadd, 1) := by decide +kernel
theorem dX4_best_119 : decode cX4_best 119 = .ok (.istore_n 2, 1) := by decide +kernel
theorem dX4_best_120 : decode cX4_best 120 = .ok (.iinc 5 1, 3) := by decide +kernel
theorem dX4_best_123 : decode cX4_best 123 = .ok (.goto (-62), 3) := by decide +kernel
theorem dX4_best_126 : decode cX4_best 126 = .ok (.iinc 4 1, 3) := by decide +kernel
theorem dX4_best_129 : decode cX4_best 129 = .ok (.goto (-78), 3) := by decide +kernel
theorem dX4_best_132 : decode cX4_best 132 = .ok (.iload_n 2, 1) := by decide +kernel
theorem dX4_best_133 : decode cX4_best 133 = .ok (.ireturn, 1) := by decide +kernel
theorem dX4_steer_0 : decode cX4_steer 0 = .ok (.aload_n 0, 1) := by decide +kernel
theorem dX4_steer_1 : decode cX4_steer 1 = .ok (.iload_n 1, 1) := by decide +kernel
theorem dX4_steer_2 : decode cX4_steer 2 = .ok (.iload_n 2, 1) := by decide +kernel
theorem dX4_steer_3 : decode cX4_steer 3 = .ok (.invokevirtual 117, 3) := by decide +kernel
theorem dX4_steer_6 : decode cX4_steer 6 = .ok (.ifCond .ne 10, 3) := by decide +kernel
theorem dX4_steer_9 : decode cX4_steer 9 = .ok (.aload_n 0, 1) := by decide +kernel
theorem dX4_steer_10 : decode cX4_steer 10 = .ok (.ldc 44, 2) := by decide +kernel
theorem dX4_steer_12 : decode cX4_steer 12 = .ok (.invokevirtual 45, 3) := by decide +kernel
theorem dX4_steer_15 : decode cX4_steer 15 = .ok (.ireturn, 1) := by decide +kernel
theorem dX4_steer_16 : decode cX4_steer 16 = .ok (.aload_n 0, 1) := by decide +kernel
theorem dX4_steer_17 : decode cX4_steer 17 = .ok (.getfield 12, 3) := by decide +kernel
theorem dX4_steer_20 : decode cX4_steer 20 = .ok (.iload_n 2, 1) := by decide +kernel
theorem dX4_steer_21 : decode cX4_steer 21 = .ok (.invokevirtual 90, 3) := by decide +kernel
theorem dX4_steer_24 : decode cX4_steer 24 = .ok (.ifCond .eq 15, 3) := by decide +kernel
theorem dX4_steer_27 : decode cX4_steer 27 = .ok (.aload_n 0, 1) := by decide +kernel
theorem dX4_steer_28 : decode cX4_steer 28 = .ok (.getfield 12, 3) := by decide +kernel
theorem dX4_steer_31 : decode cX4_steer 31 = .ok (.iload_n 1, 1) := by decide +kernel
theorem dX4_steer_32 : decode cX4_steer 32 = .ok (.invokevirtual 131, 3) := by decide +kernel
theorem dX4_steer_35 : decode cX4_steer 35 = .ok (.iload_n 2, 1) := by decide +kernel
theorem dX4_steer_36 : decode cX4_steer 36 = .ok (.if_icmp .ne 10, 3) := by decide +kernel
theorem dX4_steer_39 : decode cX4_steer 39 = .ok (.aload_n 0, 1) := by decide +kernel
theorem dX4_steer_40 : decode cX4_steer 40 = .ok (.ldc 147, 2) := by decide +kernel
theorem dX4_steer_42 : decode cX4_steer 42 = .ok (.invokevirtual 45, 3) := by decide +kernel
theorem dX4_steer_45 : decode cX4_steer 45 = .ok (.ireturn, 1) := by decide +kernel
theorem dX4_steer_46 : decode cX4_steer 46 = .ok (.aload_n 0, 1) := by decide +kernel
theorem dX4_steer_47 : decode cX4_steer 47 = .ok (.iload_n 1, 1) := by decide +kernel
theorem dX4_steer_48 : decode cX4_steer 48 = .ok (.iload_n 1, 1) := by decide +kernel
theorem dX4_steer_49 : decode cX4_steer 49 = .ok (.iload_n 2, 1) := by decide +kernel
theorem dX4_steer_50 : decode cX4_steer 50 = .ok (.invokevirtual 177, 3) := by decide +kernel
theorem dX4_steer_53 : decode cX4_steer 53 = .ok (.istore_n 3, 1) := by decide +kernel
theorem dX4_steer_54 : decode cX4_steer 54 = .ok (.iload_n 3, 1) := by decide +kernel
theorem dX4_steer_55 : decode cX4_steer 55 = .ok (.iconst (-1), 1) := by decide +kernel
theorem dX4_steer_56 : decode cX4_steer 56 = .ok (.if_icmp .ne 12, 3) := by decide +kernel
theorem dX4_steer_59 : decode cX4_steer 59 = .ok (.aload_n 0, 1) := by decide +kernel
theorem dX4_steer_60 : decode cX4_steer 60 = .ok (.ldc 134, 2) := by decide +kernel
theorem dX4_steer_62 : decode cX4_steer 62 = .ok (.invokevirtual 45, 3) := by decide +kernel
theorem dX4_steer_65 : decode cX4_steer 65 = .ok (.goto 4, 3) := by decide +kernel
theorem dX4_steer_68 : decode cX4_steer 68 = .ok (.iload_n 3, 1) := by decide +kernel
theorem dX4_steer_69 : decode cX4_steer 69 = .ok (.ireturn, 1) := by decide +kernel
theorem dX4_kind_0 : decode cX4_kind 0 = .ok (.aload_n 0, 1) := by decide +kernel
theorem dX4_kind_1 : decode cX4_kind 1 = .ok (.iload_n 1, 1) := by decide +kernel
theorem dX4_kind_2 : decode cX4_kind 2 = .ok (.invokevirtual 72, 3) := by decide +kernel
theorem dX4_kind_5 : decode cX4_kind 5 = .ok (.ifCond .eq 13, 3) := by decide +kernel
theorem dX4_kind_8 : decode cX4_kind 8 = .ok (.iload_n 2, 1) := by decide +kernel
theorem dX4_kind_9 : decode cX4_kind 9 = .ok (.iconst 1, 1) := by decide +kernel
theorem dX4_kind_10 : decode cX4_kind 10 = .ok (.bipush 100, 2) := by decide +kernel
theorem dX4_kind_12 : decode cX4_kind 12 = .ok (.invokestatic 40, 3) := by decide +kernel
theorem dX4_kind_15 : decode cX4_kind 15 = .ok (.ifCond .ne 10, 3) := by decide +kernel
theorem dX4_kind_18 : decode cX4_kind 18 = .ok (.aload_n 0, 1) := by decide +kernel
theorem dX4_kind_19 : decode cX4_kind 19 = .ok (.ldc 44, 2) := by decide +kernel
theorem dX4_kind_21 : decode cX4_kind 21 = .ok (.invokevirtual 45, 3) := by decide +kernel
theorem dX4_kind_24 : decode cX4_kind 24 = .ok (.ireturn, 1) := by decide +kernel
theorem dX4_kind_25 : decode cX4_kind 25 = .ok (.aload_n 0, 1) := by decide +kernel
theorem dX4_kind_26 : decode cX4_kind 26 = .ok (.iload_n 2, 1) := by decide +kernel
theorem dX4_kind_27 : decode cX4_kind 27 = .ok (.invokevirtual 144, 3) := by decide +kernel
theorem dX4_kind_30 : decode cX4_kind 30 = .ok (.ifCond .eq 10, 3) := by decide +kernel
theorem dX4_kind_33 : decode cX4_kind 33 = .ok (.aload_n 0, 1) := by decide +kernel
theorem dX4_kind_34 : decode cX4_kind 34 = .ok (.ldc 147, 2) := by decide +kernel
theorem dX4_kind_36 : decode cX4_kind 36 = .ok (.invokevirtual 45, 3) := by decide +kernel
theorem dX4_kind_39 : decode cX4_kind 39 = .ok (.ireturn, 1) := by decide +kernel
theorem dX4_kind_40 : decode cX4_kind 40 = .ok (.iconst 0, 1) := by decide +kernel
theorem dX4_kind_41 : decode cX4_kind 41 = .ok (.istore_n 3, 1) := by decide +kernel
theorem dX4_kind_42 : decode cX4_kind 42 = .ok (.iconst (-1), 1) := by decide +kernel
theorem dX4_kind_43 : decode cX4_kind 43 = .ok (.istore 4, 2) := by decide +kernel
theorem dX4_kind_45 : decode cX4_kind 45 = .ok (.iconst 0, 1) := by decide +kernel
theorem dX4_kind_46 : decode cX4_kind 46 = .ok (.istore 5, 2) := by decide +kernel
theorem dX4_kind_48 : decode cX4_kind 48 = .ok (.iload 5, 2) := by decide +kernel
theorem dX4_kind_50 : decode cX4_kind 50 = .ok (.iconst 5, 1) := by decide +kernel
theorem dX4_kind_51 : decode cX4_kind 51 = .ok (.if_icmp .gt 68, 3) := by decide +kernel
theorem dX4_kind_54 : decode cX4_kind 54 = .ok (.aload_n 0, 1) := by decide +kernel
theorem dX4_kind_55 : decode cX4_kind 55 = .ok (.getfield 19, 3) := by decide +kernel
theorem dX4_kind_58 : decode cX4_kind 58 = .ok (.aload_n 0, 1) := by decide +kernel
theorem dX4_kind_59 : decode cX4_kind 59 = .ok (.getfield 12, 3) := by decide +kernel
theorem dX4_kind_62 : decode cX4_kind 62 = .ok (.invokevirtual 164, 3) := by decide +kernel
theorem dX4_kind_65 : decode cX4_kind 65 = .ok (.aload_n 0, 1) := by decide +kernel
theorem dX4_kind_66 : decode cX4_kind 66 = .ok (.getfield 19, 3) := by decide +kernel
theorem dX4_kind_69 : decode cX4_kind 69 = .ok (.getfield 75, 3) := by decide +kernel
theorem dX4_kind_72 : decode cX4_kind 72 = .ok (.iload_n 1, 1) := by decide +kernel
theorem dX4_kind_73 : decode cX4_kind 73 = .ok (.iload 5, 2) := by decide +kernel
theorem dX4_kind_75 : decode cX4_kind 75 = .ok (.iastore, 1) := by decide +kernel
theorem dX4_kind_76 : decode cX4_kind 76 = .ok (.aload_n 0, 1) := by decide +kernel
theorem dX4_kind_77 : decode cX4_kind 77 = .ok (.getfield 19, 3) := by decide +kernel
theorem dX4_kind_80 : decode cX4_kind 80 = .ok (.iload_n 2, 1) := by decide +kernel
theorem dX4_kind_81 : decode cX4_kind 81 = .ok (.invokevirtual 148, 3) := by decide +kernel
theorem dX4_kind_84 : decode cX4_kind 84 = .ok (.pop, 1) := by decide +kernel
theorem dX4_kind_85 : decode cX4_kind 85 = .ok (.aload_n 0, 1) := by decide +kernel
theorem dX4_kind_86 : decode cX4_kind 86 = .ok (.getfield 19, 3) := by decide +kernel
theorem dX4_kind_89 : decode cX4_kind 89 = .ok (.getfield 81, 3) := by decide +kernel
theorem dX4_kind_92 : decode cX4_kind 92 = .ok (.iload_n 1, 1) := by decide +kernel
theorem dX4_kind_93 : decode cX4_kind 93 = .ok (.iaload, 1) := by decide +kernel
theorem dX4_kind_94 : decode cX4_kind 94 = .ok (.iload 4, 2) := by decide +kernel
theorem dX4_kind_96 : decode cX4_kind 96 = .ok (.if_icmp .le 17, 3) := by decide +kernel
theorem dX4_kind_99 : decode cX4_kind 99 = .ok (.aload_n 0, 1) := by decide +kernel
theorem dX4_kind_100 : decode cX4_kind 100 = .ok (.getfield 19, 3) := by decide +kernel
theorem dX4_kind_103 : decode cX4_kind 103 = .ok (.getfield 81, 3) := by decide +kernel
theorem dX4_kind_106 : decode cX4_kind 106 = .ok (.iload_n 1, 1) := by decide +kernel
theorem dX4_kind_107 : decode cX4_kind 107 = .ok (.iaload, 1) := by decide +kernel
theorem dX4_kind_108 : decode cX4_kind 108 = .ok (.istore 4, 2) := by decide +kernel
theorem dX4_kind_110 : decode cX4_kind 110 = .ok (.iload 5, 2) := by decide +kernel
theorem dX4_kind_112 : decode cX4_kind 112 = .ok (.istore_n 3, 1) := by decide +kernel
theorem dX4_kind_113 : decode cX4_kind 113 = .ok (.iinc 5 1, 3) := by decide +kernel
theorem dX4_kind_116 : decode cX4_kind 116 = .ok (.goto (-68), 3) := by decide +kernel
theorem dX4_kind_119 : decode cX4_kind 119 = .ok (.iload_n 3, 1) := by decide +kernel
theorem dX4_kind_120 : decode cX4_kind 120 = .ok (.ireturn, 1) := by decide +kernel
theorem dX4_fair_0 : decode cX4_fair 0 = .ok (.iload_n 1, 1) := by decide +kernel
theorem dX4_fair_1 : decode cX4_fair 1 = .ok (.iconst 1, 1) := by decide +kernel
theorem dX4_fair_2 : decode cX4_fair 2 = .ok (.bipush 100, 2) := by decide +kernel
theorem dX4_fair_4 : decode cX4_fair 4 = .ok (.invokestatic 40, 3) := by decide +kernel
theorem dX4_fair_7 : decode cX4_fair 7 = .ok (.ifCond .ne 10, 3) := by decide +kernel
theorem dX4_fair_10 : decode cX4_fair 10 = .ok (.aload_n 0, 1) := by decide +kernel
theorem dX4_fair_11 : decode cX4_fair 11 = .ok (.ldc 44, 2) := by decide +kernel
theorem dX4_fair_13 : decode cX4_fair 13 = .ok (.invokevirtual 45, 3) := by decide +kernel
theorem dX4_fair_16 : decode cX4_fair 16 = .ok (.ireturn, 1) := by decide +kernel
theorem dX4_fair_17 : decode cX4_fair 17 = .ok (.aload_n 0, 1) := by decide +kernel
theorem dX4_fair_18 : decode cX4_fair 18 = .ok (.iload_n 1, 1) := by decide +kernel
theorem dX4_fair_19 : decode cX4_fair 19 = .ok (.invokevirtual 144, 3) := by decide +kernel
theorem dX4_fair_22 : decode cX4_fair 22 = .ok (.ifCond .eq 10, 3) := by decide +kernel
theorem dX4_fair_25 : decode cX4_fair 25 = .ok (.aload_n 0, 1) := by decide +kernel
theorem dX4_fair_26 : decode cX4_fair 26 = .ok (.ldc 147, 2) := by decide +kernel
theorem dX4_fair_28 : decode cX4_fair 28 = .ok (.invokevirtual 45, 3) := by decide +kernel
theorem dX4_fair_31 : decode cX4_fair 31 = .ok (.ireturn, 1) := by decide +kernel
theorem dX4_fair_32 : decode cX4_fair 32 = .ok (.iconst 0, 1) := by decide +kernel
theorem dX4_fair_33 : decode cX4_fair 33 = .ok (.istore_n 2, 1) := by decide +kernel
theorem dX4_fair_34 : decode cX4_fair 34 = .ok (.ldc 194, 2) := by decide +kernel
theorem dX4_fair_36 : decode cX4_fair 36 = .ok (.istore_n 3, 1) := by decide +kernel
theorem dX4_fair_37 : decode cX4_fair 37 = .ok (.iconst 0, 1) := by decide +kernel
theorem dX4_fair_38 : decode cX4_fair 38 = .ok (.istore 4, 2) := by decide +kernel
theorem dX4_fair_40 : decode cX4_fair 40 = .ok (.iload 4, 2) := by decide +kernel
theorem dX4_fair_42 : decode cX4_fair 42 = .ok (.iconst 2, 1) := by decide +kernel
theorem dX4_fair_43 : decode cX4_fair 43 = .ok (.if_icmp .gt 82, 3) := by decide +kernel
theorem dX4_fair_46 : decode cX4_fair 46 = .ok (.aload_n 0, 1) := by decide +kernel
theorem dX4_fair_47 : decode cX4_fair 47 = .ok (.getfield 19, 3) := by decide +kernel
theorem dX4_fair_50 : decode cX4_fair 50 = .ok (.aload_n 0, 1) := by decide +kernel
theorem dX4_fair_51 : decode cX4_fair 51 = .ok (.getfield 12, 3) := by decide +kernel
theorem dX4_fair_54 : decode cX4_fair 54 = .ok (.invokevirtual 164, 3) := by decide +kernel
theorem dX4_fair_57 : decode cX4_fair 57 = .ok (.aload_n 0, 1) := by decide +kernel
theorem dX4_fair_58 : decode cX4_fair 58 = .ok (.getfield 19, 3) := by decide +kernel
theorem dX4_fair_61 : decode cX4_fair 61 = .ok (.iload 4, 2) := by decide +kernel
theorem dX4_fair_63 : decode cX4_fair 63 = .ok (.putfield 60, 3) := by decide +kernel
theorem dX4_fair_66 : decode cX4_fair 66 = .ok (.aload_n 0, 1) := by decide +kernel
theorem dX4_fair_67 : decode cX4_fair 67 = .ok (.getfield 19, 3) := by decide +kernel
theorem dX4_fair_70 : decode cX4_fair 70 = .ok (.iload_n 1, 1) := by decide +kernel
theorem dX4_fair_71 : decode cX4_fair 71 = .ok (.invokevirtual 148, 3) := by decide +kernel
theorem dX4_fair_74 : decode cX4_fair 74 = .ok (.pop, 1) := by decide +kernel
theorem dX4_fair_75 : decode cX4_fair 75 = .ok (.aload_n 0, 1) := by decide +kernel
theorem dX4_fair_76 : decode cX4_fair 76 = .ok (.getfield 19, 3) := by decide +kernel
theorem dX4_fair_79 : decode cX4_fair 79 = .ok (.iconst (-1), 1) := by decide +kernel
theorem dX4_fair_80 : decode cX4_fair 80 = .ok (.invokevirtual 168, 3) := by decide +kernel
theorem dX4_fair_83 : decode cX4_fair 83 = .ok (.istore 5, 2) := by decide +kernel
theorem dX4_fair_85 : decode cX4_fair 85 = .ok (.iload 5, 2) := by decide +kernel
theorem dX4_fair_87 : decode cX4_fair 87 = .ok (.iconst (-1), 1) := by decide +kernel
theorem dX4_fair_88 : decode cX4_fair 88 = .ok (.if_icmp .ne 7, 3) := by decide +kernel
theorem dX4_fair_91 : decode cX4_fair 91 = .ok (.iconst 0, 1) := by decide +kernel
theorem dX4_fair_92 : decode cX4_fair 92 = .ok (.goto 13, 3) := by decide +kernel
theorem dX4_fair_95 : decode cX4_fair 95 = .ok (.aload_n 0, 1) := by decide +kernel
theorem dX4_fair_96 : decode cX4_fair 96 = .ok (.getfield 19, 3) := by decide +kernel
theorem dX4_fair_99 : decode cX4_fair 99 = .ok (.getfield 81, 3) := by decide +kernel
theorem dX4_fair_102 : decode cX4_fair 102 = .ok (.iload 5, 2) := by decide +kernel
theorem dX4_fair_104 : decode cX4_fair 104 = .ok (.iaload, 1) := by decide +kernel
theorem dX4_fair_105 : decode cX4_fair 105 = .ok (.istore 6, 2) := by decide +kernel
theorem dX4_fair_107 : decode cX4_fair 107 = .ok (.iload 6, 2) := by decide +kernel
theorem dX4_fair_109 : decode cX4_fair 109 = .ok (.iload_n 3, 1) := by decide +kernel
theorem dX4_fair_110 : decode cX4_fair 110 = .ok (.if_icmp .ge 9, 3) := by decide +kernel
theorem dX4_fair_113 : decode cX4_fair 113 = .ok (.iload 6, 2) := by decide +kernel
theorem dX4_fair_115 : decode cX4_fair 115 = .ok (.istore_n 3, 1) := by decide +kernel
theorem dX4_fair_116 : decode cX4_fair 116 = .ok (.iload 4, 2) := by decide +kernel
theorem dX4_fair_118 : decode cX4_fair 118 = .ok (.istore_n 2, 1) := by decide +kernel
theorem dX4_fair_119 : decode cX4_fair 119 = .ok (.iinc 4 1, 3) := by decide +kernel
theorem dX4_fair_122 : decode cX4_fair 122 = .ok (.goto (-82), 3) := by decide +kernel
theorem dX4_fair_125 : decode cX4_fair 125 = .ok (.iload_n 2, 1) := by decide +kernel
theorem dX4_fair_126 : decode cX4_fair 126 = .ok (.ireturn, 1) := by decide +kernel
theorem dX4_ways_0 : decode cX4_ways 0 = .ok (.aload_n 0, 1) := by decide +kernel
theorem dX4_ways_1 : decode cX4_ways 1 = .ok (.iload_n 1, 1) := by decide +kernel
theorem dX4_ways_2 : decode cX4_ways 2 = .ok (.iload_n 2, 1) := by decide +kernel
theorem dX4_ways_3 : decode cX4_ways 3 = .ok (.invokevirtual 117, 3) := by decide +kernel
theorem dX4_ways_6 : decode cX4_ways 6 = .ok (.ifCond .ne 10, 3) := by decide +kernel
theorem dX4_ways_9 : decode cX4_ways 9 = .ok (.aload_n 0, 1) := by decide +kernel
theorem dX4_ways_10 : decode cX4_ways 10 = .ok (.ldc 44, 2) := by decide +kernel
theorem dX4_ways_12 : decode cX4_ways 12 = .ok (.invokevirtual 45, 3) := by decide +kernel
theorem dX4_ways_15 : decode cX4_ways 15 = .ok (.ireturn, 1) := by decide +kernel
theorem dX4_ways_16 : decode cX4_ways 16 = .ok (.aload_n 0, 1) := by decide +kernel
theorem dX4_ways_17 : decode cX4_ways 17 = .ok (.getfield 12, 3) := by decide +kernel
theorem dX4_ways_20 : decode cX4_ways 20 = .ok (.iload_n 2, 1) := by decide +kernel
theorem dX4_ways_21 : decode cX4_ways 21 = .ok (.invokevirtual 90, 3) := by decide +kernel
theorem dX4_ways_24 : decode cX4_ways 24 = .ok (.ifCond .ne 10, 3) := by decide +kernel
theorem dX4_ways_27 : decode cX4_ways 27 = .ok (.aload_n 0, 1) := by decide +kernel
theorem dX4_ways_28 : decode cX4_ways 28 = .ok (.ldc 147, 2) := by decide +kernel
theorem dX4_ways_30 : decode cX4_ways 30 = .ok (.invokevirtual 45, 3) := by decide +kernel
theorem dX4_ways_33 : decode cX4_ways 33 = .ok (.ireturn, 1) := by decide +kernel
theorem dX4_ways_34 : decode cX4_ways 34 = .ok (.aload_n 0, 1) := by decide +kernel
theorem dX4_ways_35 : decode cX4_ways 35 = .ok (.getfield 19, 3) := by decide +kernel
theorem dX4_ways_38 : decode cX4_ways 38 = .ok (.aload_n 0, 1) := by decide +kernel
theorem dX4_ways_39 : decode cX4_ways 39 = .ok (.getfield 12, 3) := by decide +kernel
theorem dX4_ways_42 : decode cX4_ways 42 = .ok (.invokevirtual 164, 3) := by decide +kernel
theorem dX4_ways_45 : decode cX4_ways 45 = .ok (.bipush 63, 2) := by decide +kernel
theorem dX4_ways_47 : decode cX4_ways 47 = .ok (.istore_n 3, 1) := by decide +kernel
theorem dX4_ways_48 : decode cX4_ways 48 = .ok (.aload_n 0, 1) := by decide +kernel
theorem dX4_ways_49 : decode cX4_ways 49 = .ok (.getfield 12, 3) := by decide +kernel
theorem dX4_ways_52 : decode cX4_ways 52 = .ok (.getfield 102, 3) := by decide +kernel
theorem dX4_ways_55 : decode cX4_ways 55 = .ok (.iload_n 1, 1) := by decide +kernel
theorem dX4_ways_56 : decode cX4_ways 56 = .ok (.iaload, 1) := by decide +kernel
theorem dX4_ways_57 : decode cX4_ways 57 = .ok (.iconst 0, 1) := by decide +kernel
theorem dX4_ways_58 : decode cX4_ways 58 = .ok (.iload_n 3, 1) := by decide +kernel
theorem dX4_ways_59 : decode cX4_ways 59 = .ok (.invokestatic 180, 3) := by decide +kernel
theorem dX4_ways_62 : decode cX4_ways 62 = .ok (.istore 4, 2) := by decide +kernel
theorem dX4_ways_64 : decode cX4_ways 64 = .ok (.iconst 0, 1) := by decide +kernel
theorem dX4_ways_65 : decode cX4_ways 65 = .ok (.istore 5, 2) := by decide +kernel
theorem dX4_ways_67 : decode cX4_ways 67 = .ok (.iconst 0, 1) := by decide +kernel
theorem dX4_ways_68 : decode cX4_ways 68 = .ok (.istore 6, 2) := by decide +kernel
theorem dX4_ways_70 : decode cX4_ways 70 = .ok (.iload 6, 2) := by decide +kernel
theorem dX4_ways_72 : decode cX4_ways 72 = .ok (.iload_n 3, 1) := by decide +kernel
theorem dX4_ways_73 : decode cX4_ways 73 = .ok (.if_icmp .gt 59, 3) := by decide +kernel
theorem dX4_ways_76 : decode cX4_ways 76 = .ok (.iconst 0, 1) := by decide +kernel
theorem dX4_ways_77 : decode cX4_ways 77 = .ok (.istore 7, 2) := by decide +kernel
theorem dX4_ways_79 : decode cX4_ways 79 = .ok (.iload 7, 2) := by decide +kernel
theorem dX4_ways_81 : decode cX4_ways 81 = .ok (.iload_n 3, 1) := by decide +kernel
theorem dX4_ways_82 : decode cX4_ways 82 = .ok (.if_icmp .gt 44, 3) := by decide +kernel
theorem dX4_ways_85 : decode cX4_ways 85 = .ok (.aload_n 0, 1) := by decide +kernel
theorem dX4_ways_86 : decode cX4_ways 86 = .ok (.getfield 19, 3) := by decide +kernel
theorem dX4_ways_89 : decode cX4_ways 89 = .ok (.getfield 102, 3) := by decide +kernel
theorem dX4_ways_92 : decode cX4_ways 92 = .ok (.iload_n 1, 1) := by decide +kernel
theorem dX4_ways_93 : decode cX4_ways 93 = .ok (.iload 4, 2) := by decide +kernel
theorem dX4_ways_95 : decode cX4_ways 95 = .ok (.iload 6, 2) := by decide +kernel
theorem dX4_ways_97 : decode cX4_ways 97 = .ok (.ior, 1) := by decide +kernel
theorem dX4_ways_98 : decode cX4_ways 98 = .ok (.iload 7, 2) := by decide +kernel
theorem dX4_ways_100 : decode cX4_ways 100 = .ok (.bipush 9, 2) := by decide +kernel
theorem dX4_ways_102 : decode cX4_ways 102 = .ok (.ishl, 1) := by decide +kernel
theorem dX4_ways_103 : decode cX4_ways 103 = .ok (.ior, 1) := by decide +kernel
theorem dX4_ways_104 : decode cX4_ways 104 = .ok (.iastore, 1) := by decide +kernel
theorem dX4_ways_105 : decode cX4_ways 105 = .ok (.aload_n 0, 1) := by decide +kernel
theorem dX4_ways_106 : decode cX4_ways 106 = .ok (.getfield 19, 3) := by decide +kernel
theorem dX4_ways_109 : decode cX4_ways 109 = .ok (.iload_n 1, 1) := by decide +kernel
theorem dX4_ways_110 : decode cX4_ways 110 = .ok (.invokevirtual 131, 3) := by decide +kernel
theorem dX4_ways_113 : decode cX4_ways 113 = .ok (.iload_n 2, 1) := by decide +kernel
theorem dX4_ways_114 : decode cX4_ways 114 = .ok (.if_icmp .ne 6, 3) := by decide +kernel
theorem dX4_ways_117 : decode cX4_ways 117 = .ok (.iinc 5 1, 3) := by decide +kernel
theorem dX4_ways_120 : decode cX4_ways 120 = .ok (.iinc 7 1, 3) := by decide +kernel
theorem dX4_ways_123 : decode cX4_ways 123 = .ok (.goto (-44), 3) := by decide +kernel
theorem dX4_ways_126 : decode cX4_ways 126 = .ok (.iinc 6 1, 3) := by decide +kernel
theorem dX4_ways_129 : decode cX4_ways 129 = .ok (.goto (-59), 3) := by decide +kernel
theorem dX4_ways_132 : decode cX4_ways 132 = .ok (.iload 5, 2) := by decide +kernel
theorem dX4_ways_134 : decode cX4_ways 134 = .ok (.ireturn, 1) := by decide +kernel
theorem dX4_feed_0 : decode cX4_feed 0 = .ok (.iload_n 2, 1) := by decide +kernel
theorem dX4_feed_1 : decode cX4_feed 1 = .ok (.iconst 1, 1) := by decide +kernel
theorem dX4_feed_2 : decode cX4_feed 2 = .ok (.iconst 4, 1) := by decide +kernel
theorem dX4_feed_3 : decode cX4_feed 3 = .ok (.invokestatic 40, 3) := by decide +kernel
theorem dX4_feed_6 : decode cX4_feed 6 = .ok (.ifCond .ne 10, 3) := by decide +kernel
theorem dX4_feed_9 : decode cX4_feed 9 = .ok (.aload_n 0, 1) := by decide +kernel
theorem dX4_feed_10 : decode cX4_feed 10 = .ok (.ldc 44, 2) := by decide +kernel
theorem dX4_feed_12 : decode cX4_feed 12 = .ok (.invokevirtual 45, 3) := by decide +kernel
theorem dX4_feed_15 : decode cX4_feed 15 = .ok (.ireturn, 1) := by decide +kernel
theorem dX4_feed_16 : decode cX4_feed 16 = .ok (.aload_n 0, 1) := by decide +kernel
theorem dX4_feed_17 : decode cX4_feed 17 = .ok (.getfield 25, 3) := by decide +kernel
theorem dX4_feed_20 : decode cX4_feed 20 = .ok (.getfield 195, 3) := by decide +kernel
theorem dX4_feed_23 : decode cX4_feed 23 = .ok (.iload_n 2, 1) := by decide +kernel
theorem dX4_feed_24 : decode cX4_feed 24 = .ok (.invokevirtual 199, 3) := by decide +kernel
theorem dX4_feed_27 : decode cX4_feed 27 = .ok (.ifCond .ne 10, 3) := by decide +kernel
theorem dX4_feed_30 : decode cX4_feed 30 = .ok (.aload_n 0, 1) := by decide +kernel
theorem dX4_feed_31 : decode cX4_feed 31 = .ok (.ldc 71, 2) := by decide +kernel
theorem dX4_feed_33 : decode cX4_feed 33 = .ok (.invokevirtual 45, 3) := by decide +kernel
theorem dX4_feed_36 : decode cX4_feed 36 = .ok (.ireturn, 1) := by decide +kernel
theorem dX4_feed_37 : decode cX4_feed 37 = .ok (.iload_n 2, 1) := by decide +kernel
theorem dX4_feed_38 : decode cX4_feed 38 = .ok (.iconst 1, 1) := by decide +kernel
theorem dX4_feed_39 : decode cX4_feed 39 = .ok (.isub, 1) := by decide +kernel
theorem dX4_feed_40 : decode cX4_feed 40 = .ok (.istore_n 3, 1) := by decide +kernel
theorem dX4_feed_41 : decode cX4_feed 41 = .ok (.iload_n 3, 1) := by decide +kernel
theorem dX4_feed_42 : decode cX4_feed 42 = .ok (.ifCond .lt 25, 3) := by decide +kernel
theorem dX4_feed_45 : decode cX4_feed 45 = .ok (.aload_n 0, 1) := by decide +kernel
theorem dX4_feed_46 : decode cX4_feed 46 = .ok (.getfield 25, 3) := by decide +kernel
theorem dX4_feed_49 : decode cX4_feed 49 = .ok (.getfield 195, 3) := by decide +kernel
theorem dX4_feed_52 : decode cX4_feed 52 = .ok (.iload_n 1, 1) := by decide +kernel
theorem dX4_feed_53 : decode cX4_feed 53 = .ok (.bipush 8, 2) := by decide +kernel
theorem dX4_feed_55 : decode cX4_feed 55 = .ok (.iload_n 3, 1) := by decide +kernel
theorem dX4_feed_56 : decode cX4_feed 56 = .ok (.imul, 1) := by decide +kernel
theorem dX4_feed_57 : decode cX4_feed 57 = .ok (.ishr, 1) := by decide +kernel
theorem dX4_feed_58 : decode cX4_feed 58 = .ok (.invokevirtual 204, 3) := by decide +kernel
theorem dX4_feed_61 : decode cX4_feed 61 = .ok (.iinc 3 (-1), 3) := by decide +kernel
theorem dX4_feed_64 : decode cX4_feed 64 = .ok (.goto (-23), 3) := by decide +kernel
theorem dX4_feed_67 : decode cX4_feed 67 = .ok (.aload_n 0, 1) := by decide +kernel
theorem dX4_feed_68 : decode cX4_feed 68 = .ok (.getfield 25, 3) := by decide +kernel
theorem dX4_feed_71 : decode cX4_feed 71 = .ok (.getfield 195, 3) := by decide +kernel
theorem dX4_feed_74 : decode cX4_feed 74 = .ok (.getfield 208, 3) := by decide +kernel
theorem dX4_feed_77 : decode cX4_feed 77 = .ok (.ireturn, 1) := by decide +kernel
theorem dX4_wipe_0 : decode cX4_wipe 0 = .ok (.aload_n 0, 1) := by decide +kernel
theorem dX4_wipe_1 : decode cX4_wipe 1 = .ok (.getfield 25, 3) := by decide +kernel
theorem dX4_wipe_4 : decode cX4_wipe 4 = .ok (.getfield 195, 3) := by decide +kernel
theorem dX4_wipe_7 : decode cX4_wipe 7 = .ok (.invokevirtual 211, 3) := by decide +kernel
theorem dX4_wipe_10 : decode cX4_wipe 10 = .ok (.ireturn, 1) := by decide +kernel
theorem dX4_valley_0 : decode cX4_valley 0 = .ok (.aload_n 0, 1) := by decide +kernel
theorem dX4_valley_1 : decode cX4_valley 1 = .ok (.getfield 19, 3) := by decide +kernel
theorem dX4_valley_4 : decode cX4_valley 4 = .ok (.aload_n 0, 1) := by decide +kernel
theorem dX4_valley_5 : decode cX4_valley 5 = .ok (.getfield 12, 3) := by decide +kernel
theorem dX4_valley_8 : decode cX4_valley 8 = .ok (.invokevirtual 164, 3) := by decide +kernel
theorem dX4_valley_11 : decode cX4_valley 11 = .ok (.aload_n 0, 1) := by decide +kernel
theorem dX4_valley_12 : decode cX4_valley 12 = .ok (.getfield 25, 3) := by decide +kernel
theorem dX4_valley_15 : decode cX4_valley 15 = .ok (.aload_n 0, 1) := by decide +kernel
theorem dX4_valley_16 : decode cX4_valley 16 = .ok (.getfield 19, 3) := by decide +kernel
theorem dX4_valley_19 : decode cX4_valley 19 = .ok (.invokevirtual 215, 3) := by decide +kernel
theorem dX4_valley_22 : decode cX4_valley 22 = .ok (.istore_n 1, 1) := by decide +kernel
theorem dX4_valley_23 : decode cX4_valley 23 = .ok (.iload_n 1, 1) := by decide +kernel
theorem dX4_valley_24 : decode cX4_valley 24 = .ok (.ifCond .le 14, 3) := by decide +kernel
theorem dX4_valley_27 : decode cX4_valley 27 = .ok (.aload_n 0, 1) := by decide +kernel
theorem dX4_valley_28 : decode cX4_valley 28 = .ok (.getfield 12, 3) := by decide +kernel
theorem dX4_valley_31 : decode cX4_valley 31 = .ok (.aload_n 0, 1) := by decide +kernel
theorem dX4_valley_32 : decode cX4_valley 32 = .ok (.getfield 19, 3) := by decide +kernel
theorem dX4_valley_35 : decode cX4_valley 35 = .ok (.invokevirtual 164, 3) := by decide +kernel
theorem dX4_valley_38 : decode cX4_valley 38 = .ok (.aload_n 0, 1) := by decide +kernel
theorem dX4_valley_39 : decode cX4_valley 39 = .ok (.getfield 25, 3) := by decide +kernel
theorem dX4_valley_42 : decode cX4_valley 42 = .ok (.getfield 195, 3) := by decide +kernel
theorem dX4_valley_45 : decode cX4_valley 45 = .ok (.invokevirtual 211, 3) := by decide +kernel
theorem dX4_valley_48 : decode cX4_valley 48 = .ok (.pop, 1) := by decide +kernel
theorem dX4_valley_49 : decode cX4_valley 49 = .ok (.iload_n 1, 1) := by decide +kernel
theorem dX4_valley_50 : decode cX4_valley 50 = .ok (.ireturn, 1) := by decide +kernel
theorem dX4_sheet_0 : decode cX4_sheet 0 = .ok (.aload_n 0, 1) := by decide +kernel
theorem dX4_sheet_1 : decode cX4_sheet 1 = .ok (.iload_n 1, 1) := by decide +kernel
theorem dX4_sheet_2 : decode cX4_sheet 2 = .ok (.invokevirtual 219, 3) := by decide +kernel
theorem dX4_sheet_5 : decode cX4_sheet 5 = .ok (.astore 4, 2) := by decide +kernel
theorem dX4_sheet_7 : decode cX4_sheet 7 = .ok (.aload 4, 2) := by decide +kernel
theorem dX4_sheet_9 : decode cX4_sheet 9 = .ok (.ifnull 25, 3) := by decide +kernel
theorem dX4_sheet_12 : decode cX4_sheet 12 = .ok (.iload_n 2, 1) := by decide +kernel
theorem dX4_sheet_13 : decode cX4_sheet 13 = .ok (.ifCond .eq 28, 3) := by decide +kernel
theorem dX4_sheet_16 : decode cX4_sheet 16 = .ok (.iload_n 2, 1) := by decide +kernel
theorem dX4_sheet_17 : decode cX4_sheet 17 = .ok (.bipush 8, 2) := by decide +kernel
theorem dX4_sheet_19 : decode cX4_sheet 19 = .ok (.if_icmp .eq 22, 3) := by decide +kernel
theorem dX4_sheet_22 : decode cX4_sheet 22 = .ok (.iload_n 2, 1) := by decide +kernel
theorem dX4_sheet_23 : decode cX4_sheet 23 = .ok (.bipush 16, 2) := by decide +kernel
theorem dX4_sheet_25 : decode cX4_sheet 25 = .ok (.if_icmp .eq 16, 3) := by decide +kernel
theorem dX4_sheet_28 : decode cX4_sheet 28 = .ok (.iload_n 2, 1) := by decide +kernel
theorem dX4_sheet_29 : decode cX4_sheet 29 = .ok (.bipush 64, 2) := by decide +kernel
theorem dX4_sheet_31 : decode cX4_sheet 31 = .ok (.if_icmp .eq 10, 3) := by decide +kernel
theorem dX4_sheet_34 : decode cX4_sheet 34 = .ok (.aload_n 0, 1) := by decide +kernel
theorem dX4_sheet_35 : decode cX4_sheet 35 = .ok (.ldc 44, 2) := by decide +kernel
theorem dX4_sheet_37 : decode cX4_sheet 37 = .ok (.invokevirtual 45, 3) := by decide +kernel
theorem dX4_sheet_40 : decode cX4_sheet 40 = .ok (.ireturn, 1) := by decide +kernel
theorem dX4_sheet_41 : decode cX4_sheet 41 = .ok (.iload_n 3, 1) := by decide +kernel
theorem dX4_sheet_42 : decode cX4_sheet 42 = .ok (.ifCond .ge 10, 3) := by decide +kernel
theorem dX4_sheet_45 : decode cX4_sheet 45 = .ok (.aload_n 0, 1) := by decide +kernel
theorem dX4_sheet_46 : decode cX4_sheet 46 = .ok (.ldc 223, 2) := by decide +kernel
theorem dX4_sheet_48 : decode cX4_sheet 48 = .ok (.invokevirtual 45, 3) := by decide +kernel
theorem dX4_sheet_51 : decode cX4_sheet 51 = .ok (.ireturn, 1) := by decide +kernel
theorem dX4_sheet_52 : decode cX4_sheet 52 = .ok (.iload_n 3, 1) := by decide +kernel
theorem dX4_sheet_53 : decode cX4_sheet 53 = .ok (.bipush 40, 2) := by decide +kernel
theorem dX4_sheet_55 : decode cX4_sheet 55 = .ok (.if_icmp .le 10, 3) := by decide +kernel
theorem dX4_sheet_58 : decode cX4_sheet 58 = .ok (.aload_n 0, 1) := by decide +kernel
theorem dX4_sheet_59 : decode cX4_sheet 59 = .ok (.ldc 44, 2) := by decide +kernel
theorem dX4_sheet_61 : decode cX4_sheet 61 = .ok (.invokevirtual 45, 3) := by decide +kernel
theorem dX4_sheet_64 : decode cX4_sheet 64 = .ok (.ireturn, 1) := by decide +kernel
theorem dX4_sheet_65 : decode cX4_sheet 65 = .ok (.aload 4, 2) := by decide +kernel
theorem dX4_sheet_67 : decode cX4_sheet 67 = .ok (.iload_n 2, 1) := by decide +kernel
theorem dX4_sheet_68 : decode cX4_sheet 68 = .ok (.iload_n 3, 1) := by decide +kernel
theorem dX4_sheet_69 : decode cX4_sheet 69 = .ok (.invokevirtual 224, 3) := by decide +kernel
theorem dX4_sheet_72 : decode cX4_sheet 72 = .ok (.ireturn, 1) := by decide +kernel
theorem dX4_write_0 : decode cX4_write 0 = .ok (.aload_n 0, 1) := by decide +kernel
theorem dX4_write_1 : decode cX4_write 1 = .ok (.iload_n 1, 1) := by decide +kernel
theorem dX4_write_2 : decode cX4_write 2 = .ok (.invokevirtual 219, 3) := by decide +kernel
theorem dX4_write_5 : decode cX4_write 5 = .ok (.astore 5, 2) := by decide +kernel
theorem dX4_write_7 : decode cX4_write 7 = .ok (.aload 5, 2) := by decide +kernel
theorem dX4_write_9 : decode cX4_write 9 = .ok (.ifnonnull 11, 3) := by decide +kernel
theorem dX4_write_12 : decode cX4_write 12 = .ok (.aload_n 0, 1) := by decide +kernel
theorem dX4_write_13 : decode cX4_write 13 = .ok (.ldc 44, 2) := by decide +kernel
theorem dX4_write_15 : decode cX4_write 15 = .ok (.invokevirtual 45, 3) := by decide +kernel
theorem dX4_write_18 : decode cX4_write 18 = .ok (.i2l, 1) := by decide +kernel
theorem dX4_write_19 : decode cX4_write 19 = .ok (.lreturn, 1) := by decide +kernel
theorem dX4_write_20 : decode cX4_write 20 = .ok (.aload 5, 2) := by decide +kernel
theorem dX4_write_22 : decode cX4_write 22 = .ok (.invokevirtual 227, 3) := by decide +kernel
theorem dX4_write_25 : decode cX4_write 25 = .ok (.ifCond .eq 11, 3) := by decide +kernel
theorem dX4_write_28 : decode cX4_write 28 = .ok (.aload_n 0, 1) := by decide +kernel
theorem dX4_write_29 : decode cX4_write 29 = .ok (.ldc 231, 2) := by decide +kernel
theorem dX4_write_31 : decode cX4_write 31 = .ok (.invokevirtual 45, 3) := by decide +kernel
theorem dX4_write_34 : decode cX4_write 34 = .ok (.i2l, 1) := by decide +kernel
theorem dX4_write_35 : decode cX4_write 35 = .ok (.lreturn, 1) := by decide +kernel
theorem dX4_write_36 : decode cX4_write 36 = .ok (.iload_n 2, 1) := by decide +kernel
theorem dX4_write_37 : decode cX4_write 37 = .ok (.iconst 0, 1) := by decide +kernel
theorem dX4_write_38 : decode cX4_write 38 = .ok (.aload 5, 2) := by decide +kernel
theorem dX4_write_40 : decode cX4_write 40 = .ok (.getfield 232, 3) := by decide +kernel
theorem dX4_write_43 : decode cX4_write 43 = .ok (.iconst 1, 1) := by decide +kernel
theorem dX4_write_44 : decode cX4_write 44 = .ok (.isub, 1) := by decide +kernel
theorem dX4_write_45 : decode cX4_write 45 = .ok (.invokestatic 40, 3) := by decide +kernel
theorem dX4_write_48 : decode cX4_write 48 = .ok (.ifCond .ne 11, 3) := by decide +kernel
theorem dX4_write_51 : decode cX4_write 51 = .ok (.aload_n 0, 1) := by decide +kernel
theorem dX4_write_52 : decode cX4_write 52 = .ok (.ldc 44, 2) := by decide +kernel
theorem dX4_write_54 : decode cX4_write 54 = .ok (.invokevirtual 45, 3) := by decide +kernel
theorem dX4_write_57 : decode cX4_write 57 = .ok (.i2l, 1) := by decide +kernel
theorem dX4_write_58 : decode cX4_write 58 = .ok (.lreturn, 1) := by decide +kernel
theorem dX4_write_59 : decode cX4_write 59 = .ok (.aload 5, 2) := by decide +kernel
theorem dX4_write_61 : decode cX4_write 61 = .ok (.iload_n 2, 1) := by decide +kernel
theorem dX4_write_62 : decode cX4_write 62 = .ok (.lload_n 3, 1) := by decide +kernel
theorem dX4_write_63 : decode cX4_write 63 = .ok (.invokevirtual 235, 3) := by decide +kernel
theorem dX4_write_66 : decode cX4_write 66 = .ok (.lreturn, 1) := by decide +kernel
theorem dX4_copy_0 : decode cX4_copy 0 = .ok (.aload_n 0, 1) := by decide +kernel
theorem dX4_copy_1 : decode cX4_copy 1 = .ok (.iload_n 1, 1) := by decide +kernel
theorem dX4_copy_2 : decode cX4_copy 2 = .ok (.invokevirtual 219, 3) := by decide +kernel
theorem dX4_copy_5 : decode cX4_copy 5 = .ok (.astore 6, 2) := by decide +kernel
theorem dX4_copy_7 : decode cX4_copy 7 = .ok (.aload_n 0, 1) := by decide +kernel
theorem dX4_copy_8 : decode cX4_copy 8 = .ok (.iload_n 3, 1) := by decide +kernel
theorem dX4_copy_9 : decode cX4_copy 9 = .ok (.invokevirtual 219, 3) := by decide +kernel
theorem dX4_copy_12 : decode cX4_copy 12 = .ok (.astore 7, 2) := by decide +kernel
theorem dX4_copy_14 : decode cX4_copy 14 = .ok (.aload 6, 2) := by decide +kernel
theorem dX4_copy_16 : decode cX4_copy 16 = .ok (.ifnull 8, 3) := by decide +kernel
theorem dX4_copy_19 : decode cX4_copy 19 = .ok (.aload 7, 2) := by decide +kernel
theorem dX4_copy_21 : decode cX4_copy 21 = .ok (.ifnonnull 10, 3) := by decide +kernel
theorem dX4_copy_24 : decode cX4_copy 24 = .ok (.aload_n 0, 1) := by decide +kernel
theorem dX4_copy_25 : decode cX4_copy 25 = .ok (.ldc 44, 2) := by decide +kernel
theorem dX4_copy_27 : decode cX4_copy 27 = .ok (.invokevirtual 45, 3) := by decide +kernel
theorem dX4_copy_30 : decode cX4_copy 30 = .ok (.ireturn, 1) := by decide +kernel
theorem dX4_copy_31 : decode cX4_copy 31 = .ok (.aload 6, 2) := by decide +kernel
theorem dX4_copy_33 : decode cX4_copy 33 = .ok (.invokevirtual 227, 3) := by decide +kernel
theorem dX4_copy_36 : decode cX4_copy 36 = .ok (.ifCond .ne 11, 3) := by decide +kernel
theorem dX4_copy_39 : decode cX4_copy 39 = .ok (.aload 7, 2) := by decide +kernel
theorem dX4_copy_41 : decode cX4_copy 41 = .ok (.invokevirtual 227, 3) := by decide +kernel
theorem dX4_copy_44 : decode cX4_copy 44 = .ok (.ifCond .eq 10, 3) := by decide +kernel
theorem dX4_copy_47 : decode cX4_copy 47 = .ok (.aload_n 0, 1) := by decide +kernel
theorem dX4_copy_48 : decode cX4_copy 48 = .ok (.ldc 231, 2) := by decide +kernel
theorem dX4_copy_50 : decode cX4_copy 50 = .ok (.invokevirtual 45, 3) := by decide +kernel
theorem dX4_copy_53 : decode cX4_copy 53 = .ok (.ireturn, 1) := by decide +kernel
theorem dX4_copy_54 : decode cX4_copy 54 = .ok (.aload 6, 2) := by decide +kernel
theorem dX4_copy_56 : decode cX4_copy 56 = .ok (.getfield 239, 3) := by decide +kernel
theorem dX4_copy_59 : decode cX4_copy 59 = .ok (.aload 7, 2) := by decide +kernel
theorem dX4_copy_61 : decode cX4_copy 61 = .ok (.getfield 239, 3) := by decide +kernel
theorem dX4_copy_64 : decode cX4_copy 64 = .ok (.if_icmp .eq 10, 3) := by decide +kernel
theorem dX4_copy_67 : decode cX4_copy 67 = .ok (.aload_n 0, 1) := by decide +kernel
theorem dX4_copy_68 : decode cX4_copy 68 = .ok (.ldc 116, 2) := by decide +kernel
theorem dX4_copy_70 : decode cX4_copy 70 = .ok (.invokevirtual 45, 3) := by decide +kernel
theorem dX4_copy_73 : decode cX4_copy 73 = .ok (.ireturn, 1) := by decide +kernel
theorem dX4_copy_74 : decode cX4_copy 74 = .ok (.aload 6, 2) := by decide +kernel
theorem dX4_copy_76 : decode cX4_copy 76 = .ok (.iload_n 2, 1) := by decide +kernel
theorem dX4_copy_77 : decode cX4_copy 77 = .ok (.iload 5, 2) := by decide +kernel
theorem dX4_copy_79 : decode cX4_copy 79 = .ok (.invokevirtual 242, 3) := by decide +kernel
theorem dX4_copy_82 : decode cX4_copy 82 = .ok (.ifCond .eq 15, 3) := by decide +kernel
theorem dX4_copy_85 : decode cX4_copy 85 = .ok (.aload 7, 2) := by decide +kernel
theorem dX4_copy_87 : decode cX4_copy 87 = .ok (.iload 4, 2) := by decide +kernel
theorem dX4_copy_89 : decode cX4_copy 89 = .ok (.iload 5, 2) := by decide +kernel
theorem dX4_copy_91 : decode cX4_copy 91 = .ok (.invokevirtual 242, 3) := by decide +kernel
theorem dX4_copy_94 : decode cX4_copy 94 = .ok (.ifCond .ne 10, 3) := by decide +kernel
theorem dX4_copy_97 : decode cX4_copy 97 = .ok (.aload_n 0, 1) := by decide +kernel
theorem dX4_copy_98 : decode cX4_copy 98 = .ok (.ldc 44, 2) := by decide +kernel
theorem dX4_copy_100 : decode cX4_copy 100 = .ok (.invokevirtual 45, 3) := by decide +kernel
theorem dX4_copy_103 : decode cX4_copy 103 = .ok (.ireturn, 1) := by decide +kernel
theorem dX4_copy_104 : decode cX4_copy 104 = .ok (.aload 6, 2) := by decide +kernel
theorem dX4_copy_106 : decode cX4_copy 106 = .ok (.getfield 245, 3) := by decide +kernel
theorem dX4_copy_109 : decode cX4_copy 109 = .ok (.iload_n 2, 1) := by decide +kernel
theorem dX4_copy_110 : decode cX4_copy 110 = .ok (.aload 7, 2) := by decide +kernel
theorem dX4_copy_112 : decode cX4_copy 112 = .ok (.getfield 245, 3) := by decide +kernel
theorem dX4_copy_115 : decode cX4_copy 115 = .ok (.iload 4, 2) := by decide +kernel
theorem dX4_copy_117 : decode cX4_copy 117 = .ok (.iload 5, 2) := by decide +kernel
theorem dX4_copy_119 : decode cX4_copy 119 = .ok (.invokestatic 249, 3) := by decide +kernel
theorem dX4_copy_122 : decode cX4_copy 122 = .ok (.iload 5, 2) := by decide +kernel
theorem dX4_copy_124 : decode cX4_copy 124 = .ok (.ireturn, 1) := by decide +kernel
theorem dX4_lays_0 : decode cX4_lays 0 = .ok (.aload_n 0, 1) := by decide +kernel
theorem dX4_lays_1 : decode cX4_lays 1 = .ok (.iload_n 1, 1) := by decide +kernel
theorem dX4_lays_2 : decode cX4_lays 2 = .ok (.invokevirtual 219, 3) := by decide +kernel
theorem dX4_lays_5 : decode cX4_lays 5 = .ok (.astore_n 3, 1) := by decide +kernel
theorem dX4_lays_6 : decode cX4_lays 6 = .ok (.aload_n 3, 1) := by decide +kernel
theorem dX4_lays_7 : decode cX4_lays 7 = .ok (.ifnonnull 10, 3) := by decide +kernel
theorem dX4_lays_10 : decode cX4_lays 10 = .ok (.aload_n 0, 1) := by decide +kernel
theorem dX4_lays_11 : decode cX4_lays 11 = .ok (.ldc 44, 2) := by decide +kernel
theorem dX4_lays_13 : decode cX4_lays 13 = .ok (.invokevirtual 45, 3) := by decide +kernel
theorem dX4_lays_16 : decode cX4_lays 16 = .ok (.ireturn, 1) := by decide +kernel
theorem dX4_lays_17 : decode cX4_lays 17 = .ok (.aload_n 3, 1) := by decide +kernel
theorem dX4_lays_18 : decode cX4_lays 18 = .ok (.invokevirtual 227, 3) := by decide +kernel
theorem dX4_lays_21 : decode cX4_lays 21 = .ok (.ifCond .eq 10, 3) := by decide +kernel
theorem dX4_lays_24 : decode cX4_lays 24 = .ok (.aload_n 0, 1) := by decide +kernel
theorem dX4_lays_25 : decode cX4_lays 25 = .ok (.ldc 231, 2) := by decide +kernel
theorem dX4_lays_27 : decode cX4_lays 27 = .ok (.invokevirtual 45, 3) := by decide +kernel
theorem dX4_lays_30 : decode cX4_lays 30 = .ok (.ireturn, 1) := by decide +kernel
theorem dX4_lays_31 : decode cX4_lays 31 = .ok (.aload_n 0, 1) := by decide +kernel
theorem dX4_lays_32 : decode cX4_lays 32 = .ok (.iload_n 2, 1) := by decide +kernel
theorem dX4_lays_33 : decode cX4_lays 33 = .ok (.invokevirtual 72, 3) := by decide +kernel
theorem dX4_lays_36 : decode cX4_lays 36 = .ok (.ifCond .ne 10, 3) := by decide +kernel
theorem dX4_lays_39 : decode cX4_lays 39 = .ok (.aload_n 0, 1) := by decide +kernel
theorem dX4_lays_40 : decode cX4_lays 40 = .ok (.ldc 44, 2) := by decide +kernel
theorem dX4_lays_42 : decode cX4_lays 42 = .ok (.invokevirtual 45, 3) := by decide +kernel
theorem dX4_lays_45 : decode cX4_lays 45 = .ok (.ireturn, 1) := by decide +kernel
theorem dX4_lays_46 : decode cX4_lays 46 = .ok (.aload_n 3, 1) := by decide +kernel
theorem dX4_lays_47 : decode cX4_lays 47 = .ok (.invokevirtual 255, 3) := by decide +kernel
theorem dX4_lays_50 : decode cX4_lays 50 = .ok (.istore 4, 2) := by decide +kernel
theorem dX4_lays_52 : decode cX4_lays 52 = .ok (.aload_n 0, 1) := by decide +kernel
theorem dX4_lays_53 : decode cX4_lays 53 = .ok (.getfield 12, 3) := by decide +kernel
theorem dX4_lays_56 : decode cX4_lays 56 = .ok (.getfield 102, 3) := by decide +kernel
theorem dX4_lays_59 : decode cX4_lays 59 = .ok (.iload_n 2, 1) := by decide +kernel
theorem dX4_lays_60 : decode cX4_lays 60 = .ok (.aload_n 0, 1) := by decide +kernel
theorem dX4_lays_61 : decode cX4_lays 61 = .ok (.getfield 12, 3) := by decide +kernel
theorem dX4_lays_64 : decode cX4_lays 64 = .ok (.getfield 102, 3) := by decide +kernel
theorem dX4_lays_67 : decode cX4_lays 67 = .ok (.iload_n 2, 1) := by decide +kernel
theorem dX4_lays_68 : decode cX4_lays 68 = .ok (.iaload, 1) := by decide +kernel
theorem dX4_lays_69 : decode cX4_lays 69 = .ok (.aload_n 3, 1) := by decide +kernel
theorem dX4_lays_70 : decode cX4_lays 70 = .ok (.invokevirtual 258, 3) := by decide +kernel
theorem dX4_lays_73 : decode cX4_lays 73 = .ok (.iload 4, 2) := by decide +kernel
theorem dX4_lays_75 : decode cX4_lays 75 = .ok (.invokestatic 180, 3) := by decide +kernel
theorem dX4_lays_78 : decode cX4_lays 78 = .ok (.iastore, 1) := by decide +kernel
theorem dX4_lays_79 : decode cX4_lays 79 = .ok (.iload 4, 2) := by decide +kernel
theorem dX4_lays_81 : decode cX4_lays 81 = .ok (.invokestatic 126, 3) := by decide +kernel
theorem dX4_lays_84 : decode cX4_lays 84 = .ok (.ireturn, 1) := by decide +kernel
theorem dX4_book_0 : decode cX4_book 0 = .ok (.aload_n 0, 1) := by decide +kernel
theorem dX4_book_1 : decode cX4_book 1 = .ok (.iload_n 1, 1) := by decide +kernel
theorem dX4_book_2 : decode cX4_book 2 = .ok (.invokevirtual 219, 3) := by decide +kernel
theorem dX4_book_5 : decode cX4_book 5 = .ok (.astore_n 3, 1) := by decide +kernel
theorem dX4_book_6 : decode cX4_book 6 = .ok (.aload_n 3, 1) := by decide +kernel
theorem dX4_book_7 : decode cX4_book 7 = .ok (.ifnonnull 10, 3) := by decide +kernel
theorem dX4_book_10 : decode cX4_book 10 = .ok (.aload_n 0, 1) := by decide +kernel
theorem dX4_book_11 : decode cX4_book 11 = .ok (.ldc 44, 2) := by decide +kernel
theorem dX4_book_13 : decode cX4_book 13 = .ok (.invokevirtual 45, 3) := by decide +kernel
theorem dX4_book_16 : decode cX4_book 16 = .ok (.ireturn, 1) := by decide +kernel
theorem dX4_book_17 : decode cX4_book 17 = .ok (.aload_n 3, 1) := by decide +kernel
theorem dX4_book_18 : decode cX4_book 18 = .ok (.invokevirtual 227, 3) := by decide +kernel
theorem dX4_book_21 : decode cX4_book 21 = .ok (.ifCond .eq 10, 3) := by decide +kernel
theorem dX4_book_24 : decode cX4_book 24 = .ok (.aload_n 0, 1) := by decide +kernel
theorem dX4_book_25 : decode cX4_book 25 = .ok (.ldc 231, 2) := by decide +kernel
theorem dX4_book_27 : decode cX4_book 27 = .ok (.invokevirtual 45, 3) := by decide +kernel
theorem dX4_book_30 : decode cX4_book 30 = .ok (.ireturn, 1) := by decide +kernel
theorem dX4_book_31 : decode cX4_book 31 = .ok (.iload_n 2, 1) := by decide +kernel
theorem dX4_book_32 : decode cX4_book 32 = .ok (.iconst 0, 1) := by decide +kernel
theorem dX4_book_33 : decode cX4_book 33 = .ok (.bipush 100, 2) := by decide +kernel
theorem dX4_book_35 : decode cX4_book 35 = .ok (.invokestatic 40, 3) := by decide +kernel
theorem dX4_book_38 : decode cX4_book 38 = .ok (.ifCond .ne 10, 3) := by decide +kernel
theorem dX4_book_41 : decode cX4_book 41 = .ok (.aload_n 0, 1) := by decide +kernel
theorem dX4_book_42 : decode cX4_book 42 = .ok (.ldc 44, 2) := by decide +kernel
theorem dX4_book_44 : decode cX4_book 44 = .ok (.invokevirtual 45, 3) := by decide +kernel
theorem dX4_book_47 : decode cX4_book 47 = .ok (.ireturn, 1) := by decide +kernel
theorem dX4_book_48 : decode cX4_book 48 = .ok (.aload_n 0, 1) := by decide +kernel
theorem dX4_book_49 : decode cX4_book 49 = .ok (.iload_n 2, 1) := by decide +kernel
theorem dX4_book_50 : decode cX4_book 50 = .ok (.invokevirtual 144, 3) := by decide +kernel
theorem dX4_book_53 : decode cX4_book 53 = .ok (.ifCond .eq 10, 3) := by decide +kernel
theorem dX4_book_56 : decode cX4_book 56 = .ok (.aload_n 0, 1) := by decide +kernel
theorem dX4_book_57 : decode cX4_book 57 = .ok (.ldc 147, 2) := by decide +kernel
theorem dX4_book_59 : decode cX4_book 59 = .ok (.invokevirtual 45, 3) := by decide +kernel
theorem dX4_book_62 : decode cX4_book 62 = .ok (.ireturn, 1) := by decide +kernel
theorem dX4_book_63 : decode cX4_book 63 = .ok (.aload_n 0, 1) := by decide +kernel
theorem dX4_book_64 : decode cX4_book 64 = .ok (.getfield 19, 3) := by decide +kernel
theorem dX4_book_67 : decode cX4_book 67 = .ok (.aload_n 0, 1) := by decide +kernel
theorem dX4_book_68 : decode cX4_book 68 = .ok (.getfield 12, 3) := by decide +kernel
theorem dX4_book_71 : decode cX4_book 71 = .ok (.invokevirtual 164, 3) := by decide +kernel
theorem dX4_book_74 : decode cX4_book 74 = .ok (.aload_n 0, 1) := by decide +kernel
theorem dX4_book_75 : decode cX4_book 75 = .ok (.getfield 19, 3) := by decide +kernel
theorem dX4_book_78 : decode cX4_book 78 = .ok (.iload_n 2, 1) := by decide +kernel
theorem dX4_book_79 : decode cX4_book 79 = .ok (.invokevirtual 148, 3) := by decide +kernel
theorem dX4_book_82 : decode cX4_book 82 = .ok (.pop, 1) := by decide +kernel
theorem dX4_book_83 : decode cX4_book 83 = .ok (.aload_n 0, 1) := by decide +kernel
theorem dX4_book_84 : decode cX4_book 84 = .ok (.getfield 19, 3) := by decide +kernel
theorem dX4_book_87 : decode cX4_book 87 = .ok (.getfield 261, 3) := by decide +kernel
theorem dX4_book_90 : decode cX4_book 90 = .ok (.aload_n 3, 1) := by decide +kernel
theorem dX4_book_91 : decode cX4_book 91 = .ok (.getfield 232, 3) := by decide +kernel
theorem dX4_book_94 : decode cX4_book 94 = .ok (.invokestatic 183, 3) := by decide +kernel
theorem dX4_book_97 : decode cX4_book 97 = .ok (.istore 4, 2) := by decide +kernel
theorem dX4_book_99 : decode cX4_book 99 = .ok (.iconst 0, 1) := by decide +kernel
theorem dX4_book_100 : decode cX4_book 100 = .ok (.istore 5, 2) := by decide +kernel
theorem dX4_book_102 : decode cX4_book 102 = .ok (.iload 5, 2) := by decide +kernel
theorem dX4_book_104 : decode cX4_book 104 = .ok (.iload 4, 2) := by decide +kernel
theorem dX4_book_106 : decode cX4_book 106 = .ok (.if_icmp .ge 26, 3) := by decide +kernel
theorem dX4_book_109 : decode cX4_book 109 = .ok (.aload_n 3, 1) := by decide +kernel
theorem dX4_book_110 : decode cX4_book 110 = .ok (.iload 5, 2) := by decide +kernel
theorem dX4_book_112 : decode cX4_book 112 = .ok (.aload_n 0, 1) := by decide +kernel
theorem dX4_book_113 : decode cX4_book 113 = .ok (.getfield 19, 3) := by decide +kernel
theorem dX4_book_116 : decode cX4_book 116 = .ok (.iload 5, 2) := by decide +kernel
theorem dX4_book_118 : decode cX4_book 118 = .ok (.invokevirtual 131, 3) := by decide +kernel
theorem dX4_book_121 : decode cX4_book 121 = .ok (.i2l, 1) := by decide +kernel
theorem dX4_book_122 : decode cX4_book 122 = .ok (.invokevirtual 235, 3) := by decide +kernel
theorem dX4_book_125 : decode cX4_book 125 = .ok (.pop2, 1) := by decide +kernel
theorem dX4_book_126 : decode cX4_book 126 = .ok (.iinc 5 1, 3) := by decide +kernel
theorem dX4_book_129 : decode cX4_book 129 = .ok (.goto (-27), 3) := by decide +kernel
theorem dX4_book_132 : decode cX4_book 132 = .ok (.iload 4, 2) := by decide +kernel
theorem dX4_book_134 : decode cX4_book 134 = .ok (.ireturn, 1) := by decide +kernel
theorem dX4_read_0 : decode cX4_read 0 = .ok (.aload_n 0, 1) := by decide +kernel
theorem dX4_read_1 : decode cX4_read 1 = .ok (.iload_n 1, 1) := by decide +kernel
theorem dX4_read_2 : decode cX4_read 2 = .ok (.invokevirtual 219, 3) := by decide +kernel
theorem dX4_read_5 : decode cX4_read 5 = .ok (.astore_n 2, 1) := by decide +kernel
theorem dX4_read_6 : decode cX4_read 6 = .ok (.aload_n 2, 1) := by decide +kernel
theorem dX4_read_7 : decode cX4_read 7 = .ok (.ifnonnull 10, 3) := by decide +kernel
theorem dX4_read_10 : decode cX4_read 10 = .ok (.aload_n 0, 1) := by decide +kernel
theorem dX4_read_11 : decode cX4_read 11 = .ok (.ldc 44, 2) := by decide +kernel
theorem dX4_read_13 : decode cX4_read 13 = .ok (.invokevirtual 45, 3) := by decide +kernel
theorem dX4_read_16 : decode cX4_read 16 = .ok (.ireturn, 1) := by decide +kernel
theorem dX4_read_17 : decode cX4_read 17 = .ok (.aload_n 2, 1) := by decide +kernel
theorem dX4_read_18 : decode cX4_read 18 = .ok (.invokevirtual 227, 3) := by decide +kernel
theorem dX4_read_21 : decode cX4_read 21 = .ok (.ifCond .eq 10, 3) := by decide +kernel
theorem dX4_read_24 : decode cX4_read 24 = .ok (.aload_n 0, 1) := by decide +kernel
theorem dX4_read_25 : decode cX4_read 25 = .ok (.ldc 231, 2) := by decide +kernel
theorem dX4_read_27 : decode cX4_read 27 = .ok (.invokevirtual 45, 3) := by decide +kernel
theorem dX4_read_30 : decode cX4_read 30 = .ok (.ireturn, 1) := by decide +kernel
theorem dX4_read_31 : decode cX4_read 31 = .ok (.aload_n 0, 1) := by decide +kernel
theorem dX4_read_32 : decode cX4_read 32 = .ok (.getfield 19, 3) := by decide +kernel
theorem dX4_read_35 : decode cX4_read 35 = .ok (.aload_n 0, 1) := by decide +kernel
theorem dX4_read_36 : decode cX4_read 36 = .ok (.getfield 12, 3) := by decide +kernel
theorem dX4_read_39 : decode cX4_read 39 = .ok (.invokevirtual 164, 3) := by decide +kernel
theorem dX4_read_42 : decode cX4_read 42 = .ok (.aload_n 2, 1) := by decide +kernel
theorem dX4_read_43 : decode cX4_read 43 = .ok (.invokevirtual 255, 3) := by decide +kernel
theorem dX4_read_46 : decode cX4_read 46 = .ok (.istore_n 3, 1) := by decide +kernel
theorem dX4_read_47 : decode cX4_read 47 = .ok (.iconst 0, 1) := by decide +kernel
theorem dX4_read_48 : decode cX4_read 48 = .ok (.istore 4, 2) := by decide +kernel
theorem dX4_read_50 : decode cX4_read 50 = .ok (.iload 4, 2) := by decide +kernel
theorem dX4_read_52 : decode cX4_read 52 = .ok (.bipush 9, 2) := by decide +kernel
theorem dX4_read_54 : decode cX4_read 54 = .ok (.if_icmp .ge 29, 3) := by decide +kernel
theorem dX4_read_57 : decode cX4_read 57 = .ok (.iload_n 3, 1) := by decide +kernel
theorem dX4_read_58 : decode cX4_read 58 = .ok (.iload 4, 2) := by decide +kernel
theorem dX4_read_60 : decode cX4_read 60 = .ok (.ishr, 1) := by decide +kernel
theorem dX4_read_61 : decode cX4_read 61 = .ok (.iconst 1, 1) := by decide +kernel
theorem dX4_read_62 : decode cX4_read 62 = .ok (.iand, 1) := by decide +kernel
theorem dX4_read_63 : decode cX4_read 63 = .ok (.ifCond .ne 14, 3) := by decide +kernel
theorem dX4_read_66 : decode cX4_read 66 = .ok (.aload_n 0, 1) := by decide +kernel
theorem dX4_read_67 : decode cX4_read 67 = .ok (.getfield 19, 3) := by decide +kernel
theorem dX4_read_70 : decode cX4_read 70 = .ok (.iload 4, 2) := by decide +kernel
theorem dX4_read_72 : decode cX4_read 72 = .ok (.iconst 0, 1) := by decide +kernel
theorem dX4_read_73 : decode cX4_read 73 = .ok (.invokevirtual 49, 3) := by decide +kernel
theorem dX4_read_76 : decode cX4_read 76 = .ok (.pop, 1) := by decide +kernel
theorem dX4_read_77 : decode cX4_read 77 = .ok (.iinc 4 1, 3) := by decide +kernel
theorem dX4_read_80 : decode cX4_read 80 = .ok (.goto (-30), 3) := by decide +kernel
theorem dX4_read_83 : decode cX4_read 83 = .ok (.aload_n 0, 1) := by decide +kernel
theorem dX4_read_84 : decode cX4_read 84 = .ok (.getfield 19, 3) := by decide +kernel
theorem dX4_read_87 : decode cX4_read 87 = .ok (.aload_n 2, 1) := by decide +kernel
theorem dX4_read_88 : decode cX4_read 88 = .ok (.invokevirtual 258, 3) := by decide +kernel
theorem dX4_read_91 : decode cX4_read 91 = .ok (.invokevirtual 264, 3) := by decide +kernel
theorem dX4_read_94 : decode cX4_read 94 = .ok (.istore 4, 2) := by decide +kernel
theorem dX4_read_96 : decode cX4_read 96 = .ok (.iload 4, 2) := by decide +kernel
theorem dX4_read_98 : decode cX4_read 98 = .ok (.iconst (-1), 1) := by decide +kernel
theorem dX4_read_99 : decode cX4_read 99 = .ok (.if_icmp .ne 12, 3) := by decide +kernel
theorem dX4_read_102 : decode cX4_read 102 = .ok (.aload_n 0, 1) := by decide +kernel
theorem dX4_read_103 : decode cX4_read 103 = .ok (.ldc 134, 2) := by decide +kernel
theorem dX4_read_105 : decode cX4_read 105 = .ok (.invokevirtual 45, 3) := by decide +kernel
theorem dX4_read_108 : decode cX4_read 108 = .ok (.goto 5, 3) := by decide +kernel
theorem dX4_read_111 : decode cX4_read 111 = .ok (.iload 4, 2) := by decide +kernel
theorem dX4_read_113 : decode cX4_read 113 = .ok (.ireturn, 1) := by decide +kernel
theorem dX4_image_0 : decode cX4_image 0 = .ok (.aload_n 0, 1) := by decide +kernel
theorem dX4_image_1 : decode cX4_image 1 = .ok (.getfield 16, 3) := by decide +kernel
theorem dX4_image_4 : decode cX4_image 4 = .ok (.aload_n 0, 1) := by decide +kernel
theorem dX4_image_5 : decode cX4_image 5 = .ok (.getfield 12, 3) := by decide +kernel
theorem dX4_image_8 : decode cX4_image 8 = .ok (.invokevirtual 164, 3) := by decide +kernel
theorem dX4_image_11 : decode cX4_image 11 = .ok (.aload_n 0, 1) := by decide +kernel
theorem dX4_image_12 : decode cX4_image 12 = .ok (.iconst 1, 1) := by decide +kernel
theorem dX4_image_13 : decode cX4_image 13 = .ok (.putfield 267, 3) := by decide +kernel
theorem dX4_image_16 : decode cX4_image 16 = .ok (.iconst 1, 1) := by decide +kernel
theorem dX4_image_17 : decode cX4_image 17 = .ok (.ireturn, 1) := by decide +kernel
theorem dX4_undo_0 : decode cX4_undo 0 = .ok (.aload_n 0, 1) := by decide +kernel
theorem dX4_undo_1 : decode cX4_undo 1 = .ok (.getfield 267, 3) := by decide +kernel
theorem dX4_undo_4 : decode cX4_undo 4 = .ok (.ifCond .ne 10, 3) := by decide +kernel
theorem dX4_undo_7 : decode cX4_undo 7 = .ok (.aload_n 0, 1) := by decide +kernel
theorem dX4_undo_8 : decode cX4_undo 8 = .ok (.ldc 134, 2) := by decide +kernel
theorem dX4_undo_10 : decode cX4_undo 10 = .ok (.invokevirtual 45, 3) := by decide +kernel
theorem dX4_undo_13 : decode cX4_undo 13 = .ok (.ireturn, 1) := by decide +kernel
theorem dX4_undo_14 : decode cX4_undo 14 = .ok (.aload_n 0, 1) := by decide +kernel
theorem dX4_undo_15 : decode cX4_undo 15 = .ok (.getfield 12, 3) := by decide +kernel
theorem dX4_undo_18 : decode cX4_undo 18 = .ok (.aload_n 0, 1) := by decide +kernel
theorem dX4_undo_19 : decode cX4_undo 19 = .ok (.getfield 16, 3) := by decide +kernel
theorem dX4_undo_22 : decode cX4_undo 22 = .ok (.invokevirtual 164, 3) := by decide +kernel
theorem dX4_undo_25 : decode cX4_undo 25 = .ok (.aload_n 0, 1) := by decide +kernel
theorem dX4_undo_26 : decode cX4_undo 26 = .ok (.getfield 12, 3) := by decide +kernel
theorem dX4_undo_29 : decode cX4_undo 29 = .ok (.getfield 261, 3) := by decide +kernel
theorem dX4_undo_32 : decode cX4_undo 32 = .ok (.ireturn, 1) := by decide +kernel
theorem dX4_tear_0 : decode cX4_tear 0 = .ok (.aload_n 0, 1) := by decide +kernel
theorem dX4_tear_1 : decode cX4_tear 1 = .ok (.getfield 267, 3) := by decide +kernel
theorem dX4_tear_4 : decode cX4_tear 4 = .ok (.ifCond .eq 7, 3) := by decide +kernel
theorem dX4_tear_7 : decode cX4_tear 7 = .ok (.iconst 1, 1) := by decide +kernel
theorem dX4_tear_8 : decode cX4_tear 8 = .ok (.goto 4, 3) := by decide +kernel
theorem dX4_tear_11 : decode cX4_tear 11 = .ok (.iconst 0, 1) := by decide +kernel
theorem dX4_tear_12 : decode cX4_tear 12 = .ok (.istore_n 1, 1) := by decide +kernel
theorem dX4_tear_13 : decode cX4_tear 13 = .ok (.aload_n 0, 1) := by decide +kernel
theorem dX4_tear_14 : decode cX4_tear 14 = .ok (.iconst 0, 1) := by decide +kernel
theorem dX4_tear_15 : decode cX4_tear 15 = .ok (.putfield 267, 3) := by decide +kernel
theorem dX4_tear_18 : decode cX4_tear 18 = .ok (.iload_n 1, 1) := by decide +kernel
theorem dX4_tear_19 : decode cX4_tear 19 = .ok (.ireturn, 1) := by decide +kernel
theorem dX4_count_0 : decode cX4_count 0 = .ok (.iload_n 1, 1) := by decide +kernel
theorem dX4_count_1 : decode cX4_count 1 = .ok (.tableswitch 80 0 3 #[31, 39, 50, 58], 31) := by decide +kernel
theorem dX4_count_32 : decode cX4_count 32 = .ok (.aload_n 0, 1) := by decide +kernel
theorem dX4_count_33 : decode cX4_count 33 = .ok (.getfield 12, 3) := by decide +kernel
theorem dX4_count_36 : decode cX4_count 36 = .ok (.getfield 261, 3) := by decide +kernel
theorem dX4_count_39 : decode cX4_count 39 = .ok (.ireturn, 1) := by decide +kernel
theorem dX4_count_40 : decode cX4_count 40 = .ok (.aload_n 0, 1) := by decide +kernel
theorem dX4_count_41 : decode cX4_count 41 = .ok (.getfield 25, 3) := by decide +kernel
theorem dX4_count_44 : decode cX4_count 44 = .ok (.getfield 195, 3) := by decide +kernel
theorem dX4_count_47 : decode cX4_count 47 = .ok (.getfield 208, 3) := by decide +kernel
theorem dX4_count_50 : decode cX4_count 50 = .ok (.ireturn, 1) := by decide +kernel
theorem dX4_count_51 : decode cX4_count 51 = .ok (.aload_n 0, 1) := by decide +kernel
theorem dX4_count_52 : decode cX4_count 52 = .ok (.getfield 12, 3) := by decide +kernel
theorem dX4_count_55 : decode cX4_count 55 = .ok (.invokevirtual 271, 3) := by decide +kernel
theorem dX4_count_58 : decode cX4_count 58 = .ok (.ireturn, 1) := by decide +kernel
theorem dX4_count_59 : decode cX4_count 59 = .ok (.aload_n 0, 1) := by decide +kernel
theorem dX4_count_60 : decode cX4_count 60 = .ok (.getfield 12, 3) := by decide +kernel
theorem dX4_count_63 : decode cX4_count 63 = .ok (.aload_n 0, 1) := by decide +kernel
theorem dX4_count_64 : decode cX4_count 64 = .ok (.getfield 12, 3) := by decide +kernel
theorem dX4_count_67 : decode cX4_count 67 = .ok (.getfield 78, 3) := by decide +kernel
theorem dX4_count_70 : decode cX4_count 70 = .ok (.aload_n 0, 1) := by decide +kernel
theorem dX4_count_71 : decode cX4_count 71 = .ok (.getfield 12, 3) := by decide +kernel
theorem dX4_count_74 : decode cX4_count 74 = .ok (.getfield 157, 3) := by decide +kernel
theorem dX4_count_77 : decode cX4_count 77 = .ok (.invokevirtual 160, 3) := by decide +kernel
theorem dX4_count_80 : decode cX4_count 80 = .ok (.ireturn, 1) := by decide +kernel
theorem dX4_count_81 : decode cX4_count 81 = .ok (.aload_n 0, 1) := by decide +kernel
theorem dX4_count_82 : decode cX4_count 82 = .ok (.ldc 44, 2) := by decide +kernel
theorem dX4_count_84 : decode cX4_count 84 = .ok (.invokevirtual 45, 3) := by decide +kernel
theorem dX4_count_87 : decode cX4_count 87 = .ok (.ireturn, 1) := by decide +kernel
theorem dX4_status_0 : decode cX4_status 0 = .ok (.iload_n 1, 1) := by decide +kernel
theorem dX4_status_1 : decode cX4_status 1 = .ok (.iconst 0, 1) := by decide +kernel
theorem dX4_status_2 : decode cX4_status 2 = .ok (.bipush 6, 2) := by decide +kernel
theorem dX4_status_4 : decode cX4_status 4 = .ok (.invokestatic 40, 3) := by decide +kernel
theorem dX4_status_7 : decode cX4_status 7 = .ok (.ifCond .eq 10, 3) := by decide +kernel
theorem dX4_status_10 : decode cX4_status 10 = .ok (.aload_n 0, 1) := by decide +kernel
theorem dX4_status_11 : decode cX4_status 11 = .ok (.getfield 35, 3) := by decide +kernel
theorem dX4_status_14 : decode cX4_status 14 = .ok (.iload_n 1, 1) := by decide +kernel
theorem dX4_status_15 : decode cX4_status 15 = .ok (.iaload, 1) := by decide +kernel
theorem dX4_status_16 : decode cX4_status 16 = .ok (.ireturn, 1) := by decide +kernel
theorem dX4_status_17 : decode cX4_status 17 = .ok (.iload_n 1, 1) := by decide +kernel
theorem dX4_status_18 : decode cX4_status 18 = .ok (.iconst (-1), 1) := by decide +kernel
theorem dX4_status_19 : decode cX4_status 19 = .ok (.if_icmp .eq 10, 3) := by decide +kernel
theorem dX4_status_22 : decode cX4_status 22 = .ok (.aload_n 0, 1) := by decide +kernel
theorem dX4_status_23 : decode cX4_status 23 = .ok (.ldc 44, 2) := by decide +kernel
theorem dX4_status_25 : decode cX4_status 25 = .ok (.invokevirtual 45, 3) := by decide +kernel
theorem dX4_status_28 : decode cX4_status 28 = .ok (.ireturn, 1) := by decide +kernel
theorem dX4_status_29 : decode cX4_status 29 = .ok (.iconst 0, 1) := by decide +kernel
theorem dX4_status_30 : decode cX4_status 30 = .ok (.istore_n 2, 1) := by decide +kernel
theorem dX4_status_31 : decode cX4_status 31 = .ok (.iconst 0, 1) := by decide +kernel
theorem dX4_status_32 : decode cX4_status 32 = .ok (.istore_n 3, 1) := by decide +kernel
theorem dX4_status_33 : decode cX4_status 33 = .ok (.iload_n 3, 1) := by decide +kernel
theorem dX4_status_34 : decode cX4_status 34 = .ok (.bipush 7, 2) := by decide +kernel
theorem dX4_status_36 : decode cX4_status 36 = .ok (.if_icmp .ge 18, 3) := by decide +kernel
theorem dX4_status_39 : decode cX4_status 39 = .ok (.iload_n 2, 1) := by decide +kernel
theorem dX4_status_40 : decode cX4_status 40 = .ok (.aload_n 0, 1) := by decide +kernel
theorem dX4_status_41 : decode cX4_status 41 = .ok (.getfield 35, 3) := by decide +kernel
theorem dX4_status_44 : decode cX4_status 44 = .ok (.iload_n 3, 1) := by decide +kernel
theorem dX4_status_45 : decode cX4_status 45 = .ok (.iaload, 1) := by decide +kernel
theorem dX4_status_46 : decode cX4_status 46 = .ok (.iadd, 1) := by decide +kernel
theorem dX4_status_47 : decode cX4_status 47 = .ok (.istore_n 2, 1) := by decide +kernel
theorem dX4_status_48 : decode cX4_status 48 = .ok (.iinc 3 1, 3) := by decide +kernel
theorem dX4_status_51 : decode cX4_status 51 = .ok (.goto (-18), 3) := by decide +kernel
theorem dX4_status_54 : decode cX4_status 54 = .ok (.iload_n 2, 1) := by decide +kernel
theorem dX4_status_55 : decode cX4_status 55 = .ok (.ireturn, 1) := by decide +kernel
theorem dX4_tell_0 : decode cX4_tell 0 = .ok (.ldc 44, 2) := by decide +kernel
theorem dX4_tell_2 : decode cX4_tell 2 = .ok (.iload_n 1, 1) := by decide +kernel
theorem dX4_tell_3 : decode cX4_tell 3 = .ok (.isub, 1) := by decide +kernel
theorem dX4_tell_4 : decode cX4_tell 4 = .ok (.istore_n 2, 1) := by decide +kernel
theorem dX4_tell_5 : decode cX4_tell 5 = .ok (.iload_n 2, 1) := by decide +kernel
theorem dX4_tell_6 : decode cX4_tell 6 = .ok (.iconst 0, 1) := by decide +kernel
theorem dX4_tell_7 : decode cX4_tell 7 = .ok (.bipush 6, 2) := by decide +kernel
theorem dX4_tell_9 : decode cX4_tell 9 = .ok (.invokestatic 40, 3) := by decide +kernel
theorem dX4_tell_12 : decode cX4_tell 12 = .ok (.ifCond .eq 13, 3) := by decide +kernel
theorem dX4_tell_15 : decode cX4_tell 15 = .ok (.aload_n 0, 1) := by decide +kernel
theorem dX4_tell_16 : decode cX4_tell 16 = .ok (.getfield 35, 3) := by decide +kernel
theorem dX4_tell_19 : decode cX4_tell 19 = .ok (.iload_n 2, 1) := by decide +kernel
theorem dX4_tell_20 : decode cX4_tell 20 = .ok (.dup2, 1) := by decide +kernel
theorem dX4_tell_21 : decode cX4_tell 21 = .ok (.iaload, 1) := by decide +kernel
theorem dX4_tell_22 : decode cX4_tell 22 = .ok (.iconst 1, 1) := by decide +kernel
theorem dX4_tell_23 : decode cX4_tell 23 = .ok (.iadd, 1) := by decide +kernel
theorem dX4_tell_24 : decode cX4_tell 24 = .ok (.iastore, 1) := by decide +kernel
theorem dX4_tell_25 : decode cX4_tell 25 = .ok (.iload_n 1, 1) := by decide +kernel
theorem dX4_tell_26 : decode cX4_tell 26 = .ok (.ireturn, 1) := by decide +kernel
theorem dX4_isOne_0 : decode cX4_isOne 0 = .ok (.iload_n 1, 1) := by decide +kernel
theorem dX4_isOne_1 : decode cX4_isOne 1 = .ok (.iconst 0, 1) := by decide +kernel
theorem dX4_isOne_2 : decode cX4_isOne 2 = .ok (.aload_n 0, 1) := by decide +kernel
theorem dX4_isOne_3 : decode cX4_isOne 3 = .ok (.getfield 12, 3) := by decide +kernel
theorem dX4_isOne_6 : decode cX4_isOne 6 = .ok (.getfield 261, 3) := by decide +kernel
theorem dX4_isOne_9 : decode cX4_isOne 9 = .ok (.iconst 1, 1) := by decide +kernel
theorem dX4_isOne_10 : decode cX4_isOne 10 = .ok (.isub, 1) := by decide +kernel
theorem dX4_isOne_11 : decode cX4_isOne 11 = .ok (.invokestatic 40, 3) := by decide +kernel
theorem dX4_isOne_14 : decode cX4_isOne 14 = .ok (.ireturn, 1) := by decide +kernel
theorem dX4_areTwo_0 : decode cX4_areTwo 0 = .ok (.iload_n 1, 1) := by decide +kernel
theorem dX4_areTwo_1 : decode cX4_areTwo 1 = .ok (.iload_n 2, 1) := by decide +kernel
theorem dX4_areTwo_2 : decode cX4_areTwo 2 = .ok (.if_icmp .eq 23, 3) := by decide +kernel
theorem dX4_areTwo_5 : decode cX4_areTwo 5 = .ok (.aload_n 0, 1) := by decide +kernel
theorem dX4_areTwo_6 : decode cX4_areTwo 6 = .ok (.iload_n 1, 1) := by decide +kernel
theorem dX4_areTwo_7 : decode cX4_areTwo 7 = .ok (.invokevirtual 72, 3) := by decide +kernel
theorem dX4_areTwo_10 : decode cX4_areTwo 10 = .ok (.ifCond .eq 15, 3) := by decide +kernel
theorem dX4_areTwo_13 : decode cX4_areTwo 13 = .ok (.aload_n 0, 1) := by decide +kernel
theorem dX4_areTwo_14 : decode cX4_areTwo 14 = .ok (.iload_n 2, 1) := by decide +kernel
theorem dX4_areTwo_15 : decode cX4_areTwo 15 = .ok (.invokevirtual 72, 3) := by decide +kernel
theorem dX4_areTwo_18 : decode cX4_areTwo 18 = .ok (.ifCond .eq 7, 3) := by decide +kernel
theorem dX4_areTwo_21 : decode cX4_areTwo 21 = .ok (.iconst 1, 1) := by decide +kernel
theorem dX4_areTwo_22 : decode cX4_areTwo 22 = .ok (.goto 4, 3) := by decide +kernel
theorem dX4_areTwo_25 : decode cX4_areTwo 25 = .ok (.iconst 0, 1) := by decide +kernel
theorem dX4_areTwo_26 : decode cX4_areTwo 26 = .ok (.ireturn, 1) := by decide +kernel
theorem dX4_isTooLate_0 : decode cX4_isTooLate 0 = .ok (.aload_n 0, 1) := by decide +kernel
theorem dX4_isTooLate_1 : decode cX4_isTooLate 1 = .ok (.getfield 12, 3) := by decide +kernel
theorem dX4_isTooLate_4 : decode cX4_isTooLate 4 = .ok (.getfield 154, 3) := by decide +kernel
theorem dX4_isTooLate_7 : decode cX4_isTooLate 7 = .ok (.iload_n 1, 1) := by decide +kernel
theorem dX4_isTooLate_8 : decode cX4_isTooLate 8 = .ok (.iadd, 1) := by decide +kernel
theorem dX4_isTooLate_9 : decode cX4_isTooLate 9 = .ok (.sipush 9999, 3) := by decide +kernel
theorem dX4_isTooLate_12 : decode cX4_isTooLate 12 = .ok (.if_icmp .le 7, 3) := by decide +kernel
theorem dX4_isTooLate_15 : decode cX4_isTooLate 15 = .ok (.iconst 1, 1) := by decide +kernel
theorem dX4_isTooLate_16 : decode cX4_isTooLate 16 = .ok (.goto 4, 3) := by decide +kernel
theorem dX4_isTooLate_19 : decode cX4_isTooLate 19 = .ok (.iconst 0, 1) := by decide +kernel
theorem dX4_isTooLate_20 : decode cX4_isTooLate 20 = .ok (.ireturn, 1) := by decide +kernel
theorem dX4_maySet_0 : decode cX4_maySet 0 = .ok (.iload_n 2, 1) := by decide +kernel
theorem dX4_maySet_1 : decode cX4_maySet 1 = .ok (.tableswitch 87 1 5 #[35, 43, 52, 60, 80], 35) := by decide +kernel
theorem dX4_maySet_36 : decode cX4_maySet 36 = .ok (.iload_n 3, 1) := by decide +kernel
theorem dX4_maySet_37 : decode cX4_maySet 37 = .ok (.iconst 0, 1) := by decide +kernel
theorem dX4_maySet_38 : decode cX4_maySet 38 = .ok (.bipush 120, 2) := by decide +kernel
theorem dX4_maySet_40 : decode cX4_maySet 40 = .ok (.invokestatic 40, 3) := by decide +kernel
theorem dX4_maySet_43 : decode cX4_maySet 43 = .ok (.ireturn, 1) := by decide +kernel
theorem dX4_maySet_44 : decode cX4_maySet 44 = .ok (.iload_n 3, 1) := by decide +kernel
theorem dX4_maySet_45 : decode cX4_maySet 45 = .ok (.iconst 0, 1) := by decide +kernel
theorem dX4_maySet_46 : decode cX4_maySet 46 = .ok (.ldc_w 274, 3) := by decide +kernel
theorem dX4_maySet_49 : decode cX4_maySet 49 = .ok (.invokestatic 40, 3) := by decide +kernel
theorem dX4_maySet_52 : decode cX4_maySet 52 = .ok (.ireturn, 1) := by decide +kernel
theorem dX4_maySet_53 : decode cX4_maySet 53 = .ok (.iload_n 3, 1) := by decide +kernel
theorem dX4_maySet_54 : decode cX4_maySet 54 = .ok (.iconst 1, 1) := by decide +kernel
theorem dX4_maySet_55 : decode cX4_maySet 55 = .ok (.bipush 120, 2) := by decide +kernel
theorem dX4_maySet_57 : decode cX4_maySet 57 = .ok (.invokestatic 40, 3) := by decide +kernel
theorem dX4_maySet_60 : decode cX4_maySet 60 = .ok (.ireturn, 1) := by decide +kernel
theorem dX4_maySet_61 : decode cX4_maySet 61 = .ok (.iload_n 3, 1) := by decide +kernel
theorem dX4_maySet_62 : decode cX4_maySet 62 = .ok (.iconst (-1), 1) := by decide +kernel
theorem dX4_maySet_63 : decode cX4_maySet 63 = .ok (.if_icmp .eq 12, 3) := by decide +kernel
theorem dX4_maySet_66 : decode cX4_maySet 66 = .ok (.aload_n 0, 1) := by decide +kernel
theorem dX4_maySet_67 : decode cX4_maySet 67 = .ok (.iload_n 1, 1) := by decide +kernel
theorem dX4_maySet_68 : decode cX4_maySet 68 = .ok (.iload_n 3, 1) := by decide +kernel
theorem dX4_maySet_69 : decode cX4_maySet 69 = .ok (.invokevirtual 117, 3) := by decide +kernel
theorem dX4_maySet_72 : decode cX4_maySet 72 = .ok (.ifCond .eq 7, 3) := by decide +kernel
theorem dX4_maySet_75 : decode cX4_maySet 75 = .ok (.iconst 1, 1) := by decide +kernel
theorem dX4_maySet_76 : decode cX4_maySet 76 = .ok (.goto 4, 3) := by decide +kernel
theorem dX4_maySet_79 : decode cX4_maySet 79 = .ok (.iconst 0, 1) := by decide +kernel
theorem dX4_maySet_80 : decode cX4_maySet 80 = .ok (.ireturn, 1) := by decide +kernel
theorem dX4_maySet_81 : decode cX4_maySet 81 = .ok (.iload_n 3, 1) := by decide +kernel
theorem dX4_maySet_82 : decode cX4_maySet 82 = .ok (.iconst 0, 1) := by decide +kernel
theorem dX4_maySet_83 : decode cX4_maySet 83 = .ok (.iconst 1, 1) := by decide +kernel
theorem dX4_maySet_84 : decode cX4_maySet 84 = .ok (.invokestatic 40, 3) := by decide +kernel
theorem dX4_maySet_87 : decode cX4_maySet 87 = .ok (.ireturn, 1) := by decide +kernel
theorem dX4_maySet_88 : decode cX4_maySet 88 = .ok (.iconst 0, 1) := by decide +kernel
theorem dX4_maySet_89 : decode cX4_maySet 89 = .ok (.ireturn, 1) := by decide +kernel
theorem dX4_sheetAt_0 : decode cX4_sheetAt 0 = .ok (.iload_n 1, 1) := by decide +kernel
theorem dX4_sheetAt_1 : decode cX4_sheetAt 1 = .ok (.iconst 0, 1) := by decide +kernel
theorem dX4_sheetAt_2 : decode cX4_sheetAt 2 = .ok (.iconst 3, 1) := by decide +kernel
theorem dX4_sheetAt_3 : decode cX4_sheetAt 3 = .ok (.invokestatic 40, 3) := by decide +kernel
theorem dX4_sheetAt_6 : decode cX4_sheetAt 6 = .ok (.ifCond .eq 12, 3) := by decide +kernel
theorem dX4_sheetAt_9 : decode cX4_sheetAt 9 = .ok (.aload_n 0, 1) := by decide +kernel
theorem dX4_sheetAt_10 : decode cX4_sheetAt 10 = .ok (.getfield 31, 3) := by decide +kernel
theorem dX4_sheetAt_13 : decode cX4_sheetAt 13 = .ok (.iload_n 1, 1) := by decide +kernel
theorem dX4_sheetAt_14 : decode cX4_sheetAt 14 = .ok (.aaload, 1) := by decide +kernel
theorem dX4_sheetAt_15 : decode cX4_sheetAt 15 = .ok (.goto 4, 3) := by decide +kernel
theorem dX4_sheetAt_18 : decode cX4_sheetAt 18 = .ok (.aconst_null, 1) := by decide +kernel
theorem dX4_sheetAt_19 : decode cX4_sheetAt 19 = .ok (.areturn, 1) := by decide +kernel
theorem dX4_leastStep_0 : decode cX4_leastStep 0 = .ok (.aload_n 0, 1) := by decide +kernel
theorem dX4_leastStep_1 : decode cX4_leastStep 1 = .ok (.getfield 19, 3) := by decide +kernel
theorem dX4_leastStep_4 : decode cX4_leastStep 4 = .ok (.aload_n 0, 1) := by decide +kernel
theorem dX4_leastStep_5 : decode cX4_leastStep 5 = .ok (.getfield 12, 3) := by decide +kernel
theorem dX4_leastStep_8 : decode cX4_leastStep 8 = .ok (.invokevirtual 164, 3) := by decide +kernel
theorem dX4_leastStep_11 : decode cX4_leastStep 11 = .ok (.iconst 0, 1) := by decide +kernel
theorem dX4_leastStep_12 : decode cX4_leastStep 12 = .ok (.istore 4, 2) := by decide +kernel
theorem dX4_leastStep_14 : decode cX4_leastStep 14 = .ok (.iload 4, 2) := by decide +kernel
theorem dX4_leastStep_16 : decode cX4_leastStep 16 = .ok (.bipush 9, 2) := by decide +kernel
theorem dX4_leastStep_18 : decode cX4_leastStep 18 = .ok (.if_icmp .ge 70, 3) := by decide +kernel
theorem dX4_leastStep_21 : decode cX4_leastStep 21 = .ok (.iconst 0, 1) := by decide +kernel
theorem dX4_leastStep_22 : decode cX4_leastStep 22 = .ok (.istore 5, 2) := by decide +kernel
theorem dX4_leastStep_24 : decode cX4_leastStep 24 = .ok (.iload 5, 2) := by decide +kernel
theorem dX4_leastStep_26 : decode cX4_leastStep 26 = .ok (.iconst 4, 1) := by decide +kernel
theorem dX4_leastStep_27 : decode cX4_leastStep 27 = .ok (.if_icmp .ge 55, 3) := by decide +kernel
theorem dX4_leastStep_30 : decode cX4_leastStep 30 = .ok (.aload_n 0, 1) := by decide +kernel
theorem dX4_leastStep_31 : decode cX4_leastStep 31 = .ok (.getfield 19, 3) := by decide +kernel
theorem dX4_leastStep_34 : decode cX4_leastStep 34 = .ok (.getfield 102, 3) := by decide +kernel
theorem dX4_leastStep_37 : decode cX4_leastStep 37 = .ok (.iload_n 1, 1) := by decide +kernel
theorem dX4_leastStep_38 : decode cX4_leastStep 38 = .ok (.aload_n 0, 1) := by decide +kernel
theorem dX4_leastStep_39 : decode cX4_leastStep 39 = .ok (.getfield 12, 3) := by decide +kernel
theorem dX4_leastStep_42 : decode cX4_leastStep 42 = .ok (.getfield 102, 3) := by decide +kernel
theorem dX4_leastStep_45 : decode cX4_leastStep 45 = .ok (.iload_n 1, 1) := by decide +kernel
theorem dX4_leastStep_46 : decode cX4_leastStep 46 = .ok (.iaload, 1) := by decide +kernel
theorem dX4_leastStep_47 : decode cX4_leastStep 47 = .ok (.iload 4, 2) := by decide +kernel
theorem dX4_leastStep_49 : decode cX4_leastStep 49 = .ok (.iload 5, 2) := by decide +kernel
theorem dX4_leastStep_51 : decode cX4_leastStep 51 = .ok (.invokestatic 108, 3) := by decide +kernel
theorem dX4_leastStep_54 : decode cX4_leastStep 54 = .ok (.iastore, 1) := by decide +kernel
theorem dX4_leastStep_55 : decode cX4_leastStep 55 = .ok (.aload_n 0, 1) := by decide +kernel
theorem dX4_leastStep_56 : decode cX4_leastStep 56 = .ok (.getfield 19, 3) := by decide +kernel
theorem dX4_leastStep_59 : decode cX4_leastStep 59 = .ok (.iload_n 2, 1) := by decide +kernel
theorem dX4_leastStep_60 : decode cX4_leastStep 60 = .ok (.invokevirtual 131, 3) := by decide +kernel
theorem dX4_leastStep_63 : decode cX4_leastStep 63 = .ok (.iload_n 3, 1) := by decide +kernel
theorem dX4_leastStep_64 : decode cX4_leastStep 64 = .ok (.if_icmp .ne 12, 3) := by decide +kernel
theorem dX4_leastStep_67 : decode cX4_leastStep 67 = .ok (.bipush 10, 2) := by decide +kernel
theorem dX4_leastStep_69 : decode cX4_leastStep 69 = .ok (.iload 4, 2) := by decide +kernel
theorem dX4_leastStep_71 : decode cX4_leastStep 71 = .ok (.imul, 1) := by decide +kernel
theorem dX4_leastStep_72 : decode cX4_leastStep 72 = .ok (.iload 5, 2) := by decide +kernel
theorem dX4_leastStep_74 : decode cX4_leastStep 74 = .ok (.iadd, 1) := by decide +kernel
theorem dX4_leastStep_75 : decode cX4_leastStep 75 = .ok (.ireturn, 1) := by decide +kernel
theorem dX4_leastStep_76 : decode cX4_leastStep 76 = .ok (.iinc 5 1, 3) := by decide +kernel
theorem dX4_leastStep_79 : decode cX4_leastStep 79 = .ok (.goto (-55), 3) := by decide +kernel
theorem dX4_leastStep_82 : decode cX4_leastStep 82 = .ok (.iinc 4 1, 3) := by decide +kernel
theorem dX4_leastStep_85 : decode cX4_leastStep 85 = .ok (.goto (-71), 3) := by decide +kernel
theorem dX4_leastStep_88 : decode cX4_leastStep 88 = .ok (.iconst (-1), 1) := by decide +kernel
theorem dX4_leastStep_89 : decode cX4_leastStep 89 = .ok (.ireturn, 1) := by decide +kernel
theorem dX4_isWithin_0 : decode cX4_isWithin 0 = .ok (.iload_n 0, 1) := by decide +kernel
theorem dX4_isWithin_1 : decode cX4_isWithin 1 = .ok (.iload_n 1, 1) := by decide +kernel
theorem dX4_isWithin_2 : decode cX4_isWithin 2 = .ok (.if_icmp .lt 12, 3) := by decide +kernel
theorem dX4_isWithin_5 : decode cX4_isWithin 5 = .ok (.iload_n 0, 1) := by decide +kernel
theorem dX4_isWithin_6 : decode cX4_isWithin 6 = .ok (.iload_n 2, 1) := by decide +kernel
theorem dX4_isWithin_7 : decode cX4_isWithin 7 = .ok (.if_icmp .gt 7, 3) := by decide +kernel
theorem dX4_isWithin_10 : decode cX4_isWithin 10 = .ok (.iconst 1, 1) := by decide +kernel
theorem dX4_isWithin_11 : decode cX4_isWithin 11 = .ok (.goto 4, 3) := by decide +kernel
theorem dX4_isWithin_14 : decode cX4_isWithin 14 = .ok (.iconst 0, 1) := by decide +kernel
theorem dX4_isWithin_15 : decode cX4_isWithin 15 = .ok (.ireturn, 1) := by decide +kernel
theorem dX4_isKind_0 : decode cX4_isKind 0 = .ok (.iload_n 0, 1) := by decide +kernel
theorem dX4_isKind_1 : decode cX4_isKind 1 = .ok (.iconst 0, 1) := by decide +kernel
theorem dX4_isKind_2 : decode cX4_isKind 2 = .ok (.iconst 5, 1) := by decide +kernel
theorem dX4_isKind_3 : decode cX4_isKind 3 = .ok (.invokestatic 40, 3) := by decide +kernel
theorem dX4_isKind_6 : decode cX4_isKind 6 = .ok (.ireturn, 1) := by decide +kernel
theorem dX4_isUnder_0 : decode cX4_isUnder 0 = .ok (.iload_n 0, 1) := by decide +kernel
theorem dX4_isUnder_1 : decode cX4_isUnder 1 = .ok (.istore_n 2, 1) := by decide +kernel
theorem dX4_isUnder_2 : decode cX4_isUnder 2 = .ok (.iconst 0, 1) := by decide +kernel
theorem dX4_isUnder_3 : decode cX4_isUnder 3 = .ok (.istore_n 3, 1) := by decide +kernel
theorem dX4_isUnder_4 : decode cX4_isUnder 4 = .ok (.iload_n 3, 1) := by decide +kernel
theorem dX4_isUnder_5 : decode cX4_isUnder 5 = .ok (.iconst 5, 1) := by decide +kernel
theorem dX4_isUnder_6 : decode cX4_isUnder 6 = .ok (.if_icmp .gt 29, 3) := by decide +kernel
theorem dX4_isUnder_9 : decode cX4_isUnder 9 = .ok (.iload_n 2, 1) := by decide +kernel
theorem dX4_isUnder_10 : decode cX4_isUnder 10 = .ok (.invokestatic 64, 3) := by decide +kernel
theorem dX4_isUnder_13 : decode cX4_isUnder 13 = .ok (.ifCond .eq 22, 3) := by decide +kernel
theorem dX4_isUnder_16 : decode cX4_isUnder 16 = .ok (.iload_n 2, 1) := by decide +kernel
theorem dX4_isUnder_17 : decode cX4_isUnder 17 = .ok (.iload_n 1, 1) := by decide +kernel
theorem dX4_isUnder_18 : decode cX4_isUnder 18 = .ok (.if_icmp .ne 5, 3) := by decide +kernel
theorem dX4_isUnder_21 : decode cX4_isUnder 21 = .ok (.iconst 1, 1) := by decide +kernel
theorem dX4_isUnder_22 : decode cX4_isUnder 22 = .ok (.ireturn, 1) := by decide +kernel
theorem dX4_isUnder_23 : decode cX4_isUnder 23 = .ok (.getstatic 275, 3) := by decide +kernel
theorem dX4_isUnder_26 : decode cX4_isUnder 26 = .ok (.iload_n 2, 1) := by decide +kernel
theorem dX4_isUnder_27 : decode cX4_isUnder 27 = .ok (.iaload, 1) := by decide +kernel
theorem dX4_isUnder_28 : decode cX4_isUnder 28 = .ok (.istore_n 2, 1) := by decide +kernel
theorem dX4_isUnder_29 : decode cX4_isUnder 29 = .ok (.iinc 3 1, 3) := by decide +kernel
theorem dX4_isUnder_32 : decode cX4_isUnder 32 = .ok (.goto (-28), 3) := by decide +kernel
theorem dX4_isUnder_35 : decode cX4_isUnder 35 = .ok (.iconst 0, 1) := by decide +kernel
theorem dX4_isUnder_36 : decode cX4_isUnder 36 = .ok (.ireturn, 1) := by decide +kernel
theorem dX4_exchange_0 : decode cX4_exchange 0 = .ok (.iload_n 1, 1) := by decide +kernel
theorem dX4_exchange_1 : decode cX4_exchange 1 = .ok (.iconst 0, 1) := by decide +kernel
theorem dX4_exchange_2 : decode cX4_exchange 2 = .ok (.aload_n 0, 1) := by decide +kernel
theorem dX4_exchange_3 : decode cX4_exchange 3 = .ok (.arraylength, 1) := by decide +kernel
theorem dX4_exchange_4 : decode cX4_exchange 4 = .ok (.iconst 1, 1) := by decide +kernel
theorem dX4_exchange_5 : decode cX4_exchange 5 = .ok (.isub, 1) := by decide +kernel
theorem dX4_exchange_6 : decode cX4_exchange 6 = .ok (.invokestatic 40, 3) := by decide +kernel
theorem dX4_exchange_9 : decode cX4_exchange 9 = .ok (.ifCond .ne 5, 3) := by decide +kernel
theorem dX4_exchange_12 : decode cX4_exchange 12 = .ok (.iconst (-1), 1) := by decide +kernel
theorem dX4_exchange_13 : decode cX4_exchange 13 = .ok (.ireturn, 1) := by decide +kernel
theorem dX4_exchange_14 : decode cX4_exchange 14 = .ok (.aload_n 0, 1) := by decide +kernel
theorem dX4_exchange_15 : decode cX4_exchange 15 = .ok (.iload_n 1, 1) := by decide +kernel
theorem dX4_exchange_16 : decode cX4_exchange 16 = .ok (.iaload, 1) := by decide +kernel
theorem dX4_exchange_17 : decode cX4_exchange 17 = .ok (.istore_n 3, 1) := by decide +kernel
theorem dX4_exchange_18 : decode cX4_exchange 18 = .ok (.aload_n 0, 1) := by decide +kernel
theorem dX4_exchange_19 : decode cX4_exchange 19 = .ok (.iload_n 1, 1) := by decide +kernel
theorem dX4_exchange_20 : decode cX4_exchange 20 = .ok (.iload_n 2, 1) := by decide +kernel
theorem dX4_exchange_21 : decode cX4_exchange 21 = .ok (.iastore, 1) := by decide +kernel
theorem dX4_exchange_22 : decode cX4_exchange 22 = .ok (.iload_n 3, 1) := by decide +kernel
theorem dX4_exchange_23 : decode cX4_exchange 23 = .ok (.ireturn, 1) := by decide +kernel
theorem dX4_nextWay_0 : decode cX4_nextWay 0 = .ok (.iload_n 0, 1) := by decide +kernel
theorem dX4_nextWay_1 : decode cX4_nextWay 1 = .ok (.iconst 1, 1) := by decide +kernel
theorem dX4_nextWay_2 : decode cX4_nextWay 2 = .ok (.iadd, 1) := by decide +kernel
theorem dX4_nextWay_3 : decode cX4_nextWay 3 = .ok (.iconst 4, 1) := by decide +kernel
theorem dX4_nextWay_4 : decode cX4_nextWay 4 = .ok (.irem, 1) := by decide +kernel
theorem dX4_nextWay_5 : decode cX4_nextWay 5 = .ok (.ireturn, 1) := by decide +kernel
theorem dX4_wayIn_0 : decode cX4_wayIn 0 = .ok (.iload_n 0, 1) := by decide +kernel
theorem dX4_wayIn_1 : decode cX4_wayIn 1 = .ok (.iload_n 1, 1) := by decide +kernel
theorem dX4_wayIn_2 : decode cX4_wayIn 2 = .ok (.ishr, 1) := by decide +kernel
theorem dX4_wayIn_3 : decode cX4_wayIn 3 = .ok (.iconst 1, 1) := by decide +kernel
theorem dX4_wayIn_4 : decode cX4_wayIn 4 = .ok (.iand, 1) := by decide +kernel
theorem dX4_wayIn_5 : decode cX4_wayIn 5 = .ok (.iload_n 0, 1) := by decide +kernel
theorem dX4_wayIn_6 : decode cX4_wayIn 6 = .ok (.iload_n 1, 1) := by decide +kernel
theorem dX4_wayIn_7 : decode cX4_wayIn 7 = .ok (.bipush 9, 2) := by decide +kernel
theorem dX4_wayIn_9 : decode cX4_wayIn 9 = .ok (.iadd, 1) := by decide +kernel
theorem dX4_wayIn_10 : decode cX4_wayIn 10 = .ok (.ishr, 1) := by decide +kernel
theorem dX4_wayIn_11 : decode cX4_wayIn 11 = .ok (.iconst 1, 1) := by decide +kernel
theorem dX4_wayIn_12 : decode cX4_wayIn 12 = .ok (.iand, 1) := by decide +kernel
theorem dX4_wayIn_13 : decode cX4_wayIn 13 = .ok (.iconst 1, 1) := by decide +kernel
theorem dX4_wayIn_14 : decode cX4_wayIn 14 = .ok (.ishl, 1) := by decide +kernel
theorem dX4_wayIn_15 : decode cX4_wayIn 15 = .ok (.ior, 1) := by decide +kernel
theorem dX4_wayIn_16 : decode cX4_wayIn 16 = .ok (.ireturn, 1) := by decide +kernel
theorem dX4_withWay_0 : decode cX4_withWay 0 = .ok (.iload_n 2, 1) := by decide +kernel
theorem dX4_withWay_1 : decode cX4_withWay 1 = .ok (.iconst 1, 1) := by decide +kernel
theorem dX4_withWay_2 : decode cX4_withWay 2 = .ok (.iand, 1) := by decide +kernel
theorem dX4_withWay_3 : decode cX4_withWay 3 = .ok (.iload_n 1, 1) := by decide +kernel
theorem dX4_withWay_4 : decode cX4_withWay 4 = .ok (.ishl, 1) := by decide +kernel
theorem dX4_withWay_5 : decode cX4_withWay 5 = .ok (.istore_n 3, 1) := by decide +kernel
theorem dX4_withWay_6 : decode cX4_withWay 6 = .ok (.iload_n 2, 1) := by decide +kernel
theorem dX4_withWay_7 : decode cX4_withWay 7 = .ok (.iconst 1, 1) := by decide +kernel
theorem dX4_withWay_8 : decode cX4_withWay 8 = .ok (.ishr, 1) := by decide +kernel
theorem dX4_withWay_9 : decode cX4_withWay 9 = .ok (.iconst 1, 1) := by decide +kernel
theorem dX4_withWay_10 : decode cX4_withWay 10 = .ok (.iand, 1) := by decide +kernel
theorem dX4_withWay_11 : decode cX4_withWay 11 = .ok (.iload_n 1, 1) := by decide +kernel
theorem dX4_withWay_12 : decode cX4_withWay 12 = .ok (.bipush 9, 2) := by decide +kernel
theorem dX4_withWay_14 : decode cX4_withWay 14 = .ok (.iadd, 1) := by decide +kernel
theorem dX4_withWay_15 : decode cX4_withWay 15 = .ok (.ishl, 1) := by decide +kernel
theorem dX4_withWay_16 : decode cX4_withWay 16 = .ok (.istore 4, 2) := by decide +kernel
theorem dX4_withWay_18 : decode cX4_withWay 18 = .ok (.iload_n 0, 1) := by decide +kernel
theorem dX4_withWay_19 : decode cX4_withWay 19 = .ok (.iload_n 3, 1) := by decide +kernel
theorem dX4_withWay_20 : decode cX4_withWay 20 = .ok (.iload 4, 2) := by decide +kernel
theorem dX4_withWay_22 : decode cX4_withWay 22 = .ok (.ior, 1) := by decide +kernel
theorem dX4_withWay_23 : decode cX4_withWay 23 = .ok (.iconst 1, 1) := by decide +kernel
theorem dX4_withWay_24 : decode cX4_withWay 24 = .ok (.iload_n 1, 1) := by decide +kernel
theorem dX4_withWay_25 : decode cX4_withWay 25 = .ok (.ishl, 1) := by decide +kernel
theorem dX4_withWay_26 : decode cX4_withWay 26 = .ok (.invokestatic 180, 3) := by decide +kernel
theorem dX4_withWay_29 : decode cX4_withWay 29 = .ok (.ireturn, 1) := by decide +kernel
theorem dX4_copied_0 : decode cX4_copied 0 = .ok (.iload_n 2, 1) := by decide +kernel
theorem dX4_copied_1 : decode cX4_copied 1 = .ok (.iload_n 2, 1) := by decide +kernel
theorem dX4_copied_2 : decode cX4_copied 2 = .ok (.bipush 9, 2) := by decide +kernel
theorem dX4_copied_4 : decode cX4_copied 4 = .ok (.ishl, 1) := by decide +kernel
theorem dX4_copied_5 : decode cX4_copied 5 = .ok (.ior, 1) := by decide +kernel
theorem dX4_copied_6 : decode cX4_copied 6 = .ok (.istore_n 3, 1) := by decide +kernel
theorem dX4_copied_7 : decode cX4_copied 7 = .ok (.iload_n 0, 1) := by decide +kernel
theorem dX4_copied_8 : decode cX4_copied 8 = .ok (.iload_n 3, 1) := by decide +kernel
theorem dX4_copied_9 : decode cX4_copied 9 = .ok (.iconst (-1), 1) := by decide +kernel
theorem dX4_copied_10 : decode cX4_copied 10 = .ok (.ixor, 1) := by decide +kernel
theorem dX4_copied_11 : decode cX4_copied 11 = .ok (.iand, 1) := by decide +kernel
theorem dX4_copied_12 : decode cX4_copied 12 = .ok (.iload_n 1, 1) := by decide +kernel
