theorem dX5_isHeirBy_31 : decode cX5_isHeirBy 31 = .ok (.aload_n 0, 1) := by decide +kernel
theorem dX5_isHeirBy_32 : decode cX5_isHeirBy 32 = .ok (.iload_n 2, 1) := by decide +kernel
theorem dX5_isHeirBy_33 : decode cX5_isHeirBy 33 = .ok (.bipush 6, 2) := by decide +kernel
theorem dX5_isHeirBy_35 : decode cX5_isHeirBy 35 = .ok (.iload 4, 2) := by decide +kernel
theorem dX5_isHeirBy_37 : decode cX5_isHeirBy 37 = .ok (.iadd, 1) := by decide +kernel
theorem dX5_isHeirBy_38 : decode cX5_isHeirBy 38 = .ok (.invokevirtual 47, 3) := by decide +kernel
theorem dX5_isHeirBy_41 : decode cX5_isHeirBy 41 = .ok (.invokevirtual 71, 3) := by decide +kernel
theorem dX5_isHeirBy_44 : decode cX5_isHeirBy 44 = .ok (.iinc 4 1, 3) := by decide +kernel
theorem dX5_isHeirBy_47 : decode cX5_isHeirBy 47 = .ok (.goto (-40), 3) := by decide +kernel
theorem dX5_isHeirBy_50 : decode cX5_isHeirBy 50 = .ok (.aload_n 0, 1) := by decide +kernel
theorem dX5_isHeirBy_51 : decode cX5_isHeirBy 51 = .ok (.iload_n 2, 1) := by decide +kernel
theorem dX5_isHeirBy_52 : decode cX5_isHeirBy 52 = .ok (.invokevirtual 113, 3) := by decide +kernel
theorem dX5_isHeirBy_55 : decode cX5_isHeirBy 55 = .ok (.iload_n 1, 1) := by decide +kernel
theorem dX5_isHeirBy_56 : decode cX5_isHeirBy 56 = .ok (.if_icmp .ne 7, 3) := by decide +kernel
theorem dX5_isHeirBy_59 : decode cX5_isHeirBy 59 = .ok (.iconst 1, 1) := by decide +kernel
theorem dX5_isHeirBy_60 : decode cX5_isHeirBy 60 = .ok (.goto 4, 3) := by decide +kernel
theorem dX5_isHeirBy_63 : decode cX5_isHeirBy 63 = .ok (.iconst 0, 1) := by decide +kernel
theorem dX5_isHeirBy_64 : decode cX5_isHeirBy 64 = .ok (.istore 4, 2) := by decide +kernel
theorem dX5_isHeirBy_66 : decode cX5_isHeirBy 66 = .ok (.aload_n 0, 1) := by decide +kernel
theorem dX5_isHeirBy_67 : decode cX5_isHeirBy 67 = .ok (.invokevirtual 176, 3) := by decide +kernel
theorem dX5_isHeirBy_70 : decode cX5_isHeirBy 70 = .ok (.iload 4, 2) := by decide +kernel
theorem dX5_isHeirBy_72 : decode cX5_isHeirBy 72 = .ok (.ireturn, 1) := by decide +kernel
theorem dX5_fewest_0 : decode cX5_fewest 0 = .ok (.aload_n 0, 1) := by decide +kernel
theorem dX5_fewest_1 : decode cX5_fewest 1 = .ok (.iload_n 1, 1) := by decide +kernel
theorem dX5_fewest_2 : decode cX5_fewest 2 = .ok (.iload_n 2, 1) := by decide +kernel
theorem dX5_fewest_3 : decode cX5_fewest 3 = .ok (.invokevirtual 90, 3) := by decide +kernel
theorem dX5_fewest_6 : decode cX5_fewest 6 = .ok (.ifCond .ne 10, 3) := by decide +kernel
theorem dX5_fewest_9 : decode cX5_fewest 9 = .ok (.aload_n 0, 1) := by decide +kernel
theorem dX5_fewest_10 : decode cX5_fewest 10 = .ok (.ldc 42, 2) := by decide +kernel
theorem dX5_fewest_12 : decode cX5_fewest 12 = .ok (.invokevirtual 62, 3) := by decide +kernel
theorem dX5_fewest_15 : decode cX5_fewest 15 = .ok (.ireturn, 1) := by decide +kernel
theorem dX5_fewest_16 : decode cX5_fewest 16 = .ok (.aload_n 0, 1) := by decide +kernel
theorem dX5_fewest_17 : decode cX5_fewest 17 = .ok (.iload_n 1, 1) := by decide +kernel
theorem dX5_fewest_18 : decode cX5_fewest 18 = .ok (.invokevirtual 107, 3) := by decide +kernel
theorem dX5_fewest_21 : decode cX5_fewest 21 = .ok (.ifCond .ne 10, 3) := by decide +kernel
theorem dX5_fewest_24 : decode cX5_fewest 24 = .ok (.aload_n 0, 1) := by decide +kernel
theorem dX5_fewest_25 : decode cX5_fewest 25 = .ok (.ldc 159, 2) := by decide +kernel
theorem dX5_fewest_27 : decode cX5_fewest 27 = .ok (.invokevirtual 62, 3) := by decide +kernel
theorem dX5_fewest_30 : decode cX5_fewest 30 = .ok (.ireturn, 1) := by decide +kernel
theorem dX5_fewest_31 : decode cX5_fewest 31 = .ok (.bipush 10, 2) := by decide +kernel
theorem dX5_fewest_33 : decode cX5_fewest 33 = .ok (.istore_n 3, 1) := by decide +kernel
theorem dX5_fewest_34 : decode cX5_fewest 34 = .ok (.iconst 0, 1) := by decide +kernel
theorem dX5_fewest_35 : decode cX5_fewest 35 = .ok (.istore 4, 2) := by decide +kernel
theorem dX5_fewest_37 : decode cX5_fewest 37 = .ok (.iload 4, 2) := by decide +kernel
theorem dX5_fewest_39 : decode cX5_fewest 39 = .ok (.sipush 512, 3) := by decide +kernel
theorem dX5_fewest_42 : decode cX5_fewest 42 = .ok (.if_icmp .ge 39, 3) := by decide +kernel
theorem dX5_fewest_45 : decode cX5_fewest 45 = .ok (.iload 4, 2) := by decide +kernel
theorem dX5_fewest_47 : decode cX5_fewest 47 = .ok (.invokestatic 186, 3) := by decide +kernel
theorem dX5_fewest_50 : decode cX5_fewest 50 = .ok (.iload_n 3, 1) := by decide +kernel
theorem dX5_fewest_51 : decode cX5_fewest 51 = .ok (.if_icmp .ge 22, 3) := by decide +kernel
theorem dX5_fewest_54 : decode cX5_fewest 54 = .ok (.aload_n 0, 1) := by decide +kernel
theorem dX5_fewest_55 : decode cX5_fewest 55 = .ok (.iload_n 1, 1) := by decide +kernel
theorem dX5_fewest_56 : decode cX5_fewest 56 = .ok (.iload_n 2, 1) := by decide +kernel
theorem dX5_fewest_57 : decode cX5_fewest 57 = .ok (.iload 4, 2) := by decide +kernel
theorem dX5_fewest_59 : decode cX5_fewest 59 = .ok (.invokevirtual 189, 3) := by decide +kernel
theorem dX5_fewest_62 : decode cX5_fewest 62 = .ok (.ifCond .eq 11, 3) := by decide +kernel
theorem dX5_fewest_65 : decode cX5_fewest 65 = .ok (.iload 4, 2) := by decide +kernel
theorem dX5_fewest_67 : decode cX5_fewest 67 = .ok (.invokestatic 186, 3) := by decide +kernel
theorem dX5_fewest_70 : decode cX5_fewest 70 = .ok (.goto 4, 3) := by decide +kernel
theorem dX5_fewest_73 : decode cX5_fewest 73 = .ok (.iload_n 3, 1) := by decide +kernel
theorem dX5_fewest_74 : decode cX5_fewest 74 = .ok (.istore_n 3, 1) := by decide +kernel
theorem dX5_fewest_75 : decode cX5_fewest 75 = .ok (.iinc 4 1, 3) := by decide +kernel
theorem dX5_fewest_78 : decode cX5_fewest 78 = .ok (.goto (-41), 3) := by decide +kernel
theorem dX5_fewest_81 : decode cX5_fewest 81 = .ok (.iload_n 3, 1) := by decide +kernel
theorem dX5_fewest_82 : decode cX5_fewest 82 = .ok (.bipush 9, 2) := by decide +kernel
theorem dX5_fewest_84 : decode cX5_fewest 84 = .ok (.if_icmp .le 12, 3) := by decide +kernel
theorem dX5_fewest_87 : decode cX5_fewest 87 = .ok (.aload_n 0, 1) := by decide +kernel
theorem dX5_fewest_88 : decode cX5_fewest 88 = .ok (.ldc 116, 2) := by decide +kernel
theorem dX5_fewest_90 : decode cX5_fewest 90 = .ok (.invokevirtual 62, 3) := by decide +kernel
theorem dX5_fewest_93 : decode cX5_fewest 93 = .ok (.goto 4, 3) := by decide +kernel
theorem dX5_fewest_96 : decode cX5_fewest 96 = .ok (.iload_n 3, 1) := by decide +kernel
theorem dX5_fewest_97 : decode cX5_fewest 97 = .ok (.ireturn, 1) := by decide +kernel
theorem dX5_goodsTo_0 : decode cX5_goodsTo 0 = .ok (.aload_n 0, 1) := by decide +kernel
theorem dX5_goodsTo_1 : decode cX5_goodsTo 1 = .ok (.iload_n 1, 1) := by decide +kernel
theorem dX5_goodsTo_2 : decode cX5_goodsTo 2 = .ok (.invokevirtual 117, 3) := by decide +kernel
theorem dX5_goodsTo_5 : decode cX5_goodsTo 5 = .ok (.istore_n 2, 1) := by decide +kernel
theorem dX5_goodsTo_6 : decode cX5_goodsTo 6 = .ok (.iconst 0, 1) := by decide +kernel
theorem dX5_goodsTo_7 : decode cX5_goodsTo 7 = .ok (.istore_n 3, 1) := by decide +kernel
theorem dX5_goodsTo_8 : decode cX5_goodsTo 8 = .ok (.iconst 0, 1) := by decide +kernel
theorem dX5_goodsTo_9 : decode cX5_goodsTo 9 = .ok (.istore 4, 2) := by decide +kernel
theorem dX5_goodsTo_11 : decode cX5_goodsTo 11 = .ok (.iload 4, 2) := by decide +kernel
theorem dX5_goodsTo_13 : decode cX5_goodsTo 13 = .ok (.aload_n 0, 1) := by decide +kernel
theorem dX5_goodsTo_14 : decode cX5_goodsTo 14 = .ok (.getfield 7, 3) := by decide +kernel
theorem dX5_goodsTo_17 : decode cX5_goodsTo 17 = .ok (.iconst 0, 1) := by decide +kernel
theorem dX5_goodsTo_18 : decode cX5_goodsTo 18 = .ok (.iaload, 1) := by decide +kernel
theorem dX5_goodsTo_19 : decode cX5_goodsTo 19 = .ok (.if_icmp .ge 33, 3) := by decide +kernel
theorem dX5_goodsTo_22 : decode cX5_goodsTo 22 = .ok (.iload_n 3, 1) := by decide +kernel
theorem dX5_goodsTo_23 : decode cX5_goodsTo 23 = .ok (.iload_n 2, 1) := by decide +kernel
theorem dX5_goodsTo_24 : decode cX5_goodsTo 24 = .ok (.iload 4, 2) := by decide +kernel
theorem dX5_goodsTo_26 : decode cX5_goodsTo 26 = .ok (.ishr, 1) := by decide +kernel
theorem dX5_goodsTo_27 : decode cX5_goodsTo 27 = .ok (.iconst 1, 1) := by decide +kernel
theorem dX5_goodsTo_28 : decode cX5_goodsTo 28 = .ok (.iand, 1) := by decide +kernel
theorem dX5_goodsTo_29 : decode cX5_goodsTo 29 = .ok (.iconst 1, 1) := by decide +kernel
theorem dX5_goodsTo_30 : decode cX5_goodsTo 30 = .ok (.if_icmp .ne 13, 3) := by decide +kernel
theorem dX5_goodsTo_33 : decode cX5_goodsTo 33 = .ok (.aload_n 0, 1) := by decide +kernel
theorem dX5_goodsTo_34 : decode cX5_goodsTo 34 = .ok (.iload 4, 2) := by decide +kernel
theorem dX5_goodsTo_36 : decode cX5_goodsTo 36 = .ok (.iconst 2, 1) := by decide +kernel
theorem dX5_goodsTo_37 : decode cX5_goodsTo 37 = .ok (.invokevirtual 47, 3) := by decide +kernel
theorem dX5_goodsTo_40 : decode cX5_goodsTo 40 = .ok (.goto 4, 3) := by decide +kernel
theorem dX5_goodsTo_43 : decode cX5_goodsTo 43 = .ok (.iconst 0, 1) := by decide +kernel
theorem dX5_goodsTo_44 : decode cX5_goodsTo 44 = .ok (.iadd, 1) := by decide +kernel
theorem dX5_goodsTo_45 : decode cX5_goodsTo 45 = .ok (.istore_n 3, 1) := by decide +kernel
theorem dX5_goodsTo_46 : decode cX5_goodsTo 46 = .ok (.iinc 4 1, 3) := by decide +kernel
theorem dX5_goodsTo_49 : decode cX5_goodsTo 49 = .ok (.goto (-38), 3) := by decide +kernel
theorem dX5_goodsTo_52 : decode cX5_goodsTo 52 = .ok (.iload_n 3, 1) := by decide +kernel
theorem dX5_goodsTo_53 : decode cX5_goodsTo 53 = .ok (.ireturn, 1) := by decide +kernel
theorem dX5_worth_0 : decode cX5_worth 0 = .ok (.aload_n 0, 1) := by decide +kernel
theorem dX5_worth_1 : decode cX5_worth 1 = .ok (.iload_n 1, 1) := by decide +kernel
theorem dX5_worth_2 : decode cX5_worth 2 = .ok (.invokevirtual 43, 3) := by decide +kernel
theorem dX5_worth_5 : decode cX5_worth 5 = .ok (.ifCond .eq 10, 3) := by decide +kernel
theorem dX5_worth_8 : decode cX5_worth 8 = .ok (.iload_n 2, 1) := by decide +kernel
theorem dX5_worth_9 : decode cX5_worth 9 = .ok (.invokestatic 51, 3) := by decide +kernel
theorem dX5_worth_12 : decode cX5_worth 12 = .ok (.ifCond .ne 10, 3) := by decide +kernel
theorem dX5_worth_15 : decode cX5_worth 15 = .ok (.aload_n 0, 1) := by decide +kernel
theorem dX5_worth_16 : decode cX5_worth 16 = .ok (.ldc 42, 2) := by decide +kernel
theorem dX5_worth_18 : decode cX5_worth 18 = .ok (.invokevirtual 62, 3) := by decide +kernel
theorem dX5_worth_21 : decode cX5_worth 21 = .ok (.ireturn, 1) := by decide +kernel
theorem dX5_worth_22 : decode cX5_worth 22 = .ok (.aload_n 0, 1) := by decide +kernel
theorem dX5_worth_23 : decode cX5_worth 23 = .ok (.iload_n 1, 1) := by decide +kernel
theorem dX5_worth_24 : decode cX5_worth 24 = .ok (.invokevirtual 192, 3) := by decide +kernel
theorem dX5_worth_27 : decode cX5_worth 27 = .ok (.istore_n 3, 1) := by decide +kernel
theorem dX5_worth_28 : decode cX5_worth 28 = .ok (.aload_n 0, 1) := by decide +kernel
theorem dX5_worth_29 : decode cX5_worth 29 = .ok (.iload_n 1, 1) := by decide +kernel
theorem dX5_worth_30 : decode cX5_worth 30 = .ok (.bipush 6, 2) := by decide +kernel
theorem dX5_worth_32 : decode cX5_worth 32 = .ok (.iload_n 2, 1) := by decide +kernel
theorem dX5_worth_33 : decode cX5_worth 33 = .ok (.iadd, 1) := by decide +kernel
theorem dX5_worth_34 : decode cX5_worth 34 = .ok (.invokevirtual 47, 3) := by decide +kernel
theorem dX5_worth_37 : decode cX5_worth 37 = .ok (.istore 4, 2) := by decide +kernel
theorem dX5_worth_39 : decode cX5_worth 39 = .ok (.aload_n 0, 1) := by decide +kernel
theorem dX5_worth_40 : decode cX5_worth 40 = .ok (.iload_n 1, 1) := by decide +kernel
theorem dX5_worth_41 : decode cX5_worth 41 = .ok (.bipush 6, 2) := by decide +kernel
theorem dX5_worth_43 : decode cX5_worth 43 = .ok (.iload_n 2, 1) := by decide +kernel
theorem dX5_worth_44 : decode cX5_worth 44 = .ok (.iadd, 1) := by decide +kernel
theorem dX5_worth_45 : decode cX5_worth 45 = .ok (.iload 4, 2) := by decide +kernel
theorem dX5_worth_47 : decode cX5_worth 47 = .ok (.iconst 1, 1) := by decide +kernel
theorem dX5_worth_48 : decode cX5_worth 48 = .ok (.iadd, 1) := by decide +kernel
theorem dX5_worth_49 : decode cX5_worth 49 = .ok (.iconst 4, 1) := by decide +kernel
theorem dX5_worth_50 : decode cX5_worth 50 = .ok (.irem, 1) := by decide +kernel
theorem dX5_worth_51 : decode cX5_worth 51 = .ok (.invokevirtual 71, 3) := by decide +kernel
theorem dX5_worth_54 : decode cX5_worth 54 = .ok (.aload_n 0, 1) := by decide +kernel
theorem dX5_worth_55 : decode cX5_worth 55 = .ok (.iload_n 1, 1) := by decide +kernel
theorem dX5_worth_56 : decode cX5_worth 56 = .ok (.invokevirtual 192, 3) := by decide +kernel
theorem dX5_worth_59 : decode cX5_worth 59 = .ok (.istore 5, 2) := by decide +kernel
theorem dX5_worth_61 : decode cX5_worth 61 = .ok (.aload_n 0, 1) := by decide +kernel
theorem dX5_worth_62 : decode cX5_worth 62 = .ok (.iload_n 1, 1) := by decide +kernel
theorem dX5_worth_63 : decode cX5_worth 63 = .ok (.bipush 6, 2) := by decide +kernel
theorem dX5_worth_65 : decode cX5_worth 65 = .ok (.iload_n 2, 1) := by decide +kernel
theorem dX5_worth_66 : decode cX5_worth 66 = .ok (.iadd, 1) := by decide +kernel
theorem dX5_worth_67 : decode cX5_worth 67 = .ok (.iload 4, 2) := by decide +kernel
theorem dX5_worth_69 : decode cX5_worth 69 = .ok (.invokevirtual 71, 3) := by decide +kernel
theorem dX5_worth_72 : decode cX5_worth 72 = .ok (.iload_n 3, 1) := by decide +kernel
theorem dX5_worth_73 : decode cX5_worth 73 = .ok (.iload 5, 2) := by decide +kernel
theorem dX5_worth_75 : decode cX5_worth 75 = .ok (.isub, 1) := by decide +kernel
theorem dX5_worth_76 : decode cX5_worth 76 = .ok (.ireturn, 1) := by decide +kernel
theorem dX5_best_0 : decode cX5_best 0 = .ok (.aload_n 0, 1) := by decide +kernel
theorem dX5_best_1 : decode cX5_best 1 = .ok (.iload_n 1, 1) := by decide +kernel
theorem dX5_best_2 : decode cX5_best 2 = .ok (.invokevirtual 43, 3) := by decide +kernel
theorem dX5_best_5 : decode cX5_best 5 = .ok (.ifCond .ne 10, 3) := by decide +kernel
theorem dX5_best_8 : decode cX5_best 8 = .ok (.aload_n 0, 1) := by decide +kernel
theorem dX5_best_9 : decode cX5_best 9 = .ok (.ldc 42, 2) := by decide +kernel
theorem dX5_best_11 : decode cX5_best 11 = .ok (.invokevirtual 62, 3) := by decide +kernel
theorem dX5_best_14 : decode cX5_best 14 = .ok (.ireturn, 1) := by decide +kernel
theorem dX5_best_15 : decode cX5_best 15 = .ok (.aload_n 0, 1) := by decide +kernel
theorem dX5_best_16 : decode cX5_best 16 = .ok (.iload_n 1, 1) := by decide +kernel
theorem dX5_best_17 : decode cX5_best 17 = .ok (.invokevirtual 107, 3) := by decide +kernel
theorem dX5_best_20 : decode cX5_best 20 = .ok (.ifCond .ne 10, 3) := by decide +kernel
theorem dX5_best_23 : decode cX5_best 23 = .ok (.aload_n 0, 1) := by decide +kernel
theorem dX5_best_24 : decode cX5_best 24 = .ok (.ldc 159, 2) := by decide +kernel
theorem dX5_best_26 : decode cX5_best 26 = .ok (.invokevirtual 62, 3) := by decide +kernel
theorem dX5_best_29 : decode cX5_best 29 = .ok (.ireturn, 1) := by decide +kernel
theorem dX5_best_30 : decode cX5_best 30 = .ok (.iconst 0, 1) := by decide +kernel
theorem dX5_best_31 : decode cX5_best 31 = .ok (.istore_n 2, 1) := by decide +kernel
theorem dX5_best_32 : decode cX5_best 32 = .ok (.iconst (-1), 1) := by decide +kernel
theorem dX5_best_33 : decode cX5_best 33 = .ok (.istore_n 3, 1) := by decide +kernel
theorem dX5_best_34 : decode cX5_best 34 = .ok (.iconst 0, 1) := by decide +kernel
theorem dX5_best_35 : decode cX5_best 35 = .ok (.istore 4, 2) := by decide +kernel
theorem dX5_best_37 : decode cX5_best 37 = .ok (.iload 4, 2) := by decide +kernel
theorem dX5_best_39 : decode cX5_best 39 = .ok (.bipush 9, 2) := by decide +kernel
theorem dX5_best_41 : decode cX5_best 41 = .ok (.if_icmp .ge 99, 3) := by decide +kernel
theorem dX5_best_44 : decode cX5_best 44 = .ok (.aload_n 0, 1) := by decide +kernel
theorem dX5_best_45 : decode cX5_best 45 = .ok (.iload_n 1, 1) := by decide +kernel
theorem dX5_best_46 : decode cX5_best 46 = .ok (.bipush 6, 2) := by decide +kernel
theorem dX5_best_48 : decode cX5_best 48 = .ok (.iload 4, 2) := by decide +kernel
theorem dX5_best_50 : decode cX5_best 50 = .ok (.iadd, 1) := by decide +kernel
theorem dX5_best_51 : decode cX5_best 51 = .ok (.invokevirtual 47, 3) := by decide +kernel
theorem dX5_best_54 : decode cX5_best 54 = .ok (.istore 5, 2) := by decide +kernel
theorem dX5_best_56 : decode cX5_best 56 = .ok (.iconst 0, 1) := by decide +kernel
theorem dX5_best_57 : decode cX5_best 57 = .ok (.istore 6, 2) := by decide +kernel
theorem dX5_best_59 : decode cX5_best 59 = .ok (.iload 6, 2) := by decide +kernel
theorem dX5_best_61 : decode cX5_best 61 = .ok (.iconst 4, 1) := by decide +kernel
theorem dX5_best_62 : decode cX5_best 62 = .ok (.if_icmp .ge 60, 3) := by decide +kernel
theorem dX5_best_65 : decode cX5_best 65 = .ok (.aload_n 0, 1) := by decide +kernel
theorem dX5_best_66 : decode cX5_best 66 = .ok (.iload_n 1, 1) := by decide +kernel
theorem dX5_best_67 : decode cX5_best 67 = .ok (.bipush 6, 2) := by decide +kernel
theorem dX5_best_69 : decode cX5_best 69 = .ok (.iload 4, 2) := by decide +kernel
theorem dX5_best_71 : decode cX5_best 71 = .ok (.iadd, 1) := by decide +kernel
theorem dX5_best_72 : decode cX5_best 72 = .ok (.iload 6, 2) := by decide +kernel
theorem dX5_best_74 : decode cX5_best 74 = .ok (.invokevirtual 71, 3) := by decide +kernel
theorem dX5_best_77 : decode cX5_best 77 = .ok (.aload_n 0, 1) := by decide +kernel
theorem dX5_best_78 : decode cX5_best 78 = .ok (.iload_n 1, 1) := by decide +kernel
theorem dX5_best_79 : decode cX5_best 79 = .ok (.invokevirtual 192, 3) := by decide +kernel
theorem dX5_best_82 : decode cX5_best 82 = .ok (.istore 7, 2) := by decide +kernel
theorem dX5_best_84 : decode cX5_best 84 = .ok (.iload 7, 2) := by decide +kernel
theorem dX5_best_86 : decode cX5_best 86 = .ok (.iload_n 3, 1) := by decide +kernel
theorem dX5_best_87 : decode cX5_best 87 = .ok (.if_icmp .le 14, 3) := by decide +kernel
theorem dX5_best_90 : decode cX5_best 90 = .ok (.bipush 10, 2) := by decide +kernel
theorem dX5_best_92 : decode cX5_best 92 = .ok (.iload 4, 2) := by decide +kernel
theorem dX5_best_94 : decode cX5_best 94 = .ok (.imul, 1) := by decide +kernel
theorem dX5_best_95 : decode cX5_best 95 = .ok (.iload 6, 2) := by decide +kernel
theorem dX5_best_97 : decode cX5_best 97 = .ok (.iadd, 1) := by decide +kernel
theorem dX5_best_98 : decode cX5_best 98 = .ok (.goto 4, 3) := by decide +kernel
theorem dX5_best_101 : decode cX5_best 101 = .ok (.iload_n 2, 1) := by decide +kernel
theorem dX5_best_102 : decode cX5_best 102 = .ok (.istore_n 2, 1) := by decide +kernel
theorem dX5_best_103 : decode cX5_best 103 = .ok (.iload 7, 2) := by decide +kernel
theorem dX5_best_105 : decode cX5_best 105 = .ok (.iload_n 3, 1) := by decide +kernel
theorem dX5_best_106 : decode cX5_best 106 = .ok (.if_icmp .le 8, 3) := by decide +kernel
theorem dX5_best_109 : decode cX5_best 109 = .ok (.iload 7, 2) := by decide +kernel
theorem dX5_best_111 : decode cX5_best 111 = .ok (.goto 4, 3) := by decide +kernel
theorem dX5_best_114 : decode cX5_best 114 = .ok (.iload_n 3, 1) := by decide +kernel
theorem dX5_best_115 : decode cX5_best 115 = .ok (.istore_n 3, 1) := by decide +kernel
theorem dX5_best_116 : decode cX5_best 116 = .ok (.iinc 6 1, 3) := by decide +kernel
theorem dX5_best_119 : decode cX5_best 119 = .ok (.goto (-60), 3) := by decide +kernel
theorem dX5_best_122 : decode cX5_best 122 = .ok (.aload_n 0, 1) := by decide +kernel
theorem dX5_best_123 : decode cX5_best 123 = .ok (.iload_n 1, 1) := by decide +kernel
theorem dX5_best_124 : decode cX5_best 124 = .ok (.bipush 6, 2) := by decide +kernel
theorem dX5_best_126 : decode cX5_best 126 = .ok (.iload 4, 2) := by decide +kernel
theorem dX5_best_128 : decode cX5_best 128 = .ok (.iadd, 1) := by decide +kernel
theorem dX5_best_129 : decode cX5_best 129 = .ok (.iload 5, 2) := by decide +kernel
theorem dX5_best_131 : decode cX5_best 131 = .ok (.invokevirtual 71, 3) := by decide +kernel
theorem dX5_best_134 : decode cX5_best 134 = .ok (.iinc 4 1, 3) := by decide +kernel
theorem dX5_best_137 : decode cX5_best 137 = .ok (.goto (-100), 3) := by decide +kernel
theorem dX5_best_140 : decode cX5_best 140 = .ok (.iload_n 2, 1) := by decide +kernel
theorem dX5_best_141 : decode cX5_best 141 = .ok (.ireturn, 1) := by decide +kernel
theorem dX5_steer_0 : decode cX5_steer 0 = .ok (.aload_n 0, 1) := by decide +kernel
theorem dX5_steer_1 : decode cX5_steer 1 = .ok (.iload_n 1, 1) := by decide +kernel
theorem dX5_steer_2 : decode cX5_steer 2 = .ok (.iload_n 2, 1) := by decide +kernel
theorem dX5_steer_3 : decode cX5_steer 3 = .ok (.invokevirtual 90, 3) := by decide +kernel
theorem dX5_steer_6 : decode cX5_steer 6 = .ok (.ifCond .ne 10, 3) := by decide +kernel
theorem dX5_steer_9 : decode cX5_steer 9 = .ok (.aload_n 0, 1) := by decide +kernel
theorem dX5_steer_10 : decode cX5_steer 10 = .ok (.ldc 42, 2) := by decide +kernel
theorem dX5_steer_12 : decode cX5_steer 12 = .ok (.invokevirtual 62, 3) := by decide +kernel
theorem dX5_steer_15 : decode cX5_steer 15 = .ok (.ireturn, 1) := by decide +kernel
theorem dX5_steer_16 : decode cX5_steer 16 = .ok (.aload_n 0, 1) := by decide +kernel
theorem dX5_steer_17 : decode cX5_steer 17 = .ok (.iload_n 2, 1) := by decide +kernel
theorem dX5_steer_18 : decode cX5_steer 18 = .ok (.invokevirtual 107, 3) := by decide +kernel
theorem dX5_steer_21 : decode cX5_steer 21 = .ok (.ifCond .eq 12, 3) := by decide +kernel
theorem dX5_steer_24 : decode cX5_steer 24 = .ok (.aload_n 0, 1) := by decide +kernel
theorem dX5_steer_25 : decode cX5_steer 25 = .ok (.iload_n 1, 1) := by decide +kernel
theorem dX5_steer_26 : decode cX5_steer 26 = .ok (.invokevirtual 113, 3) := by decide +kernel
theorem dX5_steer_29 : decode cX5_steer 29 = .ok (.iload_n 2, 1) := by decide +kernel
theorem dX5_steer_30 : decode cX5_steer 30 = .ok (.if_icmp .ne 10, 3) := by decide +kernel
theorem dX5_steer_33 : decode cX5_steer 33 = .ok (.aload_n 0, 1) := by decide +kernel
theorem dX5_steer_34 : decode cX5_steer 34 = .ok (.ldc 159, 2) := by decide +kernel
theorem dX5_steer_36 : decode cX5_steer 36 = .ok (.invokevirtual 62, 3) := by decide +kernel
theorem dX5_steer_39 : decode cX5_steer 39 = .ok (.ireturn, 1) := by decide +kernel
theorem dX5_steer_40 : decode cX5_steer 40 = .ok (.aload_n 0, 1) := by decide +kernel
theorem dX5_steer_41 : decode cX5_steer 41 = .ok (.iload_n 1, 1) := by decide +kernel
theorem dX5_steer_42 : decode cX5_steer 42 = .ok (.iload_n 1, 1) := by decide +kernel
theorem dX5_steer_43 : decode cX5_steer 43 = .ok (.iload_n 2, 1) := by decide +kernel
theorem dX5_steer_44 : decode cX5_steer 44 = .ok (.invokevirtual 182, 3) := by decide +kernel
theorem dX5_steer_47 : decode cX5_steer 47 = .ok (.istore_n 3, 1) := by decide +kernel
theorem dX5_steer_48 : decode cX5_steer 48 = .ok (.iload_n 3, 1) := by decide +kernel
theorem dX5_steer_49 : decode cX5_steer 49 = .ok (.ifCond .ge 12, 3) := by decide +kernel
theorem dX5_steer_52 : decode cX5_steer 52 = .ok (.aload_n 0, 1) := by decide +kernel
theorem dX5_steer_53 : decode cX5_steer 53 = .ok (.ldc 116, 2) := by decide +kernel
theorem dX5_steer_55 : decode cX5_steer 55 = .ok (.invokevirtual 62, 3) := by decide +kernel
theorem dX5_steer_58 : decode cX5_steer 58 = .ok (.goto 4, 3) := by decide +kernel
theorem dX5_steer_61 : decode cX5_steer 61 = .ok (.iload_n 3, 1) := by decide +kernel
theorem dX5_steer_62 : decode cX5_steer 62 = .ok (.ireturn, 1) := by decide +kernel
theorem dX5_kind_0 : decode cX5_kind 0 = .ok (.aload_n 0, 1) := by decide +kernel
theorem dX5_kind_1 : decode cX5_kind 1 = .ok (.iload_n 1, 1) := by decide +kernel
theorem dX5_kind_2 : decode cX5_kind 2 = .ok (.invokevirtual 43, 3) := by decide +kernel
theorem dX5_kind_5 : decode cX5_kind 5 = .ok (.ifCond .eq 15, 3) := by decide +kernel
theorem dX5_kind_8 : decode cX5_kind 8 = .ok (.iload_n 2, 1) := by decide +kernel
theorem dX5_kind_9 : decode cX5_kind 9 = .ok (.i2l, 1) := by decide +kernel
theorem dX5_kind_10 : decode cX5_kind 10 = .ok (.lconst 1, 1) := by decide +kernel
theorem dX5_kind_11 : decode cX5_kind 11 = .ok (.ldc2_w 154, 3) := by decide +kernel
theorem dX5_kind_14 : decode cX5_kind 14 = .ok (.invokestatic 54, 3) := by decide +kernel
theorem dX5_kind_17 : decode cX5_kind 17 = .ok (.ifCond .ne 10, 3) := by decide +kernel
theorem dX5_kind_20 : decode cX5_kind 20 = .ok (.aload_n 0, 1) := by decide +kernel
theorem dX5_kind_21 : decode cX5_kind 21 = .ok (.ldc 42, 2) := by decide +kernel
theorem dX5_kind_23 : decode cX5_kind 23 = .ok (.invokevirtual 62, 3) := by decide +kernel
theorem dX5_kind_26 : decode cX5_kind 26 = .ok (.ireturn, 1) := by decide +kernel
theorem dX5_kind_27 : decode cX5_kind 27 = .ok (.aload_n 0, 1) := by decide +kernel
theorem dX5_kind_28 : decode cX5_kind 28 = .ok (.iload_n 2, 1) := by decide +kernel
theorem dX5_kind_29 : decode cX5_kind 29 = .ok (.invokevirtual 156, 3) := by decide +kernel
theorem dX5_kind_32 : decode cX5_kind 32 = .ok (.ifCond .eq 10, 3) := by decide +kernel
theorem dX5_kind_35 : decode cX5_kind 35 = .ok (.aload_n 0, 1) := by decide +kernel
theorem dX5_kind_36 : decode cX5_kind 36 = .ok (.ldc 159, 2) := by decide +kernel
theorem dX5_kind_38 : decode cX5_kind 38 = .ok (.invokevirtual 62, 3) := by decide +kernel
theorem dX5_kind_41 : decode cX5_kind 41 = .ok (.ireturn, 1) := by decide +kernel
theorem dX5_kind_42 : decode cX5_kind 42 = .ok (.aload_n 0, 1) := by decide +kernel
theorem dX5_kind_43 : decode cX5_kind 43 = .ok (.invokevirtual 173, 3) := by decide +kernel
theorem dX5_kind_46 : decode cX5_kind 46 = .ok (.iconst 0, 1) := by decide +kernel
theorem dX5_kind_47 : decode cX5_kind 47 = .ok (.istore_n 3, 1) := by decide +kernel
theorem dX5_kind_48 : decode cX5_kind 48 = .ok (.iconst (-1), 1) := by decide +kernel
theorem dX5_kind_49 : decode cX5_kind 49 = .ok (.istore 4, 2) := by decide +kernel
theorem dX5_kind_51 : decode cX5_kind 51 = .ok (.iconst 0, 1) := by decide +kernel
theorem dX5_kind_52 : decode cX5_kind 52 = .ok (.istore 5, 2) := by decide +kernel
theorem dX5_kind_54 : decode cX5_kind 54 = .ok (.iload 5, 2) := by decide +kernel
theorem dX5_kind_56 : decode cX5_kind 56 = .ok (.bipush 6, 2) := by decide +kernel
theorem dX5_kind_58 : decode cX5_kind 58 = .ok (.if_icmp .ge 66, 3) := by decide +kernel
theorem dX5_kind_61 : decode cX5_kind 61 = .ok (.aload_n 0, 1) := by decide +kernel
theorem dX5_kind_62 : decode cX5_kind 62 = .ok (.iload_n 1, 1) := by decide +kernel
theorem dX5_kind_63 : decode cX5_kind 63 = .ok (.iconst 0, 1) := by decide +kernel
theorem dX5_kind_64 : decode cX5_kind 64 = .ok (.iload 5, 2) := by decide +kernel
theorem dX5_kind_66 : decode cX5_kind 66 = .ok (.invokevirtual 71, 3) := by decide +kernel
theorem dX5_kind_69 : decode cX5_kind 69 = .ok (.aload_n 0, 1) := by decide +kernel
theorem dX5_kind_70 : decode cX5_kind 70 = .ok (.iload_n 2, 1) := by decide +kernel
theorem dX5_kind_71 : decode cX5_kind 71 = .ok (.invokevirtual 160, 3) := by decide +kernel
theorem dX5_kind_74 : decode cX5_kind 74 = .ok (.istore 6, 2) := by decide +kernel
theorem dX5_kind_76 : decode cX5_kind 76 = .ok (.aload_n 0, 1) := by decide +kernel
theorem dX5_kind_77 : decode cX5_kind 77 = .ok (.iload_n 1, 1) := by decide +kernel
theorem dX5_kind_78 : decode cX5_kind 78 = .ok (.iconst 2, 1) := by decide +kernel
theorem dX5_kind_79 : decode cX5_kind 79 = .ok (.invokevirtual 47, 3) := by decide +kernel
theorem dX5_kind_82 : decode cX5_kind 82 = .ok (.istore 7, 2) := by decide +kernel
theorem dX5_kind_84 : decode cX5_kind 84 = .ok (.aload_n 0, 1) := by decide +kernel
theorem dX5_kind_85 : decode cX5_kind 85 = .ok (.invokevirtual 176, 3) := by decide +kernel
theorem dX5_kind_88 : decode cX5_kind 88 = .ok (.iload 7, 2) := by decide +kernel
theorem dX5_kind_90 : decode cX5_kind 90 = .ok (.iload 4, 2) := by decide +kernel
theorem dX5_kind_92 : decode cX5_kind 92 = .ok (.if_icmp .le 8, 3) := by decide +kernel
theorem dX5_kind_95 : decode cX5_kind 95 = .ok (.iload 5, 2) := by decide +kernel
theorem dX5_kind_97 : decode cX5_kind 97 = .ok (.goto 4, 3) := by decide +kernel
theorem dX5_kind_100 : decode cX5_kind 100 = .ok (.iload_n 3, 1) := by decide +kernel
theorem dX5_kind_101 : decode cX5_kind 101 = .ok (.istore_n 3, 1) := by decide +kernel
theorem dX5_kind_102 : decode cX5_kind 102 = .ok (.iload 7, 2) := by decide +kernel
theorem dX5_kind_104 : decode cX5_kind 104 = .ok (.iload 4, 2) := by decide +kernel
theorem dX5_kind_106 : decode cX5_kind 106 = .ok (.if_icmp .le 8, 3) := by decide +kernel
theorem dX5_kind_109 : decode cX5_kind 109 = .ok (.iload 7, 2) := by decide +kernel
theorem dX5_kind_111 : decode cX5_kind 111 = .ok (.goto 5, 3) := by decide +kernel
theorem dX5_kind_114 : decode cX5_kind 114 = .ok (.iload 4, 2) := by decide +kernel
theorem dX5_kind_116 : decode cX5_kind 116 = .ok (.istore 4, 2) := by decide +kernel
theorem dX5_kind_118 : decode cX5_kind 118 = .ok (.iinc 5 1, 3) := by decide +kernel
theorem dX5_kind_121 : decode cX5_kind 121 = .ok (.goto (-67), 3) := by decide +kernel
theorem dX5_kind_124 : decode cX5_kind 124 = .ok (.iload_n 3, 1) := by decide +kernel
theorem dX5_kind_125 : decode cX5_kind 125 = .ok (.ireturn, 1) := by decide +kernel
theorem dX5_fair_0 : decode cX5_fair 0 = .ok (.iload_n 1, 1) := by decide +kernel
theorem dX5_fair_1 : decode cX5_fair 1 = .ok (.i2l, 1) := by decide +kernel
theorem dX5_fair_2 : decode cX5_fair 2 = .ok (.lconst 1, 1) := by decide +kernel
theorem dX5_fair_3 : decode cX5_fair 3 = .ok (.ldc2_w 154, 3) := by decide +kernel
theorem dX5_fair_6 : decode cX5_fair 6 = .ok (.invokestatic 54, 3) := by decide +kernel
theorem dX5_fair_9 : decode cX5_fair 9 = .ok (.ifCond .ne 10, 3) := by decide +kernel
theorem dX5_fair_12 : decode cX5_fair 12 = .ok (.aload_n 0, 1) := by decide +kernel
theorem dX5_fair_13 : decode cX5_fair 13 = .ok (.ldc 42, 2) := by decide +kernel
theorem dX5_fair_15 : decode cX5_fair 15 = .ok (.invokevirtual 62, 3) := by decide +kernel
theorem dX5_fair_18 : decode cX5_fair 18 = .ok (.ireturn, 1) := by decide +kernel
theorem dX5_fair_19 : decode cX5_fair 19 = .ok (.aload_n 0, 1) := by decide +kernel
theorem dX5_fair_20 : decode cX5_fair 20 = .ok (.iload_n 1, 1) := by decide +kernel
theorem dX5_fair_21 : decode cX5_fair 21 = .ok (.invokevirtual 156, 3) := by decide +kernel
theorem dX5_fair_24 : decode cX5_fair 24 = .ok (.ifCond .eq 10, 3) := by decide +kernel
theorem dX5_fair_27 : decode cX5_fair 27 = .ok (.aload_n 0, 1) := by decide +kernel
theorem dX5_fair_28 : decode cX5_fair 28 = .ok (.ldc 159, 2) := by decide +kernel
theorem dX5_fair_30 : decode cX5_fair 30 = .ok (.invokevirtual 62, 3) := by decide +kernel
theorem dX5_fair_33 : decode cX5_fair 33 = .ok (.ireturn, 1) := by decide +kernel
theorem dX5_fair_34 : decode cX5_fair 34 = .ok (.aload_n 0, 1) := by decide +kernel
theorem dX5_fair_35 : decode cX5_fair 35 = .ok (.invokevirtual 173, 3) := by decide +kernel
theorem dX5_fair_38 : decode cX5_fair 38 = .ok (.iconst 0, 1) := by decide +kernel
theorem dX5_fair_39 : decode cX5_fair 39 = .ok (.istore_n 2, 1) := by decide +kernel
theorem dX5_fair_40 : decode cX5_fair 40 = .ok (.ldc 195, 2) := by decide +kernel
theorem dX5_fair_42 : decode cX5_fair 42 = .ok (.istore_n 3, 1) := by decide +kernel
theorem dX5_fair_43 : decode cX5_fair 43 = .ok (.iconst 0, 1) := by decide +kernel
theorem dX5_fair_44 : decode cX5_fair 44 = .ok (.istore 4, 2) := by decide +kernel
theorem dX5_fair_46 : decode cX5_fair 46 = .ok (.iload 4, 2) := by decide +kernel
theorem dX5_fair_48 : decode cX5_fair 48 = .ok (.iconst 3, 1) := by decide +kernel
theorem dX5_fair_49 : decode cX5_fair 49 = .ok (.if_icmp .ge 79, 3) := by decide +kernel
theorem dX5_fair_52 : decode cX5_fair 52 = .ok (.aload_n 0, 1) := by decide +kernel
theorem dX5_fair_53 : decode cX5_fair 53 = .ok (.getfield 7, 3) := by decide +kernel
theorem dX5_fair_56 : decode cX5_fair 56 = .ok (.iconst 2, 1) := by decide +kernel
theorem dX5_fair_57 : decode cX5_fair 57 = .ok (.iload 4, 2) := by decide +kernel
theorem dX5_fair_59 : decode cX5_fair 59 = .ok (.iastore, 1) := by decide +kernel
theorem dX5_fair_60 : decode cX5_fair 60 = .ok (.aload_n 0, 1) := by decide +kernel
theorem dX5_fair_61 : decode cX5_fair 61 = .ok (.iload_n 1, 1) := by decide +kernel
theorem dX5_fair_62 : decode cX5_fair 62 = .ok (.invokevirtual 160, 3) := by decide +kernel
theorem dX5_fair_65 : decode cX5_fair 65 = .ok (.istore 5, 2) := by decide +kernel
theorem dX5_fair_67 : decode cX5_fair 67 = .ok (.aload_n 0, 1) := by decide +kernel
theorem dX5_fair_68 : decode cX5_fair 68 = .ok (.iconst (-1), 1) := by decide +kernel
theorem dX5_fair_69 : decode cX5_fair 69 = .ok (.invokevirtual 120, 3) := by decide +kernel
theorem dX5_fair_72 : decode cX5_fair 72 = .ok (.istore 6, 2) := by decide +kernel
theorem dX5_fair_74 : decode cX5_fair 74 = .ok (.iload 6, 2) := by decide +kernel
theorem dX5_fair_76 : decode cX5_fair 76 = .ok (.ifCond .ge 7, 3) := by decide +kernel
theorem dX5_fair_79 : decode cX5_fair 79 = .ok (.iconst 0, 1) := by decide +kernel
theorem dX5_fair_80 : decode cX5_fair 80 = .ok (.goto 10, 3) := by decide +kernel
theorem dX5_fair_83 : decode cX5_fair 83 = .ok (.aload_n 0, 1) := by decide +kernel
theorem dX5_fair_84 : decode cX5_fair 84 = .ok (.iload 6, 2) := by decide +kernel
theorem dX5_fair_86 : decode cX5_fair 86 = .ok (.iconst 2, 1) := by decide +kernel
theorem dX5_fair_87 : decode cX5_fair 87 = .ok (.invokevirtual 47, 3) := by decide +kernel
theorem dX5_fair_90 : decode cX5_fair 90 = .ok (.istore 7, 2) := by decide +kernel
theorem dX5_fair_92 : decode cX5_fair 92 = .ok (.aload_n 0, 1) := by decide +kernel
theorem dX5_fair_93 : decode cX5_fair 93 = .ok (.invokevirtual 176, 3) := by decide +kernel
theorem dX5_fair_96 : decode cX5_fair 96 = .ok (.iload 7, 2) := by decide +kernel
theorem dX5_fair_98 : decode cX5_fair 98 = .ok (.iload_n 3, 1) := by decide +kernel
theorem dX5_fair_99 : decode cX5_fair 99 = .ok (.if_icmp .ge 8, 3) := by decide +kernel
theorem dX5_fair_102 : decode cX5_fair 102 = .ok (.iload 4, 2) := by decide +kernel
theorem dX5_fair_104 : decode cX5_fair 104 = .ok (.goto 4, 3) := by decide +kernel
theorem dX5_fair_107 : decode cX5_fair 107 = .ok (.iload_n 2, 1) := by decide +kernel
theorem dX5_fair_108 : decode cX5_fair 108 = .ok (.istore_n 2, 1) := by decide +kernel
theorem dX5_fair_109 : decode cX5_fair 109 = .ok (.iload 7, 2) := by decide +kernel
theorem dX5_fair_111 : decode cX5_fair 111 = .ok (.iload_n 3, 1) := by decide +kernel
theorem dX5_fair_112 : decode cX5_fair 112 = .ok (.if_icmp .ge 8, 3) := by decide +kernel
theorem dX5_fair_115 : decode cX5_fair 115 = .ok (.iload 7, 2) := by decide +kernel
theorem dX5_fair_117 : decode cX5_fair 117 = .ok (.goto 4, 3) := by decide +kernel
theorem dX5_fair_120 : decode cX5_fair 120 = .ok (.iload_n 3, 1) := by decide +kernel
theorem dX5_fair_121 : decode cX5_fair 121 = .ok (.istore_n 3, 1) := by decide +kernel
theorem dX5_fair_122 : decode cX5_fair 122 = .ok (.iinc 4 1, 3) := by decide +kernel
theorem dX5_fair_125 : decode cX5_fair 125 = .ok (.goto (-79), 3) := by decide +kernel
theorem dX5_fair_128 : decode cX5_fair 128 = .ok (.iload_n 2, 1) := by decide +kernel
theorem dX5_fair_129 : decode cX5_fair 129 = .ok (.ireturn, 1) := by decide +kernel
theorem dX5_ways_0 : decode cX5_ways 0 = .ok (.aload_n 0, 1) := by decide +kernel
theorem dX5_ways_1 : decode cX5_ways 1 = .ok (.iload_n 1, 1) := by decide +kernel
theorem dX5_ways_2 : decode cX5_ways 2 = .ok (.iload_n 2, 1) := by decide +kernel
theorem dX5_ways_3 : decode cX5_ways 3 = .ok (.invokevirtual 90, 3) := by decide +kernel
theorem dX5_ways_6 : decode cX5_ways 6 = .ok (.ifCond .ne 10, 3) := by decide +kernel
theorem dX5_ways_9 : decode cX5_ways 9 = .ok (.aload_n 0, 1) := by decide +kernel
theorem dX5_ways_10 : decode cX5_ways 10 = .ok (.ldc 42, 2) := by decide +kernel
theorem dX5_ways_12 : decode cX5_ways 12 = .ok (.invokevirtual 62, 3) := by decide +kernel
theorem dX5_ways_15 : decode cX5_ways 15 = .ok (.ireturn, 1) := by decide +kernel
theorem dX5_ways_16 : decode cX5_ways 16 = .ok (.aload_n 0, 1) := by decide +kernel
theorem dX5_ways_17 : decode cX5_ways 17 = .ok (.iload_n 2, 1) := by decide +kernel
theorem dX5_ways_18 : decode cX5_ways 18 = .ok (.invokevirtual 107, 3) := by decide +kernel
theorem dX5_ways_21 : decode cX5_ways 21 = .ok (.ifCond .ne 10, 3) := by decide +kernel
theorem dX5_ways_24 : decode cX5_ways 24 = .ok (.aload_n 0, 1) := by decide +kernel
theorem dX5_ways_25 : decode cX5_ways 25 = .ok (.ldc 159, 2) := by decide +kernel
theorem dX5_ways_27 : decode cX5_ways 27 = .ok (.invokevirtual 62, 3) := by decide +kernel
theorem dX5_ways_30 : decode cX5_ways 30 = .ok (.ireturn, 1) := by decide +kernel
theorem dX5_ways_31 : decode cX5_ways 31 = .ok (.aload_n 0, 1) := by decide +kernel
theorem dX5_ways_32 : decode cX5_ways 32 = .ok (.invokevirtual 173, 3) := by decide +kernel
theorem dX5_ways_35 : decode cX5_ways 35 = .ok (.iconst 0, 1) := by decide +kernel
theorem dX5_ways_36 : decode cX5_ways 36 = .ok (.istore_n 3, 1) := by decide +kernel
theorem dX5_ways_37 : decode cX5_ways 37 = .ok (.iconst 0, 1) := by decide +kernel
theorem dX5_ways_38 : decode cX5_ways 38 = .ok (.istore 4, 2) := by decide +kernel
theorem dX5_ways_40 : decode cX5_ways 40 = .ok (.iload 4, 2) := by decide +kernel
theorem dX5_ways_42 : decode cX5_ways 42 = .ok (.sipush 4096, 3) := by decide +kernel
theorem dX5_ways_45 : decode cX5_ways 45 = .ok (.if_icmp .ge 61, 3) := by decide +kernel
theorem dX5_ways_48 : decode cX5_ways 48 = .ok (.iconst 0, 1) := by decide +kernel
theorem dX5_ways_49 : decode cX5_ways 49 = .ok (.istore 5, 2) := by decide +kernel
theorem dX5_ways_51 : decode cX5_ways 51 = .ok (.iload 5, 2) := by decide +kernel
theorem dX5_ways_53 : decode cX5_ways 53 = .ok (.bipush 6, 2) := by decide +kernel
theorem dX5_ways_55 : decode cX5_ways 55 = .ok (.if_icmp .ge 28, 3) := by decide +kernel
theorem dX5_ways_58 : decode cX5_ways 58 = .ok (.aload_n 0, 1) := by decide +kernel
theorem dX5_ways_59 : decode cX5_ways 59 = .ok (.iload_n 1, 1) := by decide +kernel
theorem dX5_ways_60 : decode cX5_ways 60 = .ok (.bipush 6, 2) := by decide +kernel
theorem dX5_ways_62 : decode cX5_ways 62 = .ok (.iload 5, 2) := by decide +kernel
theorem dX5_ways_64 : decode cX5_ways 64 = .ok (.iadd, 1) := by decide +kernel
theorem dX5_ways_65 : decode cX5_ways 65 = .ok (.iload 4, 2) := by decide +kernel
theorem dX5_ways_67 : decode cX5_ways 67 = .ok (.iconst 2, 1) := by decide +kernel
theorem dX5_ways_68 : decode cX5_ways 68 = .ok (.iload 5, 2) := by decide +kernel
theorem dX5_ways_70 : decode cX5_ways 70 = .ok (.imul, 1) := by decide +kernel
theorem dX5_ways_71 : decode cX5_ways 71 = .ok (.ishr, 1) := by decide +kernel
theorem dX5_ways_72 : decode cX5_ways 72 = .ok (.iconst 3, 1) := by decide +kernel
theorem dX5_ways_73 : decode cX5_ways 73 = .ok (.iand, 1) := by decide +kernel
theorem dX5_ways_74 : decode cX5_ways 74 = .ok (.invokevirtual 71, 3) := by decide +kernel
theorem dX5_ways_77 : decode cX5_ways 77 = .ok (.iinc 5 1, 3) := by decide +kernel
theorem dX5_ways_80 : decode cX5_ways 80 = .ok (.goto (-29), 3) := by decide +kernel
theorem dX5_ways_83 : decode cX5_ways 83 = .ok (.iload_n 3, 1) := by decide +kernel
theorem dX5_ways_84 : decode cX5_ways 84 = .ok (.aload_n 0, 1) := by decide +kernel
theorem dX5_ways_85 : decode cX5_ways 85 = .ok (.iload_n 1, 1) := by decide +kernel
theorem dX5_ways_86 : decode cX5_ways 86 = .ok (.invokevirtual 113, 3) := by decide +kernel
theorem dX5_ways_89 : decode cX5_ways 89 = .ok (.iload_n 2, 1) := by decide +kernel
theorem dX5_ways_90 : decode cX5_ways 90 = .ok (.if_icmp .ne 7, 3) := by decide +kernel
theorem dX5_ways_93 : decode cX5_ways 93 = .ok (.iconst 1, 1) := by decide +kernel
theorem dX5_ways_94 : decode cX5_ways 94 = .ok (.goto 4, 3) := by decide +kernel
theorem dX5_ways_97 : decode cX5_ways 97 = .ok (.iconst 0, 1) := by decide +kernel
theorem dX5_ways_98 : decode cX5_ways 98 = .ok (.iadd, 1) := by decide +kernel
theorem dX5_ways_99 : decode cX5_ways 99 = .ok (.istore_n 3, 1) := by decide +kernel
theorem dX5_ways_100 : decode cX5_ways 100 = .ok (.iinc 4 1, 3) := by decide +kernel
theorem dX5_ways_103 : decode cX5_ways 103 = .ok (.goto (-63), 3) := by decide +kernel
theorem dX5_ways_106 : decode cX5_ways 106 = .ok (.aload_n 0, 1) := by decide +kernel
theorem dX5_ways_107 : decode cX5_ways 107 = .ok (.invokevirtual 176, 3) := by decide +kernel
theorem dX5_ways_110 : decode cX5_ways 110 = .ok (.iload_n 3, 1) := by decide +kernel
theorem dX5_ways_111 : decode cX5_ways 111 = .ok (.ireturn, 1) := by decide +kernel
theorem dX5_feed_0 : decode cX5_feed 0 = .ok (.iload_n 2, 1) := by decide +kernel
theorem dX5_feed_1 : decode cX5_feed 1 = .ok (.i2l, 1) := by decide +kernel
theorem dX5_feed_2 : decode cX5_feed 2 = .ok (.lconst 1, 1) := by decide +kernel
theorem dX5_feed_3 : decode cX5_feed 3 = .ok (.ldc2_w 196, 3) := by decide +kernel
theorem dX5_feed_6 : decode cX5_feed 6 = .ok (.invokestatic 54, 3) := by decide +kernel
theorem dX5_feed_9 : decode cX5_feed 9 = .ok (.ifCond .ne 10, 3) := by decide +kernel
theorem dX5_feed_12 : decode cX5_feed 12 = .ok (.aload_n 0, 1) := by decide +kernel
theorem dX5_feed_13 : decode cX5_feed 13 = .ok (.ldc 42, 2) := by decide +kernel
theorem dX5_feed_15 : decode cX5_feed 15 = .ok (.invokevirtual 62, 3) := by decide +kernel
theorem dX5_feed_18 : decode cX5_feed 18 = .ok (.ireturn, 1) := by decide +kernel
theorem dX5_feed_19 : decode cX5_feed 19 = .ok (.aload_n 0, 1) := by decide +kernel
theorem dX5_feed_20 : decode cX5_feed 20 = .ok (.getfield 198, 3) := by decide +kernel
theorem dX5_feed_23 : decode cX5_feed 23 = .ok (.iload_n 2, 1) := by decide +kernel
theorem dX5_feed_24 : decode cX5_feed 24 = .ok (.iadd, 1) := by decide +kernel
theorem dX5_feed_25 : decode cX5_feed 25 = .ok (.bipush 120, 2) := by decide +kernel
theorem dX5_feed_27 : decode cX5_feed 27 = .ok (.if_icmp .le 10, 3) := by decide +kernel
theorem dX5_feed_30 : decode cX5_feed 30 = .ok (.aload_n 0, 1) := by decide +kernel
theorem dX5_feed_31 : decode cX5_feed 31 = .ok (.ldc 79, 2) := by decide +kernel
theorem dX5_feed_33 : decode cX5_feed 33 = .ok (.invokevirtual 62, 3) := by decide +kernel
theorem dX5_feed_36 : decode cX5_feed 36 = .ok (.ireturn, 1) := by decide +kernel
theorem dX5_feed_37 : decode cX5_feed 37 = .ok (.iload_n 2, 1) := by decide +kernel
theorem dX5_feed_38 : decode cX5_feed 38 = .ok (.iconst 1, 1) := by decide +kernel
theorem dX5_feed_39 : decode cX5_feed 39 = .ok (.isub, 1) := by decide +kernel
theorem dX5_feed_40 : decode cX5_feed 40 = .ok (.istore_n 3, 1) := by decide +kernel
theorem dX5_feed_41 : decode cX5_feed 41 = .ok (.iload_n 3, 1) := by decide +kernel
theorem dX5_feed_42 : decode cX5_feed 42 = .ok (.ifCond .lt 38, 3) := by decide +kernel
theorem dX5_feed_45 : decode cX5_feed 45 = .ok (.aload_n 0, 1) := by decide +kernel
theorem dX5_feed_46 : decode cX5_feed 46 = .ok (.getfield 25, 3) := by decide +kernel
theorem dX5_feed_49 : decode cX5_feed 49 = .ok (.aload_n 0, 1) := by decide +kernel
theorem dX5_feed_50 : decode cX5_feed 50 = .ok (.getfield 198, 3) := by decide +kernel
theorem dX5_feed_53 : decode cX5_feed 53 = .ok (.iload_n 1, 1) := by decide +kernel
theorem dX5_feed_54 : decode cX5_feed 54 = .ok (.bipush 8, 2) := by decide +kernel
theorem dX5_feed_56 : decode cX5_feed 56 = .ok (.iload_n 3, 1) := by decide +kernel
theorem dX5_feed_57 : decode cX5_feed 57 = .ok (.imul, 1) := by decide +kernel
theorem dX5_feed_58 : decode cX5_feed 58 = .ok (.ishr, 1) := by decide +kernel
theorem dX5_feed_59 : decode cX5_feed 59 = .ok (.sipush 255, 3) := by decide +kernel
theorem dX5_feed_62 : decode cX5_feed 62 = .ok (.iand, 1) := by decide +kernel
theorem dX5_feed_63 : decode cX5_feed 63 = .ok (.iastore, 1) := by decide +kernel
theorem dX5_feed_64 : decode cX5_feed 64 = .ok (.aload_n 0, 1) := by decide +kernel
theorem dX5_feed_65 : decode cX5_feed 65 = .ok (.dup, 1) := by decide +kernel
theorem dX5_feed_66 : decode cX5_feed 66 = .ok (.getfield 198, 3) := by decide +kernel
theorem dX5_feed_69 : decode cX5_feed 69 = .ok (.iconst 1, 1) := by decide +kernel
theorem dX5_feed_70 : decode cX5_feed 70 = .ok (.iadd, 1) := by decide +kernel
theorem dX5_feed_71 : decode cX5_feed 71 = .ok (.putfield 198, 3) := by decide +kernel
theorem dX5_feed_74 : decode cX5_feed 74 = .ok (.iinc 3 (-1), 3) := by decide +kernel
theorem dX5_feed_77 : decode cX5_feed 77 = .ok (.goto (-36), 3) := by decide +kernel
theorem dX5_feed_80 : decode cX5_feed 80 = .ok (.aload_n 0, 1) := by decide +kernel
theorem dX5_feed_81 : decode cX5_feed 81 = .ok (.getfield 198, 3) := by decide +kernel
theorem dX5_feed_84 : decode cX5_feed 84 = .ok (.ireturn, 1) := by decide +kernel
theorem dX5_wipe_0 : decode cX5_wipe 0 = .ok (.aload_n 0, 1) := by decide +kernel
theorem dX5_wipe_1 : decode cX5_wipe 1 = .ok (.getfield 198, 3) := by decide +kernel
theorem dX5_wipe_4 : decode cX5_wipe 4 = .ok (.istore_n 1, 1) := by decide +kernel
theorem dX5_wipe_5 : decode cX5_wipe 5 = .ok (.aload_n 0, 1) := by decide +kernel
theorem dX5_wipe_6 : decode cX5_wipe 6 = .ok (.iconst 0, 1) := by decide +kernel
theorem dX5_wipe_7 : decode cX5_wipe 7 = .ok (.putfield 198, 3) := by decide +kernel
theorem dX5_wipe_10 : decode cX5_wipe 10 = .ok (.iload_n 1, 1) := by decide +kernel
theorem dX5_wipe_11 : decode cX5_wipe 11 = .ok (.ireturn, 1) := by decide +kernel
theorem dX5_isLetter_0 : decode cX5_isLetter 0 = .ok (.iload_n 0, 1) := by decide +kernel
theorem dX5_isLetter_1 : decode cX5_isLetter 1 = .ok (.bipush 97, 2) := by decide +kernel
theorem dX5_isLetter_3 : decode cX5_isLetter 3 = .ok (.if_icmp .lt 13, 3) := by decide +kernel
theorem dX5_isLetter_6 : decode cX5_isLetter 6 = .ok (.iload_n 0, 1) := by decide +kernel
theorem dX5_isLetter_7 : decode cX5_isLetter 7 = .ok (.bipush 122, 2) := by decide +kernel
theorem dX5_isLetter_9 : decode cX5_isLetter 9 = .ok (.if_icmp .gt 7, 3) := by decide +kernel
theorem dX5_isLetter_12 : decode cX5_isLetter 12 = .ok (.iconst 1, 1) := by decide +kernel
theorem dX5_isLetter_13 : decode cX5_isLetter 13 = .ok (.goto 4, 3) := by decide +kernel
theorem dX5_isLetter_16 : decode cX5_isLetter 16 = .ok (.iconst 0, 1) := by decide +kernel
theorem dX5_isLetter_17 : decode cX5_isLetter 17 = .ok (.ireturn, 1) := by decide +kernel
theorem dX5_isDigit_0 : decode cX5_isDigit 0 = .ok (.iload_n 0, 1) := by decide +kernel
theorem dX5_isDigit_1 : decode cX5_isDigit 1 = .ok (.bipush 48, 2) := by decide +kernel
theorem dX5_isDigit_3 : decode cX5_isDigit 3 = .ok (.if_icmp .lt 13, 3) := by decide +kernel
theorem dX5_isDigit_6 : decode cX5_isDigit 6 = .ok (.iload_n 0, 1) := by decide +kernel
theorem dX5_isDigit_7 : decode cX5_isDigit 7 = .ok (.bipush 57, 2) := by decide +kernel
theorem dX5_isDigit_9 : decode cX5_isDigit 9 = .ok (.if_icmp .gt 7, 3) := by decide +kernel
theorem dX5_isDigit_12 : decode cX5_isDigit 12 = .ok (.iconst 1, 1) := by decide +kernel
theorem dX5_isDigit_13 : decode cX5_isDigit 13 = .ok (.goto 4, 3) := by decide +kernel
theorem dX5_isDigit_16 : decode cX5_isDigit 16 = .ok (.iconst 0, 1) := by decide +kernel
theorem dX5_isDigit_17 : decode cX5_isDigit 17 = .ok (.ireturn, 1) := by decide +kernel
theorem dX5_byteAt_0 : decode cX5_byteAt 0 = .ok (.iload_n 1, 1) := by decide +kernel
theorem dX5_byteAt_1 : decode cX5_byteAt 1 = .ok (.aload_n 0, 1) := by decide +kernel
theorem dX5_byteAt_2 : decode cX5_byteAt 2 = .ok (.getfield 198, 3) := by decide +kernel
theorem dX5_byteAt_5 : decode cX5_byteAt 5 = .ok (.if_icmp .ge 12, 3) := by decide +kernel
theorem dX5_byteAt_8 : decode cX5_byteAt 8 = .ok (.aload_n 0, 1) := by decide +kernel
theorem dX5_byteAt_9 : decode cX5_byteAt 9 = .ok (.getfield 25, 3) := by decide +kernel
theorem dX5_byteAt_12 : decode cX5_byteAt 12 = .ok (.iload_n 1, 1) := by decide +kernel
theorem dX5_byteAt_13 : decode cX5_byteAt 13 = .ok (.iaload, 1) := by decide +kernel
theorem dX5_byteAt_14 : decode cX5_byteAt 14 = .ok (.goto 4, 3) := by decide +kernel
theorem dX5_byteAt_17 : decode cX5_byteAt 17 = .ok (.iconst (-1), 1) := by decide +kernel
theorem dX5_byteAt_18 : decode cX5_byteAt 18 = .ok (.ireturn, 1) := by decide +kernel
theorem dX5_nextToken_0 : decode cX5_nextToken 0 = .ok (.aload_n 0, 1) := by decide +kernel
theorem dX5_nextToken_1 : decode cX5_nextToken 1 = .ok (.aload_n 0, 1) := by decide +kernel
theorem dX5_nextToken_2 : decode cX5_nextToken 2 = .ok (.getfield 201, 3) := by decide +kernel
theorem dX5_nextToken_5 : decode cX5_nextToken 5 = .ok (.putfield 204, 3) := by decide +kernel
theorem dX5_nextToken_8 : decode cX5_nextToken 8 = .ok (.aload_n 0, 1) := by decide +kernel
theorem dX5_nextToken_9 : decode cX5_nextToken 9 = .ok (.aload_n 0, 1) := by decide +kernel
theorem dX5_nextToken_10 : decode cX5_nextToken 10 = .ok (.getfield 204, 3) := by decide +kernel
theorem dX5_nextToken_13 : decode cX5_nextToken 13 = .ok (.invokevirtual 207, 3) := by decide +kernel
theorem dX5_nextToken_16 : decode cX5_nextToken 16 = .ok (.bipush 32, 2) := by decide +kernel
theorem dX5_nextToken_18 : decode cX5_nextToken 18 = .ok (.if_icmp .ne 16, 3) := by decide +kernel
theorem dX5_nextToken_21 : decode cX5_nextToken 21 = .ok (.aload_n 0, 1) := by decide +kernel
theorem dX5_nextToken_22 : decode cX5_nextToken 22 = .ok (.dup, 1) := by decide +kernel
theorem dX5_nextToken_23 : decode cX5_nextToken 23 = .ok (.getfield 204, 3) := by decide +kernel
theorem dX5_nextToken_26 : decode cX5_nextToken 26 = .ok (.iconst 1, 1) := by decide +kernel
theorem dX5_nextToken_27 : decode cX5_nextToken 27 = .ok (.iadd, 1) := by decide +kernel
theorem dX5_nextToken_28 : decode cX5_nextToken 28 = .ok (.putfield 204, 3) := by decide +kernel
theorem dX5_nextToken_31 : decode cX5_nextToken 31 = .ok (.goto (-23), 3) := by decide +kernel
theorem dX5_nextToken_34 : decode cX5_nextToken 34 = .ok (.aload_n 0, 1) := by decide +kernel
theorem dX5_nextToken_35 : decode cX5_nextToken 35 = .ok (.aload_n 0, 1) := by decide +kernel
theorem dX5_nextToken_36 : decode cX5_nextToken 36 = .ok (.getfield 204, 3) := by decide +kernel
theorem dX5_nextToken_39 : decode cX5_nextToken 39 = .ok (.putfield 201, 3) := by decide +kernel
theorem dX5_nextToken_42 : decode cX5_nextToken 42 = .ok (.aload_n 0, 1) := by decide +kernel
theorem dX5_nextToken_43 : decode cX5_nextToken 43 = .ok (.aload_n 0, 1) := by decide +kernel
theorem dX5_nextToken_44 : decode cX5_nextToken 44 = .ok (.getfield 204, 3) := by decide +kernel
theorem dX5_nextToken_47 : decode cX5_nextToken 47 = .ok (.invokevirtual 207, 3) := by decide +kernel
theorem dX5_nextToken_50 : decode cX5_nextToken 50 = .ok (.istore_n 1, 1) := by decide +kernel
theorem dX5_nextToken_51 : decode cX5_nextToken 51 = .ok (.aload_n 0, 1) := by decide +kernel
theorem dX5_nextToken_52 : decode cX5_nextToken 52 = .ok (.iload_n 1, 1) := by decide +kernel
theorem dX5_nextToken_53 : decode cX5_nextToken 53 = .ok (.ifCond .ge 7, 3) := by decide +kernel
theorem dX5_nextToken_56 : decode cX5_nextToken 56 = .ok (.iconst 0, 1) := by decide +kernel
theorem dX5_nextToken_57 : decode cX5_nextToken 57 = .ok (.goto 36, 3) := by decide +kernel
theorem dX5_nextToken_60 : decode cX5_nextToken 60 = .ok (.iload_n 1, 1) := by decide +kernel
theorem dX5_nextToken_61 : decode cX5_nextToken 61 = .ok (.invokestatic 210, 3) := by decide +kernel
theorem dX5_nextToken_64 : decode cX5_nextToken 64 = .ok (.ifCond .eq 7, 3) := by decide +kernel
theorem dX5_nextToken_67 : decode cX5_nextToken 67 = .ok (.iconst 1, 1) := by decide +kernel
theorem dX5_nextToken_68 : decode cX5_nextToken 68 = .ok (.goto 25, 3) := by decide +kernel
theorem dX5_nextToken_71 : decode cX5_nextToken 71 = .ok (.iload_n 1, 1) := by decide +kernel
theorem dX5_nextToken_72 : decode cX5_nextToken 72 = .ok (.invokestatic 213, 3) := by decide +kernel
theorem dX5_nextToken_75 : decode cX5_nextToken 75 = .ok (.ifCond .eq 7, 3) := by decide +kernel
theorem dX5_nextToken_78 : decode cX5_nextToken 78 = .ok (.iconst 2, 1) := by decide +kernel
theorem dX5_nextToken_79 : decode cX5_nextToken 79 = .ok (.goto 14, 3) := by decide +kernel
theorem dX5_nextToken_82 : decode cX5_nextToken 82 = .ok (.iload_n 1, 1) := by decide +kernel
theorem dX5_nextToken_83 : decode cX5_nextToken 83 = .ok (.bipush 59, 2) := by decide +kernel
theorem dX5_nextToken_85 : decode cX5_nextToken 85 = .ok (.if_icmp .ne 7, 3) := by decide +kernel
theorem dX5_nextToken_88 : decode cX5_nextToken 88 = .ok (.iconst 3, 1) := by decide +kernel
theorem dX5_nextToken_89 : decode cX5_nextToken 89 = .ok (.goto 4, 3) := by decide +kernel
theorem dX5_nextToken_92 : decode cX5_nextToken 92 = .ok (.iconst 4, 1) := by decide +kernel
theorem dX5_nextToken_93 : decode cX5_nextToken 93 = .ok (.putfield 216, 3) := by decide +kernel
theorem dX5_nextToken_96 : decode cX5_nextToken 96 = .ok (.aload_n 0, 1) := by decide +kernel
theorem dX5_nextToken_97 : decode cX5_nextToken 97 = .ok (.iconst 0, 1) := by decide +kernel
theorem dX5_nextToken_98 : decode cX5_nextToken 98 = .ok (.putfield 219, 3) := by decide +kernel
theorem dX5_nextToken_101 : decode cX5_nextToken 101 = .ok (.aload_n 0, 1) := by decide +kernel
theorem dX5_nextToken_102 : decode cX5_nextToken 102 = .ok (.getfield 216, 3) := by decide +kernel
theorem dX5_nextToken_105 : decode cX5_nextToken 105 = .ok (.iconst 1, 1) := by decide +kernel
theorem dX5_nextToken_106 : decode cX5_nextToken 106 = .ok (.if_icmp .ne 30, 3) := by decide +kernel
theorem dX5_nextToken_109 : decode cX5_nextToken 109 = .ok (.aload_n 0, 1) := by decide +kernel
theorem dX5_nextToken_110 : decode cX5_nextToken 110 = .ok (.aload_n 0, 1) := by decide +kernel
theorem dX5_nextToken_111 : decode cX5_nextToken 111 = .ok (.getfield 201, 3) := by decide +kernel
theorem dX5_nextToken_114 : decode cX5_nextToken 114 = .ok (.invokevirtual 207, 3) := by decide +kernel
theorem dX5_nextToken_117 : decode cX5_nextToken 117 = .ok (.invokestatic 210, 3) := by decide +kernel
theorem dX5_nextToken_120 : decode cX5_nextToken 120 = .ok (.ifCond .eq 16, 3) := by decide +kernel
theorem dX5_nextToken_123 : decode cX5_nextToken 123 = .ok (.aload_n 0, 1) := by decide +kernel
theorem dX5_nextToken_124 : decode cX5_nextToken 124 = .ok (.dup, 1) := by decide +kernel
theorem dX5_nextToken_125 : decode cX5_nextToken 125 = .ok (.getfield 201, 3) := by decide +kernel
theorem dX5_nextToken_128 : decode cX5_nextToken 128 = .ok (.iconst 1, 1) := by decide +kernel
theorem dX5_nextToken_129 : decode cX5_nextToken 129 = .ok (.iadd, 1) := by decide +kernel
theorem dX5_nextToken_130 : decode cX5_nextToken 130 = .ok (.putfield 201, 3) := by decide +kernel
theorem dX5_nextToken_133 : decode cX5_nextToken 133 = .ok (.goto (-32), 3) := by decide +kernel
theorem dX5_nextToken_136 : decode cX5_nextToken 136 = .ok (.aload_n 0, 1) := by decide +kernel
theorem dX5_nextToken_137 : decode cX5_nextToken 137 = .ok (.getfield 216, 3) := by decide +kernel
theorem dX5_nextToken_140 : decode cX5_nextToken 140 = .ok (.iconst 2, 1) := by decide +kernel
theorem dX5_nextToken_141 : decode cX5_nextToken 141 = .ok (.if_icmp .ne 67, 3) := by decide +kernel
theorem dX5_nextToken_144 : decode cX5_nextToken 144 = .ok (.aload_n 0, 1) := by decide +kernel
theorem dX5_nextToken_145 : decode cX5_nextToken 145 = .ok (.aload_n 0, 1) := by decide +kernel
theorem dX5_nextToken_146 : decode cX5_nextToken 146 = .ok (.getfield 201, 3) := by decide +kernel
theorem dX5_nextToken_149 : decode cX5_nextToken 149 = .ok (.invokevirtual 207, 3) := by decide +kernel
theorem dX5_nextToken_152 : decode cX5_nextToken 152 = .ok (.invokestatic 213, 3) := by decide +kernel
theorem dX5_nextToken_155 : decode cX5_nextToken 155 = .ok (.ifCond .eq 53, 3) := by decide +kernel
theorem dX5_nextToken_158 : decode cX5_nextToken 158 = .ok (.aload_n 0, 1) := by decide +kernel
theorem dX5_nextToken_159 : decode cX5_nextToken 159 = .ok (.aload_n 0, 1) := by decide +kernel
theorem dX5_nextToken_160 : decode cX5_nextToken 160 = .ok (.getfield 219, 3) := by decide +kernel
theorem dX5_nextToken_163 : decode cX5_nextToken 163 = .ok (.ldc 222, 2) := by decide +kernel
theorem dX5_nextToken_165 : decode cX5_nextToken 165 = .ok (.if_icmp .le 8, 3) := by decide +kernel
theorem dX5_nextToken_168 : decode cX5_nextToken 168 = .ok (.ldc 223, 2) := by decide +kernel
theorem dX5_nextToken_170 : decode cX5_nextToken 170 = .ok (.goto 22, 3) := by decide +kernel
theorem dX5_nextToken_173 : decode cX5_nextToken 173 = .ok (.bipush 10, 2) := by decide +kernel
theorem dX5_nextToken_175 : decode cX5_nextToken 175 = .ok (.aload_n 0, 1) := by decide +kernel
theorem dX5_nextToken_176 : decode cX5_nextToken 176 = .ok (.getfield 219, 3) := by decide +kernel
theorem dX5_nextToken_179 : decode cX5_nextToken 179 = .ok (.imul, 1) := by decide +kernel
theorem dX5_nextToken_180 : decode cX5_nextToken 180 = .ok (.aload_n 0, 1) := by decide +kernel
theorem dX5_nextToken_181 : decode cX5_nextToken 181 = .ok (.aload_n 0, 1) := by decide +kernel
theorem dX5_nextToken_182 : decode cX5_nextToken 182 = .ok (.getfield 201, 3) := by decide +kernel
theorem dX5_nextToken_185 : decode cX5_nextToken 185 = .ok (.invokevirtual 207, 3) := by decide +kernel
theorem dX5_nextToken_188 : decode cX5_nextToken 188 = .ok (.iadd, 1) := by decide +kernel
theorem dX5_nextToken_189 : decode cX5_nextToken 189 = .ok (.bipush 48, 2) := by decide +kernel
theorem dX5_nextToken_191 : decode cX5_nextToken 191 = .ok (.isub, 1) := by decide +kernel
theorem dX5_nextToken_192 : decode cX5_nextToken 192 = .ok (.putfield 219, 3) := by decide +kernel
theorem dX5_nextToken_195 : decode cX5_nextToken 195 = .ok (.aload_n 0, 1) := by decide +kernel
theorem dX5_nextToken_196 : decode cX5_nextToken 196 = .ok (.dup, 1) := by decide +kernel
theorem dX5_nextToken_197 : decode cX5_nextToken 197 = .ok (.getfield 201, 3) := by decide +kernel
theorem dX5_nextToken_200 : decode cX5_nextToken 200 = .ok (.iconst 1, 1) := by decide +kernel
theorem dX5_nextToken_201 : decode cX5_nextToken 201 = .ok (.iadd, 1) := by decide +kernel
theorem dX5_nextToken_202 : decode cX5_nextToken 202 = .ok (.putfield 201, 3) := by decide +kernel
theorem dX5_nextToken_205 : decode cX5_nextToken 205 = .ok (.goto (-69), 3) := by decide +kernel
theorem dX5_nextToken_208 : decode cX5_nextToken 208 = .ok (.aload_n 0, 1) := by decide +kernel
theorem dX5_nextToken_209 : decode cX5_nextToken 209 = .ok (.dup, 1) := by decide +kernel
theorem dX5_nextToken_210 : decode cX5_nextToken 210 = .ok (.getfield 201, 3) := by decide +kernel
theorem dX5_nextToken_213 : decode cX5_nextToken 213 = .ok (.aload_n 0, 1) := by decide +kernel
theorem dX5_nextToken_214 : decode cX5_nextToken 214 = .ok (.getfield 216, 3) := by decide +kernel
theorem dX5_nextToken_217 : decode cX5_nextToken 217 = .ok (.iconst 2, 1) := by decide +kernel
theorem dX5_nextToken_218 : decode cX5_nextToken 218 = .ok (.if_icmp .le 7, 3) := by decide +kernel
theorem dX5_nextToken_221 : decode cX5_nextToken 221 = .ok (.iconst 1, 1) := by decide +kernel
theorem dX5_nextToken_222 : decode cX5_nextToken 222 = .ok (.goto 4, 3) := by decide +kernel
theorem dX5_nextToken_225 : decode cX5_nextToken 225 = .ok (.iconst 0, 1) := by decide +kernel
theorem dX5_nextToken_226 : decode cX5_nextToken 226 = .ok (.iadd, 1) := by decide +kernel
theorem dX5_nextToken_227 : decode cX5_nextToken 227 = .ok (.putfield 201, 3) := by decide +kernel
theorem dX5_nextToken_230 : decode cX5_nextToken 230 = .ok (.return_, 1) := by decide +kernel
theorem dX5_has3_0 : decode cX5_has3 0 = .ok (.aload_n 0, 1) := by decide +kernel
theorem dX5_has3_1 : decode cX5_has3 1 = .ok (.aload_n 0, 1) := by decide +kernel
theorem dX5_has3_2 : decode cX5_has3 2 = .ok (.getfield 204, 3) := by decide +kernel
theorem dX5_has3_5 : decode cX5_has3 5 = .ok (.iload_n 1, 1) := by decide +kernel
theorem dX5_has3_6 : decode cX5_has3 6 = .ok (.iadd, 1) := by decide +kernel
theorem dX5_has3_7 : decode cX5_has3 7 = .ok (.invokevirtual 207, 3) := by decide +kernel
theorem dX5_has3_10 : decode cX5_has3 10 = .ok (.iload_n 2, 1) := by decide +kernel
theorem dX5_has3_11 : decode cX5_has3 11 = .ok (.if_icmp .ne 40, 3) := by decide +kernel
theorem dX5_has3_14 : decode cX5_has3 14 = .ok (.aload_n 0, 1) := by decide +kernel
theorem dX5_has3_15 : decode cX5_has3 15 = .ok (.aload_n 0, 1) := by decide +kernel
theorem dX5_has3_16 : decode cX5_has3 16 = .ok (.getfield 204, 3) := by decide +kernel
theorem dX5_has3_19 : decode cX5_has3 19 = .ok (.iload_n 1, 1) := by decide +kernel
theorem dX5_has3_20 : decode cX5_has3 20 = .ok (.iadd, 1) := by decide +kernel
theorem dX5_has3_21 : decode cX5_has3 21 = .ok (.iconst 1, 1) := by decide +kernel
theorem dX5_has3_22 : decode cX5_has3 22 = .ok (.iadd, 1) := by decide +kernel
theorem dX5_has3_23 : decode cX5_has3 23 = .ok (.invokevirtual 207, 3) := by decide +kernel
theorem dX5_has3_26 : decode cX5_has3 26 = .ok (.iload_n 3, 1) := by decide +kernel
theorem dX5_has3_27 : decode cX5_has3 27 = .ok (.if_icmp .ne 24, 3) := by decide +kernel
theorem dX5_has3_30 : decode cX5_has3 30 = .ok (.aload_n 0, 1) := by decide +kernel
theorem dX5_has3_31 : decode cX5_has3 31 = .ok (.aload_n 0, 1) := by decide +kernel
theorem dX5_has3_32 : decode cX5_has3 32 = .ok (.getfield 204, 3) := by decide +kernel
theorem dX5_has3_35 : decode cX5_has3 35 = .ok (.iload_n 1, 1) := by decide +kernel
theorem dX5_has3_36 : decode cX5_has3 36 = .ok (.iadd, 1) := by decide +kernel
theorem dX5_has3_37 : decode cX5_has3 37 = .ok (.iconst 2, 1) := by decide +kernel
theorem dX5_has3_38 : decode cX5_has3 38 = .ok (.iadd, 1) := by decide +kernel
theorem dX5_has3_39 : decode cX5_has3 39 = .ok (.invokevirtual 207, 3) := by decide +kernel
theorem dX5_has3_42 : decode cX5_has3 42 = .ok (.iload 4, 2) := by decide +kernel
theorem dX5_has3_44 : decode cX5_has3 44 = .ok (.if_icmp .ne 7, 3) := by decide +kernel
theorem dX5_has3_47 : decode cX5_has3 47 = .ok (.iconst 1, 1) := by decide +kernel
theorem dX5_has3_48 : decode cX5_has3 48 = .ok (.goto 4, 3) := by decide +kernel
theorem dX5_has3_51 : decode cX5_has3 51 = .ok (.iconst 0, 1) := by decide +kernel
theorem dX5_has3_52 : decode cX5_has3 52 = .ok (.ireturn, 1) := by decide +kernel
theorem dX5_isWord_0 : decode cX5_isWord 0 = .ok (.aload_n 0, 1) := by decide +kernel
theorem dX5_isWord_1 : decode cX5_isWord 1 = .ok (.getfield 216, 3) := by decide +kernel
theorem dX5_isWord_4 : decode cX5_isWord 4 = .ok (.iconst 1, 1) := by decide +kernel
theorem dX5_isWord_5 : decode cX5_isWord 5 = .ok (.if_icmp .ne 20, 3) := by decide +kernel
theorem dX5_isWord_8 : decode cX5_isWord 8 = .ok (.aload_n 0, 1) := by decide +kernel
theorem dX5_isWord_9 : decode cX5_isWord 9 = .ok (.getfield 201, 3) := by decide +kernel
theorem dX5_isWord_12 : decode cX5_isWord 12 = .ok (.aload_n 0, 1) := by decide +kernel
theorem dX5_isWord_13 : decode cX5_isWord 13 = .ok (.getfield 204, 3) := by decide +kernel
theorem dX5_isWord_16 : decode cX5_isWord 16 = .ok (.isub, 1) := by decide +kernel
theorem dX5_isWord_17 : decode cX5_isWord 17 = .ok (.iload_n 1, 1) := by decide +kernel
theorem dX5_isWord_18 : decode cX5_isWord 18 = .ok (.if_icmp .ne 7, 3) := by decide +kernel
theorem dX5_isWord_21 : decode cX5_isWord 21 = .ok (.iconst 1, 1) := by decide +kernel
theorem dX5_isWord_22 : decode cX5_isWord 22 = .ok (.goto 4, 3) := by decide +kernel
theorem dX5_isWord_25 : decode cX5_isWord 25 = .ok (.iconst 0, 1) := by decide +kernel
theorem dX5_isWord_26 : decode cX5_isWord 26 = .ok (.ireturn, 1) := by decide +kernel
theorem dX5_fails_0 : decode cX5_fails 0 = .ok (.aload_n 0, 1) := by decide +kernel
theorem dX5_fails_1 : decode cX5_fails 1 = .ok (.aload_n 0, 1) := by decide +kernel
theorem dX5_fails_2 : decode cX5_fails 2 = .ok (.getfield 204, 3) := by decide +kernel
theorem dX5_fails_5 : decode cX5_fails 5 = .ok (.putfield 224, 3) := by decide +kernel
theorem dX5_fails_8 : decode cX5_fails 8 = .ok (.iconst 0, 1) := by decide +kernel
theorem dX5_fails_9 : decode cX5_fails 9 = .ok (.ireturn, 1) := by decide +kernel
theorem dX5_kindHere_0 : decode cX5_kindHere 0 = .ok (.aload_n 0, 1) := by decide +kernel
theorem dX5_kindHere_1 : decode cX5_kindHere 1 = .ok (.bipush 6, 2) := by decide +kernel
theorem dX5_kindHere_3 : decode cX5_kindHere 3 = .ok (.invokevirtual 227, 3) := by decide +kernel
theorem dX5_kindHere_6 : decode cX5_kindHere 6 = .ok (.ifCond .eq 33, 3) := by decide +kernel
theorem dX5_kindHere_9 : decode cX5_kindHere 9 = .ok (.aload_n 0, 1) := by decide +kernel
theorem dX5_kindHere_10 : decode cX5_kindHere 10 = .ok (.iconst 0, 1) := by decide +kernel
theorem dX5_kindHere_11 : decode cX5_kindHere 11 = .ok (.bipush 112, 2) := by decide +kernel
theorem dX5_kindHere_13 : decode cX5_kindHere 13 = .ok (.bipush 101, 2) := by decide +kernel
theorem dX5_kindHere_15 : decode cX5_kindHere 15 = .ok (.bipush 114, 2) := by decide +kernel
theorem dX5_kindHere_17 : decode cX5_kindHere 17 = .ok (.invokevirtual 230, 3) := by decide +kernel
theorem dX5_kindHere_20 : decode cX5_kindHere 20 = .ok (.ifCond .eq 19, 3) := by decide +kernel
theorem dX5_kindHere_23 : decode cX5_kindHere 23 = .ok (.aload_n 0, 1) := by decide +kernel
theorem dX5_kindHere_24 : decode cX5_kindHere 24 = .ok (.iconst 3, 1) := by decide +kernel
theorem dX5_kindHere_25 : decode cX5_kindHere 25 = .ok (.bipush 115, 2) := by decide +kernel
theorem dX5_kindHere_27 : decode cX5_kindHere 27 = .ok (.bipush 111, 2) := by decide +kernel
theorem dX5_kindHere_29 : decode cX5_kindHere 29 = .ok (.bipush 110, 2) := by decide +kernel
theorem dX5_kindHere_31 : decode cX5_kindHere 31 = .ok (.invokevirtual 230, 3) := by decide +kernel
theorem dX5_kindHere_34 : decode cX5_kindHere 34 = .ok (.ifCond .eq 5, 3) := by decide +kernel
theorem dX5_kindHere_37 : decode cX5_kindHere 37 = .ok (.iconst 0, 1) := by decide +kernel
theorem dX5_kindHere_38 : decode cX5_kindHere 38 = .ok (.ireturn, 1) := by decide +kernel
theorem dX5_kindHere_39 : decode cX5_kindHere 39 = .ok (.aload_n 0, 1) := by decide +kernel
theorem dX5_kindHere_40 : decode cX5_kindHere 40 = .ok (.bipush 6, 2) := by decide +kernel
theorem dX5_kindHere_42 : decode cX5_kindHere 42 = .ok (.invokevirtual 227, 3) := by decide +kernel
theorem dX5_kindHere_45 : decode cX5_kindHere 45 = .ok (.ifCond .eq 33, 3) := by decide +kernel
theorem dX5_kindHere_48 : decode cX5_kindHere 48 = .ok (.aload_n 0, 1) := by decide +kernel
theorem dX5_kindHere_49 : decode cX5_kindHere 49 = .ok (.iconst 0, 1) := by decide +kernel
theorem dX5_kindHere_50 : decode cX5_kindHere 50 = .ok (.bipush 99, 2) := by decide +kernel
theorem dX5_kindHere_52 : decode cX5_kindHere 52 = .ok (.bipush 111, 2) := by decide +kernel
theorem dX5_kindHere_54 : decode cX5_kindHere 54 = .ok (.bipush 112, 2) := by decide +kernel
theorem dX5_kindHere_56 : decode cX5_kindHere 56 = .ok (.invokevirtual 230, 3) := by decide +kernel
theorem dX5_kindHere_59 : decode cX5_kindHere 59 = .ok (.ifCond .eq 19, 3) := by decide +kernel
theorem dX5_kindHere_62 : decode cX5_kindHere 62 = .ok (.aload_n 0, 1) := by decide +kernel
theorem dX5_kindHere_63 : decode cX5_kindHere 63 = .ok (.iconst 3, 1) := by decide +kernel
theorem dX5_kindHere_64 : decode cX5_kindHere 64 = .ok (.bipush 105, 2) := by decide +kernel
theorem dX5_kindHere_66 : decode cX5_kindHere 66 = .ok (.bipush 101, 2) := by decide +kernel
theorem dX5_kindHere_68 : decode cX5_kindHere 68 = .ok (.bipush 114, 2) := by decide +kernel
theorem dX5_kindHere_70 : decode cX5_kindHere 70 = .ok (.invokevirtual 230, 3) := by decide +kernel
theorem dX5_kindHere_73 : decode cX5_kindHere 73 = .ok (.ifCond .eq 5, 3) := by decide +kernel
theorem dX5_kindHere_76 : decode cX5_kindHere 76 = .ok (.iconst 1, 1) := by decide +kernel
theorem dX5_kindHere_77 : decode cX5_kindHere 77 = .ok (.ireturn, 1) := by decide +kernel
theorem dX5_kindHere_78 : decode cX5_kindHere 78 = .ok (.aload_n 0, 1) := by decide +kernel
theorem dX5_kindHere_79 : decode cX5_kindHere 79 = .ok (.bipush 7, 2) := by decide +kernel
theorem dX5_kindHere_81 : decode cX5_kindHere 81 = .ok (.invokevirtual 227, 3) := by decide +kernel
theorem dX5_kindHere_84 : decode cX5_kindHere 84 = .ok (.ifCond .eq 47, 3) := by decide +kernel
theorem dX5_kindHere_87 : decode cX5_kindHere 87 = .ok (.aload_n 0, 1) := by decide +kernel
theorem dX5_kindHere_88 : decode cX5_kindHere 88 = .ok (.iconst 0, 1) := by decide +kernel
theorem dX5_kindHere_89 : decode cX5_kindHere 89 = .ok (.bipush 115, 2) := by decide +kernel
theorem dX5_kindHere_91 : decode cX5_kindHere 91 = .ok (.bipush 104, 2) := by decide +kernel
theorem dX5_kindHere_93 : decode cX5_kindHere 93 = .ok (.bipush 117, 2) := by decide +kernel
theorem dX5_kindHere_95 : decode cX5_kindHere 95 = .ok (.invokevirtual 230, 3) := by decide +kernel
theorem dX5_kindHere_98 : decode cX5_kindHere 98 = .ok (.ifCond .eq 33, 3) := by decide +kernel
theorem dX5_kindHere_101 : decode cX5_kindHere 101 = .ok (.aload_n 0, 1) := by decide +kernel
theorem dX5_kindHere_102 : decode cX5_kindHere 102 = .ok (.iconst 3, 1) := by decide +kernel
theorem dX5_kindHere_103 : decode cX5_kindHere 103 = .ok (.bipush 110, 2) := by decide +kernel
theorem dX5_kindHere_105 : decode cX5_kindHere 105 = .ok (.bipush 110, 2) := by decide +kernel
theorem dX5_kindHere_107 : decode cX5_kindHere 107 = .ok (.bipush 101, 2) := by decide +kernel
theorem dX5_kindHere_109 : decode cX5_kindHere 109 = .ok (.invokevirtual 230, 3) := by decide +kernel
theorem dX5_kindHere_112 : decode cX5_kindHere 112 = .ok (.ifCond .eq 19, 3) := by decide +kernel
theorem dX5_kindHere_115 : decode cX5_kindHere 115 = .ok (.aload_n 0, 1) := by decide +kernel
theorem dX5_kindHere_116 : decode cX5_kindHere 116 = .ok (.iconst 4, 1) := by decide +kernel
theorem dX5_kindHere_117 : decode cX5_kindHere 117 = .ok (.bipush 110, 2) := by decide +kernel
theorem dX5_kindHere_119 : decode cX5_kindHere 119 = .ok (.bipush 101, 2) := by decide +kernel
theorem dX5_kindHere_121 : decode cX5_kindHere 121 = .ok (.bipush 114, 2) := by decide +kernel
theorem dX5_kindHere_123 : decode cX5_kindHere 123 = .ok (.invokevirtual 230, 3) := by decide +kernel
theorem dX5_kindHere_126 : decode cX5_kindHere 126 = .ok (.ifCond .eq 5, 3) := by decide +kernel
theorem dX5_kindHere_129 : decode cX5_kindHere 129 = .ok (.iconst 2, 1) := by decide +kernel
theorem dX5_kindHere_130 : decode cX5_kindHere 130 = .ok (.ireturn, 1) := by decide +kernel
theorem dX5_kindHere_131 : decode cX5_kindHere 131 = .ok (.aload_n 0, 1) := by decide +kernel
theorem dX5_kindHere_132 : decode cX5_kindHere 132 = .ok (.iconst 3, 1) := by decide +kernel
theorem dX5_kindHere_133 : decode cX5_kindHere 133 = .ok (.invokevirtual 227, 3) := by decide +kernel
theorem dX5_kindHere_136 : decode cX5_kindHere 136 = .ok (.ifCond .eq 19, 3) := by decide +kernel
theorem dX5_kindHere_139 : decode cX5_kindHere 139 = .ok (.aload_n 0, 1) := by decide +kernel
theorem dX5_kindHere_140 : decode cX5_kindHere 140 = .ok (.iconst 0, 1) := by decide +kernel
theorem dX5_kindHere_141 : decode cX5_kindHere 141 = .ok (.bipush 107, 2) := by decide +kernel
theorem dX5_kindHere_143 : decode cX5_kindHere 143 = .ok (.bipush 105, 2) := by decide +kernel
theorem dX5_kindHere_145 : decode cX5_kindHere 145 = .ok (.bipush 110, 2) := by decide +kernel
theorem dX5_kindHere_147 : decode cX5_kindHere 147 = .ok (.invokevirtual 230, 3) := by decide +kernel
theorem dX5_kindHere_150 : decode cX5_kindHere 150 = .ok (.ifCond .eq 5, 3) := by decide +kernel
theorem dX5_kindHere_153 : decode cX5_kindHere 153 = .ok (.iconst 3, 1) := by decide +kernel
theorem dX5_kindHere_154 : decode cX5_kindHere 154 = .ok (.ireturn, 1) := by decide +kernel
theorem dX5_kindHere_155 : decode cX5_kindHere 155 = .ok (.aload_n 0, 1) := by decide +kernel
theorem dX5_kindHere_156 : decode cX5_kindHere 156 = .ok (.iconst 5, 1) := by decide +kernel
theorem dX5_kindHere_157 : decode cX5_kindHere 157 = .ok (.invokevirtual 227, 3) := by decide +kernel
theorem dX5_kindHere_160 : decode cX5_kindHere 160 = .ok (.ifCond .eq 33, 3) := by decide +kernel
theorem dX5_kindHere_163 : decode cX5_kindHere 163 = .ok (.aload_n 0, 1) := by decide +kernel
theorem dX5_kindHere_164 : decode cX5_kindHere 164 = .ok (.iconst 0, 1) := by decide +kernel
theorem dX5_kindHere_165 : decode cX5_kindHere 165 = .ok (.bipush 115, 2) := by decide +kernel
theorem dX5_kindHere_167 : decode cX5_kindHere 167 = .ok (.bipush 119, 2) := by decide +kernel
theorem dX5_kindHere_169 : decode cX5_kindHere 169 = .ok (.bipush 111, 2) := by decide +kernel
theorem dX5_kindHere_171 : decode cX5_kindHere 171 = .ok (.invokevirtual 230, 3) := by decide +kernel
theorem dX5_kindHere_174 : decode cX5_kindHere 174 = .ok (.ifCond .eq 19, 3) := by decide +kernel
theorem dX5_kindHere_177 : decode cX5_kindHere 177 = .ok (.aload_n 0, 1) := by decide +kernel
theorem dX5_kindHere_178 : decode cX5_kindHere 178 = .ok (.iconst 2, 1) := by decide +kernel
theorem dX5_kindHere_179 : decode cX5_kindHere 179 = .ok (.bipush 111, 2) := by decide +kernel
theorem dX5_kindHere_181 : decode cX5_kindHere 181 = .ok (.bipush 114, 2) := by decide +kernel
theorem dX5_kindHere_183 : decode cX5_kindHere 183 = .ok (.bipush 110, 2) := by decide +kernel
theorem dX5_kindHere_185 : decode cX5_kindHere 185 = .ok (.invokevirtual 230, 3) := by decide +kernel
theorem dX5_kindHere_188 : decode cX5_kindHere 188 = .ok (.ifCond .eq 5, 3) := by decide +kernel
theorem dX5_kindHere_191 : decode cX5_kindHere 191 = .ok (.iconst 4, 1) := by decide +kernel
theorem dX5_kindHere_192 : decode cX5_kindHere 192 = .ok (.ireturn, 1) := by decide +kernel
theorem dX5_kindHere_193 : decode cX5_kindHere 193 = .ok (.aload_n 0, 1) := by decide +kernel
theorem dX5_kindHere_194 : decode cX5_kindHere 194 = .ok (.iconst 4, 1) := by decide +kernel
theorem dX5_kindHere_195 : decode cX5_kindHere 195 = .ok (.invokevirtual 227, 3) := by decide +kernel
theorem dX5_kindHere_198 : decode cX5_kindHere 198 = .ok (.ifCond .eq 35, 3) := by decide +kernel
theorem dX5_kindHere_201 : decode cX5_kindHere 201 = .ok (.aload_n 0, 1) := by decide +kernel
theorem dX5_kindHere_202 : decode cX5_kindHere 202 = .ok (.iconst 0, 1) := by decide +kernel
theorem dX5_kindHere_203 : decode cX5_kindHere 203 = .ok (.bipush 116, 2) := by decide +kernel
theorem dX5_kindHere_205 : decode cX5_kindHere 205 = .ok (.bipush 119, 2) := by decide +kernel
theorem dX5_kindHere_207 : decode cX5_kindHere 207 = .ok (.bipush 105, 2) := by decide +kernel
theorem dX5_kindHere_209 : decode cX5_kindHere 209 = .ok (.invokevirtual 230, 3) := by decide +kernel
theorem dX5_kindHere_212 : decode cX5_kindHere 212 = .ok (.ifCond .eq 21, 3) := by decide +kernel
theorem dX5_kindHere_215 : decode cX5_kindHere 215 = .ok (.aload_n 0, 1) := by decide +kernel
theorem dX5_kindHere_216 : decode cX5_kindHere 216 = .ok (.iconst 1, 1) := by decide +kernel
theorem dX5_kindHere_217 : decode cX5_kindHere 217 = .ok (.bipush 119, 2) := by decide +kernel
theorem dX5_kindHere_219 : decode cX5_kindHere 219 = .ok (.bipush 105, 2) := by decide +kernel
theorem dX5_kindHere_221 : decode cX5_kindHere 221 = .ok (.bipush 110, 2) := by decide +kernel
theorem dX5_kindHere_223 : decode cX5_kindHere 223 = .ok (.invokevirtual 230, 3) := by decide +kernel
theorem dX5_kindHere_226 : decode cX5_kindHere 226 = .ok (.ifCond .eq 7, 3) := by decide +kernel
theorem dX5_kindHere_229 : decode cX5_kindHere 229 = .ok (.iconst 5, 1) := by decide +kernel
theorem dX5_kindHere_230 : decode cX5_kindHere 230 = .ok (.goto 4, 3) := by decide +kernel
theorem dX5_kindHere_233 : decode cX5_kindHere 233 = .ok (.iconst (-1), 1) := by decide +kernel
theorem dX5_kindHere_234 : decode cX5_kindHere 234 = .ok (.ireturn, 1) := by decide +kernel
theorem dX5_comesTo_0 : decode cX5_comesTo 0 = .ok (.aload_n 0, 1) := by decide +kernel
theorem dX5_comesTo_1 : decode cX5_comesTo 1 = .ok (.getfield 216, 3) := by decide +kernel
theorem dX5_comesTo_4 : decode cX5_comesTo 4 = .ok (.iconst 2, 1) := by decide +kernel
theorem dX5_comesTo_5 : decode cX5_comesTo 5 = .ok (.if_icmp .ne 18, 3) := by decide +kernel
theorem dX5_comesTo_8 : decode cX5_comesTo 8 = .ok (.aload_n 0, 1) := by decide +kernel
theorem dX5_comesTo_9 : decode cX5_comesTo 9 = .ok (.getfield 219, 3) := by decide +kernel
theorem dX5_comesTo_12 : decode cX5_comesTo 12 = .ok (.i2l, 1) := by decide +kernel
theorem dX5_comesTo_13 : decode cX5_comesTo 13 = .ok (.iload_n 2, 1) := by decide +kernel
theorem dX5_comesTo_14 : decode cX5_comesTo 14 = .ok (.i2l, 1) := by decide +kernel
theorem dX5_comesTo_15 : decode cX5_comesTo 15 = .ok (.iload_n 3, 1) := by decide +kernel
theorem dX5_comesTo_16 : decode cX5_comesTo 16 = .ok (.i2l, 1) := by decide +kernel
theorem dX5_comesTo_17 : decode cX5_comesTo 17 = .ok (.invokestatic 54, 3) := by decide +kernel
theorem dX5_comesTo_20 : decode cX5_comesTo 20 = .ok (.ifCond .ne 8, 3) := by decide +kernel
theorem dX5_comesTo_23 : decode cX5_comesTo 23 = .ok (.aload_n 0, 1) := by decide +kernel
theorem dX5_comesTo_24 : decode cX5_comesTo 24 = .ok (.invokevirtual 234, 3) := by decide +kernel
theorem dX5_comesTo_27 : decode cX5_comesTo 27 = .ok (.ireturn, 1) := by decide +kernel
theorem dX5_comesTo_28 : decode cX5_comesTo 28 = .ok (.aload_n 0, 1) := by decide +kernel
theorem dX5_comesTo_29 : decode cX5_comesTo 29 = .ok (.getfield 7, 3) := by decide +kernel
theorem dX5_comesTo_32 : decode cX5_comesTo 32 = .ok (.iload_n 1, 1) := by decide +kernel
theorem dX5_comesTo_33 : decode cX5_comesTo 33 = .ok (.aload_n 0, 1) := by decide +kernel
theorem dX5_comesTo_34 : decode cX5_comesTo 34 = .ok (.getfield 219, 3) := by decide +kernel
theorem dX5_comesTo_37 : decode cX5_comesTo 37 = .ok (.iastore, 1) := by decide +kernel
theorem dX5_comesTo_38 : decode cX5_comesTo 38 = .ok (.aload_n 0, 1) := by decide +kernel
theorem dX5_comesTo_39 : decode cX5_comesTo 39 = .ok (.invokevirtual 238, 3) := by decide +kernel
theorem dX5_comesTo_42 : decode cX5_comesTo 42 = .ok (.iconst 1, 1) := by decide +kernel
theorem dX5_comesTo_43 : decode cX5_comesTo 43 = .ok (.ireturn, 1) := by decide +kernel
theorem dX5_waysCome_0 : decode cX5_waysCome 0 = .ok (.aload_n 0, 1) := by decide +kernel
theorem dX5_waysCome_1 : decode cX5_waysCome 1 = .ok (.getfield 216, 3) := by decide +kernel
theorem dX5_waysCome_4 : decode cX5_waysCome 4 = .ok (.iconst 2, 1) := by decide +kernel
theorem dX5_waysCome_5 : decode cX5_waysCome 5 = .ok (.if_icmp .ne 12, 3) := by decide +kernel
theorem dX5_waysCome_8 : decode cX5_waysCome 8 = .ok (.aload_n 0, 1) := by decide +kernel
theorem dX5_waysCome_9 : decode cX5_waysCome 9 = .ok (.getfield 219, 3) := by decide +kernel
theorem dX5_waysCome_12 : decode cX5_waysCome 12 = .ok (.ldc 241, 2) := by decide +kernel
theorem dX5_waysCome_14 : decode cX5_waysCome 14 = .ok (.if_icmp .le 8, 3) := by decide +kernel
theorem dX5_waysCome_17 : decode cX5_waysCome 17 = .ok (.aload_n 0, 1) := by decide +kernel
theorem dX5_waysCome_18 : decode cX5_waysCome 18 = .ok (.invokevirtual 234, 3) := by decide +kernel
theorem dX5_waysCome_21 : decode cX5_waysCome 21 = .ok (.ireturn, 1) := by decide +kernel
theorem dX5_waysCome_22 : decode cX5_waysCome 22 = .ok (.aload_n 0, 1) := by decide +kernel
theorem dX5_waysCome_23 : decode cX5_waysCome 23 = .ok (.getfield 201, 3) := by decide +kernel
theorem dX5_waysCome_26 : decode cX5_waysCome 26 = .ok (.iconst 1, 1) := by decide +kernel
theorem dX5_waysCome_27 : decode cX5_waysCome 27 = .ok (.isub, 1) := by decide +kernel
theorem dX5_waysCome_28 : decode cX5_waysCome 28 = .ok (.istore_n 2, 1) := by decide +kernel
theorem dX5_waysCome_29 : decode cX5_waysCome 29 = .ok (.iload_n 2, 1) := by decide +kernel
theorem dX5_waysCome_30 : decode cX5_waysCome 30 = .ok (.aload_n 0, 1) := by decide +kernel
theorem dX5_waysCome_31 : decode cX5_waysCome 31 = .ok (.getfield 204, 3) := by decide +kernel
theorem dX5_waysCome_34 : decode cX5_waysCome 34 = .ok (.if_icmp .lt 58, 3) := by decide +kernel
theorem dX5_waysCome_37 : decode cX5_waysCome 37 = .ok (.aload_n 0, 1) := by decide +kernel
theorem dX5_waysCome_38 : decode cX5_waysCome 38 = .ok (.iload_n 2, 1) := by decide +kernel
theorem dX5_waysCome_39 : decode cX5_waysCome 39 = .ok (.invokevirtual 207, 3) := by decide +kernel
theorem dX5_waysCome_42 : decode cX5_waysCome 42 = .ok (.bipush 48, 2) := by decide +kernel
theorem dX5_waysCome_44 : decode cX5_waysCome 44 = .ok (.isub, 1) := by decide +kernel
theorem dX5_waysCome_45 : decode cX5_waysCome 45 = .ok (.istore_n 3, 1) := by decide +kernel
theorem dX5_waysCome_46 : decode cX5_waysCome 46 = .ok (.iload_n 3, 1) := by decide +kernel
theorem dX5_waysCome_47 : decode cX5_waysCome 47 = .ok (.iconst 3, 1) := by decide +kernel
theorem dX5_waysCome_48 : decode cX5_waysCome 48 = .ok (.if_icmp .le 8, 3) := by decide +kernel
theorem dX5_waysCome_51 : decode cX5_waysCome 51 = .ok (.aload_n 0, 1) := by decide +kernel
theorem dX5_waysCome_52 : decode cX5_waysCome 52 = .ok (.invokevirtual 234, 3) := by decide +kernel
theorem dX5_waysCome_55 : decode cX5_waysCome 55 = .ok (.ireturn, 1) := by decide +kernel
theorem dX5_waysCome_56 : decode cX5_waysCome 56 = .ok (.aload_n 0, 1) := by decide +kernel
theorem dX5_waysCome_57 : decode cX5_waysCome 57 = .ok (.getfield 201, 3) := by decide +kernel
theorem dX5_waysCome_60 : decode cX5_waysCome 60 = .ok (.iconst 1, 1) := by decide +kernel
theorem dX5_waysCome_61 : decode cX5_waysCome 61 = .ok (.isub, 1) := by decide +kernel
theorem dX5_waysCome_62 : decode cX5_waysCome 62 = .ok (.iload_n 2, 1) := by decide +kernel
theorem dX5_waysCome_63 : decode cX5_waysCome 63 = .ok (.isub, 1) := by decide +kernel
theorem dX5_waysCome_64 : decode cX5_waysCome 64 = .ok (.bipush 9, 2) := by decide +kernel
theorem dX5_waysCome_66 : decode cX5_waysCome 66 = .ok (.if_icmp .ge 20, 3) := by decide +kernel
theorem dX5_waysCome_69 : decode cX5_waysCome 69 = .ok (.aload_n 0, 1) := by decide +kernel
theorem dX5_waysCome_70 : decode cX5_waysCome 70 = .ok (.iload_n 1, 1) := by decide +kernel
theorem dX5_waysCome_71 : decode cX5_waysCome 71 = .ok (.bipush 6, 2) := by decide +kernel
theorem dX5_waysCome_73 : decode cX5_waysCome 73 = .ok (.aload_n 0, 1) := by decide +kernel
theorem dX5_waysCome_74 : decode cX5_waysCome 74 = .ok (.getfield 201, 3) := by decide +kernel
theorem dX5_waysCome_77 : decode cX5_waysCome 77 = .ok (.iadd, 1) := by decide +kernel
theorem dX5_waysCome_78 : decode cX5_waysCome 78 = .ok (.iconst 1, 1) := by decide +kernel
theorem dX5_waysCome_79 : decode cX5_waysCome 79 = .ok (.isub, 1) := by decide +kernel
theorem dX5_waysCome_80 : decode cX5_waysCome 80 = .ok (.iload_n 2, 1) := by decide +kernel
theorem dX5_waysCome_81 : decode cX5_waysCome 81 = .ok (.isub, 1) := by decide +kernel
theorem dX5_waysCome_82 : decode cX5_waysCome 82 = .ok (.iload_n 3, 1) := by decide +kernel
theorem dX5_waysCome_83 : decode cX5_waysCome 83 = .ok (.invokevirtual 71, 3) := by decide +kernel
theorem dX5_waysCome_86 : decode cX5_waysCome 86 = .ok (.iinc 2 (-1), 3) := by decide +kernel
theorem dX5_waysCome_89 : decode cX5_waysCome 89 = .ok (.goto (-60), 3) := by decide +kernel
theorem dX5_waysCome_92 : decode cX5_waysCome 92 = .ok (.aload_n 0, 1) := by decide +kernel
theorem dX5_waysCome_93 : decode cX5_waysCome 93 = .ok (.invokevirtual 238, 3) := by decide +kernel
theorem dX5_waysCome_96 : decode cX5_waysCome 96 = .ok (.iconst 1, 1) := by decide +kernel
theorem dX5_waysCome_97 : decode cX5_waysCome 97 = .ok (.ireturn, 1) := by decide +kernel
theorem dX5_isFour_0 : decode cX5_isFour 0 = .ok (.aload_n 0, 1) := by decide +kernel
theorem dX5_isFour_1 : decode cX5_isFour 1 = .ok (.iconst 4, 1) := by decide +kernel
theorem dX5_isFour_2 : decode cX5_isFour 2 = .ok (.invokevirtual 227, 3) := by decide +kernel
theorem dX5_isFour_5 : decode cX5_isFour 5 = .ok (.ifCond .eq 30, 3) := by decide +kernel
theorem dX5_isFour_8 : decode cX5_isFour 8 = .ok (.aload_n 0, 1) := by decide +kernel
theorem dX5_isFour_9 : decode cX5_isFour 9 = .ok (.iconst 0, 1) := by decide +kernel
theorem dX5_isFour_10 : decode cX5_isFour 10 = .ok (.iload_n 1, 1) := by decide +kernel
theorem dX5_isFour_11 : decode cX5_isFour 11 = .ok (.iload_n 2, 1) := by decide +kernel
theorem dX5_isFour_12 : decode cX5_isFour 12 = .ok (.iload_n 3, 1) := by decide +kernel
theorem dX5_isFour_13 : decode cX5_isFour 13 = .ok (.invokevirtual 230, 3) := by decide +kernel
theorem dX5_isFour_16 : decode cX5_isFour 16 = .ok (.ifCond .eq 19, 3) := by decide +kernel
theorem dX5_isFour_19 : decode cX5_isFour 19 = .ok (.aload_n 0, 1) := by decide +kernel
theorem dX5_isFour_20 : decode cX5_isFour 20 = .ok (.iconst 1, 1) := by decide +kernel
theorem dX5_isFour_21 : decode cX5_isFour 21 = .ok (.iload_n 2, 1) := by decide +kernel
theorem dX5_isFour_22 : decode cX5_isFour 22 = .ok (.iload_n 3, 1) := by decide +kernel
theorem dX5_isFour_23 : decode cX5_isFour 23 = .ok (.iload 4, 2) := by decide +kernel
theorem dX5_isFour_25 : decode cX5_isFour 25 = .ok (.invokevirtual 230, 3) := by decide +kernel
theorem dX5_isFour_28 : decode cX5_isFour 28 = .ok (.ifCond .eq 7, 3) := by decide +kernel
theorem dX5_isFour_31 : decode cX5_isFour 31 = .ok (.iconst 1, 1) := by decide +kernel
theorem dX5_isFour_32 : decode cX5_isFour 32 = .ok (.goto 4, 3) := by decide +kernel
theorem dX5_isFour_35 : decode cX5_isFour 35 = .ok (.iconst 0, 1) := by decide +kernel
theorem dX5_isFour_36 : decode cX5_isFour 36 = .ok (.ireturn, 1) := by decide +kernel
theorem dX5_isFive_0 : decode cX5_isFive 0 = .ok (.aload_n 0, 1) := by decide +kernel
theorem dX5_isFive_1 : decode cX5_isFive 1 = .ok (.iconst 5, 1) := by decide +kernel
theorem dX5_isFive_2 : decode cX5_isFive 2 = .ok (.invokevirtual 227, 3) := by decide +kernel
theorem dX5_isFive_5 : decode cX5_isFive 5 = .ok (.ifCond .eq 31, 3) := by decide +kernel
theorem dX5_isFive_8 : decode cX5_isFive 8 = .ok (.aload_n 0, 1) := by decide +kernel
theorem dX5_isFive_9 : decode cX5_isFive 9 = .ok (.iconst 0, 1) := by decide +kernel
theorem dX5_isFive_10 : decode cX5_isFive 10 = .ok (.iload_n 1, 1) := by decide +kernel
theorem dX5_isFive_11 : decode cX5_isFive 11 = .ok (.iload_n 2, 1) := by decide +kernel
theorem dX5_isFive_12 : decode cX5_isFive 12 = .ok (.iload_n 3, 1) := by decide +kernel
theorem dX5_isFive_13 : decode cX5_isFive 13 = .ok (.invokevirtual 230, 3) := by decide +kernel
theorem dX5_isFive_16 : decode cX5_isFive 16 = .ok (.ifCond .eq 20, 3) := by decide +kernel
theorem dX5_isFive_19 : decode cX5_isFive 19 = .ok (.aload_n 0, 1) := by decide +kernel
theorem dX5_isFive_20 : decode cX5_isFive 20 = .ok (.iconst 2, 1) := by decide +kernel
theorem dX5_isFive_21 : decode cX5_isFive 21 = .ok (.iload_n 3, 1) := by decide +kernel
theorem dX5_isFive_22 : decode cX5_isFive 22 = .ok (.iload 4, 2) := by decide +kernel
theorem dX5_isFive_24 : decode cX5_isFive 24 = .ok (.iload 5, 2) := by decide +kernel
theorem dX5_isFive_26 : decode cX5_isFive 26 = .ok (.invokevirtual 230, 3) := by decide +kernel
theorem dX5_isFive_29 : decode cX5_isFive 29 = .ok (.ifCond .eq 7, 3) := by decide +kernel
theorem dX5_isFive_32 : decode cX5_isFive 32 = .ok (.iconst 1, 1) := by decide +kernel
theorem dX5_isFive_33 : decode cX5_isFive 33 = .ok (.goto 4, 3) := by decide +kernel
theorem dX5_isFive_36 : decode cX5_isFive 36 = .ok (.iconst 0, 1) := by decide +kernel
theorem dX5_isFive_37 : decode cX5_isFive 37 = .ok (.ireturn, 1) := by decide +kernel
theorem dX5_personHere_0 : decode cX5_personHere 0 = .ok (.aload_n 0, 1) := by decide +kernel
theorem dX5_personHere_1 : decode cX5_personHere 1 = .ok (.getfield 7, 3) := by decide +kernel
theorem dX5_personHere_4 : decode cX5_personHere 4 = .ok (.iconst 0, 1) := by decide +kernel
theorem dX5_personHere_5 : decode cX5_personHere 5 = .ok (.iaload, 1) := by decide +kernel
theorem dX5_personHere_6 : decode cX5_personHere 6 = .ok (.bipush 12, 2) := by decide +kernel
theorem dX5_personHere_8 : decode cX5_personHere 8 = .ok (.if_icmp .ne 8, 3) := by decide +kernel
theorem dX5_personHere_11 : decode cX5_personHere 11 = .ok (.aload_n 0, 1) := by decide +kernel
theorem dX5_personHere_12 : decode cX5_personHere 12 = .ok (.invokevirtual 234, 3) := by decide +kernel
theorem dX5_personHere_15 : decode cX5_personHere 15 = .ok (.ireturn, 1) := by decide +kernel
theorem dX5_personHere_16 : decode cX5_personHere 16 = .ok (.aload_n 0, 1) := by decide +kernel
theorem dX5_personHere_17 : decode cX5_personHere 17 = .ok (.iload_n 1, 1) := by decide +kernel
theorem dX5_personHere_18 : decode cX5_personHere 18 = .ok (.iconst 0, 1) := by decide +kernel
theorem dX5_personHere_19 : decode cX5_personHere 19 = .ok (.invokevirtual 80, 3) := by decide +kernel
theorem dX5_personHere_22 : decode cX5_personHere 22 = .ok (.istore_n 2, 1) := by decide +kernel
theorem dX5_personHere_23 : decode cX5_personHere 23 = .ok (.bipush 21, 2) := by decide +kernel
theorem dX5_personHere_25 : decode cX5_personHere 25 = .ok (.bipush 15, 2) := by decide +kernel
theorem dX5_personHere_27 : decode cX5_personHere 27 = .ok (.iload_n 2, 1) := by decide +kernel
theorem dX5_personHere_28 : decode cX5_personHere 28 = .ok (.imul, 1) := by decide +kernel
theorem dX5_personHere_29 : decode cX5_personHere 29 = .ok (.iadd, 1) := by decide +kernel
theorem dX5_personHere_30 : decode cX5_personHere 30 = .ok (.istore_n 3, 1) := by decide +kernel
theorem dX5_personHere_31 : decode cX5_personHere 31 = .ok (.aload_n 0, 1) := by decide +kernel
theorem dX5_personHere_32 : decode cX5_personHere 32 = .ok (.invokevirtual 238, 3) := by decide +kernel
theorem dX5_personHere_35 : decode cX5_personHere 35 = .ok (.aload_n 0, 1) := by decide +kernel
theorem dX5_personHere_36 : decode cX5_personHere 36 = .ok (.bipush 108, 2) := by decide +kernel
theorem dX5_personHere_38 : decode cX5_personHere 38 = .ok (.bipush 105, 2) := by decide +kernel
theorem dX5_personHere_40 : decode cX5_personHere 40 = .ok (.bipush 107, 2) := by decide +kernel
theorem dX5_personHere_42 : decode cX5_personHere 42 = .ok (.bipush 101, 2) := by decide +kernel
theorem dX5_personHere_44 : decode cX5_personHere 44 = .ok (.invokevirtual 242, 3) := by decide +kernel
theorem dX5_personHere_47 : decode cX5_personHere 47 = .ok (.ifCond .eq 17, 3) := by decide +kernel
theorem dX5_personHere_50 : decode cX5_personHere 50 = .ok (.aload_n 0, 1) := by decide +kernel
theorem dX5_personHere_51 : decode cX5_personHere 51 = .ok (.invokevirtual 238, 3) := by decide +kernel
theorem dX5_personHere_54 : decode cX5_personHere 54 = .ok (.aload_n 0, 1) := by decide +kernel
theorem dX5_personHere_55 : decode cX5_personHere 55 = .ok (.iload_n 2, 1) := by decide +kernel
theorem dX5_personHere_56 : decode cX5_personHere 56 = .ok (.invokevirtual 245, 3) := by decide +kernel
theorem dX5_personHere_59 : decode cX5_personHere 59 = .ok (.ifCond .ne 5, 3) := by decide +kernel
theorem dX5_personHere_62 : decode cX5_personHere 62 = .ok (.iconst 0, 1) := by decide +kernel
theorem dX5_personHere_63 : decode cX5_personHere 63 = .ok (.ireturn, 1) := by decide +kernel
theorem dX5_personHere_64 : decode cX5_personHere 64 = .ok (.aload_n 0, 1) := by decide +kernel
theorem dX5_personHere_65 : decode cX5_personHere 65 = .ok (.iconst 3, 1) := by decide +kernel
theorem dX5_personHere_66 : decode cX5_personHere 66 = .ok (.invokevirtual 227, 3) := by decide +kernel
theorem dX5_personHere_69 : decode cX5_personHere 69 = .ok (.ifCond .eq 36, 3) := by decide +kernel
theorem dX5_personHere_72 : decode cX5_personHere 72 = .ok (.aload_n 0, 1) := by decide +kernel
theorem dX5_personHere_73 : decode cX5_personHere 73 = .ok (.iconst 0, 1) := by decide +kernel
theorem dX5_personHere_74 : decode cX5_personHere 74 = .ok (.bipush 97, 2) := by decide +kernel
theorem dX5_personHere_76 : decode cX5_personHere 76 = .ok (.bipush 103, 2) := by decide +kernel
theorem dX5_personHere_78 : decode cX5_personHere 78 = .ok (.bipush 101, 2) := by decide +kernel
theorem dX5_personHere_80 : decode cX5_personHere 80 = .ok (.invokevirtual 230, 3) := by decide +kernel
theorem dX5_personHere_83 : decode cX5_personHere 83 = .ok (.ifCond .eq 22, 3) := by decide +kernel
theorem dX5_personHere_86 : decode cX5_personHere 86 = .ok (.aload_n 0, 1) := by decide +kernel
theorem dX5_personHere_87 : decode cX5_personHere 87 = .ok (.invokevirtual 238, 3) := by decide +kernel
theorem dX5_personHere_90 : decode cX5_personHere 90 = .ok (.aload_n 0, 1) := by decide +kernel
theorem dX5_personHere_91 : decode cX5_personHere 91 = .ok (.iload_n 3, 1) := by decide +kernel
theorem dX5_personHere_92 : decode cX5_personHere 92 = .ok (.iconst 1, 1) := by decide +kernel
theorem dX5_personHere_93 : decode cX5_personHere 93 = .ok (.iadd, 1) := by decide +kernel
theorem dX5_personHere_94 : decode cX5_personHere 94 = .ok (.iconst 0, 1) := by decide +kernel
theorem dX5_personHere_95 : decode cX5_personHere 95 = .ok (.bipush 120, 2) := by decide +kernel
theorem dX5_personHere_97 : decode cX5_personHere 97 = .ok (.invokevirtual 248, 3) := by decide +kernel
theorem dX5_personHere_100 : decode cX5_personHere 100 = .ok (.ifCond .ne 5, 3) := by decide +kernel
theorem dX5_personHere_103 : decode cX5_personHere 103 = .ok (.iconst 0, 1) := by decide +kernel
theorem dX5_personHere_104 : decode cX5_personHere 104 = .ok (.ireturn, 1) := by decide +kernel
theorem dX5_personHere_105 : decode cX5_personHere 105 = .ok (.aload_n 0, 1) := by decide +kernel
theorem dX5_personHere_106 : decode cX5_personHere 106 = .ok (.bipush 103, 2) := by decide +kernel
theorem dX5_personHere_108 : decode cX5_personHere 108 = .ok (.bipush 111, 2) := by decide +kernel
theorem dX5_personHere_110 : decode cX5_personHere 110 = .ok (.bipush 111, 2) := by decide +kernel
theorem dX5_personHere_112 : decode cX5_personHere 112 = .ok (.bipush 100, 2) := by decide +kernel
theorem dX5_personHere_114 : decode cX5_personHere 114 = .ok (.bipush 115, 2) := by decide +kernel
theorem dX5_personHere_116 : decode cX5_personHere 116 = .ok (.invokevirtual 251, 3) := by decide +kernel
theorem dX5_personHere_119 : decode cX5_personHere 119 = .ok (.ifCond .eq 22, 3) := by decide +kernel
theorem dX5_personHere_122 : decode cX5_personHere 122 = .ok (.aload_n 0, 1) := by decide +kernel
theorem dX5_personHere_123 : decode cX5_personHere 123 = .ok (.invokevirtual 238, 3) := by decide +kernel
theorem dX5_personHere_126 : decode cX5_personHere 126 = .ok (.aload_n 0, 1) := by decide +kernel
theorem dX5_personHere_127 : decode cX5_personHere 127 = .ok (.iload_n 3, 1) := by decide +kernel
theorem dX5_personHere_128 : decode cX5_personHere 128 = .ok (.iconst 2, 1) := by decide +kernel
theorem dX5_personHere_129 : decode cX5_personHere 129 = .ok (.iadd, 1) := by decide +kernel
theorem dX5_personHere_130 : decode cX5_personHere 130 = .ok (.iconst 0, 1) := by decide +kernel
theorem dX5_personHere_131 : decode cX5_personHere 131 = .ok (.ldc 132, 2) := by decide +kernel
theorem dX5_personHere_133 : decode cX5_personHere 133 = .ok (.invokevirtual 248, 3) := by decide +kernel
theorem dX5_personHere_136 : decode cX5_personHere 136 = .ok (.ifCond .ne 5, 3) := by decide +kernel
theorem dX5_personHere_139 : decode cX5_personHere 139 = .ok (.iconst 0, 1) := by decide +kernel
theorem dX5_personHere_140 : decode cX5_personHere 140 = .ok (.ireturn, 1) := by decide +kernel
theorem dX5_personHere_141 : decode cX5_personHere 141 = .ok (.aload_n 0, 1) := by decide +kernel
theorem dX5_personHere_142 : decode cX5_personHere 142 = .ok (.bipush 116, 2) := by decide +kernel
theorem dX5_personHere_144 : decode cX5_personHere 144 = .ok (.bipush 101, 2) := by decide +kernel
theorem dX5_personHere_146 : decode cX5_personHere 146 = .ok (.bipush 114, 2) := by decide +kernel
theorem dX5_personHere_148 : decode cX5_personHere 148 = .ok (.bipush 109, 2) := by decide +kernel
theorem dX5_personHere_150 : decode cX5_personHere 150 = .ok (.invokevirtual 242, 3) := by decide +kernel
theorem dX5_personHere_153 : decode cX5_personHere 153 = .ok (.ifCond .eq 22, 3) := by decide +kernel
theorem dX5_personHere_156 : decode cX5_personHere 156 = .ok (.aload_n 0, 1) := by decide +kernel
theorem dX5_personHere_157 : decode cX5_personHere 157 = .ok (.invokevirtual 238, 3) := by decide +kernel
theorem dX5_personHere_160 : decode cX5_personHere 160 = .ok (.aload_n 0, 1) := by decide +kernel
theorem dX5_personHere_161 : decode cX5_personHere 161 = .ok (.iload_n 3, 1) := by decide +kernel
theorem dX5_personHere_162 : decode cX5_personHere 162 = .ok (.iconst 3, 1) := by decide +kernel
theorem dX5_personHere_163 : decode cX5_personHere 163 = .ok (.iadd, 1) := by decide +kernel
theorem dX5_personHere_164 : decode cX5_personHere 164 = .ok (.iconst 1, 1) := by decide +kernel
theorem dX5_personHere_165 : decode cX5_personHere 165 = .ok (.bipush 120, 2) := by decide +kernel
theorem dX5_personHere_167 : decode cX5_personHere 167 = .ok (.invokevirtual 248, 3) := by decide +kernel
theorem dX5_personHere_170 : decode cX5_personHere 170 = .ok (.ifCond .ne 5, 3) := by decide +kernel
theorem dX5_personHere_173 : decode cX5_personHere 173 = .ok (.iconst 0, 1) := by decide +kernel
theorem dX5_personHere_174 : decode cX5_personHere 174 = .ok (.ireturn, 1) := by decide +kernel
theorem dX5_personHere_175 : decode cX5_personHere 175 = .ok (.aload_n 0, 1) := by decide +kernel
theorem dX5_personHere_176 : decode cX5_personHere 176 = .ok (.bipush 99, 2) := by decide +kernel
theorem dX5_personHere_178 : decode cX5_personHere 178 = .ok (.bipush 104, 2) := by decide +kernel
theorem dX5_personHere_180 : decode cX5_personHere 180 = .ok (.bipush 105, 2) := by decide +kernel
theorem dX5_personHere_182 : decode cX5_personHere 182 = .ok (.bipush 108, 2) := by decide +kernel
theorem dX5_personHere_184 : decode cX5_personHere 184 = .ok (.bipush 100, 2) := by decide +kernel
theorem dX5_personHere_186 : decode cX5_personHere 186 = .ok (.invokevirtual 251, 3) := by decide +kernel
theorem dX5_personHere_189 : decode cX5_personHere 189 = .ok (.ifCond .eq 19, 3) := by decide +kernel
theorem dX5_personHere_192 : decode cX5_personHere 192 = .ok (.aload_n 0, 1) := by decide +kernel
theorem dX5_personHere_193 : decode cX5_personHere 193 = .ok (.invokevirtual 238, 3) := by decide +kernel
theorem dX5_personHere_196 : decode cX5_personHere 196 = .ok (.aload_n 0, 1) := by decide +kernel
theorem dX5_personHere_197 : decode cX5_personHere 197 = .ok (.iload_n 3, 1) := by decide +kernel
theorem dX5_personHere_198 : decode cX5_personHere 198 = .ok (.iconst 4, 1) := by decide +kernel
theorem dX5_personHere_199 : decode cX5_personHere 199 = .ok (.iadd, 1) := by decide +kernel
theorem dX5_personHere_200 : decode cX5_personHere 200 = .ok (.iconst 0, 1) := by decide +kernel
theorem dX5_personHere_201 : decode cX5_personHere 201 = .ok (.iload_n 2, 1) := by decide +kernel
theorem dX5_personHere_202 : decode cX5_personHere 202 = .ok (.iconst 1, 1) := by decide +kernel
theorem dX5_personHere_203 : decode cX5_personHere 203 = .ok (.isub, 1) := by decide +kernel
theorem dX5_personHere_204 : decode cX5_personHere 204 = .ok (.invokevirtual 248, 3) := by decide +kernel
theorem dX5_personHere_207 : decode cX5_personHere 207 = .ok (.ireturn, 1) := by decide +kernel
theorem dX5_personHere_208 : decode cX5_personHere 208 = .ok (.iconst 1, 1) := by decide +kernel
theorem dX5_personHere_209 : decode cX5_personHere 209 = .ok (.ireturn, 1) := by decide +kernel
theorem dX5_markHere_0 : decode cX5_markHere 0 = .ok (.aload_n 0, 1) := by decide +kernel
theorem dX5_markHere_1 : decode cX5_markHere 1 = .ok (.invokevirtual 238, 3) := by decide +kernel
theorem dX5_markHere_4 : decode cX5_markHere 4 = .ok (.aload_n 0, 1) := by decide +kernel
theorem dX5_markHere_5 : decode cX5_markHere 5 = .ok (.getfield 216, 3) := by decide +kernel
theorem dX5_markHere_8 : decode cX5_markHere 8 = .ok (.iconst 2, 1) := by decide +kernel
theorem dX5_markHere_9 : decode cX5_markHere 9 = .ok (.if_icmp .ne 12, 3) := by decide +kernel
theorem dX5_markHere_12 : decode cX5_markHere 12 = .ok (.aload_n 0, 1) := by decide +kernel
theorem dX5_markHere_13 : decode cX5_markHere 13 = .ok (.getfield 219, 3) := by decide +kernel
theorem dX5_markHere_16 : decode cX5_markHere 16 = .ok (.bipush 8, 2) := by decide +kernel
theorem dX5_markHere_18 : decode cX5_markHere 18 = .ok (.if_icmp .le 8, 3) := by decide +kernel
theorem dX5_markHere_21 : decode cX5_markHere 21 = .ok (.aload_n 0, 1) := by decide +kernel
theorem dX5_markHere_22 : decode cX5_markHere 22 = .ok (.invokevirtual 234, 3) := by decide +kernel
theorem dX5_markHere_25 : decode cX5_markHere 25 = .ok (.ireturn, 1) := by decide +kernel
theorem dX5_markHere_26 : decode cX5_markHere 26 = .ok (.aload_n 0, 1) := by decide +kernel
theorem dX5_markHere_27 : decode cX5_markHere 27 = .ok (.getfield 219, 3) := by decide +kernel
theorem dX5_markHere_30 : decode cX5_markHere 30 = .ok (.istore_n 1, 1) := by decide +kernel
theorem dX5_markHere_31 : decode cX5_markHere 31 = .ok (.aload_n 0, 1) := by decide +kernel
theorem dX5_markHere_32 : decode cX5_markHere 32 = .ok (.invokevirtual 238, 3) := by decide +kernel
theorem dX5_markHere_35 : decode cX5_markHere 35 = .ok (.aload_n 0, 1) := by decide +kernel
theorem dX5_markHere_36 : decode cX5_markHere 36 = .ok (.bipush 6, 2) := by decide +kernel
theorem dX5_markHere_38 : decode cX5_markHere 38 = .ok (.invokevirtual 227, 3) := by decide +kernel
theorem dX5_markHere_41 : decode cX5_markHere 41 = .ok (.ifCond .eq 50, 3) := by decide +kernel
theorem dX5_markHere_44 : decode cX5_markHere 44 = .ok (.aload_n 0, 1) := by decide +kernel
theorem dX5_markHere_45 : decode cX5_markHere 45 = .ok (.iconst 0, 1) := by decide +kernel
theorem dX5_markHere_46 : decode cX5_markHere 46 = .ok (.bipush 119, 2) := by decide +kernel
theorem dX5_markHere_48 : decode cX5_markHere 48 = .ok (.bipush 101, 2) := by decide +kernel
theorem dX5_markHere_50 : decode cX5_markHere 50 = .ok (.bipush 105, 2) := by decide +kernel
theorem dX5_markHere_52 : decode cX5_markHere 52 = .ok (.invokevirtual 230, 3) := by decide +kernel
theorem dX5_markHere_55 : decode cX5_markHere 55 = .ok (.ifCond .eq 36, 3) := by decide +kernel
theorem dX5_markHere_58 : decode cX5_markHere 58 = .ok (.aload_n 0, 1) := by decide +kernel
theorem dX5_markHere_59 : decode cX5_markHere 59 = .ok (.iconst 3, 1) := by decide +kernel
theorem dX5_markHere_60 : decode cX5_markHere 60 = .ok (.bipush 103, 2) := by decide +kernel
theorem dX5_markHere_62 : decode cX5_markHere 62 = .ok (.bipush 104, 2) := by decide +kernel
theorem dX5_markHere_64 : decode cX5_markHere 64 = .ok (.bipush 115, 2) := by decide +kernel
theorem dX5_markHere_66 : decode cX5_markHere 66 = .ok (.invokevirtual 230, 3) := by decide +kernel
theorem dX5_markHere_69 : decode cX5_markHere 69 = .ok (.ifCond .eq 22, 3) := by decide +kernel
theorem dX5_markHere_72 : decode cX5_markHere 72 = .ok (.aload_n 0, 1) := by decide +kernel
theorem dX5_markHere_73 : decode cX5_markHere 73 = .ok (.invokevirtual 238, 3) := by decide +kernel
theorem dX5_markHere_76 : decode cX5_markHere 76 = .ok (.aload_n 0, 1) := by decide +kernel
theorem dX5_markHere_77 : decode cX5_markHere 77 = .ok (.iconst 3, 1) := by decide +kernel
theorem dX5_markHere_78 : decode cX5_markHere 78 = .ok (.iload_n 1, 1) := by decide +kernel
theorem dX5_markHere_79 : decode cX5_markHere 79 = .ok (.iadd, 1) := by decide +kernel
theorem dX5_markHere_80 : decode cX5_markHere 80 = .ok (.iconst 0, 1) := by decide +kernel
theorem dX5_markHere_81 : decode cX5_markHere 81 = .ok (.bipush 9, 2) := by decide +kernel
theorem dX5_markHere_83 : decode cX5_markHere 83 = .ok (.invokevirtual 248, 3) := by decide +kernel
theorem dX5_markHere_86 : decode cX5_markHere 86 = .ok (.ifCond .ne 5, 3) := by decide +kernel
theorem dX5_markHere_89 : decode cX5_markHere 89 = .ok (.iconst 0, 1) := by decide +kernel
theorem dX5_markHere_90 : decode cX5_markHere 90 = .ok (.ireturn, 1) := by decide +kernel
theorem dX5_markHere_91 : decode cX5_markHere 91 = .ok (.aload_n 0, 1) := by decide +kernel
theorem dX5_markHere_92 : decode cX5_markHere 92 = .ok (.bipush 99, 2) := by decide +kernel
theorem dX5_markHere_94 : decode cX5_markHere 94 = .ok (.bipush 111, 2) := by decide +kernel
theorem dX5_markHere_96 : decode cX5_markHere 96 = .ok (.bipush 115, 2) := by decide +kernel
theorem dX5_markHere_98 : decode cX5_markHere 98 = .ok (.bipush 116, 2) := by decide +kernel
theorem dX5_markHere_100 : decode cX5_markHere 100 = .ok (.bipush 115, 2) := by decide +kernel
theorem dX5_markHere_102 : decode cX5_markHere 102 = .ok (.invokevirtual 251, 3) := by decide +kernel
theorem dX5_markHere_105 : decode cX5_markHere 105 = .ok (.ifCond .eq 19, 3) := by decide +kernel
theorem dX5_markHere_108 : decode cX5_markHere 108 = .ok (.aload_n 0, 1) := by decide +kernel
theorem dX5_markHere_109 : decode cX5_markHere 109 = .ok (.invokevirtual 238, 3) := by decide +kernel
theorem dX5_markHere_112 : decode cX5_markHere 112 = .ok (.aload_n 0, 1) := by decide +kernel
theorem dX5_markHere_113 : decode cX5_markHere 113 = .ok (.bipush 12, 2) := by decide +kernel
theorem dX5_markHere_115 : decode cX5_markHere 115 = .ok (.iload_n 1, 1) := by decide +kernel
theorem dX5_markHere_116 : decode cX5_markHere 116 = .ok (.iadd, 1) := by decide +kernel
theorem dX5_markHere_117 : decode cX5_markHere 117 = .ok (.iconst 0, 1) := by decide +kernel
theorem dX5_markHere_118 : decode cX5_markHere 118 = .ok (.bipush 99, 2) := by decide +kernel
theorem dX5_markHere_120 : decode cX5_markHere 120 = .ok (.invokevirtual 248, 3) := by decide +kernel
theorem dX5_markHere_123 : decode cX5_markHere 123 = .ok (.ireturn, 1) := by decide +kernel
theorem dX5_markHere_124 : decode cX5_markHere 124 = .ok (.iconst 1, 1) := by decide +kernel
theorem dX5_markHere_125 : decode cX5_markHere 125 = .ok (.ireturn, 1) := by decide +kernel
theorem dX5_itemHere_0 : decode cX5_itemHere 0 = .ok (.aload_n 0, 1) := by decide +kernel
theorem dX5_itemHere_1 : decode cX5_itemHere 1 = .ok (.invokevirtual 255, 3) := by decide +kernel
theorem dX5_itemHere_4 : decode cX5_itemHere 4 = .ok (.istore_n 1, 1) := by decide +kernel
theorem dX5_itemHere_5 : decode cX5_itemHere 5 = .ok (.iload_n 1, 1) := by decide +kernel
theorem dX5_itemHere_6 : decode cX5_itemHere 6 = .ok (.ifCond .lt 9, 3) := by decide +kernel
theorem dX5_itemHere_9 : decode cX5_itemHere 9 = .ok (.aload_n 0, 1) := by decide +kernel
theorem dX5_itemHere_10 : decode cX5_itemHere 10 = .ok (.iload_n 1, 1) := by decide +kernel
theorem dX5_itemHere_11 : decode cX5_itemHere 11 = .ok (.invokevirtual 258, 3) := by decide +kernel
theorem dX5_itemHere_14 : decode cX5_itemHere 14 = .ok (.ireturn, 1) := by decide +kernel
theorem dX5_itemHere_15 : decode cX5_itemHere 15 = .ok (.aload_n 0, 1) := by decide +kernel
theorem dX5_itemHere_16 : decode cX5_itemHere 16 = .ok (.bipush 109, 2) := by decide +kernel
theorem dX5_itemHere_18 : decode cX5_itemHere 18 = .ok (.bipush 97, 2) := by decide +kernel
theorem dX5_itemHere_20 : decode cX5_itemHere 20 = .ok (.bipush 114, 2) := by decide +kernel
theorem dX5_itemHere_22 : decode cX5_itemHere 22 = .ok (.bipush 107, 2) := by decide +kernel
theorem dX5_itemHere_24 : decode cX5_itemHere 24 = .ok (.invokevirtual 242, 3) := by decide +kernel
theorem dX5_itemHere_27 : decode cX5_itemHere 27 = .ok (.ifCond .eq 8, 3) := by decide +kernel
theorem dX5_itemHere_30 : decode cX5_itemHere 30 = .ok (.aload_n 0, 1) := by decide +kernel
theorem dX5_itemHere_31 : decode cX5_itemHere 31 = .ok (.invokevirtual 261, 3) := by decide +kernel
theorem dX5_itemHere_34 : decode cX5_itemHere 34 = .ok (.ireturn, 1) := by decide +kernel
theorem dX5_itemHere_35 : decode cX5_itemHere 35 = .ok (.aload_n 0, 1) := by decide +kernel
theorem dX5_itemHere_36 : decode cX5_itemHere 36 = .ok (.iconst 3, 1) := by decide +kernel
theorem dX5_itemHere_37 : decode cX5_itemHere 37 = .ok (.invokevirtual 227, 3) := by decide +kernel
theorem dX5_itemHere_40 : decode cX5_itemHere 40 = .ok (.ifCond .eq 29, 3) := by decide +kernel
theorem dX5_itemHere_43 : decode cX5_itemHere 43 = .ok (.aload_n 0, 1) := by decide +kernel
theorem dX5_itemHere_44 : decode cX5_itemHere 44 = .ok (.iconst 0, 1) := by decide +kernel
theorem dX5_itemHere_45 : decode cX5_itemHere 45 = .ok (.bipush 108, 2) := by decide +kernel
theorem dX5_itemHere_47 : decode cX5_itemHere 47 = .ok (.bipush 97, 2) := by decide +kernel
theorem dX5_itemHere_49 : decode cX5_itemHere 49 = .ok (.bipush 119, 2) := by decide +kernel
theorem dX5_itemHere_51 : decode cX5_itemHere 51 = .ok (.invokevirtual 230, 3) := by decide +kernel
theorem dX5_itemHere_54 : decode cX5_itemHere 54 = .ok (.ifCond .eq 15, 3) := by decide +kernel
theorem dX5_itemHere_57 : decode cX5_itemHere 57 = .ok (.aload_n 0, 1) := by decide +kernel
theorem dX5_itemHere_58 : decode cX5_itemHere 58 = .ok (.invokevirtual 238, 3) := by decide +kernel
theorem dX5_itemHere_61 : decode cX5_itemHere 61 = .ok (.aload_n 0, 1) := by decide +kernel
theorem dX5_itemHere_62 : decode cX5_itemHere 62 = .ok (.iconst 2, 1) := by decide +kernel
theorem dX5_itemHere_63 : decode cX5_itemHere 63 = .ok (.iconst 0, 1) := by decide +kernel
theorem dX5_itemHere_64 : decode cX5_itemHere 64 = .ok (.iconst 2, 1) := by decide +kernel
theorem dX5_itemHere_65 : decode cX5_itemHere 65 = .ok (.invokevirtual 248, 3) := by decide +kernel
theorem dX5_itemHere_68 : decode cX5_itemHere 68 = .ok (.ireturn, 1) := by decide +kernel
theorem dX5_itemHere_69 : decode cX5_itemHere 69 = .ok (.aload_n 0, 1) := by decide +kernel
theorem dX5_itemHere_70 : decode cX5_itemHere 70 = .ok (.invokevirtual 234, 3) := by decide +kernel
theorem dX5_itemHere_73 : decode cX5_itemHere 73 = .ok (.ireturn, 1) := by decide +kernel
theorem dX5_valley_0 : decode cX5_valley 0 = .ok (.aload_n 0, 1) := by decide +kernel
theorem dX5_valley_1 : decode cX5_valley 1 = .ok (.getfield 7, 3) := by decide +kernel
theorem dX5_valley_4 : decode cX5_valley 4 = .ok (.aload_n 0, 1) := by decide +kernel
theorem dX5_valley_5 : decode cX5_valley 5 = .ok (.getfield 19, 3) := by decide +kernel
theorem dX5_valley_8 : decode cX5_valley 8 = .ok (.invokestatic 166, 3) := by decide +kernel
theorem dX5_valley_11 : decode cX5_valley 11 = .ok (.aload_n 0, 1) := by decide +kernel
theorem dX5_valley_12 : decode cX5_valley 12 = .ok (.iconst 0, 1) := by decide +kernel
theorem dX5_valley_13 : decode cX5_valley 13 = .ok (.putfield 201, 3) := by decide +kernel
theorem dX5_valley_16 : decode cX5_valley 16 = .ok (.aload_n 0, 1) := by decide +kernel
theorem dX5_valley_17 : decode cX5_valley 17 = .ok (.invokevirtual 238, 3) := by decide +kernel
theorem dX5_valley_20 : decode cX5_valley 20 = .ok (.iconst 1, 1) := by decide +kernel
theorem dX5_valley_21 : decode cX5_valley 21 = .ok (.istore_n 1, 1) := by decide +kernel
theorem dX5_valley_22 : decode cX5_valley 22 = .ok (.aload_n 0, 1) := by decide +kernel
theorem dX5_valley_23 : decode cX5_valley 23 = .ok (.invokevirtual 264, 3) := by decide +kernel
theorem dX5_valley_26 : decode cX5_valley 26 = .ok (.istore_n 2, 1) := by decide +kernel
theorem dX5_valley_27 : decode cX5_valley 27 = .ok (.iload_n 2, 1) := by decide +kernel
theorem dX5_valley_28 : decode cX5_valley 28 = .ok (.ifCond .eq 26, 3) := by decide +kernel
theorem dX5_valley_31 : decode cX5_valley 31 = .ok (.aload_n 0, 1) := by decide +kernel
theorem dX5_valley_32 : decode cX5_valley 32 = .ok (.getfield 216, 3) := by decide +kernel
theorem dX5_valley_35 : decode cX5_valley 35 = .ok (.iconst 3, 1) := by decide +kernel
theorem dX5_valley_36 : decode cX5_valley 36 = .ok (.if_icmp .ne 18, 3) := by decide +kernel
theorem dX5_valley_39 : decode cX5_valley 39 = .ok (.aload_n 0, 1) := by decide +kernel
theorem dX5_valley_40 : decode cX5_valley 40 = .ok (.invokevirtual 238, 3) := by decide +kernel
theorem dX5_valley_43 : decode cX5_valley 43 = .ok (.aload_n 0, 1) := by decide +kernel
theorem dX5_valley_44 : decode cX5_valley 44 = .ok (.invokevirtual 264, 3) := by decide +kernel
theorem dX5_valley_47 : decode cX5_valley 47 = .ok (.istore_n 2, 1) := by decide +kernel
theorem dX5_valley_48 : decode cX5_valley 48 = .ok (.iinc 1 1, 3) := by decide +kernel
theorem dX5_valley_51 : decode cX5_valley 51 = .ok (.goto (-24), 3) := by decide +kernel
theorem dX5_valley_54 : decode cX5_valley 54 = .ok (.iload_n 2, 1) := by decide +kernel
theorem dX5_valley_55 : decode cX5_valley 55 = .ok (.ifCond .eq 21, 3) := by decide +kernel
theorem dX5_valley_58 : decode cX5_valley 58 = .ok (.aload_n 0, 1) := by decide +kernel
theorem dX5_valley_59 : decode cX5_valley 59 = .ok (.getfield 216, 3) := by decide +kernel
theorem dX5_valley_62 : decode cX5_valley 62 = .ok (.ifCond .eq 10, 3) := by decide +kernel
theorem dX5_valley_65 : decode cX5_valley 65 = .ok (.aload_n 0, 1) := by decide +kernel
theorem dX5_valley_66 : decode cX5_valley 66 = .ok (.invokevirtual 234, 3) := by decide +kernel
theorem dX5_valley_69 : decode cX5_valley 69 = .ok (.ifCond .eq 7, 3) := by decide +kernel
theorem dX5_valley_72 : decode cX5_valley 72 = .ok (.iconst 1, 1) := by decide +kernel
theorem dX5_valley_73 : decode cX5_valley 73 = .ok (.goto 4, 3) := by decide +kernel
theorem dX5_valley_76 : decode cX5_valley 76 = .ok (.iconst 0, 1) := by decide +kernel
theorem dX5_valley_77 : decode cX5_valley 77 = .ok (.istore_n 2, 1) := by decide +kernel
theorem dX5_valley_78 : decode cX5_valley 78 = .ok (.aload_n 0, 1) := by decide +kernel
theorem dX5_valley_79 : decode cX5_valley 79 = .ok (.iconst 0, 1) := by decide +kernel
theorem dX5_valley_80 : decode cX5_valley 80 = .ok (.putfield 198, 3) := by decide +kernel
theorem dX5_valley_83 : decode cX5_valley 83 = .ok (.iload_n 2, 1) := by decide +kernel
theorem dX5_valley_84 : decode cX5_valley 84 = .ok (.ifCond .ne 14, 3) := by decide +kernel
theorem dX5_valley_87 : decode cX5_valley 87 = .ok (.aload_n 0, 1) := by decide +kernel
theorem dX5_valley_88 : decode cX5_valley 88 = .ok (.getfield 19, 3) := by decide +kernel
theorem dX5_valley_91 : decode cX5_valley 91 = .ok (.aload_n 0, 1) := by decide +kernel
theorem dX5_valley_92 : decode cX5_valley 92 = .ok (.getfield 7, 3) := by decide +kernel
theorem dX5_valley_95 : decode cX5_valley 95 = .ok (.invokestatic 166, 3) := by decide +kernel
theorem dX5_valley_98 : decode cX5_valley 98 = .ok (.iload_n 2, 1) := by decide +kernel
theorem dX5_valley_99 : decode cX5_valley 99 = .ok (.ifCond .eq 7, 3) := by decide +kernel
theorem dX5_valley_102 : decode cX5_valley 102 = .ok (.iload_n 1, 1) := by decide +kernel
theorem dX5_valley_103 : decode cX5_valley 103 = .ok (.goto 9, 3) := by decide +kernel
theorem dX5_valley_106 : decode cX5_valley 106 = .ok (.iconst (-1), 1) := by decide +kernel
theorem dX5_valley_107 : decode cX5_valley 107 = .ok (.aload_n 0, 1) := by decide +kernel
theorem dX5_valley_108 : decode cX5_valley 108 = .ok (.getfield 224, 3) := by decide +kernel
theorem dX5_valley_111 : decode cX5_valley 111 = .ok (.isub, 1) := by decide +kernel
theorem dX5_valley_112 : decode cX5_valley 112 = .ok (.ireturn, 1) := by decide +kernel
theorem dX5_isSheet_0 : decode cX5_isSheet 0 = .ok (.iload_n 0, 1) := by decide +kernel
theorem dX5_isSheet_1 : decode cX5_isSheet 1 = .ok (.ifCond .lt 12, 3) := by decide +kernel
theorem dX5_isSheet_4 : decode cX5_isSheet 4 = .ok (.iload_n 0, 1) := by decide +kernel
theorem dX5_isSheet_5 : decode cX5_isSheet 5 = .ok (.iconst 4, 1) := by decide +kernel
theorem dX5_isSheet_6 : decode cX5_isSheet 6 = .ok (.if_icmp .ge 7, 3) := by decide +kernel
theorem dX5_isSheet_9 : decode cX5_isSheet 9 = .ok (.iconst 1, 1) := by decide +kernel
theorem dX5_isSheet_10 : decode cX5_isSheet 10 = .ok (.goto 4, 3) := by decide +kernel
theorem dX5_isSheet_13 : decode cX5_isSheet 13 = .ok (.iconst 0, 1) := by decide +kernel
theorem dX5_isSheet_14 : decode cX5_isSheet 14 = .ok (.ireturn, 1) := by decide +kernel
theorem dX5_narrow_0 : decode cX5_narrow 0 = .ok (.iload_n 0, 1) := by decide +kernel
theorem dX5_narrow_1 : decode cX5_narrow 1 = .ok (.bipush 8, 2) := by decide +kernel
theorem dX5_narrow_3 : decode cX5_narrow 3 = .ok (.if_icmp .ne 10, 3) := by decide +kernel
theorem dX5_narrow_6 : decode cX5_narrow 6 = .ok (.lload_n 1, 1) := by decide +kernel
theorem dX5_narrow_7 : decode cX5_narrow 7 = .ok (.l2i, 1) := by decide +kernel
theorem dX5_narrow_8 : decode cX5_narrow 8 = .ok (.i2b, 1) := by decide +kernel
theorem dX5_narrow_9 : decode cX5_narrow 9 = .ok (.i2l, 1) := by decide +kernel
theorem dX5_narrow_10 : decode cX5_narrow 10 = .ok (.goto 17, 3) := by decide +kernel
theorem dX5_narrow_13 : decode cX5_narrow 13 = .ok (.iload_n 0, 1) := by decide +kernel
theorem dX5_narrow_14 : decode cX5_narrow 14 = .ok (.bipush 16, 2) := by decide +kernel
theorem dX5_narrow_16 : decode cX5_narrow 16 = .ok (.if_icmp .ne 10, 3) := by decide +kernel
theorem dX5_narrow_19 : decode cX5_narrow 19 = .ok (.lload_n 1, 1) := by decide +kernel
theorem dX5_narrow_20 : decode cX5_narrow 20 = .ok (.l2i, 1) := by decide +kernel
theorem dX5_narrow_21 : decode cX5_narrow 21 = .ok (.i2s, 1) := by decide +kernel
theorem dX5_narrow_22 : decode cX5_narrow 22 = .ok (.i2l, 1) := by decide +kernel
theorem dX5_narrow_23 : decode cX5_narrow 23 = .ok (.goto 4, 3) := by decide +kernel
theorem dX5_narrow_26 : decode cX5_narrow 26 = .ok (.lload_n 1, 1) := by decide +kernel
theorem dX5_narrow_27 : decode cX5_narrow 27 = .ok (.lreturn, 1) := by decide +kernel
theorem dX5_sheet_0 : decode cX5_sheet 0 = .ok (.iload_n 1, 1) := by decide +kernel
theorem dX5_sheet_1 : decode cX5_sheet 1 = .ok (.invokestatic 267, 3) := by decide +kernel
theorem dX5_sheet_4 : decode cX5_sheet 4 = .ok (.ifCond .eq 25, 3) := by decide +kernel
theorem dX5_sheet_7 : decode cX5_sheet 7 = .ok (.iload_n 2, 1) := by decide +kernel
theorem dX5_sheet_8 : decode cX5_sheet 8 = .ok (.ifCond .eq 28, 3) := by decide +kernel
theorem dX5_sheet_11 : decode cX5_sheet 11 = .ok (.iload_n 2, 1) := by decide +kernel
theorem dX5_sheet_12 : decode cX5_sheet 12 = .ok (.bipush 8, 2) := by decide +kernel
theorem dX5_sheet_14 : decode cX5_sheet 14 = .ok (.if_icmp .eq 22, 3) := by decide +kernel
theorem dX5_sheet_17 : decode cX5_sheet 17 = .ok (.iload_n 2, 1) := by decide +kernel
theorem dX5_sheet_18 : decode cX5_sheet 18 = .ok (.bipush 16, 2) := by decide +kernel
theorem dX5_sheet_20 : decode cX5_sheet 20 = .ok (.if_icmp .eq 16, 3) := by decide +kernel
theorem dX5_sheet_23 : decode cX5_sheet 23 = .ok (.iload_n 2, 1) := by decide +kernel
theorem dX5_sheet_24 : decode cX5_sheet 24 = .ok (.bipush 64, 2) := by decide +kernel
theorem dX5_sheet_26 : decode cX5_sheet 26 = .ok (.if_icmp .eq 10, 3) := by decide +kernel
theorem dX5_sheet_29 : decode cX5_sheet 29 = .ok (.aload_n 0, 1) := by decide +kernel
theorem dX5_sheet_30 : decode cX5_sheet 30 = .ok (.ldc 42, 2) := by decide +kernel
theorem dX5_sheet_32 : decode cX5_sheet 32 = .ok (.invokevirtual 62, 3) := by decide +kernel
theorem dX5_sheet_35 : decode cX5_sheet 35 = .ok (.ireturn, 1) := by decide +kernel
theorem dX5_sheet_36 : decode cX5_sheet 36 = .ok (.iload_n 3, 1) := by decide +kernel
theorem dX5_sheet_37 : decode cX5_sheet 37 = .ok (.ifCond .ge 11, 3) := by decide +kernel
theorem dX5_sheet_40 : decode cX5_sheet 40 = .ok (.aload_n 0, 1) := by decide +kernel
theorem dX5_sheet_41 : decode cX5_sheet 41 = .ok (.ldc_w 270, 3) := by decide +kernel
theorem dX5_sheet_44 : decode cX5_sheet 44 = .ok (.invokevirtual 62, 3) := by decide +kernel
theorem dX5_sheet_47 : decode cX5_sheet 47 = .ok (.ireturn, 1) := by decide +kernel
theorem dX5_sheet_48 : decode cX5_sheet 48 = .ok (.iload_n 3, 1) := by decide +kernel
theorem dX5_sheet_49 : decode cX5_sheet 49 = .ok (.bipush 40, 2) := by decide +kernel
theorem dX5_sheet_51 : decode cX5_sheet 51 = .ok (.if_icmp .le 10, 3) := by decide +kernel
theorem dX5_sheet_54 : decode cX5_sheet 54 = .ok (.aload_n 0, 1) := by decide +kernel
theorem dX5_sheet_55 : decode cX5_sheet 55 = .ok (.ldc 42, 2) := by decide +kernel
theorem dX5_sheet_57 : decode cX5_sheet 57 = .ok (.invokevirtual 62, 3) := by decide +kernel
theorem dX5_sheet_60 : decode cX5_sheet 60 = .ok (.ireturn, 1) := by decide +kernel
theorem dX5_sheet_61 : decode cX5_sheet 61 = .ok (.aload_n 0, 1) := by decide +kernel
theorem dX5_sheet_62 : decode cX5_sheet 62 = .ok (.getfield 28, 3) := by decide +kernel
theorem dX5_sheet_65 : decode cX5_sheet 65 = .ok (.iload_n 1, 1) := by decide +kernel
theorem dX5_sheet_66 : decode cX5_sheet 66 = .ok (.iload_n 2, 1) := by decide +kernel
theorem dX5_sheet_67 : decode cX5_sheet 67 = .ok (.ifCond .ne 7, 3) := by decide +kernel
theorem dX5_sheet_70 : decode cX5_sheet 70 = .ok (.iconst (-1), 1) := by decide +kernel
theorem dX5_sheet_71 : decode cX5_sheet 71 = .ok (.goto 4, 3) := by decide +kernel
theorem dX5_sheet_74 : decode cX5_sheet 74 = .ok (.iload_n 2, 1) := by decide +kernel
theorem dX5_sheet_75 : decode cX5_sheet 75 = .ok (.iastore, 1) := by decide +kernel
theorem dX5_sheet_76 : decode cX5_sheet 76 = .ok (.aload_n 0, 1) := by decide +kernel
theorem dX5_sheet_77 : decode cX5_sheet 77 = .ok (.getfield 31, 3) := by decide +kernel
theorem dX5_sheet_80 : decode cX5_sheet 80 = .ok (.iload_n 1, 1) := by decide +kernel
theorem dX5_sheet_81 : decode cX5_sheet 81 = .ok (.iload_n 2, 1) := by decide +kernel
theorem dX5_sheet_82 : decode cX5_sheet 82 = .ok (.ifCond .ne 7, 3) := by decide +kernel
theorem dX5_sheet_85 : decode cX5_sheet 85 = .ok (.iconst 0, 1) := by decide +kernel
theorem dX5_sheet_86 : decode cX5_sheet 86 = .ok (.goto 4, 3) := by decide +kernel
theorem dX5_sheet_89 : decode cX5_sheet 89 = .ok (.iload_n 3, 1) := by decide +kernel
theorem dX5_sheet_90 : decode cX5_sheet 90 = .ok (.iastore, 1) := by decide +kernel
theorem dX5_sheet_91 : decode cX5_sheet 91 = .ok (.iconst 0, 1) := by decide +kernel
theorem dX5_sheet_92 : decode cX5_sheet 92 = .ok (.istore 4, 2) := by decide +kernel
theorem dX5_sheet_94 : decode cX5_sheet 94 = .ok (.iload 4, 2) := by decide +kernel
theorem dX5_sheet_96 : decode cX5_sheet 96 = .ok (.bipush 40, 2) := by decide +kernel
theorem dX5_sheet_98 : decode cX5_sheet 98 = .ok (.if_icmp .ge 22, 3) := by decide +kernel
theorem dX5_sheet_101 : decode cX5_sheet 101 = .ok (.aload_n 0, 1) := by decide +kernel
theorem dX5_sheet_102 : decode cX5_sheet 102 = .ok (.getfield 34, 3) := by decide +kernel
theorem dX5_sheet_105 : decode cX5_sheet 105 = .ok (.bipush 40, 2) := by decide +kernel
theorem dX5_sheet_107 : decode cX5_sheet 107 = .ok (.iload_n 1, 1) := by decide +kernel
theorem dX5_sheet_108 : decode cX5_sheet 108 = .ok (.imul, 1) := by decide +kernel
theorem dX5_sheet_109 : decode cX5_sheet 109 = .ok (.iload 4, 2) := by decide +kernel
theorem dX5_sheet_111 : decode cX5_sheet 111 = .ok (.iadd, 1) := by decide +kernel
theorem dX5_sheet_112 : decode cX5_sheet 112 = .ok (.lconst 0, 1) := by decide +kernel
theorem dX5_sheet_113 : decode cX5_sheet 113 = .ok (.lastore, 1) := by decide +kernel
theorem dX5_sheet_114 : decode cX5_sheet 114 = .ok (.iinc 4 1, 3) := by decide +kernel
theorem dX5_sheet_117 : decode cX5_sheet 117 = .ok (.goto (-23), 3) := by decide +kernel
theorem dX5_sheet_120 : decode cX5_sheet 120 = .ok (.aload_n 0, 1) := by decide +kernel
theorem dX5_sheet_121 : decode cX5_sheet 121 = .ok (.getfield 31, 3) := by decide +kernel
theorem dX5_sheet_124 : decode cX5_sheet 124 = .ok (.iload_n 1, 1) := by decide +kernel
theorem dX5_sheet_125 : decode cX5_sheet 125 = .ok (.iaload, 1) := by decide +kernel
theorem dX5_sheet_126 : decode cX5_sheet 126 = .ok (.ireturn, 1) := by decide +kernel
theorem dX5_write_0 : decode cX5_write 0 = .ok (.iload_n 1, 1) := by decide +kernel
theorem dX5_write_1 : decode cX5_write 1 = .ok (.invokestatic 267, 3) := by decide +kernel
theorem dX5_write_4 : decode cX5_write 4 = .ok (.ifCond .ne 11, 3) := by decide +kernel
theorem dX5_write_7 : decode cX5_write 7 = .ok (.aload_n 0, 1) := by decide +kernel
theorem dX5_write_8 : decode cX5_write 8 = .ok (.ldc 42, 2) := by decide +kernel
theorem dX5_write_10 : decode cX5_write 10 = .ok (.invokevirtual 62, 3) := by decide +kernel
theorem dX5_write_13 : decode cX5_write 13 = .ok (.i2l, 1) := by decide +kernel
theorem dX5_write_14 : decode cX5_write 14 = .ok (.lreturn, 1) := by decide +kernel
theorem dX5_write_15 : decode cX5_write 15 = .ok (.aload_n 0, 1) := by decide +kernel
theorem dX5_write_16 : decode cX5_write 16 = .ok (.getfield 28, 3) := by decide +kernel
theorem dX5_write_19 : decode cX5_write 19 = .ok (.iload_n 1, 1) := by decide +kernel
theorem dX5_write_20 : decode cX5_write 20 = .ok (.iaload, 1) := by decide +kernel
theorem dX5_write_21 : decode cX5_write 21 = .ok (.ifCond .ge 12, 3) := by decide +kernel
theorem dX5_write_24 : decode cX5_write 24 = .ok (.aload_n 0, 1) := by decide +kernel
theorem dX5_write_25 : decode cX5_write 25 = .ok (.ldc_w 271, 3) := by decide +kernel
theorem dX5_write_28 : decode cX5_write 28 = .ok (.invokevirtual 62, 3) := by decide +kernel
theorem dX5_write_31 : decode cX5_write 31 = .ok (.i2l, 1) := by decide +kernel
theorem dX5_write_32 : decode cX5_write 32 = .ok (.lreturn, 1) := by decide +kernel
theorem dX5_write_33 : decode cX5_write 33 = .ok (.iload_n 2, 1) := by decide +kernel
theorem dX5_write_34 : decode cX5_write 34 = .ok (.i2l, 1) := by decide +kernel
theorem dX5_write_35 : decode cX5_write 35 = .ok (.lconst 0, 1) := by decide +kernel
theorem dX5_write_36 : decode cX5_write 36 = .ok (.aload_n 0, 1) := by decide +kernel
theorem dX5_write_37 : decode cX5_write 37 = .ok (.getfield 31, 3) := by decide +kernel
theorem dX5_write_40 : decode cX5_write 40 = .ok (.iload_n 1, 1) := by decide +kernel
theorem dX5_write_41 : decode cX5_write 41 = .ok (.iaload, 1) := by decide +kernel
theorem dX5_write_42 : decode cX5_write 42 = .ok (.iconst 1, 1) := by decide +kernel
theorem dX5_write_43 : decode cX5_write 43 = .ok (.isub, 1) := by decide +kernel
theorem dX5_write_44 : decode cX5_write 44 = .ok (.i2l, 1) := by decide +kernel
theorem dX5_write_45 : decode cX5_write 45 = .ok (.invokestatic 54, 3) := by decide +kernel
theorem dX5_write_48 : decode cX5_write 48 = .ok (.ifCond .ne 11, 3) := by decide +kernel
theorem dX5_write_51 : decode cX5_write 51 = .ok (.aload_n 0, 1) := by decide +kernel
theorem dX5_write_52 : decode cX5_write 52 = .ok (.ldc 42, 2) := by decide +kernel
theorem dX5_write_54 : decode cX5_write 54 = .ok (.invokevirtual 62, 3) := by decide +kernel
theorem dX5_write_57 : decode cX5_write 57 = .ok (.i2l, 1) := by decide +kernel
theorem dX5_write_58 : decode cX5_write 58 = .ok (.lreturn, 1) := by decide +kernel
theorem dX5_write_59 : decode cX5_write 59 = .ok (.aload_n 0, 1) := by decide +kernel
theorem dX5_write_60 : decode cX5_write 60 = .ok (.getfield 34, 3) := by decide +kernel
theorem dX5_write_63 : decode cX5_write 63 = .ok (.bipush 40, 2) := by decide +kernel
theorem dX5_write_65 : decode cX5_write 65 = .ok (.iload_n 1, 1) := by decide +kernel
theorem dX5_write_66 : decode cX5_write 66 = .ok (.imul, 1) := by decide +kernel
theorem dX5_write_67 : decode cX5_write 67 = .ok (.iload_n 2, 1) := by decide +kernel
theorem dX5_write_68 : decode cX5_write 68 = .ok (.iadd, 1) := by decide +kernel
theorem dX5_write_69 : decode cX5_write 69 = .ok (.laload, 1) := by decide +kernel
theorem dX5_write_70 : decode cX5_write 70 = .ok (.lstore 5, 2) := by decide +kernel
theorem dX5_write_72 : decode cX5_write 72 = .ok (.aload_n 0, 1) := by decide +kernel
theorem dX5_write_73 : decode cX5_write 73 = .ok (.getfield 34, 3) := by decide +kernel
theorem dX5_write_76 : decode cX5_write 76 = .ok (.bipush 40, 2) := by decide +kernel
theorem dX5_write_78 : decode cX5_write 78 = .ok (.iload_n 1, 1) := by decide +kernel
theorem dX5_write_79 : decode cX5_write 79 = .ok (.imul, 1) := by decide +kernel
theorem dX5_write_80 : decode cX5_write 80 = .ok (.iload_n 2, 1) := by decide +kernel
theorem dX5_write_81 : decode cX5_write 81 = .ok (.iadd, 1) := by decide +kernel
theorem dX5_write_82 : decode cX5_write 82 = .ok (.aload_n 0, 1) := by decide +kernel
theorem dX5_write_83 : decode cX5_write 83 = .ok (.getfield 28, 3) := by decide +kernel
theorem dX5_write_86 : decode cX5_write 86 = .ok (.iload_n 1, 1) := by decide +kernel
theorem dX5_write_87 : decode cX5_write 87 = .ok (.iaload, 1) := by decide +kernel
theorem dX5_write_88 : decode cX5_write 88 = .ok (.lload_n 3, 1) := by decide +kernel
theorem dX5_write_89 : decode cX5_write 89 = .ok (.invokestatic 272, 3) := by decide +kernel
theorem dX5_write_92 : decode cX5_write 92 = .ok (.lastore, 1) := by decide +kernel
theorem dX5_write_93 : decode cX5_write 93 = .ok (.lload 5, 2) := by decide +kernel
theorem dX5_write_95 : decode cX5_write 95 = .ok (.lreturn, 1) := by decide +kernel
theorem dX5_copy_0 : decode cX5_copy 0 = .ok (.iload_n 1, 1) := by decide +kernel
theorem dX5_copy_1 : decode cX5_copy 1 = .ok (.invokestatic 267, 3) := by decide +kernel
theorem dX5_copy_4 : decode cX5_copy 4 = .ok (.ifCond .eq 10, 3) := by decide +kernel
theorem dX5_copy_7 : decode cX5_copy 7 = .ok (.iload_n 3, 1) := by decide +kernel
theorem dX5_copy_8 : decode cX5_copy 8 = .ok (.invokestatic 267, 3) := by decide +kernel
theorem dX5_copy_11 : decode cX5_copy 11 = .ok (.ifCond .ne 10, 3) := by decide +kernel
theorem dX5_copy_14 : decode cX5_copy 14 = .ok (.aload_n 0, 1) := by decide +kernel
theorem dX5_copy_15 : decode cX5_copy 15 = .ok (.ldc 42, 2) := by decide +kernel
theorem dX5_copy_17 : decode cX5_copy 17 = .ok (.invokevirtual 62, 3) := by decide +kernel
theorem dX5_copy_20 : decode cX5_copy 20 = .ok (.ireturn, 1) := by decide +kernel
theorem dX5_copy_21 : decode cX5_copy 21 = .ok (.aload_n 0, 1) := by decide +kernel
theorem dX5_copy_22 : decode cX5_copy 22 = .ok (.getfield 28, 3) := by decide +kernel
theorem dX5_copy_25 : decode cX5_copy 25 = .ok (.iload_n 1, 1) := by decide +kernel
theorem dX5_copy_26 : decode cX5_copy 26 = .ok (.iaload, 1) := by decide +kernel
theorem dX5_copy_27 : decode cX5_copy 27 = .ok (.ifCond .lt 12, 3) := by decide +kernel
theorem dX5_copy_30 : decode cX5_copy 30 = .ok (.aload_n 0, 1) := by decide +kernel
theorem dX5_copy_31 : decode cX5_copy 31 = .ok (.getfield 28, 3) := by decide +kernel
theorem dX5_copy_34 : decode cX5_copy 34 = .ok (.iload_n 3, 1) := by decide +kernel
theorem dX5_copy_35 : decode cX5_copy 35 = .ok (.iaload, 1) := by decide +kernel
theorem dX5_copy_36 : decode cX5_copy 36 = .ok (.ifCond .ge 11, 3) := by decide +kernel
theorem dX5_copy_39 : decode cX5_copy 39 = .ok (.aload_n 0, 1) := by decide +kernel
theorem dX5_copy_40 : decode cX5_copy 40 = .ok (.ldc_w 271, 3) := by decide +kernel
theorem dX5_copy_43 : decode cX5_copy 43 = .ok (.invokevirtual 62, 3) := by decide +kernel
theorem dX5_copy_46 : decode cX5_copy 46 = .ok (.ireturn, 1) := by decide +kernel
theorem dX5_copy_47 : decode cX5_copy 47 = .ok (.aload_n 0, 1) := by decide +kernel
theorem dX5_copy_48 : decode cX5_copy 48 = .ok (.getfield 28, 3) := by decide +kernel
theorem dX5_copy_51 : decode cX5_copy 51 = .ok (.iload_n 1, 1) := by decide +kernel
theorem dX5_copy_52 : decode cX5_copy 52 = .ok (.iaload, 1) := by decide +kernel
theorem dX5_copy_53 : decode cX5_copy 53 = .ok (.aload_n 0, 1) := by decide +kernel
theorem dX5_copy_54 : decode cX5_copy 54 = .ok (.getfield 28, 3) := by decide +kernel
theorem dX5_copy_57 : decode cX5_copy 57 = .ok (.iload_n 3, 1) := by decide +kernel
theorem dX5_copy_58 : decode cX5_copy 58 = .ok (.iaload, 1) := by decide +kernel
theorem dX5_copy_59 : decode cX5_copy 59 = .ok (.if_icmp .eq 10, 3) := by decide +kernel
theorem dX5_copy_62 : decode cX5_copy 62 = .ok (.aload_n 0, 1) := by decide +kernel
theorem dX5_copy_63 : decode cX5_copy 63 = .ok (.ldc 103, 2) := by decide +kernel
theorem dX5_copy_65 : decode cX5_copy 65 = .ok (.invokevirtual 62, 3) := by decide +kernel
theorem dX5_copy_68 : decode cX5_copy 68 = .ok (.ireturn, 1) := by decide +kernel
theorem dX5_copy_69 : decode cX5_copy 69 = .ok (.iload_n 2, 1) := by decide +kernel
theorem dX5_copy_70 : decode cX5_copy 70 = .ok (.ifCond .lt 40, 3) := by decide +kernel
theorem dX5_copy_73 : decode cX5_copy 73 = .ok (.iload 4, 2) := by decide +kernel
theorem dX5_copy_75 : decode cX5_copy 75 = .ok (.ifCond .lt 35, 3) := by decide +kernel
theorem dX5_copy_78 : decode cX5_copy 78 = .ok (.iload 5, 2) := by decide +kernel
theorem dX5_copy_80 : decode cX5_copy 80 = .ok (.ifCond .lt 30, 3) := by decide +kernel
theorem dX5_copy_83 : decode cX5_copy 83 = .ok (.iload 5, 2) := by decide +kernel
theorem dX5_copy_85 : decode cX5_copy 85 = .ok (.aload_n 0, 1) := by decide +kernel
theorem dX5_copy_86 : decode cX5_copy 86 = .ok (.getfield 31, 3) := by decide +kernel
theorem dX5_copy_89 : decode cX5_copy 89 = .ok (.iload_n 1, 1) := by decide +kernel
theorem dX5_copy_90 : decode cX5_copy 90 = .ok (.iaload, 1) := by decide +kernel
theorem dX5_copy_91 : decode cX5_copy 91 = .ok (.iload_n 2, 1) := by decide +kernel
theorem dX5_copy_92 : decode cX5_copy 92 = .ok (.isub, 1) := by decide +kernel
theorem dX5_copy_93 : decode cX5_copy 93 = .ok (.if_icmp .gt 17, 3) := by decide +kernel
theorem dX5_copy_96 : decode cX5_copy 96 = .ok (.iload 5, 2) := by decide +kernel
theorem dX5_copy_98 : decode cX5_copy 98 = .ok (.aload_n 0, 1) := by decide +kernel
theorem dX5_copy_99 : decode cX5_copy 99 = .ok (.getfield 31, 3) := by decide +kernel
theorem dX5_copy_102 : decode cX5_copy 102 = .ok (.iload_n 3, 1) := by decide +kernel
theorem dX5_copy_103 : decode cX5_copy 103 = .ok (.iaload, 1) := by decide +kernel
theorem dX5_copy_104 : decode cX5_copy 104 = .ok (.iload 4, 2) := by decide +kernel
theorem dX5_copy_106 : decode cX5_copy 106 = .ok (.isub, 1) := by decide +kernel
theorem dX5_copy_107 : decode cX5_copy 107 = .ok (.if_icmp .le 10, 3) := by decide +kernel
theorem dX5_copy_110 : decode cX5_copy 110 = .ok (.aload_n 0, 1) := by decide +kernel
theorem dX5_copy_111 : decode cX5_copy 111 = .ok (.ldc 42, 2) := by decide +kernel
theorem dX5_copy_113 : decode cX5_copy 113 = .ok (.invokevirtual 62, 3) := by decide +kernel
theorem dX5_copy_116 : decode cX5_copy 116 = .ok (.ireturn, 1) := by decide +kernel
theorem dX5_copy_117 : decode cX5_copy 117 = .ok (.bipush 40, 2) := by decide +kernel
theorem dX5_copy_119 : decode cX5_copy 119 = .ok (.iload_n 1, 1) := by decide +kernel
theorem dX5_copy_120 : decode cX5_copy 120 = .ok (.imul, 1) := by decide +kernel
theorem dX5_copy_121 : decode cX5_copy 121 = .ok (.iload_n 2, 1) := by decide +kernel
theorem dX5_copy_122 : decode cX5_copy 122 = .ok (.iadd, 1) := by decide +kernel
theorem dX5_copy_123 : decode cX5_copy 123 = .ok (.istore 6, 2) := by decide +kernel
theorem dX5_copy_125 : decode cX5_copy 125 = .ok (.bipush 40, 2) := by decide +kernel
theorem dX5_copy_127 : decode cX5_copy 127 = .ok (.iload_n 3, 1) := by decide +kernel
theorem dX5_copy_128 : decode cX5_copy 128 = .ok (.imul, 1) := by decide +kernel
theorem dX5_copy_129 : decode cX5_copy 129 = .ok (.iload 4, 2) := by decide +kernel
theorem dX5_copy_131 : decode cX5_copy 131 = .ok (.iadd, 1) := by decide +kernel
theorem dX5_copy_132 : decode cX5_copy 132 = .ok (.istore 7, 2) := by decide +kernel
theorem dX5_copy_134 : decode cX5_copy 134 = .ok (.iconst 0, 1) := by decide +kernel
theorem dX5_copy_135 : decode cX5_copy 135 = .ok (.istore 8, 2) := by decide +kernel
theorem dX5_copy_137 : decode cX5_copy 137 = .ok (.iload 8, 2) := by decide +kernel
theorem dX5_copy_139 : decode cX5_copy 139 = .ok (.iload 5, 2) := by decide +kernel
theorem dX5_copy_141 : decode cX5_copy 141 = .ok (.if_icmp .ge 50, 3) := by decide +kernel
theorem dX5_copy_144 : decode cX5_copy 144 = .ok (.iload 6, 2) := by decide +kernel
theorem dX5_copy_146 : decode cX5_copy 146 = .ok (.iload 7, 2) := by decide +kernel
theorem dX5_copy_148 : decode cX5_copy 148 = .ok (.if_icmp .ge 13, 3) := by decide +kernel
theorem dX5_copy_151 : decode cX5_copy 151 = .ok (.iload 5, 2) := by decide +kernel
theorem dX5_copy_153 : decode cX5_copy 153 = .ok (.iconst 1, 1) := by decide +kernel
theorem dX5_copy_154 : decode cX5_copy 154 = .ok (.isub, 1) := by decide +kernel
theorem dX5_copy_155 : decode cX5_copy 155 = .ok (.iload 8, 2) := by decide +kernel
theorem dX5_copy_157 : decode cX5_copy 157 = .ok (.isub, 1) := by decide +kernel
theorem dX5_copy_158 : decode cX5_copy 158 = .ok (.goto 5, 3) := by decide +kernel
theorem dX5_copy_161 : decode cX5_copy 161 = .ok (.iload 8, 2) := by decide +kernel
theorem dX5_copy_163 : decode cX5_copy 163 = .ok (.istore 9, 2) := by decide +kernel
theorem dX5_copy_165 : decode cX5_copy 165 = .ok (.aload_n 0, 1) := by decide +kernel
theorem dX5_copy_166 : decode cX5_copy 166 = .ok (.getfield 34, 3) := by decide +kernel
theorem dX5_copy_169 : decode cX5_copy 169 = .ok (.iload 7, 2) := by decide +kernel
theorem dX5_copy_171 : decode cX5_copy 171 = .ok (.iload 9, 2) := by decide +kernel
theorem dX5_copy_173 : decode cX5_copy 173 = .ok (.iadd, 1) := by decide +kernel
theorem dX5_copy_174 : decode cX5_copy 174 = .ok (.aload_n 0, 1) := by decide +kernel
theorem dX5_copy_175 : decode cX5_copy 175 = .ok (.getfield 34, 3) := by decide +kernel
theorem dX5_copy_178 : decode cX5_copy 178 = .ok (.iload 6, 2) := by decide +kernel
theorem dX5_copy_180 : decode cX5_copy 180 = .ok (.iload 9, 2) := by decide +kernel
theorem dX5_copy_182 : decode cX5_copy 182 = .ok (.iadd, 1) := by decide +kernel
theorem dX5_copy_183 : decode cX5_copy 183 = .ok (.laload, 1) := by decide +kernel
theorem dX5_copy_184 : decode cX5_copy 184 = .ok (.lastore, 1) := by decide +kernel
theorem dX5_copy_185 : decode cX5_copy 185 = .ok (.iinc 8 1, 3) := by decide +kernel
theorem dX5_copy_188 : decode cX5_copy 188 = .ok (.goto (-51), 3) := by decide +kernel
theorem dX5_copy_191 : decode cX5_copy 191 = .ok (.iload 5, 2) := by decide +kernel
theorem dX5_copy_193 : decode cX5_copy 193 = .ok (.ireturn, 1) := by decide +kernel
theorem dX5_wants_0 : decode cX5_wants 0 = .ok (.iload_n 1, 1) := by decide +kernel
theorem dX5_wants_1 : decode cX5_wants 1 = .ok (.invokestatic 267, 3) := by decide +kernel
theorem dX5_wants_4 : decode cX5_wants 4 = .ok (.ifCond .ne 8, 3) := by decide +kernel
theorem dX5_wants_7 : decode cX5_wants 7 = .ok (.ldc 42, 2) := by decide +kernel
theorem dX5_wants_9 : decode cX5_wants 9 = .ok (.goto 19, 3) := by decide +kernel
theorem dX5_wants_12 : decode cX5_wants 12 = .ok (.aload_n 0, 1) := by decide +kernel
theorem dX5_wants_13 : decode cX5_wants 13 = .ok (.getfield 28, 3) := by decide +kernel
theorem dX5_wants_16 : decode cX5_wants 16 = .ok (.iload_n 1, 1) := by decide +kernel
theorem dX5_wants_17 : decode cX5_wants 17 = .ok (.iaload, 1) := by decide +kernel
theorem dX5_wants_18 : decode cX5_wants 18 = .ok (.ifCond .ge 9, 3) := by decide +kernel
theorem dX5_wants_21 : decode cX5_wants 21 = .ok (.ldc_w 271, 3) := by decide +kernel
theorem dX5_wants_24 : decode cX5_wants 24 = .ok (.goto 4, 3) := by decide +kernel
theorem dX5_wants_27 : decode cX5_wants 27 = .ok (.iconst 0, 1) := by decide +kernel
theorem dX5_wants_28 : decode cX5_wants 28 = .ok (.ireturn, 1) := by decide +kernel
theorem dX5_lays_0 : decode cX5_lays 0 = .ok (.aload_n 0, 1) := by decide +kernel
theorem dX5_lays_1 : decode cX5_lays 1 = .ok (.iload_n 1, 1) := by decide +kernel
theorem dX5_lays_2 : decode cX5_lays 2 = .ok (.invokevirtual 276, 3) := by decide +kernel
theorem dX5_lays_5 : decode cX5_lays 5 = .ok (.ifCond .eq 11, 3) := by decide +kernel
theorem dX5_lays_8 : decode cX5_lays 8 = .ok (.aload_n 0, 1) := by decide +kernel
theorem dX5_lays_9 : decode cX5_lays 9 = .ok (.iload_n 1, 1) := by decide +kernel
theorem dX5_lays_10 : decode cX5_lays 10 = .ok (.invokevirtual 276, 3) := by decide +kernel
theorem dX5_lays_13 : decode cX5_lays 13 = .ok (.goto 17, 3) := by decide +kernel
theorem dX5_lays_16 : decode cX5_lays 16 = .ok (.aload_n 0, 1) := by decide +kernel
theorem dX5_lays_17 : decode cX5_lays 17 = .ok (.iload_n 2, 1) := by decide +kernel
theorem dX5_lays_18 : decode cX5_lays 18 = .ok (.invokevirtual 43, 3) := by decide +kernel
theorem dX5_lays_21 : decode cX5_lays 21 = .ok (.ifCond .eq 7, 3) := by decide +kernel
theorem dX5_lays_24 : decode cX5_lays 24 = .ok (.iconst 0, 1) := by decide +kernel
theorem dX5_lays_25 : decode cX5_lays 25 = .ok (.goto 5, 3) := by decide +kernel
theorem dX5_lays_28 : decode cX5_lays 28 = .ok (.ldc 42, 2) := by decide +kernel
theorem dX5_lays_30 : decode cX5_lays 30 = .ok (.istore_n 3, 1) := by decide +kernel
theorem dX5_lays_31 : decode cX5_lays 31 = .ok (.iload_n 3, 1) := by decide +kernel
theorem dX5_lays_32 : decode cX5_lays 32 = .ok (.ifCond .eq 9, 3) := by decide +kernel
theorem dX5_lays_35 : decode cX5_lays 35 = .ok (.aload_n 0, 1) := by decide +kernel
theorem dX5_lays_36 : decode cX5_lays 36 = .ok (.iload_n 3, 1) := by decide +kernel
theorem dX5_lays_37 : decode cX5_lays 37 = .ok (.invokevirtual 62, 3) := by decide +kernel
theorem dX5_lays_40 : decode cX5_lays 40 = .ok (.ireturn, 1) := by decide +kernel
theorem dX5_lays_41 : decode cX5_lays 41 = .ok (.iconst 0, 1) := by decide +kernel
theorem dX5_lays_42 : decode cX5_lays 42 = .ok (.istore 4, 2) := by decide +kernel
theorem dX5_lays_44 : decode cX5_lays 44 = .ok (.iconst 0, 1) := by decide +kernel
theorem dX5_lays_45 : decode cX5_lays 45 = .ok (.istore 5, 2) := by decide +kernel
theorem dX5_lays_47 : decode cX5_lays 47 = .ok (.iload 5, 2) := by decide +kernel
theorem dX5_lays_49 : decode cX5_lays 49 = .ok (.aload_n 0, 1) := by decide +kernel
theorem dX5_lays_50 : decode cX5_lays 50 = .ok (.getfield 31, 3) := by decide +kernel
theorem dX5_lays_53 : decode cX5_lays 53 = .ok (.iload_n 1, 1) := by decide +kernel
theorem dX5_lays_54 : decode cX5_lays 54 = .ok (.iaload, 1) := by decide +kernel
theorem dX5_lays_55 : decode cX5_lays 55 = .ok (.if_icmp .ge 58, 3) := by decide +kernel
theorem dX5_lays_58 : decode cX5_lays 58 = .ok (.iload 5, 2) := by decide +kernel
theorem dX5_lays_60 : decode cX5_lays 60 = .ok (.bipush 9, 2) := by decide +kernel
theorem dX5_lays_62 : decode cX5_lays 62 = .ok (.if_icmp .ge 51, 3) := by decide +kernel
theorem dX5_lays_65 : decode cX5_lays 65 = .ok (.aload_n 0, 1) := by decide +kernel
theorem dX5_lays_66 : decode cX5_lays 66 = .ok (.getfield 34, 3) := by decide +kernel
theorem dX5_lays_69 : decode cX5_lays 69 = .ok (.bipush 40, 2) := by decide +kernel
theorem dX5_lays_71 : decode cX5_lays 71 = .ok (.iload_n 1, 1) := by decide +kernel
theorem dX5_lays_72 : decode cX5_lays 72 = .ok (.imul, 1) := by decide +kernel
theorem dX5_lays_73 : decode cX5_lays 73 = .ok (.iload 5, 2) := by decide +kernel
theorem dX5_lays_75 : decode cX5_lays 75 = .ok (.iadd, 1) := by decide +kernel
theorem dX5_lays_76 : decode cX5_lays 76 = .ok (.laload, 1) := by decide +kernel
theorem dX5_lays_77 : decode cX5_lays 77 = .ok (.lstore 6, 2) := by decide +kernel
theorem dX5_lays_79 : decode cX5_lays 79 = .ok (.lload 6, 2) := by decide +kernel
theorem dX5_lays_81 : decode cX5_lays 81 = .ok (.lconst 0, 1) := by decide +kernel
theorem dX5_lays_82 : decode cX5_lays 82 = .ok (.ldc2_w 98, 3) := by decide +kernel
theorem dX5_lays_85 : decode cX5_lays 85 = .ok (.invokestatic 54, 3) := by decide +kernel
theorem dX5_lays_88 : decode cX5_lays 88 = .ok (.ifCond .eq 19, 3) := by decide +kernel
theorem dX5_lays_91 : decode cX5_lays 91 = .ok (.aload_n 0, 1) := by decide +kernel
theorem dX5_lays_92 : decode cX5_lays 92 = .ok (.iload_n 2, 1) := by decide +kernel
theorem dX5_lays_93 : decode cX5_lays 93 = .ok (.bipush 6, 2) := by decide +kernel
theorem dX5_lays_95 : decode cX5_lays 95 = .ok (.iload 5, 2) := by decide +kernel
theorem dX5_lays_97 : decode cX5_lays 97 = .ok (.iadd, 1) := by decide +kernel
theorem dX5_lays_98 : decode cX5_lays 98 = .ok (.lload 6, 2) := by decide +kernel
theorem dX5_lays_100 : decode cX5_lays 100 = .ok (.l2i, 1) := by decide +kernel
theorem dX5_lays_101 : decode cX5_lays 101 = .ok (.invokevirtual 71, 3) := by decide +kernel
theorem dX5_lays_104 : decode cX5_lays 104 = .ok (.iinc 4 1, 3) := by decide +kernel
theorem dX5_lays_107 : decode cX5_lays 107 = .ok (.iinc 5 1, 3) := by decide +kernel
theorem dX5_lays_110 : decode cX5_lays 110 = .ok (.goto (-63), 3) := by decide +kernel
theorem dX5_lays_113 : decode cX5_lays 113 = .ok (.iload 4, 2) := by decide +kernel
theorem dX5_lays_115 : decode cX5_lays 115 = .ok (.ireturn, 1) := by decide +kernel
theorem dX5_book_0 : decode cX5_book 0 = .ok (.aload_n 0, 1) := by decide +kernel
theorem dX5_book_1 : decode cX5_book 1 = .ok (.iload_n 1, 1) := by decide +kernel
theorem dX5_book_2 : decode cX5_book 2 = .ok (.invokevirtual 276, 3) := by decide +kernel
theorem dX5_book_5 : decode cX5_book 5 = .ok (.ifCond .eq 11, 3) := by decide +kernel
theorem dX5_book_8 : decode cX5_book 8 = .ok (.aload_n 0, 1) := by decide +kernel
theorem dX5_book_9 : decode cX5_book 9 = .ok (.iload_n 1, 1) := by decide +kernel
theorem dX5_book_10 : decode cX5_book 10 = .ok (.invokevirtual 276, 3) := by decide +kernel
theorem dX5_book_13 : decode cX5_book 13 = .ok (.goto 8, 3) := by decide +kernel
theorem dX5_book_16 : decode cX5_book 16 = .ok (.aload_n 0, 1) := by decide +kernel
theorem dX5_book_17 : decode cX5_book 17 = .ok (.iload_n 2, 1) := by decide +kernel
theorem dX5_book_18 : decode cX5_book 18 = .ok (.invokevirtual 170, 3) := by decide +kernel
theorem dX5_book_21 : decode cX5_book 21 = .ok (.istore_n 3, 1) := by decide +kernel
theorem dX5_book_22 : decode cX5_book 22 = .ok (.iload_n 3, 1) := by decide +kernel
theorem dX5_book_23 : decode cX5_book 23 = .ok (.ifCond .eq 9, 3) := by decide +kernel
theorem dX5_book_26 : decode cX5_book 26 = .ok (.aload_n 0, 1) := by decide +kernel
theorem dX5_book_27 : decode cX5_book 27 = .ok (.iload_n 3, 1) := by decide +kernel
theorem dX5_book_28 : decode cX5_book 28 = .ok (.invokevirtual 62, 3) := by decide +kernel
theorem dX5_book_31 : decode cX5_book 31 = .ok (.ireturn, 1) := by decide +kernel
theorem dX5_book_32 : decode cX5_book 32 = .ok (.aload_n 0, 1) := by decide +kernel
theorem dX5_book_33 : decode cX5_book 33 = .ok (.invokevirtual 173, 3) := by decide +kernel
theorem dX5_book_36 : decode cX5_book 36 = .ok (.aload_n 0, 1) := by decide +kernel
theorem dX5_book_37 : decode cX5_book 37 = .ok (.iload_n 2, 1) := by decide +kernel
theorem dX5_book_38 : decode cX5_book 38 = .ok (.invokevirtual 160, 3) := by decide +kernel
theorem dX5_book_41 : decode cX5_book 41 = .ok (.istore 4, 2) := by decide +kernel
theorem dX5_book_43 : decode cX5_book 43 = .ok (.iconst 0, 1) := by decide +kernel
theorem dX5_book_44 : decode cX5_book 44 = .ok (.istore 5, 2) := by decide +kernel
theorem dX5_book_46 : decode cX5_book 46 = .ok (.iconst 0, 1) := by decide +kernel
theorem dX5_book_47 : decode cX5_book 47 = .ok (.istore 6, 2) := by decide +kernel
theorem dX5_book_49 : decode cX5_book 49 = .ok (.iload 6, 2) := by decide +kernel
theorem dX5_book_51 : decode cX5_book 51 = .ok (.aload_n 0, 1) := by decide +kernel
theorem dX5_book_52 : decode cX5_book 52 = .ok (.getfield 31, 3) := by decide +kernel
theorem dX5_book_55 : decode cX5_book 55 = .ok (.iload_n 1, 1) := by decide +kernel
theorem dX5_book_56 : decode cX5_book 56 = .ok (.iaload, 1) := by decide +kernel
theorem dX5_book_57 : decode cX5_book 57 = .ok (.if_icmp .ge 51, 3) := by decide +kernel
theorem dX5_book_60 : decode cX5_book 60 = .ok (.iload 6, 2) := by decide +kernel
theorem dX5_book_62 : decode cX5_book 62 = .ok (.aload_n 0, 1) := by decide +kernel
theorem dX5_book_63 : decode cX5_book 63 = .ok (.getfield 7, 3) := by decide +kernel
theorem dX5_book_66 : decode cX5_book 66 = .ok (.iconst 0, 1) := by decide +kernel
theorem dX5_book_67 : decode cX5_book 67 = .ok (.iaload, 1) := by decide +kernel
theorem dX5_book_68 : decode cX5_book 68 = .ok (.if_icmp .ge 40, 3) := by decide +kernel
theorem dX5_book_71 : decode cX5_book 71 = .ok (.aload_n 0, 1) := by decide +kernel
theorem dX5_book_72 : decode cX5_book 72 = .ok (.getfield 34, 3) := by decide +kernel
theorem dX5_book_75 : decode cX5_book 75 = .ok (.bipush 40, 2) := by decide +kernel
theorem dX5_book_77 : decode cX5_book 77 = .ok (.iload_n 1, 1) := by decide +kernel
theorem dX5_book_78 : decode cX5_book 78 = .ok (.imul, 1) := by decide +kernel
theorem dX5_book_79 : decode cX5_book 79 = .ok (.iload 6, 2) := by decide +kernel
theorem dX5_book_81 : decode cX5_book 81 = .ok (.iadd, 1) := by decide +kernel
theorem dX5_book_82 : decode cX5_book 82 = .ok (.aload_n 0, 1) := by decide +kernel
theorem dX5_book_83 : decode cX5_book 83 = .ok (.getfield 28, 3) := by decide +kernel
theorem dX5_book_86 : decode cX5_book 86 = .ok (.iload_n 1, 1) := by decide +kernel
theorem dX5_book_87 : decode cX5_book 87 = .ok (.iaload, 1) := by decide +kernel
theorem dX5_book_88 : decode cX5_book 88 = .ok (.aload_n 0, 1) := by decide +kernel
theorem dX5_book_89 : decode cX5_book 89 = .ok (.iload 6, 2) := by decide +kernel
theorem dX5_book_91 : decode cX5_book 91 = .ok (.invokevirtual 113, 3) := by decide +kernel
theorem dX5_book_94 : decode cX5_book 94 = .ok (.i2l, 1) := by decide +kernel
theorem dX5_book_95 : decode cX5_book 95 = .ok (.invokestatic 272, 3) := by decide +kernel
theorem dX5_book_98 : decode cX5_book 98 = .ok (.lastore, 1) := by decide +kernel
theorem dX5_book_99 : decode cX5_book 99 = .ok (.iinc 5 1, 3) := by decide +kernel
theorem dX5_book_102 : decode cX5_book 102 = .ok (.iinc 6 1, 3) := by decide +kernel
theorem dX5_book_105 : decode cX5_book 105 = .ok (.goto (-56), 3) := by decide +kernel
theorem dX5_book_108 : decode cX5_book 108 = .ok (.aload_n 0, 1) := by decide +kernel
theorem dX5_book_109 : decode cX5_book 109 = .ok (.invokevirtual 176, 3) := by decide +kernel
theorem dX5_book_112 : decode cX5_book 112 = .ok (.iload 5, 2) := by decide +kernel
theorem dX5_book_114 : decode cX5_book 114 = .ok (.ireturn, 1) := by decide +kernel
theorem dX5_likeStranger_0 : decode cX5_likeStranger 0 = .ok (.iconst 0, 1) := by decide +kernel
theorem dX5_likeStranger_1 : decode cX5_likeStranger 1 = .ok (.istore_n 3, 1) := by decide +kernel
theorem dX5_likeStranger_2 : decode cX5_likeStranger 2 = .ok (.iconst 0, 1) := by decide +kernel
theorem dX5_likeStranger_3 : decode cX5_likeStranger 3 = .ok (.istore 4, 2) := by decide +kernel
theorem dX5_likeStranger_5 : decode cX5_likeStranger 5 = .ok (.iload 4, 2) := by decide +kernel
theorem dX5_likeStranger_7 : decode cX5_likeStranger 7 = .ok (.bipush 9, 2) := by decide +kernel
theorem dX5_likeStranger_9 : decode cX5_likeStranger 9 = .ok (.if_icmp .ge 108, 3) := by decide +kernel
theorem dX5_likeStranger_12 : decode cX5_likeStranger 12 = .ok (.iload 4, 2) := by decide +kernel
theorem dX5_likeStranger_14 : decode cX5_likeStranger 14 = .ok (.aload_n 0, 1) := by decide +kernel
theorem dX5_likeStranger_15 : decode cX5_likeStranger 15 = .ok (.getfield 31, 3) := by decide +kernel
theorem dX5_likeStranger_18 : decode cX5_likeStranger 18 = .ok (.iload_n 1, 1) := by decide +kernel
theorem dX5_likeStranger_19 : decode cX5_likeStranger 19 = .ok (.iaload, 1) := by decide +kernel
theorem dX5_likeStranger_20 : decode cX5_likeStranger 20 = .ok (.if_icmp .ge 97, 3) := by decide +kernel
theorem dX5_likeStranger_23 : decode cX5_likeStranger 23 = .ok (.aload_n 0, 1) := by decide +kernel
theorem dX5_likeStranger_24 : decode cX5_likeStranger 24 = .ok (.getfield 34, 3) := by decide +kernel
theorem dX5_likeStranger_27 : decode cX5_likeStranger 27 = .ok (.bipush 40, 2) := by decide +kernel
theorem dX5_likeStranger_29 : decode cX5_likeStranger 29 = .ok (.iload_n 1, 1) := by decide +kernel
theorem dX5_likeStranger_30 : decode cX5_likeStranger 30 = .ok (.imul, 1) := by decide +kernel
theorem dX5_likeStranger_31 : decode cX5_likeStranger 31 = .ok (.iload 4, 2) := by decide +kernel
theorem dX5_likeStranger_33 : decode cX5_likeStranger 33 = .ok (.iadd, 1) := by decide +kernel
theorem dX5_likeStranger_34 : decode cX5_likeStranger 34 = .ok (.laload, 1) := by decide +kernel
theorem dX5_likeStranger_35 : decode cX5_likeStranger 35 = .ok (.lstore 5, 2) := by decide +kernel
theorem dX5_likeStranger_37 : decode cX5_likeStranger 37 = .ok (.lload 5, 2) := by decide +kernel
theorem dX5_likeStranger_39 : decode cX5_likeStranger 39 = .ok (.aload_n 0, 1) := by decide +kernel
theorem dX5_likeStranger_40 : decode cX5_likeStranger 40 = .ok (.iload_n 2, 1) := by decide +kernel
theorem dX5_likeStranger_41 : decode cX5_likeStranger 41 = .ok (.bipush 6, 2) := by decide +kernel
theorem dX5_likeStranger_43 : decode cX5_likeStranger 43 = .ok (.iload 4, 2) := by decide +kernel
theorem dX5_likeStranger_45 : decode cX5_likeStranger 45 = .ok (.iadd, 1) := by decide +kernel
theorem dX5_likeStranger_46 : decode cX5_likeStranger 46 = .ok (.invokevirtual 47, 3) := by decide +kernel
theorem dX5_likeStranger_49 : decode cX5_likeStranger 49 = .ok (.i2l, 1) := by decide +kernel
theorem dX5_likeStranger_50 : decode cX5_likeStranger 50 = .ok (.lcmp, 1) := by decide +kernel
theorem dX5_likeStranger_51 : decode cX5_likeStranger 51 = .ok (.ifCond .eq 20, 3) := by decide +kernel
theorem dX5_likeStranger_54 : decode cX5_likeStranger 54 = .ok (.iload 4, 2) := by decide +kernel
theorem dX5_likeStranger_56 : decode cX5_likeStranger 56 = .ok (.bipush 8, 2) := by decide +kernel
theorem dX5_likeStranger_58 : decode cX5_likeStranger 58 = .ok (.if_icmp .ne 17, 3) := by decide +kernel
theorem dX5_likeStranger_61 : decode cX5_likeStranger 61 = .ok (.aload_n 0, 1) := by decide +kernel
theorem dX5_likeStranger_62 : decode cX5_likeStranger 62 = .ok (.iload_n 2, 1) := by decide +kernel
theorem dX5_likeStranger_63 : decode cX5_likeStranger 63 = .ok (.iconst 0, 1) := by decide +kernel
theorem dX5_likeStranger_64 : decode cX5_likeStranger 64 = .ok (.invokevirtual 47, 3) := by decide +kernel
theorem dX5_likeStranger_67 : decode cX5_likeStranger 67 = .ok (.iconst 4, 1) := by decide +kernel
theorem dX5_likeStranger_68 : decode cX5_likeStranger 68 = .ok (.if_icmp .ne 7, 3) := by decide +kernel
theorem dX5_likeStranger_71 : decode cX5_likeStranger 71 = .ok (.iconst 1, 1) := by decide +kernel
theorem dX5_likeStranger_72 : decode cX5_likeStranger 72 = .ok (.goto 4, 3) := by decide +kernel
theorem dX5_likeStranger_75 : decode cX5_likeStranger 75 = .ok (.iconst 0, 1) := by decide +kernel
theorem dX5_likeStranger_76 : decode cX5_likeStranger 76 = .ok (.istore 7, 2) := by decide +kernel
theorem dX5_likeStranger_78 : decode cX5_likeStranger 78 = .ok (.iload_n 3, 1) := by decide +kernel
theorem dX5_likeStranger_79 : decode cX5_likeStranger 79 = .ok (.lload 5, 2) := by decide +kernel
theorem dX5_likeStranger_81 : decode cX5_likeStranger 81 = .ok (.lconst 0, 1) := by decide +kernel
theorem dX5_likeStranger_82 : decode cX5_likeStranger 82 = .ok (.ldc2_w 98, 3) := by decide +kernel
theorem dX5_likeStranger_85 : decode cX5_likeStranger 85 = .ok (.invokestatic 54, 3) := by decide +kernel
theorem dX5_likeStranger_88 : decode cX5_likeStranger 88 = .ok (.ifCond .eq 20, 3) := by decide +kernel
theorem dX5_likeStranger_91 : decode cX5_likeStranger 91 = .ok (.iload 7, 2) := by decide +kernel
theorem dX5_likeStranger_93 : decode cX5_likeStranger 93 = .ok (.ifCond .eq 15, 3) := by decide +kernel
theorem dX5_likeStranger_96 : decode cX5_likeStranger 96 = .ok (.aload_n 0, 1) := by decide +kernel
theorem dX5_likeStranger_97 : decode cX5_likeStranger 97 = .ok (.getfield 7, 3) := by decide +kernel
theorem dX5_likeStranger_100 : decode cX5_likeStranger 100 = .ok (.iconst 3, 1) := by decide +kernel
theorem dX5_likeStranger_101 : decode cX5_likeStranger 101 = .ok (.iload 4, 2) := by decide +kernel
theorem dX5_likeStranger_103 : decode cX5_likeStranger 103 = .ok (.iadd, 1) := by decide +kernel
theorem dX5_likeStranger_104 : decode cX5_likeStranger 104 = .ok (.iaload, 1) := by decide +kernel
theorem dX5_likeStranger_105 : decode cX5_likeStranger 105 = .ok (.goto 4, 3) := by decide +kernel
theorem dX5_likeStranger_108 : decode cX5_likeStranger 108 = .ok (.iconst 0, 1) := by decide +kernel
theorem dX5_likeStranger_109 : decode cX5_likeStranger 109 = .ok (.iadd, 1) := by decide +kernel
theorem dX5_likeStranger_110 : decode cX5_likeStranger 110 = .ok (.istore_n 3, 1) := by decide +kernel
theorem dX5_likeStranger_111 : decode cX5_likeStranger 111 = .ok (.iinc 4 1, 3) := by decide +kernel
theorem dX5_likeStranger_114 : decode cX5_likeStranger 114 = .ok (.goto (-109), 3) := by decide +kernel
theorem dX5_likeStranger_117 : decode cX5_likeStranger 117 = .ok (.iload_n 3, 1) := by decide +kernel
theorem dX5_likeStranger_118 : decode cX5_likeStranger 118 = .ok (.ireturn, 1) := by decide +kernel
theorem dX5_read_0 : decode cX5_read 0 = .ok (.aload_n 0, 1) := by decide +kernel
theorem dX5_read_1 : decode cX5_read 1 = .ok (.iload_n 1, 1) := by decide +kernel
theorem dX5_read_2 : decode cX5_read 2 = .ok (.invokevirtual 276, 3) := by decide +kernel
theorem dX5_read_5 : decode cX5_read 5 = .ok (.ifCond .eq 13, 3) := by decide +kernel
theorem dX5_read_8 : decode cX5_read 8 = .ok (.aload_n 0, 1) := by decide +kernel
theorem dX5_read_9 : decode cX5_read 9 = .ok (.aload_n 0, 1) := by decide +kernel
theorem dX5_read_10 : decode cX5_read 10 = .ok (.iload_n 1, 1) := by decide +kernel
theorem dX5_read_11 : decode cX5_read 11 = .ok (.invokevirtual 276, 3) := by decide +kernel
theorem dX5_read_14 : decode cX5_read 14 = .ok (.invokevirtual 62, 3) := by decide +kernel
theorem dX5_read_17 : decode cX5_read 17 = .ok (.ireturn, 1) := by decide +kernel
theorem dX5_read_18 : decode cX5_read 18 = .ok (.iconst (-1), 1) := by decide +kernel
theorem dX5_read_19 : decode cX5_read 19 = .ok (.istore_n 2, 1) := by decide +kernel
theorem dX5_read_20 : decode cX5_read 20 = .ok (.iconst 0, 1) := by decide +kernel
theorem dX5_read_21 : decode cX5_read 21 = .ok (.istore_n 3, 1) := by decide +kernel
theorem dX5_read_22 : decode cX5_read 22 = .ok (.iload_n 3, 1) := by decide +kernel
theorem dX5_read_23 : decode cX5_read 23 = .ok (.aload_n 0, 1) := by decide +kernel
theorem dX5_read_24 : decode cX5_read 24 = .ok (.getfield 7, 3) := by decide +kernel
theorem dX5_read_27 : decode cX5_read 27 = .ok (.iconst 0, 1) := by decide +kernel
theorem dX5_read_28 : decode cX5_read 28 = .ok (.iaload, 1) := by decide +kernel
theorem dX5_read_29 : decode cX5_read 29 = .ok (.if_icmp .ge 71, 3) := by decide +kernel
theorem dX5_read_32 : decode cX5_read 32 = .ok (.aload_n 0, 1) := by decide +kernel
theorem dX5_read_33 : decode cX5_read 33 = .ok (.iload_n 3, 1) := by decide +kernel
theorem dX5_read_34 : decode cX5_read 34 = .ok (.invokevirtual 107, 3) := by decide +kernel
theorem dX5_read_37 : decode cX5_read 37 = .ok (.ifCond .eq 57, 3) := by decide +kernel
theorem dX5_read_40 : decode cX5_read 40 = .ok (.iload_n 2, 1) := by decide +kernel
theorem dX5_read_41 : decode cX5_read 41 = .ok (.ifCond .ge 7, 3) := by decide +kernel
theorem dX5_read_44 : decode cX5_read 44 = .ok (.iconst 1, 1) := by decide +kernel
theorem dX5_read_45 : decode cX5_read 45 = .ok (.goto 16, 3) := by decide +kernel
theorem dX5_read_48 : decode cX5_read 48 = .ok (.aload_n 0, 1) := by decide +kernel
theorem dX5_read_49 : decode cX5_read 49 = .ok (.iload_n 1, 1) := by decide +kernel
theorem dX5_read_50 : decode cX5_read 50 = .ok (.iload_n 3, 1) := by decide +kernel
theorem dX5_read_51 : decode cX5_read 51 = .ok (.invokevirtual 279, 3) := by decide +kernel
theorem dX5_read_54 : decode cX5_read 54 = .ok (.aload_n 0, 1) := by decide +kernel
theorem dX5_read_55 : decode cX5_read 55 = .ok (.iload_n 1, 1) := by decide +kernel
theorem dX5_read_56 : decode cX5_read 56 = .ok (.iload_n 2, 1) := by decide +kernel
theorem dX5_read_57 : decode cX5_read 57 = .ok (.invokevirtual 279, 3) := by decide +kernel
theorem dX5_read_60 : decode cX5_read 60 = .ok (.isub, 1) := by decide +kernel
theorem dX5_read_61 : decode cX5_read 61 = .ok (.istore 4, 2) := by decide +kernel
theorem dX5_read_63 : decode cX5_read 63 = .ok (.iload 4, 2) := by decide +kernel
theorem dX5_read_65 : decode cX5_read 65 = .ok (.ifCond .gt 23, 3) := by decide +kernel
theorem dX5_read_68 : decode cX5_read 68 = .ok (.iload 4, 2) := by decide +kernel
theorem dX5_read_70 : decode cX5_read 70 = .ok (.ifCond .ne 22, 3) := by decide +kernel
theorem dX5_read_73 : decode cX5_read 73 = .ok (.aload_n 0, 1) := by decide +kernel
theorem dX5_read_74 : decode cX5_read 74 = .ok (.iload_n 3, 1) := by decide +kernel
theorem dX5_read_75 : decode cX5_read 75 = .ok (.iconst 1, 1) := by decide +kernel
theorem dX5_read_76 : decode cX5_read 76 = .ok (.invokevirtual 47, 3) := by decide +kernel
theorem dX5_read_79 : decode cX5_read 79 = .ok (.aload_n 0, 1) := by decide +kernel
theorem dX5_read_80 : decode cX5_read 80 = .ok (.iload_n 2, 1) := by decide +kernel
theorem dX5_read_81 : decode cX5_read 81 = .ok (.iconst 1, 1) := by decide +kernel
theorem dX5_read_82 : decode cX5_read 82 = .ok (.invokevirtual 47, 3) := by decide +kernel
theorem dX5_read_85 : decode cX5_read 85 = .ok (.if_icmp .le 7, 3) := by decide +kernel
theorem dX5_read_88 : decode cX5_read 88 = .ok (.iload_n 3, 1) := by decide +kernel
theorem dX5_read_89 : decode cX5_read 89 = .ok (.goto 4, 3) := by decide +kernel
theorem dX5_read_92 : decode cX5_read 92 = .ok (.iload_n 2, 1) := by decide +kernel
theorem dX5_read_93 : decode cX5_read 93 = .ok (.istore_n 2, 1) := by decide +kernel
theorem dX5_read_94 : decode cX5_read 94 = .ok (.iinc 3 1, 3) := by decide +kernel
theorem dX5_read_97 : decode cX5_read 97 = .ok (.goto (-75), 3) := by decide +kernel
theorem dX5_read_100 : decode cX5_read 100 = .ok (.iload_n 2, 1) := by decide +kernel
theorem dX5_read_101 : decode cX5_read 101 = .ok (.ifCond .ge 12, 3) := by decide +kernel
theorem dX5_read_104 : decode cX5_read 104 = .ok (.aload_n 0, 1) := by decide +kernel
theorem dX5_read_105 : decode cX5_read 105 = .ok (.ldc 116, 2) := by decide +kernel
theorem dX5_read_107 : decode cX5_read 107 = .ok (.invokevirtual 62, 3) := by decide +kernel
