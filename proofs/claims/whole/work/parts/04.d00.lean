theorem dX0_init_0 : decode cX0_init 0 = .ok (.aload_n 0, 1) := by decide +kernel
theorem dX0_init_1 : decode cX0_init 1 = .ok (.invokespecial 3, 3) := by decide +kernel
theorem dX0_init_4 : decode cX0_init 4 = .ok (.aload_n 0, 1) := by decide +kernel
theorem dX0_init_5 : decode cX0_init 5 = .ok (.bipush 40, 2) := by decide +kernel
theorem dX0_init_7 : decode cX0_init 7 = .ok (.newarray .long, 2) := by decide +kernel
theorem dX0_init_9 : decode cX0_init 9 = .ok (.putfield 11, 3) := by decide +kernel
theorem dX0_init_12 : decode cX0_init 12 = .ok (.return_, 1) := by decide +kernel
theorem dX0_isMissing_0 : decode cX0_isMissing 0 = .ok (.aload_n 0, 1) := by decide +kernel
theorem dX0_isMissing_1 : decode cX0_isMissing 1 = .ok (.getfield 15, 3) := by decide +kernel
theorem dX0_isMissing_4 : decode cX0_isMissing 4 = .ok (.ifCond .ne 7, 3) := by decide +kernel
theorem dX0_isMissing_7 : decode cX0_isMissing 7 = .ok (.iconst 1, 1) := by decide +kernel
theorem dX0_isMissing_8 : decode cX0_isMissing 8 = .ok (.goto 4, 3) := by decide +kernel
theorem dX0_isMissing_11 : decode cX0_isMissing 11 = .ok (.iconst 0, 1) := by decide +kernel
theorem dX0_isMissing_12 : decode cX0_isMissing 12 = .ok (.ireturn, 1) := by decide +kernel
theorem dX0_begin_0 : decode cX0_begin 0 = .ok (.aload_n 0, 1) := by decide +kernel
theorem dX0_begin_1 : decode cX0_begin 1 = .ok (.iload_n 1, 1) := by decide +kernel
theorem dX0_begin_2 : decode cX0_begin 2 = .ok (.putfield 15, 3) := by decide +kernel
theorem dX0_begin_5 : decode cX0_begin 5 = .ok (.aload_n 0, 1) := by decide +kernel
theorem dX0_begin_6 : decode cX0_begin 6 = .ok (.iload_n 1, 1) := by decide +kernel
theorem dX0_begin_7 : decode cX0_begin 7 = .ok (.ifCond .ne 7, 3) := by decide +kernel
theorem dX0_begin_10 : decode cX0_begin 10 = .ok (.iconst 0, 1) := by decide +kernel
theorem dX0_begin_11 : decode cX0_begin 11 = .ok (.goto 4, 3) := by decide +kernel
theorem dX0_begin_14 : decode cX0_begin 14 = .ok (.iload_n 2, 1) := by decide +kernel
theorem dX0_begin_15 : decode cX0_begin 15 = .ok (.putfield 19, 3) := by decide +kernel
theorem dX0_begin_18 : decode cX0_begin 18 = .ok (.aload_n 0, 1) := by decide +kernel
theorem dX0_begin_19 : decode cX0_begin 19 = .ok (.getfield 11, 3) := by decide +kernel
theorem dX0_begin_22 : decode cX0_begin 22 = .ok (.lconst 0, 1) := by decide +kernel
theorem dX0_begin_23 : decode cX0_begin 23 = .ok (.invokestatic 22, 3) := by decide +kernel
theorem dX0_begin_26 : decode cX0_begin 26 = .ok (.aload_n 0, 1) := by decide +kernel
theorem dX0_begin_27 : decode cX0_begin 27 = .ok (.getfield 19, 3) := by decide +kernel
theorem dX0_begin_30 : decode cX0_begin 30 = .ok (.ireturn, 1) := by decide +kernel
theorem dX0_hasRange_0 : decode cX0_hasRange 0 = .ok (.iload_n 1, 1) := by decide +kernel
theorem dX0_hasRange_1 : decode cX0_hasRange 1 = .ok (.ifCond .lt 21, 3) := by decide +kernel
theorem dX0_hasRange_4 : decode cX0_hasRange 4 = .ok (.iload_n 2, 1) := by decide +kernel
theorem dX0_hasRange_5 : decode cX0_hasRange 5 = .ok (.ifCond .lt 17, 3) := by decide +kernel
theorem dX0_hasRange_8 : decode cX0_hasRange 8 = .ok (.iload_n 2, 1) := by decide +kernel
theorem dX0_hasRange_9 : decode cX0_hasRange 9 = .ok (.aload_n 0, 1) := by decide +kernel
theorem dX0_hasRange_10 : decode cX0_hasRange 10 = .ok (.getfield 19, 3) := by decide +kernel
theorem dX0_hasRange_13 : decode cX0_hasRange 13 = .ok (.iload_n 1, 1) := by decide +kernel
theorem dX0_hasRange_14 : decode cX0_hasRange 14 = .ok (.isub, 1) := by decide +kernel
theorem dX0_hasRange_15 : decode cX0_hasRange 15 = .ok (.if_icmp .gt 7, 3) := by decide +kernel
theorem dX0_hasRange_18 : decode cX0_hasRange 18 = .ok (.iconst 1, 1) := by decide +kernel
theorem dX0_hasRange_19 : decode cX0_hasRange 19 = .ok (.goto 4, 3) := by decide +kernel
theorem dX0_hasRange_22 : decode cX0_hasRange 22 = .ok (.iconst 0, 1) := by decide +kernel
theorem dX0_hasRange_23 : decode cX0_hasRange 23 = .ok (.ireturn, 1) := by decide +kernel
theorem dX0_put_0 : decode cX0_put 0 = .ok (.iload_n 1, 1) := by decide +kernel
theorem dX0_put_1 : decode cX0_put 1 = .ok (.iconst 0, 1) := by decide +kernel
theorem dX0_put_2 : decode cX0_put 2 = .ok (.aload_n 0, 1) := by decide +kernel
theorem dX0_put_3 : decode cX0_put 3 = .ok (.getfield 19, 3) := by decide +kernel
theorem dX0_put_6 : decode cX0_put 6 = .ok (.iconst 1, 1) := by decide +kernel
theorem dX0_put_7 : decode cX0_put 7 = .ok (.isub, 1) := by decide +kernel
theorem dX0_put_8 : decode cX0_put 8 = .ok (.invokestatic 28, 3) := by decide +kernel
theorem dX0_put_11 : decode cX0_put 11 = .ok (.ifCond .ne 5, 3) := by decide +kernel
theorem dX0_put_14 : decode cX0_put 14 = .ok (.lconst 0, 1) := by decide +kernel
theorem dX0_put_15 : decode cX0_put 15 = .ok (.lreturn, 1) := by decide +kernel
theorem dX0_put_16 : decode cX0_put 16 = .ok (.aload_n 0, 1) := by decide +kernel
theorem dX0_put_17 : decode cX0_put 17 = .ok (.getfield 11, 3) := by decide +kernel
theorem dX0_put_20 : decode cX0_put 20 = .ok (.iload_n 1, 1) := by decide +kernel
theorem dX0_put_21 : decode cX0_put 21 = .ok (.laload, 1) := by decide +kernel
theorem dX0_put_22 : decode cX0_put 22 = .ok (.lstore 4, 2) := by decide +kernel
theorem dX0_put_24 : decode cX0_put 24 = .ok (.aload_n 0, 1) := by decide +kernel
theorem dX0_put_25 : decode cX0_put 25 = .ok (.getfield 11, 3) := by decide +kernel
theorem dX0_put_28 : decode cX0_put 28 = .ok (.iload_n 1, 1) := by decide +kernel
theorem dX0_put_29 : decode cX0_put 29 = .ok (.aload_n 0, 1) := by decide +kernel
theorem dX0_put_30 : decode cX0_put 30 = .ok (.getfield 15, 3) := by decide +kernel
theorem dX0_put_33 : decode cX0_put 33 = .ok (.bipush 8, 2) := by decide +kernel
theorem dX0_put_35 : decode cX0_put 35 = .ok (.if_icmp .ne 10, 3) := by decide +kernel
theorem dX0_put_38 : decode cX0_put 38 = .ok (.lload_n 2, 1) := by decide +kernel
theorem dX0_put_39 : decode cX0_put 39 = .ok (.l2i, 1) := by decide +kernel
theorem dX0_put_40 : decode cX0_put 40 = .ok (.i2b, 1) := by decide +kernel
theorem dX0_put_41 : decode cX0_put 41 = .ok (.i2l, 1) := by decide +kernel
theorem dX0_put_42 : decode cX0_put 42 = .ok (.goto 20, 3) := by decide +kernel
theorem dX0_put_45 : decode cX0_put 45 = .ok (.aload_n 0, 1) := by decide +kernel
theorem dX0_put_46 : decode cX0_put 46 = .ok (.getfield 15, 3) := by decide +kernel
theorem dX0_put_49 : decode cX0_put 49 = .ok (.bipush 16, 2) := by decide +kernel
theorem dX0_put_51 : decode cX0_put 51 = .ok (.if_icmp .ne 10, 3) := by decide +kernel
theorem dX0_put_54 : decode cX0_put 54 = .ok (.lload_n 2, 1) := by decide +kernel
theorem dX0_put_55 : decode cX0_put 55 = .ok (.l2i, 1) := by decide +kernel
theorem dX0_put_56 : decode cX0_put 56 = .ok (.i2s, 1) := by decide +kernel
theorem dX0_put_57 : decode cX0_put 57 = .ok (.i2l, 1) := by decide +kernel
theorem dX0_put_58 : decode cX0_put 58 = .ok (.goto 4, 3) := by decide +kernel
theorem dX0_put_61 : decode cX0_put 61 = .ok (.lload_n 2, 1) := by decide +kernel
theorem dX0_put_62 : decode cX0_put 62 = .ok (.lastore, 1) := by decide +kernel
theorem dX0_put_63 : decode cX0_put 63 = .ok (.lload 4, 2) := by decide +kernel
theorem dX0_put_65 : decode cX0_put 65 = .ok (.lreturn, 1) := by decide +kernel
theorem dX0_marksTold_0 : decode cX0_marksTold 0 = .ok (.iconst 0, 1) := by decide +kernel
theorem dX0_marksTold_1 : decode cX0_marksTold 1 = .ok (.istore_n 1, 1) := by decide +kernel
theorem dX0_marksTold_2 : decode cX0_marksTold 2 = .ok (.iconst 0, 1) := by decide +kernel
theorem dX0_marksTold_3 : decode cX0_marksTold 3 = .ok (.istore_n 2, 1) := by decide +kernel
theorem dX0_marksTold_4 : decode cX0_marksTold 4 = .ok (.iload_n 2, 1) := by decide +kernel
theorem dX0_marksTold_5 : decode cX0_marksTold 5 = .ok (.bipush 9, 2) := by decide +kernel
theorem dX0_marksTold_7 : decode cX0_marksTold 7 = .ok (.if_icmp .ge 47, 3) := by decide +kernel
theorem dX0_marksTold_10 : decode cX0_marksTold 10 = .ok (.iload_n 2, 1) := by decide +kernel
theorem dX0_marksTold_11 : decode cX0_marksTold 11 = .ok (.aload_n 0, 1) := by decide +kernel
theorem dX0_marksTold_12 : decode cX0_marksTold 12 = .ok (.getfield 19, 3) := by decide +kernel
theorem dX0_marksTold_15 : decode cX0_marksTold 15 = .ok (.if_icmp .ge 39, 3) := by decide +kernel
theorem dX0_marksTold_18 : decode cX0_marksTold 18 = .ok (.aload_n 0, 1) := by decide +kernel
theorem dX0_marksTold_19 : decode cX0_marksTold 19 = .ok (.getfield 11, 3) := by decide +kernel
theorem dX0_marksTold_22 : decode cX0_marksTold 22 = .ok (.iload_n 2, 1) := by decide +kernel
theorem dX0_marksTold_23 : decode cX0_marksTold 23 = .ok (.laload, 1) := by decide +kernel
theorem dX0_marksTold_24 : decode cX0_marksTold 24 = .ok (.lconst 0, 1) := by decide +kernel
theorem dX0_marksTold_25 : decode cX0_marksTold 25 = .ok (.lcmp, 1) := by decide +kernel
theorem dX0_marksTold_26 : decode cX0_marksTold 26 = .ok (.ifCond .lt 22, 3) := by decide +kernel
theorem dX0_marksTold_29 : decode cX0_marksTold 29 = .ok (.aload_n 0, 1) := by decide +kernel
theorem dX0_marksTold_30 : decode cX0_marksTold 30 = .ok (.getfield 11, 3) := by decide +kernel
theorem dX0_marksTold_33 : decode cX0_marksTold 33 = .ok (.iload_n 2, 1) := by decide +kernel
theorem dX0_marksTold_34 : decode cX0_marksTold 34 = .ok (.laload, 1) := by decide +kernel
theorem dX0_marksTold_35 : decode cX0_marksTold 35 = .ok (.ldc2_w 32, 3) := by decide +kernel
theorem dX0_marksTold_38 : decode cX0_marksTold 38 = .ok (.lcmp, 1) := by decide +kernel
theorem dX0_marksTold_39 : decode cX0_marksTold 39 = .ok (.ifCond .ge 9, 3) := by decide +kernel
theorem dX0_marksTold_42 : decode cX0_marksTold 42 = .ok (.iload_n 1, 1) := by decide +kernel
theorem dX0_marksTold_43 : decode cX0_marksTold 43 = .ok (.iconst 1, 1) := by decide +kernel
theorem dX0_marksTold_44 : decode cX0_marksTold 44 = .ok (.iload_n 2, 1) := by decide +kernel
theorem dX0_marksTold_45 : decode cX0_marksTold 45 = .ok (.ishl, 1) := by decide +kernel
theorem dX0_marksTold_46 : decode cX0_marksTold 46 = .ok (.ior, 1) := by decide +kernel
theorem dX0_marksTold_47 : decode cX0_marksTold 47 = .ok (.istore_n 1, 1) := by decide +kernel
theorem dX0_marksTold_48 : decode cX0_marksTold 48 = .ok (.iinc 2 1, 3) := by decide +kernel
theorem dX0_marksTold_51 : decode cX0_marksTold 51 = .ok (.goto (-47), 3) := by decide +kernel
theorem dX0_marksTold_54 : decode cX0_marksTold 54 = .ok (.iload_n 1, 1) := by decide +kernel
theorem dX0_marksTold_55 : decode cX0_marksTold 55 = .ok (.ireturn, 1) := by decide +kernel
theorem dX0_lookTold_0 : decode cX0_lookTold 0 = .ok (.iconst 0, 1) := by decide +kernel
theorem dX0_lookTold_1 : decode cX0_lookTold 1 = .ok (.istore_n 1, 1) := by decide +kernel
theorem dX0_lookTold_2 : decode cX0_lookTold 2 = .ok (.iconst 0, 1) := by decide +kernel
theorem dX0_lookTold_3 : decode cX0_lookTold 3 = .ok (.istore_n 2, 1) := by decide +kernel
theorem dX0_lookTold_4 : decode cX0_lookTold 4 = .ok (.iload_n 2, 1) := by decide +kernel
theorem dX0_lookTold_5 : decode cX0_lookTold 5 = .ok (.bipush 9, 2) := by decide +kernel
theorem dX0_lookTold_7 : decode cX0_lookTold 7 = .ok (.if_icmp .ge 34, 3) := by decide +kernel
theorem dX0_lookTold_10 : decode cX0_lookTold 10 = .ok (.iload_n 2, 1) := by decide +kernel
theorem dX0_lookTold_11 : decode cX0_lookTold 11 = .ok (.aload_n 0, 1) := by decide +kernel
theorem dX0_lookTold_12 : decode cX0_lookTold 12 = .ok (.getfield 19, 3) := by decide +kernel
theorem dX0_lookTold_15 : decode cX0_lookTold 15 = .ok (.if_icmp .ge 26, 3) := by decide +kernel
theorem dX0_lookTold_18 : decode cX0_lookTold 18 = .ok (.iload_n 1, 1) := by decide +kernel
theorem dX0_lookTold_19 : decode cX0_lookTold 19 = .ok (.iload_n 2, 1) := by decide +kernel
theorem dX0_lookTold_20 : decode cX0_lookTold 20 = .ok (.aload_n 0, 1) := by decide +kernel
theorem dX0_lookTold_21 : decode cX0_lookTold 21 = .ok (.getfield 11, 3) := by decide +kernel
theorem dX0_lookTold_24 : decode cX0_lookTold 24 = .ok (.iload_n 2, 1) := by decide +kernel
theorem dX0_lookTold_25 : decode cX0_lookTold 25 = .ok (.laload, 1) := by decide +kernel
theorem dX0_lookTold_26 : decode cX0_lookTold 26 = .ok (.ldc2_w 34, 3) := by decide +kernel
theorem dX0_lookTold_29 : decode cX0_lookTold 29 = .ok (.land, 1) := by decide +kernel
theorem dX0_lookTold_30 : decode cX0_lookTold 30 = .ok (.l2i, 1) := by decide +kernel
theorem dX0_lookTold_31 : decode cX0_lookTold 31 = .ok (.invokestatic 36, 3) := by decide +kernel
theorem dX0_lookTold_34 : decode cX0_lookTold 34 = .ok (.istore_n 1, 1) := by decide +kernel
theorem dX0_lookTold_35 : decode cX0_lookTold 35 = .ok (.iinc 2 1, 3) := by decide +kernel
theorem dX0_lookTold_38 : decode cX0_lookTold 38 = .ok (.goto (-34), 3) := by decide +kernel
theorem dX0_lookTold_41 : decode cX0_lookTold 41 = .ok (.iload_n 1, 1) := by decide +kernel
theorem dX0_lookTold_42 : decode cX0_lookTold 42 = .ok (.ireturn, 1) := by decide +kernel
theorem dX1_init_0 : decode cX1_init 0 = .ok (.aload_n 0, 1) := by decide +kernel
theorem dX1_init_1 : decode cX1_init 1 = .ok (.invokespecial 1, 3) := by decide +kernel
theorem dX1_init_4 : decode cX1_init 4 = .ok (.aload_n 0, 1) := by decide +kernel
theorem dX1_init_5 : decode cX1_init 5 = .ok (.bipush 120, 2) := by decide +kernel
theorem dX1_init_7 : decode cX1_init 7 = .ok (.newarray .byte, 2) := by decide +kernel
theorem dX1_init_9 : decode cX1_init 9 = .ok (.putfield 9, 3) := by decide +kernel
theorem dX1_init_12 : decode cX1_init 12 = .ok (.return_, 1) := by decide +kernel
theorem dX1_hasRoom_0 : decode cX1_hasRoom 0 = .ok (.iload_n 1, 1) := by decide +kernel
theorem dX1_hasRoom_1 : decode cX1_hasRoom 1 = .ok (.bipush 120, 2) := by decide +kernel
theorem dX1_hasRoom_3 : decode cX1_hasRoom 3 = .ok (.aload_n 0, 1) := by decide +kernel
theorem dX1_hasRoom_4 : decode cX1_hasRoom 4 = .ok (.getfield 13, 3) := by decide +kernel
theorem dX1_hasRoom_7 : decode cX1_hasRoom 7 = .ok (.isub, 1) := by decide +kernel
theorem dX1_hasRoom_8 : decode cX1_hasRoom 8 = .ok (.if_icmp .gt 7, 3) := by decide +kernel
theorem dX1_hasRoom_11 : decode cX1_hasRoom 11 = .ok (.iconst 1, 1) := by decide +kernel
theorem dX1_hasRoom_12 : decode cX1_hasRoom 12 = .ok (.goto 4, 3) := by decide +kernel
theorem dX1_hasRoom_15 : decode cX1_hasRoom 15 = .ok (.iconst 0, 1) := by decide +kernel
theorem dX1_hasRoom_16 : decode cX1_hasRoom 16 = .ok (.ireturn, 1) := by decide +kernel
theorem dX1_append_0 : decode cX1_append 0 = .ok (.aload_n 0, 1) := by decide +kernel
theorem dX1_append_1 : decode cX1_append 1 = .ok (.iconst 1, 1) := by decide +kernel
theorem dX1_append_2 : decode cX1_append 2 = .ok (.invokevirtual 17, 3) := by decide +kernel
theorem dX1_append_5 : decode cX1_append 5 = .ok (.ifCond .eq 24, 3) := by decide +kernel
theorem dX1_append_8 : decode cX1_append 8 = .ok (.aload_n 0, 1) := by decide +kernel
theorem dX1_append_9 : decode cX1_append 9 = .ok (.getfield 9, 3) := by decide +kernel
theorem dX1_append_12 : decode cX1_append 12 = .ok (.aload_n 0, 1) := by decide +kernel
theorem dX1_append_13 : decode cX1_append 13 = .ok (.getfield 13, 3) := by decide +kernel
theorem dX1_append_16 : decode cX1_append 16 = .ok (.iload_n 1, 1) := by decide +kernel
theorem dX1_append_17 : decode cX1_append 17 = .ok (.i2b, 1) := by decide +kernel
theorem dX1_append_18 : decode cX1_append 18 = .ok (.bastore, 1) := by decide +kernel
theorem dX1_append_19 : decode cX1_append 19 = .ok (.aload_n 0, 1) := by decide +kernel
theorem dX1_append_20 : decode cX1_append 20 = .ok (.dup, 1) := by decide +kernel
theorem dX1_append_21 : decode cX1_append 21 = .ok (.getfield 13, 3) := by decide +kernel
theorem dX1_append_24 : decode cX1_append 24 = .ok (.iconst 1, 1) := by decide +kernel
theorem dX1_append_25 : decode cX1_append 25 = .ok (.iadd, 1) := by decide +kernel
theorem dX1_append_26 : decode cX1_append 26 = .ok (.putfield 13, 3) := by decide +kernel
theorem dX1_append_29 : decode cX1_append 29 = .ok (.return_, 1) := by decide +kernel
theorem dX1_clear_0 : decode cX1_clear 0 = .ok (.aload_n 0, 1) := by decide +kernel
theorem dX1_clear_1 : decode cX1_clear 1 = .ok (.getfield 13, 3) := by decide +kernel
theorem dX1_clear_4 : decode cX1_clear 4 = .ok (.istore_n 1, 1) := by decide +kernel
theorem dX1_clear_5 : decode cX1_clear 5 = .ok (.aload_n 0, 1) := by decide +kernel
theorem dX1_clear_6 : decode cX1_clear 6 = .ok (.iconst 0, 1) := by decide +kernel
theorem dX1_clear_7 : decode cX1_clear 7 = .ok (.putfield 13, 3) := by decide +kernel
theorem dX1_clear_10 : decode cX1_clear 10 = .ok (.iload_n 1, 1) := by decide +kernel
theorem dX1_clear_11 : decode cX1_clear 11 = .ok (.ireturn, 1) := by decide +kernel
theorem dX1_byteAt_0 : decode cX1_byteAt 0 = .ok (.iload_n 1, 1) := by decide +kernel
theorem dX1_byteAt_1 : decode cX1_byteAt 1 = .ok (.ifCond .lt 24, 3) := by decide +kernel
theorem dX1_byteAt_4 : decode cX1_byteAt 4 = .ok (.iload_n 1, 1) := by decide +kernel
theorem dX1_byteAt_5 : decode cX1_byteAt 5 = .ok (.aload_n 0, 1) := by decide +kernel
theorem dX1_byteAt_6 : decode cX1_byteAt 6 = .ok (.getfield 13, 3) := by decide +kernel
theorem dX1_byteAt_9 : decode cX1_byteAt 9 = .ok (.if_icmp .ge 16, 3) := by decide +kernel
theorem dX1_byteAt_12 : decode cX1_byteAt 12 = .ok (.aload_n 0, 1) := by decide +kernel
theorem dX1_byteAt_13 : decode cX1_byteAt 13 = .ok (.getfield 9, 3) := by decide +kernel
theorem dX1_byteAt_16 : decode cX1_byteAt 16 = .ok (.iload_n 1, 1) := by decide +kernel
theorem dX1_byteAt_17 : decode cX1_byteAt 17 = .ok (.baload, 1) := by decide +kernel
theorem dX1_byteAt_18 : decode cX1_byteAt 18 = .ok (.sipush 255, 3) := by decide +kernel
theorem dX1_byteAt_21 : decode cX1_byteAt 21 = .ok (.iand, 1) := by decide +kernel
theorem dX1_byteAt_22 : decode cX1_byteAt 22 = .ok (.goto 4, 3) := by decide +kernel
theorem dX1_byteAt_25 : decode cX1_byteAt 25 = .ok (.iconst (-1), 1) := by decide +kernel
theorem dX1_byteAt_26 : decode cX1_byteAt 26 = .ok (.ireturn, 1) := by decide +kernel
theorem dX2_init_0 : decode cX2_init 0 = .ok (.aload_n 0, 1) := by decide +kernel
theorem dX2_init_1 : decode cX2_init 1 = .ok (.invokespecial 3, 3) := by decide +kernel
theorem dX2_init_4 : decode cX2_init 4 = .ok (.aload_n 0, 1) := by decide +kernel
theorem dX2_init_5 : decode cX2_init 5 = .ok (.new 9, 3) := by decide +kernel
theorem dX2_init_8 : decode cX2_init 8 = .ok (.dup, 1) := by decide +kernel
theorem dX2_init_9 : decode cX2_init 9 = .ok (.invokespecial 11, 3) := by decide +kernel
theorem dX2_init_12 : decode cX2_init 12 = .ok (.putfield 12, 3) := by decide +kernel
theorem dX2_init_15 : decode cX2_init 15 = .ok (.return_, 1) := by decide +kernel
theorem dX2_readItems_0 : decode cX2_readItems 0 = .ok (.aload_n 0, 1) := by decide +kernel
theorem dX2_readItems_1 : decode cX2_readItems 1 = .ok (.iconst 0, 1) := by decide +kernel
theorem dX2_readItems_2 : decode cX2_readItems 2 = .ok (.putfield 18, 3) := by decide +kernel
theorem dX2_readItems_5 : decode cX2_readItems 5 = .ok (.aload_n 0, 1) := by decide +kernel
theorem dX2_readItems_6 : decode cX2_readItems 6 = .ok (.iconst 0, 1) := by decide +kernel
theorem dX2_readItems_7 : decode cX2_readItems 7 = .ok (.putfield 22, 3) := by decide +kernel
theorem dX2_readItems_10 : decode cX2_readItems 10 = .ok (.aload_n 0, 1) := by decide +kernel
theorem dX2_readItems_11 : decode cX2_readItems 11 = .ok (.invokevirtual 26, 3) := by decide +kernel
theorem dX2_readItems_14 : decode cX2_readItems 14 = .ok (.iconst 1, 1) := by decide +kernel
theorem dX2_readItems_15 : decode cX2_readItems 15 = .ok (.istore_n 2, 1) := by decide +kernel
theorem dX2_readItems_16 : decode cX2_readItems 16 = .ok (.iload_n 2, 1) := by decide +kernel
theorem dX2_readItems_17 : decode cX2_readItems 17 = .ok (.bipush 120, 2) := by decide +kernel
theorem dX2_readItems_19 : decode cX2_readItems 19 = .ok (.if_icmp .gt 56, 3) := by decide +kernel
theorem dX2_readItems_22 : decode cX2_readItems 22 = .ok (.aload_n 0, 1) := by decide +kernel
theorem dX2_readItems_23 : decode cX2_readItems 23 = .ok (.aload_n 1, 1) := by decide +kernel
theorem dX2_readItems_24 : decode cX2_readItems 24 = .ok (.invokevirtual 29, 3) := by decide +kernel
theorem dX2_readItems_27 : decode cX2_readItems 27 = .ok (.aload_n 0, 1) := by decide +kernel
theorem dX2_readItems_28 : decode cX2_readItems 28 = .ok (.getfield 22, 3) := by decide +kernel
theorem dX2_readItems_31 : decode cX2_readItems 31 = .ok (.ifCond .ne 12, 3) := by decide +kernel
theorem dX2_readItems_34 : decode cX2_readItems 34 = .ok (.aload_n 0, 1) := by decide +kernel
theorem dX2_readItems_35 : decode cX2_readItems 35 = .ok (.getfield 33, 3) := by decide +kernel
theorem dX2_readItems_38 : decode cX2_readItems 38 = .ok (.ifCond .ne 5, 3) := by decide +kernel
theorem dX2_readItems_41 : decode cX2_readItems 41 = .ok (.iload_n 2, 1) := by decide +kernel
theorem dX2_readItems_42 : decode cX2_readItems 42 = .ok (.ireturn, 1) := by decide +kernel
theorem dX2_readItems_43 : decode cX2_readItems 43 = .ok (.aload_n 0, 1) := by decide +kernel
theorem dX2_readItems_44 : decode cX2_readItems 44 = .ok (.getfield 22, 3) := by decide +kernel
theorem dX2_readItems_47 : decode cX2_readItems 47 = .ok (.ifCond .ne 11, 3) := by decide +kernel
theorem dX2_readItems_50 : decode cX2_readItems 50 = .ok (.aload_n 0, 1) := by decide +kernel
theorem dX2_readItems_51 : decode cX2_readItems 51 = .ok (.getfield 33, 3) := by decide +kernel
theorem dX2_readItems_54 : decode cX2_readItems 54 = .ok (.iconst 3, 1) := by decide +kernel
theorem dX2_readItems_55 : decode cX2_readItems 55 = .ok (.if_icmp .eq 10, 3) := by decide +kernel
theorem dX2_readItems_58 : decode cX2_readItems 58 = .ok (.iconst (-1), 1) := by decide +kernel
theorem dX2_readItems_59 : decode cX2_readItems 59 = .ok (.aload_n 0, 1) := by decide +kernel
theorem dX2_readItems_60 : decode cX2_readItems 60 = .ok (.getfield 36, 3) := by decide +kernel
theorem dX2_readItems_63 : decode cX2_readItems 63 = .ok (.isub, 1) := by decide +kernel
theorem dX2_readItems_64 : decode cX2_readItems 64 = .ok (.ireturn, 1) := by decide +kernel
theorem dX2_readItems_65 : decode cX2_readItems 65 = .ok (.aload_n 0, 1) := by decide +kernel
theorem dX2_readItems_66 : decode cX2_readItems 66 = .ok (.invokevirtual 26, 3) := by decide +kernel
theorem dX2_readItems_69 : decode cX2_readItems 69 = .ok (.iinc 2 1, 3) := by decide +kernel
theorem dX2_readItems_72 : decode cX2_readItems 72 = .ok (.goto (-56), 3) := by decide +kernel
theorem dX2_readItems_75 : decode cX2_readItems 75 = .ok (.iconst (-1), 1) := by decide +kernel
theorem dX2_readItems_76 : decode cX2_readItems 76 = .ok (.aload_n 0, 1) := by decide +kernel
theorem dX2_readItems_77 : decode cX2_readItems 77 = .ok (.getfield 36, 3) := by decide +kernel
theorem dX2_readItems_80 : decode cX2_readItems 80 = .ok (.isub, 1) := by decide +kernel
theorem dX2_readItems_81 : decode cX2_readItems 81 = .ok (.ireturn, 1) := by decide +kernel
theorem dX2_readItem_0 : decode cX2_readItem 0 = .ok (.aload_n 0, 1) := by decide +kernel
theorem dX2_readItem_1 : decode cX2_readItem 1 = .ok (.invokevirtual 39, 3) := by decide +kernel
theorem dX2_readItem_4 : decode cX2_readItem 4 = .ok (.istore_n 2, 1) := by decide +kernel
theorem dX2_readItem_5 : decode cX2_readItem 5 = .ok (.iload_n 2, 1) := by decide +kernel
theorem dX2_readItem_6 : decode cX2_readItem 6 = .ok (.iconst (-1), 1) := by decide +kernel
theorem dX2_readItem_7 : decode cX2_readItem 7 = .ok (.if_icmp .eq 12, 3) := by decide +kernel
theorem dX2_readItem_10 : decode cX2_readItem 10 = .ok (.aload_n 0, 1) := by decide +kernel
theorem dX2_readItem_11 : decode cX2_readItem 11 = .ok (.aload_n 1, 1) := by decide +kernel
theorem dX2_readItem_12 : decode cX2_readItem 12 = .ok (.iload_n 2, 1) := by decide +kernel
theorem dX2_readItem_13 : decode cX2_readItem 13 = .ok (.invokevirtual 43, 3) := by decide +kernel
theorem dX2_readItem_16 : decode cX2_readItem 16 = .ok (.goto 60, 3) := by decide +kernel
theorem dX2_readItem_19 : decode cX2_readItem 19 = .ok (.aload_n 0, 1) := by decide +kernel
theorem dX2_readItem_20 : decode cX2_readItem 20 = .ok (.ldc 47, 2) := by decide +kernel
theorem dX2_readItem_22 : decode cX2_readItem 22 = .ok (.invokevirtual 49, 3) := by decide +kernel
theorem dX2_readItem_25 : decode cX2_readItem 25 = .ok (.ifCond .eq 11, 3) := by decide +kernel
theorem dX2_readItem_28 : decode cX2_readItem 28 = .ok (.aload_n 0, 1) := by decide +kernel
theorem dX2_readItem_29 : decode cX2_readItem 29 = .ok (.aload_n 1, 1) := by decide +kernel
theorem dX2_readItem_30 : decode cX2_readItem 30 = .ok (.invokevirtual 53, 3) := by decide +kernel
theorem dX2_readItem_33 : decode cX2_readItem 33 = .ok (.goto 43, 3) := by decide +kernel
theorem dX2_readItem_36 : decode cX2_readItem 36 = .ok (.aload_n 0, 1) := by decide +kernel
theorem dX2_readItem_37 : decode cX2_readItem 37 = .ok (.ldc 56, 2) := by decide +kernel
theorem dX2_readItem_39 : decode cX2_readItem 39 = .ok (.invokevirtual 49, 3) := by decide +kernel
theorem dX2_readItem_42 : decode cX2_readItem 42 = .ok (.ifCond .eq 29, 3) := by decide +kernel
theorem dX2_readItem_45 : decode cX2_readItem 45 = .ok (.aload_n 0, 1) := by decide +kernel
theorem dX2_readItem_46 : decode cX2_readItem 46 = .ok (.invokevirtual 26, 3) := by decide +kernel
theorem dX2_readItem_49 : decode cX2_readItem 49 = .ok (.aload_n 0, 1) := by decide +kernel
theorem dX2_readItem_50 : decode cX2_readItem 50 = .ok (.iconst 0, 1) := by decide +kernel
theorem dX2_readItem_51 : decode cX2_readItem 51 = .ok (.iconst 2, 1) := by decide +kernel
theorem dX2_readItem_52 : decode cX2_readItem 52 = .ok (.invokevirtual 58, 3) := by decide +kernel
theorem dX2_readItem_55 : decode cX2_readItem 55 = .ok (.istore_n 3, 1) := by decide +kernel
theorem dX2_readItem_56 : decode cX2_readItem 56 = .ok (.aload_n 0, 1) := by decide +kernel
theorem dX2_readItem_57 : decode cX2_readItem 57 = .ok (.getfield 22, 3) := by decide +kernel
theorem dX2_readItem_60 : decode cX2_readItem 60 = .ok (.ifCond .ne 8, 3) := by decide +kernel
theorem dX2_readItem_63 : decode cX2_readItem 63 = .ok (.aload_n 1, 1) := by decide +kernel
theorem dX2_readItem_64 : decode cX2_readItem 64 = .ok (.iload_n 3, 1) := by decide +kernel
theorem dX2_readItem_65 : decode cX2_readItem 65 = .ok (.putfield 62, 3) := by decide +kernel
theorem dX2_readItem_68 : decode cX2_readItem 68 = .ok (.goto 8, 3) := by decide +kernel
theorem dX2_readItem_71 : decode cX2_readItem 71 = .ok (.aload_n 0, 1) := by decide +kernel
theorem dX2_readItem_72 : decode cX2_readItem 72 = .ok (.iconst 1, 1) := by decide +kernel
theorem dX2_readItem_73 : decode cX2_readItem 73 = .ok (.putfield 22, 3) := by decide +kernel
theorem dX2_readItem_76 : decode cX2_readItem 76 = .ok (.return_, 1) := by decide +kernel
theorem dX2_readPerson_0 : decode cX2_readPerson 0 = .ok (.aload_n 1, 1) := by decide +kernel
theorem dX2_readPerson_1 : decode cX2_readPerson 1 = .ok (.iload_n 2, 1) := by decide +kernel
theorem dX2_readPerson_2 : decode cX2_readPerson 2 = .ok (.iconst 0, 1) := by decide +kernel
theorem dX2_readPerson_3 : decode cX2_readPerson 3 = .ok (.invokevirtual 66, 3) := by decide +kernel
theorem dX2_readPerson_6 : decode cX2_readPerson 6 = .ok (.istore_n 3, 1) := by decide +kernel
theorem dX2_readPerson_7 : decode cX2_readPerson 7 = .ok (.iload_n 3, 1) := by decide +kernel
theorem dX2_readPerson_8 : decode cX2_readPerson 8 = .ok (.iconst (-1), 1) := by decide +kernel
theorem dX2_readPerson_9 : decode cX2_readPerson 9 = .ok (.if_icmp .ne 9, 3) := by decide +kernel
theorem dX2_readPerson_12 : decode cX2_readPerson 12 = .ok (.aload_n 0, 1) := by decide +kernel
theorem dX2_readPerson_13 : decode cX2_readPerson 13 = .ok (.iconst 1, 1) := by decide +kernel
theorem dX2_readPerson_14 : decode cX2_readPerson 14 = .ok (.putfield 22, 3) := by decide +kernel
theorem dX2_readPerson_17 : decode cX2_readPerson 17 = .ok (.return_, 1) := by decide +kernel
theorem dX2_readPerson_18 : decode cX2_readPerson 18 = .ok (.aload_n 0, 1) := by decide +kernel
theorem dX2_readPerson_19 : decode cX2_readPerson 19 = .ok (.invokevirtual 26, 3) := by decide +kernel
theorem dX2_readPerson_22 : decode cX2_readPerson 22 = .ok (.aload_n 0, 1) := by decide +kernel
theorem dX2_readPerson_23 : decode cX2_readPerson 23 = .ok (.ldc 69, 2) := by decide +kernel
theorem dX2_readPerson_25 : decode cX2_readPerson 25 = .ok (.invokevirtual 71, 3) := by decide +kernel
theorem dX2_readPerson_28 : decode cX2_readPerson 28 = .ok (.ifCond .eq 35, 3) := by decide +kernel
theorem dX2_readPerson_31 : decode cX2_readPerson 31 = .ok (.aload_n 0, 1) := by decide +kernel
theorem dX2_readPerson_32 : decode cX2_readPerson 32 = .ok (.invokevirtual 74, 3) := by decide +kernel
theorem dX2_readPerson_35 : decode cX2_readPerson 35 = .ok (.istore 4, 2) := by decide +kernel
theorem dX2_readPerson_37 : decode cX2_readPerson 37 = .ok (.aload_n 1, 1) := by decide +kernel
theorem dX2_readPerson_38 : decode cX2_readPerson 38 = .ok (.getfield 77, 3) := by decide +kernel
theorem dX2_readPerson_41 : decode cX2_readPerson 41 = .ok (.iload_n 3, 1) := by decide +kernel
theorem dX2_readPerson_42 : decode cX2_readPerson 42 = .ok (.iload 4, 2) := by decide +kernel
theorem dX2_readPerson_44 : decode cX2_readPerson 44 = .ok (.iastore, 1) := by decide +kernel
theorem dX2_readPerson_45 : decode cX2_readPerson 45 = .ok (.aload_n 0, 1) := by decide +kernel
theorem dX2_readPerson_46 : decode cX2_readPerson 46 = .ok (.iconst 0, 1) := by decide +kernel
theorem dX2_readPerson_47 : decode cX2_readPerson 47 = .ok (.iload 4, 2) := by decide +kernel
theorem dX2_readPerson_49 : decode cX2_readPerson 49 = .ok (.iconst (-1), 1) := by decide +kernel
theorem dX2_readPerson_50 : decode cX2_readPerson 50 = .ok (.if_icmp .ne 7, 3) := by decide +kernel
theorem dX2_readPerson_53 : decode cX2_readPerson 53 = .ok (.iconst (-1), 1) := by decide +kernel
theorem dX2_readPerson_54 : decode cX2_readPerson 54 = .ok (.goto 5, 3) := by decide +kernel
theorem dX2_readPerson_57 : decode cX2_readPerson 57 = .ok (.ldc 81, 2) := by decide +kernel
theorem dX2_readPerson_59 : decode cX2_readPerson 59 = .ok (.invokevirtual 58, 3) := by decide +kernel
theorem dX2_readPerson_62 : decode cX2_readPerson 62 = .ok (.pop, 1) := by decide +kernel
theorem dX2_readPerson_63 : decode cX2_readPerson 63 = .ok (.aload_n 0, 1) := by decide +kernel
theorem dX2_readPerson_64 : decode cX2_readPerson 64 = .ok (.ldc 82, 2) := by decide +kernel
theorem dX2_readPerson_66 : decode cX2_readPerson 66 = .ok (.invokevirtual 71, 3) := by decide +kernel
theorem dX2_readPerson_69 : decode cX2_readPerson 69 = .ok (.ifCond .eq 16, 3) := by decide +kernel
theorem dX2_readPerson_72 : decode cX2_readPerson 72 = .ok (.aload_n 1, 1) := by decide +kernel
theorem dX2_readPerson_73 : decode cX2_readPerson 73 = .ok (.getfield 84, 3) := by decide +kernel
theorem dX2_readPerson_76 : decode cX2_readPerson 76 = .ok (.iload_n 3, 1) := by decide +kernel
theorem dX2_readPerson_77 : decode cX2_readPerson 77 = .ok (.aload_n 0, 1) := by decide +kernel
theorem dX2_readPerson_78 : decode cX2_readPerson 78 = .ok (.iconst 0, 1) := by decide +kernel
theorem dX2_readPerson_79 : decode cX2_readPerson 79 = .ok (.bipush 120, 2) := by decide +kernel
theorem dX2_readPerson_81 : decode cX2_readPerson 81 = .ok (.invokevirtual 58, 3) := by decide +kernel
theorem dX2_readPerson_84 : decode cX2_readPerson 84 = .ok (.iastore, 1) := by decide +kernel
theorem dX2_readPerson_85 : decode cX2_readPerson 85 = .ok (.aload_n 0, 1) := by decide +kernel
theorem dX2_readPerson_86 : decode cX2_readPerson 86 = .ok (.ldc 87, 2) := by decide +kernel
theorem dX2_readPerson_88 : decode cX2_readPerson 88 = .ok (.invokevirtual 71, 3) := by decide +kernel
theorem dX2_readPerson_91 : decode cX2_readPerson 91 = .ok (.ifCond .eq 16, 3) := by decide +kernel
theorem dX2_readPerson_94 : decode cX2_readPerson 94 = .ok (.aload_n 1, 1) := by decide +kernel
theorem dX2_readPerson_95 : decode cX2_readPerson 95 = .ok (.getfield 89, 3) := by decide +kernel
theorem dX2_readPerson_98 : decode cX2_readPerson 98 = .ok (.iload_n 3, 1) := by decide +kernel
theorem dX2_readPerson_99 : decode cX2_readPerson 99 = .ok (.aload_n 0, 1) := by decide +kernel
theorem dX2_readPerson_100 : decode cX2_readPerson 100 = .ok (.iconst 0, 1) := by decide +kernel
theorem dX2_readPerson_101 : decode cX2_readPerson 101 = .ok (.ldc 91, 2) := by decide +kernel
theorem dX2_readPerson_103 : decode cX2_readPerson 103 = .ok (.invokevirtual 58, 3) := by decide +kernel
theorem dX2_readPerson_106 : decode cX2_readPerson 106 = .ok (.iastore, 1) := by decide +kernel
theorem dX2_readPerson_107 : decode cX2_readPerson 107 = .ok (.aload_n 0, 1) := by decide +kernel
theorem dX2_readPerson_108 : decode cX2_readPerson 108 = .ok (.ldc 92, 2) := by decide +kernel
theorem dX2_readPerson_110 : decode cX2_readPerson 110 = .ok (.invokevirtual 71, 3) := by decide +kernel
theorem dX2_readPerson_113 : decode cX2_readPerson 113 = .ok (.ifCond .eq 16, 3) := by decide +kernel
theorem dX2_readPerson_116 : decode cX2_readPerson 116 = .ok (.aload_n 1, 1) := by decide +kernel
theorem dX2_readPerson_117 : decode cX2_readPerson 117 = .ok (.getfield 94, 3) := by decide +kernel
theorem dX2_readPerson_120 : decode cX2_readPerson 120 = .ok (.iload_n 3, 1) := by decide +kernel
theorem dX2_readPerson_121 : decode cX2_readPerson 121 = .ok (.aload_n 0, 1) := by decide +kernel
theorem dX2_readPerson_122 : decode cX2_readPerson 122 = .ok (.iconst 1, 1) := by decide +kernel
theorem dX2_readPerson_123 : decode cX2_readPerson 123 = .ok (.bipush 120, 2) := by decide +kernel
theorem dX2_readPerson_125 : decode cX2_readPerson 125 = .ok (.invokevirtual 58, 3) := by decide +kernel
theorem dX2_readPerson_128 : decode cX2_readPerson 128 = .ok (.iastore, 1) := by decide +kernel
theorem dX2_readPerson_129 : decode cX2_readPerson 129 = .ok (.aload_n 0, 1) := by decide +kernel
theorem dX2_readPerson_130 : decode cX2_readPerson 130 = .ok (.ldc 97, 2) := by decide +kernel
theorem dX2_readPerson_132 : decode cX2_readPerson 132 = .ok (.invokevirtual 71, 3) := by decide +kernel
theorem dX2_readPerson_135 : decode cX2_readPerson 135 = .ok (.ifCond .eq 17, 3) := by decide +kernel
theorem dX2_readPerson_138 : decode cX2_readPerson 138 = .ok (.aload_n 1, 1) := by decide +kernel
theorem dX2_readPerson_139 : decode cX2_readPerson 139 = .ok (.getfield 99, 3) := by decide +kernel
theorem dX2_readPerson_142 : decode cX2_readPerson 142 = .ok (.iload_n 3, 1) := by decide +kernel
theorem dX2_readPerson_143 : decode cX2_readPerson 143 = .ok (.aload_n 0, 1) := by decide +kernel
theorem dX2_readPerson_144 : decode cX2_readPerson 144 = .ok (.iconst 0, 1) := by decide +kernel
theorem dX2_readPerson_145 : decode cX2_readPerson 145 = .ok (.iload_n 3, 1) := by decide +kernel
theorem dX2_readPerson_146 : decode cX2_readPerson 146 = .ok (.iconst 1, 1) := by decide +kernel
theorem dX2_readPerson_147 : decode cX2_readPerson 147 = .ok (.isub, 1) := by decide +kernel
theorem dX2_readPerson_148 : decode cX2_readPerson 148 = .ok (.invokevirtual 58, 3) := by decide +kernel
theorem dX2_readPerson_151 : decode cX2_readPerson 151 = .ok (.iastore, 1) := by decide +kernel
theorem dX2_readPerson_152 : decode cX2_readPerson 152 = .ok (.return_, 1) := by decide +kernel
theorem dX2_readMark_0 : decode cX2_readMark 0 = .ok (.aload_n 0, 1) := by decide +kernel
theorem dX2_readMark_1 : decode cX2_readMark 1 = .ok (.invokevirtual 26, 3) := by decide +kernel
theorem dX2_readMark_4 : decode cX2_readMark 4 = .ok (.aload_n 0, 1) := by decide +kernel
theorem dX2_readMark_5 : decode cX2_readMark 5 = .ok (.iconst 0, 1) := by decide +kernel
theorem dX2_readMark_6 : decode cX2_readMark 6 = .ok (.bipush 8, 2) := by decide +kernel
theorem dX2_readMark_8 : decode cX2_readMark 8 = .ok (.invokevirtual 58, 3) := by decide +kernel
theorem dX2_readMark_11 : decode cX2_readMark 11 = .ok (.istore_n 2, 1) := by decide +kernel
theorem dX2_readMark_12 : decode cX2_readMark 12 = .ok (.aload_n 0, 1) := by decide +kernel
theorem dX2_readMark_13 : decode cX2_readMark 13 = .ok (.ldc 102, 2) := by decide +kernel
theorem dX2_readMark_15 : decode cX2_readMark 15 = .ok (.invokevirtual 71, 3) := by decide +kernel
theorem dX2_readMark_18 : decode cX2_readMark 18 = .ok (.ifCond .eq 25, 3) := by decide +kernel
theorem dX2_readMark_21 : decode cX2_readMark 21 = .ok (.aload_n 0, 1) := by decide +kernel
theorem dX2_readMark_22 : decode cX2_readMark 22 = .ok (.iconst 0, 1) := by decide +kernel
theorem dX2_readMark_23 : decode cX2_readMark 23 = .ok (.bipush 9, 2) := by decide +kernel
theorem dX2_readMark_25 : decode cX2_readMark 25 = .ok (.invokevirtual 58, 3) := by decide +kernel
theorem dX2_readMark_28 : decode cX2_readMark 28 = .ok (.istore_n 3, 1) := by decide +kernel
theorem dX2_readMark_29 : decode cX2_readMark 29 = .ok (.aload_n 0, 1) := by decide +kernel
theorem dX2_readMark_30 : decode cX2_readMark 30 = .ok (.getfield 22, 3) := by decide +kernel
theorem dX2_readMark_33 : decode cX2_readMark 33 = .ok (.ifCond .ne 10, 3) := by decide +kernel
theorem dX2_readMark_36 : decode cX2_readMark 36 = .ok (.aload_n 1, 1) := by decide +kernel
theorem dX2_readMark_37 : decode cX2_readMark 37 = .ok (.iload_n 2, 1) := by decide +kernel
theorem dX2_readMark_38 : decode cX2_readMark 38 = .ok (.iload_n 3, 1) := by decide +kernel
theorem dX2_readMark_39 : decode cX2_readMark 39 = .ok (.invokevirtual 104, 3) := by decide +kernel
theorem dX2_readMark_42 : decode cX2_readMark 42 = .ok (.pop, 1) := by decide +kernel
theorem dX2_readMark_43 : decode cX2_readMark 43 = .ok (.aload_n 0, 1) := by decide +kernel
theorem dX2_readMark_44 : decode cX2_readMark 44 = .ok (.ldc 107, 2) := by decide +kernel
theorem dX2_readMark_46 : decode cX2_readMark 46 = .ok (.invokevirtual 71, 3) := by decide +kernel
theorem dX2_readMark_49 : decode cX2_readMark 49 = .ok (.ifCond .eq 19, 3) := by decide +kernel
theorem dX2_readMark_52 : decode cX2_readMark 52 = .ok (.aload_n 1, 1) := by decide +kernel
theorem dX2_readMark_53 : decode cX2_readMark 53 = .ok (.getfield 109, 3) := by decide +kernel
theorem dX2_readMark_56 : decode cX2_readMark 56 = .ok (.iload_n 2, 1) := by decide +kernel
theorem dX2_readMark_57 : decode cX2_readMark 57 = .ok (.aload_n 0, 1) := by decide +kernel
theorem dX2_readMark_58 : decode cX2_readMark 58 = .ok (.iconst 0, 1) := by decide +kernel
theorem dX2_readMark_59 : decode cX2_readMark 59 = .ok (.bipush 99, 2) := by decide +kernel
theorem dX2_readMark_61 : decode cX2_readMark 61 = .ok (.invokevirtual 58, 3) := by decide +kernel
theorem dX2_readMark_64 : decode cX2_readMark 64 = .ok (.invokestatic 111, 3) := by decide +kernel
theorem dX2_readMark_67 : decode cX2_readMark 67 = .ok (.pop, 1) := by decide +kernel
theorem dX2_readMark_68 : decode cX2_readMark 68 = .ok (.return_, 1) := by decide +kernel
theorem dX2_takesWord_0 : decode cX2_takesWord 0 = .ok (.aload_n 0, 1) := by decide +kernel
theorem dX2_takesWord_1 : decode cX2_takesWord 1 = .ok (.getfield 22, 3) := by decide +kernel
theorem dX2_takesWord_4 : decode cX2_takesWord 4 = .ok (.ifCond .ne 11, 3) := by decide +kernel
theorem dX2_takesWord_7 : decode cX2_takesWord 7 = .ok (.aload_n 0, 1) := by decide +kernel
theorem dX2_takesWord_8 : decode cX2_takesWord 8 = .ok (.aload_n 1, 1) := by decide +kernel
theorem dX2_takesWord_9 : decode cX2_takesWord 9 = .ok (.invokevirtual 49, 3) := by decide +kernel
theorem dX2_takesWord_12 : decode cX2_takesWord 12 = .ok (.ifCond .ne 5, 3) := by decide +kernel
theorem dX2_takesWord_15 : decode cX2_takesWord 15 = .ok (.iconst 0, 1) := by decide +kernel
theorem dX2_takesWord_16 : decode cX2_takesWord 16 = .ok (.ireturn, 1) := by decide +kernel
theorem dX2_takesWord_17 : decode cX2_takesWord 17 = .ok (.aload_n 0, 1) := by decide +kernel
theorem dX2_takesWord_18 : decode cX2_takesWord 18 = .ok (.invokevirtual 26, 3) := by decide +kernel
theorem dX2_takesWord_21 : decode cX2_takesWord 21 = .ok (.iconst 1, 1) := by decide +kernel
theorem dX2_takesWord_22 : decode cX2_takesWord 22 = .ok (.ireturn, 1) := by decide +kernel
theorem dX2_takeNumber_0 : decode cX2_takeNumber 0 = .ok (.aload_n 0, 1) := by decide +kernel
theorem dX2_takeNumber_1 : decode cX2_takeNumber 1 = .ok (.getfield 33, 3) := by decide +kernel
theorem dX2_takeNumber_4 : decode cX2_takeNumber 4 = .ok (.iconst 2, 1) := by decide +kernel
theorem dX2_takeNumber_5 : decode cX2_takeNumber 5 = .ok (.if_icmp .ne 15, 3) := by decide +kernel
theorem dX2_takeNumber_8 : decode cX2_takeNumber 8 = .ok (.aload_n 0, 1) := by decide +kernel
theorem dX2_takeNumber_9 : decode cX2_takeNumber 9 = .ok (.getfield 115, 3) := by decide +kernel
theorem dX2_takeNumber_12 : decode cX2_takeNumber 12 = .ok (.iload_n 1, 1) := by decide +kernel
theorem dX2_takeNumber_13 : decode cX2_takeNumber 13 = .ok (.iload_n 2, 1) := by decide +kernel
theorem dX2_takeNumber_14 : decode cX2_takeNumber 14 = .ok (.invokestatic 118, 3) := by decide +kernel
theorem dX2_takeNumber_17 : decode cX2_takeNumber 17 = .ok (.ifCond .ne 10, 3) := by decide +kernel
theorem dX2_takeNumber_20 : decode cX2_takeNumber 20 = .ok (.aload_n 0, 1) := by decide +kernel
theorem dX2_takeNumber_21 : decode cX2_takeNumber 21 = .ok (.iconst 1, 1) := by decide +kernel
theorem dX2_takeNumber_22 : decode cX2_takeNumber 22 = .ok (.putfield 22, 3) := by decide +kernel
theorem dX2_takeNumber_25 : decode cX2_takeNumber 25 = .ok (.iconst (-1), 1) := by decide +kernel
theorem dX2_takeNumber_26 : decode cX2_takeNumber 26 = .ok (.ireturn, 1) := by decide +kernel
theorem dX2_takeNumber_27 : decode cX2_takeNumber 27 = .ok (.aload_n 0, 1) := by decide +kernel
theorem dX2_takeNumber_28 : decode cX2_takeNumber 28 = .ok (.getfield 115, 3) := by decide +kernel
theorem dX2_takeNumber_31 : decode cX2_takeNumber 31 = .ok (.istore_n 3, 1) := by decide +kernel
theorem dX2_takeNumber_32 : decode cX2_takeNumber 32 = .ok (.aload_n 0, 1) := by decide +kernel
theorem dX2_takeNumber_33 : decode cX2_takeNumber 33 = .ok (.invokevirtual 26, 3) := by decide +kernel
theorem dX2_takeNumber_36 : decode cX2_takeNumber 36 = .ok (.iload_n 3, 1) := by decide +kernel
theorem dX2_takeNumber_37 : decode cX2_takeNumber 37 = .ok (.ireturn, 1) := by decide +kernel
theorem dX2_lookHere_0 : decode cX2_lookHere 0 = .ok (.iconst 0, 1) := by decide +kernel
theorem dX2_lookHere_1 : decode cX2_lookHere 1 = .ok (.istore_n 1, 1) := by decide +kernel
theorem dX2_lookHere_2 : decode cX2_lookHere 2 = .ok (.aload_n 0, 1) := by decide +kernel
theorem dX2_lookHere_3 : decode cX2_lookHere 3 = .ok (.getfield 18, 3) := by decide +kernel
theorem dX2_lookHere_6 : decode cX2_lookHere 6 = .ok (.iconst 1, 1) := by decide +kernel
theorem dX2_lookHere_7 : decode cX2_lookHere 7 = .ok (.isub, 1) := by decide +kernel
theorem dX2_lookHere_8 : decode cX2_lookHere 8 = .ok (.istore_n 2, 1) := by decide +kernel
theorem dX2_lookHere_9 : decode cX2_lookHere 9 = .ok (.iload_n 2, 1) := by decide +kernel
theorem dX2_lookHere_10 : decode cX2_lookHere 10 = .ok (.aload_n 0, 1) := by decide +kernel
theorem dX2_lookHere_11 : decode cX2_lookHere 11 = .ok (.getfield 36, 3) := by decide +kernel
theorem dX2_lookHere_14 : decode cX2_lookHere 14 = .ok (.if_icmp .lt 57, 3) := by decide +kernel
theorem dX2_lookHere_17 : decode cX2_lookHere 17 = .ok (.aload_n 0, 1) := by decide +kernel
theorem dX2_lookHere_18 : decode cX2_lookHere 18 = .ok (.getfield 18, 3) := by decide +kernel
theorem dX2_lookHere_21 : decode cX2_lookHere 21 = .ok (.iconst 1, 1) := by decide +kernel
theorem dX2_lookHere_22 : decode cX2_lookHere 22 = .ok (.isub, 1) := by decide +kernel
theorem dX2_lookHere_23 : decode cX2_lookHere 23 = .ok (.iload_n 2, 1) := by decide +kernel
theorem dX2_lookHere_24 : decode cX2_lookHere 24 = .ok (.isub, 1) := by decide +kernel
theorem dX2_lookHere_25 : decode cX2_lookHere 25 = .ok (.istore_n 3, 1) := by decide +kernel
theorem dX2_lookHere_26 : decode cX2_lookHere 26 = .ok (.aload_n 0, 1) := by decide +kernel
theorem dX2_lookHere_27 : decode cX2_lookHere 27 = .ok (.getfield 12, 3) := by decide +kernel
theorem dX2_lookHere_30 : decode cX2_lookHere 30 = .ok (.iload_n 2, 1) := by decide +kernel
theorem dX2_lookHere_31 : decode cX2_lookHere 31 = .ok (.invokevirtual 122, 3) := by decide +kernel
theorem dX2_lookHere_34 : decode cX2_lookHere 34 = .ok (.bipush 48, 2) := by decide +kernel
theorem dX2_lookHere_36 : decode cX2_lookHere 36 = .ok (.isub, 1) := by decide +kernel
theorem dX2_lookHere_37 : decode cX2_lookHere 37 = .ok (.istore 4, 2) := by decide +kernel
theorem dX2_lookHere_39 : decode cX2_lookHere 39 = .ok (.iload 4, 2) := by decide +kernel
theorem dX2_lookHere_41 : decode cX2_lookHere 41 = .ok (.iconst 0, 1) := by decide +kernel
theorem dX2_lookHere_42 : decode cX2_lookHere 42 = .ok (.iconst 3, 1) := by decide +kernel
theorem dX2_lookHere_43 : decode cX2_lookHere 43 = .ok (.invokestatic 118, 3) := by decide +kernel
theorem dX2_lookHere_46 : decode cX2_lookHere 46 = .ok (.ifCond .ne 5, 3) := by decide +kernel
theorem dX2_lookHere_49 : decode cX2_lookHere 49 = .ok (.iconst (-1), 1) := by decide +kernel
theorem dX2_lookHere_50 : decode cX2_lookHere 50 = .ok (.ireturn, 1) := by decide +kernel
theorem dX2_lookHere_51 : decode cX2_lookHere 51 = .ok (.iload_n 3, 1) := by decide +kernel
theorem dX2_lookHere_52 : decode cX2_lookHere 52 = .ok (.bipush 9, 2) := by decide +kernel
theorem dX2_lookHere_54 : decode cX2_lookHere 54 = .ok (.if_icmp .ge 11, 3) := by decide +kernel
theorem dX2_lookHere_57 : decode cX2_lookHere 57 = .ok (.iload_n 1, 1) := by decide +kernel
theorem dX2_lookHere_58 : decode cX2_lookHere 58 = .ok (.iload_n 3, 1) := by decide +kernel
theorem dX2_lookHere_59 : decode cX2_lookHere 59 = .ok (.iload 4, 2) := by decide +kernel
theorem dX2_lookHere_61 : decode cX2_lookHere 61 = .ok (.invokestatic 126, 3) := by decide +kernel
theorem dX2_lookHere_64 : decode cX2_lookHere 64 = .ok (.istore_n 1, 1) := by decide +kernel
theorem dX2_lookHere_65 : decode cX2_lookHere 65 = .ok (.iinc 2 (-1), 3) := by decide +kernel
theorem dX2_lookHere_68 : decode cX2_lookHere 68 = .ok (.goto (-59), 3) := by decide +kernel
theorem dX2_lookHere_71 : decode cX2_lookHere 71 = .ok (.iload_n 1, 1) := by decide +kernel
theorem dX2_lookHere_72 : decode cX2_lookHere 72 = .ok (.ireturn, 1) := by decide +kernel
theorem dX2_kindHere_0 : decode cX2_kindHere 0 = .ok (.iconst 0, 1) := by decide +kernel
theorem dX2_kindHere_1 : decode cX2_kindHere 1 = .ok (.istore_n 1, 1) := by decide +kernel
theorem dX2_kindHere_2 : decode cX2_kindHere 2 = .ok (.iload_n 1, 1) := by decide +kernel
theorem dX2_kindHere_3 : decode cX2_kindHere 3 = .ok (.iconst 5, 1) := by decide +kernel
theorem dX2_kindHere_4 : decode cX2_kindHere 4 = .ok (.if_icmp .gt 22, 3) := by decide +kernel
theorem dX2_kindHere_7 : decode cX2_kindHere 7 = .ok (.aload_n 0, 1) := by decide +kernel
theorem dX2_kindHere_8 : decode cX2_kindHere 8 = .ok (.iload_n 1, 1) := by decide +kernel
theorem dX2_kindHere_9 : decode cX2_kindHere 9 = .ok (.invokestatic 130, 3) := by decide +kernel
theorem dX2_kindHere_12 : decode cX2_kindHere 12 = .ok (.invokevirtual 49, 3) := by decide +kernel
theorem dX2_kindHere_15 : decode cX2_kindHere 15 = .ok (.ifCond .eq 5, 3) := by decide +kernel
theorem dX2_kindHere_18 : decode cX2_kindHere 18 = .ok (.iload_n 1, 1) := by decide +kernel
theorem dX2_kindHere_19 : decode cX2_kindHere 19 = .ok (.ireturn, 1) := by decide +kernel
theorem dX2_kindHere_20 : decode cX2_kindHere 20 = .ok (.iinc 1 1, 3) := by decide +kernel
theorem dX2_kindHere_23 : decode cX2_kindHere 23 = .ok (.goto (-21), 3) := by decide +kernel
theorem dX2_kindHere_26 : decode cX2_kindHere 26 = .ok (.iconst (-1), 1) := by decide +kernel
theorem dX2_kindHere_27 : decode cX2_kindHere 27 = .ok (.ireturn, 1) := by decide +kernel
theorem dX2_nameOf_0 : decode cX2_nameOf 0 = .ok (.iload_n 0, 1) := by decide +kernel
theorem dX2_nameOf_1 : decode cX2_nameOf 1 = .ok (.tableswitch 50 1 5 #[35, 38, 41, 44, 47], 35) := by decide +kernel
theorem dX2_nameOf_36 : decode cX2_nameOf 36 = .ok (.ldc 134, 2) := by decide +kernel
theorem dX2_nameOf_38 : decode cX2_nameOf 38 = .ok (.areturn, 1) := by decide +kernel
theorem dX2_nameOf_39 : decode cX2_nameOf 39 = .ok (.ldc 136, 2) := by decide +kernel
theorem dX2_nameOf_41 : decode cX2_nameOf 41 = .ok (.areturn, 1) := by decide +kernel
theorem dX2_nameOf_42 : decode cX2_nameOf 42 = .ok (.ldc 138, 2) := by decide +kernel
theorem dX2_nameOf_44 : decode cX2_nameOf 44 = .ok (.areturn, 1) := by decide +kernel
theorem dX2_nameOf_45 : decode cX2_nameOf 45 = .ok (.ldc 140, 2) := by decide +kernel
theorem dX2_nameOf_47 : decode cX2_nameOf 47 = .ok (.areturn, 1) := by decide +kernel
theorem dX2_nameOf_48 : decode cX2_nameOf 48 = .ok (.ldc 142, 2) := by decide +kernel
theorem dX2_nameOf_50 : decode cX2_nameOf 50 = .ok (.areturn, 1) := by decide +kernel
theorem dX2_nameOf_51 : decode cX2_nameOf 51 = .ok (.ldc 144, 2) := by decide +kernel
theorem dX2_nameOf_53 : decode cX2_nameOf 53 = .ok (.areturn, 1) := by decide +kernel
theorem dX2_isWord_0 : decode cX2_isWord 0 = .ok (.aload_n 0, 1) := by decide +kernel
theorem dX2_isWord_1 : decode cX2_isWord 1 = .ok (.getfield 33, 3) := by decide +kernel
theorem dX2_isWord_4 : decode cX2_isWord 4 = .ok (.iconst 1, 1) := by decide +kernel
theorem dX2_isWord_5 : decode cX2_isWord 5 = .ok (.if_icmp .ne 19, 3) := by decide +kernel
theorem dX2_isWord_8 : decode cX2_isWord 8 = .ok (.aload_n 0, 1) := by decide +kernel
theorem dX2_isWord_9 : decode cX2_isWord 9 = .ok (.getfield 18, 3) := by decide +kernel
theorem dX2_isWord_12 : decode cX2_isWord 12 = .ok (.aload_n 0, 1) := by decide +kernel
theorem dX2_isWord_13 : decode cX2_isWord 13 = .ok (.getfield 36, 3) := by decide +kernel
theorem dX2_isWord_16 : decode cX2_isWord 16 = .ok (.isub, 1) := by decide +kernel
theorem dX2_isWord_17 : decode cX2_isWord 17 = .ok (.aload_n 1, 1) := by decide +kernel
theorem dX2_isWord_18 : decode cX2_isWord 18 = .ok (.invokevirtual 146, 3) := by decide +kernel
theorem dX2_isWord_21 : decode cX2_isWord 21 = .ok (.if_icmp .eq 5, 3) := by decide +kernel
theorem dX2_isWord_24 : decode cX2_isWord 24 = .ok (.iconst 0, 1) := by decide +kernel
theorem dX2_isWord_25 : decode cX2_isWord 25 = .ok (.ireturn, 1) := by decide +kernel
theorem dX2_isWord_26 : decode cX2_isWord 26 = .ok (.iconst 0, 1) := by decide +kernel
theorem dX2_isWord_27 : decode cX2_isWord 27 = .ok (.istore_n 2, 1) := by decide +kernel
theorem dX2_isWord_28 : decode cX2_isWord 28 = .ok (.iload_n 2, 1) := by decide +kernel
theorem dX2_isWord_29 : decode cX2_isWord 29 = .ok (.aload_n 1, 1) := by decide +kernel
theorem dX2_isWord_30 : decode cX2_isWord 30 = .ok (.invokevirtual 146, 3) := by decide +kernel
theorem dX2_isWord_33 : decode cX2_isWord 33 = .ok (.if_icmp .ge 32, 3) := by decide +kernel
theorem dX2_isWord_36 : decode cX2_isWord 36 = .ok (.aload_n 0, 1) := by decide +kernel
theorem dX2_isWord_37 : decode cX2_isWord 37 = .ok (.getfield 12, 3) := by decide +kernel
theorem dX2_isWord_40 : decode cX2_isWord 40 = .ok (.aload_n 0, 1) := by decide +kernel
theorem dX2_isWord_41 : decode cX2_isWord 41 = .ok (.getfield 36, 3) := by decide +kernel
theorem dX2_isWord_44 : decode cX2_isWord 44 = .ok (.iload_n 2, 1) := by decide +kernel
theorem dX2_isWord_45 : decode cX2_isWord 45 = .ok (.iadd, 1) := by decide +kernel
theorem dX2_isWord_46 : decode cX2_isWord 46 = .ok (.invokevirtual 122, 3) := by decide +kernel
theorem dX2_isWord_49 : decode cX2_isWord 49 = .ok (.aload_n 1, 1) := by decide +kernel
theorem dX2_isWord_50 : decode cX2_isWord 50 = .ok (.iload_n 2, 1) := by decide +kernel
theorem dX2_isWord_51 : decode cX2_isWord 51 = .ok (.invokevirtual 151, 3) := by decide +kernel
theorem dX2_isWord_54 : decode cX2_isWord 54 = .ok (.if_icmp .eq 5, 3) := by decide +kernel
theorem dX2_isWord_57 : decode cX2_isWord 57 = .ok (.iconst 0, 1) := by decide +kernel
theorem dX2_isWord_58 : decode cX2_isWord 58 = .ok (.ireturn, 1) := by decide +kernel
theorem dX2_isWord_59 : decode cX2_isWord 59 = .ok (.iinc 2 1, 3) := by decide +kernel
theorem dX2_isWord_62 : decode cX2_isWord 62 = .ok (.goto (-34), 3) := by decide +kernel
theorem dX2_isWord_65 : decode cX2_isWord 65 = .ok (.iconst 1, 1) := by decide +kernel
theorem dX2_isWord_66 : decode cX2_isWord 66 = .ok (.ireturn, 1) := by decide +kernel
theorem dX2_nextToken_0 : decode cX2_nextToken 0 = .ok (.aload_n 0, 1) := by decide +kernel
theorem dX2_nextToken_1 : decode cX2_nextToken 1 = .ok (.aload_n 0, 1) := by decide +kernel
theorem dX2_nextToken_2 : decode cX2_nextToken 2 = .ok (.getfield 18, 3) := by decide +kernel
theorem dX2_nextToken_5 : decode cX2_nextToken 5 = .ok (.putfield 36, 3) := by decide +kernel
theorem dX2_nextToken_8 : decode cX2_nextToken 8 = .ok (.aload_n 0, 1) := by decide +kernel
theorem dX2_nextToken_9 : decode cX2_nextToken 9 = .ok (.getfield 36, 3) := by decide +kernel
theorem dX2_nextToken_12 : decode cX2_nextToken 12 = .ok (.aload_n 0, 1) := by decide +kernel
theorem dX2_nextToken_13 : decode cX2_nextToken 13 = .ok (.getfield 12, 3) := by decide +kernel
theorem dX2_nextToken_16 : decode cX2_nextToken 16 = .ok (.getfield 155, 3) := by decide +kernel
theorem dX2_nextToken_19 : decode cX2_nextToken 19 = .ok (.if_icmp .ge 32, 3) := by decide +kernel
theorem dX2_nextToken_22 : decode cX2_nextToken 22 = .ok (.aload_n 0, 1) := by decide +kernel
theorem dX2_nextToken_23 : decode cX2_nextToken 23 = .ok (.getfield 12, 3) := by decide +kernel
theorem dX2_nextToken_26 : decode cX2_nextToken 26 = .ok (.aload_n 0, 1) := by decide +kernel
theorem dX2_nextToken_27 : decode cX2_nextToken 27 = .ok (.getfield 36, 3) := by decide +kernel
theorem dX2_nextToken_30 : decode cX2_nextToken 30 = .ok (.invokevirtual 122, 3) := by decide +kernel
theorem dX2_nextToken_33 : decode cX2_nextToken 33 = .ok (.bipush 32, 2) := by decide +kernel
theorem dX2_nextToken_35 : decode cX2_nextToken 35 = .ok (.if_icmp .ne 16, 3) := by decide +kernel
theorem dX2_nextToken_38 : decode cX2_nextToken 38 = .ok (.aload_n 0, 1) := by decide +kernel
theorem dX2_nextToken_39 : decode cX2_nextToken 39 = .ok (.dup, 1) := by decide +kernel
theorem dX2_nextToken_40 : decode cX2_nextToken 40 = .ok (.getfield 36, 3) := by decide +kernel
theorem dX2_nextToken_43 : decode cX2_nextToken 43 = .ok (.iconst 1, 1) := by decide +kernel
theorem dX2_nextToken_44 : decode cX2_nextToken 44 = .ok (.iadd, 1) := by decide +kernel
theorem dX2_nextToken_45 : decode cX2_nextToken 45 = .ok (.putfield 36, 3) := by decide +kernel
theorem dX2_nextToken_48 : decode cX2_nextToken 48 = .ok (.goto (-40), 3) := by decide +kernel
theorem dX2_nextToken_51 : decode cX2_nextToken 51 = .ok (.aload_n 0, 1) := by decide +kernel
theorem dX2_nextToken_52 : decode cX2_nextToken 52 = .ok (.aload_n 0, 1) := by decide +kernel
theorem dX2_nextToken_53 : decode cX2_nextToken 53 = .ok (.getfield 36, 3) := by decide +kernel
theorem dX2_nextToken_56 : decode cX2_nextToken 56 = .ok (.putfield 18, 3) := by decide +kernel
theorem dX2_nextToken_59 : decode cX2_nextToken 59 = .ok (.aload_n 0, 1) := by decide +kernel
theorem dX2_nextToken_60 : decode cX2_nextToken 60 = .ok (.iconst 0, 1) := by decide +kernel
theorem dX2_nextToken_61 : decode cX2_nextToken 61 = .ok (.putfield 115, 3) := by decide +kernel
theorem dX2_nextToken_64 : decode cX2_nextToken 64 = .ok (.aload_n 0, 1) := by decide +kernel
theorem dX2_nextToken_65 : decode cX2_nextToken 65 = .ok (.getfield 12, 3) := by decide +kernel
theorem dX2_nextToken_68 : decode cX2_nextToken 68 = .ok (.aload_n 0, 1) := by decide +kernel
theorem dX2_nextToken_69 : decode cX2_nextToken 69 = .ok (.getfield 36, 3) := by decide +kernel
theorem dX2_nextToken_72 : decode cX2_nextToken 72 = .ok (.invokevirtual 122, 3) := by decide +kernel
theorem dX2_nextToken_75 : decode cX2_nextToken 75 = .ok (.istore_n 1, 1) := by decide +kernel
theorem dX2_nextToken_76 : decode cX2_nextToken 76 = .ok (.aload_n 0, 1) := by decide +kernel
theorem dX2_nextToken_77 : decode cX2_nextToken 77 = .ok (.getfield 36, 3) := by decide +kernel
theorem dX2_nextToken_80 : decode cX2_nextToken 80 = .ok (.aload_n 0, 1) := by decide +kernel
theorem dX2_nextToken_81 : decode cX2_nextToken 81 = .ok (.getfield 12, 3) := by decide +kernel
theorem dX2_nextToken_84 : decode cX2_nextToken 84 = .ok (.getfield 155, 3) := by decide +kernel
theorem dX2_nextToken_87 : decode cX2_nextToken 87 = .ok (.if_icmp .lt 11, 3) := by decide +kernel
theorem dX2_nextToken_90 : decode cX2_nextToken 90 = .ok (.aload_n 0, 1) := by decide +kernel
theorem dX2_nextToken_91 : decode cX2_nextToken 91 = .ok (.iconst 0, 1) := by decide +kernel
theorem dX2_nextToken_92 : decode cX2_nextToken 92 = .ok (.putfield 33, 3) := by decide +kernel
theorem dX2_nextToken_95 : decode cX2_nextToken 95 = .ok (.goto 180, 3) := by decide +kernel
theorem dX2_nextToken_98 : decode cX2_nextToken 98 = .ok (.iload_n 1, 1) := by decide +kernel
theorem dX2_nextToken_99 : decode cX2_nextToken 99 = .ok (.invokestatic 157, 3) := by decide +kernel
theorem dX2_nextToken_102 : decode cX2_nextToken 102 = .ok (.ifCond .eq 52, 3) := by decide +kernel
theorem dX2_nextToken_105 : decode cX2_nextToken 105 = .ok (.aload_n 0, 1) := by decide +kernel
theorem dX2_nextToken_106 : decode cX2_nextToken 106 = .ok (.iconst 1, 1) := by decide +kernel
theorem dX2_nextToken_107 : decode cX2_nextToken 107 = .ok (.putfield 33, 3) := by decide +kernel
theorem dX2_nextToken_110 : decode cX2_nextToken 110 = .ok (.aload_n 0, 1) := by decide +kernel
theorem dX2_nextToken_111 : decode cX2_nextToken 111 = .ok (.getfield 18, 3) := by decide +kernel
theorem dX2_nextToken_114 : decode cX2_nextToken 114 = .ok (.aload_n 0, 1) := by decide +kernel
theorem dX2_nextToken_115 : decode cX2_nextToken 115 = .ok (.getfield 12, 3) := by decide +kernel
theorem dX2_nextToken_118 : decode cX2_nextToken 118 = .ok (.getfield 155, 3) := by decide +kernel
theorem dX2_nextToken_121 : decode cX2_nextToken 121 = .ok (.if_icmp .ge 154, 3) := by decide +kernel
theorem dX2_nextToken_124 : decode cX2_nextToken 124 = .ok (.aload_n 0, 1) := by decide +kernel
theorem dX2_nextToken_125 : decode cX2_nextToken 125 = .ok (.getfield 12, 3) := by decide +kernel
theorem dX2_nextToken_128 : decode cX2_nextToken 128 = .ok (.aload_n 0, 1) := by decide +kernel
theorem dX2_nextToken_129 : decode cX2_nextToken 129 = .ok (.getfield 18, 3) := by decide +kernel
theorem dX2_nextToken_132 : decode cX2_nextToken 132 = .ok (.invokevirtual 122, 3) := by decide +kernel
theorem dX2_nextToken_135 : decode cX2_nextToken 135 = .ok (.invokestatic 157, 3) := by decide +kernel
theorem dX2_nextToken_138 : decode cX2_nextToken 138 = .ok (.ifCond .eq 137, 3) := by decide +kernel
theorem dX2_nextToken_141 : decode cX2_nextToken 141 = .ok (.aload_n 0, 1) := by decide +kernel
theorem dX2_nextToken_142 : decode cX2_nextToken 142 = .ok (.dup, 1) := by decide +kernel
theorem dX2_nextToken_143 : decode cX2_nextToken 143 = .ok (.getfield 18, 3) := by decide +kernel
theorem dX2_nextToken_146 : decode cX2_nextToken 146 = .ok (.iconst 1, 1) := by decide +kernel
theorem dX2_nextToken_147 : decode cX2_nextToken 147 = .ok (.iadd, 1) := by decide +kernel
theorem dX2_nextToken_148 : decode cX2_nextToken 148 = .ok (.putfield 18, 3) := by decide +kernel
theorem dX2_nextToken_151 : decode cX2_nextToken 151 = .ok (.goto (-41), 3) := by decide +kernel
theorem dX2_nextToken_154 : decode cX2_nextToken 154 = .ok (.iload_n 1, 1) := by decide +kernel
theorem dX2_nextToken_155 : decode cX2_nextToken 155 = .ok (.invokestatic 161, 3) := by decide +kernel
theorem dX2_nextToken_158 : decode cX2_nextToken 158 = .ok (.ifCond .eq 92, 3) := by decide +kernel
theorem dX2_nextToken_161 : decode cX2_nextToken 161 = .ok (.aload_n 0, 1) := by decide +kernel
theorem dX2_nextToken_162 : decode cX2_nextToken 162 = .ok (.iconst 2, 1) := by decide +kernel
theorem dX2_nextToken_163 : decode cX2_nextToken 163 = .ok (.putfield 33, 3) := by decide +kernel
theorem dX2_nextToken_166 : decode cX2_nextToken 166 = .ok (.aload_n 0, 1) := by decide +kernel
theorem dX2_nextToken_167 : decode cX2_nextToken 167 = .ok (.getfield 18, 3) := by decide +kernel
theorem dX2_nextToken_170 : decode cX2_nextToken 170 = .ok (.aload_n 0, 1) := by decide +kernel
theorem dX2_nextToken_171 : decode cX2_nextToken 171 = .ok (.getfield 12, 3) := by decide +kernel
theorem dX2_nextToken_174 : decode cX2_nextToken 174 = .ok (.getfield 155, 3) := by decide +kernel
theorem dX2_nextToken_177 : decode cX2_nextToken 177 = .ok (.if_icmp .ge 98, 3) := by decide +kernel
theorem dX2_nextToken_180 : decode cX2_nextToken 180 = .ok (.aload_n 0, 1) := by decide +kernel
theorem dX2_nextToken_181 : decode cX2_nextToken 181 = .ok (.getfield 12, 3) := by decide +kernel
theorem dX2_nextToken_184 : decode cX2_nextToken 184 = .ok (.aload_n 0, 1) := by decide +kernel
theorem dX2_nextToken_185 : decode cX2_nextToken 185 = .ok (.getfield 18, 3) := by decide +kernel
theorem dX2_nextToken_188 : decode cX2_nextToken 188 = .ok (.invokevirtual 122, 3) := by decide +kernel
theorem dX2_nextToken_191 : decode cX2_nextToken 191 = .ok (.invokestatic 161, 3) := by decide +kernel
theorem dX2_nextToken_194 : decode cX2_nextToken 194 = .ok (.ifCond .eq 81, 3) := by decide +kernel
theorem dX2_nextToken_197 : decode cX2_nextToken 197 = .ok (.aload_n 0, 1) := by decide +kernel
theorem dX2_nextToken_198 : decode cX2_nextToken 198 = .ok (.aload_n 0, 1) := by decide +kernel
theorem dX2_nextToken_199 : decode cX2_nextToken 199 = .ok (.getfield 115, 3) := by decide +kernel
theorem dX2_nextToken_202 : decode cX2_nextToken 202 = .ok (.ldc 164, 2) := by decide +kernel
theorem dX2_nextToken_204 : decode cX2_nextToken 204 = .ok (.if_icmp .le 8, 3) := by decide +kernel
theorem dX2_nextToken_207 : decode cX2_nextToken 207 = .ok (.ldc 165, 2) := by decide +kernel
theorem dX2_nextToken_209 : decode cX2_nextToken 209 = .ok (.goto 25, 3) := by decide +kernel
theorem dX2_nextToken_212 : decode cX2_nextToken 212 = .ok (.bipush 10, 2) := by decide +kernel
theorem dX2_nextToken_214 : decode cX2_nextToken 214 = .ok (.aload_n 0, 1) := by decide +kernel
theorem dX2_nextToken_215 : decode cX2_nextToken 215 = .ok (.getfield 115, 3) := by decide +kernel
theorem dX2_nextToken_218 : decode cX2_nextToken 218 = .ok (.imul, 1) := by decide +kernel
theorem dX2_nextToken_219 : decode cX2_nextToken 219 = .ok (.aload_n 0, 1) := by decide +kernel
theorem dX2_nextToken_220 : decode cX2_nextToken 220 = .ok (.getfield 12, 3) := by decide +kernel
theorem dX2_nextToken_223 : decode cX2_nextToken 223 = .ok (.aload_n 0, 1) := by decide +kernel
theorem dX2_nextToken_224 : decode cX2_nextToken 224 = .ok (.getfield 18, 3) := by decide +kernel
theorem dX2_nextToken_227 : decode cX2_nextToken 227 = .ok (.invokevirtual 122, 3) := by decide +kernel
theorem dX2_nextToken_230 : decode cX2_nextToken 230 = .ok (.iadd, 1) := by decide +kernel
theorem dX2_nextToken_231 : decode cX2_nextToken 231 = .ok (.bipush 48, 2) := by decide +kernel
theorem dX2_nextToken_233 : decode cX2_nextToken 233 = .ok (.isub, 1) := by decide +kernel
theorem dX2_nextToken_234 : decode cX2_nextToken 234 = .ok (.putfield 115, 3) := by decide +kernel
theorem dX2_nextToken_237 : decode cX2_nextToken 237 = .ok (.aload_n 0, 1) := by decide +kernel
theorem dX2_nextToken_238 : decode cX2_nextToken 238 = .ok (.dup, 1) := by decide +kernel
theorem dX2_nextToken_239 : decode cX2_nextToken 239 = .ok (.getfield 18, 3) := by decide +kernel
theorem dX2_nextToken_242 : decode cX2_nextToken 242 = .ok (.iconst 1, 1) := by decide +kernel
theorem dX2_nextToken_243 : decode cX2_nextToken 243 = .ok (.iadd, 1) := by decide +kernel
theorem dX2_nextToken_244 : decode cX2_nextToken 244 = .ok (.putfield 18, 3) := by decide +kernel
theorem dX2_nextToken_247 : decode cX2_nextToken 247 = .ok (.goto (-81), 3) := by decide +kernel
theorem dX2_nextToken_250 : decode cX2_nextToken 250 = .ok (.aload_n 0, 1) := by decide +kernel
theorem dX2_nextToken_251 : decode cX2_nextToken 251 = .ok (.iload_n 1, 1) := by decide +kernel
theorem dX2_nextToken_252 : decode cX2_nextToken 252 = .ok (.bipush 59, 2) := by decide +kernel
theorem dX2_nextToken_254 : decode cX2_nextToken 254 = .ok (.if_icmp .ne 7, 3) := by decide +kernel
theorem dX2_nextToken_257 : decode cX2_nextToken 257 = .ok (.iconst 3, 1) := by decide +kernel
theorem dX2_nextToken_258 : decode cX2_nextToken 258 = .ok (.goto 4, 3) := by decide +kernel
theorem dX2_nextToken_261 : decode cX2_nextToken 261 = .ok (.iconst 4, 1) := by decide +kernel
theorem dX2_nextToken_262 : decode cX2_nextToken 262 = .ok (.putfield 33, 3) := by decide +kernel
theorem dX2_nextToken_265 : decode cX2_nextToken 265 = .ok (.aload_n 0, 1) := by decide +kernel
theorem dX2_nextToken_266 : decode cX2_nextToken 266 = .ok (.dup, 1) := by decide +kernel
theorem dX2_nextToken_267 : decode cX2_nextToken 267 = .ok (.getfield 18, 3) := by decide +kernel
theorem dX2_nextToken_270 : decode cX2_nextToken 270 = .ok (.iconst 1, 1) := by decide +kernel
theorem dX2_nextToken_271 : decode cX2_nextToken 271 = .ok (.iadd, 1) := by decide +kernel
theorem dX2_nextToken_272 : decode cX2_nextToken 272 = .ok (.putfield 18, 3) := by decide +kernel
theorem dX2_nextToken_275 : decode cX2_nextToken 275 = .ok (.return_, 1) := by decide +kernel
theorem dX2_isLetter_0 : decode cX2_isLetter 0 = .ok (.iload_n 0, 1) := by decide +kernel
theorem dX2_isLetter_1 : decode cX2_isLetter 1 = .ok (.bipush 97, 2) := by decide +kernel
theorem dX2_isLetter_3 : decode cX2_isLetter 3 = .ok (.if_icmp .lt 13, 3) := by decide +kernel
theorem dX2_isLetter_6 : decode cX2_isLetter 6 = .ok (.iload_n 0, 1) := by decide +kernel
theorem dX2_isLetter_7 : decode cX2_isLetter 7 = .ok (.bipush 122, 2) := by decide +kernel
theorem dX2_isLetter_9 : decode cX2_isLetter 9 = .ok (.if_icmp .gt 7, 3) := by decide +kernel
theorem dX2_isLetter_12 : decode cX2_isLetter 12 = .ok (.iconst 1, 1) := by decide +kernel
theorem dX2_isLetter_13 : decode cX2_isLetter 13 = .ok (.goto 4, 3) := by decide +kernel
theorem dX2_isLetter_16 : decode cX2_isLetter 16 = .ok (.iconst 0, 1) := by decide +kernel
theorem dX2_isLetter_17 : decode cX2_isLetter 17 = .ok (.ireturn, 1) := by decide +kernel
theorem dX2_isDigit_0 : decode cX2_isDigit 0 = .ok (.iload_n 0, 1) := by decide +kernel
theorem dX2_isDigit_1 : decode cX2_isDigit 1 = .ok (.bipush 48, 2) := by decide +kernel
theorem dX2_isDigit_3 : decode cX2_isDigit 3 = .ok (.if_icmp .lt 13, 3) := by decide +kernel
theorem dX2_isDigit_6 : decode cX2_isDigit 6 = .ok (.iload_n 0, 1) := by decide +kernel
theorem dX2_isDigit_7 : decode cX2_isDigit 7 = .ok (.bipush 57, 2) := by decide +kernel
theorem dX2_isDigit_9 : decode cX2_isDigit 9 = .ok (.if_icmp .gt 7, 3) := by decide +kernel
theorem dX2_isDigit_12 : decode cX2_isDigit 12 = .ok (.iconst 1, 1) := by decide +kernel
theorem dX2_isDigit_13 : decode cX2_isDigit 13 = .ok (.goto 4, 3) := by decide +kernel
theorem dX2_isDigit_16 : decode cX2_isDigit 16 = .ok (.iconst 0, 1) := by decide +kernel
theorem dX2_isDigit_17 : decode cX2_isDigit 17 = .ok (.ireturn, 1) := by decide +kernel
theorem dX3_init_0 : decode cX3_init 0 = .ok (.aload_n 0, 1) := by decide +kernel
theorem dX3_init_1 : decode cX3_init 1 = .ok (.invokespecial 5, 3) := by decide +kernel
theorem dX3_init_4 : decode cX3_init 4 = .ok (.aload_n 0, 1) := by decide +kernel
theorem dX3_init_5 : decode cX3_init 5 = .ok (.bipush 9, 2) := by decide +kernel
theorem dX3_init_7 : decode cX3_init 7 = .ok (.newarray .int, 2) := by decide +kernel
theorem dX3_init_9 : decode cX3_init 9 = .ok (.putfield 11, 3) := by decide +kernel
theorem dX3_init_12 : decode cX3_init 12 = .ok (.aload_n 0, 1) := by decide +kernel
theorem dX3_init_13 : decode cX3_init 13 = .ok (.bipush 9, 2) := by decide +kernel
theorem dX3_init_15 : decode cX3_init 15 = .ok (.newarray .int, 2) := by decide +kernel
theorem dX3_init_17 : decode cX3_init 17 = .ok (.putfield 15, 3) := by decide +kernel
theorem dX3_init_20 : decode cX3_init 20 = .ok (.aload_n 0, 1) := by decide +kernel
theorem dX3_init_21 : decode cX3_init 21 = .ok (.bipush 32, 2) := by decide +kernel
theorem dX3_init_23 : decode cX3_init 23 = .ok (.newarray .int, 2) := by decide +kernel
theorem dX3_init_25 : decode cX3_init 25 = .ok (.putfield 18, 3) := by decide +kernel
theorem dX3_init_28 : decode cX3_init 28 = .ok (.aload_n 0, 1) := by decide +kernel
theorem dX3_init_29 : decode cX3_init 29 = .ok (.bipush 16, 2) := by decide +kernel
theorem dX3_init_31 : decode cX3_init 31 = .ok (.newarray .int, 2) := by decide +kernel
theorem dX3_init_33 : decode cX3_init 33 = .ok (.putfield 21, 3) := by decide +kernel
theorem dX3_init_36 : decode cX3_init 36 = .ok (.aload_n 0, 1) := by decide +kernel
theorem dX3_init_37 : decode cX3_init 37 = .ok (.bipush 12, 2) := by decide +kernel
theorem dX3_init_39 : decode cX3_init 39 = .ok (.newarray .int, 2) := by decide +kernel
theorem dX3_init_41 : decode cX3_init 41 = .ok (.putfield 24, 3) := by decide +kernel
theorem dX3_init_44 : decode cX3_init 44 = .ok (.aload_n 0, 1) := by decide +kernel
theorem dX3_init_45 : decode cX3_init 45 = .ok (.bipush 12, 2) := by decide +kernel
theorem dX3_init_47 : decode cX3_init 47 = .ok (.newarray .int, 2) := by decide +kernel
theorem dX3_init_49 : decode cX3_init 49 = .ok (.putfield 27, 3) := by decide +kernel
theorem dX3_init_52 : decode cX3_init 52 = .ok (.aload_n 0, 1) := by decide +kernel
theorem dX3_init_53 : decode cX3_init 53 = .ok (.bipush 12, 2) := by decide +kernel
theorem dX3_init_55 : decode cX3_init 55 = .ok (.newarray .int, 2) := by decide +kernel
theorem dX3_init_57 : decode cX3_init 57 = .ok (.putfield 30, 3) := by decide +kernel
theorem dX3_init_60 : decode cX3_init 60 = .ok (.aload_n 0, 1) := by decide +kernel
theorem dX3_init_61 : decode cX3_init 61 = .ok (.bipush 12, 2) := by decide +kernel
theorem dX3_init_63 : decode cX3_init 63 = .ok (.newarray .int, 2) := by decide +kernel
theorem dX3_init_65 : decode cX3_init 65 = .ok (.putfield 33, 3) := by decide +kernel
theorem dX3_init_68 : decode cX3_init 68 = .ok (.aload_n 0, 1) := by decide +kernel
theorem dX3_init_69 : decode cX3_init 69 = .ok (.bipush 13, 2) := by decide +kernel
theorem dX3_init_71 : decode cX3_init 71 = .ok (.newarray .int, 2) := by decide +kernel
theorem dX3_init_73 : decode cX3_init 73 = .ok (.putfield 36, 3) := by decide +kernel
theorem dX3_init_76 : decode cX3_init 76 = .ok (.aload_n 0, 1) := by decide +kernel
theorem dX3_init_77 : decode cX3_init 77 = .ok (.bipush 13, 2) := by decide +kernel
theorem dX3_init_79 : decode cX3_init 79 = .ok (.newarray .int, 2) := by decide +kernel
theorem dX3_init_81 : decode cX3_init 81 = .ok (.putfield 39, 3) := by decide +kernel
theorem dX3_init_84 : decode cX3_init 84 = .ok (.aload_n 0, 1) := by decide +kernel
theorem dX3_init_85 : decode cX3_init 85 = .ok (.bipush 12, 2) := by decide +kernel
theorem dX3_init_87 : decode cX3_init 87 = .ok (.newarray .int, 2) := by decide +kernel
theorem dX3_init_89 : decode cX3_init 89 = .ok (.putfield 42, 3) := by decide +kernel
theorem dX3_init_92 : decode cX3_init 92 = .ok (.aload_n 0, 1) := by decide +kernel
theorem dX3_init_93 : decode cX3_init 93 = .ok (.bipush 12, 2) := by decide +kernel
theorem dX3_init_95 : decode cX3_init 95 = .ok (.newarray .int, 2) := by decide +kernel
theorem dX3_init_97 : decode cX3_init 97 = .ok (.putfield 45, 3) := by decide +kernel
theorem dX3_init_100 : decode cX3_init 100 = .ok (.aload_n 0, 1) := by decide +kernel
theorem dX3_init_101 : decode cX3_init 101 = .ok (.getfield 15, 3) := by decide +kernel
theorem dX3_init_104 : decode cX3_init 104 = .ok (.iconst 2, 1) := by decide +kernel
theorem dX3_init_105 : decode cX3_init 105 = .ok (.invokestatic 48, 3) := by decide +kernel
theorem dX3_init_108 : decode cX3_init 108 = .ok (.aload_n 0, 1) := by decide +kernel
theorem dX3_init_109 : decode cX3_init 109 = .ok (.getfield 11, 3) := by decide +kernel
theorem dX3_init_112 : decode cX3_init 112 = .ok (.iconst 1, 1) := by decide +kernel
theorem dX3_init_113 : decode cX3_init 113 = .ok (.invokestatic 48, 3) := by decide +kernel
theorem dX3_init_116 : decode cX3_init 116 = .ok (.aload_n 0, 1) := by decide +kernel
theorem dX3_init_117 : decode cX3_init 117 = .ok (.aload_n 0, 1) := by decide +kernel
theorem dX3_init_118 : decode cX3_init 118 = .ok (.getfield 18, 3) := by decide +kernel
theorem dX3_init_121 : decode cX3_init 121 = .ok (.iconst 0, 1) := by decide +kernel
theorem dX3_init_122 : decode cX3_init 122 = .ok (.invokevirtual 54, 3) := by decide +kernel
theorem dX3_init_125 : decode cX3_init 125 = .ok (.aload_n 0, 1) := by decide +kernel
theorem dX3_init_126 : decode cX3_init 126 = .ok (.aload_n 0, 1) := by decide +kernel
theorem dX3_init_127 : decode cX3_init 127 = .ok (.getfield 21, 3) := by decide +kernel
theorem dX3_init_130 : decode cX3_init 130 = .ok (.iconst 5, 1) := by decide +kernel
theorem dX3_init_131 : decode cX3_init 131 = .ok (.invokevirtual 54, 3) := by decide +kernel
theorem dX3_init_134 : decode cX3_init 134 = .ok (.aload_n 0, 1) := by decide +kernel
theorem dX3_init_135 : decode cX3_init 135 = .ok (.getfield 36, 3) := by decide +kernel
theorem dX3_init_138 : decode cX3_init 138 = .ok (.bipush 12, 2) := by decide +kernel
theorem dX3_init_140 : decode cX3_init 140 = .ok (.iconst (-1), 1) := by decide +kernel
theorem dX3_init_141 : decode cX3_init 141 = .ok (.iastore, 1) := by decide +kernel
theorem dX3_init_142 : decode cX3_init 142 = .ok (.return_, 1) := by decide +kernel
theorem dX3_takeFrom_0 : decode cX3_takeFrom 0 = .ok (.aload_n 1, 1) := by decide +kernel
theorem dX3_takeFrom_1 : decode cX3_takeFrom 1 = .ok (.getfield 11, 3) := by decide +kernel
theorem dX3_takeFrom_4 : decode cX3_takeFrom 4 = .ok (.iconst 0, 1) := by decide +kernel
theorem dX3_takeFrom_5 : decode cX3_takeFrom 5 = .ok (.aload_n 0, 1) := by decide +kernel
theorem dX3_takeFrom_6 : decode cX3_takeFrom 6 = .ok (.getfield 11, 3) := by decide +kernel
theorem dX3_takeFrom_9 : decode cX3_takeFrom 9 = .ok (.iconst 0, 1) := by decide +kernel
theorem dX3_takeFrom_10 : decode cX3_takeFrom 10 = .ok (.bipush 9, 2) := by decide +kernel
theorem dX3_takeFrom_12 : decode cX3_takeFrom 12 = .ok (.invokestatic 57, 3) := by decide +kernel
theorem dX3_takeFrom_15 : decode cX3_takeFrom 15 = .ok (.aload_n 1, 1) := by decide +kernel
theorem dX3_takeFrom_16 : decode cX3_takeFrom 16 = .ok (.getfield 15, 3) := by decide +kernel
theorem dX3_takeFrom_19 : decode cX3_takeFrom 19 = .ok (.iconst 0, 1) := by decide +kernel
theorem dX3_takeFrom_20 : decode cX3_takeFrom 20 = .ok (.aload_n 0, 1) := by decide +kernel
theorem dX3_takeFrom_21 : decode cX3_takeFrom 21 = .ok (.getfield 15, 3) := by decide +kernel
theorem dX3_takeFrom_24 : decode cX3_takeFrom 24 = .ok (.iconst 0, 1) := by decide +kernel
theorem dX3_takeFrom_25 : decode cX3_takeFrom 25 = .ok (.bipush 9, 2) := by decide +kernel
theorem dX3_takeFrom_27 : decode cX3_takeFrom 27 = .ok (.invokestatic 57, 3) := by decide +kernel
theorem dX3_takeFrom_30 : decode cX3_takeFrom 30 = .ok (.aload_n 1, 1) := by decide +kernel
theorem dX3_takeFrom_31 : decode cX3_takeFrom 31 = .ok (.getfield 18, 3) := by decide +kernel
theorem dX3_takeFrom_34 : decode cX3_takeFrom 34 = .ok (.iconst 0, 1) := by decide +kernel
theorem dX3_takeFrom_35 : decode cX3_takeFrom 35 = .ok (.aload_n 0, 1) := by decide +kernel
theorem dX3_takeFrom_36 : decode cX3_takeFrom 36 = .ok (.getfield 18, 3) := by decide +kernel
theorem dX3_takeFrom_39 : decode cX3_takeFrom 39 = .ok (.iconst 0, 1) := by decide +kernel
theorem dX3_takeFrom_40 : decode cX3_takeFrom 40 = .ok (.bipush 32, 2) := by decide +kernel
theorem dX3_takeFrom_42 : decode cX3_takeFrom 42 = .ok (.invokestatic 57, 3) := by decide +kernel
theorem dX3_takeFrom_45 : decode cX3_takeFrom 45 = .ok (.aload_n 1, 1) := by decide +kernel
theorem dX3_takeFrom_46 : decode cX3_takeFrom 46 = .ok (.getfield 21, 3) := by decide +kernel
theorem dX3_takeFrom_49 : decode cX3_takeFrom 49 = .ok (.iconst 0, 1) := by decide +kernel
theorem dX3_takeFrom_50 : decode cX3_takeFrom 50 = .ok (.aload_n 0, 1) := by decide +kernel
theorem dX3_takeFrom_51 : decode cX3_takeFrom 51 = .ok (.getfield 21, 3) := by decide +kernel
theorem dX3_takeFrom_54 : decode cX3_takeFrom 54 = .ok (.iconst 0, 1) := by decide +kernel
theorem dX3_takeFrom_55 : decode cX3_takeFrom 55 = .ok (.bipush 16, 2) := by decide +kernel
theorem dX3_takeFrom_57 : decode cX3_takeFrom 57 = .ok (.invokestatic 57, 3) := by decide +kernel
theorem dX3_takeFrom_60 : decode cX3_takeFrom 60 = .ok (.aload_n 1, 1) := by decide +kernel
theorem dX3_takeFrom_61 : decode cX3_takeFrom 61 = .ok (.getfield 24, 3) := by decide +kernel
theorem dX3_takeFrom_64 : decode cX3_takeFrom 64 = .ok (.iconst 0, 1) := by decide +kernel
theorem dX3_takeFrom_65 : decode cX3_takeFrom 65 = .ok (.aload_n 0, 1) := by decide +kernel
theorem dX3_takeFrom_66 : decode cX3_takeFrom 66 = .ok (.getfield 24, 3) := by decide +kernel
theorem dX3_takeFrom_69 : decode cX3_takeFrom 69 = .ok (.iconst 0, 1) := by decide +kernel
theorem dX3_takeFrom_70 : decode cX3_takeFrom 70 = .ok (.bipush 12, 2) := by decide +kernel
theorem dX3_takeFrom_72 : decode cX3_takeFrom 72 = .ok (.invokestatic 57, 3) := by decide +kernel
theorem dX3_takeFrom_75 : decode cX3_takeFrom 75 = .ok (.aload_n 1, 1) := by decide +kernel
theorem dX3_takeFrom_76 : decode cX3_takeFrom 76 = .ok (.getfield 27, 3) := by decide +kernel
theorem dX3_takeFrom_79 : decode cX3_takeFrom 79 = .ok (.iconst 0, 1) := by decide +kernel
theorem dX3_takeFrom_80 : decode cX3_takeFrom 80 = .ok (.aload_n 0, 1) := by decide +kernel
theorem dX3_takeFrom_81 : decode cX3_takeFrom 81 = .ok (.getfield 27, 3) := by decide +kernel
theorem dX3_takeFrom_84 : decode cX3_takeFrom 84 = .ok (.iconst 0, 1) := by decide +kernel
theorem dX3_takeFrom_85 : decode cX3_takeFrom 85 = .ok (.bipush 12, 2) := by decide +kernel
theorem dX3_takeFrom_87 : decode cX3_takeFrom 87 = .ok (.invokestatic 57, 3) := by decide +kernel
theorem dX3_takeFrom_90 : decode cX3_takeFrom 90 = .ok (.aload_n 1, 1) := by decide +kernel
theorem dX3_takeFrom_91 : decode cX3_takeFrom 91 = .ok (.getfield 30, 3) := by decide +kernel
theorem dX3_takeFrom_94 : decode cX3_takeFrom 94 = .ok (.iconst 0, 1) := by decide +kernel
theorem dX3_takeFrom_95 : decode cX3_takeFrom 95 = .ok (.aload_n 0, 1) := by decide +kernel
theorem dX3_takeFrom_96 : decode cX3_takeFrom 96 = .ok (.getfield 30, 3) := by decide +kernel
theorem dX3_takeFrom_99 : decode cX3_takeFrom 99 = .ok (.iconst 0, 1) := by decide +kernel
theorem dX3_takeFrom_100 : decode cX3_takeFrom 100 = .ok (.bipush 12, 2) := by decide +kernel
theorem dX3_takeFrom_102 : decode cX3_takeFrom 102 = .ok (.invokestatic 57, 3) := by decide +kernel
theorem dX3_takeFrom_105 : decode cX3_takeFrom 105 = .ok (.aload_n 1, 1) := by decide +kernel
theorem dX3_takeFrom_106 : decode cX3_takeFrom 106 = .ok (.getfield 33, 3) := by decide +kernel
theorem dX3_takeFrom_109 : decode cX3_takeFrom 109 = .ok (.iconst 0, 1) := by decide +kernel
theorem dX3_takeFrom_110 : decode cX3_takeFrom 110 = .ok (.aload_n 0, 1) := by decide +kernel
theorem dX3_takeFrom_111 : decode cX3_takeFrom 111 = .ok (.getfield 33, 3) := by decide +kernel
theorem dX3_takeFrom_114 : decode cX3_takeFrom 114 = .ok (.iconst 0, 1) := by decide +kernel
theorem dX3_takeFrom_115 : decode cX3_takeFrom 115 = .ok (.bipush 12, 2) := by decide +kernel
theorem dX3_takeFrom_117 : decode cX3_takeFrom 117 = .ok (.invokestatic 57, 3) := by decide +kernel
theorem dX3_takeFrom_120 : decode cX3_takeFrom 120 = .ok (.aload_n 1, 1) := by decide +kernel
theorem dX3_takeFrom_121 : decode cX3_takeFrom 121 = .ok (.getfield 36, 3) := by decide +kernel
theorem dX3_takeFrom_124 : decode cX3_takeFrom 124 = .ok (.iconst 0, 1) := by decide +kernel
theorem dX3_takeFrom_125 : decode cX3_takeFrom 125 = .ok (.aload_n 0, 1) := by decide +kernel
theorem dX3_takeFrom_126 : decode cX3_takeFrom 126 = .ok (.getfield 36, 3) := by decide +kernel
theorem dX3_takeFrom_129 : decode cX3_takeFrom 129 = .ok (.iconst 0, 1) := by decide +kernel
theorem dX3_takeFrom_130 : decode cX3_takeFrom 130 = .ok (.bipush 12, 2) := by decide +kernel
theorem dX3_takeFrom_132 : decode cX3_takeFrom 132 = .ok (.invokestatic 57, 3) := by decide +kernel
theorem dX3_takeFrom_135 : decode cX3_takeFrom 135 = .ok (.aload_n 1, 1) := by decide +kernel
theorem dX3_takeFrom_136 : decode cX3_takeFrom 136 = .ok (.getfield 39, 3) := by decide +kernel
theorem dX3_takeFrom_139 : decode cX3_takeFrom 139 = .ok (.iconst 0, 1) := by decide +kernel
theorem dX3_takeFrom_140 : decode cX3_takeFrom 140 = .ok (.aload_n 0, 1) := by decide +kernel
theorem dX3_takeFrom_141 : decode cX3_takeFrom 141 = .ok (.getfield 39, 3) := by decide +kernel
theorem dX3_takeFrom_144 : decode cX3_takeFrom 144 = .ok (.iconst 0, 1) := by decide +kernel
theorem dX3_takeFrom_145 : decode cX3_takeFrom 145 = .ok (.bipush 12, 2) := by decide +kernel
theorem dX3_takeFrom_147 : decode cX3_takeFrom 147 = .ok (.invokestatic 57, 3) := by decide +kernel
theorem dX3_takeFrom_150 : decode cX3_takeFrom 150 = .ok (.aload_n 0, 1) := by decide +kernel
theorem dX3_takeFrom_151 : decode cX3_takeFrom 151 = .ok (.aload_n 1, 1) := by decide +kernel
theorem dX3_takeFrom_152 : decode cX3_takeFrom 152 = .ok (.getfield 63, 3) := by decide +kernel
theorem dX3_takeFrom_155 : decode cX3_takeFrom 155 = .ok (.putfield 63, 3) := by decide +kernel
theorem dX3_takeFrom_158 : decode cX3_takeFrom 158 = .ok (.aload_n 0, 1) := by decide +kernel
theorem dX3_takeFrom_159 : decode cX3_takeFrom 159 = .ok (.aload_n 1, 1) := by decide +kernel
theorem dX3_takeFrom_160 : decode cX3_takeFrom 160 = .ok (.getfield 67, 3) := by decide +kernel
theorem dX3_takeFrom_163 : decode cX3_takeFrom 163 = .ok (.putfield 67, 3) := by decide +kernel
theorem dX3_takeFrom_166 : decode cX3_takeFrom 166 = .ok (.aload_n 0, 1) := by decide +kernel
theorem dX3_takeFrom_167 : decode cX3_takeFrom 167 = .ok (.aload_n 1, 1) := by decide +kernel
theorem dX3_takeFrom_168 : decode cX3_takeFrom 168 = .ok (.getfield 70, 3) := by decide +kernel
theorem dX3_takeFrom_171 : decode cX3_takeFrom 171 = .ok (.putfield 70, 3) := by decide +kernel
theorem dX3_takeFrom_174 : decode cX3_takeFrom 174 = .ok (.aload_n 0, 1) := by decide +kernel
theorem dX3_takeFrom_175 : decode cX3_takeFrom 175 = .ok (.aload_n 1, 1) := by decide +kernel
theorem dX3_takeFrom_176 : decode cX3_takeFrom 176 = .ok (.getfield 73, 3) := by decide +kernel
theorem dX3_takeFrom_179 : decode cX3_takeFrom 179 = .ok (.putfield 73, 3) := by decide +kernel
theorem dX3_takeFrom_182 : decode cX3_takeFrom 182 = .ok (.return_, 1) := by decide +kernel
theorem dX3_putWeight_0 : decode cX3_putWeight 0 = .ok (.aload_n 0, 1) := by decide +kernel
theorem dX3_putWeight_1 : decode cX3_putWeight 1 = .ok (.getfield 11, 3) := by decide +kernel
theorem dX3_putWeight_4 : decode cX3_putWeight 4 = .ok (.iload_n 1, 1) := by decide +kernel
theorem dX3_putWeight_5 : decode cX3_putWeight 5 = .ok (.iload_n 2, 1) := by decide +kernel
theorem dX3_putWeight_6 : decode cX3_putWeight 6 = .ok (.invokestatic 76, 3) := by decide +kernel
theorem dX3_putWeight_9 : decode cX3_putWeight 9 = .ok (.istore_n 3, 1) := by decide +kernel
theorem dX3_putWeight_10 : decode cX3_putWeight 10 = .ok (.aload_n 0, 1) := by decide +kernel
theorem dX3_putWeight_11 : decode cX3_putWeight 11 = .ok (.aload_n 0, 1) := by decide +kernel
theorem dX3_putWeight_12 : decode cX3_putWeight 12 = .ok (.getfield 18, 3) := by decide +kernel
theorem dX3_putWeight_15 : decode cX3_putWeight 15 = .ok (.iconst 0, 1) := by decide +kernel
theorem dX3_putWeight_16 : decode cX3_putWeight 16 = .ok (.invokevirtual 54, 3) := by decide +kernel
theorem dX3_putWeight_19 : decode cX3_putWeight 19 = .ok (.aload_n 0, 1) := by decide +kernel
theorem dX3_putWeight_20 : decode cX3_putWeight 20 = .ok (.aload_n 0, 1) := by decide +kernel
theorem dX3_putWeight_21 : decode cX3_putWeight 21 = .ok (.getfield 21, 3) := by decide +kernel
theorem dX3_putWeight_24 : decode cX3_putWeight 24 = .ok (.iconst 5, 1) := by decide +kernel
theorem dX3_putWeight_25 : decode cX3_putWeight 25 = .ok (.invokevirtual 54, 3) := by decide +kernel
theorem dX3_putWeight_28 : decode cX3_putWeight 28 = .ok (.iload_n 3, 1) := by decide +kernel
theorem dX3_putWeight_29 : decode cX3_putWeight 29 = .ok (.ireturn, 1) := by decide +kernel
theorem dX3_sumWeights_0 : decode cX3_sumWeights 0 = .ok (.iconst 1, 1) := by decide +kernel
theorem dX3_sumWeights_1 : decode cX3_sumWeights 1 = .ok (.istore_n 3, 1) := by decide +kernel
theorem dX3_sumWeights_2 : decode cX3_sumWeights 2 = .ok (.iload_n 3, 1) := by decide +kernel
theorem dX3_sumWeights_3 : decode cX3_sumWeights 3 = .ok (.aload_n 1, 1) := by decide +kernel
theorem dX3_sumWeights_4 : decode cX3_sumWeights 4 = .ok (.arraylength, 1) := by decide +kernel
theorem dX3_sumWeights_5 : decode cX3_sumWeights 5 = .ok (.if_icmp .ge 50, 3) := by decide +kernel
theorem dX3_sumWeights_8 : decode cX3_sumWeights 8 = .ok (.iload_n 2, 1) := by decide +kernel
theorem dX3_sumWeights_9 : decode cX3_sumWeights 9 = .ok (.iload_n 3, 1) := by decide +kernel
theorem dX3_sumWeights_10 : decode cX3_sumWeights 10 = .ok (.invokestatic 80, 3) := by decide +kernel
theorem dX3_sumWeights_13 : decode cX3_sumWeights 13 = .ok (.iadd, 1) := by decide +kernel
theorem dX3_sumWeights_14 : decode cX3_sumWeights 14 = .ok (.istore 4, 2) := by decide +kernel
theorem dX3_sumWeights_16 : decode cX3_sumWeights 16 = .ok (.aload_n 1, 1) := by decide +kernel
theorem dX3_sumWeights_17 : decode cX3_sumWeights 17 = .ok (.iload_n 3, 1) := by decide +kernel
theorem dX3_sumWeights_18 : decode cX3_sumWeights 18 = .ok (.aload_n 1, 1) := by decide +kernel
theorem dX3_sumWeights_19 : decode cX3_sumWeights 19 = .ok (.iload_n 3, 1) := by decide +kernel
theorem dX3_sumWeights_20 : decode cX3_sumWeights 20 = .ok (.iload_n 3, 1) := by decide +kernel
theorem dX3_sumWeights_21 : decode cX3_sumWeights 21 = .ok (.iconst 1, 1) := by decide +kernel
theorem dX3_sumWeights_22 : decode cX3_sumWeights 22 = .ok (.isub, 1) := by decide +kernel
theorem dX3_sumWeights_23 : decode cX3_sumWeights 23 = .ok (.iand, 1) := by decide +kernel
theorem dX3_sumWeights_24 : decode cX3_sumWeights 24 = .ok (.iaload, 1) := by decide +kernel
theorem dX3_sumWeights_25 : decode cX3_sumWeights 25 = .ok (.iload 4, 2) := by decide +kernel
theorem dX3_sumWeights_27 : decode cX3_sumWeights 27 = .ok (.iconst 0, 1) := by decide +kernel
theorem dX3_sumWeights_28 : decode cX3_sumWeights 28 = .ok (.bipush 8, 2) := by decide +kernel
theorem dX3_sumWeights_30 : decode cX3_sumWeights 30 = .ok (.invokestatic 84, 3) := by decide +kernel
theorem dX3_sumWeights_33 : decode cX3_sumWeights 33 = .ok (.ifCond .eq 13, 3) := by decide +kernel
theorem dX3_sumWeights_36 : decode cX3_sumWeights 36 = .ok (.aload_n 0, 1) := by decide +kernel
theorem dX3_sumWeights_37 : decode cX3_sumWeights 37 = .ok (.getfield 11, 3) := by decide +kernel
theorem dX3_sumWeights_40 : decode cX3_sumWeights 40 = .ok (.iload 4, 2) := by decide +kernel
theorem dX3_sumWeights_42 : decode cX3_sumWeights 42 = .ok (.iaload, 1) := by decide +kernel
theorem dX3_sumWeights_43 : decode cX3_sumWeights 43 = .ok (.goto 4, 3) := by decide +kernel
theorem dX3_sumWeights_46 : decode cX3_sumWeights 46 = .ok (.iconst 0, 1) := by decide +kernel
theorem dX3_sumWeights_47 : decode cX3_sumWeights 47 = .ok (.iadd, 1) := by decide +kernel
theorem dX3_sumWeights_48 : decode cX3_sumWeights 48 = .ok (.iastore, 1) := by decide +kernel
theorem dX3_sumWeights_49 : decode cX3_sumWeights 49 = .ok (.iinc 3 1, 3) := by decide +kernel
theorem dX3_sumWeights_52 : decode cX3_sumWeights 52 = .ok (.goto (-50), 3) := by decide +kernel
theorem dX3_sumWeights_55 : decode cX3_sumWeights 55 = .ok (.return_, 1) := by decide +kernel
theorem dX3_weightOfAll_0 : decode cX3_weightOfAll 0 = .ok (.aload_n 0, 1) := by decide +kernel
theorem dX3_weightOfAll_1 : decode cX3_weightOfAll 1 = .ok (.getfield 18, 3) := by decide +kernel
theorem dX3_weightOfAll_4 : decode cX3_weightOfAll 4 = .ok (.bipush 31, 2) := by decide +kernel
theorem dX3_weightOfAll_6 : decode cX3_weightOfAll 6 = .ok (.iaload, 1) := by decide +kernel
theorem dX3_weightOfAll_7 : decode cX3_weightOfAll 7 = .ok (.aload_n 0, 1) := by decide +kernel
theorem dX3_weightOfAll_8 : decode cX3_weightOfAll 8 = .ok (.getfield 21, 3) := by decide +kernel
theorem dX3_weightOfAll_11 : decode cX3_weightOfAll 11 = .ok (.bipush 15, 2) := by decide +kernel
theorem dX3_weightOfAll_13 : decode cX3_weightOfAll 13 = .ok (.iaload, 1) := by decide +kernel
theorem dX3_weightOfAll_14 : decode cX3_weightOfAll 14 = .ok (.iadd, 1) := by decide +kernel
theorem dX3_weightOfAll_15 : decode cX3_weightOfAll 15 = .ok (.ireturn, 1) := by decide +kernel
theorem dX3_addOne_0 : decode cX3_addOne 0 = .ok (.aload_n 0, 1) := by decide +kernel
theorem dX3_addOne_1 : decode cX3_addOne 1 = .ok (.getfield 63, 3) := by decide +kernel
theorem dX3_addOne_4 : decode cX3_addOne 4 = .ok (.bipush 12, 2) := by decide +kernel
theorem dX3_addOne_6 : decode cX3_addOne 6 = .ok (.if_icmp .lt 5, 3) := by decide +kernel
theorem dX3_addOne_9 : decode cX3_addOne 9 = .ok (.iconst (-1), 1) := by decide +kernel
theorem dX3_addOne_10 : decode cX3_addOne 10 = .ok (.ireturn, 1) := by decide +kernel
theorem dX3_addOne_11 : decode cX3_addOne 11 = .ok (.aload_n 0, 1) := by decide +kernel
theorem dX3_addOne_12 : decode cX3_addOne 12 = .ok (.getfield 63, 3) := by decide +kernel
theorem dX3_addOne_15 : decode cX3_addOne 15 = .ok (.istore_n 3, 1) := by decide +kernel
theorem dX3_addOne_16 : decode cX3_addOne 16 = .ok (.aload_n 0, 1) := by decide +kernel
theorem dX3_addOne_17 : decode cX3_addOne 17 = .ok (.dup, 1) := by decide +kernel
theorem dX3_addOne_18 : decode cX3_addOne 18 = .ok (.getfield 63, 3) := by decide +kernel
theorem dX3_addOne_21 : decode cX3_addOne 21 = .ok (.iconst 1, 1) := by decide +kernel
theorem dX3_addOne_22 : decode cX3_addOne 22 = .ok (.iadd, 1) := by decide +kernel
theorem dX3_addOne_23 : decode cX3_addOne 23 = .ok (.putfield 63, 3) := by decide +kernel
theorem dX3_addOne_26 : decode cX3_addOne 26 = .ok (.aload_n 0, 1) := by decide +kernel
theorem dX3_addOne_27 : decode cX3_addOne 27 = .ok (.getfield 24, 3) := by decide +kernel
theorem dX3_addOne_30 : decode cX3_addOne 30 = .ok (.iload_n 3, 1) := by decide +kernel
theorem dX3_addOne_31 : decode cX3_addOne 31 = .ok (.iload_n 1, 1) := by decide +kernel
theorem dX3_addOne_32 : decode cX3_addOne 32 = .ok (.iastore, 1) := by decide +kernel
theorem dX3_addOne_33 : decode cX3_addOne 33 = .ok (.aload_n 0, 1) := by decide +kernel
theorem dX3_addOne_34 : decode cX3_addOne 34 = .ok (.getfield 27, 3) := by decide +kernel
theorem dX3_addOne_37 : decode cX3_addOne 37 = .ok (.iload_n 3, 1) := by decide +kernel
theorem dX3_addOne_38 : decode cX3_addOne 38 = .ok (.iload_n 2, 1) := by decide +kernel
theorem dX3_addOne_39 : decode cX3_addOne 39 = .ok (.iastore, 1) := by decide +kernel
theorem dX3_addOne_40 : decode cX3_addOne 40 = .ok (.aload_n 0, 1) := by decide +kernel
theorem dX3_addOne_41 : decode cX3_addOne 41 = .ok (.getfield 30, 3) := by decide +kernel
theorem dX3_addOne_44 : decode cX3_addOne 44 = .ok (.iload_n 3, 1) := by decide +kernel
theorem dX3_addOne_45 : decode cX3_addOne 45 = .ok (.bipush 10, 2) := by decide +kernel
theorem dX3_addOne_47 : decode cX3_addOne 47 = .ok (.iastore, 1) := by decide +kernel
theorem dX3_addOne_48 : decode cX3_addOne 48 = .ok (.aload_n 0, 1) := by decide +kernel
theorem dX3_addOne_49 : decode cX3_addOne 49 = .ok (.getfield 33, 3) := by decide +kernel
theorem dX3_addOne_52 : decode cX3_addOne 52 = .ok (.iload_n 3, 1) := by decide +kernel
theorem dX3_addOne_53 : decode cX3_addOne 53 = .ok (.bipush 70, 2) := by decide +kernel
theorem dX3_addOne_55 : decode cX3_addOne 55 = .ok (.iastore, 1) := by decide +kernel
theorem dX3_addOne_56 : decode cX3_addOne 56 = .ok (.aload_n 0, 1) := by decide +kernel
theorem dX3_addOne_57 : decode cX3_addOne 57 = .ok (.getfield 36, 3) := by decide +kernel
theorem dX3_addOne_60 : decode cX3_addOne 60 = .ok (.iload_n 3, 1) := by decide +kernel
theorem dX3_addOne_61 : decode cX3_addOne 61 = .ok (.iconst (-1), 1) := by decide +kernel
theorem dX3_addOne_62 : decode cX3_addOne 62 = .ok (.iastore, 1) := by decide +kernel
theorem dX3_addOne_63 : decode cX3_addOne 63 = .ok (.aload_n 0, 1) := by decide +kernel
theorem dX3_addOne_64 : decode cX3_addOne 64 = .ok (.getfield 39, 3) := by decide +kernel
theorem dX3_addOne_67 : decode cX3_addOne 67 = .ok (.iload_n 3, 1) := by decide +kernel
theorem dX3_addOne_68 : decode cX3_addOne 68 = .ok (.iconst 0, 1) := by decide +kernel
theorem dX3_addOne_69 : decode cX3_addOne 69 = .ok (.iastore, 1) := by decide +kernel
theorem dX3_addOne_70 : decode cX3_addOne 70 = .ok (.aload_n 0, 1) := by decide +kernel
theorem dX3_addOne_71 : decode cX3_addOne 71 = .ok (.dup, 1) := by decide +kernel
theorem dX3_addOne_72 : decode cX3_addOne 72 = .ok (.getfield 67, 3) := by decide +kernel
theorem dX3_addOne_75 : decode cX3_addOne 75 = .ok (.iconst 1, 1) := by decide +kernel
theorem dX3_addOne_76 : decode cX3_addOne 76 = .ok (.iload_n 3, 1) := by decide +kernel
theorem dX3_addOne_77 : decode cX3_addOne 77 = .ok (.ishl, 1) := by decide +kernel
theorem dX3_addOne_78 : decode cX3_addOne 78 = .ok (.ior, 1) := by decide +kernel
theorem dX3_addOne_79 : decode cX3_addOne 79 = .ok (.putfield 67, 3) := by decide +kernel
theorem dX3_addOne_82 : decode cX3_addOne 82 = .ok (.iload_n 3, 1) := by decide +kernel
theorem dX3_addOne_83 : decode cX3_addOne 83 = .ok (.ireturn, 1) := by decide +kernel
theorem dX3_lives_0 : decode cX3_lives 0 = .ok (.aload_n 0, 1) := by decide +kernel
theorem dX3_lives_1 : decode cX3_lives 1 = .ok (.getfield 67, 3) := by decide +kernel
theorem dX3_lives_4 : decode cX3_lives 4 = .ok (.iload_n 1, 1) := by decide +kernel
theorem dX3_lives_5 : decode cX3_lives 5 = .ok (.ishr, 1) := by decide +kernel
theorem dX3_lives_6 : decode cX3_lives 6 = .ok (.iconst 1, 1) := by decide +kernel
theorem dX3_lives_7 : decode cX3_lives 7 = .ok (.iand, 1) := by decide +kernel
theorem dX3_lives_8 : decode cX3_lives 8 = .ok (.ifCond .eq 7, 3) := by decide +kernel
theorem dX3_lives_11 : decode cX3_lives 11 = .ok (.iconst 1, 1) := by decide +kernel
theorem dX3_lives_12 : decode cX3_lives 12 = .ok (.goto 4, 3) := by decide +kernel
theorem dX3_lives_15 : decode cX3_lives 15 = .ok (.iconst 0, 1) := by decide +kernel
theorem dX3_lives_16 : decode cX3_lives 16 = .ok (.ireturn, 1) := by decide +kernel
theorem dX3_putLiving_0 : decode cX3_putLiving 0 = .ok (.aload_n 0, 1) := by decide +kernel
theorem dX3_putLiving_1 : decode cX3_putLiving 1 = .ok (.getfield 67, 3) := by decide +kernel
theorem dX3_putLiving_4 : decode cX3_putLiving 4 = .ok (.iload_n 1, 1) := by decide +kernel
theorem dX3_putLiving_5 : decode cX3_putLiving 5 = .ok (.ishr, 1) := by decide +kernel
theorem dX3_putLiving_6 : decode cX3_putLiving 6 = .ok (.iconst 1, 1) := by decide +kernel
theorem dX3_putLiving_7 : decode cX3_putLiving 7 = .ok (.iand, 1) := by decide +kernel
theorem dX3_putLiving_8 : decode cX3_putLiving 8 = .ok (.istore_n 3, 1) := by decide +kernel
theorem dX3_putLiving_9 : decode cX3_putLiving 9 = .ok (.aload_n 0, 1) := by decide +kernel
theorem dX3_putLiving_10 : decode cX3_putLiving 10 = .ok (.aload_n 0, 1) := by decide +kernel
theorem dX3_putLiving_11 : decode cX3_putLiving 11 = .ok (.getfield 67, 3) := by decide +kernel
theorem dX3_putLiving_14 : decode cX3_putLiving 14 = .ok (.iconst 1, 1) := by decide +kernel
theorem dX3_putLiving_15 : decode cX3_putLiving 15 = .ok (.iload_n 1, 1) := by decide +kernel
theorem dX3_putLiving_16 : decode cX3_putLiving 16 = .ok (.ishl, 1) := by decide +kernel
theorem dX3_putLiving_17 : decode cX3_putLiving 17 = .ok (.iconst (-1), 1) := by decide +kernel
theorem dX3_putLiving_18 : decode cX3_putLiving 18 = .ok (.ixor, 1) := by decide +kernel
theorem dX3_putLiving_19 : decode cX3_putLiving 19 = .ok (.iand, 1) := by decide +kernel
theorem dX3_putLiving_20 : decode cX3_putLiving 20 = .ok (.iload_n 2, 1) := by decide +kernel
theorem dX3_putLiving_21 : decode cX3_putLiving 21 = .ok (.iload_n 1, 1) := by decide +kernel
theorem dX3_putLiving_22 : decode cX3_putLiving 22 = .ok (.ishl, 1) := by decide +kernel
theorem dX3_putLiving_23 : decode cX3_putLiving 23 = .ok (.ior, 1) := by decide +kernel
theorem dX3_putLiving_24 : decode cX3_putLiving 24 = .ok (.putfield 67, 3) := by decide +kernel
theorem dX3_putLiving_27 : decode cX3_putLiving 27 = .ok (.iload_n 3, 1) := by decide +kernel
theorem dX3_putLiving_28 : decode cX3_putLiving 28 = .ok (.ireturn, 1) := by decide +kernel
theorem dX3_sumOf_0 : decode cX3_sumOf 0 = .ok (.iconst 0, 1) := by decide +kernel
theorem dX3_sumOf_1 : decode cX3_sumOf 1 = .ok (.istore_n 3, 1) := by decide +kernel
theorem dX3_sumOf_2 : decode cX3_sumOf 2 = .ok (.iconst 0, 1) := by decide +kernel
theorem dX3_sumOf_3 : decode cX3_sumOf 3 = .ok (.istore 4, 2) := by decide +kernel
theorem dX3_sumOf_5 : decode cX3_sumOf 5 = .ok (.iload 4, 2) := by decide +kernel
theorem dX3_sumOf_7 : decode cX3_sumOf 7 = .ok (.aload_n 0, 1) := by decide +kernel
theorem dX3_sumOf_8 : decode cX3_sumOf 8 = .ok (.getfield 63, 3) := by decide +kernel
theorem dX3_sumOf_11 : decode cX3_sumOf 11 = .ok (.if_icmp .ge 25, 3) := by decide +kernel
theorem dX3_sumOf_14 : decode cX3_sumOf 14 = .ok (.iload_n 2, 1) := by decide +kernel
theorem dX3_sumOf_15 : decode cX3_sumOf 15 = .ok (.iload 4, 2) := by decide +kernel
theorem dX3_sumOf_17 : decode cX3_sumOf 17 = .ok (.ishr, 1) := by decide +kernel
theorem dX3_sumOf_18 : decode cX3_sumOf 18 = .ok (.iconst 1, 1) := by decide +kernel
theorem dX3_sumOf_19 : decode cX3_sumOf 19 = .ok (.iand, 1) := by decide +kernel
theorem dX3_sumOf_20 : decode cX3_sumOf 20 = .ok (.ifCond .eq 10, 3) := by decide +kernel
theorem dX3_sumOf_23 : decode cX3_sumOf 23 = .ok (.iload_n 3, 1) := by decide +kernel
theorem dX3_sumOf_24 : decode cX3_sumOf 24 = .ok (.aload_n 1, 1) := by decide +kernel
theorem dX3_sumOf_25 : decode cX3_sumOf 25 = .ok (.iload 4, 2) := by decide +kernel
theorem dX3_sumOf_27 : decode cX3_sumOf 27 = .ok (.iaload, 1) := by decide +kernel
theorem dX3_sumOf_28 : decode cX3_sumOf 28 = .ok (.iadd, 1) := by decide +kernel
theorem dX3_sumOf_29 : decode cX3_sumOf 29 = .ok (.istore_n 3, 1) := by decide +kernel
theorem dX3_sumOf_30 : decode cX3_sumOf 30 = .ok (.iinc 4 1, 3) := by decide +kernel
theorem dX3_sumOf_33 : decode cX3_sumOf 33 = .ok (.goto (-28), 3) := by decide +kernel
theorem dX3_sumOf_36 : decode cX3_sumOf 36 = .ok (.iload_n 3, 1) := by decide +kernel
theorem dX3_sumOf_37 : decode cX3_sumOf 37 = .ok (.ireturn, 1) := by decide +kernel
theorem dX3_likeness_0 : decode cX3_likeness 0 = .ok (.sipush 511, 3) := by decide +kernel
theorem dX3_likeness_3 : decode cX3_likeness 3 = .ok (.aload_n 0, 1) := by decide +kernel
theorem dX3_likeness_4 : decode cX3_likeness 4 = .ok (.getfield 39, 3) := by decide +kernel
theorem dX3_likeness_7 : decode cX3_likeness 7 = .ok (.iload_n 1, 1) := by decide +kernel
theorem dX3_likeness_8 : decode cX3_likeness 8 = .ok (.iaload, 1) := by decide +kernel
theorem dX3_likeness_9 : decode cX3_likeness 9 = .ok (.aload_n 0, 1) := by decide +kernel
theorem dX3_likeness_10 : decode cX3_likeness 10 = .ok (.getfield 39, 3) := by decide +kernel
theorem dX3_likeness_13 : decode cX3_likeness 13 = .ok (.iload_n 2, 1) := by decide +kernel
theorem dX3_likeness_14 : decode cX3_likeness 14 = .ok (.iaload, 1) := by decide +kernel
theorem dX3_likeness_15 : decode cX3_likeness 15 = .ok (.invokestatic 88, 3) := by decide +kernel
theorem dX3_likeness_18 : decode cX3_likeness 18 = .ok (.iconst (-1), 1) := by decide +kernel
theorem dX3_likeness_19 : decode cX3_likeness 19 = .ok (.ixor, 1) := by decide +kernel
theorem dX3_likeness_20 : decode cX3_likeness 20 = .ok (.iand, 1) := by decide +kernel
theorem dX3_likeness_21 : decode cX3_likeness 21 = .ok (.istore_n 3, 1) := by decide +kernel
theorem dX3_likeness_22 : decode cX3_likeness 22 = .ok (.aload_n 0, 1) := by decide +kernel
theorem dX3_likeness_23 : decode cX3_likeness 23 = .ok (.getfield 24, 3) := by decide +kernel
theorem dX3_likeness_26 : decode cX3_likeness 26 = .ok (.iload_n 2, 1) := by decide +kernel
theorem dX3_likeness_27 : decode cX3_likeness 27 = .ok (.iaload, 1) := by decide +kernel
theorem dX3_likeness_28 : decode cX3_likeness 28 = .ok (.iconst 4, 1) := by decide +kernel
theorem dX3_likeness_29 : decode cX3_likeness 29 = .ok (.if_icmp .ne 9, 3) := by decide +kernel
theorem dX3_likeness_32 : decode cX3_likeness 32 = .ok (.iload_n 3, 1) := by decide +kernel
theorem dX3_likeness_33 : decode cX3_likeness 33 = .ok (.sipush 256, 3) := by decide +kernel
theorem dX3_likeness_36 : decode cX3_likeness 36 = .ok (.ior, 1) := by decide +kernel
theorem dX3_likeness_37 : decode cX3_likeness 37 = .ok (.istore_n 3, 1) := by decide +kernel
theorem dX3_likeness_38 : decode cX3_likeness 38 = .ok (.aload_n 0, 1) := by decide +kernel
theorem dX3_likeness_39 : decode cX3_likeness 39 = .ok (.getfield 18, 3) := by decide +kernel
theorem dX3_likeness_42 : decode cX3_likeness 42 = .ok (.iload_n 3, 1) := by decide +kernel
theorem dX3_likeness_43 : decode cX3_likeness 43 = .ok (.bipush 31, 2) := by decide +kernel
theorem dX3_likeness_45 : decode cX3_likeness 45 = .ok (.iand, 1) := by decide +kernel
theorem dX3_likeness_46 : decode cX3_likeness 46 = .ok (.iaload, 1) := by decide +kernel
theorem dX3_likeness_47 : decode cX3_likeness 47 = .ok (.aload_n 0, 1) := by decide +kernel
theorem dX3_likeness_48 : decode cX3_likeness 48 = .ok (.getfield 21, 3) := by decide +kernel
theorem dX3_likeness_51 : decode cX3_likeness 51 = .ok (.iload_n 3, 1) := by decide +kernel
theorem dX3_likeness_52 : decode cX3_likeness 52 = .ok (.iconst 5, 1) := by decide +kernel
theorem dX3_likeness_53 : decode cX3_likeness 53 = .ok (.ishr, 1) := by decide +kernel
theorem dX3_likeness_54 : decode cX3_likeness 54 = .ok (.iaload, 1) := by decide +kernel
theorem dX3_likeness_55 : decode cX3_likeness 55 = .ok (.iadd, 1) := by decide +kernel
theorem dX3_likeness_56 : decode cX3_likeness 56 = .ok (.istore 4, 2) := by decide +kernel
theorem dX3_likeness_58 : decode cX3_likeness 58 = .ok (.aload_n 0, 1) := by decide +kernel
theorem dX3_likeness_59 : decode cX3_likeness 59 = .ok (.getfield 70, 3) := by decide +kernel
theorem dX3_likeness_62 : decode cX3_likeness 62 = .ok (.iconst 1, 1) := by decide +kernel
theorem dX3_likeness_63 : decode cX3_likeness 63 = .ok (.if_icmp .ne 20, 3) := by decide +kernel
theorem dX3_likeness_66 : decode cX3_likeness 66 = .ok (.iload_n 2, 1) := by decide +kernel
theorem dX3_likeness_67 : decode cX3_likeness 67 = .ok (.aload_n 0, 1) := by decide +kernel
theorem dX3_likeness_68 : decode cX3_likeness 68 = .ok (.getfield 36, 3) := by decide +kernel
theorem dX3_likeness_71 : decode cX3_likeness 71 = .ok (.iload_n 1, 1) := by decide +kernel
theorem dX3_likeness_72 : decode cX3_likeness 72 = .ok (.iaload, 1) := by decide +kernel
theorem dX3_likeness_73 : decode cX3_likeness 73 = .ok (.if_icmp .ne 10, 3) := by decide +kernel
theorem dX3_likeness_76 : decode cX3_likeness 76 = .ok (.iload 4, 2) := by decide +kernel
theorem dX3_likeness_78 : decode cX3_likeness 78 = .ok (.iconst 5, 1) := by decide +kernel
theorem dX3_likeness_79 : decode cX3_likeness 79 = .ok (.iadd, 1) := by decide +kernel
theorem dX3_likeness_80 : decode cX3_likeness 80 = .ok (.goto 5, 3) := by decide +kernel
theorem dX3_likeness_83 : decode cX3_likeness 83 = .ok (.iload 4, 2) := by decide +kernel
theorem dX3_likeness_85 : decode cX3_likeness 85 = .ok (.ireturn, 1) := by decide +kernel
theorem dX3_heirFor_0 : decode cX3_heirFor 0 = .ok (.iconst (-1), 1) := by decide +kernel
theorem dX3_heirFor_1 : decode cX3_heirFor 1 = .ok (.istore_n 2, 1) := by decide +kernel
theorem dX3_heirFor_2 : decode cX3_heirFor 2 = .ok (.iconst (-1), 1) := by decide +kernel
theorem dX3_heirFor_3 : decode cX3_heirFor 3 = .ok (.istore_n 3, 1) := by decide +kernel
theorem dX3_heirFor_4 : decode cX3_heirFor 4 = .ok (.iconst (-1), 1) := by decide +kernel
theorem dX3_heirFor_5 : decode cX3_heirFor 5 = .ok (.istore 4, 2) := by decide +kernel
theorem dX3_heirFor_7 : decode cX3_heirFor 7 = .ok (.iconst 0, 1) := by decide +kernel
theorem dX3_heirFor_8 : decode cX3_heirFor 8 = .ok (.istore 5, 2) := by decide +kernel
theorem dX3_heirFor_10 : decode cX3_heirFor 10 = .ok (.iload 5, 2) := by decide +kernel
theorem dX3_heirFor_12 : decode cX3_heirFor 12 = .ok (.aload_n 0, 1) := by decide +kernel
theorem dX3_heirFor_13 : decode cX3_heirFor 13 = .ok (.getfield 63, 3) := by decide +kernel
theorem dX3_heirFor_16 : decode cX3_heirFor 16 = .ok (.if_icmp .ge 75, 3) := by decide +kernel
theorem dX3_heirFor_19 : decode cX3_heirFor 19 = .ok (.iload 5, 2) := by decide +kernel
theorem dX3_heirFor_21 : decode cX3_heirFor 21 = .ok (.iload_n 1, 1) := by decide +kernel
theorem dX3_heirFor_22 : decode cX3_heirFor 22 = .ok (.if_icmp .eq 63, 3) := by decide +kernel
theorem dX3_heirFor_25 : decode cX3_heirFor 25 = .ok (.aload_n 0, 1) := by decide +kernel
theorem dX3_heirFor_26 : decode cX3_heirFor 26 = .ok (.iload 5, 2) := by decide +kernel
theorem dX3_heirFor_28 : decode cX3_heirFor 28 = .ok (.invokevirtual 92, 3) := by decide +kernel
theorem dX3_heirFor_31 : decode cX3_heirFor 31 = .ok (.ifCond .ne 6, 3) := by decide +kernel
theorem dX3_heirFor_34 : decode cX3_heirFor 34 = .ok (.goto 51, 3) := by decide +kernel
theorem dX3_heirFor_37 : decode cX3_heirFor 37 = .ok (.aload_n 0, 1) := by decide +kernel
theorem dX3_heirFor_38 : decode cX3_heirFor 38 = .ok (.iload_n 1, 1) := by decide +kernel
theorem dX3_heirFor_39 : decode cX3_heirFor 39 = .ok (.iload 5, 2) := by decide +kernel
theorem dX3_heirFor_41 : decode cX3_heirFor 41 = .ok (.invokevirtual 96, 3) := by decide +kernel
theorem dX3_heirFor_44 : decode cX3_heirFor 44 = .ok (.istore 6, 2) := by decide +kernel
theorem dX3_heirFor_46 : decode cX3_heirFor 46 = .ok (.iload 6, 2) := by decide +kernel
theorem dX3_heirFor_48 : decode cX3_heirFor 48 = .ok (.iload_n 3, 1) := by decide +kernel
theorem dX3_heirFor_49 : decode cX3_heirFor 49 = .ok (.if_icmp .gt 21, 3) := by decide +kernel
theorem dX3_heirFor_52 : decode cX3_heirFor 52 = .ok (.iload 6, 2) := by decide +kernel
theorem dX3_heirFor_54 : decode cX3_heirFor 54 = .ok (.iload_n 3, 1) := by decide +kernel
theorem dX3_heirFor_55 : decode cX3_heirFor 55 = .ok (.if_icmp .ne 30, 3) := by decide +kernel
theorem dX3_heirFor_58 : decode cX3_heirFor 58 = .ok (.aload_n 0, 1) := by decide +kernel
theorem dX3_heirFor_59 : decode cX3_heirFor 59 = .ok (.getfield 27, 3) := by decide +kernel
theorem dX3_heirFor_62 : decode cX3_heirFor 62 = .ok (.iload 5, 2) := by decide +kernel
theorem dX3_heirFor_64 : decode cX3_heirFor 64 = .ok (.iaload, 1) := by decide +kernel
theorem dX3_heirFor_65 : decode cX3_heirFor 65 = .ok (.iload 4, 2) := by decide +kernel
theorem dX3_heirFor_67 : decode cX3_heirFor 67 = .ok (.if_icmp .le 18, 3) := by decide +kernel
theorem dX3_heirFor_70 : decode cX3_heirFor 70 = .ok (.iload 5, 2) := by decide +kernel
theorem dX3_heirFor_72 : decode cX3_heirFor 72 = .ok (.istore_n 2, 1) := by decide +kernel
theorem dX3_heirFor_73 : decode cX3_heirFor 73 = .ok (.iload 6, 2) := by decide +kernel
theorem dX3_heirFor_75 : decode cX3_heirFor 75 = .ok (.istore_n 3, 1) := by decide +kernel
theorem dX3_heirFor_76 : decode cX3_heirFor 76 = .ok (.aload_n 0, 1) := by decide +kernel
theorem dX3_heirFor_77 : decode cX3_heirFor 77 = .ok (.getfield 27, 3) := by decide +kernel
theorem dX3_heirFor_80 : decode cX3_heirFor 80 = .ok (.iload 5, 2) := by decide +kernel
theorem dX3_heirFor_82 : decode cX3_heirFor 82 = .ok (.iaload, 1) := by decide +kernel
theorem dX3_heirFor_83 : decode cX3_heirFor 83 = .ok (.istore 4, 2) := by decide +kernel
theorem dX3_heirFor_85 : decode cX3_heirFor 85 = .ok (.iinc 5 1, 3) := by decide +kernel
theorem dX3_heirFor_88 : decode cX3_heirFor 88 = .ok (.goto (-78), 3) := by decide +kernel
theorem dX3_heirFor_91 : decode cX3_heirFor 91 = .ok (.iload_n 2, 1) := by decide +kernel
theorem dX3_heirFor_92 : decode cX3_heirFor 92 = .ok (.ireturn, 1) := by decide +kernel
theorem dX3_heirOfStranger_0 : decode cX3_heirOfStranger 0 = .ok (.aload_n 0, 1) := by decide +kernel
theorem dX3_heirOfStranger_1 : decode cX3_heirOfStranger 1 = .ok (.getfield 39, 3) := by decide +kernel
theorem dX3_heirOfStranger_4 : decode cX3_heirOfStranger 4 = .ok (.bipush 12, 2) := by decide +kernel
theorem dX3_heirOfStranger_6 : decode cX3_heirOfStranger 6 = .ok (.iload_n 1, 1) := by decide +kernel
theorem dX3_heirOfStranger_7 : decode cX3_heirOfStranger 7 = .ok (.iastore, 1) := by decide +kernel
theorem dX3_heirOfStranger_8 : decode cX3_heirOfStranger 8 = .ok (.aload_n 0, 1) := by decide +kernel
theorem dX3_heirOfStranger_9 : decode cX3_heirOfStranger 9 = .ok (.bipush 12, 2) := by decide +kernel
theorem dX3_heirOfStranger_11 : decode cX3_heirOfStranger 11 = .ok (.invokevirtual 99, 3) := by decide +kernel
theorem dX3_heirOfStranger_14 : decode cX3_heirOfStranger 14 = .ok (.ireturn, 1) := by decide +kernel
theorem dX3_leaversTo_0 : decode cX3_leaversTo 0 = .ok (.iconst 0, 1) := by decide +kernel
theorem dX3_leaversTo_1 : decode cX3_leaversTo 1 = .ok (.istore_n 2, 1) := by decide +kernel
theorem dX3_leaversTo_2 : decode cX3_leaversTo 2 = .ok (.iconst 0, 1) := by decide +kernel
theorem dX3_leaversTo_3 : decode cX3_leaversTo 3 = .ok (.istore_n 3, 1) := by decide +kernel
theorem dX3_leaversTo_4 : decode cX3_leaversTo 4 = .ok (.iload_n 3, 1) := by decide +kernel
theorem dX3_leaversTo_5 : decode cX3_leaversTo 5 = .ok (.aload_n 0, 1) := by decide +kernel
theorem dX3_leaversTo_6 : decode cX3_leaversTo 6 = .ok (.getfield 63, 3) := by decide +kernel
theorem dX3_leaversTo_9 : decode cX3_leaversTo 9 = .ok (.if_icmp .ge 32, 3) := by decide +kernel
theorem dX3_leaversTo_12 : decode cX3_leaversTo 12 = .ok (.aload_n 0, 1) := by decide +kernel
theorem dX3_leaversTo_13 : decode cX3_leaversTo 13 = .ok (.iload_n 3, 1) := by decide +kernel
theorem dX3_leaversTo_14 : decode cX3_leaversTo 14 = .ok (.invokevirtual 92, 3) := by decide +kernel
theorem dX3_leaversTo_17 : decode cX3_leaversTo 17 = .ok (.ifCond .eq 18, 3) := by decide +kernel
theorem dX3_leaversTo_20 : decode cX3_leaversTo 20 = .ok (.aload_n 0, 1) := by decide +kernel
theorem dX3_leaversTo_21 : decode cX3_leaversTo 21 = .ok (.iload_n 3, 1) := by decide +kernel
theorem dX3_leaversTo_22 : decode cX3_leaversTo 22 = .ok (.invokevirtual 99, 3) := by decide +kernel
theorem dX3_leaversTo_25 : decode cX3_leaversTo 25 = .ok (.iload_n 1, 1) := by decide +kernel
theorem dX3_leaversTo_26 : decode cX3_leaversTo 26 = .ok (.if_icmp .ne 9, 3) := by decide +kernel
theorem dX3_leaversTo_29 : decode cX3_leaversTo 29 = .ok (.iload_n 2, 1) := by decide +kernel
theorem dX3_leaversTo_30 : decode cX3_leaversTo 30 = .ok (.iconst 1, 1) := by decide +kernel
theorem dX3_leaversTo_31 : decode cX3_leaversTo 31 = .ok (.iload_n 3, 1) := by decide +kernel
theorem dX3_leaversTo_32 : decode cX3_leaversTo 32 = .ok (.ishl, 1) := by decide +kernel
theorem dX3_leaversTo_33 : decode cX3_leaversTo 33 = .ok (.ior, 1) := by decide +kernel
theorem dX3_leaversTo_34 : decode cX3_leaversTo 34 = .ok (.istore_n 2, 1) := by decide +kernel
theorem dX3_leaversTo_35 : decode cX3_leaversTo 35 = .ok (.iinc 3 1, 3) := by decide +kernel
theorem dX3_leaversTo_38 : decode cX3_leaversTo 38 = .ok (.goto (-34), 3) := by decide +kernel
theorem dX3_leaversTo_41 : decode cX3_leaversTo 41 = .ok (.iload_n 2, 1) := by decide +kernel
theorem dX3_leaversTo_42 : decode cX3_leaversTo 42 = .ok (.ireturn, 1) := by decide +kernel
theorem dX3_expectedBy_0 : decode cX3_expectedBy 0 = .ok (.aload_n 0, 1) := by decide +kernel
theorem dX3_expectedBy_1 : decode cX3_expectedBy 1 = .ok (.aload_n 0, 1) := by decide +kernel
theorem dX3_expectedBy_2 : decode cX3_expectedBy 2 = .ok (.getfield 30, 3) := by decide +kernel
theorem dX3_expectedBy_5 : decode cX3_expectedBy 5 = .ok (.aload_n 0, 1) := by decide +kernel
theorem dX3_expectedBy_6 : decode cX3_expectedBy 6 = .ok (.iload_n 1, 1) := by decide +kernel
theorem dX3_expectedBy_7 : decode cX3_expectedBy 7 = .ok (.invokevirtual 102, 3) := by decide +kernel
theorem dX3_expectedBy_10 : decode cX3_expectedBy 10 = .ok (.invokevirtual 105, 3) := by decide +kernel
theorem dX3_expectedBy_13 : decode cX3_expectedBy 13 = .ok (.ireturn, 1) := by decide +kernel
theorem dX3_watchersOf_0 : decode cX3_watchersOf 0 = .ok (.iconst 0, 1) := by decide +kernel
theorem dX3_watchersOf_1 : decode cX3_watchersOf 1 = .ok (.istore_n 2, 1) := by decide +kernel
theorem dX3_watchersOf_2 : decode cX3_watchersOf 2 = .ok (.iconst 0, 1) := by decide +kernel
theorem dX3_watchersOf_3 : decode cX3_watchersOf 3 = .ok (.istore_n 3, 1) := by decide +kernel
theorem dX3_watchersOf_4 : decode cX3_watchersOf 4 = .ok (.iload_n 3, 1) := by decide +kernel
theorem dX3_watchersOf_5 : decode cX3_watchersOf 5 = .ok (.aload_n 0, 1) := by decide +kernel
theorem dX3_watchersOf_6 : decode cX3_watchersOf 6 = .ok (.getfield 63, 3) := by decide +kernel
theorem dX3_watchersOf_9 : decode cX3_watchersOf 9 = .ok (.if_icmp .ge 32, 3) := by decide +kernel
theorem dX3_watchersOf_12 : decode cX3_watchersOf 12 = .ok (.aload_n 0, 1) := by decide +kernel
theorem dX3_watchersOf_13 : decode cX3_watchersOf 13 = .ok (.iload_n 3, 1) := by decide +kernel
theorem dX3_watchersOf_14 : decode cX3_watchersOf 14 = .ok (.invokevirtual 92, 3) := by decide +kernel
theorem dX3_watchersOf_17 : decode cX3_watchersOf 17 = .ok (.ifCond .eq 18, 3) := by decide +kernel
theorem dX3_watchersOf_20 : decode cX3_watchersOf 20 = .ok (.aload_n 0, 1) := by decide +kernel
theorem dX3_watchersOf_21 : decode cX3_watchersOf 21 = .ok (.iload_n 3, 1) := by decide +kernel
theorem dX3_watchersOf_22 : decode cX3_watchersOf 22 = .ok (.invokevirtual 109, 3) := by decide +kernel
theorem dX3_watchersOf_25 : decode cX3_watchersOf 25 = .ok (.iload_n 1, 1) := by decide +kernel
theorem dX3_watchersOf_26 : decode cX3_watchersOf 26 = .ok (.if_icmp .ne 9, 3) := by decide +kernel
theorem dX3_watchersOf_29 : decode cX3_watchersOf 29 = .ok (.iload_n 2, 1) := by decide +kernel
theorem dX3_watchersOf_30 : decode cX3_watchersOf 30 = .ok (.iconst 1, 1) := by decide +kernel
theorem dX3_watchersOf_31 : decode cX3_watchersOf 31 = .ok (.iload_n 3, 1) := by decide +kernel
theorem dX3_watchersOf_32 : decode cX3_watchersOf 32 = .ok (.ishl, 1) := by decide +kernel
theorem dX3_watchersOf_33 : decode cX3_watchersOf 33 = .ok (.ior, 1) := by decide +kernel
theorem dX3_watchersOf_34 : decode cX3_watchersOf 34 = .ok (.istore_n 2, 1) := by decide +kernel
theorem dX3_watchersOf_35 : decode cX3_watchersOf 35 = .ok (.iinc 3 1, 3) := by decide +kernel
theorem dX3_watchersOf_38 : decode cX3_watchersOf 38 = .ok (.goto (-34), 3) := by decide +kernel
theorem dX3_watchersOf_41 : decode cX3_watchersOf 41 = .ok (.iload_n 2, 1) := by decide +kernel
theorem dX3_watchersOf_42 : decode cX3_watchersOf 42 = .ok (.ireturn, 1) := by decide +kernel
theorem dX3_richestBut_0 : decode cX3_richestBut 0 = .ok (.iconst (-1), 1) := by decide +kernel
theorem dX3_richestBut_1 : decode cX3_richestBut 1 = .ok (.istore_n 2, 1) := by decide +kernel
theorem dX3_richestBut_2 : decode cX3_richestBut 2 = .ok (.iconst (-1), 1) := by decide +kernel
theorem dX3_richestBut_3 : decode cX3_richestBut 3 = .ok (.istore_n 3, 1) := by decide +kernel
theorem dX3_richestBut_4 : decode cX3_richestBut 4 = .ok (.iconst 0, 1) := by decide +kernel
theorem dX3_richestBut_5 : decode cX3_richestBut 5 = .ok (.istore 4, 2) := by decide +kernel
theorem dX3_richestBut_7 : decode cX3_richestBut 7 = .ok (.iload 4, 2) := by decide +kernel
theorem dX3_richestBut_9 : decode cX3_richestBut 9 = .ok (.aload_n 0, 1) := by decide +kernel
theorem dX3_richestBut_10 : decode cX3_richestBut 10 = .ok (.getfield 63, 3) := by decide +kernel
theorem dX3_richestBut_13 : decode cX3_richestBut 13 = .ok (.if_icmp .ge 46, 3) := by decide +kernel
theorem dX3_richestBut_16 : decode cX3_richestBut 16 = .ok (.iload 4, 2) := by decide +kernel
theorem dX3_richestBut_18 : decode cX3_richestBut 18 = .ok (.iload_n 1, 1) := by decide +kernel
theorem dX3_richestBut_19 : decode cX3_richestBut 19 = .ok (.if_icmp .eq 34, 3) := by decide +kernel
theorem dX3_richestBut_22 : decode cX3_richestBut 22 = .ok (.aload_n 0, 1) := by decide +kernel
theorem dX3_richestBut_23 : decode cX3_richestBut 23 = .ok (.iload 4, 2) := by decide +kernel
theorem dX3_richestBut_25 : decode cX3_richestBut 25 = .ok (.invokevirtual 92, 3) := by decide +kernel
theorem dX3_richestBut_28 : decode cX3_richestBut 28 = .ok (.ifCond .eq 25, 3) := by decide +kernel
theorem dX3_richestBut_31 : decode cX3_richestBut 31 = .ok (.aload_n 0, 1) := by decide +kernel
theorem dX3_richestBut_32 : decode cX3_richestBut 32 = .ok (.getfield 30, 3) := by decide +kernel
theorem dX3_richestBut_35 : decode cX3_richestBut 35 = .ok (.iload 4, 2) := by decide +kernel
theorem dX3_richestBut_37 : decode cX3_richestBut 37 = .ok (.iaload, 1) := by decide +kernel
theorem dX3_richestBut_38 : decode cX3_richestBut 38 = .ok (.iload_n 3, 1) := by decide +kernel
theorem dX3_richestBut_39 : decode cX3_richestBut 39 = .ok (.if_icmp .le 14, 3) := by decide +kernel
theorem dX3_richestBut_42 : decode cX3_richestBut 42 = .ok (.iload 4, 2) := by decide +kernel
theorem dX3_richestBut_44 : decode cX3_richestBut 44 = .ok (.istore_n 2, 1) := by decide +kernel
theorem dX3_richestBut_45 : decode cX3_richestBut 45 = .ok (.aload_n 0, 1) := by decide +kernel
theorem dX3_richestBut_46 : decode cX3_richestBut 46 = .ok (.getfield 30, 3) := by decide +kernel
theorem dX3_richestBut_49 : decode cX3_richestBut 49 = .ok (.iload 4, 2) := by decide +kernel
theorem dX3_richestBut_51 : decode cX3_richestBut 51 = .ok (.iaload, 1) := by decide +kernel
theorem dX3_richestBut_52 : decode cX3_richestBut 52 = .ok (.istore_n 3, 1) := by decide +kernel
theorem dX3_richestBut_53 : decode cX3_richestBut 53 = .ok (.iinc 4 1, 3) := by decide +kernel
theorem dX3_richestBut_56 : decode cX3_richestBut 56 = .ok (.goto (-49), 3) := by decide +kernel
theorem dX3_richestBut_59 : decode cX3_richestBut 59 = .ok (.iload_n 2, 1) := by decide +kernel
theorem dX3_richestBut_60 : decode cX3_richestBut 60 = .ok (.ireturn, 1) := by decide +kernel
theorem dX3_aimOf_0 : decode cX3_aimOf 0 = .ok (.aload_n 0, 1) := by decide +kernel
theorem dX3_aimOf_1 : decode cX3_aimOf 1 = .ok (.getfield 36, 3) := by decide +kernel
theorem dX3_aimOf_4 : decode cX3_aimOf 4 = .ok (.iload_n 1, 1) := by decide +kernel
theorem dX3_aimOf_5 : decode cX3_aimOf 5 = .ok (.iaload, 1) := by decide +kernel
theorem dX3_aimOf_6 : decode cX3_aimOf 6 = .ok (.istore_n 2, 1) := by decide +kernel
theorem dX3_aimOf_7 : decode cX3_aimOf 7 = .ok (.iload_n 2, 1) := by decide +kernel
theorem dX3_aimOf_8 : decode cX3_aimOf 8 = .ok (.iconst (-1), 1) := by decide +kernel
theorem dX3_aimOf_9 : decode cX3_aimOf 9 = .ok (.if_icmp .eq 15, 3) := by decide +kernel
theorem dX3_aimOf_12 : decode cX3_aimOf 12 = .ok (.aload_n 0, 1) := by decide +kernel
theorem dX3_aimOf_13 : decode cX3_aimOf 13 = .ok (.iload_n 2, 1) := by decide +kernel
theorem dX3_aimOf_14 : decode cX3_aimOf 14 = .ok (.invokevirtual 92, 3) := by decide +kernel
theorem dX3_aimOf_17 : decode cX3_aimOf 17 = .ok (.ifCond .eq 7, 3) := by decide +kernel
theorem dX3_aimOf_20 : decode cX3_aimOf 20 = .ok (.iload_n 2, 1) := by decide +kernel
theorem dX3_aimOf_21 : decode cX3_aimOf 21 = .ok (.goto 4, 3) := by decide +kernel
theorem dX3_aimOf_24 : decode cX3_aimOf 24 = .ok (.iconst (-1), 1) := by decide +kernel
theorem dX3_aimOf_25 : decode cX3_aimOf 25 = .ok (.istore_n 3, 1) := by decide +kernel
theorem dX3_aimOf_26 : decode cX3_aimOf 26 = .ok (.aload_n 0, 1) := by decide +kernel
theorem dX3_aimOf_27 : decode cX3_aimOf 27 = .ok (.getfield 24, 3) := by decide +kernel
theorem dX3_aimOf_30 : decode cX3_aimOf 30 = .ok (.iload_n 1, 1) := by decide +kernel
theorem dX3_aimOf_31 : decode cX3_aimOf 31 = .ok (.iaload, 1) := by decide +kernel
theorem dX3_aimOf_32 : decode cX3_aimOf 32 = .ok (.tableswitch 59 1 5 #[36, 59, 42, 36, 44], 36) := by decide +kernel
theorem dX3_aimOf_68 : decode cX3_aimOf 68 = .ok (.aload_n 0, 1) := by decide +kernel
theorem dX3_aimOf_69 : decode cX3_aimOf 69 = .ok (.iload_n 1, 1) := by decide +kernel
theorem dX3_aimOf_70 : decode cX3_aimOf 70 = .ok (.invokevirtual 112, 3) := by decide +kernel
theorem dX3_aimOf_73 : decode cX3_aimOf 73 = .ok (.ireturn, 1) := by decide +kernel
theorem dX3_aimOf_74 : decode cX3_aimOf 74 = .ok (.iload_n 3, 1) := by decide +kernel
theorem dX3_aimOf_75 : decode cX3_aimOf 75 = .ok (.ireturn, 1) := by decide +kernel
theorem dX3_aimOf_76 : decode cX3_aimOf 76 = .ok (.iload_n 3, 1) := by decide +kernel
theorem dX3_aimOf_77 : decode cX3_aimOf 77 = .ok (.iconst (-1), 1) := by decide +kernel
theorem dX3_aimOf_78 : decode cX3_aimOf 78 = .ok (.if_icmp .eq 7, 3) := by decide +kernel
theorem dX3_aimOf_81 : decode cX3_aimOf 81 = .ok (.iload_n 3, 1) := by decide +kernel
theorem dX3_aimOf_82 : decode cX3_aimOf 82 = .ok (.goto 8, 3) := by decide +kernel
theorem dX3_aimOf_85 : decode cX3_aimOf 85 = .ok (.aload_n 0, 1) := by decide +kernel
theorem dX3_aimOf_86 : decode cX3_aimOf 86 = .ok (.iload_n 1, 1) := by decide +kernel
theorem dX3_aimOf_87 : decode cX3_aimOf 87 = .ok (.invokevirtual 99, 3) := by decide +kernel
theorem dX3_aimOf_90 : decode cX3_aimOf 90 = .ok (.ireturn, 1) := by decide +kernel
theorem dX3_aimOf_91 : decode cX3_aimOf 91 = .ok (.iconst (-1), 1) := by decide +kernel
theorem dX3_aimOf_92 : decode cX3_aimOf 92 = .ok (.ireturn, 1) := by decide +kernel
theorem dX3_planOf_0 : decode cX3_planOf 0 = .ok (.aload_n 0, 1) := by decide +kernel
theorem dX3_planOf_1 : decode cX3_planOf 1 = .ok (.getfield 24, 3) := by decide +kernel
theorem dX3_planOf_4 : decode cX3_planOf 4 = .ok (.iload_n 1, 1) := by decide +kernel
theorem dX3_planOf_5 : decode cX3_planOf 5 = .ok (.iaload, 1) := by decide +kernel
theorem dX3_planOf_6 : decode cX3_planOf 6 = .ok (.iconst 2, 1) := by decide +kernel
theorem dX3_planOf_7 : decode cX3_planOf 7 = .ok (.if_icmp .ne 7, 3) := by decide +kernel
theorem dX3_planOf_10 : decode cX3_planOf 10 = .ok (.iconst 1, 1) := by decide +kernel
theorem dX3_planOf_11 : decode cX3_planOf 11 = .ok (.goto 4, 3) := by decide +kernel
theorem dX3_planOf_14 : decode cX3_planOf 14 = .ok (.iconst 0, 1) := by decide +kernel
theorem dX3_planOf_15 : decode cX3_planOf 15 = .ok (.istore_n 2, 1) := by decide +kernel
theorem dX3_planOf_16 : decode cX3_planOf 16 = .ok (.iload_n 2, 1) := by decide +kernel
theorem dX3_planOf_17 : decode cX3_planOf 17 = .ok (.ifCond .eq 11, 3) := by decide +kernel
theorem dX3_planOf_20 : decode cX3_planOf 20 = .ok (.aload_n 0, 1) := by decide +kernel
theorem dX3_planOf_21 : decode cX3_planOf 21 = .ok (.iload_n 1, 1) := by decide +kernel
theorem dX3_planOf_22 : decode cX3_planOf 22 = .ok (.invokevirtual 99, 3) := by decide +kernel
theorem dX3_planOf_25 : decode cX3_planOf 25 = .ok (.goto 8, 3) := by decide +kernel
theorem dX3_planOf_28 : decode cX3_planOf 28 = .ok (.aload_n 0, 1) := by decide +kernel
theorem dX3_planOf_29 : decode cX3_planOf 29 = .ok (.iload_n 1, 1) := by decide +kernel
theorem dX3_planOf_30 : decode cX3_planOf 30 = .ok (.invokevirtual 109, 3) := by decide +kernel
theorem dX3_planOf_33 : decode cX3_planOf 33 = .ok (.istore_n 3, 1) := by decide +kernel
theorem dX3_planOf_34 : decode cX3_planOf 34 = .ok (.iload_n 3, 1) := by decide +kernel
theorem dX3_planOf_35 : decode cX3_planOf 35 = .ok (.iconst (-1), 1) := by decide +kernel
theorem dX3_planOf_36 : decode cX3_planOf 36 = .ok (.if_icmp .ne 5, 3) := by decide +kernel
theorem dX3_planOf_39 : decode cX3_planOf 39 = .ok (.iconst (-1), 1) := by decide +kernel
theorem dX3_planOf_40 : decode cX3_planOf 40 = .ok (.ireturn, 1) := by decide +kernel
theorem dX3_planOf_41 : decode cX3_planOf 41 = .ok (.aload_n 0, 1) := by decide +kernel
theorem dX3_planOf_42 : decode cX3_planOf 42 = .ok (.getfield 39, 3) := by decide +kernel
theorem dX3_planOf_45 : decode cX3_planOf 45 = .ok (.iload_n 1, 1) := by decide +kernel
theorem dX3_planOf_46 : decode cX3_planOf 46 = .ok (.iaload, 1) := by decide +kernel
theorem dX3_planOf_47 : decode cX3_planOf 47 = .ok (.aload_n 0, 1) := by decide +kernel
theorem dX3_planOf_48 : decode cX3_planOf 48 = .ok (.getfield 39, 3) := by decide +kernel
theorem dX3_planOf_51 : decode cX3_planOf 51 = .ok (.iload_n 3, 1) := by decide +kernel
theorem dX3_planOf_52 : decode cX3_planOf 52 = .ok (.iaload, 1) := by decide +kernel
theorem dX3_planOf_53 : decode cX3_planOf 53 = .ok (.invokestatic 88, 3) := by decide +kernel
theorem dX3_planOf_56 : decode cX3_planOf 56 = .ok (.istore 4, 2) := by decide +kernel
theorem dX3_planOf_58 : decode cX3_planOf 58 = .ok (.iload_n 2, 1) := by decide +kernel
theorem dX3_planOf_59 : decode cX3_planOf 59 = .ok (.ifCond .eq 13, 3) := by decide +kernel
theorem dX3_planOf_62 : decode cX3_planOf 62 = .ok (.sipush 511, 3) := by decide +kernel
theorem dX3_planOf_65 : decode cX3_planOf 65 = .ok (.iload 4, 2) := by decide +kernel
theorem dX3_planOf_67 : decode cX3_planOf 67 = .ok (.iconst (-1), 1) := by decide +kernel
theorem dX3_planOf_68 : decode cX3_planOf 68 = .ok (.ixor, 1) := by decide +kernel
theorem dX3_planOf_69 : decode cX3_planOf 69 = .ok (.iand, 1) := by decide +kernel
theorem dX3_planOf_70 : decode cX3_planOf 70 = .ok (.istore 4, 2) := by decide +kernel
theorem dX3_planOf_72 : decode cX3_planOf 72 = .ok (.aload_n 0, 1) := by decide +kernel
theorem dX3_planOf_73 : decode cX3_planOf 73 = .ok (.getfield 24, 3) := by decide +kernel
theorem dX3_planOf_76 : decode cX3_planOf 76 = .ok (.iload_n 1, 1) := by decide +kernel
theorem dX3_planOf_77 : decode cX3_planOf 77 = .ok (.iaload, 1) := by decide +kernel
theorem dX3_planOf_78 : decode cX3_planOf 78 = .ok (.iconst 4, 1) := by decide +kernel
theorem dX3_planOf_79 : decode cX3_planOf 79 = .ok (.if_icmp .ne 11, 3) := by decide +kernel
theorem dX3_planOf_82 : decode cX3_planOf 82 = .ok (.iload 4, 2) := by decide +kernel
theorem dX3_planOf_84 : decode cX3_planOf 84 = .ok (.sipush (-257), 3) := by decide +kernel
theorem dX3_planOf_87 : decode cX3_planOf 87 = .ok (.iand, 1) := by decide +kernel
theorem dX3_planOf_88 : decode cX3_planOf 88 = .ok (.istore 4, 2) := by decide +kernel
theorem dX3_planOf_90 : decode cX3_planOf 90 = .ok (.iload 4, 2) := by decide +kernel
theorem dX3_planOf_92 : decode cX3_planOf 92 = .ok (.invokestatic 80, 3) := by decide +kernel
theorem dX3_planOf_95 : decode cX3_planOf 95 = .ok (.istore 5, 2) := by decide +kernel
theorem dX3_planOf_97 : decode cX3_planOf 97 = .ok (.iload 5, 2) := by decide +kernel
theorem dX3_planOf_99 : decode cX3_planOf 99 = .ok (.iconst (-1), 1) := by decide +kernel
theorem dX3_planOf_100 : decode cX3_planOf 100 = .ok (.if_icmp .eq 19, 3) := by decide +kernel
theorem dX3_planOf_103 : decode cX3_planOf 103 = .ok (.aload_n 0, 1) := by decide +kernel
theorem dX3_planOf_104 : decode cX3_planOf 104 = .ok (.getfield 30, 3) := by decide +kernel
theorem dX3_planOf_107 : decode cX3_planOf 107 = .ok (.iload_n 1, 1) := by decide +kernel
theorem dX3_planOf_108 : decode cX3_planOf 108 = .ok (.iaload, 1) := by decide +kernel
theorem dX3_planOf_109 : decode cX3_planOf 109 = .ok (.aload_n 0, 1) := by decide +kernel
theorem dX3_planOf_110 : decode cX3_planOf 110 = .ok (.getfield 15, 3) := by decide +kernel
theorem dX3_planOf_113 : decode cX3_planOf 113 = .ok (.iload 5, 2) := by decide +kernel
theorem dX3_planOf_115 : decode cX3_planOf 115 = .ok (.iaload, 1) := by decide +kernel
theorem dX3_planOf_116 : decode cX3_planOf 116 = .ok (.if_icmp .ge 5, 3) := by decide +kernel
theorem dX3_planOf_119 : decode cX3_planOf 119 = .ok (.iconst (-1), 1) := by decide +kernel
theorem dX3_planOf_120 : decode cX3_planOf 120 = .ok (.ireturn, 1) := by decide +kernel
theorem dX3_planOf_121 : decode cX3_planOf 121 = .ok (.iload_n 2, 1) := by decide +kernel
theorem dX3_planOf_122 : decode cX3_planOf 122 = .ok (.ifCond .eq 20, 3) := by decide +kernel
theorem dX3_planOf_125 : decode cX3_planOf 125 = .ok (.aload_n 0, 1) := by decide +kernel
theorem dX3_planOf_126 : decode cX3_planOf 126 = .ok (.getfield 39, 3) := by decide +kernel
theorem dX3_planOf_129 : decode cX3_planOf 129 = .ok (.iload_n 1, 1) := by decide +kernel
theorem dX3_planOf_130 : decode cX3_planOf 130 = .ok (.iaload, 1) := by decide +kernel
theorem dX3_planOf_131 : decode cX3_planOf 131 = .ok (.iload 5, 2) := by decide +kernel
theorem dX3_planOf_133 : decode cX3_planOf 133 = .ok (.invokestatic 115, 3) := by decide +kernel
theorem dX3_planOf_136 : decode cX3_planOf 136 = .ok (.invokestatic 118, 3) := by decide +kernel
theorem dX3_planOf_139 : decode cX3_planOf 139 = .ok (.goto 14, 3) := by decide +kernel
theorem dX3_planOf_142 : decode cX3_planOf 142 = .ok (.aload_n 0, 1) := by decide +kernel
theorem dX3_planOf_143 : decode cX3_planOf 143 = .ok (.getfield 39, 3) := by decide +kernel
theorem dX3_planOf_146 : decode cX3_planOf 146 = .ok (.iload_n 3, 1) := by decide +kernel
theorem dX3_planOf_147 : decode cX3_planOf 147 = .ok (.iaload, 1) := by decide +kernel
theorem dX3_planOf_148 : decode cX3_planOf 148 = .ok (.iload 5, 2) := by decide +kernel
theorem dX3_planOf_150 : decode cX3_planOf 150 = .ok (.invokestatic 115, 3) := by decide +kernel
theorem dX3_planOf_153 : decode cX3_planOf 153 = .ok (.istore 6, 2) := by decide +kernel
theorem dX3_planOf_155 : decode cX3_planOf 155 = .ok (.bipush 10, 2) := by decide +kernel
theorem dX3_planOf_157 : decode cX3_planOf 157 = .ok (.iload 5, 2) := by decide +kernel
theorem dX3_planOf_159 : decode cX3_planOf 159 = .ok (.imul, 1) := by decide +kernel
theorem dX3_planOf_160 : decode cX3_planOf 160 = .ok (.iload 6, 2) := by decide +kernel
theorem dX3_planOf_162 : decode cX3_planOf 162 = .ok (.iadd, 1) := by decide +kernel
theorem dX3_planOf_163 : decode cX3_planOf 163 = .ok (.ireturn, 1) := by decide +kernel
theorem dX3_goYears_0 : decode cX3_goYears 0 = .ok (.iconst 0, 1) := by decide +kernel
theorem dX3_goYears_1 : decode cX3_goYears 1 = .ok (.istore_n 2, 1) := by decide +kernel
theorem dX3_goYears_2 : decode cX3_goYears 2 = .ok (.iconst 0, 1) := by decide +kernel
theorem dX3_goYears_3 : decode cX3_goYears 3 = .ok (.istore_n 3, 1) := by decide +kernel
theorem dX3_goYears_4 : decode cX3_goYears 4 = .ok (.iload_n 3, 1) := by decide +kernel
theorem dX3_goYears_5 : decode cX3_goYears 5 = .ok (.iload_n 1, 1) := by decide +kernel
theorem dX3_goYears_6 : decode cX3_goYears 6 = .ok (.if_icmp .ge 173, 3) := by decide +kernel
theorem dX3_goYears_9 : decode cX3_goYears 9 = .ok (.iconst 0, 1) := by decide +kernel
theorem dX3_goYears_10 : decode cX3_goYears 10 = .ok (.istore 4, 2) := by decide +kernel
theorem dX3_goYears_12 : decode cX3_goYears 12 = .ok (.iload 4, 2) := by decide +kernel
theorem dX3_goYears_14 : decode cX3_goYears 14 = .ok (.aload_n 0, 1) := by decide +kernel
theorem dX3_goYears_15 : decode cX3_goYears 15 = .ok (.getfield 63, 3) := by decide +kernel
theorem dX3_goYears_18 : decode cX3_goYears 18 = .ok (.if_icmp .ge 30, 3) := by decide +kernel
theorem dX3_goYears_21 : decode cX3_goYears 21 = .ok (.aload_n 0, 1) := by decide +kernel
theorem dX3_goYears_22 : decode cX3_goYears 22 = .ok (.iload 4, 2) := by decide +kernel
theorem dX3_goYears_24 : decode cX3_goYears 24 = .ok (.invokevirtual 92, 3) := by decide +kernel
theorem dX3_goYears_27 : decode cX3_goYears 27 = .ok (.ifCond .eq 15, 3) := by decide +kernel
theorem dX3_goYears_30 : decode cX3_goYears 30 = .ok (.aload_n 0, 1) := by decide +kernel
theorem dX3_goYears_31 : decode cX3_goYears 31 = .ok (.iload 4, 2) := by decide +kernel
theorem dX3_goYears_33 : decode cX3_goYears 33 = .ok (.aload_n 0, 1) := by decide +kernel
theorem dX3_goYears_34 : decode cX3_goYears 34 = .ok (.iload 4, 2) := by decide +kernel
theorem dX3_goYears_36 : decode cX3_goYears 36 = .ok (.invokevirtual 121, 3) := by decide +kernel
theorem dX3_goYears_39 : decode cX3_goYears 39 = .ok (.invokevirtual 124, 3) := by decide +kernel
theorem dX3_goYears_42 : decode cX3_goYears 42 = .ok (.iinc 4 1, 3) := by decide +kernel
theorem dX3_goYears_45 : decode cX3_goYears 45 = .ok (.goto (-33), 3) := by decide +kernel
theorem dX3_goYears_48 : decode cX3_goYears 48 = .ok (.iconst 0, 1) := by decide +kernel
theorem dX3_goYears_49 : decode cX3_goYears 49 = .ok (.istore 4, 2) := by decide +kernel
theorem dX3_goYears_51 : decode cX3_goYears 51 = .ok (.iload 4, 2) := by decide +kernel
theorem dX3_goYears_53 : decode cX3_goYears 53 = .ok (.aload_n 0, 1) := by decide +kernel
theorem dX3_goYears_54 : decode cX3_goYears 54 = .ok (.getfield 63, 3) := by decide +kernel
theorem dX3_goYears_57 : decode cX3_goYears 57 = .ok (.if_icmp .ge 39, 3) := by decide +kernel
theorem dX3_goYears_60 : decode cX3_goYears 60 = .ok (.aload_n 0, 1) := by decide +kernel
theorem dX3_goYears_61 : decode cX3_goYears 61 = .ok (.iload 4, 2) := by decide +kernel
theorem dX3_goYears_63 : decode cX3_goYears 63 = .ok (.invokevirtual 92, 3) := by decide +kernel
theorem dX3_goYears_66 : decode cX3_goYears 66 = .ok (.ifCond .eq 24, 3) := by decide +kernel
theorem dX3_goYears_69 : decode cX3_goYears 69 = .ok (.aload_n 0, 1) := by decide +kernel
theorem dX3_goYears_70 : decode cX3_goYears 70 = .ok (.getfield 27, 3) := by decide +kernel
theorem dX3_goYears_73 : decode cX3_goYears 73 = .ok (.iload 4, 2) := by decide +kernel
theorem dX3_goYears_75 : decode cX3_goYears 75 = .ok (.bipush 120, 2) := by decide +kernel
theorem dX3_goYears_77 : decode cX3_goYears 77 = .ok (.aload_n 0, 1) := by decide +kernel
theorem dX3_goYears_78 : decode cX3_goYears 78 = .ok (.getfield 27, 3) := by decide +kernel
theorem dX3_goYears_81 : decode cX3_goYears 81 = .ok (.iload 4, 2) := by decide +kernel
theorem dX3_goYears_83 : decode cX3_goYears 83 = .ok (.iaload, 1) := by decide +kernel
theorem dX3_goYears_84 : decode cX3_goYears 84 = .ok (.iconst 1, 1) := by decide +kernel
theorem dX3_goYears_85 : decode cX3_goYears 85 = .ok (.iadd, 1) := by decide +kernel
theorem dX3_goYears_86 : decode cX3_goYears 86 = .ok (.invokestatic 128, 3) := by decide +kernel
theorem dX3_goYears_89 : decode cX3_goYears 89 = .ok (.iastore, 1) := by decide +kernel
theorem dX3_goYears_90 : decode cX3_goYears 90 = .ok (.iinc 4 1, 3) := by decide +kernel
theorem dX3_goYears_93 : decode cX3_goYears 93 = .ok (.goto (-42), 3) := by decide +kernel
theorem dX3_goYears_96 : decode cX3_goYears 96 = .ok (.iconst 0, 1) := by decide +kernel
theorem dX3_goYears_97 : decode cX3_goYears 97 = .ok (.istore 4, 2) := by decide +kernel
theorem dX3_goYears_99 : decode cX3_goYears 99 = .ok (.iload 4, 2) := by decide +kernel
theorem dX3_goYears_101 : decode cX3_goYears 101 = .ok (.aload_n 0, 1) := by decide +kernel
theorem dX3_goYears_102 : decode cX3_goYears 102 = .ok (.getfield 63, 3) := by decide +kernel
theorem dX3_goYears_105 : decode cX3_goYears 105 = .ok (.if_icmp .ge 58, 3) := by decide +kernel
theorem dX3_goYears_108 : decode cX3_goYears 108 = .ok (.aload_n 0, 1) := by decide +kernel
theorem dX3_goYears_109 : decode cX3_goYears 109 = .ok (.iload 4, 2) := by decide +kernel
theorem dX3_goYears_111 : decode cX3_goYears 111 = .ok (.invokevirtual 92, 3) := by decide +kernel
theorem dX3_goYears_114 : decode cX3_goYears 114 = .ok (.ifCond .eq 43, 3) := by decide +kernel
theorem dX3_goYears_117 : decode cX3_goYears 117 = .ok (.aload_n 0, 1) := by decide +kernel
theorem dX3_goYears_118 : decode cX3_goYears 118 = .ok (.getfield 27, 3) := by decide +kernel
theorem dX3_goYears_121 : decode cX3_goYears 121 = .ok (.iload 4, 2) := by decide +kernel
theorem dX3_goYears_123 : decode cX3_goYears 123 = .ok (.iaload, 1) := by decide +kernel
theorem dX3_goYears_124 : decode cX3_goYears 124 = .ok (.aload_n 0, 1) := by decide +kernel
theorem dX3_goYears_125 : decode cX3_goYears 125 = .ok (.getfield 33, 3) := by decide +kernel
theorem dX3_goYears_128 : decode cX3_goYears 128 = .ok (.iload 4, 2) := by decide +kernel
theorem dX3_goYears_130 : decode cX3_goYears 130 = .ok (.iaload, 1) := by decide +kernel
theorem dX3_goYears_131 : decode cX3_goYears 131 = .ok (.if_icmp .lt 26, 3) := by decide +kernel
theorem dX3_goYears_134 : decode cX3_goYears 134 = .ok (.aload_n 0, 1) := by decide +kernel
theorem dX3_goYears_135 : decode cX3_goYears 135 = .ok (.iload 4, 2) := by decide +kernel
theorem dX3_goYears_137 : decode cX3_goYears 137 = .ok (.invokevirtual 133, 3) := by decide +kernel
theorem dX3_goYears_140 : decode cX3_goYears 140 = .ok (.pop, 1) := by decide +kernel
theorem dX3_goYears_141 : decode cX3_goYears 141 = .ok (.aload_n 0, 1) := by decide +kernel
theorem dX3_goYears_142 : decode cX3_goYears 142 = .ok (.getfield 45, 3) := by decide +kernel
theorem dX3_goYears_145 : decode cX3_goYears 145 = .ok (.iload 4, 2) := by decide +kernel
theorem dX3_goYears_147 : decode cX3_goYears 147 = .ok (.aload_n 0, 1) := by decide +kernel
theorem dX3_goYears_148 : decode cX3_goYears 148 = .ok (.getfield 73, 3) := by decide +kernel
theorem dX3_goYears_151 : decode cX3_goYears 151 = .ok (.iconst 1, 1) := by decide +kernel
theorem dX3_goYears_152 : decode cX3_goYears 152 = .ok (.iadd, 1) := by decide +kernel
theorem dX3_goYears_153 : decode cX3_goYears 153 = .ok (.iastore, 1) := by decide +kernel
theorem dX3_goYears_154 : decode cX3_goYears 154 = .ok (.iinc 2 1, 3) := by decide +kernel
theorem dX3_goYears_157 : decode cX3_goYears 157 = .ok (.iinc 4 1, 3) := by decide +kernel
theorem dX3_goYears_160 : decode cX3_goYears 160 = .ok (.goto (-61), 3) := by decide +kernel
theorem dX3_goYears_163 : decode cX3_goYears 163 = .ok (.aload_n 0, 1) := by decide +kernel
theorem dX3_goYears_164 : decode cX3_goYears 164 = .ok (.dup, 1) := by decide +kernel
theorem dX3_goYears_165 : decode cX3_goYears 165 = .ok (.getfield 73, 3) := by decide +kernel
theorem dX3_goYears_168 : decode cX3_goYears 168 = .ok (.iconst 1, 1) := by decide +kernel
theorem dX3_goYears_169 : decode cX3_goYears 169 = .ok (.iadd, 1) := by decide +kernel
theorem dX3_goYears_170 : decode cX3_goYears 170 = .ok (.putfield 73, 3) := by decide +kernel
theorem dX3_goYears_173 : decode cX3_goYears 173 = .ok (.iinc 3 1, 3) := by decide +kernel
theorem dX3_goYears_176 : decode cX3_goYears 176 = .ok (.goto (-172), 3) := by decide +kernel
theorem dX3_goYears_179 : decode cX3_goYears 179 = .ok (.iload_n 2, 1) := by decide +kernel
theorem dX3_goYears_180 : decode cX3_goYears 180 = .ok (.ireturn, 1) := by decide +kernel
theorem dX3_carryOut_0 : decode cX3_carryOut 0 = .ok (.iload_n 2, 1) := by decide +kernel
theorem dX3_carryOut_1 : decode cX3_carryOut 1 = .ok (.bipush 10, 2) := by decide +kernel
theorem dX3_carryOut_3 : decode cX3_carryOut 3 = .ok (.idiv, 1) := by decide +kernel
theorem dX3_carryOut_4 : decode cX3_carryOut 4 = .ok (.istore_n 3, 1) := by decide +kernel
theorem dX3_carryOut_5 : decode cX3_carryOut 5 = .ok (.iload_n 2, 1) := by decide +kernel
theorem dX3_carryOut_6 : decode cX3_carryOut 6 = .ok (.iconst (-1), 1) := by decide +kernel
theorem dX3_carryOut_7 : decode cX3_carryOut 7 = .ok (.if_icmp .eq 13, 3) := by decide +kernel
theorem dX3_carryOut_10 : decode cX3_carryOut 10 = .ok (.iload_n 3, 1) := by decide +kernel
theorem dX3_carryOut_11 : decode cX3_carryOut 11 = .ok (.iconst 0, 1) := by decide +kernel
theorem dX3_carryOut_12 : decode cX3_carryOut 12 = .ok (.bipush 8, 2) := by decide +kernel
theorem dX3_carryOut_14 : decode cX3_carryOut 14 = .ok (.invokestatic 84, 3) := by decide +kernel
theorem dX3_carryOut_17 : decode cX3_carryOut 17 = .ok (.ifCond .ne 4, 3) := by decide +kernel
theorem dX3_carryOut_20 : decode cX3_carryOut 20 = .ok (.return_, 1) := by decide +kernel
theorem dX3_carryOut_21 : decode cX3_carryOut 21 = .ok (.aload_n 0, 1) := by decide +kernel
theorem dX3_carryOut_22 : decode cX3_carryOut 22 = .ok (.getfield 39, 3) := by decide +kernel
theorem dX3_carryOut_25 : decode cX3_carryOut 25 = .ok (.iload_n 1, 1) := by decide +kernel
theorem dX3_carryOut_26 : decode cX3_carryOut 26 = .ok (.aload_n 0, 1) := by decide +kernel
theorem dX3_carryOut_27 : decode cX3_carryOut 27 = .ok (.getfield 39, 3) := by decide +kernel
theorem dX3_carryOut_30 : decode cX3_carryOut 30 = .ok (.iload_n 1, 1) := by decide +kernel
theorem dX3_carryOut_31 : decode cX3_carryOut 31 = .ok (.iaload, 1) := by decide +kernel
theorem dX3_carryOut_32 : decode cX3_carryOut 32 = .ok (.iload_n 3, 1) := by decide +kernel
theorem dX3_carryOut_33 : decode cX3_carryOut 33 = .ok (.iload_n 2, 1) := by decide +kernel
theorem dX3_carryOut_34 : decode cX3_carryOut 34 = .ok (.bipush 10, 2) := by decide +kernel
theorem dX3_carryOut_36 : decode cX3_carryOut 36 = .ok (.irem, 1) := by decide +kernel
theorem dX3_carryOut_37 : decode cX3_carryOut 37 = .ok (.invokestatic 136, 3) := by decide +kernel
theorem dX3_carryOut_40 : decode cX3_carryOut 40 = .ok (.iastore, 1) := by decide +kernel
theorem dX3_carryOut_41 : decode cX3_carryOut 41 = .ok (.aload_n 0, 1) := by decide +kernel
theorem dX3_carryOut_42 : decode cX3_carryOut 42 = .ok (.getfield 30, 3) := by decide +kernel
theorem dX3_carryOut_45 : decode cX3_carryOut 45 = .ok (.iload_n 1, 1) := by decide +kernel
theorem dX3_carryOut_46 : decode cX3_carryOut 46 = .ok (.dup2, 1) := by decide +kernel
theorem dX3_carryOut_47 : decode cX3_carryOut 47 = .ok (.iaload, 1) := by decide +kernel
theorem dX3_carryOut_48 : decode cX3_carryOut 48 = .ok (.aload_n 0, 1) := by decide +kernel
theorem dX3_carryOut_49 : decode cX3_carryOut 49 = .ok (.getfield 15, 3) := by decide +kernel
theorem dX3_carryOut_52 : decode cX3_carryOut 52 = .ok (.iload_n 3, 1) := by decide +kernel
theorem dX3_carryOut_53 : decode cX3_carryOut 53 = .ok (.iaload, 1) := by decide +kernel
theorem dX3_carryOut_54 : decode cX3_carryOut 54 = .ok (.isub, 1) := by decide +kernel
theorem dX3_carryOut_55 : decode cX3_carryOut 55 = .ok (.iastore, 1) := by decide +kernel
theorem dX3_carryOut_56 : decode cX3_carryOut 56 = .ok (.return_, 1) := by decide +kernel
theorem dX3_letDie_0 : decode cX3_letDie 0 = .ok (.aload_n 0, 1) := by decide +kernel
theorem dX3_letDie_1 : decode cX3_letDie 1 = .ok (.dup, 1) := by decide +kernel
theorem dX3_letDie_2 : decode cX3_letDie 2 = .ok (.getfield 67, 3) := by decide +kernel
theorem dX3_letDie_5 : decode cX3_letDie 5 = .ok (.iconst 1, 1) := by decide +kernel
theorem dX3_letDie_6 : decode cX3_letDie 6 = .ok (.iload_n 1, 1) := by decide +kernel
theorem dX3_letDie_7 : decode cX3_letDie 7 = .ok (.ishl, 1) := by decide +kernel
theorem dX3_letDie_8 : decode cX3_letDie 8 = .ok (.iconst (-1), 1) := by decide +kernel
theorem dX3_letDie_9 : decode cX3_letDie 9 = .ok (.ixor, 1) := by decide +kernel
theorem dX3_letDie_10 : decode cX3_letDie 10 = .ok (.iand, 1) := by decide +kernel
theorem dX3_letDie_11 : decode cX3_letDie 11 = .ok (.putfield 67, 3) := by decide +kernel
theorem dX3_letDie_14 : decode cX3_letDie 14 = .ok (.aload_n 0, 1) := by decide +kernel
theorem dX3_letDie_15 : decode cX3_letDie 15 = .ok (.iload_n 1, 1) := by decide +kernel
theorem dX3_letDie_16 : decode cX3_letDie 16 = .ok (.invokevirtual 99, 3) := by decide +kernel
theorem dX3_letDie_19 : decode cX3_letDie 19 = .ok (.istore_n 2, 1) := by decide +kernel
theorem dX3_letDie_20 : decode cX3_letDie 20 = .ok (.aload_n 0, 1) := by decide +kernel
theorem dX3_letDie_21 : decode cX3_letDie 21 = .ok (.getfield 30, 3) := by decide +kernel
theorem dX3_letDie_24 : decode cX3_letDie 24 = .ok (.iload_n 1, 1) := by decide +kernel
theorem dX3_letDie_25 : decode cX3_letDie 25 = .ok (.iaload, 1) := by decide +kernel
theorem dX3_letDie_26 : decode cX3_letDie 26 = .ok (.istore_n 3, 1) := by decide +kernel
theorem dX3_letDie_27 : decode cX3_letDie 27 = .ok (.aload_n 0, 1) := by decide +kernel
theorem dX3_letDie_28 : decode cX3_letDie 28 = .ok (.getfield 30, 3) := by decide +kernel
theorem dX3_letDie_31 : decode cX3_letDie 31 = .ok (.iload_n 1, 1) := by decide +kernel
theorem dX3_letDie_32 : decode cX3_letDie 32 = .ok (.iconst 0, 1) := by decide +kernel
theorem dX3_letDie_33 : decode cX3_letDie 33 = .ok (.iastore, 1) := by decide +kernel
theorem dX3_letDie_34 : decode cX3_letDie 34 = .ok (.aload_n 0, 1) := by decide +kernel
theorem dX3_letDie_35 : decode cX3_letDie 35 = .ok (.getfield 42, 3) := by decide +kernel
theorem dX3_letDie_38 : decode cX3_letDie 38 = .ok (.iload_n 1, 1) := by decide +kernel
theorem dX3_letDie_39 : decode cX3_letDie 39 = .ok (.iload_n 2, 1) := by decide +kernel
theorem dX3_letDie_40 : decode cX3_letDie 40 = .ok (.iastore, 1) := by decide +kernel
theorem dX3_letDie_41 : decode cX3_letDie 41 = .ok (.iload_n 2, 1) := by decide +kernel
theorem dX3_letDie_42 : decode cX3_letDie 42 = .ok (.iconst (-1), 1) := by decide +kernel
theorem dX3_letDie_43 : decode cX3_letDie 43 = .ok (.if_icmp .ne 5, 3) := by decide +kernel
theorem dX3_letDie_46 : decode cX3_letDie 46 = .ok (.iconst (-1), 1) := by decide +kernel
theorem dX3_letDie_47 : decode cX3_letDie 47 = .ok (.ireturn, 1) := by decide +kernel
theorem dX3_letDie_48 : decode cX3_letDie 48 = .ok (.aload_n 0, 1) := by decide +kernel
theorem dX3_letDie_49 : decode cX3_letDie 49 = .ok (.getfield 70, 3) := by decide +kernel
theorem dX3_letDie_52 : decode cX3_letDie 52 = .ok (.iconst 2, 1) := by decide +kernel
theorem dX3_letDie_53 : decode cX3_letDie 53 = .ok (.if_icmp .ne 12, 3) := by decide +kernel
theorem dX3_letDie_56 : decode cX3_letDie 56 = .ok (.aload_n 0, 1) := by decide +kernel
theorem dX3_letDie_57 : decode cX3_letDie 57 = .ok (.iload_n 1, 1) := by decide +kernel
theorem dX3_letDie_58 : decode cX3_letDie 58 = .ok (.iload_n 2, 1) := by decide +kernel
theorem dX3_letDie_59 : decode cX3_letDie 59 = .ok (.invokevirtual 140, 3) := by decide +kernel
theorem dX3_letDie_62 : decode cX3_letDie 62 = .ok (.goto 4, 3) := by decide +kernel
theorem dX3_letDie_65 : decode cX3_letDie 65 = .ok (.iconst (-1), 1) := by decide +kernel
theorem dX3_letDie_66 : decode cX3_letDie 66 = .ok (.istore 4, 2) := by decide +kernel
theorem dX3_letDie_68 : decode cX3_letDie 68 = .ok (.iconst 0, 1) := by decide +kernel
theorem dX3_letDie_69 : decode cX3_letDie 69 = .ok (.istore 5, 2) := by decide +kernel
theorem dX3_letDie_71 : decode cX3_letDie 71 = .ok (.iload 4, 2) := by decide +kernel
theorem dX3_letDie_73 : decode cX3_letDie 73 = .ok (.iconst (-1), 1) := by decide +kernel
theorem dX3_letDie_74 : decode cX3_letDie 74 = .ok (.if_icmp .eq 16, 3) := by decide +kernel
theorem dX3_letDie_77 : decode cX3_letDie 77 = .ok (.iload_n 3, 1) := by decide +kernel
theorem dX3_letDie_78 : decode cX3_letDie 78 = .ok (.iconst 2, 1) := by decide +kernel
theorem dX3_letDie_79 : decode cX3_letDie 79 = .ok (.idiv, 1) := by decide +kernel
theorem dX3_letDie_80 : decode cX3_letDie 80 = .ok (.istore 5, 2) := by decide +kernel
theorem dX3_letDie_82 : decode cX3_letDie 82 = .ok (.aload_n 0, 1) := by decide +kernel
theorem dX3_letDie_83 : decode cX3_letDie 83 = .ok (.iload 4, 2) := by decide +kernel
theorem dX3_letDie_85 : decode cX3_letDie 85 = .ok (.iload 5, 2) := by decide +kernel
theorem dX3_letDie_87 : decode cX3_letDie 87 = .ok (.invokevirtual 143, 3) := by decide +kernel
theorem dX3_letDie_90 : decode cX3_letDie 90 = .ok (.aload_n 0, 1) := by decide +kernel
theorem dX3_letDie_91 : decode cX3_letDie 91 = .ok (.iload_n 2, 1) := by decide +kernel
theorem dX3_letDie_92 : decode cX3_letDie 92 = .ok (.iload_n 3, 1) := by decide +kernel
theorem dX3_letDie_93 : decode cX3_letDie 93 = .ok (.iload 5, 2) := by decide +kernel
theorem dX3_letDie_95 : decode cX3_letDie 95 = .ok (.isub, 1) := by decide +kernel
theorem dX3_letDie_96 : decode cX3_letDie 96 = .ok (.invokevirtual 143, 3) := by decide +kernel
theorem dX3_letDie_99 : decode cX3_letDie 99 = .ok (.iload_n 2, 1) := by decide +kernel
theorem dX3_letDie_100 : decode cX3_letDie 100 = .ok (.ireturn, 1) := by decide +kernel
theorem dX3_heirWithout_0 : decode cX3_heirWithout 0 = .ok (.aload_n 0, 1) := by decide +kernel
theorem dX3_heirWithout_1 : decode cX3_heirWithout 1 = .ok (.dup, 1) := by decide +kernel
theorem dX3_heirWithout_2 : decode cX3_heirWithout 2 = .ok (.getfield 67, 3) := by decide +kernel
theorem dX3_heirWithout_5 : decode cX3_heirWithout 5 = .ok (.iconst 1, 1) := by decide +kernel
theorem dX3_heirWithout_6 : decode cX3_heirWithout 6 = .ok (.iload_n 2, 1) := by decide +kernel
theorem dX3_heirWithout_7 : decode cX3_heirWithout 7 = .ok (.ishl, 1) := by decide +kernel
theorem dX3_heirWithout_8 : decode cX3_heirWithout 8 = .ok (.iconst (-1), 1) := by decide +kernel
theorem dX3_heirWithout_9 : decode cX3_heirWithout 9 = .ok (.ixor, 1) := by decide +kernel
theorem dX3_heirWithout_10 : decode cX3_heirWithout 10 = .ok (.iand, 1) := by decide +kernel
theorem dX3_heirWithout_11 : decode cX3_heirWithout 11 = .ok (.putfield 67, 3) := by decide +kernel
theorem dX3_heirWithout_14 : decode cX3_heirWithout 14 = .ok (.aload_n 0, 1) := by decide +kernel
theorem dX3_heirWithout_15 : decode cX3_heirWithout 15 = .ok (.iload_n 1, 1) := by decide +kernel
theorem dX3_heirWithout_16 : decode cX3_heirWithout 16 = .ok (.invokevirtual 99, 3) := by decide +kernel
theorem dX3_heirWithout_19 : decode cX3_heirWithout 19 = .ok (.istore_n 3, 1) := by decide +kernel
theorem dX3_heirWithout_20 : decode cX3_heirWithout 20 = .ok (.aload_n 0, 1) := by decide +kernel
theorem dX3_heirWithout_21 : decode cX3_heirWithout 21 = .ok (.dup, 1) := by decide +kernel
theorem dX3_heirWithout_22 : decode cX3_heirWithout 22 = .ok (.getfield 67, 3) := by decide +kernel
theorem dX3_heirWithout_25 : decode cX3_heirWithout 25 = .ok (.iconst 1, 1) := by decide +kernel
theorem dX3_heirWithout_26 : decode cX3_heirWithout 26 = .ok (.iload_n 2, 1) := by decide +kernel
theorem dX3_heirWithout_27 : decode cX3_heirWithout 27 = .ok (.ishl, 1) := by decide +kernel
theorem dX3_heirWithout_28 : decode cX3_heirWithout 28 = .ok (.ior, 1) := by decide +kernel
theorem dX3_heirWithout_29 : decode cX3_heirWithout 29 = .ok (.putfield 67, 3) := by decide +kernel
theorem dX3_heirWithout_32 : decode cX3_heirWithout 32 = .ok (.iload_n 3, 1) := by decide +kernel
theorem dX3_heirWithout_33 : decode cX3_heirWithout 33 = .ok (.ireturn, 1) := by decide +kernel
theorem dX3_give_0 : decode cX3_give 0 = .ok (.aload_n 0, 1) := by decide +kernel
theorem dX3_give_1 : decode cX3_give 1 = .ok (.getfield 30, 3) := by decide +kernel
theorem dX3_give_4 : decode cX3_give 4 = .ok (.iload_n 1, 1) := by decide +kernel
theorem dX3_give_5 : decode cX3_give 5 = .ok (.ldc 146, 2) := by decide +kernel
theorem dX3_give_7 : decode cX3_give 7 = .ok (.aload_n 0, 1) := by decide +kernel
theorem dX3_give_8 : decode cX3_give 8 = .ok (.getfield 30, 3) := by decide +kernel
theorem dX3_give_11 : decode cX3_give 11 = .ok (.iload_n 1, 1) := by decide +kernel
theorem dX3_give_12 : decode cX3_give 12 = .ok (.iaload, 1) := by decide +kernel
theorem dX3_give_13 : decode cX3_give 13 = .ok (.iload_n 2, 1) := by decide +kernel
theorem dX3_give_14 : decode cX3_give 14 = .ok (.iadd, 1) := by decide +kernel
theorem dX3_give_15 : decode cX3_give 15 = .ok (.invokestatic 128, 3) := by decide +kernel
theorem dX3_give_18 : decode cX3_give 18 = .ok (.iastore, 1) := by decide +kernel
theorem dX3_give_19 : decode cX3_give 19 = .ok (.return_, 1) := by decide +kernel
theorem dX4_init_0 : decode cX4_init 0 = .ok (.aload_n 0, 1) := by decide +kernel
theorem dX4_init_1 : decode cX4_init 1 = .ok (.invokespecial 3, 3) := by decide +kernel
theorem dX4_init_4 : decode cX4_init 4 = .ok (.aload_n 0, 1) := by decide +kernel
theorem dX4_init_5 : decode cX4_init 5 = .ok (.new 9, 3) := by decide +kernel
theorem dX4_init_8 : decode cX4_init 8 = .ok (.dup, 1) := by decide +kernel
theorem dX4_init_9 : decode cX4_init 9 = .ok (.invokespecial 11, 3) := by decide +kernel
theorem dX4_init_12 : decode cX4_init 12 = .ok (.putfield 12, 3) := by decide +kernel
theorem dX4_init_15 : decode cX4_init 15 = .ok (.aload_n 0, 1) := by decide +kernel
theorem dX4_init_16 : decode cX4_init 16 = .ok (.new 9, 3) := by decide +kernel
theorem dX4_init_19 : decode cX4_init 19 = .ok (.dup, 1) := by decide +kernel
theorem dX4_init_20 : decode cX4_init 20 = .ok (.invokespecial 11, 3) := by decide +kernel
theorem dX4_init_23 : decode cX4_init 23 = .ok (.putfield 16, 3) := by decide +kernel
theorem dX4_init_26 : decode cX4_init 26 = .ok (.aload_n 0, 1) := by decide +kernel
theorem dX4_init_27 : decode cX4_init 27 = .ok (.new 9, 3) := by decide +kernel
theorem dX4_init_30 : decode cX4_init 30 = .ok (.dup, 1) := by decide +kernel
theorem dX4_init_31 : decode cX4_init 31 = .ok (.invokespecial 11, 3) := by decide +kernel
theorem dX4_init_34 : decode cX4_init 34 = .ok (.putfield 19, 3) := by decide +kernel
theorem dX4_init_37 : decode cX4_init 37 = .ok (.aload_n 0, 1) := by decide +kernel
theorem dX4_init_38 : decode cX4_init 38 = .ok (.new 22, 3) := by decide +kernel
theorem dX4_init_41 : decode cX4_init 41 = .ok (.dup, 1) := by decide +kernel
theorem dX4_init_42 : decode cX4_init 42 = .ok (.invokespecial 24, 3) := by decide +kernel
theorem dX4_init_45 : decode cX4_init 45 = .ok (.putfield 25, 3) := by decide +kernel
theorem dX4_init_48 : decode cX4_init 48 = .ok (.aload_n 0, 1) := by decide +kernel
theorem dX4_init_49 : decode cX4_init 49 = .ok (.iconst 4, 1) := by decide +kernel
theorem dX4_init_50 : decode cX4_init 50 = .ok (.anewarray 29, 3) := by decide +kernel
theorem dX4_init_53 : decode cX4_init 53 = .ok (.putfield 31, 3) := by decide +kernel
theorem dX4_init_56 : decode cX4_init 56 = .ok (.aload_n 0, 1) := by decide +kernel
theorem dX4_init_57 : decode cX4_init 57 = .ok (.bipush 7, 2) := by decide +kernel
theorem dX4_init_59 : decode cX4_init 59 = .ok (.newarray .int, 2) := by decide +kernel
theorem dX4_init_61 : decode cX4_init 61 = .ok (.putfield 35, 3) := by decide +kernel
theorem dX4_init_64 : decode cX4_init 64 = .ok (.iconst 0, 1) := by decide +kernel
theorem dX4_init_65 : decode cX4_init 65 = .ok (.istore_n 1, 1) := by decide +kernel
theorem dX4_init_66 : decode cX4_init 66 = .ok (.iload_n 1, 1) := by decide +kernel
theorem dX4_init_67 : decode cX4_init 67 = .ok (.iconst 4, 1) := by decide +kernel
theorem dX4_init_68 : decode cX4_init 68 = .ok (.if_icmp .ge 22, 3) := by decide +kernel
theorem dX4_init_71 : decode cX4_init 71 = .ok (.aload_n 0, 1) := by decide +kernel
theorem dX4_init_72 : decode cX4_init 72 = .ok (.getfield 31, 3) := by decide +kernel
theorem dX4_init_75 : decode cX4_init 75 = .ok (.iload_n 1, 1) := by decide +kernel
theorem dX4_init_76 : decode cX4_init 76 = .ok (.new 29, 3) := by decide +kernel
theorem dX4_init_79 : decode cX4_init 79 = .ok (.dup, 1) := by decide +kernel
theorem dX4_init_80 : decode cX4_init 80 = .ok (.invokespecial 39, 3) := by decide +kernel
theorem dX4_init_83 : decode cX4_init 83 = .ok (.aastore, 1) := by decide +kernel
theorem dX4_init_84 : decode cX4_init 84 = .ok (.iinc 1 1, 3) := by decide +kernel
theorem dX4_init_87 : decode cX4_init 87 = .ok (.goto (-21), 3) := by decide +kernel
theorem dX4_init_90 : decode cX4_init 90 = .ok (.return_, 1) := by decide +kernel
theorem dX4_mark_0 : decode cX4_mark 0 = .ok (.iload_n 1, 1) := by decide +kernel
theorem dX4_mark_1 : decode cX4_mark 1 = .ok (.iconst 0, 1) := by decide +kernel
theorem dX4_mark_2 : decode cX4_mark 2 = .ok (.bipush 8, 2) := by decide +kernel
theorem dX4_mark_4 : decode cX4_mark 4 = .ok (.invokestatic 40, 3) := by decide +kernel
theorem dX4_mark_7 : decode cX4_mark 7 = .ok (.ifCond .ne 10, 3) := by decide +kernel
theorem dX4_mark_10 : decode cX4_mark 10 = .ok (.aload_n 0, 1) := by decide +kernel
theorem dX4_mark_11 : decode cX4_mark 11 = .ok (.ldc 44, 2) := by decide +kernel
theorem dX4_mark_13 : decode cX4_mark 13 = .ok (.invokevirtual 45, 3) := by decide +kernel
theorem dX4_mark_16 : decode cX4_mark 16 = .ok (.ireturn, 1) := by decide +kernel
theorem dX4_mark_17 : decode cX4_mark 17 = .ok (.iload_n 2, 1) := by decide +kernel
theorem dX4_mark_18 : decode cX4_mark 18 = .ok (.ifCond .ne 23, 3) := by decide +kernel
theorem dX4_mark_21 : decode cX4_mark 21 = .ok (.iload_n 3, 1) := by decide +kernel
theorem dX4_mark_22 : decode cX4_mark 22 = .ok (.iconst 0, 1) := by decide +kernel
theorem dX4_mark_23 : decode cX4_mark 23 = .ok (.bipush 9, 2) := by decide +kernel
theorem dX4_mark_25 : decode cX4_mark 25 = .ok (.invokestatic 40, 3) := by decide +kernel
theorem dX4_mark_28 : decode cX4_mark 28 = .ok (.ifCond .eq 13, 3) := by decide +kernel
theorem dX4_mark_31 : decode cX4_mark 31 = .ok (.aload_n 0, 1) := by decide +kernel
theorem dX4_mark_32 : decode cX4_mark 32 = .ok (.getfield 12, 3) := by decide +kernel
theorem dX4_mark_35 : decode cX4_mark 35 = .ok (.iload_n 1, 1) := by decide +kernel
theorem dX4_mark_36 : decode cX4_mark 36 = .ok (.iload_n 3, 1) := by decide +kernel
theorem dX4_mark_37 : decode cX4_mark 37 = .ok (.invokevirtual 49, 3) := by decide +kernel
theorem dX4_mark_40 : decode cX4_mark 40 = .ok (.ireturn, 1) := by decide +kernel
theorem dX4_mark_41 : decode cX4_mark 41 = .ok (.iload_n 2, 1) := by decide +kernel
theorem dX4_mark_42 : decode cX4_mark 42 = .ok (.iconst 1, 1) := by decide +kernel
theorem dX4_mark_43 : decode cX4_mark 43 = .ok (.if_icmp .ne 26, 3) := by decide +kernel
theorem dX4_mark_46 : decode cX4_mark 46 = .ok (.iload_n 3, 1) := by decide +kernel
theorem dX4_mark_47 : decode cX4_mark 47 = .ok (.iconst 0, 1) := by decide +kernel
theorem dX4_mark_48 : decode cX4_mark 48 = .ok (.bipush 99, 2) := by decide +kernel
theorem dX4_mark_50 : decode cX4_mark 50 = .ok (.invokestatic 40, 3) := by decide +kernel
theorem dX4_mark_53 : decode cX4_mark 53 = .ok (.ifCond .eq 16, 3) := by decide +kernel
theorem dX4_mark_56 : decode cX4_mark 56 = .ok (.aload_n 0, 1) := by decide +kernel
theorem dX4_mark_57 : decode cX4_mark 57 = .ok (.getfield 12, 3) := by decide +kernel
theorem dX4_mark_60 : decode cX4_mark 60 = .ok (.getfield 53, 3) := by decide +kernel
theorem dX4_mark_63 : decode cX4_mark 63 = .ok (.iload_n 1, 1) := by decide +kernel
theorem dX4_mark_64 : decode cX4_mark 64 = .ok (.iload_n 3, 1) := by decide +kernel
theorem dX4_mark_65 : decode cX4_mark 65 = .ok (.invokestatic 56, 3) := by decide +kernel
theorem dX4_mark_68 : decode cX4_mark 68 = .ok (.ireturn, 1) := by decide +kernel
theorem dX4_mark_69 : decode cX4_mark 69 = .ok (.aload_n 0, 1) := by decide +kernel
theorem dX4_mark_70 : decode cX4_mark 70 = .ok (.ldc 44, 2) := by decide +kernel
theorem dX4_mark_72 : decode cX4_mark 72 = .ok (.invokevirtual 45, 3) := by decide +kernel
theorem dX4_mark_75 : decode cX4_mark 75 = .ok (.ireturn, 1) := by decide +kernel
theorem dX4_let_0 : decode cX4_let 0 = .ok (.iload_n 1, 1) := by decide +kernel
theorem dX4_let_1 : decode cX4_let 1 = .ok (.iconst 0, 1) := by decide +kernel
theorem dX4_let_2 : decode cX4_let 2 = .ok (.iconst 2, 1) := by decide +kernel
theorem dX4_let_3 : decode cX4_let 3 = .ok (.invokestatic 40, 3) := by decide +kernel
theorem dX4_let_6 : decode cX4_let 6 = .ok (.ifCond .ne 10, 3) := by decide +kernel
theorem dX4_let_9 : decode cX4_let 9 = .ok (.aload_n 0, 1) := by decide +kernel
theorem dX4_let_10 : decode cX4_let 10 = .ok (.ldc 44, 2) := by decide +kernel
theorem dX4_let_12 : decode cX4_let 12 = .ok (.invokevirtual 45, 3) := by decide +kernel
theorem dX4_let_15 : decode cX4_let 15 = .ok (.ireturn, 1) := by decide +kernel
theorem dX4_let_16 : decode cX4_let 16 = .ok (.aload_n 0, 1) := by decide +kernel
theorem dX4_let_17 : decode cX4_let 17 = .ok (.getfield 12, 3) := by decide +kernel
theorem dX4_let_20 : decode cX4_let 20 = .ok (.getfield 60, 3) := by decide +kernel
theorem dX4_let_23 : decode cX4_let 23 = .ok (.istore_n 2, 1) := by decide +kernel
theorem dX4_let_24 : decode cX4_let 24 = .ok (.aload_n 0, 1) := by decide +kernel
theorem dX4_let_25 : decode cX4_let 25 = .ok (.getfield 12, 3) := by decide +kernel
theorem dX4_let_28 : decode cX4_let 28 = .ok (.iload_n 1, 1) := by decide +kernel
theorem dX4_let_29 : decode cX4_let 29 = .ok (.putfield 60, 3) := by decide +kernel
theorem dX4_let_32 : decode cX4_let 32 = .ok (.iload_n 2, 1) := by decide +kernel
theorem dX4_let_33 : decode cX4_let 33 = .ok (.ireturn, 1) := by decide +kernel
theorem dX4_person_0 : decode cX4_person 0 = .ok (.iload_n 1, 1) := by decide +kernel
theorem dX4_person_1 : decode cX4_person 1 = .ok (.invokestatic 64, 3) := by decide +kernel
theorem dX4_person_4 : decode cX4_person 4 = .ok (.ifCond .eq 13, 3) := by decide +kernel
theorem dX4_person_7 : decode cX4_person 7 = .ok (.iload_n 2, 1) := by decide +kernel
theorem dX4_person_8 : decode cX4_person 8 = .ok (.iconst 0, 1) := by decide +kernel
theorem dX4_person_9 : decode cX4_person 9 = .ok (.bipush 120, 2) := by decide +kernel
theorem dX4_person_11 : decode cX4_person 11 = .ok (.invokestatic 40, 3) := by decide +kernel
theorem dX4_person_14 : decode cX4_person 14 = .ok (.ifCond .ne 10, 3) := by decide +kernel
theorem dX4_person_17 : decode cX4_person 17 = .ok (.aload_n 0, 1) := by decide +kernel
theorem dX4_person_18 : decode cX4_person 18 = .ok (.ldc 44, 2) := by decide +kernel
theorem dX4_person_20 : decode cX4_person 20 = .ok (.invokevirtual 45, 3) := by decide +kernel
theorem dX4_person_23 : decode cX4_person 23 = .ok (.ireturn, 1) := by decide +kernel
theorem dX4_person_24 : decode cX4_person 24 = .ok (.aload_n 0, 1) := by decide +kernel
theorem dX4_person_25 : decode cX4_person 25 = .ok (.getfield 12, 3) := by decide +kernel
theorem dX4_person_28 : decode cX4_person 28 = .ok (.iload_n 1, 1) := by decide +kernel
theorem dX4_person_29 : decode cX4_person 29 = .ok (.iload_n 2, 1) := by decide +kernel
theorem dX4_person_30 : decode cX4_person 30 = .ok (.invokevirtual 68, 3) := by decide +kernel
theorem dX4_person_33 : decode cX4_person 33 = .ok (.istore_n 3, 1) := by decide +kernel
theorem dX4_person_34 : decode cX4_person 34 = .ok (.iload_n 3, 1) := by decide +kernel
theorem dX4_person_35 : decode cX4_person 35 = .ok (.iconst (-1), 1) := by decide +kernel
theorem dX4_person_36 : decode cX4_person 36 = .ok (.if_icmp .ne 12, 3) := by decide +kernel
theorem dX4_person_39 : decode cX4_person 39 = .ok (.aload_n 0, 1) := by decide +kernel
theorem dX4_person_40 : decode cX4_person 40 = .ok (.ldc 71, 2) := by decide +kernel
theorem dX4_person_42 : decode cX4_person 42 = .ok (.invokevirtual 45, 3) := by decide +kernel
theorem dX4_person_45 : decode cX4_person 45 = .ok (.goto 4, 3) := by decide +kernel
theorem dX4_person_48 : decode cX4_person 48 = .ok (.iload_n 3, 1) := by decide +kernel
theorem dX4_person_49 : decode cX4_person 49 = .ok (.ireturn, 1) := by decide +kernel
theorem dX4_of_0 : decode cX4_of 0 = .ok (.aload_n 0, 1) := by decide +kernel
theorem dX4_of_1 : decode cX4_of 1 = .ok (.iload_n 1, 1) := by decide +kernel
theorem dX4_of_2 : decode cX4_of 2 = .ok (.invokevirtual 72, 3) := by decide +kernel
theorem dX4_of_5 : decode cX4_of 5 = .ok (.ifCond .ne 10, 3) := by decide +kernel
theorem dX4_of_8 : decode cX4_of 8 = .ok (.aload_n 0, 1) := by decide +kernel
theorem dX4_of_9 : decode cX4_of 9 = .ok (.ldc 44, 2) := by decide +kernel
theorem dX4_of_11 : decode cX4_of 11 = .ok (.invokevirtual 45, 3) := by decide +kernel
theorem dX4_of_14 : decode cX4_of 14 = .ok (.ireturn, 1) := by decide +kernel
theorem dX4_of_15 : decode cX4_of 15 = .ok (.iload_n 2, 1) := by decide +kernel
theorem dX4_of_16 : decode cX4_of 16 = .ok (.tableswitch 120 0 6 #[44, 54, 64, 74, 84, 94, 111], 44) := by decide +kernel
theorem dX4_of_60 : decode cX4_of 60 = .ok (.aload_n 0, 1) := by decide +kernel
theorem dX4_of_61 : decode cX4_of 61 = .ok (.getfield 12, 3) := by decide +kernel
theorem dX4_of_64 : decode cX4_of 64 = .ok (.getfield 75, 3) := by decide +kernel
theorem dX4_of_67 : decode cX4_of 67 = .ok (.iload_n 1, 1) := by decide +kernel
theorem dX4_of_68 : decode cX4_of 68 = .ok (.iaload, 1) := by decide +kernel
theorem dX4_of_69 : decode cX4_of 69 = .ok (.ireturn, 1) := by decide +kernel
theorem dX4_of_70 : decode cX4_of 70 = .ok (.aload_n 0, 1) := by decide +kernel
theorem dX4_of_71 : decode cX4_of 71 = .ok (.getfield 12, 3) := by decide +kernel
theorem dX4_of_74 : decode cX4_of 74 = .ok (.getfield 78, 3) := by decide +kernel
theorem dX4_of_77 : decode cX4_of 77 = .ok (.iload_n 1, 1) := by decide +kernel
theorem dX4_of_78 : decode cX4_of 78 = .ok (.iaload, 1) := by decide +kernel
theorem dX4_of_79 : decode cX4_of 79 = .ok (.ireturn, 1) := by decide +kernel
theorem dX4_of_80 : decode cX4_of 80 = .ok (.aload_n 0, 1) := by decide +kernel
