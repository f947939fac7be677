theorem dX7_makeFromMemory_57 : decode cX7_makeFromMemory 57 = .ok (.bipush 15, 2) := by decide +kernel
theorem dX7_makeFromMemory_59 : decode cX7_makeFromMemory 59 = .ok (.iand, 1) := by decide +kernel
theorem dX7_makeFromMemory_60 : decode cX7_makeFromMemory 60 = .ok (.iaload, 1) := by decide +kernel
theorem dX7_makeFromMemory_61 : decode cX7_makeFromMemory 61 = .ok (.iload 5, 2) := by decide +kernel
theorem dX7_makeFromMemory_63 : decode cX7_makeFromMemory 63 = .ok (.iconst 4, 1) := by decide +kernel
theorem dX7_makeFromMemory_64 : decode cX7_makeFromMemory 64 = .ok (.iushr, 1) := by decide +kernel
theorem dX7_makeFromMemory_65 : decode cX7_makeFromMemory 65 = .ok (.bipush 8, 2) := by decide +kernel
theorem dX7_makeFromMemory_67 : decode cX7_makeFromMemory 67 = .ok (.ishl, 1) := by decide +kernel
theorem dX7_makeFromMemory_68 : decode cX7_makeFromMemory 68 = .ok (.ixor, 1) := by decide +kernel
theorem dX7_makeFromMemory_69 : decode cX7_makeFromMemory 69 = .ok (.iastore, 1) := by decide +kernel
theorem dX7_makeFromMemory_70 : decode cX7_makeFromMemory 70 = .ok (.iload_n 3, 1) := by decide +kernel
theorem dX7_makeFromMemory_71 : decode cX7_makeFromMemory 71 = .ok (.iload_n 1, 1) := by decide +kernel
theorem dX7_makeFromMemory_72 : decode cX7_makeFromMemory 72 = .ok (.iadd, 1) := by decide +kernel
theorem dX7_makeFromMemory_73 : decode cX7_makeFromMemory 73 = .ok (.istore_n 3, 1) := by decide +kernel
theorem dX7_makeFromMemory_74 : decode cX7_makeFromMemory 74 = .ok (.iload_n 3, 1) := by decide +kernel
theorem dX7_makeFromMemory_75 : decode cX7_makeFromMemory 75 = .ok (.bipush 8, 2) := by decide +kernel
theorem dX7_makeFromMemory_77 : decode cX7_makeFromMemory 77 = .ok (.if_icmp .ne 11, 3) := by decide +kernel
theorem dX7_makeFromMemory_80 : decode cX7_makeFromMemory 80 = .ok (.iconst 0, 1) := by decide +kernel
theorem dX7_makeFromMemory_81 : decode cX7_makeFromMemory 81 = .ok (.istore_n 3, 1) := by decide +kernel
theorem dX7_makeFromMemory_82 : decode cX7_makeFromMemory 82 = .ok (.aload_n 0, 1) := by decide +kernel
theorem dX7_makeFromMemory_83 : decode cX7_makeFromMemory 83 = .ok (.iload_n 2, 1) := by decide +kernel
theorem dX7_makeFromMemory_84 : decode cX7_makeFromMemory 84 = .ok (.invokevirtual 70, 3) := by decide +kernel
theorem dX7_makeFromMemory_87 : decode cX7_makeFromMemory 87 = .ok (.istore_n 2, 1) := by decide +kernel
theorem dX7_makeFromMemory_88 : decode cX7_makeFromMemory 88 = .ok (.iinc 4 1, 3) := by decide +kernel
theorem dX7_makeFromMemory_91 : decode cX7_makeFromMemory 91 = .ok (.goto (-69), 3) := by decide +kernel
theorem dX7_makeFromMemory_94 : decode cX7_makeFromMemory 94 = .ok (.return_, 1) := by decide +kernel
theorem dX7_byteAt_0 : decode cX7_byteAt 0 = .ok (.aload_n 0, 1) := by decide +kernel
theorem dX7_byteAt_1 : decode cX7_byteAt 1 = .ok (.getfield 18, 3) := by decide +kernel
theorem dX7_byteAt_4 : decode cX7_byteAt 4 = .ok (.iload_n 1, 1) := by decide +kernel
theorem dX7_byteAt_5 : decode cX7_byteAt 5 = .ok (.iconst 2, 1) := by decide +kernel
theorem dX7_byteAt_6 : decode cX7_byteAt 6 = .ok (.iushr, 1) := by decide +kernel
theorem dX7_byteAt_7 : decode cX7_byteAt 7 = .ok (.sipush 16383, 3) := by decide +kernel
theorem dX7_byteAt_10 : decode cX7_byteAt 10 = .ok (.iand, 1) := by decide +kernel
theorem dX7_byteAt_11 : decode cX7_byteAt 11 = .ok (.iaload, 1) := by decide +kernel
theorem dX7_byteAt_12 : decode cX7_byteAt 12 = .ok (.iload_n 1, 1) := by decide +kernel
theorem dX7_byteAt_13 : decode cX7_byteAt 13 = .ok (.iconst 3, 1) := by decide +kernel
theorem dX7_byteAt_14 : decode cX7_byteAt 14 = .ok (.iand, 1) := by decide +kernel
theorem dX7_byteAt_15 : decode cX7_byteAt 15 = .ok (.iconst 3, 1) := by decide +kernel
theorem dX7_byteAt_16 : decode cX7_byteAt 16 = .ok (.ishl, 1) := by decide +kernel
theorem dX7_byteAt_17 : decode cX7_byteAt 17 = .ok (.iushr, 1) := by decide +kernel
theorem dX7_byteAt_18 : decode cX7_byteAt 18 = .ok (.sipush 255, 3) := by decide +kernel
theorem dX7_byteAt_21 : decode cX7_byteAt 21 = .ok (.iand, 1) := by decide +kernel
theorem dX7_byteAt_22 : decode cX7_byteAt 22 = .ok (.ireturn, 1) := by decide +kernel
theorem dX7_behind_0 : decode cX7_behind 0 = .ok (.aload_n 0, 1) := by decide +kernel
theorem dX7_behind_1 : decode cX7_behind 1 = .ok (.getfield 44, 3) := by decide +kernel
theorem dX7_behind_4 : decode cX7_behind 4 = .ok (.iconst 4, 1) := by decide +kernel
theorem dX7_behind_5 : decode cX7_behind 5 = .ok (.ishl, 1) := by decide +kernel
theorem dX7_behind_6 : decode cX7_behind 6 = .ok (.bipush 15, 2) := by decide +kernel
theorem dX7_behind_8 : decode cX7_behind 8 = .ok (.iadd, 1) := by decide +kernel
theorem dX7_behind_9 : decode cX7_behind 9 = .ok (.ldc 65, 2) := by decide +kernel
theorem dX7_behind_11 : decode cX7_behind 11 = .ok (.iand, 1) := by decide +kernel
theorem dX7_behind_12 : decode cX7_behind 12 = .ok (.istore_n 2, 1) := by decide +kernel
theorem dX7_behind_13 : decode cX7_behind 13 = .ok (.iload_n 1, 1) := by decide +kernel
theorem dX7_behind_14 : decode cX7_behind 14 = .ok (.iload_n 2, 1) := by decide +kernel
theorem dX7_behind_15 : decode cX7_behind 15 = .ok (.if_icmp .ne 12, 3) := by decide +kernel
theorem dX7_behind_18 : decode cX7_behind 18 = .ok (.aload_n 0, 1) := by decide +kernel
theorem dX7_behind_19 : decode cX7_behind 19 = .ok (.getfield 41, 3) := by decide +kernel
theorem dX7_behind_22 : decode cX7_behind 22 = .ok (.iconst 4, 1) := by decide +kernel
theorem dX7_behind_23 : decode cX7_behind 23 = .ok (.ishl, 1) := by decide +kernel
theorem dX7_behind_24 : decode cX7_behind 24 = .ok (.goto 6, 3) := by decide +kernel
theorem dX7_behind_27 : decode cX7_behind 27 = .ok (.iload_n 1, 1) := by decide +kernel
theorem dX7_behind_28 : decode cX7_behind 28 = .ok (.iconst 1, 1) := by decide +kernel
theorem dX7_behind_29 : decode cX7_behind 29 = .ok (.iadd, 1) := by decide +kernel
theorem dX7_behind_30 : decode cX7_behind 30 = .ok (.ldc 65, 2) := by decide +kernel
theorem dX7_behind_32 : decode cX7_behind 32 = .ok (.iand, 1) := by decide +kernel
theorem dX7_behind_33 : decode cX7_behind 33 = .ok (.ireturn, 1) := by decide +kernel
theorem dX8_init_0 : decode cX8_init 0 = .ok (.aload_n 0, 1) := by decide +kernel
theorem dX8_init_1 : decode cX8_init 1 = .ok (.invokespecial 3, 3) := by decide +kernel
theorem dX8_init_4 : decode cX8_init 4 = .ok (.aload_n 0, 1) := by decide +kernel
theorem dX8_init_5 : decode cX8_init 5 = .ok (.sipush 4096, 3) := by decide +kernel
theorem dX8_init_8 : decode cX8_init 8 = .ok (.newarray .byte, 2) := by decide +kernel
theorem dX8_init_10 : decode cX8_init 10 = .ok (.putfield 11, 3) := by decide +kernel
theorem dX8_init_13 : decode cX8_init 13 = .ok (.aload_n 0, 1) := by decide +kernel
theorem dX8_init_14 : decode cX8_init 14 = .ok (.aload_n 1, 1) := by decide +kernel
theorem dX8_init_15 : decode cX8_init 15 = .ok (.putfield 15, 3) := by decide +kernel
theorem dX8_init_18 : decode cX8_init 18 = .ok (.return_, 1) := by decide +kernel
theorem dX8_begin_0 : decode cX8_begin 0 = .ok (.aload_n 0, 1) := by decide +kernel
theorem dX8_begin_1 : decode cX8_begin 1 = .ok (.iconst 0, 1) := by decide +kernel
theorem dX8_begin_2 : decode cX8_begin 2 = .ok (.putfield 19, 3) := by decide +kernel
theorem dX8_begin_5 : decode cX8_begin 5 = .ok (.aload_n 0, 1) := by decide +kernel
theorem dX8_begin_6 : decode cX8_begin 6 = .ok (.iconst 0, 1) := by decide +kernel
theorem dX8_begin_7 : decode cX8_begin 7 = .ok (.putfield 23, 3) := by decide +kernel
theorem dX8_begin_10 : decode cX8_begin 10 = .ok (.return_, 1) := by decide +kernel
theorem dX8_receive_0 : decode cX8_receive 0 = .ok (.aload_n 0, 1) := by decide +kernel
theorem dX8_receive_1 : decode cX8_receive 1 = .ok (.getfield 15, 3) := by decide +kernel
theorem dX8_receive_4 : decode cX8_receive 4 = .ok (.getfield 26, 3) := by decide +kernel
theorem dX8_receive_7 : decode cX8_receive 7 = .ok (.sipush 128, 3) := by decide +kernel
theorem dX8_receive_10 : decode cX8_receive 10 = .ok (.iand, 1) := by decide +kernel
theorem dX8_receive_11 : decode cX8_receive 11 = .ok (.ifCond .eq 5, 3) := by decide +kernel
theorem dX8_receive_14 : decode cX8_receive 14 = .ok (.iconst 0, 1) := by decide +kernel
theorem dX8_receive_15 : decode cX8_receive 15 = .ok (.ireturn, 1) := by decide +kernel
theorem dX8_receive_16 : decode cX8_receive 16 = .ok (.aload_n 0, 1) := by decide +kernel
theorem dX8_receive_17 : decode cX8_receive 17 = .ok (.iload_n 1, 1) := by decide +kernel
theorem dX8_receive_18 : decode cX8_receive 18 = .ok (.sipush 255, 3) := by decide +kernel
theorem dX8_receive_21 : decode cX8_receive 21 = .ok (.iand, 1) := by decide +kernel
theorem dX8_receive_22 : decode cX8_receive 22 = .ok (.putfield 19, 3) := by decide +kernel
theorem dX8_receive_25 : decode cX8_receive 25 = .ok (.aload_n 0, 1) := by decide +kernel
theorem dX8_receive_26 : decode cX8_receive 26 = .ok (.getfield 15, 3) := by decide +kernel
theorem dX8_receive_29 : decode cX8_receive 29 = .ok (.dup, 1) := by decide +kernel
theorem dX8_receive_30 : decode cX8_receive 30 = .ok (.getfield 26, 3) := by decide +kernel
theorem dX8_receive_33 : decode cX8_receive 33 = .ok (.sipush 128, 3) := by decide +kernel
theorem dX8_receive_36 : decode cX8_receive 36 = .ok (.ior, 1) := by decide +kernel
theorem dX8_receive_37 : decode cX8_receive 37 = .ok (.putfield 26, 3) := by decide +kernel
theorem dX8_receive_40 : decode cX8_receive 40 = .ok (.iconst 1, 1) := by decide +kernel
theorem dX8_receive_41 : decode cX8_receive 41 = .ok (.ireturn, 1) := by decide +kernel
theorem dX8_isRead_0 : decode cX8_isRead 0 = .ok (.aload_n 0, 1) := by decide +kernel
theorem dX8_isRead_1 : decode cX8_isRead 1 = .ok (.getfield 15, 3) := by decide +kernel
theorem dX8_isRead_4 : decode cX8_isRead 4 = .ok (.dup, 1) := by decide +kernel
theorem dX8_isRead_5 : decode cX8_isRead 5 = .ok (.getfield 26, 3) := by decide +kernel
theorem dX8_isRead_8 : decode cX8_isRead 8 = .ok (.sipush (-129), 3) := by decide +kernel
theorem dX8_isRead_11 : decode cX8_isRead 11 = .ok (.iand, 1) := by decide +kernel
theorem dX8_isRead_12 : decode cX8_isRead 12 = .ok (.putfield 26, 3) := by decide +kernel
theorem dX8_isRead_15 : decode cX8_isRead 15 = .ok (.return_, 1) := by decide +kernel
theorem dX8_send_0 : decode cX8_send 0 = .ok (.aload_n 0, 1) := by decide +kernel
theorem dX8_send_1 : decode cX8_send 1 = .ok (.getfield 11, 3) := by decide +kernel
theorem dX8_send_4 : decode cX8_send 4 = .ok (.aload_n 0, 1) := by decide +kernel
theorem dX8_send_5 : decode cX8_send 5 = .ok (.getfield 31, 3) := by decide +kernel
theorem dX8_send_8 : decode cX8_send 8 = .ok (.l2i, 1) := by decide +kernel
theorem dX8_send_9 : decode cX8_send 9 = .ok (.sipush 4095, 3) := by decide +kernel
theorem dX8_send_12 : decode cX8_send 12 = .ok (.iand, 1) := by decide +kernel
theorem dX8_send_13 : decode cX8_send 13 = .ok (.iload_n 1, 1) := by decide +kernel
theorem dX8_send_14 : decode cX8_send 14 = .ok (.i2b, 1) := by decide +kernel
theorem dX8_send_15 : decode cX8_send 15 = .ok (.bastore, 1) := by decide +kernel
theorem dX8_send_16 : decode cX8_send 16 = .ok (.aload_n 0, 1) := by decide +kernel
theorem dX8_send_17 : decode cX8_send 17 = .ok (.dup, 1) := by decide +kernel
theorem dX8_send_18 : decode cX8_send 18 = .ok (.getfield 31, 3) := by decide +kernel
theorem dX8_send_21 : decode cX8_send 21 = .ok (.lconst 1, 1) := by decide +kernel
theorem dX8_send_22 : decode cX8_send 22 = .ok (.ladd, 1) := by decide +kernel
theorem dX8_send_23 : decode cX8_send 23 = .ok (.putfield 31, 3) := by decide +kernel
theorem dX8_send_26 : decode cX8_send 26 = .ok (.aload_n 0, 1) := by decide +kernel
theorem dX8_send_27 : decode cX8_send 27 = .ok (.sipush 256, 3) := by decide +kernel
theorem dX8_send_30 : decode cX8_send 30 = .ok (.putfield 23, 3) := by decide +kernel
theorem dX8_send_33 : decode cX8_send 33 = .ok (.aload_n 0, 1) := by decide +kernel
theorem dX8_send_34 : decode cX8_send 34 = .ok (.getfield 15, 3) := by decide +kernel
theorem dX8_send_37 : decode cX8_send 37 = .ok (.dup, 1) := by decide +kernel
theorem dX8_send_38 : decode cX8_send 38 = .ok (.getfield 26, 3) := by decide +kernel
theorem dX8_send_41 : decode cX8_send 41 = .ok (.bipush (-65), 2) := by decide +kernel
theorem dX8_send_43 : decode cX8_send 43 = .ok (.iand, 1) := by decide +kernel
theorem dX8_send_44 : decode cX8_send 44 = .ok (.putfield 26, 3) := by decide +kernel
theorem dX8_send_47 : decode cX8_send 47 = .ok (.return_, 1) := by decide +kernel
theorem dX8_keptByte_0 : decode cX8_keptByte 0 = .ok (.lconst 0, 1) := by decide +kernel
theorem dX8_keptByte_1 : decode cX8_keptByte 1 = .ok (.aload_n 0, 1) := by decide +kernel
theorem dX8_keptByte_2 : decode cX8_keptByte 2 = .ok (.getfield 31, 3) := by decide +kernel
theorem dX8_keptByte_5 : decode cX8_keptByte 5 = .ok (.ldc2_w 35, 3) := by decide +kernel
theorem dX8_keptByte_8 : decode cX8_keptByte 8 = .ok (.lsub, 1) := by decide +kernel
theorem dX8_keptByte_9 : decode cX8_keptByte 9 = .ok (.invokestatic 37, 3) := by decide +kernel
theorem dX8_keptByte_12 : decode cX8_keptByte 12 = .ok (.lstore_n 2, 1) := by decide +kernel
theorem dX8_keptByte_13 : decode cX8_keptByte 13 = .ok (.iload_n 1, 1) := by decide +kernel
theorem dX8_keptByte_14 : decode cX8_keptByte 14 = .ok (.ifCond .lt 15, 3) := by decide +kernel
theorem dX8_keptByte_17 : decode cX8_keptByte 17 = .ok (.iload_n 1, 1) := by decide +kernel
theorem dX8_keptByte_18 : decode cX8_keptByte 18 = .ok (.i2l, 1) := by decide +kernel
theorem dX8_keptByte_19 : decode cX8_keptByte 19 = .ok (.aload_n 0, 1) := by decide +kernel
theorem dX8_keptByte_20 : decode cX8_keptByte 20 = .ok (.getfield 31, 3) := by decide +kernel
theorem dX8_keptByte_23 : decode cX8_keptByte 23 = .ok (.lload_n 2, 1) := by decide +kernel
theorem dX8_keptByte_24 : decode cX8_keptByte 24 = .ok (.lsub, 1) := by decide +kernel
theorem dX8_keptByte_25 : decode cX8_keptByte 25 = .ok (.lcmp, 1) := by decide +kernel
theorem dX8_keptByte_26 : decode cX8_keptByte 26 = .ok (.ifCond .lt 5, 3) := by decide +kernel
theorem dX8_keptByte_29 : decode cX8_keptByte 29 = .ok (.iconst (-1), 1) := by decide +kernel
theorem dX8_keptByte_30 : decode cX8_keptByte 30 = .ok (.ireturn, 1) := by decide +kernel
theorem dX8_keptByte_31 : decode cX8_keptByte 31 = .ok (.aload_n 0, 1) := by decide +kernel
theorem dX8_keptByte_32 : decode cX8_keptByte 32 = .ok (.getfield 11, 3) := by decide +kernel
theorem dX8_keptByte_35 : decode cX8_keptByte 35 = .ok (.lload_n 2, 1) := by decide +kernel
theorem dX8_keptByte_36 : decode cX8_keptByte 36 = .ok (.iload_n 1, 1) := by decide +kernel
theorem dX8_keptByte_37 : decode cX8_keptByte 37 = .ok (.i2l, 1) := by decide +kernel
theorem dX8_keptByte_38 : decode cX8_keptByte 38 = .ok (.ladd, 1) := by decide +kernel
theorem dX8_keptByte_39 : decode cX8_keptByte 39 = .ok (.l2i, 1) := by decide +kernel
theorem dX8_keptByte_40 : decode cX8_keptByte 40 = .ok (.sipush 4095, 3) := by decide +kernel
theorem dX8_keptByte_43 : decode cX8_keptByte 43 = .ok (.iand, 1) := by decide +kernel
theorem dX8_keptByte_44 : decode cX8_keptByte 44 = .ok (.baload, 1) := by decide +kernel
theorem dX8_keptByte_45 : decode cX8_keptByte 45 = .ok (.sipush 255, 3) := by decide +kernel
theorem dX8_keptByte_48 : decode cX8_keptByte 48 = .ok (.iand, 1) := by decide +kernel
theorem dX8_keptByte_49 : decode cX8_keptByte 49 = .ok (.ireturn, 1) := by decide +kernel
theorem dX8_goOn_0 : decode cX8_goOn 0 = .ok (.aload_n 0, 1) := by decide +kernel
theorem dX8_goOn_1 : decode cX8_goOn 1 = .ok (.getfield 23, 3) := by decide +kernel
theorem dX8_goOn_4 : decode cX8_goOn 4 = .ok (.iload_n 1, 1) := by decide +kernel
theorem dX8_goOn_5 : decode cX8_goOn 5 = .ok (.if_icmp .le 16, 3) := by decide +kernel
theorem dX8_goOn_8 : decode cX8_goOn 8 = .ok (.aload_n 0, 1) := by decide +kernel
theorem dX8_goOn_9 : decode cX8_goOn 9 = .ok (.dup, 1) := by decide +kernel
theorem dX8_goOn_10 : decode cX8_goOn 10 = .ok (.getfield 23, 3) := by decide +kernel
theorem dX8_goOn_13 : decode cX8_goOn 13 = .ok (.iload_n 1, 1) := by decide +kernel
theorem dX8_goOn_14 : decode cX8_goOn 14 = .ok (.isub, 1) := by decide +kernel
theorem dX8_goOn_15 : decode cX8_goOn 15 = .ok (.putfield 23, 3) := by decide +kernel
theorem dX8_goOn_18 : decode cX8_goOn 18 = .ok (.goto 22, 3) := by decide +kernel
theorem dX8_goOn_21 : decode cX8_goOn 21 = .ok (.aload_n 0, 1) := by decide +kernel
theorem dX8_goOn_22 : decode cX8_goOn 22 = .ok (.iconst 0, 1) := by decide +kernel
theorem dX8_goOn_23 : decode cX8_goOn 23 = .ok (.putfield 23, 3) := by decide +kernel
theorem dX8_goOn_26 : decode cX8_goOn 26 = .ok (.aload_n 0, 1) := by decide +kernel
theorem dX8_goOn_27 : decode cX8_goOn 27 = .ok (.getfield 15, 3) := by decide +kernel
theorem dX8_goOn_30 : decode cX8_goOn 30 = .ok (.dup, 1) := by decide +kernel
theorem dX8_goOn_31 : decode cX8_goOn 31 = .ok (.getfield 26, 3) := by decide +kernel
theorem dX8_goOn_34 : decode cX8_goOn 34 = .ok (.bipush 64, 2) := by decide +kernel
theorem dX8_goOn_36 : decode cX8_goOn 36 = .ok (.ior, 1) := by decide +kernel
theorem dX8_goOn_37 : decode cX8_goOn 37 = .ok (.putfield 26, 3) := by decide +kernel
theorem dX8_goOn_40 : decode cX8_goOn 40 = .ok (.return_, 1) := by decide +kernel
theorem dX9_init_0 : decode cX9_init 0 = .ok (.aload_n 0, 1) := by decide +kernel
theorem dX9_init_1 : decode cX9_init 1 = .ok (.invokespecial 1, 3) := by decide +kernel
theorem dX9_init_4 : decode cX9_init 4 = .ok (.return_, 1) := by decide +kernel
theorem dX9_begin_0 : decode cX9_begin 0 = .ok (.aload_n 0, 1) := by decide +kernel
theorem dX9_begin_1 : decode cX9_begin 1 = .ok (.iconst 0, 1) := by decide +kernel
theorem dX9_begin_2 : decode cX9_begin 2 = .ok (.putfield 7, 3) := by decide +kernel
theorem dX9_begin_5 : decode cX9_begin 5 = .ok (.aload_n 0, 1) := by decide +kernel
theorem dX9_begin_6 : decode cX9_begin 6 = .ok (.iconst 0, 1) := by decide +kernel
theorem dX9_begin_7 : decode cX9_begin 7 = .ok (.putfield 13, 3) := by decide +kernel
theorem dX9_begin_10 : decode cX9_begin 10 = .ok (.aload_n 0, 1) := by decide +kernel
theorem dX9_begin_11 : decode cX9_begin 11 = .ok (.iconst 0, 1) := by decide +kernel
theorem dX9_begin_12 : decode cX9_begin 12 = .ok (.putfield 16, 3) := by decide +kernel
theorem dX9_begin_15 : decode cX9_begin 15 = .ok (.return_, 1) := by decide +kernel
theorem dX9_write_0 : decode cX9_write 0 = .ok (.iload_n 1, 1) := by decide +kernel
theorem dX9_write_1 : decode cX9_write 1 = .ok (.tableswitch 74 0 2 #[27, 43, 63], 27) := by decide +kernel
theorem dX9_write_28 : decode cX9_write 28 = .ok (.aload_n 0, 1) := by decide +kernel
theorem dX9_write_29 : decode cX9_write 29 = .ok (.aload_n 0, 1) := by decide +kernel
theorem dX9_write_30 : decode cX9_write 30 = .ok (.getfield 7, 3) := by decide +kernel
theorem dX9_write_33 : decode cX9_write 33 = .ok (.ldc 19, 2) := by decide +kernel
theorem dX9_write_35 : decode cX9_write 35 = .ok (.iand, 1) := by decide +kernel
theorem dX9_write_36 : decode cX9_write 36 = .ok (.iload_n 2, 1) := by decide +kernel
theorem dX9_write_37 : decode cX9_write 37 = .ok (.ior, 1) := by decide +kernel
theorem dX9_write_38 : decode cX9_write 38 = .ok (.putfield 7, 3) := by decide +kernel
theorem dX9_write_41 : decode cX9_write 41 = .ok (.goto 42, 3) := by decide +kernel
theorem dX9_write_44 : decode cX9_write 44 = .ok (.aload_n 0, 1) := by decide +kernel
theorem dX9_write_45 : decode cX9_write 45 = .ok (.aload_n 0, 1) := by decide +kernel
theorem dX9_write_46 : decode cX9_write 46 = .ok (.getfield 7, 3) := by decide +kernel
theorem dX9_write_49 : decode cX9_write 49 = .ok (.sipush 255, 3) := by decide +kernel
theorem dX9_write_52 : decode cX9_write 52 = .ok (.iand, 1) := by decide +kernel
theorem dX9_write_53 : decode cX9_write 53 = .ok (.iload_n 2, 1) := by decide +kernel
theorem dX9_write_54 : decode cX9_write 54 = .ok (.bipush 8, 2) := by decide +kernel
theorem dX9_write_56 : decode cX9_write 56 = .ok (.ishl, 1) := by decide +kernel
theorem dX9_write_57 : decode cX9_write 57 = .ok (.ior, 1) := by decide +kernel
theorem dX9_write_58 : decode cX9_write 58 = .ok (.putfield 7, 3) := by decide +kernel
theorem dX9_write_61 : decode cX9_write 61 = .ok (.goto 22, 3) := by decide +kernel
theorem dX9_write_64 : decode cX9_write 64 = .ok (.aload_n 0, 1) := by decide +kernel
theorem dX9_write_65 : decode cX9_write 65 = .ok (.aload_n 0, 1) := by decide +kernel
theorem dX9_write_66 : decode cX9_write 66 = .ok (.getfield 7, 3) := by decide +kernel
theorem dX9_write_69 : decode cX9_write 69 = .ok (.putfield 13, 3) := by decide +kernel
theorem dX9_write_72 : decode cX9_write 72 = .ok (.goto 11, 3) := by decide +kernel
theorem dX9_write_75 : decode cX9_write 75 = .ok (.aload_n 0, 1) := by decide +kernel
theorem dX9_write_76 : decode cX9_write 76 = .ok (.aload_n 0, 1) := by decide +kernel
theorem dX9_write_77 : decode cX9_write 77 = .ok (.getfield 13, 3) := by decide +kernel
theorem dX9_write_80 : decode cX9_write 80 = .ok (.putfield 16, 3) := by decide +kernel
theorem dX9_write_83 : decode cX9_write 83 = .ok (.return_, 1) := by decide +kernel
theorem dX9_countsDown_0 : decode cX9_countsDown 0 = .ok (.aload_n 0, 1) := by decide +kernel
theorem dX9_countsDown_1 : decode cX9_countsDown 1 = .ok (.getfield 7, 3) := by decide +kernel
theorem dX9_countsDown_4 : decode cX9_countsDown 4 = .ok (.ifCond .ne 5, 3) := by decide +kernel
theorem dX9_countsDown_7 : decode cX9_countsDown 7 = .ok (.iconst 0, 1) := by decide +kernel
theorem dX9_countsDown_8 : decode cX9_countsDown 8 = .ok (.ireturn, 1) := by decide +kernel
theorem dX9_countsDown_9 : decode cX9_countsDown 9 = .ok (.aload_n 0, 1) := by decide +kernel
theorem dX9_countsDown_10 : decode cX9_countsDown 10 = .ok (.aload_n 0, 1) := by decide +kernel
theorem dX9_countsDown_11 : decode cX9_countsDown 11 = .ok (.getfield 13, 3) := by decide +kernel
theorem dX9_countsDown_14 : decode cX9_countsDown 14 = .ok (.ifCond .ne 8, 3) := by decide +kernel
theorem dX9_countsDown_17 : decode cX9_countsDown 17 = .ok (.ldc 20, 2) := by decide +kernel
theorem dX9_countsDown_19 : decode cX9_countsDown 19 = .ok (.goto 7, 3) := by decide +kernel
theorem dX9_countsDown_22 : decode cX9_countsDown 22 = .ok (.aload_n 0, 1) := by decide +kernel
theorem dX9_countsDown_23 : decode cX9_countsDown 23 = .ok (.getfield 13, 3) := by decide +kernel
theorem dX9_countsDown_26 : decode cX9_countsDown 26 = .ok (.iconst 1, 1) := by decide +kernel
theorem dX9_countsDown_27 : decode cX9_countsDown 27 = .ok (.isub, 1) := by decide +kernel
theorem dX9_countsDown_28 : decode cX9_countsDown 28 = .ok (.putfield 13, 3) := by decide +kernel
theorem dX9_countsDown_31 : decode cX9_countsDown 31 = .ok (.aload_n 0, 1) := by decide +kernel
theorem dX9_countsDown_32 : decode cX9_countsDown 32 = .ok (.getfield 13, 3) := by decide +kernel
theorem dX9_countsDown_35 : decode cX9_countsDown 35 = .ok (.ifCond .eq 5, 3) := by decide +kernel
theorem dX9_countsDown_38 : decode cX9_countsDown 38 = .ok (.iconst 0, 1) := by decide +kernel
theorem dX9_countsDown_39 : decode cX9_countsDown 39 = .ok (.ireturn, 1) := by decide +kernel
theorem dX9_countsDown_40 : decode cX9_countsDown 40 = .ok (.aload_n 0, 1) := by decide +kernel
theorem dX9_countsDown_41 : decode cX9_countsDown 41 = .ok (.aload_n 0, 1) := by decide +kernel
theorem dX9_countsDown_42 : decode cX9_countsDown 42 = .ok (.getfield 7, 3) := by decide +kernel
theorem dX9_countsDown_45 : decode cX9_countsDown 45 = .ok (.putfield 13, 3) := by decide +kernel
theorem dX9_countsDown_48 : decode cX9_countsDown 48 = .ok (.iconst 1, 1) := by decide +kernel
theorem dX9_countsDown_49 : decode cX9_countsDown 49 = .ok (.ireturn, 1) := by decide +kernel
theorem dX10_init_0 : decode cX10_init 0 = .ok (.aload_n 0, 1) := by decide +kernel
theorem dX10_init_1 : decode cX10_init 1 = .ok (.invokespecial 1, 3) := by decide +kernel
theorem dX10_init_4 : decode cX10_init 4 = .ok (.aload_n 0, 1) := by decide +kernel
theorem dX10_init_5 : decode cX10_init 5 = .ok (.sipush 16384, 3) := by decide +kernel
theorem dX10_init_8 : decode cX10_init 8 = .ok (.newarray .int, 2) := by decide +kernel
theorem dX10_init_10 : decode cX10_init 10 = .ok (.putfield 9, 3) := by decide +kernel
theorem dX10_init_13 : decode cX10_init 13 = .ok (.aload_n 0, 1) := by decide +kernel
theorem dX10_init_14 : decode cX10_init 14 = .ok (.new 13, 3) := by decide +kernel
theorem dX10_init_17 : decode cX10_init 17 = .ok (.dup, 1) := by decide +kernel
theorem dX10_init_18 : decode cX10_init 18 = .ok (.invokespecial 15, 3) := by decide +kernel
theorem dX10_init_21 : decode cX10_init 21 = .ok (.putfield 16, 3) := by decide +kernel
theorem dX10_init_24 : decode cX10_init 24 = .ok (.aload_n 0, 1) := by decide +kernel
theorem dX10_init_25 : decode cX10_init 25 = .ok (.new 20, 3) := by decide +kernel
theorem dX10_init_28 : decode cX10_init 28 = .ok (.dup, 1) := by decide +kernel
theorem dX10_init_29 : decode cX10_init 29 = .ok (.invokespecial 22, 3) := by decide +kernel
theorem dX10_init_32 : decode cX10_init 32 = .ok (.putfield 23, 3) := by decide +kernel
theorem dX10_init_35 : decode cX10_init 35 = .ok (.aload_n 0, 1) := by decide +kernel
theorem dX10_init_36 : decode cX10_init 36 = .ok (.new 27, 3) := by decide +kernel
theorem dX10_init_39 : decode cX10_init 39 = .ok (.dup, 1) := by decide +kernel
theorem dX10_init_40 : decode cX10_init 40 = .ok (.invokespecial 29, 3) := by decide +kernel
theorem dX10_init_43 : decode cX10_init 43 = .ok (.putfield 30, 3) := by decide +kernel
theorem dX10_init_46 : decode cX10_init 46 = .ok (.aload_n 0, 1) := by decide +kernel
theorem dX10_init_47 : decode cX10_init 47 = .ok (.new 34, 3) := by decide +kernel
theorem dX10_init_50 : decode cX10_init 50 = .ok (.dup, 1) := by decide +kernel
theorem dX10_init_51 : decode cX10_init 51 = .ok (.aload_n 0, 1) := by decide +kernel
theorem dX10_init_52 : decode cX10_init 52 = .ok (.getfield 30, 3) := by decide +kernel
theorem dX10_init_55 : decode cX10_init 55 = .ok (.invokespecial 36, 3) := by decide +kernel
theorem dX10_init_58 : decode cX10_init 58 = .ok (.putfield 39, 3) := by decide +kernel
theorem dX10_init_61 : decode cX10_init 61 = .ok (.aload_n 0, 1) := by decide +kernel
theorem dX10_init_62 : decode cX10_init 62 = .ok (.new 43, 3) := by decide +kernel
theorem dX10_init_65 : decode cX10_init 65 = .ok (.dup, 1) := by decide +kernel
theorem dX10_init_66 : decode cX10_init 66 = .ok (.aload_n 0, 1) := by decide +kernel
theorem dX10_init_67 : decode cX10_init 67 = .ok (.getfield 9, 3) := by decide +kernel
theorem dX10_init_70 : decode cX10_init 70 = .ok (.aload_n 0, 1) := by decide +kernel
theorem dX10_init_71 : decode cX10_init 71 = .ok (.getfield 30, 3) := by decide +kernel
theorem dX10_init_74 : decode cX10_init 74 = .ok (.invokespecial 45, 3) := by decide +kernel
theorem dX10_init_77 : decode cX10_init 77 = .ok (.putfield 48, 3) := by decide +kernel
theorem dX10_init_80 : decode cX10_init 80 = .ok (.aload_n 0, 1) := by decide +kernel
theorem dX10_init_81 : decode cX10_init 81 = .ok (.new 52, 3) := by decide +kernel
theorem dX10_init_84 : decode cX10_init 84 = .ok (.dup, 1) := by decide +kernel
theorem dX10_init_85 : decode cX10_init 85 = .ok (.aload_n 0, 1) := by decide +kernel
theorem dX10_init_86 : decode cX10_init 86 = .ok (.getfield 30, 3) := by decide +kernel
theorem dX10_init_89 : decode cX10_init 89 = .ok (.aload_n 0, 1) := by decide +kernel
theorem dX10_init_90 : decode cX10_init 90 = .ok (.getfield 39, 3) := by decide +kernel
theorem dX10_init_93 : decode cX10_init 93 = .ok (.invokespecial 54, 3) := by decide +kernel
theorem dX10_init_96 : decode cX10_init 96 = .ok (.putfield 57, 3) := by decide +kernel
theorem dX10_init_99 : decode cX10_init 99 = .ok (.aload_n 0, 1) := by decide +kernel
theorem dX10_init_100 : decode cX10_init 100 = .ok (.new 61, 3) := by decide +kernel
theorem dX10_init_103 : decode cX10_init 103 = .ok (.dup, 1) := by decide +kernel
theorem dX10_init_104 : decode cX10_init 104 = .ok (.aload_n 0, 1) := by decide +kernel
theorem dX10_init_105 : decode cX10_init 105 = .ok (.getfield 9, 3) := by decide +kernel
theorem dX10_init_108 : decode cX10_init 108 = .ok (.aload_n 0, 1) := by decide +kernel
theorem dX10_init_109 : decode cX10_init 109 = .ok (.getfield 30, 3) := by decide +kernel
theorem dX10_init_112 : decode cX10_init 112 = .ok (.invokespecial 63, 3) := by decide +kernel
theorem dX10_init_115 : decode cX10_init 115 = .ok (.putfield 64, 3) := by decide +kernel
theorem dX10_init_118 : decode cX10_init 118 = .ok (.aload_n 0, 1) := by decide +kernel
theorem dX10_init_119 : decode cX10_init 119 = .ok (.new 68, 3) := by decide +kernel
theorem dX10_init_122 : decode cX10_init 122 = .ok (.dup, 1) := by decide +kernel
theorem dX10_init_123 : decode cX10_init 123 = .ok (.aload_n 0, 1) := by decide +kernel
theorem dX10_init_124 : decode cX10_init 124 = .ok (.getfield 9, 3) := by decide +kernel
theorem dX10_init_127 : decode cX10_init 127 = .ok (.aload_n 0, 1) := by decide +kernel
theorem dX10_init_128 : decode cX10_init 128 = .ok (.getfield 23, 3) := by decide +kernel
theorem dX10_init_131 : decode cX10_init 131 = .ok (.aload_n 0, 1) := by decide +kernel
theorem dX10_init_132 : decode cX10_init 132 = .ok (.getfield 57, 3) := by decide +kernel
theorem dX10_init_135 : decode cX10_init 135 = .ok (.aload_n 0, 1) := by decide +kernel
theorem dX10_init_136 : decode cX10_init 136 = .ok (.getfield 48, 3) := by decide +kernel
theorem dX10_init_139 : decode cX10_init 139 = .ok (.aload_n 0, 1) := by decide +kernel
theorem dX10_init_140 : decode cX10_init 140 = .ok (.getfield 64, 3) := by decide +kernel
theorem dX10_init_143 : decode cX10_init 143 = .ok (.invokespecial 70, 3) := by decide +kernel
theorem dX10_init_146 : decode cX10_init 146 = .ok (.putfield 73, 3) := by decide +kernel
theorem dX10_init_149 : decode cX10_init 149 = .ok (.aload_n 0, 1) := by decide +kernel
theorem dX10_init_150 : decode cX10_init 150 = .ok (.new 77, 3) := by decide +kernel
theorem dX10_init_153 : decode cX10_init 153 = .ok (.dup, 1) := by decide +kernel
theorem dX10_init_154 : decode cX10_init 154 = .ok (.aload_n 0, 1) := by decide +kernel
theorem dX10_init_155 : decode cX10_init 155 = .ok (.getfield 16, 3) := by decide +kernel
theorem dX10_init_158 : decode cX10_init 158 = .ok (.aload_n 0, 1) := by decide +kernel
theorem dX10_init_159 : decode cX10_init 159 = .ok (.getfield 73, 3) := by decide +kernel
theorem dX10_init_162 : decode cX10_init 162 = .ok (.aload_n 0, 1) := by decide +kernel
theorem dX10_init_163 : decode cX10_init 163 = .ok (.getfield 30, 3) := by decide +kernel
theorem dX10_init_166 : decode cX10_init 166 = .ok (.invokespecial 79, 3) := by decide +kernel
theorem dX10_init_169 : decode cX10_init 169 = .ok (.putfield 82, 3) := by decide +kernel
theorem dX10_init_172 : decode cX10_init 172 = .ok (.aload_n 0, 1) := by decide +kernel
theorem dX10_init_173 : decode cX10_init 173 = .ok (.iconst (-1), 1) := by decide +kernel
theorem dX10_init_174 : decode cX10_init 174 = .ok (.putfield 86, 3) := by decide +kernel
theorem dX10_init_177 : decode cX10_init 177 = .ok (.aload_n 0, 1) := by decide +kernel
theorem dX10_init_178 : decode cX10_init 178 = .ok (.invokevirtual 90, 3) := by decide +kernel
theorem dX10_init_181 : decode cX10_init 181 = .ok (.return_, 1) := by decide +kernel
theorem dX10_reset_0 : decode cX10_reset 0 = .ok (.aload_n 0, 1) := by decide +kernel
theorem dX10_reset_1 : decode cX10_reset 1 = .ok (.invokevirtual 90, 3) := by decide +kernel
theorem dX10_reset_4 : decode cX10_reset 4 = .ok (.return_, 1) := by decide +kernel
theorem dX10_poke_0 : decode cX10_poke 0 = .ok (.iload_n 1, 1) := by decide +kernel
theorem dX10_poke_1 : decode cX10_poke 1 = .ok (.ifCond .lt 10, 3) := by decide +kernel
theorem dX10_poke_4 : decode cX10_poke 4 = .ok (.iload_n 1, 1) := by decide +kernel
theorem dX10_poke_5 : decode cX10_poke 5 = .ok (.sipush 16383, 3) := by decide +kernel
theorem dX10_poke_8 : decode cX10_poke 8 = .ok (.if_icmp .lt 5, 3) := by decide +kernel
theorem dX10_poke_11 : decode cX10_poke 11 = .ok (.iconst 0, 1) := by decide +kernel
theorem dX10_poke_12 : decode cX10_poke 12 = .ok (.ireturn, 1) := by decide +kernel
theorem dX10_poke_13 : decode cX10_poke 13 = .ok (.aload_n 0, 1) := by decide +kernel
theorem dX10_poke_14 : decode cX10_poke 14 = .ok (.getfield 9, 3) := by decide +kernel
theorem dX10_poke_17 : decode cX10_poke 17 = .ok (.iload_n 1, 1) := by decide +kernel
theorem dX10_poke_18 : decode cX10_poke 18 = .ok (.iload_n 2, 1) := by decide +kernel
theorem dX10_poke_19 : decode cX10_poke 19 = .ok (.iastore, 1) := by decide +kernel
theorem dX10_poke_20 : decode cX10_poke 20 = .ok (.aload_n 0, 1) := by decide +kernel
theorem dX10_poke_21 : decode cX10_poke 21 = .ok (.getfield 9, 3) := by decide +kernel
theorem dX10_poke_24 : decode cX10_poke 24 = .ok (.iload_n 1, 1) := by decide +kernel
theorem dX10_poke_25 : decode cX10_poke 25 = .ok (.iconst 1, 1) := by decide +kernel
theorem dX10_poke_26 : decode cX10_poke 26 = .ok (.iadd, 1) := by decide +kernel
theorem dX10_poke_27 : decode cX10_poke 27 = .ok (.iload_n 3, 1) := by decide +kernel
theorem dX10_poke_28 : decode cX10_poke 28 = .ok (.iastore, 1) := by decide +kernel
theorem dX10_poke_29 : decode cX10_poke 29 = .ok (.iconst 1, 1) := by decide +kernel
theorem dX10_poke_30 : decode cX10_poke 30 = .ok (.ireturn, 1) := by decide +kernel
theorem dX10_peek_0 : decode cX10_peek 0 = .ok (.iload_n 1, 1) := by decide +kernel
theorem dX10_peek_1 : decode cX10_peek 1 = .ok (.ifCond .lt 10, 3) := by decide +kernel
theorem dX10_peek_4 : decode cX10_peek 4 = .ok (.iload_n 1, 1) := by decide +kernel
theorem dX10_peek_5 : decode cX10_peek 5 = .ok (.sipush 16384, 3) := by decide +kernel
theorem dX10_peek_8 : decode cX10_peek 8 = .ok (.if_icmp .lt 13, 3) := by decide +kernel
theorem dX10_peek_11 : decode cX10_peek 11 = .ok (.new 93, 3) := by decide +kernel
theorem dX10_peek_14 : decode cX10_peek 14 = .ok (.dup, 1) := by decide +kernel
theorem dX10_peek_15 : decode cX10_peek 15 = .ok (.ldc 95, 2) := by decide +kernel
theorem dX10_peek_17 : decode cX10_peek 17 = .ok (.invokespecial 97, 3) := by decide +kernel
theorem dX10_peek_20 : decode cX10_peek 20 = .ok (.athrow, 1) := by decide +kernel
theorem dX10_peek_21 : decode cX10_peek 21 = .ok (.aload_n 0, 1) := by decide +kernel
theorem dX10_peek_22 : decode cX10_peek 22 = .ok (.getfield 9, 3) := by decide +kernel
theorem dX10_peek_25 : decode cX10_peek 25 = .ok (.iload_n 1, 1) := by decide +kernel
theorem dX10_peek_26 : decode cX10_peek 26 = .ok (.iaload, 1) := by decide +kernel
theorem dX10_peek_27 : decode cX10_peek 27 = .ok (.ireturn, 1) := by decide +kernel
theorem dX10_store_0 : decode cX10_store 0 = .ok (.iload_n 1, 1) := by decide +kernel
theorem dX10_store_1 : decode cX10_store 1 = .ok (.iload_n 2, 1) := by decide +kernel
theorem dX10_store_2 : decode cX10_store 2 = .ok (.invokestatic 100, 3) := by decide +kernel
theorem dX10_store_5 : decode cX10_store 5 = .ok (.ifCond .ne 5, 3) := by decide +kernel
theorem dX10_store_8 : decode cX10_store 8 = .ok (.iconst 0, 1) := by decide +kernel
theorem dX10_store_9 : decode cX10_store 9 = .ok (.ireturn, 1) := by decide +kernel
theorem dX10_store_10 : decode cX10_store 10 = .ok (.aload_n 0, 1) := by decide +kernel
theorem dX10_store_11 : decode cX10_store 11 = .ok (.getfield 48, 3) := by decide +kernel
theorem dX10_store_14 : decode cX10_store 14 = .ok (.iload_n 1, 1) := by decide +kernel
theorem dX10_store_15 : decode cX10_store 15 = .ok (.iload_n 2, 1) := by decide +kernel
theorem dX10_store_16 : decode cX10_store 16 = .ok (.iload_n 3, 1) := by decide +kernel
theorem dX10_store_17 : decode cX10_store 17 = .ok (.invokevirtual 104, 3) := by decide +kernel
theorem dX10_store_20 : decode cX10_store 20 = .ok (.iconst 1, 1) := by decide +kernel
theorem dX10_store_21 : decode cX10_store 21 = .ok (.ireturn, 1) := by decide +kernel
theorem dX10_stored_0 : decode cX10_stored 0 = .ok (.iload_n 1, 1) := by decide +kernel
theorem dX10_stored_1 : decode cX10_stored 1 = .ok (.iload_n 2, 1) := by decide +kernel
theorem dX10_stored_2 : decode cX10_stored 2 = .ok (.invokestatic 100, 3) := by decide +kernel
theorem dX10_stored_5 : decode cX10_stored 5 = .ok (.ifCond .ne 13, 3) := by decide +kernel
theorem dX10_stored_8 : decode cX10_stored 8 = .ok (.new 93, 3) := by decide +kernel
theorem dX10_stored_11 : decode cX10_stored 11 = .ok (.dup, 1) := by decide +kernel
theorem dX10_stored_12 : decode cX10_stored 12 = .ok (.ldc 108, 2) := by decide +kernel
theorem dX10_stored_14 : decode cX10_stored 14 = .ok (.invokespecial 97, 3) := by decide +kernel
theorem dX10_stored_17 : decode cX10_stored 17 = .ok (.athrow, 1) := by decide +kernel
theorem dX10_stored_18 : decode cX10_stored 18 = .ok (.aload_n 0, 1) := by decide +kernel
theorem dX10_stored_19 : decode cX10_stored 19 = .ok (.getfield 48, 3) := by decide +kernel
theorem dX10_stored_22 : decode cX10_stored 22 = .ok (.iload_n 1, 1) := by decide +kernel
theorem dX10_stored_23 : decode cX10_stored 23 = .ok (.iload_n 2, 1) := by decide +kernel
theorem dX10_stored_24 : decode cX10_stored 24 = .ok (.invokevirtual 110, 3) := by decide +kernel
theorem dX10_stored_27 : decode cX10_stored 27 = .ok (.ireturn, 1) := by decide +kernel
theorem dX10_key_0 : decode cX10_key 0 = .ok (.aload_n 0, 1) := by decide +kernel
theorem dX10_key_1 : decode cX10_key 1 = .ok (.getfield 39, 3) := by decide +kernel
theorem dX10_key_4 : decode cX10_key 4 = .ok (.iload_n 1, 1) := by decide +kernel
theorem dX10_key_5 : decode cX10_key 5 = .ok (.invokevirtual 114, 3) := by decide +kernel
theorem dX10_key_8 : decode cX10_key 8 = .ok (.ireturn, 1) := by decide +kernel
theorem dX10_step_0 : decode cX10_step 0 = .ok (.iload_n 1, 1) := by decide +kernel
theorem dX10_step_1 : decode cX10_step 1 = .ok (.iconst 1, 1) := by decide +kernel
theorem dX10_step_2 : decode cX10_step 2 = .ok (.if_icmp .lt 10, 3) := by decide +kernel
theorem dX10_step_5 : decode cX10_step 5 = .ok (.iload_n 1, 1) := by decide +kernel
theorem dX10_step_6 : decode cX10_step 6 = .ok (.sipush 5000, 3) := by decide +kernel
theorem dX10_step_9 : decode cX10_step 9 = .ok (.if_icmp .le 13, 3) := by decide +kernel
theorem dX10_step_12 : decode cX10_step 12 = .ok (.new 118, 3) := by decide +kernel
theorem dX10_step_15 : decode cX10_step 15 = .ok (.dup, 1) := by decide +kernel
theorem dX10_step_16 : decode cX10_step 16 = .ok (.ldc 120, 2) := by decide +kernel
theorem dX10_step_18 : decode cX10_step 18 = .ok (.invokespecial 122, 3) := by decide +kernel
theorem dX10_step_21 : decode cX10_step 21 = .ok (.athrow, 1) := by decide +kernel
theorem dX10_step_22 : decode cX10_step 22 = .ok (.iconst 1, 1) := by decide +kernel
theorem dX10_step_23 : decode cX10_step 23 = .ok (.istore_n 2, 1) := by decide +kernel
theorem dX10_step_24 : decode cX10_step 24 = .ok (.iload_n 2, 1) := by decide +kernel
theorem dX10_step_25 : decode cX10_step 25 = .ok (.iload_n 1, 1) := by decide +kernel
theorem dX10_step_26 : decode cX10_step 26 = .ok (.if_icmp .gt 23, 3) := by decide +kernel
theorem dX10_step_29 : decode cX10_step 29 = .ok (.aload_n 0, 1) := by decide +kernel
theorem dX10_step_30 : decode cX10_step 30 = .ok (.invokevirtual 123, 3) := by decide +kernel
theorem dX10_step_33 : decode cX10_step 33 = .ok (.pop, 1) := by decide +kernel
theorem dX10_step_34 : decode cX10_step 34 = .ok (.aload_n 0, 1) := by decide +kernel
theorem dX10_step_35 : decode cX10_step 35 = .ok (.invokevirtual 127, 3) := by decide +kernel
theorem dX10_step_38 : decode cX10_step 38 = .ok (.ifCond .eq 5, 3) := by decide +kernel
theorem dX10_step_41 : decode cX10_step 41 = .ok (.iload_n 2, 1) := by decide +kernel
theorem dX10_step_42 : decode cX10_step 42 = .ok (.ireturn, 1) := by decide +kernel
theorem dX10_step_43 : decode cX10_step 43 = .ok (.iinc 2 1, 3) := by decide +kernel
theorem dX10_step_46 : decode cX10_step 46 = .ok (.goto (-22), 3) := by decide +kernel
theorem dX10_step_49 : decode cX10_step 49 = .ok (.iload_n 1, 1) := by decide +kernel
theorem dX10_step_50 : decode cX10_step 50 = .ok (.ireturn, 1) := by decide +kernel
theorem dX10_run_0 : decode cX10_run 0 = .ok (.iload_n 1, 1) := by decide +kernel
theorem dX10_run_1 : decode cX10_run 1 = .ok (.iconst 1, 1) := by decide +kernel
theorem dX10_run_2 : decode cX10_run 2 = .ok (.if_icmp .lt 10, 3) := by decide +kernel
theorem dX10_run_5 : decode cX10_run 5 = .ok (.iload_n 1, 1) := by decide +kernel
theorem dX10_run_6 : decode cX10_run 6 = .ok (.sipush 20000, 3) := by decide +kernel
theorem dX10_run_9 : decode cX10_run 9 = .ok (.if_icmp .le 13, 3) := by decide +kernel
theorem dX10_run_12 : decode cX10_run 12 = .ok (.new 118, 3) := by decide +kernel
theorem dX10_run_15 : decode cX10_run 15 = .ok (.dup, 1) := by decide +kernel
theorem dX10_run_16 : decode cX10_run 16 = .ok (.ldc 131, 2) := by decide +kernel
theorem dX10_run_18 : decode cX10_run 18 = .ok (.invokespecial 122, 3) := by decide +kernel
theorem dX10_run_21 : decode cX10_run 21 = .ok (.athrow, 1) := by decide +kernel
theorem dX10_run_22 : decode cX10_run 22 = .ok (.iconst 0, 1) := by decide +kernel
theorem dX10_run_23 : decode cX10_run 23 = .ok (.istore_n 2, 1) := by decide +kernel
theorem dX10_run_24 : decode cX10_run 24 = .ok (.iconst 0, 1) := by decide +kernel
theorem dX10_run_25 : decode cX10_run 25 = .ok (.istore_n 3, 1) := by decide +kernel
theorem dX10_run_26 : decode cX10_run 26 = .ok (.iload_n 3, 1) := by decide +kernel
theorem dX10_run_27 : decode cX10_run 27 = .ok (.iload_n 1, 1) := by decide +kernel
theorem dX10_run_28 : decode cX10_run 28 = .ok (.if_icmp .ge 27, 3) := by decide +kernel
theorem dX10_run_31 : decode cX10_run 31 = .ok (.iload_n 2, 1) := by decide +kernel
theorem dX10_run_32 : decode cX10_run 32 = .ok (.iload_n 1, 1) := by decide +kernel
theorem dX10_run_33 : decode cX10_run 33 = .ok (.if_icmp .ge 22, 3) := by decide +kernel
theorem dX10_run_36 : decode cX10_run 36 = .ok (.iload_n 2, 1) := by decide +kernel
theorem dX10_run_37 : decode cX10_run 37 = .ok (.aload_n 0, 1) := by decide +kernel
theorem dX10_run_38 : decode cX10_run 38 = .ok (.invokevirtual 123, 3) := by decide +kernel
theorem dX10_run_41 : decode cX10_run 41 = .ok (.iadd, 1) := by decide +kernel
theorem dX10_run_42 : decode cX10_run 42 = .ok (.istore_n 2, 1) := by decide +kernel
theorem dX10_run_43 : decode cX10_run 43 = .ok (.iinc 3 1, 3) := by decide +kernel
theorem dX10_run_46 : decode cX10_run 46 = .ok (.aload_n 0, 1) := by decide +kernel
theorem dX10_run_47 : decode cX10_run 47 = .ok (.invokevirtual 127, 3) := by decide +kernel
theorem dX10_run_50 : decode cX10_run 50 = .ok (.ifCond .eq (-24), 3) := by decide +kernel
theorem dX10_run_53 : decode cX10_run 53 = .ok (.iload_n 3, 1) := by decide +kernel
theorem dX10_run_54 : decode cX10_run 54 = .ok (.ireturn, 1) := by decide +kernel
theorem dX10_run_55 : decode cX10_run 55 = .ok (.iload_n 3, 1) := by decide +kernel
theorem dX10_run_56 : decode cX10_run 56 = .ok (.ireturn, 1) := by decide +kernel
theorem dX10_stopAt_0 : decode cX10_stopAt 0 = .ok (.iload_n 1, 1) := by decide +kernel
theorem dX10_stopAt_1 : decode cX10_stopAt 1 = .ok (.iconst (-1), 1) := by decide +kernel
theorem dX10_stopAt_2 : decode cX10_stopAt 2 = .ok (.if_icmp .ne 10, 3) := by decide +kernel
theorem dX10_stopAt_5 : decode cX10_stopAt 5 = .ok (.aload_n 0, 1) := by decide +kernel
theorem dX10_stopAt_6 : decode cX10_stopAt 6 = .ok (.iconst (-1), 1) := by decide +kernel
theorem dX10_stopAt_7 : decode cX10_stopAt 7 = .ok (.putfield 86, 3) := by decide +kernel
theorem dX10_stopAt_10 : decode cX10_stopAt 10 = .ok (.iconst 1, 1) := by decide +kernel
theorem dX10_stopAt_11 : decode cX10_stopAt 11 = .ok (.ireturn, 1) := by decide +kernel
theorem dX10_stopAt_12 : decode cX10_stopAt 12 = .ok (.iload_n 1, 1) := by decide +kernel
theorem dX10_stopAt_13 : decode cX10_stopAt 13 = .ok (.ifCond .lt 9, 3) := by decide +kernel
theorem dX10_stopAt_16 : decode cX10_stopAt 16 = .ok (.iload_n 1, 1) := by decide +kernel
theorem dX10_stopAt_17 : decode cX10_stopAt 17 = .ok (.ldc 133, 2) := by decide +kernel
theorem dX10_stopAt_19 : decode cX10_stopAt 19 = .ok (.if_icmp .lt 5, 3) := by decide +kernel
theorem dX10_stopAt_22 : decode cX10_stopAt 22 = .ok (.iconst 0, 1) := by decide +kernel
theorem dX10_stopAt_23 : decode cX10_stopAt 23 = .ok (.ireturn, 1) := by decide +kernel
theorem dX10_stopAt_24 : decode cX10_stopAt 24 = .ok (.aload_n 0, 1) := by decide +kernel
theorem dX10_stopAt_25 : decode cX10_stopAt 25 = .ok (.iload_n 1, 1) := by decide +kernel
theorem dX10_stopAt_26 : decode cX10_stopAt 26 = .ok (.ldc 134, 2) := by decide +kernel
theorem dX10_stopAt_28 : decode cX10_stopAt 28 = .ok (.iand, 1) := by decide +kernel
theorem dX10_stopAt_29 : decode cX10_stopAt 29 = .ok (.putfield 86, 3) := by decide +kernel
theorem dX10_stopAt_32 : decode cX10_stopAt 32 = .ok (.iconst 1, 1) := by decide +kernel
theorem dX10_stopAt_33 : decode cX10_stopAt 33 = .ok (.ireturn, 1) := by decide +kernel
theorem dX10_register_0 : decode cX10_register 0 = .ok (.iload_n 1, 1) := by decide +kernel
theorem dX10_register_1 : decode cX10_register 1 = .ok (.iload_n 2, 1) := by decide +kernel
theorem dX10_register_2 : decode cX10_register 2 = .ok (.invokestatic 135, 3) := by decide +kernel
theorem dX10_register_5 : decode cX10_register 5 = .ok (.ifCond .ne 13, 3) := by decide +kernel
theorem dX10_register_8 : decode cX10_register 8 = .ok (.new 93, 3) := by decide +kernel
theorem dX10_register_11 : decode cX10_register 11 = .ok (.dup, 1) := by decide +kernel
theorem dX10_register_12 : decode cX10_register 12 = .ok (.ldc 138, 2) := by decide +kernel
theorem dX10_register_14 : decode cX10_register 14 = .ok (.invokespecial 97, 3) := by decide +kernel
theorem dX10_register_17 : decode cX10_register 17 = .ok (.athrow, 1) := by decide +kernel
theorem dX10_register_18 : decode cX10_register 18 = .ok (.aload_n 0, 1) := by decide +kernel
theorem dX10_register_19 : decode cX10_register 19 = .ok (.getfield 16, 3) := by decide +kernel
theorem dX10_register_22 : decode cX10_register 22 = .ok (.iload_n 1, 1) := by decide +kernel
theorem dX10_register_23 : decode cX10_register 23 = .ok (.iload_n 2, 1) := by decide +kernel
theorem dX10_register_24 : decode cX10_register 24 = .ok (.invokevirtual 140, 3) := by decide +kernel
theorem dX10_register_27 : decode cX10_register 27 = .ok (.ireturn, 1) := by decide +kernel
theorem dX10_put_0 : decode cX10_put 0 = .ok (.iload_n 1, 1) := by decide +kernel
theorem dX10_put_1 : decode cX10_put 1 = .ok (.iload_n 2, 1) := by decide +kernel
theorem dX10_put_2 : decode cX10_put 2 = .ok (.invokestatic 135, 3) := by decide +kernel
theorem dX10_put_5 : decode cX10_put 5 = .ok (.ifCond .ne 5, 3) := by decide +kernel
theorem dX10_put_8 : decode cX10_put 8 = .ok (.iconst 0, 1) := by decide +kernel
theorem dX10_put_9 : decode cX10_put 9 = .ok (.ireturn, 1) := by decide +kernel
theorem dX10_put_10 : decode cX10_put 10 = .ok (.aload_n 0, 1) := by decide +kernel
theorem dX10_put_11 : decode cX10_put 11 = .ok (.getfield 16, 3) := by decide +kernel
theorem dX10_put_14 : decode cX10_put 14 = .ok (.iload_n 1, 1) := by decide +kernel
theorem dX10_put_15 : decode cX10_put 15 = .ok (.iload_n 2, 1) := by decide +kernel
theorem dX10_put_16 : decode cX10_put 16 = .ok (.iload_n 3, 1) := by decide +kernel
theorem dX10_put_17 : decode cX10_put 17 = .ok (.invokevirtual 143, 3) := by decide +kernel
theorem dX10_put_20 : decode cX10_put 20 = .ok (.iconst 1, 1) := by decide +kernel
theorem dX10_put_21 : decode cX10_put 21 = .ok (.ireturn, 1) := by decide +kernel
theorem dX10_entry_0 : decode cX10_entry 0 = .ok (.iload_n 1, 1) := by decide +kernel
theorem dX10_entry_1 : decode cX10_entry 1 = .ok (.ifCond .lt 9, 3) := by decide +kernel
theorem dX10_entry_4 : decode cX10_entry 4 = .ok (.iload_n 1, 1) := by decide +kernel
theorem dX10_entry_5 : decode cX10_entry 5 = .ok (.bipush 16, 2) := by decide +kernel
theorem dX10_entry_7 : decode cX10_entry 7 = .ok (.if_icmp .lt 5, 3) := by decide +kernel
theorem dX10_entry_10 : decode cX10_entry 10 = .ok (.iconst (-1), 1) := by decide +kernel
theorem dX10_entry_11 : decode cX10_entry 11 = .ok (.ireturn, 1) := by decide +kernel
theorem dX10_entry_12 : decode cX10_entry 12 = .ok (.iload_n 2, 1) := by decide +kernel
theorem dX10_entry_13 : decode cX10_entry 13 = .ok (.lookupswitch 45 #[(0, 27), (1, 36)], 27) := by decide +kernel
theorem dX10_entry_40 : decode cX10_entry 40 = .ok (.aload_n 0, 1) := by decide +kernel
theorem dX10_entry_41 : decode cX10_entry 41 = .ok (.getfield 23, 3) := by decide +kernel
theorem dX10_entry_44 : decode cX10_entry 44 = .ok (.iload_n 1, 1) := by decide +kernel
theorem dX10_entry_45 : decode cX10_entry 45 = .ok (.invokevirtual 146, 3) := by decide +kernel
theorem dX10_entry_48 : decode cX10_entry 48 = .ok (.ireturn, 1) := by decide +kernel
theorem dX10_entry_49 : decode cX10_entry 49 = .ok (.aload_n 0, 1) := by decide +kernel
theorem dX10_entry_50 : decode cX10_entry 50 = .ok (.getfield 23, 3) := by decide +kernel
theorem dX10_entry_53 : decode cX10_entry 53 = .ok (.iload_n 1, 1) := by decide +kernel
theorem dX10_entry_54 : decode cX10_entry 54 = .ok (.invokevirtual 150, 3) := by decide +kernel
theorem dX10_entry_57 : decode cX10_entry 57 = .ok (.ireturn, 1) := by decide +kernel
theorem dX10_entry_58 : decode cX10_entry 58 = .ok (.iconst (-1), 1) := by decide +kernel
theorem dX10_entry_59 : decode cX10_entry 59 = .ok (.ireturn, 1) := by decide +kernel
theorem dX10_device_0 : decode cX10_device 0 = .ok (.iload_n 1, 1) := by decide +kernel
theorem dX10_device_1 : decode cX10_device 1 = .ok (.ifCond .lt 9, 3) := by decide +kernel
theorem dX10_device_4 : decode cX10_device 4 = .ok (.iload_n 1, 1) := by decide +kernel
theorem dX10_device_5 : decode cX10_device 5 = .ok (.ldc 153, 2) := by decide +kernel
theorem dX10_device_7 : decode cX10_device 7 = .ok (.if_icmp .lt 5, 3) := by decide +kernel
theorem dX10_device_10 : decode cX10_device 10 = .ok (.iconst (-1), 1) := by decide +kernel
theorem dX10_device_11 : decode cX10_device 11 = .ok (.ireturn, 1) := by decide +kernel
theorem dX10_device_12 : decode cX10_device 12 = .ok (.aload_n 0, 1) := by decide +kernel
theorem dX10_device_13 : decode cX10_device 13 = .ok (.getfield 73, 3) := by decide +kernel
theorem dX10_device_16 : decode cX10_device 16 = .ok (.iload_n 1, 1) := by decide +kernel
theorem dX10_device_17 : decode cX10_device 17 = .ok (.invokevirtual 154, 3) := by decide +kernel
theorem dX10_device_20 : decode cX10_device 20 = .ok (.ireturn, 1) := by decide +kernel
theorem dX10_allowed_0 : decode cX10_allowed 0 = .ok (.iload_n 1, 1) := by decide +kernel
theorem dX10_allowed_1 : decode cX10_allowed 1 = .ok (.ifCond .lt 17, 3) := by decide +kernel
theorem dX10_allowed_4 : decode cX10_allowed 4 = .ok (.iload_n 1, 1) := by decide +kernel
theorem dX10_allowed_5 : decode cX10_allowed 5 = .ok (.iconst 3, 1) := by decide +kernel
theorem dX10_allowed_6 : decode cX10_allowed 6 = .ok (.if_icmp .gt 12, 3) := by decide +kernel
theorem dX10_allowed_9 : decode cX10_allowed 9 = .ok (.iload_n 3, 1) := by decide +kernel
theorem dX10_allowed_10 : decode cX10_allowed 10 = .ok (.ifCond .lt 8, 3) := by decide +kernel
theorem dX10_allowed_13 : decode cX10_allowed 13 = .ok (.iload_n 3, 1) := by decide +kernel
theorem dX10_allowed_14 : decode cX10_allowed 14 = .ok (.iconst 1, 1) := by decide +kernel
theorem dX10_allowed_15 : decode cX10_allowed 15 = .ok (.if_icmp .le 5, 3) := by decide +kernel
theorem dX10_allowed_18 : decode cX10_allowed 18 = .ok (.iconst (-1), 1) := by decide +kernel
theorem dX10_allowed_19 : decode cX10_allowed 19 = .ok (.ireturn, 1) := by decide +kernel
theorem dX10_allowed_20 : decode cX10_allowed 20 = .ok (.iload_n 2, 1) := by decide +kernel
theorem dX10_allowed_21 : decode cX10_allowed 21 = .ok (.ifCond .lt 9, 3) := by decide +kernel
theorem dX10_allowed_24 : decode cX10_allowed 24 = .ok (.iload_n 2, 1) := by decide +kernel
theorem dX10_allowed_25 : decode cX10_allowed 25 = .ok (.ldc 133, 2) := by decide +kernel
theorem dX10_allowed_27 : decode cX10_allowed 27 = .ok (.if_icmp .lt 5, 3) := by decide +kernel
theorem dX10_allowed_30 : decode cX10_allowed 30 = .ok (.iconst (-1), 1) := by decide +kernel
theorem dX10_allowed_31 : decode cX10_allowed 31 = .ok (.ireturn, 1) := by decide +kernel
theorem dX10_allowed_32 : decode cX10_allowed 32 = .ok (.aload_n 0, 1) := by decide +kernel
theorem dX10_allowed_33 : decode cX10_allowed 33 = .ok (.getfield 73, 3) := by decide +kernel
theorem dX10_allowed_36 : decode cX10_allowed 36 = .ok (.iload_n 1, 1) := by decide +kernel
theorem dX10_allowed_37 : decode cX10_allowed 37 = .ok (.iload_n 2, 1) := by decide +kernel
theorem dX10_allowed_38 : decode cX10_allowed 38 = .ok (.iload_n 3, 1) := by decide +kernel
theorem dX10_allowed_39 : decode cX10_allowed 39 = .ok (.iconst 1, 1) := by decide +kernel
theorem dX10_allowed_40 : decode cX10_allowed 40 = .ok (.if_icmp .ne 7, 3) := by decide +kernel
theorem dX10_allowed_43 : decode cX10_allowed 43 = .ok (.iconst 1, 1) := by decide +kernel
theorem dX10_allowed_44 : decode cX10_allowed 44 = .ok (.goto 4, 3) := by decide +kernel
theorem dX10_allowed_47 : decode cX10_allowed 47 = .ok (.iconst 0, 1) := by decide +kernel
theorem dX10_allowed_48 : decode cX10_allowed 48 = .ok (.invokevirtual 157, 3) := by decide +kernel
theorem dX10_allowed_51 : decode cX10_allowed 51 = .ok (.iconst (-1), 1) := by decide +kernel
theorem dX10_allowed_52 : decode cX10_allowed 52 = .ok (.if_icmp .ne 7, 3) := by decide +kernel
theorem dX10_allowed_55 : decode cX10_allowed 55 = .ok (.iconst 0, 1) := by decide +kernel
theorem dX10_allowed_56 : decode cX10_allowed 56 = .ok (.goto 4, 3) := by decide +kernel
theorem dX10_allowed_59 : decode cX10_allowed 59 = .ok (.iconst 1, 1) := by decide +kernel
theorem dX10_allowed_60 : decode cX10_allowed 60 = .ok (.ireturn, 1) := by decide +kernel
theorem dX10_count_0 : decode cX10_count 0 = .ok (.iload_n 1, 1) := by decide +kernel
theorem dX10_count_1 : decode cX10_count 1 = .ok (.iconst 2, 1) := by decide +kernel
theorem dX10_count_2 : decode cX10_count 2 = .ok (.if_icmp .lt 20, 3) := by decide +kernel
theorem dX10_count_5 : decode cX10_count 5 = .ok (.iload_n 1, 1) := by decide +kernel
theorem dX10_count_6 : decode cX10_count 6 = .ok (.bipush 8, 2) := by decide +kernel
theorem dX10_count_8 : decode cX10_count 8 = .ok (.if_icmp .gt 14, 3) := by decide +kernel
theorem dX10_count_11 : decode cX10_count 11 = .ok (.aload_n 0, 1) := by decide +kernel
theorem dX10_count_12 : decode cX10_count 12 = .ok (.getfield 82, 3) := by decide +kernel
theorem dX10_count_15 : decode cX10_count 15 = .ok (.iload_n 1, 1) := by decide +kernel
theorem dX10_count_16 : decode cX10_count 16 = .ok (.iconst 2, 1) := by decide +kernel
theorem dX10_count_17 : decode cX10_count 17 = .ok (.isub, 1) := by decide +kernel
theorem dX10_count_18 : decode cX10_count 18 = .ok (.invokevirtual 161, 3) := by decide +kernel
theorem dX10_count_21 : decode cX10_count 21 = .ok (.lreturn, 1) := by decide +kernel
theorem dX10_count_22 : decode cX10_count 22 = .ok (.iload_n 1, 1) := by decide +kernel
theorem dX10_count_23 : decode cX10_count 23 = .ok (.tableswitch 107 0 12 #[65, 70, 107, 107, 107, 107, 107, 107, 107, 75, 83, 91, 99], 65) := by decide +kernel
theorem dX10_count_88 : decode cX10_count 88 = .ok (.aload_n 0, 1) := by decide +kernel
theorem dX10_count_89 : decode cX10_count 89 = .ok (.getfield 165, 3) := by decide +kernel
theorem dX10_count_92 : decode cX10_count 92 = .ok (.lreturn, 1) := by decide +kernel
theorem dX10_count_93 : decode cX10_count 93 = .ok (.aload_n 0, 1) := by decide +kernel
theorem dX10_count_94 : decode cX10_count 94 = .ok (.getfield 169, 3) := by decide +kernel
theorem dX10_count_97 : decode cX10_count 97 = .ok (.lreturn, 1) := by decide +kernel
theorem dX10_count_98 : decode cX10_count 98 = .ok (.aload_n 0, 1) := by decide +kernel
theorem dX10_count_99 : decode cX10_count 99 = .ok (.getfield 64, 3) := by decide +kernel
theorem dX10_count_102 : decode cX10_count 102 = .ok (.getfield 172, 3) := by decide +kernel
theorem dX10_count_105 : decode cX10_count 105 = .ok (.lreturn, 1) := by decide +kernel
theorem dX10_count_106 : decode cX10_count 106 = .ok (.aload_n 0, 1) := by decide +kernel
theorem dX10_count_107 : decode cX10_count 107 = .ok (.getfield 82, 3) := by decide +kernel
theorem dX10_count_110 : decode cX10_count 110 = .ok (.getfield 175, 3) := by decide +kernel
theorem dX10_count_113 : decode cX10_count 113 = .ok (.lreturn, 1) := by decide +kernel
theorem dX10_count_114 : decode cX10_count 114 = .ok (.aload_n 0, 1) := by decide +kernel
theorem dX10_count_115 : decode cX10_count 115 = .ok (.getfield 48, 3) := by decide +kernel
theorem dX10_count_118 : decode cX10_count 118 = .ok (.getfield 178, 3) := by decide +kernel
theorem dX10_count_121 : decode cX10_count 121 = .ok (.lreturn, 1) := by decide +kernel
theorem dX10_count_122 : decode cX10_count 122 = .ok (.aload_n 0, 1) := by decide +kernel
theorem dX10_count_123 : decode cX10_count 123 = .ok (.getfield 39, 3) := by decide +kernel
theorem dX10_count_126 : decode cX10_count 126 = .ok (.getfield 181, 3) := by decide +kernel
theorem dX10_count_129 : decode cX10_count 129 = .ok (.lreturn, 1) := by decide +kernel
theorem dX10_count_130 : decode cX10_count 130 = .ok (.ldc2_w 184, 3) := by decide +kernel
theorem dX10_count_133 : decode cX10_count 133 = .ok (.lreturn, 1) := by decide +kernel
theorem dX10_look_0 : decode cX10_look 0 = .ok (.iload_n 1, 1) := by decide +kernel
theorem dX10_look_1 : decode cX10_look 1 = .ok (.bipush 16, 2) := by decide +kernel
theorem dX10_look_3 : decode cX10_look 3 = .ok (.if_icmp .lt 21, 3) := by decide +kernel
theorem dX10_look_6 : decode cX10_look 6 = .ok (.iload_n 1, 1) := by decide +kernel
theorem dX10_look_7 : decode cX10_look 7 = .ok (.bipush 31, 2) := by decide +kernel
theorem dX10_look_9 : decode cX10_look 9 = .ok (.if_icmp .gt 15, 3) := by decide +kernel
theorem dX10_look_12 : decode cX10_look 12 = .ok (.aload_n 0, 1) := by decide +kernel
theorem dX10_look_13 : decode cX10_look 13 = .ok (.getfield 64, 3) := by decide +kernel
theorem dX10_look_16 : decode cX10_look 16 = .ok (.iload_n 1, 1) := by decide +kernel
theorem dX10_look_17 : decode cX10_look 17 = .ok (.bipush 16, 2) := by decide +kernel
theorem dX10_look_19 : decode cX10_look 19 = .ok (.isub, 1) := by decide +kernel
theorem dX10_look_20 : decode cX10_look 20 = .ok (.invokevirtual 186, 3) := by decide +kernel
theorem dX10_look_23 : decode cX10_look 23 = .ok (.ireturn, 1) := by decide +kernel
theorem dX10_look_24 : decode cX10_look 24 = .ok (.iload_n 1, 1) := by decide +kernel
theorem dX10_look_25 : decode cX10_look 25 = .ok (.tableswitch 205 0 13 #[71, 79, 87, 95, 103, 111, 119, 127, 138, 149, 157, 165, 173, 189], 71) := by decide +kernel
theorem dX10_look_96 : decode cX10_look 96 = .ok (.aload_n 0, 1) := by decide +kernel
theorem dX10_look_97 : decode cX10_look 97 = .ok (.getfield 64, 3) := by decide +kernel
theorem dX10_look_100 : decode cX10_look 100 = .ok (.getfield 189, 3) := by decide +kernel
theorem dX10_look_103 : decode cX10_look 103 = .ok (.ireturn, 1) := by decide +kernel
theorem dX10_look_104 : decode cX10_look 104 = .ok (.aload_n 0, 1) := by decide +kernel
theorem dX10_look_105 : decode cX10_look 105 = .ok (.getfield 64, 3) := by decide +kernel
theorem dX10_look_108 : decode cX10_look 108 = .ok (.getfield 192, 3) := by decide +kernel
theorem dX10_look_111 : decode cX10_look 111 = .ok (.ireturn, 1) := by decide +kernel
theorem dX10_look_112 : decode cX10_look 112 = .ok (.aload_n 0, 1) := by decide +kernel
theorem dX10_look_113 : decode cX10_look 113 = .ok (.getfield 23, 3) := by decide +kernel
theorem dX10_look_116 : decode cX10_look 116 = .ok (.getfield 195, 3) := by decide +kernel
theorem dX10_look_119 : decode cX10_look 119 = .ok (.ireturn, 1) := by decide +kernel
theorem dX10_look_120 : decode cX10_look 120 = .ok (.aload_n 0, 1) := by decide +kernel
theorem dX10_look_121 : decode cX10_look 121 = .ok (.getfield 64, 3) := by decide +kernel
theorem dX10_look_124 : decode cX10_look 124 = .ok (.getfield 198, 3) := by decide +kernel
theorem dX10_look_127 : decode cX10_look 127 = .ok (.ireturn, 1) := by decide +kernel
theorem dX10_look_128 : decode cX10_look 128 = .ok (.aload_n 0, 1) := by decide +kernel
theorem dX10_look_129 : decode cX10_look 129 = .ok (.getfield 64, 3) := by decide +kernel
theorem dX10_look_132 : decode cX10_look 132 = .ok (.getfield 201, 3) := by decide +kernel
theorem dX10_look_135 : decode cX10_look 135 = .ok (.ireturn, 1) := by decide +kernel
theorem dX10_look_136 : decode cX10_look 136 = .ok (.aload_n 0, 1) := by decide +kernel
theorem dX10_look_137 : decode cX10_look 137 = .ok (.getfield 64, 3) := by decide +kernel
theorem dX10_look_140 : decode cX10_look 140 = .ok (.getfield 204, 3) := by decide +kernel
theorem dX10_look_143 : decode cX10_look 143 = .ok (.ireturn, 1) := by decide +kernel
theorem dX10_look_144 : decode cX10_look 144 = .ok (.aload_n 0, 1) := by decide +kernel
theorem dX10_look_145 : decode cX10_look 145 = .ok (.getfield 64, 3) := by decide +kernel
theorem dX10_look_148 : decode cX10_look 148 = .ok (.getfield 207, 3) := by decide +kernel
theorem dX10_look_151 : decode cX10_look 151 = .ok (.ireturn, 1) := by decide +kernel
theorem dX10_look_152 : decode cX10_look 152 = .ok (.aload_n 0, 1) := by decide +kernel
theorem dX10_look_153 : decode cX10_look 153 = .ok (.getfield 57, 3) := by decide +kernel
theorem dX10_look_156 : decode cX10_look 156 = .ok (.getfield 210, 3) := by decide +kernel
theorem dX10_look_159 : decode cX10_look 159 = .ok (.getfield 214, 3) := by decide +kernel
theorem dX10_look_162 : decode cX10_look 162 = .ok (.ireturn, 1) := by decide +kernel
theorem dX10_look_163 : decode cX10_look 163 = .ok (.aload_n 0, 1) := by decide +kernel
theorem dX10_look_164 : decode cX10_look 164 = .ok (.getfield 57, 3) := by decide +kernel
theorem dX10_look_167 : decode cX10_look 167 = .ok (.getfield 219, 3) := by decide +kernel
theorem dX10_look_170 : decode cX10_look 170 = .ok (.getfield 214, 3) := by decide +kernel
theorem dX10_look_173 : decode cX10_look 173 = .ok (.ireturn, 1) := by decide +kernel
theorem dX10_look_174 : decode cX10_look 174 = .ok (.aload_n 0, 1) := by decide +kernel
theorem dX10_look_175 : decode cX10_look 175 = .ok (.getfield 48, 3) := by decide +kernel
theorem dX10_look_178 : decode cX10_look 178 = .ok (.getfield 222, 3) := by decide +kernel
theorem dX10_look_181 : decode cX10_look 181 = .ok (.ireturn, 1) := by decide +kernel
theorem dX10_look_182 : decode cX10_look 182 = .ok (.aload_n 0, 1) := by decide +kernel
theorem dX10_look_183 : decode cX10_look 183 = .ok (.getfield 39, 3) := by decide +kernel
theorem dX10_look_186 : decode cX10_look 186 = .ok (.getfield 225, 3) := by decide +kernel
theorem dX10_look_189 : decode cX10_look 189 = .ok (.ireturn, 1) := by decide +kernel
theorem dX10_look_190 : decode cX10_look 190 = .ok (.aload_n 0, 1) := by decide +kernel
theorem dX10_look_191 : decode cX10_look 191 = .ok (.getfield 64, 3) := by decide +kernel
theorem dX10_look_194 : decode cX10_look 194 = .ok (.getfield 226, 3) := by decide +kernel
theorem dX10_look_197 : decode cX10_look 197 = .ok (.ireturn, 1) := by decide +kernel
theorem dX10_look_198 : decode cX10_look 198 = .ok (.aload_n 0, 1) := by decide +kernel
theorem dX10_look_199 : decode cX10_look 199 = .ok (.getfield 30, 3) := by decide +kernel
theorem dX10_look_202 : decode cX10_look 202 = .ok (.invokevirtual 227, 3) := by decide +kernel
theorem dX10_look_205 : decode cX10_look 205 = .ok (.ifCond .eq 7, 3) := by decide +kernel
theorem dX10_look_208 : decode cX10_look 208 = .ok (.iconst 1, 1) := by decide +kernel
theorem dX10_look_209 : decode cX10_look 209 = .ok (.goto 4, 3) := by decide +kernel
theorem dX10_look_212 : decode cX10_look 212 = .ok (.iconst 0, 1) := by decide +kernel
theorem dX10_look_213 : decode cX10_look 213 = .ok (.ireturn, 1) := by decide +kernel
theorem dX10_look_214 : decode cX10_look 214 = .ok (.aload_n 0, 1) := by decide +kernel
theorem dX10_look_215 : decode cX10_look 215 = .ok (.getfield 30, 3) := by decide +kernel
theorem dX10_look_218 : decode cX10_look 218 = .ok (.invokevirtual 230, 3) := by decide +kernel
theorem dX10_look_221 : decode cX10_look 221 = .ok (.ifCond .eq 7, 3) := by decide +kernel
theorem dX10_look_224 : decode cX10_look 224 = .ok (.iconst 1, 1) := by decide +kernel
theorem dX10_look_225 : decode cX10_look 225 = .ok (.goto 4, 3) := by decide +kernel
theorem dX10_look_228 : decode cX10_look 228 = .ok (.iconst 0, 1) := by decide +kernel
theorem dX10_look_229 : decode cX10_look 229 = .ok (.ireturn, 1) := by decide +kernel
theorem dX10_look_230 : decode cX10_look 230 = .ok (.iconst (-1), 1) := by decide +kernel
theorem dX10_look_231 : decode cX10_look 231 = .ok (.ireturn, 1) := by decide +kernel
theorem dX10_place_0 : decode cX10_place 0 = .ok (.iload_n 1, 1) := by decide +kernel
theorem dX10_place_1 : decode cX10_place 1 = .ok (.ifCond .lt 19, 3) := by decide +kernel
theorem dX10_place_4 : decode cX10_place 4 = .ok (.iload_n 1, 1) := by decide +kernel
theorem dX10_place_5 : decode cX10_place 5 = .ok (.bipush 64, 2) := by decide +kernel
theorem dX10_place_7 : decode cX10_place 7 = .ok (.if_icmp .ge 13, 3) := by decide +kernel
theorem dX10_place_10 : decode cX10_place 10 = .ok (.iload_n 2, 1) := by decide +kernel
theorem dX10_place_11 : decode cX10_place 11 = .ok (.ifCond .lt 9, 3) := by decide +kernel
theorem dX10_place_14 : decode cX10_place 14 = .ok (.iload_n 2, 1) := by decide +kernel
theorem dX10_place_15 : decode cX10_place 15 = .ok (.bipush 32, 2) := by decide +kernel
theorem dX10_place_17 : decode cX10_place 17 = .ok (.if_icmp .lt 5, 3) := by decide +kernel
theorem dX10_place_20 : decode cX10_place 20 = .ok (.iconst (-1), 1) := by decide +kernel
theorem dX10_place_21 : decode cX10_place 21 = .ok (.ireturn, 1) := by decide +kernel
theorem dX10_place_22 : decode cX10_place 22 = .ok (.aload_n 0, 1) := by decide +kernel
theorem dX10_place_23 : decode cX10_place 23 = .ok (.getfield 64, 3) := by decide +kernel
theorem dX10_place_26 : decode cX10_place 26 = .ok (.iload_n 2, 1) := by decide +kernel
theorem dX10_place_27 : decode cX10_place 27 = .ok (.bipush 64, 2) := by decide +kernel
theorem dX10_place_29 : decode cX10_place 29 = .ok (.imul, 1) := by decide +kernel
theorem dX10_place_30 : decode cX10_place 30 = .ok (.iload_n 1, 1) := by decide +kernel
theorem dX10_place_31 : decode cX10_place 31 = .ok (.iadd, 1) := by decide +kernel
theorem dX10_place_32 : decode cX10_place 32 = .ok (.invokevirtual 233, 3) := by decide +kernel
theorem dX10_place_35 : decode cX10_place 35 = .ok (.ireturn, 1) := by decide +kernel
theorem dX10_letter_0 : decode cX10_letter 0 = .ok (.aload_n 0, 1) := by decide +kernel
theorem dX10_letter_1 : decode cX10_letter 1 = .ok (.getfield 39, 3) := by decide +kernel
theorem dX10_letter_4 : decode cX10_letter 4 = .ok (.iload_n 1, 1) := by decide +kernel
theorem dX10_letter_5 : decode cX10_letter 5 = .ok (.invokevirtual 236, 3) := by decide +kernel
theorem dX10_letter_8 : decode cX10_letter 8 = .ok (.ireturn, 1) := by decide +kernel
theorem dX10_beginAnew_0 : decode cX10_beginAnew 0 = .ok (.aload_n 0, 1) := by decide +kernel
theorem dX10_beginAnew_1 : decode cX10_beginAnew 1 = .ok (.getfield 16, 3) := by decide +kernel
theorem dX10_beginAnew_4 : decode cX10_beginAnew 4 = .ok (.invokevirtual 239, 3) := by decide +kernel
theorem dX10_beginAnew_7 : decode cX10_beginAnew 7 = .ok (.aload_n 0, 1) := by decide +kernel
theorem dX10_beginAnew_8 : decode cX10_beginAnew 8 = .ok (.getfield 23, 3) := by decide +kernel
theorem dX10_beginAnew_11 : decode cX10_beginAnew 11 = .ok (.invokevirtual 242, 3) := by decide +kernel
theorem dX10_beginAnew_14 : decode cX10_beginAnew 14 = .ok (.aload_n 0, 1) := by decide +kernel
theorem dX10_beginAnew_15 : decode cX10_beginAnew 15 = .ok (.getfield 30, 3) := by decide +kernel
theorem dX10_beginAnew_18 : decode cX10_beginAnew 18 = .ok (.invokevirtual 243, 3) := by decide +kernel
theorem dX10_beginAnew_21 : decode cX10_beginAnew 21 = .ok (.aload_n 0, 1) := by decide +kernel
theorem dX10_beginAnew_22 : decode cX10_beginAnew 22 = .ok (.getfield 39, 3) := by decide +kernel
theorem dX10_beginAnew_25 : decode cX10_beginAnew 25 = .ok (.invokevirtual 244, 3) := by decide +kernel
theorem dX10_beginAnew_28 : decode cX10_beginAnew 28 = .ok (.aload_n 0, 1) := by decide +kernel
theorem dX10_beginAnew_29 : decode cX10_beginAnew 29 = .ok (.getfield 48, 3) := by decide +kernel
theorem dX10_beginAnew_32 : decode cX10_beginAnew 32 = .ok (.invokevirtual 245, 3) := by decide +kernel
theorem dX10_beginAnew_35 : decode cX10_beginAnew 35 = .ok (.aload_n 0, 1) := by decide +kernel
theorem dX10_beginAnew_36 : decode cX10_beginAnew 36 = .ok (.getfield 57, 3) := by decide +kernel
theorem dX10_beginAnew_39 : decode cX10_beginAnew 39 = .ok (.invokevirtual 246, 3) := by decide +kernel
theorem dX10_beginAnew_42 : decode cX10_beginAnew 42 = .ok (.aload_n 0, 1) := by decide +kernel
theorem dX10_beginAnew_43 : decode cX10_beginAnew 43 = .ok (.getfield 64, 3) := by decide +kernel
theorem dX10_beginAnew_46 : decode cX10_beginAnew 46 = .ok (.invokevirtual 247, 3) := by decide +kernel
theorem dX10_beginAnew_49 : decode cX10_beginAnew 49 = .ok (.return_, 1) := by decide +kernel
theorem dX10_isAtStop_0 : decode cX10_isAtStop 0 = .ok (.aload_n 0, 1) := by decide +kernel
theorem dX10_isAtStop_1 : decode cX10_isAtStop 1 = .ok (.getfield 16, 3) := by decide +kernel
theorem dX10_isAtStop_4 : decode cX10_isAtStop 4 = .ok (.invokevirtual 248, 3) := by decide +kernel
theorem dX10_isAtStop_7 : decode cX10_isAtStop 7 = .ok (.aload_n 0, 1) := by decide +kernel
theorem dX10_isAtStop_8 : decode cX10_isAtStop 8 = .ok (.getfield 86, 3) := by decide +kernel
theorem dX10_isAtStop_11 : decode cX10_isAtStop 11 = .ok (.if_icmp .ne 7, 3) := by decide +kernel
theorem dX10_isAtStop_14 : decode cX10_isAtStop 14 = .ok (.iconst 1, 1) := by decide +kernel
theorem dX10_isAtStop_15 : decode cX10_isAtStop 15 = .ok (.goto 4, 3) := by decide +kernel
theorem dX10_isAtStop_18 : decode cX10_isAtStop 18 = .ok (.iconst 0, 1) := by decide +kernel
theorem dX10_isAtStop_19 : decode cX10_isAtStop 19 = .ok (.ireturn, 1) := by decide +kernel
theorem dX10_oneStep_0 : decode cX10_oneStep 0 = .ok (.aload_n 0, 1) := by decide +kernel
theorem dX10_oneStep_1 : decode cX10_oneStep 1 = .ok (.getfield 82, 3) := by decide +kernel
theorem dX10_oneStep_4 : decode cX10_oneStep 4 = .ok (.invokevirtual 251, 3) := by decide +kernel
theorem dX10_oneStep_7 : decode cX10_oneStep 7 = .ok (.istore_n 1, 1) := by decide +kernel
theorem dX10_oneStep_8 : decode cX10_oneStep 8 = .ok (.iload_n 1, 1) := by decide +kernel
theorem dX10_oneStep_9 : decode cX10_oneStep 9 = .ok (.iconst (-1), 1) := by decide +kernel
theorem dX10_oneStep_10 : decode cX10_oneStep 10 = .ok (.if_icmp .ne 13, 3) := by decide +kernel
theorem dX10_oneStep_13 : decode cX10_oneStep 13 = .ok (.aload_n 0, 1) := by decide +kernel
theorem dX10_oneStep_14 : decode cX10_oneStep 14 = .ok (.getfield 82, 3) := by decide +kernel
theorem dX10_oneStep_17 : decode cX10_oneStep 17 = .ok (.invokevirtual 254, 3) := by decide +kernel
theorem dX10_oneStep_20 : decode cX10_oneStep 20 = .ok (.goto 11, 3) := by decide +kernel
theorem dX10_oneStep_23 : decode cX10_oneStep 23 = .ok (.aload_n 0, 1) := by decide +kernel
theorem dX10_oneStep_24 : decode cX10_oneStep 24 = .ok (.getfield 82, 3) := by decide +kernel
theorem dX10_oneStep_27 : decode cX10_oneStep 27 = .ok (.iload_n 1, 1) := by decide +kernel
theorem dX10_oneStep_28 : decode cX10_oneStep 28 = .ok (.invokevirtual 257, 3) := by decide +kernel
theorem dX10_oneStep_31 : decode cX10_oneStep 31 = .ok (.istore_n 2, 1) := by decide +kernel
theorem dX10_oneStep_32 : decode cX10_oneStep 32 = .ok (.aload_n 0, 1) := by decide +kernel
theorem dX10_oneStep_33 : decode cX10_oneStep 33 = .ok (.dup, 1) := by decide +kernel
theorem dX10_oneStep_34 : decode cX10_oneStep 34 = .ok (.getfield 169, 3) := by decide +kernel
theorem dX10_oneStep_37 : decode cX10_oneStep 37 = .ok (.lconst 1, 1) := by decide +kernel
theorem dX10_oneStep_38 : decode cX10_oneStep 38 = .ok (.ladd, 1) := by decide +kernel
theorem dX10_oneStep_39 : decode cX10_oneStep 39 = .ok (.putfield 169, 3) := by decide +kernel
theorem dX10_oneStep_42 : decode cX10_oneStep 42 = .ok (.aload_n 0, 1) := by decide +kernel
theorem dX10_oneStep_43 : decode cX10_oneStep 43 = .ok (.dup, 1) := by decide +kernel
theorem dX10_oneStep_44 : decode cX10_oneStep 44 = .ok (.getfield 165, 3) := by decide +kernel
theorem dX10_oneStep_47 : decode cX10_oneStep 47 = .ok (.iload_n 2, 1) := by decide +kernel
theorem dX10_oneStep_48 : decode cX10_oneStep 48 = .ok (.i2l, 1) := by decide +kernel
theorem dX10_oneStep_49 : decode cX10_oneStep 49 = .ok (.ladd, 1) := by decide +kernel
theorem dX10_oneStep_50 : decode cX10_oneStep 50 = .ok (.putfield 165, 3) := by decide +kernel
theorem dX10_oneStep_53 : decode cX10_oneStep 53 = .ok (.aload_n 0, 1) := by decide +kernel
theorem dX10_oneStep_54 : decode cX10_oneStep 54 = .ok (.iload_n 2, 1) := by decide +kernel
theorem dX10_oneStep_55 : decode cX10_oneStep 55 = .ok (.invokevirtual 260, 3) := by decide +kernel
theorem dX10_oneStep_58 : decode cX10_oneStep 58 = .ok (.iload_n 2, 1) := by decide +kernel
theorem dX10_oneStep_59 : decode cX10_oneStep 59 = .ok (.ireturn, 1) := by decide +kernel
theorem dX10_devicesGoOn_0 : decode cX10_devicesGoOn 0 = .ok (.aload_n 0, 1) := by decide +kernel
theorem dX10_devicesGoOn_1 : decode cX10_devicesGoOn 1 = .ok (.getfield 57, 3) := by decide +kernel
theorem dX10_devicesGoOn_4 : decode cX10_devicesGoOn 4 = .ok (.iload_n 1, 1) := by decide +kernel
theorem dX10_devicesGoOn_5 : decode cX10_devicesGoOn 5 = .ok (.invokevirtual 264, 3) := by decide +kernel
theorem dX10_devicesGoOn_8 : decode cX10_devicesGoOn 8 = .ok (.aload_n 0, 1) := by decide +kernel
theorem dX10_devicesGoOn_9 : decode cX10_devicesGoOn 9 = .ok (.getfield 39, 3) := by decide +kernel
theorem dX10_devicesGoOn_12 : decode cX10_devicesGoOn 12 = .ok (.iload_n 1, 1) := by decide +kernel
theorem dX10_devicesGoOn_13 : decode cX10_devicesGoOn 13 = .ok (.invokevirtual 267, 3) := by decide +kernel
theorem dX10_devicesGoOn_16 : decode cX10_devicesGoOn 16 = .ok (.aload_n 0, 1) := by decide +kernel
theorem dX10_devicesGoOn_17 : decode cX10_devicesGoOn 17 = .ok (.getfield 48, 3) := by decide +kernel
theorem dX10_devicesGoOn_20 : decode cX10_devicesGoOn 20 = .ok (.getfield 222, 3) := by decide +kernel
theorem dX10_devicesGoOn_23 : decode cX10_devicesGoOn 23 = .ok (.aload_n 0, 1) := by decide +kernel
theorem dX10_devicesGoOn_24 : decode cX10_devicesGoOn 24 = .ok (.getfield 64, 3) := by decide +kernel
theorem dX10_devicesGoOn_27 : decode cX10_devicesGoOn 27 = .ok (.getfield 226, 3) := by decide +kernel
theorem dX10_devicesGoOn_30 : decode cX10_devicesGoOn 30 = .ok (.if_icmp .gt 22, 3) := by decide +kernel
theorem dX10_devicesGoOn_33 : decode cX10_devicesGoOn 33 = .ok (.aload_n 0, 1) := by decide +kernel
theorem dX10_devicesGoOn_34 : decode cX10_devicesGoOn 34 = .ok (.getfield 48, 3) := by decide +kernel
theorem dX10_devicesGoOn_37 : decode cX10_devicesGoOn 37 = .ok (.iload_n 1, 1) := by decide +kernel
theorem dX10_devicesGoOn_38 : decode cX10_devicesGoOn 38 = .ok (.invokevirtual 268, 3) := by decide +kernel
theorem dX10_devicesGoOn_41 : decode cX10_devicesGoOn 41 = .ok (.aload_n 0, 1) := by decide +kernel
theorem dX10_devicesGoOn_42 : decode cX10_devicesGoOn 42 = .ok (.getfield 64, 3) := by decide +kernel
theorem dX10_devicesGoOn_45 : decode cX10_devicesGoOn 45 = .ok (.iload_n 1, 1) := by decide +kernel
theorem dX10_devicesGoOn_46 : decode cX10_devicesGoOn 46 = .ok (.invokevirtual 269, 3) := by decide +kernel
theorem dX10_devicesGoOn_49 : decode cX10_devicesGoOn 49 = .ok (.goto 19, 3) := by decide +kernel
theorem dX10_devicesGoOn_52 : decode cX10_devicesGoOn 52 = .ok (.aload_n 0, 1) := by decide +kernel
theorem dX10_devicesGoOn_53 : decode cX10_devicesGoOn 53 = .ok (.getfield 64, 3) := by decide +kernel
theorem dX10_devicesGoOn_56 : decode cX10_devicesGoOn 56 = .ok (.iload_n 1, 1) := by decide +kernel
theorem dX10_devicesGoOn_57 : decode cX10_devicesGoOn 57 = .ok (.invokevirtual 269, 3) := by decide +kernel
theorem dX10_devicesGoOn_60 : decode cX10_devicesGoOn 60 = .ok (.aload_n 0, 1) := by decide +kernel
theorem dX10_devicesGoOn_61 : decode cX10_devicesGoOn 61 = .ok (.getfield 48, 3) := by decide +kernel
theorem dX10_devicesGoOn_64 : decode cX10_devicesGoOn 64 = .ok (.iload_n 1, 1) := by decide +kernel
theorem dX10_devicesGoOn_65 : decode cX10_devicesGoOn 65 = .ok (.invokevirtual 268, 3) := by decide +kernel
theorem dX10_devicesGoOn_68 : decode cX10_devicesGoOn 68 = .ok (.return_, 1) := by decide +kernel
theorem dJ6_bitCount_0f7a4_0 : decode cJ6_bitCount_0f7a4 0 = .ok (.iload_n 0, 1) := by decide +kernel
theorem dJ6_bitCount_0f7a4_1 : decode cJ6_bitCount_0f7a4 1 = .ok (.iload_n 0, 1) := by decide +kernel
theorem dJ6_bitCount_0f7a4_2 : decode cJ6_bitCount_0f7a4 2 = .ok (.iconst 1, 1) := by decide +kernel
theorem dJ6_bitCount_0f7a4_3 : decode cJ6_bitCount_0f7a4 3 = .ok (.iushr, 1) := by decide +kernel
theorem dJ6_bitCount_0f7a4_4 : decode cJ6_bitCount_0f7a4 4 = .ok (.ldc_w 265, 3) := by decide +kernel
theorem dJ6_bitCount_0f7a4_7 : decode cJ6_bitCount_0f7a4 7 = .ok (.iand, 1) := by decide +kernel
theorem dJ6_bitCount_0f7a4_8 : decode cJ6_bitCount_0f7a4 8 = .ok (.isub, 1) := by decide +kernel
theorem dJ6_bitCount_0f7a4_9 : decode cJ6_bitCount_0f7a4 9 = .ok (.istore_n 0, 1) := by decide +kernel
theorem dJ6_bitCount_0f7a4_10 : decode cJ6_bitCount_0f7a4 10 = .ok (.iload_n 0, 1) := by decide +kernel
theorem dJ6_bitCount_0f7a4_11 : decode cJ6_bitCount_0f7a4 11 = .ok (.ldc_w 266, 3) := by decide +kernel
theorem dJ6_bitCount_0f7a4_14 : decode cJ6_bitCount_0f7a4 14 = .ok (.iand, 1) := by decide +kernel
theorem dJ6_bitCount_0f7a4_15 : decode cJ6_bitCount_0f7a4 15 = .ok (.iload_n 0, 1) := by decide +kernel
theorem dJ6_bitCount_0f7a4_16 : decode cJ6_bitCount_0f7a4 16 = .ok (.iconst 2, 1) := by decide +kernel
theorem dJ6_bitCount_0f7a4_17 : decode cJ6_bitCount_0f7a4 17 = .ok (.iushr, 1) := by decide +kernel
theorem dJ6_bitCount_0f7a4_18 : decode cJ6_bitCount_0f7a4 18 = .ok (.ldc_w 266, 3) := by decide +kernel
theorem dJ6_bitCount_0f7a4_21 : decode cJ6_bitCount_0f7a4 21 = .ok (.iand, 1) := by decide +kernel
theorem dJ6_bitCount_0f7a4_22 : decode cJ6_bitCount_0f7a4 22 = .ok (.iadd, 1) := by decide +kernel
theorem dJ6_bitCount_0f7a4_23 : decode cJ6_bitCount_0f7a4 23 = .ok (.istore_n 0, 1) := by decide +kernel
theorem dJ6_bitCount_0f7a4_24 : decode cJ6_bitCount_0f7a4 24 = .ok (.iload_n 0, 1) := by decide +kernel
theorem dJ6_bitCount_0f7a4_25 : decode cJ6_bitCount_0f7a4 25 = .ok (.iload_n 0, 1) := by decide +kernel
theorem dJ6_bitCount_0f7a4_26 : decode cJ6_bitCount_0f7a4 26 = .ok (.iconst 4, 1) := by decide +kernel
theorem dJ6_bitCount_0f7a4_27 : decode cJ6_bitCount_0f7a4 27 = .ok (.iushr, 1) := by decide +kernel
theorem dJ6_bitCount_0f7a4_28 : decode cJ6_bitCount_0f7a4 28 = .ok (.iadd, 1) := by decide +kernel
theorem dJ6_bitCount_0f7a4_29 : decode cJ6_bitCount_0f7a4 29 = .ok (.ldc_w 267, 3) := by decide +kernel
theorem dJ6_bitCount_0f7a4_32 : decode cJ6_bitCount_0f7a4 32 = .ok (.iand, 1) := by decide +kernel
theorem dJ6_bitCount_0f7a4_33 : decode cJ6_bitCount_0f7a4 33 = .ok (.istore_n 0, 1) := by decide +kernel
theorem dJ6_bitCount_0f7a4_34 : decode cJ6_bitCount_0f7a4 34 = .ok (.iload_n 0, 1) := by decide +kernel
theorem dJ6_bitCount_0f7a4_35 : decode cJ6_bitCount_0f7a4 35 = .ok (.iload_n 0, 1) := by decide +kernel
theorem dJ6_bitCount_0f7a4_36 : decode cJ6_bitCount_0f7a4 36 = .ok (.bipush 8, 2) := by decide +kernel
theorem dJ6_bitCount_0f7a4_38 : decode cJ6_bitCount_0f7a4 38 = .ok (.iushr, 1) := by decide +kernel
theorem dJ6_bitCount_0f7a4_39 : decode cJ6_bitCount_0f7a4 39 = .ok (.iadd, 1) := by decide +kernel
theorem dJ6_bitCount_0f7a4_40 : decode cJ6_bitCount_0f7a4 40 = .ok (.istore_n 0, 1) := by decide +kernel
theorem dJ6_bitCount_0f7a4_41 : decode cJ6_bitCount_0f7a4 41 = .ok (.iload_n 0, 1) := by decide +kernel
theorem dJ6_bitCount_0f7a4_42 : decode cJ6_bitCount_0f7a4 42 = .ok (.iload_n 0, 1) := by decide +kernel
theorem dJ6_bitCount_0f7a4_43 : decode cJ6_bitCount_0f7a4 43 = .ok (.bipush 16, 2) := by decide +kernel
theorem dJ6_bitCount_0f7a4_45 : decode cJ6_bitCount_0f7a4 45 = .ok (.iushr, 1) := by decide +kernel
theorem dJ6_bitCount_0f7a4_46 : decode cJ6_bitCount_0f7a4 46 = .ok (.iadd, 1) := by decide +kernel
theorem dJ6_bitCount_0f7a4_47 : decode cJ6_bitCount_0f7a4 47 = .ok (.istore_n 0, 1) := by decide +kernel
theorem dJ6_bitCount_0f7a4_48 : decode cJ6_bitCount_0f7a4 48 = .ok (.iload_n 0, 1) := by decide +kernel
theorem dJ6_bitCount_0f7a4_49 : decode cJ6_bitCount_0f7a4 49 = .ok (.bipush 63, 2) := by decide +kernel
theorem dJ6_bitCount_0f7a4_51 : decode cJ6_bitCount_0f7a4 51 = .ok (.iand, 1) := by decide +kernel
theorem dJ6_bitCount_0f7a4_52 : decode cJ6_bitCount_0f7a4 52 = .ok (.ireturn, 1) := by decide +kernel
theorem dJ9_max_7cf53_0 : decode cJ9_max_7cf53 0 = .ok (.iload_n 0, 1) := by decide +kernel
theorem dJ9_max_7cf53_1 : decode cJ9_max_7cf53 1 = .ok (.iload_n 1, 1) := by decide +kernel
theorem dJ9_max_7cf53_2 : decode cJ9_max_7cf53 2 = .ok (.if_icmp .lt 7, 3) := by decide +kernel
theorem dJ9_max_7cf53_5 : decode cJ9_max_7cf53 5 = .ok (.iload_n 0, 1) := by decide +kernel
theorem dJ9_max_7cf53_6 : decode cJ9_max_7cf53 6 = .ok (.goto 4, 3) := by decide +kernel
theorem dJ9_max_7cf53_9 : decode cJ9_max_7cf53 9 = .ok (.iload_n 1, 1) := by decide +kernel
theorem dJ9_max_7cf53_10 : decode cJ9_max_7cf53 10 = .ok (.ireturn, 1) := by decide +kernel
theorem dJ9_max_f86c9_0 : decode cJ9_max_f86c9 0 = .ok (.lload_n 0, 1) := by decide +kernel
theorem dJ9_max_f86c9_1 : decode cJ9_max_f86c9 1 = .ok (.lload_n 2, 1) := by decide +kernel
theorem dJ9_max_f86c9_2 : decode cJ9_max_f86c9 2 = .ok (.lcmp, 1) := by decide +kernel
theorem dJ9_max_f86c9_3 : decode cJ9_max_f86c9 3 = .ok (.ifCond .lt 7, 3) := by decide +kernel
theorem dJ9_max_f86c9_6 : decode cJ9_max_f86c9 6 = .ok (.lload_n 0, 1) := by decide +kernel
theorem dJ9_max_f86c9_7 : decode cJ9_max_f86c9 7 = .ok (.goto 4, 3) := by decide +kernel
theorem dJ9_max_f86c9_10 : decode cJ9_max_f86c9 10 = .ok (.lload_n 2, 1) := by decide +kernel
theorem dJ9_max_f86c9_11 : decode cJ9_max_f86c9 11 = .ok (.lreturn, 1) := by decide +kernel
theorem dJ9_min_7cf53_0 : decode cJ9_min_7cf53 0 = .ok (.iload_n 0, 1) := by decide +kernel
theorem dJ9_min_7cf53_1 : decode cJ9_min_7cf53 1 = .ok (.iload_n 1, 1) := by decide +kernel
theorem dJ9_min_7cf53_2 : decode cJ9_min_7cf53 2 = .ok (.if_icmp .gt 7, 3) := by decide +kernel
theorem dJ9_min_7cf53_5 : decode cJ9_min_7cf53 5 = .ok (.iload_n 0, 1) := by decide +kernel
theorem dJ9_min_7cf53_6 : decode cJ9_min_7cf53 6 = .ok (.goto 4, 3) := by decide +kernel
theorem dJ9_min_7cf53_9 : decode cJ9_min_7cf53 9 = .ok (.iload_n 1, 1) := by decide +kernel
theorem dJ9_min_7cf53_10 : decode cJ9_min_7cf53 10 = .ok (.ireturn, 1) := by decide +kernel
theorem dJ7_fill_53178_0 : decode cJ7_fill_53178 0 = .ok (.iconst 0, 1) := by decide +kernel
theorem dJ7_fill_53178_1 : decode cJ7_fill_53178 1 = .ok (.istore_n 2, 1) := by decide +kernel
theorem dJ7_fill_53178_2 : decode cJ7_fill_53178 2 = .ok (.aload_n 0, 1) := by decide +kernel
theorem dJ7_fill_53178_3 : decode cJ7_fill_53178 3 = .ok (.arraylength, 1) := by decide +kernel
theorem dJ7_fill_53178_4 : decode cJ7_fill_53178 4 = .ok (.istore_n 3, 1) := by decide +kernel
theorem dJ7_fill_53178_5 : decode cJ7_fill_53178 5 = .ok (.iload_n 2, 1) := by decide +kernel
theorem dJ7_fill_53178_6 : decode cJ7_fill_53178 6 = .ok (.iload_n 3, 1) := by decide +kernel
theorem dJ7_fill_53178_7 : decode cJ7_fill_53178 7 = .ok (.if_icmp .ge 13, 3) := by decide +kernel
theorem dJ7_fill_53178_10 : decode cJ7_fill_53178 10 = .ok (.aload_n 0, 1) := by decide +kernel
theorem dJ7_fill_53178_11 : decode cJ7_fill_53178 11 = .ok (.iload_n 2, 1) := by decide +kernel
theorem dJ7_fill_53178_12 : decode cJ7_fill_53178 12 = .ok (.iload_n 1, 1) := by decide +kernel
theorem dJ7_fill_53178_13 : decode cJ7_fill_53178 13 = .ok (.iastore, 1) := by decide +kernel
theorem dJ7_fill_53178_14 : decode cJ7_fill_53178 14 = .ok (.iinc 2 1, 3) := by decide +kernel
theorem dJ7_fill_53178_17 : decode cJ7_fill_53178 17 = .ok (.goto (-12), 3) := by decide +kernel
theorem dJ7_fill_53178_20 : decode cJ7_fill_53178 20 = .ok (.return_, 1) := by decide +kernel
