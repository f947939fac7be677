theorem dX0_init_0 : decode cX0_init 0 = .ok (.aload_n 0, 1) := by decide +kernel
theorem dX0_init_1 : decode cX0_init 1 = .ok (.invokespecial 3, 3) := by decide +kernel
theorem dX0_init_4 : decode cX0_init 4 = .ok (.aload_n 0, 1) := by decide +kernel
theorem dX0_init_5 : decode cX0_init 5 = .ok (.aload_n 1, 1) := by decide +kernel
theorem dX0_init_6 : decode cX0_init 6 = .ok (.putfield 9, 3) := by decide +kernel
theorem dX0_init_9 : decode cX0_init 9 = .ok (.aload_n 0, 1) := by decide +kernel
theorem dX0_init_10 : decode cX0_init 10 = .ok (.aload_n 2, 1) := by decide +kernel
theorem dX0_init_11 : decode cX0_init 11 = .ok (.putfield 15, 3) := by decide +kernel
theorem dX0_init_14 : decode cX0_init 14 = .ok (.aload_n 0, 1) := by decide +kernel
theorem dX0_init_15 : decode cX0_init 15 = .ok (.aload_n 3, 1) := by decide +kernel
theorem dX0_init_16 : decode cX0_init 16 = .ok (.putfield 19, 3) := by decide +kernel
theorem dX0_init_19 : decode cX0_init 19 = .ok (.aload_n 0, 1) := by decide +kernel
theorem dX0_init_20 : decode cX0_init 20 = .ok (.aload 4, 2) := by decide +kernel
theorem dX0_init_22 : decode cX0_init 22 = .ok (.putfield 23, 3) := by decide +kernel
theorem dX0_init_25 : decode cX0_init 25 = .ok (.aload_n 0, 1) := by decide +kernel
theorem dX0_init_26 : decode cX0_init 26 = .ok (.aload 5, 2) := by decide +kernel
theorem dX0_init_28 : decode cX0_init 28 = .ok (.putfield 27, 3) := by decide +kernel
theorem dX0_init_31 : decode cX0_init 31 = .ok (.return_, 1) := by decide +kernel
theorem dX0_find_0 : decode cX0_find 0 = .ok (.iload_n 2, 1) := by decide +kernel
theorem dX0_find_1 : decode cX0_find 1 = .ok (.ldc 31, 2) := by decide +kernel
theorem dX0_find_3 : decode cX0_find 3 = .ok (.if_icmp .ge 56, 3) := by decide +kernel
theorem dX0_find_6 : decode cX0_find 6 = .ok (.aload_n 0, 1) := by decide +kernel
theorem dX0_find_7 : decode cX0_find 7 = .ok (.getfield 15, 3) := by decide +kernel
theorem dX0_find_10 : decode cX0_find 10 = .ok (.iload_n 2, 1) := by decide +kernel
theorem dX0_find_11 : decode cX0_find 11 = .ok (.bipush 12, 2) := by decide +kernel
theorem dX0_find_13 : decode cX0_find 13 = .ok (.iushr, 1) := by decide +kernel
theorem dX0_find_14 : decode cX0_find 14 = .ok (.invokevirtual 32, 3) := by decide +kernel
theorem dX0_find_17 : decode cX0_find 17 = .ok (.istore 4, 2) := by decide +kernel
theorem dX0_find_19 : decode cX0_find 19 = .ok (.iload 4, 2) := by decide +kernel
theorem dX0_find_21 : decode cX0_find 21 = .ok (.iconst (-1), 1) := by decide +kernel
theorem dX0_find_22 : decode cX0_find 22 = .ok (.if_icmp .eq 20, 3) := by decide +kernel
theorem dX0_find_25 : decode cX0_find 25 = .ok (.iload_n 1, 1) := by decide +kernel
theorem dX0_find_26 : decode cX0_find 26 = .ok (.ifCond .ne 18, 3) := by decide +kernel
theorem dX0_find_29 : decode cX0_find 29 = .ok (.aload_n 0, 1) := by decide +kernel
theorem dX0_find_30 : decode cX0_find 30 = .ok (.getfield 15, 3) := by decide +kernel
theorem dX0_find_33 : decode cX0_find 33 = .ok (.iload 4, 2) := by decide +kernel
theorem dX0_find_35 : decode cX0_find 35 = .ok (.iload_n 3, 1) := by decide +kernel
theorem dX0_find_36 : decode cX0_find 36 = .ok (.invokevirtual 38, 3) := by decide +kernel
theorem dX0_find_39 : decode cX0_find 39 = .ok (.ifCond .ne 5, 3) := by decide +kernel
theorem dX0_find_42 : decode cX0_find 42 = .ok (.iconst (-1), 1) := by decide +kernel
theorem dX0_find_43 : decode cX0_find 43 = .ok (.ireturn, 1) := by decide +kernel
theorem dX0_find_44 : decode cX0_find 44 = .ok (.iload 4, 2) := by decide +kernel
theorem dX0_find_46 : decode cX0_find 46 = .ok (.sipush 1024, 3) := by decide +kernel
theorem dX0_find_49 : decode cX0_find 49 = .ok (.imul, 1) := by decide +kernel
theorem dX0_find_50 : decode cX0_find 50 = .ok (.iload_n 2, 1) := by decide +kernel
theorem dX0_find_51 : decode cX0_find 51 = .ok (.iconst 2, 1) := by decide +kernel
theorem dX0_find_52 : decode cX0_find 52 = .ok (.iushr, 1) := by decide +kernel
theorem dX0_find_53 : decode cX0_find 53 = .ok (.sipush 1023, 3) := by decide +kernel
theorem dX0_find_56 : decode cX0_find 56 = .ok (.iand, 1) := by decide +kernel
theorem dX0_find_57 : decode cX0_find 57 = .ok (.iadd, 1) := by decide +kernel
theorem dX0_find_58 : decode cX0_find 58 = .ok (.ireturn, 1) := by decide +kernel
theorem dX0_find_59 : decode cX0_find 59 = .ok (.iload_n 1, 1) := by decide +kernel
theorem dX0_find_60 : decode cX0_find 60 = .ok (.ifCond .ne 5, 3) := by decide +kernel
theorem dX0_find_63 : decode cX0_find 63 = .ok (.iconst (-1), 1) := by decide +kernel
theorem dX0_find_64 : decode cX0_find 64 = .ok (.ireturn, 1) := by decide +kernel
theorem dX0_find_65 : decode cX0_find 65 = .ok (.iload_n 2, 1) := by decide +kernel
theorem dX0_find_66 : decode cX0_find 66 = .ok (.ldc 42, 2) := by decide +kernel
theorem dX0_find_68 : decode cX0_find 68 = .ok (.if_icmp .ge 13, 3) := by decide +kernel
theorem dX0_find_71 : decode cX0_find 71 = .ok (.iload_n 2, 1) := by decide +kernel
theorem dX0_find_72 : decode cX0_find 72 = .ok (.iconst 2, 1) := by decide +kernel
theorem dX0_find_73 : decode cX0_find 73 = .ok (.iushr, 1) := by decide +kernel
theorem dX0_find_74 : decode cX0_find 74 = .ok (.sipush 16383, 3) := by decide +kernel
theorem dX0_find_77 : decode cX0_find 77 = .ok (.iand, 1) := by decide +kernel
theorem dX0_find_78 : decode cX0_find 78 = .ok (.goto 5, 3) := by decide +kernel
theorem dX0_find_81 : decode cX0_find 81 = .ok (.bipush (-2), 2) := by decide +kernel
theorem dX0_find_83 : decode cX0_find 83 = .ok (.ireturn, 1) := by decide +kernel
theorem dX0_fetch_0 : decode cX0_fetch 0 = .ok (.iload_n 1, 1) := by decide +kernel
theorem dX0_fetch_1 : decode cX0_fetch 1 = .ok (.invokestatic 43, 3) := by decide +kernel
theorem dX0_fetch_4 : decode cX0_fetch 4 = .ok (.ifCond .eq 12, 3) := by decide +kernel
theorem dX0_fetch_7 : decode cX0_fetch 7 = .ok (.aload_n 0, 1) := by decide +kernel
theorem dX0_fetch_8 : decode cX0_fetch 8 = .ok (.getfield 9, 3) := by decide +kernel
theorem dX0_fetch_11 : decode cX0_fetch 11 = .ok (.iload_n 1, 1) := by decide +kernel
theorem dX0_fetch_12 : decode cX0_fetch 12 = .ok (.iaload, 1) := by decide +kernel
theorem dX0_fetch_13 : decode cX0_fetch 13 = .ok (.goto 4, 3) := by decide +kernel
theorem dX0_fetch_16 : decode cX0_fetch 16 = .ok (.iconst 0, 1) := by decide +kernel
theorem dX0_fetch_17 : decode cX0_fetch 17 = .ok (.ireturn, 1) := by decide +kernel
theorem dX0_read_0 : decode cX0_read 0 = .ok (.iload_n 1, 1) := by decide +kernel
theorem dX0_read_1 : decode cX0_read 1 = .ok (.invokestatic 43, 3) := by decide +kernel
theorem dX0_read_4 : decode cX0_read 4 = .ok (.ifCond .eq 10, 3) := by decide +kernel
theorem dX0_read_7 : decode cX0_read 7 = .ok (.aload_n 0, 1) := by decide +kernel
theorem dX0_read_8 : decode cX0_read 8 = .ok (.getfield 9, 3) := by decide +kernel
theorem dX0_read_11 : decode cX0_read 11 = .ok (.iload_n 1, 1) := by decide +kernel
theorem dX0_read_12 : decode cX0_read 12 = .ok (.iaload, 1) := by decide +kernel
theorem dX0_read_13 : decode cX0_read 13 = .ok (.ireturn, 1) := by decide +kernel
theorem dX0_read_14 : decode cX0_read 14 = .ok (.iload_n 2, 1) := by decide +kernel
theorem dX0_read_15 : decode cX0_read 15 = .ok (.ldc 42, 2) := by decide +kernel
theorem dX0_read_17 : decode cX0_read 17 = .ok (.if_icmp .lt 9, 3) := by decide +kernel
theorem dX0_read_20 : decode cX0_read 20 = .ok (.iload_n 2, 1) := by decide +kernel
theorem dX0_read_21 : decode cX0_read 21 = .ok (.ldc 47, 2) := by decide +kernel
theorem dX0_read_23 : decode cX0_read 23 = .ok (.if_icmp .lt 5, 3) := by decide +kernel
theorem dX0_read_26 : decode cX0_read 26 = .ok (.iconst 0, 1) := by decide +kernel
theorem dX0_read_27 : decode cX0_read 27 = .ok (.ireturn, 1) := by decide +kernel
theorem dX0_read_28 : decode cX0_read 28 = .ok (.iload_n 2, 1) := by decide +kernel
theorem dX0_read_29 : decode cX0_read 29 = .ok (.iconst 2, 1) := by decide +kernel
theorem dX0_read_30 : decode cX0_read 30 = .ok (.iushr, 1) := by decide +kernel
theorem dX0_read_31 : decode cX0_read 31 = .ok (.ldc 48, 2) := by decide +kernel
theorem dX0_read_33 : decode cX0_read 33 = .ok (.iand, 1) := by decide +kernel
theorem dX0_read_34 : decode cX0_read 34 = .ok (.istore_n 3, 1) := by decide +kernel
theorem dX0_read_35 : decode cX0_read 35 = .ok (.aload_n 0, 1) := by decide +kernel
theorem dX0_read_36 : decode cX0_read 36 = .ok (.iload_n 3, 1) := by decide +kernel
theorem dX0_read_37 : decode cX0_read 37 = .ok (.invokevirtual 49, 3) := by decide +kernel
theorem dX0_read_40 : decode cX0_read 40 = .ok (.istore 4, 2) := by decide +kernel
theorem dX0_read_42 : decode cX0_read 42 = .ok (.iload_n 3, 1) := by decide +kernel
theorem dX0_read_43 : decode cX0_read 43 = .ok (.invokestatic 52, 3) := by decide +kernel
theorem dX0_read_46 : decode cX0_read 46 = .ok (.ifCond .eq 17, 3) := by decide +kernel
theorem dX0_read_49 : decode cX0_read 49 = .ok (.aload_n 0, 1) := by decide +kernel
theorem dX0_read_50 : decode cX0_read 50 = .ok (.getfield 19, 3) := by decide +kernel
theorem dX0_read_53 : decode cX0_read 53 = .ok (.iload_n 3, 1) := by decide +kernel
theorem dX0_read_54 : decode cX0_read 54 = .ok (.bipush 31, 2) := by decide +kernel
theorem dX0_read_56 : decode cX0_read 56 = .ok (.iand, 1) := by decide +kernel
theorem dX0_read_57 : decode cX0_read 57 = .ok (.invokevirtual 55, 3) := by decide +kernel
theorem dX0_read_60 : decode cX0_read 60 = .ok (.goto 20, 3) := by decide +kernel
theorem dX0_read_63 : decode cX0_read 63 = .ok (.iload_n 3, 1) := by decide +kernel
theorem dX0_read_64 : decode cX0_read 64 = .ok (.invokestatic 61, 3) := by decide +kernel
theorem dX0_read_67 : decode cX0_read 67 = .ok (.ifCond .eq 13, 3) := by decide +kernel
theorem dX0_read_70 : decode cX0_read 70 = .ok (.aload_n 0, 1) := by decide +kernel
theorem dX0_read_71 : decode cX0_read 71 = .ok (.getfield 23, 3) := by decide +kernel
theorem dX0_read_74 : decode cX0_read 74 = .ok (.iload_n 3, 1) := by decide +kernel
theorem dX0_read_75 : decode cX0_read 75 = .ok (.iconst 3, 1) := by decide +kernel
theorem dX0_read_76 : decode cX0_read 76 = .ok (.iand, 1) := by decide +kernel
theorem dX0_read_77 : decode cX0_read 77 = .ok (.invokevirtual 64, 3) := by decide +kernel
theorem dX0_read_80 : decode cX0_read 80 = .ok (.iload 4, 2) := by decide +kernel
theorem dX0_read_82 : decode cX0_read 82 = .ok (.ireturn, 1) := by decide +kernel
theorem dX0_deviceWord_0 : decode cX0_deviceWord 0 = .ok (.iload_n 1, 1) := by decide +kernel
theorem dX0_deviceWord_1 : decode cX0_deviceWord 1 = .ok (.invokestatic 52, 3) := by decide +kernel
theorem dX0_deviceWord_4 : decode cX0_deviceWord 4 = .ok (.ifCond .eq 15, 3) := by decide +kernel
theorem dX0_deviceWord_7 : decode cX0_deviceWord 7 = .ok (.aload_n 0, 1) := by decide +kernel
theorem dX0_deviceWord_8 : decode cX0_deviceWord 8 = .ok (.getfield 19, 3) := by decide +kernel
theorem dX0_deviceWord_11 : decode cX0_deviceWord 11 = .ok (.iload_n 1, 1) := by decide +kernel
theorem dX0_deviceWord_12 : decode cX0_deviceWord 12 = .ok (.bipush 31, 2) := by decide +kernel
theorem dX0_deviceWord_14 : decode cX0_deviceWord 14 = .ok (.iand, 1) := by decide +kernel
theorem dX0_deviceWord_15 : decode cX0_deviceWord 15 = .ok (.invokevirtual 67, 3) := by decide +kernel
theorem dX0_deviceWord_18 : decode cX0_deviceWord 18 = .ok (.ireturn, 1) := by decide +kernel
theorem dX0_deviceWord_19 : decode cX0_deviceWord 19 = .ok (.iload_n 1, 1) := by decide +kernel
theorem dX0_deviceWord_20 : decode cX0_deviceWord 20 = .ok (.invokestatic 61, 3) := by decide +kernel
theorem dX0_deviceWord_23 : decode cX0_deviceWord 23 = .ok (.ifCond .eq 16, 3) := by decide +kernel
theorem dX0_deviceWord_26 : decode cX0_deviceWord 26 = .ok (.aload_n 0, 1) := by decide +kernel
theorem dX0_deviceWord_27 : decode cX0_deviceWord 27 = .ok (.getfield 23, 3) := by decide +kernel
theorem dX0_deviceWord_30 : decode cX0_deviceWord 30 = .ok (.iload_n 1, 1) := by decide +kernel
theorem dX0_deviceWord_31 : decode cX0_deviceWord 31 = .ok (.iconst 3, 1) := by decide +kernel
theorem dX0_deviceWord_32 : decode cX0_deviceWord 32 = .ok (.iand, 1) := by decide +kernel
theorem dX0_deviceWord_33 : decode cX0_deviceWord 33 = .ok (.invokevirtual 70, 3) := by decide +kernel
theorem dX0_deviceWord_36 : decode cX0_deviceWord 36 = .ok (.goto 4, 3) := by decide +kernel
theorem dX0_deviceWord_39 : decode cX0_deviceWord 39 = .ok (.iconst 0, 1) := by decide +kernel
theorem dX0_deviceWord_40 : decode cX0_deviceWord 40 = .ok (.ireturn, 1) := by decide +kernel
theorem dX0_write_0 : decode cX0_write 0 = .ok (.iload_n 2, 1) := by decide +kernel
theorem dX0_write_1 : decode cX0_write 1 = .ok (.iconst 2, 1) := by decide +kernel
theorem dX0_write_2 : decode cX0_write 2 = .ok (.iushr, 1) := by decide +kernel
theorem dX0_write_3 : decode cX0_write 3 = .ok (.ldc 48, 2) := by decide +kernel
theorem dX0_write_5 : decode cX0_write 5 = .ok (.iand, 1) := by decide +kernel
theorem dX0_write_6 : decode cX0_write 6 = .ok (.istore 4, 2) := by decide +kernel
theorem dX0_write_8 : decode cX0_write 8 = .ok (.iload_n 1, 1) := by decide +kernel
theorem dX0_write_9 : decode cX0_write 9 = .ok (.invokestatic 43, 3) := by decide +kernel
theorem dX0_write_12 : decode cX0_write 12 = .ok (.ifCond .eq 13, 3) := by decide +kernel
theorem dX0_write_15 : decode cX0_write 15 = .ok (.aload_n 0, 1) := by decide +kernel
theorem dX0_write_16 : decode cX0_write 16 = .ok (.getfield 9, 3) := by decide +kernel
theorem dX0_write_19 : decode cX0_write 19 = .ok (.iload_n 1, 1) := by decide +kernel
theorem dX0_write_20 : decode cX0_write 20 = .ok (.iload_n 3, 1) := by decide +kernel
theorem dX0_write_21 : decode cX0_write 21 = .ok (.iastore, 1) := by decide +kernel
theorem dX0_write_22 : decode cX0_write 22 = .ok (.goto 103, 3) := by decide +kernel
theorem dX0_write_25 : decode cX0_write 25 = .ok (.iload_n 2, 1) := by decide +kernel
theorem dX0_write_26 : decode cX0_write 26 = .ok (.ldc 71, 2) := by decide +kernel
theorem dX0_write_28 : decode cX0_write 28 = .ok (.if_icmp .lt 14, 3) := by decide +kernel
theorem dX0_write_31 : decode cX0_write 31 = .ok (.aload_n 0, 1) := by decide +kernel
theorem dX0_write_32 : decode cX0_write 32 = .ok (.getfield 15, 3) := by decide +kernel
theorem dX0_write_35 : decode cX0_write 35 = .ok (.iload_n 2, 1) := by decide +kernel
theorem dX0_write_36 : decode cX0_write 36 = .ok (.invokevirtual 72, 3) := by decide +kernel
theorem dX0_write_39 : decode cX0_write 39 = .ok (.goto 86, 3) := by decide +kernel
theorem dX0_write_42 : decode cX0_write 42 = .ok (.iload_n 2, 1) := by decide +kernel
theorem dX0_write_43 : decode cX0_write 43 = .ok (.ldc 75, 2) := by decide +kernel
theorem dX0_write_45 : decode cX0_write 45 = .ok (.if_icmp .lt 11, 3) := by decide +kernel
theorem dX0_write_48 : decode cX0_write 48 = .ok (.aload_n 0, 1) := by decide +kernel
theorem dX0_write_49 : decode cX0_write 49 = .ok (.iload_n 2, 1) := by decide +kernel
theorem dX0_write_50 : decode cX0_write 50 = .ok (.invokevirtual 76, 3) := by decide +kernel
theorem dX0_write_53 : decode cX0_write 53 = .ok (.goto 72, 3) := by decide +kernel
theorem dX0_write_56 : decode cX0_write 56 = .ok (.iload_n 2, 1) := by decide +kernel
theorem dX0_write_57 : decode cX0_write 57 = .ok (.ldc 47, 2) := by decide +kernel
theorem dX0_write_59 : decode cX0_write 59 = .ok (.if_icmp .lt 14, 3) := by decide +kernel
theorem dX0_write_62 : decode cX0_write 62 = .ok (.aload_n 0, 1) := by decide +kernel
theorem dX0_write_63 : decode cX0_write 63 = .ok (.getfield 27, 3) := by decide +kernel
theorem dX0_write_66 : decode cX0_write 66 = .ok (.iload_n 3, 1) := by decide +kernel
theorem dX0_write_67 : decode cX0_write 67 = .ok (.invokevirtual 79, 3) := by decide +kernel
theorem dX0_write_70 : decode cX0_write 70 = .ok (.goto 55, 3) := by decide +kernel
theorem dX0_write_73 : decode cX0_write 73 = .ok (.iload 4, 2) := by decide +kernel
theorem dX0_write_75 : decode cX0_write 75 = .ok (.invokestatic 52, 3) := by decide +kernel
theorem dX0_write_78 : decode cX0_write 78 = .ok (.ifCond .eq 23, 3) := by decide +kernel
theorem dX0_write_81 : decode cX0_write 81 = .ok (.aload_n 0, 1) := by decide +kernel
theorem dX0_write_82 : decode cX0_write 82 = .ok (.getfield 19, 3) := by decide +kernel
theorem dX0_write_85 : decode cX0_write 85 = .ok (.iload 4, 2) := by decide +kernel
theorem dX0_write_87 : decode cX0_write 87 = .ok (.bipush 31, 2) := by decide +kernel
theorem dX0_write_89 : decode cX0_write 89 = .ok (.iand, 1) := by decide +kernel
theorem dX0_write_90 : decode cX0_write 90 = .ok (.iload_n 3, 1) := by decide +kernel
theorem dX0_write_91 : decode cX0_write 91 = .ok (.sipush 255, 3) := by decide +kernel
theorem dX0_write_94 : decode cX0_write 94 = .ok (.iand, 1) := by decide +kernel
theorem dX0_write_95 : decode cX0_write 95 = .ok (.invokevirtual 84, 3) := by decide +kernel
theorem dX0_write_98 : decode cX0_write 98 = .ok (.goto 27, 3) := by decide +kernel
theorem dX0_write_101 : decode cX0_write 101 = .ok (.iload 4, 2) := by decide +kernel
theorem dX0_write_103 : decode cX0_write 103 = .ok (.invokestatic 61, 3) := by decide +kernel
theorem dX0_write_106 : decode cX0_write 106 = .ok (.ifCond .eq 19, 3) := by decide +kernel
theorem dX0_write_109 : decode cX0_write 109 = .ok (.aload_n 0, 1) := by decide +kernel
theorem dX0_write_110 : decode cX0_write 110 = .ok (.getfield 23, 3) := by decide +kernel
theorem dX0_write_113 : decode cX0_write 113 = .ok (.iload 4, 2) := by decide +kernel
theorem dX0_write_115 : decode cX0_write 115 = .ok (.iconst 3, 1) := by decide +kernel
theorem dX0_write_116 : decode cX0_write 116 = .ok (.iand, 1) := by decide +kernel
theorem dX0_write_117 : decode cX0_write 117 = .ok (.iload_n 3, 1) := by decide +kernel
theorem dX0_write_118 : decode cX0_write 118 = .ok (.sipush 255, 3) := by decide +kernel
theorem dX0_write_121 : decode cX0_write 121 = .ok (.iand, 1) := by decide +kernel
theorem dX0_write_122 : decode cX0_write 122 = .ok (.invokevirtual 88, 3) := by decide +kernel
theorem dX0_write_125 : decode cX0_write 125 = .ok (.return_, 1) := by decide +kernel
theorem dX0_writeByte_0 : decode cX0_writeByte 0 = .ok (.iload_n 3, 1) := by decide +kernel
theorem dX0_writeByte_1 : decode cX0_writeByte 1 = .ok (.sipush 255, 3) := by decide +kernel
theorem dX0_writeByte_4 : decode cX0_writeByte 4 = .ok (.iand, 1) := by decide +kernel
theorem dX0_writeByte_5 : decode cX0_writeByte 5 = .ok (.istore 4, 2) := by decide +kernel
theorem dX0_writeByte_7 : decode cX0_writeByte 7 = .ok (.iload_n 1, 1) := by decide +kernel
theorem dX0_writeByte_8 : decode cX0_writeByte 8 = .ok (.invokestatic 43, 3) := by decide +kernel
theorem dX0_writeByte_11 : decode cX0_writeByte 11 = .ok (.ifCond .eq 40, 3) := by decide +kernel
theorem dX0_writeByte_14 : decode cX0_writeByte 14 = .ok (.iload_n 2, 1) := by decide +kernel
theorem dX0_writeByte_15 : decode cX0_writeByte 15 = .ok (.iconst 3, 1) := by decide +kernel
theorem dX0_writeByte_16 : decode cX0_writeByte 16 = .ok (.iand, 1) := by decide +kernel
theorem dX0_writeByte_17 : decode cX0_writeByte 17 = .ok (.iconst 3, 1) := by decide +kernel
theorem dX0_writeByte_18 : decode cX0_writeByte 18 = .ok (.ishl, 1) := by decide +kernel
theorem dX0_writeByte_19 : decode cX0_writeByte 19 = .ok (.istore 5, 2) := by decide +kernel
theorem dX0_writeByte_21 : decode cX0_writeByte 21 = .ok (.aload_n 0, 1) := by decide +kernel
theorem dX0_writeByte_22 : decode cX0_writeByte 22 = .ok (.getfield 9, 3) := by decide +kernel
theorem dX0_writeByte_25 : decode cX0_writeByte 25 = .ok (.iload_n 1, 1) := by decide +kernel
theorem dX0_writeByte_26 : decode cX0_writeByte 26 = .ok (.aload_n 0, 1) := by decide +kernel
theorem dX0_writeByte_27 : decode cX0_writeByte 27 = .ok (.getfield 9, 3) := by decide +kernel
theorem dX0_writeByte_30 : decode cX0_writeByte 30 = .ok (.iload_n 1, 1) := by decide +kernel
theorem dX0_writeByte_31 : decode cX0_writeByte 31 = .ok (.iaload, 1) := by decide +kernel
theorem dX0_writeByte_32 : decode cX0_writeByte 32 = .ok (.sipush 255, 3) := by decide +kernel
theorem dX0_writeByte_35 : decode cX0_writeByte 35 = .ok (.iload 5, 2) := by decide +kernel
theorem dX0_writeByte_37 : decode cX0_writeByte 37 = .ok (.ishl, 1) := by decide +kernel
theorem dX0_writeByte_38 : decode cX0_writeByte 38 = .ok (.iconst (-1), 1) := by decide +kernel
theorem dX0_writeByte_39 : decode cX0_writeByte 39 = .ok (.ixor, 1) := by decide +kernel
theorem dX0_writeByte_40 : decode cX0_writeByte 40 = .ok (.iand, 1) := by decide +kernel
theorem dX0_writeByte_41 : decode cX0_writeByte 41 = .ok (.iload 4, 2) := by decide +kernel
theorem dX0_writeByte_43 : decode cX0_writeByte 43 = .ok (.iload 5, 2) := by decide +kernel
theorem dX0_writeByte_45 : decode cX0_writeByte 45 = .ok (.ishl, 1) := by decide +kernel
theorem dX0_writeByte_46 : decode cX0_writeByte 46 = .ok (.ior, 1) := by decide +kernel
theorem dX0_writeByte_47 : decode cX0_writeByte 47 = .ok (.iastore, 1) := by decide +kernel
theorem dX0_writeByte_48 : decode cX0_writeByte 48 = .ok (.goto 14, 3) := by decide +kernel
theorem dX0_writeByte_51 : decode cX0_writeByte 51 = .ok (.aload_n 0, 1) := by decide +kernel
theorem dX0_writeByte_52 : decode cX0_writeByte 52 = .ok (.iload_n 1, 1) := by decide +kernel
theorem dX0_writeByte_53 : decode cX0_writeByte 53 = .ok (.iload_n 2, 1) := by decide +kernel
theorem dX0_writeByte_54 : decode cX0_writeByte 54 = .ok (.iload 4, 2) := by decide +kernel
theorem dX0_writeByte_56 : decode cX0_writeByte 56 = .ok (.ldc 89, 2) := by decide +kernel
theorem dX0_writeByte_58 : decode cX0_writeByte 58 = .ok (.imul, 1) := by decide +kernel
theorem dX0_writeByte_59 : decode cX0_writeByte 59 = .ok (.invokevirtual 90, 3) := by decide +kernel
theorem dX0_writeByte_62 : decode cX0_writeByte 62 = .ok (.return_, 1) := by decide +kernel
theorem dX0_isInMemory_0 : decode cX0_isInMemory 0 = .ok (.iload_n 0, 1) := by decide +kernel
theorem dX0_isInMemory_1 : decode cX0_isInMemory 1 = .ok (.ifCond .lt 14, 3) := by decide +kernel
theorem dX0_isInMemory_4 : decode cX0_isInMemory 4 = .ok (.iload_n 0, 1) := by decide +kernel
theorem dX0_isInMemory_5 : decode cX0_isInMemory 5 = .ok (.sipush 16384, 3) := by decide +kernel
theorem dX0_isInMemory_8 : decode cX0_isInMemory 8 = .ok (.if_icmp .ge 7, 3) := by decide +kernel
theorem dX0_isInMemory_11 : decode cX0_isInMemory 11 = .ok (.iconst 1, 1) := by decide +kernel
theorem dX0_isInMemory_12 : decode cX0_isInMemory 12 = .ok (.goto 4, 3) := by decide +kernel
theorem dX0_isInMemory_15 : decode cX0_isInMemory 15 = .ok (.iconst 0, 1) := by decide +kernel
theorem dX0_isInMemory_16 : decode cX0_isInMemory 16 = .ok (.ireturn, 1) := by decide +kernel
theorem dX0_isOfController_0 : decode cX0_isOfController 0 = .ok (.iload_n 0, 1) := by decide +kernel
theorem dX0_isOfController_1 : decode cX0_isOfController 1 = .ok (.bipush (-32), 2) := by decide +kernel
theorem dX0_isOfController_3 : decode cX0_isOfController 3 = .ok (.iand, 1) := by decide +kernel
theorem dX0_isOfController_4 : decode cX0_isOfController 4 = .ok (.ldc 93, 2) := by decide +kernel
theorem dX0_isOfController_6 : decode cX0_isOfController 6 = .ok (.if_icmp .ne 7, 3) := by decide +kernel
theorem dX0_isOfController_9 : decode cX0_isOfController 9 = .ok (.iconst 1, 1) := by decide +kernel
theorem dX0_isOfController_10 : decode cX0_isOfController 10 = .ok (.goto 4, 3) := by decide +kernel
theorem dX0_isOfController_13 : decode cX0_isOfController 13 = .ok (.iconst 0, 1) := by decide +kernel
theorem dX0_isOfController_14 : decode cX0_isOfController 14 = .ok (.ireturn, 1) := by decide +kernel
theorem dX0_isOfDisk_0 : decode cX0_isOfDisk 0 = .ok (.iload_n 0, 1) := by decide +kernel
theorem dX0_isOfDisk_1 : decode cX0_isOfDisk 1 = .ok (.bipush (-4), 2) := by decide +kernel
theorem dX0_isOfDisk_3 : decode cX0_isOfDisk 3 = .ok (.iand, 1) := by decide +kernel
theorem dX0_isOfDisk_4 : decode cX0_isOfDisk 4 = .ok (.sipush 16384, 3) := by decide +kernel
theorem dX0_isOfDisk_7 : decode cX0_isOfDisk 7 = .ok (.if_icmp .ne 7, 3) := by decide +kernel
theorem dX0_isOfDisk_10 : decode cX0_isOfDisk 10 = .ok (.iconst 1, 1) := by decide +kernel
theorem dX0_isOfDisk_11 : decode cX0_isOfDisk 11 = .ok (.goto 4, 3) := by decide +kernel
theorem dX0_isOfDisk_14 : decode cX0_isOfDisk 14 = .ok (.iconst 0, 1) := by decide +kernel
theorem dX0_isOfDisk_15 : decode cX0_isOfDisk 15 = .ok (.ireturn, 1) := by decide +kernel
theorem dX0_tellSetting_0 : decode cX0_tellSetting 0 = .ok (.iload_n 1, 1) := by decide +kernel
theorem dX0_tellSetting_1 : decode cX0_tellSetting 1 = .ok (.iconst 2, 1) := by decide +kernel
theorem dX0_tellSetting_2 : decode cX0_tellSetting 2 = .ok (.iushr, 1) := by decide +kernel
theorem dX0_tellSetting_3 : decode cX0_tellSetting 3 = .ok (.sipush 32767, 3) := by decide +kernel
theorem dX0_tellSetting_6 : decode cX0_tellSetting 6 = .ok (.iand, 1) := by decide +kernel
theorem dX0_tellSetting_7 : decode cX0_tellSetting 7 = .ok (.istore_n 2, 1) := by decide +kernel
theorem dX0_tellSetting_8 : decode cX0_tellSetting 8 = .ok (.iload_n 1, 1) := by decide +kernel
theorem dX0_tellSetting_9 : decode cX0_tellSetting 9 = .ok (.bipush 17, 2) := by decide +kernel
theorem dX0_tellSetting_11 : decode cX0_tellSetting 11 = .ok (.iushr, 1) := by decide +kernel
theorem dX0_tellSetting_12 : decode cX0_tellSetting 12 = .ok (.bipush 7, 2) := by decide +kernel
theorem dX0_tellSetting_14 : decode cX0_tellSetting 14 = .ok (.iand, 1) := by decide +kernel
theorem dX0_tellSetting_15 : decode cX0_tellSetting 15 = .ok (.tableswitch 107 0 7 #[45, 56, 67, 107, 107, 107, 107, 78], 45) := by decide +kernel
theorem dX0_tellSetting_60 : decode cX0_tellSetting 60 = .ok (.aload_n 0, 1) := by decide +kernel
theorem dX0_tellSetting_61 : decode cX0_tellSetting 61 = .ok (.getfield 27, 3) := by decide +kernel
theorem dX0_tellSetting_64 : decode cX0_tellSetting 64 = .ok (.iload_n 2, 1) := by decide +kernel
theorem dX0_tellSetting_65 : decode cX0_tellSetting 65 = .ok (.putfield 94, 3) := by decide +kernel
theorem dX0_tellSetting_68 : decode cX0_tellSetting 68 = .ok (.goto 54, 3) := by decide +kernel
theorem dX0_tellSetting_71 : decode cX0_tellSetting 71 = .ok (.aload_n 0, 1) := by decide +kernel
theorem dX0_tellSetting_72 : decode cX0_tellSetting 72 = .ok (.getfield 27, 3) := by decide +kernel
theorem dX0_tellSetting_75 : decode cX0_tellSetting 75 = .ok (.iload_n 2, 1) := by decide +kernel
theorem dX0_tellSetting_76 : decode cX0_tellSetting 76 = .ok (.putfield 98, 3) := by decide +kernel
theorem dX0_tellSetting_79 : decode cX0_tellSetting 79 = .ok (.goto 43, 3) := by decide +kernel
theorem dX0_tellSetting_82 : decode cX0_tellSetting 82 = .ok (.aload_n 0, 1) := by decide +kernel
theorem dX0_tellSetting_83 : decode cX0_tellSetting 83 = .ok (.getfield 27, 3) := by decide +kernel
theorem dX0_tellSetting_86 : decode cX0_tellSetting 86 = .ok (.iload_n 2, 1) := by decide +kernel
theorem dX0_tellSetting_87 : decode cX0_tellSetting 87 = .ok (.putfield 101, 3) := by decide +kernel
theorem dX0_tellSetting_90 : decode cX0_tellSetting 90 = .ok (.goto 32, 3) := by decide +kernel
theorem dX0_tellSetting_93 : decode cX0_tellSetting 93 = .ok (.aload_n 0, 1) := by decide +kernel
theorem dX0_tellSetting_94 : decode cX0_tellSetting 94 = .ok (.getfield 27, 3) := by decide +kernel
theorem dX0_tellSetting_97 : decode cX0_tellSetting 97 = .ok (.iload_n 1, 1) := by decide +kernel
theorem dX0_tellSetting_98 : decode cX0_tellSetting 98 = .ok (.bipush 10, 2) := by decide +kernel
theorem dX0_tellSetting_100 : decode cX0_tellSetting 100 = .ok (.iushr, 1) := by decide +kernel
theorem dX0_tellSetting_101 : decode cX0_tellSetting 101 = .ok (.iconst 1, 1) := by decide +kernel
theorem dX0_tellSetting_102 : decode cX0_tellSetting 102 = .ok (.iand, 1) := by decide +kernel
theorem dX0_tellSetting_103 : decode cX0_tellSetting 103 = .ok (.putfield 104, 3) := by decide +kernel
theorem dX0_tellSetting_106 : decode cX0_tellSetting 106 = .ok (.aload_n 0, 1) := by decide +kernel
theorem dX0_tellSetting_107 : decode cX0_tellSetting 107 = .ok (.getfield 15, 3) := by decide +kernel
theorem dX0_tellSetting_110 : decode cX0_tellSetting 110 = .ok (.iload_n 1, 1) := by decide +kernel
theorem dX0_tellSetting_111 : decode cX0_tellSetting 111 = .ok (.bipush 12, 2) := by decide +kernel
theorem dX0_tellSetting_113 : decode cX0_tellSetting 113 = .ok (.iushr, 1) := by decide +kernel
theorem dX0_tellSetting_114 : decode cX0_tellSetting 114 = .ok (.iconst 1, 1) := by decide +kernel
theorem dX0_tellSetting_115 : decode cX0_tellSetting 115 = .ok (.iand, 1) := by decide +kernel
theorem dX0_tellSetting_116 : decode cX0_tellSetting 116 = .ok (.putfield 107, 3) := by decide +kernel
theorem dX0_tellSetting_119 : decode cX0_tellSetting 119 = .ok (.goto 3, 3) := by decide +kernel
theorem dX0_tellSetting_122 : decode cX0_tellSetting 122 = .ok (.return_, 1) := by decide +kernel
theorem dX1_init_0 : decode cX1_init 0 = .ok (.aload_n 0, 1) := by decide +kernel
theorem dX1_init_1 : decode cX1_init 1 = .ok (.invokespecial 3, 3) := by decide +kernel
theorem dX1_init_4 : decode cX1_init 4 = .ok (.aload_n 0, 1) := by decide +kernel
theorem dX1_init_5 : decode cX1_init 5 = .ok (.new 9, 3) := by decide +kernel
theorem dX1_init_8 : decode cX1_init 8 = .ok (.dup, 1) := by decide +kernel
theorem dX1_init_9 : decode cX1_init 9 = .ok (.invokespecial 11, 3) := by decide +kernel
theorem dX1_init_12 : decode cX1_init 12 = .ok (.putfield 12, 3) := by decide +kernel
theorem dX1_init_15 : decode cX1_init 15 = .ok (.aload_n 0, 1) := by decide +kernel
theorem dX1_init_16 : decode cX1_init 16 = .ok (.new 9, 3) := by decide +kernel
theorem dX1_init_19 : decode cX1_init 19 = .ok (.dup, 1) := by decide +kernel
theorem dX1_init_20 : decode cX1_init 20 = .ok (.invokespecial 11, 3) := by decide +kernel
theorem dX1_init_23 : decode cX1_init 23 = .ok (.putfield 18, 3) := by decide +kernel
theorem dX1_init_26 : decode cX1_init 26 = .ok (.aload_n 0, 1) := by decide +kernel
theorem dX1_init_27 : decode cX1_init 27 = .ok (.aload_n 1, 1) := by decide +kernel
theorem dX1_init_28 : decode cX1_init 28 = .ok (.putfield 21, 3) := by decide +kernel
theorem dX1_init_31 : decode cX1_init 31 = .ok (.aload_n 0, 1) := by decide +kernel
theorem dX1_init_32 : decode cX1_init 32 = .ok (.aload_n 2, 1) := by decide +kernel
theorem dX1_init_33 : decode cX1_init 33 = .ok (.putfield 25, 3) := by decide +kernel
theorem dX1_init_36 : decode cX1_init 36 = .ok (.return_, 1) := by decide +kernel
theorem dX1_begin_0 : decode cX1_begin 0 = .ok (.aload_n 0, 1) := by decide +kernel
theorem dX1_begin_1 : decode cX1_begin 1 = .ok (.getfield 12, 3) := by decide +kernel
theorem dX1_begin_4 : decode cX1_begin 4 = .ok (.invokevirtual 29, 3) := by decide +kernel
theorem dX1_begin_7 : decode cX1_begin 7 = .ok (.aload_n 0, 1) := by decide +kernel
theorem dX1_begin_8 : decode cX1_begin 8 = .ok (.getfield 18, 3) := by decide +kernel
theorem dX1_begin_11 : decode cX1_begin 11 = .ok (.invokevirtual 29, 3) := by decide +kernel
theorem dX1_begin_14 : decode cX1_begin 14 = .ok (.aload_n 0, 1) := by decide +kernel
theorem dX1_begin_15 : decode cX1_begin 15 = .ok (.iconst 0, 1) := by decide +kernel
theorem dX1_begin_16 : decode cX1_begin 16 = .ok (.putfield 32, 3) := by decide +kernel
theorem dX1_begin_19 : decode cX1_begin 19 = .ok (.return_, 1) := by decide +kernel
theorem dX1_read_0 : decode cX1_read 0 = .ok (.iload_n 1, 1) := by decide +kernel
theorem dX1_read_1 : decode cX1_read 1 = .ok (.tableswitch 249 1 21 #[99, 249, 249, 107, 115, 131, 249, 139, 147, 163, 249, 171, 179, 195, 249, 203, 215, 249, 249, 226, 238], 99) := by decide +kernel
theorem dX1_read_100 : decode cX1_read 100 = .ok (.aload_n 0, 1) := by decide +kernel
theorem dX1_read_101 : decode cX1_read 101 = .ok (.getfield 25, 3) := by decide +kernel
theorem dX1_read_104 : decode cX1_read 104 = .ok (.getfield 36, 3) := by decide +kernel
theorem dX1_read_107 : decode cX1_read 107 = .ok (.ireturn, 1) := by decide +kernel
theorem dX1_read_108 : decode cX1_read 108 = .ok (.aload_n 0, 1) := by decide +kernel
theorem dX1_read_109 : decode cX1_read 109 = .ok (.getfield 21, 3) := by decide +kernel
theorem dX1_read_112 : decode cX1_read 112 = .ok (.getfield 41, 3) := by decide +kernel
theorem dX1_read_115 : decode cX1_read 115 = .ok (.ireturn, 1) := by decide +kernel
theorem dX1_read_116 : decode cX1_read 116 = .ok (.aload_n 0, 1) := by decide +kernel
theorem dX1_read_117 : decode cX1_read 117 = .ok (.getfield 21, 3) := by decide +kernel
theorem dX1_read_120 : decode cX1_read 120 = .ok (.getfield 41, 3) := by decide +kernel
theorem dX1_read_123 : decode cX1_read 123 = .ok (.aload_n 0, 1) := by decide +kernel
theorem dX1_read_124 : decode cX1_read 124 = .ok (.getfield 21, 3) := by decide +kernel
theorem dX1_read_127 : decode cX1_read 127 = .ok (.getfield 44, 3) := by decide +kernel
theorem dX1_read_130 : decode cX1_read 130 = .ok (.iand, 1) := by decide +kernel
theorem dX1_read_131 : decode cX1_read 131 = .ok (.ireturn, 1) := by decide +kernel
theorem dX1_read_132 : decode cX1_read 132 = .ok (.aload_n 0, 1) := by decide +kernel
theorem dX1_read_133 : decode cX1_read 133 = .ok (.getfield 21, 3) := by decide +kernel
theorem dX1_read_136 : decode cX1_read 136 = .ok (.getfield 44, 3) := by decide +kernel
theorem dX1_read_139 : decode cX1_read 139 = .ok (.ireturn, 1) := by decide +kernel
theorem dX1_read_140 : decode cX1_read 140 = .ok (.aload_n 0, 1) := by decide +kernel
theorem dX1_read_141 : decode cX1_read 141 = .ok (.getfield 21, 3) := by decide +kernel
theorem dX1_read_144 : decode cX1_read 144 = .ok (.getfield 47, 3) := by decide +kernel
theorem dX1_read_147 : decode cX1_read 147 = .ok (.ireturn, 1) := by decide +kernel
theorem dX1_read_148 : decode cX1_read 148 = .ok (.aload_n 0, 1) := by decide +kernel
theorem dX1_read_149 : decode cX1_read 149 = .ok (.getfield 21, 3) := by decide +kernel
theorem dX1_read_152 : decode cX1_read 152 = .ok (.getfield 47, 3) := by decide +kernel
theorem dX1_read_155 : decode cX1_read 155 = .ok (.aload_n 0, 1) := by decide +kernel
theorem dX1_read_156 : decode cX1_read 156 = .ok (.getfield 21, 3) := by decide +kernel
theorem dX1_read_159 : decode cX1_read 159 = .ok (.getfield 50, 3) := by decide +kernel
theorem dX1_read_162 : decode cX1_read 162 = .ok (.iand, 1) := by decide +kernel
theorem dX1_read_163 : decode cX1_read 163 = .ok (.ireturn, 1) := by decide +kernel
theorem dX1_read_164 : decode cX1_read 164 = .ok (.aload_n 0, 1) := by decide +kernel
theorem dX1_read_165 : decode cX1_read 165 = .ok (.getfield 21, 3) := by decide +kernel
theorem dX1_read_168 : decode cX1_read 168 = .ok (.getfield 50, 3) := by decide +kernel
theorem dX1_read_171 : decode cX1_read 171 = .ok (.ireturn, 1) := by decide +kernel
theorem dX1_read_172 : decode cX1_read 172 = .ok (.aload_n 0, 1) := by decide +kernel
theorem dX1_read_173 : decode cX1_read 173 = .ok (.getfield 21, 3) := by decide +kernel
theorem dX1_read_176 : decode cX1_read 176 = .ok (.getfield 53, 3) := by decide +kernel
theorem dX1_read_179 : decode cX1_read 179 = .ok (.ireturn, 1) := by decide +kernel
theorem dX1_read_180 : decode cX1_read 180 = .ok (.aload_n 0, 1) := by decide +kernel
theorem dX1_read_181 : decode cX1_read 181 = .ok (.getfield 21, 3) := by decide +kernel
theorem dX1_read_184 : decode cX1_read 184 = .ok (.getfield 53, 3) := by decide +kernel
theorem dX1_read_187 : decode cX1_read 187 = .ok (.aload_n 0, 1) := by decide +kernel
theorem dX1_read_188 : decode cX1_read 188 = .ok (.getfield 21, 3) := by decide +kernel
theorem dX1_read_191 : decode cX1_read 191 = .ok (.getfield 56, 3) := by decide +kernel
theorem dX1_read_194 : decode cX1_read 194 = .ok (.iand, 1) := by decide +kernel
theorem dX1_read_195 : decode cX1_read 195 = .ok (.ireturn, 1) := by decide +kernel
theorem dX1_read_196 : decode cX1_read 196 = .ok (.aload_n 0, 1) := by decide +kernel
theorem dX1_read_197 : decode cX1_read 197 = .ok (.getfield 21, 3) := by decide +kernel
theorem dX1_read_200 : decode cX1_read 200 = .ok (.getfield 56, 3) := by decide +kernel
theorem dX1_read_203 : decode cX1_read 203 = .ok (.ireturn, 1) := by decide +kernel
theorem dX1_read_204 : decode cX1_read 204 = .ok (.aload_n 0, 1) := by decide +kernel
theorem dX1_read_205 : decode cX1_read 205 = .ok (.getfield 12, 3) := by decide +kernel
theorem dX1_read_208 : decode cX1_read 208 = .ok (.getfield 59, 3) := by decide +kernel
theorem dX1_read_211 : decode cX1_read 211 = .ok (.sipush 255, 3) := by decide +kernel
theorem dX1_read_214 : decode cX1_read 214 = .ok (.iand, 1) := by decide +kernel
theorem dX1_read_215 : decode cX1_read 215 = .ok (.ireturn, 1) := by decide +kernel
theorem dX1_read_216 : decode cX1_read 216 = .ok (.aload_n 0, 1) := by decide +kernel
theorem dX1_read_217 : decode cX1_read 217 = .ok (.getfield 12, 3) := by decide +kernel
theorem dX1_read_220 : decode cX1_read 220 = .ok (.getfield 59, 3) := by decide +kernel
theorem dX1_read_223 : decode cX1_read 223 = .ok (.bipush 8, 2) := by decide +kernel
theorem dX1_read_225 : decode cX1_read 225 = .ok (.iushr, 1) := by decide +kernel
theorem dX1_read_226 : decode cX1_read 226 = .ok (.ireturn, 1) := by decide +kernel
theorem dX1_read_227 : decode cX1_read 227 = .ok (.aload_n 0, 1) := by decide +kernel
theorem dX1_read_228 : decode cX1_read 228 = .ok (.getfield 18, 3) := by decide +kernel
theorem dX1_read_231 : decode cX1_read 231 = .ok (.getfield 59, 3) := by decide +kernel
theorem dX1_read_234 : decode cX1_read 234 = .ok (.sipush 255, 3) := by decide +kernel
theorem dX1_read_237 : decode cX1_read 237 = .ok (.iand, 1) := by decide +kernel
theorem dX1_read_238 : decode cX1_read 238 = .ok (.ireturn, 1) := by decide +kernel
theorem dX1_read_239 : decode cX1_read 239 = .ok (.aload_n 0, 1) := by decide +kernel
theorem dX1_read_240 : decode cX1_read 240 = .ok (.getfield 18, 3) := by decide +kernel
theorem dX1_read_243 : decode cX1_read 243 = .ok (.getfield 59, 3) := by decide +kernel
theorem dX1_read_246 : decode cX1_read 246 = .ok (.bipush 8, 2) := by decide +kernel
theorem dX1_read_248 : decode cX1_read 248 = .ok (.iushr, 1) := by decide +kernel
theorem dX1_read_249 : decode cX1_read 249 = .ok (.ireturn, 1) := by decide +kernel
theorem dX1_read_250 : decode cX1_read 250 = .ok (.iconst 0, 1) := by decide +kernel
theorem dX1_read_251 : decode cX1_read 251 = .ok (.ireturn, 1) := by decide +kernel
theorem dX1_isRead_0 : decode cX1_isRead 0 = .ok (.iload_n 1, 1) := by decide +kernel
theorem dX1_isRead_1 : decode cX1_isRead 1 = .ok (.iconst 1, 1) := by decide +kernel
theorem dX1_isRead_2 : decode cX1_isRead 2 = .ok (.if_icmp .ne 10, 3) := by decide +kernel
theorem dX1_isRead_5 : decode cX1_isRead 5 = .ok (.aload_n 0, 1) := by decide +kernel
theorem dX1_isRead_6 : decode cX1_isRead 6 = .ok (.getfield 25, 3) := by decide +kernel
theorem dX1_isRead_9 : decode cX1_isRead 9 = .ok (.invokevirtual 62, 3) := by decide +kernel
theorem dX1_isRead_12 : decode cX1_isRead 12 = .ok (.return_, 1) := by decide +kernel
theorem dX1_write_0 : decode cX1_write 0 = .ok (.iload_n 1, 1) := by decide +kernel
theorem dX1_write_1 : decode cX1_write 1 = .ok (.tableswitch 202 1 23 #[107, 202, 202, 202, 118, 139, 202, 202, 202, 150, 202, 202, 202, 161, 202, 172, 172, 172, 172, 187, 187, 187, 187], 107) := by decide +kernel
theorem dX1_write_108 : decode cX1_write 108 = .ok (.aload_n 0, 1) := by decide +kernel
theorem dX1_write_109 : decode cX1_write 109 = .ok (.getfield 25, 3) := by decide +kernel
theorem dX1_write_112 : decode cX1_write 112 = .ok (.iload_n 2, 1) := by decide +kernel
theorem dX1_write_113 : decode cX1_write 113 = .ok (.invokevirtual 65, 3) := by decide +kernel
theorem dX1_write_116 : decode cX1_write 116 = .ok (.goto 87, 3) := by decide +kernel
theorem dX1_write_119 : decode cX1_write 119 = .ok (.aload_n 0, 1) := by decide +kernel
theorem dX1_write_120 : decode cX1_write 120 = .ok (.getfield 21, 3) := by decide +kernel
theorem dX1_write_123 : decode cX1_write 123 = .ok (.dup, 1) := by decide +kernel
theorem dX1_write_124 : decode cX1_write 124 = .ok (.getfield 41, 3) := by decide +kernel
theorem dX1_write_127 : decode cX1_write 127 = .ok (.iload_n 2, 1) := by decide +kernel
theorem dX1_write_128 : decode cX1_write 128 = .ok (.bipush 104, 2) := by decide +kernel
theorem dX1_write_130 : decode cX1_write 130 = .ok (.iand, 1) := by decide +kernel
theorem dX1_write_131 : decode cX1_write 131 = .ok (.iconst (-1), 1) := by decide +kernel
theorem dX1_write_132 : decode cX1_write 132 = .ok (.ixor, 1) := by decide +kernel
theorem dX1_write_133 : decode cX1_write 133 = .ok (.iand, 1) := by decide +kernel
theorem dX1_write_134 : decode cX1_write 134 = .ok (.putfield 41, 3) := by decide +kernel
theorem dX1_write_137 : decode cX1_write 137 = .ok (.goto 66, 3) := by decide +kernel
theorem dX1_write_140 : decode cX1_write 140 = .ok (.aload_n 0, 1) := by decide +kernel
theorem dX1_write_141 : decode cX1_write 141 = .ok (.getfield 21, 3) := by decide +kernel
theorem dX1_write_144 : decode cX1_write 144 = .ok (.iload_n 2, 1) := by decide +kernel
theorem dX1_write_145 : decode cX1_write 145 = .ok (.putfield 44, 3) := by decide +kernel
theorem dX1_write_148 : decode cX1_write 148 = .ok (.goto 55, 3) := by decide +kernel
theorem dX1_write_151 : decode cX1_write 151 = .ok (.aload_n 0, 1) := by decide +kernel
theorem dX1_write_152 : decode cX1_write 152 = .ok (.getfield 21, 3) := by decide +kernel
theorem dX1_write_155 : decode cX1_write 155 = .ok (.iload_n 2, 1) := by decide +kernel
theorem dX1_write_156 : decode cX1_write 156 = .ok (.putfield 50, 3) := by decide +kernel
theorem dX1_write_159 : decode cX1_write 159 = .ok (.goto 44, 3) := by decide +kernel
theorem dX1_write_162 : decode cX1_write 162 = .ok (.aload_n 0, 1) := by decide +kernel
theorem dX1_write_163 : decode cX1_write 163 = .ok (.getfield 21, 3) := by decide +kernel
theorem dX1_write_166 : decode cX1_write 166 = .ok (.iload_n 2, 1) := by decide +kernel
theorem dX1_write_167 : decode cX1_write 167 = .ok (.putfield 56, 3) := by decide +kernel
theorem dX1_write_170 : decode cX1_write 170 = .ok (.goto 33, 3) := by decide +kernel
theorem dX1_write_173 : decode cX1_write 173 = .ok (.aload_n 0, 1) := by decide +kernel
theorem dX1_write_174 : decode cX1_write 174 = .ok (.getfield 12, 3) := by decide +kernel
theorem dX1_write_177 : decode cX1_write 177 = .ok (.iload_n 1, 1) := by decide +kernel
theorem dX1_write_178 : decode cX1_write 178 = .ok (.bipush 16, 2) := by decide +kernel
theorem dX1_write_180 : decode cX1_write 180 = .ok (.isub, 1) := by decide +kernel
theorem dX1_write_181 : decode cX1_write 181 = .ok (.iload_n 2, 1) := by decide +kernel
theorem dX1_write_182 : decode cX1_write 182 = .ok (.invokevirtual 69, 3) := by decide +kernel
theorem dX1_write_185 : decode cX1_write 185 = .ok (.goto 18, 3) := by decide +kernel
theorem dX1_write_188 : decode cX1_write 188 = .ok (.aload_n 0, 1) := by decide +kernel
theorem dX1_write_189 : decode cX1_write 189 = .ok (.getfield 18, 3) := by decide +kernel
theorem dX1_write_192 : decode cX1_write 192 = .ok (.iload_n 1, 1) := by decide +kernel
theorem dX1_write_193 : decode cX1_write 193 = .ok (.bipush 20, 2) := by decide +kernel
theorem dX1_write_195 : decode cX1_write 195 = .ok (.isub, 1) := by decide +kernel
theorem dX1_write_196 : decode cX1_write 196 = .ok (.iload_n 2, 1) := by decide +kernel
theorem dX1_write_197 : decode cX1_write 197 = .ok (.invokevirtual 69, 3) := by decide +kernel
theorem dX1_write_200 : decode cX1_write 200 = .ok (.goto 3, 3) := by decide +kernel
theorem dX1_write_203 : decode cX1_write 203 = .ok (.return_, 1) := by decide +kernel
theorem dX1_goOn_0 : decode cX1_goOn 0 = .ok (.aload_n 0, 1) := by decide +kernel
theorem dX1_goOn_1 : decode cX1_goOn 1 = .ok (.dup, 1) := by decide +kernel
theorem dX1_goOn_2 : decode cX1_goOn 2 = .ok (.getfield 32, 3) := by decide +kernel
theorem dX1_goOn_5 : decode cX1_goOn 5 = .ok (.iload_n 1, 1) := by decide +kernel
theorem dX1_goOn_6 : decode cX1_goOn 6 = .ok (.iadd, 1) := by decide +kernel
theorem dX1_goOn_7 : decode cX1_goOn 7 = .ok (.putfield 32, 3) := by decide +kernel
theorem dX1_goOn_10 : decode cX1_goOn 10 = .ok (.aload_n 0, 1) := by decide +kernel
theorem dX1_goOn_11 : decode cX1_goOn 11 = .ok (.getfield 32, 3) := by decide +kernel
theorem dX1_goOn_14 : decode cX1_goOn 14 = .ok (.iconst 2, 1) := by decide +kernel
theorem dX1_goOn_15 : decode cX1_goOn 15 = .ok (.ishr, 1) := by decide +kernel
theorem dX1_goOn_16 : decode cX1_goOn 16 = .ok (.istore_n 2, 1) := by decide +kernel
theorem dX1_goOn_17 : decode cX1_goOn 17 = .ok (.iload_n 2, 1) := by decide +kernel
theorem dX1_goOn_18 : decode cX1_goOn 18 = .ok (.ifCond .le 13, 3) := by decide +kernel
theorem dX1_goOn_21 : decode cX1_goOn 21 = .ok (.aload_n 0, 1) := by decide +kernel
theorem dX1_goOn_22 : decode cX1_goOn 22 = .ok (.invokevirtual 73, 3) := by decide +kernel
theorem dX1_goOn_25 : decode cX1_goOn 25 = .ok (.iinc 2 (-1), 3) := by decide +kernel
theorem dX1_goOn_28 : decode cX1_goOn 28 = .ok (.goto (-11), 3) := by decide +kernel
theorem dX1_goOn_31 : decode cX1_goOn 31 = .ok (.aload_n 0, 1) := by decide +kernel
theorem dX1_goOn_32 : decode cX1_goOn 32 = .ok (.dup, 1) := by decide +kernel
theorem dX1_goOn_33 : decode cX1_goOn 33 = .ok (.getfield 32, 3) := by decide +kernel
theorem dX1_goOn_36 : decode cX1_goOn 36 = .ok (.iconst 3, 1) := by decide +kernel
theorem dX1_goOn_37 : decode cX1_goOn 37 = .ok (.iand, 1) := by decide +kernel
theorem dX1_goOn_38 : decode cX1_goOn 38 = .ok (.putfield 32, 3) := by decide +kernel
theorem dX1_goOn_41 : decode cX1_goOn 41 = .ok (.return_, 1) := by decide +kernel
theorem dX1_timersCountDown_0 : decode cX1_timersCountDown 0 = .ok (.aload_n 0, 1) := by decide +kernel
theorem dX1_timersCountDown_1 : decode cX1_timersCountDown 1 = .ok (.getfield 12, 3) := by decide +kernel
theorem dX1_timersCountDown_4 : decode cX1_timersCountDown 4 = .ok (.invokevirtual 76, 3) := by decide +kernel
theorem dX1_timersCountDown_7 : decode cX1_timersCountDown 7 = .ok (.ifCond .eq 17, 3) := by decide +kernel
theorem dX1_timersCountDown_10 : decode cX1_timersCountDown 10 = .ok (.aload_n 0, 1) := by decide +kernel
theorem dX1_timersCountDown_11 : decode cX1_timersCountDown 11 = .ok (.getfield 21, 3) := by decide +kernel
theorem dX1_timersCountDown_14 : decode cX1_timersCountDown 14 = .ok (.dup, 1) := by decide +kernel
theorem dX1_timersCountDown_15 : decode cX1_timersCountDown 15 = .ok (.getfield 41, 3) := by decide +kernel
theorem dX1_timersCountDown_18 : decode cX1_timersCountDown 18 = .ok (.bipush 32, 2) := by decide +kernel
theorem dX1_timersCountDown_20 : decode cX1_timersCountDown 20 = .ok (.ior, 1) := by decide +kernel
theorem dX1_timersCountDown_21 : decode cX1_timersCountDown 21 = .ok (.putfield 41, 3) := by decide +kernel
theorem dX1_timersCountDown_24 : decode cX1_timersCountDown 24 = .ok (.aload_n 0, 1) := by decide +kernel
theorem dX1_timersCountDown_25 : decode cX1_timersCountDown 25 = .ok (.getfield 18, 3) := by decide +kernel
theorem dX1_timersCountDown_28 : decode cX1_timersCountDown 28 = .ok (.invokevirtual 76, 3) := by decide +kernel
theorem dX1_timersCountDown_31 : decode cX1_timersCountDown 31 = .ok (.ifCond .eq 17, 3) := by decide +kernel
theorem dX1_timersCountDown_34 : decode cX1_timersCountDown 34 = .ok (.aload_n 0, 1) := by decide +kernel
theorem dX1_timersCountDown_35 : decode cX1_timersCountDown 35 = .ok (.getfield 21, 3) := by decide +kernel
theorem dX1_timersCountDown_38 : decode cX1_timersCountDown 38 = .ok (.dup, 1) := by decide +kernel
theorem dX1_timersCountDown_39 : decode cX1_timersCountDown 39 = .ok (.getfield 41, 3) := by decide +kernel
theorem dX1_timersCountDown_42 : decode cX1_timersCountDown 42 = .ok (.bipush 64, 2) := by decide +kernel
theorem dX1_timersCountDown_44 : decode cX1_timersCountDown 44 = .ok (.ior, 1) := by decide +kernel
theorem dX1_timersCountDown_45 : decode cX1_timersCountDown 45 = .ok (.putfield 41, 3) := by decide +kernel
theorem dX1_timersCountDown_48 : decode cX1_timersCountDown 48 = .ok (.return_, 1) := by decide +kernel
theorem dX2_init_0 : decode cX2_init 0 = .ok (.aload_n 0, 1) := by decide +kernel
theorem dX2_init_1 : decode cX2_init 1 = .ok (.invokespecial 3, 3) := by decide +kernel
theorem dX2_init_4 : decode cX2_init 4 = .ok (.aload_n 0, 1) := by decide +kernel
theorem dX2_init_5 : decode cX2_init 5 = .ok (.sipush 16384, 3) := by decide +kernel
theorem dX2_init_8 : decode cX2_init 8 = .ok (.newarray .int, 2) := by decide +kernel
theorem dX2_init_10 : decode cX2_init 10 = .ok (.putfield 11, 3) := by decide +kernel
theorem dX2_init_13 : decode cX2_init 13 = .ok (.aload_n 0, 1) := by decide +kernel
theorem dX2_init_14 : decode cX2_init 14 = .ok (.aload_n 1, 1) := by decide +kernel
theorem dX2_init_15 : decode cX2_init 15 = .ok (.putfield 15, 3) := by decide +kernel
theorem dX2_init_18 : decode cX2_init 18 = .ok (.aload_n 0, 1) := by decide +kernel
theorem dX2_init_19 : decode cX2_init 19 = .ok (.aload_n 2, 1) := by decide +kernel
theorem dX2_init_20 : decode cX2_init 20 = .ok (.putfield 18, 3) := by decide +kernel
theorem dX2_init_23 : decode cX2_init 23 = .ok (.return_, 1) := by decide +kernel
theorem dX2_isWord_0 : decode cX2_isWord 0 = .ok (.iload_n 0, 1) := by decide +kernel
theorem dX2_isWord_1 : decode cX2_isWord 1 = .ok (.ifCond .lt 24, 3) := by decide +kernel
theorem dX2_isWord_4 : decode cX2_isWord 4 = .ok (.iload_n 0, 1) := by decide +kernel
theorem dX2_isWord_5 : decode cX2_isWord 5 = .ok (.bipush 16, 2) := by decide +kernel
theorem dX2_isWord_7 : decode cX2_isWord 7 = .ok (.if_icmp .ge 18, 3) := by decide +kernel
theorem dX2_isWord_10 : decode cX2_isWord 10 = .ok (.iload_n 1, 1) := by decide +kernel
theorem dX2_isWord_11 : decode cX2_isWord 11 = .ok (.ifCond .lt 14, 3) := by decide +kernel
theorem dX2_isWord_14 : decode cX2_isWord 14 = .ok (.iload_n 1, 1) := by decide +kernel
theorem dX2_isWord_15 : decode cX2_isWord 15 = .ok (.sipush 1024, 3) := by decide +kernel
theorem dX2_isWord_18 : decode cX2_isWord 18 = .ok (.if_icmp .ge 7, 3) := by decide +kernel
theorem dX2_isWord_21 : decode cX2_isWord 21 = .ok (.iconst 1, 1) := by decide +kernel
theorem dX2_isWord_22 : decode cX2_isWord 22 = .ok (.goto 4, 3) := by decide +kernel
theorem dX2_isWord_25 : decode cX2_isWord 25 = .ok (.iconst 0, 1) := by decide +kernel
theorem dX2_isWord_26 : decode cX2_isWord 26 = .ok (.ireturn, 1) := by decide +kernel
theorem dX2_begin_0 : decode cX2_begin 0 = .ok (.aload_n 0, 1) := by decide +kernel
theorem dX2_begin_1 : decode cX2_begin 1 = .ok (.iconst 0, 1) := by decide +kernel
theorem dX2_begin_2 : decode cX2_begin 2 = .ok (.putfield 22, 3) := by decide +kernel
theorem dX2_begin_5 : decode cX2_begin 5 = .ok (.aload_n 0, 1) := by decide +kernel
theorem dX2_begin_6 : decode cX2_begin 6 = .ok (.iconst 0, 1) := by decide +kernel
theorem dX2_begin_7 : decode cX2_begin 7 = .ok (.putfield 26, 3) := by decide +kernel
theorem dX2_begin_10 : decode cX2_begin 10 = .ok (.aload_n 0, 1) := by decide +kernel
theorem dX2_begin_11 : decode cX2_begin 11 = .ok (.iconst 0, 1) := by decide +kernel
theorem dX2_begin_12 : decode cX2_begin 12 = .ok (.putfield 29, 3) := by decide +kernel
theorem dX2_begin_15 : decode cX2_begin 15 = .ok (.aload_n 0, 1) := by decide +kernel
theorem dX2_begin_16 : decode cX2_begin 16 = .ok (.iconst 0, 1) := by decide +kernel
theorem dX2_begin_17 : decode cX2_begin 17 = .ok (.putfield 33, 3) := by decide +kernel
theorem dX2_begin_20 : decode cX2_begin 20 = .ok (.return_, 1) := by decide +kernel
theorem dX2_wordOf_0 : decode cX2_wordOf 0 = .ok (.aload_n 0, 1) := by decide +kernel
theorem dX2_wordOf_1 : decode cX2_wordOf 1 = .ok (.getfield 11, 3) := by decide +kernel
theorem dX2_wordOf_4 : decode cX2_wordOf 4 = .ok (.iload_n 1, 1) := by decide +kernel
theorem dX2_wordOf_5 : decode cX2_wordOf 5 = .ok (.bipush 15, 2) := by decide +kernel
theorem dX2_wordOf_7 : decode cX2_wordOf 7 = .ok (.iand, 1) := by decide +kernel
theorem dX2_wordOf_8 : decode cX2_wordOf 8 = .ok (.sipush 1024, 3) := by decide +kernel
theorem dX2_wordOf_11 : decode cX2_wordOf 11 = .ok (.imul, 1) := by decide +kernel
theorem dX2_wordOf_12 : decode cX2_wordOf 12 = .ok (.iload_n 2, 1) := by decide +kernel
theorem dX2_wordOf_13 : decode cX2_wordOf 13 = .ok (.sipush 1023, 3) := by decide +kernel
theorem dX2_wordOf_16 : decode cX2_wordOf 16 = .ok (.iand, 1) := by decide +kernel
theorem dX2_wordOf_17 : decode cX2_wordOf 17 = .ok (.iadd, 1) := by decide +kernel
theorem dX2_wordOf_18 : decode cX2_wordOf 18 = .ok (.iaload, 1) := by decide +kernel
theorem dX2_wordOf_19 : decode cX2_wordOf 19 = .ok (.ireturn, 1) := by decide +kernel
theorem dX2_change_0 : decode cX2_change 0 = .ok (.aload_n 0, 1) := by decide +kernel
theorem dX2_change_1 : decode cX2_change 1 = .ok (.getfield 11, 3) := by decide +kernel
theorem dX2_change_4 : decode cX2_change 4 = .ok (.iload_n 1, 1) := by decide +kernel
theorem dX2_change_5 : decode cX2_change 5 = .ok (.bipush 15, 2) := by decide +kernel
theorem dX2_change_7 : decode cX2_change 7 = .ok (.iand, 1) := by decide +kernel
theorem dX2_change_8 : decode cX2_change 8 = .ok (.sipush 1024, 3) := by decide +kernel
theorem dX2_change_11 : decode cX2_change 11 = .ok (.imul, 1) := by decide +kernel
theorem dX2_change_12 : decode cX2_change 12 = .ok (.iload_n 2, 1) := by decide +kernel
theorem dX2_change_13 : decode cX2_change 13 = .ok (.sipush 1023, 3) := by decide +kernel
theorem dX2_change_16 : decode cX2_change 16 = .ok (.iand, 1) := by decide +kernel
theorem dX2_change_17 : decode cX2_change 17 = .ok (.iadd, 1) := by decide +kernel
theorem dX2_change_18 : decode cX2_change 18 = .ok (.iload_n 3, 1) := by decide +kernel
theorem dX2_change_19 : decode cX2_change 19 = .ok (.iastore, 1) := by decide +kernel
theorem dX2_change_20 : decode cX2_change 20 = .ok (.return_, 1) := by decide +kernel
theorem dX2_read_0 : decode cX2_read 0 = .ok (.iload_n 1, 1) := by decide +kernel
theorem dX2_read_1 : decode cX2_read 1 = .ok (.tableswitch 61 0 2 #[27, 32, 37], 27) := by decide +kernel
theorem dX2_read_28 : decode cX2_read 28 = .ok (.aload_n 0, 1) := by decide +kernel
theorem dX2_read_29 : decode cX2_read 29 = .ok (.getfield 22, 3) := by decide +kernel
theorem dX2_read_32 : decode cX2_read 32 = .ok (.ireturn, 1) := by decide +kernel
theorem dX2_read_33 : decode cX2_read 33 = .ok (.aload_n 0, 1) := by decide +kernel
theorem dX2_read_34 : decode cX2_read 34 = .ok (.getfield 26, 3) := by decide +kernel
theorem dX2_read_37 : decode cX2_read 37 = .ok (.ireturn, 1) := by decide +kernel
theorem dX2_read_38 : decode cX2_read 38 = .ok (.aload_n 0, 1) := by decide +kernel
theorem dX2_read_39 : decode cX2_read 39 = .ok (.getfield 33, 3) := by decide +kernel
theorem dX2_read_42 : decode cX2_read 42 = .ok (.ifCond .le 7, 3) := by decide +kernel
theorem dX2_read_45 : decode cX2_read 45 = .ok (.iconst 1, 1) := by decide +kernel
theorem dX2_read_46 : decode cX2_read 46 = .ok (.goto 15, 3) := by decide +kernel
theorem dX2_read_49 : decode cX2_read 49 = .ok (.aload_n 0, 1) := by decide +kernel
theorem dX2_read_50 : decode cX2_read 50 = .ok (.getfield 29, 3) := by decide +kernel
theorem dX2_read_53 : decode cX2_read 53 = .ok (.ifCond .eq 7, 3) := by decide +kernel
theorem dX2_read_56 : decode cX2_read 56 = .ok (.iconst 2, 1) := by decide +kernel
theorem dX2_read_57 : decode cX2_read 57 = .ok (.goto 4, 3) := by decide +kernel
theorem dX2_read_60 : decode cX2_read 60 = .ok (.iconst 0, 1) := by decide +kernel
theorem dX2_read_61 : decode cX2_read 61 = .ok (.ireturn, 1) := by decide +kernel
theorem dX2_read_62 : decode cX2_read 62 = .ok (.iconst 0, 1) := by decide +kernel
theorem dX2_read_63 : decode cX2_read 63 = .ok (.ireturn, 1) := by decide +kernel
theorem dX2_write_0 : decode cX2_write 0 = .ok (.iload_n 1, 1) := by decide +kernel
theorem dX2_write_1 : decode cX2_write 1 = .ok (.ifCond .ne 11, 3) := by decide +kernel
theorem dX2_write_4 : decode cX2_write 4 = .ok (.aload_n 0, 1) := by decide +kernel
theorem dX2_write_5 : decode cX2_write 5 = .ok (.iload_n 2, 1) := by decide +kernel
theorem dX2_write_6 : decode cX2_write 6 = .ok (.putfield 22, 3) := by decide +kernel
theorem dX2_write_9 : decode cX2_write 9 = .ok (.goto 96, 3) := by decide +kernel
theorem dX2_write_12 : decode cX2_write 12 = .ok (.iload_n 1, 1) := by decide +kernel
theorem dX2_write_13 : decode cX2_write 13 = .ok (.iconst 1, 1) := by decide +kernel
theorem dX2_write_14 : decode cX2_write 14 = .ok (.if_icmp .ne 11, 3) := by decide +kernel
theorem dX2_write_17 : decode cX2_write 17 = .ok (.aload_n 0, 1) := by decide +kernel
theorem dX2_write_18 : decode cX2_write 18 = .ok (.iload_n 2, 1) := by decide +kernel
theorem dX2_write_19 : decode cX2_write 19 = .ok (.putfield 26, 3) := by decide +kernel
theorem dX2_write_22 : decode cX2_write 22 = .ok (.goto 83, 3) := by decide +kernel
theorem dX2_write_25 : decode cX2_write 25 = .ok (.iload_n 1, 1) := by decide +kernel
theorem dX2_write_26 : decode cX2_write 26 = .ok (.iconst 2, 1) := by decide +kernel
theorem dX2_write_27 : decode cX2_write 27 = .ok (.if_icmp .ne 78, 3) := by decide +kernel
theorem dX2_write_30 : decode cX2_write 30 = .ok (.aload_n 0, 1) := by decide +kernel
theorem dX2_write_31 : decode cX2_write 31 = .ok (.getfield 33, 3) := by decide +kernel
theorem dX2_write_34 : decode cX2_write 34 = .ok (.ifCond .ne 71, 3) := by decide +kernel
theorem dX2_write_37 : decode cX2_write 37 = .ok (.aload_n 0, 1) := by decide +kernel
theorem dX2_write_38 : decode cX2_write 38 = .ok (.iload_n 2, 1) := by decide +kernel
theorem dX2_write_39 : decode cX2_write 39 = .ok (.iconst 1, 1) := by decide +kernel
theorem dX2_write_40 : decode cX2_write 40 = .ok (.if_icmp .eq 8, 3) := by decide +kernel
theorem dX2_write_43 : decode cX2_write 43 = .ok (.iload_n 2, 1) := by decide +kernel
theorem dX2_write_44 : decode cX2_write 44 = .ok (.iconst 2, 1) := by decide +kernel
theorem dX2_write_45 : decode cX2_write 45 = .ok (.if_icmp .ne 21, 3) := by decide +kernel
theorem dX2_write_48 : decode cX2_write 48 = .ok (.aload_n 0, 1) := by decide +kernel
theorem dX2_write_49 : decode cX2_write 49 = .ok (.getfield 22, 3) := by decide +kernel
theorem dX2_write_52 : decode cX2_write 52 = .ok (.bipush 16, 2) := by decide +kernel
theorem dX2_write_54 : decode cX2_write 54 = .ok (.if_icmp .ge 12, 3) := by decide +kernel
theorem dX2_write_57 : decode cX2_write 57 = .ok (.aload_n 0, 1) := by decide +kernel
theorem dX2_write_58 : decode cX2_write 58 = .ok (.getfield 26, 3) := by decide +kernel
theorem dX2_write_61 : decode cX2_write 61 = .ok (.bipush 16, 2) := by decide +kernel
theorem dX2_write_63 : decode cX2_write 63 = .ok (.if_icmp .lt 7, 3) := by decide +kernel
theorem dX2_write_66 : decode cX2_write 66 = .ok (.iconst 1, 1) := by decide +kernel
theorem dX2_write_67 : decode cX2_write 67 = .ok (.goto 4, 3) := by decide +kernel
theorem dX2_write_70 : decode cX2_write 70 = .ok (.iconst 0, 1) := by decide +kernel
theorem dX2_write_71 : decode cX2_write 71 = .ok (.putfield 29, 3) := by decide +kernel
theorem dX2_write_74 : decode cX2_write 74 = .ok (.aload_n 0, 1) := by decide +kernel
theorem dX2_write_75 : decode cX2_write 75 = .ok (.getfield 29, 3) := by decide +kernel
theorem dX2_write_78 : decode cX2_write 78 = .ok (.ifCond .eq 13, 3) := by decide +kernel
theorem dX2_write_81 : decode cX2_write 81 = .ok (.aload_n 0, 1) := by decide +kernel
theorem dX2_write_82 : decode cX2_write 82 = .ok (.getfield 18, 3) := by decide +kernel
theorem dX2_write_85 : decode cX2_write 85 = .ok (.invokevirtual 36, 3) := by decide +kernel
theorem dX2_write_88 : decode cX2_write 88 = .ok (.goto 17, 3) := by decide +kernel
theorem dX2_write_91 : decode cX2_write 91 = .ok (.aload_n 0, 1) := by decide +kernel
theorem dX2_write_92 : decode cX2_write 92 = .ok (.iload_n 2, 1) := by decide +kernel
theorem dX2_write_93 : decode cX2_write 93 = .ok (.iconst 1, 1) := by decide +kernel
theorem dX2_write_94 : decode cX2_write 94 = .ok (.if_icmp .ne 7, 3) := by decide +kernel
theorem dX2_write_97 : decode cX2_write 97 = .ok (.iconst 1, 1) := by decide +kernel
theorem dX2_write_98 : decode cX2_write 98 = .ok (.goto 4, 3) := by decide +kernel
theorem dX2_write_101 : decode cX2_write 101 = .ok (.iconst 0, 1) := by decide +kernel
theorem dX2_write_102 : decode cX2_write 102 = .ok (.invokevirtual 41, 3) := by decide +kernel
theorem dX2_write_105 : decode cX2_write 105 = .ok (.return_, 1) := by decide +kernel
theorem dX2_isRead_0 : decode cX2_isRead 0 = .ok (.iload_n 1, 1) := by decide +kernel
theorem dX2_isRead_1 : decode cX2_isRead 1 = .ok (.iconst 2, 1) := by decide +kernel
theorem dX2_isRead_2 : decode cX2_isRead 2 = .ok (.if_icmp .ne 10, 3) := by decide +kernel
theorem dX2_isRead_5 : decode cX2_isRead 5 = .ok (.aload_n 0, 1) := by decide +kernel
theorem dX2_isRead_6 : decode cX2_isRead 6 = .ok (.getfield 18, 3) := by decide +kernel
theorem dX2_isRead_9 : decode cX2_isRead 9 = .ok (.invokevirtual 45, 3) := by decide +kernel
theorem dX2_isRead_12 : decode cX2_isRead 12 = .ok (.return_, 1) := by decide +kernel
theorem dX2_beginCopy_0 : decode cX2_beginCopy 0 = .ok (.aload_n 0, 1) := by decide +kernel
theorem dX2_beginCopy_1 : decode cX2_beginCopy 1 = .ok (.iload_n 1, 1) := by decide +kernel
theorem dX2_beginCopy_2 : decode cX2_beginCopy 2 = .ok (.putfield 48, 3) := by decide +kernel
theorem dX2_beginCopy_5 : decode cX2_beginCopy 5 = .ok (.aload_n 0, 1) := by decide +kernel
theorem dX2_beginCopy_6 : decode cX2_beginCopy 6 = .ok (.aload_n 0, 1) := by decide +kernel
theorem dX2_beginCopy_7 : decode cX2_beginCopy 7 = .ok (.getfield 22, 3) := by decide +kernel
theorem dX2_beginCopy_10 : decode cX2_beginCopy 10 = .ok (.putfield 51, 3) := by decide +kernel
theorem dX2_beginCopy_13 : decode cX2_beginCopy 13 = .ok (.aload_n 0, 1) := by decide +kernel
theorem dX2_beginCopy_14 : decode cX2_beginCopy 14 = .ok (.aload_n 0, 1) := by decide +kernel
theorem dX2_beginCopy_15 : decode cX2_beginCopy 15 = .ok (.getfield 26, 3) := by decide +kernel
theorem dX2_beginCopy_18 : decode cX2_beginCopy 18 = .ok (.putfield 54, 3) := by decide +kernel
theorem dX2_beginCopy_21 : decode cX2_beginCopy 21 = .ok (.aload_n 0, 1) := by decide +kernel
theorem dX2_beginCopy_22 : decode cX2_beginCopy 22 = .ok (.sipush 5000, 3) := by decide +kernel
theorem dX2_beginCopy_25 : decode cX2_beginCopy 25 = .ok (.putfield 33, 3) := by decide +kernel
theorem dX2_beginCopy_28 : decode cX2_beginCopy 28 = .ok (.return_, 1) := by decide +kernel
theorem dX2_goOn_0 : decode cX2_goOn 0 = .ok (.aload_n 0, 1) := by decide +kernel
theorem dX2_goOn_1 : decode cX2_goOn 1 = .ok (.getfield 33, 3) := by decide +kernel
theorem dX2_goOn_4 : decode cX2_goOn 4 = .ok (.ifCond .ne 4, 3) := by decide +kernel
theorem dX2_goOn_7 : decode cX2_goOn 7 = .ok (.return_, 1) := by decide +kernel
theorem dX2_goOn_8 : decode cX2_goOn 8 = .ok (.aload_n 0, 1) := by decide +kernel
theorem dX2_goOn_9 : decode cX2_goOn 9 = .ok (.getfield 33, 3) := by decide +kernel
theorem dX2_goOn_12 : decode cX2_goOn 12 = .ok (.iload_n 1, 1) := by decide +kernel
theorem dX2_goOn_13 : decode cX2_goOn 13 = .ok (.if_icmp .le 14, 3) := by decide +kernel
theorem dX2_goOn_16 : decode cX2_goOn 16 = .ok (.aload_n 0, 1) := by decide +kernel
theorem dX2_goOn_17 : decode cX2_goOn 17 = .ok (.dup, 1) := by decide +kernel
theorem dX2_goOn_18 : decode cX2_goOn 18 = .ok (.getfield 33, 3) := by decide +kernel
theorem dX2_goOn_21 : decode cX2_goOn 21 = .ok (.iload_n 1, 1) := by decide +kernel
theorem dX2_goOn_22 : decode cX2_goOn 22 = .ok (.isub, 1) := by decide +kernel
theorem dX2_goOn_23 : decode cX2_goOn 23 = .ok (.putfield 33, 3) := by decide +kernel
theorem dX2_goOn_26 : decode cX2_goOn 26 = .ok (.return_, 1) := by decide +kernel
theorem dX2_goOn_27 : decode cX2_goOn 27 = .ok (.aload_n 0, 1) := by decide +kernel
theorem dX2_goOn_28 : decode cX2_goOn 28 = .ok (.iconst 0, 1) := by decide +kernel
theorem dX2_goOn_29 : decode cX2_goOn 29 = .ok (.putfield 33, 3) := by decide +kernel
theorem dX2_goOn_32 : decode cX2_goOn 32 = .ok (.aload_n 0, 1) := by decide +kernel
theorem dX2_goOn_33 : decode cX2_goOn 33 = .ok (.getfield 18, 3) := by decide +kernel
theorem dX2_goOn_36 : decode cX2_goOn 36 = .ok (.invokevirtual 36, 3) := by decide +kernel
theorem dX2_goOn_39 : decode cX2_goOn 39 = .ok (.aload_n 0, 1) := by decide +kernel
theorem dX2_goOn_40 : decode cX2_goOn 40 = .ok (.invokevirtual 57, 3) := by decide +kernel
theorem dX2_goOn_43 : decode cX2_goOn 43 = .ok (.return_, 1) := by decide +kernel
theorem dX2_copy_0 : decode cX2_copy 0 = .ok (.aload_n 0, 1) := by decide +kernel
theorem dX2_copy_1 : decode cX2_copy 1 = .ok (.getfield 51, 3) := by decide +kernel
theorem dX2_copy_4 : decode cX2_copy 4 = .ok (.bipush 15, 2) := by decide +kernel
theorem dX2_copy_6 : decode cX2_copy 6 = .ok (.iand, 1) := by decide +kernel
theorem dX2_copy_7 : decode cX2_copy 7 = .ok (.sipush 1024, 3) := by decide +kernel
theorem dX2_copy_10 : decode cX2_copy 10 = .ok (.imul, 1) := by decide +kernel
theorem dX2_copy_11 : decode cX2_copy 11 = .ok (.istore_n 1, 1) := by decide +kernel
theorem dX2_copy_12 : decode cX2_copy 12 = .ok (.aload_n 0, 1) := by decide +kernel
theorem dX2_copy_13 : decode cX2_copy 13 = .ok (.getfield 54, 3) := by decide +kernel
theorem dX2_copy_16 : decode cX2_copy 16 = .ok (.bipush 15, 2) := by decide +kernel
theorem dX2_copy_18 : decode cX2_copy 18 = .ok (.iand, 1) := by decide +kernel
theorem dX2_copy_19 : decode cX2_copy 19 = .ok (.sipush 1024, 3) := by decide +kernel
theorem dX2_copy_22 : decode cX2_copy 22 = .ok (.imul, 1) := by decide +kernel
theorem dX2_copy_23 : decode cX2_copy 23 = .ok (.istore_n 2, 1) := by decide +kernel
theorem dX2_copy_24 : decode cX2_copy 24 = .ok (.aload_n 0, 1) := by decide +kernel
theorem dX2_copy_25 : decode cX2_copy 25 = .ok (.getfield 48, 3) := by decide +kernel
theorem dX2_copy_28 : decode cX2_copy 28 = .ok (.ifCond .eq 22, 3) := by decide +kernel
theorem dX2_copy_31 : decode cX2_copy 31 = .ok (.aload_n 0, 1) := by decide +kernel
theorem dX2_copy_32 : decode cX2_copy 32 = .ok (.getfield 11, 3) := by decide +kernel
theorem dX2_copy_35 : decode cX2_copy 35 = .ok (.iload_n 1, 1) := by decide +kernel
theorem dX2_copy_36 : decode cX2_copy 36 = .ok (.aload_n 0, 1) := by decide +kernel
theorem dX2_copy_37 : decode cX2_copy 37 = .ok (.getfield 15, 3) := by decide +kernel
theorem dX2_copy_40 : decode cX2_copy 40 = .ok (.iload_n 2, 1) := by decide +kernel
theorem dX2_copy_41 : decode cX2_copy 41 = .ok (.sipush 1024, 3) := by decide +kernel
theorem dX2_copy_44 : decode cX2_copy 44 = .ok (.invokestatic 60, 3) := by decide +kernel
theorem dX2_copy_47 : decode cX2_copy 47 = .ok (.goto 19, 3) := by decide +kernel
theorem dX2_copy_50 : decode cX2_copy 50 = .ok (.aload_n 0, 1) := by decide +kernel
theorem dX2_copy_51 : decode cX2_copy 51 = .ok (.getfield 15, 3) := by decide +kernel
theorem dX2_copy_54 : decode cX2_copy 54 = .ok (.iload_n 2, 1) := by decide +kernel
theorem dX2_copy_55 : decode cX2_copy 55 = .ok (.aload_n 0, 1) := by decide +kernel
theorem dX2_copy_56 : decode cX2_copy 56 = .ok (.getfield 11, 3) := by decide +kernel
theorem dX2_copy_59 : decode cX2_copy 59 = .ok (.iload_n 1, 1) := by decide +kernel
theorem dX2_copy_60 : decode cX2_copy 60 = .ok (.sipush 1024, 3) := by decide +kernel
theorem dX2_copy_63 : decode cX2_copy 63 = .ok (.invokestatic 60, 3) := by decide +kernel
theorem dX2_copy_66 : decode cX2_copy 66 = .ok (.aload_n 0, 1) := by decide +kernel
theorem dX2_copy_67 : decode cX2_copy 67 = .ok (.dup, 1) := by decide +kernel
theorem dX2_copy_68 : decode cX2_copy 68 = .ok (.getfield 66, 3) := by decide +kernel
theorem dX2_copy_71 : decode cX2_copy 71 = .ok (.ldc2_w 70, 3) := by decide +kernel
theorem dX2_copy_74 : decode cX2_copy 74 = .ok (.ladd, 1) := by decide +kernel
theorem dX2_copy_75 : decode cX2_copy 75 = .ok (.putfield 66, 3) := by decide +kernel
theorem dX2_copy_78 : decode cX2_copy 78 = .ok (.return_, 1) := by decide +kernel
theorem dX3_init_0 : decode cX3_init 0 = .ok (.aload_n 0, 1) := by decide +kernel
theorem dX3_init_1 : decode cX3_init 1 = .ok (.invokespecial 3, 3) := by decide +kernel
theorem dX3_init_4 : decode cX3_init 4 = .ok (.aload_n 0, 1) := by decide +kernel
theorem dX3_init_5 : decode cX3_init 5 = .ok (.bipush 16, 2) := by decide +kernel
theorem dX3_init_7 : decode cX3_init 7 = .ok (.newarray .int, 2) := by decide +kernel
theorem dX3_init_9 : decode cX3_init 9 = .ok (.putfield 11, 3) := by decide +kernel
theorem dX3_init_12 : decode cX3_init 12 = .ok (.aload_n 0, 1) := by decide +kernel
theorem dX3_init_13 : decode cX3_init 13 = .ok (.bipush 16, 2) := by decide +kernel
theorem dX3_init_15 : decode cX3_init 15 = .ok (.newarray .int, 2) := by decide +kernel
theorem dX3_init_17 : decode cX3_init 17 = .ok (.putfield 15, 3) := by decide +kernel
theorem dX3_init_20 : decode cX3_init 20 = .ok (.return_, 1) := by decide +kernel
theorem dX3_begin_0 : decode cX3_begin 0 = .ok (.aload_n 0, 1) := by decide +kernel
theorem dX3_begin_1 : decode cX3_begin 1 = .ok (.getfield 11, 3) := by decide +kernel
theorem dX3_begin_4 : decode cX3_begin 4 = .ok (.iconst (-1), 1) := by decide +kernel
theorem dX3_begin_5 : decode cX3_begin 5 = .ok (.invokestatic 18, 3) := by decide +kernel
theorem dX3_begin_8 : decode cX3_begin 8 = .ok (.aload_n 0, 1) := by decide +kernel
theorem dX3_begin_9 : decode cX3_begin 9 = .ok (.getfield 15, 3) := by decide +kernel
theorem dX3_begin_12 : decode cX3_begin 12 = .ok (.iconst 0, 1) := by decide +kernel
theorem dX3_begin_13 : decode cX3_begin 13 = .ok (.invokestatic 18, 3) := by decide +kernel
theorem dX3_begin_16 : decode cX3_begin 16 = .ok (.aload_n 0, 1) := by decide +kernel
theorem dX3_begin_17 : decode cX3_begin 17 = .ok (.getfield 11, 3) := by decide +kernel
theorem dX3_begin_20 : decode cX3_begin 20 = .ok (.iconst 0, 1) := by decide +kernel
theorem dX3_begin_21 : decode cX3_begin 21 = .ok (.iconst 0, 1) := by decide +kernel
theorem dX3_begin_22 : decode cX3_begin 22 = .ok (.iastore, 1) := by decide +kernel
theorem dX3_begin_23 : decode cX3_begin 23 = .ok (.aload_n 0, 1) := by decide +kernel
theorem dX3_begin_24 : decode cX3_begin 24 = .ok (.iconst 0, 1) := by decide +kernel
theorem dX3_begin_25 : decode cX3_begin 25 = .ok (.putfield 24, 3) := by decide +kernel
theorem dX3_begin_28 : decode cX3_begin 28 = .ok (.return_, 1) := by decide +kernel
theorem dX3_numberOf_0 : decode cX3_numberOf 0 = .ok (.aload_n 0, 1) := by decide +kernel
theorem dX3_numberOf_1 : decode cX3_numberOf 1 = .ok (.getfield 11, 3) := by decide +kernel
theorem dX3_numberOf_4 : decode cX3_numberOf 4 = .ok (.iload_n 1, 1) := by decide +kernel
theorem dX3_numberOf_5 : decode cX3_numberOf 5 = .ok (.bipush 15, 2) := by decide +kernel
theorem dX3_numberOf_7 : decode cX3_numberOf 7 = .ok (.iand, 1) := by decide +kernel
theorem dX3_numberOf_8 : decode cX3_numberOf 8 = .ok (.iaload, 1) := by decide +kernel
theorem dX3_numberOf_9 : decode cX3_numberOf 9 = .ok (.ireturn, 1) := by decide +kernel
theorem dX3_levelOf_0 : decode cX3_levelOf 0 = .ok (.aload_n 0, 1) := by decide +kernel
theorem dX3_levelOf_1 : decode cX3_levelOf 1 = .ok (.getfield 15, 3) := by decide +kernel
theorem dX3_levelOf_4 : decode cX3_levelOf 4 = .ok (.iload_n 1, 1) := by decide +kernel
theorem dX3_levelOf_5 : decode cX3_levelOf 5 = .ok (.bipush 15, 2) := by decide +kernel
theorem dX3_levelOf_7 : decode cX3_levelOf 7 = .ok (.iand, 1) := by decide +kernel
theorem dX3_levelOf_8 : decode cX3_levelOf 8 = .ok (.iaload, 1) := by decide +kernel
theorem dX3_levelOf_9 : decode cX3_levelOf 9 = .ok (.ireturn, 1) := by decide +kernel
theorem dX3_withNumber_0 : decode cX3_withNumber 0 = .ok (.iconst 0, 1) := by decide +kernel
theorem dX3_withNumber_1 : decode cX3_withNumber 1 = .ok (.istore_n 2, 1) := by decide +kernel
theorem dX3_withNumber_2 : decode cX3_withNumber 2 = .ok (.iload_n 2, 1) := by decide +kernel
theorem dX3_withNumber_3 : decode cX3_withNumber 3 = .ok (.bipush 16, 2) := by decide +kernel
theorem dX3_withNumber_5 : decode cX3_withNumber 5 = .ok (.if_icmp .ge 21, 3) := by decide +kernel
theorem dX3_withNumber_8 : decode cX3_withNumber 8 = .ok (.aload_n 0, 1) := by decide +kernel
theorem dX3_withNumber_9 : decode cX3_withNumber 9 = .ok (.getfield 11, 3) := by decide +kernel
theorem dX3_withNumber_12 : decode cX3_withNumber 12 = .ok (.iload_n 2, 1) := by decide +kernel
theorem dX3_withNumber_13 : decode cX3_withNumber 13 = .ok (.iaload, 1) := by decide +kernel
theorem dX3_withNumber_14 : decode cX3_withNumber 14 = .ok (.iload_n 1, 1) := by decide +kernel
theorem dX3_withNumber_15 : decode cX3_withNumber 15 = .ok (.if_icmp .ne 5, 3) := by decide +kernel
theorem dX3_withNumber_18 : decode cX3_withNumber 18 = .ok (.iload_n 2, 1) := by decide +kernel
theorem dX3_withNumber_19 : decode cX3_withNumber 19 = .ok (.ireturn, 1) := by decide +kernel
theorem dX3_withNumber_20 : decode cX3_withNumber 20 = .ok (.iinc 2 1, 3) := by decide +kernel
theorem dX3_withNumber_23 : decode cX3_withNumber 23 = .ok (.goto (-21), 3) := by decide +kernel
theorem dX3_withNumber_26 : decode cX3_withNumber 26 = .ok (.iconst (-1), 1) := by decide +kernel
theorem dX3_withNumber_27 : decode cX3_withNumber 27 = .ok (.ireturn, 1) := by decide +kernel
theorem dX3_letsUser_0 : decode cX3_letsUser 0 = .ok (.aload_n 0, 1) := by decide +kernel
theorem dX3_letsUser_1 : decode cX3_letsUser 1 = .ok (.getfield 15, 3) := by decide +kernel
theorem dX3_letsUser_4 : decode cX3_letsUser 4 = .ok (.iload_n 1, 1) := by decide +kernel
theorem dX3_letsUser_5 : decode cX3_letsUser 5 = .ok (.bipush 15, 2) := by decide +kernel
theorem dX3_letsUser_7 : decode cX3_letsUser 7 = .ok (.iand, 1) := by decide +kernel
theorem dX3_letsUser_8 : decode cX3_letsUser 8 = .ok (.iaload, 1) := by decide +kernel
theorem dX3_letsUser_9 : decode cX3_letsUser 9 = .ok (.lookupswitch 47 #[(0, 27), (1, 29)], 27) := by decide +kernel
theorem dX3_letsUser_36 : decode cX3_letsUser 36 = .ok (.iconst 1, 1) := by decide +kernel
theorem dX3_letsUser_37 : decode cX3_letsUser 37 = .ok (.ireturn, 1) := by decide +kernel
theorem dX3_letsUser_38 : decode cX3_letsUser 38 = .ok (.iload_n 2, 1) := by decide +kernel
theorem dX3_letsUser_39 : decode cX3_letsUser 39 = .ok (.ifCond .eq 11, 3) := by decide +kernel
theorem dX3_letsUser_42 : decode cX3_letsUser 42 = .ok (.aload_n 0, 1) := by decide +kernel
theorem dX3_letsUser_43 : decode cX3_letsUser 43 = .ok (.getfield 24, 3) := by decide +kernel
theorem dX3_letsUser_46 : decode cX3_letsUser 46 = .ok (.iconst 1, 1) := by decide +kernel
theorem dX3_letsUser_47 : decode cX3_letsUser 47 = .ok (.if_icmp .ne 7, 3) := by decide +kernel
theorem dX3_letsUser_50 : decode cX3_letsUser 50 = .ok (.iconst 1, 1) := by decide +kernel
theorem dX3_letsUser_51 : decode cX3_letsUser 51 = .ok (.goto 4, 3) := by decide +kernel
theorem dX3_letsUser_54 : decode cX3_letsUser 54 = .ok (.iconst 0, 1) := by decide +kernel
theorem dX3_letsUser_55 : decode cX3_letsUser 55 = .ok (.ireturn, 1) := by decide +kernel
theorem dX3_letsUser_56 : decode cX3_letsUser 56 = .ok (.iload_n 2, 1) := by decide +kernel
theorem dX3_letsUser_57 : decode cX3_letsUser 57 = .ok (.ifCond .ne 15, 3) := by decide +kernel
theorem dX3_letsUser_60 : decode cX3_letsUser 60 = .ok (.aload_n 0, 1) := by decide +kernel
theorem dX3_letsUser_61 : decode cX3_letsUser 61 = .ok (.getfield 24, 3) := by decide +kernel
theorem dX3_letsUser_64 : decode cX3_letsUser 64 = .ok (.iconst 1, 1) := by decide +kernel
theorem dX3_letsUser_65 : decode cX3_letsUser 65 = .ok (.if_icmp .ne 7, 3) := by decide +kernel
theorem dX3_letsUser_68 : decode cX3_letsUser 68 = .ok (.iconst 1, 1) := by decide +kernel
theorem dX3_letsUser_69 : decode cX3_letsUser 69 = .ok (.goto 4, 3) := by decide +kernel
theorem dX3_letsUser_72 : decode cX3_letsUser 72 = .ok (.iconst 0, 1) := by decide +kernel
theorem dX3_letsUser_73 : decode cX3_letsUser 73 = .ok (.ireturn, 1) := by decide +kernel
theorem dX3_tell_0 : decode cX3_tell 0 = .ok (.iload_n 1, 1) := by decide +kernel
theorem dX3_tell_1 : decode cX3_tell 1 = .ok (.bipush 15, 2) := by decide +kernel
theorem dX3_tell_3 : decode cX3_tell 3 = .ok (.iand, 1) := by decide +kernel
theorem dX3_tell_4 : decode cX3_tell 4 = .ok (.istore_n 2, 1) := by decide +kernel
theorem dX3_tell_5 : decode cX3_tell 5 = .ok (.aload_n 0, 1) := by decide +kernel
theorem dX3_tell_6 : decode cX3_tell 6 = .ok (.getfield 15, 3) := by decide +kernel
theorem dX3_tell_9 : decode cX3_tell 9 = .ok (.iload_n 2, 1) := by decide +kernel
theorem dX3_tell_10 : decode cX3_tell 10 = .ok (.iload_n 1, 1) := by decide +kernel
theorem dX3_tell_11 : decode cX3_tell 11 = .ok (.bipush 8, 2) := by decide +kernel
theorem dX3_tell_13 : decode cX3_tell 13 = .ok (.iushr, 1) := by decide +kernel
theorem dX3_tell_14 : decode cX3_tell 14 = .ok (.iconst 3, 1) := by decide +kernel
theorem dX3_tell_15 : decode cX3_tell 15 = .ok (.iand, 1) := by decide +kernel
theorem dX3_tell_16 : decode cX3_tell 16 = .ok (.iastore, 1) := by decide +kernel
theorem dX3_tell_17 : decode cX3_tell 17 = .ok (.iload_n 1, 1) := by decide +kernel
theorem dX3_tell_18 : decode cX3_tell 18 = .ok (.bipush 16, 2) := by decide +kernel
theorem dX3_tell_20 : decode cX3_tell 20 = .ok (.iand, 1) := by decide +kernel
theorem dX3_tell_21 : decode cX3_tell 21 = .ok (.ifCond .eq 13, 3) := by decide +kernel
theorem dX3_tell_24 : decode cX3_tell 24 = .ok (.aload_n 0, 1) := by decide +kernel
theorem dX3_tell_25 : decode cX3_tell 25 = .ok (.getfield 11, 3) := by decide +kernel
theorem dX3_tell_28 : decode cX3_tell 28 = .ok (.iload_n 2, 1) := by decide +kernel
theorem dX3_tell_29 : decode cX3_tell 29 = .ok (.iconst (-1), 1) := by decide +kernel
theorem dX3_tell_30 : decode cX3_tell 30 = .ok (.iastore, 1) := by decide +kernel
theorem dX3_tell_31 : decode cX3_tell 31 = .ok (.goto 27, 3) := by decide +kernel
theorem dX3_tell_34 : decode cX3_tell 34 = .ok (.aload_n 0, 1) := by decide +kernel
theorem dX3_tell_35 : decode cX3_tell 35 = .ok (.getfield 11, 3) := by decide +kernel
theorem dX3_tell_38 : decode cX3_tell 38 = .ok (.iload_n 2, 1) := by decide +kernel
theorem dX3_tell_39 : decode cX3_tell 39 = .ok (.iload_n 1, 1) := by decide +kernel
theorem dX3_tell_40 : decode cX3_tell 40 = .ok (.bipush 12, 2) := by decide +kernel
theorem dX3_tell_42 : decode cX3_tell 42 = .ok (.iushr, 1) := by decide +kernel
theorem dX3_tell_43 : decode cX3_tell 43 = .ok (.sipush 2047, 3) := by decide +kernel
theorem dX3_tell_46 : decode cX3_tell 46 = .ok (.iand, 1) := by decide +kernel
theorem dX3_tell_47 : decode cX3_tell 47 = .ok (.iload_n 1, 1) := by decide +kernel
theorem dX3_tell_48 : decode cX3_tell 48 = .ok (.bipush 10, 2) := by decide +kernel
theorem dX3_tell_50 : decode cX3_tell 50 = .ok (.iushr, 1) := by decide +kernel
theorem dX3_tell_51 : decode cX3_tell 51 = .ok (.iconst 3, 1) := by decide +kernel
theorem dX3_tell_52 : decode cX3_tell 52 = .ok (.iand, 1) := by decide +kernel
theorem dX3_tell_53 : decode cX3_tell 53 = .ok (.bipush 11, 2) := by decide +kernel
theorem dX3_tell_55 : decode cX3_tell 55 = .ok (.ishl, 1) := by decide +kernel
theorem dX3_tell_56 : decode cX3_tell 56 = .ok (.ior, 1) := by decide +kernel
theorem dX3_tell_57 : decode cX3_tell 57 = .ok (.iastore, 1) := by decide +kernel
theorem dX3_tell_58 : decode cX3_tell 58 = .ok (.return_, 1) := by decide +kernel
theorem dX4_init_0 : decode cX4_init 0 = .ok (.aload_n 0, 1) := by decide +kernel
theorem dX4_init_1 : decode cX4_init 1 = .ok (.invokespecial 1, 3) := by decide +kernel
theorem dX4_init_4 : decode cX4_init 4 = .ok (.return_, 1) := by decide +kernel
theorem dX4_begin_0 : decode cX4_begin 0 = .ok (.aload_n 0, 1) := by decide +kernel
theorem dX4_begin_1 : decode cX4_begin 1 = .ok (.sipush 128, 3) := by decide +kernel
theorem dX4_begin_4 : decode cX4_begin 4 = .ok (.putfield 9, 3) := by decide +kernel
theorem dX4_begin_7 : decode cX4_begin 7 = .ok (.aload_n 0, 1) := by decide +kernel
theorem dX4_begin_8 : decode cX4_begin 8 = .ok (.bipush 64, 2) := by decide +kernel
theorem dX4_begin_10 : decode cX4_begin 10 = .ok (.putfield 13, 3) := by decide +kernel
theorem dX4_begin_13 : decode cX4_begin 13 = .ok (.aload_n 0, 1) := by decide +kernel
theorem dX4_begin_14 : decode cX4_begin 14 = .ok (.sipush 128, 3) := by decide +kernel
theorem dX4_begin_17 : decode cX4_begin 17 = .ok (.putfield 16, 3) := by decide +kernel
theorem dX4_begin_20 : decode cX4_begin 20 = .ok (.aload_n 0, 1) := by decide +kernel
theorem dX4_begin_21 : decode cX4_begin 21 = .ok (.iconst 0, 1) := by decide +kernel
theorem dX4_begin_22 : decode cX4_begin 22 = .ok (.putfield 19, 3) := by decide +kernel
theorem dX4_begin_25 : decode cX4_begin 25 = .ok (.aload_n 0, 1) := by decide +kernel
theorem dX4_begin_26 : decode cX4_begin 26 = .ok (.iconst 0, 1) := by decide +kernel
theorem dX4_begin_27 : decode cX4_begin 27 = .ok (.putfield 22, 3) := by decide +kernel
theorem dX4_begin_30 : decode cX4_begin 30 = .ok (.aload_n 0, 1) := by decide +kernel
theorem dX4_begin_31 : decode cX4_begin 31 = .ok (.iconst 0, 1) := by decide +kernel
theorem dX4_begin_32 : decode cX4_begin 32 = .ok (.putfield 25, 3) := by decide +kernel
theorem dX4_begin_35 : decode cX4_begin 35 = .ok (.return_, 1) := by decide +kernel
theorem dX4_isIrq_0 : decode cX4_isIrq 0 = .ok (.aload_n 0, 1) := by decide +kernel
theorem dX4_isIrq_1 : decode cX4_isIrq 1 = .ok (.getfield 9, 3) := by decide +kernel
theorem dX4_isIrq_4 : decode cX4_isIrq 4 = .ok (.aload_n 0, 1) := by decide +kernel
theorem dX4_isIrq_5 : decode cX4_isIrq 5 = .ok (.getfield 19, 3) := by decide +kernel
theorem dX4_isIrq_8 : decode cX4_isIrq 8 = .ok (.iand, 1) := by decide +kernel
theorem dX4_isIrq_9 : decode cX4_isIrq 9 = .ok (.aload_n 0, 1) := by decide +kernel
theorem dX4_isIrq_10 : decode cX4_isIrq 10 = .ok (.getfield 13, 3) := by decide +kernel
theorem dX4_isIrq_13 : decode cX4_isIrq 13 = .ok (.aload_n 0, 1) := by decide +kernel
theorem dX4_isIrq_14 : decode cX4_isIrq 14 = .ok (.getfield 22, 3) := by decide +kernel
theorem dX4_isIrq_17 : decode cX4_isIrq 17 = .ok (.iand, 1) := by decide +kernel
theorem dX4_isIrq_18 : decode cX4_isIrq 18 = .ok (.ior, 1) := by decide +kernel
theorem dX4_isIrq_19 : decode cX4_isIrq 19 = .ok (.ifCond .eq 7, 3) := by decide +kernel
theorem dX4_isIrq_22 : decode cX4_isIrq 22 = .ok (.iconst 1, 1) := by decide +kernel
theorem dX4_isIrq_23 : decode cX4_isIrq 23 = .ok (.goto 4, 3) := by decide +kernel
theorem dX4_isIrq_26 : decode cX4_isIrq 26 = .ok (.iconst 0, 1) := by decide +kernel
theorem dX4_isIrq_27 : decode cX4_isIrq 27 = .ok (.ireturn, 1) := by decide +kernel
theorem dX4_isFiq_0 : decode cX4_isFiq 0 = .ok (.aload_n 0, 1) := by decide +kernel
theorem dX4_isFiq_1 : decode cX4_isFiq 1 = .ok (.getfield 16, 3) := by decide +kernel
theorem dX4_isFiq_4 : decode cX4_isFiq 4 = .ok (.aload_n 0, 1) := by decide +kernel
theorem dX4_isFiq_5 : decode cX4_isFiq 5 = .ok (.getfield 25, 3) := by decide +kernel
theorem dX4_isFiq_8 : decode cX4_isFiq 8 = .ok (.iand, 1) := by decide +kernel
theorem dX4_isFiq_9 : decode cX4_isFiq 9 = .ok (.ifCond .eq 7, 3) := by decide +kernel
theorem dX4_isFiq_12 : decode cX4_isFiq 12 = .ok (.iconst 1, 1) := by decide +kernel
theorem dX4_isFiq_13 : decode cX4_isFiq 13 = .ok (.goto 4, 3) := by decide +kernel
theorem dX4_isFiq_16 : decode cX4_isFiq 16 = .ok (.iconst 0, 1) := by decide +kernel
theorem dX4_isFiq_17 : decode cX4_isFiq 17 = .ok (.ireturn, 1) := by decide +kernel
theorem dX4_diskIsReady_0 : decode cX4_diskIsReady 0 = .ok (.aload_n 0, 1) := by decide +kernel
theorem dX4_diskIsReady_1 : decode cX4_diskIsReady 1 = .ok (.dup, 1) := by decide +kernel
theorem dX4_diskIsReady_2 : decode cX4_diskIsReady 2 = .ok (.getfield 13, 3) := by decide +kernel
theorem dX4_diskIsReady_5 : decode cX4_diskIsReady 5 = .ok (.bipush 8, 2) := by decide +kernel
theorem dX4_diskIsReady_7 : decode cX4_diskIsReady 7 = .ok (.ior, 1) := by decide +kernel
theorem dX4_diskIsReady_8 : decode cX4_diskIsReady 8 = .ok (.putfield 13, 3) := by decide +kernel
theorem dX4_diskIsReady_11 : decode cX4_diskIsReady 11 = .ok (.aload_n 0, 1) := by decide +kernel
theorem dX4_diskIsReady_12 : decode cX4_diskIsReady 12 = .ok (.dup, 1) := by decide +kernel
theorem dX4_diskIsReady_13 : decode cX4_diskIsReady 13 = .ok (.getfield 16, 3) := by decide +kernel
theorem dX4_diskIsReady_16 : decode cX4_diskIsReady 16 = .ok (.iconst 1, 1) := by decide +kernel
theorem dX4_diskIsReady_17 : decode cX4_diskIsReady 17 = .ok (.ior, 1) := by decide +kernel
theorem dX4_diskIsReady_18 : decode cX4_diskIsReady 18 = .ok (.putfield 16, 3) := by decide +kernel
theorem dX4_diskIsReady_21 : decode cX4_diskIsReady 21 = .ok (.return_, 1) := by decide +kernel
theorem dX4_diskIsSeen_0 : decode cX4_diskIsSeen 0 = .ok (.aload_n 0, 1) := by decide +kernel
theorem dX4_diskIsSeen_1 : decode cX4_diskIsSeen 1 = .ok (.dup, 1) := by decide +kernel
theorem dX4_diskIsSeen_2 : decode cX4_diskIsSeen 2 = .ok (.getfield 13, 3) := by decide +kernel
theorem dX4_diskIsSeen_5 : decode cX4_diskIsSeen 5 = .ok (.bipush (-9), 2) := by decide +kernel
theorem dX4_diskIsSeen_7 : decode cX4_diskIsSeen 7 = .ok (.iand, 1) := by decide +kernel
theorem dX4_diskIsSeen_8 : decode cX4_diskIsSeen 8 = .ok (.putfield 13, 3) := by decide +kernel
theorem dX4_diskIsSeen_11 : decode cX4_diskIsSeen 11 = .ok (.aload_n 0, 1) := by decide +kernel
theorem dX4_diskIsSeen_12 : decode cX4_diskIsSeen 12 = .ok (.dup, 1) := by decide +kernel
theorem dX4_diskIsSeen_13 : decode cX4_diskIsSeen 13 = .ok (.getfield 16, 3) := by decide +kernel
theorem dX4_diskIsSeen_16 : decode cX4_diskIsSeen 16 = .ok (.bipush (-2), 2) := by decide +kernel
theorem dX4_diskIsSeen_18 : decode cX4_diskIsSeen 18 = .ok (.iand, 1) := by decide +kernel
theorem dX4_diskIsSeen_19 : decode cX4_diskIsSeen 19 = .ok (.putfield 16, 3) := by decide +kernel
theorem dX4_diskIsSeen_22 : decode cX4_diskIsSeen 22 = .ok (.return_, 1) := by decide +kernel
theorem dX5_init_0 : decode cX5_init 0 = .ok (.aload_n 0, 1) := by decide +kernel
theorem dX5_init_1 : decode cX5_init 1 = .ok (.invokespecial 3, 3) := by decide +kernel
theorem dX5_init_4 : decode cX5_init 4 = .ok (.aload_n 0, 1) := by decide +kernel
theorem dX5_init_5 : decode cX5_init 5 = .ok (.bipush 8, 2) := by decide +kernel
theorem dX5_init_7 : decode cX5_init 7 = .ok (.newarray .long, 2) := by decide +kernel
theorem dX5_init_9 : decode cX5_init 9 = .ok (.putfield 9, 3) := by decide +kernel
theorem dX5_init_12 : decode cX5_init 12 = .ok (.aload_n 0, 1) := by decide +kernel
theorem dX5_init_13 : decode cX5_init 13 = .ok (.bipush 16, 2) := by decide +kernel
theorem dX5_init_15 : decode cX5_init 15 = .ok (.newarray .int, 2) := by decide +kernel
theorem dX5_init_17 : decode cX5_init 17 = .ok (.putfield 15, 3) := by decide +kernel
theorem dX5_init_20 : decode cX5_init 20 = .ok (.aload_n 0, 1) := by decide +kernel
theorem dX5_init_21 : decode cX5_init 21 = .ok (.aload_n 1, 1) := by decide +kernel
theorem dX5_init_22 : decode cX5_init 22 = .ok (.putfield 19, 3) := by decide +kernel
theorem dX5_init_25 : decode cX5_init 25 = .ok (.aload_n 0, 1) := by decide +kernel
theorem dX5_init_26 : decode cX5_init 26 = .ok (.aload_n 2, 1) := by decide +kernel
theorem dX5_init_27 : decode cX5_init 27 = .ok (.putfield 23, 3) := by decide +kernel
theorem dX5_init_30 : decode cX5_init 30 = .ok (.aload_n 0, 1) := by decide +kernel
theorem dX5_init_31 : decode cX5_init 31 = .ok (.aload_n 3, 1) := by decide +kernel
theorem dX5_init_32 : decode cX5_init 32 = .ok (.putfield 27, 3) := by decide +kernel
theorem dX5_init_35 : decode cX5_init 35 = .ok (.return_, 1) := by decide +kernel
theorem dX5_trapsTaken_0 : decode cX5_trapsTaken 0 = .ok (.aload_n 0, 1) := by decide +kernel
theorem dX5_trapsTaken_1 : decode cX5_trapsTaken 1 = .ok (.getfield 9, 3) := by decide +kernel
theorem dX5_trapsTaken_4 : decode cX5_trapsTaken 4 = .ok (.iload_n 1, 1) := by decide +kernel
theorem dX5_trapsTaken_5 : decode cX5_trapsTaken 5 = .ok (.bipush 7, 2) := by decide +kernel
theorem dX5_trapsTaken_7 : decode cX5_trapsTaken 7 = .ok (.iand, 1) := by decide +kernel
theorem dX5_trapsTaken_8 : decode cX5_trapsTaken 8 = .ok (.laload, 1) := by decide +kernel
theorem dX5_trapsTaken_9 : decode cX5_trapsTaken 9 = .ok (.lreturn, 1) := by decide +kernel
theorem dX5_trapAhead_0 : decode cX5_trapAhead 0 = .ok (.aload_n 0, 1) := by decide +kernel
theorem dX5_trapAhead_1 : decode cX5_trapAhead 1 = .ok (.aload_n 0, 1) := by decide +kernel
theorem dX5_trapAhead_2 : decode cX5_trapAhead 2 = .ok (.getfield 19, 3) := by decide +kernel
theorem dX5_trapAhead_5 : decode cX5_trapAhead 5 = .ok (.invokevirtual 31, 3) := by decide +kernel
theorem dX5_trapAhead_8 : decode cX5_trapAhead 8 = .ok (.putfield 37, 3) := by decide +kernel
theorem dX5_trapAhead_11 : decode cX5_trapAhead 11 = .ok (.aload_n 0, 1) := by decide +kernel
theorem dX5_trapAhead_12 : decode cX5_trapAhead 12 = .ok (.getfield 27, 3) := by decide +kernel
theorem dX5_trapAhead_15 : decode cX5_trapAhead 15 = .ok (.invokevirtual 41, 3) := by decide +kernel
theorem dX5_trapAhead_18 : decode cX5_trapAhead 18 = .ok (.ifCond .eq 18, 3) := by decide +kernel
theorem dX5_trapAhead_21 : decode cX5_trapAhead 21 = .ok (.aload_n 0, 1) := by decide +kernel
theorem dX5_trapAhead_22 : decode cX5_trapAhead 22 = .ok (.getfield 19, 3) := by decide +kernel
theorem dX5_trapAhead_25 : decode cX5_trapAhead 25 = .ok (.ldc 47, 2) := by decide +kernel
theorem dX5_trapAhead_27 : decode cX5_trapAhead 27 = .ok (.invokevirtual 48, 3) := by decide +kernel
theorem dX5_trapAhead_30 : decode cX5_trapAhead 30 = .ok (.ifCond .ne 6, 3) := by decide +kernel
theorem dX5_trapAhead_33 : decode cX5_trapAhead 33 = .ok (.bipush 6, 2) := by decide +kernel
theorem dX5_trapAhead_35 : decode cX5_trapAhead 35 = .ok (.ireturn, 1) := by decide +kernel
theorem dX5_trapAhead_36 : decode cX5_trapAhead 36 = .ok (.aload_n 0, 1) := by decide +kernel
theorem dX5_trapAhead_37 : decode cX5_trapAhead 37 = .ok (.getfield 27, 3) := by decide +kernel
theorem dX5_trapAhead_40 : decode cX5_trapAhead 40 = .ok (.invokevirtual 52, 3) := by decide +kernel
theorem dX5_trapAhead_43 : decode cX5_trapAhead 43 = .ok (.ifCond .eq 17, 3) := by decide +kernel
theorem dX5_trapAhead_46 : decode cX5_trapAhead 46 = .ok (.aload_n 0, 1) := by decide +kernel
theorem dX5_trapAhead_47 : decode cX5_trapAhead 47 = .ok (.getfield 19, 3) := by decide +kernel
theorem dX5_trapAhead_50 : decode cX5_trapAhead 50 = .ok (.ldc 55, 2) := by decide +kernel
theorem dX5_trapAhead_52 : decode cX5_trapAhead 52 = .ok (.invokevirtual 48, 3) := by decide +kernel
theorem dX5_trapAhead_55 : decode cX5_trapAhead 55 = .ok (.ifCond .ne 5, 3) := by decide +kernel
theorem dX5_trapAhead_58 : decode cX5_trapAhead 58 = .ok (.iconst 5, 1) := by decide +kernel
theorem dX5_trapAhead_59 : decode cX5_trapAhead 59 = .ok (.ireturn, 1) := by decide +kernel
theorem dX5_trapAhead_60 : decode cX5_trapAhead 60 = .ok (.aload_n 0, 1) := by decide +kernel
theorem dX5_trapAhead_61 : decode cX5_trapAhead 61 = .ok (.getfield 23, 3) := by decide +kernel
theorem dX5_trapAhead_64 : decode cX5_trapAhead 64 = .ok (.aload_n 0, 1) := by decide +kernel
theorem dX5_trapAhead_65 : decode cX5_trapAhead 65 = .ok (.getfield 19, 3) := by decide +kernel
theorem dX5_trapAhead_68 : decode cX5_trapAhead 68 = .ok (.invokevirtual 56, 3) := by decide +kernel
theorem dX5_trapAhead_71 : decode cX5_trapAhead 71 = .ok (.aload_n 0, 1) := by decide +kernel
theorem dX5_trapAhead_72 : decode cX5_trapAhead 72 = .ok (.getfield 37, 3) := by decide +kernel
theorem dX5_trapAhead_75 : decode cX5_trapAhead 75 = .ok (.iconst 0, 1) := by decide +kernel
theorem dX5_trapAhead_76 : decode cX5_trapAhead 76 = .ok (.invokevirtual 59, 3) := by decide +kernel
theorem dX5_trapAhead_79 : decode cX5_trapAhead 79 = .ok (.istore_n 1, 1) := by decide +kernel
theorem dX5_trapAhead_80 : decode cX5_trapAhead 80 = .ok (.iload_n 1, 1) := by decide +kernel
theorem dX5_trapAhead_81 : decode cX5_trapAhead 81 = .ok (.iconst (-1), 1) := by decide +kernel
theorem dX5_trapAhead_82 : decode cX5_trapAhead 82 = .ok (.if_icmp .ne 5, 3) := by decide +kernel
theorem dX5_trapAhead_85 : decode cX5_trapAhead 85 = .ok (.iconst 2, 1) := by decide +kernel
theorem dX5_trapAhead_86 : decode cX5_trapAhead 86 = .ok (.ireturn, 1) := by decide +kernel
theorem dX5_trapAhead_87 : decode cX5_trapAhead 87 = .ok (.aload_n 0, 1) := by decide +kernel
theorem dX5_trapAhead_88 : decode cX5_trapAhead 88 = .ok (.aload_n 0, 1) := by decide +kernel
theorem dX5_trapAhead_89 : decode cX5_trapAhead 89 = .ok (.getfield 23, 3) := by decide +kernel
theorem dX5_trapAhead_92 : decode cX5_trapAhead 92 = .ok (.iload_n 1, 1) := by decide +kernel
theorem dX5_trapAhead_93 : decode cX5_trapAhead 93 = .ok (.invokevirtual 65, 3) := by decide +kernel
theorem dX5_trapAhead_96 : decode cX5_trapAhead 96 = .ok (.putfield 69, 3) := by decide +kernel
theorem dX5_trapAhead_99 : decode cX5_trapAhead 99 = .ok (.iconst (-1), 1) := by decide +kernel
theorem dX5_trapAhead_100 : decode cX5_trapAhead 100 = .ok (.ireturn, 1) := by decide +kernel
theorem dX5_take_0 : decode cX5_take 0 = .ok (.iload_n 1, 1) := by decide +kernel
theorem dX5_take_1 : decode cX5_take 1 = .ok (.iconst 5, 1) := by decide +kernel
theorem dX5_take_2 : decode cX5_take 2 = .ok (.if_icmp .ne 7, 3) := by decide +kernel
theorem dX5_take_5 : decode cX5_take 5 = .ok (.iconst 2, 1) := by decide +kernel
theorem dX5_take_6 : decode cX5_take 6 = .ok (.goto 14, 3) := by decide +kernel
theorem dX5_take_9 : decode cX5_take 9 = .ok (.iload_n 1, 1) := by decide +kernel
theorem dX5_take_10 : decode cX5_take 10 = .ok (.bipush 6, 2) := by decide +kernel
theorem dX5_take_12 : decode cX5_take 12 = .ok (.if_icmp .ne 7, 3) := by decide +kernel
theorem dX5_take_15 : decode cX5_take 15 = .ok (.iconst 1, 1) := by decide +kernel
theorem dX5_take_16 : decode cX5_take 16 = .ok (.goto 4, 3) := by decide +kernel
theorem dX5_take_19 : decode cX5_take 19 = .ok (.iconst 3, 1) := by decide +kernel
theorem dX5_take_20 : decode cX5_take 20 = .ok (.istore_n 2, 1) := by decide +kernel
theorem dX5_take_21 : decode cX5_take 21 = .ok (.iload_n 1, 1) := by decide +kernel
theorem dX5_take_22 : decode cX5_take 22 = .ok (.iconst 3, 1) := by decide +kernel
theorem dX5_take_23 : decode cX5_take 23 = .ok (.if_icmp .eq 8, 3) := by decide +kernel
theorem dX5_take_26 : decode cX5_take 26 = .ok (.iload_n 1, 1) := by decide +kernel
theorem dX5_take_27 : decode cX5_take 27 = .ok (.iconst 4, 1) := by decide +kernel
theorem dX5_take_28 : decode cX5_take 28 = .ok (.if_icmp .ne 8, 3) := by decide +kernel
theorem dX5_take_31 : decode cX5_take 31 = .ok (.bipush 8, 2) := by decide +kernel
theorem dX5_take_33 : decode cX5_take 33 = .ok (.goto 4, 3) := by decide +kernel
theorem dX5_take_36 : decode cX5_take 36 = .ok (.iconst 4, 1) := by decide +kernel
theorem dX5_take_37 : decode cX5_take 37 = .ok (.istore_n 3, 1) := by decide +kernel
theorem dX5_take_38 : decode cX5_take 38 = .ok (.iload_n 1, 1) := by decide +kernel
theorem dX5_take_39 : decode cX5_take 39 = .ok (.bipush 6, 2) := by decide +kernel
theorem dX5_take_41 : decode cX5_take 41 = .ok (.if_icmp .ne 8, 3) := by decide +kernel
theorem dX5_take_44 : decode cX5_take 44 = .ok (.ldc 72, 2) := by decide +kernel
theorem dX5_take_46 : decode cX5_take 46 = .ok (.goto 5, 3) := by decide +kernel
theorem dX5_take_49 : decode cX5_take 49 = .ok (.ldc 55, 2) := by decide +kernel
theorem dX5_take_51 : decode cX5_take 51 = .ok (.istore 4, 2) := by decide +kernel
theorem dX5_take_53 : decode cX5_take 53 = .ok (.aload_n 0, 1) := by decide +kernel
theorem dX5_take_54 : decode cX5_take 54 = .ok (.getfield 19, 3) := by decide +kernel
theorem dX5_take_57 : decode cX5_take 57 = .ok (.iload_n 2, 1) := by decide +kernel
theorem dX5_take_58 : decode cX5_take 58 = .ok (.bipush 14, 2) := by decide +kernel
theorem dX5_take_60 : decode cX5_take 60 = .ok (.aload_n 0, 1) := by decide +kernel
theorem dX5_take_61 : decode cX5_take 61 = .ok (.iload_n 3, 1) := by decide +kernel
theorem dX5_take_62 : decode cX5_take 62 = .ok (.invokevirtual 73, 3) := by decide +kernel
theorem dX5_take_65 : decode cX5_take 65 = .ok (.invokevirtual 76, 3) := by decide +kernel
theorem dX5_take_68 : decode cX5_take 68 = .ok (.aload_n 0, 1) := by decide +kernel
theorem dX5_take_69 : decode cX5_take 69 = .ok (.getfield 19, 3) := by decide +kernel
theorem dX5_take_72 : decode cX5_take 72 = .ok (.iload_n 2, 1) := by decide +kernel
theorem dX5_take_73 : decode cX5_take 73 = .ok (.iload 4, 2) := by decide +kernel
theorem dX5_take_75 : decode cX5_take 75 = .ok (.iconst 4, 1) := by decide +kernel
theorem dX5_take_76 : decode cX5_take 76 = .ok (.iload_n 1, 1) := by decide +kernel
theorem dX5_take_77 : decode cX5_take 77 = .ok (.imul, 1) := by decide +kernel
theorem dX5_take_78 : decode cX5_take 78 = .ok (.iconst 4, 1) := by decide +kernel
theorem dX5_take_79 : decode cX5_take 79 = .ok (.iadd, 1) := by decide +kernel
theorem dX5_take_80 : decode cX5_take 80 = .ok (.invokevirtual 80, 3) := by decide +kernel
theorem dX5_take_83 : decode cX5_take 83 = .ok (.aload_n 0, 1) := by decide +kernel
theorem dX5_take_84 : decode cX5_take 84 = .ok (.getfield 9, 3) := by decide +kernel
theorem dX5_take_87 : decode cX5_take 87 = .ok (.iload_n 1, 1) := by decide +kernel
theorem dX5_take_88 : decode cX5_take 88 = .ok (.bipush 7, 2) := by decide +kernel
theorem dX5_take_90 : decode cX5_take 90 = .ok (.iand, 1) := by decide +kernel
theorem dX5_take_91 : decode cX5_take 91 = .ok (.dup2, 1) := by decide +kernel
theorem dX5_take_92 : decode cX5_take 92 = .ok (.laload, 1) := by decide +kernel
theorem dX5_take_93 : decode cX5_take 93 = .ok (.lconst 1, 1) := by decide +kernel
theorem dX5_take_94 : decode cX5_take 94 = .ok (.ladd, 1) := by decide +kernel
theorem dX5_take_95 : decode cX5_take 95 = .ok (.lastore, 1) := by decide +kernel
theorem dX5_take_96 : decode cX5_take 96 = .ok (.iconst 4, 1) := by decide +kernel
theorem dX5_take_97 : decode cX5_take 97 = .ok (.ireturn, 1) := by decide +kernel
theorem dX5_instruction_0 : decode cX5_instruction 0 = .ok (.aload_n 0, 1) := by decide +kernel
theorem dX5_instruction_1 : decode cX5_instruction 1 = .ok (.getfield 19, 3) := by decide +kernel
theorem dX5_instruction_4 : decode cX5_instruction 4 = .ok (.aload_n 0, 1) := by decide +kernel
theorem dX5_instruction_5 : decode cX5_instruction 5 = .ok (.getfield 37, 3) := by decide +kernel
theorem dX5_instruction_8 : decode cX5_instruction 8 = .ok (.iconst 4, 1) := by decide +kernel
theorem dX5_instruction_9 : decode cX5_instruction 9 = .ok (.iadd, 1) := by decide +kernel
theorem dX5_instruction_10 : decode cX5_instruction 10 = .ok (.invokevirtual 83, 3) := by decide +kernel
theorem dX5_instruction_13 : decode cX5_instruction 13 = .ok (.aload_n 0, 1) := by decide +kernel
theorem dX5_instruction_14 : decode cX5_instruction 14 = .ok (.aload_n 0, 1) := by decide +kernel
theorem dX5_instruction_15 : decode cX5_instruction 15 = .ok (.getfield 69, 3) := by decide +kernel
theorem dX5_instruction_18 : decode cX5_instruction 18 = .ok (.bipush 28, 2) := by decide +kernel
theorem dX5_instruction_20 : decode cX5_instruction 20 = .ok (.iushr, 1) := by decide +kernel
theorem dX5_instruction_21 : decode cX5_instruction 21 = .ok (.invokevirtual 87, 3) := by decide +kernel
theorem dX5_instruction_24 : decode cX5_instruction 24 = .ok (.ifCond .ne 15, 3) := by decide +kernel
theorem dX5_instruction_27 : decode cX5_instruction 27 = .ok (.aload_n 0, 1) := by decide +kernel
theorem dX5_instruction_28 : decode cX5_instruction 28 = .ok (.dup, 1) := by decide +kernel
theorem dX5_instruction_29 : decode cX5_instruction 29 = .ok (.getfield 90, 3) := by decide +kernel
theorem dX5_instruction_32 : decode cX5_instruction 32 = .ok (.lconst 1, 1) := by decide +kernel
theorem dX5_instruction_33 : decode cX5_instruction 33 = .ok (.ladd, 1) := by decide +kernel
theorem dX5_instruction_34 : decode cX5_instruction 34 = .ok (.putfield 90, 3) := by decide +kernel
theorem dX5_instruction_37 : decode cX5_instruction 37 = .ok (.iconst 1, 1) := by decide +kernel
theorem dX5_instruction_38 : decode cX5_instruction 38 = .ok (.ireturn, 1) := by decide +kernel
theorem dX5_instruction_39 : decode cX5_instruction 39 = .ok (.aload_n 0, 1) := by decide +kernel
theorem dX5_instruction_40 : decode cX5_instruction 40 = .ok (.getfield 69, 3) := by decide +kernel
theorem dX5_instruction_43 : decode cX5_instruction 43 = .ok (.bipush 25, 2) := by decide +kernel
theorem dX5_instruction_45 : decode cX5_instruction 45 = .ok (.iushr, 1) := by decide +kernel
theorem dX5_instruction_46 : decode cX5_instruction 46 = .ok (.bipush 7, 2) := by decide +kernel
theorem dX5_instruction_48 : decode cX5_instruction 48 = .ok (.iand, 1) := by decide +kernel
theorem dX5_instruction_49 : decode cX5_instruction 49 = .ok (.tableswitch 111 0 6 #[43, 85, 90, 90, 95, 100, 105], 43) := by decide +kernel
theorem dX5_instruction_92 : decode cX5_instruction 92 = .ok (.aload_n 0, 1) := by decide +kernel
theorem dX5_instruction_93 : decode cX5_instruction 93 = .ok (.getfield 69, 3) := by decide +kernel
theorem dX5_instruction_96 : decode cX5_instruction 96 = .ok (.sipush 144, 3) := by decide +kernel
theorem dX5_instruction_99 : decode cX5_instruction 99 = .ok (.iand, 1) := by decide +kernel
theorem dX5_instruction_100 : decode cX5_instruction 100 = .ok (.sipush 144, 3) := by decide +kernel
theorem dX5_instruction_103 : decode cX5_instruction 103 = .ok (.if_icmp .eq 8, 3) := by decide +kernel
theorem dX5_instruction_106 : decode cX5_instruction 106 = .ok (.aload_n 0, 1) := by decide +kernel
theorem dX5_instruction_107 : decode cX5_instruction 107 = .ok (.invokevirtual 94, 3) := by decide +kernel
theorem dX5_instruction_110 : decode cX5_instruction 110 = .ok (.ireturn, 1) := by decide +kernel
theorem dX5_instruction_111 : decode cX5_instruction 111 = .ok (.aload_n 0, 1) := by decide +kernel
theorem dX5_instruction_112 : decode cX5_instruction 112 = .ok (.getfield 69, 3) := by decide +kernel
theorem dX5_instruction_115 : decode cX5_instruction 115 = .ok (.ldc 97, 2) := by decide +kernel
theorem dX5_instruction_117 : decode cX5_instruction 117 = .ok (.iand, 1) := by decide +kernel
theorem dX5_instruction_118 : decode cX5_instruction 118 = .ok (.ifCond .ne 10, 3) := by decide +kernel
theorem dX5_instruction_121 : decode cX5_instruction 121 = .ok (.aload_n 0, 1) := by decide +kernel
theorem dX5_instruction_122 : decode cX5_instruction 122 = .ok (.invokevirtual 98, 3) := by decide +kernel
theorem dX5_instruction_125 : decode cX5_instruction 125 = .ok (.goto 8, 3) := by decide +kernel
theorem dX5_instruction_128 : decode cX5_instruction 128 = .ok (.aload_n 0, 1) := by decide +kernel
theorem dX5_instruction_129 : decode cX5_instruction 129 = .ok (.iconst 0, 1) := by decide +kernel
theorem dX5_instruction_130 : decode cX5_instruction 130 = .ok (.invokevirtual 101, 3) := by decide +kernel
theorem dX5_instruction_133 : decode cX5_instruction 133 = .ok (.ireturn, 1) := by decide +kernel
theorem dX5_instruction_134 : decode cX5_instruction 134 = .ok (.aload_n 0, 1) := by decide +kernel
theorem dX5_instruction_135 : decode cX5_instruction 135 = .ok (.invokevirtual 94, 3) := by decide +kernel
theorem dX5_instruction_138 : decode cX5_instruction 138 = .ok (.ireturn, 1) := by decide +kernel
theorem dX5_instruction_139 : decode cX5_instruction 139 = .ok (.aload_n 0, 1) := by decide +kernel
theorem dX5_instruction_140 : decode cX5_instruction 140 = .ok (.invokevirtual 104, 3) := by decide +kernel
theorem dX5_instruction_143 : decode cX5_instruction 143 = .ok (.ireturn, 1) := by decide +kernel
theorem dX5_instruction_144 : decode cX5_instruction 144 = .ok (.aload_n 0, 1) := by decide +kernel
theorem dX5_instruction_145 : decode cX5_instruction 145 = .ok (.invokevirtual 107, 3) := by decide +kernel
theorem dX5_instruction_148 : decode cX5_instruction 148 = .ok (.ireturn, 1) := by decide +kernel
theorem dX5_instruction_149 : decode cX5_instruction 149 = .ok (.aload_n 0, 1) := by decide +kernel
theorem dX5_instruction_150 : decode cX5_instruction 150 = .ok (.invokevirtual 110, 3) := by decide +kernel
theorem dX5_instruction_153 : decode cX5_instruction 153 = .ok (.ireturn, 1) := by decide +kernel
theorem dX5_instruction_154 : decode cX5_instruction 154 = .ok (.aload_n 0, 1) := by decide +kernel
theorem dX5_instruction_155 : decode cX5_instruction 155 = .ok (.iconst 0, 1) := by decide +kernel
theorem dX5_instruction_156 : decode cX5_instruction 156 = .ok (.invokevirtual 101, 3) := by decide +kernel
theorem dX5_instruction_159 : decode cX5_instruction 159 = .ok (.ireturn, 1) := by decide +kernel
theorem dX5_instruction_160 : decode cX5_instruction 160 = .ok (.aload_n 0, 1) := by decide +kernel
theorem dX5_instruction_161 : decode cX5_instruction 161 = .ok (.aload_n 0, 1) := by decide +kernel
theorem dX5_instruction_162 : decode cX5_instruction 162 = .ok (.ldc 113, 2) := by decide +kernel
theorem dX5_instruction_164 : decode cX5_instruction 164 = .ok (.invokevirtual 114, 3) := by decide +kernel
theorem dX5_instruction_167 : decode cX5_instruction 167 = .ok (.ifCond .eq 7, 3) := by decide +kernel
theorem dX5_instruction_170 : decode cX5_instruction 170 = .ok (.iconst 1, 1) := by decide +kernel
theorem dX5_instruction_171 : decode cX5_instruction 171 = .ok (.goto 4, 3) := by decide +kernel
theorem dX5_instruction_174 : decode cX5_instruction 174 = .ok (.iconst 0, 1) := by decide +kernel
theorem dX5_instruction_175 : decode cX5_instruction 175 = .ok (.invokevirtual 101, 3) := by decide +kernel
theorem dX5_instruction_178 : decode cX5_instruction 178 = .ok (.ireturn, 1) := by decide +kernel
theorem dX5_isSo_0 : decode cX5_isSo 0 = .ok (.aload_n 0, 1) := by decide +kernel
theorem dX5_isSo_1 : decode cX5_isSo 1 = .ok (.iload_n 1, 1) := by decide +kernel
theorem dX5_isSo_2 : decode cX5_isSo 2 = .ok (.iconst 1, 1) := by decide +kernel
theorem dX5_isSo_3 : decode cX5_isSo 3 = .ok (.iushr, 1) := by decide +kernel
theorem dX5_isSo_4 : decode cX5_isSo 4 = .ok (.invokevirtual 117, 3) := by decide +kernel
theorem dX5_isSo_7 : decode cX5_isSo 7 = .ok (.iload_n 1, 1) := by decide +kernel
theorem dX5_isSo_8 : decode cX5_isSo 8 = .ok (.iconst 1, 1) := by decide +kernel
theorem dX5_isSo_9 : decode cX5_isSo 9 = .ok (.iand, 1) := by decide +kernel
theorem dX5_isSo_10 : decode cX5_isSo 10 = .ok (.ifCond .ne 7, 3) := by decide +kernel
theorem dX5_isSo_13 : decode cX5_isSo 13 = .ok (.iconst 1, 1) := by decide +kernel
theorem dX5_isSo_14 : decode cX5_isSo 14 = .ok (.goto 4, 3) := by decide +kernel
theorem dX5_isSo_17 : decode cX5_isSo 17 = .ok (.iconst 0, 1) := by decide +kernel
theorem dX5_isSo_18 : decode cX5_isSo 18 = .ok (.if_icmp .ne 7, 3) := by decide +kernel
theorem dX5_isSo_21 : decode cX5_isSo 21 = .ok (.iconst 1, 1) := by decide +kernel
theorem dX5_isSo_22 : decode cX5_isSo 22 = .ok (.goto 4, 3) := by decide +kernel
theorem dX5_isSo_25 : decode cX5_isSo 25 = .ok (.iconst 0, 1) := by decide +kernel
theorem dX5_isSo_26 : decode cX5_isSo 26 = .ok (.ireturn, 1) := by decide +kernel
theorem dX5_isEvenSo_0 : decode cX5_isEvenSo 0 = .ok (.iload_n 1, 1) := by decide +kernel
theorem dX5_isEvenSo_1 : decode cX5_isEvenSo 1 = .ok (.tableswitch 143 0 6 #[43, 53, 63, 73, 83, 113, 118], 43) := by decide +kernel
theorem dX5_isEvenSo_44 : decode cX5_isEvenSo 44 = .ok (.aload_n 0, 1) := by decide +kernel
theorem dX5_isEvenSo_45 : decode cX5_isEvenSo 45 = .ok (.getfield 19, 3) := by decide +kernel
theorem dX5_isEvenSo_48 : decode cX5_isEvenSo 48 = .ok (.ldc 120, 2) := by decide +kernel
theorem dX5_isEvenSo_50 : decode cX5_isEvenSo 50 = .ok (.invokevirtual 48, 3) := by decide +kernel
theorem dX5_isEvenSo_53 : decode cX5_isEvenSo 53 = .ok (.ireturn, 1) := by decide +kernel
theorem dX5_isEvenSo_54 : decode cX5_isEvenSo 54 = .ok (.aload_n 0, 1) := by decide +kernel
theorem dX5_isEvenSo_55 : decode cX5_isEvenSo 55 = .ok (.getfield 19, 3) := by decide +kernel
theorem dX5_isEvenSo_58 : decode cX5_isEvenSo 58 = .ok (.ldc 121, 2) := by decide +kernel
theorem dX5_isEvenSo_60 : decode cX5_isEvenSo 60 = .ok (.invokevirtual 48, 3) := by decide +kernel
theorem dX5_isEvenSo_63 : decode cX5_isEvenSo 63 = .ok (.ireturn, 1) := by decide +kernel
theorem dX5_isEvenSo_64 : decode cX5_isEvenSo 64 = .ok (.aload_n 0, 1) := by decide +kernel
theorem dX5_isEvenSo_65 : decode cX5_isEvenSo 65 = .ok (.getfield 19, 3) := by decide +kernel
theorem dX5_isEvenSo_68 : decode cX5_isEvenSo 68 = .ok (.ldc 122, 2) := by decide +kernel
theorem dX5_isEvenSo_70 : decode cX5_isEvenSo 70 = .ok (.invokevirtual 48, 3) := by decide +kernel
theorem dX5_isEvenSo_73 : decode cX5_isEvenSo 73 = .ok (.ireturn, 1) := by decide +kernel
theorem dX5_isEvenSo_74 : decode cX5_isEvenSo 74 = .ok (.aload_n 0, 1) := by decide +kernel
theorem dX5_isEvenSo_75 : decode cX5_isEvenSo 75 = .ok (.getfield 19, 3) := by decide +kernel
theorem dX5_isEvenSo_78 : decode cX5_isEvenSo 78 = .ok (.ldc 123, 2) := by decide +kernel
theorem dX5_isEvenSo_80 : decode cX5_isEvenSo 80 = .ok (.invokevirtual 48, 3) := by decide +kernel
theorem dX5_isEvenSo_83 : decode cX5_isEvenSo 83 = .ok (.ireturn, 1) := by decide +kernel
theorem dX5_isEvenSo_84 : decode cX5_isEvenSo 84 = .ok (.aload_n 0, 1) := by decide +kernel
theorem dX5_isEvenSo_85 : decode cX5_isEvenSo 85 = .ok (.getfield 19, 3) := by decide +kernel
theorem dX5_isEvenSo_88 : decode cX5_isEvenSo 88 = .ok (.ldc 121, 2) := by decide +kernel
theorem dX5_isEvenSo_90 : decode cX5_isEvenSo 90 = .ok (.invokevirtual 48, 3) := by decide +kernel
theorem dX5_isEvenSo_93 : decode cX5_isEvenSo 93 = .ok (.ifCond .eq 19, 3) := by decide +kernel
theorem dX5_isEvenSo_96 : decode cX5_isEvenSo 96 = .ok (.aload_n 0, 1) := by decide +kernel
theorem dX5_isEvenSo_97 : decode cX5_isEvenSo 97 = .ok (.getfield 19, 3) := by decide +kernel
theorem dX5_isEvenSo_100 : decode cX5_isEvenSo 100 = .ok (.ldc 120, 2) := by decide +kernel
theorem dX5_isEvenSo_102 : decode cX5_isEvenSo 102 = .ok (.invokevirtual 48, 3) := by decide +kernel
theorem dX5_isEvenSo_105 : decode cX5_isEvenSo 105 = .ok (.ifCond .ne 7, 3) := by decide +kernel
theorem dX5_isEvenSo_108 : decode cX5_isEvenSo 108 = .ok (.iconst 1, 1) := by decide +kernel
theorem dX5_isEvenSo_109 : decode cX5_isEvenSo 109 = .ok (.goto 4, 3) := by decide +kernel
theorem dX5_isEvenSo_112 : decode cX5_isEvenSo 112 = .ok (.iconst 0, 1) := by decide +kernel
theorem dX5_isEvenSo_113 : decode cX5_isEvenSo 113 = .ok (.ireturn, 1) := by decide +kernel
theorem dX5_isEvenSo_114 : decode cX5_isEvenSo 114 = .ok (.aload_n 0, 1) := by decide +kernel
theorem dX5_isEvenSo_115 : decode cX5_isEvenSo 115 = .ok (.invokevirtual 124, 3) := by decide +kernel
theorem dX5_isEvenSo_118 : decode cX5_isEvenSo 118 = .ok (.ireturn, 1) := by decide +kernel
theorem dX5_isEvenSo_119 : decode cX5_isEvenSo 119 = .ok (.aload_n 0, 1) := by decide +kernel
theorem dX5_isEvenSo_120 : decode cX5_isEvenSo 120 = .ok (.invokevirtual 124, 3) := by decide +kernel
theorem dX5_isEvenSo_123 : decode cX5_isEvenSo 123 = .ok (.ifCond .eq 19, 3) := by decide +kernel
theorem dX5_isEvenSo_126 : decode cX5_isEvenSo 126 = .ok (.aload_n 0, 1) := by decide +kernel
theorem dX5_isEvenSo_127 : decode cX5_isEvenSo 127 = .ok (.getfield 19, 3) := by decide +kernel
theorem dX5_isEvenSo_130 : decode cX5_isEvenSo 130 = .ok (.ldc 120, 2) := by decide +kernel
theorem dX5_isEvenSo_132 : decode cX5_isEvenSo 132 = .ok (.invokevirtual 48, 3) := by decide +kernel
theorem dX5_isEvenSo_135 : decode cX5_isEvenSo 135 = .ok (.ifCond .ne 7, 3) := by decide +kernel
theorem dX5_isEvenSo_138 : decode cX5_isEvenSo 138 = .ok (.iconst 1, 1) := by decide +kernel
theorem dX5_isEvenSo_139 : decode cX5_isEvenSo 139 = .ok (.goto 4, 3) := by decide +kernel
theorem dX5_isEvenSo_142 : decode cX5_isEvenSo 142 = .ok (.iconst 0, 1) := by decide +kernel
theorem dX5_isEvenSo_143 : decode cX5_isEvenSo 143 = .ok (.ireturn, 1) := by decide +kernel
theorem dX5_isEvenSo_144 : decode cX5_isEvenSo 144 = .ok (.iconst 1, 1) := by decide +kernel
theorem dX5_isEvenSo_145 : decode cX5_isEvenSo 145 = .ok (.ireturn, 1) := by decide +kernel
theorem dX5_isNAsV_0 : decode cX5_isNAsV 0 = .ok (.aload_n 0, 1) := by decide +kernel
theorem dX5_isNAsV_1 : decode cX5_isNAsV 1 = .ok (.getfield 19, 3) := by decide +kernel
theorem dX5_isNAsV_4 : decode cX5_isNAsV 4 = .ok (.ldc 122, 2) := by decide +kernel
theorem dX5_isNAsV_6 : decode cX5_isNAsV 6 = .ok (.invokevirtual 48, 3) := by decide +kernel
theorem dX5_isNAsV_9 : decode cX5_isNAsV 9 = .ok (.aload_n 0, 1) := by decide +kernel
theorem dX5_isNAsV_10 : decode cX5_isNAsV 10 = .ok (.getfield 19, 3) := by decide +kernel
theorem dX5_isNAsV_13 : decode cX5_isNAsV 13 = .ok (.ldc 123, 2) := by decide +kernel
theorem dX5_isNAsV_15 : decode cX5_isNAsV 15 = .ok (.invokevirtual 48, 3) := by decide +kernel
theorem dX5_isNAsV_18 : decode cX5_isNAsV 18 = .ok (.if_icmp .ne 7, 3) := by decide +kernel
theorem dX5_isNAsV_21 : decode cX5_isNAsV 21 = .ok (.iconst 1, 1) := by decide +kernel
theorem dX5_isNAsV_22 : decode cX5_isNAsV 22 = .ok (.goto 4, 3) := by decide +kernel
theorem dX5_isNAsV_25 : decode cX5_isNAsV 25 = .ok (.iconst 0, 1) := by decide +kernel
theorem dX5_isNAsV_26 : decode cX5_isNAsV 26 = .ok (.ireturn, 1) := by decide +kernel
theorem dX5_is_0 : decode cX5_is 0 = .ok (.aload_n 0, 1) := by decide +kernel
theorem dX5_is_1 : decode cX5_is 1 = .ok (.getfield 69, 3) := by decide +kernel
theorem dX5_is_4 : decode cX5_is 4 = .ok (.iload_n 1, 1) := by decide +kernel
theorem dX5_is_5 : decode cX5_is 5 = .ok (.iand, 1) := by decide +kernel
theorem dX5_is_6 : decode cX5_is 6 = .ok (.ifCond .eq 7, 3) := by decide +kernel
theorem dX5_is_9 : decode cX5_is 9 = .ok (.iconst 1, 1) := by decide +kernel
theorem dX5_is_10 : decode cX5_is 10 = .ok (.goto 4, 3) := by decide +kernel
theorem dX5_is_13 : decode cX5_is 13 = .ok (.iconst 0, 1) := by decide +kernel
theorem dX5_is_14 : decode cX5_is 14 = .ok (.ireturn, 1) := by decide +kernel
theorem dX5_part_0 : decode cX5_part 0 = .ok (.aload_n 0, 1) := by decide +kernel
theorem dX5_part_1 : decode cX5_part 1 = .ok (.getfield 69, 3) := by decide +kernel
theorem dX5_part_4 : decode cX5_part 4 = .ok (.iload_n 1, 1) := by decide +kernel
theorem dX5_part_5 : decode cX5_part 5 = .ok (.iushr, 1) := by decide +kernel
theorem dX5_part_6 : decode cX5_part 6 = .ok (.bipush 15, 2) := by decide +kernel
theorem dX5_part_8 : decode cX5_part 8 = .ok (.iand, 1) := by decide +kernel
theorem dX5_part_9 : decode cX5_part 9 = .ok (.ireturn, 1) := by decide +kernel
theorem dX5_pcAhead_0 : decode cX5_pcAhead 0 = .ok (.aload_n 0, 1) := by decide +kernel
theorem dX5_pcAhead_1 : decode cX5_pcAhead 1 = .ok (.getfield 37, 3) := by decide +kernel
theorem dX5_pcAhead_4 : decode cX5_pcAhead 4 = .ok (.iload_n 1, 1) := by decide +kernel
theorem dX5_pcAhead_5 : decode cX5_pcAhead 5 = .ok (.iadd, 1) := by decide +kernel
theorem dX5_pcAhead_6 : decode cX5_pcAhead 6 = .ok (.ldc 127, 2) := by decide +kernel
theorem dX5_pcAhead_8 : decode cX5_pcAhead 8 = .ok (.iand, 1) := by decide +kernel
theorem dX5_pcAhead_9 : decode cX5_pcAhead 9 = .ok (.ireturn, 1) := by decide +kernel
theorem dX5_withSigns_0 : decode cX5_withSigns 0 = .ok (.aload_n 0, 1) := by decide +kernel
theorem dX5_withSigns_1 : decode cX5_withSigns 1 = .ok (.getfield 19, 3) := by decide +kernel
theorem dX5_withSigns_4 : decode cX5_withSigns 4 = .ok (.invokevirtual 128, 3) := by decide +kernel
theorem dX5_withSigns_7 : decode cX5_withSigns 7 = .ok (.aload_n 0, 1) := by decide +kernel
theorem dX5_withSigns_8 : decode cX5_withSigns 8 = .ok (.iload_n 1, 1) := by decide +kernel
theorem dX5_withSigns_9 : decode cX5_withSigns 9 = .ok (.invokevirtual 131, 3) := by decide +kernel
theorem dX5_withSigns_12 : decode cX5_withSigns 12 = .ok (.ior, 1) := by decide +kernel
theorem dX5_withSigns_13 : decode cX5_withSigns 13 = .ok (.ireturn, 1) := by decide +kernel
theorem dX5_operand_0 : decode cX5_operand 0 = .ok (.iload_n 1, 1) := by decide +kernel
theorem dX5_operand_1 : decode cX5_operand 1 = .ok (.bipush 15, 2) := by decide +kernel
theorem dX5_operand_3 : decode cX5_operand 3 = .ok (.if_icmp .ne 11, 3) := by decide +kernel
theorem dX5_operand_6 : decode cX5_operand 6 = .ok (.aload_n 0, 1) := by decide +kernel
theorem dX5_operand_7 : decode cX5_operand 7 = .ok (.iload_n 2, 1) := by decide +kernel
theorem dX5_operand_8 : decode cX5_operand 8 = .ok (.invokevirtual 131, 3) := by decide +kernel
theorem dX5_operand_11 : decode cX5_operand 11 = .ok (.goto 18, 3) := by decide +kernel
theorem dX5_operand_14 : decode cX5_operand 14 = .ok (.aload_n 0, 1) := by decide +kernel
theorem dX5_operand_15 : decode cX5_operand 15 = .ok (.getfield 19, 3) := by decide +kernel
theorem dX5_operand_18 : decode cX5_operand 18 = .ok (.aload_n 0, 1) := by decide +kernel
theorem dX5_operand_19 : decode cX5_operand 19 = .ok (.getfield 19, 3) := by decide +kernel
theorem dX5_operand_22 : decode cX5_operand 22 = .ok (.invokevirtual 56, 3) := by decide +kernel
theorem dX5_operand_25 : decode cX5_operand 25 = .ok (.iload_n 1, 1) := by decide +kernel
theorem dX5_operand_26 : decode cX5_operand 26 = .ok (.invokevirtual 134, 3) := by decide +kernel
theorem dX5_operand_29 : decode cX5_operand 29 = .ok (.ireturn, 1) := by decide +kernel
theorem dX5_become_0 : decode cX5_become 0 = .ok (.aload_n 0, 1) := by decide +kernel
theorem dX5_become_1 : decode cX5_become 1 = .ok (.getfield 19, 3) := by decide +kernel
theorem dX5_become_4 : decode cX5_become 4 = .ok (.aload_n 0, 1) := by decide +kernel
theorem dX5_become_5 : decode cX5_become 5 = .ok (.getfield 19, 3) := by decide +kernel
theorem dX5_become_8 : decode cX5_become 8 = .ok (.invokevirtual 56, 3) := by decide +kernel
theorem dX5_become_11 : decode cX5_become 11 = .ok (.iload_n 1, 1) := by decide +kernel
theorem dX5_become_12 : decode cX5_become 12 = .ok (.iload_n 2, 1) := by decide +kernel
theorem dX5_become_13 : decode cX5_become 13 = .ok (.invokevirtual 76, 3) := by decide +kernel
theorem dX5_become_16 : decode cX5_become 16 = .ok (.return_, 1) := by decide +kernel
theorem dX5_becomeOrGoTo_0 : decode cX5_becomeOrGoTo 0 = .ok (.iload_n 1, 1) := by decide +kernel
theorem dX5_becomeOrGoTo_1 : decode cX5_becomeOrGoTo 1 = .ok (.bipush 15, 2) := by decide +kernel
theorem dX5_becomeOrGoTo_3 : decode cX5_becomeOrGoTo 3 = .ok (.if_icmp .ne 14, 3) := by decide +kernel
theorem dX5_becomeOrGoTo_6 : decode cX5_becomeOrGoTo 6 = .ok (.aload_n 0, 1) := by decide +kernel
theorem dX5_becomeOrGoTo_7 : decode cX5_becomeOrGoTo 7 = .ok (.getfield 19, 3) := by decide +kernel
theorem dX5_becomeOrGoTo_10 : decode cX5_becomeOrGoTo 10 = .ok (.iload_n 2, 1) := by decide +kernel
theorem dX5_becomeOrGoTo_11 : decode cX5_becomeOrGoTo 11 = .ok (.invokevirtual 83, 3) := by decide +kernel
theorem dX5_becomeOrGoTo_14 : decode cX5_becomeOrGoTo 14 = .ok (.goto 9, 3) := by decide +kernel
theorem dX5_becomeOrGoTo_17 : decode cX5_becomeOrGoTo 17 = .ok (.aload_n 0, 1) := by decide +kernel
theorem dX5_becomeOrGoTo_18 : decode cX5_becomeOrGoTo 18 = .ok (.iload_n 1, 1) := by decide +kernel
theorem dX5_becomeOrGoTo_19 : decode cX5_becomeOrGoTo 19 = .ok (.iload_n 2, 1) := by decide +kernel
theorem dX5_becomeOrGoTo_20 : decode cX5_becomeOrGoTo 20 = .ok (.invokevirtual 138, 3) := by decide +kernel
theorem dX5_becomeOrGoTo_23 : decode cX5_becomeOrGoTo 23 = .ok (.return_, 1) := by decide +kernel
theorem dX5_multiply_0 : decode cX5_multiply 0 = .ok (.aload_n 0, 1) := by decide +kernel
theorem dX5_multiply_1 : decode cX5_multiply 1 = .ok (.bipush 16, 2) := by decide +kernel
theorem dX5_multiply_3 : decode cX5_multiply 3 = .ok (.invokevirtual 141, 3) := by decide +kernel
theorem dX5_multiply_6 : decode cX5_multiply 6 = .ok (.istore_n 1, 1) := by decide +kernel
theorem dX5_multiply_7 : decode cX5_multiply 7 = .ok (.aload_n 0, 1) := by decide +kernel
theorem dX5_multiply_8 : decode cX5_multiply 8 = .ok (.aload_n 0, 1) := by decide +kernel
theorem dX5_multiply_9 : decode cX5_multiply 9 = .ok (.bipush 8, 2) := by decide +kernel
theorem dX5_multiply_11 : decode cX5_multiply 11 = .ok (.invokevirtual 141, 3) := by decide +kernel
theorem dX5_multiply_14 : decode cX5_multiply 14 = .ok (.bipush 8, 2) := by decide +kernel
theorem dX5_multiply_16 : decode cX5_multiply 16 = .ok (.invokevirtual 144, 3) := by decide +kernel
theorem dX5_multiply_19 : decode cX5_multiply 19 = .ok (.istore_n 2, 1) := by decide +kernel
theorem dX5_multiply_20 : decode cX5_multiply 20 = .ok (.aload_n 0, 1) := by decide +kernel
theorem dX5_multiply_21 : decode cX5_multiply 21 = .ok (.aload_n 0, 1) := by decide +kernel
theorem dX5_multiply_22 : decode cX5_multiply 22 = .ok (.iconst 0, 1) := by decide +kernel
theorem dX5_multiply_23 : decode cX5_multiply 23 = .ok (.invokevirtual 141, 3) := by decide +kernel
theorem dX5_multiply_26 : decode cX5_multiply 26 = .ok (.bipush 8, 2) := by decide +kernel
theorem dX5_multiply_28 : decode cX5_multiply 28 = .ok (.invokevirtual 144, 3) := by decide +kernel
theorem dX5_multiply_31 : decode cX5_multiply 31 = .ok (.iload_n 2, 1) := by decide +kernel
theorem dX5_multiply_32 : decode cX5_multiply 32 = .ok (.imul, 1) := by decide +kernel
theorem dX5_multiply_33 : decode cX5_multiply 33 = .ok (.istore_n 3, 1) := by decide +kernel
theorem dX5_multiply_34 : decode cX5_multiply 34 = .ok (.aload_n 0, 1) := by decide +kernel
theorem dX5_multiply_35 : decode cX5_multiply 35 = .ok (.ldc 147, 2) := by decide +kernel
theorem dX5_multiply_37 : decode cX5_multiply 37 = .ok (.invokevirtual 114, 3) := by decide +kernel
theorem dX5_multiply_40 : decode cX5_multiply 40 = .ok (.ifCond .eq 18, 3) := by decide +kernel
theorem dX5_multiply_43 : decode cX5_multiply 43 = .ok (.iload_n 3, 1) := by decide +kernel
theorem dX5_multiply_44 : decode cX5_multiply 44 = .ok (.aload_n 0, 1) := by decide +kernel
theorem dX5_multiply_45 : decode cX5_multiply 45 = .ok (.aload_n 0, 1) := by decide +kernel
theorem dX5_multiply_46 : decode cX5_multiply 46 = .ok (.bipush 12, 2) := by decide +kernel
theorem dX5_multiply_48 : decode cX5_multiply 48 = .ok (.invokevirtual 141, 3) := by decide +kernel
theorem dX5_multiply_51 : decode cX5_multiply 51 = .ok (.bipush 8, 2) := by decide +kernel
theorem dX5_multiply_53 : decode cX5_multiply 53 = .ok (.invokevirtual 144, 3) := by decide +kernel
theorem dX5_multiply_56 : decode cX5_multiply 56 = .ok (.iadd, 1) := by decide +kernel
theorem dX5_multiply_57 : decode cX5_multiply 57 = .ok (.istore_n 3, 1) := by decide +kernel
theorem dX5_multiply_58 : decode cX5_multiply 58 = .ok (.iload_n 1, 1) := by decide +kernel
theorem dX5_multiply_59 : decode cX5_multiply 59 = .ok (.bipush 15, 2) := by decide +kernel
theorem dX5_multiply_61 : decode cX5_multiply 61 = .ok (.if_icmp .eq 9, 3) := by decide +kernel
theorem dX5_multiply_64 : decode cX5_multiply 64 = .ok (.aload_n 0, 1) := by decide +kernel
theorem dX5_multiply_65 : decode cX5_multiply 65 = .ok (.iload_n 1, 1) := by decide +kernel
theorem dX5_multiply_66 : decode cX5_multiply 66 = .ok (.iload_n 3, 1) := by decide +kernel
theorem dX5_multiply_67 : decode cX5_multiply 67 = .ok (.invokevirtual 138, 3) := by decide +kernel
theorem dX5_multiply_70 : decode cX5_multiply 70 = .ok (.aload_n 0, 1) := by decide +kernel
theorem dX5_multiply_71 : decode cX5_multiply 71 = .ok (.ldc 148, 2) := by decide +kernel
theorem dX5_multiply_73 : decode cX5_multiply 73 = .ok (.invokevirtual 114, 3) := by decide +kernel
theorem dX5_multiply_76 : decode cX5_multiply 76 = .ok (.ifCond .eq 11, 3) := by decide +kernel
theorem dX5_multiply_79 : decode cX5_multiply 79 = .ok (.aload_n 0, 1) := by decide +kernel
theorem dX5_multiply_80 : decode cX5_multiply 80 = .ok (.getfield 19, 3) := by decide +kernel
theorem dX5_multiply_83 : decode cX5_multiply 83 = .ok (.iload_n 3, 1) := by decide +kernel
theorem dX5_multiply_84 : decode cX5_multiply 84 = .ok (.invokevirtual 149, 3) := by decide +kernel
theorem dX5_multiply_87 : decode cX5_multiply 87 = .ok (.iconst 1, 1) := by decide +kernel
theorem dX5_multiply_88 : decode cX5_multiply 88 = .ok (.iconst 1, 1) := by decide +kernel
theorem dX5_multiply_89 : decode cX5_multiply 89 = .ok (.iload_n 2, 1) := by decide +kernel
theorem dX5_multiply_90 : decode cX5_multiply 90 = .ok (.invokestatic 152, 3) := by decide +kernel
theorem dX5_multiply_93 : decode cX5_multiply 93 = .ok (.invokestatic 155, 3) := by decide +kernel
theorem dX5_multiply_96 : decode cX5_multiply 96 = .ok (.iadd, 1) := by decide +kernel
theorem dX5_multiply_97 : decode cX5_multiply 97 = .ok (.ireturn, 1) := by decide +kernel
theorem dX5_pairsOfBits_0 : decode cX5_pairsOfBits 0 = .ok (.iload_n 0, 1) := by decide +kernel
theorem dX5_pairsOfBits_1 : decode cX5_pairsOfBits 1 = .ok (.istore_n 1, 1) := by decide +kernel
theorem dX5_pairsOfBits_2 : decode cX5_pairsOfBits 2 = .ok (.iconst 0, 1) := by decide +kernel
theorem dX5_pairsOfBits_3 : decode cX5_pairsOfBits 3 = .ok (.istore_n 2, 1) := by decide +kernel
theorem dX5_pairsOfBits_4 : decode cX5_pairsOfBits 4 = .ok (.iload_n 1, 1) := by decide +kernel
theorem dX5_pairsOfBits_5 : decode cX5_pairsOfBits 5 = .ok (.ifCond .eq 19, 3) := by decide +kernel
theorem dX5_pairsOfBits_8 : decode cX5_pairsOfBits 8 = .ok (.iload_n 2, 1) := by decide +kernel
theorem dX5_pairsOfBits_9 : decode cX5_pairsOfBits 9 = .ok (.bipush 16, 2) := by decide +kernel
theorem dX5_pairsOfBits_11 : decode cX5_pairsOfBits 11 = .ok (.if_icmp .ge 13, 3) := by decide +kernel
theorem dX5_pairsOfBits_14 : decode cX5_pairsOfBits 14 = .ok (.iload_n 1, 1) := by decide +kernel
theorem dX5_pairsOfBits_15 : decode cX5_pairsOfBits 15 = .ok (.iconst 2, 1) := by decide +kernel
theorem dX5_pairsOfBits_16 : decode cX5_pairsOfBits 16 = .ok (.iushr, 1) := by decide +kernel
theorem dX5_pairsOfBits_17 : decode cX5_pairsOfBits 17 = .ok (.istore_n 1, 1) := by decide +kernel
theorem dX5_pairsOfBits_18 : decode cX5_pairsOfBits 18 = .ok (.iinc 2 1, 3) := by decide +kernel
