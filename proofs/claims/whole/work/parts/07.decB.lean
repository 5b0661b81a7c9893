theorem d_X6_init_0 : decode (cd mX6_init) 0 = .ok (.aload_n 0, 1) := by decide +kernel
theorem d_X6_init_1 : decode (cd mX6_init) 1 = .ok (.invokespecial 3, 3) := by decide +kernel
theorem d_X6_init_4 : decode (cd mX6_init) 4 = .ok (.aload_n 0, 1) := by decide +kernel
theorem d_X6_init_5 : decode (cd mX6_init) 5 = .ok (.new 9, 3) := by decide +kernel
theorem d_X6_init_8 : decode (cd mX6_init) 8 = .ok (.dup, 1) := by decide +kernel
theorem d_X6_init_9 : decode (cd mX6_init) 9 = .ok (.invokespecial 11, 3) := by decide +kernel
theorem d_X6_init_12 : decode (cd mX6_init) 12 = .ok (.putfield 12, 3) := by decide +kernel
theorem d_X6_init_15 : decode (cd mX6_init) 15 = .ok (.aload_n 0, 1) := by decide +kernel
theorem d_X6_init_16 : decode (cd mX6_init) 16 = .ok (.sipush 900, 3) := by decide +kernel
theorem d_X6_init_19 : decode (cd mX6_init) 19 = .ok (.newarray .byte, 2) := by decide +kernel
theorem d_X6_init_21 : decode (cd mX6_init) 21 = .ok (.putfield 18, 3) := by decide +kernel
theorem d_X6_init_24 : decode (cd mX6_init) 24 = .ok (.aload_n 0, 1) := by decide +kernel
theorem d_X6_init_25 : decode (cd mX6_init) 25 = .ok (.bipush 16, 2) := by decide +kernel
theorem d_X6_init_27 : decode (cd mX6_init) 27 = .ok (.newarray .long, 2) := by decide +kernel
theorem d_X6_init_29 : decode (cd mX6_init) 29 = .ok (.putfield 22, 3) := by decide +kernel
theorem d_X6_init_32 : decode (cd mX6_init) 32 = .ok (.aload_n 0, 1) := by decide +kernel
theorem d_X6_init_33 : decode (cd mX6_init) 33 = .ok (.bipush 16, 2) := by decide +kernel
theorem d_X6_init_35 : decode (cd mX6_init) 35 = .ok (.newarray .int, 2) := by decide +kernel
theorem d_X6_init_37 : decode (cd mX6_init) 37 = .ok (.putfield 26, 3) := by decide +kernel
theorem d_X6_init_40 : decode (cd mX6_init) 40 = .ok (.return_, 1) := by decide +kernel
theorem d_X6_putBytes_0 : decode (cd mX6_putBytes) 0 = .ok (.bipush 24, 2) := by decide +kernel
theorem d_X6_putBytes_2 : decode (cd mX6_putBytes) 2 = .ok (.istore_n 2, 1) := by decide +kernel
theorem d_X6_putBytes_3 : decode (cd mX6_putBytes) 3 = .ok (.iload_n 2, 1) := by decide +kernel
theorem d_X6_putBytes_4 : decode (cd mX6_putBytes) 4 = .ok (.ifCond .lt 44, 3) := by decide +kernel
theorem d_X6_putBytes_7 : decode (cd mX6_putBytes) 7 = .ok (.aload_n 0, 1) := by decide +kernel
theorem d_X6_putBytes_8 : decode (cd mX6_putBytes) 8 = .ok (.getfield 30, 3) := by decide +kernel
theorem d_X6_putBytes_11 : decode (cd mX6_putBytes) 11 = .ok (.aload_n 0, 1) := by decide +kernel
theorem d_X6_putBytes_12 : decode (cd mX6_putBytes) 12 = .ok (.getfield 18, 3) := by decide +kernel
theorem d_X6_putBytes_15 : decode (cd mX6_putBytes) 15 = .ok (.arraylength, 1) := by decide +kernel
theorem d_X6_putBytes_16 : decode (cd mX6_putBytes) 16 = .ok (.if_icmp .ge 32, 3) := by decide +kernel
theorem d_X6_putBytes_19 : decode (cd mX6_putBytes) 19 = .ok (.aload_n 0, 1) := by decide +kernel
theorem d_X6_putBytes_20 : decode (cd mX6_putBytes) 20 = .ok (.getfield 18, 3) := by decide +kernel
theorem d_X6_putBytes_23 : decode (cd mX6_putBytes) 23 = .ok (.aload_n 0, 1) := by decide +kernel
theorem d_X6_putBytes_24 : decode (cd mX6_putBytes) 24 = .ok (.getfield 30, 3) := by decide +kernel
theorem d_X6_putBytes_27 : decode (cd mX6_putBytes) 27 = .ok (.iload_n 1, 1) := by decide +kernel
theorem d_X6_putBytes_28 : decode (cd mX6_putBytes) 28 = .ok (.iload_n 2, 1) := by decide +kernel
theorem d_X6_putBytes_29 : decode (cd mX6_putBytes) 29 = .ok (.iushr, 1) := by decide +kernel
theorem d_X6_putBytes_30 : decode (cd mX6_putBytes) 30 = .ok (.i2b, 1) := by decide +kernel
theorem d_X6_putBytes_31 : decode (cd mX6_putBytes) 31 = .ok (.bastore, 1) := by decide +kernel
theorem d_X6_putBytes_32 : decode (cd mX6_putBytes) 32 = .ok (.aload_n 0, 1) := by decide +kernel
theorem d_X6_putBytes_33 : decode (cd mX6_putBytes) 33 = .ok (.dup, 1) := by decide +kernel
theorem d_X6_putBytes_34 : decode (cd mX6_putBytes) 34 = .ok (.getfield 30, 3) := by decide +kernel
theorem d_X6_putBytes_37 : decode (cd mX6_putBytes) 37 = .ok (.iconst 1, 1) := by decide +kernel
theorem d_X6_putBytes_38 : decode (cd mX6_putBytes) 38 = .ok (.iadd, 1) := by decide +kernel
theorem d_X6_putBytes_39 : decode (cd mX6_putBytes) 39 = .ok (.putfield 30, 3) := by decide +kernel
theorem d_X6_putBytes_42 : decode (cd mX6_putBytes) 42 = .ok (.iinc 2 (-8), 3) := by decide +kernel
theorem d_X6_putBytes_45 : decode (cd mX6_putBytes) 45 = .ok (.goto (-42), 3) := by decide +kernel
theorem d_X6_putBytes_48 : decode (cd mX6_putBytes) 48 = .ok (.return_, 1) := by decide +kernel
theorem d_X6_begin_0 : decode (cd mX6_begin) 0 = .ok (.aload_n 0, 1) := by decide +kernel
theorem d_X6_begin_1 : decode (cd mX6_begin) 1 = .ok (.iload_n 1, 1) := by decide +kernel
theorem d_X6_begin_2 : decode (cd mX6_begin) 2 = .ok (.aload_n 0, 1) := by decide +kernel
theorem d_X6_begin_3 : decode (cd mX6_begin) 3 = .ok (.getfield 18, 3) := by decide +kernel
theorem d_X6_begin_6 : decode (cd mX6_begin) 6 = .ok (.arraylength, 1) := by decide +kernel
theorem d_X6_begin_7 : decode (cd mX6_begin) 7 = .ok (.invokestatic 34, 3) := by decide +kernel
theorem d_X6_begin_10 : decode (cd mX6_begin) 10 = .ok (.putfield 40, 3) := by decide +kernel
theorem d_X6_begin_13 : decode (cd mX6_begin) 13 = .ok (.aload_n 0, 1) := by decide +kernel
theorem d_X6_begin_14 : decode (cd mX6_begin) 14 = .ok (.iconst 0, 1) := by decide +kernel
theorem d_X6_begin_15 : decode (cd mX6_begin) 15 = .ok (.putfield 30, 3) := by decide +kernel
theorem d_X6_begin_18 : decode (cd mX6_begin) 18 = .ok (.aload_n 0, 1) := by decide +kernel
theorem d_X6_begin_19 : decode (cd mX6_begin) 19 = .ok (.getfield 12, 3) := by decide +kernel
theorem d_X6_begin_22 : decode (cd mX6_begin) 22 = .ok (.invokevirtual 43, 3) := by decide +kernel
theorem d_X6_begin_25 : decode (cd mX6_begin) 25 = .ok (.aload_n 0, 1) := by decide +kernel
theorem d_X6_begin_26 : decode (cd mX6_begin) 26 = .ok (.iconst 0, 1) := by decide +kernel
theorem d_X6_begin_27 : decode (cd mX6_begin) 27 = .ok (.putfield 46, 3) := by decide +kernel
theorem d_X6_begin_30 : decode (cd mX6_begin) 30 = .ok (.aload_n 0, 1) := by decide +kernel
theorem d_X6_begin_31 : decode (cd mX6_begin) 31 = .ok (.iconst 0, 1) := by decide +kernel
theorem d_X6_begin_32 : decode (cd mX6_begin) 32 = .ok (.putfield 49, 3) := by decide +kernel
theorem d_X6_begin_35 : decode (cd mX6_begin) 35 = .ok (.aload_n 0, 1) := by decide +kernel
theorem d_X6_begin_36 : decode (cd mX6_begin) 36 = .ok (.iconst (-1), 1) := by decide +kernel
theorem d_X6_begin_37 : decode (cd mX6_begin) 37 = .ok (.putfield 52, 3) := by decide +kernel
theorem d_X6_begin_40 : decode (cd mX6_begin) 40 = .ok (.aload_n 0, 1) := by decide +kernel
theorem d_X6_begin_41 : decode (cd mX6_begin) 41 = .ok (.iconst 0, 1) := by decide +kernel
theorem d_X6_begin_42 : decode (cd mX6_begin) 42 = .ok (.putfield 55, 3) := by decide +kernel
theorem d_X6_begin_45 : decode (cd mX6_begin) 45 = .ok (.aload_n 0, 1) := by decide +kernel
theorem d_X6_begin_46 : decode (cd mX6_begin) 46 = .ok (.iconst 0, 1) := by decide +kernel
theorem d_X6_begin_47 : decode (cd mX6_begin) 47 = .ok (.putfield 59, 3) := by decide +kernel
theorem d_X6_begin_50 : decode (cd mX6_begin) 50 = .ok (.return_, 1) := by decide +kernel
theorem d_X6_readLines_0 : decode (cd mX6_readLines) 0 = .ok (.iconst 0, 1) := by decide +kernel
theorem d_X6_readLines_1 : decode (cd mX6_readLines) 1 = .ok (.istore_n 1, 1) := by decide +kernel
theorem d_X6_readLines_2 : decode (cd mX6_readLines) 2 = .ok (.iload_n 1, 1) := by decide +kernel
theorem d_X6_readLines_3 : decode (cd mX6_readLines) 3 = .ok (.sipush 900, 3) := by decide +kernel
theorem d_X6_readLines_6 : decode (cd mX6_readLines) 6 = .ok (.if_icmp .gt 54, 3) := by decide +kernel
theorem d_X6_readLines_9 : decode (cd mX6_readLines) 9 = .ok (.aload_n 0, 1) := by decide +kernel
theorem d_X6_readLines_10 : decode (cd mX6_readLines) 10 = .ok (.iload_n 1, 1) := by decide +kernel
theorem d_X6_readLines_11 : decode (cd mX6_readLines) 11 = .ok (.ifCond .ne 7, 3) := by decide +kernel
theorem d_X6_readLines_14 : decode (cd mX6_readLines) 14 = .ok (.iconst 1, 1) := by decide +kernel
theorem d_X6_readLines_15 : decode (cd mX6_readLines) 15 = .ok (.goto 4, 3) := by decide +kernel
theorem d_X6_readLines_18 : decode (cd mX6_readLines) 18 = .ok (.iconst 0, 1) := by decide +kernel
theorem d_X6_readLines_19 : decode (cd mX6_readLines) 19 = .ok (.invokevirtual 62, 3) := by decide +kernel
theorem d_X6_readLines_22 : decode (cd mX6_readLines) 22 = .ok (.ifCond .ne 5, 3) := by decide +kernel
theorem d_X6_readLines_25 : decode (cd mX6_readLines) 25 = .ok (.iconst 0, 1) := by decide +kernel
theorem d_X6_readLines_26 : decode (cd mX6_readLines) 26 = .ok (.ireturn, 1) := by decide +kernel
theorem d_X6_readLines_27 : decode (cd mX6_readLines) 27 = .ok (.aload_n 0, 1) := by decide +kernel
theorem d_X6_readLines_28 : decode (cd mX6_readLines) 28 = .ok (.invokevirtual 66, 3) := by decide +kernel
theorem d_X6_readLines_31 : decode (cd mX6_readLines) 31 = .ok (.aload_n 0, 1) := by decide +kernel
theorem d_X6_readLines_32 : decode (cd mX6_readLines) 32 = .ok (.getfield 69, 3) := by decide +kernel
theorem d_X6_readLines_35 : decode (cd mX6_readLines) 35 = .ok (.ifCond .ne 5, 3) := by decide +kernel
theorem d_X6_readLines_38 : decode (cd mX6_readLines) 38 = .ok (.iconst 1, 1) := by decide +kernel
theorem d_X6_readLines_39 : decode (cd mX6_readLines) 39 = .ok (.ireturn, 1) := by decide +kernel
theorem d_X6_readLines_40 : decode (cd mX6_readLines) 40 = .ok (.aload_n 0, 1) := by decide +kernel
theorem d_X6_readLines_41 : decode (cd mX6_readLines) 41 = .ok (.getfield 69, 3) := by decide +kernel
theorem d_X6_readLines_44 : decode (cd mX6_readLines) 44 = .ok (.iconst 3, 1) := by decide +kernel
theorem d_X6_readLines_45 : decode (cd mX6_readLines) 45 = .ok (.if_icmp .eq 9, 3) := by decide +kernel
theorem d_X6_readLines_48 : decode (cd mX6_readLines) 48 = .ok (.aload_n 0, 1) := by decide +kernel
theorem d_X6_readLines_49 : decode (cd mX6_readLines) 49 = .ok (.iconst 1, 1) := by decide +kernel
theorem d_X6_readLines_50 : decode (cd mX6_readLines) 50 = .ok (.invokevirtual 72, 3) := by decide +kernel
theorem d_X6_readLines_53 : decode (cd mX6_readLines) 53 = .ok (.ireturn, 1) := by decide +kernel
theorem d_X6_readLines_54 : decode (cd mX6_readLines) 54 = .ok (.iinc 1 1, 3) := by decide +kernel
theorem d_X6_readLines_57 : decode (cd mX6_readLines) 57 = .ok (.goto (-55), 3) := by decide +kernel
theorem d_X6_readLines_60 : decode (cd mX6_readLines) 60 = .ok (.aload_n 0, 1) := by decide +kernel
theorem d_X6_readLines_61 : decode (cd mX6_readLines) 61 = .ok (.iconst 1, 1) := by decide +kernel
theorem d_X6_readLines_62 : decode (cd mX6_readLines) 62 = .ok (.invokevirtual 72, 3) := by decide +kernel
theorem d_X6_readLines_65 : decode (cd mX6_readLines) 65 = .ok (.ireturn, 1) := by decide +kernel
theorem d_X6_readLine_0 : decode (cd mX6_readLine) 0 = .ok (.aload_n 0, 1) := by decide +kernel
theorem d_X6_readLine_1 : decode (cd mX6_readLine) 1 = .ok (.invokevirtual 66, 3) := by decide +kernel
theorem d_X6_readLine_4 : decode (cd mX6_readLine) 4 = .ok (.aload_n 0, 1) := by decide +kernel
theorem d_X6_readLine_5 : decode (cd mX6_readLine) 5 = .ok (.invokevirtual 76, 3) := by decide +kernel
theorem d_X6_readLine_8 : decode (cd mX6_readLine) 8 = .ok (.ifCond .ne 9, 3) := by decide +kernel
theorem d_X6_readLine_11 : decode (cd mX6_readLine) 11 = .ok (.aload_n 0, 1) := by decide +kernel
theorem d_X6_readLine_12 : decode (cd mX6_readLine) 12 = .ok (.iconst 1, 1) := by decide +kernel
theorem d_X6_readLine_13 : decode (cd mX6_readLine) 13 = .ok (.invokevirtual 72, 3) := by decide +kernel
theorem d_X6_readLine_16 : decode (cd mX6_readLine) 16 = .ok (.ireturn, 1) := by decide +kernel
theorem d_X6_readLine_17 : decode (cd mX6_readLine) 17 = .ok (.aload_n 0, 1) := by decide +kernel
theorem d_X6_readLine_18 : decode (cd mX6_readLine) 18 = .ok (.ldc 80, 2) := by decide +kernel
theorem d_X6_readLine_20 : decode (cd mX6_readLine) 20 = .ok (.invokevirtual 82, 3) := by decide +kernel
theorem d_X6_readLine_23 : decode (cd mX6_readLine) 23 = .ok (.ifCond .eq 20, 3) := by decide +kernel
theorem d_X6_readLine_26 : decode (cd mX6_readLine) 26 = .ok (.iload_n 1, 1) := by decide +kernel
theorem d_X6_readLine_27 : decode (cd mX6_readLine) 27 = .ok (.ifCond .eq 10, 3) := by decide +kernel
theorem d_X6_readLine_30 : decode (cd mX6_readLine) 30 = .ok (.aload_n 0, 1) := by decide +kernel
theorem d_X6_readLine_31 : decode (cd mX6_readLine) 31 = .ok (.invokevirtual 86, 3) := by decide +kernel
theorem d_X6_readLine_34 : decode (cd mX6_readLine) 34 = .ok (.goto 8, 3) := by decide +kernel
theorem d_X6_readLine_37 : decode (cd mX6_readLine) 37 = .ok (.aload_n 0, 1) := by decide +kernel
theorem d_X6_readLine_38 : decode (cd mX6_readLine) 38 = .ok (.iconst 3, 1) := by decide +kernel
theorem d_X6_readLine_39 : decode (cd mX6_readLine) 39 = .ok (.invokevirtual 72, 3) := by decide +kernel
theorem d_X6_readLine_42 : decode (cd mX6_readLine) 42 = .ok (.ireturn, 1) := by decide +kernel
theorem d_X6_readLine_43 : decode (cd mX6_readLine) 43 = .ok (.iload_n 1, 1) := by decide +kernel
theorem d_X6_readLine_44 : decode (cd mX6_readLine) 44 = .ok (.ifCond .eq 10, 3) := by decide +kernel
theorem d_X6_readLine_47 : decode (cd mX6_readLine) 47 = .ok (.aload_n 0, 1) := by decide +kernel
theorem d_X6_readLine_48 : decode (cd mX6_readLine) 48 = .ok (.bipush 6, 2) := by decide +kernel
theorem d_X6_readLine_50 : decode (cd mX6_readLine) 50 = .ok (.invokevirtual 72, 3) := by decide +kernel
theorem d_X6_readLine_53 : decode (cd mX6_readLine) 53 = .ok (.ireturn, 1) := by decide +kernel
theorem d_X6_readLine_54 : decode (cd mX6_readLine) 54 = .ok (.aload_n 0, 1) := by decide +kernel
theorem d_X6_readLine_55 : decode (cd mX6_readLine) 55 = .ok (.ldc 89, 2) := by decide +kernel
theorem d_X6_readLine_57 : decode (cd mX6_readLine) 57 = .ok (.invokevirtual 82, 3) := by decide +kernel
theorem d_X6_readLine_60 : decode (cd mX6_readLine) 60 = .ok (.ifCond .eq 23, 3) := by decide +kernel
theorem d_X6_readLine_63 : decode (cd mX6_readLine) 63 = .ok (.aload_n 0, 1) := by decide +kernel
theorem d_X6_readLine_64 : decode (cd mX6_readLine) 64 = .ok (.getfield 55, 3) := by decide +kernel
theorem d_X6_readLine_67 : decode (cd mX6_readLine) 67 = .ok (.ifCond .eq 11, 3) := by decide +kernel
theorem d_X6_readLine_70 : decode (cd mX6_readLine) 70 = .ok (.aload_n 0, 1) := by decide +kernel
theorem d_X6_readLine_71 : decode (cd mX6_readLine) 71 = .ok (.iconst 3, 1) := by decide +kernel
theorem d_X6_readLine_72 : decode (cd mX6_readLine) 72 = .ok (.invokevirtual 72, 3) := by decide +kernel
theorem d_X6_readLine_75 : decode (cd mX6_readLine) 75 = .ok (.goto 7, 3) := by decide +kernel
theorem d_X6_readLine_78 : decode (cd mX6_readLine) 78 = .ok (.aload_n 0, 1) := by decide +kernel
theorem d_X6_readLine_79 : decode (cd mX6_readLine) 79 = .ok (.invokevirtual 91, 3) := by decide +kernel
theorem d_X6_readLine_82 : decode (cd mX6_readLine) 82 = .ok (.ireturn, 1) := by decide +kernel
theorem d_X6_readLine_83 : decode (cd mX6_readLine) 83 = .ok (.aload_n 0, 1) := by decide +kernel
theorem d_X6_readLine_84 : decode (cd mX6_readLine) 84 = .ok (.ldc 94, 2) := by decide +kernel
theorem d_X6_readLine_86 : decode (cd mX6_readLine) 86 = .ok (.invokevirtual 82, 3) := by decide +kernel
theorem d_X6_readLine_89 : decode (cd mX6_readLine) 89 = .ok (.ifCond .eq 29, 3) := by decide +kernel
theorem d_X6_readLine_92 : decode (cd mX6_readLine) 92 = .ok (.aload_n 0, 1) := by decide +kernel
theorem d_X6_readLine_93 : decode (cd mX6_readLine) 93 = .ok (.getfield 12, 3) := by decide +kernel
theorem d_X6_readLine_96 : decode (cd mX6_readLine) 96 = .ok (.getfield 96, 3) := by decide +kernel
theorem d_X6_readLine_99 : decode (cd mX6_readLine) 99 = .ok (.invokevirtual 100, 3) := by decide +kernel
theorem d_X6_readLine_102 : decode (cd mX6_readLine) 102 = .ok (.ifCond .eq 11, 3) := by decide +kernel
theorem d_X6_readLine_105 : decode (cd mX6_readLine) 105 = .ok (.aload_n 0, 1) := by decide +kernel
theorem d_X6_readLine_106 : decode (cd mX6_readLine) 106 = .ok (.iconst 5, 1) := by decide +kernel
theorem d_X6_readLine_107 : decode (cd mX6_readLine) 107 = .ok (.invokevirtual 72, 3) := by decide +kernel
theorem d_X6_readLine_110 : decode (cd mX6_readLine) 110 = .ok (.goto 7, 3) := by decide +kernel
theorem d_X6_readLine_113 : decode (cd mX6_readLine) 113 = .ok (.aload_n 0, 1) := by decide +kernel
theorem d_X6_readLine_114 : decode (cd mX6_readLine) 114 = .ok (.invokevirtual 105, 3) := by decide +kernel
theorem d_X6_readLine_117 : decode (cd mX6_readLine) 117 = .ok (.ireturn, 1) := by decide +kernel
theorem d_X6_readLine_118 : decode (cd mX6_readLine) 118 = .ok (.aload_n 0, 1) := by decide +kernel
theorem d_X6_readLine_119 : decode (cd mX6_readLine) 119 = .ok (.ldc 108, 2) := by decide +kernel
theorem d_X6_readLine_121 : decode (cd mX6_readLine) 121 = .ok (.invokevirtual 82, 3) := by decide +kernel
theorem d_X6_readLine_124 : decode (cd mX6_readLine) 124 = .ok (.ifCond .eq 29, 3) := by decide +kernel
theorem d_X6_readLine_127 : decode (cd mX6_readLine) 127 = .ok (.aload_n 0, 1) := by decide +kernel
theorem d_X6_readLine_128 : decode (cd mX6_readLine) 128 = .ok (.getfield 12, 3) := by decide +kernel
theorem d_X6_readLine_131 : decode (cd mX6_readLine) 131 = .ok (.getfield 110, 3) := by decide +kernel
theorem d_X6_readLine_134 : decode (cd mX6_readLine) 134 = .ok (.invokevirtual 100, 3) := by decide +kernel
theorem d_X6_readLine_137 : decode (cd mX6_readLine) 137 = .ok (.ifCond .eq 11, 3) := by decide +kernel
theorem d_X6_readLine_140 : decode (cd mX6_readLine) 140 = .ok (.aload_n 0, 1) := by decide +kernel
theorem d_X6_readLine_141 : decode (cd mX6_readLine) 141 = .ok (.iconst 5, 1) := by decide +kernel
theorem d_X6_readLine_142 : decode (cd mX6_readLine) 142 = .ok (.invokevirtual 72, 3) := by decide +kernel
theorem d_X6_readLine_145 : decode (cd mX6_readLine) 145 = .ok (.goto 7, 3) := by decide +kernel
theorem d_X6_readLine_148 : decode (cd mX6_readLine) 148 = .ok (.aload_n 0, 1) := by decide +kernel
theorem d_X6_readLine_149 : decode (cd mX6_readLine) 149 = .ok (.invokevirtual 113, 3) := by decide +kernel
theorem d_X6_readLine_152 : decode (cd mX6_readLine) 152 = .ok (.ireturn, 1) := by decide +kernel
theorem d_X6_readLine_153 : decode (cd mX6_readLine) 153 = .ok (.aload_n 0, 1) := by decide +kernel
theorem d_X6_readLine_154 : decode (cd mX6_readLine) 154 = .ok (.ldc 116, 2) := by decide +kernel
theorem d_X6_readLine_156 : decode (cd mX6_readLine) 156 = .ok (.invokevirtual 82, 3) := by decide +kernel
theorem d_X6_readLine_159 : decode (cd mX6_readLine) 159 = .ok (.ifCond .eq 29, 3) := by decide +kernel
theorem d_X6_readLine_162 : decode (cd mX6_readLine) 162 = .ok (.aload_n 0, 1) := by decide +kernel
theorem d_X6_readLine_163 : decode (cd mX6_readLine) 163 = .ok (.getfield 12, 3) := by decide +kernel
theorem d_X6_readLine_166 : decode (cd mX6_readLine) 166 = .ok (.getfield 118, 3) := by decide +kernel
theorem d_X6_readLine_169 : decode (cd mX6_readLine) 169 = .ok (.invokevirtual 100, 3) := by decide +kernel
theorem d_X6_readLine_172 : decode (cd mX6_readLine) 172 = .ok (.ifCond .eq 11, 3) := by decide +kernel
theorem d_X6_readLine_175 : decode (cd mX6_readLine) 175 = .ok (.aload_n 0, 1) := by decide +kernel
theorem d_X6_readLine_176 : decode (cd mX6_readLine) 176 = .ok (.iconst 5, 1) := by decide +kernel
theorem d_X6_readLine_177 : decode (cd mX6_readLine) 177 = .ok (.invokevirtual 72, 3) := by decide +kernel
theorem d_X6_readLine_180 : decode (cd mX6_readLine) 180 = .ok (.goto 7, 3) := by decide +kernel
theorem d_X6_readLine_183 : decode (cd mX6_readLine) 183 = .ok (.aload_n 0, 1) := by decide +kernel
theorem d_X6_readLine_184 : decode (cd mX6_readLine) 184 = .ok (.invokevirtual 121, 3) := by decide +kernel
theorem d_X6_readLine_187 : decode (cd mX6_readLine) 187 = .ok (.ireturn, 1) := by decide +kernel
theorem d_X6_readLine_188 : decode (cd mX6_readLine) 188 = .ok (.aload_n 0, 1) := by decide +kernel
theorem d_X6_readLine_189 : decode (cd mX6_readLine) 189 = .ok (.ldc 124, 2) := by decide +kernel
theorem d_X6_readLine_191 : decode (cd mX6_readLine) 191 = .ok (.invokevirtual 82, 3) := by decide +kernel
theorem d_X6_readLine_194 : decode (cd mX6_readLine) 194 = .ok (.ifCond .eq 28, 3) := by decide +kernel
theorem d_X6_readLine_197 : decode (cd mX6_readLine) 197 = .ok (.aload_n 0, 1) := by decide +kernel
theorem d_X6_readLine_198 : decode (cd mX6_readLine) 198 = .ok (.getfield 12, 3) := by decide +kernel
theorem d_X6_readLine_201 : decode (cd mX6_readLine) 201 = .ok (.getfield 126, 3) := by decide +kernel
theorem d_X6_readLine_204 : decode (cd mX6_readLine) 204 = .ok (.bipush 6, 2) := by decide +kernel
theorem d_X6_readLine_206 : decode (cd mX6_readLine) 206 = .ok (.if_icmp .lt 11, 3) := by decide +kernel
theorem d_X6_readLine_209 : decode (cd mX6_readLine) 209 = .ok (.aload_n 0, 1) := by decide +kernel
theorem d_X6_readLine_210 : decode (cd mX6_readLine) 210 = .ok (.iconst 5, 1) := by decide +kernel
theorem d_X6_readLine_211 : decode (cd mX6_readLine) 211 = .ok (.invokevirtual 72, 3) := by decide +kernel
theorem d_X6_readLine_214 : decode (cd mX6_readLine) 214 = .ok (.goto 7, 3) := by decide +kernel
theorem d_X6_readLine_217 : decode (cd mX6_readLine) 217 = .ok (.aload_n 0, 1) := by decide +kernel
theorem d_X6_readLine_218 : decode (cd mX6_readLine) 218 = .ok (.invokevirtual 129, 3) := by decide +kernel
theorem d_X6_readLine_221 : decode (cd mX6_readLine) 221 = .ok (.ireturn, 1) := by decide +kernel
theorem d_X6_readLine_222 : decode (cd mX6_readLine) 222 = .ok (.aload_n 0, 1) := by decide +kernel
theorem d_X6_readLine_223 : decode (cd mX6_readLine) 223 = .ok (.getfield 12, 3) := by decide +kernel
theorem d_X6_readLine_226 : decode (cd mX6_readLine) 226 = .ok (.getfield 132, 3) := by decide +kernel
theorem d_X6_readLine_229 : decode (cd mX6_readLine) 229 = .ok (.invokevirtual 100, 3) := by decide +kernel
theorem d_X6_readLine_232 : decode (cd mX6_readLine) 232 = .ok (.ifCond .eq 11, 3) := by decide +kernel
theorem d_X6_readLine_235 : decode (cd mX6_readLine) 235 = .ok (.aload_n 0, 1) := by decide +kernel
theorem d_X6_readLine_236 : decode (cd mX6_readLine) 236 = .ok (.iconst 5, 1) := by decide +kernel
theorem d_X6_readLine_237 : decode (cd mX6_readLine) 237 = .ok (.invokevirtual 72, 3) := by decide +kernel
theorem d_X6_readLine_240 : decode (cd mX6_readLine) 240 = .ok (.goto 7, 3) := by decide +kernel
theorem d_X6_readLine_243 : decode (cd mX6_readLine) 243 = .ok (.aload_n 0, 1) := by decide +kernel
theorem d_X6_readLine_244 : decode (cd mX6_readLine) 244 = .ok (.invokevirtual 135, 3) := by decide +kernel
theorem d_X6_readLine_247 : decode (cd mX6_readLine) 247 = .ok (.ireturn, 1) := by decide +kernel
theorem d_X6_readChalet_0 : decode (cd mX6_readChalet) 0 = .ok (.aload_n 0, 1) := by decide +kernel
theorem d_X6_readChalet_1 : decode (cd mX6_readChalet) 1 = .ok (.ldc 138, 2) := by decide +kernel
theorem d_X6_readChalet_3 : decode (cd mX6_readChalet) 3 = .ok (.invokevirtual 140, 3) := by decide +kernel
theorem d_X6_readChalet_6 : decode (cd mX6_readChalet) 6 = .ok (.ifCond .eq 13, 3) := by decide +kernel
theorem d_X6_readChalet_9 : decode (cd mX6_readChalet) 9 = .ok (.aload_n 0, 1) := by decide +kernel
theorem d_X6_readChalet_10 : decode (cd mX6_readChalet) 10 = .ok (.iconst 0, 1) := by decide +kernel
theorem d_X6_readChalet_11 : decode (cd mX6_readChalet) 11 = .ok (.bipush 100, 2) := by decide +kernel
theorem d_X6_readChalet_13 : decode (cd mX6_readChalet) 13 = .ok (.invokevirtual 143, 3) := by decide +kernel
theorem d_X6_readChalet_16 : decode (cd mX6_readChalet) 16 = .ok (.ifCond .ne 5, 3) := by decide +kernel
theorem d_X6_readChalet_19 : decode (cd mX6_readChalet) 19 = .ok (.iconst 0, 1) := by decide +kernel
theorem d_X6_readChalet_20 : decode (cd mX6_readChalet) 20 = .ok (.ireturn, 1) := by decide +kernel
theorem d_X6_readChalet_21 : decode (cd mX6_readChalet) 21 = .ok (.aload_n 0, 1) := by decide +kernel
theorem d_X6_readChalet_22 : decode (cd mX6_readChalet) 22 = .ok (.getfield 12, 3) := by decide +kernel
theorem d_X6_readChalet_25 : decode (cd mX6_readChalet) 25 = .ok (.aload_n 0, 1) := by decide +kernel
theorem d_X6_readChalet_26 : decode (cd mX6_readChalet) 26 = .ok (.getfield 147, 3) := by decide +kernel
theorem d_X6_readChalet_29 : decode (cd mX6_readChalet) 29 = .ok (.putfield 150, 3) := by decide +kernel
theorem d_X6_readChalet_32 : decode (cd mX6_readChalet) 32 = .ok (.aload_n 0, 1) := by decide +kernel
theorem d_X6_readChalet_33 : decode (cd mX6_readChalet) 33 = .ok (.ldc 152, 2) := by decide +kernel
theorem d_X6_readChalet_35 : decode (cd mX6_readChalet) 35 = .ok (.invokevirtual 140, 3) := by decide +kernel
theorem d_X6_readChalet_38 : decode (cd mX6_readChalet) 38 = .ok (.ifCond .eq 13, 3) := by decide +kernel
theorem d_X6_readChalet_41 : decode (cd mX6_readChalet) 41 = .ok (.aload_n 0, 1) := by decide +kernel
theorem d_X6_readChalet_42 : decode (cd mX6_readChalet) 42 = .ok (.iconst 0, 1) := by decide +kernel
theorem d_X6_readChalet_43 : decode (cd mX6_readChalet) 43 = .ok (.bipush 9, 2) := by decide +kernel
theorem d_X6_readChalet_45 : decode (cd mX6_readChalet) 45 = .ok (.invokevirtual 143, 3) := by decide +kernel
theorem d_X6_readChalet_48 : decode (cd mX6_readChalet) 48 = .ok (.ifCond .ne 5, 3) := by decide +kernel
theorem d_X6_readChalet_51 : decode (cd mX6_readChalet) 51 = .ok (.iconst 0, 1) := by decide +kernel
theorem d_X6_readChalet_52 : decode (cd mX6_readChalet) 52 = .ok (.ireturn, 1) := by decide +kernel
theorem d_X6_readChalet_53 : decode (cd mX6_readChalet) 53 = .ok (.aload_n 0, 1) := by decide +kernel
theorem d_X6_readChalet_54 : decode (cd mX6_readChalet) 54 = .ok (.getfield 12, 3) := by decide +kernel
theorem d_X6_readChalet_57 : decode (cd mX6_readChalet) 57 = .ok (.aload_n 0, 1) := by decide +kernel
theorem d_X6_readChalet_58 : decode (cd mX6_readChalet) 58 = .ok (.getfield 147, 3) := by decide +kernel
theorem d_X6_readChalet_61 : decode (cd mX6_readChalet) 61 = .ok (.putfield 154, 3) := by decide +kernel
theorem d_X6_readChalet_64 : decode (cd mX6_readChalet) 64 = .ok (.aload_n 0, 1) := by decide +kernel
theorem d_X6_readChalet_65 : decode (cd mX6_readChalet) 65 = .ok (.ldc 156, 2) := by decide +kernel
theorem d_X6_readChalet_67 : decode (cd mX6_readChalet) 67 = .ok (.invokevirtual 140, 3) := by decide +kernel
theorem d_X6_readChalet_70 : decode (cd mX6_readChalet) 70 = .ok (.ifCond .eq 12, 3) := by decide +kernel
theorem d_X6_readChalet_73 : decode (cd mX6_readChalet) 73 = .ok (.aload_n 0, 1) := by decide +kernel
theorem d_X6_readChalet_74 : decode (cd mX6_readChalet) 74 = .ok (.iconst 0, 1) := by decide +kernel
theorem d_X6_readChalet_75 : decode (cd mX6_readChalet) 75 = .ok (.iconst 3, 1) := by decide +kernel
theorem d_X6_readChalet_76 : decode (cd mX6_readChalet) 76 = .ok (.invokevirtual 143, 3) := by decide +kernel
theorem d_X6_readChalet_79 : decode (cd mX6_readChalet) 79 = .ok (.ifCond .ne 5, 3) := by decide +kernel
theorem d_X6_readChalet_82 : decode (cd mX6_readChalet) 82 = .ok (.iconst 0, 1) := by decide +kernel
theorem d_X6_readChalet_83 : decode (cd mX6_readChalet) 83 = .ok (.ireturn, 1) := by decide +kernel
theorem d_X6_readChalet_84 : decode (cd mX6_readChalet) 84 = .ok (.aload_n 0, 1) := by decide +kernel
theorem d_X6_readChalet_85 : decode (cd mX6_readChalet) 85 = .ok (.getfield 12, 3) := by decide +kernel
theorem d_X6_readChalet_88 : decode (cd mX6_readChalet) 88 = .ok (.aload_n 0, 1) := by decide +kernel
theorem d_X6_readChalet_89 : decode (cd mX6_readChalet) 89 = .ok (.getfield 147, 3) := by decide +kernel
theorem d_X6_readChalet_92 : decode (cd mX6_readChalet) 92 = .ok (.putfield 158, 3) := by decide +kernel
theorem d_X6_readChalet_95 : decode (cd mX6_readChalet) 95 = .ok (.aload_n 0, 1) := by decide +kernel
theorem d_X6_readChalet_96 : decode (cd mX6_readChalet) 96 = .ok (.ldc 160, 2) := by decide +kernel
theorem d_X6_readChalet_98 : decode (cd mX6_readChalet) 98 = .ok (.invokevirtual 140, 3) := by decide +kernel
theorem d_X6_readChalet_101 : decode (cd mX6_readChalet) 101 = .ok (.ifCond .eq 13, 3) := by decide +kernel
theorem d_X6_readChalet_104 : decode (cd mX6_readChalet) 104 = .ok (.aload_n 0, 1) := by decide +kernel
theorem d_X6_readChalet_105 : decode (cd mX6_readChalet) 105 = .ok (.iconst 0, 1) := by decide +kernel
theorem d_X6_readChalet_106 : decode (cd mX6_readChalet) 106 = .ok (.bipush 100, 2) := by decide +kernel
theorem d_X6_readChalet_108 : decode (cd mX6_readChalet) 108 = .ok (.invokevirtual 143, 3) := by decide +kernel
theorem d_X6_readChalet_111 : decode (cd mX6_readChalet) 111 = .ok (.ifCond .ne 5, 3) := by decide +kernel
theorem d_X6_readChalet_114 : decode (cd mX6_readChalet) 114 = .ok (.iconst 0, 1) := by decide +kernel
theorem d_X6_readChalet_115 : decode (cd mX6_readChalet) 115 = .ok (.ireturn, 1) := by decide +kernel
theorem d_X6_readChalet_116 : decode (cd mX6_readChalet) 116 = .ok (.aload_n 0, 1) := by decide +kernel
theorem d_X6_readChalet_117 : decode (cd mX6_readChalet) 117 = .ok (.getfield 12, 3) := by decide +kernel
theorem d_X6_readChalet_120 : decode (cd mX6_readChalet) 120 = .ok (.aload_n 0, 1) := by decide +kernel
theorem d_X6_readChalet_121 : decode (cd mX6_readChalet) 121 = .ok (.getfield 147, 3) := by decide +kernel
theorem d_X6_readChalet_124 : decode (cd mX6_readChalet) 124 = .ok (.putfield 162, 3) := by decide +kernel
theorem d_X6_readChalet_127 : decode (cd mX6_readChalet) 127 = .ok (.iconst 1, 1) := by decide +kernel
theorem d_X6_readChalet_128 : decode (cd mX6_readChalet) 128 = .ok (.ireturn, 1) := by decide +kernel
theorem d_X6_readWeather_0 : decode (cd mX6_readWeather) 0 = .ok (.aload_n 0, 1) := by decide +kernel
theorem d_X6_readWeather_1 : decode (cd mX6_readWeather) 1 = .ok (.iconst 1, 1) := by decide +kernel
theorem d_X6_readWeather_2 : decode (cd mX6_readWeather) 2 = .ok (.putfield 55, 3) := by decide +kernel
theorem d_X6_readWeather_5 : decode (cd mX6_readWeather) 5 = .ok (.aload_n 0, 1) := by decide +kernel
theorem d_X6_readWeather_6 : decode (cd mX6_readWeather) 6 = .ok (.ldc 164, 2) := by decide +kernel
theorem d_X6_readWeather_8 : decode (cd mX6_readWeather) 8 = .ok (.invokevirtual 140, 3) := by decide +kernel
theorem d_X6_readWeather_11 : decode (cd mX6_readWeather) 11 = .ok (.ifCond .eq 13, 3) := by decide +kernel
theorem d_X6_readWeather_14 : decode (cd mX6_readWeather) 14 = .ok (.aload_n 0, 1) := by decide +kernel
theorem d_X6_readWeather_15 : decode (cd mX6_readWeather) 15 = .ok (.iconst 0, 1) := by decide +kernel
theorem d_X6_readWeather_16 : decode (cd mX6_readWeather) 16 = .ok (.bipush 30, 2) := by decide +kernel
theorem d_X6_readWeather_18 : decode (cd mX6_readWeather) 18 = .ok (.invokevirtual 143, 3) := by decide +kernel
theorem d_X6_readWeather_21 : decode (cd mX6_readWeather) 21 = .ok (.ifCond .ne 5, 3) := by decide +kernel
theorem d_X6_readWeather_24 : decode (cd mX6_readWeather) 24 = .ok (.iconst 0, 1) := by decide +kernel
theorem d_X6_readWeather_25 : decode (cd mX6_readWeather) 25 = .ok (.ireturn, 1) := by decide +kernel
theorem d_X6_readWeather_26 : decode (cd mX6_readWeather) 26 = .ok (.aload_n 0, 1) := by decide +kernel
theorem d_X6_readWeather_27 : decode (cd mX6_readWeather) 27 = .ok (.getfield 12, 3) := by decide +kernel
theorem d_X6_readWeather_30 : decode (cd mX6_readWeather) 30 = .ok (.aload_n 0, 1) := by decide +kernel
theorem d_X6_readWeather_31 : decode (cd mX6_readWeather) 31 = .ok (.getfield 147, 3) := by decide +kernel
theorem d_X6_readWeather_34 : decode (cd mX6_readWeather) 34 = .ok (.putfield 166, 3) := by decide +kernel
theorem d_X6_readWeather_37 : decode (cd mX6_readWeather) 37 = .ok (.aload_n 0, 1) := by decide +kernel
theorem d_X6_readWeather_38 : decode (cd mX6_readWeather) 38 = .ok (.ldc 168, 2) := by decide +kernel
theorem d_X6_readWeather_40 : decode (cd mX6_readWeather) 40 = .ok (.invokevirtual 140, 3) := by decide +kernel
theorem d_X6_readWeather_43 : decode (cd mX6_readWeather) 43 = .ok (.ifCond .eq 13, 3) := by decide +kernel
theorem d_X6_readWeather_46 : decode (cd mX6_readWeather) 46 = .ok (.aload_n 0, 1) := by decide +kernel
theorem d_X6_readWeather_47 : decode (cd mX6_readWeather) 47 = .ok (.iconst 0, 1) := by decide +kernel
theorem d_X6_readWeather_48 : decode (cd mX6_readWeather) 48 = .ok (.bipush 30, 2) := by decide +kernel
theorem d_X6_readWeather_50 : decode (cd mX6_readWeather) 50 = .ok (.invokevirtual 143, 3) := by decide +kernel
theorem d_X6_readWeather_53 : decode (cd mX6_readWeather) 53 = .ok (.ifCond .ne 5, 3) := by decide +kernel
theorem d_X6_readWeather_56 : decode (cd mX6_readWeather) 56 = .ok (.iconst 0, 1) := by decide +kernel
theorem d_X6_readWeather_57 : decode (cd mX6_readWeather) 57 = .ok (.ireturn, 1) := by decide +kernel
theorem d_X6_readWeather_58 : decode (cd mX6_readWeather) 58 = .ok (.aload_n 0, 1) := by decide +kernel
theorem d_X6_readWeather_59 : decode (cd mX6_readWeather) 59 = .ok (.getfield 12, 3) := by decide +kernel
theorem d_X6_readWeather_62 : decode (cd mX6_readWeather) 62 = .ok (.aload_n 0, 1) := by decide +kernel
theorem d_X6_readWeather_63 : decode (cd mX6_readWeather) 63 = .ok (.getfield 147, 3) := by decide +kernel
theorem d_X6_readWeather_66 : decode (cd mX6_readWeather) 66 = .ok (.putfield 170, 3) := by decide +kernel
theorem d_X6_readWeather_69 : decode (cd mX6_readWeather) 69 = .ok (.iconst 1, 1) := by decide +kernel
theorem d_X6_readWeather_70 : decode (cd mX6_readWeather) 70 = .ok (.ireturn, 1) := by decide +kernel
theorem d_X6_readVent_0 : decode (cd mX6_readVent) 0 = .ok (.aload_n 0, 1) := by decide +kernel
theorem d_X6_readVent_1 : decode (cd mX6_readVent) 1 = .ok (.iconst (-1), 1) := by decide +kernel
theorem d_X6_readVent_2 : decode (cd mX6_readVent) 2 = .ok (.invokevirtual 172, 3) := by decide +kernel
theorem d_X6_readVent_5 : decode (cd mX6_readVent) 5 = .ok (.ifCond .eq 81, 3) := by decide +kernel
theorem d_X6_readVent_8 : decode (cd mX6_readVent) 8 = .ok (.aload_n 0, 1) := by decide +kernel
theorem d_X6_readVent_9 : decode (cd mX6_readVent) 9 = .ok (.aload_n 0, 1) := by decide +kernel
theorem d_X6_readVent_10 : decode (cd mX6_readVent) 10 = .ok (.getfield 12, 3) := by decide +kernel
theorem d_X6_readVent_13 : decode (cd mX6_readVent) 13 = .ok (.getfield 96, 3) := by decide +kernel
theorem d_X6_readVent_16 : decode (cd mX6_readVent) 16 = .ok (.iconst 0, 1) := by decide +kernel
theorem d_X6_readVent_17 : decode (cd mX6_readVent) 17 = .ok (.invokevirtual 175, 3) := by decide +kernel
theorem d_X6_readVent_20 : decode (cd mX6_readVent) 20 = .ok (.ifCond .eq 66, 3) := by decide +kernel
theorem d_X6_readVent_23 : decode (cd mX6_readVent) 23 = .ok (.aload_n 0, 1) := by decide +kernel
theorem d_X6_readVent_24 : decode (cd mX6_readVent) 24 = .ok (.aload_n 0, 1) := by decide +kernel
theorem d_X6_readVent_25 : decode (cd mX6_readVent) 25 = .ok (.getfield 12, 3) := by decide +kernel
theorem d_X6_readVent_28 : decode (cd mX6_readVent) 28 = .ok (.getfield 96, 3) := by decide +kernel
theorem d_X6_readVent_31 : decode (cd mX6_readVent) 31 = .ok (.iconst 1, 1) := by decide +kernel
theorem d_X6_readVent_32 : decode (cd mX6_readVent) 32 = .ok (.iconst 1, 1) := by decide +kernel
theorem d_X6_readVent_33 : decode (cd mX6_readVent) 33 = .ok (.bipush 9, 2) := by decide +kernel
theorem d_X6_readVent_35 : decode (cd mX6_readVent) 35 = .ok (.invokevirtual 179, 3) := by decide +kernel
theorem d_X6_readVent_38 : decode (cd mX6_readVent) 38 = .ok (.ifCond .eq 48, 3) := by decide +kernel
theorem d_X6_readVent_41 : decode (cd mX6_readVent) 41 = .ok (.aload_n 0, 1) := by decide +kernel
theorem d_X6_readVent_42 : decode (cd mX6_readVent) 42 = .ok (.ldc 183, 2) := by decide +kernel
theorem d_X6_readVent_44 : decode (cd mX6_readVent) 44 = .ok (.invokevirtual 140, 3) := by decide +kernel
theorem d_X6_readVent_47 : decode (cd mX6_readVent) 47 = .ok (.ifCond .eq 39, 3) := by decide +kernel
theorem d_X6_readVent_50 : decode (cd mX6_readVent) 50 = .ok (.aload_n 0, 1) := by decide +kernel
theorem d_X6_readVent_51 : decode (cd mX6_readVent) 51 = .ok (.aload_n 0, 1) := by decide +kernel
theorem d_X6_readVent_52 : decode (cd mX6_readVent) 52 = .ok (.getfield 12, 3) := by decide +kernel
theorem d_X6_readVent_55 : decode (cd mX6_readVent) 55 = .ok (.getfield 96, 3) := by decide +kernel
theorem d_X6_readVent_58 : decode (cd mX6_readVent) 58 = .ok (.iconst 2, 1) := by decide +kernel
theorem d_X6_readVent_59 : decode (cd mX6_readVent) 59 = .ok (.iconst 0, 1) := by decide +kernel
theorem d_X6_readVent_60 : decode (cd mX6_readVent) 60 = .ok (.bipush 99, 2) := by decide +kernel
theorem d_X6_readVent_62 : decode (cd mX6_readVent) 62 = .ok (.invokevirtual 179, 3) := by decide +kernel
theorem d_X6_readVent_65 : decode (cd mX6_readVent) 65 = .ok (.ifCond .eq 21, 3) := by decide +kernel
theorem d_X6_readVent_68 : decode (cd mX6_readVent) 68 = .ok (.aload_n 0, 1) := by decide +kernel
theorem d_X6_readVent_69 : decode (cd mX6_readVent) 69 = .ok (.aload_n 0, 1) := by decide +kernel
theorem d_X6_readVent_70 : decode (cd mX6_readVent) 70 = .ok (.getfield 12, 3) := by decide +kernel
theorem d_X6_readVent_73 : decode (cd mX6_readVent) 73 = .ok (.getfield 96, 3) := by decide +kernel
theorem d_X6_readVent_76 : decode (cd mX6_readVent) 76 = .ok (.invokevirtual 185, 3) := by decide +kernel
theorem d_X6_readVent_79 : decode (cd mX6_readVent) 79 = .ok (.ifCond .eq 7, 3) := by decide +kernel
theorem d_X6_readVent_82 : decode (cd mX6_readVent) 82 = .ok (.iconst 1, 1) := by decide +kernel
theorem d_X6_readVent_83 : decode (cd mX6_readVent) 83 = .ok (.goto 4, 3) := by decide +kernel
theorem d_X6_readVent_86 : decode (cd mX6_readVent) 86 = .ok (.iconst 0, 1) := by decide +kernel
theorem d_X6_readVent_87 : decode (cd mX6_readVent) 87 = .ok (.ireturn, 1) := by decide +kernel
theorem d_X6_readPlan_0 : decode (cd mX6_readPlan) 0 = .ok (.aload_n 0, 1) := by decide +kernel
theorem d_X6_readPlan_1 : decode (cd mX6_readPlan) 1 = .ok (.iconst (-1), 1) := by decide +kernel
theorem d_X6_readPlan_2 : decode (cd mX6_readPlan) 2 = .ok (.invokevirtual 172, 3) := by decide +kernel
theorem d_X6_readPlan_5 : decode (cd mX6_readPlan) 5 = .ok (.ifCond .eq 90, 3) := by decide +kernel
theorem d_X6_readPlan_8 : decode (cd mX6_readPlan) 8 = .ok (.aload_n 0, 1) := by decide +kernel
theorem d_X6_readPlan_9 : decode (cd mX6_readPlan) 9 = .ok (.ldc 189, 2) := by decide +kernel
theorem d_X6_readPlan_11 : decode (cd mX6_readPlan) 11 = .ok (.invokevirtual 140, 3) := by decide +kernel
theorem d_X6_readPlan_14 : decode (cd mX6_readPlan) 14 = .ok (.ifCond .eq 81, 3) := by decide +kernel
theorem d_X6_readPlan_17 : decode (cd mX6_readPlan) 17 = .ok (.aload_n 0, 1) := by decide +kernel
theorem d_X6_readPlan_18 : decode (cd mX6_readPlan) 18 = .ok (.aload_n 0, 1) := by decide +kernel
theorem d_X6_readPlan_19 : decode (cd mX6_readPlan) 19 = .ok (.getfield 12, 3) := by decide +kernel
theorem d_X6_readPlan_22 : decode (cd mX6_readPlan) 22 = .ok (.getfield 110, 3) := by decide +kernel
theorem d_X6_readPlan_25 : decode (cd mX6_readPlan) 25 = .ok (.iconst 0, 1) := by decide +kernel
theorem d_X6_readPlan_26 : decode (cd mX6_readPlan) 26 = .ok (.iconst 0, 1) := by decide +kernel
theorem d_X6_readPlan_27 : decode (cd mX6_readPlan) 27 = .ok (.bipush 20, 2) := by decide +kernel
theorem d_X6_readPlan_29 : decode (cd mX6_readPlan) 29 = .ok (.invokevirtual 179, 3) := by decide +kernel
theorem d_X6_readPlan_32 : decode (cd mX6_readPlan) 32 = .ok (.ifCond .eq 63, 3) := by decide +kernel
theorem d_X6_readPlan_35 : decode (cd mX6_readPlan) 35 = .ok (.aload_n 0, 1) := by decide +kernel
theorem d_X6_readPlan_36 : decode (cd mX6_readPlan) 36 = .ok (.aload_n 0, 1) := by decide +kernel
theorem d_X6_readPlan_37 : decode (cd mX6_readPlan) 37 = .ok (.getfield 12, 3) := by decide +kernel
theorem d_X6_readPlan_40 : decode (cd mX6_readPlan) 40 = .ok (.getfield 110, 3) := by decide +kernel
theorem d_X6_readPlan_43 : decode (cd mX6_readPlan) 43 = .ok (.iconst 1, 1) := by decide +kernel
theorem d_X6_readPlan_44 : decode (cd mX6_readPlan) 44 = .ok (.invokevirtual 175, 3) := by decide +kernel
theorem d_X6_readPlan_47 : decode (cd mX6_readPlan) 47 = .ok (.ifCond .eq 48, 3) := by decide +kernel
theorem d_X6_readPlan_50 : decode (cd mX6_readPlan) 50 = .ok (.aload_n 0, 1) := by decide +kernel
theorem d_X6_readPlan_51 : decode (cd mX6_readPlan) 51 = .ok (.ldc 191, 2) := by decide +kernel
theorem d_X6_readPlan_53 : decode (cd mX6_readPlan) 53 = .ok (.invokevirtual 140, 3) := by decide +kernel
theorem d_X6_readPlan_56 : decode (cd mX6_readPlan) 56 = .ok (.ifCond .eq 39, 3) := by decide +kernel
theorem d_X6_readPlan_59 : decode (cd mX6_readPlan) 59 = .ok (.aload_n 0, 1) := by decide +kernel
theorem d_X6_readPlan_60 : decode (cd mX6_readPlan) 60 = .ok (.aload_n 0, 1) := by decide +kernel
theorem d_X6_readPlan_61 : decode (cd mX6_readPlan) 61 = .ok (.getfield 12, 3) := by decide +kernel
theorem d_X6_readPlan_64 : decode (cd mX6_readPlan) 64 = .ok (.getfield 110, 3) := by decide +kernel
theorem d_X6_readPlan_67 : decode (cd mX6_readPlan) 67 = .ok (.iconst 2, 1) := by decide +kernel
theorem d_X6_readPlan_68 : decode (cd mX6_readPlan) 68 = .ok (.iconst 0, 1) := by decide +kernel
theorem d_X6_readPlan_69 : decode (cd mX6_readPlan) 69 = .ok (.bipush 99, 2) := by decide +kernel
theorem d_X6_readPlan_71 : decode (cd mX6_readPlan) 71 = .ok (.invokevirtual 179, 3) := by decide +kernel
theorem d_X6_readPlan_74 : decode (cd mX6_readPlan) 74 = .ok (.ifCond .eq 21, 3) := by decide +kernel
theorem d_X6_readPlan_77 : decode (cd mX6_readPlan) 77 = .ok (.aload_n 0, 1) := by decide +kernel
theorem d_X6_readPlan_78 : decode (cd mX6_readPlan) 78 = .ok (.aload_n 0, 1) := by decide +kernel
theorem d_X6_readPlan_79 : decode (cd mX6_readPlan) 79 = .ok (.getfield 12, 3) := by decide +kernel
theorem d_X6_readPlan_82 : decode (cd mX6_readPlan) 82 = .ok (.getfield 110, 3) := by decide +kernel
theorem d_X6_readPlan_85 : decode (cd mX6_readPlan) 85 = .ok (.invokevirtual 185, 3) := by decide +kernel
theorem d_X6_readPlan_88 : decode (cd mX6_readPlan) 88 = .ok (.ifCond .eq 7, 3) := by decide +kernel
theorem d_X6_readPlan_91 : decode (cd mX6_readPlan) 91 = .ok (.iconst 1, 1) := by decide +kernel
theorem d_X6_readPlan_92 : decode (cd mX6_readPlan) 92 = .ok (.goto 4, 3) := by decide +kernel
theorem d_X6_readPlan_95 : decode (cd mX6_readPlan) 95 = .ok (.iconst 0, 1) := by decide +kernel
theorem d_X6_readPlan_96 : decode (cd mX6_readPlan) 96 = .ok (.ireturn, 1) := by decide +kernel
theorem d_X6_readSaw_0 : decode (cd mX6_readSaw) 0 = .ok (.aload_n 0, 1) := by decide +kernel
theorem d_X6_readSaw_1 : decode (cd mX6_readSaw) 1 = .ok (.ldc 193, 2) := by decide +kernel
theorem d_X6_readSaw_3 : decode (cd mX6_readSaw) 3 = .ok (.invokevirtual 140, 3) := by decide +kernel
theorem d_X6_readSaw_6 : decode (cd mX6_readSaw) 6 = .ok (.ifCond .eq 21, 3) := by decide +kernel
theorem d_X6_readSaw_9 : decode (cd mX6_readSaw) 9 = .ok (.aload_n 0, 1) := by decide +kernel
theorem d_X6_readSaw_10 : decode (cd mX6_readSaw) 10 = .ok (.aload_n 0, 1) := by decide +kernel
theorem d_X6_readSaw_11 : decode (cd mX6_readSaw) 11 = .ok (.getfield 12, 3) := by decide +kernel
theorem d_X6_readSaw_14 : decode (cd mX6_readSaw) 14 = .ok (.getfield 118, 3) := by decide +kernel
theorem d_X6_readSaw_17 : decode (cd mX6_readSaw) 17 = .ok (.iconst 0, 1) := by decide +kernel
theorem d_X6_readSaw_18 : decode (cd mX6_readSaw) 18 = .ok (.iconst 0, 1) := by decide +kernel
theorem d_X6_readSaw_19 : decode (cd mX6_readSaw) 19 = .ok (.bipush 20, 2) := by decide +kernel
theorem d_X6_readSaw_21 : decode (cd mX6_readSaw) 21 = .ok (.invokevirtual 179, 3) := by decide +kernel
theorem d_X6_readSaw_24 : decode (cd mX6_readSaw) 24 = .ok (.ifCond .ne 5, 3) := by decide +kernel
theorem d_X6_readSaw_27 : decode (cd mX6_readSaw) 27 = .ok (.iconst 0, 1) := by decide +kernel
theorem d_X6_readSaw_28 : decode (cd mX6_readSaw) 28 = .ok (.ireturn, 1) := by decide +kernel
theorem d_X6_readSaw_29 : decode (cd mX6_readSaw) 29 = .ok (.aload_n 0, 1) := by decide +kernel
theorem d_X6_readSaw_30 : decode (cd mX6_readSaw) 30 = .ok (.getfield 12, 3) := by decide +kernel
theorem d_X6_readSaw_33 : decode (cd mX6_readSaw) 33 = .ok (.aload_n 0, 1) := by decide +kernel
theorem d_X6_readSaw_34 : decode (cd mX6_readSaw) 34 = .ok (.getfield 147, 3) := by decide +kernel
theorem d_X6_readSaw_37 : decode (cd mX6_readSaw) 37 = .ok (.invokevirtual 195, 3) := by decide +kernel
theorem d_X6_readSaw_40 : decode (cd mX6_readSaw) 40 = .ok (.ifCond .eq 9, 3) := by decide +kernel
theorem d_X6_readSaw_43 : decode (cd mX6_readSaw) 43 = .ok (.aload_n 0, 1) := by decide +kernel
theorem d_X6_readSaw_44 : decode (cd mX6_readSaw) 44 = .ok (.iconst 3, 1) := by decide +kernel
theorem d_X6_readSaw_45 : decode (cd mX6_readSaw) 45 = .ok (.invokevirtual 72, 3) := by decide +kernel
theorem d_X6_readSaw_48 : decode (cd mX6_readSaw) 48 = .ok (.ireturn, 1) := by decide +kernel
theorem d_X6_readSaw_49 : decode (cd mX6_readSaw) 49 = .ok (.aload_n 0, 1) := by decide +kernel
theorem d_X6_readSaw_50 : decode (cd mX6_readSaw) 50 = .ok (.invokevirtual 198, 3) := by decide +kernel
theorem d_X6_readSaw_53 : decode (cd mX6_readSaw) 53 = .ok (.ifCond .eq 21, 3) := by decide +kernel
theorem d_X6_readSaw_56 : decode (cd mX6_readSaw) 56 = .ok (.aload_n 0, 1) := by decide +kernel
theorem d_X6_readSaw_57 : decode (cd mX6_readSaw) 57 = .ok (.aload_n 0, 1) := by decide +kernel
theorem d_X6_readSaw_58 : decode (cd mX6_readSaw) 58 = .ok (.getfield 12, 3) := by decide +kernel
theorem d_X6_readSaw_61 : decode (cd mX6_readSaw) 61 = .ok (.getfield 118, 3) := by decide +kernel
theorem d_X6_readSaw_64 : decode (cd mX6_readSaw) 64 = .ok (.invokevirtual 185, 3) := by decide +kernel
theorem d_X6_readSaw_67 : decode (cd mX6_readSaw) 67 = .ok (.ifCond .eq 7, 3) := by decide +kernel
theorem d_X6_readSaw_70 : decode (cd mX6_readSaw) 70 = .ok (.iconst 1, 1) := by decide +kernel
theorem d_X6_readSaw_71 : decode (cd mX6_readSaw) 71 = .ok (.goto 4, 3) := by decide +kernel
theorem d_X6_readSaw_74 : decode (cd mX6_readSaw) 74 = .ok (.iconst 0, 1) := by decide +kernel
theorem d_X6_readSaw_75 : decode (cd mX6_readSaw) 75 = .ok (.ireturn, 1) := by decide +kernel
theorem d_X6_readField_0 : decode (cd mX6_readField) 0 = .ok (.aload_n 0, 1) := by decide +kernel
theorem d_X6_readField_1 : decode (cd mX6_readField) 1 = .ok (.aload_n 0, 1) := by decide +kernel
theorem d_X6_readField_2 : decode (cd mX6_readField) 2 = .ok (.getfield 12, 3) := by decide +kernel
theorem d_X6_readField_5 : decode (cd mX6_readField) 5 = .ok (.getfield 126, 3) := by decide +kernel
theorem d_X6_readField_8 : decode (cd mX6_readField) 8 = .ok (.invokevirtual 172, 3) := by decide +kernel
theorem d_X6_readField_11 : decode (cd mX6_readField) 11 = .ok (.ifCond .ne 5, 3) := by decide +kernel
theorem d_X6_readField_14 : decode (cd mX6_readField) 14 = .ok (.iconst 0, 1) := by decide +kernel
theorem d_X6_readField_15 : decode (cd mX6_readField) 15 = .ok (.ireturn, 1) := by decide +kernel
theorem d_X6_readField_16 : decode (cd mX6_readField) 16 = .ok (.aload_n 0, 1) := by decide +kernel
theorem d_X6_readField_17 : decode (cd mX6_readField) 17 = .ok (.getfield 12, 3) := by decide +kernel
theorem d_X6_readField_20 : decode (cd mX6_readField) 20 = .ok (.dup, 1) := by decide +kernel
theorem d_X6_readField_21 : decode (cd mX6_readField) 21 = .ok (.getfield 126, 3) := by decide +kernel
theorem d_X6_readField_24 : decode (cd mX6_readField) 24 = .ok (.iconst 1, 1) := by decide +kernel
theorem d_X6_readField_25 : decode (cd mX6_readField) 25 = .ok (.iadd, 1) := by decide +kernel
theorem d_X6_readField_26 : decode (cd mX6_readField) 26 = .ok (.putfield 126, 3) := by decide +kernel
theorem d_X6_readField_29 : decode (cd mX6_readField) 29 = .ok (.iconst 1, 1) := by decide +kernel
theorem d_X6_readField_30 : decode (cd mX6_readField) 30 = .ok (.ireturn, 1) := by decide +kernel
theorem d_X6_readDitch_0 : decode (cd mX6_readDitch) 0 = .ok (.aload_n 0, 1) := by decide +kernel
theorem d_X6_readDitch_1 : decode (cd mX6_readDitch) 1 = .ok (.invokevirtual 201, 3) := by decide +kernel
theorem d_X6_readDitch_4 : decode (cd mX6_readDitch) 4 = .ok (.ifCond .ne 5, 3) := by decide +kernel
theorem d_X6_readDitch_7 : decode (cd mX6_readDitch) 7 = .ok (.iconst 0, 1) := by decide +kernel
theorem d_X6_readDitch_8 : decode (cd mX6_readDitch) 8 = .ok (.ireturn, 1) := by decide +kernel
theorem d_X6_readDitch_9 : decode (cd mX6_readDitch) 9 = .ok (.aload_n 0, 1) := by decide +kernel
theorem d_X6_readDitch_10 : decode (cd mX6_readDitch) 10 = .ok (.getfield 204, 3) := by decide +kernel
theorem d_X6_readDitch_13 : decode (cd mX6_readDitch) 13 = .ok (.istore_n 1, 1) := by decide +kernel
theorem d_X6_readDitch_14 : decode (cd mX6_readDitch) 14 = .ok (.aload_n 0, 1) := by decide +kernel
theorem d_X6_readDitch_15 : decode (cd mX6_readDitch) 15 = .ok (.invokevirtual 201, 3) := by decide +kernel
theorem d_X6_readDitch_18 : decode (cd mX6_readDitch) 18 = .ok (.ifCond .ne 5, 3) := by decide +kernel
theorem d_X6_readDitch_21 : decode (cd mX6_readDitch) 21 = .ok (.iconst 0, 1) := by decide +kernel
theorem d_X6_readDitch_22 : decode (cd mX6_readDitch) 22 = .ok (.ireturn, 1) := by decide +kernel
theorem d_X6_readDitch_23 : decode (cd mX6_readDitch) 23 = .ok (.aload_n 0, 1) := by decide +kernel
theorem d_X6_readDitch_24 : decode (cd mX6_readDitch) 24 = .ok (.getfield 204, 3) := by decide +kernel
theorem d_X6_readDitch_27 : decode (cd mX6_readDitch) 27 = .ok (.iload_n 1, 1) := by decide +kernel
theorem d_X6_readDitch_28 : decode (cd mX6_readDitch) 28 = .ok (.if_icmp .eq 18, 3) := by decide +kernel
theorem d_X6_readDitch_31 : decode (cd mX6_readDitch) 31 = .ok (.aload_n 0, 1) := by decide +kernel
theorem d_X6_readDitch_32 : decode (cd mX6_readDitch) 32 = .ok (.getfield 12, 3) := by decide +kernel
theorem d_X6_readDitch_35 : decode (cd mX6_readDitch) 35 = .ok (.iload_n 1, 1) := by decide +kernel
theorem d_X6_readDitch_36 : decode (cd mX6_readDitch) 36 = .ok (.aload_n 0, 1) := by decide +kernel
theorem d_X6_readDitch_37 : decode (cd mX6_readDitch) 37 = .ok (.getfield 204, 3) := by decide +kernel
theorem d_X6_readDitch_40 : decode (cd mX6_readDitch) 40 = .ok (.invokevirtual 207, 3) := by decide +kernel
theorem d_X6_readDitch_43 : decode (cd mX6_readDitch) 43 = .ok (.ifCond .eq 9, 3) := by decide +kernel
theorem d_X6_readDitch_46 : decode (cd mX6_readDitch) 46 = .ok (.aload_n 0, 1) := by decide +kernel
theorem d_X6_readDitch_47 : decode (cd mX6_readDitch) 47 = .ok (.iconst 3, 1) := by decide +kernel
theorem d_X6_readDitch_48 : decode (cd mX6_readDitch) 48 = .ok (.invokevirtual 72, 3) := by decide +kernel
theorem d_X6_readDitch_51 : decode (cd mX6_readDitch) 51 = .ok (.ireturn, 1) := by decide +kernel
theorem d_X6_readDitch_52 : decode (cd mX6_readDitch) 52 = .ok (.aload_n 0, 1) := by decide +kernel
theorem d_X6_readDitch_53 : decode (cd mX6_readDitch) 53 = .ok (.getfield 12, 3) := by decide +kernel
theorem d_X6_readDitch_56 : decode (cd mX6_readDitch) 56 = .ok (.getfield 132, 3) := by decide +kernel
theorem d_X6_readDitch_59 : decode (cd mX6_readDitch) 59 = .ok (.iconst 0, 1) := by decide +kernel
theorem d_X6_readDitch_60 : decode (cd mX6_readDitch) 60 = .ok (.iload_n 1, 1) := by decide +kernel
theorem d_X6_readDitch_61 : decode (cd mX6_readDitch) 61 = .ok (.invokevirtual 210, 3) := by decide +kernel
theorem d_X6_readDitch_64 : decode (cd mX6_readDitch) 64 = .ok (.aload_n 0, 1) := by decide +kernel
theorem d_X6_readDitch_65 : decode (cd mX6_readDitch) 65 = .ok (.getfield 12, 3) := by decide +kernel
theorem d_X6_readDitch_68 : decode (cd mX6_readDitch) 68 = .ok (.getfield 132, 3) := by decide +kernel
theorem d_X6_readDitch_71 : decode (cd mX6_readDitch) 71 = .ok (.iconst 1, 1) := by decide +kernel
theorem d_X6_readDitch_72 : decode (cd mX6_readDitch) 72 = .ok (.aload_n 0, 1) := by decide +kernel
theorem d_X6_readDitch_73 : decode (cd mX6_readDitch) 73 = .ok (.getfield 204, 3) := by decide +kernel
theorem d_X6_readDitch_76 : decode (cd mX6_readDitch) 76 = .ok (.invokevirtual 210, 3) := by decide +kernel
theorem d_X6_readDitch_79 : decode (cd mX6_readDitch) 79 = .ok (.aload_n 0, 1) := by decide +kernel
theorem d_X6_readDitch_80 : decode (cd mX6_readDitch) 80 = .ok (.ldc 214, 2) := by decide +kernel
theorem d_X6_readDitch_82 : decode (cd mX6_readDitch) 82 = .ok (.invokevirtual 140, 3) := by decide +kernel
theorem d_X6_readDitch_85 : decode (cd mX6_readDitch) 85 = .ok (.ifCond .eq 39, 3) := by decide +kernel
theorem d_X6_readDitch_88 : decode (cd mX6_readDitch) 88 = .ok (.aload_n 0, 1) := by decide +kernel
theorem d_X6_readDitch_89 : decode (cd mX6_readDitch) 89 = .ok (.aload_n 0, 1) := by decide +kernel
theorem d_X6_readDitch_90 : decode (cd mX6_readDitch) 90 = .ok (.getfield 12, 3) := by decide +kernel
theorem d_X6_readDitch_93 : decode (cd mX6_readDitch) 93 = .ok (.getfield 132, 3) := by decide +kernel
theorem d_X6_readDitch_96 : decode (cd mX6_readDitch) 96 = .ok (.iconst 2, 1) := by decide +kernel
theorem d_X6_readDitch_97 : decode (cd mX6_readDitch) 97 = .ok (.iconst 1, 1) := by decide +kernel
theorem d_X6_readDitch_98 : decode (cd mX6_readDitch) 98 = .ok (.bipush 99, 2) := by decide +kernel
theorem d_X6_readDitch_100 : decode (cd mX6_readDitch) 100 = .ok (.invokevirtual 179, 3) := by decide +kernel
theorem d_X6_readDitch_103 : decode (cd mX6_readDitch) 103 = .ok (.ifCond .eq 21, 3) := by decide +kernel
theorem d_X6_readDitch_106 : decode (cd mX6_readDitch) 106 = .ok (.aload_n 0, 1) := by decide +kernel
theorem d_X6_readDitch_107 : decode (cd mX6_readDitch) 107 = .ok (.aload_n 0, 1) := by decide +kernel
theorem d_X6_readDitch_108 : decode (cd mX6_readDitch) 108 = .ok (.getfield 12, 3) := by decide +kernel
theorem d_X6_readDitch_111 : decode (cd mX6_readDitch) 111 = .ok (.getfield 132, 3) := by decide +kernel
theorem d_X6_readDitch_114 : decode (cd mX6_readDitch) 114 = .ok (.invokevirtual 185, 3) := by decide +kernel
theorem d_X6_readDitch_117 : decode (cd mX6_readDitch) 117 = .ok (.ifCond .eq 7, 3) := by decide +kernel
theorem d_X6_readDitch_120 : decode (cd mX6_readDitch) 120 = .ok (.iconst 1, 1) := by decide +kernel
theorem d_X6_readDitch_121 : decode (cd mX6_readDitch) 121 = .ok (.goto 4, 3) := by decide +kernel
theorem d_X6_readDitch_124 : decode (cd mX6_readDitch) 124 = .ok (.iconst 0, 1) := by decide +kernel
theorem d_X6_readDitch_125 : decode (cd mX6_readDitch) 125 = .ok (.ireturn, 1) := by decide +kernel
theorem d_X6_fails_0 : decode (cd mX6_fails) 0 = .ok (.aload_n 0, 1) := by decide +kernel
theorem d_X6_fails_1 : decode (cd mX6_fails) 1 = .ok (.iload_n 1, 1) := by decide +kernel
theorem d_X6_fails_2 : decode (cd mX6_fails) 2 = .ok (.putfield 49, 3) := by decide +kernel
theorem d_X6_fails_5 : decode (cd mX6_fails) 5 = .ok (.aload_n 0, 1) := by decide +kernel
theorem d_X6_fails_6 : decode (cd mX6_fails) 6 = .ok (.aload_n 0, 1) := by decide +kernel
theorem d_X6_fails_7 : decode (cd mX6_fails) 7 = .ok (.getfield 216, 3) := by decide +kernel
theorem d_X6_fails_10 : decode (cd mX6_fails) 10 = .ok (.putfield 52, 3) := by decide +kernel
theorem d_X6_fails_13 : decode (cd mX6_fails) 13 = .ok (.iconst 0, 1) := by decide +kernel
theorem d_X6_fails_14 : decode (cd mX6_fails) 14 = .ok (.ireturn, 1) := by decide +kernel
theorem d_X6_wants_0 : decode (cd mX6_wants) 0 = .ok (.aload_n 0, 1) := by decide +kernel
theorem d_X6_wants_1 : decode (cd mX6_wants) 1 = .ok (.invokevirtual 66, 3) := by decide +kernel
theorem d_X6_wants_4 : decode (cd mX6_wants) 4 = .ok (.aload_n 0, 1) := by decide +kernel
theorem d_X6_wants_5 : decode (cd mX6_wants) 5 = .ok (.aload_n 1, 1) := by decide +kernel
theorem d_X6_wants_6 : decode (cd mX6_wants) 6 = .ok (.invokevirtual 82, 3) := by decide +kernel
theorem d_X6_wants_9 : decode (cd mX6_wants) 9 = .ok (.ifCond .ne 11, 3) := by decide +kernel
theorem d_X6_wants_12 : decode (cd mX6_wants) 12 = .ok (.aload_n 0, 1) := by decide +kernel
theorem d_X6_wants_13 : decode (cd mX6_wants) 13 = .ok (.iconst 1, 1) := by decide +kernel
theorem d_X6_wants_14 : decode (cd mX6_wants) 14 = .ok (.invokevirtual 72, 3) := by decide +kernel
theorem d_X6_wants_17 : decode (cd mX6_wants) 17 = .ok (.ifCond .eq 7, 3) := by decide +kernel
theorem d_X6_wants_20 : decode (cd mX6_wants) 20 = .ok (.iconst 1, 1) := by decide +kernel
theorem d_X6_wants_21 : decode (cd mX6_wants) 21 = .ok (.goto 4, 3) := by decide +kernel
theorem d_X6_wants_24 : decode (cd mX6_wants) 24 = .ok (.iconst 0, 1) := by decide +kernel
theorem d_X6_wants_25 : decode (cd mX6_wants) 25 = .ok (.ireturn, 1) := by decide +kernel
theorem d_X6_wantsWhole_0 : decode (cd mX6_wantsWhole) 0 = .ok (.aload_n 0, 1) := by decide +kernel
theorem d_X6_wantsWhole_1 : decode (cd mX6_wantsWhole) 1 = .ok (.invokevirtual 66, 3) := by decide +kernel
theorem d_X6_wantsWhole_4 : decode (cd mX6_wantsWhole) 4 = .ok (.aload_n 0, 1) := by decide +kernel
theorem d_X6_wantsWhole_5 : decode (cd mX6_wantsWhole) 5 = .ok (.getfield 69, 3) := by decide +kernel
theorem d_X6_wantsWhole_8 : decode (cd mX6_wantsWhole) 8 = .ok (.iconst 2, 1) := by decide +kernel
theorem d_X6_wantsWhole_9 : decode (cd mX6_wantsWhole) 9 = .ok (.if_icmp .eq 9, 3) := by decide +kernel
theorem d_X6_wantsWhole_12 : decode (cd mX6_wantsWhole) 12 = .ok (.aload_n 0, 1) := by decide +kernel
theorem d_X6_wantsWhole_13 : decode (cd mX6_wantsWhole) 13 = .ok (.iconst 1, 1) := by decide +kernel
theorem d_X6_wantsWhole_14 : decode (cd mX6_wantsWhole) 14 = .ok (.invokevirtual 72, 3) := by decide +kernel
theorem d_X6_wantsWhole_17 : decode (cd mX6_wantsWhole) 17 = .ok (.ireturn, 1) := by decide +kernel
theorem d_X6_wantsWhole_18 : decode (cd mX6_wantsWhole) 18 = .ok (.aload_n 0, 1) := by decide +kernel
theorem d_X6_wantsWhole_19 : decode (cd mX6_wantsWhole) 19 = .ok (.getfield 147, 3) := by decide +kernel
theorem d_X6_wantsWhole_22 : decode (cd mX6_wantsWhole) 22 = .ok (.iload_n 1, 1) := by decide +kernel
theorem d_X6_wantsWhole_23 : decode (cd mX6_wantsWhole) 23 = .ok (.iload_n 2, 1) := by decide +kernel
theorem d_X6_wantsWhole_24 : decode (cd mX6_wantsWhole) 24 = .ok (.invokestatic 219, 3) := by decide +kernel
theorem d_X6_wantsWhole_27 : decode (cd mX6_wantsWhole) 27 = .ok (.ifCond .ne 11, 3) := by decide +kernel
theorem d_X6_wantsWhole_30 : decode (cd mX6_wantsWhole) 30 = .ok (.aload_n 0, 1) := by decide +kernel
theorem d_X6_wantsWhole_31 : decode (cd mX6_wantsWhole) 31 = .ok (.iconst 4, 1) := by decide +kernel
theorem d_X6_wantsWhole_32 : decode (cd mX6_wantsWhole) 32 = .ok (.invokevirtual 72, 3) := by decide +kernel
theorem d_X6_wantsWhole_35 : decode (cd mX6_wantsWhole) 35 = .ok (.ifCond .eq 7, 3) := by decide +kernel
theorem d_X6_wantsWhole_38 : decode (cd mX6_wantsWhole) 38 = .ok (.iconst 1, 1) := by decide +kernel
theorem d_X6_wantsWhole_39 : decode (cd mX6_wantsWhole) 39 = .ok (.goto 4, 3) := by decide +kernel
theorem d_X6_wantsWhole_42 : decode (cd mX6_wantsWhole) 42 = .ok (.iconst 0, 1) := by decide +kernel
theorem d_X6_wantsWhole_43 : decode (cd mX6_wantsWhole) 43 = .ok (.ireturn, 1) := by decide +kernel
theorem d_X6_wantsCell_0 : decode (cd mX6_wantsCell) 0 = .ok (.aload_n 0, 1) := by decide +kernel
theorem d_X6_wantsCell_1 : decode (cd mX6_wantsCell) 1 = .ok (.iload_n 3, 1) := by decide +kernel
theorem d_X6_wantsCell_2 : decode (cd mX6_wantsCell) 2 = .ok (.iload 4, 2) := by decide +kernel
theorem d_X6_wantsCell_4 : decode (cd mX6_wantsCell) 4 = .ok (.invokevirtual 143, 3) := by decide +kernel
theorem d_X6_wantsCell_7 : decode (cd mX6_wantsCell) 7 = .ok (.ifCond .ne 5, 3) := by decide +kernel
theorem d_X6_wantsCell_10 : decode (cd mX6_wantsCell) 10 = .ok (.iconst 0, 1) := by decide +kernel
theorem d_X6_wantsCell_11 : decode (cd mX6_wantsCell) 11 = .ok (.ireturn, 1) := by decide +kernel
theorem d_X6_wantsCell_12 : decode (cd mX6_wantsCell) 12 = .ok (.aload_n 1, 1) := by decide +kernel
theorem d_X6_wantsCell_13 : decode (cd mX6_wantsCell) 13 = .ok (.iload_n 2, 1) := by decide +kernel
theorem d_X6_wantsCell_14 : decode (cd mX6_wantsCell) 14 = .ok (.aload_n 0, 1) := by decide +kernel
theorem d_X6_wantsCell_15 : decode (cd mX6_wantsCell) 15 = .ok (.getfield 147, 3) := by decide +kernel
theorem d_X6_wantsCell_18 : decode (cd mX6_wantsCell) 18 = .ok (.invokevirtual 210, 3) := by decide +kernel
theorem d_X6_wantsCell_21 : decode (cd mX6_wantsCell) 21 = .ok (.iconst 1, 1) := by decide +kernel
theorem d_X6_wantsCell_22 : decode (cd mX6_wantsCell) 22 = .ok (.ireturn, 1) := by decide +kernel
theorem d_X6_closes_0 : decode (cd mX6_closes) 0 = .ok (.aload_n 1, 1) := by decide +kernel
theorem d_X6_closes_1 : decode (cd mX6_closes) 1 = .ok (.invokevirtual 223, 3) := by decide +kernel
theorem d_X6_closes_4 : decode (cd mX6_closes) 4 = .ok (.iconst 1, 1) := by decide +kernel
theorem d_X6_closes_5 : decode (cd mX6_closes) 5 = .ok (.ireturn, 1) := by decide +kernel
theorem d_X6_wantsWeather_0 : decode (cd mX6_wantsWeather) 0 = .ok (.aload_n 0, 1) := by decide +kernel
theorem d_X6_wantsWeather_1 : decode (cd mX6_wantsWeather) 1 = .ok (.invokevirtual 66, 3) := by decide +kernel
theorem d_X6_wantsWeather_4 : decode (cd mX6_wantsWeather) 4 = .ok (.aload_n 0, 1) := by decide +kernel
theorem d_X6_wantsWeather_5 : decode (cd mX6_wantsWeather) 5 = .ok (.ldc 164, 2) := by decide +kernel
theorem d_X6_wantsWeather_7 : decode (cd mX6_wantsWeather) 7 = .ok (.invokevirtual 82, 3) := by decide +kernel
theorem d_X6_wantsWeather_10 : decode (cd mX6_wantsWeather) 10 = .ok (.ifCond .ne 18, 3) := by decide +kernel
theorem d_X6_wantsWeather_13 : decode (cd mX6_wantsWeather) 13 = .ok (.aload_n 0, 1) := by decide +kernel
theorem d_X6_wantsWeather_14 : decode (cd mX6_wantsWeather) 14 = .ok (.ldc 168, 2) := by decide +kernel
theorem d_X6_wantsWeather_16 : decode (cd mX6_wantsWeather) 16 = .ok (.invokevirtual 82, 3) := by decide +kernel
theorem d_X6_wantsWeather_19 : decode (cd mX6_wantsWeather) 19 = .ok (.ifCond .ne 9, 3) := by decide +kernel
theorem d_X6_wantsWeather_22 : decode (cd mX6_wantsWeather) 22 = .ok (.aload_n 0, 1) := by decide +kernel
theorem d_X6_wantsWeather_23 : decode (cd mX6_wantsWeather) 23 = .ok (.iconst 1, 1) := by decide +kernel
theorem d_X6_wantsWeather_24 : decode (cd mX6_wantsWeather) 24 = .ok (.invokevirtual 72, 3) := by decide +kernel
theorem d_X6_wantsWeather_27 : decode (cd mX6_wantsWeather) 27 = .ok (.ireturn, 1) := by decide +kernel
theorem d_X6_wantsWeather_28 : decode (cd mX6_wantsWeather) 28 = .ok (.aload_n 1, 1) := by decide +kernel
theorem d_X6_wantsWeather_29 : decode (cd mX6_wantsWeather) 29 = .ok (.iload_n 2, 1) := by decide +kernel
theorem d_X6_wantsWeather_30 : decode (cd mX6_wantsWeather) 30 = .ok (.aload_n 0, 1) := by decide +kernel
theorem d_X6_wantsWeather_31 : decode (cd mX6_wantsWeather) 31 = .ok (.ldc 164, 2) := by decide +kernel
theorem d_X6_wantsWeather_33 : decode (cd mX6_wantsWeather) 33 = .ok (.invokevirtual 82, 3) := by decide +kernel
theorem d_X6_wantsWeather_36 : decode (cd mX6_wantsWeather) 36 = .ok (.ifCond .eq 7, 3) := by decide +kernel
theorem d_X6_wantsWeather_39 : decode (cd mX6_wantsWeather) 39 = .ok (.iconst 1, 1) := by decide +kernel
theorem d_X6_wantsWeather_40 : decode (cd mX6_wantsWeather) 40 = .ok (.goto 4, 3) := by decide +kernel
theorem d_X6_wantsWeather_43 : decode (cd mX6_wantsWeather) 43 = .ok (.iconst 2, 1) := by decide +kernel
theorem d_X6_wantsWeather_44 : decode (cd mX6_wantsWeather) 44 = .ok (.invokevirtual 210, 3) := by decide +kernel
theorem d_X6_wantsWeather_47 : decode (cd mX6_wantsWeather) 47 = .ok (.iconst 1, 1) := by decide +kernel
theorem d_X6_wantsWeather_48 : decode (cd mX6_wantsWeather) 48 = .ok (.ireturn, 1) := by decide +kernel
theorem d_X6_wantsWho_0 : decode (cd mX6_wantsWho) 0 = .ok (.aload_n 0, 1) := by decide +kernel
theorem d_X6_wantsWho_1 : decode (cd mX6_wantsWho) 1 = .ok (.invokevirtual 66, 3) := by decide +kernel
theorem d_X6_wantsWho_4 : decode (cd mX6_wantsWho) 4 = .ok (.aload_n 0, 1) := by decide +kernel
theorem d_X6_wantsWho_5 : decode (cd mX6_wantsWho) 5 = .ok (.ldc 226, 2) := by decide +kernel
theorem d_X6_wantsWho_7 : decode (cd mX6_wantsWho) 7 = .ok (.invokevirtual 82, 3) := by decide +kernel
theorem d_X6_wantsWho_10 : decode (cd mX6_wantsWho) 10 = .ok (.ifCond .eq 7, 3) := by decide +kernel
theorem d_X6_wantsWho_13 : decode (cd mX6_wantsWho) 13 = .ok (.iconst 0, 1) := by decide +kernel
theorem d_X6_wantsWho_14 : decode (cd mX6_wantsWho) 14 = .ok (.goto 43, 3) := by decide +kernel
theorem d_X6_wantsWho_17 : decode (cd mX6_wantsWho) 17 = .ok (.aload_n 0, 1) := by decide +kernel
theorem d_X6_wantsWho_18 : decode (cd mX6_wantsWho) 18 = .ok (.ldc 228, 2) := by decide +kernel
theorem d_X6_wantsWho_20 : decode (cd mX6_wantsWho) 20 = .ok (.invokevirtual 82, 3) := by decide +kernel
theorem d_X6_wantsWho_23 : decode (cd mX6_wantsWho) 23 = .ok (.ifCond .eq 7, 3) := by decide +kernel
theorem d_X6_wantsWho_26 : decode (cd mX6_wantsWho) 26 = .ok (.iconst 1, 1) := by decide +kernel
theorem d_X6_wantsWho_27 : decode (cd mX6_wantsWho) 27 = .ok (.goto 30, 3) := by decide +kernel
theorem d_X6_wantsWho_30 : decode (cd mX6_wantsWho) 30 = .ok (.aload_n 0, 1) := by decide +kernel
theorem d_X6_wantsWho_31 : decode (cd mX6_wantsWho) 31 = .ok (.ldc 230, 2) := by decide +kernel
theorem d_X6_wantsWho_33 : decode (cd mX6_wantsWho) 33 = .ok (.invokevirtual 82, 3) := by decide +kernel
theorem d_X6_wantsWho_36 : decode (cd mX6_wantsWho) 36 = .ok (.ifCond .eq 7, 3) := by decide +kernel
theorem d_X6_wantsWho_39 : decode (cd mX6_wantsWho) 39 = .ok (.iconst 2, 1) := by decide +kernel
theorem d_X6_wantsWho_40 : decode (cd mX6_wantsWho) 40 = .ok (.goto 17, 3) := by decide +kernel
theorem d_X6_wantsWho_43 : decode (cd mX6_wantsWho) 43 = .ok (.aload_n 0, 1) := by decide +kernel
theorem d_X6_wantsWho_44 : decode (cd mX6_wantsWho) 44 = .ok (.ldc 232, 2) := by decide +kernel
theorem d_X6_wantsWho_46 : decode (cd mX6_wantsWho) 46 = .ok (.invokevirtual 82, 3) := by decide +kernel
theorem d_X6_wantsWho_49 : decode (cd mX6_wantsWho) 49 = .ok (.ifCond .eq 7, 3) := by decide +kernel
theorem d_X6_wantsWho_52 : decode (cd mX6_wantsWho) 52 = .ok (.iconst 3, 1) := by decide +kernel
theorem d_X6_wantsWho_53 : decode (cd mX6_wantsWho) 53 = .ok (.goto 4, 3) := by decide +kernel
theorem d_X6_wantsWho_56 : decode (cd mX6_wantsWho) 56 = .ok (.iconst (-1), 1) := by decide +kernel
theorem d_X6_wantsWho_57 : decode (cd mX6_wantsWho) 57 = .ok (.istore_n 1, 1) := by decide +kernel
theorem d_X6_wantsWho_58 : decode (cd mX6_wantsWho) 58 = .ok (.iload_n 1, 1) := by decide +kernel
theorem d_X6_wantsWho_59 : decode (cd mX6_wantsWho) 59 = .ok (.iconst (-1), 1) := by decide +kernel
theorem d_X6_wantsWho_60 : decode (cd mX6_wantsWho) 60 = .ok (.if_icmp .ne 9, 3) := by decide +kernel
theorem d_X6_wantsWho_63 : decode (cd mX6_wantsWho) 63 = .ok (.aload_n 0, 1) := by decide +kernel
theorem d_X6_wantsWho_64 : decode (cd mX6_wantsWho) 64 = .ok (.iconst 1, 1) := by decide +kernel
theorem d_X6_wantsWho_65 : decode (cd mX6_wantsWho) 65 = .ok (.invokevirtual 72, 3) := by decide +kernel
theorem d_X6_wantsWho_68 : decode (cd mX6_wantsWho) 68 = .ok (.ireturn, 1) := by decide +kernel
theorem d_X6_wantsWho_69 : decode (cd mX6_wantsWho) 69 = .ok (.aload_n 0, 1) := by decide +kernel
theorem d_X6_wantsWho_70 : decode (cd mX6_wantsWho) 70 = .ok (.getfield 12, 3) := by decide +kernel
theorem d_X6_wantsWho_73 : decode (cd mX6_wantsWho) 73 = .ok (.getfield 118, 3) := by decide +kernel
theorem d_X6_wantsWho_76 : decode (cd mX6_wantsWho) 76 = .ok (.iconst 1, 1) := by decide +kernel
theorem d_X6_wantsWho_77 : decode (cd mX6_wantsWho) 77 = .ok (.iload_n 1, 1) := by decide +kernel
theorem d_X6_wantsWho_78 : decode (cd mX6_wantsWho) 78 = .ok (.invokevirtual 210, 3) := by decide +kernel
theorem d_X6_wantsWho_81 : decode (cd mX6_wantsWho) 81 = .ok (.iconst 1, 1) := by decide +kernel
theorem d_X6_wantsWho_82 : decode (cd mX6_wantsWho) 82 = .ok (.ireturn, 1) := by decide +kernel
theorem d_X6_wantsNewName_0 : decode (cd mX6_wantsNewName) 0 = .ok (.aload_n 0, 1) := by decide +kernel
theorem d_X6_wantsNewName_1 : decode (cd mX6_wantsNewName) 1 = .ok (.invokevirtual 66, 3) := by decide +kernel
theorem d_X6_wantsNewName_4 : decode (cd mX6_wantsNewName) 4 = .ok (.aload_n 0, 1) := by decide +kernel
theorem d_X6_wantsNewName_5 : decode (cd mX6_wantsNewName) 5 = .ok (.getfield 69, 3) := by decide +kernel
theorem d_X6_wantsNewName_8 : decode (cd mX6_wantsNewName) 8 = .ok (.iconst 1, 1) := by decide +kernel
theorem d_X6_wantsNewName_9 : decode (cd mX6_wantsNewName) 9 = .ok (.if_icmp .ne 10, 3) := by decide +kernel
theorem d_X6_wantsNewName_12 : decode (cd mX6_wantsNewName) 12 = .ok (.aload_n 0, 1) := by decide +kernel
theorem d_X6_wantsNewName_13 : decode (cd mX6_wantsNewName) 13 = .ok (.invokevirtual 76, 3) := by decide +kernel
theorem d_X6_wantsNewName_16 : decode (cd mX6_wantsNewName) 16 = .ok (.ifCond .eq 9, 3) := by decide +kernel
theorem d_X6_wantsNewName_19 : decode (cd mX6_wantsNewName) 19 = .ok (.aload_n 0, 1) := by decide +kernel
theorem d_X6_wantsNewName_20 : decode (cd mX6_wantsNewName) 20 = .ok (.iconst 1, 1) := by decide +kernel
theorem d_X6_wantsNewName_21 : decode (cd mX6_wantsNewName) 21 = .ok (.invokevirtual 72, 3) := by decide +kernel
theorem d_X6_wantsNewName_24 : decode (cd mX6_wantsNewName) 24 = .ok (.ireturn, 1) := by decide +kernel
theorem d_X6_wantsNewName_25 : decode (cd mX6_wantsNewName) 25 = .ok (.aload_n 0, 1) := by decide +kernel
theorem d_X6_wantsNewName_26 : decode (cd mX6_wantsNewName) 26 = .ok (.invokevirtual 234, 3) := by decide +kernel
theorem d_X6_wantsNewName_29 : decode (cd mX6_wantsNewName) 29 = .ok (.iconst (-1), 1) := by decide +kernel
theorem d_X6_wantsNewName_30 : decode (cd mX6_wantsNewName) 30 = .ok (.if_icmp .eq 9, 3) := by decide +kernel
theorem d_X6_wantsNewName_33 : decode (cd mX6_wantsNewName) 33 = .ok (.aload_n 0, 1) := by decide +kernel
theorem d_X6_wantsNewName_34 : decode (cd mX6_wantsNewName) 34 = .ok (.iconst 3, 1) := by decide +kernel
theorem d_X6_wantsNewName_35 : decode (cd mX6_wantsNewName) 35 = .ok (.invokevirtual 72, 3) := by decide +kernel
theorem d_X6_wantsNewName_38 : decode (cd mX6_wantsNewName) 38 = .ok (.ireturn, 1) := by decide +kernel
theorem d_X6_wantsNewName_39 : decode (cd mX6_wantsNewName) 39 = .ok (.aload_n 0, 1) := by decide +kernel
theorem d_X6_wantsNewName_40 : decode (cd mX6_wantsNewName) 40 = .ok (.getfield 59, 3) := by decide +kernel
theorem d_X6_wantsNewName_43 : decode (cd mX6_wantsNewName) 43 = .ok (.aload_n 0, 1) := by decide +kernel
theorem d_X6_wantsNewName_44 : decode (cd mX6_wantsNewName) 44 = .ok (.getfield 22, 3) := by decide +kernel
theorem d_X6_wantsNewName_47 : decode (cd mX6_wantsNewName) 47 = .ok (.arraylength, 1) := by decide +kernel
theorem d_X6_wantsNewName_48 : decode (cd mX6_wantsNewName) 48 = .ok (.if_icmp .ge 48, 3) := by decide +kernel
theorem d_X6_wantsNewName_51 : decode (cd mX6_wantsNewName) 51 = .ok (.aload_n 0, 1) := by decide +kernel
theorem d_X6_wantsNewName_52 : decode (cd mX6_wantsNewName) 52 = .ok (.getfield 59, 3) := by decide +kernel
theorem d_X6_wantsNewName_55 : decode (cd mX6_wantsNewName) 55 = .ok (.aload_n 0, 1) := by decide +kernel
theorem d_X6_wantsNewName_56 : decode (cd mX6_wantsNewName) 56 = .ok (.getfield 26, 3) := by decide +kernel
theorem d_X6_wantsNewName_59 : decode (cd mX6_wantsNewName) 59 = .ok (.arraylength, 1) := by decide +kernel
theorem d_X6_wantsNewName_60 : decode (cd mX6_wantsNewName) 60 = .ok (.if_icmp .ge 36, 3) := by decide +kernel
theorem d_X6_wantsNewName_63 : decode (cd mX6_wantsNewName) 63 = .ok (.aload_n 0, 1) := by decide +kernel
theorem d_X6_wantsNewName_64 : decode (cd mX6_wantsNewName) 64 = .ok (.getfield 22, 3) := by decide +kernel
theorem d_X6_wantsNewName_67 : decode (cd mX6_wantsNewName) 67 = .ok (.aload_n 0, 1) := by decide +kernel
theorem d_X6_wantsNewName_68 : decode (cd mX6_wantsNewName) 68 = .ok (.getfield 59, 3) := by decide +kernel
theorem d_X6_wantsNewName_71 : decode (cd mX6_wantsNewName) 71 = .ok (.aload_n 0, 1) := by decide +kernel
theorem d_X6_wantsNewName_72 : decode (cd mX6_wantsNewName) 72 = .ok (.getfield 238, 3) := by decide +kernel
theorem d_X6_wantsNewName_75 : decode (cd mX6_wantsNewName) 75 = .ok (.lastore, 1) := by decide +kernel
theorem d_X6_wantsNewName_76 : decode (cd mX6_wantsNewName) 76 = .ok (.aload_n 0, 1) := by decide +kernel
theorem d_X6_wantsNewName_77 : decode (cd mX6_wantsNewName) 77 = .ok (.getfield 26, 3) := by decide +kernel
theorem d_X6_wantsNewName_80 : decode (cd mX6_wantsNewName) 80 = .ok (.aload_n 0, 1) := by decide +kernel
theorem d_X6_wantsNewName_81 : decode (cd mX6_wantsNewName) 81 = .ok (.getfield 59, 3) := by decide +kernel
theorem d_X6_wantsNewName_84 : decode (cd mX6_wantsNewName) 84 = .ok (.iload_n 1, 1) := by decide +kernel
theorem d_X6_wantsNewName_85 : decode (cd mX6_wantsNewName) 85 = .ok (.iastore, 1) := by decide +kernel
theorem d_X6_wantsNewName_86 : decode (cd mX6_wantsNewName) 86 = .ok (.aload_n 0, 1) := by decide +kernel
theorem d_X6_wantsNewName_87 : decode (cd mX6_wantsNewName) 87 = .ok (.dup, 1) := by decide +kernel
theorem d_X6_wantsNewName_88 : decode (cd mX6_wantsNewName) 88 = .ok (.getfield 59, 3) := by decide +kernel
theorem d_X6_wantsNewName_91 : decode (cd mX6_wantsNewName) 91 = .ok (.iconst 1, 1) := by decide +kernel
theorem d_X6_wantsNewName_92 : decode (cd mX6_wantsNewName) 92 = .ok (.iadd, 1) := by decide +kernel
theorem d_X6_wantsNewName_93 : decode (cd mX6_wantsNewName) 93 = .ok (.putfield 59, 3) := by decide +kernel
theorem d_X6_wantsNewName_96 : decode (cd mX6_wantsNewName) 96 = .ok (.iconst 1, 1) := by decide +kernel
theorem d_X6_wantsNewName_97 : decode (cd mX6_wantsNewName) 97 = .ok (.ireturn, 1) := by decide +kernel
theorem d_X6_wantsField_0 : decode (cd mX6_wantsField) 0 = .ok (.aload_n 0, 1) := by decide +kernel
theorem d_X6_wantsField_1 : decode (cd mX6_wantsField) 1 = .ok (.invokevirtual 66, 3) := by decide +kernel
theorem d_X6_wantsField_4 : decode (cd mX6_wantsField) 4 = .ok (.aload_n 0, 1) := by decide +kernel
theorem d_X6_wantsField_5 : decode (cd mX6_wantsField) 5 = .ok (.getfield 69, 3) := by decide +kernel
theorem d_X6_wantsField_8 : decode (cd mX6_wantsField) 8 = .ok (.iconst 1, 1) := by decide +kernel
theorem d_X6_wantsField_9 : decode (cd mX6_wantsField) 9 = .ok (.if_icmp .ne 10, 3) := by decide +kernel
theorem d_X6_wantsField_12 : decode (cd mX6_wantsField) 12 = .ok (.aload_n 0, 1) := by decide +kernel
theorem d_X6_wantsField_13 : decode (cd mX6_wantsField) 13 = .ok (.invokevirtual 76, 3) := by decide +kernel
theorem d_X6_wantsField_16 : decode (cd mX6_wantsField) 16 = .ok (.ifCond .eq 9, 3) := by decide +kernel
theorem d_X6_wantsField_19 : decode (cd mX6_wantsField) 19 = .ok (.aload_n 0, 1) := by decide +kernel
theorem d_X6_wantsField_20 : decode (cd mX6_wantsField) 20 = .ok (.iconst 1, 1) := by decide +kernel
theorem d_X6_wantsField_21 : decode (cd mX6_wantsField) 21 = .ok (.invokevirtual 72, 3) := by decide +kernel
theorem d_X6_wantsField_24 : decode (cd mX6_wantsField) 24 = .ok (.ireturn, 1) := by decide +kernel
theorem d_X6_wantsField_25 : decode (cd mX6_wantsField) 25 = .ok (.aload_n 0, 1) := by decide +kernel
theorem d_X6_wantsField_26 : decode (cd mX6_wantsField) 26 = .ok (.invokevirtual 234, 3) := by decide +kernel
theorem d_X6_wantsField_29 : decode (cd mX6_wantsField) 29 = .ok (.istore_n 1, 1) := by decide +kernel
theorem d_X6_wantsField_30 : decode (cd mX6_wantsField) 30 = .ok (.aload_n 0, 1) := by decide +kernel
theorem d_X6_wantsField_31 : decode (cd mX6_wantsField) 31 = .ok (.iload_n 1, 1) := by decide +kernel
theorem d_X6_wantsField_32 : decode (cd mX6_wantsField) 32 = .ok (.ifCond .lt 21, 3) := by decide +kernel
theorem d_X6_wantsField_35 : decode (cd mX6_wantsField) 35 = .ok (.iload_n 1, 1) := by decide +kernel
theorem d_X6_wantsField_36 : decode (cd mX6_wantsField) 36 = .ok (.aload_n 0, 1) := by decide +kernel
theorem d_X6_wantsField_37 : decode (cd mX6_wantsField) 37 = .ok (.getfield 26, 3) := by decide +kernel
theorem d_X6_wantsField_40 : decode (cd mX6_wantsField) 40 = .ok (.arraylength, 1) := by decide +kernel
theorem d_X6_wantsField_41 : decode (cd mX6_wantsField) 41 = .ok (.if_icmp .ge 12, 3) := by decide +kernel
theorem d_X6_wantsField_44 : decode (cd mX6_wantsField) 44 = .ok (.aload_n 0, 1) := by decide +kernel
theorem d_X6_wantsField_45 : decode (cd mX6_wantsField) 45 = .ok (.getfield 26, 3) := by decide +kernel
theorem d_X6_wantsField_48 : decode (cd mX6_wantsField) 48 = .ok (.iload_n 1, 1) := by decide +kernel
theorem d_X6_wantsField_49 : decode (cd mX6_wantsField) 49 = .ok (.iaload, 1) := by decide +kernel
theorem d_X6_wantsField_50 : decode (cd mX6_wantsField) 50 = .ok (.goto 4, 3) := by decide +kernel
theorem d_X6_wantsField_53 : decode (cd mX6_wantsField) 53 = .ok (.iconst (-1), 1) := by decide +kernel
theorem d_X6_wantsField_54 : decode (cd mX6_wantsField) 54 = .ok (.putfield 204, 3) := by decide +kernel
theorem d_X6_wantsField_57 : decode (cd mX6_wantsField) 57 = .ok (.aload_n 0, 1) := by decide +kernel
theorem d_X6_wantsField_58 : decode (cd mX6_wantsField) 58 = .ok (.getfield 204, 3) := by decide +kernel
theorem d_X6_wantsField_61 : decode (cd mX6_wantsField) 61 = .ok (.iconst (-1), 1) := by decide +kernel
theorem d_X6_wantsField_62 : decode (cd mX6_wantsField) 62 = .ok (.if_icmp .ne 11, 3) := by decide +kernel
theorem d_X6_wantsField_65 : decode (cd mX6_wantsField) 65 = .ok (.aload_n 0, 1) := by decide +kernel
theorem d_X6_wantsField_66 : decode (cd mX6_wantsField) 66 = .ok (.iconst 2, 1) := by decide +kernel
theorem d_X6_wantsField_67 : decode (cd mX6_wantsField) 67 = .ok (.invokevirtual 72, 3) := by decide +kernel
theorem d_X6_wantsField_70 : decode (cd mX6_wantsField) 70 = .ok (.ifCond .eq 7, 3) := by decide +kernel
theorem d_X6_wantsField_73 : decode (cd mX6_wantsField) 73 = .ok (.iconst 1, 1) := by decide +kernel
theorem d_X6_wantsField_74 : decode (cd mX6_wantsField) 74 = .ok (.goto 4, 3) := by decide +kernel
theorem d_X6_wantsField_77 : decode (cd mX6_wantsField) 77 = .ok (.iconst 0, 1) := by decide +kernel
theorem d_X6_wantsField_78 : decode (cd mX6_wantsField) 78 = .ok (.ireturn, 1) := by decide +kernel
theorem d_X6_nameNumber_0 : decode (cd mX6_nameNumber) 0 = .ok (.iconst 0, 1) := by decide +kernel
theorem d_X6_nameNumber_1 : decode (cd mX6_nameNumber) 1 = .ok (.istore_n 1, 1) := by decide +kernel
theorem d_X6_nameNumber_2 : decode (cd mX6_nameNumber) 2 = .ok (.iload_n 1, 1) := by decide +kernel
theorem d_X6_nameNumber_3 : decode (cd mX6_nameNumber) 3 = .ok (.aload_n 0, 1) := by decide +kernel
theorem d_X6_nameNumber_4 : decode (cd mX6_nameNumber) 4 = .ok (.getfield 59, 3) := by decide +kernel
theorem d_X6_nameNumber_7 : decode (cd mX6_nameNumber) 7 = .ok (.if_icmp .ge 34, 3) := by decide +kernel
theorem d_X6_nameNumber_10 : decode (cd mX6_nameNumber) 10 = .ok (.iload_n 1, 1) := by decide +kernel
theorem d_X6_nameNumber_11 : decode (cd mX6_nameNumber) 11 = .ok (.aload_n 0, 1) := by decide +kernel
theorem d_X6_nameNumber_12 : decode (cd mX6_nameNumber) 12 = .ok (.getfield 22, 3) := by decide +kernel
theorem d_X6_nameNumber_15 : decode (cd mX6_nameNumber) 15 = .ok (.arraylength, 1) := by decide +kernel
theorem d_X6_nameNumber_16 : decode (cd mX6_nameNumber) 16 = .ok (.if_icmp .ge 25, 3) := by decide +kernel
theorem d_X6_nameNumber_19 : decode (cd mX6_nameNumber) 19 = .ok (.aload_n 0, 1) := by decide +kernel
theorem d_X6_nameNumber_20 : decode (cd mX6_nameNumber) 20 = .ok (.getfield 22, 3) := by decide +kernel
theorem d_X6_nameNumber_23 : decode (cd mX6_nameNumber) 23 = .ok (.iload_n 1, 1) := by decide +kernel
theorem d_X6_nameNumber_24 : decode (cd mX6_nameNumber) 24 = .ok (.laload, 1) := by decide +kernel
theorem d_X6_nameNumber_25 : decode (cd mX6_nameNumber) 25 = .ok (.aload_n 0, 1) := by decide +kernel
theorem d_X6_nameNumber_26 : decode (cd mX6_nameNumber) 26 = .ok (.getfield 238, 3) := by decide +kernel
theorem d_X6_nameNumber_29 : decode (cd mX6_nameNumber) 29 = .ok (.lcmp, 1) := by decide +kernel
theorem d_X6_nameNumber_30 : decode (cd mX6_nameNumber) 30 = .ok (.ifCond .ne 5, 3) := by decide +kernel
theorem d_X6_nameNumber_33 : decode (cd mX6_nameNumber) 33 = .ok (.iload_n 1, 1) := by decide +kernel
theorem d_X6_nameNumber_34 : decode (cd mX6_nameNumber) 34 = .ok (.ireturn, 1) := by decide +kernel
theorem d_X6_nameNumber_35 : decode (cd mX6_nameNumber) 35 = .ok (.iinc 1 1, 3) := by decide +kernel
theorem d_X6_nameNumber_38 : decode (cd mX6_nameNumber) 38 = .ok (.goto (-36), 3) := by decide +kernel
theorem d_X6_nameNumber_41 : decode (cd mX6_nameNumber) 41 = .ok (.iconst (-1), 1) := by decide +kernel
theorem d_X6_nameNumber_42 : decode (cd mX6_nameNumber) 42 = .ok (.ireturn, 1) := by decide +kernel
theorem d_X6_beginsLine_0 : decode (cd mX6_beginsLine) 0 = .ok (.aload_n 0, 1) := by decide +kernel
theorem d_X6_beginsLine_1 : decode (cd mX6_beginsLine) 1 = .ok (.ldc 80, 2) := by decide +kernel
theorem d_X6_beginsLine_3 : decode (cd mX6_beginsLine) 3 = .ok (.invokevirtual 82, 3) := by decide +kernel
theorem d_X6_beginsLine_6 : decode (cd mX6_beginsLine) 6 = .ok (.ifCond .ne 57, 3) := by decide +kernel
theorem d_X6_beginsLine_9 : decode (cd mX6_beginsLine) 9 = .ok (.aload_n 0, 1) := by decide +kernel
theorem d_X6_beginsLine_10 : decode (cd mX6_beginsLine) 10 = .ok (.ldc 89, 2) := by decide +kernel
theorem d_X6_beginsLine_12 : decode (cd mX6_beginsLine) 12 = .ok (.invokevirtual 82, 3) := by decide +kernel
theorem d_X6_beginsLine_15 : decode (cd mX6_beginsLine) 15 = .ok (.ifCond .ne 48, 3) := by decide +kernel
theorem d_X6_beginsLine_18 : decode (cd mX6_beginsLine) 18 = .ok (.aload_n 0, 1) := by decide +kernel
theorem d_X6_beginsLine_19 : decode (cd mX6_beginsLine) 19 = .ok (.ldc 94, 2) := by decide +kernel
theorem d_X6_beginsLine_21 : decode (cd mX6_beginsLine) 21 = .ok (.invokevirtual 82, 3) := by decide +kernel
theorem d_X6_beginsLine_24 : decode (cd mX6_beginsLine) 24 = .ok (.ifCond .ne 39, 3) := by decide +kernel
theorem d_X6_beginsLine_27 : decode (cd mX6_beginsLine) 27 = .ok (.aload_n 0, 1) := by decide +kernel
theorem d_X6_beginsLine_28 : decode (cd mX6_beginsLine) 28 = .ok (.ldc 108, 2) := by decide +kernel
theorem d_X6_beginsLine_30 : decode (cd mX6_beginsLine) 30 = .ok (.invokevirtual 82, 3) := by decide +kernel
theorem d_X6_beginsLine_33 : decode (cd mX6_beginsLine) 33 = .ok (.ifCond .ne 30, 3) := by decide +kernel
theorem d_X6_beginsLine_36 : decode (cd mX6_beginsLine) 36 = .ok (.aload_n 0, 1) := by decide +kernel
theorem d_X6_beginsLine_37 : decode (cd mX6_beginsLine) 37 = .ok (.ldc 116, 2) := by decide +kernel
theorem d_X6_beginsLine_39 : decode (cd mX6_beginsLine) 39 = .ok (.invokevirtual 82, 3) := by decide +kernel
theorem d_X6_beginsLine_42 : decode (cd mX6_beginsLine) 42 = .ok (.ifCond .ne 21, 3) := by decide +kernel
theorem d_X6_beginsLine_45 : decode (cd mX6_beginsLine) 45 = .ok (.aload_n 0, 1) := by decide +kernel
theorem d_X6_beginsLine_46 : decode (cd mX6_beginsLine) 46 = .ok (.ldc 124, 2) := by decide +kernel
theorem d_X6_beginsLine_48 : decode (cd mX6_beginsLine) 48 = .ok (.invokevirtual 82, 3) := by decide +kernel
theorem d_X6_beginsLine_51 : decode (cd mX6_beginsLine) 51 = .ok (.ifCond .ne 12, 3) := by decide +kernel
theorem d_X6_beginsLine_54 : decode (cd mX6_beginsLine) 54 = .ok (.aload_n 0, 1) := by decide +kernel
theorem d_X6_beginsLine_55 : decode (cd mX6_beginsLine) 55 = .ok (.ldc 242, 2) := by decide +kernel
theorem d_X6_beginsLine_57 : decode (cd mX6_beginsLine) 57 = .ok (.invokevirtual 82, 3) := by decide +kernel
theorem d_X6_beginsLine_60 : decode (cd mX6_beginsLine) 60 = .ok (.ifCond .eq 7, 3) := by decide +kernel
theorem d_X6_beginsLine_63 : decode (cd mX6_beginsLine) 63 = .ok (.iconst 1, 1) := by decide +kernel
theorem d_X6_beginsLine_64 : decode (cd mX6_beginsLine) 64 = .ok (.goto 4, 3) := by decide +kernel
theorem d_X6_beginsLine_67 : decode (cd mX6_beginsLine) 67 = .ok (.iconst 0, 1) := by decide +kernel
theorem d_X6_beginsLine_68 : decode (cd mX6_beginsLine) 68 = .ok (.ireturn, 1) := by decide +kernel
theorem d_X6_isWord_0 : decode (cd mX6_isWord) 0 = .ok (.aload_n 0, 1) := by decide +kernel
theorem d_X6_isWord_1 : decode (cd mX6_isWord) 1 = .ok (.getfield 69, 3) := by decide +kernel
theorem d_X6_isWord_4 : decode (cd mX6_isWord) 4 = .ok (.iconst 1, 1) := by decide +kernel
theorem d_X6_isWord_5 : decode (cd mX6_isWord) 5 = .ok (.if_icmp .eq 5, 3) := by decide +kernel
theorem d_X6_isWord_8 : decode (cd mX6_isWord) 8 = .ok (.iconst 0, 1) := by decide +kernel
theorem d_X6_isWord_9 : decode (cd mX6_isWord) 9 = .ok (.ireturn, 1) := by decide +kernel
theorem d_X6_isWord_10 : decode (cd mX6_isWord) 10 = .ok (.lconst 0, 1) := by decide +kernel
theorem d_X6_isWord_11 : decode (cd mX6_isWord) 11 = .ok (.lstore_n 2, 1) := by decide +kernel
theorem d_X6_isWord_12 : decode (cd mX6_isWord) 12 = .ok (.iconst 0, 1) := by decide +kernel
theorem d_X6_isWord_13 : decode (cd mX6_isWord) 13 = .ok (.istore 4, 2) := by decide +kernel
theorem d_X6_isWord_15 : decode (cd mX6_isWord) 15 = .ok (.iload 4, 2) := by decide +kernel
theorem d_X6_isWord_17 : decode (cd mX6_isWord) 17 = .ok (.aload_n 1, 1) := by decide +kernel
theorem d_X6_isWord_18 : decode (cd mX6_isWord) 18 = .ok (.invokevirtual 244, 3) := by decide +kernel
theorem d_X6_isWord_21 : decode (cd mX6_isWord) 21 = .ok (.if_icmp .ge 28, 3) := by decide +kernel
theorem d_X6_isWord_24 : decode (cd mX6_isWord) 24 = .ok (.lload_n 2, 1) := by decide +kernel
theorem d_X6_isWord_25 : decode (cd mX6_isWord) 25 = .ok (.ldc2_w 248, 3) := by decide +kernel
theorem d_X6_isWord_28 : decode (cd mX6_isWord) 28 = .ok (.lmul, 1) := by decide +kernel
theorem d_X6_isWord_29 : decode (cd mX6_isWord) 29 = .ok (.aload_n 1, 1) := by decide +kernel
theorem d_X6_isWord_30 : decode (cd mX6_isWord) 30 = .ok (.iload 4, 2) := by decide +kernel
theorem d_X6_isWord_32 : decode (cd mX6_isWord) 32 = .ok (.invokevirtual 250, 3) := by decide +kernel
theorem d_X6_isWord_35 : decode (cd mX6_isWord) 35 = .ok (.bipush 97, 2) := by decide +kernel
theorem d_X6_isWord_37 : decode (cd mX6_isWord) 37 = .ok (.isub, 1) := by decide +kernel
theorem d_X6_isWord_38 : decode (cd mX6_isWord) 38 = .ok (.iconst 1, 1) := by decide +kernel
theorem d_X6_isWord_39 : decode (cd mX6_isWord) 39 = .ok (.iadd, 1) := by decide +kernel
theorem d_X6_isWord_40 : decode (cd mX6_isWord) 40 = .ok (.i2l, 1) := by decide +kernel
theorem d_X6_isWord_41 : decode (cd mX6_isWord) 41 = .ok (.ladd, 1) := by decide +kernel
theorem d_X6_isWord_42 : decode (cd mX6_isWord) 42 = .ok (.lstore_n 2, 1) := by decide +kernel
theorem d_X6_isWord_43 : decode (cd mX6_isWord) 43 = .ok (.iinc 4 1, 3) := by decide +kernel
theorem d_X6_isWord_46 : decode (cd mX6_isWord) 46 = .ok (.goto (-31), 3) := by decide +kernel
theorem d_X6_isWord_49 : decode (cd mX6_isWord) 49 = .ok (.lload_n 2, 1) := by decide +kernel
theorem d_X6_isWord_50 : decode (cd mX6_isWord) 50 = .ok (.aload_n 0, 1) := by decide +kernel
theorem d_X6_isWord_51 : decode (cd mX6_isWord) 51 = .ok (.getfield 238, 3) := by decide +kernel
theorem d_X6_isWord_54 : decode (cd mX6_isWord) 54 = .ok (.lcmp, 1) := by decide +kernel
theorem d_X6_isWord_55 : decode (cd mX6_isWord) 55 = .ok (.ifCond .ne 7, 3) := by decide +kernel
theorem d_X6_isWord_58 : decode (cd mX6_isWord) 58 = .ok (.iconst 1, 1) := by decide +kernel
theorem d_X6_isWord_59 : decode (cd mX6_isWord) 59 = .ok (.goto 4, 3) := by decide +kernel
theorem d_X6_isWord_62 : decode (cd mX6_isWord) 62 = .ok (.iconst 0, 1) := by decide +kernel
theorem d_X6_isWord_63 : decode (cd mX6_isWord) 63 = .ok (.ireturn, 1) := by decide +kernel
theorem d_X6_nextToken_0 : decode (cd mX6_nextToken) 0 = .ok (.aload_n 0, 1) := by decide +kernel
theorem d_X6_nextToken_1 : decode (cd mX6_nextToken) 1 = .ok (.getfield 46, 3) := by decide +kernel
theorem d_X6_nextToken_4 : decode (cd mX6_nextToken) 4 = .ok (.aload_n 0, 1) := by decide +kernel
theorem d_X6_nextToken_5 : decode (cd mX6_nextToken) 5 = .ok (.getfield 40, 3) := by decide +kernel
theorem d_X6_nextToken_8 : decode (cd mX6_nextToken) 8 = .ok (.if_icmp .ge 30, 3) := by decide +kernel
theorem d_X6_nextToken_11 : decode (cd mX6_nextToken) 11 = .ok (.aload_n 0, 1) := by decide +kernel
theorem d_X6_nextToken_12 : decode (cd mX6_nextToken) 12 = .ok (.getfield 18, 3) := by decide +kernel
theorem d_X6_nextToken_15 : decode (cd mX6_nextToken) 15 = .ok (.aload_n 0, 1) := by decide +kernel
theorem d_X6_nextToken_16 : decode (cd mX6_nextToken) 16 = .ok (.getfield 46, 3) := by decide +kernel
theorem d_X6_nextToken_19 : decode (cd mX6_nextToken) 19 = .ok (.baload, 1) := by decide +kernel
theorem d_X6_nextToken_20 : decode (cd mX6_nextToken) 20 = .ok (.bipush 32, 2) := by decide +kernel
theorem d_X6_nextToken_22 : decode (cd mX6_nextToken) 22 = .ok (.if_icmp .ne 16, 3) := by decide +kernel
theorem d_X6_nextToken_25 : decode (cd mX6_nextToken) 25 = .ok (.aload_n 0, 1) := by decide +kernel
theorem d_X6_nextToken_26 : decode (cd mX6_nextToken) 26 = .ok (.dup, 1) := by decide +kernel
theorem d_X6_nextToken_27 : decode (cd mX6_nextToken) 27 = .ok (.getfield 46, 3) := by decide +kernel
theorem d_X6_nextToken_30 : decode (cd mX6_nextToken) 30 = .ok (.iconst 1, 1) := by decide +kernel
theorem d_X6_nextToken_31 : decode (cd mX6_nextToken) 31 = .ok (.iadd, 1) := by decide +kernel
theorem d_X6_nextToken_32 : decode (cd mX6_nextToken) 32 = .ok (.putfield 46, 3) := by decide +kernel
theorem d_X6_nextToken_35 : decode (cd mX6_nextToken) 35 = .ok (.goto (-35), 3) := by decide +kernel
theorem d_X6_nextToken_38 : decode (cd mX6_nextToken) 38 = .ok (.aload_n 0, 1) := by decide +kernel
theorem d_X6_nextToken_39 : decode (cd mX6_nextToken) 39 = .ok (.aload_n 0, 1) := by decide +kernel
theorem d_X6_nextToken_40 : decode (cd mX6_nextToken) 40 = .ok (.getfield 46, 3) := by decide +kernel
theorem d_X6_nextToken_43 : decode (cd mX6_nextToken) 43 = .ok (.putfield 216, 3) := by decide +kernel
theorem d_X6_nextToken_46 : decode (cd mX6_nextToken) 46 = .ok (.aload_n 0, 1) := by decide +kernel
theorem d_X6_nextToken_47 : decode (cd mX6_nextToken) 47 = .ok (.getfield 46, 3) := by decide +kernel
theorem d_X6_nextToken_50 : decode (cd mX6_nextToken) 50 = .ok (.aload_n 0, 1) := by decide +kernel
theorem d_X6_nextToken_51 : decode (cd mX6_nextToken) 51 = .ok (.getfield 40, 3) := by decide +kernel
theorem d_X6_nextToken_54 : decode (cd mX6_nextToken) 54 = .ok (.if_icmp .lt 11, 3) := by decide +kernel
theorem d_X6_nextToken_57 : decode (cd mX6_nextToken) 57 = .ok (.aload_n 0, 1) := by decide +kernel
theorem d_X6_nextToken_58 : decode (cd mX6_nextToken) 58 = .ok (.iconst 0, 1) := by decide +kernel
theorem d_X6_nextToken_59 : decode (cd mX6_nextToken) 59 = .ok (.putfield 69, 3) := by decide +kernel
theorem d_X6_nextToken_62 : decode (cd mX6_nextToken) 62 = .ok (.goto 74, 3) := by decide +kernel
theorem d_X6_nextToken_65 : decode (cd mX6_nextToken) 65 = .ok (.aload_n 0, 1) := by decide +kernel
theorem d_X6_nextToken_66 : decode (cd mX6_nextToken) 66 = .ok (.getfield 18, 3) := by decide +kernel
theorem d_X6_nextToken_69 : decode (cd mX6_nextToken) 69 = .ok (.aload_n 0, 1) := by decide +kernel
theorem d_X6_nextToken_70 : decode (cd mX6_nextToken) 70 = .ok (.getfield 46, 3) := by decide +kernel
theorem d_X6_nextToken_73 : decode (cd mX6_nextToken) 73 = .ok (.baload, 1) := by decide +kernel
theorem d_X6_nextToken_74 : decode (cd mX6_nextToken) 74 = .ok (.bipush 59, 2) := by decide +kernel
theorem d_X6_nextToken_76 : decode (cd mX6_nextToken) 76 = .ok (.if_icmp .ne 21, 3) := by decide +kernel
theorem d_X6_nextToken_79 : decode (cd mX6_nextToken) 79 = .ok (.aload_n 0, 1) := by decide +kernel
theorem d_X6_nextToken_80 : decode (cd mX6_nextToken) 80 = .ok (.iconst 3, 1) := by decide +kernel
theorem d_X6_nextToken_81 : decode (cd mX6_nextToken) 81 = .ok (.putfield 69, 3) := by decide +kernel
theorem d_X6_nextToken_84 : decode (cd mX6_nextToken) 84 = .ok (.aload_n 0, 1) := by decide +kernel
theorem d_X6_nextToken_85 : decode (cd mX6_nextToken) 85 = .ok (.dup, 1) := by decide +kernel
theorem d_X6_nextToken_86 : decode (cd mX6_nextToken) 86 = .ok (.getfield 46, 3) := by decide +kernel
theorem d_X6_nextToken_89 : decode (cd mX6_nextToken) 89 = .ok (.iconst 1, 1) := by decide +kernel
theorem d_X6_nextToken_90 : decode (cd mX6_nextToken) 90 = .ok (.iadd, 1) := by decide +kernel
theorem d_X6_nextToken_91 : decode (cd mX6_nextToken) 91 = .ok (.putfield 46, 3) := by decide +kernel
theorem d_X6_nextToken_94 : decode (cd mX6_nextToken) 94 = .ok (.goto 42, 3) := by decide +kernel
theorem d_X6_nextToken_97 : decode (cd mX6_nextToken) 97 = .ok (.aload_n 0, 1) := by decide +kernel
theorem d_X6_nextToken_98 : decode (cd mX6_nextToken) 98 = .ok (.getfield 18, 3) := by decide +kernel
theorem d_X6_nextToken_101 : decode (cd mX6_nextToken) 101 = .ok (.aload_n 0, 1) := by decide +kernel
theorem d_X6_nextToken_102 : decode (cd mX6_nextToken) 102 = .ok (.getfield 46, 3) := by decide +kernel
theorem d_X6_nextToken_105 : decode (cd mX6_nextToken) 105 = .ok (.baload, 1) := by decide +kernel
theorem d_X6_nextToken_106 : decode (cd mX6_nextToken) 106 = .ok (.bipush 48, 2) := by decide +kernel
theorem d_X6_nextToken_108 : decode (cd mX6_nextToken) 108 = .ok (.if_icmp .lt 24, 3) := by decide +kernel
theorem d_X6_nextToken_111 : decode (cd mX6_nextToken) 111 = .ok (.aload_n 0, 1) := by decide +kernel
theorem d_X6_nextToken_112 : decode (cd mX6_nextToken) 112 = .ok (.getfield 18, 3) := by decide +kernel
theorem d_X6_nextToken_115 : decode (cd mX6_nextToken) 115 = .ok (.aload_n 0, 1) := by decide +kernel
theorem d_X6_nextToken_116 : decode (cd mX6_nextToken) 116 = .ok (.getfield 46, 3) := by decide +kernel
theorem d_X6_nextToken_119 : decode (cd mX6_nextToken) 119 = .ok (.baload, 1) := by decide +kernel
theorem d_X6_nextToken_120 : decode (cd mX6_nextToken) 120 = .ok (.bipush 57, 2) := by decide +kernel
theorem d_X6_nextToken_122 : decode (cd mX6_nextToken) 122 = .ok (.if_icmp .gt 10, 3) := by decide +kernel
theorem d_X6_nextToken_125 : decode (cd mX6_nextToken) 125 = .ok (.aload_n 0, 1) := by decide +kernel
theorem d_X6_nextToken_126 : decode (cd mX6_nextToken) 126 = .ok (.invokevirtual 254, 3) := by decide +kernel
theorem d_X6_nextToken_129 : decode (cd mX6_nextToken) 129 = .ok (.goto 7, 3) := by decide +kernel
theorem d_X6_nextToken_132 : decode (cd mX6_nextToken) 132 = .ok (.aload_n 0, 1) := by decide +kernel
theorem d_X6_nextToken_133 : decode (cd mX6_nextToken) 133 = .ok (.invokevirtual 257, 3) := by decide +kernel
theorem d_X6_nextToken_136 : decode (cd mX6_nextToken) 136 = .ok (.return_, 1) := by decide +kernel
theorem d_X6_takeWord_0 : decode (cd mX6_takeWord) 0 = .ok (.aload_n 0, 1) := by decide +kernel
theorem d_X6_takeWord_1 : decode (cd mX6_takeWord) 1 = .ok (.lconst 0, 1) := by decide +kernel
theorem d_X6_takeWord_2 : decode (cd mX6_takeWord) 2 = .ok (.putfield 238, 3) := by decide +kernel
theorem d_X6_takeWord_5 : decode (cd mX6_takeWord) 5 = .ok (.aload_n 0, 1) := by decide +kernel
theorem d_X6_takeWord_6 : decode (cd mX6_takeWord) 6 = .ok (.getfield 46, 3) := by decide +kernel
theorem d_X6_takeWord_9 : decode (cd mX6_takeWord) 9 = .ok (.aload_n 0, 1) := by decide +kernel
theorem d_X6_takeWord_10 : decode (cd mX6_takeWord) 10 = .ok (.getfield 40, 3) := by decide +kernel
theorem d_X6_takeWord_13 : decode (cd mX6_takeWord) 13 = .ok (.if_icmp .ge 72, 3) := by decide +kernel
theorem d_X6_takeWord_16 : decode (cd mX6_takeWord) 16 = .ok (.aload_n 0, 1) := by decide +kernel
theorem d_X6_takeWord_17 : decode (cd mX6_takeWord) 17 = .ok (.getfield 18, 3) := by decide +kernel
theorem d_X6_takeWord_20 : decode (cd mX6_takeWord) 20 = .ok (.aload_n 0, 1) := by decide +kernel
theorem d_X6_takeWord_21 : decode (cd mX6_takeWord) 21 = .ok (.getfield 46, 3) := by decide +kernel
theorem d_X6_takeWord_24 : decode (cd mX6_takeWord) 24 = .ok (.baload, 1) := by decide +kernel
theorem d_X6_takeWord_25 : decode (cd mX6_takeWord) 25 = .ok (.bipush 97, 2) := by decide +kernel
theorem d_X6_takeWord_27 : decode (cd mX6_takeWord) 27 = .ok (.if_icmp .lt 58, 3) := by decide +kernel
theorem d_X6_takeWord_30 : decode (cd mX6_takeWord) 30 = .ok (.aload_n 0, 1) := by decide +kernel
theorem d_X6_takeWord_31 : decode (cd mX6_takeWord) 31 = .ok (.getfield 18, 3) := by decide +kernel
theorem d_X6_takeWord_34 : decode (cd mX6_takeWord) 34 = .ok (.aload_n 0, 1) := by decide +kernel
theorem d_X6_takeWord_35 : decode (cd mX6_takeWord) 35 = .ok (.getfield 46, 3) := by decide +kernel
theorem d_X6_takeWord_38 : decode (cd mX6_takeWord) 38 = .ok (.baload, 1) := by decide +kernel
theorem d_X6_takeWord_39 : decode (cd mX6_takeWord) 39 = .ok (.bipush 122, 2) := by decide +kernel
theorem d_X6_takeWord_41 : decode (cd mX6_takeWord) 41 = .ok (.if_icmp .gt 44, 3) := by decide +kernel
theorem d_X6_takeWord_44 : decode (cd mX6_takeWord) 44 = .ok (.aload_n 0, 1) := by decide +kernel
theorem d_X6_takeWord_45 : decode (cd mX6_takeWord) 45 = .ok (.aload_n 0, 1) := by decide +kernel
theorem d_X6_takeWord_46 : decode (cd mX6_takeWord) 46 = .ok (.getfield 238, 3) := by decide +kernel
theorem d_X6_takeWord_49 : decode (cd mX6_takeWord) 49 = .ok (.ldc2_w 248, 3) := by decide +kernel
theorem d_X6_takeWord_52 : decode (cd mX6_takeWord) 52 = .ok (.lmul, 1) := by decide +kernel
theorem d_X6_takeWord_53 : decode (cd mX6_takeWord) 53 = .ok (.aload_n 0, 1) := by decide +kernel
theorem d_X6_takeWord_54 : decode (cd mX6_takeWord) 54 = .ok (.getfield 18, 3) := by decide +kernel
theorem d_X6_takeWord_57 : decode (cd mX6_takeWord) 57 = .ok (.aload_n 0, 1) := by decide +kernel
theorem d_X6_takeWord_58 : decode (cd mX6_takeWord) 58 = .ok (.getfield 46, 3) := by decide +kernel
theorem d_X6_takeWord_61 : decode (cd mX6_takeWord) 61 = .ok (.baload, 1) := by decide +kernel
theorem d_X6_takeWord_62 : decode (cd mX6_takeWord) 62 = .ok (.bipush 97, 2) := by decide +kernel
theorem d_X6_takeWord_64 : decode (cd mX6_takeWord) 64 = .ok (.isub, 1) := by decide +kernel
theorem d_X6_takeWord_65 : decode (cd mX6_takeWord) 65 = .ok (.iconst 1, 1) := by decide +kernel
theorem d_X6_takeWord_66 : decode (cd mX6_takeWord) 66 = .ok (.iadd, 1) := by decide +kernel
theorem d_X6_takeWord_67 : decode (cd mX6_takeWord) 67 = .ok (.i2l, 1) := by decide +kernel
theorem d_X6_takeWord_68 : decode (cd mX6_takeWord) 68 = .ok (.ladd, 1) := by decide +kernel
theorem d_X6_takeWord_69 : decode (cd mX6_takeWord) 69 = .ok (.putfield 238, 3) := by decide +kernel
theorem d_X6_takeWord_72 : decode (cd mX6_takeWord) 72 = .ok (.aload_n 0, 1) := by decide +kernel
theorem d_X6_takeWord_73 : decode (cd mX6_takeWord) 73 = .ok (.dup, 1) := by decide +kernel
theorem d_X6_takeWord_74 : decode (cd mX6_takeWord) 74 = .ok (.getfield 46, 3) := by decide +kernel
theorem d_X6_takeWord_77 : decode (cd mX6_takeWord) 77 = .ok (.iconst 1, 1) := by decide +kernel
theorem d_X6_takeWord_78 : decode (cd mX6_takeWord) 78 = .ok (.iadd, 1) := by decide +kernel
theorem d_X6_takeWord_79 : decode (cd mX6_takeWord) 79 = .ok (.putfield 46, 3) := by decide +kernel
theorem d_X6_takeWord_82 : decode (cd mX6_takeWord) 82 = .ok (.goto (-77), 3) := by decide +kernel
theorem d_X6_takeWord_85 : decode (cd mX6_takeWord) 85 = .ok (.aload_n 0, 1) := by decide +kernel
theorem d_X6_takeWord_86 : decode (cd mX6_takeWord) 86 = .ok (.getfield 46, 3) := by decide +kernel
theorem d_X6_takeWord_89 : decode (cd mX6_takeWord) 89 = .ok (.aload_n 0, 1) := by decide +kernel
theorem d_X6_takeWord_90 : decode (cd mX6_takeWord) 90 = .ok (.getfield 216, 3) := by decide +kernel
theorem d_X6_takeWord_93 : decode (cd mX6_takeWord) 93 = .ok (.isub, 1) := by decide +kernel
theorem d_X6_takeWord_94 : decode (cd mX6_takeWord) 94 = .ok (.istore_n 1, 1) := by decide +kernel
theorem d_X6_takeWord_95 : decode (cd mX6_takeWord) 95 = .ok (.aload_n 0, 1) := by decide +kernel
theorem d_X6_takeWord_96 : decode (cd mX6_takeWord) 96 = .ok (.iload_n 1, 1) := by decide +kernel
theorem d_X6_takeWord_97 : decode (cd mX6_takeWord) 97 = .ok (.iconst 1, 1) := by decide +kernel
theorem d_X6_takeWord_98 : decode (cd mX6_takeWord) 98 = .ok (.if_icmp .lt 13, 3) := by decide +kernel
theorem d_X6_takeWord_101 : decode (cd mX6_takeWord) 101 = .ok (.iload_n 1, 1) := by decide +kernel
theorem d_X6_takeWord_102 : decode (cd mX6_takeWord) 102 = .ok (.bipush 8, 2) := by decide +kernel
theorem d_X6_takeWord_104 : decode (cd mX6_takeWord) 104 = .ok (.if_icmp .gt 7, 3) := by decide +kernel
theorem d_X6_takeWord_107 : decode (cd mX6_takeWord) 107 = .ok (.iconst 1, 1) := by decide +kernel
theorem d_X6_takeWord_108 : decode (cd mX6_takeWord) 108 = .ok (.goto 4, 3) := by decide +kernel
theorem d_X6_takeWord_111 : decode (cd mX6_takeWord) 111 = .ok (.iconst 4, 1) := by decide +kernel
theorem d_X6_takeWord_112 : decode (cd mX6_takeWord) 112 = .ok (.putfield 69, 3) := by decide +kernel
theorem d_X6_takeWord_115 : decode (cd mX6_takeWord) 115 = .ok (.return_, 1) := by decide +kernel
theorem d_X6_takeWhole_0 : decode (cd mX6_takeWhole) 0 = .ok (.aload_n 0, 1) := by decide +kernel
theorem d_X6_takeWhole_1 : decode (cd mX6_takeWhole) 1 = .ok (.iconst 0, 1) := by decide +kernel
theorem d_X6_takeWhole_2 : decode (cd mX6_takeWhole) 2 = .ok (.putfield 147, 3) := by decide +kernel
theorem d_X6_takeWhole_5 : decode (cd mX6_takeWhole) 5 = .ok (.aload_n 0, 1) := by decide +kernel
theorem d_X6_takeWhole_6 : decode (cd mX6_takeWhole) 6 = .ok (.getfield 46, 3) := by decide +kernel
theorem d_X6_takeWhole_9 : decode (cd mX6_takeWhole) 9 = .ok (.aload_n 0, 1) := by decide +kernel
theorem d_X6_takeWhole_10 : decode (cd mX6_takeWhole) 10 = .ok (.getfield 40, 3) := by decide +kernel
theorem d_X6_takeWhole_13 : decode (cd mX6_takeWhole) 13 = .ok (.if_icmp .ge 68, 3) := by decide +kernel
theorem d_X6_takeWhole_16 : decode (cd mX6_takeWhole) 16 = .ok (.aload_n 0, 1) := by decide +kernel
theorem d_X6_takeWhole_17 : decode (cd mX6_takeWhole) 17 = .ok (.getfield 18, 3) := by decide +kernel
theorem d_X6_takeWhole_20 : decode (cd mX6_takeWhole) 20 = .ok (.aload_n 0, 1) := by decide +kernel
theorem d_X6_takeWhole_21 : decode (cd mX6_takeWhole) 21 = .ok (.getfield 46, 3) := by decide +kernel
theorem d_X6_takeWhole_24 : decode (cd mX6_takeWhole) 24 = .ok (.baload, 1) := by decide +kernel
theorem d_X6_takeWhole_25 : decode (cd mX6_takeWhole) 25 = .ok (.bipush 48, 2) := by decide +kernel
theorem d_X6_takeWhole_27 : decode (cd mX6_takeWhole) 27 = .ok (.if_icmp .lt 54, 3) := by decide +kernel
theorem d_X6_takeWhole_30 : decode (cd mX6_takeWhole) 30 = .ok (.aload_n 0, 1) := by decide +kernel
theorem d_X6_takeWhole_31 : decode (cd mX6_takeWhole) 31 = .ok (.getfield 18, 3) := by decide +kernel
theorem d_X6_takeWhole_34 : decode (cd mX6_takeWhole) 34 = .ok (.aload_n 0, 1) := by decide +kernel
theorem d_X6_takeWhole_35 : decode (cd mX6_takeWhole) 35 = .ok (.getfield 46, 3) := by decide +kernel
theorem d_X6_takeWhole_38 : decode (cd mX6_takeWhole) 38 = .ok (.baload, 1) := by decide +kernel
theorem d_X6_takeWhole_39 : decode (cd mX6_takeWhole) 39 = .ok (.bipush 57, 2) := by decide +kernel
theorem d_X6_takeWhole_41 : decode (cd mX6_takeWhole) 41 = .ok (.if_icmp .gt 40, 3) := by decide +kernel
theorem d_X6_takeWhole_44 : decode (cd mX6_takeWhole) 44 = .ok (.aload_n 0, 1) := by decide +kernel
theorem d_X6_takeWhole_45 : decode (cd mX6_takeWhole) 45 = .ok (.aload_n 0, 1) := by decide +kernel
theorem d_X6_takeWhole_46 : decode (cd mX6_takeWhole) 46 = .ok (.getfield 147, 3) := by decide +kernel
theorem d_X6_takeWhole_49 : decode (cd mX6_takeWhole) 49 = .ok (.bipush 10, 2) := by decide +kernel
theorem d_X6_takeWhole_51 : decode (cd mX6_takeWhole) 51 = .ok (.imul, 1) := by decide +kernel
theorem d_X6_takeWhole_52 : decode (cd mX6_takeWhole) 52 = .ok (.aload_n 0, 1) := by decide +kernel
theorem d_X6_takeWhole_53 : decode (cd mX6_takeWhole) 53 = .ok (.getfield 18, 3) := by decide +kernel
theorem d_X6_takeWhole_56 : decode (cd mX6_takeWhole) 56 = .ok (.aload_n 0, 1) := by decide +kernel
theorem d_X6_takeWhole_57 : decode (cd mX6_takeWhole) 57 = .ok (.getfield 46, 3) := by decide +kernel
theorem d_X6_takeWhole_60 : decode (cd mX6_takeWhole) 60 = .ok (.baload, 1) := by decide +kernel
theorem d_X6_takeWhole_61 : decode (cd mX6_takeWhole) 61 = .ok (.bipush 48, 2) := by decide +kernel
theorem d_X6_takeWhole_63 : decode (cd mX6_takeWhole) 63 = .ok (.isub, 1) := by decide +kernel
theorem d_X6_takeWhole_64 : decode (cd mX6_takeWhole) 64 = .ok (.iadd, 1) := by decide +kernel
theorem d_X6_takeWhole_65 : decode (cd mX6_takeWhole) 65 = .ok (.putfield 147, 3) := by decide +kernel
theorem d_X6_takeWhole_68 : decode (cd mX6_takeWhole) 68 = .ok (.aload_n 0, 1) := by decide +kernel
theorem d_X6_takeWhole_69 : decode (cd mX6_takeWhole) 69 = .ok (.dup, 1) := by decide +kernel
theorem d_X6_takeWhole_70 : decode (cd mX6_takeWhole) 70 = .ok (.getfield 46, 3) := by decide +kernel
theorem d_X6_takeWhole_73 : decode (cd mX6_takeWhole) 73 = .ok (.iconst 1, 1) := by decide +kernel
theorem d_X6_takeWhole_74 : decode (cd mX6_takeWhole) 74 = .ok (.iadd, 1) := by decide +kernel
theorem d_X6_takeWhole_75 : decode (cd mX6_takeWhole) 75 = .ok (.putfield 46, 3) := by decide +kernel
theorem d_X6_takeWhole_78 : decode (cd mX6_takeWhole) 78 = .ok (.goto (-73), 3) := by decide +kernel
theorem d_X6_takeWhole_81 : decode (cd mX6_takeWhole) 81 = .ok (.aload_n 0, 1) := by decide +kernel
theorem d_X6_takeWhole_82 : decode (cd mX6_takeWhole) 82 = .ok (.aload_n 0, 1) := by decide +kernel
theorem d_X6_takeWhole_83 : decode (cd mX6_takeWhole) 83 = .ok (.getfield 46, 3) := by decide +kernel
theorem d_X6_takeWhole_86 : decode (cd mX6_takeWhole) 86 = .ok (.aload_n 0, 1) := by decide +kernel
theorem d_X6_takeWhole_87 : decode (cd mX6_takeWhole) 87 = .ok (.getfield 216, 3) := by decide +kernel
theorem d_X6_takeWhole_90 : decode (cd mX6_takeWhole) 90 = .ok (.isub, 1) := by decide +kernel
theorem d_X6_takeWhole_91 : decode (cd mX6_takeWhole) 91 = .ok (.iconst 3, 1) := by decide +kernel
theorem d_X6_takeWhole_92 : decode (cd mX6_takeWhole) 92 = .ok (.if_icmp .gt 7, 3) := by decide +kernel
theorem d_X6_takeWhole_95 : decode (cd mX6_takeWhole) 95 = .ok (.iconst 2, 1) := by decide +kernel
theorem d_X6_takeWhole_96 : decode (cd mX6_takeWhole) 96 = .ok (.goto 4, 3) := by decide +kernel
theorem d_X6_takeWhole_99 : decode (cd mX6_takeWhole) 99 = .ok (.iconst 4, 1) := by decide +kernel
theorem d_X6_takeWhole_100 : decode (cd mX6_takeWhole) 100 = .ok (.putfield 69, 3) := by decide +kernel
theorem d_X6_takeWhole_103 : decode (cd mX6_takeWhole) 103 = .ok (.return_, 1) := by decide +kernel
theorem d_X10_init_0 : decode (cd mX10_init) 0 = .ok (.aload_n 0, 1) := by decide +kernel
theorem d_X10_init_1 : decode (cd mX10_init) 1 = .ok (.invokespecial 3, 3) := by decide +kernel
theorem d_X10_init_4 : decode (cd mX10_init) 4 = .ok (.aload_n 0, 1) := by decide +kernel
theorem d_X10_init_5 : decode (cd mX10_init) 5 = .ok (.new 9, 3) := by decide +kernel
theorem d_X10_init_8 : decode (cd mX10_init) 8 = .ok (.dup, 1) := by decide +kernel
theorem d_X10_init_9 : decode (cd mX10_init) 9 = .ok (.invokespecial 11, 3) := by decide +kernel
theorem d_X10_init_12 : decode (cd mX10_init) 12 = .ok (.putfield 12, 3) := by decide +kernel
theorem d_X10_init_15 : decode (cd mX10_init) 15 = .ok (.aload_n 0, 1) := by decide +kernel
theorem d_X10_init_16 : decode (cd mX10_init) 16 = .ok (.new 16, 3) := by decide +kernel
theorem d_X10_init_19 : decode (cd mX10_init) 19 = .ok (.dup, 1) := by decide +kernel
theorem d_X10_init_20 : decode (cd mX10_init) 20 = .ok (.invokespecial 18, 3) := by decide +kernel
theorem d_X10_init_23 : decode (cd mX10_init) 23 = .ok (.putfield 19, 3) := by decide +kernel
theorem d_X10_init_26 : decode (cd mX10_init) 26 = .ok (.aload_n 0, 1) := by decide +kernel
theorem d_X10_init_27 : decode (cd mX10_init) 27 = .ok (.new 23, 3) := by decide +kernel
theorem d_X10_init_30 : decode (cd mX10_init) 30 = .ok (.dup, 1) := by decide +kernel
theorem d_X10_init_31 : decode (cd mX10_init) 31 = .ok (.invokespecial 25, 3) := by decide +kernel
theorem d_X10_init_34 : decode (cd mX10_init) 34 = .ok (.putfield 26, 3) := by decide +kernel
theorem d_X10_init_37 : decode (cd mX10_init) 37 = .ok (.aload_n 0, 1) := by decide +kernel
theorem d_X10_init_38 : decode (cd mX10_init) 38 = .ok (.new 30, 3) := by decide +kernel
theorem d_X10_init_41 : decode (cd mX10_init) 41 = .ok (.dup, 1) := by decide +kernel
theorem d_X10_init_42 : decode (cd mX10_init) 42 = .ok (.invokespecial 32, 3) := by decide +kernel
theorem d_X10_init_45 : decode (cd mX10_init) 45 = .ok (.putfield 33, 3) := by decide +kernel
theorem d_X10_init_48 : decode (cd mX10_init) 48 = .ok (.aload_n 0, 1) := by decide +kernel
theorem d_X10_init_49 : decode (cd mX10_init) 49 = .ok (.new 37, 3) := by decide +kernel
theorem d_X10_init_52 : decode (cd mX10_init) 52 = .ok (.dup, 1) := by decide +kernel
theorem d_X10_init_53 : decode (cd mX10_init) 53 = .ok (.invokespecial 39, 3) := by decide +kernel
theorem d_X10_init_56 : decode (cd mX10_init) 56 = .ok (.putfield 40, 3) := by decide +kernel
theorem d_X10_init_59 : decode (cd mX10_init) 59 = .ok (.aload_n 0, 1) := by decide +kernel
theorem d_X10_init_60 : decode (cd mX10_init) 60 = .ok (.new 44, 3) := by decide +kernel
theorem d_X10_init_63 : decode (cd mX10_init) 63 = .ok (.dup, 1) := by decide +kernel
theorem d_X10_init_64 : decode (cd mX10_init) 64 = .ok (.invokespecial 46, 3) := by decide +kernel
theorem d_X10_init_67 : decode (cd mX10_init) 67 = .ok (.putfield 47, 3) := by decide +kernel
theorem d_X10_init_70 : decode (cd mX10_init) 70 = .ok (.aload_n 0, 1) := by decide +kernel
theorem d_X10_init_71 : decode (cd mX10_init) 71 = .ok (.new 51, 3) := by decide +kernel
theorem d_X10_init_74 : decode (cd mX10_init) 74 = .ok (.dup, 1) := by decide +kernel
theorem d_X10_init_75 : decode (cd mX10_init) 75 = .ok (.invokespecial 53, 3) := by decide +kernel
theorem d_X10_init_78 : decode (cd mX10_init) 78 = .ok (.putfield 54, 3) := by decide +kernel
theorem d_X10_init_81 : decode (cd mX10_init) 81 = .ok (.aload_n 0, 1) := by decide +kernel
theorem d_X10_init_82 : decode (cd mX10_init) 82 = .ok (.new 58, 3) := by decide +kernel
theorem d_X10_init_85 : decode (cd mX10_init) 85 = .ok (.dup, 1) := by decide +kernel
theorem d_X10_init_86 : decode (cd mX10_init) 86 = .ok (.invokespecial 60, 3) := by decide +kernel
theorem d_X10_init_89 : decode (cd mX10_init) 89 = .ok (.putfield 61, 3) := by decide +kernel
theorem d_X10_init_92 : decode (cd mX10_init) 92 = .ok (.return_, 1) := by decide +kernel
theorem d_X10_feed_0 : decode (cd mX10_feed) 0 = .ok (.aload_n 0, 1) := by decide +kernel
theorem d_X10_feed_1 : decode (cd mX10_feed) 1 = .ok (.getfield 12, 3) := by decide +kernel
theorem d_X10_feed_4 : decode (cd mX10_feed) 4 = .ok (.getfield 65, 3) := by decide +kernel
theorem d_X10_feed_7 : decode (cd mX10_feed) 7 = .ok (.sipush 880, 3) := by decide +kernel
theorem d_X10_feed_10 : decode (cd mX10_feed) 10 = .ok (.if_icmp .le 5, 3) := by decide +kernel
theorem d_X10_feed_13 : decode (cd mX10_feed) 13 = .ok (.iconst (-1), 1) := by decide +kernel
theorem d_X10_feed_14 : decode (cd mX10_feed) 14 = .ok (.ireturn, 1) := by decide +kernel
theorem d_X10_feed_15 : decode (cd mX10_feed) 15 = .ok (.aload_n 0, 1) := by decide +kernel
theorem d_X10_feed_16 : decode (cd mX10_feed) 16 = .ok (.getfield 12, 3) := by decide +kernel
theorem d_X10_feed_19 : decode (cd mX10_feed) 19 = .ok (.iload_n 1, 1) := by decide +kernel
theorem d_X10_feed_20 : decode (cd mX10_feed) 20 = .ok (.invokevirtual 69, 3) := by decide +kernel
theorem d_X10_feed_23 : decode (cd mX10_feed) 23 = .ok (.aload_n 0, 1) := by decide +kernel
theorem d_X10_feed_24 : decode (cd mX10_feed) 24 = .ok (.getfield 12, 3) := by decide +kernel
theorem d_X10_feed_27 : decode (cd mX10_feed) 27 = .ok (.iload_n 2, 1) := by decide +kernel
theorem d_X10_feed_28 : decode (cd mX10_feed) 28 = .ok (.invokevirtual 69, 3) := by decide +kernel
theorem d_X10_feed_31 : decode (cd mX10_feed) 31 = .ok (.aload_n 0, 1) := by decide +kernel
theorem d_X10_feed_32 : decode (cd mX10_feed) 32 = .ok (.getfield 12, 3) := by decide +kernel
theorem d_X10_feed_35 : decode (cd mX10_feed) 35 = .ok (.iload_n 3, 1) := by decide +kernel
theorem d_X10_feed_36 : decode (cd mX10_feed) 36 = .ok (.invokevirtual 69, 3) := by decide +kernel
theorem d_X10_feed_39 : decode (cd mX10_feed) 39 = .ok (.aload_n 0, 1) := by decide +kernel
theorem d_X10_feed_40 : decode (cd mX10_feed) 40 = .ok (.getfield 12, 3) := by decide +kernel
theorem d_X10_feed_43 : decode (cd mX10_feed) 43 = .ok (.iload 4, 2) := by decide +kernel
theorem d_X10_feed_45 : decode (cd mX10_feed) 45 = .ok (.invokevirtual 69, 3) := by decide +kernel
theorem d_X10_feed_48 : decode (cd mX10_feed) 48 = .ok (.aload_n 0, 1) := by decide +kernel
theorem d_X10_feed_49 : decode (cd mX10_feed) 49 = .ok (.getfield 12, 3) := by decide +kernel
theorem d_X10_feed_52 : decode (cd mX10_feed) 52 = .ok (.iload 5, 2) := by decide +kernel
theorem d_X10_feed_54 : decode (cd mX10_feed) 54 = .ok (.invokevirtual 69, 3) := by decide +kernel
theorem d_X10_feed_57 : decode (cd mX10_feed) 57 = .ok (.aload_n 0, 1) := by decide +kernel
theorem d_X10_feed_58 : decode (cd mX10_feed) 58 = .ok (.getfield 12, 3) := by decide +kernel
theorem d_X10_feed_61 : decode (cd mX10_feed) 61 = .ok (.getfield 65, 3) := by decide +kernel
theorem d_X10_feed_64 : decode (cd mX10_feed) 64 = .ok (.ireturn, 1) := by decide +kernel
theorem d_X10_chalet_0 : decode (cd mX10_chalet) 0 = .ok (.iload_n 1, 1) := by decide +kernel
theorem d_X10_chalet_1 : decode (cd mX10_chalet) 1 = .ok (.iconst 0, 1) := by decide +kernel
theorem d_X10_chalet_2 : decode (cd mX10_chalet) 2 = .ok (.aload_n 0, 1) := by decide +kernel
theorem d_X10_chalet_3 : decode (cd mX10_chalet) 3 = .ok (.getfield 12, 3) := by decide +kernel
theorem d_X10_chalet_6 : decode (cd mX10_chalet) 6 = .ok (.getfield 65, 3) := by decide +kernel
theorem d_X10_chalet_9 : decode (cd mX10_chalet) 9 = .ok (.invokestatic 73, 3) := by decide +kernel
theorem d_X10_chalet_12 : decode (cd mX10_chalet) 12 = .ok (.ifCond .ne 9, 3) := by decide +kernel
theorem d_X10_chalet_15 : decode (cd mX10_chalet) 15 = .ok (.aload_n 0, 1) := by decide +kernel
theorem d_X10_chalet_16 : decode (cd mX10_chalet) 16 = .ok (.iconst 2, 1) := by decide +kernel
theorem d_X10_chalet_17 : decode (cd mX10_chalet) 17 = .ok (.invokevirtual 77, 3) := by decide +kernel
theorem d_X10_chalet_20 : decode (cd mX10_chalet) 20 = .ok (.ireturn, 1) := by decide +kernel
theorem d_X10_chalet_21 : decode (cd mX10_chalet) 21 = .ok (.aload_n 0, 1) := by decide +kernel
theorem d_X10_chalet_22 : decode (cd mX10_chalet) 22 = .ok (.getfield 12, 3) := by decide +kernel
theorem d_X10_chalet_25 : decode (cd mX10_chalet) 25 = .ok (.iload_n 1, 1) := by decide +kernel
theorem d_X10_chalet_26 : decode (cd mX10_chalet) 26 = .ok (.invokevirtual 81, 3) := by decide +kernel
theorem d_X10_chalet_29 : decode (cd mX10_chalet) 29 = .ok (.aload_n 0, 1) := by decide +kernel
theorem d_X10_chalet_30 : decode (cd mX10_chalet) 30 = .ok (.getfield 12, 3) := by decide +kernel
theorem d_X10_chalet_33 : decode (cd mX10_chalet) 33 = .ok (.invokevirtual 84, 3) := by decide +kernel
theorem d_X10_chalet_36 : decode (cd mX10_chalet) 36 = .ok (.istore_n 2, 1) := by decide +kernel
theorem d_X10_chalet_37 : decode (cd mX10_chalet) 37 = .ok (.aload_n 0, 1) := by decide +kernel
theorem d_X10_chalet_38 : decode (cd mX10_chalet) 38 = .ok (.aload_n 0, 1) := by decide +kernel
theorem d_X10_chalet_39 : decode (cd mX10_chalet) 39 = .ok (.getfield 12, 3) := by decide +kernel
theorem d_X10_chalet_42 : decode (cd mX10_chalet) 42 = .ok (.getfield 88, 3) := by decide +kernel
theorem d_X10_chalet_45 : decode (cd mX10_chalet) 45 = .ok (.putfield 91, 3) := by decide +kernel
theorem d_X10_chalet_48 : decode (cd mX10_chalet) 48 = .ok (.aload_n 0, 1) := by decide +kernel
theorem d_X10_chalet_49 : decode (cd mX10_chalet) 49 = .ok (.aload_n 0, 1) := by decide +kernel
theorem d_X10_chalet_50 : decode (cd mX10_chalet) 50 = .ok (.getfield 12, 3) := by decide +kernel
theorem d_X10_chalet_53 : decode (cd mX10_chalet) 53 = .ok (.getfield 92, 3) := by decide +kernel
theorem d_X10_chalet_56 : decode (cd mX10_chalet) 56 = .ok (.putfield 95, 3) := by decide +kernel
theorem d_X10_chalet_59 : decode (cd mX10_chalet) 59 = .ok (.iload_n 2, 1) := by decide +kernel
theorem d_X10_chalet_60 : decode (cd mX10_chalet) 60 = .ok (.ifCond .ne 9, 3) := by decide +kernel
theorem d_X10_chalet_63 : decode (cd mX10_chalet) 63 = .ok (.aload_n 0, 1) := by decide +kernel
theorem d_X10_chalet_64 : decode (cd mX10_chalet) 64 = .ok (.iconst 4, 1) := by decide +kernel
theorem d_X10_chalet_65 : decode (cd mX10_chalet) 65 = .ok (.invokevirtual 77, 3) := by decide +kernel
theorem d_X10_chalet_68 : decode (cd mX10_chalet) 68 = .ok (.ireturn, 1) := by decide +kernel
theorem d_X10_chalet_69 : decode (cd mX10_chalet) 69 = .ok (.aload_n 0, 1) := by decide +kernel
theorem d_X10_chalet_70 : decode (cd mX10_chalet) 70 = .ok (.invokevirtual 98, 3) := by decide +kernel
theorem d_X10_chalet_73 : decode (cd mX10_chalet) 73 = .ok (.aload_n 0, 1) := by decide +kernel
theorem d_X10_chalet_74 : decode (cd mX10_chalet) 74 = .ok (.iconst 0, 1) := by decide +kernel
theorem d_X10_chalet_75 : decode (cd mX10_chalet) 75 = .ok (.putfield 101, 3) := by decide +kernel
theorem d_X10_chalet_78 : decode (cd mX10_chalet) 78 = .ok (.aload_n 0, 1) := by decide +kernel
theorem d_X10_chalet_79 : decode (cd mX10_chalet) 79 = .ok (.getfield 19, 3) := by decide +kernel
theorem d_X10_chalet_82 : decode (cd mX10_chalet) 82 = .ok (.getfield 104, 3) := by decide +kernel
theorem d_X10_chalet_85 : decode (cd mX10_chalet) 85 = .ok (.getfield 108, 3) := by decide +kernel
theorem d_X10_chalet_88 : decode (cd mX10_chalet) 88 = .ok (.ireturn, 1) := by decide +kernel
theorem d_X10_fault_0 : decode (cd mX10_fault) 0 = .ok (.aload_n 0, 1) := by decide +kernel
theorem d_X10_fault_1 : decode (cd mX10_fault) 1 = .ok (.getfield 91, 3) := by decide +kernel
theorem d_X10_fault_4 : decode (cd mX10_fault) 4 = .ok (.ireturn, 1) := by decide +kernel
theorem d_X10_where_0 : decode (cd mX10_where) 0 = .ok (.aload_n 0, 1) := by decide +kernel
theorem d_X10_where_1 : decode (cd mX10_where) 1 = .ok (.getfield 101, 3) := by decide +kernel
theorem d_X10_where_4 : decode (cd mX10_where) 4 = .ok (.iconst 4, 1) := by decide +kernel
theorem d_X10_where_5 : decode (cd mX10_where) 5 = .ok (.if_icmp .ne 10, 3) := by decide +kernel
theorem d_X10_where_8 : decode (cd mX10_where) 8 = .ok (.aload_n 0, 1) := by decide +kernel
theorem d_X10_where_9 : decode (cd mX10_where) 9 = .ok (.getfield 95, 3) := by decide +kernel
theorem d_X10_where_12 : decode (cd mX10_where) 12 = .ok (.goto 4, 3) := by decide +kernel
theorem d_X10_where_15 : decode (cd mX10_where) 15 = .ok (.iconst (-1), 1) := by decide +kernel
theorem d_X10_where_16 : decode (cd mX10_where) 16 = .ok (.ireturn, 1) := by decide +kernel
theorem d_X10_beam_0 : decode (cd mX10_beam) 0 = .ok (.aload_n 0, 1) := by decide +kernel
theorem d_X10_beam_1 : decode (cd mX10_beam) 1 = .ok (.iload_n 1, 1) := by decide +kernel
theorem d_X10_beam_2 : decode (cd mX10_beam) 2 = .ok (.iconst 0, 1) := by decide +kernel
theorem d_X10_beam_3 : decode (cd mX10_beam) 3 = .ok (.iconst 5, 1) := by decide +kernel
theorem d_X10_beam_4 : decode (cd mX10_beam) 4 = .ok (.invokestatic 73, 3) := by decide +kernel
theorem d_X10_beam_7 : decode (cd mX10_beam) 7 = .ok (.invokevirtual 113, 3) := by decide +kernel
theorem d_X10_beam_10 : decode (cd mX10_beam) 10 = .ok (.ifCond .eq 5, 3) := by decide +kernel
theorem d_X10_beam_13 : decode (cd mX10_beam) 13 = .ok (.iconst (-1), 1) := by decide +kernel
theorem d_X10_beam_14 : decode (cd mX10_beam) 14 = .ok (.ireturn, 1) := by decide +kernel
theorem d_X10_beam_15 : decode (cd mX10_beam) 15 = .ok (.iload_n 1, 1) := by decide +kernel
theorem d_X10_beam_16 : decode (cd mX10_beam) 16 = .ok (.tableswitch 79 0 4 #[36, 47, 55, 63, 71], 36) := by decide +kernel
theorem d_X10_beam_52 : decode (cd mX10_beam) 52 = .ok (.aload_n 0, 1) := by decide +kernel
theorem d_X10_beam_53 : decode (cd mX10_beam) 53 = .ok (.getfield 26, 3) := by decide +kernel
theorem d_X10_beam_56 : decode (cd mX10_beam) 56 = .ok (.getfield 117, 3) := by decide +kernel
theorem d_X10_beam_59 : decode (cd mX10_beam) 59 = .ok (.bipush 9, 2) := by decide +kernel
theorem d_X10_beam_61 : decode (cd mX10_beam) 61 = .ok (.iadd, 1) := by decide +kernel
theorem d_X10_beam_62 : decode (cd mX10_beam) 62 = .ok (.ireturn, 1) := by decide +kernel
theorem d_X10_beam_63 : decode (cd mX10_beam) 63 = .ok (.aload_n 0, 1) := by decide +kernel
theorem d_X10_beam_64 : decode (cd mX10_beam) 64 = .ok (.getfield 26, 3) := by decide +kernel
theorem d_X10_beam_67 : decode (cd mX10_beam) 67 = .ok (.getfield 120, 3) := by decide +kernel
theorem d_X10_beam_70 : decode (cd mX10_beam) 70 = .ok (.ireturn, 1) := by decide +kernel
theorem d_X10_beam_71 : decode (cd mX10_beam) 71 = .ok (.aload_n 0, 1) := by decide +kernel
theorem d_X10_beam_72 : decode (cd mX10_beam) 72 = .ok (.getfield 26, 3) := by decide +kernel
theorem d_X10_beam_75 : decode (cd mX10_beam) 75 = .ok (.invokevirtual 123, 3) := by decide +kernel
theorem d_X10_beam_78 : decode (cd mX10_beam) 78 = .ok (.ireturn, 1) := by decide +kernel
theorem d_X10_beam_79 : decode (cd mX10_beam) 79 = .ok (.aload_n 0, 1) := by decide +kernel
theorem d_X10_beam_80 : decode (cd mX10_beam) 80 = .ok (.getfield 26, 3) := by decide +kernel
theorem d_X10_beam_83 : decode (cd mX10_beam) 83 = .ok (.getfield 127, 3) := by decide +kernel
theorem d_X10_beam_86 : decode (cd mX10_beam) 86 = .ok (.ireturn, 1) := by decide +kernel
theorem d_X10_beam_87 : decode (cd mX10_beam) 87 = .ok (.aload_n 0, 1) := by decide +kernel
theorem d_X10_beam_88 : decode (cd mX10_beam) 88 = .ok (.getfield 26, 3) := by decide +kernel
theorem d_X10_beam_91 : decode (cd mX10_beam) 91 = .ok (.getfield 130, 3) := by decide +kernel
theorem d_X10_beam_94 : decode (cd mX10_beam) 94 = .ok (.ireturn, 1) := by decide +kernel
theorem d_X10_beam_95 : decode (cd mX10_beam) 95 = .ok (.aload_n 0, 1) := by decide +kernel
theorem d_X10_beam_96 : decode (cd mX10_beam) 96 = .ok (.getfield 26, 3) := by decide +kernel
theorem d_X10_beam_99 : decode (cd mX10_beam) 99 = .ok (.getfield 120, 3) := by decide +kernel
theorem d_X10_beam_102 : decode (cd mX10_beam) 102 = .ok (.invokestatic 133, 3) := by decide +kernel
theorem d_X10_beam_105 : decode (cd mX10_beam) 105 = .ok (.bipush 9, 2) := by decide +kernel
theorem d_X10_beam_107 : decode (cd mX10_beam) 107 = .ok (.iadd, 1) := by decide +kernel
theorem d_X10_beam_108 : decode (cd mX10_beam) 108 = .ok (.ireturn, 1) := by decide +kernel
theorem d_X10_vent_0 : decode (cd mX10_vent) 0 = .ok (.aload_n 0, 1) := by decide +kernel
theorem d_X10_vent_1 : decode (cd mX10_vent) 1 = .ok (.aload_n 0, 1) := by decide +kernel
theorem d_X10_vent_2 : decode (cd mX10_vent) 2 = .ok (.getfield 19, 3) := by decide +kernel
theorem d_X10_vent_5 : decode (cd mX10_vent) 5 = .ok (.getfield 104, 3) := by decide +kernel
theorem d_X10_vent_8 : decode (cd mX10_vent) 8 = .ok (.iload_n 1, 1) := by decide +kernel
theorem d_X10_vent_9 : decode (cd mX10_vent) 9 = .ok (.invokevirtual 136, 3) := by decide +kernel
theorem d_X10_vent_12 : decode (cd mX10_vent) 12 = .ok (.ifCond .eq 16, 3) := by decide +kernel
theorem d_X10_vent_15 : decode (cd mX10_vent) 15 = .ok (.iload_n 2, 1) := by decide +kernel
theorem d_X10_vent_16 : decode (cd mX10_vent) 16 = .ok (.iconst 0, 1) := by decide +kernel
theorem d_X10_vent_17 : decode (cd mX10_vent) 17 = .ok (.iconst 3, 1) := by decide +kernel
theorem d_X10_vent_18 : decode (cd mX10_vent) 18 = .ok (.invokestatic 73, 3) := by decide +kernel
theorem d_X10_vent_21 : decode (cd mX10_vent) 21 = .ok (.ifCond .eq 7, 3) := by decide +kernel
theorem d_X10_vent_24 : decode (cd mX10_vent) 24 = .ok (.iconst 1, 1) := by decide +kernel
theorem d_X10_vent_25 : decode (cd mX10_vent) 25 = .ok (.goto 4, 3) := by decide +kernel
theorem d_X10_vent_28 : decode (cd mX10_vent) 28 = .ok (.iconst 0, 1) := by decide +kernel
theorem d_X10_vent_29 : decode (cd mX10_vent) 29 = .ok (.invokevirtual 113, 3) := by decide +kernel
theorem d_X10_vent_32 : decode (cd mX10_vent) 32 = .ok (.ifCond .eq 5, 3) := by decide +kernel
theorem d_X10_vent_35 : decode (cd mX10_vent) 35 = .ok (.iconst (-1), 1) := by decide +kernel
theorem d_X10_vent_36 : decode (cd mX10_vent) 36 = .ok (.ireturn, 1) := by decide +kernel
theorem d_X10_vent_37 : decode (cd mX10_vent) 37 = .ok (.iload_n 2, 1) := by decide +kernel
theorem d_X10_vent_38 : decode (cd mX10_vent) 38 = .ok (.iconst 3, 1) := by decide +kernel
theorem d_X10_vent_39 : decode (cd mX10_vent) 39 = .ok (.if_icmp .ne 22, 3) := by decide +kernel
theorem d_X10_vent_42 : decode (cd mX10_vent) 42 = .ok (.aload_n 0, 1) := by decide +kernel
theorem d_X10_vent_43 : decode (cd mX10_vent) 43 = .ok (.getfield 26, 3) := by decide +kernel
theorem d_X10_vent_46 : decode (cd mX10_vent) 46 = .ok (.iload_n 1, 1) := by decide +kernel
theorem d_X10_vent_47 : decode (cd mX10_vent) 47 = .ok (.invokevirtual 140, 3) := by decide +kernel
theorem d_X10_vent_50 : decode (cd mX10_vent) 50 = .ok (.ifCond .eq 7, 3) := by decide +kernel
theorem d_X10_vent_53 : decode (cd mX10_vent) 53 = .ok (.iconst 1, 1) := by decide +kernel
theorem d_X10_vent_54 : decode (cd mX10_vent) 54 = .ok (.goto 19, 3) := by decide +kernel
theorem d_X10_vent_57 : decode (cd mX10_vent) 57 = .ok (.iconst 0, 1) := by decide +kernel
theorem d_X10_vent_58 : decode (cd mX10_vent) 58 = .ok (.goto 15, 3) := by decide +kernel
theorem d_X10_vent_61 : decode (cd mX10_vent) 61 = .ok (.aload_n 0, 1) := by decide +kernel
theorem d_X10_vent_62 : decode (cd mX10_vent) 62 = .ok (.getfield 19, 3) := by decide +kernel
theorem d_X10_vent_65 : decode (cd mX10_vent) 65 = .ok (.getfield 104, 3) := by decide +kernel
theorem d_X10_vent_68 : decode (cd mX10_vent) 68 = .ok (.iload_n 1, 1) := by decide +kernel
theorem d_X10_vent_69 : decode (cd mX10_vent) 69 = .ok (.iload_n 2, 1) := by decide +kernel
theorem d_X10_vent_70 : decode (cd mX10_vent) 70 = .ok (.invokevirtual 143, 3) := by decide +kernel
theorem d_X10_vent_73 : decode (cd mX10_vent) 73 = .ok (.ireturn, 1) := by decide +kernel
theorem d_X10_plan_0 : decode (cd mX10_plan) 0 = .ok (.aload_n 0, 1) := by decide +kernel
theorem d_X10_plan_1 : decode (cd mX10_plan) 1 = .ok (.aload_n 0, 1) := by decide +kernel
theorem d_X10_plan_2 : decode (cd mX10_plan) 2 = .ok (.getfield 19, 3) := by decide +kernel
theorem d_X10_plan_5 : decode (cd mX10_plan) 5 = .ok (.getfield 147, 3) := by decide +kernel
theorem d_X10_plan_8 : decode (cd mX10_plan) 8 = .ok (.iload_n 1, 1) := by decide +kernel
theorem d_X10_plan_9 : decode (cd mX10_plan) 9 = .ok (.invokevirtual 136, 3) := by decide +kernel
theorem d_X10_plan_12 : decode (cd mX10_plan) 12 = .ok (.ifCond .eq 16, 3) := by decide +kernel
theorem d_X10_plan_15 : decode (cd mX10_plan) 15 = .ok (.iload_n 2, 1) := by decide +kernel
theorem d_X10_plan_16 : decode (cd mX10_plan) 16 = .ok (.iconst 0, 1) := by decide +kernel
theorem d_X10_plan_17 : decode (cd mX10_plan) 17 = .ok (.iconst 3, 1) := by decide +kernel
theorem d_X10_plan_18 : decode (cd mX10_plan) 18 = .ok (.invokestatic 73, 3) := by decide +kernel
theorem d_X10_plan_21 : decode (cd mX10_plan) 21 = .ok (.ifCond .eq 7, 3) := by decide +kernel
theorem d_X10_plan_24 : decode (cd mX10_plan) 24 = .ok (.iconst 1, 1) := by decide +kernel
theorem d_X10_plan_25 : decode (cd mX10_plan) 25 = .ok (.goto 4, 3) := by decide +kernel
theorem d_X10_plan_28 : decode (cd mX10_plan) 28 = .ok (.iconst 0, 1) := by decide +kernel
theorem d_X10_plan_29 : decode (cd mX10_plan) 29 = .ok (.invokevirtual 113, 3) := by decide +kernel
theorem d_X10_plan_32 : decode (cd mX10_plan) 32 = .ok (.ifCond .eq 5, 3) := by decide +kernel
theorem d_X10_plan_35 : decode (cd mX10_plan) 35 = .ok (.iconst (-1), 1) := by decide +kernel
theorem d_X10_plan_36 : decode (cd mX10_plan) 36 = .ok (.ireturn, 1) := by decide +kernel
theorem d_X10_plan_37 : decode (cd mX10_plan) 37 = .ok (.iload_n 2, 1) := by decide +kernel
theorem d_X10_plan_38 : decode (cd mX10_plan) 38 = .ok (.iconst 3, 1) := by decide +kernel
theorem d_X10_plan_39 : decode (cd mX10_plan) 39 = .ok (.if_icmp .ne 30, 3) := by decide +kernel
theorem d_X10_plan_42 : decode (cd mX10_plan) 42 = .ok (.aload_n 0, 1) := by decide +kernel
theorem d_X10_plan_43 : decode (cd mX10_plan) 43 = .ok (.getfield 40, 3) := by decide +kernel
theorem d_X10_plan_46 : decode (cd mX10_plan) 46 = .ok (.aload_n 0, 1) := by decide +kernel
theorem d_X10_plan_47 : decode (cd mX10_plan) 47 = .ok (.getfield 19, 3) := by decide +kernel
theorem d_X10_plan_50 : decode (cd mX10_plan) 50 = .ok (.aload_n 0, 1) := by decide +kernel
theorem d_X10_plan_51 : decode (cd mX10_plan) 51 = .ok (.getfield 26, 3) := by decide +kernel
theorem d_X10_plan_54 : decode (cd mX10_plan) 54 = .ok (.iload_n 1, 1) := by decide +kernel
theorem d_X10_plan_55 : decode (cd mX10_plan) 55 = .ok (.invokevirtual 150, 3) := by decide +kernel
theorem d_X10_plan_58 : decode (cd mX10_plan) 58 = .ok (.ifCond .eq 7, 3) := by decide +kernel
theorem d_X10_plan_61 : decode (cd mX10_plan) 61 = .ok (.iconst 1, 1) := by decide +kernel
theorem d_X10_plan_62 : decode (cd mX10_plan) 62 = .ok (.goto 19, 3) := by decide +kernel
theorem d_X10_plan_65 : decode (cd mX10_plan) 65 = .ok (.iconst 0, 1) := by decide +kernel
theorem d_X10_plan_66 : decode (cd mX10_plan) 66 = .ok (.goto 15, 3) := by decide +kernel
theorem d_X10_plan_69 : decode (cd mX10_plan) 69 = .ok (.aload_n 0, 1) := by decide +kernel
theorem d_X10_plan_70 : decode (cd mX10_plan) 70 = .ok (.getfield 19, 3) := by decide +kernel
theorem d_X10_plan_73 : decode (cd mX10_plan) 73 = .ok (.getfield 147, 3) := by decide +kernel
theorem d_X10_plan_76 : decode (cd mX10_plan) 76 = .ok (.iload_n 1, 1) := by decide +kernel
theorem d_X10_plan_77 : decode (cd mX10_plan) 77 = .ok (.iload_n 2, 1) := by decide +kernel
theorem d_X10_plan_78 : decode (cd mX10_plan) 78 = .ok (.invokevirtual 143, 3) := by decide +kernel
theorem d_X10_plan_81 : decode (cd mX10_plan) 81 = .ok (.ireturn, 1) := by decide +kernel
theorem d_X10_goes_0 : decode (cd mX10_goes) 0 = .ok (.aload_n 0, 1) := by decide +kernel
theorem d_X10_goes_1 : decode (cd mX10_goes) 1 = .ok (.iload_n 1, 1) := by decide +kernel
theorem d_X10_goes_2 : decode (cd mX10_goes) 2 = .ok (.iconst 0, 1) := by decide +kernel
theorem d_X10_goes_3 : decode (cd mX10_goes) 3 = .ok (.bipush 100, 2) := by decide +kernel
theorem d_X10_goes_5 : decode (cd mX10_goes) 5 = .ok (.invokestatic 73, 3) := by decide +kernel
theorem d_X10_goes_8 : decode (cd mX10_goes) 8 = .ok (.invokevirtual 154, 3) := by decide +kernel
theorem d_X10_goes_11 : decode (cd mX10_goes) 11 = .ok (.ifCond .eq 7, 3) := by decide +kernel
theorem d_X10_goes_14 : decode (cd mX10_goes) 14 = .ok (.iconst (-1), 1) := by decide +kernel
theorem d_X10_goes_15 : decode (cd mX10_goes) 15 = .ok (.goto 11, 3) := by decide +kernel
theorem d_X10_goes_18 : decode (cd mX10_goes) 18 = .ok (.aload_n 0, 1) := by decide +kernel
theorem d_X10_goes_19 : decode (cd mX10_goes) 19 = .ok (.getfield 26, 3) := by decide +kernel
theorem d_X10_goes_22 : decode (cd mX10_goes) 22 = .ok (.iload_n 1, 1) := by decide +kernel
theorem d_X10_goes_23 : decode (cd mX10_goes) 23 = .ok (.invokevirtual 157, 3) := by decide +kernel
theorem d_X10_goes_26 : decode (cd mX10_goes) 26 = .ok (.ireturn, 1) := by decide +kernel
theorem d_X10_stays_0 : decode (cd mX10_stays) 0 = .ok (.aload_n 0, 1) := by decide +kernel
theorem d_X10_stays_1 : decode (cd mX10_stays) 1 = .ok (.iconst 1, 1) := by decide +kernel
theorem d_X10_stays_2 : decode (cd mX10_stays) 2 = .ok (.invokevirtual 154, 3) := by decide +kernel
theorem d_X10_stays_5 : decode (cd mX10_stays) 5 = .ok (.ifCond .eq 5, 3) := by decide +kernel
theorem d_X10_stays_8 : decode (cd mX10_stays) 8 = .ok (.iconst (-1), 1) := by decide +kernel
theorem d_X10_stays_9 : decode (cd mX10_stays) 9 = .ok (.ireturn, 1) := by decide +kernel
theorem d_X10_stays_10 : decode (cd mX10_stays) 10 = .ok (.iconst (-1), 1) := by decide +kernel
theorem d_X10_stays_11 : decode (cd mX10_stays) 11 = .ok (.istore_n 1, 1) := by decide +kernel
theorem d_X10_stays_12 : decode (cd mX10_stays) 12 = .ok (.iconst (-1), 1) := by decide +kernel
theorem d_X10_stays_13 : decode (cd mX10_stays) 13 = .ok (.istore_n 2, 1) := by decide +kernel
theorem d_X10_stays_14 : decode (cd mX10_stays) 14 = .ok (.iconst 0, 1) := by decide +kernel
theorem d_X10_stays_15 : decode (cd mX10_stays) 15 = .ok (.istore_n 3, 1) := by decide +kernel
theorem d_X10_stays_16 : decode (cd mX10_stays) 16 = .ok (.iload_n 3, 1) := by decide +kernel
theorem d_X10_stays_17 : decode (cd mX10_stays) 17 = .ok (.bipush 100, 2) := by decide +kernel
theorem d_X10_stays_19 : decode (cd mX10_stays) 19 = .ok (.if_icmp .gt 44, 3) := by decide +kernel
theorem d_X10_stays_22 : decode (cd mX10_stays) 22 = .ok (.aload_n 0, 1) := by decide +kernel
theorem d_X10_stays_23 : decode (cd mX10_stays) 23 = .ok (.getfield 26, 3) := by decide +kernel
theorem d_X10_stays_26 : decode (cd mX10_stays) 26 = .ok (.iload_n 3, 1) := by decide +kernel
theorem d_X10_stays_27 : decode (cd mX10_stays) 27 = .ok (.invokestatic 133, 3) := by decide +kernel
theorem d_X10_stays_30 : decode (cd mX10_stays) 30 = .ok (.iload_n 3, 1) := by decide +kernel
theorem d_X10_stays_31 : decode (cd mX10_stays) 31 = .ok (.invokevirtual 160, 3) := by decide +kernel
theorem d_X10_stays_34 : decode (cd mX10_stays) 34 = .ok (.aload_n 0, 1) := by decide +kernel
theorem d_X10_stays_35 : decode (cd mX10_stays) 35 = .ok (.getfield 26, 3) := by decide +kernel
theorem d_X10_stays_38 : decode (cd mX10_stays) 38 = .ok (.getfield 117, 3) := by decide +kernel
theorem d_X10_stays_41 : decode (cd mX10_stays) 41 = .ok (.if_icmp .ne 16, 3) := by decide +kernel
theorem d_X10_stays_44 : decode (cd mX10_stays) 44 = .ok (.iload_n 1, 1) := by decide +kernel
theorem d_X10_stays_45 : decode (cd mX10_stays) 45 = .ok (.iconst (-1), 1) := by decide +kernel
theorem d_X10_stays_46 : decode (cd mX10_stays) 46 = .ok (.if_icmp .ne 7, 3) := by decide +kernel
theorem d_X10_stays_49 : decode (cd mX10_stays) 49 = .ok (.iload_n 3, 1) := by decide +kernel
theorem d_X10_stays_50 : decode (cd mX10_stays) 50 = .ok (.goto 4, 3) := by decide +kernel
theorem d_X10_stays_53 : decode (cd mX10_stays) 53 = .ok (.iload_n 1, 1) := by decide +kernel
theorem d_X10_stays_54 : decode (cd mX10_stays) 54 = .ok (.istore_n 1, 1) := by decide +kernel
theorem d_X10_stays_55 : decode (cd mX10_stays) 55 = .ok (.iload_n 3, 1) := by decide +kernel
theorem d_X10_stays_56 : decode (cd mX10_stays) 56 = .ok (.istore_n 2, 1) := by decide +kernel
theorem d_X10_stays_57 : decode (cd mX10_stays) 57 = .ok (.iinc 3 1, 3) := by decide +kernel
theorem d_X10_stays_60 : decode (cd mX10_stays) 60 = .ok (.goto (-44), 3) := by decide +kernel
theorem d_X10_stays_63 : decode (cd mX10_stays) 63 = .ok (.iload_n 1, 1) := by decide +kernel
theorem d_X10_stays_64 : decode (cd mX10_stays) 64 = .ok (.iconst (-1), 1) := by decide +kernel
theorem d_X10_stays_65 : decode (cd mX10_stays) 65 = .ok (.if_icmp .ne 8, 3) := by decide +kernel
theorem d_X10_stays_68 : decode (cd mX10_stays) 68 = .ok (.bipush (-2), 2) := by decide +kernel
theorem d_X10_stays_70 : decode (cd mX10_stays) 70 = .ok (.goto 10, 3) := by decide +kernel
theorem d_X10_stays_73 : decode (cd mX10_stays) 73 = .ok (.sipush 1000, 3) := by decide +kernel
theorem d_X10_stays_76 : decode (cd mX10_stays) 76 = .ok (.iload_n 1, 1) := by decide +kernel
theorem d_X10_stays_77 : decode (cd mX10_stays) 77 = .ok (.imul, 1) := by decide +kernel
theorem d_X10_stays_78 : decode (cd mX10_stays) 78 = .ok (.iload_n 2, 1) := by decide +kernel
theorem d_X10_stays_79 : decode (cd mX10_stays) 79 = .ok (.iadd, 1) := by decide +kernel
theorem d_X10_stays_80 : decode (cd mX10_stays) 80 = .ok (.ireturn, 1) := by decide +kernel
theorem d_X10_angleIn_0 : decode (cd mX10_angleIn) 0 = .ok (.aload_n 0, 1) := by decide +kernel
theorem d_X10_angleIn_1 : decode (cd mX10_angleIn) 1 = .ok (.iload_n 1, 1) := by decide +kernel
theorem d_X10_angleIn_2 : decode (cd mX10_angleIn) 2 = .ok (.iconst 0, 1) := by decide +kernel
theorem d_X10_angleIn_3 : decode (cd mX10_angleIn) 3 = .ok (.bipush 60, 2) := by decide +kernel
theorem d_X10_angleIn_5 : decode (cd mX10_angleIn) 5 = .ok (.invokestatic 73, 3) := by decide +kernel
theorem d_X10_angleIn_8 : decode (cd mX10_angleIn) 8 = .ok (.invokevirtual 154, 3) := by decide +kernel
theorem d_X10_angleIn_11 : decode (cd mX10_angleIn) 11 = .ok (.ifCond .eq 7, 3) := by decide +kernel
theorem d_X10_angleIn_14 : decode (cd mX10_angleIn) 14 = .ok (.iconst (-1), 1) := by decide +kernel
theorem d_X10_angleIn_15 : decode (cd mX10_angleIn) 15 = .ok (.goto 25, 3) := by decide +kernel
theorem d_X10_angleIn_18 : decode (cd mX10_angleIn) 18 = .ok (.aload_n 0, 1) := by decide +kernel
theorem d_X10_angleIn_19 : decode (cd mX10_angleIn) 19 = .ok (.getfield 40, 3) := by decide +kernel
theorem d_X10_angleIn_22 : decode (cd mX10_angleIn) 22 = .ok (.aload_n 0, 1) := by decide +kernel
theorem d_X10_angleIn_23 : decode (cd mX10_angleIn) 23 = .ok (.getfield 19, 3) := by decide +kernel
theorem d_X10_angleIn_26 : decode (cd mX10_angleIn) 26 = .ok (.aload_n 0, 1) := by decide +kernel
theorem d_X10_angleIn_27 : decode (cd mX10_angleIn) 27 = .ok (.getfield 26, 3) := by decide +kernel
theorem d_X10_angleIn_30 : decode (cd mX10_angleIn) 30 = .ok (.iload_n 1, 1) := by decide +kernel
theorem d_X10_angleIn_31 : decode (cd mX10_angleIn) 31 = .ok (.invokevirtual 163, 3) := by decide +kernel
theorem d_X10_angleIn_34 : decode (cd mX10_angleIn) 34 = .ok (.getfield 117, 3) := by decide +kernel
theorem d_X10_angleIn_37 : decode (cd mX10_angleIn) 37 = .ok (.bipush 9, 2) := by decide +kernel
theorem d_X10_angleIn_39 : decode (cd mX10_angleIn) 39 = .ok (.iadd, 1) := by decide +kernel
theorem d_X10_angleIn_40 : decode (cd mX10_angleIn) 40 = .ok (.ireturn, 1) := by decide +kernel
theorem d_X10_dampIn_0 : decode (cd mX10_dampIn) 0 = .ok (.aload_n 0, 1) := by decide +kernel
theorem d_X10_dampIn_1 : decode (cd mX10_dampIn) 1 = .ok (.iload_n 1, 1) := by decide +kernel
theorem d_X10_dampIn_2 : decode (cd mX10_dampIn) 2 = .ok (.iconst 0, 1) := by decide +kernel
theorem d_X10_dampIn_3 : decode (cd mX10_dampIn) 3 = .ok (.bipush 60, 2) := by decide +kernel
theorem d_X10_dampIn_5 : decode (cd mX10_dampIn) 5 = .ok (.invokestatic 73, 3) := by decide +kernel
theorem d_X10_dampIn_8 : decode (cd mX10_dampIn) 8 = .ok (.invokevirtual 154, 3) := by decide +kernel
theorem d_X10_dampIn_11 : decode (cd mX10_dampIn) 11 = .ok (.ifCond .eq 7, 3) := by decide +kernel
theorem d_X10_dampIn_14 : decode (cd mX10_dampIn) 14 = .ok (.iconst (-1), 1) := by decide +kernel
theorem d_X10_dampIn_15 : decode (cd mX10_dampIn) 15 = .ok (.goto 22, 3) := by decide +kernel
theorem d_X10_dampIn_18 : decode (cd mX10_dampIn) 18 = .ok (.aload_n 0, 1) := by decide +kernel
theorem d_X10_dampIn_19 : decode (cd mX10_dampIn) 19 = .ok (.getfield 40, 3) := by decide +kernel
theorem d_X10_dampIn_22 : decode (cd mX10_dampIn) 22 = .ok (.aload_n 0, 1) := by decide +kernel
theorem d_X10_dampIn_23 : decode (cd mX10_dampIn) 23 = .ok (.getfield 19, 3) := by decide +kernel
theorem d_X10_dampIn_26 : decode (cd mX10_dampIn) 26 = .ok (.aload_n 0, 1) := by decide +kernel
theorem d_X10_dampIn_27 : decode (cd mX10_dampIn) 27 = .ok (.getfield 26, 3) := by decide +kernel
theorem d_X10_dampIn_30 : decode (cd mX10_dampIn) 30 = .ok (.iload_n 1, 1) := by decide +kernel
theorem d_X10_dampIn_31 : decode (cd mX10_dampIn) 31 = .ok (.invokevirtual 163, 3) := by decide +kernel
theorem d_X10_dampIn_34 : decode (cd mX10_dampIn) 34 = .ok (.getfield 120, 3) := by decide +kernel
theorem d_X10_dampIn_37 : decode (cd mX10_dampIn) 37 = .ok (.ireturn, 1) := by decide +kernel
theorem d_X10_whoIn_0 : decode (cd mX10_whoIn) 0 = .ok (.aload_n 0, 1) := by decide +kernel
theorem d_X10_whoIn_1 : decode (cd mX10_whoIn) 1 = .ok (.iload_n 1, 1) := by decide +kernel
theorem d_X10_whoIn_2 : decode (cd mX10_whoIn) 2 = .ok (.iconst 0, 1) := by decide +kernel
theorem d_X10_whoIn_3 : decode (cd mX10_whoIn) 3 = .ok (.bipush 60, 2) := by decide +kernel
theorem d_X10_whoIn_5 : decode (cd mX10_whoIn) 5 = .ok (.invokestatic 73, 3) := by decide +kernel
theorem d_X10_whoIn_8 : decode (cd mX10_whoIn) 8 = .ok (.invokevirtual 154, 3) := by decide +kernel
theorem d_X10_whoIn_11 : decode (cd mX10_whoIn) 11 = .ok (.ifCond .eq 7, 3) := by decide +kernel
theorem d_X10_whoIn_14 : decode (cd mX10_whoIn) 14 = .ok (.iconst (-1), 1) := by decide +kernel
theorem d_X10_whoIn_15 : decode (cd mX10_whoIn) 15 = .ok (.goto 22, 3) := by decide +kernel
theorem d_X10_whoIn_18 : decode (cd mX10_whoIn) 18 = .ok (.aload_n 0, 1) := by decide +kernel
theorem d_X10_whoIn_19 : decode (cd mX10_whoIn) 19 = .ok (.getfield 40, 3) := by decide +kernel
theorem d_X10_whoIn_22 : decode (cd mX10_whoIn) 22 = .ok (.aload_n 0, 1) := by decide +kernel
theorem d_X10_whoIn_23 : decode (cd mX10_whoIn) 23 = .ok (.getfield 19, 3) := by decide +kernel
theorem d_X10_whoIn_26 : decode (cd mX10_whoIn) 26 = .ok (.aload_n 0, 1) := by decide +kernel
theorem d_X10_whoIn_27 : decode (cd mX10_whoIn) 27 = .ok (.getfield 26, 3) := by decide +kernel
theorem d_X10_whoIn_30 : decode (cd mX10_whoIn) 30 = .ok (.iload_n 1, 1) := by decide +kernel
theorem d_X10_whoIn_31 : decode (cd mX10_whoIn) 31 = .ok (.invokevirtual 163, 3) := by decide +kernel
theorem d_X10_whoIn_34 : decode (cd mX10_whoIn) 34 = .ok (.invokevirtual 123, 3) := by decide +kernel
theorem d_X10_whoIn_37 : decode (cd mX10_whoIn) 37 = .ok (.ireturn, 1) := by decide +kernel
theorem d_X10_daysOf_0 : decode (cd mX10_daysOf) 0 = .ok (.iload_n 1, 1) := by decide +kernel
theorem d_X10_daysOf_1 : decode (cd mX10_daysOf) 1 = .ok (.iconst 0, 1) := by decide +kernel
theorem d_X10_daysOf_2 : decode (cd mX10_daysOf) 2 = .ok (.iconst 2, 1) := by decide +kernel
theorem d_X10_daysOf_3 : decode (cd mX10_daysOf) 3 = .ok (.invokestatic 73, 3) := by decide +kernel
theorem d_X10_daysOf_6 : decode (cd mX10_daysOf) 6 = .ok (.ifCond .eq 17, 3) := by decide +kernel
theorem d_X10_daysOf_9 : decode (cd mX10_daysOf) 9 = .ok (.iload_n 2, 1) := by decide +kernel
theorem d_X10_daysOf_10 : decode (cd mX10_daysOf) 10 = .ok (.iconst 0, 1) := by decide +kernel
theorem d_X10_daysOf_11 : decode (cd mX10_daysOf) 11 = .ok (.bipush 60, 2) := by decide +kernel
theorem d_X10_daysOf_13 : decode (cd mX10_daysOf) 13 = .ok (.invokestatic 73, 3) := by decide +kernel
theorem d_X10_daysOf_16 : decode (cd mX10_daysOf) 16 = .ok (.ifCond .eq 7, 3) := by decide +kernel
theorem d_X10_daysOf_19 : decode (cd mX10_daysOf) 19 = .ok (.iconst 1, 1) := by decide +kernel
theorem d_X10_daysOf_20 : decode (cd mX10_daysOf) 20 = .ok (.goto 4, 3) := by decide +kernel
theorem d_X10_daysOf_23 : decode (cd mX10_daysOf) 23 = .ok (.iconst 0, 1) := by decide +kernel
theorem d_X10_daysOf_24 : decode (cd mX10_daysOf) 24 = .ok (.istore_n 3, 1) := by decide +kernel
theorem d_X10_daysOf_25 : decode (cd mX10_daysOf) 25 = .ok (.aload_n 0, 1) := by decide +kernel
theorem d_X10_daysOf_26 : decode (cd mX10_daysOf) 26 = .ok (.iload_n 3, 1) := by decide +kernel
theorem d_X10_daysOf_27 : decode (cd mX10_daysOf) 27 = .ok (.invokevirtual 154, 3) := by decide +kernel
theorem d_X10_daysOf_30 : decode (cd mX10_daysOf) 30 = .ok (.ifCond .eq 7, 3) := by decide +kernel
theorem d_X10_daysOf_33 : decode (cd mX10_daysOf) 33 = .ok (.iconst (-1), 1) := by decide +kernel
theorem d_X10_daysOf_34 : decode (cd mX10_daysOf) 34 = .ok (.goto 20, 3) := by decide +kernel
theorem d_X10_daysOf_37 : decode (cd mX10_daysOf) 37 = .ok (.aload_n 0, 1) := by decide +kernel
theorem d_X10_daysOf_38 : decode (cd mX10_daysOf) 38 = .ok (.getfield 40, 3) := by decide +kernel
theorem d_X10_daysOf_41 : decode (cd mX10_daysOf) 41 = .ok (.aload_n 0, 1) := by decide +kernel
theorem d_X10_daysOf_42 : decode (cd mX10_daysOf) 42 = .ok (.getfield 19, 3) := by decide +kernel
theorem d_X10_daysOf_45 : decode (cd mX10_daysOf) 45 = .ok (.aload_n 0, 1) := by decide +kernel
theorem d_X10_daysOf_46 : decode (cd mX10_daysOf) 46 = .ok (.getfield 26, 3) := by decide +kernel
theorem d_X10_daysOf_49 : decode (cd mX10_daysOf) 49 = .ok (.iload_n 1, 1) := by decide +kernel
theorem d_X10_daysOf_50 : decode (cd mX10_daysOf) 50 = .ok (.iload_n 2, 1) := by decide +kernel
theorem d_X10_daysOf_51 : decode (cd mX10_daysOf) 51 = .ok (.invokevirtual 167, 3) := by decide +kernel
theorem d_X10_daysOf_54 : decode (cd mX10_daysOf) 54 = .ok (.ireturn, 1) := by decide +kernel
theorem d_X10_when_0 : decode (cd mX10_when) 0 = .ok (.aload_n 0, 1) := by decide +kernel
theorem d_X10_when_1 : decode (cd mX10_when) 1 = .ok (.iload_n 1, 1) := by decide +kernel
theorem d_X10_when_2 : decode (cd mX10_when) 2 = .ok (.iconst 0, 1) := by decide +kernel
theorem d_X10_when_3 : decode (cd mX10_when) 3 = .ok (.iconst 3, 1) := by decide +kernel
theorem d_X10_when_4 : decode (cd mX10_when) 4 = .ok (.invokestatic 73, 3) := by decide +kernel
theorem d_X10_when_7 : decode (cd mX10_when) 7 = .ok (.invokevirtual 154, 3) := by decide +kernel
theorem d_X10_when_10 : decode (cd mX10_when) 10 = .ok (.ifCond .eq 7, 3) := by decide +kernel
theorem d_X10_when_13 : decode (cd mX10_when) 13 = .ok (.iconst (-1), 1) := by decide +kernel
theorem d_X10_when_14 : decode (cd mX10_when) 14 = .ok (.goto 19, 3) := by decide +kernel
theorem d_X10_when_17 : decode (cd mX10_when) 17 = .ok (.aload_n 0, 1) := by decide +kernel
theorem d_X10_when_18 : decode (cd mX10_when) 18 = .ok (.getfield 40, 3) := by decide +kernel
theorem d_X10_when_21 : decode (cd mX10_when) 21 = .ok (.aload_n 0, 1) := by decide +kernel
theorem d_X10_when_22 : decode (cd mX10_when) 22 = .ok (.getfield 19, 3) := by decide +kernel
theorem d_X10_when_25 : decode (cd mX10_when) 25 = .ok (.aload_n 0, 1) := by decide +kernel
theorem d_X10_when_26 : decode (cd mX10_when) 26 = .ok (.getfield 26, 3) := by decide +kernel
theorem d_X10_when_29 : decode (cd mX10_when) 29 = .ok (.iload_n 1, 1) := by decide +kernel
theorem d_X10_when_30 : decode (cd mX10_when) 30 = .ok (.invokevirtual 171, 3) := by decide +kernel
theorem d_X10_when_33 : decode (cd mX10_when) 33 = .ok (.ireturn, 1) := by decide +kernel
theorem d_X10_round_0 : decode (cd mX10_round) 0 = .ok (.aload_n 0, 1) := by decide +kernel
theorem d_X10_round_1 : decode (cd mX10_round) 1 = .ok (.iconst 1, 1) := by decide +kernel
theorem d_X10_round_2 : decode (cd mX10_round) 2 = .ok (.invokevirtual 154, 3) := by decide +kernel
theorem d_X10_round_5 : decode (cd mX10_round) 5 = .ok (.ifCond .eq 7, 3) := by decide +kernel
theorem d_X10_round_8 : decode (cd mX10_round) 8 = .ok (.iconst (-1), 1) := by decide +kernel
theorem d_X10_round_9 : decode (cd mX10_round) 9 = .ok (.goto 18, 3) := by decide +kernel
theorem d_X10_round_12 : decode (cd mX10_round) 12 = .ok (.aload_n 0, 1) := by decide +kernel
theorem d_X10_round_13 : decode (cd mX10_round) 13 = .ok (.getfield 40, 3) := by decide +kernel
theorem d_X10_round_16 : decode (cd mX10_round) 16 = .ok (.aload_n 0, 1) := by decide +kernel
theorem d_X10_round_17 : decode (cd mX10_round) 17 = .ok (.getfield 19, 3) := by decide +kernel
theorem d_X10_round_20 : decode (cd mX10_round) 20 = .ok (.aload_n 0, 1) := by decide +kernel
theorem d_X10_round_21 : decode (cd mX10_round) 21 = .ok (.getfield 26, 3) := by decide +kernel
theorem d_X10_round_24 : decode (cd mX10_round) 24 = .ok (.invokevirtual 175, 3) := by decide +kernel
theorem d_X10_round_27 : decode (cd mX10_round) 27 = .ok (.ireturn, 1) := by decide +kernel
theorem d_X10_kept_0 : decode (cd mX10_kept) 0 = .ok (.aload_n 0, 1) := by decide +kernel
theorem d_X10_kept_1 : decode (cd mX10_kept) 1 = .ok (.iload_n 1, 1) := by decide +kernel
theorem d_X10_kept_2 : decode (cd mX10_kept) 2 = .ok (.iconst 0, 1) := by decide +kernel
theorem d_X10_kept_3 : decode (cd mX10_kept) 3 = .ok (.bipush 60, 2) := by decide +kernel
theorem d_X10_kept_5 : decode (cd mX10_kept) 5 = .ok (.invokestatic 73, 3) := by decide +kernel
theorem d_X10_kept_8 : decode (cd mX10_kept) 8 = .ok (.invokevirtual 154, 3) := by decide +kernel
theorem d_X10_kept_11 : decode (cd mX10_kept) 11 = .ok (.ifCond .eq 5, 3) := by decide +kernel
theorem d_X10_kept_14 : decode (cd mX10_kept) 14 = .ok (.iconst (-1), 1) := by decide +kernel
theorem d_X10_kept_15 : decode (cd mX10_kept) 15 = .ok (.ireturn, 1) := by decide +kernel
theorem d_X10_kept_16 : decode (cd mX10_kept) 16 = .ok (.aload_n 0, 1) := by decide +kernel
theorem d_X10_kept_17 : decode (cd mX10_kept) 17 = .ok (.getfield 19, 3) := by decide +kernel
theorem d_X10_kept_20 : decode (cd mX10_kept) 20 = .ok (.aload_n 0, 1) := by decide +kernel
theorem d_X10_kept_21 : decode (cd mX10_kept) 21 = .ok (.getfield 40, 3) := by decide +kernel
theorem d_X10_kept_24 : decode (cd mX10_kept) 24 = .ok (.aload_n 0, 1) := by decide +kernel
theorem d_X10_kept_25 : decode (cd mX10_kept) 25 = .ok (.getfield 19, 3) := by decide +kernel
theorem d_X10_kept_28 : decode (cd mX10_kept) 28 = .ok (.aload_n 0, 1) := by decide +kernel
theorem d_X10_kept_29 : decode (cd mX10_kept) 29 = .ok (.getfield 26, 3) := by decide +kernel
theorem d_X10_kept_32 : decode (cd mX10_kept) 32 = .ok (.iload_n 1, 1) := by decide +kernel
theorem d_X10_kept_33 : decode (cd mX10_kept) 33 = .ok (.invokevirtual 163, 3) := by decide +kernel
theorem d_X10_kept_36 : decode (cd mX10_kept) 36 = .ok (.aload_n 0, 1) := by decide +kernel
theorem d_X10_kept_37 : decode (cd mX10_kept) 37 = .ok (.getfield 26, 3) := by decide +kernel
theorem d_X10_kept_40 : decode (cd mX10_kept) 40 = .ok (.getfield 179, 3) := by decide +kernel
theorem d_X10_kept_43 : decode (cd mX10_kept) 43 = .ok (.invokevirtual 182, 3) := by decide +kernel
theorem d_X10_kept_46 : decode (cd mX10_kept) 46 = .ok (.ireturn, 1) := by decide +kernel
theorem d_X10_worthOf_0 : decode (cd mX10_worthOf) 0 = .ok (.iload_n 2, 1) := by decide +kernel
theorem d_X10_worthOf_1 : decode (cd mX10_worthOf) 1 = .ok (.iconst 1, 1) := by decide +kernel
theorem d_X10_worthOf_2 : decode (cd mX10_worthOf) 2 = .ok (.iconst 4, 1) := by decide +kernel
theorem d_X10_worthOf_3 : decode (cd mX10_worthOf) 3 = .ok (.invokestatic 73, 3) := by decide +kernel
theorem d_X10_worthOf_6 : decode (cd mX10_worthOf) 6 = .ok (.ifCond .eq 29, 3) := by decide +kernel
theorem d_X10_worthOf_9 : decode (cd mX10_worthOf) 9 = .ok (.aload_n 0, 1) := by decide +kernel
theorem d_X10_worthOf_10 : decode (cd mX10_worthOf) 10 = .ok (.getfield 47, 3) := by decide +kernel
theorem d_X10_worthOf_13 : decode (cd mX10_worthOf) 13 = .ok (.iload_n 1, 1) := by decide +kernel
theorem d_X10_worthOf_14 : decode (cd mX10_worthOf) 14 = .ok (.iload_n 2, 1) := by decide +kernel
theorem d_X10_worthOf_15 : decode (cd mX10_worthOf) 15 = .ok (.aload_n 0, 1) := by decide +kernel
theorem d_X10_worthOf_16 : decode (cd mX10_worthOf) 16 = .ok (.getfield 19, 3) := by decide +kernel
theorem d_X10_worthOf_19 : decode (cd mX10_worthOf) 19 = .ok (.getfield 104, 3) := by decide +kernel
theorem d_X10_worthOf_22 : decode (cd mX10_worthOf) 22 = .ok (.getfield 108, 3) := by decide +kernel
theorem d_X10_worthOf_25 : decode (cd mX10_worthOf) 25 = .ok (.invokevirtual 186, 3) := by decide +kernel
theorem d_X10_worthOf_28 : decode (cd mX10_worthOf) 28 = .ok (.ifCond .eq 7, 3) := by decide +kernel
theorem d_X10_worthOf_31 : decode (cd mX10_worthOf) 31 = .ok (.iconst 1, 1) := by decide +kernel
theorem d_X10_worthOf_32 : decode (cd mX10_worthOf) 32 = .ok (.goto 4, 3) := by decide +kernel
theorem d_X10_worthOf_35 : decode (cd mX10_worthOf) 35 = .ok (.iconst 0, 1) := by decide +kernel
theorem d_X10_worthOf_36 : decode (cd mX10_worthOf) 36 = .ok (.istore_n 3, 1) := by decide +kernel
theorem d_X10_worthOf_37 : decode (cd mX10_worthOf) 37 = .ok (.aload_n 0, 1) := by decide +kernel
theorem d_X10_worthOf_38 : decode (cd mX10_worthOf) 38 = .ok (.iload_n 3, 1) := by decide +kernel
theorem d_X10_worthOf_39 : decode (cd mX10_worthOf) 39 = .ok (.invokevirtual 154, 3) := by decide +kernel
theorem d_X10_worthOf_42 : decode (cd mX10_worthOf) 42 = .ok (.ifCond .eq 7, 3) := by decide +kernel
theorem d_X10_worthOf_45 : decode (cd mX10_worthOf) 45 = .ok (.iconst (-1), 1) := by decide +kernel
theorem d_X10_worthOf_46 : decode (cd mX10_worthOf) 46 = .ok (.goto 23, 3) := by decide +kernel
theorem d_X10_worthOf_49 : decode (cd mX10_worthOf) 49 = .ok (.aload_n 0, 1) := by decide +kernel
theorem d_X10_worthOf_50 : decode (cd mX10_worthOf) 50 = .ok (.getfield 47, 3) := by decide +kernel
theorem d_X10_worthOf_53 : decode (cd mX10_worthOf) 53 = .ok (.aload_n 0, 1) := by decide +kernel
theorem d_X10_worthOf_54 : decode (cd mX10_worthOf) 54 = .ok (.getfield 19, 3) := by decide +kernel
theorem d_X10_worthOf_57 : decode (cd mX10_worthOf) 57 = .ok (.aload_n 0, 1) := by decide +kernel
theorem d_X10_worthOf_58 : decode (cd mX10_worthOf) 58 = .ok (.getfield 26, 3) := by decide +kernel
theorem d_X10_worthOf_61 : decode (cd mX10_worthOf) 61 = .ok (.iload_n 2, 1) := by decide +kernel
theorem d_X10_worthOf_62 : decode (cd mX10_worthOf) 62 = .ok (.invokevirtual 189, 3) := by decide +kernel
theorem d_X10_worthOf_65 : decode (cd mX10_worthOf) 65 = .ok (.sipush 1000, 3) := by decide +kernel
theorem d_X10_worthOf_68 : decode (cd mX10_worthOf) 68 = .ok (.iadd, 1) := by decide +kernel
theorem d_X10_worthOf_69 : decode (cd mX10_worthOf) 69 = .ok (.ireturn, 1) := by decide +kernel
theorem d_X10_bestRow_0 : decode (cd mX10_bestRow) 0 = .ok (.aload_n 0, 1) := by decide +kernel
theorem d_X10_bestRow_1 : decode (cd mX10_bestRow) 1 = .ok (.iload_n 1, 1) := by decide +kernel
theorem d_X10_bestRow_2 : decode (cd mX10_bestRow) 2 = .ok (.iconst 1, 1) := by decide +kernel
theorem d_X10_bestRow_3 : decode (cd mX10_bestRow) 3 = .ok (.iconst 4, 1) := by decide +kernel
theorem d_X10_bestRow_4 : decode (cd mX10_bestRow) 4 = .ok (.invokestatic 73, 3) := by decide +kernel
theorem d_X10_bestRow_7 : decode (cd mX10_bestRow) 7 = .ok (.invokevirtual 154, 3) := by decide +kernel
theorem d_X10_bestRow_10 : decode (cd mX10_bestRow) 10 = .ok (.ifCond .eq 5, 3) := by decide +kernel
theorem d_X10_bestRow_13 : decode (cd mX10_bestRow) 13 = .ok (.iconst (-1), 1) := by decide +kernel
theorem d_X10_bestRow_14 : decode (cd mX10_bestRow) 14 = .ok (.ireturn, 1) := by decide +kernel
theorem d_X10_bestRow_15 : decode (cd mX10_bestRow) 15 = .ok (.aload_n 0, 1) := by decide +kernel
theorem d_X10_bestRow_16 : decode (cd mX10_bestRow) 16 = .ok (.getfield 47, 3) := by decide +kernel
theorem d_X10_bestRow_19 : decode (cd mX10_bestRow) 19 = .ok (.aload_n 0, 1) := by decide +kernel
theorem d_X10_bestRow_20 : decode (cd mX10_bestRow) 20 = .ok (.getfield 19, 3) := by decide +kernel
theorem d_X10_bestRow_23 : decode (cd mX10_bestRow) 23 = .ok (.aload_n 0, 1) := by decide +kernel
theorem d_X10_bestRow_24 : decode (cd mX10_bestRow) 24 = .ok (.getfield 26, 3) := by decide +kernel
theorem d_X10_bestRow_27 : decode (cd mX10_bestRow) 27 = .ok (.iload_n 1, 1) := by decide +kernel
theorem d_X10_bestRow_28 : decode (cd mX10_bestRow) 28 = .ok (.iconst 4, 1) := by decide +kernel
theorem d_X10_bestRow_29 : decode (cd mX10_bestRow) 29 = .ok (.invokevirtual 192, 3) := by decide +kernel
theorem d_X10_bestRow_32 : decode (cd mX10_bestRow) 32 = .ok (.aload_n 0, 1) := by decide +kernel
theorem d_X10_bestRow_33 : decode (cd mX10_bestRow) 33 = .ok (.getfield 47, 3) := by decide +kernel
theorem d_X10_bestRow_36 : decode (cd mX10_bestRow) 36 = .ok (.getfield 196, 3) := by decide +kernel
theorem d_X10_bestRow_39 : decode (cd mX10_bestRow) 39 = .ok (.ireturn, 1) := by decide +kernel
theorem d_X10_bestWorth_0 : decode (cd mX10_bestWorth) 0 = .ok (.aload_n 0, 1) := by decide +kernel
theorem d_X10_bestWorth_1 : decode (cd mX10_bestWorth) 1 = .ok (.iload_n 1, 1) := by decide +kernel
theorem d_X10_bestWorth_2 : decode (cd mX10_bestWorth) 2 = .ok (.iconst 1, 1) := by decide +kernel
theorem d_X10_bestWorth_3 : decode (cd mX10_bestWorth) 3 = .ok (.iconst 4, 1) := by decide +kernel
theorem d_X10_bestWorth_4 : decode (cd mX10_bestWorth) 4 = .ok (.invokestatic 73, 3) := by decide +kernel
theorem d_X10_bestWorth_7 : decode (cd mX10_bestWorth) 7 = .ok (.invokevirtual 154, 3) := by decide +kernel
theorem d_X10_bestWorth_10 : decode (cd mX10_bestWorth) 10 = .ok (.ifCond .eq 5, 3) := by decide +kernel
theorem d_X10_bestWorth_13 : decode (cd mX10_bestWorth) 13 = .ok (.iconst (-1), 1) := by decide +kernel
theorem d_X10_bestWorth_14 : decode (cd mX10_bestWorth) 14 = .ok (.ireturn, 1) := by decide +kernel
theorem d_X10_bestWorth_15 : decode (cd mX10_bestWorth) 15 = .ok (.aload_n 0, 1) := by decide +kernel
theorem d_X10_bestWorth_16 : decode (cd mX10_bestWorth) 16 = .ok (.getfield 47, 3) := by decide +kernel
theorem d_X10_bestWorth_19 : decode (cd mX10_bestWorth) 19 = .ok (.aload_n 0, 1) := by decide +kernel
theorem d_X10_bestWorth_20 : decode (cd mX10_bestWorth) 20 = .ok (.getfield 19, 3) := by decide +kernel
theorem d_X10_bestWorth_23 : decode (cd mX10_bestWorth) 23 = .ok (.aload_n 0, 1) := by decide +kernel
theorem d_X10_bestWorth_24 : decode (cd mX10_bestWorth) 24 = .ok (.getfield 26, 3) := by decide +kernel
theorem d_X10_bestWorth_27 : decode (cd mX10_bestWorth) 27 = .ok (.iload_n 1, 1) := by decide +kernel
theorem d_X10_bestWorth_28 : decode (cd mX10_bestWorth) 28 = .ok (.iconst 4, 1) := by decide +kernel
theorem d_X10_bestWorth_29 : decode (cd mX10_bestWorth) 29 = .ok (.invokevirtual 192, 3) := by decide +kernel
theorem d_X10_bestWorth_32 : decode (cd mX10_bestWorth) 32 = .ok (.aload_n 0, 1) := by decide +kernel
theorem d_X10_bestWorth_33 : decode (cd mX10_bestWorth) 33 = .ok (.getfield 47, 3) := by decide +kernel
theorem d_X10_bestWorth_36 : decode (cd mX10_bestWorth) 36 = .ok (.getfield 199, 3) := by decide +kernel
theorem d_X10_bestWorth_39 : decode (cd mX10_bestWorth) 39 = .ok (.sipush 1000, 3) := by decide +kernel
theorem d_X10_bestWorth_42 : decode (cd mX10_bestWorth) 42 = .ok (.iadd, 1) := by decide +kernel
theorem d_X10_bestWorth_43 : decode (cd mX10_bestWorth) 43 = .ok (.ireturn, 1) := by decide +kernel
theorem d_X10_sureRow_0 : decode (cd mX10_sureRow) 0 = .ok (.aload_n 0, 1) := by decide +kernel
theorem d_X10_sureRow_1 : decode (cd mX10_sureRow) 1 = .ok (.iload_n 1, 1) := by decide +kernel
theorem d_X10_sureRow_2 : decode (cd mX10_sureRow) 2 = .ok (.iconst 1, 1) := by decide +kernel
theorem d_X10_sureRow_3 : decode (cd mX10_sureRow) 3 = .ok (.iconst 4, 1) := by decide +kernel
theorem d_X10_sureRow_4 : decode (cd mX10_sureRow) 4 = .ok (.invokestatic 73, 3) := by decide +kernel
theorem d_X10_sureRow_7 : decode (cd mX10_sureRow) 7 = .ok (.invokevirtual 154, 3) := by decide +kernel
theorem d_X10_sureRow_10 : decode (cd mX10_sureRow) 10 = .ok (.ifCond .eq 5, 3) := by decide +kernel
theorem d_X10_sureRow_13 : decode (cd mX10_sureRow) 13 = .ok (.iconst (-1), 1) := by decide +kernel
theorem d_X10_sureRow_14 : decode (cd mX10_sureRow) 14 = .ok (.ireturn, 1) := by decide +kernel
theorem d_X10_sureRow_15 : decode (cd mX10_sureRow) 15 = .ok (.aload_n 0, 1) := by decide +kernel
theorem d_X10_sureRow_16 : decode (cd mX10_sureRow) 16 = .ok (.getfield 47, 3) := by decide +kernel
theorem d_X10_sureRow_19 : decode (cd mX10_sureRow) 19 = .ok (.aload_n 0, 1) := by decide +kernel
theorem d_X10_sureRow_20 : decode (cd mX10_sureRow) 20 = .ok (.getfield 19, 3) := by decide +kernel
theorem d_X10_sureRow_23 : decode (cd mX10_sureRow) 23 = .ok (.aload_n 0, 1) := by decide +kernel
theorem d_X10_sureRow_24 : decode (cd mX10_sureRow) 24 = .ok (.getfield 26, 3) := by decide +kernel
theorem d_X10_sureRow_27 : decode (cd mX10_sureRow) 27 = .ok (.iload_n 1, 1) := by decide +kernel
theorem d_X10_sureRow_28 : decode (cd mX10_sureRow) 28 = .ok (.iconst 5, 1) := by decide +kernel
theorem d_X10_sureRow_29 : decode (cd mX10_sureRow) 29 = .ok (.invokevirtual 192, 3) := by decide +kernel
theorem d_X10_sureRow_32 : decode (cd mX10_sureRow) 32 = .ok (.aload_n 0, 1) := by decide +kernel
theorem d_X10_sureRow_33 : decode (cd mX10_sureRow) 33 = .ok (.getfield 47, 3) := by decide +kernel
theorem d_X10_sureRow_36 : decode (cd mX10_sureRow) 36 = .ok (.getfield 196, 3) := by decide +kernel
theorem d_X10_sureRow_39 : decode (cd mX10_sureRow) 39 = .ok (.ireturn, 1) := by decide +kernel
theorem d_X10_sureCoins_0 : decode (cd mX10_sureCoins) 0 = .ok (.aload_n 0, 1) := by decide +kernel
theorem d_X10_sureCoins_1 : decode (cd mX10_sureCoins) 1 = .ok (.iload_n 1, 1) := by decide +kernel
theorem d_X10_sureCoins_2 : decode (cd mX10_sureCoins) 2 = .ok (.iconst 1, 1) := by decide +kernel
theorem d_X10_sureCoins_3 : decode (cd mX10_sureCoins) 3 = .ok (.iconst 4, 1) := by decide +kernel
theorem d_X10_sureCoins_4 : decode (cd mX10_sureCoins) 4 = .ok (.invokestatic 73, 3) := by decide +kernel
theorem d_X10_sureCoins_7 : decode (cd mX10_sureCoins) 7 = .ok (.invokevirtual 154, 3) := by decide +kernel
theorem d_X10_sureCoins_10 : decode (cd mX10_sureCoins) 10 = .ok (.ifCond .eq 5, 3) := by decide +kernel
theorem d_X10_sureCoins_13 : decode (cd mX10_sureCoins) 13 = .ok (.iconst (-1), 1) := by decide +kernel
theorem d_X10_sureCoins_14 : decode (cd mX10_sureCoins) 14 = .ok (.ireturn, 1) := by decide +kernel
theorem d_X10_sureCoins_15 : decode (cd mX10_sureCoins) 15 = .ok (.aload_n 0, 1) := by decide +kernel
theorem d_X10_sureCoins_16 : decode (cd mX10_sureCoins) 16 = .ok (.getfield 47, 3) := by decide +kernel
theorem d_X10_sureCoins_19 : decode (cd mX10_sureCoins) 19 = .ok (.aload_n 0, 1) := by decide +kernel
theorem d_X10_sureCoins_20 : decode (cd mX10_sureCoins) 20 = .ok (.getfield 19, 3) := by decide +kernel
theorem d_X10_sureCoins_23 : decode (cd mX10_sureCoins) 23 = .ok (.aload_n 0, 1) := by decide +kernel
theorem d_X10_sureCoins_24 : decode (cd mX10_sureCoins) 24 = .ok (.getfield 26, 3) := by decide +kernel
theorem d_X10_sureCoins_27 : decode (cd mX10_sureCoins) 27 = .ok (.iload_n 1, 1) := by decide +kernel
theorem d_X10_sureCoins_28 : decode (cd mX10_sureCoins) 28 = .ok (.iconst 5, 1) := by decide +kernel
theorem d_X10_sureCoins_29 : decode (cd mX10_sureCoins) 29 = .ok (.invokevirtual 192, 3) := by decide +kernel
theorem d_X10_sureCoins_32 : decode (cd mX10_sureCoins) 32 = .ok (.aload_n 0, 1) := by decide +kernel
theorem d_X10_sureCoins_33 : decode (cd mX10_sureCoins) 33 = .ok (.getfield 47, 3) := by decide +kernel
theorem d_X10_sureCoins_36 : decode (cd mX10_sureCoins) 36 = .ok (.getfield 196, 3) := by decide +kernel
theorem d_X10_sureCoins_39 : decode (cd mX10_sureCoins) 39 = .ok (.bipush (-2), 2) := by decide +kernel
theorem d_X10_sureCoins_41 : decode (cd mX10_sureCoins) 41 = .ok (.if_icmp .ne 8, 3) := by decide +kernel
theorem d_X10_sureCoins_44 : decode (cd mX10_sureCoins) 44 = .ok (.bipush (-2), 2) := by decide +kernel
theorem d_X10_sureCoins_46 : decode (cd mX10_sureCoins) 46 = .ok (.goto 11, 3) := by decide +kernel
theorem d_X10_sureCoins_49 : decode (cd mX10_sureCoins) 49 = .ok (.aload_n 0, 1) := by decide +kernel
theorem d_X10_sureCoins_50 : decode (cd mX10_sureCoins) 50 = .ok (.getfield 47, 3) := by decide +kernel
theorem d_X10_sureCoins_53 : decode (cd mX10_sureCoins) 53 = .ok (.getfield 199, 3) := by decide +kernel
theorem d_X10_sureCoins_56 : decode (cd mX10_sureCoins) 56 = .ok (.ineg, 1) := by decide +kernel
theorem d_X10_sureCoins_57 : decode (cd mX10_sureCoins) 57 = .ok (.ireturn, 1) := by decide +kernel
theorem d_X10_rowFor_0 : decode (cd mX10_rowFor) 0 = .ok (.aload_n 0, 1) := by decide +kernel
theorem d_X10_rowFor_1 : decode (cd mX10_rowFor) 1 = .ok (.iload_n 1, 1) := by decide +kernel
theorem d_X10_rowFor_2 : decode (cd mX10_rowFor) 2 = .ok (.iconst 0, 1) := by decide +kernel
theorem d_X10_rowFor_3 : decode (cd mX10_rowFor) 3 = .ok (.iconst 3, 1) := by decide +kernel
theorem d_X10_rowFor_4 : decode (cd mX10_rowFor) 4 = .ok (.invokestatic 73, 3) := by decide +kernel
theorem d_X10_rowFor_7 : decode (cd mX10_rowFor) 7 = .ok (.ifCond .eq 16, 3) := by decide +kernel
theorem d_X10_rowFor_10 : decode (cd mX10_rowFor) 10 = .ok (.iload_n 2, 1) := by decide +kernel
theorem d_X10_rowFor_11 : decode (cd mX10_rowFor) 11 = .ok (.iconst 1, 1) := by decide +kernel
theorem d_X10_rowFor_12 : decode (cd mX10_rowFor) 12 = .ok (.iconst 4, 1) := by decide +kernel
theorem d_X10_rowFor_13 : decode (cd mX10_rowFor) 13 = .ok (.invokestatic 73, 3) := by decide +kernel
theorem d_X10_rowFor_16 : decode (cd mX10_rowFor) 16 = .ok (.ifCond .eq 7, 3) := by decide +kernel
theorem d_X10_rowFor_19 : decode (cd mX10_rowFor) 19 = .ok (.iconst 1, 1) := by decide +kernel
theorem d_X10_rowFor_20 : decode (cd mX10_rowFor) 20 = .ok (.goto 4, 3) := by decide +kernel
theorem d_X10_rowFor_23 : decode (cd mX10_rowFor) 23 = .ok (.iconst 0, 1) := by decide +kernel
theorem d_X10_rowFor_24 : decode (cd mX10_rowFor) 24 = .ok (.invokevirtual 154, 3) := by decide +kernel
theorem d_X10_rowFor_27 : decode (cd mX10_rowFor) 27 = .ok (.ifCond .eq 5, 3) := by decide +kernel
theorem d_X10_rowFor_30 : decode (cd mX10_rowFor) 30 = .ok (.iconst (-1), 1) := by decide +kernel
theorem d_X10_rowFor_31 : decode (cd mX10_rowFor) 31 = .ok (.ireturn, 1) := by decide +kernel
theorem d_X10_rowFor_32 : decode (cd mX10_rowFor) 32 = .ok (.aload_n 0, 1) := by decide +kernel
theorem d_X10_rowFor_33 : decode (cd mX10_rowFor) 33 = .ok (.getfield 47, 3) := by decide +kernel
theorem d_X10_rowFor_36 : decode (cd mX10_rowFor) 36 = .ok (.aload_n 0, 1) := by decide +kernel
theorem d_X10_rowFor_37 : decode (cd mX10_rowFor) 37 = .ok (.getfield 19, 3) := by decide +kernel
theorem d_X10_rowFor_40 : decode (cd mX10_rowFor) 40 = .ok (.aload_n 0, 1) := by decide +kernel
theorem d_X10_rowFor_41 : decode (cd mX10_rowFor) 41 = .ok (.getfield 26, 3) := by decide +kernel
theorem d_X10_rowFor_44 : decode (cd mX10_rowFor) 44 = .ok (.iload_n 2, 1) := by decide +kernel
theorem d_X10_rowFor_45 : decode (cd mX10_rowFor) 45 = .ok (.iload_n 1, 1) := by decide +kernel
theorem d_X10_rowFor_46 : decode (cd mX10_rowFor) 46 = .ok (.invokevirtual 192, 3) := by decide +kernel
theorem d_X10_rowFor_49 : decode (cd mX10_rowFor) 49 = .ok (.aload_n 0, 1) := by decide +kernel
theorem d_X10_rowFor_50 : decode (cd mX10_rowFor) 50 = .ok (.getfield 47, 3) := by decide +kernel
theorem d_X10_rowFor_53 : decode (cd mX10_rowFor) 53 = .ok (.getfield 196, 3) := by decide +kernel
theorem d_X10_rowFor_56 : decode (cd mX10_rowFor) 56 = .ok (.ireturn, 1) := by decide +kernel
theorem d_X10_makes_0 : decode (cd mX10_makes) 0 = .ok (.aload_n 0, 1) := by decide +kernel
theorem d_X10_makes_1 : decode (cd mX10_makes) 1 = .ok (.iconst 1, 1) := by decide +kernel
theorem d_X10_makes_2 : decode (cd mX10_makes) 2 = .ok (.invokevirtual 154, 3) := by decide +kernel
theorem d_X10_makes_5 : decode (cd mX10_makes) 5 = .ok (.ifCond .eq 7, 3) := by decide +kernel
theorem d_X10_makes_8 : decode (cd mX10_makes) 8 = .ok (.iconst (-1), 1) := by decide +kernel
theorem d_X10_makes_9 : decode (cd mX10_makes) 9 = .ok (.goto 10, 3) := by decide +kernel
theorem d_X10_makes_12 : decode (cd mX10_makes) 12 = .ok (.aload_n 0, 1) := by decide +kernel
theorem d_X10_makes_13 : decode (cd mX10_makes) 13 = .ok (.invokevirtual 202, 3) := by decide +kernel
theorem d_X10_makes_16 : decode (cd mX10_makes) 16 = .ok (.getfield 206, 3) := by decide +kernel
theorem d_X10_makes_19 : decode (cd mX10_makes) 19 = .ok (.ireturn, 1) := by decide +kernel
theorem d_X10_makeAt_0 : decode (cd mX10_makeAt) 0 = .ok (.aload_n 0, 1) := by decide +kernel
theorem d_X10_makeAt_1 : decode (cd mX10_makeAt) 1 = .ok (.aload_n 0, 1) := by decide +kernel
theorem d_X10_makeAt_2 : decode (cd mX10_makeAt) 2 = .ok (.getfield 207, 3) := by decide +kernel
theorem d_X10_makeAt_5 : decode (cd mX10_makeAt) 5 = .ok (.ifCond .eq 24, 3) := by decide +kernel
theorem d_X10_makeAt_8 : decode (cd mX10_makeAt) 8 = .ok (.iload_n 1, 1) := by decide +kernel
theorem d_X10_makeAt_9 : decode (cd mX10_makeAt) 9 = .ok (.iconst 0, 1) := by decide +kernel
theorem d_X10_makeAt_10 : decode (cd mX10_makeAt) 10 = .ok (.aload_n 0, 1) := by decide +kernel
theorem d_X10_makeAt_11 : decode (cd mX10_makeAt) 11 = .ok (.invokevirtual 202, 3) := by decide +kernel
theorem d_X10_makeAt_14 : decode (cd mX10_makeAt) 14 = .ok (.getfield 206, 3) := by decide +kernel
theorem d_X10_makeAt_17 : decode (cd mX10_makeAt) 17 = .ok (.iconst 1, 1) := by decide +kernel
theorem d_X10_makeAt_18 : decode (cd mX10_makeAt) 18 = .ok (.isub, 1) := by decide +kernel
theorem d_X10_makeAt_19 : decode (cd mX10_makeAt) 19 = .ok (.invokestatic 73, 3) := by decide +kernel
theorem d_X10_makeAt_22 : decode (cd mX10_makeAt) 22 = .ok (.ifCond .eq 7, 3) := by decide +kernel
theorem d_X10_makeAt_25 : decode (cd mX10_makeAt) 25 = .ok (.iconst 1, 1) := by decide +kernel
theorem d_X10_makeAt_26 : decode (cd mX10_makeAt) 26 = .ok (.goto 4, 3) := by decide +kernel
theorem d_X10_makeAt_29 : decode (cd mX10_makeAt) 29 = .ok (.iconst 0, 1) := by decide +kernel
theorem d_X10_makeAt_30 : decode (cd mX10_makeAt) 30 = .ok (.invokevirtual 113, 3) := by decide +kernel
theorem d_X10_makeAt_33 : decode (cd mX10_makeAt) 33 = .ok (.ifCond .eq 7, 3) := by decide +kernel
theorem d_X10_makeAt_36 : decode (cd mX10_makeAt) 36 = .ok (.iconst (-1), 1) := by decide +kernel
theorem d_X10_makeAt_37 : decode (cd mX10_makeAt) 37 = .ok (.goto 11, 3) := by decide +kernel
theorem d_X10_makeAt_40 : decode (cd mX10_makeAt) 40 = .ok (.aload_n 0, 1) := by decide +kernel
theorem d_X10_makeAt_41 : decode (cd mX10_makeAt) 41 = .ok (.getfield 54, 3) := by decide +kernel
theorem d_X10_makeAt_44 : decode (cd mX10_makeAt) 44 = .ok (.iload_n 1, 1) := by decide +kernel
theorem d_X10_makeAt_45 : decode (cd mX10_makeAt) 45 = .ok (.invokevirtual 211, 3) := by decide +kernel
theorem d_X10_makeAt_48 : decode (cd mX10_makeAt) 48 = .ok (.ireturn, 1) := by decide +kernel
theorem d_X10_could_0 : decode (cd mX10_could) 0 = .ok (.aload_n 0, 1) := by decide +kernel
theorem d_X10_could_1 : decode (cd mX10_could) 1 = .ok (.iconst 1, 1) := by decide +kernel
theorem d_X10_could_2 : decode (cd mX10_could) 2 = .ok (.invokevirtual 154, 3) := by decide +kernel
theorem d_X10_could_5 : decode (cd mX10_could) 5 = .ok (.ifCond .eq 7, 3) := by decide +kernel
theorem d_X10_could_8 : decode (cd mX10_could) 8 = .ok (.iconst (-1), 1) := by decide +kernel
theorem d_X10_could_9 : decode (cd mX10_could) 9 = .ok (.goto 11, 3) := by decide +kernel
theorem d_X10_could_12 : decode (cd mX10_could) 12 = .ok (.aload_n 0, 1) := by decide +kernel
theorem d_X10_could_13 : decode (cd mX10_could) 13 = .ok (.invokevirtual 202, 3) := by decide +kernel
theorem d_X10_could_16 : decode (cd mX10_could) 16 = .ok (.iload_n 1, 1) := by decide +kernel
theorem d_X10_could_17 : decode (cd mX10_could) 17 = .ok (.invokevirtual 214, 3) := by decide +kernel
theorem d_X10_could_20 : decode (cd mX10_could) 20 = .ok (.ireturn, 1) := by decide +kernel
theorem d_X10_surely_0 : decode (cd mX10_surely) 0 = .ok (.aload_n 0, 1) := by decide +kernel
theorem d_X10_surely_1 : decode (cd mX10_surely) 1 = .ok (.iconst 1, 1) := by decide +kernel
theorem d_X10_surely_2 : decode (cd mX10_surely) 2 = .ok (.invokevirtual 154, 3) := by decide +kernel
theorem d_X10_surely_5 : decode (cd mX10_surely) 5 = .ok (.ifCond .eq 7, 3) := by decide +kernel
theorem d_X10_surely_8 : decode (cd mX10_surely) 8 = .ok (.iconst (-1), 1) := by decide +kernel
theorem d_X10_surely_9 : decode (cd mX10_surely) 9 = .ok (.goto 11, 3) := by decide +kernel
theorem d_X10_surely_12 : decode (cd mX10_surely) 12 = .ok (.aload_n 0, 1) := by decide +kernel
theorem d_X10_surely_13 : decode (cd mX10_surely) 13 = .ok (.invokevirtual 202, 3) := by decide +kernel
theorem d_X10_surely_16 : decode (cd mX10_surely) 16 = .ok (.iload_n 1, 1) := by decide +kernel
theorem d_X10_surely_17 : decode (cd mX10_surely) 17 = .ok (.invokevirtual 218, 3) := by decide +kernel
theorem d_X10_surely_20 : decode (cd mX10_surely) 20 = .ok (.ireturn, 1) := by decide +kernel
theorem d_X10_look_0 : decode (cd mX10_look) 0 = .ok (.aload_n 0, 1) := by decide +kernel
theorem d_X10_look_1 : decode (cd mX10_look) 1 = .ok (.iconst 1, 1) := by decide +kernel
theorem d_X10_look_2 : decode (cd mX10_look) 2 = .ok (.invokevirtual 154, 3) := by decide +kernel
theorem d_X10_look_5 : decode (cd mX10_look) 5 = .ok (.ifCond .eq 5, 3) := by decide +kernel
theorem d_X10_look_8 : decode (cd mX10_look) 8 = .ok (.iconst (-1), 1) := by decide +kernel
theorem d_X10_look_9 : decode (cd mX10_look) 9 = .ok (.ireturn, 1) := by decide +kernel
theorem d_X10_look_10 : decode (cd mX10_look) 10 = .ok (.aload_n 0, 1) := by decide +kernel
theorem d_X10_look_11 : decode (cd mX10_look) 11 = .ok (.invokevirtual 202, 3) := by decide +kernel
theorem d_X10_look_14 : decode (cd mX10_look) 14 = .ok (.aload_n 0, 1) := by decide +kernel
theorem d_X10_look_15 : decode (cd mX10_look) 15 = .ok (.getfield 19, 3) := by decide +kernel
theorem d_X10_look_18 : decode (cd mX10_look) 18 = .ok (.invokevirtual 221, 3) := by decide +kernel
theorem d_X10_look_21 : decode (cd mX10_look) 21 = .ok (.aload_n 0, 1) := by decide +kernel
theorem d_X10_look_22 : decode (cd mX10_look) 22 = .ok (.getfield 54, 3) := by decide +kernel
theorem d_X10_look_25 : decode (cd mX10_look) 25 = .ok (.getfield 225, 3) := by decide +kernel
theorem d_X10_look_28 : decode (cd mX10_look) 28 = .ok (.ireturn, 1) := by decide +kernel
theorem d_X10_lookLeaves_0 : decode (cd mX10_lookLeaves) 0 = .ok (.aload_n 0, 1) := by decide +kernel
theorem d_X10_lookLeaves_1 : decode (cd mX10_lookLeaves) 1 = .ok (.iconst 1, 1) := by decide +kernel
theorem d_X10_lookLeaves_2 : decode (cd mX10_lookLeaves) 2 = .ok (.invokevirtual 154, 3) := by decide +kernel
theorem d_X10_lookLeaves_5 : decode (cd mX10_lookLeaves) 5 = .ok (.ifCond .eq 5, 3) := by decide +kernel
theorem d_X10_lookLeaves_8 : decode (cd mX10_lookLeaves) 8 = .ok (.iconst (-1), 1) := by decide +kernel
theorem d_X10_lookLeaves_9 : decode (cd mX10_lookLeaves) 9 = .ok (.ireturn, 1) := by decide +kernel
theorem d_X10_lookLeaves_10 : decode (cd mX10_lookLeaves) 10 = .ok (.aload_n 0, 1) := by decide +kernel
theorem d_X10_lookLeaves_11 : decode (cd mX10_lookLeaves) 11 = .ok (.invokevirtual 202, 3) := by decide +kernel
theorem d_X10_lookLeaves_14 : decode (cd mX10_lookLeaves) 14 = .ok (.aload_n 0, 1) := by decide +kernel
theorem d_X10_lookLeaves_15 : decode (cd mX10_lookLeaves) 15 = .ok (.getfield 19, 3) := by decide +kernel
theorem d_X10_lookLeaves_18 : decode (cd mX10_lookLeaves) 18 = .ok (.invokevirtual 221, 3) := by decide +kernel
theorem d_X10_lookLeaves_21 : decode (cd mX10_lookLeaves) 21 = .ok (.aload_n 0, 1) := by decide +kernel
theorem d_X10_lookLeaves_22 : decode (cd mX10_lookLeaves) 22 = .ok (.getfield 54, 3) := by decide +kernel
theorem d_X10_lookLeaves_25 : decode (cd mX10_lookLeaves) 25 = .ok (.getfield 228, 3) := by decide +kernel
theorem d_X10_lookLeaves_28 : decode (cd mX10_lookLeaves) 28 = .ok (.ireturn, 1) := by decide +kernel
theorem d_X10_judge_0 : decode (cd mX10_judge) 0 = .ok (.aload_n 0, 1) := by decide +kernel
theorem d_X10_judge_1 : decode (cd mX10_judge) 1 = .ok (.iconst 1, 1) := by decide +kernel
theorem d_X10_judge_2 : decode (cd mX10_judge) 2 = .ok (.invokevirtual 154, 3) := by decide +kernel
theorem d_X10_judge_5 : decode (cd mX10_judge) 5 = .ok (.ifCond .eq 7, 3) := by decide +kernel
theorem d_X10_judge_8 : decode (cd mX10_judge) 8 = .ok (.iconst (-1), 1) := by decide +kernel
theorem d_X10_judge_9 : decode (cd mX10_judge) 9 = .ok (.goto 14, 3) := by decide +kernel
theorem d_X10_judge_12 : decode (cd mX10_judge) 12 = .ok (.aload_n 0, 1) := by decide +kernel
theorem d_X10_judge_13 : decode (cd mX10_judge) 13 = .ok (.getfield 54, 3) := by decide +kernel
theorem d_X10_judge_16 : decode (cd mX10_judge) 16 = .ok (.aload_n 0, 1) := by decide +kernel
theorem d_X10_judge_17 : decode (cd mX10_judge) 17 = .ok (.getfield 19, 3) := by decide +kernel
theorem d_X10_judge_20 : decode (cd mX10_judge) 20 = .ok (.invokevirtual 231, 3) := by decide +kernel
theorem d_X10_judge_23 : decode (cd mX10_judge) 23 = .ok (.ireturn, 1) := by decide +kernel
theorem d_X10_value_0 : decode (cd mX10_value) 0 = .ok (.aload_n 0, 1) := by decide +kernel
theorem d_X10_value_1 : decode (cd mX10_value) 1 = .ok (.iload_n 1, 1) := by decide +kernel
theorem d_X10_value_2 : decode (cd mX10_value) 2 = .ok (.iconst 0, 1) := by decide +kernel
theorem d_X10_value_3 : decode (cd mX10_value) 3 = .ok (.iconst 4, 1) := by decide +kernel
theorem d_X10_value_4 : decode (cd mX10_value) 4 = .ok (.invokestatic 73, 3) := by decide +kernel
theorem d_X10_value_7 : decode (cd mX10_value) 7 = .ok (.invokevirtual 154, 3) := by decide +kernel
theorem d_X10_value_10 : decode (cd mX10_value) 10 = .ok (.ifCond .eq 7, 3) := by decide +kernel
theorem d_X10_value_13 : decode (cd mX10_value) 13 = .ok (.iconst (-1), 1) := by decide +kernel
theorem d_X10_value_14 : decode (cd mX10_value) 14 = .ok (.goto 22, 3) := by decide +kernel
theorem d_X10_value_17 : decode (cd mX10_value) 17 = .ok (.aload_n 0, 1) := by decide +kernel
theorem d_X10_value_18 : decode (cd mX10_value) 18 = .ok (.getfield 47, 3) := by decide +kernel
theorem d_X10_value_21 : decode (cd mX10_value) 21 = .ok (.aload_n 0, 1) := by decide +kernel
theorem d_X10_value_22 : decode (cd mX10_value) 22 = .ok (.getfield 19, 3) := by decide +kernel
theorem d_X10_value_25 : decode (cd mX10_value) 25 = .ok (.aload_n 0, 1) := by decide +kernel
theorem d_X10_value_26 : decode (cd mX10_value) 26 = .ok (.getfield 26, 3) := by decide +kernel
theorem d_X10_value_29 : decode (cd mX10_value) 29 = .ok (.iload_n 1, 1) := by decide +kernel
theorem d_X10_value_30 : decode (cd mX10_value) 30 = .ok (.invokevirtual 235, 3) := by decide +kernel
theorem d_X10_value_33 : decode (cd mX10_value) 33 = .ok (.bipush 9, 2) := by decide +kernel
theorem d_X10_value_35 : decode (cd mX10_value) 35 = .ok (.iadd, 1) := by decide +kernel
theorem d_X10_value_36 : decode (cd mX10_value) 36 = .ok (.ireturn, 1) := by decide +kernel
theorem d_X10_opens_0 : decode (cd mX10_opens) 0 = .ok (.aload_n 0, 1) := by decide +kernel
theorem d_X10_opens_1 : decode (cd mX10_opens) 1 = .ok (.iload_n 1, 1) := by decide +kernel
theorem d_X10_opens_2 : decode (cd mX10_opens) 2 = .ok (.iconst 1, 1) := by decide +kernel
theorem d_X10_opens_3 : decode (cd mX10_opens) 3 = .ok (.iconst 4, 1) := by decide +kernel
theorem d_X10_opens_4 : decode (cd mX10_opens) 4 = .ok (.invokestatic 73, 3) := by decide +kernel
theorem d_X10_opens_7 : decode (cd mX10_opens) 7 = .ok (.invokevirtual 154, 3) := by decide +kernel
theorem d_X10_opens_10 : decode (cd mX10_opens) 10 = .ok (.ifCond .eq 7, 3) := by decide +kernel
theorem d_X10_opens_13 : decode (cd mX10_opens) 13 = .ok (.iconst (-1), 1) := by decide +kernel
theorem d_X10_opens_14 : decode (cd mX10_opens) 14 = .ok (.goto 19, 3) := by decide +kernel
theorem d_X10_opens_17 : decode (cd mX10_opens) 17 = .ok (.aload_n 0, 1) := by decide +kernel
theorem d_X10_opens_18 : decode (cd mX10_opens) 18 = .ok (.getfield 47, 3) := by decide +kernel
theorem d_X10_opens_21 : decode (cd mX10_opens) 21 = .ok (.aload_n 0, 1) := by decide +kernel
theorem d_X10_opens_22 : decode (cd mX10_opens) 22 = .ok (.getfield 19, 3) := by decide +kernel
theorem d_X10_opens_25 : decode (cd mX10_opens) 25 = .ok (.aload_n 0, 1) := by decide +kernel
theorem d_X10_opens_26 : decode (cd mX10_opens) 26 = .ok (.getfield 26, 3) := by decide +kernel
theorem d_X10_opens_29 : decode (cd mX10_opens) 29 = .ok (.iload_n 1, 1) := by decide +kernel
theorem d_X10_opens_30 : decode (cd mX10_opens) 30 = .ok (.invokevirtual 238, 3) := by decide +kernel
theorem d_X10_opens_33 : decode (cd mX10_opens) 33 = .ok (.ireturn, 1) := by decide +kernel
theorem d_X10_flood_0 : decode (cd mX10_flood) 0 = .ok (.aload_n 0, 1) := by decide +kernel
theorem d_X10_flood_1 : decode (cd mX10_flood) 1 = .ok (.iconst 1, 1) := by decide +kernel
theorem d_X10_flood_2 : decode (cd mX10_flood) 2 = .ok (.invokevirtual 154, 3) := by decide +kernel
theorem d_X10_flood_5 : decode (cd mX10_flood) 5 = .ok (.ifCond .eq 7, 3) := by decide +kernel
theorem d_X10_flood_8 : decode (cd mX10_flood) 8 = .ok (.iconst (-1), 1) := by decide +kernel
theorem d_X10_flood_9 : decode (cd mX10_flood) 9 = .ok (.goto 12, 3) := by decide +kernel
theorem d_X10_flood_12 : decode (cd mX10_flood) 12 = .ok (.aload_n 0, 1) := by decide +kernel
theorem d_X10_flood_13 : decode (cd mX10_flood) 13 = .ok (.getfield 19, 3) := by decide +kernel
theorem d_X10_flood_16 : decode (cd mX10_flood) 16 = .ok (.iconst (-1), 1) := by decide +kernel
theorem d_X10_flood_17 : decode (cd mX10_flood) 17 = .ok (.iconst 0, 1) := by decide +kernel
theorem d_X10_flood_18 : decode (cd mX10_flood) 18 = .ok (.invokestatic 241, 3) := by decide +kernel
theorem d_X10_flood_21 : decode (cd mX10_flood) 21 = .ok (.ireturn, 1) := by decide +kernel
theorem d_X10_cut_0 : decode (cd mX10_cut) 0 = .ok (.aload_n 0, 1) := by decide +kernel
theorem d_X10_cut_1 : decode (cd mX10_cut) 1 = .ok (.iconst 1, 1) := by decide +kernel
theorem d_X10_cut_2 : decode (cd mX10_cut) 2 = .ok (.invokevirtual 154, 3) := by decide +kernel
theorem d_X10_cut_5 : decode (cd mX10_cut) 5 = .ok (.ifCond .eq 5, 3) := by decide +kernel
theorem d_X10_cut_8 : decode (cd mX10_cut) 8 = .ok (.iconst (-1), 1) := by decide +kernel
theorem d_X10_cut_9 : decode (cd mX10_cut) 9 = .ok (.ireturn, 1) := by decide +kernel
theorem d_X10_cut_10 : decode (cd mX10_cut) 10 = .ok (.aload_n 0, 1) := by decide +kernel
theorem d_X10_cut_11 : decode (cd mX10_cut) 11 = .ok (.getfield 19, 3) := by decide +kernel
theorem d_X10_cut_14 : decode (cd mX10_cut) 14 = .ok (.getfield 247, 3) := by decide +kernel
theorem d_X10_cut_17 : decode (cd mX10_cut) 17 = .ok (.iconst 2, 1) := by decide +kernel
theorem d_X10_cut_18 : decode (cd mX10_cut) 18 = .ok (.if_icmp .ge 8, 3) := by decide +kernel
theorem d_X10_cut_21 : decode (cd mX10_cut) 21 = .ok (.bipush (-2), 2) := by decide +kernel
theorem d_X10_cut_23 : decode (cd mX10_cut) 23 = .ok (.goto 12, 3) := by decide +kernel
theorem d_X10_cut_26 : decode (cd mX10_cut) 26 = .ok (.aload_n 0, 1) := by decide +kernel
theorem d_X10_cut_27 : decode (cd mX10_cut) 27 = .ok (.getfield 19, 3) := by decide +kernel
theorem d_X10_cut_30 : decode (cd mX10_cut) 30 = .ok (.iconst (-1), 1) := by decide +kernel
theorem d_X10_cut_31 : decode (cd mX10_cut) 31 = .ok (.iconst 0, 1) := by decide +kernel
theorem d_X10_cut_32 : decode (cd mX10_cut) 32 = .ok (.invokestatic 250, 3) := by decide +kernel
theorem d_X10_cut_35 : decode (cd mX10_cut) 35 = .ok (.ireturn, 1) := by decide +kernel
theorem d_X10_floodIf_0 : decode (cd mX10_floodIf) 0 = .ok (.aload_n 0, 1) := by decide +kernel
theorem d_X10_floodIf_1 : decode (cd mX10_floodIf) 1 = .ok (.aload_n 0, 1) := by decide +kernel
theorem d_X10_floodIf_2 : decode (cd mX10_floodIf) 2 = .ok (.getfield 19, 3) := by decide +kernel
theorem d_X10_floodIf_5 : decode (cd mX10_floodIf) 5 = .ok (.getfield 253, 3) := by decide +kernel
theorem d_X10_floodIf_8 : decode (cd mX10_floodIf) 8 = .ok (.iload_n 1, 1) := by decide +kernel
theorem d_X10_floodIf_9 : decode (cd mX10_floodIf) 9 = .ok (.invokevirtual 136, 3) := by decide +kernel
theorem d_X10_floodIf_12 : decode (cd mX10_floodIf) 12 = .ok (.invokevirtual 113, 3) := by decide +kernel
theorem d_X10_floodIf_15 : decode (cd mX10_floodIf) 15 = .ok (.ifCond .ne 18, 3) := by decide +kernel
theorem d_X10_floodIf_18 : decode (cd mX10_floodIf) 18 = .ok (.aload_n 0, 1) := by decide +kernel
theorem d_X10_floodIf_19 : decode (cd mX10_floodIf) 19 = .ok (.iload_n 2, 1) := by decide +kernel
theorem d_X10_floodIf_20 : decode (cd mX10_floodIf) 20 = .ok (.iconst 0, 1) := by decide +kernel
theorem d_X10_floodIf_21 : decode (cd mX10_floodIf) 21 = .ok (.sipush 999, 3) := by decide +kernel
theorem d_X10_floodIf_24 : decode (cd mX10_floodIf) 24 = .ok (.invokestatic 73, 3) := by decide +kernel
theorem d_X10_floodIf_27 : decode (cd mX10_floodIf) 27 = .ok (.invokevirtual 154, 3) := by decide +kernel
theorem d_X10_floodIf_30 : decode (cd mX10_floodIf) 30 = .ok (.ifCond .eq 5, 3) := by decide +kernel
theorem d_X10_floodIf_33 : decode (cd mX10_floodIf) 33 = .ok (.iconst (-1), 1) := by decide +kernel
theorem d_X10_floodIf_34 : decode (cd mX10_floodIf) 34 = .ok (.ireturn, 1) := by decide +kernel
theorem d_X10_floodIf_35 : decode (cd mX10_floodIf) 35 = .ok (.aload_n 0, 1) := by decide +kernel
theorem d_X10_floodIf_36 : decode (cd mX10_floodIf) 36 = .ok (.getfield 19, 3) := by decide +kernel
theorem d_X10_floodIf_39 : decode (cd mX10_floodIf) 39 = .ok (.iload_n 1, 1) := by decide +kernel
theorem d_X10_floodIf_40 : decode (cd mX10_floodIf) 40 = .ok (.iload_n 2, 1) := by decide +kernel
theorem d_X10_floodIf_41 : decode (cd mX10_floodIf) 41 = .ok (.invokestatic 241, 3) := by decide +kernel
theorem d_X10_floodIf_44 : decode (cd mX10_floodIf) 44 = .ok (.ireturn, 1) := by decide +kernel
theorem d_X10_narrow_0 : decode (cd mX10_narrow) 0 = .ok (.aload_n 0, 1) := by decide +kernel
theorem d_X10_narrow_1 : decode (cd mX10_narrow) 1 = .ok (.iconst 1, 1) := by decide +kernel
theorem d_X10_narrow_2 : decode (cd mX10_narrow) 2 = .ok (.invokevirtual 154, 3) := by decide +kernel
theorem d_X10_narrow_5 : decode (cd mX10_narrow) 5 = .ok (.ifCond .eq 7, 3) := by decide +kernel
theorem d_X10_narrow_8 : decode (cd mX10_narrow) 8 = .ok (.iconst (-1), 1) := by decide +kernel
theorem d_X10_narrow_9 : decode (cd mX10_narrow) 9 = .ok (.goto 10, 3) := by decide +kernel
theorem d_X10_narrow_12 : decode (cd mX10_narrow) 12 = .ok (.aload_n 0, 1) := by decide +kernel
theorem d_X10_narrow_13 : decode (cd mX10_narrow) 13 = .ok (.getfield 19, 3) := by decide +kernel
theorem d_X10_narrow_16 : decode (cd mX10_narrow) 16 = .ok (.invokestatic 256, 3) := by decide +kernel
theorem d_X10_narrow_19 : decode (cd mX10_narrow) 19 = .ok (.ireturn, 1) := by decide +kernel
theorem d_X10_downhill_0 : decode (cd mX10_downhill) 0 = .ok (.aload_n 0, 1) := by decide +kernel
theorem d_X10_downhill_1 : decode (cd mX10_downhill) 1 = .ok (.iload_n 1, 1) := by decide +kernel
theorem d_X10_downhill_2 : decode (cd mX10_downhill) 2 = .ok (.iconst 0, 1) := by decide +kernel
theorem d_X10_downhill_3 : decode (cd mX10_downhill) 3 = .ok (.aload_n 0, 1) := by decide +kernel
theorem d_X10_downhill_4 : decode (cd mX10_downhill) 4 = .ok (.getfield 19, 3) := by decide +kernel
theorem d_X10_downhill_7 : decode (cd mX10_downhill) 7 = .ok (.getfield 247, 3) := by decide +kernel
theorem d_X10_downhill_10 : decode (cd mX10_downhill) 10 = .ok (.iconst 1, 1) := by decide +kernel
theorem d_X10_downhill_11 : decode (cd mX10_downhill) 11 = .ok (.isub, 1) := by decide +kernel
theorem d_X10_downhill_12 : decode (cd mX10_downhill) 12 = .ok (.invokestatic 73, 3) := by decide +kernel
theorem d_X10_downhill_15 : decode (cd mX10_downhill) 15 = .ok (.invokevirtual 113, 3) := by decide +kernel
theorem d_X10_downhill_18 : decode (cd mX10_downhill) 18 = .ok (.ifCond .eq 7, 3) := by decide +kernel
theorem d_X10_downhill_21 : decode (cd mX10_downhill) 21 = .ok (.iconst (-1), 1) := by decide +kernel
theorem d_X10_downhill_22 : decode (cd mX10_downhill) 22 = .ok (.goto 11, 3) := by decide +kernel
theorem d_X10_downhill_25 : decode (cd mX10_downhill) 25 = .ok (.aload_n 0, 1) := by decide +kernel
theorem d_X10_downhill_26 : decode (cd mX10_downhill) 26 = .ok (.getfield 19, 3) := by decide +kernel
theorem d_X10_downhill_29 : decode (cd mX10_downhill) 29 = .ok (.iload_n 1, 1) := by decide +kernel
theorem d_X10_downhill_30 : decode (cd mX10_downhill) 30 = .ok (.invokestatic 259, 3) := by decide +kernel
theorem d_X10_downhill_33 : decode (cd mX10_downhill) 33 = .ok (.ireturn, 1) := by decide +kernel
theorem d_X10_likely_0 : decode (cd mX10_likely) 0 = .ok (.aload_n 0, 1) := by decide +kernel
theorem d_X10_likely_1 : decode (cd mX10_likely) 1 = .ok (.iload_n 1, 1) := by decide +kernel
theorem d_X10_likely_2 : decode (cd mX10_likely) 2 = .ok (.iconst 0, 1) := by decide +kernel
theorem d_X10_likely_3 : decode (cd mX10_likely) 3 = .ok (.iconst 3, 1) := by decide +kernel
theorem d_X10_likely_4 : decode (cd mX10_likely) 4 = .ok (.invokestatic 73, 3) := by decide +kernel
theorem d_X10_likely_7 : decode (cd mX10_likely) 7 = .ok (.ifCond .eq 17, 3) := by decide +kernel
theorem d_X10_likely_10 : decode (cd mX10_likely) 10 = .ok (.iload_n 2, 1) := by decide +kernel
theorem d_X10_likely_11 : decode (cd mX10_likely) 11 = .ok (.iconst 0, 1) := by decide +kernel
theorem d_X10_likely_12 : decode (cd mX10_likely) 12 = .ok (.bipush 6, 2) := by decide +kernel
theorem d_X10_likely_14 : decode (cd mX10_likely) 14 = .ok (.invokestatic 73, 3) := by decide +kernel
theorem d_X10_likely_17 : decode (cd mX10_likely) 17 = .ok (.ifCond .eq 7, 3) := by decide +kernel
theorem d_X10_likely_20 : decode (cd mX10_likely) 20 = .ok (.iconst 1, 1) := by decide +kernel
theorem d_X10_likely_21 : decode (cd mX10_likely) 21 = .ok (.goto 4, 3) := by decide +kernel
theorem d_X10_likely_24 : decode (cd mX10_likely) 24 = .ok (.iconst 0, 1) := by decide +kernel
theorem d_X10_likely_25 : decode (cd mX10_likely) 25 = .ok (.invokevirtual 154, 3) := by decide +kernel
theorem d_X10_likely_28 : decode (cd mX10_likely) 28 = .ok (.ifCond .eq 7, 3) := by decide +kernel
theorem d_X10_likely_31 : decode (cd mX10_likely) 31 = .ok (.ldc2_w 263, 3) := by decide +kernel
theorem d_X10_likely_34 : decode (cd mX10_likely) 34 = .ok (.lreturn, 1) := by decide +kernel
theorem d_X10_likely_35 : decode (cd mX10_likely) 35 = .ok (.aload_n 0, 1) := by decide +kernel
theorem d_X10_likely_36 : decode (cd mX10_likely) 36 = .ok (.getfield 61, 3) := by decide +kernel
theorem d_X10_likely_39 : decode (cd mX10_likely) 39 = .ok (.aload_n 0, 1) := by decide +kernel
theorem d_X10_likely_40 : decode (cd mX10_likely) 40 = .ok (.getfield 19, 3) := by decide +kernel
theorem d_X10_likely_43 : decode (cd mX10_likely) 43 = .ok (.aload_n 0, 1) := by decide +kernel
theorem d_X10_likely_44 : decode (cd mX10_likely) 44 = .ok (.getfield 26, 3) := by decide +kernel
theorem d_X10_likely_47 : decode (cd mX10_likely) 47 = .ok (.iload_n 2, 1) := by decide +kernel
theorem d_X10_likely_48 : decode (cd mX10_likely) 48 = .ok (.iload_n 1, 1) := by decide +kernel
theorem d_X10_likely_49 : decode (cd mX10_likely) 49 = .ok (.invokevirtual 265, 3) := by decide +kernel
theorem d_X10_likely_52 : decode (cd mX10_likely) 52 = .ok (.iload_n 3, 1) := by decide +kernel
theorem d_X10_likely_53 : decode (cd mX10_likely) 53 = .ok (.ifCond .eq 13, 3) := by decide +kernel
theorem d_X10_likely_56 : decode (cd mX10_likely) 56 = .ok (.aload_n 0, 1) := by decide +kernel
theorem d_X10_likely_57 : decode (cd mX10_likely) 57 = .ok (.getfield 61, 3) := by decide +kernel
theorem d_X10_likely_60 : decode (cd mX10_likely) 60 = .ok (.getfield 268, 3) := by decide +kernel
theorem d_X10_likely_63 : decode (cd mX10_likely) 63 = .ok (.goto 10, 3) := by decide +kernel
theorem d_X10_likely_66 : decode (cd mX10_likely) 66 = .ok (.aload_n 0, 1) := by decide +kernel
theorem d_X10_likely_67 : decode (cd mX10_likely) 67 = .ok (.getfield 61, 3) := by decide +kernel
theorem d_X10_likely_70 : decode (cd mX10_likely) 70 = .ok (.getfield 272, 3) := by decide +kernel
theorem d_X10_likely_73 : decode (cd mX10_likely) 73 = .ok (.lreturn, 1) := by decide +kernel
theorem d_X10_mean_0 : decode (cd mX10_mean) 0 = .ok (.aload_n 0, 1) := by decide +kernel
theorem d_X10_mean_1 : decode (cd mX10_mean) 1 = .ok (.iload_n 1, 1) := by decide +kernel
theorem d_X10_mean_2 : decode (cd mX10_mean) 2 = .ok (.iconst 0, 1) := by decide +kernel
theorem d_X10_mean_3 : decode (cd mX10_mean) 3 = .ok (.bipush 6, 2) := by decide +kernel
theorem d_X10_mean_5 : decode (cd mX10_mean) 5 = .ok (.invokestatic 73, 3) := by decide +kernel
theorem d_X10_mean_8 : decode (cd mX10_mean) 8 = .ok (.invokevirtual 154, 3) := by decide +kernel
theorem d_X10_mean_11 : decode (cd mX10_mean) 11 = .ok (.ifCond .eq 7, 3) := by decide +kernel
theorem d_X10_mean_14 : decode (cd mX10_mean) 14 = .ok (.ldc2_w 263, 3) := by decide +kernel
theorem d_X10_mean_17 : decode (cd mX10_mean) 17 = .ok (.lreturn, 1) := by decide +kernel
theorem d_X10_mean_18 : decode (cd mX10_mean) 18 = .ok (.aload_n 0, 1) := by decide +kernel
theorem d_X10_mean_19 : decode (cd mX10_mean) 19 = .ok (.getfield 61, 3) := by decide +kernel
theorem d_X10_mean_22 : decode (cd mX10_mean) 22 = .ok (.aload_n 0, 1) := by decide +kernel
theorem d_X10_mean_23 : decode (cd mX10_mean) 23 = .ok (.getfield 19, 3) := by decide +kernel
theorem d_X10_mean_26 : decode (cd mX10_mean) 26 = .ok (.aload_n 0, 1) := by decide +kernel
theorem d_X10_mean_27 : decode (cd mX10_mean) 27 = .ok (.getfield 26, 3) := by decide +kernel
theorem d_X10_mean_30 : decode (cd mX10_mean) 30 = .ok (.iload_n 1, 1) := by decide +kernel
theorem d_X10_mean_31 : decode (cd mX10_mean) 31 = .ok (.iconst (-1), 1) := by decide +kernel
theorem d_X10_mean_32 : decode (cd mX10_mean) 32 = .ok (.invokevirtual 265, 3) := by decide +kernel
theorem d_X10_mean_35 : decode (cd mX10_mean) 35 = .ok (.iload_n 2, 1) := by decide +kernel
theorem d_X10_mean_36 : decode (cd mX10_mean) 36 = .ok (.ifCond .eq 13, 3) := by decide +kernel
theorem d_X10_mean_39 : decode (cd mX10_mean) 39 = .ok (.aload_n 0, 1) := by decide +kernel
theorem d_X10_mean_40 : decode (cd mX10_mean) 40 = .ok (.getfield 61, 3) := by decide +kernel
theorem d_X10_mean_43 : decode (cd mX10_mean) 43 = .ok (.getfield 268, 3) := by decide +kernel
theorem d_X10_mean_46 : decode (cd mX10_mean) 46 = .ok (.goto 10, 3) := by decide +kernel
theorem d_X10_mean_49 : decode (cd mX10_mean) 49 = .ok (.aload_n 0, 1) := by decide +kernel
theorem d_X10_mean_50 : decode (cd mX10_mean) 50 = .ok (.getfield 61, 3) := by decide +kernel
theorem d_X10_mean_53 : decode (cd mX10_mean) 53 = .ok (.getfield 272, 3) := by decide +kernel
theorem d_X10_mean_56 : decode (cd mX10_mean) 56 = .ok (.lreturn, 1) := by decide +kernel
theorem d_X10_gusted_0 : decode (cd mX10_gusted) 0 = .ok (.aload_n 0, 1) := by decide +kernel
theorem d_X10_gusted_1 : decode (cd mX10_gusted) 1 = .ok (.iload_n 1, 1) := by decide +kernel
theorem d_X10_gusted_2 : decode (cd mX10_gusted) 2 = .ok (.iconst 0, 1) := by decide +kernel
theorem d_X10_gusted_3 : decode (cd mX10_gusted) 3 = .ok (.ldc_w 275, 3) := by decide +kernel
theorem d_X10_gusted_6 : decode (cd mX10_gusted) 6 = .ok (.invokestatic 73, 3) := by decide +kernel
theorem d_X10_gusted_9 : decode (cd mX10_gusted) 9 = .ok (.ifCond .eq 17, 3) := by decide +kernel
theorem d_X10_gusted_12 : decode (cd mX10_gusted) 12 = .ok (.iload_n 2, 1) := by decide +kernel
theorem d_X10_gusted_13 : decode (cd mX10_gusted) 13 = .ok (.iconst 0, 1) := by decide +kernel
theorem d_X10_gusted_14 : decode (cd mX10_gusted) 14 = .ok (.bipush 60, 2) := by decide +kernel
theorem d_X10_gusted_16 : decode (cd mX10_gusted) 16 = .ok (.invokestatic 73, 3) := by decide +kernel
theorem d_X10_gusted_19 : decode (cd mX10_gusted) 19 = .ok (.ifCond .eq 7, 3) := by decide +kernel
theorem d_X10_gusted_22 : decode (cd mX10_gusted) 22 = .ok (.iconst 1, 1) := by decide +kernel
theorem d_X10_gusted_23 : decode (cd mX10_gusted) 23 = .ok (.goto 4, 3) := by decide +kernel
theorem d_X10_gusted_26 : decode (cd mX10_gusted) 26 = .ok (.iconst 0, 1) := by decide +kernel
theorem d_X10_gusted_27 : decode (cd mX10_gusted) 27 = .ok (.invokevirtual 154, 3) := by decide +kernel
theorem d_X10_gusted_30 : decode (cd mX10_gusted) 30 = .ok (.ifCond .eq 5, 3) := by decide +kernel
theorem d_X10_gusted_33 : decode (cd mX10_gusted) 33 = .ok (.iconst (-1), 1) := by decide +kernel
theorem d_X10_gusted_34 : decode (cd mX10_gusted) 34 = .ok (.ireturn, 1) := by decide +kernel
theorem d_X10_gusted_35 : decode (cd mX10_gusted) 35 = .ok (.aload_n 0, 1) := by decide +kernel
theorem d_X10_gusted_36 : decode (cd mX10_gusted) 36 = .ok (.getfield 61, 3) := by decide +kernel
theorem d_X10_gusted_39 : decode (cd mX10_gusted) 39 = .ok (.aload_n 0, 1) := by decide +kernel
theorem d_X10_gusted_40 : decode (cd mX10_gusted) 40 = .ok (.getfield 19, 3) := by decide +kernel
theorem d_X10_gusted_43 : decode (cd mX10_gusted) 43 = .ok (.aload_n 0, 1) := by decide +kernel
theorem d_X10_gusted_44 : decode (cd mX10_gusted) 44 = .ok (.getfield 26, 3) := by decide +kernel
theorem d_X10_gusted_47 : decode (cd mX10_gusted) 47 = .ok (.iload_n 1, 1) := by decide +kernel
theorem d_X10_gusted_48 : decode (cd mX10_gusted) 48 = .ok (.iload_n 2, 1) := by decide +kernel
theorem d_X10_gusted_49 : decode (cd mX10_gusted) 49 = .ok (.invokevirtual 276, 3) := by decide +kernel
theorem d_X10_gusted_52 : decode (cd mX10_gusted) 52 = .ok (.aload_n 0, 1) := by decide +kernel
theorem d_X10_gusted_53 : decode (cd mX10_gusted) 53 = .ok (.getfield 61, 3) := by decide +kernel
theorem d_X10_gusted_56 : decode (cd mX10_gusted) 56 = .ok (.getfield 279, 3) := by decide +kernel
theorem d_X10_gusted_59 : decode (cd mX10_gusted) 59 = .ok (.getfield 117, 3) := by decide +kernel
theorem d_X10_gusted_62 : decode (cd mX10_gusted) 62 = .ok (.bipush 9, 2) := by decide +kernel
theorem d_X10_gusted_64 : decode (cd mX10_gusted) 64 = .ok (.iadd, 1) := by decide +kernel
theorem d_X10_gusted_65 : decode (cd mX10_gusted) 65 = .ok (.ireturn, 1) := by decide +kernel
theorem d_X10_wetIn_0 : decode (cd mX10_wetIn) 0 = .ok (.aload_n 0, 1) := by decide +kernel
theorem d_X10_wetIn_1 : decode (cd mX10_wetIn) 1 = .ok (.iload_n 1, 1) := by decide +kernel
theorem d_X10_wetIn_2 : decode (cd mX10_wetIn) 2 = .ok (.iconst 0, 1) := by decide +kernel
theorem d_X10_wetIn_3 : decode (cd mX10_wetIn) 3 = .ok (.ldc_w 275, 3) := by decide +kernel
theorem d_X10_wetIn_6 : decode (cd mX10_wetIn) 6 = .ok (.invokestatic 73, 3) := by decide +kernel
theorem d_X10_wetIn_9 : decode (cd mX10_wetIn) 9 = .ok (.ifCond .eq 17, 3) := by decide +kernel
theorem d_X10_wetIn_12 : decode (cd mX10_wetIn) 12 = .ok (.iload_n 2, 1) := by decide +kernel
theorem d_X10_wetIn_13 : decode (cd mX10_wetIn) 13 = .ok (.iconst 0, 1) := by decide +kernel
theorem d_X10_wetIn_14 : decode (cd mX10_wetIn) 14 = .ok (.bipush 60, 2) := by decide +kernel
theorem d_X10_wetIn_16 : decode (cd mX10_wetIn) 16 = .ok (.invokestatic 73, 3) := by decide +kernel
theorem d_X10_wetIn_19 : decode (cd mX10_wetIn) 19 = .ok (.ifCond .eq 7, 3) := by decide +kernel
theorem d_X10_wetIn_22 : decode (cd mX10_wetIn) 22 = .ok (.iconst 1, 1) := by decide +kernel
theorem d_X10_wetIn_23 : decode (cd mX10_wetIn) 23 = .ok (.goto 4, 3) := by decide +kernel
theorem d_X10_wetIn_26 : decode (cd mX10_wetIn) 26 = .ok (.iconst 0, 1) := by decide +kernel
theorem d_X10_wetIn_27 : decode (cd mX10_wetIn) 27 = .ok (.invokevirtual 154, 3) := by decide +kernel
theorem d_X10_wetIn_30 : decode (cd mX10_wetIn) 30 = .ok (.ifCond .eq 5, 3) := by decide +kernel
theorem d_X10_wetIn_33 : decode (cd mX10_wetIn) 33 = .ok (.iconst (-1), 1) := by decide +kernel
theorem d_X10_wetIn_34 : decode (cd mX10_wetIn) 34 = .ok (.ireturn, 1) := by decide +kernel
theorem d_X10_wetIn_35 : decode (cd mX10_wetIn) 35 = .ok (.aload_n 0, 1) := by decide +kernel
theorem d_X10_wetIn_36 : decode (cd mX10_wetIn) 36 = .ok (.getfield 61, 3) := by decide +kernel
theorem d_X10_wetIn_39 : decode (cd mX10_wetIn) 39 = .ok (.aload_n 0, 1) := by decide +kernel
theorem d_X10_wetIn_40 : decode (cd mX10_wetIn) 40 = .ok (.getfield 19, 3) := by decide +kernel
theorem d_X10_wetIn_43 : decode (cd mX10_wetIn) 43 = .ok (.aload_n 0, 1) := by decide +kernel
theorem d_X10_wetIn_44 : decode (cd mX10_wetIn) 44 = .ok (.getfield 26, 3) := by decide +kernel
theorem d_X10_wetIn_47 : decode (cd mX10_wetIn) 47 = .ok (.iload_n 1, 1) := by decide +kernel
theorem d_X10_wetIn_48 : decode (cd mX10_wetIn) 48 = .ok (.iload_n 2, 1) := by decide +kernel
theorem d_X10_wetIn_49 : decode (cd mX10_wetIn) 49 = .ok (.invokevirtual 276, 3) := by decide +kernel
theorem d_X10_wetIn_52 : decode (cd mX10_wetIn) 52 = .ok (.aload_n 0, 1) := by decide +kernel
theorem d_X10_wetIn_53 : decode (cd mX10_wetIn) 53 = .ok (.getfield 61, 3) := by decide +kernel
theorem d_X10_wetIn_56 : decode (cd mX10_wetIn) 56 = .ok (.getfield 282, 3) := by decide +kernel
theorem d_X10_wetIn_59 : decode (cd mX10_wetIn) 59 = .ok (.ireturn, 1) := by decide +kernel
theorem d_X10_open_0 : decode (cd mX10_open) 0 = .ok (.aload_n 0, 1) := by decide +kernel
theorem d_X10_open_1 : decode (cd mX10_open) 1 = .ok (.aload_n 0, 1) := by decide +kernel
theorem d_X10_open_2 : decode (cd mX10_open) 2 = .ok (.getfield 19, 3) := by decide +kernel
theorem d_X10_open_5 : decode (cd mX10_open) 5 = .ok (.getfield 104, 3) := by decide +kernel
theorem d_X10_open_8 : decode (cd mX10_open) 8 = .ok (.iload_n 1, 1) := by decide +kernel
theorem d_X10_open_9 : decode (cd mX10_open) 9 = .ok (.invokevirtual 136, 3) := by decide +kernel
theorem d_X10_open_12 : decode (cd mX10_open) 12 = .ok (.invokevirtual 113, 3) := by decide +kernel
theorem d_X10_open_15 : decode (cd mX10_open) 15 = .ok (.ifCond .eq 5, 3) := by decide +kernel
theorem d_X10_open_18 : decode (cd mX10_open) 18 = .ok (.iconst 0, 1) := by decide +kernel
theorem d_X10_open_19 : decode (cd mX10_open) 19 = .ok (.ireturn, 1) := by decide +kernel
theorem d_X10_open_20 : decode (cd mX10_open) 20 = .ok (.aload_n 0, 1) := by decide +kernel
theorem d_X10_open_21 : decode (cd mX10_open) 21 = .ok (.getfield 26, 3) := by decide +kernel
theorem d_X10_open_24 : decode (cd mX10_open) 24 = .ok (.iload_n 1, 1) := by decide +kernel
theorem d_X10_open_25 : decode (cd mX10_open) 25 = .ok (.invokevirtual 140, 3) := by decide +kernel
theorem d_X10_open_28 : decode (cd mX10_open) 28 = .ok (.ifCond .eq 10, 3) := by decide +kernel
theorem d_X10_open_31 : decode (cd mX10_open) 31 = .ok (.aload_n 0, 1) := by decide +kernel
theorem d_X10_open_32 : decode (cd mX10_open) 32 = .ok (.iconst 5, 1) := by decide +kernel
theorem d_X10_open_33 : decode (cd mX10_open) 33 = .ok (.putfield 101, 3) := by decide +kernel
theorem d_X10_open_36 : decode (cd mX10_open) 36 = .ok (.iconst 0, 1) := by decide +kernel
theorem d_X10_open_37 : decode (cd mX10_open) 37 = .ok (.ireturn, 1) := by decide +kernel
theorem d_X10_open_38 : decode (cd mX10_open) 38 = .ok (.aload_n 0, 1) := by decide +kernel
theorem d_X10_open_39 : decode (cd mX10_open) 39 = .ok (.getfield 33, 3) := by decide +kernel
theorem d_X10_open_42 : decode (cd mX10_open) 42 = .ok (.aload_n 0, 1) := by decide +kernel
theorem d_X10_open_43 : decode (cd mX10_open) 43 = .ok (.getfield 26, 3) := by decide +kernel
theorem d_X10_open_46 : decode (cd mX10_open) 46 = .ok (.invokevirtual 285, 3) := by decide +kernel
theorem d_X10_open_49 : decode (cd mX10_open) 49 = .ok (.aload_n 0, 1) := by decide +kernel
theorem d_X10_open_50 : decode (cd mX10_open) 50 = .ok (.getfield 26, 3) := by decide +kernel
theorem d_X10_open_53 : decode (cd mX10_open) 53 = .ok (.iload_n 1, 1) := by decide +kernel
theorem d_X10_open_54 : decode (cd mX10_open) 54 = .ok (.invokevirtual 289, 3) := by decide +kernel
theorem d_X10_open_57 : decode (cd mX10_open) 57 = .ok (.iconst 1, 1) := by decide +kernel
theorem d_X10_open_58 : decode (cd mX10_open) 58 = .ok (.ireturn, 1) := by decide +kernel
theorem d_X10_oil_0 : decode (cd mX10_oil) 0 = .ok (.aload_n 0, 1) := by decide +kernel
theorem d_X10_oil_1 : decode (cd mX10_oil) 1 = .ok (.iconst 1, 1) := by decide +kernel
theorem d_X10_oil_2 : decode (cd mX10_oil) 2 = .ok (.invokevirtual 154, 3) := by decide +kernel
theorem d_X10_oil_5 : decode (cd mX10_oil) 5 = .ok (.ifCond .eq 5, 3) := by decide +kernel
theorem d_X10_oil_8 : decode (cd mX10_oil) 8 = .ok (.iconst (-1), 1) := by decide +kernel
theorem d_X10_oil_9 : decode (cd mX10_oil) 9 = .ok (.ireturn, 1) := by decide +kernel
theorem d_X10_oil_10 : decode (cd mX10_oil) 10 = .ok (.aload_n 0, 1) := by decide +kernel
theorem d_X10_oil_11 : decode (cd mX10_oil) 11 = .ok (.getfield 26, 3) := by decide +kernel
theorem d_X10_oil_14 : decode (cd mX10_oil) 14 = .ok (.getfield 127, 3) := by decide +kernel
theorem d_X10_oil_17 : decode (cd mX10_oil) 17 = .ok (.iconst 3, 1) := by decide +kernel
theorem d_X10_oil_18 : decode (cd mX10_oil) 18 = .ok (.if_icmp .lt 9, 3) := by decide +kernel
theorem d_X10_oil_21 : decode (cd mX10_oil) 21 = .ok (.aload_n 0, 1) := by decide +kernel
theorem d_X10_oil_22 : decode (cd mX10_oil) 22 = .ok (.iconst 5, 1) := by decide +kernel
theorem d_X10_oil_23 : decode (cd mX10_oil) 23 = .ok (.invokevirtual 77, 3) := by decide +kernel
theorem d_X10_oil_26 : decode (cd mX10_oil) 26 = .ok (.ireturn, 1) := by decide +kernel
theorem d_X10_oil_27 : decode (cd mX10_oil) 27 = .ok (.aload_n 0, 1) := by decide +kernel
theorem d_X10_oil_28 : decode (cd mX10_oil) 28 = .ok (.getfield 33, 3) := by decide +kernel
theorem d_X10_oil_31 : decode (cd mX10_oil) 31 = .ok (.aload_n 0, 1) := by decide +kernel
theorem d_X10_oil_32 : decode (cd mX10_oil) 32 = .ok (.getfield 26, 3) := by decide +kernel
theorem d_X10_oil_35 : decode (cd mX10_oil) 35 = .ok (.invokevirtual 285, 3) := by decide +kernel
theorem d_X10_oil_38 : decode (cd mX10_oil) 38 = .ok (.aload_n 0, 1) := by decide +kernel
theorem d_X10_oil_39 : decode (cd mX10_oil) 39 = .ok (.getfield 26, 3) := by decide +kernel
theorem d_X10_oil_42 : decode (cd mX10_oil) 42 = .ok (.dup, 1) := by decide +kernel
theorem d_X10_oil_43 : decode (cd mX10_oil) 43 = .ok (.getfield 127, 3) := by decide +kernel
theorem d_X10_oil_46 : decode (cd mX10_oil) 46 = .ok (.iconst 1, 1) := by decide +kernel
theorem d_X10_oil_47 : decode (cd mX10_oil) 47 = .ok (.iadd, 1) := by decide +kernel
theorem d_X10_oil_48 : decode (cd mX10_oil) 48 = .ok (.putfield 127, 3) := by decide +kernel
theorem d_X10_oil_51 : decode (cd mX10_oil) 51 = .ok (.aload_n 0, 1) := by decide +kernel
theorem d_X10_oil_52 : decode (cd mX10_oil) 52 = .ok (.getfield 26, 3) := by decide +kernel
theorem d_X10_oil_55 : decode (cd mX10_oil) 55 = .ok (.getfield 127, 3) := by decide +kernel
theorem d_X10_oil_58 : decode (cd mX10_oil) 58 = .ok (.ireturn, 1) := by decide +kernel
theorem d_X10_day_0 : decode (cd mX10_day) 0 = .ok (.aload_n 0, 1) := by decide +kernel
theorem d_X10_day_1 : decode (cd mX10_day) 1 = .ok (.iconst 1, 1) := by decide +kernel
theorem d_X10_day_2 : decode (cd mX10_day) 2 = .ok (.invokevirtual 154, 3) := by decide +kernel
theorem d_X10_day_5 : decode (cd mX10_day) 5 = .ok (.ifCond .eq 5, 3) := by decide +kernel
theorem d_X10_day_8 : decode (cd mX10_day) 8 = .ok (.iconst (-1), 1) := by decide +kernel
theorem d_X10_day_9 : decode (cd mX10_day) 9 = .ok (.ireturn, 1) := by decide +kernel
theorem d_X10_day_10 : decode (cd mX10_day) 10 = .ok (.aload_n 0, 1) := by decide +kernel
theorem d_X10_day_11 : decode (cd mX10_day) 11 = .ok (.getfield 26, 3) := by decide +kernel
theorem d_X10_day_14 : decode (cd mX10_day) 14 = .ok (.getfield 179, 3) := by decide +kernel
theorem d_X10_day_17 : decode (cd mX10_day) 17 = .ok (.sipush 999, 3) := by decide +kernel
theorem d_X10_day_20 : decode (cd mX10_day) 20 = .ok (.if_icmp .lt 9, 3) := by decide +kernel
theorem d_X10_day_23 : decode (cd mX10_day) 23 = .ok (.aload_n 0, 1) := by decide +kernel
theorem d_X10_day_24 : decode (cd mX10_day) 24 = .ok (.iconst 3, 1) := by decide +kernel
theorem d_X10_day_25 : decode (cd mX10_day) 25 = .ok (.invokevirtual 77, 3) := by decide +kernel
theorem d_X10_day_28 : decode (cd mX10_day) 28 = .ok (.ireturn, 1) := by decide +kernel
theorem d_X10_day_29 : decode (cd mX10_day) 29 = .ok (.aload_n 0, 1) := by decide +kernel
theorem d_X10_day_30 : decode (cd mX10_day) 30 = .ok (.getfield 33, 3) := by decide +kernel
theorem d_X10_day_33 : decode (cd mX10_day) 33 = .ok (.aload_n 0, 1) := by decide +kernel
theorem d_X10_day_34 : decode (cd mX10_day) 34 = .ok (.getfield 26, 3) := by decide +kernel
theorem d_X10_day_37 : decode (cd mX10_day) 37 = .ok (.invokevirtual 285, 3) := by decide +kernel
theorem d_X10_day_40 : decode (cd mX10_day) 40 = .ok (.aload_n 0, 1) := by decide +kernel
theorem d_X10_day_41 : decode (cd mX10_day) 41 = .ok (.getfield 26, 3) := by decide +kernel
theorem d_X10_day_44 : decode (cd mX10_day) 44 = .ok (.aload_n 0, 1) := by decide +kernel
theorem d_X10_day_45 : decode (cd mX10_day) 45 = .ok (.getfield 19, 3) := by decide +kernel
theorem d_X10_day_48 : decode (cd mX10_day) 48 = .ok (.invokevirtual 292, 3) := by decide +kernel
theorem d_X10_day_51 : decode (cd mX10_day) 51 = .ok (.aload_n 0, 1) := by decide +kernel
theorem d_X10_day_52 : decode (cd mX10_day) 52 = .ok (.getfield 26, 3) := by decide +kernel
theorem d_X10_day_55 : decode (cd mX10_day) 55 = .ok (.getfield 130, 3) := by decide +kernel
theorem d_X10_day_58 : decode (cd mX10_day) 58 = .ok (.ireturn, 1) := by decide +kernel
theorem d_X10_undo_0 : decode (cd mX10_undo) 0 = .ok (.aload_n 0, 1) := by decide +kernel
theorem d_X10_undo_1 : decode (cd mX10_undo) 1 = .ok (.getfield 33, 3) := by decide +kernel
theorem d_X10_undo_4 : decode (cd mX10_undo) 4 = .ok (.aload_n 0, 1) := by decide +kernel
theorem d_X10_undo_5 : decode (cd mX10_undo) 5 = .ok (.getfield 26, 3) := by decide +kernel
theorem d_X10_undo_8 : decode (cd mX10_undo) 8 = .ok (.invokevirtual 295, 3) := by decide +kernel
theorem d_X10_undo_11 : decode (cd mX10_undo) 11 = .ok (.istore_n 1, 1) := by decide +kernel
theorem d_X10_undo_12 : decode (cd mX10_undo) 12 = .ok (.aload_n 0, 1) := by decide +kernel
theorem d_X10_undo_13 : decode (cd mX10_undo) 13 = .ok (.iload_n 1, 1) := by decide +kernel
theorem d_X10_undo_14 : decode (cd mX10_undo) 14 = .ok (.ifCond .eq 7, 3) := by decide +kernel
theorem d_X10_undo_17 : decode (cd mX10_undo) 17 = .ok (.iconst 0, 1) := by decide +kernel
theorem d_X10_undo_18 : decode (cd mX10_undo) 18 = .ok (.goto 5, 3) := by decide +kernel
theorem d_X10_undo_21 : decode (cd mX10_undo) 21 = .ok (.bipush 6, 2) := by decide +kernel
theorem d_X10_undo_23 : decode (cd mX10_undo) 23 = .ok (.putfield 101, 3) := by decide +kernel
theorem d_X10_undo_26 : decode (cd mX10_undo) 26 = .ok (.iload_n 1, 1) := by decide +kernel
theorem d_X10_undo_27 : decode (cd mX10_undo) 27 = .ok (.ireturn, 1) := by decide +kernel
theorem d_X10_image_0 : decode (cd mX10_image) 0 = .ok (.aload_n 0, 1) := by decide +kernel
theorem d_X10_image_1 : decode (cd mX10_image) 1 = .ok (.iconst 1, 1) := by decide +kernel
theorem d_X10_image_2 : decode (cd mX10_image) 2 = .ok (.invokevirtual 154, 3) := by decide +kernel
theorem d_X10_image_5 : decode (cd mX10_image) 5 = .ok (.ifCond .eq 5, 3) := by decide +kernel
theorem d_X10_image_8 : decode (cd mX10_image) 8 = .ok (.iconst (-1), 1) := by decide +kernel
theorem d_X10_image_9 : decode (cd mX10_image) 9 = .ok (.ireturn, 1) := by decide +kernel
theorem d_X10_image_10 : decode (cd mX10_image) 10 = .ok (.aload_n 0, 1) := by decide +kernel
theorem d_X10_image_11 : decode (cd mX10_image) 11 = .ok (.getfield 33, 3) := by decide +kernel
theorem d_X10_image_14 : decode (cd mX10_image) 14 = .ok (.aload_n 0, 1) := by decide +kernel
theorem d_X10_image_15 : decode (cd mX10_image) 15 = .ok (.getfield 26, 3) := by decide +kernel
theorem d_X10_image_18 : decode (cd mX10_image) 18 = .ok (.invokevirtual 299, 3) := by decide +kernel
theorem d_X10_image_21 : decode (cd mX10_image) 21 = .ok (.istore_n 1, 1) := by decide +kernel
theorem d_X10_image_22 : decode (cd mX10_image) 22 = .ok (.iload_n 1, 1) := by decide +kernel
theorem d_X10_image_23 : decode (cd mX10_image) 23 = .ok (.iconst (-1), 1) := by decide +kernel
theorem d_X10_image_24 : decode (cd mX10_image) 24 = .ok (.if_icmp .ne 11, 3) := by decide +kernel
theorem d_X10_image_27 : decode (cd mX10_image) 27 = .ok (.aload_n 0, 1) := by decide +kernel
theorem d_X10_image_28 : decode (cd mX10_image) 28 = .ok (.iconst 3, 1) := by decide +kernel
theorem d_X10_image_29 : decode (cd mX10_image) 29 = .ok (.invokevirtual 77, 3) := by decide +kernel
theorem d_X10_image_32 : decode (cd mX10_image) 32 = .ok (.goto 4, 3) := by decide +kernel
theorem d_X10_image_35 : decode (cd mX10_image) 35 = .ok (.iload_n 1, 1) := by decide +kernel
theorem d_X10_image_36 : decode (cd mX10_image) 36 = .ok (.ireturn, 1) := by decide +kernel
theorem d_X10_back_0 : decode (cd mX10_back) 0 = .ok (.aload_n 0, 1) := by decide +kernel
theorem d_X10_back_1 : decode (cd mX10_back) 1 = .ok (.aload_n 0, 1) := by decide +kernel
theorem d_X10_back_2 : decode (cd mX10_back) 2 = .ok (.getfield 33, 3) := by decide +kernel
theorem d_X10_back_5 : decode (cd mX10_back) 5 = .ok (.iload_n 1, 1) := by decide +kernel
theorem d_X10_back_6 : decode (cd mX10_back) 6 = .ok (.aload_n 0, 1) := by decide +kernel
theorem d_X10_back_7 : decode (cd mX10_back) 7 = .ok (.getfield 26, 3) := by decide +kernel
theorem d_X10_back_10 : decode (cd mX10_back) 10 = .ok (.invokevirtual 303, 3) := by decide +kernel
theorem d_X10_back_13 : decode (cd mX10_back) 13 = .ok (.invokevirtual 113, 3) := by decide +kernel
theorem d_X10_back_16 : decode (cd mX10_back) 16 = .ok (.ifCond .ne 7, 3) := by decide +kernel
theorem d_X10_back_19 : decode (cd mX10_back) 19 = .ok (.iconst 1, 1) := by decide +kernel
theorem d_X10_back_20 : decode (cd mX10_back) 20 = .ok (.goto 4, 3) := by decide +kernel
theorem d_X10_back_23 : decode (cd mX10_back) 23 = .ok (.iconst 0, 1) := by decide +kernel
theorem d_X10_back_24 : decode (cd mX10_back) 24 = .ok (.ireturn, 1) := by decide +kernel
theorem d_X10_led_0 : decode (cd mX10_led) 0 = .ok (.iload_n 1, 1) := by decide +kernel
theorem d_X10_led_1 : decode (cd mX10_led) 1 = .ok (.istore_n 2, 1) := by decide +kernel
theorem d_X10_led_2 : decode (cd mX10_led) 2 = .ok (.iconst 0, 1) := by decide +kernel
theorem d_X10_led_3 : decode (cd mX10_led) 3 = .ok (.istore_n 3, 1) := by decide +kernel
theorem d_X10_led_4 : decode (cd mX10_led) 4 = .ok (.iload_n 3, 1) := by decide +kernel
theorem d_X10_led_5 : decode (cd mX10_led) 5 = .ok (.aload_n 0, 1) := by decide +kernel
theorem d_X10_led_6 : decode (cd mX10_led) 6 = .ok (.getfield 19, 3) := by decide +kernel
theorem d_X10_led_9 : decode (cd mX10_led) 9 = .ok (.getfield 147, 3) := by decide +kernel
theorem d_X10_led_12 : decode (cd mX10_led) 12 = .ok (.getfield 108, 3) := by decide +kernel
theorem d_X10_led_15 : decode (cd mX10_led) 15 = .ok (.if_icmp .ge 33, 3) := by decide +kernel
theorem d_X10_led_18 : decode (cd mX10_led) 18 = .ok (.aload_n 0, 1) := by decide +kernel
theorem d_X10_led_19 : decode (cd mX10_led) 19 = .ok (.getfield 19, 3) := by decide +kernel
theorem d_X10_led_22 : decode (cd mX10_led) 22 = .ok (.iload_n 3, 1) := by decide +kernel
theorem d_X10_led_23 : decode (cd mX10_led) 23 = .ok (.aload_n 0, 1) := by decide +kernel
theorem d_X10_led_24 : decode (cd mX10_led) 24 = .ok (.getfield 26, 3) := by decide +kernel
theorem d_X10_led_27 : decode (cd mX10_led) 27 = .ok (.invokevirtual 307, 3) := by decide +kernel
theorem d_X10_led_30 : decode (cd mX10_led) 30 = .ok (.ifCond .eq 12, 3) := by decide +kernel
theorem d_X10_led_33 : decode (cd mX10_led) 33 = .ok (.iload_n 2, 1) := by decide +kernel
theorem d_X10_led_34 : decode (cd mX10_led) 34 = .ok (.ifCond .ne 5, 3) := by decide +kernel
theorem d_X10_led_37 : decode (cd mX10_led) 37 = .ok (.iload_n 3, 1) := by decide +kernel
theorem d_X10_led_38 : decode (cd mX10_led) 38 = .ok (.ireturn, 1) := by decide +kernel
theorem d_X10_led_39 : decode (cd mX10_led) 39 = .ok (.iinc 2 (-1), 3) := by decide +kernel
theorem d_X10_led_42 : decode (cd mX10_led) 42 = .ok (.iinc 3 1, 3) := by decide +kernel
theorem d_X10_led_45 : decode (cd mX10_led) 45 = .ok (.goto (-41), 3) := by decide +kernel
theorem d_X10_led_48 : decode (cd mX10_led) 48 = .ok (.new 310, 3) := by decide +kernel
theorem d_X10_led_51 : decode (cd mX10_led) 51 = .ok (.dup, 1) := by decide +kernel
theorem d_X10_led_52 : decode (cd mX10_led) 52 = .ok (.ldc_w 312, 3) := by decide +kernel
theorem d_X10_led_55 : decode (cd mX10_led) 55 = .ok (.invokespecial 314, 3) := by decide +kernel
theorem d_X10_led_58 : decode (cd mX10_led) 58 = .ok (.athrow, 1) := by decide +kernel
theorem d_X10_size_0 : decode (cd mX10_size) 0 = .ok (.iload_n 1, 1) := by decide +kernel
theorem d_X10_size_1 : decode (cd mX10_size) 1 = .ok (.tableswitch 195 0 13 #[71, 79, 87, 95, 103, 111, 122, 133, 144, 152, 163, 171, 179, 187], 71) := by decide +kernel
theorem d_X10_size_72 : decode (cd mX10_size) 72 = .ok (.aload_n 0, 1) := by decide +kernel
theorem d_X10_size_73 : decode (cd mX10_size) 73 = .ok (.getfield 19, 3) := by decide +kernel
theorem d_X10_size_76 : decode (cd mX10_size) 76 = .ok (.getfield 317, 3) := by decide +kernel
theorem d_X10_size_79 : decode (cd mX10_size) 79 = .ok (.ireturn, 1) := by decide +kernel
theorem d_X10_size_80 : decode (cd mX10_size) 80 = .ok (.aload_n 0, 1) := by decide +kernel
theorem d_X10_size_81 : decode (cd mX10_size) 81 = .ok (.getfield 19, 3) := by decide +kernel
theorem d_X10_size_84 : decode (cd mX10_size) 84 = .ok (.getfield 320, 3) := by decide +kernel
theorem d_X10_size_87 : decode (cd mX10_size) 87 = .ok (.ireturn, 1) := by decide +kernel
theorem d_X10_size_88 : decode (cd mX10_size) 88 = .ok (.aload_n 0, 1) := by decide +kernel
theorem d_X10_size_89 : decode (cd mX10_size) 89 = .ok (.getfield 19, 3) := by decide +kernel
theorem d_X10_size_92 : decode (cd mX10_size) 92 = .ok (.getfield 321, 3) := by decide +kernel
theorem d_X10_size_95 : decode (cd mX10_size) 95 = .ok (.ireturn, 1) := by decide +kernel
theorem d_X10_size_96 : decode (cd mX10_size) 96 = .ok (.aload_n 0, 1) := by decide +kernel
theorem d_X10_size_97 : decode (cd mX10_size) 97 = .ok (.getfield 19, 3) := by decide +kernel
theorem d_X10_size_100 : decode (cd mX10_size) 100 = .ok (.getfield 324, 3) := by decide +kernel
theorem d_X10_size_103 : decode (cd mX10_size) 103 = .ok (.ireturn, 1) := by decide +kernel
theorem d_X10_size_104 : decode (cd mX10_size) 104 = .ok (.aload_n 0, 1) := by decide +kernel
theorem d_X10_size_105 : decode (cd mX10_size) 105 = .ok (.getfield 19, 3) := by decide +kernel
theorem d_X10_size_108 : decode (cd mX10_size) 108 = .ok (.getfield 327, 3) := by decide +kernel
theorem d_X10_size_111 : decode (cd mX10_size) 111 = .ok (.ireturn, 1) := by decide +kernel
theorem d_X10_size_112 : decode (cd mX10_size) 112 = .ok (.aload_n 0, 1) := by decide +kernel
theorem d_X10_size_113 : decode (cd mX10_size) 113 = .ok (.getfield 19, 3) := by decide +kernel
theorem d_X10_size_116 : decode (cd mX10_size) 116 = .ok (.getfield 104, 3) := by decide +kernel
theorem d_X10_size_119 : decode (cd mX10_size) 119 = .ok (.getfield 108, 3) := by decide +kernel
theorem d_X10_size_122 : decode (cd mX10_size) 122 = .ok (.ireturn, 1) := by decide +kernel
theorem d_X10_size_123 : decode (cd mX10_size) 123 = .ok (.aload_n 0, 1) := by decide +kernel
theorem d_X10_size_124 : decode (cd mX10_size) 124 = .ok (.getfield 19, 3) := by decide +kernel
theorem d_X10_size_127 : decode (cd mX10_size) 127 = .ok (.getfield 147, 3) := by decide +kernel
theorem d_X10_size_130 : decode (cd mX10_size) 130 = .ok (.getfield 108, 3) := by decide +kernel
theorem d_X10_size_133 : decode (cd mX10_size) 133 = .ok (.ireturn, 1) := by decide +kernel
theorem d_X10_size_134 : decode (cd mX10_size) 134 = .ok (.aload_n 0, 1) := by decide +kernel
theorem d_X10_size_135 : decode (cd mX10_size) 135 = .ok (.getfield 19, 3) := by decide +kernel
theorem d_X10_size_138 : decode (cd mX10_size) 138 = .ok (.getfield 330, 3) := by decide +kernel
theorem d_X10_size_141 : decode (cd mX10_size) 141 = .ok (.getfield 108, 3) := by decide +kernel
theorem d_X10_size_144 : decode (cd mX10_size) 144 = .ok (.ireturn, 1) := by decide +kernel
theorem d_X10_size_145 : decode (cd mX10_size) 145 = .ok (.aload_n 0, 1) := by decide +kernel
theorem d_X10_size_146 : decode (cd mX10_size) 146 = .ok (.getfield 19, 3) := by decide +kernel
theorem d_X10_size_149 : decode (cd mX10_size) 149 = .ok (.getfield 247, 3) := by decide +kernel
theorem d_X10_size_152 : decode (cd mX10_size) 152 = .ok (.ireturn, 1) := by decide +kernel
theorem d_X10_size_153 : decode (cd mX10_size) 153 = .ok (.aload_n 0, 1) := by decide +kernel
theorem d_X10_size_154 : decode (cd mX10_size) 154 = .ok (.getfield 19, 3) := by decide +kernel
theorem d_X10_size_157 : decode (cd mX10_size) 157 = .ok (.getfield 253, 3) := by decide +kernel
theorem d_X10_size_160 : decode (cd mX10_size) 160 = .ok (.getfield 108, 3) := by decide +kernel
theorem d_X10_size_163 : decode (cd mX10_size) 163 = .ok (.ireturn, 1) := by decide +kernel
theorem d_X10_size_164 : decode (cd mX10_size) 164 = .ok (.aload_n 0, 1) := by decide +kernel
theorem d_X10_size_165 : decode (cd mX10_size) 165 = .ok (.getfield 26, 3) := by decide +kernel
theorem d_X10_size_168 : decode (cd mX10_size) 168 = .ok (.getfield 179, 3) := by decide +kernel
theorem d_X10_size_171 : decode (cd mX10_size) 171 = .ok (.ireturn, 1) := by decide +kernel
theorem d_X10_size_172 : decode (cd mX10_size) 172 = .ok (.aload_n 0, 1) := by decide +kernel
theorem d_X10_size_173 : decode (cd mX10_size) 173 = .ok (.getfield 33, 3) := by decide +kernel
theorem d_X10_size_176 : decode (cd mX10_size) 176 = .ok (.getfield 333, 3) := by decide +kernel
theorem d_X10_size_179 : decode (cd mX10_size) 179 = .ok (.ireturn, 1) := by decide +kernel
theorem d_X10_size_180 : decode (cd mX10_size) 180 = .ok (.aload_n 0, 1) := by decide +kernel
theorem d_X10_size_181 : decode (cd mX10_size) 181 = .ok (.getfield 33, 3) := by decide +kernel
theorem d_X10_size_184 : decode (cd mX10_size) 184 = .ok (.getfield 336, 3) := by decide +kernel
theorem d_X10_size_187 : decode (cd mX10_size) 187 = .ok (.ireturn, 1) := by decide +kernel
theorem d_X10_size_188 : decode (cd mX10_size) 188 = .ok (.aload_n 0, 1) := by decide +kernel
theorem d_X10_size_189 : decode (cd mX10_size) 189 = .ok (.getfield 12, 3) := by decide +kernel
theorem d_X10_size_192 : decode (cd mX10_size) 192 = .ok (.getfield 65, 3) := by decide +kernel
theorem d_X10_size_195 : decode (cd mX10_size) 195 = .ok (.ireturn, 1) := by decide +kernel
theorem d_X10_size_196 : decode (cd mX10_size) 196 = .ok (.iconst (-1), 1) := by decide +kernel
theorem d_X10_size_197 : decode (cd mX10_size) 197 = .ok (.ireturn, 1) := by decide +kernel
theorem d_X10_trouble_0 : decode (cd mX10_trouble) 0 = .ok (.aload_n 0, 1) := by decide +kernel
theorem d_X10_trouble_1 : decode (cd mX10_trouble) 1 = .ok (.getfield 101, 3) := by decide +kernel
theorem d_X10_trouble_4 : decode (cd mX10_trouble) 4 = .ok (.ireturn, 1) := by decide +kernel
theorem d_X10_within_0 : decode (cd mX10_within) 0 = .ok (.iload_n 0, 1) := by decide +kernel
theorem d_X10_within_1 : decode (cd mX10_within) 1 = .ok (.iload_n 1, 1) := by decide +kernel
theorem d_X10_within_2 : decode (cd mX10_within) 2 = .ok (.if_icmp .lt 12, 3) := by decide +kernel
theorem d_X10_within_5 : decode (cd mX10_within) 5 = .ok (.iload_n 0, 1) := by decide +kernel
theorem d_X10_within_6 : decode (cd mX10_within) 6 = .ok (.iload_n 2, 1) := by decide +kernel
theorem d_X10_within_7 : decode (cd mX10_within) 7 = .ok (.if_icmp .gt 7, 3) := by decide +kernel
theorem d_X10_within_10 : decode (cd mX10_within) 10 = .ok (.iconst 1, 1) := by decide +kernel
theorem d_X10_within_11 : decode (cd mX10_within) 11 = .ok (.goto 4, 3) := by decide +kernel
theorem d_X10_within_14 : decode (cd mX10_within) 14 = .ok (.iconst 0, 1) := by decide +kernel
theorem d_X10_within_15 : decode (cd mX10_within) 15 = .ok (.ireturn, 1) := by decide +kernel
theorem d_X10_refuse_0 : decode (cd mX10_refuse) 0 = .ok (.aload_n 0, 1) := by decide +kernel
theorem d_X10_refuse_1 : decode (cd mX10_refuse) 1 = .ok (.iload_n 1, 1) := by decide +kernel
theorem d_X10_refuse_2 : decode (cd mX10_refuse) 2 = .ok (.putfield 101, 3) := by decide +kernel
theorem d_X10_refuse_5 : decode (cd mX10_refuse) 5 = .ok (.iconst (-1), 1) := by decide +kernel
theorem d_X10_refuse_6 : decode (cd mX10_refuse) 6 = .ok (.ireturn, 1) := by decide +kernel
theorem d_X10_refused_0 : decode (cd mX10_refused) 0 = .ok (.aload_n 0, 1) := by decide +kernel
theorem d_X10_refused_1 : decode (cd mX10_refused) 1 = .ok (.getfield 207, 3) := by decide +kernel
theorem d_X10_refused_4 : decode (cd mX10_refused) 4 = .ok (.ifCond .ne 11, 3) := by decide +kernel
theorem d_X10_refused_7 : decode (cd mX10_refused) 7 = .ok (.aload_n 0, 1) := by decide +kernel
theorem d_X10_refused_8 : decode (cd mX10_refused) 8 = .ok (.iconst 1, 1) := by decide +kernel
theorem d_X10_refused_9 : decode (cd mX10_refused) 9 = .ok (.putfield 101, 3) := by decide +kernel
theorem d_X10_refused_12 : decode (cd mX10_refused) 12 = .ok (.goto 16, 3) := by decide +kernel
theorem d_X10_refused_15 : decode (cd mX10_refused) 15 = .ok (.aload_n 0, 1) := by decide +kernel
theorem d_X10_refused_16 : decode (cd mX10_refused) 16 = .ok (.iload_n 1, 1) := by decide +kernel
theorem d_X10_refused_17 : decode (cd mX10_refused) 17 = .ok (.ifCond .eq 7, 3) := by decide +kernel
theorem d_X10_refused_20 : decode (cd mX10_refused) 20 = .ok (.iconst 0, 1) := by decide +kernel
theorem d_X10_refused_21 : decode (cd mX10_refused) 21 = .ok (.goto 4, 3) := by decide +kernel
theorem d_X10_refused_24 : decode (cd mX10_refused) 24 = .ok (.iconst 2, 1) := by decide +kernel
theorem d_X10_refused_25 : decode (cd mX10_refused) 25 = .ok (.putfield 101, 3) := by decide +kernel
theorem d_X10_refused_28 : decode (cd mX10_refused) 28 = .ok (.aload_n 0, 1) := by decide +kernel
theorem d_X10_refused_29 : decode (cd mX10_refused) 29 = .ok (.getfield 101, 3) := by decide +kernel
theorem d_X10_refused_32 : decode (cd mX10_refused) 32 = .ok (.ifCond .eq 7, 3) := by decide +kernel
theorem d_X10_refused_35 : decode (cd mX10_refused) 35 = .ok (.iconst 1, 1) := by decide +kernel
theorem d_X10_refused_36 : decode (cd mX10_refused) 36 = .ok (.goto 4, 3) := by decide +kernel
theorem d_X10_refused_39 : decode (cd mX10_refused) 39 = .ok (.iconst 0, 1) := by decide +kernel
theorem d_X10_refused_40 : decode (cd mX10_refused) 40 = .ok (.ireturn, 1) := by decide +kernel
theorem d_X10_lacks_0 : decode (cd mX10_lacks) 0 = .ok (.aload_n 0, 1) := by decide +kernel
theorem d_X10_lacks_1 : decode (cd mX10_lacks) 1 = .ok (.aload_n 0, 1) := by decide +kernel
theorem d_X10_lacks_2 : decode (cd mX10_lacks) 2 = .ok (.getfield 207, 3) := by decide +kernel
theorem d_X10_lacks_5 : decode (cd mX10_lacks) 5 = .ok (.ifCond .eq 11, 3) := by decide +kernel
theorem d_X10_lacks_8 : decode (cd mX10_lacks) 8 = .ok (.iload_n 1, 1) := by decide +kernel
theorem d_X10_lacks_9 : decode (cd mX10_lacks) 9 = .ok (.ifCond .eq 7, 3) := by decide +kernel
theorem d_X10_lacks_12 : decode (cd mX10_lacks) 12 = .ok (.iconst 0, 1) := by decide +kernel
theorem d_X10_lacks_13 : decode (cd mX10_lacks) 13 = .ok (.goto 4, 3) := by decide +kernel
theorem d_X10_lacks_16 : decode (cd mX10_lacks) 16 = .ok (.iconst 1, 1) := by decide +kernel
theorem d_X10_lacks_17 : decode (cd mX10_lacks) 17 = .ok (.putfield 101, 3) := by decide +kernel
theorem d_X10_lacks_20 : decode (cd mX10_lacks) 20 = .ok (.aload_n 0, 1) := by decide +kernel
theorem d_X10_lacks_21 : decode (cd mX10_lacks) 21 = .ok (.getfield 101, 3) := by decide +kernel
theorem d_X10_lacks_24 : decode (cd mX10_lacks) 24 = .ok (.ifCond .eq 7, 3) := by decide +kernel
theorem d_X10_lacks_27 : decode (cd mX10_lacks) 27 = .ok (.iconst 1, 1) := by decide +kernel
theorem d_X10_lacks_28 : decode (cd mX10_lacks) 28 = .ok (.goto 4, 3) := by decide +kernel
theorem d_X10_lacks_31 : decode (cd mX10_lacks) 31 = .ok (.iconst 0, 1) := by decide +kernel
theorem d_X10_lacks_32 : decode (cd mX10_lacks) 32 = .ok (.ireturn, 1) := by decide +kernel
theorem d_X10_gathered_0 : decode (cd mX10_gathered) 0 = .ok (.aload_n 0, 1) := by decide +kernel
theorem d_X10_gathered_1 : decode (cd mX10_gathered) 1 = .ok (.getfield 54, 3) := by decide +kernel
theorem d_X10_gathered_4 : decode (cd mX10_gathered) 4 = .ok (.aload_n 0, 1) := by decide +kernel
theorem d_X10_gathered_5 : decode (cd mX10_gathered) 5 = .ok (.getfield 19, 3) := by decide +kernel
theorem d_X10_gathered_8 : decode (cd mX10_gathered) 8 = .ok (.invokevirtual 339, 3) := by decide +kernel
theorem d_X10_gathered_11 : decode (cd mX10_gathered) 11 = .ok (.aload_n 0, 1) := by decide +kernel
theorem d_X10_gathered_12 : decode (cd mX10_gathered) 12 = .ok (.getfield 54, 3) := by decide +kernel
theorem d_X10_gathered_15 : decode (cd mX10_gathered) 15 = .ok (.areturn, 1) := by decide +kernel
theorem d_X10_takeDraft_0 : decode (cd mX10_takeDraft) 0 = .ok (.aload_n 0, 1) := by decide +kernel
theorem d_X10_takeDraft_1 : decode (cd mX10_takeDraft) 1 = .ok (.getfield 19, 3) := by decide +kernel
theorem d_X10_takeDraft_4 : decode (cd mX10_takeDraft) 4 = .ok (.astore_n 1, 1) := by decide +kernel
theorem d_X10_takeDraft_5 : decode (cd mX10_takeDraft) 5 = .ok (.aload_n 0, 1) := by decide +kernel
theorem d_X10_takeDraft_6 : decode (cd mX10_takeDraft) 6 = .ok (.aload_n 0, 1) := by decide +kernel
theorem d_X10_takeDraft_7 : decode (cd mX10_takeDraft) 7 = .ok (.getfield 12, 3) := by decide +kernel
theorem d_X10_takeDraft_10 : decode (cd mX10_takeDraft) 10 = .ok (.getfield 342, 3) := by decide +kernel
theorem d_X10_takeDraft_13 : decode (cd mX10_takeDraft) 13 = .ok (.putfield 19, 3) := by decide +kernel
theorem d_X10_takeDraft_16 : decode (cd mX10_takeDraft) 16 = .ok (.aload_n 0, 1) := by decide +kernel
theorem d_X10_takeDraft_17 : decode (cd mX10_takeDraft) 17 = .ok (.getfield 12, 3) := by decide +kernel
theorem d_X10_takeDraft_20 : decode (cd mX10_takeDraft) 20 = .ok (.aload_n 1, 1) := by decide +kernel
theorem d_X10_takeDraft_21 : decode (cd mX10_takeDraft) 21 = .ok (.putfield 342, 3) := by decide +kernel
theorem d_X10_takeDraft_24 : decode (cd mX10_takeDraft) 24 = .ok (.aload_n 0, 1) := by decide +kernel
theorem d_X10_takeDraft_25 : decode (cd mX10_takeDraft) 25 = .ok (.iconst 1, 1) := by decide +kernel
theorem d_X10_takeDraft_26 : decode (cd mX10_takeDraft) 26 = .ok (.putfield 207, 3) := by decide +kernel
theorem d_X10_takeDraft_29 : decode (cd mX10_takeDraft) 29 = .ok (.aload_n 0, 1) := by decide +kernel
theorem d_X10_takeDraft_30 : decode (cd mX10_takeDraft) 30 = .ok (.getfield 26, 3) := by decide +kernel
theorem d_X10_takeDraft_33 : decode (cd mX10_takeDraft) 33 = .ok (.aload_n 0, 1) := by decide +kernel
theorem d_X10_takeDraft_34 : decode (cd mX10_takeDraft) 34 = .ok (.getfield 19, 3) := by decide +kernel
theorem d_X10_takeDraft_37 : decode (cd mX10_takeDraft) 37 = .ok (.getfield 345, 3) := by decide +kernel
theorem d_X10_takeDraft_40 : decode (cd mX10_takeDraft) 40 = .ok (.aload_n 0, 1) := by decide +kernel
theorem d_X10_takeDraft_41 : decode (cd mX10_takeDraft) 41 = .ok (.getfield 19, 3) := by decide +kernel
theorem d_X10_takeDraft_44 : decode (cd mX10_takeDraft) 44 = .ok (.getfield 317, 3) := by decide +kernel
theorem d_X10_takeDraft_47 : decode (cd mX10_takeDraft) 47 = .ok (.aload_n 0, 1) := by decide +kernel
theorem d_X10_takeDraft_48 : decode (cd mX10_takeDraft) 48 = .ok (.getfield 19, 3) := by decide +kernel
theorem d_X10_takeDraft_51 : decode (cd mX10_takeDraft) 51 = .ok (.getfield 320, 3) := by decide +kernel
theorem d_X10_takeDraft_54 : decode (cd mX10_takeDraft) 54 = .ok (.invokevirtual 346, 3) := by decide +kernel
theorem d_X10_takeDraft_57 : decode (cd mX10_takeDraft) 57 = .ok (.aload_n 0, 1) := by decide +kernel
theorem d_X10_takeDraft_58 : decode (cd mX10_takeDraft) 58 = .ok (.getfield 33, 3) := by decide +kernel
theorem d_X10_takeDraft_61 : decode (cd mX10_takeDraft) 61 = .ok (.invokevirtual 349, 3) := by decide +kernel
theorem d_X10_takeDraft_64 : decode (cd mX10_takeDraft) 64 = .ok (.aload_n 0, 1) := by decide +kernel
theorem d_X10_takeDraft_65 : decode (cd mX10_takeDraft) 65 = .ok (.getfield 54, 3) := by decide +kernel
theorem d_X10_takeDraft_68 : decode (cd mX10_takeDraft) 68 = .ok (.invokevirtual 352, 3) := by decide +kernel
theorem d_X10_takeDraft_71 : decode (cd mX10_takeDraft) 71 = .ok (.return_, 1) := by decide +kernel
theorem d_J9_max_7cf53_0 : decode (cd mJ9_max_7cf53) 0 = .ok (.iload_n 0, 1) := by decide +kernel
theorem d_J9_max_7cf53_1 : decode (cd mJ9_max_7cf53) 1 = .ok (.iload_n 1, 1) := by decide +kernel
theorem d_J9_max_7cf53_2 : decode (cd mJ9_max_7cf53) 2 = .ok (.if_icmp .lt 7, 3) := by decide +kernel
theorem d_J9_max_7cf53_5 : decode (cd mJ9_max_7cf53) 5 = .ok (.iload_n 0, 1) := by decide +kernel
theorem d_J9_max_7cf53_6 : decode (cd mJ9_max_7cf53) 6 = .ok (.goto 4, 3) := by decide +kernel
theorem d_J9_max_7cf53_9 : decode (cd mJ9_max_7cf53) 9 = .ok (.iload_n 1, 1) := by decide +kernel
theorem d_J9_max_7cf53_10 : decode (cd mJ9_max_7cf53) 10 = .ok (.ireturn, 1) := by decide +kernel
theorem d_J9_min_7cf53_0 : decode (cd mJ9_min_7cf53) 0 = .ok (.iload_n 0, 1) := by decide +kernel
theorem d_J9_min_7cf53_1 : decode (cd mJ9_min_7cf53) 1 = .ok (.iload_n 1, 1) := by decide +kernel
theorem d_J9_min_7cf53_2 : decode (cd mJ9_min_7cf53) 2 = .ok (.if_icmp .gt 7, 3) := by decide +kernel
theorem d_J9_min_7cf53_5 : decode (cd mJ9_min_7cf53) 5 = .ok (.iload_n 0, 1) := by decide +kernel
theorem d_J9_min_7cf53_6 : decode (cd mJ9_min_7cf53) 6 = .ok (.goto 4, 3) := by decide +kernel
theorem d_J9_min_7cf53_9 : decode (cd mJ9_min_7cf53) 9 = .ok (.iload_n 1, 1) := by decide +kernel
theorem d_J9_min_7cf53_10 : decode (cd mJ9_min_7cf53) 10 = .ok (.ireturn, 1) := by decide +kernel
theorem d_J0_length_8abf5_0 : decode (cd mJ0_length_8abf5) 0 = .ok (.aload_n 0, 1) := by decide +kernel
theorem d_J0_length_8abf5_1 : decode (cd mJ0_length_8abf5) 1 = .ok (.getfield 9, 3) := by decide +kernel
theorem d_J0_length_8abf5_4 : decode (cd mJ0_length_8abf5) 4 = .ok (.arraylength, 1) := by decide +kernel
theorem d_J0_length_8abf5_5 : decode (cd mJ0_length_8abf5) 5 = .ok (.aload_n 0, 1) := by decide +kernel
theorem d_J0_length_8abf5_6 : decode (cd mJ0_length_8abf5) 6 = .ok (.invokevirtual 335, 3) := by decide +kernel
theorem d_J0_length_8abf5_9 : decode (cd mJ0_length_8abf5) 9 = .ok (.ishr, 1) := by decide +kernel
theorem d_J0_length_8abf5_10 : decode (cd mJ0_length_8abf5) 10 = .ok (.ireturn, 1) := by decide +kernel
theorem d_J0_charAt_5068e_0 : decode (cd mJ0_charAt_5068e) 0 = .ok (.aload_n 0, 1) := by decide +kernel
theorem d_J0_charAt_5068e_1 : decode (cd mJ0_charAt_5068e) 1 = .ok (.invokevirtual 492, 3) := by decide +kernel
theorem d_J0_charAt_5068e_4 : decode (cd mJ0_charAt_5068e) 4 = .ok (.ifCond .eq 12, 3) := by decide +kernel
theorem d_J0_charAt_5068e_7 : decode (cd mJ0_charAt_5068e) 7 = .ok (.aload_n 0, 1) := by decide +kernel
theorem d_J0_charAt_5068e_8 : decode (cd mJ0_charAt_5068e) 8 = .ok (.getfield 9, 3) := by decide +kernel
theorem d_J0_charAt_5068e_11 : decode (cd mJ0_charAt_5068e) 11 = .ok (.iload_n 1, 1) := by decide +kernel
theorem d_J0_charAt_5068e_12 : decode (cd mJ0_charAt_5068e) 12 = .ok (.invokestatic 495, 3) := by decide +kernel
theorem d_J0_charAt_5068e_15 : decode (cd mJ0_charAt_5068e) 15 = .ok (.ireturn, 1) := by decide +kernel
theorem d_J0_charAt_5068e_16 : decode (cd mJ0_charAt_5068e) 16 = .ok (.aload_n 0, 1) := by decide +kernel
theorem d_J0_charAt_5068e_17 : decode (cd mJ0_charAt_5068e) 17 = .ok (.getfield 9, 3) := by decide +kernel
theorem d_J0_charAt_5068e_20 : decode (cd mJ0_charAt_5068e) 20 = .ok (.iload_n 1, 1) := by decide +kernel
theorem d_J0_charAt_5068e_21 : decode (cd mJ0_charAt_5068e) 21 = .ok (.invokestatic 498, 3) := by decide +kernel
theorem d_J0_charAt_5068e_24 : decode (cd mJ0_charAt_5068e) 24 = .ok (.ireturn, 1) := by decide +kernel
theorem d_J0_coder_7d493_0 : decode (cd mJ0_coder_7d493) 0 = .ok (.getstatic 38, 3) := by decide +kernel
theorem d_J0_coder_7d493_3 : decode (cd mJ0_coder_7d493) 3 = .ok (.ifCond .eq 10, 3) := by decide +kernel
theorem d_J0_coder_7d493_6 : decode (cd mJ0_coder_7d493) 6 = .ok (.aload_n 0, 1) := by decide +kernel
theorem d_J0_coder_7d493_7 : decode (cd mJ0_coder_7d493) 7 = .ok (.getfield 15, 3) := by decide +kernel
theorem d_J0_coder_7d493_10 : decode (cd mJ0_coder_7d493) 10 = .ok (.goto 4, 3) := by decide +kernel
theorem d_J0_coder_7d493_13 : decode (cd mJ0_coder_7d493) 13 = .ok (.iconst 1, 1) := by decide +kernel
theorem d_J0_coder_7d493_14 : decode (cd mJ0_coder_7d493) 14 = .ok (.ireturn, 1) := by decide +kernel
theorem d_J0_isLatin1_aae02_0 : decode (cd mJ0_isLatin1_aae02) 0 = .ok (.getstatic 38, 3) := by decide +kernel
theorem d_J0_isLatin1_aae02_3 : decode (cd mJ0_isLatin1_aae02) 3 = .ok (.ifCond .eq 14, 3) := by decide +kernel
theorem d_J0_isLatin1_aae02_6 : decode (cd mJ0_isLatin1_aae02) 6 = .ok (.aload_n 0, 1) := by decide +kernel
theorem d_J0_isLatin1_aae02_7 : decode (cd mJ0_isLatin1_aae02) 7 = .ok (.getfield 15, 3) := by decide +kernel
theorem d_J0_isLatin1_aae02_10 : decode (cd mJ0_isLatin1_aae02) 10 = .ok (.ifCond .ne 7, 3) := by decide +kernel
theorem d_J0_isLatin1_aae02_13 : decode (cd mJ0_isLatin1_aae02) 13 = .ok (.iconst 1, 1) := by decide +kernel
theorem d_J0_isLatin1_aae02_14 : decode (cd mJ0_isLatin1_aae02) 14 = .ok (.goto 4, 3) := by decide +kernel
theorem d_J0_isLatin1_aae02_17 : decode (cd mJ0_isLatin1_aae02) 17 = .ok (.iconst 0, 1) := by decide +kernel
theorem d_J0_isLatin1_aae02_18 : decode (cd mJ0_isLatin1_aae02) 18 = .ok (.ireturn, 1) := by decide +kernel
theorem d_J0_checkIndex_df160_0 : decode (cd mJ0_checkIndex_df160) 0 = .ok (.iload_n 0, 1) := by decide +kernel
theorem d_J0_checkIndex_df160_1 : decode (cd mJ0_checkIndex_df160) 1 = .ok (.iload_n 1, 1) := by decide +kernel
theorem d_J0_checkIndex_df160_2 : decode (cd mJ0_checkIndex_df160) 2 = .ok (.getstatic 1053, 3) := by decide +kernel
theorem d_J0_checkIndex_df160_5 : decode (cd mJ0_checkIndex_df160) 5 = .ok (.invokestatic 1059, 3) := by decide +kernel
theorem d_J0_checkIndex_df160_8 : decode (cd mJ0_checkIndex_df160) 8 = .ok (.pop, 1) := by decide +kernel
theorem d_J0_checkIndex_df160_9 : decode (cd mJ0_checkIndex_df160) 9 = .ok (.return_, 1) := by decide +kernel
theorem d_J1_charAt_3b067_0 : decode (cd mJ1_charAt_3b067) 0 = .ok (.iload_n 1, 1) := by decide +kernel
theorem d_J1_charAt_3b067_1 : decode (cd mJ1_charAt_3b067) 1 = .ok (.aload_n 0, 1) := by decide +kernel
theorem d_J1_charAt_3b067_2 : decode (cd mJ1_charAt_3b067) 2 = .ok (.arraylength, 1) := by decide +kernel
theorem d_J1_charAt_3b067_3 : decode (cd mJ1_charAt_3b067) 3 = .ok (.invokestatic 9, 3) := by decide +kernel
theorem d_J1_charAt_3b067_6 : decode (cd mJ1_charAt_3b067) 6 = .ok (.aload_n 0, 1) := by decide +kernel
theorem d_J1_charAt_3b067_7 : decode (cd mJ1_charAt_3b067) 7 = .ok (.iload_n 1, 1) := by decide +kernel
theorem d_J1_charAt_3b067_8 : decode (cd mJ1_charAt_3b067) 8 = .ok (.baload, 1) := by decide +kernel
theorem d_J1_charAt_3b067_9 : decode (cd mJ1_charAt_3b067) 9 = .ok (.sipush 255, 3) := by decide +kernel
theorem d_J1_charAt_3b067_12 : decode (cd mJ1_charAt_3b067) 12 = .ok (.iand, 1) := by decide +kernel
theorem d_J1_charAt_3b067_13 : decode (cd mJ1_charAt_3b067) 13 = .ok (.i2c, 1) := by decide +kernel
theorem d_J1_charAt_3b067_14 : decode (cd mJ1_charAt_3b067) 14 = .ok (.ireturn, 1) := by decide +kernel
theorem d_J2_getChar_3b067_0 : decode (cd mJ2_getChar_3b067) 0 = .ok (.getstatic 44, 3) := by decide +kernel
theorem d_J2_getChar_3b067_3 : decode (cd mJ2_getChar_3b067) 3 = .ok (.ifCond .ne 25, 3) := by decide +kernel
theorem d_J2_getChar_3b067_6 : decode (cd mJ2_getChar_3b067) 6 = .ok (.iload_n 1, 1) := by decide +kernel
theorem d_J2_getChar_3b067_7 : decode (cd mJ2_getChar_3b067) 7 = .ok (.ifCond .lt 11, 3) := by decide +kernel
theorem d_J2_getChar_3b067_10 : decode (cd mJ2_getChar_3b067) 10 = .ok (.iload_n 1, 1) := by decide +kernel
theorem d_J2_getChar_3b067_11 : decode (cd mJ2_getChar_3b067) 11 = .ok (.aload_n 0, 1) := by decide +kernel
theorem d_J2_getChar_3b067_12 : decode (cd mJ2_getChar_3b067) 12 = .ok (.invokestatic 48, 3) := by decide +kernel
theorem d_J2_getChar_3b067_15 : decode (cd mJ2_getChar_3b067) 15 = .ok (.if_icmp .lt 13, 3) := by decide +kernel
theorem d_J2_getChar_3b067_18 : decode (cd mJ2_getChar_3b067) 18 = .ok (.new 52, 3) := by decide +kernel
theorem d_J2_getChar_3b067_21 : decode (cd mJ2_getChar_3b067) 21 = .ok (.dup, 1) := by decide +kernel
theorem d_J2_getChar_3b067_22 : decode (cd mJ2_getChar_3b067) 22 = .ok (.ldc 54, 2) := by decide +kernel
theorem d_J2_getChar_3b067_24 : decode (cd mJ2_getChar_3b067) 24 = .ok (.invokespecial 56, 3) := by decide +kernel
theorem d_J2_getChar_3b067_27 : decode (cd mJ2_getChar_3b067) 27 = .ok (.athrow, 1) := by decide +kernel
theorem d_J2_getChar_3b067_28 : decode (cd mJ2_getChar_3b067) 28 = .ok (.iload_n 1, 1) := by decide +kernel
theorem d_J2_getChar_3b067_29 : decode (cd mJ2_getChar_3b067) 29 = .ok (.iconst 1, 1) := by decide +kernel
theorem d_J2_getChar_3b067_30 : decode (cd mJ2_getChar_3b067) 30 = .ok (.ishl, 1) := by decide +kernel
theorem d_J2_getChar_3b067_31 : decode (cd mJ2_getChar_3b067) 31 = .ok (.istore_n 1, 1) := by decide +kernel
theorem d_J2_getChar_3b067_32 : decode (cd mJ2_getChar_3b067) 32 = .ok (.aload_n 0, 1) := by decide +kernel
theorem d_J2_getChar_3b067_33 : decode (cd mJ2_getChar_3b067) 33 = .ok (.iload_n 1, 1) := by decide +kernel
theorem d_J2_getChar_3b067_34 : decode (cd mJ2_getChar_3b067) 34 = .ok (.iinc 1 1, 3) := by decide +kernel
theorem d_J2_getChar_3b067_37 : decode (cd mJ2_getChar_3b067) 37 = .ok (.baload, 1) := by decide +kernel
theorem d_J2_getChar_3b067_38 : decode (cd mJ2_getChar_3b067) 38 = .ok (.sipush 255, 3) := by decide +kernel
theorem d_J2_getChar_3b067_41 : decode (cd mJ2_getChar_3b067) 41 = .ok (.iand, 1) := by decide +kernel
theorem d_J2_getChar_3b067_42 : decode (cd mJ2_getChar_3b067) 42 = .ok (.getstatic 59, 3) := by decide +kernel
theorem d_J2_getChar_3b067_45 : decode (cd mJ2_getChar_3b067) 45 = .ok (.ishl, 1) := by decide +kernel
theorem d_J2_getChar_3b067_46 : decode (cd mJ2_getChar_3b067) 46 = .ok (.aload_n 0, 1) := by decide +kernel
theorem d_J2_getChar_3b067_47 : decode (cd mJ2_getChar_3b067) 47 = .ok (.iload_n 1, 1) := by decide +kernel
theorem d_J2_getChar_3b067_48 : decode (cd mJ2_getChar_3b067) 48 = .ok (.baload, 1) := by decide +kernel
theorem d_J2_getChar_3b067_49 : decode (cd mJ2_getChar_3b067) 49 = .ok (.sipush 255, 3) := by decide +kernel
theorem d_J2_getChar_3b067_52 : decode (cd mJ2_getChar_3b067) 52 = .ok (.iand, 1) := by decide +kernel
theorem d_J2_getChar_3b067_53 : decode (cd mJ2_getChar_3b067) 53 = .ok (.getstatic 63, 3) := by decide +kernel
theorem d_J2_getChar_3b067_56 : decode (cd mJ2_getChar_3b067) 56 = .ok (.ishl, 1) := by decide +kernel
theorem d_J2_getChar_3b067_57 : decode (cd mJ2_getChar_3b067) 57 = .ok (.ior, 1) := by decide +kernel
theorem d_J2_getChar_3b067_58 : decode (cd mJ2_getChar_3b067) 58 = .ok (.i2c, 1) := by decide +kernel
theorem d_J2_getChar_3b067_59 : decode (cd mJ2_getChar_3b067) 59 = .ok (.ireturn, 1) := by decide +kernel
theorem d_J2_length_9d52b_0 : decode (cd mJ2_length_9d52b) 0 = .ok (.aload_n 0, 1) := by decide +kernel
theorem d_J2_length_9d52b_1 : decode (cd mJ2_length_9d52b) 1 = .ok (.arraylength, 1) := by decide +kernel
theorem d_J2_length_9d52b_2 : decode (cd mJ2_length_9d52b) 2 = .ok (.iconst 1, 1) := by decide +kernel
theorem d_J2_length_9d52b_3 : decode (cd mJ2_length_9d52b) 3 = .ok (.ishr, 1) := by decide +kernel
theorem d_J2_length_9d52b_4 : decode (cd mJ2_length_9d52b) 4 = .ok (.ireturn, 1) := by decide +kernel
theorem d_J2_charAt_3b067_0 : decode (cd mJ2_charAt_3b067) 0 = .ok (.iload_n 1, 1) := by decide +kernel
theorem d_J2_charAt_3b067_1 : decode (cd mJ2_charAt_3b067) 1 = .ok (.aload_n 0, 1) := by decide +kernel
theorem d_J2_charAt_3b067_2 : decode (cd mJ2_charAt_3b067) 2 = .ok (.invokestatic 67, 3) := by decide +kernel
theorem d_J2_charAt_3b067_5 : decode (cd mJ2_charAt_3b067) 5 = .ok (.aload_n 0, 1) := by decide +kernel
theorem d_J2_charAt_3b067_6 : decode (cd mJ2_charAt_3b067) 6 = .ok (.iload_n 1, 1) := by decide +kernel
theorem d_J2_charAt_3b067_7 : decode (cd mJ2_charAt_3b067) 7 = .ok (.invokestatic 71, 3) := by decide +kernel
theorem d_J2_charAt_3b067_10 : decode (cd mJ2_charAt_3b067) 10 = .ok (.ireturn, 1) := by decide +kernel
theorem d_J2_checkIndex_2214a_0 : decode (cd mJ2_checkIndex_2214a) 0 = .ok (.iload_n 0, 1) := by decide +kernel
theorem d_J2_checkIndex_2214a_1 : decode (cd mJ2_checkIndex_2214a) 1 = .ok (.aload_n 1, 1) := by decide +kernel
theorem d_J2_checkIndex_2214a_2 : decode (cd mJ2_checkIndex_2214a) 2 = .ok (.invokestatic 48, 3) := by decide +kernel
theorem d_J2_checkIndex_2214a_5 : decode (cd mJ2_checkIndex_2214a) 5 = .ok (.invokestatic 414, 3) := by decide +kernel
theorem d_J2_checkIndex_2214a_8 : decode (cd mJ2_checkIndex_2214a) 8 = .ok (.return_, 1) := by decide +kernel
theorem d_J7_fill_53178_0 : decode (cd mJ7_fill_53178) 0 = .ok (.iconst 0, 1) := by decide +kernel
theorem d_J7_fill_53178_1 : decode (cd mJ7_fill_53178) 1 = .ok (.istore_n 2, 1) := by decide +kernel
theorem d_J7_fill_53178_2 : decode (cd mJ7_fill_53178) 2 = .ok (.aload_n 0, 1) := by decide +kernel
theorem d_J7_fill_53178_3 : decode (cd mJ7_fill_53178) 3 = .ok (.arraylength, 1) := by decide +kernel
theorem d_J7_fill_53178_4 : decode (cd mJ7_fill_53178) 4 = .ok (.istore_n 3, 1) := by decide +kernel
theorem d_J7_fill_53178_5 : decode (cd mJ7_fill_53178) 5 = .ok (.iload_n 2, 1) := by decide +kernel
theorem d_J7_fill_53178_6 : decode (cd mJ7_fill_53178) 6 = .ok (.iload_n 3, 1) := by decide +kernel
theorem d_J7_fill_53178_7 : decode (cd mJ7_fill_53178) 7 = .ok (.if_icmp .ge 13, 3) := by decide +kernel
theorem d_J7_fill_53178_10 : decode (cd mJ7_fill_53178) 10 = .ok (.aload_n 0, 1) := by decide +kernel
theorem d_J7_fill_53178_11 : decode (cd mJ7_fill_53178) 11 = .ok (.iload_n 2, 1) := by decide +kernel
theorem d_J7_fill_53178_12 : decode (cd mJ7_fill_53178) 12 = .ok (.iload_n 1, 1) := by decide +kernel
theorem d_J7_fill_53178_13 : decode (cd mJ7_fill_53178) 13 = .ok (.iastore, 1) := by decide +kernel
theorem d_J7_fill_53178_14 : decode (cd mJ7_fill_53178) 14 = .ok (.iinc 2 1, 3) := by decide +kernel
theorem d_J7_fill_53178_17 : decode (cd mJ7_fill_53178) 17 = .ok (.goto (-12), 3) := by decide +kernel
theorem d_J7_fill_53178_20 : decode (cd mJ7_fill_53178) 20 = .ok (.return_, 1) := by decide +kernel
theorem d_J3_checkIndex_8e157_0 : decode (cd mJ3_checkIndex_8e157) 0 = .ok (.iload_n 0, 1) := by decide +kernel
theorem d_J3_checkIndex_8e157_1 : decode (cd mJ3_checkIndex_8e157) 1 = .ok (.ifCond .lt 8, 3) := by decide +kernel
theorem d_J3_checkIndex_8e157_4 : decode (cd mJ3_checkIndex_8e157) 4 = .ok (.iload_n 0, 1) := by decide +kernel
theorem d_J3_checkIndex_8e157_5 : decode (cd mJ3_checkIndex_8e157) 5 = .ok (.iload_n 1, 1) := by decide +kernel
theorem d_J3_checkIndex_8e157_6 : decode (cd mJ3_checkIndex_8e157) 6 = .ok (.if_icmp .lt 10, 3) := by decide +kernel
theorem d_J3_checkIndex_8e157_9 : decode (cd mJ3_checkIndex_8e157) 9 = .ok (.aload_n 2, 1) := by decide +kernel
theorem d_J3_checkIndex_8e157_10 : decode (cd mJ3_checkIndex_8e157) 10 = .ok (.iload_n 0, 1) := by decide +kernel
theorem d_J3_checkIndex_8e157_11 : decode (cd mJ3_checkIndex_8e157) 11 = .ok (.iload_n 1, 1) := by decide +kernel
theorem d_J3_checkIndex_8e157_12 : decode (cd mJ3_checkIndex_8e157) 12 = .ok (.invokestatic 95, 3) := by decide +kernel
theorem d_J3_checkIndex_8e157_15 : decode (cd mJ3_checkIndex_8e157) 15 = .ok (.athrow, 1) := by decide +kernel
theorem d_J3_checkIndex_8e157_16 : decode (cd mJ3_checkIndex_8e157) 16 = .ok (.iload_n 0, 1) := by decide +kernel
theorem d_J3_checkIndex_8e157_17 : decode (cd mJ3_checkIndex_8e157) 17 = .ok (.ireturn, 1) := by decide +kernel
