theorem d_X11_init_0 : decode (cd mX11_init) 0 = .ok (.aload_n 0, 1) := by decide +kernel
theorem d_X11_init_1 : decode (cd mX11_init) 1 = .ok (.invokespecial 1, 3) := by decide +kernel
theorem d_X11_init_4 : decode (cd mX11_init) 4 = .ok (.aload_n 0, 1) := by decide +kernel
theorem d_X11_init_5 : decode (cd mX11_init) 5 = .ok (.sipush 900, 3) := by decide +kernel
theorem d_X11_init_8 : decode (cd mX11_init) 8 = .ok (.newarray .int, 2) := by decide +kernel
theorem d_X11_init_10 : decode (cd mX11_init) 10 = .ok (.putfield 7, 3) := by decide +kernel
theorem d_X11_init_13 : decode (cd mX11_init) 13 = .ok (.aload_n 0, 1) := by decide +kernel
theorem d_X11_init_14 : decode (cd mX11_init) 14 = .ok (.iconst (-1), 1) := by decide +kernel
theorem d_X11_init_15 : decode (cd mX11_init) 15 = .ok (.putfield 13, 3) := by decide +kernel
theorem d_X11_init_18 : decode (cd mX11_init) 18 = .ok (.aload_n 0, 1) := by decide +kernel
theorem d_X11_init_19 : decode (cd mX11_init) 19 = .ok (.bipush 8, 2) := by decide +kernel
theorem d_X11_init_21 : decode (cd mX11_init) 21 = .ok (.newarray .int, 2) := by decide +kernel
theorem d_X11_init_23 : decode (cd mX11_init) 23 = .ok (.putfield 17, 3) := by decide +kernel
theorem d_X11_init_26 : decode (cd mX11_init) 26 = .ok (.aload_n 0, 1) := by decide +kernel
theorem d_X11_init_27 : decode (cd mX11_init) 27 = .ok (.sipush 224, 3) := by decide +kernel
theorem d_X11_init_30 : decode (cd mX11_init) 30 = .ok (.newarray .int, 2) := by decide +kernel
theorem d_X11_init_32 : decode (cd mX11_init) 32 = .ok (.putfield 20, 3) := by decide +kernel
theorem d_X11_init_35 : decode (cd mX11_init) 35 = .ok (.aload_n 0, 1) := by decide +kernel
theorem d_X11_init_36 : decode (cd mX11_init) 36 = .ok (.sipush 224, 3) := by decide +kernel
theorem d_X11_init_39 : decode (cd mX11_init) 39 = .ok (.newarray .int, 2) := by decide +kernel
theorem d_X11_init_41 : decode (cd mX11_init) 41 = .ok (.putfield 23, 3) := by decide +kernel
theorem d_X11_init_44 : decode (cd mX11_init) 44 = .ok (.aload_n 0, 1) := by decide +kernel
theorem d_X11_init_45 : decode (cd mX11_init) 45 = .ok (.bipush 7, 2) := by decide +kernel
theorem d_X11_init_47 : decode (cd mX11_init) 47 = .ok (.newarray .int, 2) := by decide +kernel
theorem d_X11_init_49 : decode (cd mX11_init) 49 = .ok (.putfield 26, 3) := by decide +kernel
theorem d_X11_init_52 : decode (cd mX11_init) 52 = .ok (.aload_n 0, 1) := by decide +kernel
theorem d_X11_init_53 : decode (cd mX11_init) 53 = .ok (.bipush 112, 2) := by decide +kernel
theorem d_X11_init_55 : decode (cd mX11_init) 55 = .ok (.newarray .int, 2) := by decide +kernel
theorem d_X11_init_57 : decode (cd mX11_init) 57 = .ok (.putfield 29, 3) := by decide +kernel
theorem d_X11_init_60 : decode (cd mX11_init) 60 = .ok (.aload_n 0, 1) := by decide +kernel
theorem d_X11_init_61 : decode (cd mX11_init) 61 = .ok (.bipush 21, 2) := by decide +kernel
theorem d_X11_init_63 : decode (cd mX11_init) 63 = .ok (.newarray .int, 2) := by decide +kernel
theorem d_X11_init_65 : decode (cd mX11_init) 65 = .ok (.putfield 32, 3) := by decide +kernel
theorem d_X11_init_68 : decode (cd mX11_init) 68 = .ok (.aload_n 0, 1) := by decide +kernel
theorem d_X11_init_69 : decode (cd mX11_init) 69 = .ok (.bipush 7, 2) := by decide +kernel
theorem d_X11_init_71 : decode (cd mX11_init) 71 = .ok (.newarray .int, 2) := by decide +kernel
theorem d_X11_init_73 : decode (cd mX11_init) 73 = .ok (.putfield 35, 3) := by decide +kernel
theorem d_X11_init_76 : decode (cd mX11_init) 76 = .ok (.aload_n 0, 1) := by decide +kernel
theorem d_X11_init_77 : decode (cd mX11_init) 77 = .ok (.sipush 1919, 3) := by decide +kernel
theorem d_X11_init_80 : decode (cd mX11_init) 80 = .ok (.newarray .int, 2) := by decide +kernel
theorem d_X11_init_82 : decode (cd mX11_init) 82 = .ok (.putfield 38, 3) := by decide +kernel
theorem d_X11_init_85 : decode (cd mX11_init) 85 = .ok (.aload_n 0, 1) := by decide +kernel
theorem d_X11_init_86 : decode (cd mX11_init) 86 = .ok (.bipush 21, 2) := by decide +kernel
theorem d_X11_init_88 : decode (cd mX11_init) 88 = .ok (.newarray .int, 2) := by decide +kernel
theorem d_X11_init_90 : decode (cd mX11_init) 90 = .ok (.putfield 41, 3) := by decide +kernel
theorem d_X11_init_93 : decode (cd mX11_init) 93 = .ok (.aload_n 0, 1) := by decide +kernel
theorem d_X11_init_94 : decode (cd mX11_init) 94 = .ok (.bipush 84, 2) := by decide +kernel
theorem d_X11_init_96 : decode (cd mX11_init) 96 = .ok (.newarray .int, 2) := by decide +kernel
theorem d_X11_init_98 : decode (cd mX11_init) 98 = .ok (.putfield 44, 3) := by decide +kernel
theorem d_X11_init_101 : decode (cd mX11_init) 101 = .ok (.aload_n 0, 1) := by decide +kernel
theorem d_X11_init_102 : decode (cd mX11_init) 102 = .ok (.bipush 35, 2) := by decide +kernel
theorem d_X11_init_104 : decode (cd mX11_init) 104 = .ok (.newarray .int, 2) := by decide +kernel
theorem d_X11_init_106 : decode (cd mX11_init) 106 = .ok (.putfield 47, 3) := by decide +kernel
theorem d_X11_init_109 : decode (cd mX11_init) 109 = .ok (.aload_n 0, 1) := by decide +kernel
theorem d_X11_init_110 : decode (cd mX11_init) 110 = .ok (.bipush 7, 2) := by decide +kernel
theorem d_X11_init_112 : decode (cd mX11_init) 112 = .ok (.newarray .int, 2) := by decide +kernel
theorem d_X11_init_114 : decode (cd mX11_init) 114 = .ok (.putfield 50, 3) := by decide +kernel
theorem d_X11_init_117 : decode (cd mX11_init) 117 = .ok (.aload_n 0, 1) := by decide +kernel
theorem d_X11_init_118 : decode (cd mX11_init) 118 = .ok (.iconst (-1), 1) := by decide +kernel
theorem d_X11_init_119 : decode (cd mX11_init) 119 = .ok (.putfield 53, 3) := by decide +kernel
theorem d_X11_init_122 : decode (cd mX11_init) 122 = .ok (.aload_n 0, 1) := by decide +kernel
theorem d_X11_init_123 : decode (cd mX11_init) 123 = .ok (.iconst 4, 1) := by decide +kernel
theorem d_X11_init_124 : decode (cd mX11_init) 124 = .ok (.newarray .long, 2) := by decide +kernel
theorem d_X11_init_126 : decode (cd mX11_init) 126 = .ok (.putfield 56, 3) := by decide +kernel
theorem d_X11_init_129 : decode (cd mX11_init) 129 = .ok (.return_, 1) := by decide +kernel
theorem d_X11_thrown_0 : decode (cd mX11_thrown) 0 = .ok (.aload_n 0, 1) := by decide +kernel
theorem d_X11_thrown_1 : decode (cd mX11_thrown) 1 = .ok (.getfield 60, 3) := by decide +kernel
theorem d_X11_thrown_4 : decode (cd mX11_thrown) 4 = .ok (.ireturn, 1) := by decide +kernel
theorem d_X11_good_0 : decode (cd mX11_good) 0 = .ok (.aload_n 0, 1) := by decide +kernel
theorem d_X11_good_1 : decode (cd mX11_good) 1 = .ok (.iconst 0, 1) := by decide +kernel
theorem d_X11_good_2 : decode (cd mX11_good) 2 = .ok (.putfield 60, 3) := by decide +kernel
theorem d_X11_good_5 : decode (cd mX11_good) 5 = .ok (.aload_n 0, 1) := by decide +kernel
theorem d_X11_good_6 : decode (cd mX11_good) 6 = .ok (.iconst 0, 1) := by decide +kernel
theorem d_X11_good_7 : decode (cd mX11_good) 7 = .ok (.putfield 63, 3) := by decide +kernel
theorem d_X11_good_10 : decode (cd mX11_good) 10 = .ok (.return_, 1) := by decide +kernel
theorem d_X11_no_0 : decode (cd mX11_no) 0 = .ok (.aload_n 0, 1) := by decide +kernel
theorem d_X11_no_1 : decode (cd mX11_no) 1 = .ok (.iload_n 1, 1) := by decide +kernel
theorem d_X11_no_2 : decode (cd mX11_no) 2 = .ok (.putfield 63, 3) := by decide +kernel
theorem d_X11_no_5 : decode (cd mX11_no) 5 = .ok (.iconst (-1), 1) := by decide +kernel
theorem d_X11_no_6 : decode (cd mX11_no) 6 = .ok (.ireturn, 1) := by decide +kernel
theorem d_X11_isNot_0 : decode (cd mX11_isNot) 0 = .ok (.aload_n 0, 1) := by decide +kernel
theorem d_X11_isNot_1 : decode (cd mX11_isNot) 1 = .ok (.iload_n 1, 1) := by decide +kernel
theorem d_X11_isNot_2 : decode (cd mX11_isNot) 2 = .ok (.putfield 63, 3) := by decide +kernel
theorem d_X11_isNot_5 : decode (cd mX11_isNot) 5 = .ok (.iconst 0, 1) := by decide +kernel
theorem d_X11_isNot_6 : decode (cd mX11_isNot) 6 = .ok (.ireturn, 1) := by decide +kernel
theorem d_X11_in_0 : decode (cd mX11_in) 0 = .ok (.iload_n 0, 1) := by decide +kernel
theorem d_X11_in_1 : decode (cd mX11_in) 1 = .ok (.iload_n 1, 1) := by decide +kernel
theorem d_X11_in_2 : decode (cd mX11_in) 2 = .ok (.if_icmp .lt 12, 3) := by decide +kernel
theorem d_X11_in_5 : decode (cd mX11_in) 5 = .ok (.iload_n 0, 1) := by decide +kernel
theorem d_X11_in_6 : decode (cd mX11_in) 6 = .ok (.iload_n 2, 1) := by decide +kernel
theorem d_X11_in_7 : decode (cd mX11_in) 7 = .ok (.if_icmp .gt 7, 3) := by decide +kernel
theorem d_X11_in_10 : decode (cd mX11_in) 10 = .ok (.iconst 1, 1) := by decide +kernel
theorem d_X11_in_11 : decode (cd mX11_in) 11 = .ok (.goto 4, 3) := by decide +kernel
theorem d_X11_in_14 : decode (cd mX11_in) 14 = .ok (.iconst 0, 1) := by decide +kernel
theorem d_X11_in_15 : decode (cd mX11_in) 15 = .ok (.ireturn, 1) := by decide +kernel
theorem d_X11_hasBit_0 : decode (cd mX11_hasBit) 0 = .ok (.iload_n 0, 1) := by decide +kernel
theorem d_X11_hasBit_1 : decode (cd mX11_hasBit) 1 = .ok (.iload_n 1, 1) := by decide +kernel
theorem d_X11_hasBit_2 : decode (cd mX11_hasBit) 2 = .ok (.ishr, 1) := by decide +kernel
theorem d_X11_hasBit_3 : decode (cd mX11_hasBit) 3 = .ok (.iconst 1, 1) := by decide +kernel
theorem d_X11_hasBit_4 : decode (cd mX11_hasBit) 4 = .ok (.iand, 1) := by decide +kernel
theorem d_X11_hasBit_5 : decode (cd mX11_hasBit) 5 = .ok (.iconst 1, 1) := by decide +kernel
theorem d_X11_hasBit_6 : decode (cd mX11_hasBit) 6 = .ok (.if_icmp .ne 7, 3) := by decide +kernel
theorem d_X11_hasBit_9 : decode (cd mX11_hasBit) 9 = .ok (.iconst 1, 1) := by decide +kernel
theorem d_X11_hasBit_10 : decode (cd mX11_hasBit) 10 = .ok (.goto 4, 3) := by decide +kernel
theorem d_X11_hasBit_13 : decode (cd mX11_hasBit) 13 = .ok (.iconst 0, 1) := by decide +kernel
theorem d_X11_hasBit_14 : decode (cd mX11_hasBit) 14 = .ok (.ireturn, 1) := by decide +kernel
theorem d_X11_copy_0 : decode (cd mX11_copy) 0 = .ok (.iconst 0, 1) := by decide +kernel
theorem d_X11_copy_1 : decode (cd mX11_copy) 1 = .ok (.istore 5, 2) := by decide +kernel
theorem d_X11_copy_3 : decode (cd mX11_copy) 3 = .ok (.iload 5, 2) := by decide +kernel
theorem d_X11_copy_5 : decode (cd mX11_copy) 5 = .ok (.iload 4, 2) := by decide +kernel
theorem d_X11_copy_7 : decode (cd mX11_copy) 7 = .ok (.if_icmp .ge 21, 3) := by decide +kernel
theorem d_X11_copy_10 : decode (cd mX11_copy) 10 = .ok (.aload_n 2, 1) := by decide +kernel
theorem d_X11_copy_11 : decode (cd mX11_copy) 11 = .ok (.iload_n 3, 1) := by decide +kernel
theorem d_X11_copy_12 : decode (cd mX11_copy) 12 = .ok (.iload 5, 2) := by decide +kernel
theorem d_X11_copy_14 : decode (cd mX11_copy) 14 = .ok (.iadd, 1) := by decide +kernel
theorem d_X11_copy_15 : decode (cd mX11_copy) 15 = .ok (.aload_n 0, 1) := by decide +kernel
theorem d_X11_copy_16 : decode (cd mX11_copy) 16 = .ok (.iload_n 1, 1) := by decide +kernel
theorem d_X11_copy_17 : decode (cd mX11_copy) 17 = .ok (.iload 5, 2) := by decide +kernel
theorem d_X11_copy_19 : decode (cd mX11_copy) 19 = .ok (.iadd, 1) := by decide +kernel
theorem d_X11_copy_20 : decode (cd mX11_copy) 20 = .ok (.iaload, 1) := by decide +kernel
theorem d_X11_copy_21 : decode (cd mX11_copy) 21 = .ok (.iastore, 1) := by decide +kernel
theorem d_X11_copy_22 : decode (cd mX11_copy) 22 = .ok (.iinc 5 1, 3) := by decide +kernel
theorem d_X11_copy_25 : decode (cd mX11_copy) 25 = .ok (.goto (-22), 3) := by decide +kernel
theorem d_X11_copy_28 : decode (cd mX11_copy) 28 = .ok (.return_, 1) := by decide +kernel
theorem d_X11_lowest_0 : decode (cd mX11_lowest) 0 = .ok (.lload_n 2, 1) := by decide +kernel
theorem d_X11_lowest_1 : decode (cd mX11_lowest) 1 = .ok (.lstore 5, 2) := by decide +kernel
theorem d_X11_lowest_3 : decode (cd mX11_lowest) 3 = .ok (.lload_n 0, 1) := by decide +kernel
theorem d_X11_lowest_4 : decode (cd mX11_lowest) 4 = .ok (.lstore 7, 2) := by decide +kernel
theorem d_X11_lowest_6 : decode (cd mX11_lowest) 6 = .ok (.lload 7, 2) := by decide +kernel
theorem d_X11_lowest_8 : decode (cd mX11_lowest) 8 = .ok (.lconst 0, 1) := by decide +kernel
theorem d_X11_lowest_9 : decode (cd mX11_lowest) 9 = .ok (.lcmp, 1) := by decide +kernel
theorem d_X11_lowest_10 : decode (cd mX11_lowest) 10 = .ok (.ifCond .eq 21, 3) := by decide +kernel
theorem d_X11_lowest_13 : decode (cd mX11_lowest) 13 = .ok (.lload 5, 2) := by decide +kernel
theorem d_X11_lowest_15 : decode (cd mX11_lowest) 15 = .ok (.lload 7, 2) := by decide +kernel
theorem d_X11_lowest_17 : decode (cd mX11_lowest) 17 = .ok (.lrem, 1) := by decide +kernel
theorem d_X11_lowest_18 : decode (cd mX11_lowest) 18 = .ok (.lstore 9, 2) := by decide +kernel
theorem d_X11_lowest_20 : decode (cd mX11_lowest) 20 = .ok (.lload 7, 2) := by decide +kernel
theorem d_X11_lowest_22 : decode (cd mX11_lowest) 22 = .ok (.lstore 5, 2) := by decide +kernel
theorem d_X11_lowest_24 : decode (cd mX11_lowest) 24 = .ok (.lload 9, 2) := by decide +kernel
theorem d_X11_lowest_26 : decode (cd mX11_lowest) 26 = .ok (.lstore 7, 2) := by decide +kernel
theorem d_X11_lowest_28 : decode (cd mX11_lowest) 28 = .ok (.goto (-22), 3) := by decide +kernel
theorem d_X11_lowest_31 : decode (cd mX11_lowest) 31 = .ok (.iload 4, 2) := by decide +kernel
theorem d_X11_lowest_33 : decode (cd mX11_lowest) 33 = .ok (.ifCond .eq 7, 3) := by decide +kernel
theorem d_X11_lowest_36 : decode (cd mX11_lowest) 36 = .ok (.lload_n 2, 1) := by decide +kernel
theorem d_X11_lowest_37 : decode (cd mX11_lowest) 37 = .ok (.goto 4, 3) := by decide +kernel
theorem d_X11_lowest_40 : decode (cd mX11_lowest) 40 = .ok (.lload_n 0, 1) := by decide +kernel
theorem d_X11_lowest_41 : decode (cd mX11_lowest) 41 = .ok (.lload 5, 2) := by decide +kernel
theorem d_X11_lowest_43 : decode (cd mX11_lowest) 43 = .ok (.ldiv, 1) := by decide +kernel
theorem d_X11_lowest_44 : decode (cd mX11_lowest) 44 = .ok (.lreturn, 1) := by decide +kernel
theorem d_X11_feed_0 : decode (cd mX11_feed) 0 = .ok (.aload_n 0, 1) := by decide +kernel
theorem d_X11_feed_1 : decode (cd mX11_feed) 1 = .ok (.iconst 0, 1) := by decide +kernel
theorem d_X11_feed_2 : decode (cd mX11_feed) 2 = .ok (.putfield 60, 3) := by decide +kernel
theorem d_X11_feed_5 : decode (cd mX11_feed) 5 = .ok (.aload_n 0, 1) := by decide +kernel
theorem d_X11_feed_6 : decode (cd mX11_feed) 6 = .ok (.getfield 66, 3) := by decide +kernel
theorem d_X11_feed_9 : decode (cd mX11_feed) 9 = .ok (.bipush 20, 2) := by decide +kernel
theorem d_X11_feed_11 : decode (cd mX11_feed) 11 = .ok (.iadd, 1) := by decide +kernel
theorem d_X11_feed_12 : decode (cd mX11_feed) 12 = .ok (.sipush 900, 3) := by decide +kernel
theorem d_X11_feed_15 : decode (cd mX11_feed) 15 = .ok (.if_icmp .le 5, 3) := by decide +kernel
theorem d_X11_feed_18 : decode (cd mX11_feed) 18 = .ok (.iconst (-1), 1) := by decide +kernel
theorem d_X11_feed_19 : decode (cd mX11_feed) 19 = .ok (.ireturn, 1) := by decide +kernel
theorem d_X11_feed_20 : decode (cd mX11_feed) 20 = .ok (.iconst 0, 1) := by decide +kernel
theorem d_X11_feed_21 : decode (cd mX11_feed) 21 = .ok (.istore 6, 2) := by decide +kernel
theorem d_X11_feed_23 : decode (cd mX11_feed) 23 = .ok (.iload 6, 2) := by decide +kernel
theorem d_X11_feed_25 : decode (cd mX11_feed) 25 = .ok (.bipush 20, 2) := by decide +kernel
theorem d_X11_feed_27 : decode (cd mX11_feed) 27 = .ok (.if_icmp .ge 93, 3) := by decide +kernel
theorem d_X11_feed_30 : decode (cd mX11_feed) 30 = .ok (.iload 6, 2) := by decide +kernel
theorem d_X11_feed_32 : decode (cd mX11_feed) 32 = .ok (.iconst 4, 1) := by decide +kernel
theorem d_X11_feed_33 : decode (cd mX11_feed) 33 = .ok (.if_icmp .ge 7, 3) := by decide +kernel
theorem d_X11_feed_36 : decode (cd mX11_feed) 36 = .ok (.iload_n 1, 1) := by decide +kernel
theorem d_X11_feed_37 : decode (cd mX11_feed) 37 = .ok (.goto 39, 3) := by decide +kernel
theorem d_X11_feed_40 : decode (cd mX11_feed) 40 = .ok (.iload 6, 2) := by decide +kernel
theorem d_X11_feed_42 : decode (cd mX11_feed) 42 = .ok (.bipush 8, 2) := by decide +kernel
theorem d_X11_feed_44 : decode (cd mX11_feed) 44 = .ok (.if_icmp .ge 7, 3) := by decide +kernel
theorem d_X11_feed_47 : decode (cd mX11_feed) 47 = .ok (.iload_n 2, 1) := by decide +kernel
theorem d_X11_feed_48 : decode (cd mX11_feed) 48 = .ok (.goto 28, 3) := by decide +kernel
theorem d_X11_feed_51 : decode (cd mX11_feed) 51 = .ok (.iload 6, 2) := by decide +kernel
theorem d_X11_feed_53 : decode (cd mX11_feed) 53 = .ok (.bipush 12, 2) := by decide +kernel
theorem d_X11_feed_55 : decode (cd mX11_feed) 55 = .ok (.if_icmp .ge 7, 3) := by decide +kernel
theorem d_X11_feed_58 : decode (cd mX11_feed) 58 = .ok (.iload_n 3, 1) := by decide +kernel
theorem d_X11_feed_59 : decode (cd mX11_feed) 59 = .ok (.goto 17, 3) := by decide +kernel
theorem d_X11_feed_62 : decode (cd mX11_feed) 62 = .ok (.iload 6, 2) := by decide +kernel
theorem d_X11_feed_64 : decode (cd mX11_feed) 64 = .ok (.bipush 16, 2) := by decide +kernel
theorem d_X11_feed_66 : decode (cd mX11_feed) 66 = .ok (.if_icmp .ge 8, 3) := by decide +kernel
theorem d_X11_feed_69 : decode (cd mX11_feed) 69 = .ok (.iload 4, 2) := by decide +kernel
theorem d_X11_feed_71 : decode (cd mX11_feed) 71 = .ok (.goto 5, 3) := by decide +kernel
theorem d_X11_feed_74 : decode (cd mX11_feed) 74 = .ok (.iload 5, 2) := by decide +kernel
theorem d_X11_feed_76 : decode (cd mX11_feed) 76 = .ok (.istore 7, 2) := by decide +kernel
theorem d_X11_feed_78 : decode (cd mX11_feed) 78 = .ok (.aload_n 0, 1) := by decide +kernel
theorem d_X11_feed_79 : decode (cd mX11_feed) 79 = .ok (.getfield 7, 3) := by decide +kernel
theorem d_X11_feed_82 : decode (cd mX11_feed) 82 = .ok (.aload_n 0, 1) := by decide +kernel
theorem d_X11_feed_83 : decode (cd mX11_feed) 83 = .ok (.getfield 66, 3) := by decide +kernel
theorem d_X11_feed_86 : decode (cd mX11_feed) 86 = .ok (.iload 7, 2) := by decide +kernel
theorem d_X11_feed_88 : decode (cd mX11_feed) 88 = .ok (.bipush 24, 2) := by decide +kernel
theorem d_X11_feed_90 : decode (cd mX11_feed) 90 = .ok (.bipush 8, 2) := by decide +kernel
theorem d_X11_feed_92 : decode (cd mX11_feed) 92 = .ok (.iload 6, 2) := by decide +kernel
theorem d_X11_feed_94 : decode (cd mX11_feed) 94 = .ok (.iconst 4, 1) := by decide +kernel
theorem d_X11_feed_95 : decode (cd mX11_feed) 95 = .ok (.irem, 1) := by decide +kernel
theorem d_X11_feed_96 : decode (cd mX11_feed) 96 = .ok (.imul, 1) := by decide +kernel
theorem d_X11_feed_97 : decode (cd mX11_feed) 97 = .ok (.isub, 1) := by decide +kernel
theorem d_X11_feed_98 : decode (cd mX11_feed) 98 = .ok (.ishr, 1) := by decide +kernel
theorem d_X11_feed_99 : decode (cd mX11_feed) 99 = .ok (.sipush 255, 3) := by decide +kernel
theorem d_X11_feed_102 : decode (cd mX11_feed) 102 = .ok (.iand, 1) := by decide +kernel
theorem d_X11_feed_103 : decode (cd mX11_feed) 103 = .ok (.iastore, 1) := by decide +kernel
theorem d_X11_feed_104 : decode (cd mX11_feed) 104 = .ok (.aload_n 0, 1) := by decide +kernel
theorem d_X11_feed_105 : decode (cd mX11_feed) 105 = .ok (.dup, 1) := by decide +kernel
theorem d_X11_feed_106 : decode (cd mX11_feed) 106 = .ok (.getfield 66, 3) := by decide +kernel
theorem d_X11_feed_109 : decode (cd mX11_feed) 109 = .ok (.iconst 1, 1) := by decide +kernel
theorem d_X11_feed_110 : decode (cd mX11_feed) 110 = .ok (.iadd, 1) := by decide +kernel
theorem d_X11_feed_111 : decode (cd mX11_feed) 111 = .ok (.putfield 66, 3) := by decide +kernel
theorem d_X11_feed_114 : decode (cd mX11_feed) 114 = .ok (.iinc 6 1, 3) := by decide +kernel
theorem d_X11_feed_117 : decode (cd mX11_feed) 117 = .ok (.goto (-94), 3) := by decide +kernel
theorem d_X11_feed_120 : decode (cd mX11_feed) 120 = .ok (.aload_n 0, 1) := by decide +kernel
theorem d_X11_feed_121 : decode (cd mX11_feed) 121 = .ok (.getfield 66, 3) := by decide +kernel
theorem d_X11_feed_124 : decode (cd mX11_feed) 124 = .ok (.ireturn, 1) := by decide +kernel
theorem d_X11_see_0 : decode (cd mX11_see) 0 = .ok (.iload_n 1, 1) := by decide +kernel
theorem d_X11_see_1 : decode (cd mX11_see) 1 = .ok (.aload_n 0, 1) := by decide +kernel
theorem d_X11_see_2 : decode (cd mX11_see) 2 = .ok (.getfield 69, 3) := by decide +kernel
theorem d_X11_see_5 : decode (cd mX11_see) 5 = .ok (.if_icmp .ge 12, 3) := by decide +kernel
theorem d_X11_see_8 : decode (cd mX11_see) 8 = .ok (.aload_n 0, 1) := by decide +kernel
theorem d_X11_see_9 : decode (cd mX11_see) 9 = .ok (.getfield 7, 3) := by decide +kernel
theorem d_X11_see_12 : decode (cd mX11_see) 12 = .ok (.iload_n 1, 1) := by decide +kernel
theorem d_X11_see_13 : decode (cd mX11_see) 13 = .ok (.iaload, 1) := by decide +kernel
theorem d_X11_see_14 : decode (cd mX11_see) 14 = .ok (.goto 4, 3) := by decide +kernel
theorem d_X11_see_17 : decode (cd mX11_see) 17 = .ok (.iconst (-1), 1) := by decide +kernel
theorem d_X11_see_18 : decode (cd mX11_see) 18 = .ok (.ireturn, 1) := by decide +kernel
theorem d_X11_isSmall_0 : decode (cd mX11_isSmall) 0 = .ok (.iload_n 0, 1) := by decide +kernel
theorem d_X11_isSmall_1 : decode (cd mX11_isSmall) 1 = .ok (.bipush 97, 2) := by decide +kernel
theorem d_X11_isSmall_3 : decode (cd mX11_isSmall) 3 = .ok (.if_icmp .lt 13, 3) := by decide +kernel
theorem d_X11_isSmall_6 : decode (cd mX11_isSmall) 6 = .ok (.iload_n 0, 1) := by decide +kernel
theorem d_X11_isSmall_7 : decode (cd mX11_isSmall) 7 = .ok (.bipush 122, 2) := by decide +kernel
theorem d_X11_isSmall_9 : decode (cd mX11_isSmall) 9 = .ok (.if_icmp .gt 7, 3) := by decide +kernel
theorem d_X11_isSmall_12 : decode (cd mX11_isSmall) 12 = .ok (.iconst 1, 1) := by decide +kernel
theorem d_X11_isSmall_13 : decode (cd mX11_isSmall) 13 = .ok (.goto 4, 3) := by decide +kernel
theorem d_X11_isSmall_16 : decode (cd mX11_isSmall) 16 = .ok (.iconst 0, 1) := by decide +kernel
theorem d_X11_isSmall_17 : decode (cd mX11_isSmall) 17 = .ok (.ireturn, 1) := by decide +kernel
theorem d_X11_isDigit_0 : decode (cd mX11_isDigit) 0 = .ok (.iload_n 0, 1) := by decide +kernel
theorem d_X11_isDigit_1 : decode (cd mX11_isDigit) 1 = .ok (.bipush 48, 2) := by decide +kernel
theorem d_X11_isDigit_3 : decode (cd mX11_isDigit) 3 = .ok (.if_icmp .lt 13, 3) := by decide +kernel
theorem d_X11_isDigit_6 : decode (cd mX11_isDigit) 6 = .ok (.iload_n 0, 1) := by decide +kernel
theorem d_X11_isDigit_7 : decode (cd mX11_isDigit) 7 = .ok (.bipush 57, 2) := by decide +kernel
theorem d_X11_isDigit_9 : decode (cd mX11_isDigit) 9 = .ok (.if_icmp .gt 7, 3) := by decide +kernel
theorem d_X11_isDigit_12 : decode (cd mX11_isDigit) 12 = .ok (.iconst 1, 1) := by decide +kernel
theorem d_X11_isDigit_13 : decode (cd mX11_isDigit) 13 = .ok (.goto 4, 3) := by decide +kernel
theorem d_X11_isDigit_16 : decode (cd mX11_isDigit) 16 = .ok (.iconst 0, 1) := by decide +kernel
theorem d_X11_isDigit_17 : decode (cd mX11_isDigit) 17 = .ok (.ireturn, 1) := by decide +kernel
theorem d_X11_next_0 : decode (cd mX11_next) 0 = .ok (.aload_n 0, 1) := by decide +kernel
theorem d_X11_next_1 : decode (cd mX11_next) 1 = .ok (.getfield 72, 3) := by decide +kernel
theorem d_X11_next_4 : decode (cd mX11_next) 4 = .ok (.istore_n 1, 1) := by decide +kernel
theorem d_X11_next_5 : decode (cd mX11_next) 5 = .ok (.aload_n 0, 1) := by decide +kernel
theorem d_X11_next_6 : decode (cd mX11_next) 6 = .ok (.iload_n 1, 1) := by decide +kernel
theorem d_X11_next_7 : decode (cd mX11_next) 7 = .ok (.invokevirtual 75, 3) := by decide +kernel
theorem d_X11_next_10 : decode (cd mX11_next) 10 = .ok (.bipush 32, 2) := by decide +kernel
theorem d_X11_next_12 : decode (cd mX11_next) 12 = .ok (.if_icmp .ne 9, 3) := by decide +kernel
theorem d_X11_next_15 : decode (cd mX11_next) 15 = .ok (.iinc 1 1, 3) := by decide +kernel
theorem d_X11_next_18 : decode (cd mX11_next) 18 = .ok (.goto (-13), 3) := by decide +kernel
theorem d_X11_next_21 : decode (cd mX11_next) 21 = .ok (.aload_n 0, 1) := by decide +kernel
theorem d_X11_next_22 : decode (cd mX11_next) 22 = .ok (.iload_n 1, 1) := by decide +kernel
theorem d_X11_next_23 : decode (cd mX11_next) 23 = .ok (.putfield 79, 3) := by decide +kernel
theorem d_X11_next_26 : decode (cd mX11_next) 26 = .ok (.aload_n 0, 1) := by decide +kernel
theorem d_X11_next_27 : decode (cd mX11_next) 27 = .ok (.iload_n 1, 1) := by decide +kernel
theorem d_X11_next_28 : decode (cd mX11_next) 28 = .ok (.invokevirtual 75, 3) := by decide +kernel
theorem d_X11_next_31 : decode (cd mX11_next) 31 = .ok (.istore_n 2, 1) := by decide +kernel
theorem d_X11_next_32 : decode (cd mX11_next) 32 = .ok (.aload_n 0, 1) := by decide +kernel
theorem d_X11_next_33 : decode (cd mX11_next) 33 = .ok (.iconst 0, 1) := by decide +kernel
theorem d_X11_next_34 : decode (cd mX11_next) 34 = .ok (.putfield 82, 3) := by decide +kernel
theorem d_X11_next_37 : decode (cd mX11_next) 37 = .ok (.aload_n 0, 1) := by decide +kernel
theorem d_X11_next_38 : decode (cd mX11_next) 38 = .ok (.iconst 0, 1) := by decide +kernel
theorem d_X11_next_39 : decode (cd mX11_next) 39 = .ok (.putfield 85, 3) := by decide +kernel
theorem d_X11_next_42 : decode (cd mX11_next) 42 = .ok (.iload_n 2, 1) := by decide +kernel
theorem d_X11_next_43 : decode (cd mX11_next) 43 = .ok (.iconst (-1), 1) := by decide +kernel
theorem d_X11_next_44 : decode (cd mX11_next) 44 = .ok (.if_icmp .ne 16, 3) := by decide +kernel
theorem d_X11_next_47 : decode (cd mX11_next) 47 = .ok (.aload_n 0, 1) := by decide +kernel
theorem d_X11_next_48 : decode (cd mX11_next) 48 = .ok (.iconst 0, 1) := by decide +kernel
theorem d_X11_next_49 : decode (cd mX11_next) 49 = .ok (.putfield 88, 3) := by decide +kernel
theorem d_X11_next_52 : decode (cd mX11_next) 52 = .ok (.aload_n 0, 1) := by decide +kernel
theorem d_X11_next_53 : decode (cd mX11_next) 53 = .ok (.iload_n 1, 1) := by decide +kernel
theorem d_X11_next_54 : decode (cd mX11_next) 54 = .ok (.putfield 72, 3) := by decide +kernel
theorem d_X11_next_57 : decode (cd mX11_next) 57 = .ok (.goto 184, 3) := by decide +kernel
theorem d_X11_next_60 : decode (cd mX11_next) 60 = .ok (.iload_n 2, 1) := by decide +kernel
theorem d_X11_next_61 : decode (cd mX11_next) 61 = .ok (.invokestatic 91, 3) := by decide +kernel
theorem d_X11_next_64 : decode (cd mX11_next) 64 = .ok (.ifCond .eq 79, 3) := by decide +kernel
theorem d_X11_next_67 : decode (cd mX11_next) 67 = .ok (.aload_n 0, 1) := by decide +kernel
theorem d_X11_next_68 : decode (cd mX11_next) 68 = .ok (.iload_n 1, 1) := by decide +kernel
theorem d_X11_next_69 : decode (cd mX11_next) 69 = .ok (.invokevirtual 75, 3) := by decide +kernel
theorem d_X11_next_72 : decode (cd mX11_next) 72 = .ok (.invokestatic 91, 3) := by decide +kernel
theorem d_X11_next_75 : decode (cd mX11_next) 75 = .ok (.ifCond .eq 42, 3) := by decide +kernel
theorem d_X11_next_78 : decode (cd mX11_next) 78 = .ok (.aload_n 0, 1) := by decide +kernel
theorem d_X11_next_79 : decode (cd mX11_next) 79 = .ok (.getfield 82, 3) := by decide +kernel
theorem d_X11_next_82 : decode (cd mX11_next) 82 = .ok (.bipush 8, 2) := by decide +kernel
theorem d_X11_next_84 : decode (cd mX11_next) 84 = .ok (.if_icmp .ge 17, 3) := by decide +kernel
theorem d_X11_next_87 : decode (cd mX11_next) 87 = .ok (.aload_n 0, 1) := by decide +kernel
theorem d_X11_next_88 : decode (cd mX11_next) 88 = .ok (.getfield 17, 3) := by decide +kernel
theorem d_X11_next_91 : decode (cd mX11_next) 91 = .ok (.aload_n 0, 1) := by decide +kernel
theorem d_X11_next_92 : decode (cd mX11_next) 92 = .ok (.getfield 82, 3) := by decide +kernel
theorem d_X11_next_95 : decode (cd mX11_next) 95 = .ok (.aload_n 0, 1) := by decide +kernel
theorem d_X11_next_96 : decode (cd mX11_next) 96 = .ok (.iload_n 1, 1) := by decide +kernel
theorem d_X11_next_97 : decode (cd mX11_next) 97 = .ok (.invokevirtual 75, 3) := by decide +kernel
theorem d_X11_next_100 : decode (cd mX11_next) 100 = .ok (.iastore, 1) := by decide +kernel
theorem d_X11_next_101 : decode (cd mX11_next) 101 = .ok (.aload_n 0, 1) := by decide +kernel
theorem d_X11_next_102 : decode (cd mX11_next) 102 = .ok (.dup, 1) := by decide +kernel
theorem d_X11_next_103 : decode (cd mX11_next) 103 = .ok (.getfield 82, 3) := by decide +kernel
theorem d_X11_next_106 : decode (cd mX11_next) 106 = .ok (.iconst 1, 1) := by decide +kernel
theorem d_X11_next_107 : decode (cd mX11_next) 107 = .ok (.iadd, 1) := by decide +kernel
theorem d_X11_next_108 : decode (cd mX11_next) 108 = .ok (.putfield 82, 3) := by decide +kernel
theorem d_X11_next_111 : decode (cd mX11_next) 111 = .ok (.iinc 1 1, 3) := by decide +kernel
theorem d_X11_next_114 : decode (cd mX11_next) 114 = .ok (.goto (-47), 3) := by decide +kernel
theorem d_X11_next_117 : decode (cd mX11_next) 117 = .ok (.aload_n 0, 1) := by decide +kernel
theorem d_X11_next_118 : decode (cd mX11_next) 118 = .ok (.iload_n 1, 1) := by decide +kernel
theorem d_X11_next_119 : decode (cd mX11_next) 119 = .ok (.putfield 72, 3) := by decide +kernel
theorem d_X11_next_122 : decode (cd mX11_next) 122 = .ok (.aload_n 0, 1) := by decide +kernel
theorem d_X11_next_123 : decode (cd mX11_next) 123 = .ok (.aload_n 0, 1) := by decide +kernel
theorem d_X11_next_124 : decode (cd mX11_next) 124 = .ok (.getfield 82, 3) := by decide +kernel
theorem d_X11_next_127 : decode (cd mX11_next) 127 = .ok (.bipush 8, 2) := by decide +kernel
theorem d_X11_next_129 : decode (cd mX11_next) 129 = .ok (.if_icmp .le 7, 3) := by decide +kernel
theorem d_X11_next_132 : decode (cd mX11_next) 132 = .ok (.iconst 1, 1) := by decide +kernel
theorem d_X11_next_133 : decode (cd mX11_next) 133 = .ok (.goto 4, 3) := by decide +kernel
theorem d_X11_next_136 : decode (cd mX11_next) 136 = .ok (.iconst 2, 1) := by decide +kernel
theorem d_X11_next_137 : decode (cd mX11_next) 137 = .ok (.putfield 88, 3) := by decide +kernel
theorem d_X11_next_140 : decode (cd mX11_next) 140 = .ok (.goto 101, 3) := by decide +kernel
theorem d_X11_next_143 : decode (cd mX11_next) 143 = .ok (.iload_n 2, 1) := by decide +kernel
theorem d_X11_next_144 : decode (cd mX11_next) 144 = .ok (.invokestatic 95, 3) := by decide +kernel
theorem d_X11_next_147 : decode (cd mX11_next) 147 = .ok (.ifCond .eq 72, 3) := by decide +kernel
theorem d_X11_next_150 : decode (cd mX11_next) 150 = .ok (.iconst 0, 1) := by decide +kernel
theorem d_X11_next_151 : decode (cd mX11_next) 151 = .ok (.istore_n 3, 1) := by decide +kernel
theorem d_X11_next_152 : decode (cd mX11_next) 152 = .ok (.aload_n 0, 1) := by decide +kernel
theorem d_X11_next_153 : decode (cd mX11_next) 153 = .ok (.iload_n 1, 1) := by decide +kernel
theorem d_X11_next_154 : decode (cd mX11_next) 154 = .ok (.invokevirtual 75, 3) := by decide +kernel
theorem d_X11_next_157 : decode (cd mX11_next) 157 = .ok (.invokestatic 95, 3) := by decide +kernel
theorem d_X11_next_160 : decode (cd mX11_next) 160 = .ok (.ifCond .eq 37, 3) := by decide +kernel
theorem d_X11_next_163 : decode (cd mX11_next) 163 = .ok (.iload_n 3, 1) := by decide +kernel
theorem d_X11_next_164 : decode (cd mX11_next) 164 = .ok (.iconst 3, 1) := by decide +kernel
theorem d_X11_next_165 : decode (cd mX11_next) 165 = .ok (.if_icmp .ge 23, 3) := by decide +kernel
theorem d_X11_next_168 : decode (cd mX11_next) 168 = .ok (.aload_n 0, 1) := by decide +kernel
theorem d_X11_next_169 : decode (cd mX11_next) 169 = .ok (.bipush 10, 2) := by decide +kernel
theorem d_X11_next_171 : decode (cd mX11_next) 171 = .ok (.aload_n 0, 1) := by decide +kernel
theorem d_X11_next_172 : decode (cd mX11_next) 172 = .ok (.getfield 85, 3) := by decide +kernel
theorem d_X11_next_175 : decode (cd mX11_next) 175 = .ok (.imul, 1) := by decide +kernel
theorem d_X11_next_176 : decode (cd mX11_next) 176 = .ok (.aload_n 0, 1) := by decide +kernel
theorem d_X11_next_177 : decode (cd mX11_next) 177 = .ok (.iload_n 1, 1) := by decide +kernel
theorem d_X11_next_178 : decode (cd mX11_next) 178 = .ok (.invokevirtual 75, 3) := by decide +kernel
theorem d_X11_next_181 : decode (cd mX11_next) 181 = .ok (.iadd, 1) := by decide +kernel
theorem d_X11_next_182 : decode (cd mX11_next) 182 = .ok (.bipush 48, 2) := by decide +kernel
theorem d_X11_next_184 : decode (cd mX11_next) 184 = .ok (.isub, 1) := by decide +kernel
theorem d_X11_next_185 : decode (cd mX11_next) 185 = .ok (.putfield 85, 3) := by decide +kernel
theorem d_X11_next_188 : decode (cd mX11_next) 188 = .ok (.iinc 3 1, 3) := by decide +kernel
theorem d_X11_next_191 : decode (cd mX11_next) 191 = .ok (.iinc 1 1, 3) := by decide +kernel
theorem d_X11_next_194 : decode (cd mX11_next) 194 = .ok (.goto (-42), 3) := by decide +kernel
theorem d_X11_next_197 : decode (cd mX11_next) 197 = .ok (.aload_n 0, 1) := by decide +kernel
theorem d_X11_next_198 : decode (cd mX11_next) 198 = .ok (.iload_n 1, 1) := by decide +kernel
theorem d_X11_next_199 : decode (cd mX11_next) 199 = .ok (.putfield 72, 3) := by decide +kernel
theorem d_X11_next_202 : decode (cd mX11_next) 202 = .ok (.aload_n 0, 1) := by decide +kernel
theorem d_X11_next_203 : decode (cd mX11_next) 203 = .ok (.iload_n 3, 1) := by decide +kernel
theorem d_X11_next_204 : decode (cd mX11_next) 204 = .ok (.iconst 3, 1) := by decide +kernel
theorem d_X11_next_205 : decode (cd mX11_next) 205 = .ok (.if_icmp .le 7, 3) := by decide +kernel
theorem d_X11_next_208 : decode (cd mX11_next) 208 = .ok (.iconst 1, 1) := by decide +kernel
theorem d_X11_next_209 : decode (cd mX11_next) 209 = .ok (.goto 4, 3) := by decide +kernel
theorem d_X11_next_212 : decode (cd mX11_next) 212 = .ok (.iconst 3, 1) := by decide +kernel
theorem d_X11_next_213 : decode (cd mX11_next) 213 = .ok (.putfield 88, 3) := by decide +kernel
theorem d_X11_next_216 : decode (cd mX11_next) 216 = .ok (.goto 25, 3) := by decide +kernel
theorem d_X11_next_219 : decode (cd mX11_next) 219 = .ok (.aload_n 0, 1) := by decide +kernel
theorem d_X11_next_220 : decode (cd mX11_next) 220 = .ok (.iload_n 1, 1) := by decide +kernel
theorem d_X11_next_221 : decode (cd mX11_next) 221 = .ok (.iconst 1, 1) := by decide +kernel
theorem d_X11_next_222 : decode (cd mX11_next) 222 = .ok (.iadd, 1) := by decide +kernel
theorem d_X11_next_223 : decode (cd mX11_next) 223 = .ok (.putfield 72, 3) := by decide +kernel
theorem d_X11_next_226 : decode (cd mX11_next) 226 = .ok (.aload_n 0, 1) := by decide +kernel
theorem d_X11_next_227 : decode (cd mX11_next) 227 = .ok (.iload_n 2, 1) := by decide +kernel
theorem d_X11_next_228 : decode (cd mX11_next) 228 = .ok (.bipush 59, 2) := by decide +kernel
theorem d_X11_next_230 : decode (cd mX11_next) 230 = .ok (.if_icmp .ne 7, 3) := by decide +kernel
theorem d_X11_next_233 : decode (cd mX11_next) 233 = .ok (.iload_n 2, 1) := by decide +kernel
theorem d_X11_next_234 : decode (cd mX11_next) 234 = .ok (.goto 4, 3) := by decide +kernel
theorem d_X11_next_237 : decode (cd mX11_next) 237 = .ok (.iconst 1, 1) := by decide +kernel
theorem d_X11_next_238 : decode (cd mX11_next) 238 = .ok (.putfield 88, 3) := by decide +kernel
theorem d_X11_next_241 : decode (cd mX11_next) 241 = .ok (.return_, 1) := by decide +kernel
theorem d_X11_wrong_0 : decode (cd mX11_wrong) 0 = .ok (.aload_n 0, 1) := by decide +kernel
theorem d_X11_wrong_1 : decode (cd mX11_wrong) 1 = .ok (.getfield 98, 3) := by decide +kernel
theorem d_X11_wrong_4 : decode (cd mX11_wrong) 4 = .ok (.ifCond .eq 4, 3) := by decide +kernel
theorem d_X11_wrong_7 : decode (cd mX11_wrong) 7 = .ok (.return_, 1) := by decide +kernel
theorem d_X11_wrong_8 : decode (cd mX11_wrong) 8 = .ok (.aload_n 0, 1) := by decide +kernel
theorem d_X11_wrong_9 : decode (cd mX11_wrong) 9 = .ok (.iconst 1, 1) := by decide +kernel
theorem d_X11_wrong_10 : decode (cd mX11_wrong) 10 = .ok (.putfield 98, 3) := by decide +kernel
theorem d_X11_wrong_13 : decode (cd mX11_wrong) 13 = .ok (.aload_n 0, 1) := by decide +kernel
theorem d_X11_wrong_14 : decode (cd mX11_wrong) 14 = .ok (.iload_n 1, 1) := by decide +kernel
theorem d_X11_wrong_15 : decode (cd mX11_wrong) 15 = .ok (.putfield 102, 3) := by decide +kernel
theorem d_X11_wrong_18 : decode (cd mX11_wrong) 18 = .ok (.aload_n 0, 1) := by decide +kernel
theorem d_X11_wrong_19 : decode (cd mX11_wrong) 19 = .ok (.iload_n 2, 1) := by decide +kernel
theorem d_X11_wrong_20 : decode (cd mX11_wrong) 20 = .ok (.putfield 13, 3) := by decide +kernel
theorem d_X11_wrong_23 : decode (cd mX11_wrong) 23 = .ok (.return_, 1) := by decide +kernel
theorem d_X11_isWord_0 : decode (cd mX11_isWord) 0 = .ok (.aload_n 0, 1) := by decide +kernel
theorem d_X11_isWord_1 : decode (cd mX11_isWord) 1 = .ok (.getfield 98, 3) := by decide +kernel
theorem d_X11_isWord_4 : decode (cd mX11_isWord) 4 = .ok (.ifCond .ne 22, 3) := by decide +kernel
theorem d_X11_isWord_7 : decode (cd mX11_isWord) 7 = .ok (.aload_n 0, 1) := by decide +kernel
theorem d_X11_isWord_8 : decode (cd mX11_isWord) 8 = .ok (.getfield 88, 3) := by decide +kernel
theorem d_X11_isWord_11 : decode (cd mX11_isWord) 11 = .ok (.iconst 2, 1) := by decide +kernel
theorem d_X11_isWord_12 : decode (cd mX11_isWord) 12 = .ok (.if_icmp .ne 14, 3) := by decide +kernel
theorem d_X11_isWord_15 : decode (cd mX11_isWord) 15 = .ok (.aload_n 0, 1) := by decide +kernel
theorem d_X11_isWord_16 : decode (cd mX11_isWord) 16 = .ok (.getfield 82, 3) := by decide +kernel
theorem d_X11_isWord_19 : decode (cd mX11_isWord) 19 = .ok (.aload_n 1, 1) := by decide +kernel
theorem d_X11_isWord_20 : decode (cd mX11_isWord) 20 = .ok (.invokevirtual 105, 3) := by decide +kernel
theorem d_X11_isWord_23 : decode (cd mX11_isWord) 23 = .ok (.if_icmp .eq 5, 3) := by decide +kernel
theorem d_X11_isWord_26 : decode (cd mX11_isWord) 26 = .ok (.iconst 0, 1) := by decide +kernel
theorem d_X11_isWord_27 : decode (cd mX11_isWord) 27 = .ok (.ireturn, 1) := by decide +kernel
theorem d_X11_isWord_28 : decode (cd mX11_isWord) 28 = .ok (.iconst 1, 1) := by decide +kernel
theorem d_X11_isWord_29 : decode (cd mX11_isWord) 29 = .ok (.istore_n 2, 1) := by decide +kernel
theorem d_X11_isWord_30 : decode (cd mX11_isWord) 30 = .ok (.iconst 0, 1) := by decide +kernel
theorem d_X11_isWord_31 : decode (cd mX11_isWord) 31 = .ok (.istore_n 3, 1) := by decide +kernel
theorem d_X11_isWord_32 : decode (cd mX11_isWord) 32 = .ok (.iload_n 3, 1) := by decide +kernel
theorem d_X11_isWord_33 : decode (cd mX11_isWord) 33 = .ok (.aload_n 0, 1) := by decide +kernel
theorem d_X11_isWord_34 : decode (cd mX11_isWord) 34 = .ok (.getfield 82, 3) := by decide +kernel
theorem d_X11_isWord_37 : decode (cd mX11_isWord) 37 = .ok (.if_icmp .ge 33, 3) := by decide +kernel
theorem d_X11_isWord_40 : decode (cd mX11_isWord) 40 = .ok (.iload_n 2, 1) := by decide +kernel
theorem d_X11_isWord_41 : decode (cd mX11_isWord) 41 = .ok (.ifCond .eq 21, 3) := by decide +kernel
theorem d_X11_isWord_44 : decode (cd mX11_isWord) 44 = .ok (.aload_n 0, 1) := by decide +kernel
theorem d_X11_isWord_45 : decode (cd mX11_isWord) 45 = .ok (.getfield 17, 3) := by decide +kernel
theorem d_X11_isWord_48 : decode (cd mX11_isWord) 48 = .ok (.iload_n 3, 1) := by decide +kernel
theorem d_X11_isWord_49 : decode (cd mX11_isWord) 49 = .ok (.iaload, 1) := by decide +kernel
theorem d_X11_isWord_50 : decode (cd mX11_isWord) 50 = .ok (.aload_n 1, 1) := by decide +kernel
theorem d_X11_isWord_51 : decode (cd mX11_isWord) 51 = .ok (.iload_n 3, 1) := by decide +kernel
theorem d_X11_isWord_52 : decode (cd mX11_isWord) 52 = .ok (.invokevirtual 111, 3) := by decide +kernel
theorem d_X11_isWord_55 : decode (cd mX11_isWord) 55 = .ok (.if_icmp .ne 7, 3) := by decide +kernel
theorem d_X11_isWord_58 : decode (cd mX11_isWord) 58 = .ok (.iconst 1, 1) := by decide +kernel
theorem d_X11_isWord_59 : decode (cd mX11_isWord) 59 = .ok (.goto 4, 3) := by decide +kernel
theorem d_X11_isWord_62 : decode (cd mX11_isWord) 62 = .ok (.iconst 0, 1) := by decide +kernel
theorem d_X11_isWord_63 : decode (cd mX11_isWord) 63 = .ok (.istore_n 2, 1) := by decide +kernel
theorem d_X11_isWord_64 : decode (cd mX11_isWord) 64 = .ok (.iinc 3 1, 3) := by decide +kernel
theorem d_X11_isWord_67 : decode (cd mX11_isWord) 67 = .ok (.goto (-35), 3) := by decide +kernel
theorem d_X11_isWord_70 : decode (cd mX11_isWord) 70 = .ok (.iload_n 2, 1) := by decide +kernel
theorem d_X11_isWord_71 : decode (cd mX11_isWord) 71 = .ok (.ireturn, 1) := by decide +kernel
theorem d_X11_takesWord_0 : decode (cd mX11_takesWord) 0 = .ok (.aload_n 0, 1) := by decide +kernel
theorem d_X11_takesWord_1 : decode (cd mX11_takesWord) 1 = .ok (.aload_n 1, 1) := by decide +kernel
theorem d_X11_takesWord_2 : decode (cd mX11_takesWord) 2 = .ok (.invokevirtual 115, 3) := by decide +kernel
theorem d_X11_takesWord_5 : decode (cd mX11_takesWord) 5 = .ok (.ifCond .ne 5, 3) := by decide +kernel
theorem d_X11_takesWord_8 : decode (cd mX11_takesWord) 8 = .ok (.iconst 0, 1) := by decide +kernel
theorem d_X11_takesWord_9 : decode (cd mX11_takesWord) 9 = .ok (.ireturn, 1) := by decide +kernel
theorem d_X11_takesWord_10 : decode (cd mX11_takesWord) 10 = .ok (.aload_n 0, 1) := by decide +kernel
theorem d_X11_takesWord_11 : decode (cd mX11_takesWord) 11 = .ok (.invokevirtual 119, 3) := by decide +kernel
theorem d_X11_takesWord_14 : decode (cd mX11_takesWord) 14 = .ok (.iconst 1, 1) := by decide +kernel
theorem d_X11_takesWord_15 : decode (cd mX11_takesWord) 15 = .ok (.ireturn, 1) := by decide +kernel
theorem d_X11_must_0 : decode (cd mX11_must) 0 = .ok (.aload_n 0, 1) := by decide +kernel
theorem d_X11_must_1 : decode (cd mX11_must) 1 = .ok (.getfield 98, 3) := by decide +kernel
theorem d_X11_must_4 : decode (cd mX11_must) 4 = .ok (.ifCond .ne 20, 3) := by decide +kernel
theorem d_X11_must_7 : decode (cd mX11_must) 7 = .ok (.aload_n 0, 1) := by decide +kernel
theorem d_X11_must_8 : decode (cd mX11_must) 8 = .ok (.aload_n 1, 1) := by decide +kernel
theorem d_X11_must_9 : decode (cd mX11_must) 9 = .ok (.invokevirtual 122, 3) := by decide +kernel
theorem d_X11_must_12 : decode (cd mX11_must) 12 = .ok (.ifCond .ne 12, 3) := by decide +kernel
theorem d_X11_must_15 : decode (cd mX11_must) 15 = .ok (.aload_n 0, 1) := by decide +kernel
theorem d_X11_must_16 : decode (cd mX11_must) 16 = .ok (.iconst 1, 1) := by decide +kernel
theorem d_X11_must_17 : decode (cd mX11_must) 17 = .ok (.aload_n 0, 1) := by decide +kernel
theorem d_X11_must_18 : decode (cd mX11_must) 18 = .ok (.getfield 79, 3) := by decide +kernel
theorem d_X11_must_21 : decode (cd mX11_must) 21 = .ok (.invokevirtual 125, 3) := by decide +kernel
theorem d_X11_must_24 : decode (cd mX11_must) 24 = .ok (.return_, 1) := by decide +kernel
theorem d_X11_mustName_0 : decode (cd mX11_mustName) 0 = .ok (.aload_n 0, 1) := by decide +kernel
theorem d_X11_mustName_1 : decode (cd mX11_mustName) 1 = .ok (.getfield 88, 3) := by decide +kernel
theorem d_X11_mustName_4 : decode (cd mX11_mustName) 4 = .ok (.iconst 2, 1) := by decide +kernel
theorem d_X11_mustName_5 : decode (cd mX11_mustName) 5 = .ok (.if_icmp .ne 66, 3) := by decide +kernel
theorem d_X11_mustName_8 : decode (cd mX11_mustName) 8 = .ok (.aload_n 0, 1) := by decide +kernel
theorem d_X11_mustName_9 : decode (cd mX11_mustName) 9 = .ok (.ldc 129, 2) := by decide +kernel
theorem d_X11_mustName_11 : decode (cd mX11_mustName) 11 = .ok (.invokevirtual 115, 3) := by decide +kernel
theorem d_X11_mustName_14 : decode (cd mX11_mustName) 14 = .ok (.ifCond .ne 57, 3) := by decide +kernel
theorem d_X11_mustName_17 : decode (cd mX11_mustName) 17 = .ok (.aload_n 0, 1) := by decide +kernel
theorem d_X11_mustName_18 : decode (cd mX11_mustName) 18 = .ok (.ldc 131, 2) := by decide +kernel
theorem d_X11_mustName_20 : decode (cd mX11_mustName) 20 = .ok (.invokevirtual 115, 3) := by decide +kernel
theorem d_X11_mustName_23 : decode (cd mX11_mustName) 23 = .ok (.ifCond .ne 48, 3) := by decide +kernel
theorem d_X11_mustName_26 : decode (cd mX11_mustName) 26 = .ok (.aload_n 0, 1) := by decide +kernel
theorem d_X11_mustName_27 : decode (cd mX11_mustName) 27 = .ok (.ldc 133, 2) := by decide +kernel
theorem d_X11_mustName_29 : decode (cd mX11_mustName) 29 = .ok (.invokevirtual 115, 3) := by decide +kernel
theorem d_X11_mustName_32 : decode (cd mX11_mustName) 32 = .ok (.ifCond .ne 39, 3) := by decide +kernel
theorem d_X11_mustName_35 : decode (cd mX11_mustName) 35 = .ok (.aload_n 0, 1) := by decide +kernel
theorem d_X11_mustName_36 : decode (cd mX11_mustName) 36 = .ok (.ldc 135, 2) := by decide +kernel
theorem d_X11_mustName_38 : decode (cd mX11_mustName) 38 = .ok (.invokevirtual 115, 3) := by decide +kernel
theorem d_X11_mustName_41 : decode (cd mX11_mustName) 41 = .ok (.ifCond .ne 30, 3) := by decide +kernel
theorem d_X11_mustName_44 : decode (cd mX11_mustName) 44 = .ok (.aload_n 0, 1) := by decide +kernel
theorem d_X11_mustName_45 : decode (cd mX11_mustName) 45 = .ok (.ldc 137, 2) := by decide +kernel
theorem d_X11_mustName_47 : decode (cd mX11_mustName) 47 = .ok (.invokevirtual 115, 3) := by decide +kernel
theorem d_X11_mustName_50 : decode (cd mX11_mustName) 50 = .ok (.ifCond .ne 21, 3) := by decide +kernel
theorem d_X11_mustName_53 : decode (cd mX11_mustName) 53 = .ok (.aload_n 0, 1) := by decide +kernel
theorem d_X11_mustName_54 : decode (cd mX11_mustName) 54 = .ok (.ldc 139, 2) := by decide +kernel
theorem d_X11_mustName_56 : decode (cd mX11_mustName) 56 = .ok (.invokevirtual 115, 3) := by decide +kernel
theorem d_X11_mustName_59 : decode (cd mX11_mustName) 59 = .ok (.ifCond .ne 12, 3) := by decide +kernel
theorem d_X11_mustName_62 : decode (cd mX11_mustName) 62 = .ok (.aload_n 0, 1) := by decide +kernel
theorem d_X11_mustName_63 : decode (cd mX11_mustName) 63 = .ok (.ldc 141, 2) := by decide +kernel
theorem d_X11_mustName_65 : decode (cd mX11_mustName) 65 = .ok (.invokevirtual 115, 3) := by decide +kernel
theorem d_X11_mustName_68 : decode (cd mX11_mustName) 68 = .ok (.ifCond .eq 12, 3) := by decide +kernel
theorem d_X11_mustName_71 : decode (cd mX11_mustName) 71 = .ok (.aload_n 0, 1) := by decide +kernel
theorem d_X11_mustName_72 : decode (cd mX11_mustName) 72 = .ok (.iconst 1, 1) := by decide +kernel
theorem d_X11_mustName_73 : decode (cd mX11_mustName) 73 = .ok (.aload_n 0, 1) := by decide +kernel
theorem d_X11_mustName_74 : decode (cd mX11_mustName) 74 = .ok (.getfield 79, 3) := by decide +kernel
theorem d_X11_mustName_77 : decode (cd mX11_mustName) 77 = .ok (.invokevirtual 125, 3) := by decide +kernel
theorem d_X11_mustName_80 : decode (cd mX11_mustName) 80 = .ok (.return_, 1) := by decide +kernel
theorem d_X11_find_0 : decode (cd mX11_find) 0 = .ok (.iconst 0, 1) := by decide +kernel
theorem d_X11_find_1 : decode (cd mX11_find) 1 = .ok (.istore_n 1, 1) := by decide +kernel
theorem d_X11_find_2 : decode (cd mX11_find) 2 = .ok (.iload_n 1, 1) := by decide +kernel
theorem d_X11_find_3 : decode (cd mX11_find) 3 = .ok (.bipush 16, 2) := by decide +kernel
theorem d_X11_find_5 : decode (cd mX11_find) 5 = .ok (.if_icmp .ge 98, 3) := by decide +kernel
theorem d_X11_find_8 : decode (cd mX11_find) 8 = .ok (.aload_n 0, 1) := by decide +kernel
theorem d_X11_find_9 : decode (cd mX11_find) 9 = .ok (.getfield 23, 3) := by decide +kernel
theorem d_X11_find_12 : decode (cd mX11_find) 12 = .ok (.bipush 80, 2) := by decide +kernel
theorem d_X11_find_14 : decode (cd mX11_find) 14 = .ok (.iload_n 1, 1) := by decide +kernel
theorem d_X11_find_15 : decode (cd mX11_find) 15 = .ok (.iadd, 1) := by decide +kernel
theorem d_X11_find_16 : decode (cd mX11_find) 16 = .ok (.iaload, 1) := by decide +kernel
theorem d_X11_find_17 : decode (cd mX11_find) 17 = .ok (.ifCond .le 23, 3) := by decide +kernel
theorem d_X11_find_20 : decode (cd mX11_find) 20 = .ok (.aload_n 0, 1) := by decide +kernel
theorem d_X11_find_21 : decode (cd mX11_find) 21 = .ok (.getfield 23, 3) := by decide +kernel
theorem d_X11_find_24 : decode (cd mX11_find) 24 = .ok (.bipush 80, 2) := by decide +kernel
theorem d_X11_find_26 : decode (cd mX11_find) 26 = .ok (.iload_n 1, 1) := by decide +kernel
theorem d_X11_find_27 : decode (cd mX11_find) 27 = .ok (.iadd, 1) := by decide +kernel
theorem d_X11_find_28 : decode (cd mX11_find) 28 = .ok (.iaload, 1) := by decide +kernel
theorem d_X11_find_29 : decode (cd mX11_find) 29 = .ok (.aload_n 0, 1) := by decide +kernel
theorem d_X11_find_30 : decode (cd mX11_find) 30 = .ok (.getfield 82, 3) := by decide +kernel
theorem d_X11_find_33 : decode (cd mX11_find) 33 = .ok (.if_icmp .ne 7, 3) := by decide +kernel
theorem d_X11_find_36 : decode (cd mX11_find) 36 = .ok (.iconst 1, 1) := by decide +kernel
theorem d_X11_find_37 : decode (cd mX11_find) 37 = .ok (.goto 4, 3) := by decide +kernel
theorem d_X11_find_40 : decode (cd mX11_find) 40 = .ok (.iconst 0, 1) := by decide +kernel
theorem d_X11_find_41 : decode (cd mX11_find) 41 = .ok (.istore_n 2, 1) := by decide +kernel
theorem d_X11_find_42 : decode (cd mX11_find) 42 = .ok (.iconst 0, 1) := by decide +kernel
theorem d_X11_find_43 : decode (cd mX11_find) 43 = .ok (.istore_n 3, 1) := by decide +kernel
theorem d_X11_find_44 : decode (cd mX11_find) 44 = .ok (.iload_n 3, 1) := by decide +kernel
theorem d_X11_find_45 : decode (cd mX11_find) 45 = .ok (.aload_n 0, 1) := by decide +kernel
theorem d_X11_find_46 : decode (cd mX11_find) 46 = .ok (.getfield 82, 3) := by decide +kernel
theorem d_X11_find_49 : decode (cd mX11_find) 49 = .ok (.if_icmp .ge 42, 3) := by decide +kernel
theorem d_X11_find_52 : decode (cd mX11_find) 52 = .ok (.iload_n 2, 1) := by decide +kernel
theorem d_X11_find_53 : decode (cd mX11_find) 53 = .ok (.ifCond .eq 38, 3) := by decide +kernel
theorem d_X11_find_56 : decode (cd mX11_find) 56 = .ok (.aload_n 0, 1) := by decide +kernel
theorem d_X11_find_57 : decode (cd mX11_find) 57 = .ok (.getfield 23, 3) := by decide +kernel
theorem d_X11_find_60 : decode (cd mX11_find) 60 = .ok (.bipush 96, 2) := by decide +kernel
theorem d_X11_find_62 : decode (cd mX11_find) 62 = .ok (.bipush 8, 2) := by decide +kernel
theorem d_X11_find_64 : decode (cd mX11_find) 64 = .ok (.iload_n 1, 1) := by decide +kernel
theorem d_X11_find_65 : decode (cd mX11_find) 65 = .ok (.imul, 1) := by decide +kernel
theorem d_X11_find_66 : decode (cd mX11_find) 66 = .ok (.iadd, 1) := by decide +kernel
theorem d_X11_find_67 : decode (cd mX11_find) 67 = .ok (.iload_n 3, 1) := by decide +kernel
theorem d_X11_find_68 : decode (cd mX11_find) 68 = .ok (.iadd, 1) := by decide +kernel
theorem d_X11_find_69 : decode (cd mX11_find) 69 = .ok (.iaload, 1) := by decide +kernel
theorem d_X11_find_70 : decode (cd mX11_find) 70 = .ok (.aload_n 0, 1) := by decide +kernel
theorem d_X11_find_71 : decode (cd mX11_find) 71 = .ok (.getfield 17, 3) := by decide +kernel
theorem d_X11_find_74 : decode (cd mX11_find) 74 = .ok (.iload_n 3, 1) := by decide +kernel
theorem d_X11_find_75 : decode (cd mX11_find) 75 = .ok (.iaload, 1) := by decide +kernel
theorem d_X11_find_76 : decode (cd mX11_find) 76 = .ok (.if_icmp .ne 7, 3) := by decide +kernel
theorem d_X11_find_79 : decode (cd mX11_find) 79 = .ok (.iconst 1, 1) := by decide +kernel
theorem d_X11_find_80 : decode (cd mX11_find) 80 = .ok (.goto 4, 3) := by decide +kernel
theorem d_X11_find_83 : decode (cd mX11_find) 83 = .ok (.iconst 0, 1) := by decide +kernel
theorem d_X11_find_84 : decode (cd mX11_find) 84 = .ok (.istore_n 2, 1) := by decide +kernel
theorem d_X11_find_85 : decode (cd mX11_find) 85 = .ok (.iinc 3 1, 3) := by decide +kernel
theorem d_X11_find_88 : decode (cd mX11_find) 88 = .ok (.goto (-44), 3) := by decide +kernel
theorem d_X11_find_91 : decode (cd mX11_find) 91 = .ok (.iload_n 2, 1) := by decide +kernel
theorem d_X11_find_92 : decode (cd mX11_find) 92 = .ok (.ifCond .eq 5, 3) := by decide +kernel
theorem d_X11_find_95 : decode (cd mX11_find) 95 = .ok (.iload_n 1, 1) := by decide +kernel
theorem d_X11_find_96 : decode (cd mX11_find) 96 = .ok (.ireturn, 1) := by decide +kernel
theorem d_X11_find_97 : decode (cd mX11_find) 97 = .ok (.iinc 1 1, 3) := by decide +kernel
theorem d_X11_find_100 : decode (cd mX11_find) 100 = .ok (.goto (-98), 3) := by decide +kernel
theorem d_X11_find_103 : decode (cd mX11_find) 103 = .ok (.iconst (-1), 1) := by decide +kernel
theorem d_X11_find_104 : decode (cd mX11_find) 104 = .ok (.ireturn, 1) := by decide +kernel
theorem d_X11_newName_0 : decode (cd mX11_newName) 0 = .ok (.aload_n 0, 1) := by decide +kernel
theorem d_X11_newName_1 : decode (cd mX11_newName) 1 = .ok (.getfield 98, 3) := by decide +kernel
theorem d_X11_newName_4 : decode (cd mX11_newName) 4 = .ok (.ifCond .eq 4, 3) := by decide +kernel
theorem d_X11_newName_7 : decode (cd mX11_newName) 7 = .ok (.return_, 1) := by decide +kernel
theorem d_X11_newName_8 : decode (cd mX11_newName) 8 = .ok (.aload_n 0, 1) := by decide +kernel
theorem d_X11_newName_9 : decode (cd mX11_newName) 9 = .ok (.invokevirtual 143, 3) := by decide +kernel
theorem d_X11_newName_12 : decode (cd mX11_newName) 12 = .ok (.aload_n 0, 1) := by decide +kernel
theorem d_X11_newName_13 : decode (cd mX11_newName) 13 = .ok (.getfield 98, 3) := by decide +kernel
theorem d_X11_newName_16 : decode (cd mX11_newName) 16 = .ok (.ifCond .ne 19, 3) := by decide +kernel
theorem d_X11_newName_19 : decode (cd mX11_newName) 19 = .ok (.aload_n 0, 1) := by decide +kernel
theorem d_X11_newName_20 : decode (cd mX11_newName) 20 = .ok (.invokevirtual 146, 3) := by decide +kernel
theorem d_X11_newName_23 : decode (cd mX11_newName) 23 = .ok (.ifCond .lt 12, 3) := by decide +kernel
theorem d_X11_newName_26 : decode (cd mX11_newName) 26 = .ok (.aload_n 0, 1) := by decide +kernel
theorem d_X11_newName_27 : decode (cd mX11_newName) 27 = .ok (.iconst 3, 1) := by decide +kernel
theorem d_X11_newName_28 : decode (cd mX11_newName) 28 = .ok (.aload_n 0, 1) := by decide +kernel
theorem d_X11_newName_29 : decode (cd mX11_newName) 29 = .ok (.getfield 79, 3) := by decide +kernel
theorem d_X11_newName_32 : decode (cd mX11_newName) 32 = .ok (.invokevirtual 125, 3) := by decide +kernel
theorem d_X11_newName_35 : decode (cd mX11_newName) 35 = .ok (.aload_n 0, 1) := by decide +kernel
theorem d_X11_newName_36 : decode (cd mX11_newName) 36 = .ok (.getfield 98, 3) := by decide +kernel
theorem d_X11_newName_39 : decode (cd mX11_newName) 39 = .ok (.ifCond .eq 4, 3) := by decide +kernel
theorem d_X11_newName_42 : decode (cd mX11_newName) 42 = .ok (.return_, 1) := by decide +kernel
theorem d_X11_newName_43 : decode (cd mX11_newName) 43 = .ok (.iconst 0, 1) := by decide +kernel
theorem d_X11_newName_44 : decode (cd mX11_newName) 44 = .ok (.istore_n 2, 1) := by decide +kernel
theorem d_X11_newName_45 : decode (cd mX11_newName) 45 = .ok (.iload_n 2, 1) := by decide +kernel
theorem d_X11_newName_46 : decode (cd mX11_newName) 46 = .ok (.aload_n 0, 1) := by decide +kernel
theorem d_X11_newName_47 : decode (cd mX11_newName) 47 = .ok (.getfield 82, 3) := by decide +kernel
theorem d_X11_newName_50 : decode (cd mX11_newName) 50 = .ok (.if_icmp .ge 29, 3) := by decide +kernel
theorem d_X11_newName_53 : decode (cd mX11_newName) 53 = .ok (.aload_n 0, 1) := by decide +kernel
theorem d_X11_newName_54 : decode (cd mX11_newName) 54 = .ok (.getfield 23, 3) := by decide +kernel
theorem d_X11_newName_57 : decode (cd mX11_newName) 57 = .ok (.bipush 96, 2) := by decide +kernel
theorem d_X11_newName_59 : decode (cd mX11_newName) 59 = .ok (.bipush 8, 2) := by decide +kernel
theorem d_X11_newName_61 : decode (cd mX11_newName) 61 = .ok (.iload_n 1, 1) := by decide +kernel
theorem d_X11_newName_62 : decode (cd mX11_newName) 62 = .ok (.imul, 1) := by decide +kernel
theorem d_X11_newName_63 : decode (cd mX11_newName) 63 = .ok (.iadd, 1) := by decide +kernel
theorem d_X11_newName_64 : decode (cd mX11_newName) 64 = .ok (.iload_n 2, 1) := by decide +kernel
theorem d_X11_newName_65 : decode (cd mX11_newName) 65 = .ok (.iadd, 1) := by decide +kernel
theorem d_X11_newName_66 : decode (cd mX11_newName) 66 = .ok (.aload_n 0, 1) := by decide +kernel
theorem d_X11_newName_67 : decode (cd mX11_newName) 67 = .ok (.getfield 17, 3) := by decide +kernel
theorem d_X11_newName_70 : decode (cd mX11_newName) 70 = .ok (.iload_n 2, 1) := by decide +kernel
theorem d_X11_newName_71 : decode (cd mX11_newName) 71 = .ok (.iaload, 1) := by decide +kernel
theorem d_X11_newName_72 : decode (cd mX11_newName) 72 = .ok (.iastore, 1) := by decide +kernel
theorem d_X11_newName_73 : decode (cd mX11_newName) 73 = .ok (.iinc 2 1, 3) := by decide +kernel
theorem d_X11_newName_76 : decode (cd mX11_newName) 76 = .ok (.goto (-31), 3) := by decide +kernel
theorem d_X11_newName_79 : decode (cd mX11_newName) 79 = .ok (.aload_n 0, 1) := by decide +kernel
theorem d_X11_newName_80 : decode (cd mX11_newName) 80 = .ok (.getfield 23, 3) := by decide +kernel
theorem d_X11_newName_83 : decode (cd mX11_newName) 83 = .ok (.bipush 80, 2) := by decide +kernel
theorem d_X11_newName_85 : decode (cd mX11_newName) 85 = .ok (.iload_n 1, 1) := by decide +kernel
theorem d_X11_newName_86 : decode (cd mX11_newName) 86 = .ok (.iadd, 1) := by decide +kernel
theorem d_X11_newName_87 : decode (cd mX11_newName) 87 = .ok (.aload_n 0, 1) := by decide +kernel
theorem d_X11_newName_88 : decode (cd mX11_newName) 88 = .ok (.getfield 82, 3) := by decide +kernel
theorem d_X11_newName_91 : decode (cd mX11_newName) 91 = .ok (.iastore, 1) := by decide +kernel
theorem d_X11_newName_92 : decode (cd mX11_newName) 92 = .ok (.aload_n 0, 1) := by decide +kernel
theorem d_X11_newName_93 : decode (cd mX11_newName) 93 = .ok (.invokevirtual 119, 3) := by decide +kernel
theorem d_X11_newName_96 : decode (cd mX11_newName) 96 = .ok (.return_, 1) := by decide +kernel
theorem d_X11_fieldHere_0 : decode (cd mX11_fieldHere) 0 = .ok (.aload_n 0, 1) := by decide +kernel
theorem d_X11_fieldHere_1 : decode (cd mX11_fieldHere) 1 = .ok (.getfield 98, 3) := by decide +kernel
theorem d_X11_fieldHere_4 : decode (cd mX11_fieldHere) 4 = .ok (.ifCond .eq 5, 3) := by decide +kernel
theorem d_X11_fieldHere_7 : decode (cd mX11_fieldHere) 7 = .ok (.iconst 0, 1) := by decide +kernel
theorem d_X11_fieldHere_8 : decode (cd mX11_fieldHere) 8 = .ok (.ireturn, 1) := by decide +kernel
theorem d_X11_fieldHere_9 : decode (cd mX11_fieldHere) 9 = .ok (.aload_n 0, 1) := by decide +kernel
theorem d_X11_fieldHere_10 : decode (cd mX11_fieldHere) 10 = .ok (.invokevirtual 143, 3) := by decide +kernel
theorem d_X11_fieldHere_13 : decode (cd mX11_fieldHere) 13 = .ok (.aload_n 0, 1) := by decide +kernel
theorem d_X11_fieldHere_14 : decode (cd mX11_fieldHere) 14 = .ok (.getfield 98, 3) := by decide +kernel
theorem d_X11_fieldHere_17 : decode (cd mX11_fieldHere) 17 = .ok (.ifCond .eq 5, 3) := by decide +kernel
theorem d_X11_fieldHere_20 : decode (cd mX11_fieldHere) 20 = .ok (.iconst 0, 1) := by decide +kernel
theorem d_X11_fieldHere_21 : decode (cd mX11_fieldHere) 21 = .ok (.ireturn, 1) := by decide +kernel
theorem d_X11_fieldHere_22 : decode (cd mX11_fieldHere) 22 = .ok (.aload_n 0, 1) := by decide +kernel
theorem d_X11_fieldHere_23 : decode (cd mX11_fieldHere) 23 = .ok (.invokevirtual 146, 3) := by decide +kernel
theorem d_X11_fieldHere_26 : decode (cd mX11_fieldHere) 26 = .ok (.istore_n 1, 1) := by decide +kernel
theorem d_X11_fieldHere_27 : decode (cd mX11_fieldHere) 27 = .ok (.iload_n 1, 1) := by decide +kernel
theorem d_X11_fieldHere_28 : decode (cd mX11_fieldHere) 28 = .ok (.iconst 0, 1) := by decide +kernel
theorem d_X11_fieldHere_29 : decode (cd mX11_fieldHere) 29 = .ok (.iconst 5, 1) := by decide +kernel
theorem d_X11_fieldHere_30 : decode (cd mX11_fieldHere) 30 = .ok (.invokestatic 149, 3) := by decide +kernel
theorem d_X11_fieldHere_33 : decode (cd mX11_fieldHere) 33 = .ok (.ifCond .ne 12, 3) := by decide +kernel
theorem d_X11_fieldHere_36 : decode (cd mX11_fieldHere) 36 = .ok (.aload_n 0, 1) := by decide +kernel
theorem d_X11_fieldHere_37 : decode (cd mX11_fieldHere) 37 = .ok (.iconst 2, 1) := by decide +kernel
theorem d_X11_fieldHere_38 : decode (cd mX11_fieldHere) 38 = .ok (.aload_n 0, 1) := by decide +kernel
theorem d_X11_fieldHere_39 : decode (cd mX11_fieldHere) 39 = .ok (.getfield 79, 3) := by decide +kernel
theorem d_X11_fieldHere_42 : decode (cd mX11_fieldHere) 42 = .ok (.invokevirtual 125, 3) := by decide +kernel
theorem d_X11_fieldHere_45 : decode (cd mX11_fieldHere) 45 = .ok (.aload_n 0, 1) := by decide +kernel
theorem d_X11_fieldHere_46 : decode (cd mX11_fieldHere) 46 = .ok (.getfield 98, 3) := by decide +kernel
theorem d_X11_fieldHere_49 : decode (cd mX11_fieldHere) 49 = .ok (.ifCond .eq 7, 3) := by decide +kernel
theorem d_X11_fieldHere_52 : decode (cd mX11_fieldHere) 52 = .ok (.iconst 0, 1) := by decide +kernel
theorem d_X11_fieldHere_53 : decode (cd mX11_fieldHere) 53 = .ok (.goto 4, 3) := by decide +kernel
theorem d_X11_fieldHere_56 : decode (cd mX11_fieldHere) 56 = .ok (.iload_n 1, 1) := by decide +kernel
theorem d_X11_fieldHere_57 : decode (cd mX11_fieldHere) 57 = .ok (.ireturn, 1) := by decide +kernel
theorem d_X11_numberHere_0 : decode (cd mX11_numberHere) 0 = .ok (.aload_n 0, 1) := by decide +kernel
theorem d_X11_numberHere_1 : decode (cd mX11_numberHere) 1 = .ok (.getfield 98, 3) := by decide +kernel
theorem d_X11_numberHere_4 : decode (cd mX11_numberHere) 4 = .ok (.ifCond .eq 5, 3) := by decide +kernel
theorem d_X11_numberHere_7 : decode (cd mX11_numberHere) 7 = .ok (.iload_n 1, 1) := by decide +kernel
theorem d_X11_numberHere_8 : decode (cd mX11_numberHere) 8 = .ok (.ireturn, 1) := by decide +kernel
theorem d_X11_numberHere_9 : decode (cd mX11_numberHere) 9 = .ok (.aload_n 0, 1) := by decide +kernel
theorem d_X11_numberHere_10 : decode (cd mX11_numberHere) 10 = .ok (.getfield 88, 3) := by decide +kernel
theorem d_X11_numberHere_13 : decode (cd mX11_numberHere) 13 = .ok (.iconst 3, 1) := by decide +kernel
theorem d_X11_numberHere_14 : decode (cd mX11_numberHere) 14 = .ok (.if_icmp .eq 15, 3) := by decide +kernel
theorem d_X11_numberHere_17 : decode (cd mX11_numberHere) 17 = .ok (.aload_n 0, 1) := by decide +kernel
theorem d_X11_numberHere_18 : decode (cd mX11_numberHere) 18 = .ok (.iconst 1, 1) := by decide +kernel
theorem d_X11_numberHere_19 : decode (cd mX11_numberHere) 19 = .ok (.aload_n 0, 1) := by decide +kernel
theorem d_X11_numberHere_20 : decode (cd mX11_numberHere) 20 = .ok (.getfield 79, 3) := by decide +kernel
theorem d_X11_numberHere_23 : decode (cd mX11_numberHere) 23 = .ok (.invokevirtual 125, 3) := by decide +kernel
theorem d_X11_numberHere_26 : decode (cd mX11_numberHere) 26 = .ok (.goto 24, 3) := by decide +kernel
theorem d_X11_numberHere_29 : decode (cd mX11_numberHere) 29 = .ok (.aload_n 0, 1) := by decide +kernel
theorem d_X11_numberHere_30 : decode (cd mX11_numberHere) 30 = .ok (.getfield 85, 3) := by decide +kernel
theorem d_X11_numberHere_33 : decode (cd mX11_numberHere) 33 = .ok (.iload_n 1, 1) := by decide +kernel
theorem d_X11_numberHere_34 : decode (cd mX11_numberHere) 34 = .ok (.iload_n 2, 1) := by decide +kernel
theorem d_X11_numberHere_35 : decode (cd mX11_numberHere) 35 = .ok (.invokestatic 149, 3) := by decide +kernel
theorem d_X11_numberHere_38 : decode (cd mX11_numberHere) 38 = .ok (.ifCond .ne 12, 3) := by decide +kernel
theorem d_X11_numberHere_41 : decode (cd mX11_numberHere) 41 = .ok (.aload_n 0, 1) := by decide +kernel
theorem d_X11_numberHere_42 : decode (cd mX11_numberHere) 42 = .ok (.iconst 4, 1) := by decide +kernel
theorem d_X11_numberHere_43 : decode (cd mX11_numberHere) 43 = .ok (.aload_n 0, 1) := by decide +kernel
theorem d_X11_numberHere_44 : decode (cd mX11_numberHere) 44 = .ok (.getfield 79, 3) := by decide +kernel
theorem d_X11_numberHere_47 : decode (cd mX11_numberHere) 47 = .ok (.invokevirtual 125, 3) := by decide +kernel
theorem d_X11_numberHere_50 : decode (cd mX11_numberHere) 50 = .ok (.aload_n 0, 1) := by decide +kernel
theorem d_X11_numberHere_51 : decode (cd mX11_numberHere) 51 = .ok (.getfield 98, 3) := by decide +kernel
theorem d_X11_numberHere_54 : decode (cd mX11_numberHere) 54 = .ok (.ifCond .eq 7, 3) := by decide +kernel
theorem d_X11_numberHere_57 : decode (cd mX11_numberHere) 57 = .ok (.iload_n 1, 1) := by decide +kernel
theorem d_X11_numberHere_58 : decode (cd mX11_numberHere) 58 = .ok (.goto 7, 3) := by decide +kernel
theorem d_X11_numberHere_61 : decode (cd mX11_numberHere) 61 = .ok (.aload_n 0, 1) := by decide +kernel
theorem d_X11_numberHere_62 : decode (cd mX11_numberHere) 62 = .ok (.getfield 85, 3) := by decide +kernel
theorem d_X11_numberHere_65 : decode (cd mX11_numberHere) 65 = .ok (.ireturn, 1) := by decide +kernel
theorem d_X11_number_0 : decode (cd mX11_number) 0 = .ok (.aload_n 0, 1) := by decide +kernel
theorem d_X11_number_1 : decode (cd mX11_number) 1 = .ok (.iload_n 1, 1) := by decide +kernel
theorem d_X11_number_2 : decode (cd mX11_number) 2 = .ok (.iload_n 2, 1) := by decide +kernel
theorem d_X11_number_3 : decode (cd mX11_number) 3 = .ok (.invokevirtual 153, 3) := by decide +kernel
theorem d_X11_number_6 : decode (cd mX11_number) 6 = .ok (.istore_n 3, 1) := by decide +kernel
theorem d_X11_number_7 : decode (cd mX11_number) 7 = .ok (.aload_n 0, 1) := by decide +kernel
theorem d_X11_number_8 : decode (cd mX11_number) 8 = .ok (.getfield 98, 3) := by decide +kernel
theorem d_X11_number_11 : decode (cd mX11_number) 11 = .ok (.ifCond .ne 7, 3) := by decide +kernel
theorem d_X11_number_14 : decode (cd mX11_number) 14 = .ok (.aload_n 0, 1) := by decide +kernel
theorem d_X11_number_15 : decode (cd mX11_number) 15 = .ok (.invokevirtual 119, 3) := by decide +kernel
theorem d_X11_number_18 : decode (cd mX11_number) 18 = .ok (.iload_n 3, 1) := by decide +kernel
theorem d_X11_number_19 : decode (cd mX11_number) 19 = .ok (.ireturn, 1) := by decide +kernel
theorem d_X11_after_0 : decode (cd mX11_after) 0 = .ok (.aload_n 0, 1) := by decide +kernel
theorem d_X11_after_1 : decode (cd mX11_after) 1 = .ok (.aload_n 1, 1) := by decide +kernel
theorem d_X11_after_2 : decode (cd mX11_after) 2 = .ok (.invokevirtual 157, 3) := by decide +kernel
theorem d_X11_after_5 : decode (cd mX11_after) 5 = .ok (.aload_n 0, 1) := by decide +kernel
theorem d_X11_after_6 : decode (cd mX11_after) 6 = .ok (.iload_n 2, 1) := by decide +kernel
theorem d_X11_after_7 : decode (cd mX11_after) 7 = .ok (.iload_n 3, 1) := by decide +kernel
theorem d_X11_after_8 : decode (cd mX11_after) 8 = .ok (.invokevirtual 161, 3) := by decide +kernel
theorem d_X11_after_11 : decode (cd mX11_after) 11 = .ok (.ireturn, 1) := by decide +kernel
theorem d_X11_weather_0 : decode (cd mX11_weather) 0 = .ok (.aload_n 0, 1) := by decide +kernel
theorem d_X11_weather_1 : decode (cd mX11_weather) 1 = .ok (.ldc 164, 2) := by decide +kernel
theorem d_X11_weather_3 : decode (cd mX11_weather) 3 = .ok (.invokevirtual 122, 3) := by decide +kernel
theorem d_X11_weather_6 : decode (cd mX11_weather) 6 = .ok (.ifCond .eq 5, 3) := by decide +kernel
theorem d_X11_weather_9 : decode (cd mX11_weather) 9 = .ok (.iconst 1, 1) := by decide +kernel
theorem d_X11_weather_10 : decode (cd mX11_weather) 10 = .ok (.ireturn, 1) := by decide +kernel
theorem d_X11_weather_11 : decode (cd mX11_weather) 11 = .ok (.aload_n 0, 1) := by decide +kernel
theorem d_X11_weather_12 : decode (cd mX11_weather) 12 = .ok (.ldc 166, 2) := by decide +kernel
theorem d_X11_weather_14 : decode (cd mX11_weather) 14 = .ok (.invokevirtual 157, 3) := by decide +kernel
theorem d_X11_weather_17 : decode (cd mX11_weather) 17 = .ok (.iconst 2, 1) := by decide +kernel
theorem d_X11_weather_18 : decode (cd mX11_weather) 18 = .ok (.ireturn, 1) := by decide +kernel
theorem d_X11_chalet_0 : decode (cd mX11_chalet) 0 = .ok (.aload_n 0, 1) := by decide +kernel
theorem d_X11_chalet_1 : decode (cd mX11_chalet) 1 = .ok (.invokevirtual 168, 3) := by decide +kernel
theorem d_X11_chalet_4 : decode (cd mX11_chalet) 4 = .ok (.iload_n 1, 1) := by decide +kernel
theorem d_X11_chalet_5 : decode (cd mX11_chalet) 5 = .ok (.iconst 0, 1) := by decide +kernel
theorem d_X11_chalet_6 : decode (cd mX11_chalet) 6 = .ok (.aload_n 0, 1) := by decide +kernel
theorem d_X11_chalet_7 : decode (cd mX11_chalet) 7 = .ok (.getfield 66, 3) := by decide +kernel
theorem d_X11_chalet_10 : decode (cd mX11_chalet) 10 = .ok (.invokestatic 149, 3) := by decide +kernel
theorem d_X11_chalet_13 : decode (cd mX11_chalet) 13 = .ok (.ifCond .ne 9, 3) := by decide +kernel
theorem d_X11_chalet_16 : decode (cd mX11_chalet) 16 = .ok (.aload_n 0, 1) := by decide +kernel
theorem d_X11_chalet_17 : decode (cd mX11_chalet) 17 = .ok (.iconst 2, 1) := by decide +kernel
theorem d_X11_chalet_18 : decode (cd mX11_chalet) 18 = .ok (.invokevirtual 171, 3) := by decide +kernel
theorem d_X11_chalet_21 : decode (cd mX11_chalet) 21 = .ok (.ireturn, 1) := by decide +kernel
theorem d_X11_chalet_22 : decode (cd mX11_chalet) 22 = .ok (.aload_n 0, 1) := by decide +kernel
theorem d_X11_chalet_23 : decode (cd mX11_chalet) 23 = .ok (.iconst 0, 1) := by decide +kernel
theorem d_X11_chalet_24 : decode (cd mX11_chalet) 24 = .ok (.putfield 66, 3) := by decide +kernel
theorem d_X11_chalet_27 : decode (cd mX11_chalet) 27 = .ok (.aload_n 0, 1) := by decide +kernel
theorem d_X11_chalet_28 : decode (cd mX11_chalet) 28 = .ok (.iconst 0, 1) := by decide +kernel
theorem d_X11_chalet_29 : decode (cd mX11_chalet) 29 = .ok (.putfield 102, 3) := by decide +kernel
theorem d_X11_chalet_32 : decode (cd mX11_chalet) 32 = .ok (.aload_n 0, 1) := by decide +kernel
theorem d_X11_chalet_33 : decode (cd mX11_chalet) 33 = .ok (.iconst 0, 1) := by decide +kernel
theorem d_X11_chalet_34 : decode (cd mX11_chalet) 34 = .ok (.putfield 98, 3) := by decide +kernel
theorem d_X11_chalet_37 : decode (cd mX11_chalet) 37 = .ok (.iconst 0, 1) := by decide +kernel
theorem d_X11_chalet_38 : decode (cd mX11_chalet) 38 = .ok (.istore_n 2, 1) := by decide +kernel
theorem d_X11_chalet_39 : decode (cd mX11_chalet) 39 = .ok (.iload_n 2, 1) := by decide +kernel
theorem d_X11_chalet_40 : decode (cd mX11_chalet) 40 = .ok (.sipush 224, 3) := by decide +kernel
theorem d_X11_chalet_43 : decode (cd mX11_chalet) 43 = .ok (.if_icmp .ge 16, 3) := by decide +kernel
theorem d_X11_chalet_46 : decode (cd mX11_chalet) 46 = .ok (.aload_n 0, 1) := by decide +kernel
theorem d_X11_chalet_47 : decode (cd mX11_chalet) 47 = .ok (.getfield 23, 3) := by decide +kernel
theorem d_X11_chalet_50 : decode (cd mX11_chalet) 50 = .ok (.iload_n 2, 1) := by decide +kernel
theorem d_X11_chalet_51 : decode (cd mX11_chalet) 51 = .ok (.iconst 0, 1) := by decide +kernel
theorem d_X11_chalet_52 : decode (cd mX11_chalet) 52 = .ok (.iastore, 1) := by decide +kernel
theorem d_X11_chalet_53 : decode (cd mX11_chalet) 53 = .ok (.iinc 2 1, 3) := by decide +kernel
theorem d_X11_chalet_56 : decode (cd mX11_chalet) 56 = .ok (.goto (-17), 3) := by decide +kernel
theorem d_X11_chalet_59 : decode (cd mX11_chalet) 59 = .ok (.aload_n 0, 1) := by decide +kernel
theorem d_X11_chalet_60 : decode (cd mX11_chalet) 60 = .ok (.getfield 23, 3) := by decide +kernel
theorem d_X11_chalet_63 : decode (cd mX11_chalet) 63 = .ok (.iconst 3, 1) := by decide +kernel
theorem d_X11_chalet_64 : decode (cd mX11_chalet) 64 = .ok (.bipush 10, 2) := by decide +kernel
theorem d_X11_chalet_66 : decode (cd mX11_chalet) 66 = .ok (.iastore, 1) := by decide +kernel
theorem d_X11_chalet_67 : decode (cd mX11_chalet) 67 = .ok (.aload_n 0, 1) := by decide +kernel
theorem d_X11_chalet_68 : decode (cd mX11_chalet) 68 = .ok (.getfield 23, 3) := by decide +kernel
theorem d_X11_chalet_71 : decode (cd mX11_chalet) 71 = .ok (.iconst 4, 1) := by decide +kernel
theorem d_X11_chalet_72 : decode (cd mX11_chalet) 72 = .ok (.bipush 10, 2) := by decide +kernel
theorem d_X11_chalet_74 : decode (cd mX11_chalet) 74 = .ok (.iastore, 1) := by decide +kernel
theorem d_X11_chalet_75 : decode (cd mX11_chalet) 75 = .ok (.aload_n 0, 1) := by decide +kernel
theorem d_X11_chalet_76 : decode (cd mX11_chalet) 76 = .ok (.iload_n 1, 1) := by decide +kernel
theorem d_X11_chalet_77 : decode (cd mX11_chalet) 77 = .ok (.putfield 69, 3) := by decide +kernel
theorem d_X11_chalet_80 : decode (cd mX11_chalet) 80 = .ok (.aload_n 0, 1) := by decide +kernel
theorem d_X11_chalet_81 : decode (cd mX11_chalet) 81 = .ok (.iconst 0, 1) := by decide +kernel
theorem d_X11_chalet_82 : decode (cd mX11_chalet) 82 = .ok (.putfield 72, 3) := by decide +kernel
theorem d_X11_chalet_85 : decode (cd mX11_chalet) 85 = .ok (.aload_n 0, 1) := by decide +kernel
theorem d_X11_chalet_86 : decode (cd mX11_chalet) 86 = .ok (.invokevirtual 119, 3) := by decide +kernel
theorem d_X11_chalet_89 : decode (cd mX11_chalet) 89 = .ok (.aload_n 0, 1) := by decide +kernel
theorem d_X11_chalet_90 : decode (cd mX11_chalet) 90 = .ok (.invokevirtual 174, 3) := by decide +kernel
theorem d_X11_chalet_93 : decode (cd mX11_chalet) 93 = .ok (.aload_n 0, 1) := by decide +kernel
theorem d_X11_chalet_94 : decode (cd mX11_chalet) 94 = .ok (.getfield 98, 3) := by decide +kernel
theorem d_X11_chalet_97 : decode (cd mX11_chalet) 97 = .ok (.ifCond .ne 23, 3) := by decide +kernel
theorem d_X11_chalet_100 : decode (cd mX11_chalet) 100 = .ok (.aload_n 0, 1) := by decide +kernel
theorem d_X11_chalet_101 : decode (cd mX11_chalet) 101 = .ok (.getfield 88, 3) := by decide +kernel
theorem d_X11_chalet_104 : decode (cd mX11_chalet) 104 = .ok (.bipush 59, 2) := by decide +kernel
theorem d_X11_chalet_106 : decode (cd mX11_chalet) 106 = .ok (.if_icmp .ne 14, 3) := by decide +kernel
theorem d_X11_chalet_109 : decode (cd mX11_chalet) 109 = .ok (.aload_n 0, 1) := by decide +kernel
theorem d_X11_chalet_110 : decode (cd mX11_chalet) 110 = .ok (.invokevirtual 119, 3) := by decide +kernel
theorem d_X11_chalet_113 : decode (cd mX11_chalet) 113 = .ok (.aload_n 0, 1) := by decide +kernel
theorem d_X11_chalet_114 : decode (cd mX11_chalet) 114 = .ok (.invokevirtual 174, 3) := by decide +kernel
theorem d_X11_chalet_117 : decode (cd mX11_chalet) 117 = .ok (.goto (-24), 3) := by decide +kernel
theorem d_X11_chalet_120 : decode (cd mX11_chalet) 120 = .ok (.aload_n 0, 1) := by decide +kernel
theorem d_X11_chalet_121 : decode (cd mX11_chalet) 121 = .ok (.getfield 98, 3) := by decide +kernel
theorem d_X11_chalet_124 : decode (cd mX11_chalet) 124 = .ok (.ifCond .ne 19, 3) := by decide +kernel
theorem d_X11_chalet_127 : decode (cd mX11_chalet) 127 = .ok (.aload_n 0, 1) := by decide +kernel
theorem d_X11_chalet_128 : decode (cd mX11_chalet) 128 = .ok (.getfield 88, 3) := by decide +kernel
theorem d_X11_chalet_131 : decode (cd mX11_chalet) 131 = .ok (.ifCond .eq 12, 3) := by decide +kernel
theorem d_X11_chalet_134 : decode (cd mX11_chalet) 134 = .ok (.aload_n 0, 1) := by decide +kernel
theorem d_X11_chalet_135 : decode (cd mX11_chalet) 135 = .ok (.iconst 1, 1) := by decide +kernel
theorem d_X11_chalet_136 : decode (cd mX11_chalet) 136 = .ok (.aload_n 0, 1) := by decide +kernel
theorem d_X11_chalet_137 : decode (cd mX11_chalet) 137 = .ok (.getfield 79, 3) := by decide +kernel
theorem d_X11_chalet_140 : decode (cd mX11_chalet) 140 = .ok (.invokevirtual 125, 3) := by decide +kernel
theorem d_X11_chalet_143 : decode (cd mX11_chalet) 143 = .ok (.aload_n 0, 1) := by decide +kernel
theorem d_X11_chalet_144 : decode (cd mX11_chalet) 144 = .ok (.getfield 98, 3) := by decide +kernel
theorem d_X11_chalet_147 : decode (cd mX11_chalet) 147 = .ok (.ifCond .ne 23, 3) := by decide +kernel
theorem d_X11_chalet_150 : decode (cd mX11_chalet) 150 = .ok (.aload_n 0, 1) := by decide +kernel
theorem d_X11_chalet_151 : decode (cd mX11_chalet) 151 = .ok (.getfield 23, 3) := by decide +kernel
theorem d_X11_chalet_154 : decode (cd mX11_chalet) 154 = .ok (.bipush 11, 2) := by decide +kernel
theorem d_X11_chalet_156 : decode (cd mX11_chalet) 156 = .ok (.iaload, 1) := by decide +kernel
theorem d_X11_chalet_157 : decode (cd mX11_chalet) 157 = .ok (.ifCond .ne 13, 3) := by decide +kernel
theorem d_X11_chalet_160 : decode (cd mX11_chalet) 160 = .ok (.aload_n 0, 1) := by decide +kernel
theorem d_X11_chalet_161 : decode (cd mX11_chalet) 161 = .ok (.bipush 6, 2) := by decide +kernel
theorem d_X11_chalet_163 : decode (cd mX11_chalet) 163 = .ok (.aload_n 0, 1) := by decide +kernel
theorem d_X11_chalet_164 : decode (cd mX11_chalet) 164 = .ok (.getfield 79, 3) := by decide +kernel
theorem d_X11_chalet_167 : decode (cd mX11_chalet) 167 = .ok (.invokevirtual 125, 3) := by decide +kernel
theorem d_X11_chalet_170 : decode (cd mX11_chalet) 170 = .ok (.aload_n 0, 1) := by decide +kernel
theorem d_X11_chalet_171 : decode (cd mX11_chalet) 171 = .ok (.getfield 98, 3) := by decide +kernel
theorem d_X11_chalet_174 : decode (cd mX11_chalet) 174 = .ok (.ifCond .eq 9, 3) := by decide +kernel
theorem d_X11_chalet_177 : decode (cd mX11_chalet) 177 = .ok (.aload_n 0, 1) := by decide +kernel
theorem d_X11_chalet_178 : decode (cd mX11_chalet) 178 = .ok (.iconst 4, 1) := by decide +kernel
theorem d_X11_chalet_179 : decode (cd mX11_chalet) 179 = .ok (.invokevirtual 171, 3) := by decide +kernel
theorem d_X11_chalet_182 : decode (cd mX11_chalet) 182 = .ok (.ireturn, 1) := by decide +kernel
theorem d_X11_chalet_183 : decode (cd mX11_chalet) 183 = .ok (.aload_n 0, 1) := by decide +kernel
theorem d_X11_chalet_184 : decode (cd mX11_chalet) 184 = .ok (.getfield 23, 3) := by decide +kernel
theorem d_X11_chalet_187 : decode (cd mX11_chalet) 187 = .ok (.iconst 0, 1) := by decide +kernel
theorem d_X11_chalet_188 : decode (cd mX11_chalet) 188 = .ok (.aload_n 0, 1) := by decide +kernel
theorem d_X11_chalet_189 : decode (cd mX11_chalet) 189 = .ok (.getfield 20, 3) := by decide +kernel
theorem d_X11_chalet_192 : decode (cd mX11_chalet) 192 = .ok (.iconst 0, 1) := by decide +kernel
theorem d_X11_chalet_193 : decode (cd mX11_chalet) 193 = .ok (.sipush 224, 3) := by decide +kernel
theorem d_X11_chalet_196 : decode (cd mX11_chalet) 196 = .ok (.invokestatic 177, 3) := by decide +kernel
theorem d_X11_chalet_199 : decode (cd mX11_chalet) 199 = .ok (.aload_n 0, 1) := by decide +kernel
theorem d_X11_chalet_200 : decode (cd mX11_chalet) 200 = .ok (.aload_n 0, 1) := by decide +kernel
theorem d_X11_chalet_201 : decode (cd mX11_chalet) 201 = .ok (.getfield 26, 3) := by decide +kernel
theorem d_X11_chalet_204 : decode (cd mX11_chalet) 204 = .ok (.aload_n 0, 1) := by decide +kernel
theorem d_X11_chalet_205 : decode (cd mX11_chalet) 205 = .ok (.getfield 20, 3) := by decide +kernel
theorem d_X11_chalet_208 : decode (cd mX11_chalet) 208 = .ok (.iconst 1, 1) := by decide +kernel
theorem d_X11_chalet_209 : decode (cd mX11_chalet) 209 = .ok (.iaload, 1) := by decide +kernel
theorem d_X11_chalet_210 : decode (cd mX11_chalet) 210 = .ok (.invokevirtual 181, 3) := by decide +kernel
theorem d_X11_chalet_213 : decode (cd mX11_chalet) 213 = .ok (.aload_n 0, 1) := by decide +kernel
theorem d_X11_chalet_214 : decode (cd mX11_chalet) 214 = .ok (.iconst 1, 1) := by decide +kernel
theorem d_X11_chalet_215 : decode (cd mX11_chalet) 215 = .ok (.putfield 185, 3) := by decide +kernel
theorem d_X11_chalet_218 : decode (cd mX11_chalet) 218 = .ok (.aload_n 0, 1) := by decide +kernel
theorem d_X11_chalet_219 : decode (cd mX11_chalet) 219 = .ok (.iconst 0, 1) := by decide +kernel
theorem d_X11_chalet_220 : decode (cd mX11_chalet) 220 = .ok (.putfield 188, 3) := by decide +kernel
theorem d_X11_chalet_223 : decode (cd mX11_chalet) 223 = .ok (.aload_n 0, 1) := by decide +kernel
theorem d_X11_chalet_224 : decode (cd mX11_chalet) 224 = .ok (.iconst 0, 1) := by decide +kernel
theorem d_X11_chalet_225 : decode (cd mX11_chalet) 225 = .ok (.putfield 191, 3) := by decide +kernel
theorem d_X11_chalet_228 : decode (cd mX11_chalet) 228 = .ok (.aload_n 0, 1) := by decide +kernel
theorem d_X11_chalet_229 : decode (cd mX11_chalet) 229 = .ok (.getfield 20, 3) := by decide +kernel
theorem d_X11_chalet_232 : decode (cd mX11_chalet) 232 = .ok (.iconst 5, 1) := by decide +kernel
theorem d_X11_chalet_233 : decode (cd mX11_chalet) 233 = .ok (.iaload, 1) := by decide +kernel
theorem d_X11_chalet_234 : decode (cd mX11_chalet) 234 = .ok (.ireturn, 1) := by decide +kernel
theorem d_X11_begins_0 : decode (cd mX11_begins) 0 = .ok (.iconst 0, 1) := by decide +kernel
theorem d_X11_begins_1 : decode (cd mX11_begins) 1 = .ok (.istore_n 3, 1) := by decide +kernel
theorem d_X11_begins_2 : decode (cd mX11_begins) 2 = .ok (.iload_n 3, 1) := by decide +kernel
theorem d_X11_begins_3 : decode (cd mX11_begins) 3 = .ok (.bipush 7, 2) := by decide +kernel
theorem d_X11_begins_5 : decode (cd mX11_begins) 5 = .ok (.if_icmp .ge 13, 3) := by decide +kernel
theorem d_X11_begins_8 : decode (cd mX11_begins) 8 = .ok (.aload_n 1, 1) := by decide +kernel
theorem d_X11_begins_9 : decode (cd mX11_begins) 9 = .ok (.iload_n 3, 1) := by decide +kernel
theorem d_X11_begins_10 : decode (cd mX11_begins) 10 = .ok (.iconst 0, 1) := by decide +kernel
theorem d_X11_begins_11 : decode (cd mX11_begins) 11 = .ok (.iastore, 1) := by decide +kernel
theorem d_X11_begins_12 : decode (cd mX11_begins) 12 = .ok (.iinc 3 1, 3) := by decide +kernel
theorem d_X11_begins_15 : decode (cd mX11_begins) 15 = .ok (.goto (-13), 3) := by decide +kernel
theorem d_X11_begins_18 : decode (cd mX11_begins) 18 = .ok (.aload_n 1, 1) := by decide +kernel
theorem d_X11_begins_19 : decode (cd mX11_begins) 19 = .ok (.iconst 1, 1) := by decide +kernel
theorem d_X11_begins_20 : decode (cd mX11_begins) 20 = .ok (.aload_n 0, 1) := by decide +kernel
theorem d_X11_begins_21 : decode (cd mX11_begins) 21 = .ok (.getfield 20, 3) := by decide +kernel
theorem d_X11_begins_24 : decode (cd mX11_begins) 24 = .ok (.bipush 10, 2) := by decide +kernel
theorem d_X11_begins_26 : decode (cd mX11_begins) 26 = .ok (.iaload, 1) := by decide +kernel
theorem d_X11_begins_27 : decode (cd mX11_begins) 27 = .ok (.iastore, 1) := by decide +kernel
theorem d_X11_begins_28 : decode (cd mX11_begins) 28 = .ok (.aload_n 1, 1) := by decide +kernel
theorem d_X11_begins_29 : decode (cd mX11_begins) 29 = .ok (.iconst 2, 1) := by decide +kernel
theorem d_X11_begins_30 : decode (cd mX11_begins) 30 = .ok (.iload_n 2, 1) := by decide +kernel
theorem d_X11_begins_31 : decode (cd mX11_begins) 31 = .ok (.iastore, 1) := by decide +kernel
theorem d_X11_begins_32 : decode (cd mX11_begins) 32 = .ok (.return_, 1) := by decide +kernel
theorem d_X11_isLine_0 : decode (cd mX11_isLine) 0 = .ok (.aload_n 0, 1) := by decide +kernel
theorem d_X11_isLine_1 : decode (cd mX11_isLine) 1 = .ok (.aload_n 1, 1) := by decide +kernel
theorem d_X11_isLine_2 : decode (cd mX11_isLine) 2 = .ok (.invokevirtual 115, 3) := by decide +kernel
theorem d_X11_isLine_5 : decode (cd mX11_isLine) 5 = .ok (.ifCond .ne 5, 3) := by decide +kernel
theorem d_X11_isLine_8 : decode (cd mX11_isLine) 8 = .ok (.iconst 0, 1) := by decide +kernel
theorem d_X11_isLine_9 : decode (cd mX11_isLine) 9 = .ok (.ireturn, 1) := by decide +kernel
theorem d_X11_isLine_10 : decode (cd mX11_isLine) 10 = .ok (.iload_n 2, 1) := by decide +kernel
theorem d_X11_isLine_11 : decode (cd mX11_isLine) 11 = .ok (.ifCond .ne 12, 3) := by decide +kernel
theorem d_X11_isLine_14 : decode (cd mX11_isLine) 14 = .ok (.aload_n 0, 1) := by decide +kernel
theorem d_X11_isLine_15 : decode (cd mX11_isLine) 15 = .ok (.iconst 5, 1) := by decide +kernel
theorem d_X11_isLine_16 : decode (cd mX11_isLine) 16 = .ok (.aload_n 0, 1) := by decide +kernel
theorem d_X11_isLine_17 : decode (cd mX11_isLine) 17 = .ok (.getfield 79, 3) := by decide +kernel
theorem d_X11_isLine_20 : decode (cd mX11_isLine) 20 = .ok (.invokevirtual 125, 3) := by decide +kernel
theorem d_X11_isLine_23 : decode (cd mX11_isLine) 23 = .ok (.aload_n 0, 1) := by decide +kernel
theorem d_X11_isLine_24 : decode (cd mX11_isLine) 24 = .ok (.getfield 23, 3) := by decide +kernel
theorem d_X11_isLine_27 : decode (cd mX11_isLine) 27 = .ok (.bipush 11, 2) := by decide +kernel
theorem d_X11_isLine_29 : decode (cd mX11_isLine) 29 = .ok (.iaload, 1) := by decide +kernel
theorem d_X11_isLine_30 : decode (cd mX11_isLine) 30 = .ok (.ifCond .ne 13, 3) := by decide +kernel
theorem d_X11_isLine_33 : decode (cd mX11_isLine) 33 = .ok (.aload_n 0, 1) := by decide +kernel
theorem d_X11_isLine_34 : decode (cd mX11_isLine) 34 = .ok (.bipush 6, 2) := by decide +kernel
theorem d_X11_isLine_36 : decode (cd mX11_isLine) 36 = .ok (.aload_n 0, 1) := by decide +kernel
theorem d_X11_isLine_37 : decode (cd mX11_isLine) 37 = .ok (.getfield 79, 3) := by decide +kernel
theorem d_X11_isLine_40 : decode (cd mX11_isLine) 40 = .ok (.invokevirtual 125, 3) := by decide +kernel
theorem d_X11_isLine_43 : decode (cd mX11_isLine) 43 = .ok (.iconst 1, 1) := by decide +kernel
theorem d_X11_isLine_44 : decode (cd mX11_isLine) 44 = .ok (.ireturn, 1) := by decide +kernel
theorem d_X11_readLine_0 : decode (cd mX11_readLine) 0 = .ok (.aload_n 0, 1) := by decide +kernel
theorem d_X11_readLine_1 : decode (cd mX11_readLine) 1 = .ok (.ldc 129, 2) := by decide +kernel
theorem d_X11_readLine_3 : decode (cd mX11_readLine) 3 = .ok (.invokevirtual 115, 3) := by decide +kernel
theorem d_X11_readLine_6 : decode (cd mX11_readLine) 6 = .ok (.ifCond .eq 10, 3) := by decide +kernel
theorem d_X11_readLine_9 : decode (cd mX11_readLine) 9 = .ok (.aload_n 0, 1) := by decide +kernel
theorem d_X11_readLine_10 : decode (cd mX11_readLine) 10 = .ok (.invokevirtual 194, 3) := by decide +kernel
theorem d_X11_readLine_13 : decode (cd mX11_readLine) 13 = .ok (.goto 191, 3) := by decide +kernel
theorem d_X11_readLine_16 : decode (cd mX11_readLine) 16 = .ok (.aload_n 0, 1) := by decide +kernel
theorem d_X11_readLine_17 : decode (cd mX11_readLine) 17 = .ok (.ldc 131, 2) := by decide +kernel
theorem d_X11_readLine_19 : decode (cd mX11_readLine) 19 = .ok (.iconst 1, 1) := by decide +kernel
theorem d_X11_readLine_20 : decode (cd mX11_readLine) 20 = .ok (.invokevirtual 197, 3) := by decide +kernel
theorem d_X11_readLine_23 : decode (cd mX11_readLine) 23 = .ok (.ifCond .eq 10, 3) := by decide +kernel
theorem d_X11_readLine_26 : decode (cd mX11_readLine) 26 = .ok (.aload_n 0, 1) := by decide +kernel
theorem d_X11_readLine_27 : decode (cd mX11_readLine) 27 = .ok (.invokevirtual 201, 3) := by decide +kernel
theorem d_X11_readLine_30 : decode (cd mX11_readLine) 30 = .ok (.goto 174, 3) := by decide +kernel
theorem d_X11_readLine_33 : decode (cd mX11_readLine) 33 = .ok (.aload_n 0, 1) := by decide +kernel
theorem d_X11_readLine_34 : decode (cd mX11_readLine) 34 = .ok (.ldc 133, 2) := by decide +kernel
theorem d_X11_readLine_36 : decode (cd mX11_readLine) 36 = .ok (.aload_n 0, 1) := by decide +kernel
theorem d_X11_readLine_37 : decode (cd mX11_readLine) 37 = .ok (.getfield 23, 3) := by decide +kernel
theorem d_X11_readLine_40 : decode (cd mX11_readLine) 40 = .ok (.iconst 5, 1) := by decide +kernel
theorem d_X11_readLine_41 : decode (cd mX11_readLine) 41 = .ok (.iaload, 1) := by decide +kernel
theorem d_X11_readLine_42 : decode (cd mX11_readLine) 42 = .ok (.iconst 4, 1) := by decide +kernel
theorem d_X11_readLine_43 : decode (cd mX11_readLine) 43 = .ok (.if_icmp .ge 7, 3) := by decide +kernel
theorem d_X11_readLine_46 : decode (cd mX11_readLine) 46 = .ok (.iconst 1, 1) := by decide +kernel
theorem d_X11_readLine_47 : decode (cd mX11_readLine) 47 = .ok (.goto 4, 3) := by decide +kernel
theorem d_X11_readLine_50 : decode (cd mX11_readLine) 50 = .ok (.iconst 0, 1) := by decide +kernel
theorem d_X11_readLine_51 : decode (cd mX11_readLine) 51 = .ok (.invokevirtual 197, 3) := by decide +kernel
theorem d_X11_readLine_54 : decode (cd mX11_readLine) 54 = .ok (.ifCond .eq 10, 3) := by decide +kernel
theorem d_X11_readLine_57 : decode (cd mX11_readLine) 57 = .ok (.aload_n 0, 1) := by decide +kernel
theorem d_X11_readLine_58 : decode (cd mX11_readLine) 58 = .ok (.invokevirtual 204, 3) := by decide +kernel
theorem d_X11_readLine_61 : decode (cd mX11_readLine) 61 = .ok (.goto 143, 3) := by decide +kernel
theorem d_X11_readLine_64 : decode (cd mX11_readLine) 64 = .ok (.aload_n 0, 1) := by decide +kernel
theorem d_X11_readLine_65 : decode (cd mX11_readLine) 65 = .ok (.ldc 135, 2) := by decide +kernel
theorem d_X11_readLine_67 : decode (cd mX11_readLine) 67 = .ok (.aload_n 0, 1) := by decide +kernel
theorem d_X11_readLine_68 : decode (cd mX11_readLine) 68 = .ok (.getfield 23, 3) := by decide +kernel
theorem d_X11_readLine_71 : decode (cd mX11_readLine) 71 = .ok (.bipush 6, 2) := by decide +kernel
theorem d_X11_readLine_73 : decode (cd mX11_readLine) 73 = .ok (.iaload, 1) := by decide +kernel
theorem d_X11_readLine_74 : decode (cd mX11_readLine) 74 = .ok (.bipush 6, 2) := by decide +kernel
theorem d_X11_readLine_76 : decode (cd mX11_readLine) 76 = .ok (.if_icmp .ge 7, 3) := by decide +kernel
theorem d_X11_readLine_79 : decode (cd mX11_readLine) 79 = .ok (.iconst 1, 1) := by decide +kernel
theorem d_X11_readLine_80 : decode (cd mX11_readLine) 80 = .ok (.goto 4, 3) := by decide +kernel
theorem d_X11_readLine_83 : decode (cd mX11_readLine) 83 = .ok (.iconst 0, 1) := by decide +kernel
theorem d_X11_readLine_84 : decode (cd mX11_readLine) 84 = .ok (.invokevirtual 197, 3) := by decide +kernel
theorem d_X11_readLine_87 : decode (cd mX11_readLine) 87 = .ok (.ifCond .eq 10, 3) := by decide +kernel
theorem d_X11_readLine_90 : decode (cd mX11_readLine) 90 = .ok (.aload_n 0, 1) := by decide +kernel
theorem d_X11_readLine_91 : decode (cd mX11_readLine) 91 = .ok (.invokevirtual 207, 3) := by decide +kernel
theorem d_X11_readLine_94 : decode (cd mX11_readLine) 94 = .ok (.goto 110, 3) := by decide +kernel
theorem d_X11_readLine_97 : decode (cd mX11_readLine) 97 = .ok (.aload_n 0, 1) := by decide +kernel
theorem d_X11_readLine_98 : decode (cd mX11_readLine) 98 = .ok (.ldc 137, 2) := by decide +kernel
theorem d_X11_readLine_100 : decode (cd mX11_readLine) 100 = .ok (.aload_n 0, 1) := by decide +kernel
theorem d_X11_readLine_101 : decode (cd mX11_readLine) 101 = .ok (.getfield 23, 3) := by decide +kernel
theorem d_X11_readLine_104 : decode (cd mX11_readLine) 104 = .ok (.bipush 7, 2) := by decide +kernel
theorem d_X11_readLine_106 : decode (cd mX11_readLine) 106 = .ok (.iaload, 1) := by decide +kernel
theorem d_X11_readLine_107 : decode (cd mX11_readLine) 107 = .ok (.iconst 5, 1) := by decide +kernel
theorem d_X11_readLine_108 : decode (cd mX11_readLine) 108 = .ok (.if_icmp .ge 7, 3) := by decide +kernel
theorem d_X11_readLine_111 : decode (cd mX11_readLine) 111 = .ok (.iconst 1, 1) := by decide +kernel
theorem d_X11_readLine_112 : decode (cd mX11_readLine) 112 = .ok (.goto 4, 3) := by decide +kernel
theorem d_X11_readLine_115 : decode (cd mX11_readLine) 115 = .ok (.iconst 0, 1) := by decide +kernel
theorem d_X11_readLine_116 : decode (cd mX11_readLine) 116 = .ok (.invokevirtual 197, 3) := by decide +kernel
theorem d_X11_readLine_119 : decode (cd mX11_readLine) 119 = .ok (.ifCond .eq 10, 3) := by decide +kernel
theorem d_X11_readLine_122 : decode (cd mX11_readLine) 122 = .ok (.aload_n 0, 1) := by decide +kernel
theorem d_X11_readLine_123 : decode (cd mX11_readLine) 123 = .ok (.invokevirtual 210, 3) := by decide +kernel
theorem d_X11_readLine_126 : decode (cd mX11_readLine) 126 = .ok (.goto 78, 3) := by decide +kernel
theorem d_X11_readLine_129 : decode (cd mX11_readLine) 129 = .ok (.aload_n 0, 1) := by decide +kernel
theorem d_X11_readLine_130 : decode (cd mX11_readLine) 130 = .ok (.ldc 139, 2) := by decide +kernel
theorem d_X11_readLine_132 : decode (cd mX11_readLine) 132 = .ok (.aload_n 0, 1) := by decide +kernel
theorem d_X11_readLine_133 : decode (cd mX11_readLine) 133 = .ok (.getfield 23, 3) := by decide +kernel
theorem d_X11_readLine_136 : decode (cd mX11_readLine) 136 = .ok (.bipush 8, 2) := by decide +kernel
theorem d_X11_readLine_138 : decode (cd mX11_readLine) 138 = .ok (.iaload, 1) := by decide +kernel
theorem d_X11_readLine_139 : decode (cd mX11_readLine) 139 = .ok (.bipush 6, 2) := by decide +kernel
theorem d_X11_readLine_141 : decode (cd mX11_readLine) 141 = .ok (.if_icmp .ge 7, 3) := by decide +kernel
theorem d_X11_readLine_144 : decode (cd mX11_readLine) 144 = .ok (.iconst 1, 1) := by decide +kernel
theorem d_X11_readLine_145 : decode (cd mX11_readLine) 145 = .ok (.goto 4, 3) := by decide +kernel
theorem d_X11_readLine_148 : decode (cd mX11_readLine) 148 = .ok (.iconst 0, 1) := by decide +kernel
theorem d_X11_readLine_149 : decode (cd mX11_readLine) 149 = .ok (.invokevirtual 197, 3) := by decide +kernel
theorem d_X11_readLine_152 : decode (cd mX11_readLine) 152 = .ok (.ifCond .eq 10, 3) := by decide +kernel
theorem d_X11_readLine_155 : decode (cd mX11_readLine) 155 = .ok (.aload_n 0, 1) := by decide +kernel
theorem d_X11_readLine_156 : decode (cd mX11_readLine) 156 = .ok (.invokevirtual 213, 3) := by decide +kernel
theorem d_X11_readLine_159 : decode (cd mX11_readLine) 159 = .ok (.goto 45, 3) := by decide +kernel
theorem d_X11_readLine_162 : decode (cd mX11_readLine) 162 = .ok (.aload_n 0, 1) := by decide +kernel
theorem d_X11_readLine_163 : decode (cd mX11_readLine) 163 = .ok (.ldc 141, 2) := by decide +kernel
theorem d_X11_readLine_165 : decode (cd mX11_readLine) 165 = .ok (.aload_n 0, 1) := by decide +kernel
theorem d_X11_readLine_166 : decode (cd mX11_readLine) 166 = .ok (.getfield 23, 3) := by decide +kernel
theorem d_X11_readLine_169 : decode (cd mX11_readLine) 169 = .ok (.bipush 9, 2) := by decide +kernel
theorem d_X11_readLine_171 : decode (cd mX11_readLine) 171 = .ok (.iaload, 1) := by decide +kernel
theorem d_X11_readLine_172 : decode (cd mX11_readLine) 172 = .ok (.bipush 9, 2) := by decide +kernel
theorem d_X11_readLine_174 : decode (cd mX11_readLine) 174 = .ok (.if_icmp .ge 7, 3) := by decide +kernel
theorem d_X11_readLine_177 : decode (cd mX11_readLine) 177 = .ok (.iconst 1, 1) := by decide +kernel
theorem d_X11_readLine_178 : decode (cd mX11_readLine) 178 = .ok (.goto 4, 3) := by decide +kernel
theorem d_X11_readLine_181 : decode (cd mX11_readLine) 181 = .ok (.iconst 0, 1) := by decide +kernel
theorem d_X11_readLine_182 : decode (cd mX11_readLine) 182 = .ok (.invokevirtual 197, 3) := by decide +kernel
theorem d_X11_readLine_185 : decode (cd mX11_readLine) 185 = .ok (.ifCond .eq 10, 3) := by decide +kernel
theorem d_X11_readLine_188 : decode (cd mX11_readLine) 188 = .ok (.aload_n 0, 1) := by decide +kernel
theorem d_X11_readLine_189 : decode (cd mX11_readLine) 189 = .ok (.invokevirtual 216, 3) := by decide +kernel
theorem d_X11_readLine_192 : decode (cd mX11_readLine) 192 = .ok (.goto 12, 3) := by decide +kernel
theorem d_X11_readLine_195 : decode (cd mX11_readLine) 195 = .ok (.aload_n 0, 1) := by decide +kernel
theorem d_X11_readLine_196 : decode (cd mX11_readLine) 196 = .ok (.iconst 1, 1) := by decide +kernel
theorem d_X11_readLine_197 : decode (cd mX11_readLine) 197 = .ok (.aload_n 0, 1) := by decide +kernel
theorem d_X11_readLine_198 : decode (cd mX11_readLine) 198 = .ok (.getfield 79, 3) := by decide +kernel
theorem d_X11_readLine_201 : decode (cd mX11_readLine) 201 = .ok (.invokevirtual 125, 3) := by decide +kernel
theorem d_X11_readLine_204 : decode (cd mX11_readLine) 204 = .ok (.return_, 1) := by decide +kernel
theorem d_X11_chaletLine_0 : decode (cd mX11_chaletLine) 0 = .ok (.aload_n 0, 1) := by decide +kernel
theorem d_X11_chaletLine_1 : decode (cd mX11_chaletLine) 1 = .ok (.getfield 23, 3) := by decide +kernel
theorem d_X11_chaletLine_4 : decode (cd mX11_chaletLine) 4 = .ok (.bipush 11, 2) := by decide +kernel
theorem d_X11_chaletLine_6 : decode (cd mX11_chaletLine) 6 = .ok (.iaload, 1) := by decide +kernel
theorem d_X11_chaletLine_7 : decode (cd mX11_chaletLine) 7 = .ok (.ifCond .le 12, 3) := by decide +kernel
theorem d_X11_chaletLine_10 : decode (cd mX11_chaletLine) 10 = .ok (.aload_n 0, 1) := by decide +kernel
theorem d_X11_chaletLine_11 : decode (cd mX11_chaletLine) 11 = .ok (.iconst 3, 1) := by decide +kernel
theorem d_X11_chaletLine_12 : decode (cd mX11_chaletLine) 12 = .ok (.aload_n 0, 1) := by decide +kernel
theorem d_X11_chaletLine_13 : decode (cd mX11_chaletLine) 13 = .ok (.getfield 79, 3) := by decide +kernel
theorem d_X11_chaletLine_16 : decode (cd mX11_chaletLine) 16 = .ok (.invokevirtual 125, 3) := by decide +kernel
theorem d_X11_chaletLine_19 : decode (cd mX11_chaletLine) 19 = .ok (.aload_n 0, 1) := by decide +kernel
theorem d_X11_chaletLine_20 : decode (cd mX11_chaletLine) 20 = .ok (.getfield 98, 3) := by decide +kernel
theorem d_X11_chaletLine_23 : decode (cd mX11_chaletLine) 23 = .ok (.ifCond .eq 4, 3) := by decide +kernel
theorem d_X11_chaletLine_26 : decode (cd mX11_chaletLine) 26 = .ok (.return_, 1) := by decide +kernel
theorem d_X11_chaletLine_27 : decode (cd mX11_chaletLine) 27 = .ok (.aload_n 0, 1) := by decide +kernel
theorem d_X11_chaletLine_28 : decode (cd mX11_chaletLine) 28 = .ok (.invokevirtual 119, 3) := by decide +kernel
theorem d_X11_chaletLine_31 : decode (cd mX11_chaletLine) 31 = .ok (.aload_n 0, 1) := by decide +kernel
theorem d_X11_chaletLine_32 : decode (cd mX11_chaletLine) 32 = .ok (.getfield 23, 3) := by decide +kernel
theorem d_X11_chaletLine_35 : decode (cd mX11_chaletLine) 35 = .ok (.bipush 10, 2) := by decide +kernel
theorem d_X11_chaletLine_37 : decode (cd mX11_chaletLine) 37 = .ok (.aload_n 0, 1) := by decide +kernel
theorem d_X11_chaletLine_38 : decode (cd mX11_chaletLine) 38 = .ok (.ldc 219, 2) := by decide +kernel
theorem d_X11_chaletLine_40 : decode (cd mX11_chaletLine) 40 = .ok (.iconst 0, 1) := by decide +kernel
theorem d_X11_chaletLine_41 : decode (cd mX11_chaletLine) 41 = .ok (.bipush 100, 2) := by decide +kernel
theorem d_X11_chaletLine_43 : decode (cd mX11_chaletLine) 43 = .ok (.invokevirtual 221, 3) := by decide +kernel
theorem d_X11_chaletLine_46 : decode (cd mX11_chaletLine) 46 = .ok (.iastore, 1) := by decide +kernel
theorem d_X11_chaletLine_47 : decode (cd mX11_chaletLine) 47 = .ok (.aload_n 0, 1) := by decide +kernel
theorem d_X11_chaletLine_48 : decode (cd mX11_chaletLine) 48 = .ok (.getfield 23, 3) := by decide +kernel
theorem d_X11_chaletLine_51 : decode (cd mX11_chaletLine) 51 = .ok (.iconst 0, 1) := by decide +kernel
theorem d_X11_chaletLine_52 : decode (cd mX11_chaletLine) 52 = .ok (.aload_n 0, 1) := by decide +kernel
theorem d_X11_chaletLine_53 : decode (cd mX11_chaletLine) 53 = .ok (.ldc 225, 2) := by decide +kernel
theorem d_X11_chaletLine_55 : decode (cd mX11_chaletLine) 55 = .ok (.iconst 0, 1) := by decide +kernel
theorem d_X11_chaletLine_56 : decode (cd mX11_chaletLine) 56 = .ok (.bipush 9, 2) := by decide +kernel
theorem d_X11_chaletLine_58 : decode (cd mX11_chaletLine) 58 = .ok (.invokevirtual 221, 3) := by decide +kernel
theorem d_X11_chaletLine_61 : decode (cd mX11_chaletLine) 61 = .ok (.iastore, 1) := by decide +kernel
theorem d_X11_chaletLine_62 : decode (cd mX11_chaletLine) 62 = .ok (.aload_n 0, 1) := by decide +kernel
theorem d_X11_chaletLine_63 : decode (cd mX11_chaletLine) 63 = .ok (.getfield 23, 3) := by decide +kernel
theorem d_X11_chaletLine_66 : decode (cd mX11_chaletLine) 66 = .ok (.iconst 1, 1) := by decide +kernel
theorem d_X11_chaletLine_67 : decode (cd mX11_chaletLine) 67 = .ok (.aload_n 0, 1) := by decide +kernel
theorem d_X11_chaletLine_68 : decode (cd mX11_chaletLine) 68 = .ok (.ldc 227, 2) := by decide +kernel
theorem d_X11_chaletLine_70 : decode (cd mX11_chaletLine) 70 = .ok (.iconst 0, 1) := by decide +kernel
theorem d_X11_chaletLine_71 : decode (cd mX11_chaletLine) 71 = .ok (.iconst 3, 1) := by decide +kernel
theorem d_X11_chaletLine_72 : decode (cd mX11_chaletLine) 72 = .ok (.invokevirtual 221, 3) := by decide +kernel
theorem d_X11_chaletLine_75 : decode (cd mX11_chaletLine) 75 = .ok (.iastore, 1) := by decide +kernel
theorem d_X11_chaletLine_76 : decode (cd mX11_chaletLine) 76 = .ok (.aload_n 0, 1) := by decide +kernel
theorem d_X11_chaletLine_77 : decode (cd mX11_chaletLine) 77 = .ok (.getfield 23, 3) := by decide +kernel
theorem d_X11_chaletLine_80 : decode (cd mX11_chaletLine) 80 = .ok (.iconst 2, 1) := by decide +kernel
theorem d_X11_chaletLine_81 : decode (cd mX11_chaletLine) 81 = .ok (.aload_n 0, 1) := by decide +kernel
theorem d_X11_chaletLine_82 : decode (cd mX11_chaletLine) 82 = .ok (.ldc 229, 2) := by decide +kernel
theorem d_X11_chaletLine_84 : decode (cd mX11_chaletLine) 84 = .ok (.iconst 0, 1) := by decide +kernel
theorem d_X11_chaletLine_85 : decode (cd mX11_chaletLine) 85 = .ok (.bipush 100, 2) := by decide +kernel
theorem d_X11_chaletLine_87 : decode (cd mX11_chaletLine) 87 = .ok (.invokevirtual 221, 3) := by decide +kernel
theorem d_X11_chaletLine_90 : decode (cd mX11_chaletLine) 90 = .ok (.iastore, 1) := by decide +kernel
theorem d_X11_chaletLine_91 : decode (cd mX11_chaletLine) 91 = .ok (.aload_n 0, 1) := by decide +kernel
theorem d_X11_chaletLine_92 : decode (cd mX11_chaletLine) 92 = .ok (.getfield 98, 3) := by decide +kernel
theorem d_X11_chaletLine_95 : decode (cd mX11_chaletLine) 95 = .ok (.ifCond .ne 11, 3) := by decide +kernel
theorem d_X11_chaletLine_98 : decode (cd mX11_chaletLine) 98 = .ok (.aload_n 0, 1) := by decide +kernel
theorem d_X11_chaletLine_99 : decode (cd mX11_chaletLine) 99 = .ok (.getfield 23, 3) := by decide +kernel
theorem d_X11_chaletLine_102 : decode (cd mX11_chaletLine) 102 = .ok (.bipush 11, 2) := by decide +kernel
theorem d_X11_chaletLine_104 : decode (cd mX11_chaletLine) 104 = .ok (.iconst 1, 1) := by decide +kernel
theorem d_X11_chaletLine_105 : decode (cd mX11_chaletLine) 105 = .ok (.iastore, 1) := by decide +kernel
theorem d_X11_chaletLine_106 : decode (cd mX11_chaletLine) 106 = .ok (.return_, 1) := by decide +kernel
theorem d_X11_weatherLine_0 : decode (cd mX11_weatherLine) 0 = .ok (.aload_n 0, 1) := by decide +kernel
theorem d_X11_weatherLine_1 : decode (cd mX11_weatherLine) 1 = .ok (.getfield 98, 3) := by decide +kernel
theorem d_X11_weatherLine_4 : decode (cd mX11_weatherLine) 4 = .ok (.ifCond .ne 22, 3) := by decide +kernel
theorem d_X11_weatherLine_7 : decode (cd mX11_weatherLine) 7 = .ok (.aload_n 0, 1) := by decide +kernel
theorem d_X11_weatherLine_8 : decode (cd mX11_weatherLine) 8 = .ok (.getfield 23, 3) := by decide +kernel
theorem d_X11_weatherLine_11 : decode (cd mX11_weatherLine) 11 = .ok (.bipush 12, 2) := by decide +kernel
theorem d_X11_weatherLine_13 : decode (cd mX11_weatherLine) 13 = .ok (.iaload, 1) := by decide +kernel
theorem d_X11_weatherLine_14 : decode (cd mX11_weatherLine) 14 = .ok (.ifCond .le 12, 3) := by decide +kernel
theorem d_X11_weatherLine_17 : decode (cd mX11_weatherLine) 17 = .ok (.aload_n 0, 1) := by decide +kernel
theorem d_X11_weatherLine_18 : decode (cd mX11_weatherLine) 18 = .ok (.iconst 3, 1) := by decide +kernel
theorem d_X11_weatherLine_19 : decode (cd mX11_weatherLine) 19 = .ok (.aload_n 0, 1) := by decide +kernel
theorem d_X11_weatherLine_20 : decode (cd mX11_weatherLine) 20 = .ok (.getfield 79, 3) := by decide +kernel
theorem d_X11_weatherLine_23 : decode (cd mX11_weatherLine) 23 = .ok (.invokevirtual 125, 3) := by decide +kernel
theorem d_X11_weatherLine_26 : decode (cd mX11_weatherLine) 26 = .ok (.aload_n 0, 1) := by decide +kernel
theorem d_X11_weatherLine_27 : decode (cd mX11_weatherLine) 27 = .ok (.getfield 98, 3) := by decide +kernel
theorem d_X11_weatherLine_30 : decode (cd mX11_weatherLine) 30 = .ok (.ifCond .eq 4, 3) := by decide +kernel
theorem d_X11_weatherLine_33 : decode (cd mX11_weatherLine) 33 = .ok (.return_, 1) := by decide +kernel
theorem d_X11_weatherLine_34 : decode (cd mX11_weatherLine) 34 = .ok (.aload_n 0, 1) := by decide +kernel
theorem d_X11_weatherLine_35 : decode (cd mX11_weatherLine) 35 = .ok (.invokevirtual 119, 3) := by decide +kernel
theorem d_X11_weatherLine_38 : decode (cd mX11_weatherLine) 38 = .ok (.aload_n 0, 1) := by decide +kernel
theorem d_X11_weatherLine_39 : decode (cd mX11_weatherLine) 39 = .ok (.getfield 23, 3) := by decide +kernel
theorem d_X11_weatherLine_42 : decode (cd mX11_weatherLine) 42 = .ok (.iconst 3, 1) := by decide +kernel
theorem d_X11_weatherLine_43 : decode (cd mX11_weatherLine) 43 = .ok (.aload_n 0, 1) := by decide +kernel
theorem d_X11_weatherLine_44 : decode (cd mX11_weatherLine) 44 = .ok (.ldc 164, 2) := by decide +kernel
theorem d_X11_weatherLine_46 : decode (cd mX11_weatherLine) 46 = .ok (.iconst 0, 1) := by decide +kernel
theorem d_X11_weatherLine_47 : decode (cd mX11_weatherLine) 47 = .ok (.bipush 30, 2) := by decide +kernel
theorem d_X11_weatherLine_49 : decode (cd mX11_weatherLine) 49 = .ok (.invokevirtual 221, 3) := by decide +kernel
theorem d_X11_weatherLine_52 : decode (cd mX11_weatherLine) 52 = .ok (.iastore, 1) := by decide +kernel
theorem d_X11_weatherLine_53 : decode (cd mX11_weatherLine) 53 = .ok (.aload_n 0, 1) := by decide +kernel
theorem d_X11_weatherLine_54 : decode (cd mX11_weatherLine) 54 = .ok (.getfield 23, 3) := by decide +kernel
theorem d_X11_weatherLine_57 : decode (cd mX11_weatherLine) 57 = .ok (.iconst 4, 1) := by decide +kernel
theorem d_X11_weatherLine_58 : decode (cd mX11_weatherLine) 58 = .ok (.aload_n 0, 1) := by decide +kernel
theorem d_X11_weatherLine_59 : decode (cd mX11_weatherLine) 59 = .ok (.ldc 166, 2) := by decide +kernel
theorem d_X11_weatherLine_61 : decode (cd mX11_weatherLine) 61 = .ok (.iconst 0, 1) := by decide +kernel
theorem d_X11_weatherLine_62 : decode (cd mX11_weatherLine) 62 = .ok (.bipush 30, 2) := by decide +kernel
theorem d_X11_weatherLine_64 : decode (cd mX11_weatherLine) 64 = .ok (.invokevirtual 221, 3) := by decide +kernel
theorem d_X11_weatherLine_67 : decode (cd mX11_weatherLine) 67 = .ok (.iastore, 1) := by decide +kernel
theorem d_X11_weatherLine_68 : decode (cd mX11_weatherLine) 68 = .ok (.aload_n 0, 1) := by decide +kernel
theorem d_X11_weatherLine_69 : decode (cd mX11_weatherLine) 69 = .ok (.getfield 23, 3) := by decide +kernel
theorem d_X11_weatherLine_72 : decode (cd mX11_weatherLine) 72 = .ok (.bipush 12, 2) := by decide +kernel
theorem d_X11_weatherLine_74 : decode (cd mX11_weatherLine) 74 = .ok (.iconst 1, 1) := by decide +kernel
theorem d_X11_weatherLine_75 : decode (cd mX11_weatherLine) 75 = .ok (.iastore, 1) := by decide +kernel
theorem d_X11_weatherLine_76 : decode (cd mX11_weatherLine) 76 = .ok (.return_, 1) := by decide +kernel
theorem d_X11_ventLine_0 : decode (cd mX11_ventLine) 0 = .ok (.aload_n 0, 1) := by decide +kernel
theorem d_X11_ventLine_1 : decode (cd mX11_ventLine) 1 = .ok (.getfield 98, 3) := by decide +kernel
theorem d_X11_ventLine_4 : decode (cd mX11_ventLine) 4 = .ok (.ifCond .eq 4, 3) := by decide +kernel
theorem d_X11_ventLine_7 : decode (cd mX11_ventLine) 7 = .ok (.return_, 1) := by decide +kernel
theorem d_X11_ventLine_8 : decode (cd mX11_ventLine) 8 = .ok (.aload_n 0, 1) := by decide +kernel
theorem d_X11_ventLine_9 : decode (cd mX11_ventLine) 9 = .ok (.invokevirtual 119, 3) := by decide +kernel
theorem d_X11_ventLine_12 : decode (cd mX11_ventLine) 12 = .ok (.bipush 13, 2) := by decide +kernel
theorem d_X11_ventLine_14 : decode (cd mX11_ventLine) 14 = .ok (.iconst 3, 1) := by decide +kernel
theorem d_X11_ventLine_15 : decode (cd mX11_ventLine) 15 = .ok (.aload_n 0, 1) := by decide +kernel
theorem d_X11_ventLine_16 : decode (cd mX11_ventLine) 16 = .ok (.getfield 23, 3) := by decide +kernel
theorem d_X11_ventLine_19 : decode (cd mX11_ventLine) 19 = .ok (.iconst 5, 1) := by decide +kernel
theorem d_X11_ventLine_20 : decode (cd mX11_ventLine) 20 = .ok (.iaload, 1) := by decide +kernel
theorem d_X11_ventLine_21 : decode (cd mX11_ventLine) 21 = .ok (.imul, 1) := by decide +kernel
theorem d_X11_ventLine_22 : decode (cd mX11_ventLine) 22 = .ok (.iadd, 1) := by decide +kernel
theorem d_X11_ventLine_23 : decode (cd mX11_ventLine) 23 = .ok (.istore_n 1, 1) := by decide +kernel
theorem d_X11_ventLine_24 : decode (cd mX11_ventLine) 24 = .ok (.aload_n 0, 1) := by decide +kernel
theorem d_X11_ventLine_25 : decode (cd mX11_ventLine) 25 = .ok (.bipush 6, 2) := by decide +kernel
theorem d_X11_ventLine_27 : decode (cd mX11_ventLine) 27 = .ok (.aload_n 0, 1) := by decide +kernel
theorem d_X11_ventLine_28 : decode (cd mX11_ventLine) 28 = .ok (.getfield 23, 3) := by decide +kernel
theorem d_X11_ventLine_31 : decode (cd mX11_ventLine) 31 = .ok (.iconst 5, 1) := by decide +kernel
theorem d_X11_ventLine_32 : decode (cd mX11_ventLine) 32 = .ok (.iaload, 1) := by decide +kernel
theorem d_X11_ventLine_33 : decode (cd mX11_ventLine) 33 = .ok (.iadd, 1) := by decide +kernel
theorem d_X11_ventLine_34 : decode (cd mX11_ventLine) 34 = .ok (.invokevirtual 231, 3) := by decide +kernel
theorem d_X11_ventLine_37 : decode (cd mX11_ventLine) 37 = .ok (.aload_n 0, 1) := by decide +kernel
theorem d_X11_ventLine_38 : decode (cd mX11_ventLine) 38 = .ok (.getfield 23, 3) := by decide +kernel
theorem d_X11_ventLine_41 : decode (cd mX11_ventLine) 41 = .ok (.iload_n 1, 1) := by decide +kernel
theorem d_X11_ventLine_42 : decode (cd mX11_ventLine) 42 = .ok (.aload_n 0, 1) := by decide +kernel
theorem d_X11_ventLine_43 : decode (cd mX11_ventLine) 43 = .ok (.invokevirtual 235, 3) := by decide +kernel
theorem d_X11_ventLine_46 : decode (cd mX11_ventLine) 46 = .ok (.iastore, 1) := by decide +kernel
theorem d_X11_ventLine_47 : decode (cd mX11_ventLine) 47 = .ok (.aload_n 0, 1) := by decide +kernel
theorem d_X11_ventLine_48 : decode (cd mX11_ventLine) 48 = .ok (.getfield 23, 3) := by decide +kernel
theorem d_X11_ventLine_51 : decode (cd mX11_ventLine) 51 = .ok (.iload_n 1, 1) := by decide +kernel
theorem d_X11_ventLine_52 : decode (cd mX11_ventLine) 52 = .ok (.iconst 1, 1) := by decide +kernel
theorem d_X11_ventLine_53 : decode (cd mX11_ventLine) 53 = .ok (.iadd, 1) := by decide +kernel
theorem d_X11_ventLine_54 : decode (cd mX11_ventLine) 54 = .ok (.aload_n 0, 1) := by decide +kernel
theorem d_X11_ventLine_55 : decode (cd mX11_ventLine) 55 = .ok (.iconst 1, 1) := by decide +kernel
theorem d_X11_ventLine_56 : decode (cd mX11_ventLine) 56 = .ok (.bipush 9, 2) := by decide +kernel
theorem d_X11_ventLine_58 : decode (cd mX11_ventLine) 58 = .ok (.invokevirtual 161, 3) := by decide +kernel
theorem d_X11_ventLine_61 : decode (cd mX11_ventLine) 61 = .ok (.iastore, 1) := by decide +kernel
theorem d_X11_ventLine_62 : decode (cd mX11_ventLine) 62 = .ok (.aload_n 0, 1) := by decide +kernel
theorem d_X11_ventLine_63 : decode (cd mX11_ventLine) 63 = .ok (.getfield 23, 3) := by decide +kernel
theorem d_X11_ventLine_66 : decode (cd mX11_ventLine) 66 = .ok (.iload_n 1, 1) := by decide +kernel
theorem d_X11_ventLine_67 : decode (cd mX11_ventLine) 67 = .ok (.iconst 2, 1) := by decide +kernel
theorem d_X11_ventLine_68 : decode (cd mX11_ventLine) 68 = .ok (.iadd, 1) := by decide +kernel
theorem d_X11_ventLine_69 : decode (cd mX11_ventLine) 69 = .ok (.aload_n 0, 1) := by decide +kernel
theorem d_X11_ventLine_70 : decode (cd mX11_ventLine) 70 = .ok (.ldc 237, 2) := by decide +kernel
theorem d_X11_ventLine_72 : decode (cd mX11_ventLine) 72 = .ok (.iconst 0, 1) := by decide +kernel
theorem d_X11_ventLine_73 : decode (cd mX11_ventLine) 73 = .ok (.bipush 99, 2) := by decide +kernel
theorem d_X11_ventLine_75 : decode (cd mX11_ventLine) 75 = .ok (.invokevirtual 221, 3) := by decide +kernel
theorem d_X11_ventLine_78 : decode (cd mX11_ventLine) 78 = .ok (.iastore, 1) := by decide +kernel
theorem d_X11_ventLine_79 : decode (cd mX11_ventLine) 79 = .ok (.aload_n 0, 1) := by decide +kernel
theorem d_X11_ventLine_80 : decode (cd mX11_ventLine) 80 = .ok (.getfield 98, 3) := by decide +kernel
theorem d_X11_ventLine_83 : decode (cd mX11_ventLine) 83 = .ok (.ifCond .ne 13, 3) := by decide +kernel
theorem d_X11_ventLine_86 : decode (cd mX11_ventLine) 86 = .ok (.aload_n 0, 1) := by decide +kernel
theorem d_X11_ventLine_87 : decode (cd mX11_ventLine) 87 = .ok (.getfield 23, 3) := by decide +kernel
theorem d_X11_ventLine_90 : decode (cd mX11_ventLine) 90 = .ok (.iconst 5, 1) := by decide +kernel
theorem d_X11_ventLine_91 : decode (cd mX11_ventLine) 91 = .ok (.dup2, 1) := by decide +kernel
theorem d_X11_ventLine_92 : decode (cd mX11_ventLine) 92 = .ok (.iaload, 1) := by decide +kernel
theorem d_X11_ventLine_93 : decode (cd mX11_ventLine) 93 = .ok (.iconst 1, 1) := by decide +kernel
theorem d_X11_ventLine_94 : decode (cd mX11_ventLine) 94 = .ok (.iadd, 1) := by decide +kernel
theorem d_X11_ventLine_95 : decode (cd mX11_ventLine) 95 = .ok (.iastore, 1) := by decide +kernel
theorem d_X11_ventLine_96 : decode (cd mX11_ventLine) 96 = .ok (.return_, 1) := by decide +kernel
theorem d_X11_planLine_0 : decode (cd mX11_planLine) 0 = .ok (.aload_n 0, 1) := by decide +kernel
theorem d_X11_planLine_1 : decode (cd mX11_planLine) 1 = .ok (.getfield 98, 3) := by decide +kernel
theorem d_X11_planLine_4 : decode (cd mX11_planLine) 4 = .ok (.ifCond .eq 4, 3) := by decide +kernel
theorem d_X11_planLine_7 : decode (cd mX11_planLine) 7 = .ok (.return_, 1) := by decide +kernel
theorem d_X11_planLine_8 : decode (cd mX11_planLine) 8 = .ok (.aload_n 0, 1) := by decide +kernel
theorem d_X11_planLine_9 : decode (cd mX11_planLine) 9 = .ok (.invokevirtual 119, 3) := by decide +kernel
theorem d_X11_planLine_12 : decode (cd mX11_planLine) 12 = .ok (.bipush 25, 2) := by decide +kernel
theorem d_X11_planLine_14 : decode (cd mX11_planLine) 14 = .ok (.iconst 3, 1) := by decide +kernel
theorem d_X11_planLine_15 : decode (cd mX11_planLine) 15 = .ok (.aload_n 0, 1) := by decide +kernel
theorem d_X11_planLine_16 : decode (cd mX11_planLine) 16 = .ok (.getfield 23, 3) := by decide +kernel
theorem d_X11_planLine_19 : decode (cd mX11_planLine) 19 = .ok (.bipush 6, 2) := by decide +kernel
theorem d_X11_planLine_21 : decode (cd mX11_planLine) 21 = .ok (.iaload, 1) := by decide +kernel
theorem d_X11_planLine_22 : decode (cd mX11_planLine) 22 = .ok (.imul, 1) := by decide +kernel
theorem d_X11_planLine_23 : decode (cd mX11_planLine) 23 = .ok (.iadd, 1) := by decide +kernel
theorem d_X11_planLine_24 : decode (cd mX11_planLine) 24 = .ok (.istore_n 1, 1) := by decide +kernel
theorem d_X11_planLine_25 : decode (cd mX11_planLine) 25 = .ok (.aload_n 0, 1) := by decide +kernel
theorem d_X11_planLine_26 : decode (cd mX11_planLine) 26 = .ok (.bipush 10, 2) := by decide +kernel
theorem d_X11_planLine_28 : decode (cd mX11_planLine) 28 = .ok (.aload_n 0, 1) := by decide +kernel
theorem d_X11_planLine_29 : decode (cd mX11_planLine) 29 = .ok (.getfield 23, 3) := by decide +kernel
theorem d_X11_planLine_32 : decode (cd mX11_planLine) 32 = .ok (.bipush 6, 2) := by decide +kernel
theorem d_X11_planLine_34 : decode (cd mX11_planLine) 34 = .ok (.iaload, 1) := by decide +kernel
theorem d_X11_planLine_35 : decode (cd mX11_planLine) 35 = .ok (.iadd, 1) := by decide +kernel
theorem d_X11_planLine_36 : decode (cd mX11_planLine) 36 = .ok (.invokevirtual 231, 3) := by decide +kernel
theorem d_X11_planLine_39 : decode (cd mX11_planLine) 39 = .ok (.aload_n 0, 1) := by decide +kernel
theorem d_X11_planLine_40 : decode (cd mX11_planLine) 40 = .ok (.getfield 23, 3) := by decide +kernel
theorem d_X11_planLine_43 : decode (cd mX11_planLine) 43 = .ok (.iload_n 1, 1) := by decide +kernel
theorem d_X11_planLine_44 : decode (cd mX11_planLine) 44 = .ok (.aload_n 0, 1) := by decide +kernel
theorem d_X11_planLine_45 : decode (cd mX11_planLine) 45 = .ok (.ldc 239, 2) := by decide +kernel
theorem d_X11_planLine_47 : decode (cd mX11_planLine) 47 = .ok (.iconst 0, 1) := by decide +kernel
theorem d_X11_planLine_48 : decode (cd mX11_planLine) 48 = .ok (.bipush 20, 2) := by decide +kernel
theorem d_X11_planLine_50 : decode (cd mX11_planLine) 50 = .ok (.invokevirtual 221, 3) := by decide +kernel
theorem d_X11_planLine_53 : decode (cd mX11_planLine) 53 = .ok (.iastore, 1) := by decide +kernel
theorem d_X11_planLine_54 : decode (cd mX11_planLine) 54 = .ok (.aload_n 0, 1) := by decide +kernel
theorem d_X11_planLine_55 : decode (cd mX11_planLine) 55 = .ok (.getfield 23, 3) := by decide +kernel
theorem d_X11_planLine_58 : decode (cd mX11_planLine) 58 = .ok (.iload_n 1, 1) := by decide +kernel
theorem d_X11_planLine_59 : decode (cd mX11_planLine) 59 = .ok (.iconst 1, 1) := by decide +kernel
theorem d_X11_planLine_60 : decode (cd mX11_planLine) 60 = .ok (.iadd, 1) := by decide +kernel
theorem d_X11_planLine_61 : decode (cd mX11_planLine) 61 = .ok (.aload_n 0, 1) := by decide +kernel
theorem d_X11_planLine_62 : decode (cd mX11_planLine) 62 = .ok (.invokevirtual 235, 3) := by decide +kernel
theorem d_X11_planLine_65 : decode (cd mX11_planLine) 65 = .ok (.iastore, 1) := by decide +kernel
theorem d_X11_planLine_66 : decode (cd mX11_planLine) 66 = .ok (.aload_n 0, 1) := by decide +kernel
theorem d_X11_planLine_67 : decode (cd mX11_planLine) 67 = .ok (.getfield 23, 3) := by decide +kernel
theorem d_X11_planLine_70 : decode (cd mX11_planLine) 70 = .ok (.iload_n 1, 1) := by decide +kernel
theorem d_X11_planLine_71 : decode (cd mX11_planLine) 71 = .ok (.iconst 2, 1) := by decide +kernel
theorem d_X11_planLine_72 : decode (cd mX11_planLine) 72 = .ok (.iadd, 1) := by decide +kernel
theorem d_X11_planLine_73 : decode (cd mX11_planLine) 73 = .ok (.aload_n 0, 1) := by decide +kernel
theorem d_X11_planLine_74 : decode (cd mX11_planLine) 74 = .ok (.ldc 241, 2) := by decide +kernel
theorem d_X11_planLine_76 : decode (cd mX11_planLine) 76 = .ok (.iconst 0, 1) := by decide +kernel
theorem d_X11_planLine_77 : decode (cd mX11_planLine) 77 = .ok (.bipush 99, 2) := by decide +kernel
theorem d_X11_planLine_79 : decode (cd mX11_planLine) 79 = .ok (.invokevirtual 221, 3) := by decide +kernel
theorem d_X11_planLine_82 : decode (cd mX11_planLine) 82 = .ok (.iastore, 1) := by decide +kernel
theorem d_X11_planLine_83 : decode (cd mX11_planLine) 83 = .ok (.aload_n 0, 1) := by decide +kernel
theorem d_X11_planLine_84 : decode (cd mX11_planLine) 84 = .ok (.getfield 98, 3) := by decide +kernel
theorem d_X11_planLine_87 : decode (cd mX11_planLine) 87 = .ok (.ifCond .ne 14, 3) := by decide +kernel
theorem d_X11_planLine_90 : decode (cd mX11_planLine) 90 = .ok (.aload_n 0, 1) := by decide +kernel
theorem d_X11_planLine_91 : decode (cd mX11_planLine) 91 = .ok (.getfield 23, 3) := by decide +kernel
theorem d_X11_planLine_94 : decode (cd mX11_planLine) 94 = .ok (.bipush 6, 2) := by decide +kernel
theorem d_X11_planLine_96 : decode (cd mX11_planLine) 96 = .ok (.dup2, 1) := by decide +kernel
theorem d_X11_planLine_97 : decode (cd mX11_planLine) 97 = .ok (.iaload, 1) := by decide +kernel
theorem d_X11_planLine_98 : decode (cd mX11_planLine) 98 = .ok (.iconst 1, 1) := by decide +kernel
theorem d_X11_planLine_99 : decode (cd mX11_planLine) 99 = .ok (.iadd, 1) := by decide +kernel
theorem d_X11_planLine_100 : decode (cd mX11_planLine) 100 = .ok (.iastore, 1) := by decide +kernel
theorem d_X11_planLine_101 : decode (cd mX11_planLine) 101 = .ok (.return_, 1) := by decide +kernel
theorem d_X11_sawLine_0 : decode (cd mX11_sawLine) 0 = .ok (.aload_n 0, 1) := by decide +kernel
theorem d_X11_sawLine_1 : decode (cd mX11_sawLine) 1 = .ok (.getfield 98, 3) := by decide +kernel
theorem d_X11_sawLine_4 : decode (cd mX11_sawLine) 4 = .ok (.ifCond .eq 4, 3) := by decide +kernel
theorem d_X11_sawLine_7 : decode (cd mX11_sawLine) 7 = .ok (.return_, 1) := by decide +kernel
theorem d_X11_sawLine_8 : decode (cd mX11_sawLine) 8 = .ok (.aload_n 0, 1) := by decide +kernel
theorem d_X11_sawLine_9 : decode (cd mX11_sawLine) 9 = .ok (.invokevirtual 119, 3) := by decide +kernel
theorem d_X11_sawLine_12 : decode (cd mX11_sawLine) 12 = .ok (.bipush 43, 2) := by decide +kernel
theorem d_X11_sawLine_14 : decode (cd mX11_sawLine) 14 = .ok (.iconst 2, 1) := by decide +kernel
theorem d_X11_sawLine_15 : decode (cd mX11_sawLine) 15 = .ok (.aload_n 0, 1) := by decide +kernel
theorem d_X11_sawLine_16 : decode (cd mX11_sawLine) 16 = .ok (.getfield 23, 3) := by decide +kernel
theorem d_X11_sawLine_19 : decode (cd mX11_sawLine) 19 = .ok (.bipush 7, 2) := by decide +kernel
theorem d_X11_sawLine_21 : decode (cd mX11_sawLine) 21 = .ok (.iaload, 1) := by decide +kernel
theorem d_X11_sawLine_22 : decode (cd mX11_sawLine) 22 = .ok (.imul, 1) := by decide +kernel
theorem d_X11_sawLine_23 : decode (cd mX11_sawLine) 23 = .ok (.iadd, 1) := by decide +kernel
theorem d_X11_sawLine_24 : decode (cd mX11_sawLine) 24 = .ok (.istore_n 1, 1) := by decide +kernel
theorem d_X11_sawLine_25 : decode (cd mX11_sawLine) 25 = .ok (.aload_n 0, 1) := by decide +kernel
theorem d_X11_sawLine_26 : decode (cd mX11_sawLine) 26 = .ok (.ldc 243, 2) := by decide +kernel
theorem d_X11_sawLine_28 : decode (cd mX11_sawLine) 28 = .ok (.invokevirtual 157, 3) := by decide +kernel
theorem d_X11_sawLine_31 : decode (cd mX11_sawLine) 31 = .ok (.aload_n 0, 1) := by decide +kernel
theorem d_X11_sawLine_32 : decode (cd mX11_sawLine) 32 = .ok (.iconst 0, 1) := by decide +kernel
theorem d_X11_sawLine_33 : decode (cd mX11_sawLine) 33 = .ok (.bipush 20, 2) := by decide +kernel
theorem d_X11_sawLine_35 : decode (cd mX11_sawLine) 35 = .ok (.invokevirtual 153, 3) := by decide +kernel
theorem d_X11_sawLine_38 : decode (cd mX11_sawLine) 38 = .ok (.istore_n 2, 1) := by decide +kernel
theorem d_X11_sawLine_39 : decode (cd mX11_sawLine) 39 = .ok (.iconst 0, 1) := by decide +kernel
theorem d_X11_sawLine_40 : decode (cd mX11_sawLine) 40 = .ok (.istore_n 3, 1) := by decide +kernel
theorem d_X11_sawLine_41 : decode (cd mX11_sawLine) 41 = .ok (.iload_n 3, 1) := by decide +kernel
theorem d_X11_sawLine_42 : decode (cd mX11_sawLine) 42 = .ok (.aload_n 0, 1) := by decide +kernel
theorem d_X11_sawLine_43 : decode (cd mX11_sawLine) 43 = .ok (.getfield 23, 3) := by decide +kernel
theorem d_X11_sawLine_46 : decode (cd mX11_sawLine) 46 = .ok (.bipush 7, 2) := by decide +kernel
theorem d_X11_sawLine_48 : decode (cd mX11_sawLine) 48 = .ok (.iaload, 1) := by decide +kernel
theorem d_X11_sawLine_49 : decode (cd mX11_sawLine) 49 = .ok (.if_icmp .ge 40, 3) := by decide +kernel
theorem d_X11_sawLine_52 : decode (cd mX11_sawLine) 52 = .ok (.aload_n 0, 1) := by decide +kernel
theorem d_X11_sawLine_53 : decode (cd mX11_sawLine) 53 = .ok (.getfield 98, 3) := by decide +kernel
theorem d_X11_sawLine_56 : decode (cd mX11_sawLine) 56 = .ok (.ifCond .ne 27, 3) := by decide +kernel
theorem d_X11_sawLine_59 : decode (cd mX11_sawLine) 59 = .ok (.aload_n 0, 1) := by decide +kernel
theorem d_X11_sawLine_60 : decode (cd mX11_sawLine) 60 = .ok (.getfield 23, 3) := by decide +kernel
theorem d_X11_sawLine_63 : decode (cd mX11_sawLine) 63 = .ok (.bipush 43, 2) := by decide +kernel
theorem d_X11_sawLine_65 : decode (cd mX11_sawLine) 65 = .ok (.iconst 2, 1) := by decide +kernel
theorem d_X11_sawLine_66 : decode (cd mX11_sawLine) 66 = .ok (.iload_n 3, 1) := by decide +kernel
theorem d_X11_sawLine_67 : decode (cd mX11_sawLine) 67 = .ok (.imul, 1) := by decide +kernel
theorem d_X11_sawLine_68 : decode (cd mX11_sawLine) 68 = .ok (.iadd, 1) := by decide +kernel
theorem d_X11_sawLine_69 : decode (cd mX11_sawLine) 69 = .ok (.iaload, 1) := by decide +kernel
theorem d_X11_sawLine_70 : decode (cd mX11_sawLine) 70 = .ok (.iload_n 2, 1) := by decide +kernel
theorem d_X11_sawLine_71 : decode (cd mX11_sawLine) 71 = .ok (.if_icmp .ne 12, 3) := by decide +kernel
theorem d_X11_sawLine_74 : decode (cd mX11_sawLine) 74 = .ok (.aload_n 0, 1) := by decide +kernel
theorem d_X11_sawLine_75 : decode (cd mX11_sawLine) 75 = .ok (.iconst 3, 1) := by decide +kernel
theorem d_X11_sawLine_76 : decode (cd mX11_sawLine) 76 = .ok (.aload_n 0, 1) := by decide +kernel
theorem d_X11_sawLine_77 : decode (cd mX11_sawLine) 77 = .ok (.getfield 79, 3) := by decide +kernel
theorem d_X11_sawLine_80 : decode (cd mX11_sawLine) 80 = .ok (.invokevirtual 125, 3) := by decide +kernel
theorem d_X11_sawLine_83 : decode (cd mX11_sawLine) 83 = .ok (.iinc 3 1, 3) := by decide +kernel
theorem d_X11_sawLine_86 : decode (cd mX11_sawLine) 86 = .ok (.goto (-45), 3) := by decide +kernel
theorem d_X11_sawLine_89 : decode (cd mX11_sawLine) 89 = .ok (.aload_n 0, 1) := by decide +kernel
theorem d_X11_sawLine_90 : decode (cd mX11_sawLine) 90 = .ok (.getfield 98, 3) := by decide +kernel
theorem d_X11_sawLine_93 : decode (cd mX11_sawLine) 93 = .ok (.ifCond .eq 4, 3) := by decide +kernel
theorem d_X11_sawLine_96 : decode (cd mX11_sawLine) 96 = .ok (.return_, 1) := by decide +kernel
theorem d_X11_sawLine_97 : decode (cd mX11_sawLine) 97 = .ok (.aload_n 0, 1) := by decide +kernel
theorem d_X11_sawLine_98 : decode (cd mX11_sawLine) 98 = .ok (.invokevirtual 119, 3) := by decide +kernel
theorem d_X11_sawLine_101 : decode (cd mX11_sawLine) 101 = .ok (.aload_n 0, 1) := by decide +kernel
theorem d_X11_sawLine_102 : decode (cd mX11_sawLine) 102 = .ok (.ldc 245, 2) := by decide +kernel
theorem d_X11_sawLine_104 : decode (cd mX11_sawLine) 104 = .ok (.invokevirtual 115, 3) := by decide +kernel
theorem d_X11_sawLine_107 : decode (cd mX11_sawLine) 107 = .ok (.ifCond .eq 7, 3) := by decide +kernel
theorem d_X11_sawLine_110 : decode (cd mX11_sawLine) 110 = .ok (.iconst 0, 1) := by decide +kernel
theorem d_X11_sawLine_111 : decode (cd mX11_sawLine) 111 = .ok (.goto 43, 3) := by decide +kernel
theorem d_X11_sawLine_114 : decode (cd mX11_sawLine) 114 = .ok (.aload_n 0, 1) := by decide +kernel
theorem d_X11_sawLine_115 : decode (cd mX11_sawLine) 115 = .ok (.ldc 247, 2) := by decide +kernel
theorem d_X11_sawLine_117 : decode (cd mX11_sawLine) 117 = .ok (.invokevirtual 115, 3) := by decide +kernel
theorem d_X11_sawLine_120 : decode (cd mX11_sawLine) 120 = .ok (.ifCond .eq 7, 3) := by decide +kernel
theorem d_X11_sawLine_123 : decode (cd mX11_sawLine) 123 = .ok (.iconst 1, 1) := by decide +kernel
theorem d_X11_sawLine_124 : decode (cd mX11_sawLine) 124 = .ok (.goto 30, 3) := by decide +kernel
theorem d_X11_sawLine_127 : decode (cd mX11_sawLine) 127 = .ok (.aload_n 0, 1) := by decide +kernel
theorem d_X11_sawLine_128 : decode (cd mX11_sawLine) 128 = .ok (.ldc 249, 2) := by decide +kernel
theorem d_X11_sawLine_130 : decode (cd mX11_sawLine) 130 = .ok (.invokevirtual 115, 3) := by decide +kernel
theorem d_X11_sawLine_133 : decode (cd mX11_sawLine) 133 = .ok (.ifCond .eq 7, 3) := by decide +kernel
theorem d_X11_sawLine_136 : decode (cd mX11_sawLine) 136 = .ok (.iconst 2, 1) := by decide +kernel
theorem d_X11_sawLine_137 : decode (cd mX11_sawLine) 137 = .ok (.goto 17, 3) := by decide +kernel
theorem d_X11_sawLine_140 : decode (cd mX11_sawLine) 140 = .ok (.aload_n 0, 1) := by decide +kernel
theorem d_X11_sawLine_141 : decode (cd mX11_sawLine) 141 = .ok (.ldc 251, 2) := by decide +kernel
theorem d_X11_sawLine_143 : decode (cd mX11_sawLine) 143 = .ok (.invokevirtual 115, 3) := by decide +kernel
theorem d_X11_sawLine_146 : decode (cd mX11_sawLine) 146 = .ok (.ifCond .eq 7, 3) := by decide +kernel
theorem d_X11_sawLine_149 : decode (cd mX11_sawLine) 149 = .ok (.iconst 3, 1) := by decide +kernel
theorem d_X11_sawLine_150 : decode (cd mX11_sawLine) 150 = .ok (.goto 4, 3) := by decide +kernel
theorem d_X11_sawLine_153 : decode (cd mX11_sawLine) 153 = .ok (.iconst (-1), 1) := by decide +kernel
theorem d_X11_sawLine_154 : decode (cd mX11_sawLine) 154 = .ok (.istore_n 3, 1) := by decide +kernel
theorem d_X11_sawLine_155 : decode (cd mX11_sawLine) 155 = .ok (.iload_n 3, 1) := by decide +kernel
theorem d_X11_sawLine_156 : decode (cd mX11_sawLine) 156 = .ok (.ifCond .ge 12, 3) := by decide +kernel
theorem d_X11_sawLine_159 : decode (cd mX11_sawLine) 159 = .ok (.aload_n 0, 1) := by decide +kernel
theorem d_X11_sawLine_160 : decode (cd mX11_sawLine) 160 = .ok (.iconst 1, 1) := by decide +kernel
theorem d_X11_sawLine_161 : decode (cd mX11_sawLine) 161 = .ok (.aload_n 0, 1) := by decide +kernel
theorem d_X11_sawLine_162 : decode (cd mX11_sawLine) 162 = .ok (.getfield 79, 3) := by decide +kernel
theorem d_X11_sawLine_165 : decode (cd mX11_sawLine) 165 = .ok (.invokevirtual 125, 3) := by decide +kernel
theorem d_X11_sawLine_168 : decode (cd mX11_sawLine) 168 = .ok (.aload_n 0, 1) := by decide +kernel
theorem d_X11_sawLine_169 : decode (cd mX11_sawLine) 169 = .ok (.getfield 98, 3) := by decide +kernel
theorem d_X11_sawLine_172 : decode (cd mX11_sawLine) 172 = .ok (.ifCond .eq 4, 3) := by decide +kernel
theorem d_X11_sawLine_175 : decode (cd mX11_sawLine) 175 = .ok (.return_, 1) := by decide +kernel
theorem d_X11_sawLine_176 : decode (cd mX11_sawLine) 176 = .ok (.aload_n 0, 1) := by decide +kernel
theorem d_X11_sawLine_177 : decode (cd mX11_sawLine) 177 = .ok (.invokevirtual 119, 3) := by decide +kernel
theorem d_X11_sawLine_180 : decode (cd mX11_sawLine) 180 = .ok (.aload_n 0, 1) := by decide +kernel
theorem d_X11_sawLine_181 : decode (cd mX11_sawLine) 181 = .ok (.getfield 23, 3) := by decide +kernel
theorem d_X11_sawLine_184 : decode (cd mX11_sawLine) 184 = .ok (.iload_n 1, 1) := by decide +kernel
theorem d_X11_sawLine_185 : decode (cd mX11_sawLine) 185 = .ok (.iload_n 2, 1) := by decide +kernel
theorem d_X11_sawLine_186 : decode (cd mX11_sawLine) 186 = .ok (.iastore, 1) := by decide +kernel
theorem d_X11_sawLine_187 : decode (cd mX11_sawLine) 187 = .ok (.aload_n 0, 1) := by decide +kernel
theorem d_X11_sawLine_188 : decode (cd mX11_sawLine) 188 = .ok (.getfield 23, 3) := by decide +kernel
theorem d_X11_sawLine_191 : decode (cd mX11_sawLine) 191 = .ok (.iload_n 1, 1) := by decide +kernel
theorem d_X11_sawLine_192 : decode (cd mX11_sawLine) 192 = .ok (.iconst 1, 1) := by decide +kernel
theorem d_X11_sawLine_193 : decode (cd mX11_sawLine) 193 = .ok (.iadd, 1) := by decide +kernel
theorem d_X11_sawLine_194 : decode (cd mX11_sawLine) 194 = .ok (.iload_n 3, 1) := by decide +kernel
theorem d_X11_sawLine_195 : decode (cd mX11_sawLine) 195 = .ok (.iastore, 1) := by decide +kernel
theorem d_X11_sawLine_196 : decode (cd mX11_sawLine) 196 = .ok (.aload_n 0, 1) := by decide +kernel
theorem d_X11_sawLine_197 : decode (cd mX11_sawLine) 197 = .ok (.getfield 23, 3) := by decide +kernel
theorem d_X11_sawLine_200 : decode (cd mX11_sawLine) 200 = .ok (.bipush 7, 2) := by decide +kernel
theorem d_X11_sawLine_202 : decode (cd mX11_sawLine) 202 = .ok (.dup2, 1) := by decide +kernel
theorem d_X11_sawLine_203 : decode (cd mX11_sawLine) 203 = .ok (.iaload, 1) := by decide +kernel
theorem d_X11_sawLine_204 : decode (cd mX11_sawLine) 204 = .ok (.iconst 1, 1) := by decide +kernel
theorem d_X11_sawLine_205 : decode (cd mX11_sawLine) 205 = .ok (.iadd, 1) := by decide +kernel
theorem d_X11_sawLine_206 : decode (cd mX11_sawLine) 206 = .ok (.iastore, 1) := by decide +kernel
theorem d_X11_sawLine_207 : decode (cd mX11_sawLine) 207 = .ok (.return_, 1) := by decide +kernel
theorem d_X11_fieldLine_0 : decode (cd mX11_fieldLine) 0 = .ok (.aload_n 0, 1) := by decide +kernel
theorem d_X11_fieldLine_1 : decode (cd mX11_fieldLine) 1 = .ok (.getfield 98, 3) := by decide +kernel
theorem d_X11_fieldLine_4 : decode (cd mX11_fieldLine) 4 = .ok (.ifCond .eq 4, 3) := by decide +kernel
theorem d_X11_fieldLine_7 : decode (cd mX11_fieldLine) 7 = .ok (.return_, 1) := by decide +kernel
theorem d_X11_fieldLine_8 : decode (cd mX11_fieldLine) 8 = .ok (.aload_n 0, 1) := by decide +kernel
theorem d_X11_fieldLine_9 : decode (cd mX11_fieldLine) 9 = .ok (.invokevirtual 119, 3) := by decide +kernel
theorem d_X11_fieldLine_12 : decode (cd mX11_fieldLine) 12 = .ok (.aload_n 0, 1) := by decide +kernel
theorem d_X11_fieldLine_13 : decode (cd mX11_fieldLine) 13 = .ok (.aload_n 0, 1) := by decide +kernel
theorem d_X11_fieldLine_14 : decode (cd mX11_fieldLine) 14 = .ok (.getfield 23, 3) := by decide +kernel
theorem d_X11_fieldLine_17 : decode (cd mX11_fieldLine) 17 = .ok (.bipush 8, 2) := by decide +kernel
theorem d_X11_fieldLine_19 : decode (cd mX11_fieldLine) 19 = .ok (.iaload, 1) := by decide +kernel
theorem d_X11_fieldLine_20 : decode (cd mX11_fieldLine) 20 = .ok (.invokevirtual 231, 3) := by decide +kernel
theorem d_X11_fieldLine_23 : decode (cd mX11_fieldLine) 23 = .ok (.aload_n 0, 1) := by decide +kernel
theorem d_X11_fieldLine_24 : decode (cd mX11_fieldLine) 24 = .ok (.getfield 98, 3) := by decide +kernel
theorem d_X11_fieldLine_27 : decode (cd mX11_fieldLine) 27 = .ok (.ifCond .ne 14, 3) := by decide +kernel
theorem d_X11_fieldLine_30 : decode (cd mX11_fieldLine) 30 = .ok (.aload_n 0, 1) := by decide +kernel
theorem d_X11_fieldLine_31 : decode (cd mX11_fieldLine) 31 = .ok (.getfield 23, 3) := by decide +kernel
theorem d_X11_fieldLine_34 : decode (cd mX11_fieldLine) 34 = .ok (.bipush 8, 2) := by decide +kernel
theorem d_X11_fieldLine_36 : decode (cd mX11_fieldLine) 36 = .ok (.dup2, 1) := by decide +kernel
theorem d_X11_fieldLine_37 : decode (cd mX11_fieldLine) 37 = .ok (.iaload, 1) := by decide +kernel
theorem d_X11_fieldLine_38 : decode (cd mX11_fieldLine) 38 = .ok (.iconst 1, 1) := by decide +kernel
theorem d_X11_fieldLine_39 : decode (cd mX11_fieldLine) 39 = .ok (.iadd, 1) := by decide +kernel
theorem d_X11_fieldLine_40 : decode (cd mX11_fieldLine) 40 = .ok (.iastore, 1) := by decide +kernel
theorem d_X11_fieldLine_41 : decode (cd mX11_fieldLine) 41 = .ok (.return_, 1) := by decide +kernel
theorem d_X11_ditchLine_0 : decode (cd mX11_ditchLine) 0 = .ok (.aload_n 0, 1) := by decide +kernel
theorem d_X11_ditchLine_1 : decode (cd mX11_ditchLine) 1 = .ok (.getfield 98, 3) := by decide +kernel
theorem d_X11_ditchLine_4 : decode (cd mX11_ditchLine) 4 = .ok (.ifCond .eq 4, 3) := by decide +kernel
theorem d_X11_ditchLine_7 : decode (cd mX11_ditchLine) 7 = .ok (.return_, 1) := by decide +kernel
theorem d_X11_ditchLine_8 : decode (cd mX11_ditchLine) 8 = .ok (.aload_n 0, 1) := by decide +kernel
theorem d_X11_ditchLine_9 : decode (cd mX11_ditchLine) 9 = .ok (.invokevirtual 119, 3) := by decide +kernel
theorem d_X11_ditchLine_12 : decode (cd mX11_ditchLine) 12 = .ok (.bipush 53, 2) := by decide +kernel
theorem d_X11_ditchLine_14 : decode (cd mX11_ditchLine) 14 = .ok (.iconst 3, 1) := by decide +kernel
theorem d_X11_ditchLine_15 : decode (cd mX11_ditchLine) 15 = .ok (.aload_n 0, 1) := by decide +kernel
theorem d_X11_ditchLine_16 : decode (cd mX11_ditchLine) 16 = .ok (.getfield 23, 3) := by decide +kernel
theorem d_X11_ditchLine_19 : decode (cd mX11_ditchLine) 19 = .ok (.bipush 9, 2) := by decide +kernel
theorem d_X11_ditchLine_21 : decode (cd mX11_ditchLine) 21 = .ok (.iaload, 1) := by decide +kernel
theorem d_X11_ditchLine_22 : decode (cd mX11_ditchLine) 22 = .ok (.imul, 1) := by decide +kernel
theorem d_X11_ditchLine_23 : decode (cd mX11_ditchLine) 23 = .ok (.iadd, 1) := by decide +kernel
theorem d_X11_ditchLine_24 : decode (cd mX11_ditchLine) 24 = .ok (.istore_n 1, 1) := by decide +kernel
theorem d_X11_ditchLine_25 : decode (cd mX11_ditchLine) 25 = .ok (.aload_n 0, 1) := by decide +kernel
theorem d_X11_ditchLine_26 : decode (cd mX11_ditchLine) 26 = .ok (.invokevirtual 253, 3) := by decide +kernel
theorem d_X11_ditchLine_29 : decode (cd mX11_ditchLine) 29 = .ok (.istore_n 2, 1) := by decide +kernel
theorem d_X11_ditchLine_30 : decode (cd mX11_ditchLine) 30 = .ok (.aload_n 0, 1) := by decide +kernel
theorem d_X11_ditchLine_31 : decode (cd mX11_ditchLine) 31 = .ok (.getfield 98, 3) := by decide +kernel
theorem d_X11_ditchLine_34 : decode (cd mX11_ditchLine) 34 = .ok (.ifCond .eq 4, 3) := by decide +kernel
theorem d_X11_ditchLine_37 : decode (cd mX11_ditchLine) 37 = .ok (.return_, 1) := by decide +kernel
theorem d_X11_ditchLine_38 : decode (cd mX11_ditchLine) 38 = .ok (.aload_n 0, 1) := by decide +kernel
theorem d_X11_ditchLine_39 : decode (cd mX11_ditchLine) 39 = .ok (.invokevirtual 119, 3) := by decide +kernel
theorem d_X11_ditchLine_42 : decode (cd mX11_ditchLine) 42 = .ok (.aload_n 0, 1) := by decide +kernel
theorem d_X11_ditchLine_43 : decode (cd mX11_ditchLine) 43 = .ok (.invokevirtual 253, 3) := by decide +kernel
theorem d_X11_ditchLine_46 : decode (cd mX11_ditchLine) 46 = .ok (.istore_n 3, 1) := by decide +kernel
theorem d_X11_ditchLine_47 : decode (cd mX11_ditchLine) 47 = .ok (.iload_n 2, 1) := by decide +kernel
theorem d_X11_ditchLine_48 : decode (cd mX11_ditchLine) 48 = .ok (.iload_n 3, 1) := by decide +kernel
theorem d_X11_ditchLine_49 : decode (cd mX11_ditchLine) 49 = .ok (.if_icmp .ne 7, 3) := by decide +kernel
theorem d_X11_ditchLine_52 : decode (cd mX11_ditchLine) 52 = .ok (.iconst 1, 1) := by decide +kernel
theorem d_X11_ditchLine_53 : decode (cd mX11_ditchLine) 53 = .ok (.goto 4, 3) := by decide +kernel
theorem d_X11_ditchLine_56 : decode (cd mX11_ditchLine) 56 = .ok (.iconst 0, 1) := by decide +kernel
theorem d_X11_ditchLine_57 : decode (cd mX11_ditchLine) 57 = .ok (.istore 4, 2) := by decide +kernel
theorem d_X11_ditchLine_59 : decode (cd mX11_ditchLine) 59 = .ok (.iconst 0, 1) := by decide +kernel
theorem d_X11_ditchLine_60 : decode (cd mX11_ditchLine) 60 = .ok (.istore 5, 2) := by decide +kernel
theorem d_X11_ditchLine_62 : decode (cd mX11_ditchLine) 62 = .ok (.iload 5, 2) := by decide +kernel
theorem d_X11_ditchLine_64 : decode (cd mX11_ditchLine) 64 = .ok (.aload_n 0, 1) := by decide +kernel
theorem d_X11_ditchLine_65 : decode (cd mX11_ditchLine) 65 = .ok (.getfield 23, 3) := by decide +kernel
theorem d_X11_ditchLine_68 : decode (cd mX11_ditchLine) 68 = .ok (.bipush 9, 2) := by decide +kernel
theorem d_X11_ditchLine_70 : decode (cd mX11_ditchLine) 70 = .ok (.iaload, 1) := by decide +kernel
theorem d_X11_ditchLine_71 : decode (cd mX11_ditchLine) 71 = .ok (.if_icmp .ge 55, 3) := by decide +kernel
theorem d_X11_ditchLine_74 : decode (cd mX11_ditchLine) 74 = .ok (.iload 4, 2) := by decide +kernel
theorem d_X11_ditchLine_76 : decode (cd mX11_ditchLine) 76 = .ok (.ifCond .ne 37, 3) := by decide +kernel
theorem d_X11_ditchLine_79 : decode (cd mX11_ditchLine) 79 = .ok (.aload_n 0, 1) := by decide +kernel
theorem d_X11_ditchLine_80 : decode (cd mX11_ditchLine) 80 = .ok (.getfield 23, 3) := by decide +kernel
theorem d_X11_ditchLine_83 : decode (cd mX11_ditchLine) 83 = .ok (.bipush 53, 2) := by decide +kernel
theorem d_X11_ditchLine_85 : decode (cd mX11_ditchLine) 85 = .ok (.iconst 3, 1) := by decide +kernel
theorem d_X11_ditchLine_86 : decode (cd mX11_ditchLine) 86 = .ok (.iload 5, 2) := by decide +kernel
theorem d_X11_ditchLine_88 : decode (cd mX11_ditchLine) 88 = .ok (.imul, 1) := by decide +kernel
theorem d_X11_ditchLine_89 : decode (cd mX11_ditchLine) 89 = .ok (.iadd, 1) := by decide +kernel
theorem d_X11_ditchLine_90 : decode (cd mX11_ditchLine) 90 = .ok (.iaload, 1) := by decide +kernel
theorem d_X11_ditchLine_91 : decode (cd mX11_ditchLine) 91 = .ok (.iload_n 2, 1) := by decide +kernel
theorem d_X11_ditchLine_92 : decode (cd mX11_ditchLine) 92 = .ok (.if_icmp .ne 25, 3) := by decide +kernel
theorem d_X11_ditchLine_95 : decode (cd mX11_ditchLine) 95 = .ok (.aload_n 0, 1) := by decide +kernel
theorem d_X11_ditchLine_96 : decode (cd mX11_ditchLine) 96 = .ok (.getfield 23, 3) := by decide +kernel
theorem d_X11_ditchLine_99 : decode (cd mX11_ditchLine) 99 = .ok (.bipush 53, 2) := by decide +kernel
theorem d_X11_ditchLine_101 : decode (cd mX11_ditchLine) 101 = .ok (.iconst 3, 1) := by decide +kernel
theorem d_X11_ditchLine_102 : decode (cd mX11_ditchLine) 102 = .ok (.iload 5, 2) := by decide +kernel
theorem d_X11_ditchLine_104 : decode (cd mX11_ditchLine) 104 = .ok (.imul, 1) := by decide +kernel
theorem d_X11_ditchLine_105 : decode (cd mX11_ditchLine) 105 = .ok (.iadd, 1) := by decide +kernel
theorem d_X11_ditchLine_106 : decode (cd mX11_ditchLine) 106 = .ok (.iconst 1, 1) := by decide +kernel
theorem d_X11_ditchLine_107 : decode (cd mX11_ditchLine) 107 = .ok (.iadd, 1) := by decide +kernel
theorem d_X11_ditchLine_108 : decode (cd mX11_ditchLine) 108 = .ok (.iaload, 1) := by decide +kernel
theorem d_X11_ditchLine_109 : decode (cd mX11_ditchLine) 109 = .ok (.iload_n 3, 1) := by decide +kernel
theorem d_X11_ditchLine_110 : decode (cd mX11_ditchLine) 110 = .ok (.if_icmp .ne 7, 3) := by decide +kernel
theorem d_X11_ditchLine_113 : decode (cd mX11_ditchLine) 113 = .ok (.iconst 1, 1) := by decide +kernel
theorem d_X11_ditchLine_114 : decode (cd mX11_ditchLine) 114 = .ok (.goto 4, 3) := by decide +kernel
theorem d_X11_ditchLine_117 : decode (cd mX11_ditchLine) 117 = .ok (.iconst 0, 1) := by decide +kernel
theorem d_X11_ditchLine_118 : decode (cd mX11_ditchLine) 118 = .ok (.istore 4, 2) := by decide +kernel
theorem d_X11_ditchLine_120 : decode (cd mX11_ditchLine) 120 = .ok (.iinc 5 1, 3) := by decide +kernel
theorem d_X11_ditchLine_123 : decode (cd mX11_ditchLine) 123 = .ok (.goto (-61), 3) := by decide +kernel
theorem d_X11_ditchLine_126 : decode (cd mX11_ditchLine) 126 = .ok (.aload_n 0, 1) := by decide +kernel
theorem d_X11_ditchLine_127 : decode (cd mX11_ditchLine) 127 = .ok (.getfield 98, 3) := by decide +kernel
theorem d_X11_ditchLine_130 : decode (cd mX11_ditchLine) 130 = .ok (.ifCond .ne 17, 3) := by decide +kernel
theorem d_X11_ditchLine_133 : decode (cd mX11_ditchLine) 133 = .ok (.iload 4, 2) := by decide +kernel
theorem d_X11_ditchLine_135 : decode (cd mX11_ditchLine) 135 = .ok (.ifCond .eq 12, 3) := by decide +kernel
theorem d_X11_ditchLine_138 : decode (cd mX11_ditchLine) 138 = .ok (.aload_n 0, 1) := by decide +kernel
theorem d_X11_ditchLine_139 : decode (cd mX11_ditchLine) 139 = .ok (.iconst 3, 1) := by decide +kernel
theorem d_X11_ditchLine_140 : decode (cd mX11_ditchLine) 140 = .ok (.aload_n 0, 1) := by decide +kernel
theorem d_X11_ditchLine_141 : decode (cd mX11_ditchLine) 141 = .ok (.getfield 79, 3) := by decide +kernel
theorem d_X11_ditchLine_144 : decode (cd mX11_ditchLine) 144 = .ok (.invokevirtual 125, 3) := by decide +kernel
theorem d_X11_ditchLine_147 : decode (cd mX11_ditchLine) 147 = .ok (.aload_n 0, 1) := by decide +kernel
theorem d_X11_ditchLine_148 : decode (cd mX11_ditchLine) 148 = .ok (.getfield 98, 3) := by decide +kernel
theorem d_X11_ditchLine_151 : decode (cd mX11_ditchLine) 151 = .ok (.ifCond .eq 4, 3) := by decide +kernel
theorem d_X11_ditchLine_154 : decode (cd mX11_ditchLine) 154 = .ok (.return_, 1) := by decide +kernel
theorem d_X11_ditchLine_155 : decode (cd mX11_ditchLine) 155 = .ok (.aload_n 0, 1) := by decide +kernel
theorem d_X11_ditchLine_156 : decode (cd mX11_ditchLine) 156 = .ok (.invokevirtual 119, 3) := by decide +kernel
theorem d_X11_ditchLine_159 : decode (cd mX11_ditchLine) 159 = .ok (.aload_n 0, 1) := by decide +kernel
theorem d_X11_ditchLine_160 : decode (cd mX11_ditchLine) 160 = .ok (.getfield 23, 3) := by decide +kernel
theorem d_X11_ditchLine_163 : decode (cd mX11_ditchLine) 163 = .ok (.iload_n 1, 1) := by decide +kernel
theorem d_X11_ditchLine_164 : decode (cd mX11_ditchLine) 164 = .ok (.iload_n 2, 1) := by decide +kernel
theorem d_X11_ditchLine_165 : decode (cd mX11_ditchLine) 165 = .ok (.iastore, 1) := by decide +kernel
theorem d_X11_ditchLine_166 : decode (cd mX11_ditchLine) 166 = .ok (.aload_n 0, 1) := by decide +kernel
theorem d_X11_ditchLine_167 : decode (cd mX11_ditchLine) 167 = .ok (.getfield 23, 3) := by decide +kernel
theorem d_X11_ditchLine_170 : decode (cd mX11_ditchLine) 170 = .ok (.iload_n 1, 1) := by decide +kernel
theorem d_X11_ditchLine_171 : decode (cd mX11_ditchLine) 171 = .ok (.iconst 1, 1) := by decide +kernel
theorem d_X11_ditchLine_172 : decode (cd mX11_ditchLine) 172 = .ok (.iadd, 1) := by decide +kernel
theorem d_X11_ditchLine_173 : decode (cd mX11_ditchLine) 173 = .ok (.iload_n 3, 1) := by decide +kernel
theorem d_X11_ditchLine_174 : decode (cd mX11_ditchLine) 174 = .ok (.iastore, 1) := by decide +kernel
theorem d_X11_ditchLine_175 : decode (cd mX11_ditchLine) 175 = .ok (.aload_n 0, 1) := by decide +kernel
theorem d_X11_ditchLine_176 : decode (cd mX11_ditchLine) 176 = .ok (.getfield 23, 3) := by decide +kernel
theorem d_X11_ditchLine_179 : decode (cd mX11_ditchLine) 179 = .ok (.iload_n 1, 1) := by decide +kernel
theorem d_X11_ditchLine_180 : decode (cd mX11_ditchLine) 180 = .ok (.iconst 2, 1) := by decide +kernel
theorem d_X11_ditchLine_181 : decode (cd mX11_ditchLine) 181 = .ok (.iadd, 1) := by decide +kernel
theorem d_X11_ditchLine_182 : decode (cd mX11_ditchLine) 182 = .ok (.aload_n 0, 1) := by decide +kernel
theorem d_X11_ditchLine_183 : decode (cd mX11_ditchLine) 183 = .ok (.ldc_w 256, 3) := by decide +kernel
theorem d_X11_ditchLine_186 : decode (cd mX11_ditchLine) 186 = .ok (.iconst 1, 1) := by decide +kernel
theorem d_X11_ditchLine_187 : decode (cd mX11_ditchLine) 187 = .ok (.bipush 99, 2) := by decide +kernel
theorem d_X11_ditchLine_189 : decode (cd mX11_ditchLine) 189 = .ok (.invokevirtual 221, 3) := by decide +kernel
theorem d_X11_ditchLine_192 : decode (cd mX11_ditchLine) 192 = .ok (.iastore, 1) := by decide +kernel
theorem d_X11_ditchLine_193 : decode (cd mX11_ditchLine) 193 = .ok (.aload_n 0, 1) := by decide +kernel
theorem d_X11_ditchLine_194 : decode (cd mX11_ditchLine) 194 = .ok (.getfield 98, 3) := by decide +kernel
theorem d_X11_ditchLine_197 : decode (cd mX11_ditchLine) 197 = .ok (.ifCond .ne 14, 3) := by decide +kernel
theorem d_X11_ditchLine_200 : decode (cd mX11_ditchLine) 200 = .ok (.aload_n 0, 1) := by decide +kernel
theorem d_X11_ditchLine_201 : decode (cd mX11_ditchLine) 201 = .ok (.getfield 23, 3) := by decide +kernel
theorem d_X11_ditchLine_204 : decode (cd mX11_ditchLine) 204 = .ok (.bipush 9, 2) := by decide +kernel
theorem d_X11_ditchLine_206 : decode (cd mX11_ditchLine) 206 = .ok (.dup2, 1) := by decide +kernel
theorem d_X11_ditchLine_207 : decode (cd mX11_ditchLine) 207 = .ok (.iaload, 1) := by decide +kernel
theorem d_X11_ditchLine_208 : decode (cd mX11_ditchLine) 208 = .ok (.iconst 1, 1) := by decide +kernel
theorem d_X11_ditchLine_209 : decode (cd mX11_ditchLine) 209 = .ok (.iadd, 1) := by decide +kernel
theorem d_X11_ditchLine_210 : decode (cd mX11_ditchLine) 210 = .ok (.iastore, 1) := by decide +kernel
theorem d_X11_ditchLine_211 : decode (cd mX11_ditchLine) 211 = .ok (.return_, 1) := by decide +kernel
theorem d_X11_fault_0 : decode (cd mX11_fault) 0 = .ok (.aload_n 0, 1) := by decide +kernel
theorem d_X11_fault_1 : decode (cd mX11_fault) 1 = .ok (.iconst 0, 1) := by decide +kernel
theorem d_X11_fault_2 : decode (cd mX11_fault) 2 = .ok (.putfield 60, 3) := by decide +kernel
theorem d_X11_fault_5 : decode (cd mX11_fault) 5 = .ok (.aload_n 0, 1) := by decide +kernel
theorem d_X11_fault_6 : decode (cd mX11_fault) 6 = .ok (.getfield 102, 3) := by decide +kernel
theorem d_X11_fault_9 : decode (cd mX11_fault) 9 = .ok (.ireturn, 1) := by decide +kernel
theorem d_X11_where_0 : decode (cd mX11_where) 0 = .ok (.aload_n 0, 1) := by decide +kernel
theorem d_X11_where_1 : decode (cd mX11_where) 1 = .ok (.iconst 0, 1) := by decide +kernel
theorem d_X11_where_2 : decode (cd mX11_where) 2 = .ok (.putfield 60, 3) := by decide +kernel
theorem d_X11_where_5 : decode (cd mX11_where) 5 = .ok (.aload_n 0, 1) := by decide +kernel
theorem d_X11_where_6 : decode (cd mX11_where) 6 = .ok (.getfield 63, 3) := by decide +kernel
theorem d_X11_where_9 : decode (cd mX11_where) 9 = .ok (.iconst 4, 1) := by decide +kernel
theorem d_X11_where_10 : decode (cd mX11_where) 10 = .ok (.if_icmp .ne 10, 3) := by decide +kernel
theorem d_X11_where_13 : decode (cd mX11_where) 13 = .ok (.aload_n 0, 1) := by decide +kernel
theorem d_X11_where_14 : decode (cd mX11_where) 14 = .ok (.getfield 13, 3) := by decide +kernel
theorem d_X11_where_17 : decode (cd mX11_where) 17 = .ok (.goto 4, 3) := by decide +kernel
theorem d_X11_where_20 : decode (cd mX11_where) 20 = .ok (.iconst (-1), 1) := by decide +kernel
theorem d_X11_where_21 : decode (cd mX11_where) 21 = .ok (.ireturn, 1) := by decide +kernel
theorem d_X11_whoOf_0 : decode (cd mX11_whoOf) 0 = .ok (.iconst 3, 1) := by decide +kernel
theorem d_X11_whoOf_1 : decode (cd mX11_whoOf) 1 = .ok (.aload_n 0, 1) := by decide +kernel
theorem d_X11_whoOf_2 : decode (cd mX11_whoOf) 2 = .ok (.iconst 2, 1) := by decide +kernel
theorem d_X11_whoOf_3 : decode (cd mX11_whoOf) 3 = .ok (.iaload, 1) := by decide +kernel
theorem d_X11_whoOf_4 : decode (cd mX11_whoOf) 4 = .ok (.isub, 1) := by decide +kernel
theorem d_X11_whoOf_5 : decode (cd mX11_whoOf) 5 = .ok (.istore_n 1, 1) := by decide +kernel
theorem d_X11_whoOf_6 : decode (cd mX11_whoOf) 6 = .ok (.aload_n 0, 1) := by decide +kernel
theorem d_X11_whoOf_7 : decode (cd mX11_whoOf) 7 = .ok (.iconst 0, 1) := by decide +kernel
theorem d_X11_whoOf_8 : decode (cd mX11_whoOf) 8 = .ok (.iaload, 1) := by decide +kernel
theorem d_X11_whoOf_9 : decode (cd mX11_whoOf) 9 = .ok (.iload_n 1, 1) := by decide +kernel
theorem d_X11_whoOf_10 : decode (cd mX11_whoOf) 10 = .ok (.if_icmp .lt 7, 3) := by decide +kernel
theorem d_X11_whoOf_13 : decode (cd mX11_whoOf) 13 = .ok (.iconst 1, 1) := by decide +kernel
theorem d_X11_whoOf_14 : decode (cd mX11_whoOf) 14 = .ok (.goto 4, 3) := by decide +kernel
theorem d_X11_whoOf_17 : decode (cd mX11_whoOf) 17 = .ok (.iconst 0, 1) := by decide +kernel
theorem d_X11_whoOf_18 : decode (cd mX11_whoOf) 18 = .ok (.aload_n 0, 1) := by decide +kernel
theorem d_X11_whoOf_19 : decode (cd mX11_whoOf) 19 = .ok (.iconst 0, 1) := by decide +kernel
theorem d_X11_whoOf_20 : decode (cd mX11_whoOf) 20 = .ok (.iaload, 1) := by decide +kernel
theorem d_X11_whoOf_21 : decode (cd mX11_whoOf) 21 = .ok (.ineg, 1) := by decide +kernel
theorem d_X11_whoOf_22 : decode (cd mX11_whoOf) 22 = .ok (.iload_n 1, 1) := by decide +kernel
theorem d_X11_whoOf_23 : decode (cd mX11_whoOf) 23 = .ok (.if_icmp .lt 7, 3) := by decide +kernel
theorem d_X11_whoOf_26 : decode (cd mX11_whoOf) 26 = .ok (.iconst 2, 1) := by decide +kernel
theorem d_X11_whoOf_27 : decode (cd mX11_whoOf) 27 = .ok (.goto 4, 3) := by decide +kernel
theorem d_X11_whoOf_30 : decode (cd mX11_whoOf) 30 = .ok (.iconst 0, 1) := by decide +kernel
theorem d_X11_whoOf_31 : decode (cd mX11_whoOf) 31 = .ok (.iadd, 1) := by decide +kernel
theorem d_X11_whoOf_32 : decode (cd mX11_whoOf) 32 = .ok (.ireturn, 1) := by decide +kernel
theorem d_X11_towards_0 : decode (cd mX11_towards) 0 = .ok (.iload_n 0, 1) := by decide +kernel
theorem d_X11_towards_1 : decode (cd mX11_towards) 1 = .ok (.bipush 50, 2) := by decide +kernel
theorem d_X11_towards_3 : decode (cd mX11_towards) 3 = .ok (.isub, 1) := by decide +kernel
theorem d_X11_towards_4 : decode (cd mX11_towards) 4 = .ok (.bipush 10, 2) := by decide +kernel
theorem d_X11_towards_6 : decode (cd mX11_towards) 6 = .ok (.idiv, 1) := by decide +kernel
theorem d_X11_towards_7 : decode (cd mX11_towards) 7 = .ok (.ireturn, 1) := by decide +kernel
theorem d_X11_bound_0 : decode (cd mX11_bound) 0 = .ok (.iload_n 0, 1) := by decide +kernel
theorem d_X11_bound_1 : decode (cd mX11_bound) 1 = .ok (.bipush 9, 2) := by decide +kernel
theorem d_X11_bound_3 : decode (cd mX11_bound) 3 = .ok (.if_icmp .le 8, 3) := by decide +kernel
theorem d_X11_bound_6 : decode (cd mX11_bound) 6 = .ok (.bipush 9, 2) := by decide +kernel
theorem d_X11_bound_8 : decode (cd mX11_bound) 8 = .ok (.goto 15, 3) := by decide +kernel
theorem d_X11_bound_11 : decode (cd mX11_bound) 11 = .ok (.iload_n 0, 1) := by decide +kernel
theorem d_X11_bound_12 : decode (cd mX11_bound) 12 = .ok (.bipush (-9), 2) := by decide +kernel
theorem d_X11_bound_14 : decode (cd mX11_bound) 14 = .ok (.if_icmp .ge 8, 3) := by decide +kernel
theorem d_X11_bound_17 : decode (cd mX11_bound) 17 = .ok (.bipush (-9), 2) := by decide +kernel
theorem d_X11_bound_19 : decode (cd mX11_bound) 19 = .ok (.goto 4, 3) := by decide +kernel
theorem d_X11_bound_22 : decode (cd mX11_bound) 22 = .ok (.iload_n 0, 1) := by decide +kernel
theorem d_X11_bound_23 : decode (cd mX11_bound) 23 = .ok (.ireturn, 1) := by decide +kernel
theorem d_X11_stepOf_0 : decode (cd mX11_stepOf) 0 = .ok (.iconst 1, 1) := by decide +kernel
theorem d_X11_stepOf_1 : decode (cd mX11_stepOf) 1 = .ok (.iload_n 1, 1) := by decide +kernel
theorem d_X11_stepOf_2 : decode (cd mX11_stepOf) 2 = .ok (.iadd, 1) := by decide +kernel
theorem d_X11_stepOf_3 : decode (cd mX11_stepOf) 3 = .ok (.iload_n 0, 1) := by decide +kernel
theorem d_X11_stepOf_4 : decode (cd mX11_stepOf) 4 = .ok (.bipush 100, 2) := by decide +kernel
theorem d_X11_stepOf_6 : decode (cd mX11_stepOf) 6 = .ok (.bipush 10, 2) := by decide +kernel
theorem d_X11_stepOf_8 : decode (cd mX11_stepOf) 8 = .ok (.iload_n 2, 1) := by decide +kernel
theorem d_X11_stepOf_9 : decode (cd mX11_stepOf) 9 = .ok (.imul, 1) := by decide +kernel
theorem d_X11_stepOf_10 : decode (cd mX11_stepOf) 10 = .ok (.isub, 1) := by decide +kernel
theorem d_X11_stepOf_11 : decode (cd mX11_stepOf) 11 = .ok (.if_icmp .lt 7, 3) := by decide +kernel
theorem d_X11_stepOf_14 : decode (cd mX11_stepOf) 14 = .ok (.iconst 1, 1) := by decide +kernel
theorem d_X11_stepOf_15 : decode (cd mX11_stepOf) 15 = .ok (.goto 4, 3) := by decide +kernel
theorem d_X11_stepOf_18 : decode (cd mX11_stepOf) 18 = .ok (.iconst 0, 1) := by decide +kernel
theorem d_X11_stepOf_19 : decode (cd mX11_stepOf) 19 = .ok (.isub, 1) := by decide +kernel
theorem d_X11_stepOf_20 : decode (cd mX11_stepOf) 20 = .ok (.istore_n 3, 1) := by decide +kernel
theorem d_X11_stepOf_21 : decode (cd mX11_stepOf) 21 = .ok (.iload_n 3, 1) := by decide +kernel
theorem d_X11_stepOf_22 : decode (cd mX11_stepOf) 22 = .ok (.ifCond .ge 7, 3) := by decide +kernel
theorem d_X11_stepOf_25 : decode (cd mX11_stepOf) 25 = .ok (.iconst 0, 1) := by decide +kernel
theorem d_X11_stepOf_26 : decode (cd mX11_stepOf) 26 = .ok (.goto 4, 3) := by decide +kernel
theorem d_X11_stepOf_29 : decode (cd mX11_stepOf) 29 = .ok (.iload_n 3, 1) := by decide +kernel
theorem d_X11_stepOf_30 : decode (cd mX11_stepOf) 30 = .ok (.ireturn, 1) := by decide +kernel
theorem d_X11_nearer_0 : decode (cd mX11_nearer) 0 = .ok (.iload_n 1, 1) := by decide +kernel
theorem d_X11_nearer_1 : decode (cd mX11_nearer) 1 = .ok (.iload_n 0, 1) := by decide +kernel
theorem d_X11_nearer_2 : decode (cd mX11_nearer) 2 = .ok (.isub, 1) := by decide +kernel
theorem d_X11_nearer_3 : decode (cd mX11_nearer) 3 = .ok (.istore_n 3, 1) := by decide +kernel
theorem d_X11_nearer_4 : decode (cd mX11_nearer) 4 = .ok (.iload_n 0, 1) := by decide +kernel
theorem d_X11_nearer_5 : decode (cd mX11_nearer) 5 = .ok (.iload_n 3, 1) := by decide +kernel
theorem d_X11_nearer_6 : decode (cd mX11_nearer) 6 = .ok (.iload_n 2, 1) := by decide +kernel
theorem d_X11_nearer_7 : decode (cd mX11_nearer) 7 = .ok (.if_icmp .le 7, 3) := by decide +kernel
theorem d_X11_nearer_10 : decode (cd mX11_nearer) 10 = .ok (.iload_n 2, 1) := by decide +kernel
theorem d_X11_nearer_11 : decode (cd mX11_nearer) 11 = .ok (.goto 15, 3) := by decide +kernel
theorem d_X11_nearer_14 : decode (cd mX11_nearer) 14 = .ok (.iload_n 3, 1) := by decide +kernel
theorem d_X11_nearer_15 : decode (cd mX11_nearer) 15 = .ok (.iload_n 2, 1) := by decide +kernel
theorem d_X11_nearer_16 : decode (cd mX11_nearer) 16 = .ok (.ineg, 1) := by decide +kernel
theorem d_X11_nearer_17 : decode (cd mX11_nearer) 17 = .ok (.if_icmp .ge 8, 3) := by decide +kernel
theorem d_X11_nearer_20 : decode (cd mX11_nearer) 20 = .ok (.iload_n 2, 1) := by decide +kernel
theorem d_X11_nearer_21 : decode (cd mX11_nearer) 21 = .ok (.ineg, 1) := by decide +kernel
theorem d_X11_nearer_22 : decode (cd mX11_nearer) 22 = .ok (.goto 4, 3) := by decide +kernel
theorem d_X11_nearer_25 : decode (cd mX11_nearer) 25 = .ok (.iload_n 3, 1) := by decide +kernel
theorem d_X11_nearer_26 : decode (cd mX11_nearer) 26 = .ok (.iadd, 1) := by decide +kernel
theorem d_X11_nearer_27 : decode (cd mX11_nearer) 27 = .ok (.ireturn, 1) := by decide +kernel
theorem d_X11_pullOf_0 : decode (cd mX11_pullOf) 0 = .ok (.aload_n 1, 1) := by decide +kernel
theorem d_X11_pullOf_1 : decode (cd mX11_pullOf) 1 = .ok (.iconst 1, 1) := by decide +kernel
theorem d_X11_pullOf_2 : decode (cd mX11_pullOf) 2 = .ok (.iaload, 1) := by decide +kernel
theorem d_X11_pullOf_3 : decode (cd mX11_pullOf) 3 = .ok (.invokestatic 258, 3) := by decide +kernel
theorem d_X11_pullOf_6 : decode (cd mX11_pullOf) 6 = .ok (.istore_n 2, 1) := by decide +kernel
theorem d_X11_pullOf_7 : decode (cd mX11_pullOf) 7 = .ok (.iconst 0, 1) := by decide +kernel
theorem d_X11_pullOf_8 : decode (cd mX11_pullOf) 8 = .ok (.istore_n 3, 1) := by decide +kernel
theorem d_X11_pullOf_9 : decode (cd mX11_pullOf) 9 = .ok (.iload_n 3, 1) := by decide +kernel
theorem d_X11_pullOf_10 : decode (cd mX11_pullOf) 10 = .ok (.aload_n 0, 1) := by decide +kernel
theorem d_X11_pullOf_11 : decode (cd mX11_pullOf) 11 = .ok (.getfield 20, 3) := by decide +kernel
theorem d_X11_pullOf_14 : decode (cd mX11_pullOf) 14 = .ok (.iconst 5, 1) := by decide +kernel
theorem d_X11_pullOf_15 : decode (cd mX11_pullOf) 15 = .ok (.iaload, 1) := by decide +kernel
theorem d_X11_pullOf_16 : decode (cd mX11_pullOf) 16 = .ok (.if_icmp .ge 67, 3) := by decide +kernel
theorem d_X11_pullOf_19 : decode (cd mX11_pullOf) 19 = .ok (.aload_n 1, 1) := by decide +kernel
theorem d_X11_pullOf_20 : decode (cd mX11_pullOf) 20 = .ok (.iconst 3, 1) := by decide +kernel
theorem d_X11_pullOf_21 : decode (cd mX11_pullOf) 21 = .ok (.iaload, 1) := by decide +kernel
theorem d_X11_pullOf_22 : decode (cd mX11_pullOf) 22 = .ok (.iload_n 3, 1) := by decide +kernel
theorem d_X11_pullOf_23 : decode (cd mX11_pullOf) 23 = .ok (.invokestatic 261, 3) := by decide +kernel
theorem d_X11_pullOf_26 : decode (cd mX11_pullOf) 26 = .ok (.ifCond .eq 51, 3) := by decide +kernel
theorem d_X11_pullOf_29 : decode (cd mX11_pullOf) 29 = .ok (.iload_n 2, 1) := by decide +kernel
theorem d_X11_pullOf_30 : decode (cd mX11_pullOf) 30 = .ok (.aload_n 0, 1) := by decide +kernel
theorem d_X11_pullOf_31 : decode (cd mX11_pullOf) 31 = .ok (.getfield 20, 3) := by decide +kernel
theorem d_X11_pullOf_34 : decode (cd mX11_pullOf) 34 = .ok (.bipush 13, 2) := by decide +kernel
theorem d_X11_pullOf_36 : decode (cd mX11_pullOf) 36 = .ok (.iconst 3, 1) := by decide +kernel
theorem d_X11_pullOf_37 : decode (cd mX11_pullOf) 37 = .ok (.iload_n 3, 1) := by decide +kernel
theorem d_X11_pullOf_38 : decode (cd mX11_pullOf) 38 = .ok (.imul, 1) := by decide +kernel
theorem d_X11_pullOf_39 : decode (cd mX11_pullOf) 39 = .ok (.iadd, 1) := by decide +kernel
theorem d_X11_pullOf_40 : decode (cd mX11_pullOf) 40 = .ok (.iaload, 1) := by decide +kernel
theorem d_X11_pullOf_41 : decode (cd mX11_pullOf) 41 = .ok (.iconst 1, 1) := by decide +kernel
theorem d_X11_pullOf_42 : decode (cd mX11_pullOf) 42 = .ok (.if_icmp .ne 19, 3) := by decide +kernel
theorem d_X11_pullOf_45 : decode (cd mX11_pullOf) 45 = .ok (.aload_n 0, 1) := by decide +kernel
theorem d_X11_pullOf_46 : decode (cd mX11_pullOf) 46 = .ok (.getfield 20, 3) := by decide +kernel
theorem d_X11_pullOf_49 : decode (cd mX11_pullOf) 49 = .ok (.bipush 13, 2) := by decide +kernel
theorem d_X11_pullOf_51 : decode (cd mX11_pullOf) 51 = .ok (.iconst 3, 1) := by decide +kernel
theorem d_X11_pullOf_52 : decode (cd mX11_pullOf) 52 = .ok (.iload_n 3, 1) := by decide +kernel
theorem d_X11_pullOf_53 : decode (cd mX11_pullOf) 53 = .ok (.imul, 1) := by decide +kernel
theorem d_X11_pullOf_54 : decode (cd mX11_pullOf) 54 = .ok (.iadd, 1) := by decide +kernel
theorem d_X11_pullOf_55 : decode (cd mX11_pullOf) 55 = .ok (.iconst 1, 1) := by decide +kernel
theorem d_X11_pullOf_56 : decode (cd mX11_pullOf) 56 = .ok (.iadd, 1) := by decide +kernel
theorem d_X11_pullOf_57 : decode (cd mX11_pullOf) 57 = .ok (.iaload, 1) := by decide +kernel
theorem d_X11_pullOf_58 : decode (cd mX11_pullOf) 58 = .ok (.goto 17, 3) := by decide +kernel
theorem d_X11_pullOf_61 : decode (cd mX11_pullOf) 61 = .ok (.aload_n 0, 1) := by decide +kernel
theorem d_X11_pullOf_62 : decode (cd mX11_pullOf) 62 = .ok (.getfield 20, 3) := by decide +kernel
theorem d_X11_pullOf_65 : decode (cd mX11_pullOf) 65 = .ok (.bipush 13, 2) := by decide +kernel
theorem d_X11_pullOf_67 : decode (cd mX11_pullOf) 67 = .ok (.iconst 3, 1) := by decide +kernel
theorem d_X11_pullOf_68 : decode (cd mX11_pullOf) 68 = .ok (.iload_n 3, 1) := by decide +kernel
theorem d_X11_pullOf_69 : decode (cd mX11_pullOf) 69 = .ok (.imul, 1) := by decide +kernel
theorem d_X11_pullOf_70 : decode (cd mX11_pullOf) 70 = .ok (.iadd, 1) := by decide +kernel
theorem d_X11_pullOf_71 : decode (cd mX11_pullOf) 71 = .ok (.iconst 1, 1) := by decide +kernel
theorem d_X11_pullOf_72 : decode (cd mX11_pullOf) 72 = .ok (.iadd, 1) := by decide +kernel
theorem d_X11_pullOf_73 : decode (cd mX11_pullOf) 73 = .ok (.iaload, 1) := by decide +kernel
theorem d_X11_pullOf_74 : decode (cd mX11_pullOf) 74 = .ok (.ineg, 1) := by decide +kernel
theorem d_X11_pullOf_75 : decode (cd mX11_pullOf) 75 = .ok (.iadd, 1) := by decide +kernel
theorem d_X11_pullOf_76 : decode (cd mX11_pullOf) 76 = .ok (.istore_n 2, 1) := by decide +kernel
theorem d_X11_pullOf_77 : decode (cd mX11_pullOf) 77 = .ok (.iinc 3 1, 3) := by decide +kernel
theorem d_X11_pullOf_80 : decode (cd mX11_pullOf) 80 = .ok (.goto (-71), 3) := by decide +kernel
theorem d_X11_pullOf_83 : decode (cd mX11_pullOf) 83 = .ok (.iload_n 2, 1) := by decide +kernel
theorem d_X11_pullOf_84 : decode (cd mX11_pullOf) 84 = .ok (.invokestatic 265, 3) := by decide +kernel
theorem d_X11_pullOf_87 : decode (cd mX11_pullOf) 87 = .ok (.ireturn, 1) := by decide +kernel
theorem d_X11_dayBy_0 : decode (cd mX11_dayBy) 0 = .ok (.aload_n 1, 1) := by decide +kernel
theorem d_X11_dayBy_1 : decode (cd mX11_dayBy) 1 = .ok (.invokestatic 268, 3) := by decide +kernel
theorem d_X11_dayBy_4 : decode (cd mX11_dayBy) 4 = .ok (.istore_n 3, 1) := by decide +kernel
theorem d_X11_dayBy_5 : decode (cd mX11_dayBy) 5 = .ok (.aload_n 1, 1) := by decide +kernel
theorem d_X11_dayBy_6 : decode (cd mX11_dayBy) 6 = .ok (.iconst 5, 1) := by decide +kernel
theorem d_X11_dayBy_7 : decode (cd mX11_dayBy) 7 = .ok (.iload_n 3, 1) := by decide +kernel
theorem d_X11_dayBy_8 : decode (cd mX11_dayBy) 8 = .ok (.iconst 1, 1) := by decide +kernel
theorem d_X11_dayBy_9 : decode (cd mX11_dayBy) 9 = .ok (.if_icmp .ne 7, 3) := by decide +kernel
theorem d_X11_dayBy_12 : decode (cd mX11_dayBy) 12 = .ok (.iconst 1, 1) := by decide +kernel
theorem d_X11_dayBy_13 : decode (cd mX11_dayBy) 13 = .ok (.goto 13, 3) := by decide +kernel
theorem d_X11_dayBy_16 : decode (cd mX11_dayBy) 16 = .ok (.iload_n 3, 1) := by decide +kernel
theorem d_X11_dayBy_17 : decode (cd mX11_dayBy) 17 = .ok (.iconst 2, 1) := by decide +kernel
theorem d_X11_dayBy_18 : decode (cd mX11_dayBy) 18 = .ok (.if_icmp .ne 7, 3) := by decide +kernel
theorem d_X11_dayBy_21 : decode (cd mX11_dayBy) 21 = .ok (.iconst 2, 1) := by decide +kernel
theorem d_X11_dayBy_22 : decode (cd mX11_dayBy) 22 = .ok (.goto 4, 3) := by decide +kernel
theorem d_X11_dayBy_25 : decode (cd mX11_dayBy) 25 = .ok (.iconst 0, 1) := by decide +kernel
theorem d_X11_dayBy_26 : decode (cd mX11_dayBy) 26 = .ok (.iastore, 1) := by decide +kernel
theorem d_X11_dayBy_27 : decode (cd mX11_dayBy) 27 = .ok (.aload_n 1, 1) := by decide +kernel
theorem d_X11_dayBy_28 : decode (cd mX11_dayBy) 28 = .ok (.iconst 1, 1) := by decide +kernel
theorem d_X11_dayBy_29 : decode (cd mX11_dayBy) 29 = .ok (.iaload, 1) := by decide +kernel
theorem d_X11_dayBy_30 : decode (cd mX11_dayBy) 30 = .ok (.iload_n 3, 1) := by decide +kernel
theorem d_X11_dayBy_31 : decode (cd mX11_dayBy) 31 = .ok (.iconst 1, 1) := by decide +kernel
theorem d_X11_dayBy_32 : decode (cd mX11_dayBy) 32 = .ok (.if_icmp .ne 12, 3) := by decide +kernel
theorem d_X11_dayBy_35 : decode (cd mX11_dayBy) 35 = .ok (.aload_n 0, 1) := by decide +kernel
theorem d_X11_dayBy_36 : decode (cd mX11_dayBy) 36 = .ok (.getfield 20, 3) := by decide +kernel
theorem d_X11_dayBy_39 : decode (cd mX11_dayBy) 39 = .ok (.iconst 3, 1) := by decide +kernel
theorem d_X11_dayBy_40 : decode (cd mX11_dayBy) 40 = .ok (.iaload, 1) := by decide +kernel
theorem d_X11_dayBy_41 : decode (cd mX11_dayBy) 41 = .ok (.goto 19, 3) := by decide +kernel
theorem d_X11_dayBy_44 : decode (cd mX11_dayBy) 44 = .ok (.iload_n 3, 1) := by decide +kernel
theorem d_X11_dayBy_45 : decode (cd mX11_dayBy) 45 = .ok (.iconst 2, 1) := by decide +kernel
theorem d_X11_dayBy_46 : decode (cd mX11_dayBy) 46 = .ok (.if_icmp .ne 13, 3) := by decide +kernel
theorem d_X11_dayBy_49 : decode (cd mX11_dayBy) 49 = .ok (.aload_n 0, 1) := by decide +kernel
theorem d_X11_dayBy_50 : decode (cd mX11_dayBy) 50 = .ok (.getfield 20, 3) := by decide +kernel
theorem d_X11_dayBy_53 : decode (cd mX11_dayBy) 53 = .ok (.iconst 4, 1) := by decide +kernel
theorem d_X11_dayBy_54 : decode (cd mX11_dayBy) 54 = .ok (.iaload, 1) := by decide +kernel
theorem d_X11_dayBy_55 : decode (cd mX11_dayBy) 55 = .ok (.ineg, 1) := by decide +kernel
theorem d_X11_dayBy_56 : decode (cd mX11_dayBy) 56 = .ok (.goto 4, 3) := by decide +kernel
theorem d_X11_dayBy_59 : decode (cd mX11_dayBy) 59 = .ok (.iconst 0, 1) := by decide +kernel
theorem d_X11_dayBy_60 : decode (cd mX11_dayBy) 60 = .ok (.iadd, 1) := by decide +kernel
theorem d_X11_dayBy_61 : decode (cd mX11_dayBy) 61 = .ok (.istore 4, 2) := by decide +kernel
theorem d_X11_dayBy_63 : decode (cd mX11_dayBy) 63 = .ok (.aload_n 1, 1) := by decide +kernel
theorem d_X11_dayBy_64 : decode (cd mX11_dayBy) 64 = .ok (.iconst 1, 1) := by decide +kernel
theorem d_X11_dayBy_65 : decode (cd mX11_dayBy) 65 = .ok (.iload 4, 2) := by decide +kernel
theorem d_X11_dayBy_67 : decode (cd mX11_dayBy) 67 = .ok (.bipush 100, 2) := by decide +kernel
theorem d_X11_dayBy_69 : decode (cd mX11_dayBy) 69 = .ok (.if_icmp .le 8, 3) := by decide +kernel
theorem d_X11_dayBy_72 : decode (cd mX11_dayBy) 72 = .ok (.bipush 100, 2) := by decide +kernel
theorem d_X11_dayBy_74 : decode (cd mX11_dayBy) 74 = .ok (.goto 14, 3) := by decide +kernel
theorem d_X11_dayBy_77 : decode (cd mX11_dayBy) 77 = .ok (.iload 4, 2) := by decide +kernel
theorem d_X11_dayBy_79 : decode (cd mX11_dayBy) 79 = .ok (.ifCond .ge 7, 3) := by decide +kernel
theorem d_X11_dayBy_82 : decode (cd mX11_dayBy) 82 = .ok (.iconst 0, 1) := by decide +kernel
theorem d_X11_dayBy_83 : decode (cd mX11_dayBy) 83 = .ok (.goto 5, 3) := by decide +kernel
theorem d_X11_dayBy_86 : decode (cd mX11_dayBy) 86 = .ok (.iload 4, 2) := by decide +kernel
theorem d_X11_dayBy_88 : decode (cd mX11_dayBy) 88 = .ok (.iastore, 1) := by decide +kernel
theorem d_X11_dayBy_89 : decode (cd mX11_dayBy) 89 = .ok (.aload_n 1, 1) := by decide +kernel
theorem d_X11_dayBy_90 : decode (cd mX11_dayBy) 90 = .ok (.iconst 0, 1) := by decide +kernel
theorem d_X11_dayBy_91 : decode (cd mX11_dayBy) 91 = .ok (.aload_n 1, 1) := by decide +kernel
theorem d_X11_dayBy_92 : decode (cd mX11_dayBy) 92 = .ok (.iconst 0, 1) := by decide +kernel
theorem d_X11_dayBy_93 : decode (cd mX11_dayBy) 93 = .ok (.iaload, 1) := by decide +kernel
theorem d_X11_dayBy_94 : decode (cd mX11_dayBy) 94 = .ok (.aload_n 0, 1) := by decide +kernel
theorem d_X11_dayBy_95 : decode (cd mX11_dayBy) 95 = .ok (.aload_n 1, 1) := by decide +kernel
theorem d_X11_dayBy_96 : decode (cd mX11_dayBy) 96 = .ok (.invokevirtual 272, 3) := by decide +kernel
theorem d_X11_dayBy_99 : decode (cd mX11_dayBy) 99 = .ok (.aload_n 1, 1) := by decide +kernel
theorem d_X11_dayBy_100 : decode (cd mX11_dayBy) 100 = .ok (.iconst 1, 1) := by decide +kernel
theorem d_X11_dayBy_101 : decode (cd mX11_dayBy) 101 = .ok (.iaload, 1) := by decide +kernel
theorem d_X11_dayBy_102 : decode (cd mX11_dayBy) 102 = .ok (.aload_n 1, 1) := by decide +kernel
theorem d_X11_dayBy_103 : decode (cd mX11_dayBy) 103 = .ok (.iconst 2, 1) := by decide +kernel
theorem d_X11_dayBy_104 : decode (cd mX11_dayBy) 104 = .ok (.iaload, 1) := by decide +kernel
theorem d_X11_dayBy_105 : decode (cd mX11_dayBy) 105 = .ok (.iload_n 2, 1) := by decide +kernel
theorem d_X11_dayBy_106 : decode (cd mX11_dayBy) 106 = .ok (.invokestatic 275, 3) := by decide +kernel
theorem d_X11_dayBy_109 : decode (cd mX11_dayBy) 109 = .ok (.invokestatic 279, 3) := by decide +kernel
theorem d_X11_dayBy_112 : decode (cd mX11_dayBy) 112 = .ok (.iastore, 1) := by decide +kernel
theorem d_X11_dayBy_113 : decode (cd mX11_dayBy) 113 = .ok (.aload_n 1, 1) := by decide +kernel
theorem d_X11_dayBy_114 : decode (cd mX11_dayBy) 114 = .ok (.iconst 3, 1) := by decide +kernel
theorem d_X11_dayBy_115 : decode (cd mX11_dayBy) 115 = .ok (.iconst 0, 1) := by decide +kernel
theorem d_X11_dayBy_116 : decode (cd mX11_dayBy) 116 = .ok (.iastore, 1) := by decide +kernel
theorem d_X11_dayBy_117 : decode (cd mX11_dayBy) 117 = .ok (.iconst 0, 1) := by decide +kernel
theorem d_X11_dayBy_118 : decode (cd mX11_dayBy) 118 = .ok (.istore 5, 2) := by decide +kernel
theorem d_X11_dayBy_120 : decode (cd mX11_dayBy) 120 = .ok (.iload 5, 2) := by decide +kernel
theorem d_X11_dayBy_122 : decode (cd mX11_dayBy) 122 = .ok (.aload_n 0, 1) := by decide +kernel
theorem d_X11_dayBy_123 : decode (cd mX11_dayBy) 123 = .ok (.getfield 20, 3) := by decide +kernel
theorem d_X11_dayBy_126 : decode (cd mX11_dayBy) 126 = .ok (.bipush 6, 2) := by decide +kernel
theorem d_X11_dayBy_128 : decode (cd mX11_dayBy) 128 = .ok (.iaload, 1) := by decide +kernel
theorem d_X11_dayBy_129 : decode (cd mX11_dayBy) 129 = .ok (.if_icmp .ge 62, 3) := by decide +kernel
theorem d_X11_dayBy_132 : decode (cd mX11_dayBy) 132 = .ok (.aload_n 1, 1) := by decide +kernel
theorem d_X11_dayBy_133 : decode (cd mX11_dayBy) 133 = .ok (.bipush 6, 2) := by decide +kernel
theorem d_X11_dayBy_135 : decode (cd mX11_dayBy) 135 = .ok (.dup2, 1) := by decide +kernel
theorem d_X11_dayBy_136 : decode (cd mX11_dayBy) 136 = .ok (.iaload, 1) := by decide +kernel
theorem d_X11_dayBy_137 : decode (cd mX11_dayBy) 137 = .ok (.aload_n 0, 1) := by decide +kernel
theorem d_X11_dayBy_138 : decode (cd mX11_dayBy) 138 = .ok (.getfield 20, 3) := by decide +kernel
theorem d_X11_dayBy_141 : decode (cd mX11_dayBy) 141 = .ok (.bipush 25, 2) := by decide +kernel
theorem d_X11_dayBy_143 : decode (cd mX11_dayBy) 143 = .ok (.iconst 3, 1) := by decide +kernel
theorem d_X11_dayBy_144 : decode (cd mX11_dayBy) 144 = .ok (.iload 5, 2) := by decide +kernel
theorem d_X11_dayBy_146 : decode (cd mX11_dayBy) 146 = .ok (.imul, 1) := by decide +kernel
theorem d_X11_dayBy_147 : decode (cd mX11_dayBy) 147 = .ok (.iadd, 1) := by decide +kernel
theorem d_X11_dayBy_148 : decode (cd mX11_dayBy) 148 = .ok (.iaload, 1) := by decide +kernel
theorem d_X11_dayBy_149 : decode (cd mX11_dayBy) 149 = .ok (.aload_n 1, 1) := by decide +kernel
theorem d_X11_dayBy_150 : decode (cd mX11_dayBy) 150 = .ok (.iconst 4, 1) := by decide +kernel
theorem d_X11_dayBy_151 : decode (cd mX11_dayBy) 151 = .ok (.iaload, 1) := by decide +kernel
theorem d_X11_dayBy_152 : decode (cd mX11_dayBy) 152 = .ok (.if_icmp .ne 30, 3) := by decide +kernel
theorem d_X11_dayBy_155 : decode (cd mX11_dayBy) 155 = .ok (.aload_n 0, 1) := by decide +kernel
theorem d_X11_dayBy_156 : decode (cd mX11_dayBy) 156 = .ok (.getfield 20, 3) := by decide +kernel
theorem d_X11_dayBy_159 : decode (cd mX11_dayBy) 159 = .ok (.bipush 25, 2) := by decide +kernel
theorem d_X11_dayBy_161 : decode (cd mX11_dayBy) 161 = .ok (.iconst 3, 1) := by decide +kernel
theorem d_X11_dayBy_162 : decode (cd mX11_dayBy) 162 = .ok (.iload 5, 2) := by decide +kernel
theorem d_X11_dayBy_164 : decode (cd mX11_dayBy) 164 = .ok (.imul, 1) := by decide +kernel
theorem d_X11_dayBy_165 : decode (cd mX11_dayBy) 165 = .ok (.iadd, 1) := by decide +kernel
theorem d_X11_dayBy_166 : decode (cd mX11_dayBy) 166 = .ok (.iconst 1, 1) := by decide +kernel
theorem d_X11_dayBy_167 : decode (cd mX11_dayBy) 167 = .ok (.iadd, 1) := by decide +kernel
theorem d_X11_dayBy_168 : decode (cd mX11_dayBy) 168 = .ok (.iaload, 1) := by decide +kernel
theorem d_X11_dayBy_169 : decode (cd mX11_dayBy) 169 = .ok (.aload_n 1, 1) := by decide +kernel
theorem d_X11_dayBy_170 : decode (cd mX11_dayBy) 170 = .ok (.iconst 5, 1) := by decide +kernel
theorem d_X11_dayBy_171 : decode (cd mX11_dayBy) 171 = .ok (.iaload, 1) := by decide +kernel
theorem d_X11_dayBy_172 : decode (cd mX11_dayBy) 172 = .ok (.if_icmp .ne 10, 3) := by decide +kernel
theorem d_X11_dayBy_175 : decode (cd mX11_dayBy) 175 = .ok (.iconst 1, 1) := by decide +kernel
theorem d_X11_dayBy_176 : decode (cd mX11_dayBy) 176 = .ok (.iload 5, 2) := by decide +kernel
theorem d_X11_dayBy_178 : decode (cd mX11_dayBy) 178 = .ok (.ishl, 1) := by decide +kernel
theorem d_X11_dayBy_179 : decode (cd mX11_dayBy) 179 = .ok (.goto 4, 3) := by decide +kernel
theorem d_X11_dayBy_182 : decode (cd mX11_dayBy) 182 = .ok (.iconst 0, 1) := by decide +kernel
theorem d_X11_dayBy_183 : decode (cd mX11_dayBy) 183 = .ok (.ior, 1) := by decide +kernel
theorem d_X11_dayBy_184 : decode (cd mX11_dayBy) 184 = .ok (.iastore, 1) := by decide +kernel
theorem d_X11_dayBy_185 : decode (cd mX11_dayBy) 185 = .ok (.iinc 5 1, 3) := by decide +kernel
theorem d_X11_dayBy_188 : decode (cd mX11_dayBy) 188 = .ok (.goto (-68), 3) := by decide +kernel
theorem d_X11_dayBy_191 : decode (cd mX11_dayBy) 191 = .ok (.aload_n 1, 1) := by decide +kernel
theorem d_X11_dayBy_192 : decode (cd mX11_dayBy) 192 = .ok (.iconst 4, 1) := by decide +kernel
theorem d_X11_dayBy_193 : decode (cd mX11_dayBy) 193 = .ok (.dup2, 1) := by decide +kernel
theorem d_X11_dayBy_194 : decode (cd mX11_dayBy) 194 = .ok (.iaload, 1) := by decide +kernel
theorem d_X11_dayBy_195 : decode (cd mX11_dayBy) 195 = .ok (.iconst 1, 1) := by decide +kernel
theorem d_X11_dayBy_196 : decode (cd mX11_dayBy) 196 = .ok (.iadd, 1) := by decide +kernel
theorem d_X11_dayBy_197 : decode (cd mX11_dayBy) 197 = .ok (.iastore, 1) := by decide +kernel
theorem d_X11_dayBy_198 : decode (cd mX11_dayBy) 198 = .ok (.return_, 1) := by decide +kernel
theorem d_X11_dayOf_0 : decode (cd mX11_dayOf) 0 = .ok (.aload_n 0, 1) := by decide +kernel
theorem d_X11_dayOf_1 : decode (cd mX11_dayOf) 1 = .ok (.aload_n 1, 1) := by decide +kernel
theorem d_X11_dayOf_2 : decode (cd mX11_dayOf) 2 = .ok (.aload_n 0, 1) := by decide +kernel
theorem d_X11_dayOf_3 : decode (cd mX11_dayOf) 3 = .ok (.getfield 20, 3) := by decide +kernel
theorem d_X11_dayOf_6 : decode (cd mX11_dayOf) 6 = .ok (.iconst 0, 1) := by decide +kernel
theorem d_X11_dayOf_7 : decode (cd mX11_dayOf) 7 = .ok (.iaload, 1) := by decide +kernel
theorem d_X11_dayOf_8 : decode (cd mX11_dayOf) 8 = .ok (.invokevirtual 282, 3) := by decide +kernel
theorem d_X11_dayOf_11 : decode (cd mX11_dayOf) 11 = .ok (.return_, 1) := by decide +kernel
theorem d_X11_begin_0 : decode (cd mX11_begin) 0 = .ok (.aload_n 0, 1) := by decide +kernel
theorem d_X11_begin_1 : decode (cd mX11_begin) 1 = .ok (.getfield 26, 3) := by decide +kernel
theorem d_X11_begin_4 : decode (cd mX11_begin) 4 = .ok (.iconst 0, 1) := by decide +kernel
theorem d_X11_begin_5 : decode (cd mX11_begin) 5 = .ok (.aload_n 0, 1) := by decide +kernel
theorem d_X11_begin_6 : decode (cd mX11_begin) 6 = .ok (.getfield 35, 3) := by decide +kernel
theorem d_X11_begin_9 : decode (cd mX11_begin) 9 = .ok (.iconst 0, 1) := by decide +kernel
theorem d_X11_begin_10 : decode (cd mX11_begin) 10 = .ok (.bipush 7, 2) := by decide +kernel
theorem d_X11_begin_12 : decode (cd mX11_begin) 12 = .ok (.invokestatic 177, 3) := by decide +kernel
theorem d_X11_begin_15 : decode (cd mX11_begin) 15 = .ok (.return_, 1) := by decide +kernel
theorem d_X11_goOver_0 : decode (cd mX11_goOver) 0 = .ok (.aload_n 0, 1) := by decide +kernel
theorem d_X11_goOver_1 : decode (cd mX11_goOver) 1 = .ok (.invokevirtual 285, 3) := by decide +kernel
theorem d_X11_goOver_4 : decode (cd mX11_goOver) 4 = .ok (.iconst 0, 1) := by decide +kernel
theorem d_X11_goOver_5 : decode (cd mX11_goOver) 5 = .ok (.istore_n 2, 1) := by decide +kernel
theorem d_X11_goOver_6 : decode (cd mX11_goOver) 6 = .ok (.iload_n 2, 1) := by decide +kernel
theorem d_X11_goOver_7 : decode (cd mX11_goOver) 7 = .ok (.iload_n 1, 1) := by decide +kernel
theorem d_X11_goOver_8 : decode (cd mX11_goOver) 8 = .ok (.if_icmp .ge 17, 3) := by decide +kernel
theorem d_X11_goOver_11 : decode (cd mX11_goOver) 11 = .ok (.aload_n 0, 1) := by decide +kernel
theorem d_X11_goOver_12 : decode (cd mX11_goOver) 12 = .ok (.aload_n 0, 1) := by decide +kernel
theorem d_X11_goOver_13 : decode (cd mX11_goOver) 13 = .ok (.getfield 35, 3) := by decide +kernel
theorem d_X11_goOver_16 : decode (cd mX11_goOver) 16 = .ok (.invokevirtual 288, 3) := by decide +kernel
theorem d_X11_goOver_19 : decode (cd mX11_goOver) 19 = .ok (.iinc 2 1, 3) := by decide +kernel
theorem d_X11_goOver_22 : decode (cd mX11_goOver) 22 = .ok (.goto (-16), 3) := by decide +kernel
theorem d_X11_goOver_25 : decode (cd mX11_goOver) 25 = .ok (.return_, 1) := by decide +kernel
theorem d_X11_worthsOf_0 : decode (cd mX11_worthsOf) 0 = .ok (.iconst 0, 1) := by decide +kernel
theorem d_X11_worthsOf_1 : decode (cd mX11_worthsOf) 1 = .ok (.istore 4, 2) := by decide +kernel
theorem d_X11_worthsOf_3 : decode (cd mX11_worthsOf) 3 = .ok (.iconst 0, 1) := by decide +kernel
theorem d_X11_worthsOf_4 : decode (cd mX11_worthsOf) 4 = .ok (.istore 5, 2) := by decide +kernel
theorem d_X11_worthsOf_6 : decode (cd mX11_worthsOf) 6 = .ok (.iload 5, 2) := by decide +kernel
theorem d_X11_worthsOf_8 : decode (cd mX11_worthsOf) 8 = .ok (.aload_n 0, 1) := by decide +kernel
theorem d_X11_worthsOf_9 : decode (cd mX11_worthsOf) 9 = .ok (.getfield 20, 3) := by decide +kernel
theorem d_X11_worthsOf_12 : decode (cd mX11_worthsOf) 12 = .ok (.bipush 6, 2) := by decide +kernel
theorem d_X11_worthsOf_14 : decode (cd mX11_worthsOf) 14 = .ok (.iaload, 1) := by decide +kernel
theorem d_X11_worthsOf_15 : decode (cd mX11_worthsOf) 15 = .ok (.if_icmp .ge 66, 3) := by decide +kernel
theorem d_X11_worthsOf_18 : decode (cd mX11_worthsOf) 18 = .ok (.iload 4, 2) := by decide +kernel
theorem d_X11_worthsOf_20 : decode (cd mX11_worthsOf) 20 = .ok (.aload_n 0, 1) := by decide +kernel
theorem d_X11_worthsOf_21 : decode (cd mX11_worthsOf) 21 = .ok (.getfield 20, 3) := by decide +kernel
theorem d_X11_worthsOf_24 : decode (cd mX11_worthsOf) 24 = .ok (.bipush 25, 2) := by decide +kernel
theorem d_X11_worthsOf_26 : decode (cd mX11_worthsOf) 26 = .ok (.iconst 3, 1) := by decide +kernel
theorem d_X11_worthsOf_27 : decode (cd mX11_worthsOf) 27 = .ok (.iload 5, 2) := by decide +kernel
theorem d_X11_worthsOf_29 : decode (cd mX11_worthsOf) 29 = .ok (.imul, 1) := by decide +kernel
theorem d_X11_worthsOf_30 : decode (cd mX11_worthsOf) 30 = .ok (.iadd, 1) := by decide +kernel
theorem d_X11_worthsOf_31 : decode (cd mX11_worthsOf) 31 = .ok (.iaload, 1) := by decide +kernel
theorem d_X11_worthsOf_32 : decode (cd mX11_worthsOf) 32 = .ok (.iload_n 2, 1) := by decide +kernel
theorem d_X11_worthsOf_33 : decode (cd mX11_worthsOf) 33 = .ok (.iload_n 3, 1) := by decide +kernel
theorem d_X11_worthsOf_34 : decode (cd mX11_worthsOf) 34 = .ok (.iconst 1, 1) := by decide +kernel
theorem d_X11_worthsOf_35 : decode (cd mX11_worthsOf) 35 = .ok (.isub, 1) := by decide +kernel
theorem d_X11_worthsOf_36 : decode (cd mX11_worthsOf) 36 = .ok (.invokestatic 149, 3) := by decide +kernel
theorem d_X11_worthsOf_39 : decode (cd mX11_worthsOf) 39 = .ok (.ifCond .eq 32, 3) := by decide +kernel
theorem d_X11_worthsOf_42 : decode (cd mX11_worthsOf) 42 = .ok (.aload_n 1, 1) := by decide +kernel
theorem d_X11_worthsOf_43 : decode (cd mX11_worthsOf) 43 = .ok (.bipush 6, 2) := by decide +kernel
theorem d_X11_worthsOf_45 : decode (cd mX11_worthsOf) 45 = .ok (.iaload, 1) := by decide +kernel
theorem d_X11_worthsOf_46 : decode (cd mX11_worthsOf) 46 = .ok (.iload 5, 2) := by decide +kernel
theorem d_X11_worthsOf_48 : decode (cd mX11_worthsOf) 48 = .ok (.invokestatic 261, 3) := by decide +kernel
theorem d_X11_worthsOf_51 : decode (cd mX11_worthsOf) 51 = .ok (.ifCond .eq 20, 3) := by decide +kernel
theorem d_X11_worthsOf_54 : decode (cd mX11_worthsOf) 54 = .ok (.aload_n 0, 1) := by decide +kernel
theorem d_X11_worthsOf_55 : decode (cd mX11_worthsOf) 55 = .ok (.getfield 20, 3) := by decide +kernel
theorem d_X11_worthsOf_58 : decode (cd mX11_worthsOf) 58 = .ok (.bipush 25, 2) := by decide +kernel
theorem d_X11_worthsOf_60 : decode (cd mX11_worthsOf) 60 = .ok (.iconst 3, 1) := by decide +kernel
theorem d_X11_worthsOf_61 : decode (cd mX11_worthsOf) 61 = .ok (.iload 5, 2) := by decide +kernel
theorem d_X11_worthsOf_63 : decode (cd mX11_worthsOf) 63 = .ok (.imul, 1) := by decide +kernel
theorem d_X11_worthsOf_64 : decode (cd mX11_worthsOf) 64 = .ok (.iadd, 1) := by decide +kernel
theorem d_X11_worthsOf_65 : decode (cd mX11_worthsOf) 65 = .ok (.iconst 2, 1) := by decide +kernel
theorem d_X11_worthsOf_66 : decode (cd mX11_worthsOf) 66 = .ok (.iadd, 1) := by decide +kernel
theorem d_X11_worthsOf_67 : decode (cd mX11_worthsOf) 67 = .ok (.iaload, 1) := by decide +kernel
theorem d_X11_worthsOf_68 : decode (cd mX11_worthsOf) 68 = .ok (.goto 4, 3) := by decide +kernel
theorem d_X11_worthsOf_71 : decode (cd mX11_worthsOf) 71 = .ok (.iconst 0, 1) := by decide +kernel
theorem d_X11_worthsOf_72 : decode (cd mX11_worthsOf) 72 = .ok (.iadd, 1) := by decide +kernel
theorem d_X11_worthsOf_73 : decode (cd mX11_worthsOf) 73 = .ok (.istore 4, 2) := by decide +kernel
theorem d_X11_worthsOf_75 : decode (cd mX11_worthsOf) 75 = .ok (.iinc 5 1, 3) := by decide +kernel
theorem d_X11_worthsOf_78 : decode (cd mX11_worthsOf) 78 = .ok (.goto (-72), 3) := by decide +kernel
theorem d_X11_worthsOf_81 : decode (cd mX11_worthsOf) 81 = .ok (.iload 4, 2) := by decide +kernel
theorem d_X11_worthsOf_83 : decode (cd mX11_worthsOf) 83 = .ok (.ireturn, 1) := by decide +kernel
theorem d_X11_beam_0 : decode (cd mX11_beam) 0 = .ok (.aload_n 0, 1) := by decide +kernel
theorem d_X11_beam_1 : decode (cd mX11_beam) 1 = .ok (.invokevirtual 168, 3) := by decide +kernel
theorem d_X11_beam_4 : decode (cd mX11_beam) 4 = .ok (.aload_n 0, 1) := by decide +kernel
theorem d_X11_beam_5 : decode (cd mX11_beam) 5 = .ok (.getfield 185, 3) := by decide +kernel
theorem d_X11_beam_8 : decode (cd mX11_beam) 8 = .ok (.ifCond .eq 12, 3) := by decide +kernel
theorem d_X11_beam_11 : decode (cd mX11_beam) 11 = .ok (.iload_n 1, 1) := by decide +kernel
theorem d_X11_beam_12 : decode (cd mX11_beam) 12 = .ok (.iconst 0, 1) := by decide +kernel
theorem d_X11_beam_13 : decode (cd mX11_beam) 13 = .ok (.iconst 5, 1) := by decide +kernel
theorem d_X11_beam_14 : decode (cd mX11_beam) 14 = .ok (.invokestatic 149, 3) := by decide +kernel
theorem d_X11_beam_17 : decode (cd mX11_beam) 17 = .ok (.ifCond .ne 9, 3) := by decide +kernel
theorem d_X11_beam_20 : decode (cd mX11_beam) 20 = .ok (.aload_n 0, 1) := by decide +kernel
theorem d_X11_beam_21 : decode (cd mX11_beam) 21 = .ok (.iconst 1, 1) := by decide +kernel
theorem d_X11_beam_22 : decode (cd mX11_beam) 22 = .ok (.invokevirtual 171, 3) := by decide +kernel
theorem d_X11_beam_25 : decode (cd mX11_beam) 25 = .ok (.ireturn, 1) := by decide +kernel
theorem d_X11_beam_26 : decode (cd mX11_beam) 26 = .ok (.iload_n 1, 1) := by decide +kernel
theorem d_X11_beam_27 : decode (cd mX11_beam) 27 = .ok (.tableswitch 72 0 4 #[33, 43, 50, 58, 65], 33) := by decide +kernel
theorem d_X11_beam_60 : decode (cd mX11_beam) 60 = .ok (.aload_n 0, 1) := by decide +kernel
theorem d_X11_beam_61 : decode (cd mX11_beam) 61 = .ok (.getfield 26, 3) := by decide +kernel
theorem d_X11_beam_64 : decode (cd mX11_beam) 64 = .ok (.iconst 0, 1) := by decide +kernel
theorem d_X11_beam_65 : decode (cd mX11_beam) 65 = .ok (.iaload, 1) := by decide +kernel
theorem d_X11_beam_66 : decode (cd mX11_beam) 66 = .ok (.bipush 9, 2) := by decide +kernel
theorem d_X11_beam_68 : decode (cd mX11_beam) 68 = .ok (.iadd, 1) := by decide +kernel
theorem d_X11_beam_69 : decode (cd mX11_beam) 69 = .ok (.ireturn, 1) := by decide +kernel
theorem d_X11_beam_70 : decode (cd mX11_beam) 70 = .ok (.aload_n 0, 1) := by decide +kernel
theorem d_X11_beam_71 : decode (cd mX11_beam) 71 = .ok (.getfield 26, 3) := by decide +kernel
theorem d_X11_beam_74 : decode (cd mX11_beam) 74 = .ok (.iconst 1, 1) := by decide +kernel
theorem d_X11_beam_75 : decode (cd mX11_beam) 75 = .ok (.iaload, 1) := by decide +kernel
theorem d_X11_beam_76 : decode (cd mX11_beam) 76 = .ok (.ireturn, 1) := by decide +kernel
theorem d_X11_beam_77 : decode (cd mX11_beam) 77 = .ok (.aload_n 0, 1) := by decide +kernel
theorem d_X11_beam_78 : decode (cd mX11_beam) 78 = .ok (.getfield 26, 3) := by decide +kernel
theorem d_X11_beam_81 : decode (cd mX11_beam) 81 = .ok (.invokestatic 268, 3) := by decide +kernel
theorem d_X11_beam_84 : decode (cd mX11_beam) 84 = .ok (.ireturn, 1) := by decide +kernel
theorem d_X11_beam_85 : decode (cd mX11_beam) 85 = .ok (.aload_n 0, 1) := by decide +kernel
theorem d_X11_beam_86 : decode (cd mX11_beam) 86 = .ok (.getfield 26, 3) := by decide +kernel
theorem d_X11_beam_89 : decode (cd mX11_beam) 89 = .ok (.iconst 2, 1) := by decide +kernel
theorem d_X11_beam_90 : decode (cd mX11_beam) 90 = .ok (.iaload, 1) := by decide +kernel
theorem d_X11_beam_91 : decode (cd mX11_beam) 91 = .ok (.ireturn, 1) := by decide +kernel
theorem d_X11_beam_92 : decode (cd mX11_beam) 92 = .ok (.aload_n 0, 1) := by decide +kernel
theorem d_X11_beam_93 : decode (cd mX11_beam) 93 = .ok (.getfield 26, 3) := by decide +kernel
theorem d_X11_beam_96 : decode (cd mX11_beam) 96 = .ok (.iconst 5, 1) := by decide +kernel
theorem d_X11_beam_97 : decode (cd mX11_beam) 97 = .ok (.iaload, 1) := by decide +kernel
theorem d_X11_beam_98 : decode (cd mX11_beam) 98 = .ok (.ireturn, 1) := by decide +kernel
theorem d_X11_beam_99 : decode (cd mX11_beam) 99 = .ok (.aload_n 0, 1) := by decide +kernel
theorem d_X11_beam_100 : decode (cd mX11_beam) 100 = .ok (.getfield 26, 3) := by decide +kernel
theorem d_X11_beam_103 : decode (cd mX11_beam) 103 = .ok (.iconst 1, 1) := by decide +kernel
theorem d_X11_beam_104 : decode (cd mX11_beam) 104 = .ok (.iaload, 1) := by decide +kernel
theorem d_X11_beam_105 : decode (cd mX11_beam) 105 = .ok (.invokestatic 258, 3) := by decide +kernel
theorem d_X11_beam_108 : decode (cd mX11_beam) 108 = .ok (.bipush 9, 2) := by decide +kernel
theorem d_X11_beam_110 : decode (cd mX11_beam) 110 = .ok (.iadd, 1) := by decide +kernel
theorem d_X11_beam_111 : decode (cd mX11_beam) 111 = .ok (.ireturn, 1) := by decide +kernel
theorem d_X11_isVent_0 : decode (cd mX11_isVent) 0 = .ok (.aload_n 0, 1) := by decide +kernel
theorem d_X11_isVent_1 : decode (cd mX11_isVent) 1 = .ok (.getfield 185, 3) := by decide +kernel
theorem d_X11_isVent_4 : decode (cd mX11_isVent) 4 = .ok (.ifCond .eq 23, 3) := by decide +kernel
theorem d_X11_isVent_7 : decode (cd mX11_isVent) 7 = .ok (.iload_n 1, 1) := by decide +kernel
theorem d_X11_isVent_8 : decode (cd mX11_isVent) 8 = .ok (.iconst 0, 1) := by decide +kernel
theorem d_X11_isVent_9 : decode (cd mX11_isVent) 9 = .ok (.aload_n 0, 1) := by decide +kernel
theorem d_X11_isVent_10 : decode (cd mX11_isVent) 10 = .ok (.getfield 20, 3) := by decide +kernel
theorem d_X11_isVent_13 : decode (cd mX11_isVent) 13 = .ok (.iconst 5, 1) := by decide +kernel
theorem d_X11_isVent_14 : decode (cd mX11_isVent) 14 = .ok (.iaload, 1) := by decide +kernel
theorem d_X11_isVent_15 : decode (cd mX11_isVent) 15 = .ok (.iconst 1, 1) := by decide +kernel
theorem d_X11_isVent_16 : decode (cd mX11_isVent) 16 = .ok (.isub, 1) := by decide +kernel
theorem d_X11_isVent_17 : decode (cd mX11_isVent) 17 = .ok (.invokestatic 149, 3) := by decide +kernel
theorem d_X11_isVent_20 : decode (cd mX11_isVent) 20 = .ok (.ifCond .eq 7, 3) := by decide +kernel
theorem d_X11_isVent_23 : decode (cd mX11_isVent) 23 = .ok (.iconst 1, 1) := by decide +kernel
theorem d_X11_isVent_24 : decode (cd mX11_isVent) 24 = .ok (.goto 4, 3) := by decide +kernel
theorem d_X11_isVent_27 : decode (cd mX11_isVent) 27 = .ok (.iconst 0, 1) := by decide +kernel
theorem d_X11_isVent_28 : decode (cd mX11_isVent) 28 = .ok (.ireturn, 1) := by decide +kernel
theorem d_X11_vent_0 : decode (cd mX11_vent) 0 = .ok (.aload_n 0, 1) := by decide +kernel
theorem d_X11_vent_1 : decode (cd mX11_vent) 1 = .ok (.invokevirtual 168, 3) := by decide +kernel
theorem d_X11_vent_4 : decode (cd mX11_vent) 4 = .ok (.aload_n 0, 1) := by decide +kernel
theorem d_X11_vent_5 : decode (cd mX11_vent) 5 = .ok (.iload_n 1, 1) := by decide +kernel
theorem d_X11_vent_6 : decode (cd mX11_vent) 6 = .ok (.invokevirtual 292, 3) := by decide +kernel
theorem d_X11_vent_9 : decode (cd mX11_vent) 9 = .ok (.ifCond .eq 12, 3) := by decide +kernel
theorem d_X11_vent_12 : decode (cd mX11_vent) 12 = .ok (.iload_n 2, 1) := by decide +kernel
theorem d_X11_vent_13 : decode (cd mX11_vent) 13 = .ok (.iconst 0, 1) := by decide +kernel
theorem d_X11_vent_14 : decode (cd mX11_vent) 14 = .ok (.iconst 3, 1) := by decide +kernel
theorem d_X11_vent_15 : decode (cd mX11_vent) 15 = .ok (.invokestatic 149, 3) := by decide +kernel
theorem d_X11_vent_18 : decode (cd mX11_vent) 18 = .ok (.ifCond .ne 9, 3) := by decide +kernel
theorem d_X11_vent_21 : decode (cd mX11_vent) 21 = .ok (.aload_n 0, 1) := by decide +kernel
theorem d_X11_vent_22 : decode (cd mX11_vent) 22 = .ok (.iconst 1, 1) := by decide +kernel
theorem d_X11_vent_23 : decode (cd mX11_vent) 23 = .ok (.invokevirtual 171, 3) := by decide +kernel
theorem d_X11_vent_26 : decode (cd mX11_vent) 26 = .ok (.ireturn, 1) := by decide +kernel
theorem d_X11_vent_27 : decode (cd mX11_vent) 27 = .ok (.iload_n 2, 1) := by decide +kernel
theorem d_X11_vent_28 : decode (cd mX11_vent) 28 = .ok (.iconst 3, 1) := by decide +kernel
theorem d_X11_vent_29 : decode (cd mX11_vent) 29 = .ok (.if_icmp .ge 19, 3) := by decide +kernel
theorem d_X11_vent_32 : decode (cd mX11_vent) 32 = .ok (.aload_n 0, 1) := by decide +kernel
theorem d_X11_vent_33 : decode (cd mX11_vent) 33 = .ok (.getfield 20, 3) := by decide +kernel
theorem d_X11_vent_36 : decode (cd mX11_vent) 36 = .ok (.bipush 13, 2) := by decide +kernel
theorem d_X11_vent_38 : decode (cd mX11_vent) 38 = .ok (.iconst 3, 1) := by decide +kernel
theorem d_X11_vent_39 : decode (cd mX11_vent) 39 = .ok (.iload_n 1, 1) := by decide +kernel
theorem d_X11_vent_40 : decode (cd mX11_vent) 40 = .ok (.imul, 1) := by decide +kernel
theorem d_X11_vent_41 : decode (cd mX11_vent) 41 = .ok (.iadd, 1) := by decide +kernel
theorem d_X11_vent_42 : decode (cd mX11_vent) 42 = .ok (.iload_n 2, 1) := by decide +kernel
theorem d_X11_vent_43 : decode (cd mX11_vent) 43 = .ok (.iadd, 1) := by decide +kernel
theorem d_X11_vent_44 : decode (cd mX11_vent) 44 = .ok (.iaload, 1) := by decide +kernel
theorem d_X11_vent_45 : decode (cd mX11_vent) 45 = .ok (.goto 13, 3) := by decide +kernel
theorem d_X11_vent_48 : decode (cd mX11_vent) 48 = .ok (.aload_n 0, 1) := by decide +kernel
theorem d_X11_vent_49 : decode (cd mX11_vent) 49 = .ok (.getfield 26, 3) := by decide +kernel
theorem d_X11_vent_52 : decode (cd mX11_vent) 52 = .ok (.iconst 3, 1) := by decide +kernel
theorem d_X11_vent_53 : decode (cd mX11_vent) 53 = .ok (.iaload, 1) := by decide +kernel
theorem d_X11_vent_54 : decode (cd mX11_vent) 54 = .ok (.iload_n 1, 1) := by decide +kernel
theorem d_X11_vent_55 : decode (cd mX11_vent) 55 = .ok (.ishr, 1) := by decide +kernel
theorem d_X11_vent_56 : decode (cd mX11_vent) 56 = .ok (.iconst 1, 1) := by decide +kernel
theorem d_X11_vent_57 : decode (cd mX11_vent) 57 = .ok (.iand, 1) := by decide +kernel
theorem d_X11_vent_58 : decode (cd mX11_vent) 58 = .ok (.ireturn, 1) := by decide +kernel
theorem d_X11_plan_0 : decode (cd mX11_plan) 0 = .ok (.aload_n 0, 1) := by decide +kernel
theorem d_X11_plan_1 : decode (cd mX11_plan) 1 = .ok (.invokevirtual 168, 3) := by decide +kernel
theorem d_X11_plan_4 : decode (cd mX11_plan) 4 = .ok (.aload_n 0, 1) := by decide +kernel
theorem d_X11_plan_5 : decode (cd mX11_plan) 5 = .ok (.getfield 185, 3) := by decide +kernel
theorem d_X11_plan_8 : decode (cd mX11_plan) 8 = .ok (.ifCond .eq 29, 3) := by decide +kernel
theorem d_X11_plan_11 : decode (cd mX11_plan) 11 = .ok (.iload_n 1, 1) := by decide +kernel
theorem d_X11_plan_12 : decode (cd mX11_plan) 12 = .ok (.iconst 0, 1) := by decide +kernel
theorem d_X11_plan_13 : decode (cd mX11_plan) 13 = .ok (.aload_n 0, 1) := by decide +kernel
theorem d_X11_plan_14 : decode (cd mX11_plan) 14 = .ok (.getfield 20, 3) := by decide +kernel
theorem d_X11_plan_17 : decode (cd mX11_plan) 17 = .ok (.bipush 6, 2) := by decide +kernel
theorem d_X11_plan_19 : decode (cd mX11_plan) 19 = .ok (.iaload, 1) := by decide +kernel
theorem d_X11_plan_20 : decode (cd mX11_plan) 20 = .ok (.iconst 1, 1) := by decide +kernel
theorem d_X11_plan_21 : decode (cd mX11_plan) 21 = .ok (.isub, 1) := by decide +kernel
theorem d_X11_plan_22 : decode (cd mX11_plan) 22 = .ok (.invokestatic 149, 3) := by decide +kernel
theorem d_X11_plan_25 : decode (cd mX11_plan) 25 = .ok (.ifCond .eq 12, 3) := by decide +kernel
theorem d_X11_plan_28 : decode (cd mX11_plan) 28 = .ok (.iload_n 2, 1) := by decide +kernel
theorem d_X11_plan_29 : decode (cd mX11_plan) 29 = .ok (.iconst 0, 1) := by decide +kernel
theorem d_X11_plan_30 : decode (cd mX11_plan) 30 = .ok (.iconst 3, 1) := by decide +kernel
theorem d_X11_plan_31 : decode (cd mX11_plan) 31 = .ok (.invokestatic 149, 3) := by decide +kernel
theorem d_X11_plan_34 : decode (cd mX11_plan) 34 = .ok (.ifCond .ne 9, 3) := by decide +kernel
theorem d_X11_plan_37 : decode (cd mX11_plan) 37 = .ok (.aload_n 0, 1) := by decide +kernel
theorem d_X11_plan_38 : decode (cd mX11_plan) 38 = .ok (.iconst 1, 1) := by decide +kernel
theorem d_X11_plan_39 : decode (cd mX11_plan) 39 = .ok (.invokevirtual 171, 3) := by decide +kernel
theorem d_X11_plan_42 : decode (cd mX11_plan) 42 = .ok (.ireturn, 1) := by decide +kernel
theorem d_X11_plan_43 : decode (cd mX11_plan) 43 = .ok (.iload_n 2, 1) := by decide +kernel
theorem d_X11_plan_44 : decode (cd mX11_plan) 44 = .ok (.iconst 3, 1) := by decide +kernel
theorem d_X11_plan_45 : decode (cd mX11_plan) 45 = .ok (.if_icmp .ge 17, 3) := by decide +kernel
theorem d_X11_plan_48 : decode (cd mX11_plan) 48 = .ok (.aload_n 0, 1) := by decide +kernel
theorem d_X11_plan_49 : decode (cd mX11_plan) 49 = .ok (.getfield 20, 3) := by decide +kernel
theorem d_X11_plan_52 : decode (cd mX11_plan) 52 = .ok (.bipush 25, 2) := by decide +kernel
theorem d_X11_plan_54 : decode (cd mX11_plan) 54 = .ok (.iconst 3, 1) := by decide +kernel
theorem d_X11_plan_55 : decode (cd mX11_plan) 55 = .ok (.iload_n 1, 1) := by decide +kernel
theorem d_X11_plan_56 : decode (cd mX11_plan) 56 = .ok (.imul, 1) := by decide +kernel
theorem d_X11_plan_57 : decode (cd mX11_plan) 57 = .ok (.iadd, 1) := by decide +kernel
theorem d_X11_plan_58 : decode (cd mX11_plan) 58 = .ok (.iload_n 2, 1) := by decide +kernel
theorem d_X11_plan_59 : decode (cd mX11_plan) 59 = .ok (.iadd, 1) := by decide +kernel
theorem d_X11_plan_60 : decode (cd mX11_plan) 60 = .ok (.iaload, 1) := by decide +kernel
theorem d_X11_plan_61 : decode (cd mX11_plan) 61 = .ok (.ireturn, 1) := by decide +kernel
theorem d_X11_plan_62 : decode (cd mX11_plan) 62 = .ok (.aload_n 0, 1) := by decide +kernel
theorem d_X11_plan_63 : decode (cd mX11_plan) 63 = .ok (.invokevirtual 285, 3) := by decide +kernel
theorem d_X11_plan_66 : decode (cd mX11_plan) 66 = .ok (.aload_n 0, 1) := by decide +kernel
theorem d_X11_plan_67 : decode (cd mX11_plan) 67 = .ok (.getfield 35, 3) := by decide +kernel
theorem d_X11_plan_70 : decode (cd mX11_plan) 70 = .ok (.iconst 4, 1) := by decide +kernel
theorem d_X11_plan_71 : decode (cd mX11_plan) 71 = .ok (.iaload, 1) := by decide +kernel
theorem d_X11_plan_72 : decode (cd mX11_plan) 72 = .ok (.aload_n 0, 1) := by decide +kernel
theorem d_X11_plan_73 : decode (cd mX11_plan) 73 = .ok (.getfield 20, 3) := by decide +kernel
theorem d_X11_plan_76 : decode (cd mX11_plan) 76 = .ok (.bipush 25, 2) := by decide +kernel
theorem d_X11_plan_78 : decode (cd mX11_plan) 78 = .ok (.iconst 3, 1) := by decide +kernel
theorem d_X11_plan_79 : decode (cd mX11_plan) 79 = .ok (.iload_n 1, 1) := by decide +kernel
theorem d_X11_plan_80 : decode (cd mX11_plan) 80 = .ok (.imul, 1) := by decide +kernel
theorem d_X11_plan_81 : decode (cd mX11_plan) 81 = .ok (.iadd, 1) := by decide +kernel
theorem d_X11_plan_82 : decode (cd mX11_plan) 82 = .ok (.iaload, 1) := by decide +kernel
theorem d_X11_plan_83 : decode (cd mX11_plan) 83 = .ok (.if_icmp .gt 14, 3) := by decide +kernel
theorem d_X11_plan_86 : decode (cd mX11_plan) 86 = .ok (.aload_n 0, 1) := by decide +kernel
theorem d_X11_plan_87 : decode (cd mX11_plan) 87 = .ok (.aload_n 0, 1) := by decide +kernel
theorem d_X11_plan_88 : decode (cd mX11_plan) 88 = .ok (.getfield 35, 3) := by decide +kernel
theorem d_X11_plan_91 : decode (cd mX11_plan) 91 = .ok (.invokevirtual 288, 3) := by decide +kernel
theorem d_X11_plan_94 : decode (cd mX11_plan) 94 = .ok (.goto (-28), 3) := by decide +kernel
theorem d_X11_plan_97 : decode (cd mX11_plan) 97 = .ok (.aload_n 0, 1) := by decide +kernel
theorem d_X11_plan_98 : decode (cd mX11_plan) 98 = .ok (.getfield 35, 3) := by decide +kernel
theorem d_X11_plan_101 : decode (cd mX11_plan) 101 = .ok (.bipush 6, 2) := by decide +kernel
theorem d_X11_plan_103 : decode (cd mX11_plan) 103 = .ok (.iaload, 1) := by decide +kernel
theorem d_X11_plan_104 : decode (cd mX11_plan) 104 = .ok (.iload_n 1, 1) := by decide +kernel
theorem d_X11_plan_105 : decode (cd mX11_plan) 105 = .ok (.ishr, 1) := by decide +kernel
theorem d_X11_plan_106 : decode (cd mX11_plan) 106 = .ok (.iconst 1, 1) := by decide +kernel
theorem d_X11_plan_107 : decode (cd mX11_plan) 107 = .ok (.iand, 1) := by decide +kernel
theorem d_X11_plan_108 : decode (cd mX11_plan) 108 = .ok (.ireturn, 1) := by decide +kernel
theorem d_X11_why_0 : decode (cd mX11_why) 0 = .ok (.aload_n 0, 1) := by decide +kernel
theorem d_X11_why_1 : decode (cd mX11_why) 1 = .ok (.getfield 185, 3) := by decide +kernel
theorem d_X11_why_4 : decode (cd mX11_why) 4 = .ok (.ifCond .ne 7, 3) := by decide +kernel
theorem d_X11_why_7 : decode (cd mX11_why) 7 = .ok (.iconst 1, 1) := by decide +kernel
theorem d_X11_why_8 : decode (cd mX11_why) 8 = .ok (.goto 17, 3) := by decide +kernel
theorem d_X11_why_11 : decode (cd mX11_why) 11 = .ok (.iload_n 1, 1) := by decide +kernel
theorem d_X11_why_12 : decode (cd mX11_why) 12 = .ok (.iload_n 2, 1) := by decide +kernel
theorem d_X11_why_13 : decode (cd mX11_why) 13 = .ok (.iload_n 3, 1) := by decide +kernel
theorem d_X11_why_14 : decode (cd mX11_why) 14 = .ok (.invokestatic 149, 3) := by decide +kernel
theorem d_X11_why_17 : decode (cd mX11_why) 17 = .ok (.ifCond .eq 7, 3) := by decide +kernel
theorem d_X11_why_20 : decode (cd mX11_why) 20 = .ok (.iconst 0, 1) := by decide +kernel
theorem d_X11_why_21 : decode (cd mX11_why) 21 = .ok (.goto 4, 3) := by decide +kernel
theorem d_X11_why_24 : decode (cd mX11_why) 24 = .ok (.iconst 2, 1) := by decide +kernel
theorem d_X11_why_25 : decode (cd mX11_why) 25 = .ok (.ireturn, 1) := by decide +kernel
theorem d_X11_goes_0 : decode (cd mX11_goes) 0 = .ok (.aload_n 0, 1) := by decide +kernel
theorem d_X11_goes_1 : decode (cd mX11_goes) 1 = .ok (.invokevirtual 168, 3) := by decide +kernel
theorem d_X11_goes_4 : decode (cd mX11_goes) 4 = .ok (.aload_n 0, 1) := by decide +kernel
theorem d_X11_goes_5 : decode (cd mX11_goes) 5 = .ok (.iload_n 1, 1) := by decide +kernel
theorem d_X11_goes_6 : decode (cd mX11_goes) 6 = .ok (.iconst 0, 1) := by decide +kernel
theorem d_X11_goes_7 : decode (cd mX11_goes) 7 = .ok (.bipush 100, 2) := by decide +kernel
theorem d_X11_goes_9 : decode (cd mX11_goes) 9 = .ok (.invokevirtual 295, 3) := by decide +kernel
theorem d_X11_goes_12 : decode (cd mX11_goes) 12 = .ok (.istore_n 2, 1) := by decide +kernel
theorem d_X11_goes_13 : decode (cd mX11_goes) 13 = .ok (.iload_n 2, 1) := by decide +kernel
theorem d_X11_goes_14 : decode (cd mX11_goes) 14 = .ok (.ifCond .eq 11, 3) := by decide +kernel
theorem d_X11_goes_17 : decode (cd mX11_goes) 17 = .ok (.aload_n 0, 1) := by decide +kernel
theorem d_X11_goes_18 : decode (cd mX11_goes) 18 = .ok (.iload_n 2, 1) := by decide +kernel
theorem d_X11_goes_19 : decode (cd mX11_goes) 19 = .ok (.invokevirtual 171, 3) := by decide +kernel
theorem d_X11_goes_22 : decode (cd mX11_goes) 22 = .ok (.goto 19, 3) := by decide +kernel
theorem d_X11_goes_25 : decode (cd mX11_goes) 25 = .ok (.iload_n 1, 1) := by decide +kernel
theorem d_X11_goes_26 : decode (cd mX11_goes) 26 = .ok (.aload_n 0, 1) := by decide +kernel
theorem d_X11_goes_27 : decode (cd mX11_goes) 27 = .ok (.getfield 26, 3) := by decide +kernel
theorem d_X11_goes_30 : decode (cd mX11_goes) 30 = .ok (.iconst 2, 1) := by decide +kernel
theorem d_X11_goes_31 : decode (cd mX11_goes) 31 = .ok (.iaload, 1) := by decide +kernel
theorem d_X11_goes_32 : decode (cd mX11_goes) 32 = .ok (.aload_n 0, 1) := by decide +kernel
theorem d_X11_goes_33 : decode (cd mX11_goes) 33 = .ok (.getfield 20, 3) := by decide +kernel
theorem d_X11_goes_36 : decode (cd mX11_goes) 36 = .ok (.iconst 0, 1) := by decide +kernel
theorem d_X11_goes_37 : decode (cd mX11_goes) 37 = .ok (.iaload, 1) := by decide +kernel
theorem d_X11_goes_38 : decode (cd mX11_goes) 38 = .ok (.invokestatic 275, 3) := by decide +kernel
theorem d_X11_goes_41 : decode (cd mX11_goes) 41 = .ok (.ireturn, 1) := by decide +kernel
theorem d_X11_stays_0 : decode (cd mX11_stays) 0 = .ok (.aload_n 0, 1) := by decide +kernel
theorem d_X11_stays_1 : decode (cd mX11_stays) 1 = .ok (.invokevirtual 168, 3) := by decide +kernel
theorem d_X11_stays_4 : decode (cd mX11_stays) 4 = .ok (.aload_n 0, 1) := by decide +kernel
theorem d_X11_stays_5 : decode (cd mX11_stays) 5 = .ok (.getfield 185, 3) := by decide +kernel
theorem d_X11_stays_8 : decode (cd mX11_stays) 8 = .ok (.ifCond .ne 9, 3) := by decide +kernel
theorem d_X11_stays_11 : decode (cd mX11_stays) 11 = .ok (.aload_n 0, 1) := by decide +kernel
theorem d_X11_stays_12 : decode (cd mX11_stays) 12 = .ok (.iconst 1, 1) := by decide +kernel
theorem d_X11_stays_13 : decode (cd mX11_stays) 13 = .ok (.invokevirtual 171, 3) := by decide +kernel
theorem d_X11_stays_16 : decode (cd mX11_stays) 16 = .ok (.ireturn, 1) := by decide +kernel
theorem d_X11_stays_17 : decode (cd mX11_stays) 17 = .ok (.iconst (-1), 1) := by decide +kernel
theorem d_X11_stays_18 : decode (cd mX11_stays) 18 = .ok (.istore_n 1, 1) := by decide +kernel
theorem d_X11_stays_19 : decode (cd mX11_stays) 19 = .ok (.iconst (-1), 1) := by decide +kernel
theorem d_X11_stays_20 : decode (cd mX11_stays) 20 = .ok (.istore_n 2, 1) := by decide +kernel
theorem d_X11_stays_21 : decode (cd mX11_stays) 21 = .ok (.iconst 0, 1) := by decide +kernel
theorem d_X11_stays_22 : decode (cd mX11_stays) 22 = .ok (.istore_n 3, 1) := by decide +kernel
theorem d_X11_stays_23 : decode (cd mX11_stays) 23 = .ok (.iload_n 3, 1) := by decide +kernel
theorem d_X11_stays_24 : decode (cd mX11_stays) 24 = .ok (.bipush 100, 2) := by decide +kernel
theorem d_X11_stays_26 : decode (cd mX11_stays) 26 = .ok (.if_icmp .gt 62, 3) := by decide +kernel
theorem d_X11_stays_29 : decode (cd mX11_stays) 29 = .ok (.aload_n 0, 1) := by decide +kernel
theorem d_X11_stays_30 : decode (cd mX11_stays) 30 = .ok (.getfield 26, 3) := by decide +kernel
theorem d_X11_stays_33 : decode (cd mX11_stays) 33 = .ok (.iconst 0, 1) := by decide +kernel
theorem d_X11_stays_34 : decode (cd mX11_stays) 34 = .ok (.iaload, 1) := by decide +kernel
theorem d_X11_stays_35 : decode (cd mX11_stays) 35 = .ok (.iload_n 3, 1) := by decide +kernel
theorem d_X11_stays_36 : decode (cd mX11_stays) 36 = .ok (.invokestatic 258, 3) := by decide +kernel
theorem d_X11_stays_39 : decode (cd mX11_stays) 39 = .ok (.iload_n 3, 1) := by decide +kernel
theorem d_X11_stays_40 : decode (cd mX11_stays) 40 = .ok (.aload_n 0, 1) := by decide +kernel
theorem d_X11_stays_41 : decode (cd mX11_stays) 41 = .ok (.getfield 26, 3) := by decide +kernel
theorem d_X11_stays_44 : decode (cd mX11_stays) 44 = .ok (.iconst 2, 1) := by decide +kernel
theorem d_X11_stays_45 : decode (cd mX11_stays) 45 = .ok (.iaload, 1) := by decide +kernel
theorem d_X11_stays_46 : decode (cd mX11_stays) 46 = .ok (.aload_n 0, 1) := by decide +kernel
theorem d_X11_stays_47 : decode (cd mX11_stays) 47 = .ok (.getfield 20, 3) := by decide +kernel
theorem d_X11_stays_50 : decode (cd mX11_stays) 50 = .ok (.iconst 0, 1) := by decide +kernel
theorem d_X11_stays_51 : decode (cd mX11_stays) 51 = .ok (.iaload, 1) := by decide +kernel
theorem d_X11_stays_52 : decode (cd mX11_stays) 52 = .ok (.invokestatic 275, 3) := by decide +kernel
theorem d_X11_stays_55 : decode (cd mX11_stays) 55 = .ok (.invokestatic 279, 3) := by decide +kernel
theorem d_X11_stays_58 : decode (cd mX11_stays) 58 = .ok (.aload_n 0, 1) := by decide +kernel
theorem d_X11_stays_59 : decode (cd mX11_stays) 59 = .ok (.getfield 26, 3) := by decide +kernel
theorem d_X11_stays_62 : decode (cd mX11_stays) 62 = .ok (.iconst 0, 1) := by decide +kernel
theorem d_X11_stays_63 : decode (cd mX11_stays) 63 = .ok (.iaload, 1) := by decide +kernel
theorem d_X11_stays_64 : decode (cd mX11_stays) 64 = .ok (.if_icmp .eq 6, 3) := by decide +kernel
theorem d_X11_stays_67 : decode (cd mX11_stays) 67 = .ok (.goto 15, 3) := by decide +kernel
theorem d_X11_stays_70 : decode (cd mX11_stays) 70 = .ok (.iload_n 1, 1) := by decide +kernel
theorem d_X11_stays_71 : decode (cd mX11_stays) 71 = .ok (.ifCond .ge 7, 3) := by decide +kernel
theorem d_X11_stays_74 : decode (cd mX11_stays) 74 = .ok (.iload_n 3, 1) := by decide +kernel
theorem d_X11_stays_75 : decode (cd mX11_stays) 75 = .ok (.goto 4, 3) := by decide +kernel
theorem d_X11_stays_78 : decode (cd mX11_stays) 78 = .ok (.iload_n 1, 1) := by decide +kernel
theorem d_X11_stays_79 : decode (cd mX11_stays) 79 = .ok (.istore_n 1, 1) := by decide +kernel
theorem d_X11_stays_80 : decode (cd mX11_stays) 80 = .ok (.iload_n 3, 1) := by decide +kernel
theorem d_X11_stays_81 : decode (cd mX11_stays) 81 = .ok (.istore_n 2, 1) := by decide +kernel
theorem d_X11_stays_82 : decode (cd mX11_stays) 82 = .ok (.iinc 3 1, 3) := by decide +kernel
theorem d_X11_stays_85 : decode (cd mX11_stays) 85 = .ok (.goto (-62), 3) := by decide +kernel
theorem d_X11_stays_88 : decode (cd mX11_stays) 88 = .ok (.iload_n 1, 1) := by decide +kernel
theorem d_X11_stays_89 : decode (cd mX11_stays) 89 = .ok (.ifCond .ge 8, 3) := by decide +kernel
theorem d_X11_stays_92 : decode (cd mX11_stays) 92 = .ok (.bipush (-2), 2) := by decide +kernel
theorem d_X11_stays_94 : decode (cd mX11_stays) 94 = .ok (.goto 10, 3) := by decide +kernel
theorem d_X11_stays_97 : decode (cd mX11_stays) 97 = .ok (.sipush 1000, 3) := by decide +kernel
theorem d_X11_stays_100 : decode (cd mX11_stays) 100 = .ok (.iload_n 1, 1) := by decide +kernel
theorem d_X11_stays_101 : decode (cd mX11_stays) 101 = .ok (.imul, 1) := by decide +kernel
theorem d_X11_stays_102 : decode (cd mX11_stays) 102 = .ok (.iload_n 2, 1) := by decide +kernel
theorem d_X11_stays_103 : decode (cd mX11_stays) 103 = .ok (.iadd, 1) := by decide +kernel
theorem d_X11_stays_104 : decode (cd mX11_stays) 104 = .ok (.ireturn, 1) := by decide +kernel
theorem d_X11_angleIn_0 : decode (cd mX11_angleIn) 0 = .ok (.aload_n 0, 1) := by decide +kernel
theorem d_X11_angleIn_1 : decode (cd mX11_angleIn) 1 = .ok (.invokevirtual 168, 3) := by decide +kernel
theorem d_X11_angleIn_4 : decode (cd mX11_angleIn) 4 = .ok (.aload_n 0, 1) := by decide +kernel
theorem d_X11_angleIn_5 : decode (cd mX11_angleIn) 5 = .ok (.iload_n 1, 1) := by decide +kernel
theorem d_X11_angleIn_6 : decode (cd mX11_angleIn) 6 = .ok (.iconst 0, 1) := by decide +kernel
theorem d_X11_angleIn_7 : decode (cd mX11_angleIn) 7 = .ok (.bipush 60, 2) := by decide +kernel
theorem d_X11_angleIn_9 : decode (cd mX11_angleIn) 9 = .ok (.invokevirtual 295, 3) := by decide +kernel
theorem d_X11_angleIn_12 : decode (cd mX11_angleIn) 12 = .ok (.istore_n 2, 1) := by decide +kernel
theorem d_X11_angleIn_13 : decode (cd mX11_angleIn) 13 = .ok (.iload_n 2, 1) := by decide +kernel
theorem d_X11_angleIn_14 : decode (cd mX11_angleIn) 14 = .ok (.ifCond .eq 9, 3) := by decide +kernel
theorem d_X11_angleIn_17 : decode (cd mX11_angleIn) 17 = .ok (.aload_n 0, 1) := by decide +kernel
theorem d_X11_angleIn_18 : decode (cd mX11_angleIn) 18 = .ok (.iload_n 2, 1) := by decide +kernel
theorem d_X11_angleIn_19 : decode (cd mX11_angleIn) 19 = .ok (.invokevirtual 171, 3) := by decide +kernel
theorem d_X11_angleIn_22 : decode (cd mX11_angleIn) 22 = .ok (.ireturn, 1) := by decide +kernel
theorem d_X11_angleIn_23 : decode (cd mX11_angleIn) 23 = .ok (.aload_n 0, 1) := by decide +kernel
theorem d_X11_angleIn_24 : decode (cd mX11_angleIn) 24 = .ok (.iload_n 1, 1) := by decide +kernel
theorem d_X11_angleIn_25 : decode (cd mX11_angleIn) 25 = .ok (.invokevirtual 298, 3) := by decide +kernel
theorem d_X11_angleIn_28 : decode (cd mX11_angleIn) 28 = .ok (.aload_n 0, 1) := by decide +kernel
theorem d_X11_angleIn_29 : decode (cd mX11_angleIn) 29 = .ok (.getfield 35, 3) := by decide +kernel
theorem d_X11_angleIn_32 : decode (cd mX11_angleIn) 32 = .ok (.iconst 0, 1) := by decide +kernel
theorem d_X11_angleIn_33 : decode (cd mX11_angleIn) 33 = .ok (.iaload, 1) := by decide +kernel
theorem d_X11_angleIn_34 : decode (cd mX11_angleIn) 34 = .ok (.bipush 9, 2) := by decide +kernel
theorem d_X11_angleIn_36 : decode (cd mX11_angleIn) 36 = .ok (.iadd, 1) := by decide +kernel
theorem d_X11_angleIn_37 : decode (cd mX11_angleIn) 37 = .ok (.ireturn, 1) := by decide +kernel
theorem d_X11_dampIn_0 : decode (cd mX11_dampIn) 0 = .ok (.aload_n 0, 1) := by decide +kernel
theorem d_X11_dampIn_1 : decode (cd mX11_dampIn) 1 = .ok (.invokevirtual 168, 3) := by decide +kernel
theorem d_X11_dampIn_4 : decode (cd mX11_dampIn) 4 = .ok (.aload_n 0, 1) := by decide +kernel
theorem d_X11_dampIn_5 : decode (cd mX11_dampIn) 5 = .ok (.iload_n 1, 1) := by decide +kernel
theorem d_X11_dampIn_6 : decode (cd mX11_dampIn) 6 = .ok (.iconst 0, 1) := by decide +kernel
theorem d_X11_dampIn_7 : decode (cd mX11_dampIn) 7 = .ok (.bipush 60, 2) := by decide +kernel
theorem d_X11_dampIn_9 : decode (cd mX11_dampIn) 9 = .ok (.invokevirtual 295, 3) := by decide +kernel
theorem d_X11_dampIn_12 : decode (cd mX11_dampIn) 12 = .ok (.istore_n 2, 1) := by decide +kernel
theorem d_X11_dampIn_13 : decode (cd mX11_dampIn) 13 = .ok (.iload_n 2, 1) := by decide +kernel
theorem d_X11_dampIn_14 : decode (cd mX11_dampIn) 14 = .ok (.ifCond .eq 9, 3) := by decide +kernel
theorem d_X11_dampIn_17 : decode (cd mX11_dampIn) 17 = .ok (.aload_n 0, 1) := by decide +kernel
theorem d_X11_dampIn_18 : decode (cd mX11_dampIn) 18 = .ok (.iload_n 2, 1) := by decide +kernel
theorem d_X11_dampIn_19 : decode (cd mX11_dampIn) 19 = .ok (.invokevirtual 171, 3) := by decide +kernel
theorem d_X11_dampIn_22 : decode (cd mX11_dampIn) 22 = .ok (.ireturn, 1) := by decide +kernel
theorem d_X11_dampIn_23 : decode (cd mX11_dampIn) 23 = .ok (.aload_n 0, 1) := by decide +kernel
theorem d_X11_dampIn_24 : decode (cd mX11_dampIn) 24 = .ok (.iload_n 1, 1) := by decide +kernel
theorem d_X11_dampIn_25 : decode (cd mX11_dampIn) 25 = .ok (.invokevirtual 298, 3) := by decide +kernel
theorem d_X11_dampIn_28 : decode (cd mX11_dampIn) 28 = .ok (.aload_n 0, 1) := by decide +kernel
theorem d_X11_dampIn_29 : decode (cd mX11_dampIn) 29 = .ok (.getfield 35, 3) := by decide +kernel
theorem d_X11_dampIn_32 : decode (cd mX11_dampIn) 32 = .ok (.iconst 1, 1) := by decide +kernel
theorem d_X11_dampIn_33 : decode (cd mX11_dampIn) 33 = .ok (.iaload, 1) := by decide +kernel
theorem d_X11_dampIn_34 : decode (cd mX11_dampIn) 34 = .ok (.ireturn, 1) := by decide +kernel
