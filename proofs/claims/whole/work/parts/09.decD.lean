theorem d_X11_whoIn_0 : decode (cd mX11_whoIn) 0 = .ok (.aload_n 0, 1) := by decide +kernel
theorem d_X11_whoIn_1 : decode (cd mX11_whoIn) 1 = .ok (.invokevirtual 168, 3) := by decide +kernel
theorem d_X11_whoIn_4 : decode (cd mX11_whoIn) 4 = .ok (.aload_n 0, 1) := by decide +kernel
theorem d_X11_whoIn_5 : decode (cd mX11_whoIn) 5 = .ok (.iload_n 1, 1) := by decide +kernel
theorem d_X11_whoIn_6 : decode (cd mX11_whoIn) 6 = .ok (.iconst 0, 1) := by decide +kernel
theorem d_X11_whoIn_7 : decode (cd mX11_whoIn) 7 = .ok (.bipush 60, 2) := by decide +kernel
theorem d_X11_whoIn_9 : decode (cd mX11_whoIn) 9 = .ok (.invokevirtual 295, 3) := by decide +kernel
theorem d_X11_whoIn_12 : decode (cd mX11_whoIn) 12 = .ok (.istore_n 2, 1) := by decide +kernel
theorem d_X11_whoIn_13 : decode (cd mX11_whoIn) 13 = .ok (.iload_n 2, 1) := by decide +kernel
theorem d_X11_whoIn_14 : decode (cd mX11_whoIn) 14 = .ok (.ifCond .eq 9, 3) := by decide +kernel
theorem d_X11_whoIn_17 : decode (cd mX11_whoIn) 17 = .ok (.aload_n 0, 1) := by decide +kernel
theorem d_X11_whoIn_18 : decode (cd mX11_whoIn) 18 = .ok (.iload_n 2, 1) := by decide +kernel
theorem d_X11_whoIn_19 : decode (cd mX11_whoIn) 19 = .ok (.invokevirtual 171, 3) := by decide +kernel
theorem d_X11_whoIn_22 : decode (cd mX11_whoIn) 22 = .ok (.ireturn, 1) := by decide +kernel
theorem d_X11_whoIn_23 : decode (cd mX11_whoIn) 23 = .ok (.aload_n 0, 1) := by decide +kernel
theorem d_X11_whoIn_24 : decode (cd mX11_whoIn) 24 = .ok (.iload_n 1, 1) := by decide +kernel
theorem d_X11_whoIn_25 : decode (cd mX11_whoIn) 25 = .ok (.invokevirtual 298, 3) := by decide +kernel
theorem d_X11_whoIn_28 : decode (cd mX11_whoIn) 28 = .ok (.aload_n 0, 1) := by decide +kernel
theorem d_X11_whoIn_29 : decode (cd mX11_whoIn) 29 = .ok (.getfield 35, 3) := by decide +kernel
theorem d_X11_whoIn_32 : decode (cd mX11_whoIn) 32 = .ok (.invokestatic 268, 3) := by decide +kernel
theorem d_X11_whoIn_35 : decode (cd mX11_whoIn) 35 = .ok (.ireturn, 1) := by decide +kernel
theorem d_X11_daysOf_0 : decode (cd mX11_daysOf) 0 = .ok (.aload_n 0, 1) := by decide +kernel
theorem d_X11_daysOf_1 : decode (cd mX11_daysOf) 1 = .ok (.invokevirtual 168, 3) := by decide +kernel
theorem d_X11_daysOf_4 : decode (cd mX11_daysOf) 4 = .ok (.aload_n 0, 1) := by decide +kernel
theorem d_X11_daysOf_5 : decode (cd mX11_daysOf) 5 = .ok (.getfield 185, 3) := by decide +kernel
theorem d_X11_daysOf_8 : decode (cd mX11_daysOf) 8 = .ok (.ifCond .ne 9, 3) := by decide +kernel
theorem d_X11_daysOf_11 : decode (cd mX11_daysOf) 11 = .ok (.aload_n 0, 1) := by decide +kernel
theorem d_X11_daysOf_12 : decode (cd mX11_daysOf) 12 = .ok (.iconst 1, 1) := by decide +kernel
theorem d_X11_daysOf_13 : decode (cd mX11_daysOf) 13 = .ok (.invokevirtual 171, 3) := by decide +kernel
theorem d_X11_daysOf_16 : decode (cd mX11_daysOf) 16 = .ok (.ireturn, 1) := by decide +kernel
theorem d_X11_daysOf_17 : decode (cd mX11_daysOf) 17 = .ok (.iload_n 1, 1) := by decide +kernel
theorem d_X11_daysOf_18 : decode (cd mX11_daysOf) 18 = .ok (.iconst 0, 1) := by decide +kernel
theorem d_X11_daysOf_19 : decode (cd mX11_daysOf) 19 = .ok (.iconst 2, 1) := by decide +kernel
theorem d_X11_daysOf_20 : decode (cd mX11_daysOf) 20 = .ok (.invokestatic 149, 3) := by decide +kernel
theorem d_X11_daysOf_23 : decode (cd mX11_daysOf) 23 = .ok (.ifCond .eq 13, 3) := by decide +kernel
theorem d_X11_daysOf_26 : decode (cd mX11_daysOf) 26 = .ok (.iload_n 2, 1) := by decide +kernel
theorem d_X11_daysOf_27 : decode (cd mX11_daysOf) 27 = .ok (.iconst 0, 1) := by decide +kernel
theorem d_X11_daysOf_28 : decode (cd mX11_daysOf) 28 = .ok (.bipush 60, 2) := by decide +kernel
theorem d_X11_daysOf_30 : decode (cd mX11_daysOf) 30 = .ok (.invokestatic 149, 3) := by decide +kernel
theorem d_X11_daysOf_33 : decode (cd mX11_daysOf) 33 = .ok (.ifCond .ne 9, 3) := by decide +kernel
theorem d_X11_daysOf_36 : decode (cd mX11_daysOf) 36 = .ok (.aload_n 0, 1) := by decide +kernel
theorem d_X11_daysOf_37 : decode (cd mX11_daysOf) 37 = .ok (.iconst 2, 1) := by decide +kernel
theorem d_X11_daysOf_38 : decode (cd mX11_daysOf) 38 = .ok (.invokevirtual 171, 3) := by decide +kernel
theorem d_X11_daysOf_41 : decode (cd mX11_daysOf) 41 = .ok (.ireturn, 1) := by decide +kernel
theorem d_X11_daysOf_42 : decode (cd mX11_daysOf) 42 = .ok (.aload_n 0, 1) := by decide +kernel
theorem d_X11_daysOf_43 : decode (cd mX11_daysOf) 43 = .ok (.invokevirtual 285, 3) := by decide +kernel
theorem d_X11_daysOf_46 : decode (cd mX11_daysOf) 46 = .ok (.iconst 0, 1) := by decide +kernel
theorem d_X11_daysOf_47 : decode (cd mX11_daysOf) 47 = .ok (.istore_n 3, 1) := by decide +kernel
theorem d_X11_daysOf_48 : decode (cd mX11_daysOf) 48 = .ok (.iconst 0, 1) := by decide +kernel
theorem d_X11_daysOf_49 : decode (cd mX11_daysOf) 49 = .ok (.istore 4, 2) := by decide +kernel
theorem d_X11_daysOf_51 : decode (cd mX11_daysOf) 51 = .ok (.iload 4, 2) := by decide +kernel
theorem d_X11_daysOf_53 : decode (cd mX11_daysOf) 53 = .ok (.iload_n 2, 1) := by decide +kernel
theorem d_X11_daysOf_54 : decode (cd mX11_daysOf) 54 = .ok (.if_icmp .ge 35, 3) := by decide +kernel
theorem d_X11_daysOf_57 : decode (cd mX11_daysOf) 57 = .ok (.aload_n 0, 1) := by decide +kernel
theorem d_X11_daysOf_58 : decode (cd mX11_daysOf) 58 = .ok (.aload_n 0, 1) := by decide +kernel
theorem d_X11_daysOf_59 : decode (cd mX11_daysOf) 59 = .ok (.getfield 35, 3) := by decide +kernel
theorem d_X11_daysOf_62 : decode (cd mX11_daysOf) 62 = .ok (.invokevirtual 288, 3) := by decide +kernel
theorem d_X11_daysOf_65 : decode (cd mX11_daysOf) 65 = .ok (.iload_n 3, 1) := by decide +kernel
theorem d_X11_daysOf_66 : decode (cd mX11_daysOf) 66 = .ok (.aload_n 0, 1) := by decide +kernel
theorem d_X11_daysOf_67 : decode (cd mX11_daysOf) 67 = .ok (.getfield 35, 3) := by decide +kernel
theorem d_X11_daysOf_70 : decode (cd mX11_daysOf) 70 = .ok (.iconst 5, 1) := by decide +kernel
theorem d_X11_daysOf_71 : decode (cd mX11_daysOf) 71 = .ok (.iaload, 1) := by decide +kernel
theorem d_X11_daysOf_72 : decode (cd mX11_daysOf) 72 = .ok (.iload_n 1, 1) := by decide +kernel
theorem d_X11_daysOf_73 : decode (cd mX11_daysOf) 73 = .ok (.if_icmp .ne 7, 3) := by decide +kernel
theorem d_X11_daysOf_76 : decode (cd mX11_daysOf) 76 = .ok (.iconst 1, 1) := by decide +kernel
theorem d_X11_daysOf_77 : decode (cd mX11_daysOf) 77 = .ok (.goto 4, 3) := by decide +kernel
theorem d_X11_daysOf_80 : decode (cd mX11_daysOf) 80 = .ok (.iconst 0, 1) := by decide +kernel
theorem d_X11_daysOf_81 : decode (cd mX11_daysOf) 81 = .ok (.iadd, 1) := by decide +kernel
theorem d_X11_daysOf_82 : decode (cd mX11_daysOf) 82 = .ok (.istore_n 3, 1) := by decide +kernel
theorem d_X11_daysOf_83 : decode (cd mX11_daysOf) 83 = .ok (.iinc 4 1, 3) := by decide +kernel
theorem d_X11_daysOf_86 : decode (cd mX11_daysOf) 86 = .ok (.goto (-35), 3) := by decide +kernel
theorem d_X11_daysOf_89 : decode (cd mX11_daysOf) 89 = .ok (.iload_n 3, 1) := by decide +kernel
theorem d_X11_daysOf_90 : decode (cd mX11_daysOf) 90 = .ok (.ireturn, 1) := by decide +kernel
theorem d_X11_when_0 : decode (cd mX11_when) 0 = .ok (.aload_n 0, 1) := by decide +kernel
theorem d_X11_when_1 : decode (cd mX11_when) 1 = .ok (.invokevirtual 168, 3) := by decide +kernel
theorem d_X11_when_4 : decode (cd mX11_when) 4 = .ok (.aload_n 0, 1) := by decide +kernel
theorem d_X11_when_5 : decode (cd mX11_when) 5 = .ok (.iload_n 1, 1) := by decide +kernel
theorem d_X11_when_6 : decode (cd mX11_when) 6 = .ok (.iconst 0, 1) := by decide +kernel
theorem d_X11_when_7 : decode (cd mX11_when) 7 = .ok (.iconst 3, 1) := by decide +kernel
theorem d_X11_when_8 : decode (cd mX11_when) 8 = .ok (.invokevirtual 295, 3) := by decide +kernel
theorem d_X11_when_11 : decode (cd mX11_when) 11 = .ok (.istore_n 2, 1) := by decide +kernel
theorem d_X11_when_12 : decode (cd mX11_when) 12 = .ok (.iload_n 2, 1) := by decide +kernel
theorem d_X11_when_13 : decode (cd mX11_when) 13 = .ok (.ifCond .eq 9, 3) := by decide +kernel
theorem d_X11_when_16 : decode (cd mX11_when) 16 = .ok (.aload_n 0, 1) := by decide +kernel
theorem d_X11_when_17 : decode (cd mX11_when) 17 = .ok (.iload_n 2, 1) := by decide +kernel
theorem d_X11_when_18 : decode (cd mX11_when) 18 = .ok (.invokevirtual 171, 3) := by decide +kernel
theorem d_X11_when_21 : decode (cd mX11_when) 21 = .ok (.ireturn, 1) := by decide +kernel
theorem d_X11_when_22 : decode (cd mX11_when) 22 = .ok (.aload_n 0, 1) := by decide +kernel
theorem d_X11_when_23 : decode (cd mX11_when) 23 = .ok (.invokevirtual 285, 3) := by decide +kernel
theorem d_X11_when_26 : decode (cd mX11_when) 26 = .ok (.iconst 0, 1) := by decide +kernel
theorem d_X11_when_27 : decode (cd mX11_when) 27 = .ok (.istore_n 3, 1) := by decide +kernel
theorem d_X11_when_28 : decode (cd mX11_when) 28 = .ok (.iload_n 3, 1) := by decide +kernel
theorem d_X11_when_29 : decode (cd mX11_when) 29 = .ok (.bipush 60, 2) := by decide +kernel
theorem d_X11_when_31 : decode (cd mX11_when) 31 = .ok (.if_icmp .gt 30, 3) := by decide +kernel
theorem d_X11_when_34 : decode (cd mX11_when) 34 = .ok (.aload_n 0, 1) := by decide +kernel
theorem d_X11_when_35 : decode (cd mX11_when) 35 = .ok (.getfield 35, 3) := by decide +kernel
theorem d_X11_when_38 : decode (cd mX11_when) 38 = .ok (.invokestatic 268, 3) := by decide +kernel
theorem d_X11_when_41 : decode (cd mX11_when) 41 = .ok (.iload_n 1, 1) := by decide +kernel
theorem d_X11_when_42 : decode (cd mX11_when) 42 = .ok (.if_icmp .ne 5, 3) := by decide +kernel
theorem d_X11_when_45 : decode (cd mX11_when) 45 = .ok (.iload_n 3, 1) := by decide +kernel
theorem d_X11_when_46 : decode (cd mX11_when) 46 = .ok (.ireturn, 1) := by decide +kernel
theorem d_X11_when_47 : decode (cd mX11_when) 47 = .ok (.aload_n 0, 1) := by decide +kernel
theorem d_X11_when_48 : decode (cd mX11_when) 48 = .ok (.aload_n 0, 1) := by decide +kernel
theorem d_X11_when_49 : decode (cd mX11_when) 49 = .ok (.getfield 35, 3) := by decide +kernel
theorem d_X11_when_52 : decode (cd mX11_when) 52 = .ok (.invokevirtual 288, 3) := by decide +kernel
theorem d_X11_when_55 : decode (cd mX11_when) 55 = .ok (.iinc 3 1, 3) := by decide +kernel
theorem d_X11_when_58 : decode (cd mX11_when) 58 = .ok (.goto (-30), 3) := by decide +kernel
theorem d_X11_when_61 : decode (cd mX11_when) 61 = .ok (.bipush (-2), 2) := by decide +kernel
theorem d_X11_when_63 : decode (cd mX11_when) 63 = .ok (.ireturn, 1) := by decide +kernel
theorem d_X11_round_0 : decode (cd mX11_round) 0 = .ok (.aload_n 0, 1) := by decide +kernel
theorem d_X11_round_1 : decode (cd mX11_round) 1 = .ok (.invokevirtual 168, 3) := by decide +kernel
theorem d_X11_round_4 : decode (cd mX11_round) 4 = .ok (.aload_n 0, 1) := by decide +kernel
theorem d_X11_round_5 : decode (cd mX11_round) 5 = .ok (.getfield 185, 3) := by decide +kernel
theorem d_X11_round_8 : decode (cd mX11_round) 8 = .ok (.ifCond .ne 9, 3) := by decide +kernel
theorem d_X11_round_11 : decode (cd mX11_round) 11 = .ok (.aload_n 0, 1) := by decide +kernel
theorem d_X11_round_12 : decode (cd mX11_round) 12 = .ok (.iconst 1, 1) := by decide +kernel
theorem d_X11_round_13 : decode (cd mX11_round) 13 = .ok (.invokevirtual 171, 3) := by decide +kernel
theorem d_X11_round_16 : decode (cd mX11_round) 16 = .ok (.ireturn, 1) := by decide +kernel
theorem d_X11_round_17 : decode (cd mX11_round) 17 = .ok (.iconst 0, 1) := by decide +kernel
theorem d_X11_round_18 : decode (cd mX11_round) 18 = .ok (.istore_n 1, 1) := by decide +kernel
theorem d_X11_round_19 : decode (cd mX11_round) 19 = .ok (.iload_n 1, 1) := by decide +kernel
theorem d_X11_round_20 : decode (cd mX11_round) 20 = .ok (.sipush 1919, 3) := by decide +kernel
theorem d_X11_round_23 : decode (cd mX11_round) 23 = .ok (.if_icmp .ge 16, 3) := by decide +kernel
theorem d_X11_round_26 : decode (cd mX11_round) 26 = .ok (.aload_n 0, 1) := by decide +kernel
theorem d_X11_round_27 : decode (cd mX11_round) 27 = .ok (.getfield 38, 3) := by decide +kernel
theorem d_X11_round_30 : decode (cd mX11_round) 30 = .ok (.iload_n 1, 1) := by decide +kernel
theorem d_X11_round_31 : decode (cd mX11_round) 31 = .ok (.iconst 0, 1) := by decide +kernel
theorem d_X11_round_32 : decode (cd mX11_round) 32 = .ok (.iastore, 1) := by decide +kernel
theorem d_X11_round_33 : decode (cd mX11_round) 33 = .ok (.iinc 1 1, 3) := by decide +kernel
theorem d_X11_round_36 : decode (cd mX11_round) 36 = .ok (.goto (-17), 3) := by decide +kernel
theorem d_X11_round_39 : decode (cd mX11_round) 39 = .ok (.aload_n 0, 1) := by decide +kernel
theorem d_X11_round_40 : decode (cd mX11_round) 40 = .ok (.invokevirtual 285, 3) := by decide +kernel
theorem d_X11_round_43 : decode (cd mX11_round) 43 = .ok (.iconst 0, 1) := by decide +kernel
theorem d_X11_round_44 : decode (cd mX11_round) 44 = .ok (.istore_n 1, 1) := by decide +kernel
theorem d_X11_round_45 : decode (cd mX11_round) 45 = .ok (.aload_n 0, 1) := by decide +kernel
theorem d_X11_round_46 : decode (cd mX11_round) 46 = .ok (.aload_n 0, 1) := by decide +kernel
theorem d_X11_round_47 : decode (cd mX11_round) 47 = .ok (.getfield 35, 3) := by decide +kernel
theorem d_X11_round_50 : decode (cd mX11_round) 50 = .ok (.invokevirtual 288, 3) := by decide +kernel
theorem d_X11_round_53 : decode (cd mX11_round) 53 = .ok (.iinc 1 1, 3) := by decide +kernel
theorem d_X11_round_56 : decode (cd mX11_round) 56 = .ok (.bipush 101, 2) := by decide +kernel
theorem d_X11_round_58 : decode (cd mX11_round) 58 = .ok (.aload_n 0, 1) := by decide +kernel
theorem d_X11_round_59 : decode (cd mX11_round) 59 = .ok (.getfield 35, 3) := by decide +kernel
theorem d_X11_round_62 : decode (cd mX11_round) 62 = .ok (.iconst 0, 1) := by decide +kernel
theorem d_X11_round_63 : decode (cd mX11_round) 63 = .ok (.iaload, 1) := by decide +kernel
theorem d_X11_round_64 : decode (cd mX11_round) 64 = .ok (.bipush 9, 2) := by decide +kernel
theorem d_X11_round_66 : decode (cd mX11_round) 66 = .ok (.iadd, 1) := by decide +kernel
theorem d_X11_round_67 : decode (cd mX11_round) 67 = .ok (.imul, 1) := by decide +kernel
theorem d_X11_round_68 : decode (cd mX11_round) 68 = .ok (.aload_n 0, 1) := by decide +kernel
theorem d_X11_round_69 : decode (cd mX11_round) 69 = .ok (.getfield 35, 3) := by decide +kernel
theorem d_X11_round_72 : decode (cd mX11_round) 72 = .ok (.iconst 1, 1) := by decide +kernel
theorem d_X11_round_73 : decode (cd mX11_round) 73 = .ok (.iaload, 1) := by decide +kernel
theorem d_X11_round_74 : decode (cd mX11_round) 74 = .ok (.iadd, 1) := by decide +kernel
theorem d_X11_round_75 : decode (cd mX11_round) 75 = .ok (.istore_n 2, 1) := by decide +kernel
theorem d_X11_round_76 : decode (cd mX11_round) 76 = .ok (.aload_n 0, 1) := by decide +kernel
theorem d_X11_round_77 : decode (cd mX11_round) 77 = .ok (.getfield 38, 3) := by decide +kernel
theorem d_X11_round_80 : decode (cd mX11_round) 80 = .ok (.iload_n 2, 1) := by decide +kernel
theorem d_X11_round_81 : decode (cd mX11_round) 81 = .ok (.iaload, 1) := by decide +kernel
theorem d_X11_round_82 : decode (cd mX11_round) 82 = .ok (.ifCond .le 18, 3) := by decide +kernel
theorem d_X11_round_85 : decode (cd mX11_round) 85 = .ok (.sipush 10000, 3) := by decide +kernel
theorem d_X11_round_88 : decode (cd mX11_round) 88 = .ok (.iload_n 1, 1) := by decide +kernel
theorem d_X11_round_89 : decode (cd mX11_round) 89 = .ok (.imul, 1) := by decide +kernel
theorem d_X11_round_90 : decode (cd mX11_round) 90 = .ok (.iload_n 1, 1) := by decide +kernel
theorem d_X11_round_91 : decode (cd mX11_round) 91 = .ok (.iadd, 1) := by decide +kernel
theorem d_X11_round_92 : decode (cd mX11_round) 92 = .ok (.aload_n 0, 1) := by decide +kernel
theorem d_X11_round_93 : decode (cd mX11_round) 93 = .ok (.getfield 38, 3) := by decide +kernel
theorem d_X11_round_96 : decode (cd mX11_round) 96 = .ok (.iload_n 2, 1) := by decide +kernel
theorem d_X11_round_97 : decode (cd mX11_round) 97 = .ok (.iaload, 1) := by decide +kernel
theorem d_X11_round_98 : decode (cd mX11_round) 98 = .ok (.isub, 1) := by decide +kernel
theorem d_X11_round_99 : decode (cd mX11_round) 99 = .ok (.ireturn, 1) := by decide +kernel
theorem d_X11_round_100 : decode (cd mX11_round) 100 = .ok (.aload_n 0, 1) := by decide +kernel
theorem d_X11_round_101 : decode (cd mX11_round) 101 = .ok (.getfield 38, 3) := by decide +kernel
theorem d_X11_round_104 : decode (cd mX11_round) 104 = .ok (.iload_n 2, 1) := by decide +kernel
theorem d_X11_round_105 : decode (cd mX11_round) 105 = .ok (.iload_n 1, 1) := by decide +kernel
theorem d_X11_round_106 : decode (cd mX11_round) 106 = .ok (.iastore, 1) := by decide +kernel
theorem d_X11_round_107 : decode (cd mX11_round) 107 = .ok (.goto (-62), 3) := by decide +kernel
theorem d_X11_kept_0 : decode (cd mX11_kept) 0 = .ok (.aload_n 0, 1) := by decide +kernel
theorem d_X11_kept_1 : decode (cd mX11_kept) 1 = .ok (.invokevirtual 168, 3) := by decide +kernel
theorem d_X11_kept_4 : decode (cd mX11_kept) 4 = .ok (.aload_n 0, 1) := by decide +kernel
theorem d_X11_kept_5 : decode (cd mX11_kept) 5 = .ok (.iload_n 1, 1) := by decide +kernel
theorem d_X11_kept_6 : decode (cd mX11_kept) 6 = .ok (.iconst 0, 1) := by decide +kernel
theorem d_X11_kept_7 : decode (cd mX11_kept) 7 = .ok (.bipush 60, 2) := by decide +kernel
theorem d_X11_kept_9 : decode (cd mX11_kept) 9 = .ok (.invokevirtual 295, 3) := by decide +kernel
theorem d_X11_kept_12 : decode (cd mX11_kept) 12 = .ok (.istore_n 2, 1) := by decide +kernel
theorem d_X11_kept_13 : decode (cd mX11_kept) 13 = .ok (.iload_n 2, 1) := by decide +kernel
theorem d_X11_kept_14 : decode (cd mX11_kept) 14 = .ok (.ifCond .eq 9, 3) := by decide +kernel
theorem d_X11_kept_17 : decode (cd mX11_kept) 17 = .ok (.aload_n 0, 1) := by decide +kernel
theorem d_X11_kept_18 : decode (cd mX11_kept) 18 = .ok (.iload_n 2, 1) := by decide +kernel
theorem d_X11_kept_19 : decode (cd mX11_kept) 19 = .ok (.invokevirtual 171, 3) := by decide +kernel
theorem d_X11_kept_22 : decode (cd mX11_kept) 22 = .ok (.ireturn, 1) := by decide +kernel
theorem d_X11_kept_23 : decode (cd mX11_kept) 23 = .ok (.aload_n 0, 1) := by decide +kernel
theorem d_X11_kept_24 : decode (cd mX11_kept) 24 = .ok (.iload_n 1, 1) := by decide +kernel
theorem d_X11_kept_25 : decode (cd mX11_kept) 25 = .ok (.invokevirtual 298, 3) := by decide +kernel
theorem d_X11_kept_28 : decode (cd mX11_kept) 28 = .ok (.aload_n 0, 1) := by decide +kernel
theorem d_X11_kept_29 : decode (cd mX11_kept) 29 = .ok (.aload_n 0, 1) := by decide +kernel
theorem d_X11_kept_30 : decode (cd mX11_kept) 30 = .ok (.getfield 35, 3) := by decide +kernel
theorem d_X11_kept_33 : decode (cd mX11_kept) 33 = .ok (.aload_n 0, 1) := by decide +kernel
theorem d_X11_kept_34 : decode (cd mX11_kept) 34 = .ok (.getfield 26, 3) := by decide +kernel
theorem d_X11_kept_37 : decode (cd mX11_kept) 37 = .ok (.iconst 4, 1) := by decide +kernel
theorem d_X11_kept_38 : decode (cd mX11_kept) 38 = .ok (.iaload, 1) := by decide +kernel
theorem d_X11_kept_39 : decode (cd mX11_kept) 39 = .ok (.aload_n 0, 1) := by decide +kernel
theorem d_X11_kept_40 : decode (cd mX11_kept) 40 = .ok (.getfield 26, 3) := by decide +kernel
theorem d_X11_kept_43 : decode (cd mX11_kept) 43 = .ok (.iconst 4, 1) := by decide +kernel
theorem d_X11_kept_44 : decode (cd mX11_kept) 44 = .ok (.iaload, 1) := by decide +kernel
theorem d_X11_kept_45 : decode (cd mX11_kept) 45 = .ok (.iload_n 1, 1) := by decide +kernel
theorem d_X11_kept_46 : decode (cd mX11_kept) 46 = .ok (.iadd, 1) := by decide +kernel
theorem d_X11_kept_47 : decode (cd mX11_kept) 47 = .ok (.invokevirtual 301, 3) := by decide +kernel
theorem d_X11_kept_50 : decode (cd mX11_kept) 50 = .ok (.ireturn, 1) := by decide +kernel
theorem d_X11_goBy_0 : decode (cd mX11_goBy) 0 = .ok (.aload_n 0, 1) := by decide +kernel
theorem d_X11_goBy_1 : decode (cd mX11_goBy) 1 = .ok (.invokevirtual 285, 3) := by decide +kernel
theorem d_X11_goBy_4 : decode (cd mX11_goBy) 4 = .ok (.aload_n 0, 1) := by decide +kernel
theorem d_X11_goBy_5 : decode (cd mX11_goBy) 5 = .ok (.iconst 0, 1) := by decide +kernel
theorem d_X11_goBy_6 : decode (cd mX11_goBy) 6 = .ok (.putfield 305, 3) := by decide +kernel
theorem d_X11_goBy_9 : decode (cd mX11_goBy) 9 = .ok (.iconst 1, 1) := by decide +kernel
theorem d_X11_goBy_10 : decode (cd mX11_goBy) 10 = .ok (.istore_n 3, 1) := by decide +kernel
theorem d_X11_goBy_11 : decode (cd mX11_goBy) 11 = .ok (.iconst 1, 1) := by decide +kernel
theorem d_X11_goBy_12 : decode (cd mX11_goBy) 12 = .ok (.istore 4, 2) := by decide +kernel
theorem d_X11_goBy_14 : decode (cd mX11_goBy) 14 = .ok (.iload 4, 2) := by decide +kernel
theorem d_X11_goBy_16 : decode (cd mX11_goBy) 16 = .ok (.iload_n 2, 1) := by decide +kernel
theorem d_X11_goBy_17 : decode (cd mX11_goBy) 17 = .ok (.if_icmp .ge 14, 3) := by decide +kernel
theorem d_X11_goBy_20 : decode (cd mX11_goBy) 20 = .ok (.iload_n 3, 1) := by decide +kernel
theorem d_X11_goBy_21 : decode (cd mX11_goBy) 21 = .ok (.bipush 10, 2) := by decide +kernel
theorem d_X11_goBy_23 : decode (cd mX11_goBy) 23 = .ok (.imul, 1) := by decide +kernel
theorem d_X11_goBy_24 : decode (cd mX11_goBy) 24 = .ok (.istore_n 3, 1) := by decide +kernel
theorem d_X11_goBy_25 : decode (cd mX11_goBy) 25 = .ok (.iinc 4 1, 3) := by decide +kernel
theorem d_X11_goBy_28 : decode (cd mX11_goBy) 28 = .ok (.goto (-14), 3) := by decide +kernel
theorem d_X11_goBy_31 : decode (cd mX11_goBy) 31 = .ok (.iconst 0, 1) := by decide +kernel
theorem d_X11_goBy_32 : decode (cd mX11_goBy) 32 = .ok (.istore 4, 2) := by decide +kernel
theorem d_X11_goBy_34 : decode (cd mX11_goBy) 34 = .ok (.iload 4, 2) := by decide +kernel
theorem d_X11_goBy_36 : decode (cd mX11_goBy) 36 = .ok (.iload_n 2, 1) := by decide +kernel
theorem d_X11_goBy_37 : decode (cd mX11_goBy) 37 = .ok (.if_icmp .ge 75, 3) := by decide +kernel
theorem d_X11_goBy_40 : decode (cd mX11_goBy) 40 = .ok (.iload_n 1, 1) := by decide +kernel
theorem d_X11_goBy_41 : decode (cd mX11_goBy) 41 = .ok (.iload_n 3, 1) := by decide +kernel
theorem d_X11_goBy_42 : decode (cd mX11_goBy) 42 = .ok (.idiv, 1) := by decide +kernel
theorem d_X11_goBy_43 : decode (cd mX11_goBy) 43 = .ok (.bipush 10, 2) := by decide +kernel
theorem d_X11_goBy_45 : decode (cd mX11_goBy) 45 = .ok (.irem, 1) := by decide +kernel
theorem d_X11_goBy_46 : decode (cd mX11_goBy) 46 = .ok (.istore 5, 2) := by decide +kernel
theorem d_X11_goBy_48 : decode (cd mX11_goBy) 48 = .ok (.iload 5, 2) := by decide +kernel
theorem d_X11_goBy_50 : decode (cd mX11_goBy) 50 = .ok (.ifCond .le 43, 3) := by decide +kernel
theorem d_X11_goBy_53 : decode (cd mX11_goBy) 53 = .ok (.aload_n 0, 1) := by decide +kernel
theorem d_X11_goBy_54 : decode (cd mX11_goBy) 54 = .ok (.getfield 35, 3) := by decide +kernel
theorem d_X11_goBy_57 : decode (cd mX11_goBy) 57 = .ok (.iconst 3, 1) := by decide +kernel
theorem d_X11_goBy_58 : decode (cd mX11_goBy) 58 = .ok (.dup2, 1) := by decide +kernel
theorem d_X11_goBy_59 : decode (cd mX11_goBy) 59 = .ok (.iaload, 1) := by decide +kernel
theorem d_X11_goBy_60 : decode (cd mX11_goBy) 60 = .ok (.iconst 1, 1) := by decide +kernel
theorem d_X11_goBy_61 : decode (cd mX11_goBy) 61 = .ok (.iload 5, 2) := by decide +kernel
theorem d_X11_goBy_63 : decode (cd mX11_goBy) 63 = .ok (.iconst 1, 1) := by decide +kernel
theorem d_X11_goBy_64 : decode (cd mX11_goBy) 64 = .ok (.isub, 1) := by decide +kernel
theorem d_X11_goBy_65 : decode (cd mX11_goBy) 65 = .ok (.ishl, 1) := by decide +kernel
theorem d_X11_goBy_66 : decode (cd mX11_goBy) 66 = .ok (.ior, 1) := by decide +kernel
theorem d_X11_goBy_67 : decode (cd mX11_goBy) 67 = .ok (.iastore, 1) := by decide +kernel
theorem d_X11_goBy_68 : decode (cd mX11_goBy) 68 = .ok (.aload_n 0, 1) := by decide +kernel
theorem d_X11_goBy_69 : decode (cd mX11_goBy) 69 = .ok (.dup, 1) := by decide +kernel
theorem d_X11_goBy_70 : decode (cd mX11_goBy) 70 = .ok (.getfield 305, 3) := by decide +kernel
theorem d_X11_goBy_73 : decode (cd mX11_goBy) 73 = .ok (.aload_n 0, 1) := by decide +kernel
theorem d_X11_goBy_74 : decode (cd mX11_goBy) 74 = .ok (.getfield 20, 3) := by decide +kernel
theorem d_X11_goBy_77 : decode (cd mX11_goBy) 77 = .ok (.bipush 13, 2) := by decide +kernel
theorem d_X11_goBy_79 : decode (cd mX11_goBy) 79 = .ok (.iconst 3, 1) := by decide +kernel
theorem d_X11_goBy_80 : decode (cd mX11_goBy) 80 = .ok (.iload 5, 2) := by decide +kernel
theorem d_X11_goBy_82 : decode (cd mX11_goBy) 82 = .ok (.iconst 1, 1) := by decide +kernel
theorem d_X11_goBy_83 : decode (cd mX11_goBy) 83 = .ok (.isub, 1) := by decide +kernel
theorem d_X11_goBy_84 : decode (cd mX11_goBy) 84 = .ok (.imul, 1) := by decide +kernel
theorem d_X11_goBy_85 : decode (cd mX11_goBy) 85 = .ok (.iadd, 1) := by decide +kernel
theorem d_X11_goBy_86 : decode (cd mX11_goBy) 86 = .ok (.iconst 2, 1) := by decide +kernel
theorem d_X11_goBy_87 : decode (cd mX11_goBy) 87 = .ok (.iadd, 1) := by decide +kernel
theorem d_X11_goBy_88 : decode (cd mX11_goBy) 88 = .ok (.iaload, 1) := by decide +kernel
theorem d_X11_goBy_89 : decode (cd mX11_goBy) 89 = .ok (.iadd, 1) := by decide +kernel
theorem d_X11_goBy_90 : decode (cd mX11_goBy) 90 = .ok (.putfield 305, 3) := by decide +kernel
theorem d_X11_goBy_93 : decode (cd mX11_goBy) 93 = .ok (.aload_n 0, 1) := by decide +kernel
theorem d_X11_goBy_94 : decode (cd mX11_goBy) 94 = .ok (.aload_n 0, 1) := by decide +kernel
theorem d_X11_goBy_95 : decode (cd mX11_goBy) 95 = .ok (.getfield 35, 3) := by decide +kernel
theorem d_X11_goBy_98 : decode (cd mX11_goBy) 98 = .ok (.invokevirtual 288, 3) := by decide +kernel
theorem d_X11_goBy_101 : decode (cd mX11_goBy) 101 = .ok (.iload_n 3, 1) := by decide +kernel
theorem d_X11_goBy_102 : decode (cd mX11_goBy) 102 = .ok (.bipush 10, 2) := by decide +kernel
theorem d_X11_goBy_104 : decode (cd mX11_goBy) 104 = .ok (.idiv, 1) := by decide +kernel
theorem d_X11_goBy_105 : decode (cd mX11_goBy) 105 = .ok (.istore_n 3, 1) := by decide +kernel
theorem d_X11_goBy_106 : decode (cd mX11_goBy) 106 = .ok (.iinc 4 1, 3) := by decide +kernel
theorem d_X11_goBy_109 : decode (cd mX11_goBy) 109 = .ok (.goto (-75), 3) := by decide +kernel
theorem d_X11_goBy_112 : decode (cd mX11_goBy) 112 = .ok (.return_, 1) := by decide +kernel
theorem d_X11_worthBy_0 : decode (cd mX11_worthBy) 0 = .ok (.aload_n 0, 1) := by decide +kernel
theorem d_X11_worthBy_1 : decode (cd mX11_worthBy) 1 = .ok (.iload_n 1, 1) := by decide +kernel
theorem d_X11_worthBy_2 : decode (cd mX11_worthBy) 2 = .ok (.iload_n 2, 1) := by decide +kernel
theorem d_X11_worthBy_3 : decode (cd mX11_worthBy) 3 = .ok (.invokevirtual 308, 3) := by decide +kernel
theorem d_X11_worthBy_6 : decode (cd mX11_worthBy) 6 = .ok (.aload_n 0, 1) := by decide +kernel
theorem d_X11_worthBy_7 : decode (cd mX11_worthBy) 7 = .ok (.aload_n 0, 1) := by decide +kernel
theorem d_X11_worthBy_8 : decode (cd mX11_worthBy) 8 = .ok (.getfield 35, 3) := by decide +kernel
theorem d_X11_worthBy_11 : decode (cd mX11_worthBy) 11 = .ok (.aload_n 0, 1) := by decide +kernel
theorem d_X11_worthBy_12 : decode (cd mX11_worthBy) 12 = .ok (.getfield 26, 3) := by decide +kernel
theorem d_X11_worthBy_15 : decode (cd mX11_worthBy) 15 = .ok (.iconst 4, 1) := by decide +kernel
theorem d_X11_worthBy_16 : decode (cd mX11_worthBy) 16 = .ok (.iaload, 1) := by decide +kernel
theorem d_X11_worthBy_17 : decode (cd mX11_worthBy) 17 = .ok (.aload_n 0, 1) := by decide +kernel
theorem d_X11_worthBy_18 : decode (cd mX11_worthBy) 18 = .ok (.getfield 26, 3) := by decide +kernel
theorem d_X11_worthBy_21 : decode (cd mX11_worthBy) 21 = .ok (.iconst 4, 1) := by decide +kernel
theorem d_X11_worthBy_22 : decode (cd mX11_worthBy) 22 = .ok (.iaload, 1) := by decide +kernel
theorem d_X11_worthBy_23 : decode (cd mX11_worthBy) 23 = .ok (.iload_n 2, 1) := by decide +kernel
theorem d_X11_worthBy_24 : decode (cd mX11_worthBy) 24 = .ok (.iadd, 1) := by decide +kernel
theorem d_X11_worthBy_25 : decode (cd mX11_worthBy) 25 = .ok (.invokevirtual 301, 3) := by decide +kernel
theorem d_X11_worthBy_28 : decode (cd mX11_worthBy) 28 = .ok (.aload_n 0, 1) := by decide +kernel
theorem d_X11_worthBy_29 : decode (cd mX11_worthBy) 29 = .ok (.getfield 305, 3) := by decide +kernel
theorem d_X11_worthBy_32 : decode (cd mX11_worthBy) 32 = .ok (.isub, 1) := by decide +kernel
theorem d_X11_worthBy_33 : decode (cd mX11_worthBy) 33 = .ok (.ireturn, 1) := by decide +kernel
theorem d_X11_isRowOf_0 : decode (cd mX11_isRowOf) 0 = .ok (.iload_n 1, 1) := by decide +kernel
theorem d_X11_isRowOf_1 : decode (cd mX11_isRowOf) 1 = .ok (.ifCond .ge 5, 3) := by decide +kernel
theorem d_X11_isRowOf_4 : decode (cd mX11_isRowOf) 4 = .ok (.iconst 0, 1) := by decide +kernel
theorem d_X11_isRowOf_5 : decode (cd mX11_isRowOf) 5 = .ok (.ireturn, 1) := by decide +kernel
theorem d_X11_isRowOf_6 : decode (cd mX11_isRowOf) 6 = .ok (.iload_n 1, 1) := by decide +kernel
theorem d_X11_isRowOf_7 : decode (cd mX11_isRowOf) 7 = .ok (.istore_n 3, 1) := by decide +kernel
theorem d_X11_isRowOf_8 : decode (cd mX11_isRowOf) 8 = .ok (.iconst 1, 1) := by decide +kernel
theorem d_X11_isRowOf_9 : decode (cd mX11_isRowOf) 9 = .ok (.istore 4, 2) := by decide +kernel
theorem d_X11_isRowOf_11 : decode (cd mX11_isRowOf) 11 = .ok (.iconst 0, 1) := by decide +kernel
theorem d_X11_isRowOf_12 : decode (cd mX11_isRowOf) 12 = .ok (.istore 5, 2) := by decide +kernel
theorem d_X11_isRowOf_14 : decode (cd mX11_isRowOf) 14 = .ok (.iload 5, 2) := by decide +kernel
theorem d_X11_isRowOf_16 : decode (cd mX11_isRowOf) 16 = .ok (.iload_n 2, 1) := by decide +kernel
theorem d_X11_isRowOf_17 : decode (cd mX11_isRowOf) 17 = .ok (.if_icmp .ge 39, 3) := by decide +kernel
theorem d_X11_isRowOf_20 : decode (cd mX11_isRowOf) 20 = .ok (.iload 4, 2) := by decide +kernel
theorem d_X11_isRowOf_22 : decode (cd mX11_isRowOf) 22 = .ok (.ifCond .eq 20, 3) := by decide +kernel
theorem d_X11_isRowOf_25 : decode (cd mX11_isRowOf) 25 = .ok (.iload_n 3, 1) := by decide +kernel
theorem d_X11_isRowOf_26 : decode (cd mX11_isRowOf) 26 = .ok (.bipush 10, 2) := by decide +kernel
theorem d_X11_isRowOf_28 : decode (cd mX11_isRowOf) 28 = .ok (.irem, 1) := by decide +kernel
theorem d_X11_isRowOf_29 : decode (cd mX11_isRowOf) 29 = .ok (.aload_n 0, 1) := by decide +kernel
theorem d_X11_isRowOf_30 : decode (cd mX11_isRowOf) 30 = .ok (.getfield 20, 3) := by decide +kernel
theorem d_X11_isRowOf_33 : decode (cd mX11_isRowOf) 33 = .ok (.iconst 5, 1) := by decide +kernel
theorem d_X11_isRowOf_34 : decode (cd mX11_isRowOf) 34 = .ok (.iaload, 1) := by decide +kernel
theorem d_X11_isRowOf_35 : decode (cd mX11_isRowOf) 35 = .ok (.if_icmp .gt 7, 3) := by decide +kernel
theorem d_X11_isRowOf_38 : decode (cd mX11_isRowOf) 38 = .ok (.iconst 1, 1) := by decide +kernel
theorem d_X11_isRowOf_39 : decode (cd mX11_isRowOf) 39 = .ok (.goto 4, 3) := by decide +kernel
theorem d_X11_isRowOf_42 : decode (cd mX11_isRowOf) 42 = .ok (.iconst 0, 1) := by decide +kernel
theorem d_X11_isRowOf_43 : decode (cd mX11_isRowOf) 43 = .ok (.istore 4, 2) := by decide +kernel
theorem d_X11_isRowOf_45 : decode (cd mX11_isRowOf) 45 = .ok (.iload_n 3, 1) := by decide +kernel
theorem d_X11_isRowOf_46 : decode (cd mX11_isRowOf) 46 = .ok (.bipush 10, 2) := by decide +kernel
theorem d_X11_isRowOf_48 : decode (cd mX11_isRowOf) 48 = .ok (.idiv, 1) := by decide +kernel
theorem d_X11_isRowOf_49 : decode (cd mX11_isRowOf) 49 = .ok (.istore_n 3, 1) := by decide +kernel
theorem d_X11_isRowOf_50 : decode (cd mX11_isRowOf) 50 = .ok (.iinc 5 1, 3) := by decide +kernel
theorem d_X11_isRowOf_53 : decode (cd mX11_isRowOf) 53 = .ok (.goto (-39), 3) := by decide +kernel
theorem d_X11_isRowOf_56 : decode (cd mX11_isRowOf) 56 = .ok (.iload 4, 2) := by decide +kernel
theorem d_X11_isRowOf_58 : decode (cd mX11_isRowOf) 58 = .ok (.ifCond .eq 11, 3) := by decide +kernel
theorem d_X11_isRowOf_61 : decode (cd mX11_isRowOf) 61 = .ok (.iload_n 3, 1) := by decide +kernel
theorem d_X11_isRowOf_62 : decode (cd mX11_isRowOf) 62 = .ok (.ifCond .ne 7, 3) := by decide +kernel
theorem d_X11_isRowOf_65 : decode (cd mX11_isRowOf) 65 = .ok (.iconst 1, 1) := by decide +kernel
theorem d_X11_isRowOf_66 : decode (cd mX11_isRowOf) 66 = .ok (.goto 4, 3) := by decide +kernel
theorem d_X11_isRowOf_69 : decode (cd mX11_isRowOf) 69 = .ok (.iconst 0, 1) := by decide +kernel
theorem d_X11_isRowOf_70 : decode (cd mX11_isRowOf) 70 = .ok (.ireturn, 1) := by decide +kernel
theorem d_X11_worthOf_0 : decode (cd mX11_worthOf) 0 = .ok (.aload_n 0, 1) := by decide +kernel
theorem d_X11_worthOf_1 : decode (cd mX11_worthOf) 1 = .ok (.invokevirtual 168, 3) := by decide +kernel
theorem d_X11_worthOf_4 : decode (cd mX11_worthOf) 4 = .ok (.aload_n 0, 1) := by decide +kernel
theorem d_X11_worthOf_5 : decode (cd mX11_worthOf) 5 = .ok (.getfield 185, 3) := by decide +kernel
theorem d_X11_worthOf_8 : decode (cd mX11_worthOf) 8 = .ok (.ifCond .ne 9, 3) := by decide +kernel
theorem d_X11_worthOf_11 : decode (cd mX11_worthOf) 11 = .ok (.aload_n 0, 1) := by decide +kernel
theorem d_X11_worthOf_12 : decode (cd mX11_worthOf) 12 = .ok (.iconst 1, 1) := by decide +kernel
theorem d_X11_worthOf_13 : decode (cd mX11_worthOf) 13 = .ok (.invokevirtual 171, 3) := by decide +kernel
theorem d_X11_worthOf_16 : decode (cd mX11_worthOf) 16 = .ok (.ireturn, 1) := by decide +kernel
theorem d_X11_worthOf_17 : decode (cd mX11_worthOf) 17 = .ok (.iload_n 2, 1) := by decide +kernel
theorem d_X11_worthOf_18 : decode (cd mX11_worthOf) 18 = .ok (.iconst 1, 1) := by decide +kernel
theorem d_X11_worthOf_19 : decode (cd mX11_worthOf) 19 = .ok (.iconst 4, 1) := by decide +kernel
theorem d_X11_worthOf_20 : decode (cd mX11_worthOf) 20 = .ok (.invokestatic 149, 3) := by decide +kernel
theorem d_X11_worthOf_23 : decode (cd mX11_worthOf) 23 = .ok (.ifCond .eq 12, 3) := by decide +kernel
theorem d_X11_worthOf_26 : decode (cd mX11_worthOf) 26 = .ok (.aload_n 0, 1) := by decide +kernel
theorem d_X11_worthOf_27 : decode (cd mX11_worthOf) 27 = .ok (.iload_n 1, 1) := by decide +kernel
theorem d_X11_worthOf_28 : decode (cd mX11_worthOf) 28 = .ok (.iload_n 2, 1) := by decide +kernel
theorem d_X11_worthOf_29 : decode (cd mX11_worthOf) 29 = .ok (.invokevirtual 311, 3) := by decide +kernel
theorem d_X11_worthOf_32 : decode (cd mX11_worthOf) 32 = .ok (.ifCond .ne 9, 3) := by decide +kernel
theorem d_X11_worthOf_35 : decode (cd mX11_worthOf) 35 = .ok (.aload_n 0, 1) := by decide +kernel
theorem d_X11_worthOf_36 : decode (cd mX11_worthOf) 36 = .ok (.iconst 2, 1) := by decide +kernel
theorem d_X11_worthOf_37 : decode (cd mX11_worthOf) 37 = .ok (.invokevirtual 171, 3) := by decide +kernel
theorem d_X11_worthOf_40 : decode (cd mX11_worthOf) 40 = .ok (.ireturn, 1) := by decide +kernel
theorem d_X11_worthOf_41 : decode (cd mX11_worthOf) 41 = .ok (.aload_n 0, 1) := by decide +kernel
theorem d_X11_worthOf_42 : decode (cd mX11_worthOf) 42 = .ok (.iload_n 1, 1) := by decide +kernel
theorem d_X11_worthOf_43 : decode (cd mX11_worthOf) 43 = .ok (.iload_n 2, 1) := by decide +kernel
theorem d_X11_worthOf_44 : decode (cd mX11_worthOf) 44 = .ok (.invokevirtual 314, 3) := by decide +kernel
theorem d_X11_worthOf_47 : decode (cd mX11_worthOf) 47 = .ok (.sipush 1000, 3) := by decide +kernel
theorem d_X11_worthOf_50 : decode (cd mX11_worthOf) 50 = .ok (.iadd, 1) := by decide +kernel
theorem d_X11_worthOf_51 : decode (cd mX11_worthOf) 51 = .ok (.ireturn, 1) := by decide +kernel
theorem d_X11_rowsFor_0 : decode (cd mX11_rowsFor) 0 = .ok (.iconst 1, 1) := by decide +kernel
theorem d_X11_rowsFor_1 : decode (cd mX11_rowsFor) 1 = .ok (.istore_n 1, 1) := by decide +kernel
theorem d_X11_rowsFor_2 : decode (cd mX11_rowsFor) 2 = .ok (.iconst 0, 1) := by decide +kernel
theorem d_X11_rowsFor_3 : decode (cd mX11_rowsFor) 3 = .ok (.istore_n 2, 1) := by decide +kernel
theorem d_X11_rowsFor_4 : decode (cd mX11_rowsFor) 4 = .ok (.iload_n 2, 1) := by decide +kernel
theorem d_X11_rowsFor_5 : decode (cd mX11_rowsFor) 5 = .ok (.iload_n 0, 1) := by decide +kernel
theorem d_X11_rowsFor_6 : decode (cd mX11_rowsFor) 6 = .ok (.if_icmp .ge 14, 3) := by decide +kernel
theorem d_X11_rowsFor_9 : decode (cd mX11_rowsFor) 9 = .ok (.iload_n 1, 1) := by decide +kernel
theorem d_X11_rowsFor_10 : decode (cd mX11_rowsFor) 10 = .ok (.bipush 10, 2) := by decide +kernel
theorem d_X11_rowsFor_12 : decode (cd mX11_rowsFor) 12 = .ok (.imul, 1) := by decide +kernel
theorem d_X11_rowsFor_13 : decode (cd mX11_rowsFor) 13 = .ok (.istore_n 1, 1) := by decide +kernel
theorem d_X11_rowsFor_14 : decode (cd mX11_rowsFor) 14 = .ok (.iinc 2 1, 3) := by decide +kernel
theorem d_X11_rowsFor_17 : decode (cd mX11_rowsFor) 17 = .ok (.goto (-13), 3) := by decide +kernel
theorem d_X11_rowsFor_20 : decode (cd mX11_rowsFor) 20 = .ok (.iload_n 1, 1) := by decide +kernel
theorem d_X11_rowsFor_21 : decode (cd mX11_rowsFor) 21 = .ok (.ireturn, 1) := by decide +kernel
theorem d_X11_bestOf_0 : decode (cd mX11_bestOf) 0 = .ok (.iconst 0, 1) := by decide +kernel
theorem d_X11_bestOf_1 : decode (cd mX11_bestOf) 1 = .ok (.istore_n 2, 1) := by decide +kernel
theorem d_X11_bestOf_2 : decode (cd mX11_bestOf) 2 = .ok (.aload_n 0, 1) := by decide +kernel
theorem d_X11_bestOf_3 : decode (cd mX11_bestOf) 3 = .ok (.iconst 0, 1) := by decide +kernel
theorem d_X11_bestOf_4 : decode (cd mX11_bestOf) 4 = .ok (.iload_n 1, 1) := by decide +kernel
theorem d_X11_bestOf_5 : decode (cd mX11_bestOf) 5 = .ok (.invokevirtual 314, 3) := by decide +kernel
theorem d_X11_bestOf_8 : decode (cd mX11_bestOf) 8 = .ok (.istore_n 3, 1) := by decide +kernel
theorem d_X11_bestOf_9 : decode (cd mX11_bestOf) 9 = .ok (.iconst 1, 1) := by decide +kernel
theorem d_X11_bestOf_10 : decode (cd mX11_bestOf) 10 = .ok (.istore 4, 2) := by decide +kernel
theorem d_X11_bestOf_12 : decode (cd mX11_bestOf) 12 = .ok (.iload 4, 2) := by decide +kernel
theorem d_X11_bestOf_14 : decode (cd mX11_bestOf) 14 = .ok (.iload_n 1, 1) := by decide +kernel
theorem d_X11_bestOf_15 : decode (cd mX11_bestOf) 15 = .ok (.invokestatic 317, 3) := by decide +kernel
theorem d_X11_bestOf_18 : decode (cd mX11_bestOf) 18 = .ok (.if_icmp .ge 49, 3) := by decide +kernel
theorem d_X11_bestOf_21 : decode (cd mX11_bestOf) 21 = .ok (.aload_n 0, 1) := by decide +kernel
theorem d_X11_bestOf_22 : decode (cd mX11_bestOf) 22 = .ok (.iload 4, 2) := by decide +kernel
theorem d_X11_bestOf_24 : decode (cd mX11_bestOf) 24 = .ok (.iload_n 1, 1) := by decide +kernel
theorem d_X11_bestOf_25 : decode (cd mX11_bestOf) 25 = .ok (.invokevirtual 311, 3) := by decide +kernel
theorem d_X11_bestOf_28 : decode (cd mX11_bestOf) 28 = .ok (.ifCond .eq 13, 3) := by decide +kernel
theorem d_X11_bestOf_31 : decode (cd mX11_bestOf) 31 = .ok (.aload_n 0, 1) := by decide +kernel
theorem d_X11_bestOf_32 : decode (cd mX11_bestOf) 32 = .ok (.iload 4, 2) := by decide +kernel
theorem d_X11_bestOf_34 : decode (cd mX11_bestOf) 34 = .ok (.iload_n 1, 1) := by decide +kernel
theorem d_X11_bestOf_35 : decode (cd mX11_bestOf) 35 = .ok (.invokevirtual 314, 3) := by decide +kernel
theorem d_X11_bestOf_38 : decode (cd mX11_bestOf) 38 = .ok (.goto 6, 3) := by decide +kernel
theorem d_X11_bestOf_41 : decode (cd mX11_bestOf) 41 = .ok (.ldc_w 320, 3) := by decide +kernel
theorem d_X11_bestOf_44 : decode (cd mX11_bestOf) 44 = .ok (.istore 5, 2) := by decide +kernel
theorem d_X11_bestOf_46 : decode (cd mX11_bestOf) 46 = .ok (.iload 5, 2) := by decide +kernel
theorem d_X11_bestOf_48 : decode (cd mX11_bestOf) 48 = .ok (.iload_n 3, 1) := by decide +kernel
theorem d_X11_bestOf_49 : decode (cd mX11_bestOf) 49 = .ok (.if_icmp .gt 6, 3) := by decide +kernel
theorem d_X11_bestOf_52 : decode (cd mX11_bestOf) 52 = .ok (.goto 9, 3) := by decide +kernel
theorem d_X11_bestOf_55 : decode (cd mX11_bestOf) 55 = .ok (.iload 4, 2) := by decide +kernel
theorem d_X11_bestOf_57 : decode (cd mX11_bestOf) 57 = .ok (.istore_n 2, 1) := by decide +kernel
theorem d_X11_bestOf_58 : decode (cd mX11_bestOf) 58 = .ok (.iload 5, 2) := by decide +kernel
theorem d_X11_bestOf_60 : decode (cd mX11_bestOf) 60 = .ok (.istore_n 3, 1) := by decide +kernel
theorem d_X11_bestOf_61 : decode (cd mX11_bestOf) 61 = .ok (.iinc 4 1, 3) := by decide +kernel
theorem d_X11_bestOf_64 : decode (cd mX11_bestOf) 64 = .ok (.goto (-52), 3) := by decide +kernel
theorem d_X11_bestOf_67 : decode (cd mX11_bestOf) 67 = .ok (.iload_n 2, 1) := by decide +kernel
theorem d_X11_bestOf_68 : decode (cd mX11_bestOf) 68 = .ok (.ireturn, 1) := by decide +kernel
theorem d_X11_bestRow_0 : decode (cd mX11_bestRow) 0 = .ok (.aload_n 0, 1) := by decide +kernel
theorem d_X11_bestRow_1 : decode (cd mX11_bestRow) 1 = .ok (.invokevirtual 168, 3) := by decide +kernel
theorem d_X11_bestRow_4 : decode (cd mX11_bestRow) 4 = .ok (.aload_n 0, 1) := by decide +kernel
theorem d_X11_bestRow_5 : decode (cd mX11_bestRow) 5 = .ok (.iload_n 1, 1) := by decide +kernel
theorem d_X11_bestRow_6 : decode (cd mX11_bestRow) 6 = .ok (.iconst 1, 1) := by decide +kernel
theorem d_X11_bestRow_7 : decode (cd mX11_bestRow) 7 = .ok (.iconst 4, 1) := by decide +kernel
theorem d_X11_bestRow_8 : decode (cd mX11_bestRow) 8 = .ok (.invokevirtual 295, 3) := by decide +kernel
theorem d_X11_bestRow_11 : decode (cd mX11_bestRow) 11 = .ok (.istore_n 2, 1) := by decide +kernel
theorem d_X11_bestRow_12 : decode (cd mX11_bestRow) 12 = .ok (.iload_n 2, 1) := by decide +kernel
theorem d_X11_bestRow_13 : decode (cd mX11_bestRow) 13 = .ok (.ifCond .eq 11, 3) := by decide +kernel
theorem d_X11_bestRow_16 : decode (cd mX11_bestRow) 16 = .ok (.aload_n 0, 1) := by decide +kernel
theorem d_X11_bestRow_17 : decode (cd mX11_bestRow) 17 = .ok (.iload_n 2, 1) := by decide +kernel
theorem d_X11_bestRow_18 : decode (cd mX11_bestRow) 18 = .ok (.invokevirtual 171, 3) := by decide +kernel
theorem d_X11_bestRow_21 : decode (cd mX11_bestRow) 21 = .ok (.goto 8, 3) := by decide +kernel
theorem d_X11_bestRow_24 : decode (cd mX11_bestRow) 24 = .ok (.aload_n 0, 1) := by decide +kernel
theorem d_X11_bestRow_25 : decode (cd mX11_bestRow) 25 = .ok (.iload_n 1, 1) := by decide +kernel
theorem d_X11_bestRow_26 : decode (cd mX11_bestRow) 26 = .ok (.invokevirtual 321, 3) := by decide +kernel
theorem d_X11_bestRow_29 : decode (cd mX11_bestRow) 29 = .ok (.ireturn, 1) := by decide +kernel
theorem d_X11_bestWorth_0 : decode (cd mX11_bestWorth) 0 = .ok (.aload_n 0, 1) := by decide +kernel
theorem d_X11_bestWorth_1 : decode (cd mX11_bestWorth) 1 = .ok (.invokevirtual 168, 3) := by decide +kernel
theorem d_X11_bestWorth_4 : decode (cd mX11_bestWorth) 4 = .ok (.aload_n 0, 1) := by decide +kernel
theorem d_X11_bestWorth_5 : decode (cd mX11_bestWorth) 5 = .ok (.iload_n 1, 1) := by decide +kernel
theorem d_X11_bestWorth_6 : decode (cd mX11_bestWorth) 6 = .ok (.iconst 1, 1) := by decide +kernel
theorem d_X11_bestWorth_7 : decode (cd mX11_bestWorth) 7 = .ok (.iconst 4, 1) := by decide +kernel
theorem d_X11_bestWorth_8 : decode (cd mX11_bestWorth) 8 = .ok (.invokevirtual 295, 3) := by decide +kernel
theorem d_X11_bestWorth_11 : decode (cd mX11_bestWorth) 11 = .ok (.istore_n 2, 1) := by decide +kernel
theorem d_X11_bestWorth_12 : decode (cd mX11_bestWorth) 12 = .ok (.iload_n 2, 1) := by decide +kernel
theorem d_X11_bestWorth_13 : decode (cd mX11_bestWorth) 13 = .ok (.ifCond .eq 11, 3) := by decide +kernel
theorem d_X11_bestWorth_16 : decode (cd mX11_bestWorth) 16 = .ok (.aload_n 0, 1) := by decide +kernel
theorem d_X11_bestWorth_17 : decode (cd mX11_bestWorth) 17 = .ok (.iload_n 2, 1) := by decide +kernel
theorem d_X11_bestWorth_18 : decode (cd mX11_bestWorth) 18 = .ok (.invokevirtual 171, 3) := by decide +kernel
theorem d_X11_bestWorth_21 : decode (cd mX11_bestWorth) 21 = .ok (.goto 17, 3) := by decide +kernel
theorem d_X11_bestWorth_24 : decode (cd mX11_bestWorth) 24 = .ok (.aload_n 0, 1) := by decide +kernel
theorem d_X11_bestWorth_25 : decode (cd mX11_bestWorth) 25 = .ok (.aload_n 0, 1) := by decide +kernel
theorem d_X11_bestWorth_26 : decode (cd mX11_bestWorth) 26 = .ok (.iload_n 1, 1) := by decide +kernel
theorem d_X11_bestWorth_27 : decode (cd mX11_bestWorth) 27 = .ok (.invokevirtual 321, 3) := by decide +kernel
theorem d_X11_bestWorth_30 : decode (cd mX11_bestWorth) 30 = .ok (.iload_n 1, 1) := by decide +kernel
theorem d_X11_bestWorth_31 : decode (cd mX11_bestWorth) 31 = .ok (.invokevirtual 314, 3) := by decide +kernel
theorem d_X11_bestWorth_34 : decode (cd mX11_bestWorth) 34 = .ok (.sipush 1000, 3) := by decide +kernel
theorem d_X11_bestWorth_37 : decode (cd mX11_bestWorth) 37 = .ok (.iadd, 1) := by decide +kernel
theorem d_X11_bestWorth_38 : decode (cd mX11_bestWorth) 38 = .ok (.ireturn, 1) := by decide +kernel
theorem d_X11_areAllKept_0 : decode (cd mX11_areAllKept) 0 = .ok (.iconst 1, 1) := by decide +kernel
theorem d_X11_areAllKept_1 : decode (cd mX11_areAllKept) 1 = .ok (.istore_n 3, 1) := by decide +kernel
theorem d_X11_areAllKept_2 : decode (cd mX11_areAllKept) 2 = .ok (.iconst 0, 1) := by decide +kernel
theorem d_X11_areAllKept_3 : decode (cd mX11_areAllKept) 3 = .ok (.istore 4, 2) := by decide +kernel
theorem d_X11_areAllKept_5 : decode (cd mX11_areAllKept) 5 = .ok (.iload 4, 2) := by decide +kernel
theorem d_X11_areAllKept_7 : decode (cd mX11_areAllKept) 7 = .ok (.aload_n 0, 1) := by decide +kernel
theorem d_X11_areAllKept_8 : decode (cd mX11_areAllKept) 8 = .ok (.getfield 20, 3) := by decide +kernel
theorem d_X11_areAllKept_11 : decode (cd mX11_areAllKept) 11 = .ok (.bipush 6, 2) := by decide +kernel
theorem d_X11_areAllKept_13 : decode (cd mX11_areAllKept) 13 = .ok (.iaload, 1) := by decide +kernel
theorem d_X11_areAllKept_14 : decode (cd mX11_areAllKept) 14 = .ok (.if_icmp .ge 56, 3) := by decide +kernel
theorem d_X11_areAllKept_17 : decode (cd mX11_areAllKept) 17 = .ok (.iload_n 3, 1) := by decide +kernel
theorem d_X11_areAllKept_18 : decode (cd mX11_areAllKept) 18 = .ok (.ifCond .eq 44, 3) := by decide +kernel
theorem d_X11_areAllKept_21 : decode (cd mX11_areAllKept) 21 = .ok (.aload_n 0, 1) := by decide +kernel
theorem d_X11_areAllKept_22 : decode (cd mX11_areAllKept) 22 = .ok (.getfield 20, 3) := by decide +kernel
theorem d_X11_areAllKept_25 : decode (cd mX11_areAllKept) 25 = .ok (.bipush 25, 2) := by decide +kernel
theorem d_X11_areAllKept_27 : decode (cd mX11_areAllKept) 27 = .ok (.iconst 3, 1) := by decide +kernel
theorem d_X11_areAllKept_28 : decode (cd mX11_areAllKept) 28 = .ok (.iload 4, 2) := by decide +kernel
theorem d_X11_areAllKept_30 : decode (cd mX11_areAllKept) 30 = .ok (.imul, 1) := by decide +kernel
theorem d_X11_areAllKept_31 : decode (cd mX11_areAllKept) 31 = .ok (.iadd, 1) := by decide +kernel
theorem d_X11_areAllKept_32 : decode (cd mX11_areAllKept) 32 = .ok (.iaload, 1) := by decide +kernel
theorem d_X11_areAllKept_33 : decode (cd mX11_areAllKept) 33 = .ok (.iload_n 1, 1) := by decide +kernel
theorem d_X11_areAllKept_34 : decode (cd mX11_areAllKept) 34 = .ok (.iload_n 2, 1) := by decide +kernel
theorem d_X11_areAllKept_35 : decode (cd mX11_areAllKept) 35 = .ok (.iconst 1, 1) := by decide +kernel
theorem d_X11_areAllKept_36 : decode (cd mX11_areAllKept) 36 = .ok (.isub, 1) := by decide +kernel
theorem d_X11_areAllKept_37 : decode (cd mX11_areAllKept) 37 = .ok (.invokestatic 149, 3) := by decide +kernel
theorem d_X11_areAllKept_40 : decode (cd mX11_areAllKept) 40 = .ok (.ifCond .eq 18, 3) := by decide +kernel
theorem d_X11_areAllKept_43 : decode (cd mX11_areAllKept) 43 = .ok (.aload_n 0, 1) := by decide +kernel
theorem d_X11_areAllKept_44 : decode (cd mX11_areAllKept) 44 = .ok (.getfield 35, 3) := by decide +kernel
theorem d_X11_areAllKept_47 : decode (cd mX11_areAllKept) 47 = .ok (.bipush 6, 2) := by decide +kernel
theorem d_X11_areAllKept_49 : decode (cd mX11_areAllKept) 49 = .ok (.iaload, 1) := by decide +kernel
theorem d_X11_areAllKept_50 : decode (cd mX11_areAllKept) 50 = .ok (.iload 4, 2) := by decide +kernel
theorem d_X11_areAllKept_52 : decode (cd mX11_areAllKept) 52 = .ok (.invokestatic 261, 3) := by decide +kernel
theorem d_X11_areAllKept_55 : decode (cd mX11_areAllKept) 55 = .ok (.ifCond .eq 7, 3) := by decide +kernel
theorem d_X11_areAllKept_58 : decode (cd mX11_areAllKept) 58 = .ok (.iconst 1, 1) := by decide +kernel
theorem d_X11_areAllKept_59 : decode (cd mX11_areAllKept) 59 = .ok (.goto 4, 3) := by decide +kernel
theorem d_X11_areAllKept_62 : decode (cd mX11_areAllKept) 62 = .ok (.iconst 0, 1) := by decide +kernel
theorem d_X11_areAllKept_63 : decode (cd mX11_areAllKept) 63 = .ok (.istore_n 3, 1) := by decide +kernel
theorem d_X11_areAllKept_64 : decode (cd mX11_areAllKept) 64 = .ok (.iinc 4 1, 3) := by decide +kernel
theorem d_X11_areAllKept_67 : decode (cd mX11_areAllKept) 67 = .ok (.goto (-62), 3) := by decide +kernel
theorem d_X11_areAllKept_70 : decode (cd mX11_areAllKept) 70 = .ok (.iload_n 3, 1) := by decide +kernel
theorem d_X11_areAllKept_71 : decode (cd mX11_areAllKept) 71 = .ok (.ireturn, 1) := by decide +kernel
theorem d_X11_sureOf_0 : decode (cd mX11_sureOf) 0 = .ok (.bipush (-2), 2) := by decide +kernel
theorem d_X11_sureOf_2 : decode (cd mX11_sureOf) 2 = .ok (.istore_n 2, 1) := by decide +kernel
theorem d_X11_sureOf_3 : decode (cd mX11_sureOf) 3 = .ok (.aload_n 0, 1) := by decide +kernel
theorem d_X11_sureOf_4 : decode (cd mX11_sureOf) 4 = .ok (.bipush (-2), 2) := by decide +kernel
theorem d_X11_sureOf_6 : decode (cd mX11_sureOf) 6 = .ok (.putfield 324, 3) := by decide +kernel
theorem d_X11_sureOf_9 : decode (cd mX11_sureOf) 9 = .ok (.iconst 0, 1) := by decide +kernel
theorem d_X11_sureOf_10 : decode (cd mX11_sureOf) 10 = .ok (.istore_n 3, 1) := by decide +kernel
theorem d_X11_sureOf_11 : decode (cd mX11_sureOf) 11 = .ok (.iload_n 3, 1) := by decide +kernel
theorem d_X11_sureOf_12 : decode (cd mX11_sureOf) 12 = .ok (.iload_n 1, 1) := by decide +kernel
theorem d_X11_sureOf_13 : decode (cd mX11_sureOf) 13 = .ok (.invokestatic 317, 3) := by decide +kernel
theorem d_X11_sureOf_16 : decode (cd mX11_sureOf) 16 = .ok (.if_icmp .ge 76, 3) := by decide +kernel
theorem d_X11_sureOf_19 : decode (cd mX11_sureOf) 19 = .ok (.aload_n 0, 1) := by decide +kernel
theorem d_X11_sureOf_20 : decode (cd mX11_sureOf) 20 = .ok (.iload_n 3, 1) := by decide +kernel
theorem d_X11_sureOf_21 : decode (cd mX11_sureOf) 21 = .ok (.iload_n 1, 1) := by decide +kernel
theorem d_X11_sureOf_22 : decode (cd mX11_sureOf) 22 = .ok (.invokevirtual 311, 3) := by decide +kernel
theorem d_X11_sureOf_25 : decode (cd mX11_sureOf) 25 = .ok (.ifCond .ne 6, 3) := by decide +kernel
theorem d_X11_sureOf_28 : decode (cd mX11_sureOf) 28 = .ok (.goto 58, 3) := by decide +kernel
theorem d_X11_sureOf_31 : decode (cd mX11_sureOf) 31 = .ok (.aload_n 0, 1) := by decide +kernel
theorem d_X11_sureOf_32 : decode (cd mX11_sureOf) 32 = .ok (.iload_n 3, 1) := by decide +kernel
theorem d_X11_sureOf_33 : decode (cd mX11_sureOf) 33 = .ok (.iload_n 1, 1) := by decide +kernel
theorem d_X11_sureOf_34 : decode (cd mX11_sureOf) 34 = .ok (.invokevirtual 308, 3) := by decide +kernel
theorem d_X11_sureOf_37 : decode (cd mX11_sureOf) 37 = .ok (.aload_n 0, 1) := by decide +kernel
theorem d_X11_sureOf_38 : decode (cd mX11_sureOf) 38 = .ok (.aload_n 0, 1) := by decide +kernel
theorem d_X11_sureOf_39 : decode (cd mX11_sureOf) 39 = .ok (.getfield 26, 3) := by decide +kernel
theorem d_X11_sureOf_42 : decode (cd mX11_sureOf) 42 = .ok (.iconst 4, 1) := by decide +kernel
theorem d_X11_sureOf_43 : decode (cd mX11_sureOf) 43 = .ok (.iaload, 1) := by decide +kernel
theorem d_X11_sureOf_44 : decode (cd mX11_sureOf) 44 = .ok (.aload_n 0, 1) := by decide +kernel
theorem d_X11_sureOf_45 : decode (cd mX11_sureOf) 45 = .ok (.getfield 26, 3) := by decide +kernel
theorem d_X11_sureOf_48 : decode (cd mX11_sureOf) 48 = .ok (.iconst 4, 1) := by decide +kernel
theorem d_X11_sureOf_49 : decode (cd mX11_sureOf) 49 = .ok (.iaload, 1) := by decide +kernel
theorem d_X11_sureOf_50 : decode (cd mX11_sureOf) 50 = .ok (.iload_n 1, 1) := by decide +kernel
theorem d_X11_sureOf_51 : decode (cd mX11_sureOf) 51 = .ok (.iadd, 1) := by decide +kernel
theorem d_X11_sureOf_52 : decode (cd mX11_sureOf) 52 = .ok (.invokevirtual 327, 3) := by decide +kernel
theorem d_X11_sureOf_55 : decode (cd mX11_sureOf) 55 = .ok (.ifCond .eq 31, 3) := by decide +kernel
theorem d_X11_sureOf_58 : decode (cd mX11_sureOf) 58 = .ok (.iload_n 2, 1) := by decide +kernel
theorem d_X11_sureOf_59 : decode (cd mX11_sureOf) 59 = .ok (.ifCond .lt 17, 3) := by decide +kernel
theorem d_X11_sureOf_62 : decode (cd mX11_sureOf) 62 = .ok (.aload_n 0, 1) := by decide +kernel
theorem d_X11_sureOf_63 : decode (cd mX11_sureOf) 63 = .ok (.getfield 305, 3) := by decide +kernel
theorem d_X11_sureOf_66 : decode (cd mX11_sureOf) 66 = .ok (.aload_n 0, 1) := by decide +kernel
theorem d_X11_sureOf_67 : decode (cd mX11_sureOf) 67 = .ok (.getfield 324, 3) := by decide +kernel
theorem d_X11_sureOf_70 : decode (cd mX11_sureOf) 70 = .ok (.if_icmp .lt 6, 3) := by decide +kernel
theorem d_X11_sureOf_73 : decode (cd mX11_sureOf) 73 = .ok (.goto 13, 3) := by decide +kernel
theorem d_X11_sureOf_76 : decode (cd mX11_sureOf) 76 = .ok (.iload_n 3, 1) := by decide +kernel
theorem d_X11_sureOf_77 : decode (cd mX11_sureOf) 77 = .ok (.istore_n 2, 1) := by decide +kernel
theorem d_X11_sureOf_78 : decode (cd mX11_sureOf) 78 = .ok (.aload_n 0, 1) := by decide +kernel
theorem d_X11_sureOf_79 : decode (cd mX11_sureOf) 79 = .ok (.aload_n 0, 1) := by decide +kernel
theorem d_X11_sureOf_80 : decode (cd mX11_sureOf) 80 = .ok (.getfield 305, 3) := by decide +kernel
theorem d_X11_sureOf_83 : decode (cd mX11_sureOf) 83 = .ok (.putfield 324, 3) := by decide +kernel
theorem d_X11_sureOf_86 : decode (cd mX11_sureOf) 86 = .ok (.iinc 3 1, 3) := by decide +kernel
theorem d_X11_sureOf_89 : decode (cd mX11_sureOf) 89 = .ok (.goto (-78), 3) := by decide +kernel
theorem d_X11_sureOf_92 : decode (cd mX11_sureOf) 92 = .ok (.iload_n 2, 1) := by decide +kernel
theorem d_X11_sureOf_93 : decode (cd mX11_sureOf) 93 = .ok (.ireturn, 1) := by decide +kernel
theorem d_X11_sureRow_0 : decode (cd mX11_sureRow) 0 = .ok (.aload_n 0, 1) := by decide +kernel
theorem d_X11_sureRow_1 : decode (cd mX11_sureRow) 1 = .ok (.invokevirtual 168, 3) := by decide +kernel
theorem d_X11_sureRow_4 : decode (cd mX11_sureRow) 4 = .ok (.aload_n 0, 1) := by decide +kernel
theorem d_X11_sureRow_5 : decode (cd mX11_sureRow) 5 = .ok (.iload_n 1, 1) := by decide +kernel
theorem d_X11_sureRow_6 : decode (cd mX11_sureRow) 6 = .ok (.iconst 1, 1) := by decide +kernel
theorem d_X11_sureRow_7 : decode (cd mX11_sureRow) 7 = .ok (.iconst 4, 1) := by decide +kernel
theorem d_X11_sureRow_8 : decode (cd mX11_sureRow) 8 = .ok (.invokevirtual 295, 3) := by decide +kernel
theorem d_X11_sureRow_11 : decode (cd mX11_sureRow) 11 = .ok (.istore_n 2, 1) := by decide +kernel
theorem d_X11_sureRow_12 : decode (cd mX11_sureRow) 12 = .ok (.iload_n 2, 1) := by decide +kernel
theorem d_X11_sureRow_13 : decode (cd mX11_sureRow) 13 = .ok (.ifCond .eq 11, 3) := by decide +kernel
theorem d_X11_sureRow_16 : decode (cd mX11_sureRow) 16 = .ok (.aload_n 0, 1) := by decide +kernel
theorem d_X11_sureRow_17 : decode (cd mX11_sureRow) 17 = .ok (.iload_n 2, 1) := by decide +kernel
theorem d_X11_sureRow_18 : decode (cd mX11_sureRow) 18 = .ok (.invokevirtual 171, 3) := by decide +kernel
theorem d_X11_sureRow_21 : decode (cd mX11_sureRow) 21 = .ok (.goto 8, 3) := by decide +kernel
theorem d_X11_sureRow_24 : decode (cd mX11_sureRow) 24 = .ok (.aload_n 0, 1) := by decide +kernel
theorem d_X11_sureRow_25 : decode (cd mX11_sureRow) 25 = .ok (.iload_n 1, 1) := by decide +kernel
theorem d_X11_sureRow_26 : decode (cd mX11_sureRow) 26 = .ok (.invokevirtual 330, 3) := by decide +kernel
theorem d_X11_sureRow_29 : decode (cd mX11_sureRow) 29 = .ok (.ireturn, 1) := by decide +kernel
theorem d_X11_sureCoins_0 : decode (cd mX11_sureCoins) 0 = .ok (.aload_n 0, 1) := by decide +kernel
theorem d_X11_sureCoins_1 : decode (cd mX11_sureCoins) 1 = .ok (.invokevirtual 168, 3) := by decide +kernel
theorem d_X11_sureCoins_4 : decode (cd mX11_sureCoins) 4 = .ok (.aload_n 0, 1) := by decide +kernel
theorem d_X11_sureCoins_5 : decode (cd mX11_sureCoins) 5 = .ok (.iload_n 1, 1) := by decide +kernel
theorem d_X11_sureCoins_6 : decode (cd mX11_sureCoins) 6 = .ok (.iconst 1, 1) := by decide +kernel
theorem d_X11_sureCoins_7 : decode (cd mX11_sureCoins) 7 = .ok (.iconst 4, 1) := by decide +kernel
theorem d_X11_sureCoins_8 : decode (cd mX11_sureCoins) 8 = .ok (.invokevirtual 295, 3) := by decide +kernel
theorem d_X11_sureCoins_11 : decode (cd mX11_sureCoins) 11 = .ok (.istore_n 2, 1) := by decide +kernel
theorem d_X11_sureCoins_12 : decode (cd mX11_sureCoins) 12 = .ok (.iload_n 2, 1) := by decide +kernel
theorem d_X11_sureCoins_13 : decode (cd mX11_sureCoins) 13 = .ok (.ifCond .eq 9, 3) := by decide +kernel
theorem d_X11_sureCoins_16 : decode (cd mX11_sureCoins) 16 = .ok (.aload_n 0, 1) := by decide +kernel
theorem d_X11_sureCoins_17 : decode (cd mX11_sureCoins) 17 = .ok (.iload_n 2, 1) := by decide +kernel
theorem d_X11_sureCoins_18 : decode (cd mX11_sureCoins) 18 = .ok (.invokevirtual 171, 3) := by decide +kernel
theorem d_X11_sureCoins_21 : decode (cd mX11_sureCoins) 21 = .ok (.ireturn, 1) := by decide +kernel
theorem d_X11_sureCoins_22 : decode (cd mX11_sureCoins) 22 = .ok (.aload_n 0, 1) := by decide +kernel
theorem d_X11_sureCoins_23 : decode (cd mX11_sureCoins) 23 = .ok (.iload_n 1, 1) := by decide +kernel
theorem d_X11_sureCoins_24 : decode (cd mX11_sureCoins) 24 = .ok (.invokevirtual 330, 3) := by decide +kernel
theorem d_X11_sureCoins_27 : decode (cd mX11_sureCoins) 27 = .ok (.pop, 1) := by decide +kernel
theorem d_X11_sureCoins_28 : decode (cd mX11_sureCoins) 28 = .ok (.aload_n 0, 1) := by decide +kernel
theorem d_X11_sureCoins_29 : decode (cd mX11_sureCoins) 29 = .ok (.getfield 324, 3) := by decide +kernel
theorem d_X11_sureCoins_32 : decode (cd mX11_sureCoins) 32 = .ok (.ireturn, 1) := by decide +kernel
theorem d_X11_ventsIn_0 : decode (cd mX11_ventsIn) 0 = .ok (.iconst 0, 1) := by decide +kernel
theorem d_X11_ventsIn_1 : decode (cd mX11_ventsIn) 1 = .ok (.istore_n 1, 1) := by decide +kernel
theorem d_X11_ventsIn_2 : decode (cd mX11_ventsIn) 2 = .ok (.iload_n 0, 1) := by decide +kernel
theorem d_X11_ventsIn_3 : decode (cd mX11_ventsIn) 3 = .ok (.istore_n 2, 1) := by decide +kernel
theorem d_X11_ventsIn_4 : decode (cd mX11_ventsIn) 4 = .ok (.iload_n 2, 1) := by decide +kernel
theorem d_X11_ventsIn_5 : decode (cd mX11_ventsIn) 5 = .ok (.ifCond .le 26, 3) := by decide +kernel
theorem d_X11_ventsIn_8 : decode (cd mX11_ventsIn) 8 = .ok (.iload_n 1, 1) := by decide +kernel
theorem d_X11_ventsIn_9 : decode (cd mX11_ventsIn) 9 = .ok (.iload_n 2, 1) := by decide +kernel
theorem d_X11_ventsIn_10 : decode (cd mX11_ventsIn) 10 = .ok (.bipush 10, 2) := by decide +kernel
theorem d_X11_ventsIn_12 : decode (cd mX11_ventsIn) 12 = .ok (.irem, 1) := by decide +kernel
theorem d_X11_ventsIn_13 : decode (cd mX11_ventsIn) 13 = .ok (.ifCond .le 7, 3) := by decide +kernel
theorem d_X11_ventsIn_16 : decode (cd mX11_ventsIn) 16 = .ok (.iconst 1, 1) := by decide +kernel
theorem d_X11_ventsIn_17 : decode (cd mX11_ventsIn) 17 = .ok (.goto 4, 3) := by decide +kernel
theorem d_X11_ventsIn_20 : decode (cd mX11_ventsIn) 20 = .ok (.iconst 0, 1) := by decide +kernel
theorem d_X11_ventsIn_21 : decode (cd mX11_ventsIn) 21 = .ok (.iadd, 1) := by decide +kernel
theorem d_X11_ventsIn_22 : decode (cd mX11_ventsIn) 22 = .ok (.istore_n 1, 1) := by decide +kernel
theorem d_X11_ventsIn_23 : decode (cd mX11_ventsIn) 23 = .ok (.iload_n 2, 1) := by decide +kernel
theorem d_X11_ventsIn_24 : decode (cd mX11_ventsIn) 24 = .ok (.bipush 10, 2) := by decide +kernel
theorem d_X11_ventsIn_26 : decode (cd mX11_ventsIn) 26 = .ok (.idiv, 1) := by decide +kernel
theorem d_X11_ventsIn_27 : decode (cd mX11_ventsIn) 27 = .ok (.istore_n 2, 1) := by decide +kernel
theorem d_X11_ventsIn_28 : decode (cd mX11_ventsIn) 28 = .ok (.goto (-24), 3) := by decide +kernel
theorem d_X11_ventsIn_31 : decode (cd mX11_ventsIn) 31 = .ok (.iload_n 1, 1) := by decide +kernel
theorem d_X11_ventsIn_32 : decode (cd mX11_ventsIn) 32 = .ok (.ireturn, 1) := by decide +kernel
theorem d_X11_rowFor_0 : decode (cd mX11_rowFor) 0 = .ok (.aload_n 0, 1) := by decide +kernel
theorem d_X11_rowFor_1 : decode (cd mX11_rowFor) 1 = .ok (.invokevirtual 168, 3) := by decide +kernel
theorem d_X11_rowFor_4 : decode (cd mX11_rowFor) 4 = .ok (.aload_n 0, 1) := by decide +kernel
theorem d_X11_rowFor_5 : decode (cd mX11_rowFor) 5 = .ok (.getfield 185, 3) := by decide +kernel
theorem d_X11_rowFor_8 : decode (cd mX11_rowFor) 8 = .ok (.ifCond .ne 9, 3) := by decide +kernel
theorem d_X11_rowFor_11 : decode (cd mX11_rowFor) 11 = .ok (.aload_n 0, 1) := by decide +kernel
theorem d_X11_rowFor_12 : decode (cd mX11_rowFor) 12 = .ok (.iconst 1, 1) := by decide +kernel
theorem d_X11_rowFor_13 : decode (cd mX11_rowFor) 13 = .ok (.invokevirtual 171, 3) := by decide +kernel
theorem d_X11_rowFor_16 : decode (cd mX11_rowFor) 16 = .ok (.ireturn, 1) := by decide +kernel
theorem d_X11_rowFor_17 : decode (cd mX11_rowFor) 17 = .ok (.iload_n 1, 1) := by decide +kernel
theorem d_X11_rowFor_18 : decode (cd mX11_rowFor) 18 = .ok (.iconst 0, 1) := by decide +kernel
theorem d_X11_rowFor_19 : decode (cd mX11_rowFor) 19 = .ok (.iconst 3, 1) := by decide +kernel
theorem d_X11_rowFor_20 : decode (cd mX11_rowFor) 20 = .ok (.invokestatic 149, 3) := by decide +kernel
theorem d_X11_rowFor_23 : decode (cd mX11_rowFor) 23 = .ok (.ifCond .eq 12, 3) := by decide +kernel
theorem d_X11_rowFor_26 : decode (cd mX11_rowFor) 26 = .ok (.iload_n 2, 1) := by decide +kernel
theorem d_X11_rowFor_27 : decode (cd mX11_rowFor) 27 = .ok (.iconst 1, 1) := by decide +kernel
theorem d_X11_rowFor_28 : decode (cd mX11_rowFor) 28 = .ok (.iconst 4, 1) := by decide +kernel
theorem d_X11_rowFor_29 : decode (cd mX11_rowFor) 29 = .ok (.invokestatic 149, 3) := by decide +kernel
theorem d_X11_rowFor_32 : decode (cd mX11_rowFor) 32 = .ok (.ifCond .ne 9, 3) := by decide +kernel
theorem d_X11_rowFor_35 : decode (cd mX11_rowFor) 35 = .ok (.aload_n 0, 1) := by decide +kernel
theorem d_X11_rowFor_36 : decode (cd mX11_rowFor) 36 = .ok (.iconst 2, 1) := by decide +kernel
theorem d_X11_rowFor_37 : decode (cd mX11_rowFor) 37 = .ok (.invokevirtual 171, 3) := by decide +kernel
theorem d_X11_rowFor_40 : decode (cd mX11_rowFor) 40 = .ok (.ireturn, 1) := by decide +kernel
theorem d_X11_rowFor_41 : decode (cd mX11_rowFor) 41 = .ok (.bipush (-2), 2) := by decide +kernel
theorem d_X11_rowFor_43 : decode (cd mX11_rowFor) 43 = .ok (.istore_n 3, 1) := by decide +kernel
theorem d_X11_rowFor_44 : decode (cd mX11_rowFor) 44 = .ok (.iconst 0, 1) := by decide +kernel
theorem d_X11_rowFor_45 : decode (cd mX11_rowFor) 45 = .ok (.istore 4, 2) := by decide +kernel
theorem d_X11_rowFor_47 : decode (cd mX11_rowFor) 47 = .ok (.iload 4, 2) := by decide +kernel
theorem d_X11_rowFor_49 : decode (cd mX11_rowFor) 49 = .ok (.iload_n 2, 1) := by decide +kernel
theorem d_X11_rowFor_50 : decode (cd mX11_rowFor) 50 = .ok (.invokestatic 317, 3) := by decide +kernel
theorem d_X11_rowFor_53 : decode (cd mX11_rowFor) 53 = .ok (.if_icmp .ge 59, 3) := by decide +kernel
theorem d_X11_rowFor_56 : decode (cd mX11_rowFor) 56 = .ok (.aload_n 0, 1) := by decide +kernel
theorem d_X11_rowFor_57 : decode (cd mX11_rowFor) 57 = .ok (.iload 4, 2) := by decide +kernel
theorem d_X11_rowFor_59 : decode (cd mX11_rowFor) 59 = .ok (.iload_n 2, 1) := by decide +kernel
theorem d_X11_rowFor_60 : decode (cd mX11_rowFor) 60 = .ok (.invokevirtual 311, 3) := by decide +kernel
theorem d_X11_rowFor_63 : decode (cd mX11_rowFor) 63 = .ok (.ifCond .eq 43, 3) := by decide +kernel
theorem d_X11_rowFor_66 : decode (cd mX11_rowFor) 66 = .ok (.iload_n 3, 1) := by decide +kernel
theorem d_X11_rowFor_67 : decode (cd mX11_rowFor) 67 = .ok (.ifCond .lt 18, 3) := by decide +kernel
theorem d_X11_rowFor_70 : decode (cd mX11_rowFor) 70 = .ok (.iload 4, 2) := by decide +kernel
theorem d_X11_rowFor_72 : decode (cd mX11_rowFor) 72 = .ok (.invokestatic 333, 3) := by decide +kernel
theorem d_X11_rowFor_75 : decode (cd mX11_rowFor) 75 = .ok (.iload_n 3, 1) := by decide +kernel
theorem d_X11_rowFor_76 : decode (cd mX11_rowFor) 76 = .ok (.invokestatic 333, 3) := by decide +kernel
theorem d_X11_rowFor_79 : decode (cd mX11_rowFor) 79 = .ok (.if_icmp .lt 6, 3) := by decide +kernel
theorem d_X11_rowFor_82 : decode (cd mX11_rowFor) 82 = .ok (.goto 24, 3) := by decide +kernel
theorem d_X11_rowFor_85 : decode (cd mX11_rowFor) 85 = .ok (.aload_n 0, 1) := by decide +kernel
theorem d_X11_rowFor_86 : decode (cd mX11_rowFor) 86 = .ok (.iload 4, 2) := by decide +kernel
theorem d_X11_rowFor_88 : decode (cd mX11_rowFor) 88 = .ok (.iload_n 2, 1) := by decide +kernel
theorem d_X11_rowFor_89 : decode (cd mX11_rowFor) 89 = .ok (.invokevirtual 308, 3) := by decide +kernel
theorem d_X11_rowFor_92 : decode (cd mX11_rowFor) 92 = .ok (.aload_n 0, 1) := by decide +kernel
theorem d_X11_rowFor_93 : decode (cd mX11_rowFor) 93 = .ok (.getfield 35, 3) := by decide +kernel
theorem d_X11_rowFor_96 : decode (cd mX11_rowFor) 96 = .ok (.invokestatic 268, 3) := by decide +kernel
theorem d_X11_rowFor_99 : decode (cd mX11_rowFor) 99 = .ok (.iload_n 1, 1) := by decide +kernel
theorem d_X11_rowFor_100 : decode (cd mX11_rowFor) 100 = .ok (.if_icmp .ne 6, 3) := by decide +kernel
theorem d_X11_rowFor_103 : decode (cd mX11_rowFor) 103 = .ok (.iload 4, 2) := by decide +kernel
theorem d_X11_rowFor_105 : decode (cd mX11_rowFor) 105 = .ok (.istore_n 3, 1) := by decide +kernel
theorem d_X11_rowFor_106 : decode (cd mX11_rowFor) 106 = .ok (.iinc 4 1, 3) := by decide +kernel
theorem d_X11_rowFor_109 : decode (cd mX11_rowFor) 109 = .ok (.goto (-62), 3) := by decide +kernel
theorem d_X11_rowFor_112 : decode (cd mX11_rowFor) 112 = .ok (.iload_n 3, 1) := by decide +kernel
theorem d_X11_rowFor_113 : decode (cd mX11_rowFor) 113 = .ok (.ireturn, 1) := by decide +kernel
theorem d_X11_layOuts_0 : decode (cd mX11_layOuts) 0 = .ok (.aload_n 0, 1) := by decide +kernel
theorem d_X11_layOuts_1 : decode (cd mX11_layOuts) 1 = .ok (.aload_n 0, 1) := by decide +kernel
theorem d_X11_layOuts_2 : decode (cd mX11_layOuts) 2 = .ok (.getfield 35, 3) := by decide +kernel
theorem d_X11_layOuts_5 : decode (cd mX11_layOuts) 5 = .ok (.iload_n 1, 1) := by decide +kernel
theorem d_X11_layOuts_6 : decode (cd mX11_layOuts) 6 = .ok (.iconst 4, 1) := by decide +kernel
theorem d_X11_layOuts_7 : decode (cd mX11_layOuts) 7 = .ok (.irem, 1) := by decide +kernel
theorem d_X11_layOuts_8 : decode (cd mX11_layOuts) 8 = .ok (.invokevirtual 181, 3) := by decide +kernel
theorem d_X11_layOuts_11 : decode (cd mX11_layOuts) 11 = .ok (.iconst 0, 1) := by decide +kernel
theorem d_X11_layOuts_12 : decode (cd mX11_layOuts) 12 = .ok (.istore_n 2, 1) := by decide +kernel
theorem d_X11_layOuts_13 : decode (cd mX11_layOuts) 13 = .ok (.iload_n 2, 1) := by decide +kernel
theorem d_X11_layOuts_14 : decode (cd mX11_layOuts) 14 = .ok (.bipush 21, 2) := by decide +kernel
theorem d_X11_layOuts_16 : decode (cd mX11_layOuts) 16 = .ok (.if_icmp .ge 33, 3) := by decide +kernel
theorem d_X11_layOuts_19 : decode (cd mX11_layOuts) 19 = .ok (.aload_n 0, 1) := by decide +kernel
theorem d_X11_layOuts_20 : decode (cd mX11_layOuts) 20 = .ok (.aload_n 0, 1) := by decide +kernel
theorem d_X11_layOuts_21 : decode (cd mX11_layOuts) 21 = .ok (.getfield 35, 3) := by decide +kernel
theorem d_X11_layOuts_24 : decode (cd mX11_layOuts) 24 = .ok (.iload_n 1, 1) := by decide +kernel
theorem d_X11_layOuts_25 : decode (cd mX11_layOuts) 25 = .ok (.iconst 4, 1) := by decide +kernel
theorem d_X11_layOuts_26 : decode (cd mX11_layOuts) 26 = .ok (.idiv, 1) := by decide +kernel
theorem d_X11_layOuts_27 : decode (cd mX11_layOuts) 27 = .ok (.invokevirtual 282, 3) := by decide +kernel
theorem d_X11_layOuts_30 : decode (cd mX11_layOuts) 30 = .ok (.aload_n 0, 1) := by decide +kernel
theorem d_X11_layOuts_31 : decode (cd mX11_layOuts) 31 = .ok (.getfield 41, 3) := by decide +kernel
theorem d_X11_layOuts_34 : decode (cd mX11_layOuts) 34 = .ok (.iload_n 2, 1) := by decide +kernel
theorem d_X11_layOuts_35 : decode (cd mX11_layOuts) 35 = .ok (.aload_n 0, 1) := by decide +kernel
theorem d_X11_layOuts_36 : decode (cd mX11_layOuts) 36 = .ok (.getfield 35, 3) := by decide +kernel
theorem d_X11_layOuts_39 : decode (cd mX11_layOuts) 39 = .ok (.invokestatic 268, 3) := by decide +kernel
theorem d_X11_layOuts_42 : decode (cd mX11_layOuts) 42 = .ok (.iastore, 1) := by decide +kernel
theorem d_X11_layOuts_43 : decode (cd mX11_layOuts) 43 = .ok (.iinc 2 1, 3) := by decide +kernel
theorem d_X11_layOuts_46 : decode (cd mX11_layOuts) 46 = .ok (.goto (-33), 3) := by decide +kernel
theorem d_X11_layOuts_49 : decode (cd mX11_layOuts) 49 = .ok (.return_, 1) := by decide +kernel
theorem d_X11_wrongSeen_0 : decode (cd mX11_wrongSeen) 0 = .ok (.iconst 0, 1) := by decide +kernel
theorem d_X11_wrongSeen_1 : decode (cd mX11_wrongSeen) 1 = .ok (.istore_n 1, 1) := by decide +kernel
theorem d_X11_wrongSeen_2 : decode (cd mX11_wrongSeen) 2 = .ok (.iload_n 1, 1) := by decide +kernel
theorem d_X11_wrongSeen_3 : decode (cd mX11_wrongSeen) 3 = .ok (.aload_n 0, 1) := by decide +kernel
theorem d_X11_wrongSeen_4 : decode (cd mX11_wrongSeen) 4 = .ok (.getfield 20, 3) := by decide +kernel
theorem d_X11_wrongSeen_7 : decode (cd mX11_wrongSeen) 7 = .ok (.bipush 7, 2) := by decide +kernel
theorem d_X11_wrongSeen_9 : decode (cd mX11_wrongSeen) 9 = .ok (.iaload, 1) := by decide +kernel
theorem d_X11_wrongSeen_10 : decode (cd mX11_wrongSeen) 10 = .ok (.if_icmp .ge 43, 3) := by decide +kernel
theorem d_X11_wrongSeen_13 : decode (cd mX11_wrongSeen) 13 = .ok (.aload_n 0, 1) := by decide +kernel
theorem d_X11_wrongSeen_14 : decode (cd mX11_wrongSeen) 14 = .ok (.getfield 41, 3) := by decide +kernel
theorem d_X11_wrongSeen_17 : decode (cd mX11_wrongSeen) 17 = .ok (.aload_n 0, 1) := by decide +kernel
theorem d_X11_wrongSeen_18 : decode (cd mX11_wrongSeen) 18 = .ok (.getfield 20, 3) := by decide +kernel
theorem d_X11_wrongSeen_21 : decode (cd mX11_wrongSeen) 21 = .ok (.bipush 43, 2) := by decide +kernel
theorem d_X11_wrongSeen_23 : decode (cd mX11_wrongSeen) 23 = .ok (.iconst 2, 1) := by decide +kernel
theorem d_X11_wrongSeen_24 : decode (cd mX11_wrongSeen) 24 = .ok (.iload_n 1, 1) := by decide +kernel
theorem d_X11_wrongSeen_25 : decode (cd mX11_wrongSeen) 25 = .ok (.imul, 1) := by decide +kernel
theorem d_X11_wrongSeen_26 : decode (cd mX11_wrongSeen) 26 = .ok (.iadd, 1) := by decide +kernel
theorem d_X11_wrongSeen_27 : decode (cd mX11_wrongSeen) 27 = .ok (.iaload, 1) := by decide +kernel
theorem d_X11_wrongSeen_28 : decode (cd mX11_wrongSeen) 28 = .ok (.iaload, 1) := by decide +kernel
theorem d_X11_wrongSeen_29 : decode (cd mX11_wrongSeen) 29 = .ok (.aload_n 0, 1) := by decide +kernel
theorem d_X11_wrongSeen_30 : decode (cd mX11_wrongSeen) 30 = .ok (.getfield 20, 3) := by decide +kernel
theorem d_X11_wrongSeen_33 : decode (cd mX11_wrongSeen) 33 = .ok (.bipush 43, 2) := by decide +kernel
theorem d_X11_wrongSeen_35 : decode (cd mX11_wrongSeen) 35 = .ok (.iconst 2, 1) := by decide +kernel
theorem d_X11_wrongSeen_36 : decode (cd mX11_wrongSeen) 36 = .ok (.iload_n 1, 1) := by decide +kernel
theorem d_X11_wrongSeen_37 : decode (cd mX11_wrongSeen) 37 = .ok (.imul, 1) := by decide +kernel
theorem d_X11_wrongSeen_38 : decode (cd mX11_wrongSeen) 38 = .ok (.iadd, 1) := by decide +kernel
theorem d_X11_wrongSeen_39 : decode (cd mX11_wrongSeen) 39 = .ok (.iconst 1, 1) := by decide +kernel
theorem d_X11_wrongSeen_40 : decode (cd mX11_wrongSeen) 40 = .ok (.iadd, 1) := by decide +kernel
theorem d_X11_wrongSeen_41 : decode (cd mX11_wrongSeen) 41 = .ok (.iaload, 1) := by decide +kernel
theorem d_X11_wrongSeen_42 : decode (cd mX11_wrongSeen) 42 = .ok (.if_icmp .eq 5, 3) := by decide +kernel
theorem d_X11_wrongSeen_45 : decode (cd mX11_wrongSeen) 45 = .ok (.iload_n 1, 1) := by decide +kernel
theorem d_X11_wrongSeen_46 : decode (cd mX11_wrongSeen) 46 = .ok (.ireturn, 1) := by decide +kernel
theorem d_X11_wrongSeen_47 : decode (cd mX11_wrongSeen) 47 = .ok (.iinc 1 1, 3) := by decide +kernel
theorem d_X11_wrongSeen_50 : decode (cd mX11_wrongSeen) 50 = .ok (.goto (-48), 3) := by decide +kernel
theorem d_X11_wrongSeen_53 : decode (cd mX11_wrongSeen) 53 = .ok (.bipush (-2), 2) := by decide +kernel
theorem d_X11_wrongSeen_55 : decode (cd mX11_wrongSeen) 55 = .ok (.ireturn, 1) := by decide +kernel
theorem d_X11_seekMakes_0 : decode (cd mX11_seekMakes) 0 = .ok (.iconst (-1), 1) := by decide +kernel
theorem d_X11_seekMakes_1 : decode (cd mX11_seekMakes) 1 = .ok (.istore_n 2, 1) := by decide +kernel
theorem d_X11_seekMakes_2 : decode (cd mX11_seekMakes) 2 = .ok (.aload_n 0, 1) := by decide +kernel
theorem d_X11_seekMakes_3 : decode (cd mX11_seekMakes) 3 = .ok (.iconst 0, 1) := by decide +kernel
theorem d_X11_seekMakes_4 : decode (cd mX11_seekMakes) 4 = .ok (.putfield 336, 3) := by decide +kernel
theorem d_X11_seekMakes_7 : decode (cd mX11_seekMakes) 7 = .ok (.aload_n 0, 1) := by decide +kernel
theorem d_X11_seekMakes_8 : decode (cd mX11_seekMakes) 8 = .ok (.iconst 0, 1) := by decide +kernel
theorem d_X11_seekMakes_9 : decode (cd mX11_seekMakes) 9 = .ok (.putfield 339, 3) := by decide +kernel
theorem d_X11_seekMakes_12 : decode (cd mX11_seekMakes) 12 = .ok (.aload_n 0, 1) := by decide +kernel
theorem d_X11_seekMakes_13 : decode (cd mX11_seekMakes) 13 = .ok (.iconst 0, 1) := by decide +kernel
theorem d_X11_seekMakes_14 : decode (cd mX11_seekMakes) 14 = .ok (.putfield 342, 3) := by decide +kernel
theorem d_X11_seekMakes_17 : decode (cd mX11_seekMakes) 17 = .ok (.iconst 0, 1) := by decide +kernel
theorem d_X11_seekMakes_18 : decode (cd mX11_seekMakes) 18 = .ok (.istore_n 3, 1) := by decide +kernel
theorem d_X11_seekMakes_19 : decode (cd mX11_seekMakes) 19 = .ok (.iload_n 3, 1) := by decide +kernel
theorem d_X11_seekMakes_20 : decode (cd mX11_seekMakes) 20 = .ok (.bipush 84, 2) := by decide +kernel
theorem d_X11_seekMakes_22 : decode (cd mX11_seekMakes) 22 = .ok (.if_icmp .ge 16, 3) := by decide +kernel
theorem d_X11_seekMakes_25 : decode (cd mX11_seekMakes) 25 = .ok (.aload_n 0, 1) := by decide +kernel
theorem d_X11_seekMakes_26 : decode (cd mX11_seekMakes) 26 = .ok (.getfield 44, 3) := by decide +kernel
theorem d_X11_seekMakes_29 : decode (cd mX11_seekMakes) 29 = .ok (.iload_n 3, 1) := by decide +kernel
theorem d_X11_seekMakes_30 : decode (cd mX11_seekMakes) 30 = .ok (.iconst 0, 1) := by decide +kernel
theorem d_X11_seekMakes_31 : decode (cd mX11_seekMakes) 31 = .ok (.iastore, 1) := by decide +kernel
theorem d_X11_seekMakes_32 : decode (cd mX11_seekMakes) 32 = .ok (.iinc 3 1, 3) := by decide +kernel
theorem d_X11_seekMakes_35 : decode (cd mX11_seekMakes) 35 = .ok (.goto (-16), 3) := by decide +kernel
theorem d_X11_seekMakes_38 : decode (cd mX11_seekMakes) 38 = .ok (.iconst 0, 1) := by decide +kernel
theorem d_X11_seekMakes_39 : decode (cd mX11_seekMakes) 39 = .ok (.istore_n 3, 1) := by decide +kernel
theorem d_X11_seekMakes_40 : decode (cd mX11_seekMakes) 40 = .ok (.iload_n 3, 1) := by decide +kernel
theorem d_X11_seekMakes_41 : decode (cd mX11_seekMakes) 41 = .ok (.bipush 40, 2) := by decide +kernel
theorem d_X11_seekMakes_43 : decode (cd mX11_seekMakes) 43 = .ok (.if_icmp .ge 120, 3) := by decide +kernel
theorem d_X11_seekMakes_46 : decode (cd mX11_seekMakes) 46 = .ok (.aload_n 0, 1) := by decide +kernel
theorem d_X11_seekMakes_47 : decode (cd mX11_seekMakes) 47 = .ok (.iload_n 3, 1) := by decide +kernel
theorem d_X11_seekMakes_48 : decode (cd mX11_seekMakes) 48 = .ok (.invokevirtual 345, 3) := by decide +kernel
theorem d_X11_seekMakes_51 : decode (cd mX11_seekMakes) 51 = .ok (.aload_n 0, 1) := by decide +kernel
theorem d_X11_seekMakes_52 : decode (cd mX11_seekMakes) 52 = .ok (.invokevirtual 348, 3) := by decide +kernel
theorem d_X11_seekMakes_55 : decode (cd mX11_seekMakes) 55 = .ok (.bipush (-2), 2) := by decide +kernel
theorem d_X11_seekMakes_57 : decode (cd mX11_seekMakes) 57 = .ok (.if_icmp .eq 6, 3) := by decide +kernel
theorem d_X11_seekMakes_60 : decode (cd mX11_seekMakes) 60 = .ok (.goto 97, 3) := by decide +kernel
theorem d_X11_seekMakes_63 : decode (cd mX11_seekMakes) 63 = .ok (.aload_n 0, 1) := by decide +kernel
theorem d_X11_seekMakes_64 : decode (cd mX11_seekMakes) 64 = .ok (.getfield 336, 3) := by decide +kernel
theorem d_X11_seekMakes_67 : decode (cd mX11_seekMakes) 67 = .ok (.iload_n 1, 1) := by decide +kernel
theorem d_X11_seekMakes_68 : decode (cd mX11_seekMakes) 68 = .ok (.if_icmp .ne 14, 3) := by decide +kernel
theorem d_X11_seekMakes_71 : decode (cd mX11_seekMakes) 71 = .ok (.bipush 10, 2) := by decide +kernel
theorem d_X11_seekMakes_73 : decode (cd mX11_seekMakes) 73 = .ok (.iload_n 3, 1) := by decide +kernel
theorem d_X11_seekMakes_74 : decode (cd mX11_seekMakes) 74 = .ok (.iconst 4, 1) := by decide +kernel
theorem d_X11_seekMakes_75 : decode (cd mX11_seekMakes) 75 = .ok (.idiv, 1) := by decide +kernel
theorem d_X11_seekMakes_76 : decode (cd mX11_seekMakes) 76 = .ok (.imul, 1) := by decide +kernel
theorem d_X11_seekMakes_77 : decode (cd mX11_seekMakes) 77 = .ok (.iload_n 3, 1) := by decide +kernel
theorem d_X11_seekMakes_78 : decode (cd mX11_seekMakes) 78 = .ok (.iconst 4, 1) := by decide +kernel
theorem d_X11_seekMakes_79 : decode (cd mX11_seekMakes) 79 = .ok (.irem, 1) := by decide +kernel
theorem d_X11_seekMakes_80 : decode (cd mX11_seekMakes) 80 = .ok (.iadd, 1) := by decide +kernel
theorem d_X11_seekMakes_81 : decode (cd mX11_seekMakes) 81 = .ok (.istore_n 2, 1) := by decide +kernel
theorem d_X11_seekMakes_82 : decode (cd mX11_seekMakes) 82 = .ok (.aload_n 0, 1) := by decide +kernel
theorem d_X11_seekMakes_83 : decode (cd mX11_seekMakes) 83 = .ok (.dup, 1) := by decide +kernel
theorem d_X11_seekMakes_84 : decode (cd mX11_seekMakes) 84 = .ok (.getfield 336, 3) := by decide +kernel
theorem d_X11_seekMakes_87 : decode (cd mX11_seekMakes) 87 = .ok (.iconst 1, 1) := by decide +kernel
theorem d_X11_seekMakes_88 : decode (cd mX11_seekMakes) 88 = .ok (.iadd, 1) := by decide +kernel
theorem d_X11_seekMakes_89 : decode (cd mX11_seekMakes) 89 = .ok (.putfield 336, 3) := by decide +kernel
theorem d_X11_seekMakes_92 : decode (cd mX11_seekMakes) 92 = .ok (.aload_n 0, 1) := by decide +kernel
theorem d_X11_seekMakes_93 : decode (cd mX11_seekMakes) 93 = .ok (.dup, 1) := by decide +kernel
theorem d_X11_seekMakes_94 : decode (cd mX11_seekMakes) 94 = .ok (.getfield 339, 3) := by decide +kernel
theorem d_X11_seekMakes_97 : decode (cd mX11_seekMakes) 97 = .ok (.iconst 1, 1) := by decide +kernel
theorem d_X11_seekMakes_98 : decode (cd mX11_seekMakes) 98 = .ok (.iload_n 3, 1) := by decide +kernel
theorem d_X11_seekMakes_99 : decode (cd mX11_seekMakes) 99 = .ok (.iconst 4, 1) := by decide +kernel
theorem d_X11_seekMakes_100 : decode (cd mX11_seekMakes) 100 = .ok (.idiv, 1) := by decide +kernel
theorem d_X11_seekMakes_101 : decode (cd mX11_seekMakes) 101 = .ok (.ishl, 1) := by decide +kernel
theorem d_X11_seekMakes_102 : decode (cd mX11_seekMakes) 102 = .ok (.ior, 1) := by decide +kernel
theorem d_X11_seekMakes_103 : decode (cd mX11_seekMakes) 103 = .ok (.putfield 339, 3) := by decide +kernel
theorem d_X11_seekMakes_106 : decode (cd mX11_seekMakes) 106 = .ok (.aload_n 0, 1) := by decide +kernel
theorem d_X11_seekMakes_107 : decode (cd mX11_seekMakes) 107 = .ok (.dup, 1) := by decide +kernel
theorem d_X11_seekMakes_108 : decode (cd mX11_seekMakes) 108 = .ok (.getfield 342, 3) := by decide +kernel
theorem d_X11_seekMakes_111 : decode (cd mX11_seekMakes) 111 = .ok (.iconst 1, 1) := by decide +kernel
theorem d_X11_seekMakes_112 : decode (cd mX11_seekMakes) 112 = .ok (.iload_n 3, 1) := by decide +kernel
theorem d_X11_seekMakes_113 : decode (cd mX11_seekMakes) 113 = .ok (.iconst 4, 1) := by decide +kernel
theorem d_X11_seekMakes_114 : decode (cd mX11_seekMakes) 114 = .ok (.irem, 1) := by decide +kernel
theorem d_X11_seekMakes_115 : decode (cd mX11_seekMakes) 115 = .ok (.ishl, 1) := by decide +kernel
theorem d_X11_seekMakes_116 : decode (cd mX11_seekMakes) 116 = .ok (.ior, 1) := by decide +kernel
theorem d_X11_seekMakes_117 : decode (cd mX11_seekMakes) 117 = .ok (.putfield 342, 3) := by decide +kernel
theorem d_X11_seekMakes_120 : decode (cd mX11_seekMakes) 120 = .ok (.iconst 0, 1) := by decide +kernel
theorem d_X11_seekMakes_121 : decode (cd mX11_seekMakes) 121 = .ok (.istore 4, 2) := by decide +kernel
theorem d_X11_seekMakes_123 : decode (cd mX11_seekMakes) 123 = .ok (.iload 4, 2) := by decide +kernel
theorem d_X11_seekMakes_125 : decode (cd mX11_seekMakes) 125 = .ok (.bipush 21, 2) := by decide +kernel
theorem d_X11_seekMakes_127 : decode (cd mX11_seekMakes) 127 = .ok (.if_icmp .ge 30, 3) := by decide +kernel
theorem d_X11_seekMakes_130 : decode (cd mX11_seekMakes) 130 = .ok (.aload_n 0, 1) := by decide +kernel
theorem d_X11_seekMakes_131 : decode (cd mX11_seekMakes) 131 = .ok (.getfield 44, 3) := by decide +kernel
theorem d_X11_seekMakes_134 : decode (cd mX11_seekMakes) 134 = .ok (.iconst 4, 1) := by decide +kernel
theorem d_X11_seekMakes_135 : decode (cd mX11_seekMakes) 135 = .ok (.iload 4, 2) := by decide +kernel
theorem d_X11_seekMakes_137 : decode (cd mX11_seekMakes) 137 = .ok (.imul, 1) := by decide +kernel
theorem d_X11_seekMakes_138 : decode (cd mX11_seekMakes) 138 = .ok (.aload_n 0, 1) := by decide +kernel
theorem d_X11_seekMakes_139 : decode (cd mX11_seekMakes) 139 = .ok (.getfield 41, 3) := by decide +kernel
theorem d_X11_seekMakes_142 : decode (cd mX11_seekMakes) 142 = .ok (.iload 4, 2) := by decide +kernel
theorem d_X11_seekMakes_144 : decode (cd mX11_seekMakes) 144 = .ok (.iaload, 1) := by decide +kernel
theorem d_X11_seekMakes_145 : decode (cd mX11_seekMakes) 145 = .ok (.iadd, 1) := by decide +kernel
theorem d_X11_seekMakes_146 : decode (cd mX11_seekMakes) 146 = .ok (.dup2, 1) := by decide +kernel
theorem d_X11_seekMakes_147 : decode (cd mX11_seekMakes) 147 = .ok (.iaload, 1) := by decide +kernel
theorem d_X11_seekMakes_148 : decode (cd mX11_seekMakes) 148 = .ok (.iconst 1, 1) := by decide +kernel
theorem d_X11_seekMakes_149 : decode (cd mX11_seekMakes) 149 = .ok (.iadd, 1) := by decide +kernel
theorem d_X11_seekMakes_150 : decode (cd mX11_seekMakes) 150 = .ok (.iastore, 1) := by decide +kernel
theorem d_X11_seekMakes_151 : decode (cd mX11_seekMakes) 151 = .ok (.iinc 4 1, 3) := by decide +kernel
theorem d_X11_seekMakes_154 : decode (cd mX11_seekMakes) 154 = .ok (.goto (-31), 3) := by decide +kernel
theorem d_X11_seekMakes_157 : decode (cd mX11_seekMakes) 157 = .ok (.iinc 3 1, 3) := by decide +kernel
theorem d_X11_seekMakes_160 : decode (cd mX11_seekMakes) 160 = .ok (.goto (-120), 3) := by decide +kernel
theorem d_X11_seekMakes_163 : decode (cd mX11_seekMakes) 163 = .ok (.iload_n 2, 1) := by decide +kernel
theorem d_X11_seekMakes_164 : decode (cd mX11_seekMakes) 164 = .ok (.ireturn, 1) := by decide +kernel
theorem d_X11_makes_0 : decode (cd mX11_makes) 0 = .ok (.aload_n 0, 1) := by decide +kernel
theorem d_X11_makes_1 : decode (cd mX11_makes) 1 = .ok (.invokevirtual 168, 3) := by decide +kernel
theorem d_X11_makes_4 : decode (cd mX11_makes) 4 = .ok (.aload_n 0, 1) := by decide +kernel
theorem d_X11_makes_5 : decode (cd mX11_makes) 5 = .ok (.getfield 185, 3) := by decide +kernel
theorem d_X11_makes_8 : decode (cd mX11_makes) 8 = .ok (.ifCond .ne 9, 3) := by decide +kernel
theorem d_X11_makes_11 : decode (cd mX11_makes) 11 = .ok (.aload_n 0, 1) := by decide +kernel
theorem d_X11_makes_12 : decode (cd mX11_makes) 12 = .ok (.iconst 1, 1) := by decide +kernel
theorem d_X11_makes_13 : decode (cd mX11_makes) 13 = .ok (.invokevirtual 171, 3) := by decide +kernel
theorem d_X11_makes_16 : decode (cd mX11_makes) 16 = .ok (.ireturn, 1) := by decide +kernel
theorem d_X11_makes_17 : decode (cd mX11_makes) 17 = .ok (.aload_n 0, 1) := by decide +kernel
theorem d_X11_makes_18 : decode (cd mX11_makes) 18 = .ok (.iconst (-1), 1) := by decide +kernel
theorem d_X11_makes_19 : decode (cd mX11_makes) 19 = .ok (.invokevirtual 351, 3) := by decide +kernel
theorem d_X11_makes_22 : decode (cd mX11_makes) 22 = .ok (.pop, 1) := by decide +kernel
theorem d_X11_makes_23 : decode (cd mX11_makes) 23 = .ok (.aload_n 0, 1) := by decide +kernel
theorem d_X11_makes_24 : decode (cd mX11_makes) 24 = .ok (.getfield 336, 3) := by decide +kernel
theorem d_X11_makes_27 : decode (cd mX11_makes) 27 = .ok (.ireturn, 1) := by decide +kernel
theorem d_X11_makeAt_0 : decode (cd mX11_makeAt) 0 = .ok (.aload_n 0, 1) := by decide +kernel
theorem d_X11_makeAt_1 : decode (cd mX11_makeAt) 1 = .ok (.invokevirtual 168, 3) := by decide +kernel
theorem d_X11_makeAt_4 : decode (cd mX11_makeAt) 4 = .ok (.aload_n 0, 1) := by decide +kernel
theorem d_X11_makeAt_5 : decode (cd mX11_makeAt) 5 = .ok (.getfield 185, 3) := by decide +kernel
theorem d_X11_makeAt_8 : decode (cd mX11_makeAt) 8 = .ok (.ifCond .eq 7, 3) := by decide +kernel
theorem d_X11_makeAt_11 : decode (cd mX11_makeAt) 11 = .ok (.iload_n 1, 1) := by decide +kernel
theorem d_X11_makeAt_12 : decode (cd mX11_makeAt) 12 = .ok (.ifCond .ge 9, 3) := by decide +kernel
theorem d_X11_makeAt_15 : decode (cd mX11_makeAt) 15 = .ok (.aload_n 0, 1) := by decide +kernel
theorem d_X11_makeAt_16 : decode (cd mX11_makeAt) 16 = .ok (.iconst 1, 1) := by decide +kernel
theorem d_X11_makeAt_17 : decode (cd mX11_makeAt) 17 = .ok (.invokevirtual 171, 3) := by decide +kernel
theorem d_X11_makeAt_20 : decode (cd mX11_makeAt) 20 = .ok (.ireturn, 1) := by decide +kernel
theorem d_X11_makeAt_21 : decode (cd mX11_makeAt) 21 = .ok (.aload_n 0, 1) := by decide +kernel
theorem d_X11_makeAt_22 : decode (cd mX11_makeAt) 22 = .ok (.iload_n 1, 1) := by decide +kernel
theorem d_X11_makeAt_23 : decode (cd mX11_makeAt) 23 = .ok (.invokevirtual 351, 3) := by decide +kernel
theorem d_X11_makeAt_26 : decode (cd mX11_makeAt) 26 = .ok (.istore_n 2, 1) := by decide +kernel
theorem d_X11_makeAt_27 : decode (cd mX11_makeAt) 27 = .ok (.iload_n 2, 1) := by decide +kernel
theorem d_X11_makeAt_28 : decode (cd mX11_makeAt) 28 = .ok (.ifCond .ge 11, 3) := by decide +kernel
theorem d_X11_makeAt_31 : decode (cd mX11_makeAt) 31 = .ok (.aload_n 0, 1) := by decide +kernel
theorem d_X11_makeAt_32 : decode (cd mX11_makeAt) 32 = .ok (.iconst 1, 1) := by decide +kernel
theorem d_X11_makeAt_33 : decode (cd mX11_makeAt) 33 = .ok (.invokevirtual 171, 3) := by decide +kernel
theorem d_X11_makeAt_36 : decode (cd mX11_makeAt) 36 = .ok (.goto 4, 3) := by decide +kernel
theorem d_X11_makeAt_39 : decode (cd mX11_makeAt) 39 = .ok (.iload_n 2, 1) := by decide +kernel
theorem d_X11_makeAt_40 : decode (cd mX11_makeAt) 40 = .ok (.ireturn, 1) := by decide +kernel
theorem d_X11_could_0 : decode (cd mX11_could) 0 = .ok (.aload_n 0, 1) := by decide +kernel
theorem d_X11_could_1 : decode (cd mX11_could) 1 = .ok (.invokevirtual 168, 3) := by decide +kernel
theorem d_X11_could_4 : decode (cd mX11_could) 4 = .ok (.aload_n 0, 1) := by decide +kernel
theorem d_X11_could_5 : decode (cd mX11_could) 5 = .ok (.getfield 185, 3) := by decide +kernel
theorem d_X11_could_8 : decode (cd mX11_could) 8 = .ok (.ifCond .ne 9, 3) := by decide +kernel
theorem d_X11_could_11 : decode (cd mX11_could) 11 = .ok (.aload_n 0, 1) := by decide +kernel
theorem d_X11_could_12 : decode (cd mX11_could) 12 = .ok (.iconst 1, 1) := by decide +kernel
theorem d_X11_could_13 : decode (cd mX11_could) 13 = .ok (.invokevirtual 171, 3) := by decide +kernel
theorem d_X11_could_16 : decode (cd mX11_could) 16 = .ok (.ireturn, 1) := by decide +kernel
theorem d_X11_could_17 : decode (cd mX11_could) 17 = .ok (.aload_n 0, 1) := by decide +kernel
theorem d_X11_could_18 : decode (cd mX11_could) 18 = .ok (.iconst (-1), 1) := by decide +kernel
theorem d_X11_could_19 : decode (cd mX11_could) 19 = .ok (.invokevirtual 351, 3) := by decide +kernel
theorem d_X11_could_22 : decode (cd mX11_could) 22 = .ok (.pop, 1) := by decide +kernel
theorem d_X11_could_23 : decode (cd mX11_could) 23 = .ok (.iload_n 1, 1) := by decide +kernel
theorem d_X11_could_24 : decode (cd mX11_could) 24 = .ok (.ifCond .eq 10, 3) := by decide +kernel
theorem d_X11_could_27 : decode (cd mX11_could) 27 = .ok (.aload_n 0, 1) := by decide +kernel
theorem d_X11_could_28 : decode (cd mX11_could) 28 = .ok (.getfield 342, 3) := by decide +kernel
theorem d_X11_could_31 : decode (cd mX11_could) 31 = .ok (.goto 7, 3) := by decide +kernel
theorem d_X11_could_34 : decode (cd mX11_could) 34 = .ok (.aload_n 0, 1) := by decide +kernel
theorem d_X11_could_35 : decode (cd mX11_could) 35 = .ok (.getfield 339, 3) := by decide +kernel
theorem d_X11_could_38 : decode (cd mX11_could) 38 = .ok (.ireturn, 1) := by decide +kernel
theorem d_X11_surely_0 : decode (cd mX11_surely) 0 = .ok (.aload_n 0, 1) := by decide +kernel
theorem d_X11_surely_1 : decode (cd mX11_surely) 1 = .ok (.invokevirtual 168, 3) := by decide +kernel
theorem d_X11_surely_4 : decode (cd mX11_surely) 4 = .ok (.aload_n 0, 1) := by decide +kernel
theorem d_X11_surely_5 : decode (cd mX11_surely) 5 = .ok (.getfield 185, 3) := by decide +kernel
theorem d_X11_surely_8 : decode (cd mX11_surely) 8 = .ok (.ifCond .ne 9, 3) := by decide +kernel
theorem d_X11_surely_11 : decode (cd mX11_surely) 11 = .ok (.aload_n 0, 1) := by decide +kernel
theorem d_X11_surely_12 : decode (cd mX11_surely) 12 = .ok (.iconst 1, 1) := by decide +kernel
theorem d_X11_surely_13 : decode (cd mX11_surely) 13 = .ok (.invokevirtual 171, 3) := by decide +kernel
theorem d_X11_surely_16 : decode (cd mX11_surely) 16 = .ok (.ireturn, 1) := by decide +kernel
theorem d_X11_surely_17 : decode (cd mX11_surely) 17 = .ok (.aload_n 0, 1) := by decide +kernel
theorem d_X11_surely_18 : decode (cd mX11_surely) 18 = .ok (.iconst (-1), 1) := by decide +kernel
theorem d_X11_surely_19 : decode (cd mX11_surely) 19 = .ok (.invokevirtual 351, 3) := by decide +kernel
theorem d_X11_surely_22 : decode (cd mX11_surely) 22 = .ok (.pop, 1) := by decide +kernel
theorem d_X11_surely_23 : decode (cd mX11_surely) 23 = .ok (.iconst 0, 1) := by decide +kernel
theorem d_X11_surely_24 : decode (cd mX11_surely) 24 = .ok (.istore_n 2, 1) := by decide +kernel
theorem d_X11_surely_25 : decode (cd mX11_surely) 25 = .ok (.iload_n 2, 1) := by decide +kernel
theorem d_X11_surely_26 : decode (cd mX11_surely) 26 = .ok (.bipush 10, 2) := by decide +kernel
theorem d_X11_surely_28 : decode (cd mX11_surely) 28 = .ok (.if_icmp .ge 32, 3) := by decide +kernel
theorem d_X11_surely_31 : decode (cd mX11_surely) 31 = .ok (.iload_n 1, 1) := by decide +kernel
theorem d_X11_surely_32 : decode (cd mX11_surely) 32 = .ok (.ifCond .eq 10, 3) := by decide +kernel
theorem d_X11_surely_35 : decode (cd mX11_surely) 35 = .ok (.aload_n 0, 1) := by decide +kernel
theorem d_X11_surely_36 : decode (cd mX11_surely) 36 = .ok (.getfield 342, 3) := by decide +kernel
theorem d_X11_surely_39 : decode (cd mX11_surely) 39 = .ok (.goto 7, 3) := by decide +kernel
theorem d_X11_surely_42 : decode (cd mX11_surely) 42 = .ok (.aload_n 0, 1) := by decide +kernel
theorem d_X11_surely_43 : decode (cd mX11_surely) 43 = .ok (.getfield 339, 3) := by decide +kernel
theorem d_X11_surely_46 : decode (cd mX11_surely) 46 = .ok (.iconst 1, 1) := by decide +kernel
theorem d_X11_surely_47 : decode (cd mX11_surely) 47 = .ok (.iload_n 2, 1) := by decide +kernel
theorem d_X11_surely_48 : decode (cd mX11_surely) 48 = .ok (.ishl, 1) := by decide +kernel
theorem d_X11_surely_49 : decode (cd mX11_surely) 49 = .ok (.if_icmp .ne 5, 3) := by decide +kernel
theorem d_X11_surely_52 : decode (cd mX11_surely) 52 = .ok (.iload_n 2, 1) := by decide +kernel
theorem d_X11_surely_53 : decode (cd mX11_surely) 53 = .ok (.ireturn, 1) := by decide +kernel
theorem d_X11_surely_54 : decode (cd mX11_surely) 54 = .ok (.iinc 2 1, 3) := by decide +kernel
theorem d_X11_surely_57 : decode (cd mX11_surely) 57 = .ok (.goto (-32), 3) := by decide +kernel
theorem d_X11_surely_60 : decode (cd mX11_surely) 60 = .ok (.bipush (-2), 2) := by decide +kernel
theorem d_X11_surely_62 : decode (cd mX11_surely) 62 = .ok (.ireturn, 1) := by decide +kernel
theorem d_X11_lookOf_0 : decode (cd mX11_lookOf) 0 = .ok (.aload_n 0, 1) := by decide +kernel
theorem d_X11_lookOf_1 : decode (cd mX11_lookOf) 1 = .ok (.iconst (-1), 1) := by decide +kernel
theorem d_X11_lookOf_2 : decode (cd mX11_lookOf) 2 = .ok (.invokevirtual 351, 3) := by decide +kernel
theorem d_X11_lookOf_5 : decode (cd mX11_lookOf) 5 = .ok (.pop, 1) := by decide +kernel
theorem d_X11_lookOf_6 : decode (cd mX11_lookOf) 6 = .ok (.bipush (-2), 2) := by decide +kernel
theorem d_X11_lookOf_8 : decode (cd mX11_lookOf) 8 = .ok (.istore_n 1, 1) := by decide +kernel
theorem d_X11_lookOf_9 : decode (cd mX11_lookOf) 9 = .ok (.aload_n 0, 1) := by decide +kernel
theorem d_X11_lookOf_10 : decode (cd mX11_lookOf) 10 = .ok (.bipush (-2), 2) := by decide +kernel
theorem d_X11_lookOf_12 : decode (cd mX11_lookOf) 12 = .ok (.putfield 354, 3) := by decide +kernel
theorem d_X11_lookOf_15 : decode (cd mX11_lookOf) 15 = .ok (.iconst 0, 1) := by decide +kernel
theorem d_X11_lookOf_16 : decode (cd mX11_lookOf) 16 = .ok (.istore_n 2, 1) := by decide +kernel
theorem d_X11_lookOf_17 : decode (cd mX11_lookOf) 17 = .ok (.iload_n 2, 1) := by decide +kernel
theorem d_X11_lookOf_18 : decode (cd mX11_lookOf) 18 = .ok (.bipush 21, 2) := by decide +kernel
theorem d_X11_lookOf_20 : decode (cd mX11_lookOf) 20 = .ok (.if_icmp .ge 86, 3) := by decide +kernel
theorem d_X11_lookOf_23 : decode (cd mX11_lookOf) 23 = .ok (.aload_n 0, 1) := by decide +kernel
theorem d_X11_lookOf_24 : decode (cd mX11_lookOf) 24 = .ok (.getfield 336, 3) := by decide +kernel
theorem d_X11_lookOf_27 : decode (cd mX11_lookOf) 27 = .ok (.ifCond .le 79, 3) := by decide +kernel
theorem d_X11_lookOf_30 : decode (cd mX11_lookOf) 30 = .ok (.iconst 0, 1) := by decide +kernel
theorem d_X11_lookOf_31 : decode (cd mX11_lookOf) 31 = .ok (.istore_n 3, 1) := by decide +kernel
theorem d_X11_lookOf_32 : decode (cd mX11_lookOf) 32 = .ok (.iconst 0, 1) := by decide +kernel
theorem d_X11_lookOf_33 : decode (cd mX11_lookOf) 33 = .ok (.istore 4, 2) := by decide +kernel
theorem d_X11_lookOf_35 : decode (cd mX11_lookOf) 35 = .ok (.iload 4, 2) := by decide +kernel
theorem d_X11_lookOf_37 : decode (cd mX11_lookOf) 37 = .ok (.iconst 4, 1) := by decide +kernel
theorem d_X11_lookOf_38 : decode (cd mX11_lookOf) 38 = .ok (.if_icmp .ge 40, 3) := by decide +kernel
theorem d_X11_lookOf_41 : decode (cd mX11_lookOf) 41 = .ok (.aload_n 0, 1) := by decide +kernel
theorem d_X11_lookOf_42 : decode (cd mX11_lookOf) 42 = .ok (.getfield 44, 3) := by decide +kernel
theorem d_X11_lookOf_45 : decode (cd mX11_lookOf) 45 = .ok (.iconst 4, 1) := by decide +kernel
theorem d_X11_lookOf_46 : decode (cd mX11_lookOf) 46 = .ok (.iload_n 2, 1) := by decide +kernel
theorem d_X11_lookOf_47 : decode (cd mX11_lookOf) 47 = .ok (.imul, 1) := by decide +kernel
theorem d_X11_lookOf_48 : decode (cd mX11_lookOf) 48 = .ok (.iload 4, 2) := by decide +kernel
theorem d_X11_lookOf_50 : decode (cd mX11_lookOf) 50 = .ok (.iadd, 1) := by decide +kernel
theorem d_X11_lookOf_51 : decode (cd mX11_lookOf) 51 = .ok (.iaload, 1) := by decide +kernel
theorem d_X11_lookOf_52 : decode (cd mX11_lookOf) 52 = .ok (.iload_n 3, 1) := by decide +kernel
theorem d_X11_lookOf_53 : decode (cd mX11_lookOf) 53 = .ok (.if_icmp .le 17, 3) := by decide +kernel
theorem d_X11_lookOf_56 : decode (cd mX11_lookOf) 56 = .ok (.aload_n 0, 1) := by decide +kernel
theorem d_X11_lookOf_57 : decode (cd mX11_lookOf) 57 = .ok (.getfield 44, 3) := by decide +kernel
theorem d_X11_lookOf_60 : decode (cd mX11_lookOf) 60 = .ok (.iconst 4, 1) := by decide +kernel
theorem d_X11_lookOf_61 : decode (cd mX11_lookOf) 61 = .ok (.iload_n 2, 1) := by decide +kernel
theorem d_X11_lookOf_62 : decode (cd mX11_lookOf) 62 = .ok (.imul, 1) := by decide +kernel
theorem d_X11_lookOf_63 : decode (cd mX11_lookOf) 63 = .ok (.iload 4, 2) := by decide +kernel
theorem d_X11_lookOf_65 : decode (cd mX11_lookOf) 65 = .ok (.iadd, 1) := by decide +kernel
theorem d_X11_lookOf_66 : decode (cd mX11_lookOf) 66 = .ok (.iaload, 1) := by decide +kernel
theorem d_X11_lookOf_67 : decode (cd mX11_lookOf) 67 = .ok (.goto 4, 3) := by decide +kernel
theorem d_X11_lookOf_70 : decode (cd mX11_lookOf) 70 = .ok (.iload_n 3, 1) := by decide +kernel
theorem d_X11_lookOf_71 : decode (cd mX11_lookOf) 71 = .ok (.istore_n 3, 1) := by decide +kernel
theorem d_X11_lookOf_72 : decode (cd mX11_lookOf) 72 = .ok (.iinc 4 1, 3) := by decide +kernel
theorem d_X11_lookOf_75 : decode (cd mX11_lookOf) 75 = .ok (.goto (-40), 3) := by decide +kernel
theorem d_X11_lookOf_78 : decode (cd mX11_lookOf) 78 = .ok (.iload_n 1, 1) := by decide +kernel
theorem d_X11_lookOf_79 : decode (cd mX11_lookOf) 79 = .ok (.ifCond .lt 14, 3) := by decide +kernel
theorem d_X11_lookOf_82 : decode (cd mX11_lookOf) 82 = .ok (.iload_n 3, 1) := by decide +kernel
theorem d_X11_lookOf_83 : decode (cd mX11_lookOf) 83 = .ok (.aload_n 0, 1) := by decide +kernel
theorem d_X11_lookOf_84 : decode (cd mX11_lookOf) 84 = .ok (.getfield 354, 3) := by decide +kernel
theorem d_X11_lookOf_87 : decode (cd mX11_lookOf) 87 = .ok (.if_icmp .lt 6, 3) := by decide +kernel
theorem d_X11_lookOf_90 : decode (cd mX11_lookOf) 90 = .ok (.goto 10, 3) := by decide +kernel
theorem d_X11_lookOf_93 : decode (cd mX11_lookOf) 93 = .ok (.iload_n 2, 1) := by decide +kernel
theorem d_X11_lookOf_94 : decode (cd mX11_lookOf) 94 = .ok (.istore_n 1, 1) := by decide +kernel
theorem d_X11_lookOf_95 : decode (cd mX11_lookOf) 95 = .ok (.aload_n 0, 1) := by decide +kernel
theorem d_X11_lookOf_96 : decode (cd mX11_lookOf) 96 = .ok (.iload_n 3, 1) := by decide +kernel
theorem d_X11_lookOf_97 : decode (cd mX11_lookOf) 97 = .ok (.putfield 354, 3) := by decide +kernel
theorem d_X11_lookOf_100 : decode (cd mX11_lookOf) 100 = .ok (.iinc 2 1, 3) := by decide +kernel
theorem d_X11_lookOf_103 : decode (cd mX11_lookOf) 103 = .ok (.goto (-86), 3) := by decide +kernel
theorem d_X11_lookOf_106 : decode (cd mX11_lookOf) 106 = .ok (.iload_n 1, 1) := by decide +kernel
theorem d_X11_lookOf_107 : decode (cd mX11_lookOf) 107 = .ok (.ireturn, 1) := by decide +kernel
theorem d_X11_look_0 : decode (cd mX11_look) 0 = .ok (.aload_n 0, 1) := by decide +kernel
theorem d_X11_look_1 : decode (cd mX11_look) 1 = .ok (.invokevirtual 168, 3) := by decide +kernel
theorem d_X11_look_4 : decode (cd mX11_look) 4 = .ok (.aload_n 0, 1) := by decide +kernel
theorem d_X11_look_5 : decode (cd mX11_look) 5 = .ok (.getfield 185, 3) := by decide +kernel
theorem d_X11_look_8 : decode (cd mX11_look) 8 = .ok (.ifCond .eq 10, 3) := by decide +kernel
theorem d_X11_look_11 : decode (cd mX11_look) 11 = .ok (.aload_n 0, 1) := by decide +kernel
theorem d_X11_look_12 : decode (cd mX11_look) 12 = .ok (.invokevirtual 357, 3) := by decide +kernel
theorem d_X11_look_15 : decode (cd mX11_look) 15 = .ok (.goto 8, 3) := by decide +kernel
theorem d_X11_look_18 : decode (cd mX11_look) 18 = .ok (.aload_n 0, 1) := by decide +kernel
theorem d_X11_look_19 : decode (cd mX11_look) 19 = .ok (.iconst 1, 1) := by decide +kernel
theorem d_X11_look_20 : decode (cd mX11_look) 20 = .ok (.invokevirtual 171, 3) := by decide +kernel
theorem d_X11_look_23 : decode (cd mX11_look) 23 = .ok (.ireturn, 1) := by decide +kernel
theorem d_X11_lookLeaves_0 : decode (cd mX11_lookLeaves) 0 = .ok (.aload_n 0, 1) := by decide +kernel
theorem d_X11_lookLeaves_1 : decode (cd mX11_lookLeaves) 1 = .ok (.invokevirtual 168, 3) := by decide +kernel
theorem d_X11_lookLeaves_4 : decode (cd mX11_lookLeaves) 4 = .ok (.aload_n 0, 1) := by decide +kernel
theorem d_X11_lookLeaves_5 : decode (cd mX11_lookLeaves) 5 = .ok (.getfield 185, 3) := by decide +kernel
theorem d_X11_lookLeaves_8 : decode (cd mX11_lookLeaves) 8 = .ok (.ifCond .ne 9, 3) := by decide +kernel
theorem d_X11_lookLeaves_11 : decode (cd mX11_lookLeaves) 11 = .ok (.aload_n 0, 1) := by decide +kernel
theorem d_X11_lookLeaves_12 : decode (cd mX11_lookLeaves) 12 = .ok (.iconst 1, 1) := by decide +kernel
theorem d_X11_lookLeaves_13 : decode (cd mX11_lookLeaves) 13 = .ok (.invokevirtual 171, 3) := by decide +kernel
theorem d_X11_lookLeaves_16 : decode (cd mX11_lookLeaves) 16 = .ok (.ireturn, 1) := by decide +kernel
theorem d_X11_lookLeaves_17 : decode (cd mX11_lookLeaves) 17 = .ok (.aload_n 0, 1) := by decide +kernel
theorem d_X11_lookLeaves_18 : decode (cd mX11_lookLeaves) 18 = .ok (.invokevirtual 357, 3) := by decide +kernel
theorem d_X11_lookLeaves_21 : decode (cd mX11_lookLeaves) 21 = .ok (.pop, 1) := by decide +kernel
theorem d_X11_lookLeaves_22 : decode (cd mX11_lookLeaves) 22 = .ok (.aload_n 0, 1) := by decide +kernel
theorem d_X11_lookLeaves_23 : decode (cd mX11_lookLeaves) 23 = .ok (.getfield 354, 3) := by decide +kernel
theorem d_X11_lookLeaves_26 : decode (cd mX11_lookLeaves) 26 = .ok (.ireturn, 1) := by decide +kernel
theorem d_X11_judge_0 : decode (cd mX11_judge) 0 = .ok (.aload_n 0, 1) := by decide +kernel
theorem d_X11_judge_1 : decode (cd mX11_judge) 1 = .ok (.invokevirtual 168, 3) := by decide +kernel
theorem d_X11_judge_4 : decode (cd mX11_judge) 4 = .ok (.aload_n 0, 1) := by decide +kernel
theorem d_X11_judge_5 : decode (cd mX11_judge) 5 = .ok (.getfield 185, 3) := by decide +kernel
theorem d_X11_judge_8 : decode (cd mX11_judge) 8 = .ok (.ifCond .ne 9, 3) := by decide +kernel
theorem d_X11_judge_11 : decode (cd mX11_judge) 11 = .ok (.aload_n 0, 1) := by decide +kernel
theorem d_X11_judge_12 : decode (cd mX11_judge) 12 = .ok (.iconst 1, 1) := by decide +kernel
theorem d_X11_judge_13 : decode (cd mX11_judge) 13 = .ok (.invokevirtual 171, 3) := by decide +kernel
theorem d_X11_judge_16 : decode (cd mX11_judge) 16 = .ok (.ireturn, 1) := by decide +kernel
theorem d_X11_judge_17 : decode (cd mX11_judge) 17 = .ok (.aload_n 0, 1) := by decide +kernel
theorem d_X11_judge_18 : decode (cd mX11_judge) 18 = .ok (.iconst 4, 1) := by decide +kernel
theorem d_X11_judge_19 : decode (cd mX11_judge) 19 = .ok (.aload_n 0, 1) := by decide +kernel
theorem d_X11_judge_20 : decode (cd mX11_judge) 20 = .ok (.getfield 20, 3) := by decide +kernel
theorem d_X11_judge_23 : decode (cd mX11_judge) 23 = .ok (.iconst 0, 1) := by decide +kernel
theorem d_X11_judge_24 : decode (cd mX11_judge) 24 = .ok (.iaload, 1) := by decide +kernel
theorem d_X11_judge_25 : decode (cd mX11_judge) 25 = .ok (.imul, 1) := by decide +kernel
theorem d_X11_judge_26 : decode (cd mX11_judge) 26 = .ok (.aload_n 0, 1) := by decide +kernel
theorem d_X11_judge_27 : decode (cd mX11_judge) 27 = .ok (.getfield 20, 3) := by decide +kernel
theorem d_X11_judge_30 : decode (cd mX11_judge) 30 = .ok (.iconst 1, 1) := by decide +kernel
theorem d_X11_judge_31 : decode (cd mX11_judge) 31 = .ok (.iaload, 1) := by decide +kernel
theorem d_X11_judge_32 : decode (cd mX11_judge) 32 = .ok (.iadd, 1) := by decide +kernel
theorem d_X11_judge_33 : decode (cd mX11_judge) 33 = .ok (.invokevirtual 345, 3) := by decide +kernel
theorem d_X11_judge_36 : decode (cd mX11_judge) 36 = .ok (.aload_n 0, 1) := by decide +kernel
theorem d_X11_judge_37 : decode (cd mX11_judge) 37 = .ok (.invokevirtual 348, 3) := by decide +kernel
theorem d_X11_judge_40 : decode (cd mX11_judge) 40 = .ok (.ireturn, 1) := by decide +kernel
theorem d_X11_layLevel_0 : decode (cd mX11_layLevel) 0 = .ok (.aload_n 0, 1) := by decide +kernel
theorem d_X11_layLevel_1 : decode (cd mX11_layLevel) 1 = .ok (.getfield 47, 3) := by decide +kernel
theorem d_X11_layLevel_4 : decode (cd mX11_layLevel) 4 = .ok (.bipush 7, 2) := by decide +kernel
theorem d_X11_layLevel_6 : decode (cd mX11_layLevel) 6 = .ok (.iload_n 1, 1) := by decide +kernel
theorem d_X11_layLevel_7 : decode (cd mX11_layLevel) 7 = .ok (.imul, 1) := by decide +kernel
theorem d_X11_layLevel_8 : decode (cd mX11_layLevel) 8 = .ok (.aload_n 0, 1) := by decide +kernel
theorem d_X11_layLevel_9 : decode (cd mX11_layLevel) 9 = .ok (.getfield 50, 3) := by decide +kernel
theorem d_X11_layLevel_12 : decode (cd mX11_layLevel) 12 = .ok (.iconst 0, 1) := by decide +kernel
theorem d_X11_layLevel_13 : decode (cd mX11_layLevel) 13 = .ok (.bipush 7, 2) := by decide +kernel
theorem d_X11_layLevel_15 : decode (cd mX11_layLevel) 15 = .ok (.invokestatic 177, 3) := by decide +kernel
theorem d_X11_layLevel_18 : decode (cd mX11_layLevel) 18 = .ok (.iload_n 2, 1) := by decide +kernel
theorem d_X11_layLevel_19 : decode (cd mX11_layLevel) 19 = .ok (.ifCond .lt 15, 3) := by decide +kernel
theorem d_X11_layLevel_22 : decode (cd mX11_layLevel) 22 = .ok (.aload_n 0, 1) := by decide +kernel
theorem d_X11_layLevel_23 : decode (cd mX11_layLevel) 23 = .ok (.getfield 50, 3) := by decide +kernel
theorem d_X11_layLevel_26 : decode (cd mX11_layLevel) 26 = .ok (.iconst 3, 1) := by decide +kernel
theorem d_X11_layLevel_27 : decode (cd mX11_layLevel) 27 = .ok (.dup2, 1) := by decide +kernel
theorem d_X11_layLevel_28 : decode (cd mX11_layLevel) 28 = .ok (.iaload, 1) := by decide +kernel
theorem d_X11_layLevel_29 : decode (cd mX11_layLevel) 29 = .ok (.iconst 1, 1) := by decide +kernel
theorem d_X11_layLevel_30 : decode (cd mX11_layLevel) 30 = .ok (.iload_n 2, 1) := by decide +kernel
theorem d_X11_layLevel_31 : decode (cd mX11_layLevel) 31 = .ok (.ishl, 1) := by decide +kernel
theorem d_X11_layLevel_32 : decode (cd mX11_layLevel) 32 = .ok (.ior, 1) := by decide +kernel
theorem d_X11_layLevel_33 : decode (cd mX11_layLevel) 33 = .ok (.iastore, 1) := by decide +kernel
theorem d_X11_layLevel_34 : decode (cd mX11_layLevel) 34 = .ok (.aload_n 0, 1) := by decide +kernel
theorem d_X11_layLevel_35 : decode (cd mX11_layLevel) 35 = .ok (.aload_n 0, 1) := by decide +kernel
theorem d_X11_layLevel_36 : decode (cd mX11_layLevel) 36 = .ok (.getfield 50, 3) := by decide +kernel
theorem d_X11_layLevel_39 : decode (cd mX11_layLevel) 39 = .ok (.invokevirtual 288, 3) := by decide +kernel
theorem d_X11_layLevel_42 : decode (cd mX11_layLevel) 42 = .ok (.aload_n 0, 1) := by decide +kernel
theorem d_X11_layLevel_43 : decode (cd mX11_layLevel) 43 = .ok (.getfield 50, 3) := by decide +kernel
theorem d_X11_layLevel_46 : decode (cd mX11_layLevel) 46 = .ok (.iconst 0, 1) := by decide +kernel
theorem d_X11_layLevel_47 : decode (cd mX11_layLevel) 47 = .ok (.aload_n 0, 1) := by decide +kernel
theorem d_X11_layLevel_48 : decode (cd mX11_layLevel) 48 = .ok (.getfield 47, 3) := by decide +kernel
theorem d_X11_layLevel_51 : decode (cd mX11_layLevel) 51 = .ok (.bipush 7, 2) := by decide +kernel
theorem d_X11_layLevel_53 : decode (cd mX11_layLevel) 53 = .ok (.iload_n 1, 1) := by decide +kernel
theorem d_X11_layLevel_54 : decode (cd mX11_layLevel) 54 = .ok (.iconst 1, 1) := by decide +kernel
theorem d_X11_layLevel_55 : decode (cd mX11_layLevel) 55 = .ok (.iadd, 1) := by decide +kernel
theorem d_X11_layLevel_56 : decode (cd mX11_layLevel) 56 = .ok (.imul, 1) := by decide +kernel
theorem d_X11_layLevel_57 : decode (cd mX11_layLevel) 57 = .ok (.bipush 7, 2) := by decide +kernel
theorem d_X11_layLevel_59 : decode (cd mX11_layLevel) 59 = .ok (.invokestatic 177, 3) := by decide +kernel
theorem d_X11_layLevel_62 : decode (cd mX11_layLevel) 62 = .ok (.return_, 1) := by decide +kernel
theorem d_X11_valueFrom_0 : decode (cd mX11_valueFrom) 0 = .ok (.iload_n 1, 1) := by decide +kernel
theorem d_X11_valueFrom_1 : decode (cd mX11_valueFrom) 1 = .ok (.iload_n 2, 1) := by decide +kernel
theorem d_X11_valueFrom_2 : decode (cd mX11_valueFrom) 2 = .ok (.if_icmp .ne 15, 3) := by decide +kernel
theorem d_X11_valueFrom_5 : decode (cd mX11_valueFrom) 5 = .ok (.aload_n 0, 1) := by decide +kernel
theorem d_X11_valueFrom_6 : decode (cd mX11_valueFrom) 6 = .ok (.getfield 47, 3) := by decide +kernel
theorem d_X11_valueFrom_9 : decode (cd mX11_valueFrom) 9 = .ok (.bipush 7, 2) := by decide +kernel
theorem d_X11_valueFrom_11 : decode (cd mX11_valueFrom) 11 = .ok (.iload_n 1, 1) := by decide +kernel
theorem d_X11_valueFrom_12 : decode (cd mX11_valueFrom) 12 = .ok (.imul, 1) := by decide +kernel
theorem d_X11_valueFrom_13 : decode (cd mX11_valueFrom) 13 = .ok (.iconst 0, 1) := by decide +kernel
theorem d_X11_valueFrom_14 : decode (cd mX11_valueFrom) 14 = .ok (.iadd, 1) := by decide +kernel
theorem d_X11_valueFrom_15 : decode (cd mX11_valueFrom) 15 = .ok (.iaload, 1) := by decide +kernel
theorem d_X11_valueFrom_16 : decode (cd mX11_valueFrom) 16 = .ok (.ireturn, 1) := by decide +kernel
theorem d_X11_valueFrom_17 : decode (cd mX11_valueFrom) 17 = .ok (.ldc_w 360, 3) := by decide +kernel
theorem d_X11_valueFrom_20 : decode (cd mX11_valueFrom) 20 = .ok (.istore_n 3, 1) := by decide +kernel
theorem d_X11_valueFrom_21 : decode (cd mX11_valueFrom) 21 = .ok (.iconst (-1), 1) := by decide +kernel
theorem d_X11_valueFrom_22 : decode (cd mX11_valueFrom) 22 = .ok (.istore 4, 2) := by decide +kernel
theorem d_X11_valueFrom_24 : decode (cd mX11_valueFrom) 24 = .ok (.iload 4, 2) := by decide +kernel
theorem d_X11_valueFrom_26 : decode (cd mX11_valueFrom) 26 = .ok (.aload_n 0, 1) := by decide +kernel
theorem d_X11_valueFrom_27 : decode (cd mX11_valueFrom) 27 = .ok (.getfield 20, 3) := by decide +kernel
theorem d_X11_valueFrom_30 : decode (cd mX11_valueFrom) 30 = .ok (.iconst 5, 1) := by decide +kernel
theorem d_X11_valueFrom_31 : decode (cd mX11_valueFrom) 31 = .ok (.iaload, 1) := by decide +kernel
theorem d_X11_valueFrom_32 : decode (cd mX11_valueFrom) 32 = .ok (.if_icmp .ge 57, 3) := by decide +kernel
theorem d_X11_valueFrom_35 : decode (cd mX11_valueFrom) 35 = .ok (.aload_n 0, 1) := by decide +kernel
theorem d_X11_valueFrom_36 : decode (cd mX11_valueFrom) 36 = .ok (.iload_n 1, 1) := by decide +kernel
theorem d_X11_valueFrom_37 : decode (cd mX11_valueFrom) 37 = .ok (.iload 4, 2) := by decide +kernel
theorem d_X11_valueFrom_39 : decode (cd mX11_valueFrom) 39 = .ok (.invokevirtual 361, 3) := by decide +kernel
theorem d_X11_valueFrom_42 : decode (cd mX11_valueFrom) 42 = .ok (.aload_n 0, 1) := by decide +kernel
theorem d_X11_valueFrom_43 : decode (cd mX11_valueFrom) 43 = .ok (.iload_n 1, 1) := by decide +kernel
theorem d_X11_valueFrom_44 : decode (cd mX11_valueFrom) 44 = .ok (.iconst 1, 1) := by decide +kernel
theorem d_X11_valueFrom_45 : decode (cd mX11_valueFrom) 45 = .ok (.iadd, 1) := by decide +kernel
theorem d_X11_valueFrom_46 : decode (cd mX11_valueFrom) 46 = .ok (.iload_n 2, 1) := by decide +kernel
theorem d_X11_valueFrom_47 : decode (cd mX11_valueFrom) 47 = .ok (.invokevirtual 364, 3) := by decide +kernel
theorem d_X11_valueFrom_50 : decode (cd mX11_valueFrom) 50 = .ok (.istore 5, 2) := by decide +kernel
theorem d_X11_valueFrom_52 : decode (cd mX11_valueFrom) 52 = .ok (.iload_n 3, 1) := by decide +kernel
theorem d_X11_valueFrom_53 : decode (cd mX11_valueFrom) 53 = .ok (.ldc_w 360, 3) := by decide +kernel
theorem d_X11_valueFrom_56 : decode (cd mX11_valueFrom) 56 = .ok (.if_icmp .eq 24, 3) := by decide +kernel
theorem d_X11_valueFrom_59 : decode (cd mX11_valueFrom) 59 = .ok (.iload_n 1, 1) := by decide +kernel
theorem d_X11_valueFrom_60 : decode (cd mX11_valueFrom) 60 = .ok (.iconst 2, 1) := by decide +kernel
theorem d_X11_valueFrom_61 : decode (cd mX11_valueFrom) 61 = .ok (.irem, 1) := by decide +kernel
theorem d_X11_valueFrom_62 : decode (cd mX11_valueFrom) 62 = .ok (.ifCond .ne 12, 3) := by decide +kernel
theorem d_X11_valueFrom_65 : decode (cd mX11_valueFrom) 65 = .ok (.iload 5, 2) := by decide +kernel
theorem d_X11_valueFrom_67 : decode (cd mX11_valueFrom) 67 = .ok (.iload_n 3, 1) := by decide +kernel
theorem d_X11_valueFrom_68 : decode (cd mX11_valueFrom) 68 = .ok (.if_icmp .le 15, 3) := by decide +kernel
theorem d_X11_valueFrom_71 : decode (cd mX11_valueFrom) 71 = .ok (.goto 9, 3) := by decide +kernel
theorem d_X11_valueFrom_74 : decode (cd mX11_valueFrom) 74 = .ok (.iload 5, 2) := by decide +kernel
theorem d_X11_valueFrom_76 : decode (cd mX11_valueFrom) 76 = .ok (.iload_n 3, 1) := by decide +kernel
theorem d_X11_valueFrom_77 : decode (cd mX11_valueFrom) 77 = .ok (.if_icmp .ge 6, 3) := by decide +kernel
theorem d_X11_valueFrom_80 : decode (cd mX11_valueFrom) 80 = .ok (.iload 5, 2) := by decide +kernel
theorem d_X11_valueFrom_82 : decode (cd mX11_valueFrom) 82 = .ok (.istore_n 3, 1) := by decide +kernel
theorem d_X11_valueFrom_83 : decode (cd mX11_valueFrom) 83 = .ok (.iinc 4 1, 3) := by decide +kernel
theorem d_X11_valueFrom_86 : decode (cd mX11_valueFrom) 86 = .ok (.goto (-62), 3) := by decide +kernel
theorem d_X11_valueFrom_89 : decode (cd mX11_valueFrom) 89 = .ok (.iload_n 3, 1) := by decide +kernel
theorem d_X11_valueFrom_90 : decode (cd mX11_valueFrom) 90 = .ok (.ireturn, 1) := by decide +kernel
theorem d_X11_value_0 : decode (cd mX11_value) 0 = .ok (.aload_n 0, 1) := by decide +kernel
theorem d_X11_value_1 : decode (cd mX11_value) 1 = .ok (.invokevirtual 168, 3) := by decide +kernel
theorem d_X11_value_4 : decode (cd mX11_value) 4 = .ok (.aload_n 0, 1) := by decide +kernel
theorem d_X11_value_5 : decode (cd mX11_value) 5 = .ok (.iload_n 1, 1) := by decide +kernel
theorem d_X11_value_6 : decode (cd mX11_value) 6 = .ok (.iconst 0, 1) := by decide +kernel
theorem d_X11_value_7 : decode (cd mX11_value) 7 = .ok (.iconst 4, 1) := by decide +kernel
theorem d_X11_value_8 : decode (cd mX11_value) 8 = .ok (.invokevirtual 295, 3) := by decide +kernel
theorem d_X11_value_11 : decode (cd mX11_value) 11 = .ok (.istore_n 2, 1) := by decide +kernel
theorem d_X11_value_12 : decode (cd mX11_value) 12 = .ok (.iload_n 2, 1) := by decide +kernel
theorem d_X11_value_13 : decode (cd mX11_value) 13 = .ok (.ifCond .eq 9, 3) := by decide +kernel
theorem d_X11_value_16 : decode (cd mX11_value) 16 = .ok (.aload_n 0, 1) := by decide +kernel
theorem d_X11_value_17 : decode (cd mX11_value) 17 = .ok (.iload_n 2, 1) := by decide +kernel
theorem d_X11_value_18 : decode (cd mX11_value) 18 = .ok (.invokevirtual 171, 3) := by decide +kernel
theorem d_X11_value_21 : decode (cd mX11_value) 21 = .ok (.ireturn, 1) := by decide +kernel
theorem d_X11_value_22 : decode (cd mX11_value) 22 = .ok (.aload_n 0, 1) := by decide +kernel
theorem d_X11_value_23 : decode (cd mX11_value) 23 = .ok (.getfield 26, 3) := by decide +kernel
theorem d_X11_value_26 : decode (cd mX11_value) 26 = .ok (.iconst 0, 1) := by decide +kernel
theorem d_X11_value_27 : decode (cd mX11_value) 27 = .ok (.aload_n 0, 1) := by decide +kernel
theorem d_X11_value_28 : decode (cd mX11_value) 28 = .ok (.getfield 47, 3) := by decide +kernel
theorem d_X11_value_31 : decode (cd mX11_value) 31 = .ok (.iconst 0, 1) := by decide +kernel
theorem d_X11_value_32 : decode (cd mX11_value) 32 = .ok (.bipush 7, 2) := by decide +kernel
theorem d_X11_value_34 : decode (cd mX11_value) 34 = .ok (.invokestatic 177, 3) := by decide +kernel
theorem d_X11_value_37 : decode (cd mX11_value) 37 = .ok (.aload_n 0, 1) := by decide +kernel
theorem d_X11_value_38 : decode (cd mX11_value) 38 = .ok (.iconst 0, 1) := by decide +kernel
theorem d_X11_value_39 : decode (cd mX11_value) 39 = .ok (.iload_n 1, 1) := by decide +kernel
theorem d_X11_value_40 : decode (cd mX11_value) 40 = .ok (.invokevirtual 364, 3) := by decide +kernel
theorem d_X11_value_43 : decode (cd mX11_value) 43 = .ok (.bipush 9, 2) := by decide +kernel
theorem d_X11_value_45 : decode (cd mX11_value) 45 = .ok (.iadd, 1) := by decide +kernel
theorem d_X11_value_46 : decode (cd mX11_value) 46 = .ok (.ireturn, 1) := by decide +kernel
theorem d_X11_opens_0 : decode (cd mX11_opens) 0 = .ok (.aload_n 0, 1) := by decide +kernel
theorem d_X11_opens_1 : decode (cd mX11_opens) 1 = .ok (.invokevirtual 168, 3) := by decide +kernel
theorem d_X11_opens_4 : decode (cd mX11_opens) 4 = .ok (.aload_n 0, 1) := by decide +kernel
theorem d_X11_opens_5 : decode (cd mX11_opens) 5 = .ok (.iload_n 1, 1) := by decide +kernel
theorem d_X11_opens_6 : decode (cd mX11_opens) 6 = .ok (.iconst 1, 1) := by decide +kernel
theorem d_X11_opens_7 : decode (cd mX11_opens) 7 = .ok (.iconst 4, 1) := by decide +kernel
theorem d_X11_opens_8 : decode (cd mX11_opens) 8 = .ok (.invokevirtual 295, 3) := by decide +kernel
theorem d_X11_opens_11 : decode (cd mX11_opens) 11 = .ok (.istore_n 2, 1) := by decide +kernel
theorem d_X11_opens_12 : decode (cd mX11_opens) 12 = .ok (.iload_n 2, 1) := by decide +kernel
theorem d_X11_opens_13 : decode (cd mX11_opens) 13 = .ok (.ifCond .eq 9, 3) := by decide +kernel
theorem d_X11_opens_16 : decode (cd mX11_opens) 16 = .ok (.aload_n 0, 1) := by decide +kernel
theorem d_X11_opens_17 : decode (cd mX11_opens) 17 = .ok (.iload_n 2, 1) := by decide +kernel
theorem d_X11_opens_18 : decode (cd mX11_opens) 18 = .ok (.invokevirtual 171, 3) := by decide +kernel
theorem d_X11_opens_21 : decode (cd mX11_opens) 21 = .ok (.ireturn, 1) := by decide +kernel
theorem d_X11_opens_22 : decode (cd mX11_opens) 22 = .ok (.aload_n 0, 1) := by decide +kernel
theorem d_X11_opens_23 : decode (cd mX11_opens) 23 = .ok (.getfield 26, 3) := by decide +kernel
theorem d_X11_opens_26 : decode (cd mX11_opens) 26 = .ok (.iconst 0, 1) := by decide +kernel
theorem d_X11_opens_27 : decode (cd mX11_opens) 27 = .ok (.aload_n 0, 1) := by decide +kernel
theorem d_X11_opens_28 : decode (cd mX11_opens) 28 = .ok (.getfield 47, 3) := by decide +kernel
theorem d_X11_opens_31 : decode (cd mX11_opens) 31 = .ok (.iconst 0, 1) := by decide +kernel
theorem d_X11_opens_32 : decode (cd mX11_opens) 32 = .ok (.bipush 7, 2) := by decide +kernel
theorem d_X11_opens_34 : decode (cd mX11_opens) 34 = .ok (.invokestatic 177, 3) := by decide +kernel
theorem d_X11_opens_37 : decode (cd mX11_opens) 37 = .ok (.bipush (-2), 2) := by decide +kernel
theorem d_X11_opens_39 : decode (cd mX11_opens) 39 = .ok (.istore_n 3, 1) := by decide +kernel
theorem d_X11_opens_40 : decode (cd mX11_opens) 40 = .ok (.ldc_w 320, 3) := by decide +kernel
theorem d_X11_opens_43 : decode (cd mX11_opens) 43 = .ok (.istore 4, 2) := by decide +kernel
theorem d_X11_opens_45 : decode (cd mX11_opens) 45 = .ok (.iconst (-1), 1) := by decide +kernel
theorem d_X11_opens_46 : decode (cd mX11_opens) 46 = .ok (.istore 5, 2) := by decide +kernel
theorem d_X11_opens_48 : decode (cd mX11_opens) 48 = .ok (.iload 5, 2) := by decide +kernel
theorem d_X11_opens_50 : decode (cd mX11_opens) 50 = .ok (.aload_n 0, 1) := by decide +kernel
theorem d_X11_opens_51 : decode (cd mX11_opens) 51 = .ok (.getfield 20, 3) := by decide +kernel
theorem d_X11_opens_54 : decode (cd mX11_opens) 54 = .ok (.iconst 5, 1) := by decide +kernel
theorem d_X11_opens_55 : decode (cd mX11_opens) 55 = .ok (.iaload, 1) := by decide +kernel
theorem d_X11_opens_56 : decode (cd mX11_opens) 56 = .ok (.if_icmp .ge 51, 3) := by decide +kernel
theorem d_X11_opens_59 : decode (cd mX11_opens) 59 = .ok (.aload_n 0, 1) := by decide +kernel
theorem d_X11_opens_60 : decode (cd mX11_opens) 60 = .ok (.iconst 0, 1) := by decide +kernel
theorem d_X11_opens_61 : decode (cd mX11_opens) 61 = .ok (.iload 5, 2) := by decide +kernel
theorem d_X11_opens_63 : decode (cd mX11_opens) 63 = .ok (.invokevirtual 361, 3) := by decide +kernel
theorem d_X11_opens_66 : decode (cd mX11_opens) 66 = .ok (.aload_n 0, 1) := by decide +kernel
theorem d_X11_opens_67 : decode (cd mX11_opens) 67 = .ok (.iconst 1, 1) := by decide +kernel
theorem d_X11_opens_68 : decode (cd mX11_opens) 68 = .ok (.iload_n 1, 1) := by decide +kernel
theorem d_X11_opens_69 : decode (cd mX11_opens) 69 = .ok (.invokevirtual 364, 3) := by decide +kernel
theorem d_X11_opens_72 : decode (cd mX11_opens) 72 = .ok (.istore 6, 2) := by decide +kernel
theorem d_X11_opens_74 : decode (cd mX11_opens) 74 = .ok (.iload 6, 2) := by decide +kernel
theorem d_X11_opens_76 : decode (cd mX11_opens) 76 = .ok (.iload 4, 2) := by decide +kernel
theorem d_X11_opens_78 : decode (cd mX11_opens) 78 = .ok (.if_icmp .gt 6, 3) := by decide +kernel
theorem d_X11_opens_81 : decode (cd mX11_opens) 81 = .ok (.goto 20, 3) := by decide +kernel
theorem d_X11_opens_84 : decode (cd mX11_opens) 84 = .ok (.iload 5, 2) := by decide +kernel
theorem d_X11_opens_86 : decode (cd mX11_opens) 86 = .ok (.ifCond .ge 8, 3) := by decide +kernel
theorem d_X11_opens_89 : decode (cd mX11_opens) 89 = .ok (.bipush (-2), 2) := by decide +kernel
theorem d_X11_opens_91 : decode (cd mX11_opens) 91 = .ok (.goto 5, 3) := by decide +kernel
theorem d_X11_opens_94 : decode (cd mX11_opens) 94 = .ok (.iload 5, 2) := by decide +kernel
theorem d_X11_opens_96 : decode (cd mX11_opens) 96 = .ok (.istore_n 3, 1) := by decide +kernel
theorem d_X11_opens_97 : decode (cd mX11_opens) 97 = .ok (.iload 6, 2) := by decide +kernel
theorem d_X11_opens_99 : decode (cd mX11_opens) 99 = .ok (.istore 4, 2) := by decide +kernel
theorem d_X11_opens_101 : decode (cd mX11_opens) 101 = .ok (.iinc 5 1, 3) := by decide +kernel
theorem d_X11_opens_104 : decode (cd mX11_opens) 104 = .ok (.goto (-56), 3) := by decide +kernel
theorem d_X11_opens_107 : decode (cd mX11_opens) 107 = .ok (.iload_n 3, 1) := by decide +kernel
theorem d_X11_opens_108 : decode (cd mX11_opens) 108 = .ok (.ireturn, 1) := by decide +kernel
theorem d_X11_carriesOf_0 : decode (cd mX11_carriesOf) 0 = .ok (.iload_n 1, 1) := by decide +kernel
theorem d_X11_carriesOf_1 : decode (cd mX11_carriesOf) 1 = .ok (.aload_n 0, 1) := by decide +kernel
theorem d_X11_carriesOf_2 : decode (cd mX11_carriesOf) 2 = .ok (.getfield 53, 3) := by decide +kernel
theorem d_X11_carriesOf_5 : decode (cd mX11_carriesOf) 5 = .ok (.if_icmp .ne 10, 3) := by decide +kernel
theorem d_X11_carriesOf_8 : decode (cd mX11_carriesOf) 8 = .ok (.aload_n 0, 1) := by decide +kernel
theorem d_X11_carriesOf_9 : decode (cd mX11_carriesOf) 9 = .ok (.getfield 367, 3) := by decide +kernel
theorem d_X11_carriesOf_12 : decode (cd mX11_carriesOf) 12 = .ok (.goto 16, 3) := by decide +kernel
theorem d_X11_carriesOf_15 : decode (cd mX11_carriesOf) 15 = .ok (.aload_n 0, 1) := by decide +kernel
theorem d_X11_carriesOf_16 : decode (cd mX11_carriesOf) 16 = .ok (.getfield 20, 3) := by decide +kernel
theorem d_X11_carriesOf_19 : decode (cd mX11_carriesOf) 19 = .ok (.bipush 53, 2) := by decide +kernel
theorem d_X11_carriesOf_21 : decode (cd mX11_carriesOf) 21 = .ok (.iconst 3, 1) := by decide +kernel
theorem d_X11_carriesOf_22 : decode (cd mX11_carriesOf) 22 = .ok (.iload_n 1, 1) := by decide +kernel
theorem d_X11_carriesOf_23 : decode (cd mX11_carriesOf) 23 = .ok (.imul, 1) := by decide +kernel
theorem d_X11_carriesOf_24 : decode (cd mX11_carriesOf) 24 = .ok (.iadd, 1) := by decide +kernel
theorem d_X11_carriesOf_25 : decode (cd mX11_carriesOf) 25 = .ok (.iconst 2, 1) := by decide +kernel
theorem d_X11_carriesOf_26 : decode (cd mX11_carriesOf) 26 = .ok (.iadd, 1) := by decide +kernel
theorem d_X11_carriesOf_27 : decode (cd mX11_carriesOf) 27 = .ok (.iaload, 1) := by decide +kernel
theorem d_X11_carriesOf_28 : decode (cd mX11_carriesOf) 28 = .ok (.ireturn, 1) := by decide +kernel
theorem d_X11_acrossOf_0 : decode (cd mX11_acrossOf) 0 = .ok (.iconst 0, 1) := by decide +kernel
theorem d_X11_acrossOf_1 : decode (cd mX11_acrossOf) 1 = .ok (.istore_n 2, 1) := by decide +kernel
theorem d_X11_acrossOf_2 : decode (cd mX11_acrossOf) 2 = .ok (.iconst 0, 1) := by decide +kernel
theorem d_X11_acrossOf_3 : decode (cd mX11_acrossOf) 3 = .ok (.istore_n 3, 1) := by decide +kernel
theorem d_X11_acrossOf_4 : decode (cd mX11_acrossOf) 4 = .ok (.iload_n 3, 1) := by decide +kernel
theorem d_X11_acrossOf_5 : decode (cd mX11_acrossOf) 5 = .ok (.aload_n 0, 1) := by decide +kernel
theorem d_X11_acrossOf_6 : decode (cd mX11_acrossOf) 6 = .ok (.getfield 20, 3) := by decide +kernel
theorem d_X11_acrossOf_9 : decode (cd mX11_acrossOf) 9 = .ok (.bipush 9, 2) := by decide +kernel
theorem d_X11_acrossOf_11 : decode (cd mX11_acrossOf) 11 = .ok (.iaload, 1) := by decide +kernel
theorem d_X11_acrossOf_12 : decode (cd mX11_acrossOf) 12 = .ok (.if_icmp .ge 59, 3) := by decide +kernel
theorem d_X11_acrossOf_15 : decode (cd mX11_acrossOf) 15 = .ok (.iload_n 2, 1) := by decide +kernel
theorem d_X11_acrossOf_16 : decode (cd mX11_acrossOf) 16 = .ok (.iload_n 1, 1) := by decide +kernel
theorem d_X11_acrossOf_17 : decode (cd mX11_acrossOf) 17 = .ok (.aload_n 0, 1) := by decide +kernel
theorem d_X11_acrossOf_18 : decode (cd mX11_acrossOf) 18 = .ok (.getfield 20, 3) := by decide +kernel
theorem d_X11_acrossOf_21 : decode (cd mX11_acrossOf) 21 = .ok (.bipush 53, 2) := by decide +kernel
theorem d_X11_acrossOf_23 : decode (cd mX11_acrossOf) 23 = .ok (.iconst 3, 1) := by decide +kernel
theorem d_X11_acrossOf_24 : decode (cd mX11_acrossOf) 24 = .ok (.iload_n 3, 1) := by decide +kernel
theorem d_X11_acrossOf_25 : decode (cd mX11_acrossOf) 25 = .ok (.imul, 1) := by decide +kernel
theorem d_X11_acrossOf_26 : decode (cd mX11_acrossOf) 26 = .ok (.iadd, 1) := by decide +kernel
theorem d_X11_acrossOf_27 : decode (cd mX11_acrossOf) 27 = .ok (.iaload, 1) := by decide +kernel
theorem d_X11_acrossOf_28 : decode (cd mX11_acrossOf) 28 = .ok (.invokestatic 261, 3) := by decide +kernel
theorem d_X11_acrossOf_31 : decode (cd mX11_acrossOf) 31 = .ok (.ifCond .eq 31, 3) := by decide +kernel
theorem d_X11_acrossOf_34 : decode (cd mX11_acrossOf) 34 = .ok (.iload_n 1, 1) := by decide +kernel
theorem d_X11_acrossOf_35 : decode (cd mX11_acrossOf) 35 = .ok (.aload_n 0, 1) := by decide +kernel
theorem d_X11_acrossOf_36 : decode (cd mX11_acrossOf) 36 = .ok (.getfield 20, 3) := by decide +kernel
theorem d_X11_acrossOf_39 : decode (cd mX11_acrossOf) 39 = .ok (.bipush 53, 2) := by decide +kernel
theorem d_X11_acrossOf_41 : decode (cd mX11_acrossOf) 41 = .ok (.iconst 3, 1) := by decide +kernel
theorem d_X11_acrossOf_42 : decode (cd mX11_acrossOf) 42 = .ok (.iload_n 3, 1) := by decide +kernel
theorem d_X11_acrossOf_43 : decode (cd mX11_acrossOf) 43 = .ok (.imul, 1) := by decide +kernel
theorem d_X11_acrossOf_44 : decode (cd mX11_acrossOf) 44 = .ok (.iadd, 1) := by decide +kernel
theorem d_X11_acrossOf_45 : decode (cd mX11_acrossOf) 45 = .ok (.iconst 1, 1) := by decide +kernel
theorem d_X11_acrossOf_46 : decode (cd mX11_acrossOf) 46 = .ok (.iadd, 1) := by decide +kernel
theorem d_X11_acrossOf_47 : decode (cd mX11_acrossOf) 47 = .ok (.iaload, 1) := by decide +kernel
theorem d_X11_acrossOf_48 : decode (cd mX11_acrossOf) 48 = .ok (.invokestatic 261, 3) := by decide +kernel
theorem d_X11_acrossOf_51 : decode (cd mX11_acrossOf) 51 = .ok (.ifCond .ne 11, 3) := by decide +kernel
theorem d_X11_acrossOf_54 : decode (cd mX11_acrossOf) 54 = .ok (.aload_n 0, 1) := by decide +kernel
theorem d_X11_acrossOf_55 : decode (cd mX11_acrossOf) 55 = .ok (.iload_n 3, 1) := by decide +kernel
theorem d_X11_acrossOf_56 : decode (cd mX11_acrossOf) 56 = .ok (.invokevirtual 370, 3) := by decide +kernel
theorem d_X11_acrossOf_59 : decode (cd mX11_acrossOf) 59 = .ok (.goto 4, 3) := by decide +kernel
theorem d_X11_acrossOf_62 : decode (cd mX11_acrossOf) 62 = .ok (.iconst 0, 1) := by decide +kernel
theorem d_X11_acrossOf_63 : decode (cd mX11_acrossOf) 63 = .ok (.iadd, 1) := by decide +kernel
theorem d_X11_acrossOf_64 : decode (cd mX11_acrossOf) 64 = .ok (.istore_n 2, 1) := by decide +kernel
theorem d_X11_acrossOf_65 : decode (cd mX11_acrossOf) 65 = .ok (.iinc 3 1, 3) := by decide +kernel
theorem d_X11_acrossOf_68 : decode (cd mX11_acrossOf) 68 = .ok (.goto (-64), 3) := by decide +kernel
theorem d_X11_acrossOf_71 : decode (cd mX11_acrossOf) 71 = .ok (.iload_n 2, 1) := by decide +kernel
theorem d_X11_acrossOf_72 : decode (cd mX11_acrossOf) 72 = .ok (.ireturn, 1) := by decide +kernel
theorem d_X11_cutOf_0 : decode (cd mX11_cutOf) 0 = .ok (.aload_n 0, 1) := by decide +kernel
theorem d_X11_cutOf_1 : decode (cd mX11_cutOf) 1 = .ok (.getfield 20, 3) := by decide +kernel
theorem d_X11_cutOf_4 : decode (cd mX11_cutOf) 4 = .ok (.bipush 8, 2) := by decide +kernel
theorem d_X11_cutOf_6 : decode (cd mX11_cutOf) 6 = .ok (.iaload, 1) := by decide +kernel
theorem d_X11_cutOf_7 : decode (cd mX11_cutOf) 7 = .ok (.iconst 1, 1) := by decide +kernel
theorem d_X11_cutOf_8 : decode (cd mX11_cutOf) 8 = .ok (.isub, 1) := by decide +kernel
theorem d_X11_cutOf_9 : decode (cd mX11_cutOf) 9 = .ok (.istore_n 1, 1) := by decide +kernel
theorem d_X11_cutOf_10 : decode (cd mX11_cutOf) 10 = .ok (.bipush (-2), 2) := by decide +kernel
theorem d_X11_cutOf_12 : decode (cd mX11_cutOf) 12 = .ok (.istore_n 2, 1) := by decide +kernel
theorem d_X11_cutOf_13 : decode (cd mX11_cutOf) 13 = .ok (.iconst 1, 1) := by decide +kernel
theorem d_X11_cutOf_14 : decode (cd mX11_cutOf) 14 = .ok (.istore_n 3, 1) := by decide +kernel
theorem d_X11_cutOf_15 : decode (cd mX11_cutOf) 15 = .ok (.iload_n 3, 1) := by decide +kernel
theorem d_X11_cutOf_16 : decode (cd mX11_cutOf) 16 = .ok (.iconst 1, 1) := by decide +kernel
theorem d_X11_cutOf_17 : decode (cd mX11_cutOf) 17 = .ok (.aload_n 0, 1) := by decide +kernel
theorem d_X11_cutOf_18 : decode (cd mX11_cutOf) 18 = .ok (.getfield 20, 3) := by decide +kernel
theorem d_X11_cutOf_21 : decode (cd mX11_cutOf) 21 = .ok (.bipush 8, 2) := by decide +kernel
theorem d_X11_cutOf_23 : decode (cd mX11_cutOf) 23 = .ok (.iaload, 1) := by decide +kernel
theorem d_X11_cutOf_24 : decode (cd mX11_cutOf) 24 = .ok (.ishl, 1) := by decide +kernel
theorem d_X11_cutOf_25 : decode (cd mX11_cutOf) 25 = .ok (.if_icmp .ge 40, 3) := by decide +kernel
theorem d_X11_cutOf_28 : decode (cd mX11_cutOf) 28 = .ok (.iload_n 1, 1) := by decide +kernel
theorem d_X11_cutOf_29 : decode (cd mX11_cutOf) 29 = .ok (.ifCond .le 36, 3) := by decide +kernel
theorem d_X11_cutOf_32 : decode (cd mX11_cutOf) 32 = .ok (.iload_n 3, 1) := by decide +kernel
theorem d_X11_cutOf_33 : decode (cd mX11_cutOf) 33 = .ok (.iload_n 1, 1) := by decide +kernel
theorem d_X11_cutOf_34 : decode (cd mX11_cutOf) 34 = .ok (.invokestatic 261, 3) := by decide +kernel
theorem d_X11_cutOf_37 : decode (cd mX11_cutOf) 37 = .ok (.ifCond .ne 22, 3) := by decide +kernel
theorem d_X11_cutOf_40 : decode (cd mX11_cutOf) 40 = .ok (.iload_n 2, 1) := by decide +kernel
theorem d_X11_cutOf_41 : decode (cd mX11_cutOf) 41 = .ok (.ifCond .lt 16, 3) := by decide +kernel
theorem d_X11_cutOf_44 : decode (cd mX11_cutOf) 44 = .ok (.aload_n 0, 1) := by decide +kernel
theorem d_X11_cutOf_45 : decode (cd mX11_cutOf) 45 = .ok (.iload_n 3, 1) := by decide +kernel
theorem d_X11_cutOf_46 : decode (cd mX11_cutOf) 46 = .ok (.invokevirtual 373, 3) := by decide +kernel
theorem d_X11_cutOf_49 : decode (cd mX11_cutOf) 49 = .ok (.aload_n 0, 1) := by decide +kernel
theorem d_X11_cutOf_50 : decode (cd mX11_cutOf) 50 = .ok (.iload_n 2, 1) := by decide +kernel
theorem d_X11_cutOf_51 : decode (cd mX11_cutOf) 51 = .ok (.invokevirtual 373, 3) := by decide +kernel
theorem d_X11_cutOf_54 : decode (cd mX11_cutOf) 54 = .ok (.if_icmp .ge 5, 3) := by decide +kernel
theorem d_X11_cutOf_57 : decode (cd mX11_cutOf) 57 = .ok (.iload_n 3, 1) := by decide +kernel
theorem d_X11_cutOf_58 : decode (cd mX11_cutOf) 58 = .ok (.istore_n 2, 1) := by decide +kernel
theorem d_X11_cutOf_59 : decode (cd mX11_cutOf) 59 = .ok (.iinc 3 2, 3) := by decide +kernel
theorem d_X11_cutOf_62 : decode (cd mX11_cutOf) 62 = .ok (.goto (-47), 3) := by decide +kernel
theorem d_X11_cutOf_65 : decode (cd mX11_cutOf) 65 = .ok (.iload_n 2, 1) := by decide +kernel
theorem d_X11_cutOf_66 : decode (cd mX11_cutOf) 66 = .ok (.ireturn, 1) := by decide +kernel
theorem d_X11_floodBy_0 : decode (cd mX11_floodBy) 0 = .ok (.aload_n 0, 1) := by decide +kernel
theorem d_X11_floodBy_1 : decode (cd mX11_floodBy) 1 = .ok (.iload_n 1, 1) := by decide +kernel
theorem d_X11_floodBy_2 : decode (cd mX11_floodBy) 2 = .ok (.putfield 53, 3) := by decide +kernel
theorem d_X11_floodBy_5 : decode (cd mX11_floodBy) 5 = .ok (.aload_n 0, 1) := by decide +kernel
theorem d_X11_floodBy_6 : decode (cd mX11_floodBy) 6 = .ok (.iload_n 2, 1) := by decide +kernel
theorem d_X11_floodBy_7 : decode (cd mX11_floodBy) 7 = .ok (.putfield 367, 3) := by decide +kernel
theorem d_X11_floodBy_10 : decode (cd mX11_floodBy) 10 = .ok (.aload_n 0, 1) := by decide +kernel
theorem d_X11_floodBy_11 : decode (cd mX11_floodBy) 11 = .ok (.invokevirtual 376, 3) := by decide +kernel
theorem d_X11_floodBy_14 : decode (cd mX11_floodBy) 14 = .ok (.istore_n 3, 1) := by decide +kernel
theorem d_X11_floodBy_15 : decode (cd mX11_floodBy) 15 = .ok (.iload_n 3, 1) := by decide +kernel
theorem d_X11_floodBy_16 : decode (cd mX11_floodBy) 16 = .ok (.ifCond .ge 7, 3) := by decide +kernel
theorem d_X11_floodBy_19 : decode (cd mX11_floodBy) 19 = .ok (.iconst 0, 1) := by decide +kernel
theorem d_X11_floodBy_20 : decode (cd mX11_floodBy) 20 = .ok (.goto 8, 3) := by decide +kernel
theorem d_X11_floodBy_23 : decode (cd mX11_floodBy) 23 = .ok (.aload_n 0, 1) := by decide +kernel
theorem d_X11_floodBy_24 : decode (cd mX11_floodBy) 24 = .ok (.iload_n 3, 1) := by decide +kernel
theorem d_X11_floodBy_25 : decode (cd mX11_floodBy) 25 = .ok (.invokevirtual 373, 3) := by decide +kernel
theorem d_X11_floodBy_28 : decode (cd mX11_floodBy) 28 = .ok (.istore 4, 2) := by decide +kernel
theorem d_X11_floodBy_30 : decode (cd mX11_floodBy) 30 = .ok (.aload_n 0, 1) := by decide +kernel
theorem d_X11_floodBy_31 : decode (cd mX11_floodBy) 31 = .ok (.iconst (-1), 1) := by decide +kernel
theorem d_X11_floodBy_32 : decode (cd mX11_floodBy) 32 = .ok (.putfield 53, 3) := by decide +kernel
theorem d_X11_floodBy_35 : decode (cd mX11_floodBy) 35 = .ok (.iload 4, 2) := by decide +kernel
theorem d_X11_floodBy_37 : decode (cd mX11_floodBy) 37 = .ok (.ireturn, 1) := by decide +kernel
theorem d_X11_flood_0 : decode (cd mX11_flood) 0 = .ok (.aload_n 0, 1) := by decide +kernel
theorem d_X11_flood_1 : decode (cd mX11_flood) 1 = .ok (.invokevirtual 168, 3) := by decide +kernel
theorem d_X11_flood_4 : decode (cd mX11_flood) 4 = .ok (.aload_n 0, 1) := by decide +kernel
theorem d_X11_flood_5 : decode (cd mX11_flood) 5 = .ok (.getfield 185, 3) := by decide +kernel
theorem d_X11_flood_8 : decode (cd mX11_flood) 8 = .ok (.ifCond .eq 12, 3) := by decide +kernel
theorem d_X11_flood_11 : decode (cd mX11_flood) 11 = .ok (.aload_n 0, 1) := by decide +kernel
theorem d_X11_flood_12 : decode (cd mX11_flood) 12 = .ok (.iconst (-1), 1) := by decide +kernel
theorem d_X11_flood_13 : decode (cd mX11_flood) 13 = .ok (.iconst 0, 1) := by decide +kernel
theorem d_X11_flood_14 : decode (cd mX11_flood) 14 = .ok (.invokevirtual 379, 3) := by decide +kernel
theorem d_X11_flood_17 : decode (cd mX11_flood) 17 = .ok (.goto 8, 3) := by decide +kernel
theorem d_X11_flood_20 : decode (cd mX11_flood) 20 = .ok (.aload_n 0, 1) := by decide +kernel
theorem d_X11_flood_21 : decode (cd mX11_flood) 21 = .ok (.iconst 1, 1) := by decide +kernel
theorem d_X11_flood_22 : decode (cd mX11_flood) 22 = .ok (.invokevirtual 171, 3) := by decide +kernel
theorem d_X11_flood_25 : decode (cd mX11_flood) 25 = .ok (.ireturn, 1) := by decide +kernel
theorem d_X11_cut_0 : decode (cd mX11_cut) 0 = .ok (.aload_n 0, 1) := by decide +kernel
theorem d_X11_cut_1 : decode (cd mX11_cut) 1 = .ok (.invokevirtual 168, 3) := by decide +kernel
theorem d_X11_cut_4 : decode (cd mX11_cut) 4 = .ok (.aload_n 0, 1) := by decide +kernel
theorem d_X11_cut_5 : decode (cd mX11_cut) 5 = .ok (.getfield 185, 3) := by decide +kernel
theorem d_X11_cut_8 : decode (cd mX11_cut) 8 = .ok (.ifCond .eq 10, 3) := by decide +kernel
theorem d_X11_cut_11 : decode (cd mX11_cut) 11 = .ok (.aload_n 0, 1) := by decide +kernel
theorem d_X11_cut_12 : decode (cd mX11_cut) 12 = .ok (.invokevirtual 376, 3) := by decide +kernel
theorem d_X11_cut_15 : decode (cd mX11_cut) 15 = .ok (.goto 8, 3) := by decide +kernel
theorem d_X11_cut_18 : decode (cd mX11_cut) 18 = .ok (.aload_n 0, 1) := by decide +kernel
theorem d_X11_cut_19 : decode (cd mX11_cut) 19 = .ok (.iconst 1, 1) := by decide +kernel
theorem d_X11_cut_20 : decode (cd mX11_cut) 20 = .ok (.invokevirtual 171, 3) := by decide +kernel
theorem d_X11_cut_23 : decode (cd mX11_cut) 23 = .ok (.ireturn, 1) := by decide +kernel
theorem d_X11_floodIf_0 : decode (cd mX11_floodIf) 0 = .ok (.aload_n 0, 1) := by decide +kernel
theorem d_X11_floodIf_1 : decode (cd mX11_floodIf) 1 = .ok (.invokevirtual 168, 3) := by decide +kernel
theorem d_X11_floodIf_4 : decode (cd mX11_floodIf) 4 = .ok (.aload_n 0, 1) := by decide +kernel
theorem d_X11_floodIf_5 : decode (cd mX11_floodIf) 5 = .ok (.getfield 185, 3) := by decide +kernel
theorem d_X11_floodIf_8 : decode (cd mX11_floodIf) 8 = .ok (.ifCond .eq 20, 3) := by decide +kernel
theorem d_X11_floodIf_11 : decode (cd mX11_floodIf) 11 = .ok (.iload_n 1, 1) := by decide +kernel
theorem d_X11_floodIf_12 : decode (cd mX11_floodIf) 12 = .ok (.iconst 0, 1) := by decide +kernel
theorem d_X11_floodIf_13 : decode (cd mX11_floodIf) 13 = .ok (.aload_n 0, 1) := by decide +kernel
theorem d_X11_floodIf_14 : decode (cd mX11_floodIf) 14 = .ok (.getfield 20, 3) := by decide +kernel
theorem d_X11_floodIf_17 : decode (cd mX11_floodIf) 17 = .ok (.bipush 9, 2) := by decide +kernel
theorem d_X11_floodIf_19 : decode (cd mX11_floodIf) 19 = .ok (.iaload, 1) := by decide +kernel
theorem d_X11_floodIf_20 : decode (cd mX11_floodIf) 20 = .ok (.iconst 1, 1) := by decide +kernel
theorem d_X11_floodIf_21 : decode (cd mX11_floodIf) 21 = .ok (.isub, 1) := by decide +kernel
theorem d_X11_floodIf_22 : decode (cd mX11_floodIf) 22 = .ok (.invokestatic 149, 3) := by decide +kernel
theorem d_X11_floodIf_25 : decode (cd mX11_floodIf) 25 = .ok (.ifCond .ne 9, 3) := by decide +kernel
theorem d_X11_floodIf_28 : decode (cd mX11_floodIf) 28 = .ok (.aload_n 0, 1) := by decide +kernel
theorem d_X11_floodIf_29 : decode (cd mX11_floodIf) 29 = .ok (.iconst 1, 1) := by decide +kernel
theorem d_X11_floodIf_30 : decode (cd mX11_floodIf) 30 = .ok (.invokevirtual 171, 3) := by decide +kernel
theorem d_X11_floodIf_33 : decode (cd mX11_floodIf) 33 = .ok (.ireturn, 1) := by decide +kernel
theorem d_X11_floodIf_34 : decode (cd mX11_floodIf) 34 = .ok (.iload_n 2, 1) := by decide +kernel
theorem d_X11_floodIf_35 : decode (cd mX11_floodIf) 35 = .ok (.iconst 0, 1) := by decide +kernel
theorem d_X11_floodIf_36 : decode (cd mX11_floodIf) 36 = .ok (.sipush 999, 3) := by decide +kernel
theorem d_X11_floodIf_39 : decode (cd mX11_floodIf) 39 = .ok (.invokestatic 149, 3) := by decide +kernel
theorem d_X11_floodIf_42 : decode (cd mX11_floodIf) 42 = .ok (.ifCond .eq 12, 3) := by decide +kernel
theorem d_X11_floodIf_45 : decode (cd mX11_floodIf) 45 = .ok (.aload_n 0, 1) := by decide +kernel
theorem d_X11_floodIf_46 : decode (cd mX11_floodIf) 46 = .ok (.iload_n 1, 1) := by decide +kernel
theorem d_X11_floodIf_47 : decode (cd mX11_floodIf) 47 = .ok (.iload_n 2, 1) := by decide +kernel
theorem d_X11_floodIf_48 : decode (cd mX11_floodIf) 48 = .ok (.invokevirtual 379, 3) := by decide +kernel
theorem d_X11_floodIf_51 : decode (cd mX11_floodIf) 51 = .ok (.goto 8, 3) := by decide +kernel
theorem d_X11_floodIf_54 : decode (cd mX11_floodIf) 54 = .ok (.aload_n 0, 1) := by decide +kernel
theorem d_X11_floodIf_55 : decode (cd mX11_floodIf) 55 = .ok (.iconst 2, 1) := by decide +kernel
theorem d_X11_floodIf_56 : decode (cd mX11_floodIf) 56 = .ok (.invokevirtual 171, 3) := by decide +kernel
theorem d_X11_floodIf_59 : decode (cd mX11_floodIf) 59 = .ok (.ireturn, 1) := by decide +kernel
theorem d_X11_narrow_0 : decode (cd mX11_narrow) 0 = .ok (.aload_n 0, 1) := by decide +kernel
theorem d_X11_narrow_1 : decode (cd mX11_narrow) 1 = .ok (.invokevirtual 168, 3) := by decide +kernel
theorem d_X11_narrow_4 : decode (cd mX11_narrow) 4 = .ok (.aload_n 0, 1) := by decide +kernel
theorem d_X11_narrow_5 : decode (cd mX11_narrow) 5 = .ok (.getfield 185, 3) := by decide +kernel
theorem d_X11_narrow_8 : decode (cd mX11_narrow) 8 = .ok (.ifCond .ne 9, 3) := by decide +kernel
theorem d_X11_narrow_11 : decode (cd mX11_narrow) 11 = .ok (.aload_n 0, 1) := by decide +kernel
theorem d_X11_narrow_12 : decode (cd mX11_narrow) 12 = .ok (.iconst 1, 1) := by decide +kernel
theorem d_X11_narrow_13 : decode (cd mX11_narrow) 13 = .ok (.invokevirtual 171, 3) := by decide +kernel
theorem d_X11_narrow_16 : decode (cd mX11_narrow) 16 = .ok (.ireturn, 1) := by decide +kernel
theorem d_X11_narrow_17 : decode (cd mX11_narrow) 17 = .ok (.iconst 0, 1) := by decide +kernel
theorem d_X11_narrow_18 : decode (cd mX11_narrow) 18 = .ok (.istore_n 1, 1) := by decide +kernel
theorem d_X11_narrow_19 : decode (cd mX11_narrow) 19 = .ok (.iconst 0, 1) := by decide +kernel
theorem d_X11_narrow_20 : decode (cd mX11_narrow) 20 = .ok (.istore_n 2, 1) := by decide +kernel
theorem d_X11_narrow_21 : decode (cd mX11_narrow) 21 = .ok (.iload_n 2, 1) := by decide +kernel
theorem d_X11_narrow_22 : decode (cd mX11_narrow) 22 = .ok (.aload_n 0, 1) := by decide +kernel
theorem d_X11_narrow_23 : decode (cd mX11_narrow) 23 = .ok (.getfield 20, 3) := by decide +kernel
theorem d_X11_narrow_26 : decode (cd mX11_narrow) 26 = .ok (.bipush 9, 2) := by decide +kernel
theorem d_X11_narrow_28 : decode (cd mX11_narrow) 28 = .ok (.iaload, 1) := by decide +kernel
theorem d_X11_narrow_29 : decode (cd mX11_narrow) 29 = .ok (.if_icmp .ge 48, 3) := by decide +kernel
theorem d_X11_narrow_32 : decode (cd mX11_narrow) 32 = .ok (.iload_n 1, 1) := by decide +kernel
theorem d_X11_narrow_33 : decode (cd mX11_narrow) 33 = .ok (.aload_n 0, 1) := by decide +kernel
theorem d_X11_narrow_34 : decode (cd mX11_narrow) 34 = .ok (.iload_n 2, 1) := by decide +kernel
theorem d_X11_narrow_35 : decode (cd mX11_narrow) 35 = .ok (.aload_n 0, 1) := by decide +kernel
theorem d_X11_narrow_36 : decode (cd mX11_narrow) 36 = .ok (.getfield 20, 3) := by decide +kernel
theorem d_X11_narrow_39 : decode (cd mX11_narrow) 39 = .ok (.bipush 53, 2) := by decide +kernel
theorem d_X11_narrow_41 : decode (cd mX11_narrow) 41 = .ok (.iconst 3, 1) := by decide +kernel
theorem d_X11_narrow_42 : decode (cd mX11_narrow) 42 = .ok (.iload_n 2, 1) := by decide +kernel
theorem d_X11_narrow_43 : decode (cd mX11_narrow) 43 = .ok (.imul, 1) := by decide +kernel
theorem d_X11_narrow_44 : decode (cd mX11_narrow) 44 = .ok (.iadd, 1) := by decide +kernel
theorem d_X11_narrow_45 : decode (cd mX11_narrow) 45 = .ok (.iconst 2, 1) := by decide +kernel
theorem d_X11_narrow_46 : decode (cd mX11_narrow) 46 = .ok (.iadd, 1) := by decide +kernel
theorem d_X11_narrow_47 : decode (cd mX11_narrow) 47 = .ok (.iaload, 1) := by decide +kernel
theorem d_X11_narrow_48 : decode (cd mX11_narrow) 48 = .ok (.iconst 1, 1) := by decide +kernel
theorem d_X11_narrow_49 : decode (cd mX11_narrow) 49 = .ok (.iadd, 1) := by decide +kernel
theorem d_X11_narrow_50 : decode (cd mX11_narrow) 50 = .ok (.invokevirtual 379, 3) := by decide +kernel
theorem d_X11_narrow_53 : decode (cd mX11_narrow) 53 = .ok (.aload_n 0, 1) := by decide +kernel
theorem d_X11_narrow_54 : decode (cd mX11_narrow) 54 = .ok (.iconst (-1), 1) := by decide +kernel
theorem d_X11_narrow_55 : decode (cd mX11_narrow) 55 = .ok (.iconst 0, 1) := by decide +kernel
theorem d_X11_narrow_56 : decode (cd mX11_narrow) 56 = .ok (.invokevirtual 379, 3) := by decide +kernel
theorem d_X11_narrow_59 : decode (cd mX11_narrow) 59 = .ok (.if_icmp .le 9, 3) := by decide +kernel
theorem d_X11_narrow_62 : decode (cd mX11_narrow) 62 = .ok (.iconst 1, 1) := by decide +kernel
theorem d_X11_narrow_63 : decode (cd mX11_narrow) 63 = .ok (.iload_n 2, 1) := by decide +kernel
theorem d_X11_narrow_64 : decode (cd mX11_narrow) 64 = .ok (.ishl, 1) := by decide +kernel
theorem d_X11_narrow_65 : decode (cd mX11_narrow) 65 = .ok (.goto 4, 3) := by decide +kernel
theorem d_X11_narrow_68 : decode (cd mX11_narrow) 68 = .ok (.iconst 0, 1) := by decide +kernel
theorem d_X11_narrow_69 : decode (cd mX11_narrow) 69 = .ok (.ior, 1) := by decide +kernel
theorem d_X11_narrow_70 : decode (cd mX11_narrow) 70 = .ok (.istore_n 1, 1) := by decide +kernel
theorem d_X11_narrow_71 : decode (cd mX11_narrow) 71 = .ok (.iinc 2 1, 3) := by decide +kernel
theorem d_X11_narrow_74 : decode (cd mX11_narrow) 74 = .ok (.goto (-53), 3) := by decide +kernel
theorem d_X11_narrow_77 : decode (cd mX11_narrow) 77 = .ok (.iload_n 1, 1) := by decide +kernel
theorem d_X11_narrow_78 : decode (cd mX11_narrow) 78 = .ok (.ireturn, 1) := by decide +kernel
theorem d_X11_downhill_0 : decode (cd mX11_downhill) 0 = .ok (.aload_n 0, 1) := by decide +kernel
theorem d_X11_downhill_1 : decode (cd mX11_downhill) 1 = .ok (.invokevirtual 168, 3) := by decide +kernel
theorem d_X11_downhill_4 : decode (cd mX11_downhill) 4 = .ok (.aload_n 0, 1) := by decide +kernel
theorem d_X11_downhill_5 : decode (cd mX11_downhill) 5 = .ok (.getfield 185, 3) := by decide +kernel
theorem d_X11_downhill_8 : decode (cd mX11_downhill) 8 = .ok (.ifCond .eq 20, 3) := by decide +kernel
theorem d_X11_downhill_11 : decode (cd mX11_downhill) 11 = .ok (.iload_n 1, 1) := by decide +kernel
theorem d_X11_downhill_12 : decode (cd mX11_downhill) 12 = .ok (.iconst 0, 1) := by decide +kernel
theorem d_X11_downhill_13 : decode (cd mX11_downhill) 13 = .ok (.aload_n 0, 1) := by decide +kernel
theorem d_X11_downhill_14 : decode (cd mX11_downhill) 14 = .ok (.getfield 20, 3) := by decide +kernel
theorem d_X11_downhill_17 : decode (cd mX11_downhill) 17 = .ok (.bipush 8, 2) := by decide +kernel
theorem d_X11_downhill_19 : decode (cd mX11_downhill) 19 = .ok (.iaload, 1) := by decide +kernel
theorem d_X11_downhill_20 : decode (cd mX11_downhill) 20 = .ok (.iconst 1, 1) := by decide +kernel
theorem d_X11_downhill_21 : decode (cd mX11_downhill) 21 = .ok (.isub, 1) := by decide +kernel
theorem d_X11_downhill_22 : decode (cd mX11_downhill) 22 = .ok (.invokestatic 149, 3) := by decide +kernel
theorem d_X11_downhill_25 : decode (cd mX11_downhill) 25 = .ok (.ifCond .ne 9, 3) := by decide +kernel
theorem d_X11_downhill_28 : decode (cd mX11_downhill) 28 = .ok (.aload_n 0, 1) := by decide +kernel
theorem d_X11_downhill_29 : decode (cd mX11_downhill) 29 = .ok (.iconst 1, 1) := by decide +kernel
theorem d_X11_downhill_30 : decode (cd mX11_downhill) 30 = .ok (.invokevirtual 171, 3) := by decide +kernel
theorem d_X11_downhill_33 : decode (cd mX11_downhill) 33 = .ok (.ireturn, 1) := by decide +kernel
theorem d_X11_downhill_34 : decode (cd mX11_downhill) 34 = .ok (.iconst 1, 1) := by decide +kernel
theorem d_X11_downhill_35 : decode (cd mX11_downhill) 35 = .ok (.iload_n 1, 1) := by decide +kernel
theorem d_X11_downhill_36 : decode (cd mX11_downhill) 36 = .ok (.ishl, 1) := by decide +kernel
theorem d_X11_downhill_37 : decode (cd mX11_downhill) 37 = .ok (.istore_n 2, 1) := by decide +kernel
theorem d_X11_downhill_38 : decode (cd mX11_downhill) 38 = .ok (.iconst 0, 1) := by decide +kernel
theorem d_X11_downhill_39 : decode (cd mX11_downhill) 39 = .ok (.istore_n 3, 1) := by decide +kernel
theorem d_X11_downhill_40 : decode (cd mX11_downhill) 40 = .ok (.iload_n 3, 1) := by decide +kernel
theorem d_X11_downhill_41 : decode (cd mX11_downhill) 41 = .ok (.bipush 6, 2) := by decide +kernel
theorem d_X11_downhill_43 : decode (cd mX11_downhill) 43 = .ok (.if_icmp .ge 71, 3) := by decide +kernel
theorem d_X11_downhill_46 : decode (cd mX11_downhill) 46 = .ok (.iconst 0, 1) := by decide +kernel
theorem d_X11_downhill_47 : decode (cd mX11_downhill) 47 = .ok (.istore 4, 2) := by decide +kernel
theorem d_X11_downhill_49 : decode (cd mX11_downhill) 49 = .ok (.iload 4, 2) := by decide +kernel
theorem d_X11_downhill_51 : decode (cd mX11_downhill) 51 = .ok (.aload_n 0, 1) := by decide +kernel
theorem d_X11_downhill_52 : decode (cd mX11_downhill) 52 = .ok (.getfield 20, 3) := by decide +kernel
theorem d_X11_downhill_55 : decode (cd mX11_downhill) 55 = .ok (.bipush 9, 2) := by decide +kernel
theorem d_X11_downhill_57 : decode (cd mX11_downhill) 57 = .ok (.iaload, 1) := by decide +kernel
theorem d_X11_downhill_58 : decode (cd mX11_downhill) 58 = .ok (.if_icmp .ge 50, 3) := by decide +kernel
theorem d_X11_downhill_61 : decode (cd mX11_downhill) 61 = .ok (.iload_n 2, 1) := by decide +kernel
theorem d_X11_downhill_62 : decode (cd mX11_downhill) 62 = .ok (.aload_n 0, 1) := by decide +kernel
theorem d_X11_downhill_63 : decode (cd mX11_downhill) 63 = .ok (.getfield 20, 3) := by decide +kernel
theorem d_X11_downhill_66 : decode (cd mX11_downhill) 66 = .ok (.bipush 53, 2) := by decide +kernel
theorem d_X11_downhill_68 : decode (cd mX11_downhill) 68 = .ok (.iconst 3, 1) := by decide +kernel
theorem d_X11_downhill_69 : decode (cd mX11_downhill) 69 = .ok (.iload 4, 2) := by decide +kernel
theorem d_X11_downhill_71 : decode (cd mX11_downhill) 71 = .ok (.imul, 1) := by decide +kernel
theorem d_X11_downhill_72 : decode (cd mX11_downhill) 72 = .ok (.iadd, 1) := by decide +kernel
theorem d_X11_downhill_73 : decode (cd mX11_downhill) 73 = .ok (.iaload, 1) := by decide +kernel
theorem d_X11_downhill_74 : decode (cd mX11_downhill) 74 = .ok (.invokestatic 261, 3) := by decide +kernel
theorem d_X11_downhill_77 : decode (cd mX11_downhill) 77 = .ok (.ifCond .ne 6, 3) := by decide +kernel
theorem d_X11_downhill_80 : decode (cd mX11_downhill) 80 = .ok (.goto 22, 3) := by decide +kernel
theorem d_X11_downhill_83 : decode (cd mX11_downhill) 83 = .ok (.iload_n 2, 1) := by decide +kernel
theorem d_X11_downhill_84 : decode (cd mX11_downhill) 84 = .ok (.iconst 1, 1) := by decide +kernel
theorem d_X11_downhill_85 : decode (cd mX11_downhill) 85 = .ok (.aload_n 0, 1) := by decide +kernel
theorem d_X11_downhill_86 : decode (cd mX11_downhill) 86 = .ok (.getfield 20, 3) := by decide +kernel
theorem d_X11_downhill_89 : decode (cd mX11_downhill) 89 = .ok (.bipush 53, 2) := by decide +kernel
theorem d_X11_downhill_91 : decode (cd mX11_downhill) 91 = .ok (.iconst 3, 1) := by decide +kernel
theorem d_X11_downhill_92 : decode (cd mX11_downhill) 92 = .ok (.iload 4, 2) := by decide +kernel
theorem d_X11_downhill_94 : decode (cd mX11_downhill) 94 = .ok (.imul, 1) := by decide +kernel
theorem d_X11_downhill_95 : decode (cd mX11_downhill) 95 = .ok (.iadd, 1) := by decide +kernel
theorem d_X11_downhill_96 : decode (cd mX11_downhill) 96 = .ok (.iconst 1, 1) := by decide +kernel
theorem d_X11_downhill_97 : decode (cd mX11_downhill) 97 = .ok (.iadd, 1) := by decide +kernel
theorem d_X11_downhill_98 : decode (cd mX11_downhill) 98 = .ok (.iaload, 1) := by decide +kernel
theorem d_X11_downhill_99 : decode (cd mX11_downhill) 99 = .ok (.ishl, 1) := by decide +kernel
theorem d_X11_downhill_100 : decode (cd mX11_downhill) 100 = .ok (.ior, 1) := by decide +kernel
theorem d_X11_downhill_101 : decode (cd mX11_downhill) 101 = .ok (.istore_n 2, 1) := by decide +kernel
theorem d_X11_downhill_102 : decode (cd mX11_downhill) 102 = .ok (.iinc 4 1, 3) := by decide +kernel
theorem d_X11_downhill_105 : decode (cd mX11_downhill) 105 = .ok (.goto (-56), 3) := by decide +kernel
theorem d_X11_downhill_108 : decode (cd mX11_downhill) 108 = .ok (.iinc 3 1, 3) := by decide +kernel
theorem d_X11_downhill_111 : decode (cd mX11_downhill) 111 = .ok (.goto (-71), 3) := by decide +kernel
theorem d_X11_downhill_114 : decode (cd mX11_downhill) 114 = .ok (.iload_n 2, 1) := by decide +kernel
theorem d_X11_downhill_115 : decode (cd mX11_downhill) 115 = .ok (.ireturn, 1) := by decide +kernel
theorem d_X11_gust_0 : decode (cd mX11_gust) 0 = .ok (.aload_n 0, 1) := by decide +kernel
theorem d_X11_gust_1 : decode (cd mX11_gust) 1 = .ok (.iconst 0, 1) := by decide +kernel
theorem d_X11_gust_2 : decode (cd mX11_gust) 2 = .ok (.aload_n 0, 1) := by decide +kernel
theorem d_X11_gust_3 : decode (cd mX11_gust) 3 = .ok (.iconst 0, 1) := by decide +kernel
theorem d_X11_gust_4 : decode (cd mX11_gust) 4 = .ok (.iaload, 1) := by decide +kernel
theorem d_X11_gust_5 : decode (cd mX11_gust) 5 = .ok (.iconst 1, 1) := by decide +kernel
theorem d_X11_gust_6 : decode (cd mX11_gust) 6 = .ok (.iadd, 1) := by decide +kernel
theorem d_X11_gust_7 : decode (cd mX11_gust) 7 = .ok (.invokestatic 265, 3) := by decide +kernel
theorem d_X11_gust_10 : decode (cd mX11_gust) 10 = .ok (.iastore, 1) := by decide +kernel
theorem d_X11_gust_11 : decode (cd mX11_gust) 11 = .ok (.return_, 1) := by decide +kernel
theorem d_X11_tryGusts_0 : decode (cd mX11_tryGusts) 0 = .ok (.aload_n 0, 1) := by decide +kernel
theorem d_X11_tryGusts_1 : decode (cd mX11_tryGusts) 1 = .ok (.lconst 1, 1) := by decide +kernel
theorem d_X11_tryGusts_2 : decode (cd mX11_tryGusts) 2 = .ok (.putfield 382, 3) := by decide +kernel
theorem d_X11_tryGusts_5 : decode (cd mX11_tryGusts) 5 = .ok (.aload_n 0, 1) := by decide +kernel
theorem d_X11_tryGusts_6 : decode (cd mX11_tryGusts) 6 = .ok (.lconst 0, 1) := by decide +kernel
theorem d_X11_tryGusts_7 : decode (cd mX11_tryGusts) 7 = .ok (.putfield 386, 3) := by decide +kernel
theorem d_X11_tryGusts_10 : decode (cd mX11_tryGusts) 10 = .ok (.iconst 0, 1) := by decide +kernel
theorem d_X11_tryGusts_11 : decode (cd mX11_tryGusts) 11 = .ok (.istore_n 2, 1) := by decide +kernel
theorem d_X11_tryGusts_12 : decode (cd mX11_tryGusts) 12 = .ok (.iload_n 2, 1) := by decide +kernel
theorem d_X11_tryGusts_13 : decode (cd mX11_tryGusts) 13 = .ok (.iconst 4, 1) := by decide +kernel
theorem d_X11_tryGusts_14 : decode (cd mX11_tryGusts) 14 = .ok (.if_icmp .ge 16, 3) := by decide +kernel
theorem d_X11_tryGusts_17 : decode (cd mX11_tryGusts) 17 = .ok (.aload_n 0, 1) := by decide +kernel
theorem d_X11_tryGusts_18 : decode (cd mX11_tryGusts) 18 = .ok (.getfield 56, 3) := by decide +kernel
theorem d_X11_tryGusts_21 : decode (cd mX11_tryGusts) 21 = .ok (.iload_n 2, 1) := by decide +kernel
theorem d_X11_tryGusts_22 : decode (cd mX11_tryGusts) 22 = .ok (.lconst 0, 1) := by decide +kernel
theorem d_X11_tryGusts_23 : decode (cd mX11_tryGusts) 23 = .ok (.lastore, 1) := by decide +kernel
theorem d_X11_tryGusts_24 : decode (cd mX11_tryGusts) 24 = .ok (.iinc 2 1, 3) := by decide +kernel
theorem d_X11_tryGusts_27 : decode (cd mX11_tryGusts) 27 = .ok (.goto (-15), 3) := by decide +kernel
theorem d_X11_tryGusts_30 : decode (cd mX11_tryGusts) 30 = .ok (.iconst 0, 1) := by decide +kernel
theorem d_X11_tryGusts_31 : decode (cd mX11_tryGusts) 31 = .ok (.istore_n 2, 1) := by decide +kernel
theorem d_X11_tryGusts_32 : decode (cd mX11_tryGusts) 32 = .ok (.iload_n 2, 1) := by decide +kernel
theorem d_X11_tryGusts_33 : decode (cd mX11_tryGusts) 33 = .ok (.iload_n 1, 1) := by decide +kernel
theorem d_X11_tryGusts_34 : decode (cd mX11_tryGusts) 34 = .ok (.if_icmp .ge 21, 3) := by decide +kernel
theorem d_X11_tryGusts_37 : decode (cd mX11_tryGusts) 37 = .ok (.aload_n 0, 1) := by decide +kernel
theorem d_X11_tryGusts_38 : decode (cd mX11_tryGusts) 38 = .ok (.dup, 1) := by decide +kernel
theorem d_X11_tryGusts_39 : decode (cd mX11_tryGusts) 39 = .ok (.getfield 382, 3) := by decide +kernel
theorem d_X11_tryGusts_42 : decode (cd mX11_tryGusts) 42 = .ok (.ldc2_w 389, 3) := by decide +kernel
theorem d_X11_tryGusts_45 : decode (cd mX11_tryGusts) 45 = .ok (.lmul, 1) := by decide +kernel
theorem d_X11_tryGusts_46 : decode (cd mX11_tryGusts) 46 = .ok (.putfield 382, 3) := by decide +kernel
theorem d_X11_tryGusts_49 : decode (cd mX11_tryGusts) 49 = .ok (.iinc 2 1, 3) := by decide +kernel
theorem d_X11_tryGusts_52 : decode (cd mX11_tryGusts) 52 = .ok (.goto (-20), 3) := by decide +kernel
theorem d_X11_tryGusts_55 : decode (cd mX11_tryGusts) 55 = .ok (.iconst 0, 1) := by decide +kernel
theorem d_X11_tryGusts_56 : decode (cd mX11_tryGusts) 56 = .ok (.istore_n 2, 1) := by decide +kernel
theorem d_X11_tryGusts_57 : decode (cd mX11_tryGusts) 57 = .ok (.iload_n 2, 1) := by decide +kernel
theorem d_X11_tryGusts_58 : decode (cd mX11_tryGusts) 58 = .ok (.iconst 1, 1) := by decide +kernel
theorem d_X11_tryGusts_59 : decode (cd mX11_tryGusts) 59 = .ok (.iload_n 1, 1) := by decide +kernel
theorem d_X11_tryGusts_60 : decode (cd mX11_tryGusts) 60 = .ok (.ishl, 1) := by decide +kernel
theorem d_X11_tryGusts_61 : decode (cd mX11_tryGusts) 61 = .ok (.if_icmp .ge 123, 3) := by decide +kernel
theorem d_X11_tryGusts_64 : decode (cd mX11_tryGusts) 64 = .ok (.aload_n 0, 1) := by decide +kernel
theorem d_X11_tryGusts_65 : decode (cd mX11_tryGusts) 65 = .ok (.invokevirtual 285, 3) := by decide +kernel
theorem d_X11_tryGusts_68 : decode (cd mX11_tryGusts) 68 = .ok (.lconst 1, 1) := by decide +kernel
theorem d_X11_tryGusts_69 : decode (cd mX11_tryGusts) 69 = .ok (.lstore_n 3, 1) := by decide +kernel
theorem d_X11_tryGusts_70 : decode (cd mX11_tryGusts) 70 = .ok (.iconst 0, 1) := by decide +kernel
theorem d_X11_tryGusts_71 : decode (cd mX11_tryGusts) 71 = .ok (.istore 5, 2) := by decide +kernel
theorem d_X11_tryGusts_73 : decode (cd mX11_tryGusts) 73 = .ok (.iload 5, 2) := by decide +kernel
theorem d_X11_tryGusts_75 : decode (cd mX11_tryGusts) 75 = .ok (.iload_n 1, 1) := by decide +kernel
theorem d_X11_tryGusts_76 : decode (cd mX11_tryGusts) 76 = .ok (.if_icmp .ge 65, 3) := by decide +kernel
theorem d_X11_tryGusts_79 : decode (cd mX11_tryGusts) 79 = .ok (.aload_n 0, 1) := by decide +kernel
theorem d_X11_tryGusts_80 : decode (cd mX11_tryGusts) 80 = .ok (.aload_n 0, 1) := by decide +kernel
theorem d_X11_tryGusts_81 : decode (cd mX11_tryGusts) 81 = .ok (.getfield 35, 3) := by decide +kernel
theorem d_X11_tryGusts_84 : decode (cd mX11_tryGusts) 84 = .ok (.invokevirtual 288, 3) := by decide +kernel
theorem d_X11_tryGusts_87 : decode (cd mX11_tryGusts) 87 = .ok (.lload_n 3, 1) := by decide +kernel
theorem d_X11_tryGusts_88 : decode (cd mX11_tryGusts) 88 = .ok (.iload_n 2, 1) := by decide +kernel
theorem d_X11_tryGusts_89 : decode (cd mX11_tryGusts) 89 = .ok (.iload 5, 2) := by decide +kernel
theorem d_X11_tryGusts_91 : decode (cd mX11_tryGusts) 91 = .ok (.invokestatic 261, 3) := by decide +kernel
theorem d_X11_tryGusts_94 : decode (cd mX11_tryGusts) 94 = .ok (.ifCond .eq 13, 3) := by decide +kernel
theorem d_X11_tryGusts_97 : decode (cd mX11_tryGusts) 97 = .ok (.aload_n 0, 1) := by decide +kernel
theorem d_X11_tryGusts_98 : decode (cd mX11_tryGusts) 98 = .ok (.getfield 20, 3) := by decide +kernel
theorem d_X11_tryGusts_101 : decode (cd mX11_tryGusts) 101 = .ok (.iconst 2, 1) := by decide +kernel
theorem d_X11_tryGusts_102 : decode (cd mX11_tryGusts) 102 = .ok (.iaload, 1) := by decide +kernel
theorem d_X11_tryGusts_103 : decode (cd mX11_tryGusts) 103 = .ok (.i2l, 1) := by decide +kernel
theorem d_X11_tryGusts_104 : decode (cd mX11_tryGusts) 104 = .ok (.goto 13, 3) := by decide +kernel
theorem d_X11_tryGusts_107 : decode (cd mX11_tryGusts) 107 = .ok (.bipush 100, 2) := by decide +kernel
theorem d_X11_tryGusts_109 : decode (cd mX11_tryGusts) 109 = .ok (.aload_n 0, 1) := by decide +kernel
theorem d_X11_tryGusts_110 : decode (cd mX11_tryGusts) 110 = .ok (.getfield 20, 3) := by decide +kernel
theorem d_X11_tryGusts_113 : decode (cd mX11_tryGusts) 113 = .ok (.iconst 2, 1) := by decide +kernel
theorem d_X11_tryGusts_114 : decode (cd mX11_tryGusts) 114 = .ok (.iaload, 1) := by decide +kernel
theorem d_X11_tryGusts_115 : decode (cd mX11_tryGusts) 115 = .ok (.isub, 1) := by decide +kernel
theorem d_X11_tryGusts_116 : decode (cd mX11_tryGusts) 116 = .ok (.i2l, 1) := by decide +kernel
theorem d_X11_tryGusts_117 : decode (cd mX11_tryGusts) 117 = .ok (.lmul, 1) := by decide +kernel
theorem d_X11_tryGusts_118 : decode (cd mX11_tryGusts) 118 = .ok (.lstore_n 3, 1) := by decide +kernel
theorem d_X11_tryGusts_119 : decode (cd mX11_tryGusts) 119 = .ok (.iload_n 2, 1) := by decide +kernel
theorem d_X11_tryGusts_120 : decode (cd mX11_tryGusts) 120 = .ok (.iload 5, 2) := by decide +kernel
theorem d_X11_tryGusts_122 : decode (cd mX11_tryGusts) 122 = .ok (.invokestatic 261, 3) := by decide +kernel
theorem d_X11_tryGusts_125 : decode (cd mX11_tryGusts) 125 = .ok (.ifCond .eq 10, 3) := by decide +kernel
theorem d_X11_tryGusts_128 : decode (cd mX11_tryGusts) 128 = .ok (.aload_n 0, 1) := by decide +kernel
theorem d_X11_tryGusts_129 : decode (cd mX11_tryGusts) 129 = .ok (.getfield 35, 3) := by decide +kernel
theorem d_X11_tryGusts_132 : decode (cd mX11_tryGusts) 132 = .ok (.invokestatic 391, 3) := by decide +kernel
theorem d_X11_tryGusts_135 : decode (cd mX11_tryGusts) 135 = .ok (.iinc 5 1, 3) := by decide +kernel
theorem d_X11_tryGusts_138 : decode (cd mX11_tryGusts) 138 = .ok (.goto (-65), 3) := by decide +kernel
theorem d_X11_tryGusts_141 : decode (cd mX11_tryGusts) 141 = .ok (.aload_n 0, 1) := by decide +kernel
theorem d_X11_tryGusts_142 : decode (cd mX11_tryGusts) 142 = .ok (.getfield 56, 3) := by decide +kernel
theorem d_X11_tryGusts_145 : decode (cd mX11_tryGusts) 145 = .ok (.aload_n 0, 1) := by decide +kernel
theorem d_X11_tryGusts_146 : decode (cd mX11_tryGusts) 146 = .ok (.getfield 35, 3) := by decide +kernel
theorem d_X11_tryGusts_149 : decode (cd mX11_tryGusts) 149 = .ok (.invokestatic 268, 3) := by decide +kernel
theorem d_X11_tryGusts_152 : decode (cd mX11_tryGusts) 152 = .ok (.dup2, 1) := by decide +kernel
theorem d_X11_tryGusts_153 : decode (cd mX11_tryGusts) 153 = .ok (.laload, 1) := by decide +kernel
theorem d_X11_tryGusts_154 : decode (cd mX11_tryGusts) 154 = .ok (.lload_n 3, 1) := by decide +kernel
theorem d_X11_tryGusts_155 : decode (cd mX11_tryGusts) 155 = .ok (.ladd, 1) := by decide +kernel
theorem d_X11_tryGusts_156 : decode (cd mX11_tryGusts) 156 = .ok (.lastore, 1) := by decide +kernel
theorem d_X11_tryGusts_157 : decode (cd mX11_tryGusts) 157 = .ok (.aload_n 0, 1) := by decide +kernel
theorem d_X11_tryGusts_158 : decode (cd mX11_tryGusts) 158 = .ok (.dup, 1) := by decide +kernel
theorem d_X11_tryGusts_159 : decode (cd mX11_tryGusts) 159 = .ok (.getfield 386, 3) := by decide +kernel
theorem d_X11_tryGusts_162 : decode (cd mX11_tryGusts) 162 = .ok (.lload_n 3, 1) := by decide +kernel
theorem d_X11_tryGusts_163 : decode (cd mX11_tryGusts) 163 = .ok (.aload_n 0, 1) := by decide +kernel
theorem d_X11_tryGusts_164 : decode (cd mX11_tryGusts) 164 = .ok (.getfield 35, 3) := by decide +kernel
theorem d_X11_tryGusts_167 : decode (cd mX11_tryGusts) 167 = .ok (.iconst 0, 1) := by decide +kernel
theorem d_X11_tryGusts_168 : decode (cd mX11_tryGusts) 168 = .ok (.iaload, 1) := by decide +kernel
theorem d_X11_tryGusts_169 : decode (cd mX11_tryGusts) 169 = .ok (.bipush 9, 2) := by decide +kernel
theorem d_X11_tryGusts_171 : decode (cd mX11_tryGusts) 171 = .ok (.iadd, 1) := by decide +kernel
theorem d_X11_tryGusts_172 : decode (cd mX11_tryGusts) 172 = .ok (.i2l, 1) := by decide +kernel
theorem d_X11_tryGusts_173 : decode (cd mX11_tryGusts) 173 = .ok (.lmul, 1) := by decide +kernel
theorem d_X11_tryGusts_174 : decode (cd mX11_tryGusts) 174 = .ok (.ladd, 1) := by decide +kernel
theorem d_X11_tryGusts_175 : decode (cd mX11_tryGusts) 175 = .ok (.putfield 386, 3) := by decide +kernel
theorem d_X11_tryGusts_178 : decode (cd mX11_tryGusts) 178 = .ok (.iinc 2 1, 3) := by decide +kernel
theorem d_X11_tryGusts_181 : decode (cd mX11_tryGusts) 181 = .ok (.goto (-124), 3) := by decide +kernel
theorem d_X11_tryGusts_184 : decode (cd mX11_tryGusts) 184 = .ok (.return_, 1) := by decide +kernel
theorem d_X11_likely_0 : decode (cd mX11_likely) 0 = .ok (.aload_n 0, 1) := by decide +kernel
theorem d_X11_likely_1 : decode (cd mX11_likely) 1 = .ok (.invokevirtual 168, 3) := by decide +kernel
theorem d_X11_likely_4 : decode (cd mX11_likely) 4 = .ok (.aload_n 0, 1) := by decide +kernel
theorem d_X11_likely_5 : decode (cd mX11_likely) 5 = .ok (.getfield 185, 3) := by decide +kernel
theorem d_X11_likely_8 : decode (cd mX11_likely) 8 = .ok (.ifCond .ne 10, 3) := by decide +kernel
theorem d_X11_likely_11 : decode (cd mX11_likely) 11 = .ok (.aload_n 0, 1) := by decide +kernel
theorem d_X11_likely_12 : decode (cd mX11_likely) 12 = .ok (.iconst 1, 1) := by decide +kernel
theorem d_X11_likely_13 : decode (cd mX11_likely) 13 = .ok (.invokevirtual 171, 3) := by decide +kernel
theorem d_X11_likely_16 : decode (cd mX11_likely) 16 = .ok (.i2l, 1) := by decide +kernel
theorem d_X11_likely_17 : decode (cd mX11_likely) 17 = .ok (.lreturn, 1) := by decide +kernel
theorem d_X11_likely_18 : decode (cd mX11_likely) 18 = .ok (.iload_n 1, 1) := by decide +kernel
theorem d_X11_likely_19 : decode (cd mX11_likely) 19 = .ok (.iconst 0, 1) := by decide +kernel
theorem d_X11_likely_20 : decode (cd mX11_likely) 20 = .ok (.iconst 3, 1) := by decide +kernel
theorem d_X11_likely_21 : decode (cd mX11_likely) 21 = .ok (.invokestatic 149, 3) := by decide +kernel
theorem d_X11_likely_24 : decode (cd mX11_likely) 24 = .ok (.ifCond .eq 13, 3) := by decide +kernel
theorem d_X11_likely_27 : decode (cd mX11_likely) 27 = .ok (.iload_n 2, 1) := by decide +kernel
theorem d_X11_likely_28 : decode (cd mX11_likely) 28 = .ok (.iconst 0, 1) := by decide +kernel
theorem d_X11_likely_29 : decode (cd mX11_likely) 29 = .ok (.bipush 6, 2) := by decide +kernel
theorem d_X11_likely_31 : decode (cd mX11_likely) 31 = .ok (.invokestatic 149, 3) := by decide +kernel
theorem d_X11_likely_34 : decode (cd mX11_likely) 34 = .ok (.ifCond .ne 10, 3) := by decide +kernel
theorem d_X11_likely_37 : decode (cd mX11_likely) 37 = .ok (.aload_n 0, 1) := by decide +kernel
theorem d_X11_likely_38 : decode (cd mX11_likely) 38 = .ok (.iconst 2, 1) := by decide +kernel
theorem d_X11_likely_39 : decode (cd mX11_likely) 39 = .ok (.invokevirtual 171, 3) := by decide +kernel
theorem d_X11_likely_42 : decode (cd mX11_likely) 42 = .ok (.i2l, 1) := by decide +kernel
theorem d_X11_likely_43 : decode (cd mX11_likely) 43 = .ok (.lreturn, 1) := by decide +kernel
theorem d_X11_likely_44 : decode (cd mX11_likely) 44 = .ok (.aload_n 0, 1) := by decide +kernel
theorem d_X11_likely_45 : decode (cd mX11_likely) 45 = .ok (.iload_n 2, 1) := by decide +kernel
theorem d_X11_likely_46 : decode (cd mX11_likely) 46 = .ok (.invokevirtual 393, 3) := by decide +kernel
theorem d_X11_likely_49 : decode (cd mX11_likely) 49 = .ok (.aload_n 0, 1) := by decide +kernel
theorem d_X11_likely_50 : decode (cd mX11_likely) 50 = .ok (.getfield 56, 3) := by decide +kernel
theorem d_X11_likely_53 : decode (cd mX11_likely) 53 = .ok (.iload_n 1, 1) := by decide +kernel
theorem d_X11_likely_54 : decode (cd mX11_likely) 54 = .ok (.laload, 1) := by decide +kernel
theorem d_X11_likely_55 : decode (cd mX11_likely) 55 = .ok (.aload_n 0, 1) := by decide +kernel
theorem d_X11_likely_56 : decode (cd mX11_likely) 56 = .ok (.getfield 382, 3) := by decide +kernel
theorem d_X11_likely_59 : decode (cd mX11_likely) 59 = .ok (.iload_n 3, 1) := by decide +kernel
theorem d_X11_likely_60 : decode (cd mX11_likely) 60 = .ok (.invokestatic 396, 3) := by decide +kernel
theorem d_X11_likely_63 : decode (cd mX11_likely) 63 = .ok (.lreturn, 1) := by decide +kernel
theorem d_X11_mean_0 : decode (cd mX11_mean) 0 = .ok (.aload_n 0, 1) := by decide +kernel
theorem d_X11_mean_1 : decode (cd mX11_mean) 1 = .ok (.invokevirtual 168, 3) := by decide +kernel
theorem d_X11_mean_4 : decode (cd mX11_mean) 4 = .ok (.aload_n 0, 1) := by decide +kernel
theorem d_X11_mean_5 : decode (cd mX11_mean) 5 = .ok (.iload_n 1, 1) := by decide +kernel
theorem d_X11_mean_6 : decode (cd mX11_mean) 6 = .ok (.iconst 0, 1) := by decide +kernel
theorem d_X11_mean_7 : decode (cd mX11_mean) 7 = .ok (.bipush 6, 2) := by decide +kernel
theorem d_X11_mean_9 : decode (cd mX11_mean) 9 = .ok (.invokevirtual 295, 3) := by decide +kernel
theorem d_X11_mean_12 : decode (cd mX11_mean) 12 = .ok (.istore_n 3, 1) := by decide +kernel
theorem d_X11_mean_13 : decode (cd mX11_mean) 13 = .ok (.iload_n 3, 1) := by decide +kernel
theorem d_X11_mean_14 : decode (cd mX11_mean) 14 = .ok (.ifCond .eq 10, 3) := by decide +kernel
theorem d_X11_mean_17 : decode (cd mX11_mean) 17 = .ok (.aload_n 0, 1) := by decide +kernel
theorem d_X11_mean_18 : decode (cd mX11_mean) 18 = .ok (.iload_n 3, 1) := by decide +kernel
theorem d_X11_mean_19 : decode (cd mX11_mean) 19 = .ok (.invokevirtual 171, 3) := by decide +kernel
theorem d_X11_mean_22 : decode (cd mX11_mean) 22 = .ok (.i2l, 1) := by decide +kernel
theorem d_X11_mean_23 : decode (cd mX11_mean) 23 = .ok (.lreturn, 1) := by decide +kernel
theorem d_X11_mean_24 : decode (cd mX11_mean) 24 = .ok (.aload_n 0, 1) := by decide +kernel
theorem d_X11_mean_25 : decode (cd mX11_mean) 25 = .ok (.iload_n 1, 1) := by decide +kernel
theorem d_X11_mean_26 : decode (cd mX11_mean) 26 = .ok (.invokevirtual 393, 3) := by decide +kernel
theorem d_X11_mean_29 : decode (cd mX11_mean) 29 = .ok (.aload_n 0, 1) := by decide +kernel
theorem d_X11_mean_30 : decode (cd mX11_mean) 30 = .ok (.getfield 386, 3) := by decide +kernel
theorem d_X11_mean_33 : decode (cd mX11_mean) 33 = .ok (.aload_n 0, 1) := by decide +kernel
theorem d_X11_mean_34 : decode (cd mX11_mean) 34 = .ok (.getfield 382, 3) := by decide +kernel
theorem d_X11_mean_37 : decode (cd mX11_mean) 37 = .ok (.iload_n 2, 1) := by decide +kernel
theorem d_X11_mean_38 : decode (cd mX11_mean) 38 = .ok (.invokestatic 396, 3) := by decide +kernel
theorem d_X11_mean_41 : decode (cd mX11_mean) 41 = .ok (.lreturn, 1) := by decide +kernel
theorem d_X11_gustWhy_0 : decode (cd mX11_gustWhy) 0 = .ok (.aload_n 0, 1) := by decide +kernel
theorem d_X11_gustWhy_1 : decode (cd mX11_gustWhy) 1 = .ok (.getfield 185, 3) := by decide +kernel
theorem d_X11_gustWhy_4 : decode (cd mX11_gustWhy) 4 = .ok (.ifCond .ne 5, 3) := by decide +kernel
theorem d_X11_gustWhy_7 : decode (cd mX11_gustWhy) 7 = .ok (.iconst 1, 1) := by decide +kernel
theorem d_X11_gustWhy_8 : decode (cd mX11_gustWhy) 8 = .ok (.ireturn, 1) := by decide +kernel
theorem d_X11_gustWhy_9 : decode (cd mX11_gustWhy) 9 = .ok (.iload_n 1, 1) := by decide +kernel
theorem d_X11_gustWhy_10 : decode (cd mX11_gustWhy) 10 = .ok (.iconst 0, 1) := by decide +kernel
theorem d_X11_gustWhy_11 : decode (cd mX11_gustWhy) 11 = .ok (.ldc_w 400, 3) := by decide +kernel
theorem d_X11_gustWhy_14 : decode (cd mX11_gustWhy) 14 = .ok (.invokestatic 149, 3) := by decide +kernel
theorem d_X11_gustWhy_17 : decode (cd mX11_gustWhy) 17 = .ok (.ifCond .eq 13, 3) := by decide +kernel
theorem d_X11_gustWhy_20 : decode (cd mX11_gustWhy) 20 = .ok (.iload_n 2, 1) := by decide +kernel
theorem d_X11_gustWhy_21 : decode (cd mX11_gustWhy) 21 = .ok (.iconst 0, 1) := by decide +kernel
theorem d_X11_gustWhy_22 : decode (cd mX11_gustWhy) 22 = .ok (.bipush 60, 2) := by decide +kernel
theorem d_X11_gustWhy_24 : decode (cd mX11_gustWhy) 24 = .ok (.invokestatic 149, 3) := by decide +kernel
theorem d_X11_gustWhy_27 : decode (cd mX11_gustWhy) 27 = .ok (.ifCond .ne 5, 3) := by decide +kernel
theorem d_X11_gustWhy_30 : decode (cd mX11_gustWhy) 30 = .ok (.iconst 2, 1) := by decide +kernel
theorem d_X11_gustWhy_31 : decode (cd mX11_gustWhy) 31 = .ok (.ireturn, 1) := by decide +kernel
theorem d_X11_gustWhy_32 : decode (cd mX11_gustWhy) 32 = .ok (.aload_n 0, 1) := by decide +kernel
theorem d_X11_gustWhy_33 : decode (cd mX11_gustWhy) 33 = .ok (.invokevirtual 285, 3) := by decide +kernel
theorem d_X11_gustWhy_36 : decode (cd mX11_gustWhy) 36 = .ok (.aload_n 0, 1) := by decide +kernel
theorem d_X11_gustWhy_37 : decode (cd mX11_gustWhy) 37 = .ok (.iconst 0, 1) := by decide +kernel
theorem d_X11_gustWhy_38 : decode (cd mX11_gustWhy) 38 = .ok (.putfield 401, 3) := by decide +kernel
theorem d_X11_gustWhy_41 : decode (cd mX11_gustWhy) 41 = .ok (.iload_n 1, 1) := by decide +kernel
theorem d_X11_gustWhy_42 : decode (cd mX11_gustWhy) 42 = .ok (.istore_n 3, 1) := by decide +kernel
theorem d_X11_gustWhy_43 : decode (cd mX11_gustWhy) 43 = .ok (.iconst 0, 1) := by decide +kernel
theorem d_X11_gustWhy_44 : decode (cd mX11_gustWhy) 44 = .ok (.istore 4, 2) := by decide +kernel
theorem d_X11_gustWhy_46 : decode (cd mX11_gustWhy) 46 = .ok (.iload 4, 2) := by decide +kernel
theorem d_X11_gustWhy_48 : decode (cd mX11_gustWhy) 48 = .ok (.iload_n 2, 1) := by decide +kernel
theorem d_X11_gustWhy_49 : decode (cd mX11_gustWhy) 49 = .ok (.if_icmp .ge 73, 3) := by decide +kernel
theorem d_X11_gustWhy_52 : decode (cd mX11_gustWhy) 52 = .ok (.aload_n 0, 1) := by decide +kernel
theorem d_X11_gustWhy_53 : decode (cd mX11_gustWhy) 53 = .ok (.aload_n 0, 1) := by decide +kernel
theorem d_X11_gustWhy_54 : decode (cd mX11_gustWhy) 54 = .ok (.getfield 35, 3) := by decide +kernel
theorem d_X11_gustWhy_57 : decode (cd mX11_gustWhy) 57 = .ok (.invokevirtual 288, 3) := by decide +kernel
theorem d_X11_gustWhy_60 : decode (cd mX11_gustWhy) 60 = .ok (.aload_n 0, 1) := by decide +kernel
theorem d_X11_gustWhy_61 : decode (cd mX11_gustWhy) 61 = .ok (.dup, 1) := by decide +kernel
theorem d_X11_gustWhy_62 : decode (cd mX11_gustWhy) 62 = .ok (.getfield 401, 3) := by decide +kernel
theorem d_X11_gustWhy_65 : decode (cd mX11_gustWhy) 65 = .ok (.aload_n 0, 1) := by decide +kernel
theorem d_X11_gustWhy_66 : decode (cd mX11_gustWhy) 66 = .ok (.getfield 35, 3) := by decide +kernel
theorem d_X11_gustWhy_69 : decode (cd mX11_gustWhy) 69 = .ok (.iconst 5, 1) := by decide +kernel
theorem d_X11_gustWhy_70 : decode (cd mX11_gustWhy) 70 = .ok (.iaload, 1) := by decide +kernel
theorem d_X11_gustWhy_71 : decode (cd mX11_gustWhy) 71 = .ok (.iconst 1, 1) := by decide +kernel
theorem d_X11_gustWhy_72 : decode (cd mX11_gustWhy) 72 = .ok (.if_icmp .ne 7, 3) := by decide +kernel
theorem d_X11_gustWhy_75 : decode (cd mX11_gustWhy) 75 = .ok (.iconst 1, 1) := by decide +kernel
theorem d_X11_gustWhy_76 : decode (cd mX11_gustWhy) 76 = .ok (.goto 4, 3) := by decide +kernel
theorem d_X11_gustWhy_79 : decode (cd mX11_gustWhy) 79 = .ok (.iconst 0, 1) := by decide +kernel
theorem d_X11_gustWhy_80 : decode (cd mX11_gustWhy) 80 = .ok (.iadd, 1) := by decide +kernel
theorem d_X11_gustWhy_81 : decode (cd mX11_gustWhy) 81 = .ok (.putfield 401, 3) := by decide +kernel
theorem d_X11_gustWhy_84 : decode (cd mX11_gustWhy) 84 = .ok (.bipush 75, 2) := by decide +kernel
theorem d_X11_gustWhy_86 : decode (cd mX11_gustWhy) 86 = .ok (.iload_n 3, 1) := by decide +kernel
theorem d_X11_gustWhy_87 : decode (cd mX11_gustWhy) 87 = .ok (.imul, 1) := by decide +kernel
theorem d_X11_gustWhy_88 : decode (cd mX11_gustWhy) 88 = .ok (.bipush 74, 2) := by decide +kernel
theorem d_X11_gustWhy_90 : decode (cd mX11_gustWhy) 90 = .ok (.iadd, 1) := by decide +kernel
theorem d_X11_gustWhy_91 : decode (cd mX11_gustWhy) 91 = .ok (.ldc_w 404, 3) := by decide +kernel
theorem d_X11_gustWhy_94 : decode (cd mX11_gustWhy) 94 = .ok (.irem, 1) := by decide +kernel
theorem d_X11_gustWhy_95 : decode (cd mX11_gustWhy) 95 = .ok (.istore_n 3, 1) := by decide +kernel
theorem d_X11_gustWhy_96 : decode (cd mX11_gustWhy) 96 = .ok (.iload_n 3, 1) := by decide +kernel
theorem d_X11_gustWhy_97 : decode (cd mX11_gustWhy) 97 = .ok (.bipush 100, 2) := by decide +kernel
theorem d_X11_gustWhy_99 : decode (cd mX11_gustWhy) 99 = .ok (.irem, 1) := by decide +kernel
theorem d_X11_gustWhy_100 : decode (cd mX11_gustWhy) 100 = .ok (.aload_n 0, 1) := by decide +kernel
theorem d_X11_gustWhy_101 : decode (cd mX11_gustWhy) 101 = .ok (.getfield 20, 3) := by decide +kernel
theorem d_X11_gustWhy_104 : decode (cd mX11_gustWhy) 104 = .ok (.iconst 2, 1) := by decide +kernel
theorem d_X11_gustWhy_105 : decode (cd mX11_gustWhy) 105 = .ok (.iaload, 1) := by decide +kernel
theorem d_X11_gustWhy_106 : decode (cd mX11_gustWhy) 106 = .ok (.if_icmp .ge 10, 3) := by decide +kernel
theorem d_X11_gustWhy_109 : decode (cd mX11_gustWhy) 109 = .ok (.aload_n 0, 1) := by decide +kernel
theorem d_X11_gustWhy_110 : decode (cd mX11_gustWhy) 110 = .ok (.getfield 35, 3) := by decide +kernel
theorem d_X11_gustWhy_113 : decode (cd mX11_gustWhy) 113 = .ok (.invokestatic 391, 3) := by decide +kernel
theorem d_X11_gustWhy_116 : decode (cd mX11_gustWhy) 116 = .ok (.iinc 4 1, 3) := by decide +kernel
theorem d_X11_gustWhy_119 : decode (cd mX11_gustWhy) 119 = .ok (.goto (-73), 3) := by decide +kernel
theorem d_X11_gustWhy_122 : decode (cd mX11_gustWhy) 122 = .ok (.iconst 0, 1) := by decide +kernel
theorem d_X11_gustWhy_123 : decode (cd mX11_gustWhy) 123 = .ok (.ireturn, 1) := by decide +kernel
theorem d_X11_gusted_0 : decode (cd mX11_gusted) 0 = .ok (.aload_n 0, 1) := by decide +kernel
theorem d_X11_gusted_1 : decode (cd mX11_gusted) 1 = .ok (.invokevirtual 168, 3) := by decide +kernel
theorem d_X11_gusted_4 : decode (cd mX11_gusted) 4 = .ok (.aload_n 0, 1) := by decide +kernel
theorem d_X11_gusted_5 : decode (cd mX11_gusted) 5 = .ok (.iload_n 1, 1) := by decide +kernel
theorem d_X11_gusted_6 : decode (cd mX11_gusted) 6 = .ok (.iload_n 2, 1) := by decide +kernel
theorem d_X11_gusted_7 : decode (cd mX11_gusted) 7 = .ok (.invokevirtual 405, 3) := by decide +kernel
theorem d_X11_gusted_10 : decode (cd mX11_gusted) 10 = .ok (.istore_n 3, 1) := by decide +kernel
theorem d_X11_gusted_11 : decode (cd mX11_gusted) 11 = .ok (.iload_n 3, 1) := by decide +kernel
theorem d_X11_gusted_12 : decode (cd mX11_gusted) 12 = .ok (.ifCond .eq 11, 3) := by decide +kernel
theorem d_X11_gusted_15 : decode (cd mX11_gusted) 15 = .ok (.aload_n 0, 1) := by decide +kernel
theorem d_X11_gusted_16 : decode (cd mX11_gusted) 16 = .ok (.iload_n 3, 1) := by decide +kernel
theorem d_X11_gusted_17 : decode (cd mX11_gusted) 17 = .ok (.invokevirtual 171, 3) := by decide +kernel
theorem d_X11_gusted_20 : decode (cd mX11_gusted) 20 = .ok (.goto 12, 3) := by decide +kernel
theorem d_X11_gusted_23 : decode (cd mX11_gusted) 23 = .ok (.aload_n 0, 1) := by decide +kernel
theorem d_X11_gusted_24 : decode (cd mX11_gusted) 24 = .ok (.getfield 35, 3) := by decide +kernel
theorem d_X11_gusted_27 : decode (cd mX11_gusted) 27 = .ok (.iconst 0, 1) := by decide +kernel
theorem d_X11_gusted_28 : decode (cd mX11_gusted) 28 = .ok (.iaload, 1) := by decide +kernel
theorem d_X11_gusted_29 : decode (cd mX11_gusted) 29 = .ok (.bipush 9, 2) := by decide +kernel
theorem d_X11_gusted_31 : decode (cd mX11_gusted) 31 = .ok (.iadd, 1) := by decide +kernel
theorem d_X11_gusted_32 : decode (cd mX11_gusted) 32 = .ok (.ireturn, 1) := by decide +kernel
theorem d_X11_wetIn_0 : decode (cd mX11_wetIn) 0 = .ok (.aload_n 0, 1) := by decide +kernel
theorem d_X11_wetIn_1 : decode (cd mX11_wetIn) 1 = .ok (.invokevirtual 168, 3) := by decide +kernel
theorem d_X11_wetIn_4 : decode (cd mX11_wetIn) 4 = .ok (.aload_n 0, 1) := by decide +kernel
theorem d_X11_wetIn_5 : decode (cd mX11_wetIn) 5 = .ok (.iload_n 1, 1) := by decide +kernel
theorem d_X11_wetIn_6 : decode (cd mX11_wetIn) 6 = .ok (.iload_n 2, 1) := by decide +kernel
theorem d_X11_wetIn_7 : decode (cd mX11_wetIn) 7 = .ok (.invokevirtual 405, 3) := by decide +kernel
theorem d_X11_wetIn_10 : decode (cd mX11_wetIn) 10 = .ok (.istore_n 3, 1) := by decide +kernel
theorem d_X11_wetIn_11 : decode (cd mX11_wetIn) 11 = .ok (.iload_n 3, 1) := by decide +kernel
theorem d_X11_wetIn_12 : decode (cd mX11_wetIn) 12 = .ok (.ifCond .eq 11, 3) := by decide +kernel
theorem d_X11_wetIn_15 : decode (cd mX11_wetIn) 15 = .ok (.aload_n 0, 1) := by decide +kernel
theorem d_X11_wetIn_16 : decode (cd mX11_wetIn) 16 = .ok (.iload_n 3, 1) := by decide +kernel
theorem d_X11_wetIn_17 : decode (cd mX11_wetIn) 17 = .ok (.invokevirtual 171, 3) := by decide +kernel
theorem d_X11_wetIn_20 : decode (cd mX11_wetIn) 20 = .ok (.goto 7, 3) := by decide +kernel
theorem d_X11_wetIn_23 : decode (cd mX11_wetIn) 23 = .ok (.aload_n 0, 1) := by decide +kernel
theorem d_X11_wetIn_24 : decode (cd mX11_wetIn) 24 = .ok (.getfield 401, 3) := by decide +kernel
theorem d_X11_wetIn_27 : decode (cd mX11_wetIn) 27 = .ok (.ireturn, 1) := by decide +kernel
theorem d_X11_note_0 : decode (cd mX11_note) 0 = .ok (.aload_n 0, 1) := by decide +kernel
theorem d_X11_note_1 : decode (cd mX11_note) 1 = .ok (.getfield 188, 3) := by decide +kernel
theorem d_X11_note_4 : decode (cd mX11_note) 4 = .ok (.bipush 16, 2) := by decide +kernel
theorem d_X11_note_6 : decode (cd mX11_note) 6 = .ok (.if_icmp .ne 42, 3) := by decide +kernel
theorem d_X11_note_9 : decode (cd mX11_note) 9 = .ok (.iconst 0, 1) := by decide +kernel
theorem d_X11_note_10 : decode (cd mX11_note) 10 = .ok (.istore_n 1, 1) := by decide +kernel
theorem d_X11_note_11 : decode (cd mX11_note) 11 = .ok (.iload_n 1, 1) := by decide +kernel
theorem d_X11_note_12 : decode (cd mX11_note) 12 = .ok (.bipush 105, 2) := by decide +kernel
theorem d_X11_note_14 : decode (cd mX11_note) 14 = .ok (.if_icmp .ge 24, 3) := by decide +kernel
theorem d_X11_note_17 : decode (cd mX11_note) 17 = .ok (.aload_n 0, 1) := by decide +kernel
theorem d_X11_note_18 : decode (cd mX11_note) 18 = .ok (.getfield 29, 3) := by decide +kernel
theorem d_X11_note_21 : decode (cd mX11_note) 21 = .ok (.iload_n 1, 1) := by decide +kernel
theorem d_X11_note_22 : decode (cd mX11_note) 22 = .ok (.aload_n 0, 1) := by decide +kernel
theorem d_X11_note_23 : decode (cd mX11_note) 23 = .ok (.getfield 29, 3) := by decide +kernel
theorem d_X11_note_26 : decode (cd mX11_note) 26 = .ok (.iload_n 1, 1) := by decide +kernel
theorem d_X11_note_27 : decode (cd mX11_note) 27 = .ok (.bipush 7, 2) := by decide +kernel
theorem d_X11_note_29 : decode (cd mX11_note) 29 = .ok (.iadd, 1) := by decide +kernel
theorem d_X11_note_30 : decode (cd mX11_note) 30 = .ok (.iaload, 1) := by decide +kernel
theorem d_X11_note_31 : decode (cd mX11_note) 31 = .ok (.iastore, 1) := by decide +kernel
theorem d_X11_note_32 : decode (cd mX11_note) 32 = .ok (.iinc 1 1, 3) := by decide +kernel
theorem d_X11_note_35 : decode (cd mX11_note) 35 = .ok (.goto (-24), 3) := by decide +kernel
theorem d_X11_note_38 : decode (cd mX11_note) 38 = .ok (.aload_n 0, 1) := by decide +kernel
theorem d_X11_note_39 : decode (cd mX11_note) 39 = .ok (.dup, 1) := by decide +kernel
theorem d_X11_note_40 : decode (cd mX11_note) 40 = .ok (.getfield 188, 3) := by decide +kernel
theorem d_X11_note_43 : decode (cd mX11_note) 43 = .ok (.iconst 1, 1) := by decide +kernel
theorem d_X11_note_44 : decode (cd mX11_note) 44 = .ok (.isub, 1) := by decide +kernel
theorem d_X11_note_45 : decode (cd mX11_note) 45 = .ok (.putfield 188, 3) := by decide +kernel
theorem d_X11_note_48 : decode (cd mX11_note) 48 = .ok (.aload_n 0, 1) := by decide +kernel
theorem d_X11_note_49 : decode (cd mX11_note) 49 = .ok (.getfield 26, 3) := by decide +kernel
theorem d_X11_note_52 : decode (cd mX11_note) 52 = .ok (.iconst 0, 1) := by decide +kernel
theorem d_X11_note_53 : decode (cd mX11_note) 53 = .ok (.aload_n 0, 1) := by decide +kernel
theorem d_X11_note_54 : decode (cd mX11_note) 54 = .ok (.getfield 29, 3) := by decide +kernel
theorem d_X11_note_57 : decode (cd mX11_note) 57 = .ok (.bipush 7, 2) := by decide +kernel
theorem d_X11_note_59 : decode (cd mX11_note) 59 = .ok (.aload_n 0, 1) := by decide +kernel
theorem d_X11_note_60 : decode (cd mX11_note) 60 = .ok (.getfield 188, 3) := by decide +kernel
theorem d_X11_note_63 : decode (cd mX11_note) 63 = .ok (.imul, 1) := by decide +kernel
theorem d_X11_note_64 : decode (cd mX11_note) 64 = .ok (.bipush 7, 2) := by decide +kernel
theorem d_X11_note_66 : decode (cd mX11_note) 66 = .ok (.invokestatic 177, 3) := by decide +kernel
theorem d_X11_note_69 : decode (cd mX11_note) 69 = .ok (.aload_n 0, 1) := by decide +kernel
theorem d_X11_note_70 : decode (cd mX11_note) 70 = .ok (.dup, 1) := by decide +kernel
theorem d_X11_note_71 : decode (cd mX11_note) 71 = .ok (.getfield 188, 3) := by decide +kernel
theorem d_X11_note_74 : decode (cd mX11_note) 74 = .ok (.iconst 1, 1) := by decide +kernel
theorem d_X11_note_75 : decode (cd mX11_note) 75 = .ok (.iadd, 1) := by decide +kernel
theorem d_X11_note_76 : decode (cd mX11_note) 76 = .ok (.putfield 188, 3) := by decide +kernel
theorem d_X11_note_79 : decode (cd mX11_note) 79 = .ok (.return_, 1) := by decide +kernel
theorem d_X11_open_0 : decode (cd mX11_open) 0 = .ok (.aload_n 0, 1) := by decide +kernel
theorem d_X11_open_1 : decode (cd mX11_open) 1 = .ok (.invokevirtual 168, 3) := by decide +kernel
theorem d_X11_open_4 : decode (cd mX11_open) 4 = .ok (.aload_n 0, 1) := by decide +kernel
theorem d_X11_open_5 : decode (cd mX11_open) 5 = .ok (.iload_n 1, 1) := by decide +kernel
theorem d_X11_open_6 : decode (cd mX11_open) 6 = .ok (.invokevirtual 292, 3) := by decide +kernel
theorem d_X11_open_9 : decode (cd mX11_open) 9 = .ok (.ifCond .ne 9, 3) := by decide +kernel
theorem d_X11_open_12 : decode (cd mX11_open) 12 = .ok (.aload_n 0, 1) := by decide +kernel
theorem d_X11_open_13 : decode (cd mX11_open) 13 = .ok (.iconst 1, 1) := by decide +kernel
theorem d_X11_open_14 : decode (cd mX11_open) 14 = .ok (.invokevirtual 408, 3) := by decide +kernel
theorem d_X11_open_17 : decode (cd mX11_open) 17 = .ok (.ireturn, 1) := by decide +kernel
theorem d_X11_open_18 : decode (cd mX11_open) 18 = .ok (.aload_n 0, 1) := by decide +kernel
theorem d_X11_open_19 : decode (cd mX11_open) 19 = .ok (.getfield 26, 3) := by decide +kernel
theorem d_X11_open_22 : decode (cd mX11_open) 22 = .ok (.iconst 3, 1) := by decide +kernel
theorem d_X11_open_23 : decode (cd mX11_open) 23 = .ok (.iaload, 1) := by decide +kernel
theorem d_X11_open_24 : decode (cd mX11_open) 24 = .ok (.iload_n 1, 1) := by decide +kernel
theorem d_X11_open_25 : decode (cd mX11_open) 25 = .ok (.invokestatic 261, 3) := by decide +kernel
theorem d_X11_open_28 : decode (cd mX11_open) 28 = .ok (.ifCond .eq 9, 3) := by decide +kernel
theorem d_X11_open_31 : decode (cd mX11_open) 31 = .ok (.aload_n 0, 1) := by decide +kernel
theorem d_X11_open_32 : decode (cd mX11_open) 32 = .ok (.iconst 5, 1) := by decide +kernel
theorem d_X11_open_33 : decode (cd mX11_open) 33 = .ok (.invokevirtual 408, 3) := by decide +kernel
theorem d_X11_open_36 : decode (cd mX11_open) 36 = .ok (.ireturn, 1) := by decide +kernel
theorem d_X11_open_37 : decode (cd mX11_open) 37 = .ok (.aload_n 0, 1) := by decide +kernel
theorem d_X11_open_38 : decode (cd mX11_open) 38 = .ok (.invokevirtual 411, 3) := by decide +kernel
theorem d_X11_open_41 : decode (cd mX11_open) 41 = .ok (.aload_n 0, 1) := by decide +kernel
theorem d_X11_open_42 : decode (cd mX11_open) 42 = .ok (.getfield 26, 3) := by decide +kernel
theorem d_X11_open_45 : decode (cd mX11_open) 45 = .ok (.iconst 3, 1) := by decide +kernel
theorem d_X11_open_46 : decode (cd mX11_open) 46 = .ok (.dup2, 1) := by decide +kernel
theorem d_X11_open_47 : decode (cd mX11_open) 47 = .ok (.iaload, 1) := by decide +kernel
theorem d_X11_open_48 : decode (cd mX11_open) 48 = .ok (.iconst 1, 1) := by decide +kernel
theorem d_X11_open_49 : decode (cd mX11_open) 49 = .ok (.iload_n 1, 1) := by decide +kernel
theorem d_X11_open_50 : decode (cd mX11_open) 50 = .ok (.ishl, 1) := by decide +kernel
theorem d_X11_open_51 : decode (cd mX11_open) 51 = .ok (.ior, 1) := by decide +kernel
theorem d_X11_open_52 : decode (cd mX11_open) 52 = .ok (.iastore, 1) := by decide +kernel
theorem d_X11_open_53 : decode (cd mX11_open) 53 = .ok (.iconst 1, 1) := by decide +kernel
theorem d_X11_open_54 : decode (cd mX11_open) 54 = .ok (.ireturn, 1) := by decide +kernel
theorem d_X11_oil_0 : decode (cd mX11_oil) 0 = .ok (.aload_n 0, 1) := by decide +kernel
theorem d_X11_oil_1 : decode (cd mX11_oil) 1 = .ok (.invokevirtual 168, 3) := by decide +kernel
theorem d_X11_oil_4 : decode (cd mX11_oil) 4 = .ok (.aload_n 0, 1) := by decide +kernel
theorem d_X11_oil_5 : decode (cd mX11_oil) 5 = .ok (.getfield 185, 3) := by decide +kernel
theorem d_X11_oil_8 : decode (cd mX11_oil) 8 = .ok (.ifCond .ne 9, 3) := by decide +kernel
theorem d_X11_oil_11 : decode (cd mX11_oil) 11 = .ok (.aload_n 0, 1) := by decide +kernel
theorem d_X11_oil_12 : decode (cd mX11_oil) 12 = .ok (.iconst 1, 1) := by decide +kernel
theorem d_X11_oil_13 : decode (cd mX11_oil) 13 = .ok (.invokevirtual 171, 3) := by decide +kernel
theorem d_X11_oil_16 : decode (cd mX11_oil) 16 = .ok (.ireturn, 1) := by decide +kernel
theorem d_X11_oil_17 : decode (cd mX11_oil) 17 = .ok (.aload_n 0, 1) := by decide +kernel
theorem d_X11_oil_18 : decode (cd mX11_oil) 18 = .ok (.getfield 26, 3) := by decide +kernel
theorem d_X11_oil_21 : decode (cd mX11_oil) 21 = .ok (.iconst 2, 1) := by decide +kernel
theorem d_X11_oil_22 : decode (cd mX11_oil) 22 = .ok (.iaload, 1) := by decide +kernel
theorem d_X11_oil_23 : decode (cd mX11_oil) 23 = .ok (.iconst 3, 1) := by decide +kernel
theorem d_X11_oil_24 : decode (cd mX11_oil) 24 = .ok (.if_icmp .ne 9, 3) := by decide +kernel
theorem d_X11_oil_27 : decode (cd mX11_oil) 27 = .ok (.aload_n 0, 1) := by decide +kernel
theorem d_X11_oil_28 : decode (cd mX11_oil) 28 = .ok (.iconst 5, 1) := by decide +kernel
theorem d_X11_oil_29 : decode (cd mX11_oil) 29 = .ok (.invokevirtual 171, 3) := by decide +kernel
theorem d_X11_oil_32 : decode (cd mX11_oil) 32 = .ok (.ireturn, 1) := by decide +kernel
theorem d_X11_oil_33 : decode (cd mX11_oil) 33 = .ok (.aload_n 0, 1) := by decide +kernel
theorem d_X11_oil_34 : decode (cd mX11_oil) 34 = .ok (.invokevirtual 411, 3) := by decide +kernel
theorem d_X11_oil_37 : decode (cd mX11_oil) 37 = .ok (.aload_n 0, 1) := by decide +kernel
theorem d_X11_oil_38 : decode (cd mX11_oil) 38 = .ok (.getfield 26, 3) := by decide +kernel
theorem d_X11_oil_41 : decode (cd mX11_oil) 41 = .ok (.iconst 2, 1) := by decide +kernel
theorem d_X11_oil_42 : decode (cd mX11_oil) 42 = .ok (.dup2, 1) := by decide +kernel
theorem d_X11_oil_43 : decode (cd mX11_oil) 43 = .ok (.iaload, 1) := by decide +kernel
theorem d_X11_oil_44 : decode (cd mX11_oil) 44 = .ok (.iconst 1, 1) := by decide +kernel
theorem d_X11_oil_45 : decode (cd mX11_oil) 45 = .ok (.iadd, 1) := by decide +kernel
theorem d_X11_oil_46 : decode (cd mX11_oil) 46 = .ok (.iastore, 1) := by decide +kernel
theorem d_X11_oil_47 : decode (cd mX11_oil) 47 = .ok (.aload_n 0, 1) := by decide +kernel
theorem d_X11_oil_48 : decode (cd mX11_oil) 48 = .ok (.getfield 26, 3) := by decide +kernel
theorem d_X11_oil_51 : decode (cd mX11_oil) 51 = .ok (.iconst 2, 1) := by decide +kernel
theorem d_X11_oil_52 : decode (cd mX11_oil) 52 = .ok (.iaload, 1) := by decide +kernel
theorem d_X11_oil_53 : decode (cd mX11_oil) 53 = .ok (.ireturn, 1) := by decide +kernel
theorem d_X11_day_0 : decode (cd mX11_day) 0 = .ok (.aload_n 0, 1) := by decide +kernel
theorem d_X11_day_1 : decode (cd mX11_day) 1 = .ok (.invokevirtual 168, 3) := by decide +kernel
theorem d_X11_day_4 : decode (cd mX11_day) 4 = .ok (.aload_n 0, 1) := by decide +kernel
theorem d_X11_day_5 : decode (cd mX11_day) 5 = .ok (.getfield 185, 3) := by decide +kernel
theorem d_X11_day_8 : decode (cd mX11_day) 8 = .ok (.ifCond .ne 9, 3) := by decide +kernel
theorem d_X11_day_11 : decode (cd mX11_day) 11 = .ok (.aload_n 0, 1) := by decide +kernel
theorem d_X11_day_12 : decode (cd mX11_day) 12 = .ok (.iconst 1, 1) := by decide +kernel
theorem d_X11_day_13 : decode (cd mX11_day) 13 = .ok (.invokevirtual 171, 3) := by decide +kernel
theorem d_X11_day_16 : decode (cd mX11_day) 16 = .ok (.ireturn, 1) := by decide +kernel
theorem d_X11_day_17 : decode (cd mX11_day) 17 = .ok (.aload_n 0, 1) := by decide +kernel
theorem d_X11_day_18 : decode (cd mX11_day) 18 = .ok (.getfield 26, 3) := by decide +kernel
theorem d_X11_day_21 : decode (cd mX11_day) 21 = .ok (.iconst 4, 1) := by decide +kernel
theorem d_X11_day_22 : decode (cd mX11_day) 22 = .ok (.iaload, 1) := by decide +kernel
theorem d_X11_day_23 : decode (cd mX11_day) 23 = .ok (.sipush 999, 3) := by decide +kernel
theorem d_X11_day_26 : decode (cd mX11_day) 26 = .ok (.if_icmp .ne 9, 3) := by decide +kernel
theorem d_X11_day_29 : decode (cd mX11_day) 29 = .ok (.aload_n 0, 1) := by decide +kernel
theorem d_X11_day_30 : decode (cd mX11_day) 30 = .ok (.iconst 3, 1) := by decide +kernel
theorem d_X11_day_31 : decode (cd mX11_day) 31 = .ok (.invokevirtual 171, 3) := by decide +kernel
theorem d_X11_day_34 : decode (cd mX11_day) 34 = .ok (.ireturn, 1) := by decide +kernel
theorem d_X11_day_35 : decode (cd mX11_day) 35 = .ok (.aload_n 0, 1) := by decide +kernel
theorem d_X11_day_36 : decode (cd mX11_day) 36 = .ok (.invokevirtual 411, 3) := by decide +kernel
theorem d_X11_day_39 : decode (cd mX11_day) 39 = .ok (.aload_n 0, 1) := by decide +kernel
theorem d_X11_day_40 : decode (cd mX11_day) 40 = .ok (.aload_n 0, 1) := by decide +kernel
theorem d_X11_day_41 : decode (cd mX11_day) 41 = .ok (.getfield 26, 3) := by decide +kernel
theorem d_X11_day_44 : decode (cd mX11_day) 44 = .ok (.invokevirtual 288, 3) := by decide +kernel
theorem d_X11_day_47 : decode (cd mX11_day) 47 = .ok (.aload_n 0, 1) := by decide +kernel
theorem d_X11_day_48 : decode (cd mX11_day) 48 = .ok (.getfield 26, 3) := by decide +kernel
theorem d_X11_day_51 : decode (cd mX11_day) 51 = .ok (.iconst 5, 1) := by decide +kernel
theorem d_X11_day_52 : decode (cd mX11_day) 52 = .ok (.iaload, 1) := by decide +kernel
theorem d_X11_day_53 : decode (cd mX11_day) 53 = .ok (.ireturn, 1) := by decide +kernel
theorem d_X11_undo_0 : decode (cd mX11_undo) 0 = .ok (.aload_n 0, 1) := by decide +kernel
theorem d_X11_undo_1 : decode (cd mX11_undo) 1 = .ok (.invokevirtual 168, 3) := by decide +kernel
theorem d_X11_undo_4 : decode (cd mX11_undo) 4 = .ok (.aload_n 0, 1) := by decide +kernel
theorem d_X11_undo_5 : decode (cd mX11_undo) 5 = .ok (.getfield 188, 3) := by decide +kernel
theorem d_X11_undo_8 : decode (cd mX11_undo) 8 = .ok (.ifCond .ne 10, 3) := by decide +kernel
theorem d_X11_undo_11 : decode (cd mX11_undo) 11 = .ok (.aload_n 0, 1) := by decide +kernel
theorem d_X11_undo_12 : decode (cd mX11_undo) 12 = .ok (.bipush 6, 2) := by decide +kernel
theorem d_X11_undo_14 : decode (cd mX11_undo) 14 = .ok (.invokevirtual 408, 3) := by decide +kernel
theorem d_X11_undo_17 : decode (cd mX11_undo) 17 = .ok (.ireturn, 1) := by decide +kernel
theorem d_X11_undo_18 : decode (cd mX11_undo) 18 = .ok (.aload_n 0, 1) := by decide +kernel
theorem d_X11_undo_19 : decode (cd mX11_undo) 19 = .ok (.dup, 1) := by decide +kernel
theorem d_X11_undo_20 : decode (cd mX11_undo) 20 = .ok (.getfield 188, 3) := by decide +kernel
theorem d_X11_undo_23 : decode (cd mX11_undo) 23 = .ok (.iconst 1, 1) := by decide +kernel
theorem d_X11_undo_24 : decode (cd mX11_undo) 24 = .ok (.isub, 1) := by decide +kernel
theorem d_X11_undo_25 : decode (cd mX11_undo) 25 = .ok (.putfield 188, 3) := by decide +kernel
theorem d_X11_undo_28 : decode (cd mX11_undo) 28 = .ok (.aload_n 0, 1) := by decide +kernel
theorem d_X11_undo_29 : decode (cd mX11_undo) 29 = .ok (.getfield 29, 3) := by decide +kernel
theorem d_X11_undo_32 : decode (cd mX11_undo) 32 = .ok (.bipush 7, 2) := by decide +kernel
theorem d_X11_undo_34 : decode (cd mX11_undo) 34 = .ok (.aload_n 0, 1) := by decide +kernel
theorem d_X11_undo_35 : decode (cd mX11_undo) 35 = .ok (.getfield 188, 3) := by decide +kernel
theorem d_X11_undo_38 : decode (cd mX11_undo) 38 = .ok (.imul, 1) := by decide +kernel
theorem d_X11_undo_39 : decode (cd mX11_undo) 39 = .ok (.aload_n 0, 1) := by decide +kernel
theorem d_X11_undo_40 : decode (cd mX11_undo) 40 = .ok (.getfield 26, 3) := by decide +kernel
theorem d_X11_undo_43 : decode (cd mX11_undo) 43 = .ok (.iconst 0, 1) := by decide +kernel
theorem d_X11_undo_44 : decode (cd mX11_undo) 44 = .ok (.bipush 7, 2) := by decide +kernel
theorem d_X11_undo_46 : decode (cd mX11_undo) 46 = .ok (.invokestatic 177, 3) := by decide +kernel
theorem d_X11_undo_49 : decode (cd mX11_undo) 49 = .ok (.iconst 1, 1) := by decide +kernel
theorem d_X11_undo_50 : decode (cd mX11_undo) 50 = .ok (.ireturn, 1) := by decide +kernel
theorem d_X11_image_0 : decode (cd mX11_image) 0 = .ok (.aload_n 0, 1) := by decide +kernel
theorem d_X11_image_1 : decode (cd mX11_image) 1 = .ok (.invokevirtual 168, 3) := by decide +kernel
theorem d_X11_image_4 : decode (cd mX11_image) 4 = .ok (.aload_n 0, 1) := by decide +kernel
theorem d_X11_image_5 : decode (cd mX11_image) 5 = .ok (.getfield 185, 3) := by decide +kernel
theorem d_X11_image_8 : decode (cd mX11_image) 8 = .ok (.ifCond .ne 9, 3) := by decide +kernel
theorem d_X11_image_11 : decode (cd mX11_image) 11 = .ok (.aload_n 0, 1) := by decide +kernel
theorem d_X11_image_12 : decode (cd mX11_image) 12 = .ok (.iconst 1, 1) := by decide +kernel
theorem d_X11_image_13 : decode (cd mX11_image) 13 = .ok (.invokevirtual 171, 3) := by decide +kernel
theorem d_X11_image_16 : decode (cd mX11_image) 16 = .ok (.ireturn, 1) := by decide +kernel
theorem d_X11_image_17 : decode (cd mX11_image) 17 = .ok (.aload_n 0, 1) := by decide +kernel
theorem d_X11_image_18 : decode (cd mX11_image) 18 = .ok (.getfield 191, 3) := by decide +kernel
theorem d_X11_image_21 : decode (cd mX11_image) 21 = .ok (.iconst 3, 1) := by decide +kernel
theorem d_X11_image_22 : decode (cd mX11_image) 22 = .ok (.if_icmp .ne 9, 3) := by decide +kernel
theorem d_X11_image_25 : decode (cd mX11_image) 25 = .ok (.aload_n 0, 1) := by decide +kernel
theorem d_X11_image_26 : decode (cd mX11_image) 26 = .ok (.iconst 3, 1) := by decide +kernel
theorem d_X11_image_27 : decode (cd mX11_image) 27 = .ok (.invokevirtual 171, 3) := by decide +kernel
theorem d_X11_image_30 : decode (cd mX11_image) 30 = .ok (.ireturn, 1) := by decide +kernel
theorem d_X11_image_31 : decode (cd mX11_image) 31 = .ok (.aload_n 0, 1) := by decide +kernel
theorem d_X11_image_32 : decode (cd mX11_image) 32 = .ok (.getfield 26, 3) := by decide +kernel
theorem d_X11_image_35 : decode (cd mX11_image) 35 = .ok (.iconst 0, 1) := by decide +kernel
theorem d_X11_image_36 : decode (cd mX11_image) 36 = .ok (.aload_n 0, 1) := by decide +kernel
theorem d_X11_image_37 : decode (cd mX11_image) 37 = .ok (.getfield 32, 3) := by decide +kernel
theorem d_X11_image_40 : decode (cd mX11_image) 40 = .ok (.bipush 7, 2) := by decide +kernel
theorem d_X11_image_42 : decode (cd mX11_image) 42 = .ok (.aload_n 0, 1) := by decide +kernel
theorem d_X11_image_43 : decode (cd mX11_image) 43 = .ok (.getfield 191, 3) := by decide +kernel
theorem d_X11_image_46 : decode (cd mX11_image) 46 = .ok (.imul, 1) := by decide +kernel
theorem d_X11_image_47 : decode (cd mX11_image) 47 = .ok (.bipush 7, 2) := by decide +kernel
theorem d_X11_image_49 : decode (cd mX11_image) 49 = .ok (.invokestatic 177, 3) := by decide +kernel
theorem d_X11_image_52 : decode (cd mX11_image) 52 = .ok (.aload_n 0, 1) := by decide +kernel
theorem d_X11_image_53 : decode (cd mX11_image) 53 = .ok (.dup, 1) := by decide +kernel
theorem d_X11_image_54 : decode (cd mX11_image) 54 = .ok (.getfield 191, 3) := by decide +kernel
theorem d_X11_image_57 : decode (cd mX11_image) 57 = .ok (.iconst 1, 1) := by decide +kernel
theorem d_X11_image_58 : decode (cd mX11_image) 58 = .ok (.iadd, 1) := by decide +kernel
theorem d_X11_image_59 : decode (cd mX11_image) 59 = .ok (.putfield 191, 3) := by decide +kernel
theorem d_X11_image_62 : decode (cd mX11_image) 62 = .ok (.aload_n 0, 1) := by decide +kernel
theorem d_X11_image_63 : decode (cd mX11_image) 63 = .ok (.getfield 191, 3) := by decide +kernel
theorem d_X11_image_66 : decode (cd mX11_image) 66 = .ok (.iconst 1, 1) := by decide +kernel
theorem d_X11_image_67 : decode (cd mX11_image) 67 = .ok (.isub, 1) := by decide +kernel
theorem d_X11_image_68 : decode (cd mX11_image) 68 = .ok (.ireturn, 1) := by decide +kernel
theorem d_X11_back_0 : decode (cd mX11_back) 0 = .ok (.aload_n 0, 1) := by decide +kernel
theorem d_X11_back_1 : decode (cd mX11_back) 1 = .ok (.invokevirtual 168, 3) := by decide +kernel
theorem d_X11_back_4 : decode (cd mX11_back) 4 = .ok (.iload_n 1, 1) := by decide +kernel
theorem d_X11_back_5 : decode (cd mX11_back) 5 = .ok (.iconst 0, 1) := by decide +kernel
theorem d_X11_back_6 : decode (cd mX11_back) 6 = .ok (.aload_n 0, 1) := by decide +kernel
theorem d_X11_back_7 : decode (cd mX11_back) 7 = .ok (.getfield 191, 3) := by decide +kernel
theorem d_X11_back_10 : decode (cd mX11_back) 10 = .ok (.iconst 1, 1) := by decide +kernel
theorem d_X11_back_11 : decode (cd mX11_back) 11 = .ok (.isub, 1) := by decide +kernel
theorem d_X11_back_12 : decode (cd mX11_back) 12 = .ok (.invokestatic 149, 3) := by decide +kernel
theorem d_X11_back_15 : decode (cd mX11_back) 15 = .ok (.ifCond .ne 9, 3) := by decide +kernel
theorem d_X11_back_18 : decode (cd mX11_back) 18 = .ok (.aload_n 0, 1) := by decide +kernel
theorem d_X11_back_19 : decode (cd mX11_back) 19 = .ok (.iconst 1, 1) := by decide +kernel
theorem d_X11_back_20 : decode (cd mX11_back) 20 = .ok (.invokevirtual 408, 3) := by decide +kernel
theorem d_X11_back_23 : decode (cd mX11_back) 23 = .ok (.ireturn, 1) := by decide +kernel
theorem d_X11_back_24 : decode (cd mX11_back) 24 = .ok (.aload_n 0, 1) := by decide +kernel
theorem d_X11_back_25 : decode (cd mX11_back) 25 = .ok (.getfield 32, 3) := by decide +kernel
theorem d_X11_back_28 : decode (cd mX11_back) 28 = .ok (.bipush 7, 2) := by decide +kernel
theorem d_X11_back_30 : decode (cd mX11_back) 30 = .ok (.iload_n 1, 1) := by decide +kernel
theorem d_X11_back_31 : decode (cd mX11_back) 31 = .ok (.imul, 1) := by decide +kernel
theorem d_X11_back_32 : decode (cd mX11_back) 32 = .ok (.aload_n 0, 1) := by decide +kernel
theorem d_X11_back_33 : decode (cd mX11_back) 33 = .ok (.getfield 26, 3) := by decide +kernel
theorem d_X11_back_36 : decode (cd mX11_back) 36 = .ok (.iconst 0, 1) := by decide +kernel
theorem d_X11_back_37 : decode (cd mX11_back) 37 = .ok (.bipush 7, 2) := by decide +kernel
theorem d_X11_back_39 : decode (cd mX11_back) 39 = .ok (.invokestatic 177, 3) := by decide +kernel
theorem d_X11_back_42 : decode (cd mX11_back) 42 = .ok (.aload_n 0, 1) := by decide +kernel
theorem d_X11_back_43 : decode (cd mX11_back) 43 = .ok (.iconst 0, 1) := by decide +kernel
theorem d_X11_back_44 : decode (cd mX11_back) 44 = .ok (.putfield 188, 3) := by decide +kernel
theorem d_X11_back_47 : decode (cd mX11_back) 47 = .ok (.iconst 1, 1) := by decide +kernel
theorem d_X11_back_48 : decode (cd mX11_back) 48 = .ok (.ireturn, 1) := by decide +kernel
theorem d_X11_led_0 : decode (cd mX11_led) 0 = .ok (.iconst 0, 1) := by decide +kernel
theorem d_X11_led_1 : decode (cd mX11_led) 1 = .ok (.istore_n 2, 1) := by decide +kernel
theorem d_X11_led_2 : decode (cd mX11_led) 2 = .ok (.iconst 0, 1) := by decide +kernel
theorem d_X11_led_3 : decode (cd mX11_led) 3 = .ok (.istore_n 3, 1) := by decide +kernel
theorem d_X11_led_4 : decode (cd mX11_led) 4 = .ok (.aload_n 0, 1) := by decide +kernel
theorem d_X11_led_5 : decode (cd mX11_led) 5 = .ok (.getfield 185, 3) := by decide +kernel
theorem d_X11_led_8 : decode (cd mX11_led) 8 = .ok (.ifCond .eq 72, 3) := by decide +kernel
theorem d_X11_led_11 : decode (cd mX11_led) 11 = .ok (.iload_n 3, 1) := by decide +kernel
theorem d_X11_led_12 : decode (cd mX11_led) 12 = .ok (.aload_n 0, 1) := by decide +kernel
theorem d_X11_led_13 : decode (cd mX11_led) 13 = .ok (.getfield 20, 3) := by decide +kernel
theorem d_X11_led_16 : decode (cd mX11_led) 16 = .ok (.bipush 6, 2) := by decide +kernel
theorem d_X11_led_18 : decode (cd mX11_led) 18 = .ok (.iaload, 1) := by decide +kernel
theorem d_X11_led_19 : decode (cd mX11_led) 19 = .ok (.if_icmp .ge 61, 3) := by decide +kernel
theorem d_X11_led_22 : decode (cd mX11_led) 22 = .ok (.aload_n 0, 1) := by decide +kernel
theorem d_X11_led_23 : decode (cd mX11_led) 23 = .ok (.getfield 20, 3) := by decide +kernel
theorem d_X11_led_26 : decode (cd mX11_led) 26 = .ok (.bipush 25, 2) := by decide +kernel
theorem d_X11_led_28 : decode (cd mX11_led) 28 = .ok (.iconst 3, 1) := by decide +kernel
theorem d_X11_led_29 : decode (cd mX11_led) 29 = .ok (.iload_n 3, 1) := by decide +kernel
theorem d_X11_led_30 : decode (cd mX11_led) 30 = .ok (.imul, 1) := by decide +kernel
theorem d_X11_led_31 : decode (cd mX11_led) 31 = .ok (.iadd, 1) := by decide +kernel
theorem d_X11_led_32 : decode (cd mX11_led) 32 = .ok (.iaload, 1) := by decide +kernel
theorem d_X11_led_33 : decode (cd mX11_led) 33 = .ok (.aload_n 0, 1) := by decide +kernel
theorem d_X11_led_34 : decode (cd mX11_led) 34 = .ok (.getfield 26, 3) := by decide +kernel
theorem d_X11_led_37 : decode (cd mX11_led) 37 = .ok (.iconst 4, 1) := by decide +kernel
theorem d_X11_led_38 : decode (cd mX11_led) 38 = .ok (.iaload, 1) := by decide +kernel
theorem d_X11_led_39 : decode (cd mX11_led) 39 = .ok (.if_icmp .ge 35, 3) := by decide +kernel
theorem d_X11_led_42 : decode (cd mX11_led) 42 = .ok (.aload_n 0, 1) := by decide +kernel
theorem d_X11_led_43 : decode (cd mX11_led) 43 = .ok (.getfield 26, 3) := by decide +kernel
theorem d_X11_led_46 : decode (cd mX11_led) 46 = .ok (.bipush 6, 2) := by decide +kernel
theorem d_X11_led_48 : decode (cd mX11_led) 48 = .ok (.iaload, 1) := by decide +kernel
theorem d_X11_led_49 : decode (cd mX11_led) 49 = .ok (.iload_n 3, 1) := by decide +kernel
theorem d_X11_led_50 : decode (cd mX11_led) 50 = .ok (.invokestatic 261, 3) := by decide +kernel
theorem d_X11_led_53 : decode (cd mX11_led) 53 = .ok (.ifCond .ne 6, 3) := by decide +kernel
theorem d_X11_led_56 : decode (cd mX11_led) 56 = .ok (.goto 18, 3) := by decide +kernel
theorem d_X11_led_59 : decode (cd mX11_led) 59 = .ok (.iload_n 2, 1) := by decide +kernel
theorem d_X11_led_60 : decode (cd mX11_led) 60 = .ok (.iload_n 1, 1) := by decide +kernel
theorem d_X11_led_61 : decode (cd mX11_led) 61 = .ok (.if_icmp .ne 10, 3) := by decide +kernel
theorem d_X11_led_64 : decode (cd mX11_led) 64 = .ok (.aload_n 0, 1) := by decide +kernel
theorem d_X11_led_65 : decode (cd mX11_led) 65 = .ok (.iconst 0, 1) := by decide +kernel
theorem d_X11_led_66 : decode (cd mX11_led) 66 = .ok (.putfield 60, 3) := by decide +kernel
theorem d_X11_led_69 : decode (cd mX11_led) 69 = .ok (.iload_n 3, 1) := by decide +kernel
theorem d_X11_led_70 : decode (cd mX11_led) 70 = .ok (.ireturn, 1) := by decide +kernel
theorem d_X11_led_71 : decode (cd mX11_led) 71 = .ok (.iinc 2 1, 3) := by decide +kernel
theorem d_X11_led_74 : decode (cd mX11_led) 74 = .ok (.iinc 3 1, 3) := by decide +kernel
theorem d_X11_led_77 : decode (cd mX11_led) 77 = .ok (.goto (-73), 3) := by decide +kernel
theorem d_X11_led_80 : decode (cd mX11_led) 80 = .ok (.aload_n 0, 1) := by decide +kernel
theorem d_X11_led_81 : decode (cd mX11_led) 81 = .ok (.iconst 1, 1) := by decide +kernel
theorem d_X11_led_82 : decode (cd mX11_led) 82 = .ok (.putfield 60, 3) := by decide +kernel
theorem d_X11_led_85 : decode (cd mX11_led) 85 = .ok (.iconst 0, 1) := by decide +kernel
theorem d_X11_led_86 : decode (cd mX11_led) 86 = .ok (.ireturn, 1) := by decide +kernel
theorem d_X11_size_0 : decode (cd mX11_size) 0 = .ok (.aload_n 0, 1) := by decide +kernel
theorem d_X11_size_1 : decode (cd mX11_size) 1 = .ok (.iconst 0, 1) := by decide +kernel
theorem d_X11_size_2 : decode (cd mX11_size) 2 = .ok (.putfield 60, 3) := by decide +kernel
theorem d_X11_size_5 : decode (cd mX11_size) 5 = .ok (.iload_n 1, 1) := by decide +kernel
theorem d_X11_size_6 : decode (cd mX11_size) 6 = .ok (.bipush 13, 2) := by decide +kernel
theorem d_X11_size_8 : decode (cd mX11_size) 8 = .ok (.if_icmp .ne 8, 3) := by decide +kernel
theorem d_X11_size_11 : decode (cd mX11_size) 11 = .ok (.aload_n 0, 1) := by decide +kernel
theorem d_X11_size_12 : decode (cd mX11_size) 12 = .ok (.getfield 66, 3) := by decide +kernel
theorem d_X11_size_15 : decode (cd mX11_size) 15 = .ok (.ireturn, 1) := by decide +kernel
theorem d_X11_size_16 : decode (cd mX11_size) 16 = .ok (.aload_n 0, 1) := by decide +kernel
theorem d_X11_size_17 : decode (cd mX11_size) 17 = .ok (.getfield 185, 3) := by decide +kernel
theorem d_X11_size_20 : decode (cd mX11_size) 20 = .ok (.ifCond .ne 19, 3) := by decide +kernel
theorem d_X11_size_23 : decode (cd mX11_size) 23 = .ok (.iload_n 1, 1) := by decide +kernel
theorem d_X11_size_24 : decode (cd mX11_size) 24 = .ok (.iconst 0, 1) := by decide +kernel
theorem d_X11_size_25 : decode (cd mX11_size) 25 = .ok (.bipush 12, 2) := by decide +kernel
theorem d_X11_size_27 : decode (cd mX11_size) 27 = .ok (.invokestatic 149, 3) := by decide +kernel
theorem d_X11_size_30 : decode (cd mX11_size) 30 = .ok (.ifCond .eq 7, 3) := by decide +kernel
theorem d_X11_size_33 : decode (cd mX11_size) 33 = .ok (.iconst 0, 1) := by decide +kernel
theorem d_X11_size_34 : decode (cd mX11_size) 34 = .ok (.goto 4, 3) := by decide +kernel
theorem d_X11_size_37 : decode (cd mX11_size) 37 = .ok (.iconst (-1), 1) := by decide +kernel
theorem d_X11_size_38 : decode (cd mX11_size) 38 = .ok (.ireturn, 1) := by decide +kernel
theorem d_X11_size_39 : decode (cd mX11_size) 39 = .ok (.iload_n 1, 1) := by decide +kernel
theorem d_X11_size_40 : decode (cd mX11_size) 40 = .ok (.iconst 0, 1) := by decide +kernel
theorem d_X11_size_41 : decode (cd mX11_size) 41 = .ok (.bipush 9, 2) := by decide +kernel
theorem d_X11_size_43 : decode (cd mX11_size) 43 = .ok (.invokestatic 149, 3) := by decide +kernel
theorem d_X11_size_46 : decode (cd mX11_size) 46 = .ok (.ifCond .eq 10, 3) := by decide +kernel
theorem d_X11_size_49 : decode (cd mX11_size) 49 = .ok (.aload_n 0, 1) := by decide +kernel
theorem d_X11_size_50 : decode (cd mX11_size) 50 = .ok (.getfield 20, 3) := by decide +kernel
theorem d_X11_size_53 : decode (cd mX11_size) 53 = .ok (.iload_n 1, 1) := by decide +kernel
theorem d_X11_size_54 : decode (cd mX11_size) 54 = .ok (.iaload, 1) := by decide +kernel
theorem d_X11_size_55 : decode (cd mX11_size) 55 = .ok (.ireturn, 1) := by decide +kernel
theorem d_X11_size_56 : decode (cd mX11_size) 56 = .ok (.iload_n 1, 1) := by decide +kernel
theorem d_X11_size_57 : decode (cd mX11_size) 57 = .ok (.bipush 10, 2) := by decide +kernel
theorem d_X11_size_59 : decode (cd mX11_size) 59 = .ok (.if_icmp .ne 12, 3) := by decide +kernel
theorem d_X11_size_62 : decode (cd mX11_size) 62 = .ok (.aload_n 0, 1) := by decide +kernel
theorem d_X11_size_63 : decode (cd mX11_size) 63 = .ok (.getfield 26, 3) := by decide +kernel
theorem d_X11_size_66 : decode (cd mX11_size) 66 = .ok (.iconst 4, 1) := by decide +kernel
theorem d_X11_size_67 : decode (cd mX11_size) 67 = .ok (.iaload, 1) := by decide +kernel
theorem d_X11_size_68 : decode (cd mX11_size) 68 = .ok (.goto 30, 3) := by decide +kernel
theorem d_X11_size_71 : decode (cd mX11_size) 71 = .ok (.iload_n 1, 1) := by decide +kernel
theorem d_X11_size_72 : decode (cd mX11_size) 72 = .ok (.bipush 11, 2) := by decide +kernel
theorem d_X11_size_74 : decode (cd mX11_size) 74 = .ok (.if_icmp .ne 10, 3) := by decide +kernel
theorem d_X11_size_77 : decode (cd mX11_size) 77 = .ok (.aload_n 0, 1) := by decide +kernel
theorem d_X11_size_78 : decode (cd mX11_size) 78 = .ok (.getfield 188, 3) := by decide +kernel
theorem d_X11_size_81 : decode (cd mX11_size) 81 = .ok (.goto 17, 3) := by decide +kernel
theorem d_X11_size_84 : decode (cd mX11_size) 84 = .ok (.iload_n 1, 1) := by decide +kernel
theorem d_X11_size_85 : decode (cd mX11_size) 85 = .ok (.bipush 12, 2) := by decide +kernel
theorem d_X11_size_87 : decode (cd mX11_size) 87 = .ok (.if_icmp .ne 10, 3) := by decide +kernel
theorem d_X11_size_90 : decode (cd mX11_size) 90 = .ok (.aload_n 0, 1) := by decide +kernel
theorem d_X11_size_91 : decode (cd mX11_size) 91 = .ok (.getfield 191, 3) := by decide +kernel
theorem d_X11_size_94 : decode (cd mX11_size) 94 = .ok (.goto 4, 3) := by decide +kernel
theorem d_X11_size_97 : decode (cd mX11_size) 97 = .ok (.iconst (-1), 1) := by decide +kernel
theorem d_X11_size_98 : decode (cd mX11_size) 98 = .ok (.ireturn, 1) := by decide +kernel
theorem d_X11_trouble_0 : decode (cd mX11_trouble) 0 = .ok (.aload_n 0, 1) := by decide +kernel
theorem d_X11_trouble_1 : decode (cd mX11_trouble) 1 = .ok (.iconst 0, 1) := by decide +kernel
theorem d_X11_trouble_2 : decode (cd mX11_trouble) 2 = .ok (.putfield 60, 3) := by decide +kernel
theorem d_X11_trouble_5 : decode (cd mX11_trouble) 5 = .ok (.aload_n 0, 1) := by decide +kernel
theorem d_X11_trouble_6 : decode (cd mX11_trouble) 6 = .ok (.getfield 63, 3) := by decide +kernel
theorem d_X11_trouble_9 : decode (cd mX11_trouble) 9 = .ok (.ireturn, 1) := by decide +kernel
