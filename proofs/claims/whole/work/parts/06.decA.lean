theorem d_X0_init_0 : decode (cd mX0_init) 0 = .ok (.aload_n 0, 1) := by decide +kernel
theorem d_X0_init_1 : decode (cd mX0_init) 1 = .ok (.invokespecial 3, 3) := by decide +kernel
theorem d_X0_init_4 : decode (cd mX0_init) 4 = .ok (.return_, 1) := by decide +kernel
theorem d_X0_begin_0 : decode (cd mX0_begin) 0 = .ok (.aload_n 0, 1) := by decide +kernel
theorem d_X0_begin_1 : decode (cd mX0_begin) 1 = .ok (.iconst 0, 1) := by decide +kernel
theorem d_X0_begin_2 : decode (cd mX0_begin) 2 = .ok (.putfield 9, 3) := by decide +kernel
theorem d_X0_begin_5 : decode (cd mX0_begin) 5 = .ok (.aload_n 0, 1) := by decide +kernel
theorem d_X0_begin_6 : decode (cd mX0_begin) 6 = .ok (.iload_n 1, 1) := by decide +kernel
theorem d_X0_begin_7 : decode (cd mX0_begin) 7 = .ok (.putfield 15, 3) := by decide +kernel
theorem d_X0_begin_10 : decode (cd mX0_begin) 10 = .ok (.aload_n 0, 1) := by decide +kernel
theorem d_X0_begin_11 : decode (cd mX0_begin) 11 = .ok (.iload_n 2, 1) := by decide +kernel
theorem d_X0_begin_12 : decode (cd mX0_begin) 12 = .ok (.putfield 18, 3) := by decide +kernel
theorem d_X0_begin_15 : decode (cd mX0_begin) 15 = .ok (.aload_n 0, 1) := by decide +kernel
theorem d_X0_begin_16 : decode (cd mX0_begin) 16 = .ok (.iload_n 3, 1) := by decide +kernel
theorem d_X0_begin_17 : decode (cd mX0_begin) 17 = .ok (.putfield 21, 3) := by decide +kernel
theorem d_X0_begin_20 : decode (cd mX0_begin) 20 = .ok (.aload_n 0, 1) := by decide +kernel
theorem d_X0_begin_21 : decode (cd mX0_begin) 21 = .ok (.iconst 0, 1) := by decide +kernel
theorem d_X0_begin_22 : decode (cd mX0_begin) 22 = .ok (.putfield 24, 3) := by decide +kernel
theorem d_X0_begin_25 : decode (cd mX0_begin) 25 = .ok (.aload_n 0, 1) := by decide +kernel
theorem d_X0_begin_26 : decode (cd mX0_begin) 26 = .ok (.iconst 0, 1) := by decide +kernel
theorem d_X0_begin_27 : decode (cd mX0_begin) 27 = .ok (.putfield 27, 3) := by decide +kernel
theorem d_X0_begin_30 : decode (cd mX0_begin) 30 = .ok (.aload_n 0, 1) := by decide +kernel
theorem d_X0_begin_31 : decode (cd mX0_begin) 31 = .ok (.iconst 0, 1) := by decide +kernel
theorem d_X0_begin_32 : decode (cd mX0_begin) 32 = .ok (.putfield 30, 3) := by decide +kernel
theorem d_X0_begin_35 : decode (cd mX0_begin) 35 = .ok (.aload_n 0, 1) := by decide +kernel
theorem d_X0_begin_36 : decode (cd mX0_begin) 36 = .ok (.iconst 0, 1) := by decide +kernel
theorem d_X0_begin_37 : decode (cd mX0_begin) 37 = .ok (.putfield 33, 3) := by decide +kernel
theorem d_X0_begin_40 : decode (cd mX0_begin) 40 = .ok (.aload_n 0, 1) := by decide +kernel
theorem d_X0_begin_41 : decode (cd mX0_begin) 41 = .ok (.iconst 0, 1) := by decide +kernel
theorem d_X0_begin_42 : decode (cd mX0_begin) 42 = .ok (.putfield 36, 3) := by decide +kernel
theorem d_X0_begin_45 : decode (cd mX0_begin) 45 = .ok (.return_, 1) := by decide +kernel
theorem d_X0_copy_0 : decode (cd mX0_copy) 0 = .ok (.aload_n 0, 1) := by decide +kernel
theorem d_X0_copy_1 : decode (cd mX0_copy) 1 = .ok (.aload_n 1, 1) := by decide +kernel
theorem d_X0_copy_2 : decode (cd mX0_copy) 2 = .ok (.getfield 9, 3) := by decide +kernel
theorem d_X0_copy_5 : decode (cd mX0_copy) 5 = .ok (.putfield 9, 3) := by decide +kernel
theorem d_X0_copy_8 : decode (cd mX0_copy) 8 = .ok (.aload_n 0, 1) := by decide +kernel
theorem d_X0_copy_9 : decode (cd mX0_copy) 9 = .ok (.aload_n 1, 1) := by decide +kernel
theorem d_X0_copy_10 : decode (cd mX0_copy) 10 = .ok (.getfield 15, 3) := by decide +kernel
theorem d_X0_copy_13 : decode (cd mX0_copy) 13 = .ok (.putfield 15, 3) := by decide +kernel
theorem d_X0_copy_16 : decode (cd mX0_copy) 16 = .ok (.aload_n 0, 1) := by decide +kernel
theorem d_X0_copy_17 : decode (cd mX0_copy) 17 = .ok (.aload_n 1, 1) := by decide +kernel
theorem d_X0_copy_18 : decode (cd mX0_copy) 18 = .ok (.getfield 18, 3) := by decide +kernel
theorem d_X0_copy_21 : decode (cd mX0_copy) 21 = .ok (.putfield 18, 3) := by decide +kernel
theorem d_X0_copy_24 : decode (cd mX0_copy) 24 = .ok (.aload_n 0, 1) := by decide +kernel
theorem d_X0_copy_25 : decode (cd mX0_copy) 25 = .ok (.aload_n 1, 1) := by decide +kernel
theorem d_X0_copy_26 : decode (cd mX0_copy) 26 = .ok (.getfield 21, 3) := by decide +kernel
theorem d_X0_copy_29 : decode (cd mX0_copy) 29 = .ok (.putfield 21, 3) := by decide +kernel
theorem d_X0_copy_32 : decode (cd mX0_copy) 32 = .ok (.aload_n 0, 1) := by decide +kernel
theorem d_X0_copy_33 : decode (cd mX0_copy) 33 = .ok (.aload_n 1, 1) := by decide +kernel
theorem d_X0_copy_34 : decode (cd mX0_copy) 34 = .ok (.getfield 24, 3) := by decide +kernel
theorem d_X0_copy_37 : decode (cd mX0_copy) 37 = .ok (.putfield 24, 3) := by decide +kernel
theorem d_X0_copy_40 : decode (cd mX0_copy) 40 = .ok (.aload_n 0, 1) := by decide +kernel
theorem d_X0_copy_41 : decode (cd mX0_copy) 41 = .ok (.aload_n 1, 1) := by decide +kernel
theorem d_X0_copy_42 : decode (cd mX0_copy) 42 = .ok (.getfield 27, 3) := by decide +kernel
theorem d_X0_copy_45 : decode (cd mX0_copy) 45 = .ok (.putfield 27, 3) := by decide +kernel
theorem d_X0_copy_48 : decode (cd mX0_copy) 48 = .ok (.aload_n 0, 1) := by decide +kernel
theorem d_X0_copy_49 : decode (cd mX0_copy) 49 = .ok (.aload_n 1, 1) := by decide +kernel
theorem d_X0_copy_50 : decode (cd mX0_copy) 50 = .ok (.getfield 30, 3) := by decide +kernel
theorem d_X0_copy_53 : decode (cd mX0_copy) 53 = .ok (.putfield 30, 3) := by decide +kernel
theorem d_X0_copy_56 : decode (cd mX0_copy) 56 = .ok (.aload_n 0, 1) := by decide +kernel
theorem d_X0_copy_57 : decode (cd mX0_copy) 57 = .ok (.aload_n 1, 1) := by decide +kernel
theorem d_X0_copy_58 : decode (cd mX0_copy) 58 = .ok (.getfield 33, 3) := by decide +kernel
theorem d_X0_copy_61 : decode (cd mX0_copy) 61 = .ok (.putfield 33, 3) := by decide +kernel
theorem d_X0_copy_64 : decode (cd mX0_copy) 64 = .ok (.aload_n 0, 1) := by decide +kernel
theorem d_X0_copy_65 : decode (cd mX0_copy) 65 = .ok (.aload_n 1, 1) := by decide +kernel
theorem d_X0_copy_66 : decode (cd mX0_copy) 66 = .ok (.getfield 36, 3) := by decide +kernel
theorem d_X0_copy_69 : decode (cd mX0_copy) 69 = .ok (.putfield 36, 3) := by decide +kernel
theorem d_X0_copy_72 : decode (cd mX0_copy) 72 = .ok (.return_, 1) := by decide +kernel
theorem d_X0_whoIsOut_0 : decode (cd mX0_whoIsOut) 0 = .ok (.iconst 3, 1) := by decide +kernel
theorem d_X0_whoIsOut_1 : decode (cd mX0_whoIsOut) 1 = .ok (.aload_n 0, 1) := by decide +kernel
theorem d_X0_whoIsOut_2 : decode (cd mX0_whoIsOut) 2 = .ok (.getfield 21, 3) := by decide +kernel
theorem d_X0_whoIsOut_5 : decode (cd mX0_whoIsOut) 5 = .ok (.isub, 1) := by decide +kernel
theorem d_X0_whoIsOut_6 : decode (cd mX0_whoIsOut) 6 = .ok (.istore_n 1, 1) := by decide +kernel
theorem d_X0_whoIsOut_7 : decode (cd mX0_whoIsOut) 7 = .ok (.aload_n 0, 1) := by decide +kernel
theorem d_X0_whoIsOut_8 : decode (cd mX0_whoIsOut) 8 = .ok (.getfield 9, 3) := by decide +kernel
theorem d_X0_whoIsOut_11 : decode (cd mX0_whoIsOut) 11 = .ok (.iload_n 1, 1) := by decide +kernel
theorem d_X0_whoIsOut_12 : decode (cd mX0_whoIsOut) 12 = .ok (.if_icmp .lt 7, 3) := by decide +kernel
theorem d_X0_whoIsOut_15 : decode (cd mX0_whoIsOut) 15 = .ok (.iconst 1, 1) := by decide +kernel
theorem d_X0_whoIsOut_16 : decode (cd mX0_whoIsOut) 16 = .ok (.goto 4, 3) := by decide +kernel
theorem d_X0_whoIsOut_19 : decode (cd mX0_whoIsOut) 19 = .ok (.iconst 0, 1) := by decide +kernel
theorem d_X0_whoIsOut_20 : decode (cd mX0_whoIsOut) 20 = .ok (.aload_n 0, 1) := by decide +kernel
theorem d_X0_whoIsOut_21 : decode (cd mX0_whoIsOut) 21 = .ok (.getfield 9, 3) := by decide +kernel
theorem d_X0_whoIsOut_24 : decode (cd mX0_whoIsOut) 24 = .ok (.ineg, 1) := by decide +kernel
theorem d_X0_whoIsOut_25 : decode (cd mX0_whoIsOut) 25 = .ok (.iload_n 1, 1) := by decide +kernel
theorem d_X0_whoIsOut_26 : decode (cd mX0_whoIsOut) 26 = .ok (.if_icmp .lt 7, 3) := by decide +kernel
theorem d_X0_whoIsOut_29 : decode (cd mX0_whoIsOut) 29 = .ok (.iconst 2, 1) := by decide +kernel
theorem d_X0_whoIsOut_30 : decode (cd mX0_whoIsOut) 30 = .ok (.goto 4, 3) := by decide +kernel
theorem d_X0_whoIsOut_33 : decode (cd mX0_whoIsOut) 33 = .ok (.iconst 0, 1) := by decide +kernel
theorem d_X0_whoIsOut_34 : decode (cd mX0_whoIsOut) 34 = .ok (.iadd, 1) := by decide +kernel
theorem d_X0_whoIsOut_35 : decode (cd mX0_whoIsOut) 35 = .ok (.ireturn, 1) := by decide +kernel
theorem d_X0_isOpen_0 : decode (cd mX0_isOpen) 0 = .ok (.aload_n 0, 1) := by decide +kernel
theorem d_X0_isOpen_1 : decode (cd mX0_isOpen) 1 = .ok (.getfield 24, 3) := by decide +kernel
theorem d_X0_isOpen_4 : decode (cd mX0_isOpen) 4 = .ok (.iload_n 1, 1) := by decide +kernel
theorem d_X0_isOpen_5 : decode (cd mX0_isOpen) 5 = .ok (.ishr, 1) := by decide +kernel
theorem d_X0_isOpen_6 : decode (cd mX0_isOpen) 6 = .ok (.iconst 1, 1) := by decide +kernel
theorem d_X0_isOpen_7 : decode (cd mX0_isOpen) 7 = .ok (.iand, 1) := by decide +kernel
theorem d_X0_isOpen_8 : decode (cd mX0_isOpen) 8 = .ok (.iconst 1, 1) := by decide +kernel
theorem d_X0_isOpen_9 : decode (cd mX0_isOpen) 9 = .ok (.if_icmp .ne 7, 3) := by decide +kernel
theorem d_X0_isOpen_12 : decode (cd mX0_isOpen) 12 = .ok (.iconst 1, 1) := by decide +kernel
theorem d_X0_isOpen_13 : decode (cd mX0_isOpen) 13 = .ok (.goto 4, 3) := by decide +kernel
theorem d_X0_isOpen_16 : decode (cd mX0_isOpen) 16 = .ok (.iconst 0, 1) := by decide +kernel
theorem d_X0_isOpen_17 : decode (cd mX0_isOpen) 17 = .ok (.ireturn, 1) := by decide +kernel
theorem d_X0_openVent_0 : decode (cd mX0_openVent) 0 = .ok (.aload_n 0, 1) := by decide +kernel
theorem d_X0_openVent_1 : decode (cd mX0_openVent) 1 = .ok (.dup, 1) := by decide +kernel
theorem d_X0_openVent_2 : decode (cd mX0_openVent) 2 = .ok (.getfield 24, 3) := by decide +kernel
theorem d_X0_openVent_5 : decode (cd mX0_openVent) 5 = .ok (.iconst 1, 1) := by decide +kernel
theorem d_X0_openVent_6 : decode (cd mX0_openVent) 6 = .ok (.iload_n 1, 1) := by decide +kernel
theorem d_X0_openVent_7 : decode (cd mX0_openVent) 7 = .ok (.ishl, 1) := by decide +kernel
theorem d_X0_openVent_8 : decode (cd mX0_openVent) 8 = .ok (.ior, 1) := by decide +kernel
theorem d_X0_openVent_9 : decode (cd mX0_openVent) 9 = .ok (.putfield 24, 3) := by decide +kernel
theorem d_X0_openVent_12 : decode (cd mX0_openVent) 12 = .ok (.return_, 1) := by decide +kernel
theorem d_X0_pullOfDamp_0 : decode (cd mX0_pullOfDamp) 0 = .ok (.iload_n 0, 1) := by decide +kernel
theorem d_X0_pullOfDamp_1 : decode (cd mX0_pullOfDamp) 1 = .ok (.bipush 50, 2) := by decide +kernel
theorem d_X0_pullOfDamp_3 : decode (cd mX0_pullOfDamp) 3 = .ok (.isub, 1) := by decide +kernel
theorem d_X0_pullOfDamp_4 : decode (cd mX0_pullOfDamp) 4 = .ok (.bipush 10, 2) := by decide +kernel
theorem d_X0_pullOfDamp_6 : decode (cd mX0_pullOfDamp) 6 = .ok (.idiv, 1) := by decide +kernel
theorem d_X0_pullOfDamp_7 : decode (cd mX0_pullOfDamp) 7 = .ok (.ireturn, 1) := by decide +kernel
theorem d_X0_reach_0 : decode (cd mX0_reach) 0 = .ok (.iconst 1, 1) := by decide +kernel
theorem d_X0_reach_1 : decode (cd mX0_reach) 1 = .ok (.aload_n 0, 1) := by decide +kernel
theorem d_X0_reach_2 : decode (cd mX0_reach) 2 = .ok (.getfield 21, 3) := by decide +kernel
theorem d_X0_reach_5 : decode (cd mX0_reach) 5 = .ok (.iadd, 1) := by decide +kernel
theorem d_X0_reach_6 : decode (cd mX0_reach) 6 = .ok (.istore_n 2, 1) := by decide +kernel
theorem d_X0_reach_7 : decode (cd mX0_reach) 7 = .ok (.iload_n 1, 1) := by decide +kernel
theorem d_X0_reach_8 : decode (cd mX0_reach) 8 = .ok (.bipush 100, 2) := by decide +kernel
theorem d_X0_reach_10 : decode (cd mX0_reach) 10 = .ok (.bipush 10, 2) := by decide +kernel
theorem d_X0_reach_12 : decode (cd mX0_reach) 12 = .ok (.aload_n 0, 1) := by decide +kernel
theorem d_X0_reach_13 : decode (cd mX0_reach) 13 = .ok (.getfield 18, 3) := by decide +kernel
theorem d_X0_reach_16 : decode (cd mX0_reach) 16 = .ok (.imul, 1) := by decide +kernel
theorem d_X0_reach_17 : decode (cd mX0_reach) 17 = .ok (.isub, 1) := by decide +kernel
theorem d_X0_reach_18 : decode (cd mX0_reach) 18 = .ok (.if_icmp .lt 13, 3) := by decide +kernel
theorem d_X0_reach_21 : decode (cd mX0_reach) 21 = .ok (.iconst 0, 1) := by decide +kernel
theorem d_X0_reach_22 : decode (cd mX0_reach) 22 = .ok (.iload_n 2, 1) := by decide +kernel
theorem d_X0_reach_23 : decode (cd mX0_reach) 23 = .ok (.iconst 1, 1) := by decide +kernel
theorem d_X0_reach_24 : decode (cd mX0_reach) 24 = .ok (.isub, 1) := by decide +kernel
theorem d_X0_reach_25 : decode (cd mX0_reach) 25 = .ok (.invokestatic 39, 3) := by decide +kernel
theorem d_X0_reach_28 : decode (cd mX0_reach) 28 = .ok (.goto 4, 3) := by decide +kernel
theorem d_X0_reach_31 : decode (cd mX0_reach) 31 = .ok (.iload_n 2, 1) := by decide +kernel
theorem d_X0_reach_32 : decode (cd mX0_reach) 32 = .ok (.ireturn, 1) := by decide +kernel
theorem d_X0_turned_0 : decode (cd mX0_turned) 0 = .ok (.aload_n 0, 1) := by decide +kernel
theorem d_X0_turned_1 : decode (cd mX0_turned) 1 = .ok (.iload_n 2, 1) := by decide +kernel
theorem d_X0_turned_2 : decode (cd mX0_turned) 2 = .ok (.invokevirtual 45, 3) := by decide +kernel
theorem d_X0_turned_5 : decode (cd mX0_turned) 5 = .ok (.istore_n 3, 1) := by decide +kernel
theorem d_X0_turned_6 : decode (cd mX0_turned) 6 = .ok (.bipush (-9), 2) := by decide +kernel
theorem d_X0_turned_8 : decode (cd mX0_turned) 8 = .ok (.bipush 9, 2) := by decide +kernel
theorem d_X0_turned_10 : decode (cd mX0_turned) 10 = .ok (.iload_n 1, 1) := by decide +kernel
theorem d_X0_turned_11 : decode (cd mX0_turned) 11 = .ok (.invokestatic 49, 3) := by decide +kernel
theorem d_X0_turned_14 : decode (cd mX0_turned) 14 = .ok (.invokestatic 39, 3) := by decide +kernel
theorem d_X0_turned_17 : decode (cd mX0_turned) 17 = .ok (.istore 4, 2) := by decide +kernel
theorem d_X0_turned_19 : decode (cd mX0_turned) 19 = .ok (.aload_n 0, 1) := by decide +kernel
theorem d_X0_turned_20 : decode (cd mX0_turned) 20 = .ok (.getfield 9, 3) := by decide +kernel
theorem d_X0_turned_23 : decode (cd mX0_turned) 23 = .ok (.iload_n 3, 1) := by decide +kernel
theorem d_X0_turned_24 : decode (cd mX0_turned) 24 = .ok (.ineg, 1) := by decide +kernel
theorem d_X0_turned_25 : decode (cd mX0_turned) 25 = .ok (.iload_n 3, 1) := by decide +kernel
theorem d_X0_turned_26 : decode (cd mX0_turned) 26 = .ok (.iload 4, 2) := by decide +kernel
theorem d_X0_turned_28 : decode (cd mX0_turned) 28 = .ok (.aload_n 0, 1) := by decide +kernel
theorem d_X0_turned_29 : decode (cd mX0_turned) 29 = .ok (.getfield 9, 3) := by decide +kernel
theorem d_X0_turned_32 : decode (cd mX0_turned) 32 = .ok (.isub, 1) := by decide +kernel
theorem d_X0_turned_33 : decode (cd mX0_turned) 33 = .ok (.invokestatic 49, 3) := by decide +kernel
theorem d_X0_turned_36 : decode (cd mX0_turned) 36 = .ok (.invokestatic 39, 3) := by decide +kernel
theorem d_X0_turned_39 : decode (cd mX0_turned) 39 = .ok (.iadd, 1) := by decide +kernel
theorem d_X0_turned_40 : decode (cd mX0_turned) 40 = .ok (.ireturn, 1) := by decide +kernel
theorem d_X0_passDay_0 : decode (cd mX0_passDay) 0 = .ok (.aload_n 0, 1) := by decide +kernel
theorem d_X0_passDay_1 : decode (cd mX0_passDay) 1 = .ok (.invokevirtual 52, 3) := by decide +kernel
theorem d_X0_passDay_4 : decode (cd mX0_passDay) 4 = .ok (.istore_n 2, 1) := by decide +kernel
theorem d_X0_passDay_5 : decode (cd mX0_passDay) 5 = .ok (.aload_n 0, 1) := by decide +kernel
theorem d_X0_passDay_6 : decode (cd mX0_passDay) 6 = .ok (.iload_n 2, 1) := by decide +kernel
theorem d_X0_passDay_7 : decode (cd mX0_passDay) 7 = .ok (.iconst 1, 1) := by decide +kernel
theorem d_X0_passDay_8 : decode (cd mX0_passDay) 8 = .ok (.if_icmp .ne 7, 3) := by decide +kernel
theorem d_X0_passDay_11 : decode (cd mX0_passDay) 11 = .ok (.iconst 1, 1) := by decide +kernel
theorem d_X0_passDay_12 : decode (cd mX0_passDay) 12 = .ok (.goto 13, 3) := by decide +kernel
theorem d_X0_passDay_15 : decode (cd mX0_passDay) 15 = .ok (.iload_n 2, 1) := by decide +kernel
theorem d_X0_passDay_16 : decode (cd mX0_passDay) 16 = .ok (.iconst 2, 1) := by decide +kernel
theorem d_X0_passDay_17 : decode (cd mX0_passDay) 17 = .ok (.if_icmp .ne 7, 3) := by decide +kernel
theorem d_X0_passDay_20 : decode (cd mX0_passDay) 20 = .ok (.iconst 2, 1) := by decide +kernel
theorem d_X0_passDay_21 : decode (cd mX0_passDay) 21 = .ok (.goto 4, 3) := by decide +kernel
theorem d_X0_passDay_24 : decode (cd mX0_passDay) 24 = .ok (.iconst 0, 1) := by decide +kernel
theorem d_X0_passDay_25 : decode (cd mX0_passDay) 25 = .ok (.putfield 27, 3) := by decide +kernel
theorem d_X0_passDay_28 : decode (cd mX0_passDay) 28 = .ok (.aload_n 0, 1) := by decide +kernel
theorem d_X0_passDay_29 : decode (cd mX0_passDay) 29 = .ok (.getfield 27, 3) := by decide +kernel
theorem d_X0_passDay_32 : decode (cd mX0_passDay) 32 = .ok (.iconst 1, 1) := by decide +kernel
theorem d_X0_passDay_33 : decode (cd mX0_passDay) 33 = .ok (.if_icmp .ne 24, 3) := by decide +kernel
theorem d_X0_passDay_36 : decode (cd mX0_passDay) 36 = .ok (.aload_n 0, 1) := by decide +kernel
theorem d_X0_passDay_37 : decode (cd mX0_passDay) 37 = .ok (.bipush 100, 2) := by decide +kernel
theorem d_X0_passDay_39 : decode (cd mX0_passDay) 39 = .ok (.aload_n 0, 1) := by decide +kernel
theorem d_X0_passDay_40 : decode (cd mX0_passDay) 40 = .ok (.getfield 15, 3) := by decide +kernel
theorem d_X0_passDay_43 : decode (cd mX0_passDay) 43 = .ok (.aload_n 1, 1) := by decide +kernel
theorem d_X0_passDay_44 : decode (cd mX0_passDay) 44 = .ok (.getfield 56, 3) := by decide +kernel
theorem d_X0_passDay_47 : decode (cd mX0_passDay) 47 = .ok (.iadd, 1) := by decide +kernel
theorem d_X0_passDay_48 : decode (cd mX0_passDay) 48 = .ok (.invokestatic 49, 3) := by decide +kernel
theorem d_X0_passDay_51 : decode (cd mX0_passDay) 51 = .ok (.putfield 15, 3) := by decide +kernel
theorem d_X0_passDay_54 : decode (cd mX0_passDay) 54 = .ok (.goto 28, 3) := by decide +kernel
theorem d_X0_passDay_57 : decode (cd mX0_passDay) 57 = .ok (.aload_n 0, 1) := by decide +kernel
theorem d_X0_passDay_58 : decode (cd mX0_passDay) 58 = .ok (.getfield 27, 3) := by decide +kernel
theorem d_X0_passDay_61 : decode (cd mX0_passDay) 61 = .ok (.iconst 2, 1) := by decide +kernel
theorem d_X0_passDay_62 : decode (cd mX0_passDay) 62 = .ok (.if_icmp .ne 20, 3) := by decide +kernel
theorem d_X0_passDay_65 : decode (cd mX0_passDay) 65 = .ok (.aload_n 0, 1) := by decide +kernel
theorem d_X0_passDay_66 : decode (cd mX0_passDay) 66 = .ok (.iconst 0, 1) := by decide +kernel
theorem d_X0_passDay_67 : decode (cd mX0_passDay) 67 = .ok (.aload_n 0, 1) := by decide +kernel
theorem d_X0_passDay_68 : decode (cd mX0_passDay) 68 = .ok (.getfield 15, 3) := by decide +kernel
theorem d_X0_passDay_71 : decode (cd mX0_passDay) 71 = .ok (.aload_n 1, 1) := by decide +kernel
theorem d_X0_passDay_72 : decode (cd mX0_passDay) 72 = .ok (.getfield 61, 3) := by decide +kernel
theorem d_X0_passDay_75 : decode (cd mX0_passDay) 75 = .ok (.isub, 1) := by decide +kernel
theorem d_X0_passDay_76 : decode (cd mX0_passDay) 76 = .ok (.invokestatic 39, 3) := by decide +kernel
theorem d_X0_passDay_79 : decode (cd mX0_passDay) 79 = .ok (.putfield 15, 3) := by decide +kernel
theorem d_X0_passDay_82 : decode (cd mX0_passDay) 82 = .ok (.aload_n 0, 1) := by decide +kernel
theorem d_X0_passDay_83 : decode (cd mX0_passDay) 83 = .ok (.invokevirtual 64, 3) := by decide +kernel
theorem d_X0_passDay_86 : decode (cd mX0_passDay) 86 = .ok (.aload_n 0, 1) := by decide +kernel
theorem d_X0_passDay_87 : decode (cd mX0_passDay) 87 = .ok (.aload_n 0, 1) := by decide +kernel
theorem d_X0_passDay_88 : decode (cd mX0_passDay) 88 = .ok (.aload_n 0, 1) := by decide +kernel
theorem d_X0_passDay_89 : decode (cd mX0_passDay) 89 = .ok (.getfield 15, 3) := by decide +kernel
theorem d_X0_passDay_92 : decode (cd mX0_passDay) 92 = .ok (.invokestatic 67, 3) := by decide +kernel
theorem d_X0_passDay_95 : decode (cd mX0_passDay) 95 = .ok (.aload_n 1, 1) := by decide +kernel
theorem d_X0_passDay_96 : decode (cd mX0_passDay) 96 = .ok (.aload_n 0, 1) := by decide +kernel
theorem d_X0_passDay_97 : decode (cd mX0_passDay) 97 = .ok (.getfield 24, 3) := by decide +kernel
theorem d_X0_passDay_100 : decode (cd mX0_passDay) 100 = .ok (.invokevirtual 70, 3) := by decide +kernel
theorem d_X0_passDay_103 : decode (cd mX0_passDay) 103 = .ok (.iadd, 1) := by decide +kernel
theorem d_X0_passDay_104 : decode (cd mX0_passDay) 104 = .ok (.aload_n 0, 1) := by decide +kernel
theorem d_X0_passDay_105 : decode (cd mX0_passDay) 105 = .ok (.getfield 15, 3) := by decide +kernel
theorem d_X0_passDay_108 : decode (cd mX0_passDay) 108 = .ok (.invokevirtual 73, 3) := by decide +kernel
theorem d_X0_passDay_111 : decode (cd mX0_passDay) 111 = .ok (.putfield 9, 3) := by decide +kernel
theorem d_X0_passDay_114 : decode (cd mX0_passDay) 114 = .ok (.aload_n 0, 1) := by decide +kernel
theorem d_X0_passDay_115 : decode (cd mX0_passDay) 115 = .ok (.iconst 0, 1) := by decide +kernel
theorem d_X0_passDay_116 : decode (cd mX0_passDay) 116 = .ok (.putfield 24, 3) := by decide +kernel
theorem d_X0_passDay_119 : decode (cd mX0_passDay) 119 = .ok (.aload_n 0, 1) := by decide +kernel
theorem d_X0_passDay_120 : decode (cd mX0_passDay) 120 = .ok (.dup, 1) := by decide +kernel
theorem d_X0_passDay_121 : decode (cd mX0_passDay) 121 = .ok (.getfield 30, 3) := by decide +kernel
theorem d_X0_passDay_124 : decode (cd mX0_passDay) 124 = .ok (.iconst 1, 1) := by decide +kernel
theorem d_X0_passDay_125 : decode (cd mX0_passDay) 125 = .ok (.iadd, 1) := by decide +kernel
theorem d_X0_passDay_126 : decode (cd mX0_passDay) 126 = .ok (.putfield 30, 3) := by decide +kernel
theorem d_X0_passDay_129 : decode (cd mX0_passDay) 129 = .ok (.return_, 1) := by decide +kernel
theorem d_X0_noteWeather_0 : decode (cd mX0_noteWeather) 0 = .ok (.aload_n 0, 1) := by decide +kernel
theorem d_X0_noteWeather_1 : decode (cd mX0_noteWeather) 1 = .ok (.getfield 30, 3) := by decide +kernel
theorem d_X0_noteWeather_4 : decode (cd mX0_noteWeather) 4 = .ok (.bipush 20, 2) := by decide +kernel
theorem d_X0_noteWeather_6 : decode (cd mX0_noteWeather) 6 = .ok (.if_icmp .gt 57, 3) := by decide +kernel
theorem d_X0_noteWeather_9 : decode (cd mX0_noteWeather) 9 = .ok (.aload_n 0, 1) := by decide +kernel
theorem d_X0_noteWeather_10 : decode (cd mX0_noteWeather) 10 = .ok (.dup, 1) := by decide +kernel
theorem d_X0_noteWeather_11 : decode (cd mX0_noteWeather) 11 = .ok (.getfield 33, 3) := by decide +kernel
theorem d_X0_noteWeather_14 : decode (cd mX0_noteWeather) 14 = .ok (.aload_n 0, 1) := by decide +kernel
theorem d_X0_noteWeather_15 : decode (cd mX0_noteWeather) 15 = .ok (.getfield 27, 3) := by decide +kernel
theorem d_X0_noteWeather_18 : decode (cd mX0_noteWeather) 18 = .ok (.iconst 1, 1) := by decide +kernel
theorem d_X0_noteWeather_19 : decode (cd mX0_noteWeather) 19 = .ok (.if_icmp .ne 12, 3) := by decide +kernel
theorem d_X0_noteWeather_22 : decode (cd mX0_noteWeather) 22 = .ok (.iconst 1, 1) := by decide +kernel
theorem d_X0_noteWeather_23 : decode (cd mX0_noteWeather) 23 = .ok (.aload_n 0, 1) := by decide +kernel
theorem d_X0_noteWeather_24 : decode (cd mX0_noteWeather) 24 = .ok (.getfield 30, 3) := by decide +kernel
theorem d_X0_noteWeather_27 : decode (cd mX0_noteWeather) 27 = .ok (.ishl, 1) := by decide +kernel
theorem d_X0_noteWeather_28 : decode (cd mX0_noteWeather) 28 = .ok (.goto 4, 3) := by decide +kernel
theorem d_X0_noteWeather_31 : decode (cd mX0_noteWeather) 31 = .ok (.iconst 0, 1) := by decide +kernel
theorem d_X0_noteWeather_32 : decode (cd mX0_noteWeather) 32 = .ok (.ior, 1) := by decide +kernel
theorem d_X0_noteWeather_33 : decode (cd mX0_noteWeather) 33 = .ok (.putfield 33, 3) := by decide +kernel
theorem d_X0_noteWeather_36 : decode (cd mX0_noteWeather) 36 = .ok (.aload_n 0, 1) := by decide +kernel
theorem d_X0_noteWeather_37 : decode (cd mX0_noteWeather) 37 = .ok (.dup, 1) := by decide +kernel
theorem d_X0_noteWeather_38 : decode (cd mX0_noteWeather) 38 = .ok (.getfield 36, 3) := by decide +kernel
theorem d_X0_noteWeather_41 : decode (cd mX0_noteWeather) 41 = .ok (.aload_n 0, 1) := by decide +kernel
theorem d_X0_noteWeather_42 : decode (cd mX0_noteWeather) 42 = .ok (.getfield 27, 3) := by decide +kernel
theorem d_X0_noteWeather_45 : decode (cd mX0_noteWeather) 45 = .ok (.iconst 2, 1) := by decide +kernel
theorem d_X0_noteWeather_46 : decode (cd mX0_noteWeather) 46 = .ok (.if_icmp .ne 12, 3) := by decide +kernel
theorem d_X0_noteWeather_49 : decode (cd mX0_noteWeather) 49 = .ok (.iconst 1, 1) := by decide +kernel
theorem d_X0_noteWeather_50 : decode (cd mX0_noteWeather) 50 = .ok (.aload_n 0, 1) := by decide +kernel
theorem d_X0_noteWeather_51 : decode (cd mX0_noteWeather) 51 = .ok (.getfield 30, 3) := by decide +kernel
theorem d_X0_noteWeather_54 : decode (cd mX0_noteWeather) 54 = .ok (.ishl, 1) := by decide +kernel
theorem d_X0_noteWeather_55 : decode (cd mX0_noteWeather) 55 = .ok (.goto 4, 3) := by decide +kernel
theorem d_X0_noteWeather_58 : decode (cd mX0_noteWeather) 58 = .ok (.iconst 0, 1) := by decide +kernel
theorem d_X0_noteWeather_59 : decode (cd mX0_noteWeather) 59 = .ok (.ior, 1) := by decide +kernel
theorem d_X0_noteWeather_60 : decode (cd mX0_noteWeather) 60 = .ok (.putfield 36, 3) := by decide +kernel
theorem d_X0_noteWeather_63 : decode (cd mX0_noteWeather) 63 = .ok (.return_, 1) := by decide +kernel
theorem d_X0_had_0 : decode (cd mX0_had) 0 = .ok (.iload_n 1, 1) := by decide +kernel
theorem d_X0_had_1 : decode (cd mX0_had) 1 = .ok (.ifCond .lt 17, 3) := by decide +kernel
theorem d_X0_had_4 : decode (cd mX0_had) 4 = .ok (.iload_n 1, 1) := by decide +kernel
theorem d_X0_had_5 : decode (cd mX0_had) 5 = .ok (.aload_n 0, 1) := by decide +kernel
theorem d_X0_had_6 : decode (cd mX0_had) 6 = .ok (.getfield 30, 3) := by decide +kernel
theorem d_X0_had_9 : decode (cd mX0_had) 9 = .ok (.if_icmp .ge 9, 3) := by decide +kernel
theorem d_X0_had_12 : decode (cd mX0_had) 12 = .ok (.iload_n 1, 1) := by decide +kernel
theorem d_X0_had_13 : decode (cd mX0_had) 13 = .ok (.bipush 20, 2) := by decide +kernel
theorem d_X0_had_15 : decode (cd mX0_had) 15 = .ok (.if_icmp .le 5, 3) := by decide +kernel
theorem d_X0_had_18 : decode (cd mX0_had) 18 = .ok (.iconst 0, 1) := by decide +kernel
theorem d_X0_had_19 : decode (cd mX0_had) 19 = .ok (.ireturn, 1) := by decide +kernel
theorem d_X0_had_20 : decode (cd mX0_had) 20 = .ok (.iload_n 2, 1) := by decide +kernel
theorem d_X0_had_21 : decode (cd mX0_had) 21 = .ok (.iconst 1, 1) := by decide +kernel
theorem d_X0_had_22 : decode (cd mX0_had) 22 = .ok (.if_icmp .ne 10, 3) := by decide +kernel
theorem d_X0_had_25 : decode (cd mX0_had) 25 = .ok (.aload_n 0, 1) := by decide +kernel
theorem d_X0_had_26 : decode (cd mX0_had) 26 = .ok (.getfield 33, 3) := by decide +kernel
theorem d_X0_had_29 : decode (cd mX0_had) 29 = .ok (.goto 7, 3) := by decide +kernel
theorem d_X0_had_32 : decode (cd mX0_had) 32 = .ok (.aload_n 0, 1) := by decide +kernel
theorem d_X0_had_33 : decode (cd mX0_had) 33 = .ok (.getfield 36, 3) := by decide +kernel
theorem d_X0_had_36 : decode (cd mX0_had) 36 = .ok (.istore_n 3, 1) := by decide +kernel
theorem d_X0_had_37 : decode (cd mX0_had) 37 = .ok (.iload_n 3, 1) := by decide +kernel
theorem d_X0_had_38 : decode (cd mX0_had) 38 = .ok (.iload_n 1, 1) := by decide +kernel
theorem d_X0_had_39 : decode (cd mX0_had) 39 = .ok (.ishr, 1) := by decide +kernel
theorem d_X0_had_40 : decode (cd mX0_had) 40 = .ok (.iconst 1, 1) := by decide +kernel
theorem d_X0_had_41 : decode (cd mX0_had) 41 = .ok (.iand, 1) := by decide +kernel
theorem d_X0_had_42 : decode (cd mX0_had) 42 = .ok (.iconst 1, 1) := by decide +kernel
theorem d_X0_had_43 : decode (cd mX0_had) 43 = .ok (.if_icmp .ne 7, 3) := by decide +kernel
theorem d_X0_had_46 : decode (cd mX0_had) 46 = .ok (.iconst 1, 1) := by decide +kernel
theorem d_X0_had_47 : decode (cd mX0_had) 47 = .ok (.goto 4, 3) := by decide +kernel
theorem d_X0_had_50 : decode (cd mX0_had) 50 = .ok (.iconst 0, 1) := by decide +kernel
theorem d_X0_had_51 : decode (cd mX0_had) 51 = .ok (.ireturn, 1) := by decide +kernel
theorem d_X0_gust_0 : decode (cd mX0_gust) 0 = .ok (.aload_n 0, 1) := by decide +kernel
theorem d_X0_gust_1 : decode (cd mX0_gust) 1 = .ok (.bipush 9, 2) := by decide +kernel
theorem d_X0_gust_3 : decode (cd mX0_gust) 3 = .ok (.aload_n 0, 1) := by decide +kernel
theorem d_X0_gust_4 : decode (cd mX0_gust) 4 = .ok (.getfield 9, 3) := by decide +kernel
theorem d_X0_gust_7 : decode (cd mX0_gust) 7 = .ok (.iconst 1, 1) := by decide +kernel
theorem d_X0_gust_8 : decode (cd mX0_gust) 8 = .ok (.iadd, 1) := by decide +kernel
theorem d_X0_gust_9 : decode (cd mX0_gust) 9 = .ok (.invokestatic 49, 3) := by decide +kernel
theorem d_X0_gust_12 : decode (cd mX0_gust) 12 = .ok (.putfield 9, 3) := by decide +kernel
theorem d_X0_gust_15 : decode (cd mX0_gust) 15 = .ok (.return_, 1) := by decide +kernel
theorem d_X1_most_0 : decode (cd mX1_most) 0 = .ok (.aload_n 0, 1) := by decide +kernel
theorem d_X1_most_1 : decode (cd mX1_most) 1 = .ok (.getfield 9, 3) := by decide +kernel
theorem d_X1_most_4 : decode (cd mX1_most) 4 = .ok (.iconst 2, 1) := by decide +kernel
theorem d_X1_most_5 : decode (cd mX1_most) 5 = .ok (.if_icmp .ge 7, 3) := by decide +kernel
theorem d_X1_most_8 : decode (cd mX1_most) 8 = .ok (.iconst 0, 1) := by decide +kernel
theorem d_X1_most_9 : decode (cd mX1_most) 9 = .ok (.goto 15, 3) := by decide +kernel
theorem d_X1_most_12 : decode (cd mX1_most) 12 = .ok (.aload_n 0, 1) := by decide +kernel
theorem d_X1_most_13 : decode (cd mX1_most) 13 = .ok (.aload_n 0, 1) := by decide +kernel
theorem d_X1_most_14 : decode (cd mX1_most) 14 = .ok (.iload_n 1, 1) := by decide +kernel
theorem d_X1_most_15 : decode (cd mX1_most) 15 = .ok (.iload_n 2, 1) := by decide +kernel
theorem d_X1_most_16 : decode (cd mX1_most) 16 = .ok (.invokestatic 15, 3) := by decide +kernel
theorem d_X1_most_19 : decode (cd mX1_most) 19 = .ok (.iload_n 1, 1) := by decide +kernel
theorem d_X1_most_20 : decode (cd mX1_most) 20 = .ok (.iload_n 2, 1) := by decide +kernel
theorem d_X1_most_21 : decode (cd mX1_most) 21 = .ok (.invokestatic 21, 3) := by decide +kernel
theorem d_X1_most_24 : decode (cd mX1_most) 24 = .ok (.ireturn, 1) := by decide +kernel
theorem d_X1_leastSide_0 : decode (cd mX1_leastSide) 0 = .ok (.aload_n 0, 1) := by decide +kernel
theorem d_X1_leastSide_1 : decode (cd mX1_leastSide) 1 = .ok (.getfield 9, 3) := by decide +kernel
theorem d_X1_leastSide_4 : decode (cd mX1_leastSide) 4 = .ok (.iconst 1, 1) := by decide +kernel
theorem d_X1_leastSide_5 : decode (cd mX1_leastSide) 5 = .ok (.isub, 1) := by decide +kernel
theorem d_X1_leastSide_6 : decode (cd mX1_leastSide) 6 = .ok (.istore_n 3, 1) := by decide +kernel
theorem d_X1_leastSide_7 : decode (cd mX1_leastSide) 7 = .ok (.iconst 1, 1) := by decide +kernel
theorem d_X1_leastSide_8 : decode (cd mX1_leastSide) 8 = .ok (.istore 4, 2) := by decide +kernel
theorem d_X1_leastSide_10 : decode (cd mX1_leastSide) 10 = .ok (.aload_n 0, 1) := by decide +kernel
theorem d_X1_leastSide_11 : decode (cd mX1_leastSide) 11 = .ok (.iload 4, 2) := by decide +kernel
theorem d_X1_leastSide_13 : decode (cd mX1_leastSide) 13 = .ok (.iload_n 1, 1) := by decide +kernel
theorem d_X1_leastSide_14 : decode (cd mX1_leastSide) 14 = .ok (.iload_n 2, 1) := by decide +kernel
theorem d_X1_leastSide_15 : decode (cd mX1_leastSide) 15 = .ok (.invokestatic 21, 3) := by decide +kernel
theorem d_X1_leastSide_18 : decode (cd mX1_leastSide) 18 = .ok (.istore 5, 2) := by decide +kernel
theorem d_X1_leastSide_20 : decode (cd mX1_leastSide) 20 = .ok (.iconst 3, 1) := by decide +kernel
theorem d_X1_leastSide_21 : decode (cd mX1_leastSide) 21 = .ok (.istore 6, 2) := by decide +kernel
theorem d_X1_leastSide_23 : decode (cd mX1_leastSide) 23 = .ok (.iload 6, 2) := by decide +kernel
theorem d_X1_leastSide_25 : decode (cd mX1_leastSide) 25 = .ok (.iconst 1, 1) := by decide +kernel
theorem d_X1_leastSide_26 : decode (cd mX1_leastSide) 26 = .ok (.iload_n 3, 1) := by decide +kernel
theorem d_X1_leastSide_27 : decode (cd mX1_leastSide) 27 = .ok (.ishl, 1) := by decide +kernel
theorem d_X1_leastSide_28 : decode (cd mX1_leastSide) 28 = .ok (.if_icmp .ge 34, 3) := by decide +kernel
theorem d_X1_leastSide_31 : decode (cd mX1_leastSide) 31 = .ok (.aload_n 0, 1) := by decide +kernel
theorem d_X1_leastSide_32 : decode (cd mX1_leastSide) 32 = .ok (.iload 6, 2) := by decide +kernel
theorem d_X1_leastSide_34 : decode (cd mX1_leastSide) 34 = .ok (.iload_n 1, 1) := by decide +kernel
theorem d_X1_leastSide_35 : decode (cd mX1_leastSide) 35 = .ok (.iload_n 2, 1) := by decide +kernel
theorem d_X1_leastSide_36 : decode (cd mX1_leastSide) 36 = .ok (.invokestatic 21, 3) := by decide +kernel
theorem d_X1_leastSide_39 : decode (cd mX1_leastSide) 39 = .ok (.istore 7, 2) := by decide +kernel
theorem d_X1_leastSide_41 : decode (cd mX1_leastSide) 41 = .ok (.iload 7, 2) := by decide +kernel
theorem d_X1_leastSide_43 : decode (cd mX1_leastSide) 43 = .ok (.iload 5, 2) := by decide +kernel
theorem d_X1_leastSide_45 : decode (cd mX1_leastSide) 45 = .ok (.if_icmp .ge 11, 3) := by decide +kernel
theorem d_X1_leastSide_48 : decode (cd mX1_leastSide) 48 = .ok (.iload 7, 2) := by decide +kernel
theorem d_X1_leastSide_50 : decode (cd mX1_leastSide) 50 = .ok (.istore 5, 2) := by decide +kernel
theorem d_X1_leastSide_52 : decode (cd mX1_leastSide) 52 = .ok (.iload 6, 2) := by decide +kernel
theorem d_X1_leastSide_54 : decode (cd mX1_leastSide) 54 = .ok (.istore 4, 2) := by decide +kernel
theorem d_X1_leastSide_56 : decode (cd mX1_leastSide) 56 = .ok (.iinc 6 2, 3) := by decide +kernel
theorem d_X1_leastSide_59 : decode (cd mX1_leastSide) 59 = .ok (.goto (-36), 3) := by decide +kernel
theorem d_X1_leastSide_62 : decode (cd mX1_leastSide) 62 = .ok (.iload 4, 2) := by decide +kernel
theorem d_X1_leastSide_64 : decode (cd mX1_leastSide) 64 = .ok (.ireturn, 1) := by decide +kernel
theorem d_X1_acrossFrom_0 : decode (cd mX1_acrossFrom) 0 = .ok (.iconst 0, 1) := by decide +kernel
theorem d_X1_acrossFrom_1 : decode (cd mX1_acrossFrom) 1 = .ok (.istore 4, 2) := by decide +kernel
theorem d_X1_acrossFrom_3 : decode (cd mX1_acrossFrom) 3 = .ok (.iconst 0, 1) := by decide +kernel
theorem d_X1_acrossFrom_4 : decode (cd mX1_acrossFrom) 4 = .ok (.istore 5, 2) := by decide +kernel
theorem d_X1_acrossFrom_6 : decode (cd mX1_acrossFrom) 6 = .ok (.iload 5, 2) := by decide +kernel
theorem d_X1_acrossFrom_8 : decode (cd mX1_acrossFrom) 8 = .ok (.aload_n 0, 1) := by decide +kernel
theorem d_X1_acrossFrom_9 : decode (cd mX1_acrossFrom) 9 = .ok (.getfield 25, 3) := by decide +kernel
theorem d_X1_acrossFrom_12 : decode (cd mX1_acrossFrom) 12 = .ok (.getfield 29, 3) := by decide +kernel
theorem d_X1_acrossFrom_15 : decode (cd mX1_acrossFrom) 15 = .ok (.if_icmp .ge 94, 3) := by decide +kernel
theorem d_X1_acrossFrom_18 : decode (cd mX1_acrossFrom) 18 = .ok (.iload_n 1, 1) := by decide +kernel
theorem d_X1_acrossFrom_19 : decode (cd mX1_acrossFrom) 19 = .ok (.aload_n 0, 1) := by decide +kernel
theorem d_X1_acrossFrom_20 : decode (cd mX1_acrossFrom) 20 = .ok (.getfield 25, 3) := by decide +kernel
theorem d_X1_acrossFrom_23 : decode (cd mX1_acrossFrom) 23 = .ok (.iload 5, 2) := by decide +kernel
theorem d_X1_acrossFrom_25 : decode (cd mX1_acrossFrom) 25 = .ok (.iconst 0, 1) := by decide +kernel
theorem d_X1_acrossFrom_26 : decode (cd mX1_acrossFrom) 26 = .ok (.invokevirtual 34, 3) := by decide +kernel
theorem d_X1_acrossFrom_29 : decode (cd mX1_acrossFrom) 29 = .ok (.ishr, 1) := by decide +kernel
theorem d_X1_acrossFrom_30 : decode (cd mX1_acrossFrom) 30 = .ok (.iconst 1, 1) := by decide +kernel
theorem d_X1_acrossFrom_31 : decode (cd mX1_acrossFrom) 31 = .ok (.iand, 1) := by decide +kernel
theorem d_X1_acrossFrom_32 : decode (cd mX1_acrossFrom) 32 = .ok (.iconst 1, 1) := by decide +kernel
theorem d_X1_acrossFrom_33 : decode (cd mX1_acrossFrom) 33 = .ok (.if_icmp .ne 7, 3) := by decide +kernel
theorem d_X1_acrossFrom_36 : decode (cd mX1_acrossFrom) 36 = .ok (.iconst 1, 1) := by decide +kernel
theorem d_X1_acrossFrom_37 : decode (cd mX1_acrossFrom) 37 = .ok (.goto 4, 3) := by decide +kernel
theorem d_X1_acrossFrom_40 : decode (cd mX1_acrossFrom) 40 = .ok (.iconst 0, 1) := by decide +kernel
theorem d_X1_acrossFrom_41 : decode (cd mX1_acrossFrom) 41 = .ok (.istore 6, 2) := by decide +kernel
theorem d_X1_acrossFrom_43 : decode (cd mX1_acrossFrom) 43 = .ok (.iload_n 1, 1) := by decide +kernel
theorem d_X1_acrossFrom_44 : decode (cd mX1_acrossFrom) 44 = .ok (.aload_n 0, 1) := by decide +kernel
theorem d_X1_acrossFrom_45 : decode (cd mX1_acrossFrom) 45 = .ok (.getfield 25, 3) := by decide +kernel
theorem d_X1_acrossFrom_48 : decode (cd mX1_acrossFrom) 48 = .ok (.iload 5, 2) := by decide +kernel
theorem d_X1_acrossFrom_50 : decode (cd mX1_acrossFrom) 50 = .ok (.iconst 1, 1) := by decide +kernel
theorem d_X1_acrossFrom_51 : decode (cd mX1_acrossFrom) 51 = .ok (.invokevirtual 34, 3) := by decide +kernel
theorem d_X1_acrossFrom_54 : decode (cd mX1_acrossFrom) 54 = .ok (.ishr, 1) := by decide +kernel
theorem d_X1_acrossFrom_55 : decode (cd mX1_acrossFrom) 55 = .ok (.iconst 1, 1) := by decide +kernel
theorem d_X1_acrossFrom_56 : decode (cd mX1_acrossFrom) 56 = .ok (.iand, 1) := by decide +kernel
theorem d_X1_acrossFrom_57 : decode (cd mX1_acrossFrom) 57 = .ok (.iconst 1, 1) := by decide +kernel
theorem d_X1_acrossFrom_58 : decode (cd mX1_acrossFrom) 58 = .ok (.if_icmp .ne 7, 3) := by decide +kernel
theorem d_X1_acrossFrom_61 : decode (cd mX1_acrossFrom) 61 = .ok (.iconst 1, 1) := by decide +kernel
theorem d_X1_acrossFrom_62 : decode (cd mX1_acrossFrom) 62 = .ok (.goto 4, 3) := by decide +kernel
theorem d_X1_acrossFrom_65 : decode (cd mX1_acrossFrom) 65 = .ok (.iconst 0, 1) := by decide +kernel
theorem d_X1_acrossFrom_66 : decode (cd mX1_acrossFrom) 66 = .ok (.istore 7, 2) := by decide +kernel
theorem d_X1_acrossFrom_68 : decode (cd mX1_acrossFrom) 68 = .ok (.iload 6, 2) := by decide +kernel
theorem d_X1_acrossFrom_70 : decode (cd mX1_acrossFrom) 70 = .ok (.ifCond .eq 33, 3) := by decide +kernel
theorem d_X1_acrossFrom_73 : decode (cd mX1_acrossFrom) 73 = .ok (.iload 7, 2) := by decide +kernel
theorem d_X1_acrossFrom_75 : decode (cd mX1_acrossFrom) 75 = .ok (.ifCond .ne 28, 3) := by decide +kernel
theorem d_X1_acrossFrom_78 : decode (cd mX1_acrossFrom) 78 = .ok (.iload 4, 2) := by decide +kernel
theorem d_X1_acrossFrom_80 : decode (cd mX1_acrossFrom) 80 = .ok (.iload 5, 2) := by decide +kernel
theorem d_X1_acrossFrom_82 : decode (cd mX1_acrossFrom) 82 = .ok (.iload_n 2, 1) := by decide +kernel
theorem d_X1_acrossFrom_83 : decode (cd mX1_acrossFrom) 83 = .ok (.if_icmp .ne 7, 3) := by decide +kernel
theorem d_X1_acrossFrom_86 : decode (cd mX1_acrossFrom) 86 = .ok (.iload_n 3, 1) := by decide +kernel
theorem d_X1_acrossFrom_87 : decode (cd mX1_acrossFrom) 87 = .ok (.goto 13, 3) := by decide +kernel
theorem d_X1_acrossFrom_90 : decode (cd mX1_acrossFrom) 90 = .ok (.aload_n 0, 1) := by decide +kernel
theorem d_X1_acrossFrom_91 : decode (cd mX1_acrossFrom) 91 = .ok (.getfield 25, 3) := by decide +kernel
theorem d_X1_acrossFrom_94 : decode (cd mX1_acrossFrom) 94 = .ok (.iload 5, 2) := by decide +kernel
theorem d_X1_acrossFrom_96 : decode (cd mX1_acrossFrom) 96 = .ok (.iconst 2, 1) := by decide +kernel
theorem d_X1_acrossFrom_97 : decode (cd mX1_acrossFrom) 97 = .ok (.invokevirtual 34, 3) := by decide +kernel
theorem d_X1_acrossFrom_100 : decode (cd mX1_acrossFrom) 100 = .ok (.iadd, 1) := by decide +kernel
theorem d_X1_acrossFrom_101 : decode (cd mX1_acrossFrom) 101 = .ok (.istore 4, 2) := by decide +kernel
theorem d_X1_acrossFrom_103 : decode (cd mX1_acrossFrom) 103 = .ok (.iinc 5 1, 3) := by decide +kernel
theorem d_X1_acrossFrom_106 : decode (cd mX1_acrossFrom) 106 = .ok (.goto (-100), 3) := by decide +kernel
theorem d_X1_acrossFrom_109 : decode (cd mX1_acrossFrom) 109 = .ok (.iload 4, 2) := by decide +kernel
theorem d_X1_acrossFrom_111 : decode (cd mX1_acrossFrom) 111 = .ok (.ireturn, 1) := by decide +kernel
theorem d_X1_narrowDitches_0 : decode (cd mX1_narrowDitches) 0 = .ok (.aload_n 0, 1) := by decide +kernel
theorem d_X1_narrowDitches_1 : decode (cd mX1_narrowDitches) 1 = .ok (.iconst (-1), 1) := by decide +kernel
theorem d_X1_narrowDitches_2 : decode (cd mX1_narrowDitches) 2 = .ok (.iconst 0, 1) := by decide +kernel
theorem d_X1_narrowDitches_3 : decode (cd mX1_narrowDitches) 3 = .ok (.invokestatic 38, 3) := by decide +kernel
theorem d_X1_narrowDitches_6 : decode (cd mX1_narrowDitches) 6 = .ok (.istore_n 1, 1) := by decide +kernel
theorem d_X1_narrowDitches_7 : decode (cd mX1_narrowDitches) 7 = .ok (.iconst 0, 1) := by decide +kernel
theorem d_X1_narrowDitches_8 : decode (cd mX1_narrowDitches) 8 = .ok (.istore_n 2, 1) := by decide +kernel
theorem d_X1_narrowDitches_9 : decode (cd mX1_narrowDitches) 9 = .ok (.iconst 0, 1) := by decide +kernel
theorem d_X1_narrowDitches_10 : decode (cd mX1_narrowDitches) 10 = .ok (.istore_n 3, 1) := by decide +kernel
theorem d_X1_narrowDitches_11 : decode (cd mX1_narrowDitches) 11 = .ok (.iload_n 3, 1) := by decide +kernel
theorem d_X1_narrowDitches_12 : decode (cd mX1_narrowDitches) 12 = .ok (.aload_n 0, 1) := by decide +kernel
theorem d_X1_narrowDitches_13 : decode (cd mX1_narrowDitches) 13 = .ok (.getfield 25, 3) := by decide +kernel
theorem d_X1_narrowDitches_16 : decode (cd mX1_narrowDitches) 16 = .ok (.getfield 29, 3) := by decide +kernel
theorem d_X1_narrowDitches_19 : decode (cd mX1_narrowDitches) 19 = .ok (.if_icmp .ge 35, 3) := by decide +kernel
theorem d_X1_narrowDitches_22 : decode (cd mX1_narrowDitches) 22 = .ok (.aload_n 0, 1) := by decide +kernel
theorem d_X1_narrowDitches_23 : decode (cd mX1_narrowDitches) 23 = .ok (.iload_n 3, 1) := by decide +kernel
theorem d_X1_narrowDitches_24 : decode (cd mX1_narrowDitches) 24 = .ok (.aload_n 0, 1) := by decide +kernel
theorem d_X1_narrowDitches_25 : decode (cd mX1_narrowDitches) 25 = .ok (.getfield 25, 3) := by decide +kernel
theorem d_X1_narrowDitches_28 : decode (cd mX1_narrowDitches) 28 = .ok (.iload_n 3, 1) := by decide +kernel
theorem d_X1_narrowDitches_29 : decode (cd mX1_narrowDitches) 29 = .ok (.iconst 2, 1) := by decide +kernel
theorem d_X1_narrowDitches_30 : decode (cd mX1_narrowDitches) 30 = .ok (.invokevirtual 34, 3) := by decide +kernel
theorem d_X1_narrowDitches_33 : decode (cd mX1_narrowDitches) 33 = .ok (.iconst 1, 1) := by decide +kernel
theorem d_X1_narrowDitches_34 : decode (cd mX1_narrowDitches) 34 = .ok (.iadd, 1) := by decide +kernel
theorem d_X1_narrowDitches_35 : decode (cd mX1_narrowDitches) 35 = .ok (.invokestatic 38, 3) := by decide +kernel
theorem d_X1_narrowDitches_38 : decode (cd mX1_narrowDitches) 38 = .ok (.iload_n 1, 1) := by decide +kernel
theorem d_X1_narrowDitches_39 : decode (cd mX1_narrowDitches) 39 = .ok (.if_icmp .le 9, 3) := by decide +kernel
theorem d_X1_narrowDitches_42 : decode (cd mX1_narrowDitches) 42 = .ok (.iload_n 2, 1) := by decide +kernel
theorem d_X1_narrowDitches_43 : decode (cd mX1_narrowDitches) 43 = .ok (.iconst 1, 1) := by decide +kernel
theorem d_X1_narrowDitches_44 : decode (cd mX1_narrowDitches) 44 = .ok (.iload_n 3, 1) := by decide +kernel
theorem d_X1_narrowDitches_45 : decode (cd mX1_narrowDitches) 45 = .ok (.ishl, 1) := by decide +kernel
theorem d_X1_narrowDitches_46 : decode (cd mX1_narrowDitches) 46 = .ok (.ior, 1) := by decide +kernel
theorem d_X1_narrowDitches_47 : decode (cd mX1_narrowDitches) 47 = .ok (.istore_n 2, 1) := by decide +kernel
theorem d_X1_narrowDitches_48 : decode (cd mX1_narrowDitches) 48 = .ok (.iinc 3 1, 3) := by decide +kernel
theorem d_X1_narrowDitches_51 : decode (cd mX1_narrowDitches) 51 = .ok (.goto (-40), 3) := by decide +kernel
theorem d_X1_narrowDitches_54 : decode (cd mX1_narrowDitches) 54 = .ok (.iload_n 2, 1) := by decide +kernel
theorem d_X1_narrowDitches_55 : decode (cd mX1_narrowDitches) 55 = .ok (.ireturn, 1) := by decide +kernel
theorem d_X1_reachedFrom_0 : decode (cd mX1_reachedFrom) 0 = .ok (.iconst 1, 1) := by decide +kernel
theorem d_X1_reachedFrom_1 : decode (cd mX1_reachedFrom) 1 = .ok (.iload_n 1, 1) := by decide +kernel
theorem d_X1_reachedFrom_2 : decode (cd mX1_reachedFrom) 2 = .ok (.ishl, 1) := by decide +kernel
theorem d_X1_reachedFrom_3 : decode (cd mX1_reachedFrom) 3 = .ok (.istore_n 2, 1) := by decide +kernel
theorem d_X1_reachedFrom_4 : decode (cd mX1_reachedFrom) 4 = .ok (.iconst 0, 1) := by decide +kernel
theorem d_X1_reachedFrom_5 : decode (cd mX1_reachedFrom) 5 = .ok (.istore_n 3, 1) := by decide +kernel
theorem d_X1_reachedFrom_6 : decode (cd mX1_reachedFrom) 6 = .ok (.iload_n 3, 1) := by decide +kernel
theorem d_X1_reachedFrom_7 : decode (cd mX1_reachedFrom) 7 = .ok (.aload_n 0, 1) := by decide +kernel
theorem d_X1_reachedFrom_8 : decode (cd mX1_reachedFrom) 8 = .ok (.getfield 9, 3) := by decide +kernel
theorem d_X1_reachedFrom_11 : decode (cd mX1_reachedFrom) 11 = .ok (.if_icmp .ge 63, 3) := by decide +kernel
theorem d_X1_reachedFrom_14 : decode (cd mX1_reachedFrom) 14 = .ok (.iconst 0, 1) := by decide +kernel
theorem d_X1_reachedFrom_15 : decode (cd mX1_reachedFrom) 15 = .ok (.istore 4, 2) := by decide +kernel
theorem d_X1_reachedFrom_17 : decode (cd mX1_reachedFrom) 17 = .ok (.iload 4, 2) := by decide +kernel
theorem d_X1_reachedFrom_19 : decode (cd mX1_reachedFrom) 19 = .ok (.aload_n 0, 1) := by decide +kernel
theorem d_X1_reachedFrom_20 : decode (cd mX1_reachedFrom) 20 = .ok (.getfield 25, 3) := by decide +kernel
theorem d_X1_reachedFrom_23 : decode (cd mX1_reachedFrom) 23 = .ok (.getfield 29, 3) := by decide +kernel
theorem d_X1_reachedFrom_26 : decode (cd mX1_reachedFrom) 26 = .ok (.if_icmp .ge 42, 3) := by decide +kernel
theorem d_X1_reachedFrom_29 : decode (cd mX1_reachedFrom) 29 = .ok (.iload_n 2, 1) := by decide +kernel
theorem d_X1_reachedFrom_30 : decode (cd mX1_reachedFrom) 30 = .ok (.aload_n 0, 1) := by decide +kernel
theorem d_X1_reachedFrom_31 : decode (cd mX1_reachedFrom) 31 = .ok (.getfield 25, 3) := by decide +kernel
theorem d_X1_reachedFrom_34 : decode (cd mX1_reachedFrom) 34 = .ok (.iload 4, 2) := by decide +kernel
theorem d_X1_reachedFrom_36 : decode (cd mX1_reachedFrom) 36 = .ok (.iconst 0, 1) := by decide +kernel
theorem d_X1_reachedFrom_37 : decode (cd mX1_reachedFrom) 37 = .ok (.invokevirtual 34, 3) := by decide +kernel
theorem d_X1_reachedFrom_40 : decode (cd mX1_reachedFrom) 40 = .ok (.ishr, 1) := by decide +kernel
theorem d_X1_reachedFrom_41 : decode (cd mX1_reachedFrom) 41 = .ok (.iconst 1, 1) := by decide +kernel
theorem d_X1_reachedFrom_42 : decode (cd mX1_reachedFrom) 42 = .ok (.iand, 1) := by decide +kernel
theorem d_X1_reachedFrom_43 : decode (cd mX1_reachedFrom) 43 = .ok (.iconst 1, 1) := by decide +kernel
theorem d_X1_reachedFrom_44 : decode (cd mX1_reachedFrom) 44 = .ok (.if_icmp .ne 18, 3) := by decide +kernel
theorem d_X1_reachedFrom_47 : decode (cd mX1_reachedFrom) 47 = .ok (.iload_n 2, 1) := by decide +kernel
theorem d_X1_reachedFrom_48 : decode (cd mX1_reachedFrom) 48 = .ok (.iconst 1, 1) := by decide +kernel
theorem d_X1_reachedFrom_49 : decode (cd mX1_reachedFrom) 49 = .ok (.aload_n 0, 1) := by decide +kernel
theorem d_X1_reachedFrom_50 : decode (cd mX1_reachedFrom) 50 = .ok (.getfield 25, 3) := by decide +kernel
theorem d_X1_reachedFrom_53 : decode (cd mX1_reachedFrom) 53 = .ok (.iload 4, 2) := by decide +kernel
theorem d_X1_reachedFrom_55 : decode (cd mX1_reachedFrom) 55 = .ok (.iconst 1, 1) := by decide +kernel
theorem d_X1_reachedFrom_56 : decode (cd mX1_reachedFrom) 56 = .ok (.invokevirtual 34, 3) := by decide +kernel
theorem d_X1_reachedFrom_59 : decode (cd mX1_reachedFrom) 59 = .ok (.ishl, 1) := by decide +kernel
theorem d_X1_reachedFrom_60 : decode (cd mX1_reachedFrom) 60 = .ok (.ior, 1) := by decide +kernel
theorem d_X1_reachedFrom_61 : decode (cd mX1_reachedFrom) 61 = .ok (.istore_n 2, 1) := by decide +kernel
theorem d_X1_reachedFrom_62 : decode (cd mX1_reachedFrom) 62 = .ok (.iinc 4 1, 3) := by decide +kernel
theorem d_X1_reachedFrom_65 : decode (cd mX1_reachedFrom) 65 = .ok (.goto (-48), 3) := by decide +kernel
theorem d_X1_reachedFrom_68 : decode (cd mX1_reachedFrom) 68 = .ok (.iinc 3 1, 3) := by decide +kernel
theorem d_X1_reachedFrom_71 : decode (cd mX1_reachedFrom) 71 = .ok (.goto (-65), 3) := by decide +kernel
theorem d_X1_reachedFrom_74 : decode (cd mX1_reachedFrom) 74 = .ok (.iload_n 2, 1) := by decide +kernel
theorem d_X1_reachedFrom_75 : decode (cd mX1_reachedFrom) 75 = .ok (.ireturn, 1) := by decide +kernel
theorem d_X2_init_0 : decode (cd mX2_init) 0 = .ok (.aload_n 0, 1) := by decide +kernel
theorem d_X2_init_1 : decode (cd mX2_init) 1 = .ok (.invokespecial 5, 3) := by decide +kernel
theorem d_X2_init_4 : decode (cd mX2_init) 4 = .ok (.aload_n 0, 1) := by decide +kernel
theorem d_X2_init_5 : decode (cd mX2_init) 5 = .ok (.new 11, 3) := by decide +kernel
theorem d_X2_init_8 : decode (cd mX2_init) 8 = .ok (.dup, 1) := by decide +kernel
theorem d_X2_init_9 : decode (cd mX2_init) 9 = .ok (.invokespecial 13, 3) := by decide +kernel
theorem d_X2_init_12 : decode (cd mX2_init) 12 = .ok (.putfield 14, 3) := by decide +kernel
theorem d_X2_init_15 : decode (cd mX2_init) 15 = .ok (.aload_n 0, 1) := by decide +kernel
theorem d_X2_init_16 : decode (cd mX2_init) 16 = .ok (.sipush 1919, 3) := by decide +kernel
theorem d_X2_init_19 : decode (cd mX2_init) 19 = .ok (.newarray .int, 2) := by decide +kernel
theorem d_X2_init_21 : decode (cd mX2_init) 21 = .ok (.putfield 18, 3) := by decide +kernel
theorem d_X2_init_24 : decode (cd mX2_init) 24 = .ok (.return_, 1) := by decide +kernel
theorem d_X2_behind_0 : decode (cd mX2_behind) 0 = .ok (.aload_n 0, 1) := by decide +kernel
theorem d_X2_behind_1 : decode (cd mX2_behind) 1 = .ok (.getfield 14, 3) := by decide +kernel
theorem d_X2_behind_4 : decode (cd mX2_behind) 4 = .ok (.aload_n 2, 1) := by decide +kernel
theorem d_X2_behind_5 : decode (cd mX2_behind) 5 = .ok (.invokevirtual 22, 3) := by decide +kernel
theorem d_X2_behind_8 : decode (cd mX2_behind) 8 = .ok (.iconst 0, 1) := by decide +kernel
theorem d_X2_behind_9 : decode (cd mX2_behind) 9 = .ok (.istore 4, 2) := by decide +kernel
theorem d_X2_behind_11 : decode (cd mX2_behind) 11 = .ok (.iload 4, 2) := by decide +kernel
theorem d_X2_behind_13 : decode (cd mX2_behind) 13 = .ok (.iload_n 3, 1) := by decide +kernel
theorem d_X2_behind_14 : decode (cd mX2_behind) 14 = .ok (.if_icmp .ge 17, 3) := by decide +kernel
theorem d_X2_behind_17 : decode (cd mX2_behind) 17 = .ok (.aload_n 0, 1) := by decide +kernel
theorem d_X2_behind_18 : decode (cd mX2_behind) 18 = .ok (.getfield 14, 3) := by decide +kernel
theorem d_X2_behind_21 : decode (cd mX2_behind) 21 = .ok (.aload_n 1, 1) := by decide +kernel
theorem d_X2_behind_22 : decode (cd mX2_behind) 22 = .ok (.invokevirtual 26, 3) := by decide +kernel
theorem d_X2_behind_25 : decode (cd mX2_behind) 25 = .ok (.iinc 4 1, 3) := by decide +kernel
theorem d_X2_behind_28 : decode (cd mX2_behind) 28 = .ok (.goto (-17), 3) := by decide +kernel
theorem d_X2_behind_31 : decode (cd mX2_behind) 31 = .ok (.aload_n 0, 1) := by decide +kernel
theorem d_X2_behind_32 : decode (cd mX2_behind) 32 = .ok (.getfield 14, 3) := by decide +kernel
theorem d_X2_behind_35 : decode (cd mX2_behind) 35 = .ok (.areturn, 1) := by decide +kernel
theorem d_X2_keeps_0 : decode (cd mX2_keeps) 0 = .ok (.aload_n 1, 1) := by decide +kernel
theorem d_X2_keeps_1 : decode (cd mX2_keeps) 1 = .ok (.getfield 30, 3) := by decide +kernel
theorem d_X2_keeps_4 : decode (cd mX2_keeps) 4 = .ok (.iload_n 3, 1) := by decide +kernel
theorem d_X2_keeps_5 : decode (cd mX2_keeps) 5 = .ok (.iconst 0, 1) := by decide +kernel
theorem d_X2_keeps_6 : decode (cd mX2_keeps) 6 = .ok (.invokevirtual 36, 3) := by decide +kernel
theorem d_X2_keeps_9 : decode (cd mX2_keeps) 9 = .ok (.iconst 1, 1) := by decide +kernel
theorem d_X2_keeps_10 : decode (cd mX2_keeps) 10 = .ok (.iadd, 1) := by decide +kernel
theorem d_X2_keeps_11 : decode (cd mX2_keeps) 11 = .ok (.aload_n 2, 1) := by decide +kernel
theorem d_X2_keeps_12 : decode (cd mX2_keeps) 12 = .ok (.getfield 42, 3) := by decide +kernel
theorem d_X2_keeps_15 : decode (cd mX2_keeps) 15 = .ok (.isub, 1) := by decide +kernel
theorem d_X2_keeps_16 : decode (cd mX2_keeps) 16 = .ok (.istore 4, 2) := by decide +kernel
theorem d_X2_keeps_18 : decode (cd mX2_keeps) 18 = .ok (.aload_n 1, 1) := by decide +kernel
theorem d_X2_keeps_19 : decode (cd mX2_keeps) 19 = .ok (.iload_n 3, 1) := by decide +kernel
theorem d_X2_keeps_20 : decode (cd mX2_keeps) 20 = .ok (.aload_n 0, 1) := by decide +kernel
theorem d_X2_keeps_21 : decode (cd mX2_keeps) 21 = .ok (.aload_n 1, 1) := by decide +kernel
theorem d_X2_keeps_22 : decode (cd mX2_keeps) 22 = .ok (.aload_n 2, 1) := by decide +kernel
theorem d_X2_keeps_23 : decode (cd mX2_keeps) 23 = .ok (.iload 4, 2) := by decide +kernel
theorem d_X2_keeps_25 : decode (cd mX2_keeps) 25 = .ok (.invokevirtual 46, 3) := by decide +kernel
theorem d_X2_keeps_28 : decode (cd mX2_keeps) 28 = .ok (.invokevirtual 50, 3) := by decide +kernel
theorem d_X2_keeps_31 : decode (cd mX2_keeps) 31 = .ok (.ireturn, 1) := by decide +kernel
theorem d_X2_daysWith_0 : decode (cd mX2_daysWith) 0 = .ok (.iconst 0, 1) := by decide +kernel
theorem d_X2_daysWith_1 : decode (cd mX2_daysWith) 1 = .ok (.istore 5, 2) := by decide +kernel
theorem d_X2_daysWith_3 : decode (cd mX2_daysWith) 3 = .ok (.aload_n 0, 1) := by decide +kernel
theorem d_X2_daysWith_4 : decode (cd mX2_daysWith) 4 = .ok (.getfield 14, 3) := by decide +kernel
theorem d_X2_daysWith_7 : decode (cd mX2_daysWith) 7 = .ok (.aload_n 2, 1) := by decide +kernel
theorem d_X2_daysWith_8 : decode (cd mX2_daysWith) 8 = .ok (.invokevirtual 22, 3) := by decide +kernel
theorem d_X2_daysWith_11 : decode (cd mX2_daysWith) 11 = .ok (.iconst 0, 1) := by decide +kernel
theorem d_X2_daysWith_12 : decode (cd mX2_daysWith) 12 = .ok (.istore 6, 2) := by decide +kernel
theorem d_X2_daysWith_14 : decode (cd mX2_daysWith) 14 = .ok (.iload 6, 2) := by decide +kernel
theorem d_X2_daysWith_16 : decode (cd mX2_daysWith) 16 = .ok (.iload 4, 2) := by decide +kernel
theorem d_X2_daysWith_18 : decode (cd mX2_daysWith) 18 = .ok (.if_icmp .ge 38, 3) := by decide +kernel
theorem d_X2_daysWith_21 : decode (cd mX2_daysWith) 21 = .ok (.aload_n 0, 1) := by decide +kernel
theorem d_X2_daysWith_22 : decode (cd mX2_daysWith) 22 = .ok (.getfield 14, 3) := by decide +kernel
theorem d_X2_daysWith_25 : decode (cd mX2_daysWith) 25 = .ok (.aload_n 1, 1) := by decide +kernel
theorem d_X2_daysWith_26 : decode (cd mX2_daysWith) 26 = .ok (.invokevirtual 26, 3) := by decide +kernel
theorem d_X2_daysWith_29 : decode (cd mX2_daysWith) 29 = .ok (.iload 5, 2) := by decide +kernel
theorem d_X2_daysWith_31 : decode (cd mX2_daysWith) 31 = .ok (.aload_n 0, 1) := by decide +kernel
theorem d_X2_daysWith_32 : decode (cd mX2_daysWith) 32 = .ok (.getfield 14, 3) := by decide +kernel
theorem d_X2_daysWith_35 : decode (cd mX2_daysWith) 35 = .ok (.getfield 54, 3) := by decide +kernel
theorem d_X2_daysWith_38 : decode (cd mX2_daysWith) 38 = .ok (.iload_n 3, 1) := by decide +kernel
theorem d_X2_daysWith_39 : decode (cd mX2_daysWith) 39 = .ok (.if_icmp .ne 7, 3) := by decide +kernel
theorem d_X2_daysWith_42 : decode (cd mX2_daysWith) 42 = .ok (.iconst 1, 1) := by decide +kernel
theorem d_X2_daysWith_43 : decode (cd mX2_daysWith) 43 = .ok (.goto 4, 3) := by decide +kernel
theorem d_X2_daysWith_46 : decode (cd mX2_daysWith) 46 = .ok (.iconst 0, 1) := by decide +kernel
theorem d_X2_daysWith_47 : decode (cd mX2_daysWith) 47 = .ok (.iadd, 1) := by decide +kernel
theorem d_X2_daysWith_48 : decode (cd mX2_daysWith) 48 = .ok (.istore 5, 2) := by decide +kernel
theorem d_X2_daysWith_50 : decode (cd mX2_daysWith) 50 = .ok (.iinc 6 1, 3) := by decide +kernel
theorem d_X2_daysWith_53 : decode (cd mX2_daysWith) 53 = .ok (.goto (-39), 3) := by decide +kernel
theorem d_X2_daysWith_56 : decode (cd mX2_daysWith) 56 = .ok (.iload 5, 2) := by decide +kernel
theorem d_X2_daysWith_58 : decode (cd mX2_daysWith) 58 = .ok (.ireturn, 1) := by decide +kernel
theorem d_X2_daysUntil_0 : decode (cd mX2_daysUntil) 0 = .ok (.aload_n 0, 1) := by decide +kernel
theorem d_X2_daysUntil_1 : decode (cd mX2_daysUntil) 1 = .ok (.getfield 14, 3) := by decide +kernel
theorem d_X2_daysUntil_4 : decode (cd mX2_daysUntil) 4 = .ok (.aload_n 2, 1) := by decide +kernel
theorem d_X2_daysUntil_5 : decode (cd mX2_daysUntil) 5 = .ok (.invokevirtual 22, 3) := by decide +kernel
theorem d_X2_daysUntil_8 : decode (cd mX2_daysUntil) 8 = .ok (.iconst 0, 1) := by decide +kernel
theorem d_X2_daysUntil_9 : decode (cd mX2_daysUntil) 9 = .ok (.istore 4, 2) := by decide +kernel
theorem d_X2_daysUntil_11 : decode (cd mX2_daysUntil) 11 = .ok (.iload 4, 2) := by decide +kernel
theorem d_X2_daysUntil_13 : decode (cd mX2_daysUntil) 13 = .ok (.bipush 60, 2) := by decide +kernel
theorem d_X2_daysUntil_15 : decode (cd mX2_daysUntil) 15 = .ok (.if_icmp .gt 31, 3) := by decide +kernel
theorem d_X2_daysUntil_18 : decode (cd mX2_daysUntil) 18 = .ok (.aload_n 0, 1) := by decide +kernel
theorem d_X2_daysUntil_19 : decode (cd mX2_daysUntil) 19 = .ok (.getfield 14, 3) := by decide +kernel
theorem d_X2_daysUntil_22 : decode (cd mX2_daysUntil) 22 = .ok (.invokevirtual 57, 3) := by decide +kernel
theorem d_X2_daysUntil_25 : decode (cd mX2_daysUntil) 25 = .ok (.iload_n 3, 1) := by decide +kernel
theorem d_X2_daysUntil_26 : decode (cd mX2_daysUntil) 26 = .ok (.if_icmp .ne 6, 3) := by decide +kernel
theorem d_X2_daysUntil_29 : decode (cd mX2_daysUntil) 29 = .ok (.iload 4, 2) := by decide +kernel
theorem d_X2_daysUntil_31 : decode (cd mX2_daysUntil) 31 = .ok (.ireturn, 1) := by decide +kernel
theorem d_X2_daysUntil_32 : decode (cd mX2_daysUntil) 32 = .ok (.aload_n 0, 1) := by decide +kernel
theorem d_X2_daysUntil_33 : decode (cd mX2_daysUntil) 33 = .ok (.getfield 14, 3) := by decide +kernel
theorem d_X2_daysUntil_36 : decode (cd mX2_daysUntil) 36 = .ok (.aload_n 1, 1) := by decide +kernel
theorem d_X2_daysUntil_37 : decode (cd mX2_daysUntil) 37 = .ok (.invokevirtual 26, 3) := by decide +kernel
theorem d_X2_daysUntil_40 : decode (cd mX2_daysUntil) 40 = .ok (.iinc 4 1, 3) := by decide +kernel
theorem d_X2_daysUntil_43 : decode (cd mX2_daysUntil) 43 = .ok (.goto (-32), 3) := by decide +kernel
theorem d_X2_daysUntil_46 : decode (cd mX2_daysUntil) 46 = .ok (.bipush (-2), 2) := by decide +kernel
theorem d_X2_daysUntil_48 : decode (cd mX2_daysUntil) 48 = .ok (.ireturn, 1) := by decide +kernel
theorem d_X2_goesRound_0 : decode (cd mX2_goesRound) 0 = .ok (.aload_n 0, 1) := by decide +kernel
theorem d_X2_goesRound_1 : decode (cd mX2_goesRound) 1 = .ok (.getfield 18, 3) := by decide +kernel
theorem d_X2_goesRound_4 : decode (cd mX2_goesRound) 4 = .ok (.iconst 0, 1) := by decide +kernel
theorem d_X2_goesRound_5 : decode (cd mX2_goesRound) 5 = .ok (.invokestatic 61, 3) := by decide +kernel
theorem d_X2_goesRound_8 : decode (cd mX2_goesRound) 8 = .ok (.aload_n 0, 1) := by decide +kernel
theorem d_X2_goesRound_9 : decode (cd mX2_goesRound) 9 = .ok (.getfield 14, 3) := by decide +kernel
theorem d_X2_goesRound_12 : decode (cd mX2_goesRound) 12 = .ok (.aload_n 2, 1) := by decide +kernel
theorem d_X2_goesRound_13 : decode (cd mX2_goesRound) 13 = .ok (.invokevirtual 22, 3) := by decide +kernel
theorem d_X2_goesRound_16 : decode (cd mX2_goesRound) 16 = .ok (.iconst 1, 1) := by decide +kernel
theorem d_X2_goesRound_17 : decode (cd mX2_goesRound) 17 = .ok (.istore_n 3, 1) := by decide +kernel
theorem d_X2_goesRound_18 : decode (cd mX2_goesRound) 18 = .ok (.iload_n 3, 1) := by decide +kernel
theorem d_X2_goesRound_19 : decode (cd mX2_goesRound) 19 = .ok (.sipush 1920, 3) := by decide +kernel
theorem d_X2_goesRound_22 : decode (cd mX2_goesRound) 22 = .ok (.if_icmp .gt 90, 3) := by decide +kernel
theorem d_X2_goesRound_25 : decode (cd mX2_goesRound) 25 = .ok (.aload_n 0, 1) := by decide +kernel
theorem d_X2_goesRound_26 : decode (cd mX2_goesRound) 26 = .ok (.getfield 14, 3) := by decide +kernel
theorem d_X2_goesRound_29 : decode (cd mX2_goesRound) 29 = .ok (.aload_n 1, 1) := by decide +kernel
theorem d_X2_goesRound_30 : decode (cd mX2_goesRound) 30 = .ok (.invokevirtual 26, 3) := by decide +kernel
theorem d_X2_goesRound_33 : decode (cd mX2_goesRound) 33 = .ok (.aload_n 0, 1) := by decide +kernel
theorem d_X2_goesRound_34 : decode (cd mX2_goesRound) 34 = .ok (.getfield 14, 3) := by decide +kernel
theorem d_X2_goesRound_37 : decode (cd mX2_goesRound) 37 = .ok (.getfield 67, 3) := by decide +kernel
theorem d_X2_goesRound_40 : decode (cd mX2_goesRound) 40 = .ok (.bipush 9, 2) := by decide +kernel
theorem d_X2_goesRound_42 : decode (cd mX2_goesRound) 42 = .ok (.iadd, 1) := by decide +kernel
theorem d_X2_goesRound_43 : decode (cd mX2_goesRound) 43 = .ok (.bipush 101, 2) := by decide +kernel
theorem d_X2_goesRound_45 : decode (cd mX2_goesRound) 45 = .ok (.imul, 1) := by decide +kernel
theorem d_X2_goesRound_46 : decode (cd mX2_goesRound) 46 = .ok (.aload_n 0, 1) := by decide +kernel
theorem d_X2_goesRound_47 : decode (cd mX2_goesRound) 47 = .ok (.getfield 14, 3) := by decide +kernel
theorem d_X2_goesRound_50 : decode (cd mX2_goesRound) 50 = .ok (.getfield 70, 3) := by decide +kernel
theorem d_X2_goesRound_53 : decode (cd mX2_goesRound) 53 = .ok (.iadd, 1) := by decide +kernel
theorem d_X2_goesRound_54 : decode (cd mX2_goesRound) 54 = .ok (.istore 4, 2) := by decide +kernel
theorem d_X2_goesRound_56 : decode (cd mX2_goesRound) 56 = .ok (.iload 4, 2) := by decide +kernel
theorem d_X2_goesRound_58 : decode (cd mX2_goesRound) 58 = .ok (.ifCond .lt 11, 3) := by decide +kernel
theorem d_X2_goesRound_61 : decode (cd mX2_goesRound) 61 = .ok (.iload 4, 2) := by decide +kernel
theorem d_X2_goesRound_63 : decode (cd mX2_goesRound) 63 = .ok (.sipush 1919, 3) := by decide +kernel
theorem d_X2_goesRound_66 : decode (cd mX2_goesRound) 66 = .ok (.if_icmp .lt 6, 3) := by decide +kernel
theorem d_X2_goesRound_69 : decode (cd mX2_goesRound) 69 = .ok (.bipush (-2), 2) := by decide +kernel
theorem d_X2_goesRound_71 : decode (cd mX2_goesRound) 71 = .ok (.ireturn, 1) := by decide +kernel
theorem d_X2_goesRound_72 : decode (cd mX2_goesRound) 72 = .ok (.aload_n 0, 1) := by decide +kernel
theorem d_X2_goesRound_73 : decode (cd mX2_goesRound) 73 = .ok (.getfield 18, 3) := by decide +kernel
theorem d_X2_goesRound_76 : decode (cd mX2_goesRound) 76 = .ok (.iload 4, 2) := by decide +kernel
theorem d_X2_goesRound_78 : decode (cd mX2_goesRound) 78 = .ok (.iaload, 1) := by decide +kernel
theorem d_X2_goesRound_79 : decode (cd mX2_goesRound) 79 = .ok (.ifCond .le 19, 3) := by decide +kernel
theorem d_X2_goesRound_82 : decode (cd mX2_goesRound) 82 = .ok (.sipush 10000, 3) := by decide +kernel
theorem d_X2_goesRound_85 : decode (cd mX2_goesRound) 85 = .ok (.iload_n 3, 1) := by decide +kernel
theorem d_X2_goesRound_86 : decode (cd mX2_goesRound) 86 = .ok (.imul, 1) := by decide +kernel
theorem d_X2_goesRound_87 : decode (cd mX2_goesRound) 87 = .ok (.iload_n 3, 1) := by decide +kernel
theorem d_X2_goesRound_88 : decode (cd mX2_goesRound) 88 = .ok (.iadd, 1) := by decide +kernel
theorem d_X2_goesRound_89 : decode (cd mX2_goesRound) 89 = .ok (.aload_n 0, 1) := by decide +kernel
theorem d_X2_goesRound_90 : decode (cd mX2_goesRound) 90 = .ok (.getfield 18, 3) := by decide +kernel
theorem d_X2_goesRound_93 : decode (cd mX2_goesRound) 93 = .ok (.iload 4, 2) := by decide +kernel
theorem d_X2_goesRound_95 : decode (cd mX2_goesRound) 95 = .ok (.iaload, 1) := by decide +kernel
theorem d_X2_goesRound_96 : decode (cd mX2_goesRound) 96 = .ok (.isub, 1) := by decide +kernel
theorem d_X2_goesRound_97 : decode (cd mX2_goesRound) 97 = .ok (.ireturn, 1) := by decide +kernel
theorem d_X2_goesRound_98 : decode (cd mX2_goesRound) 98 = .ok (.aload_n 0, 1) := by decide +kernel
theorem d_X2_goesRound_99 : decode (cd mX2_goesRound) 99 = .ok (.getfield 18, 3) := by decide +kernel
theorem d_X2_goesRound_102 : decode (cd mX2_goesRound) 102 = .ok (.iload 4, 2) := by decide +kernel
theorem d_X2_goesRound_104 : decode (cd mX2_goesRound) 104 = .ok (.iload_n 3, 1) := by decide +kernel
theorem d_X2_goesRound_105 : decode (cd mX2_goesRound) 105 = .ok (.iastore, 1) := by decide +kernel
theorem d_X2_goesRound_106 : decode (cd mX2_goesRound) 106 = .ok (.iinc 3 1, 3) := by decide +kernel
theorem d_X2_goesRound_109 : decode (cd mX2_goesRound) 109 = .ok (.goto (-91), 3) := by decide +kernel
theorem d_X2_goesRound_112 : decode (cd mX2_goesRound) 112 = .ok (.bipush (-2), 2) := by decide +kernel
theorem d_X2_goesRound_114 : decode (cd mX2_goesRound) 114 = .ok (.ireturn, 1) := by decide +kernel
theorem d_X3_init_0 : decode (cd mX3_init) 0 = .ok (.aload_n 0, 1) := by decide +kernel
theorem d_X3_init_1 : decode (cd mX3_init) 1 = .ok (.invokespecial 3, 3) := by decide +kernel
theorem d_X3_init_4 : decode (cd mX3_init) 4 = .ok (.aload_n 0, 1) := by decide +kernel
theorem d_X3_init_5 : decode (cd mX3_init) 5 = .ok (.new 9, 3) := by decide +kernel
theorem d_X3_init_8 : decode (cd mX3_init) 8 = .ok (.dup, 1) := by decide +kernel
theorem d_X3_init_9 : decode (cd mX3_init) 9 = .ok (.invokespecial 11, 3) := by decide +kernel
theorem d_X3_init_12 : decode (cd mX3_init) 12 = .ok (.putfield 12, 3) := by decide +kernel
theorem d_X3_init_15 : decode (cd mX3_init) 15 = .ok (.return_, 1) := by decide +kernel
theorem d_X3_weigh_0 : decode (cd mX3_weigh) 0 = .ok (.aload_n 0, 1) := by decide +kernel
theorem d_X3_weigh_1 : decode (cd mX3_weigh) 1 = .ok (.lconst 0, 1) := by decide +kernel
theorem d_X3_weigh_2 : decode (cd mX3_weigh) 2 = .ok (.putfield 18, 3) := by decide +kernel
theorem d_X3_weigh_5 : decode (cd mX3_weigh) 5 = .ok (.aload_n 0, 1) := by decide +kernel
theorem d_X3_weigh_6 : decode (cd mX3_weigh) 6 = .ok (.lconst 1, 1) := by decide +kernel
theorem d_X3_weigh_7 : decode (cd mX3_weigh) 7 = .ok (.putfield 22, 3) := by decide +kernel
theorem d_X3_weigh_10 : decode (cd mX3_weigh) 10 = .ok (.iconst 0, 1) := by decide +kernel
theorem d_X3_weigh_11 : decode (cd mX3_weigh) 11 = .ok (.istore 5, 2) := by decide +kernel
theorem d_X3_weigh_13 : decode (cd mX3_weigh) 13 = .ok (.iload 5, 2) := by decide +kernel
theorem d_X3_weigh_15 : decode (cd mX3_weigh) 15 = .ok (.iload_n 3, 1) := by decide +kernel
theorem d_X3_weigh_16 : decode (cd mX3_weigh) 16 = .ok (.if_icmp .ge 21, 3) := by decide +kernel
theorem d_X3_weigh_19 : decode (cd mX3_weigh) 19 = .ok (.aload_n 0, 1) := by decide +kernel
theorem d_X3_weigh_20 : decode (cd mX3_weigh) 20 = .ok (.dup, 1) := by decide +kernel
theorem d_X3_weigh_21 : decode (cd mX3_weigh) 21 = .ok (.getfield 22, 3) := by decide +kernel
theorem d_X3_weigh_24 : decode (cd mX3_weigh) 24 = .ok (.ldc2_w 25, 3) := by decide +kernel
theorem d_X3_weigh_27 : decode (cd mX3_weigh) 27 = .ok (.lmul, 1) := by decide +kernel
theorem d_X3_weigh_28 : decode (cd mX3_weigh) 28 = .ok (.putfield 22, 3) := by decide +kernel
theorem d_X3_weigh_31 : decode (cd mX3_weigh) 31 = .ok (.iinc 5 1, 3) := by decide +kernel
theorem d_X3_weigh_34 : decode (cd mX3_weigh) 34 = .ok (.goto (-21), 3) := by decide +kernel
theorem d_X3_weigh_37 : decode (cd mX3_weigh) 37 = .ok (.iconst 0, 1) := by decide +kernel
theorem d_X3_weigh_38 : decode (cd mX3_weigh) 38 = .ok (.istore 5, 2) := by decide +kernel
theorem d_X3_weigh_40 : decode (cd mX3_weigh) 40 = .ok (.iload 5, 2) := by decide +kernel
theorem d_X3_weigh_42 : decode (cd mX3_weigh) 42 = .ok (.iconst 1, 1) := by decide +kernel
theorem d_X3_weigh_43 : decode (cd mX3_weigh) 43 = .ok (.iload_n 3, 1) := by decide +kernel
theorem d_X3_weigh_44 : decode (cd mX3_weigh) 44 = .ok (.ishl, 1) := by decide +kernel
theorem d_X3_weigh_45 : decode (cd mX3_weigh) 45 = .ok (.if_icmp .ge 75, 3) := by decide +kernel
theorem d_X3_weigh_48 : decode (cd mX3_weigh) 48 = .ok (.aload_n 0, 1) := by decide +kernel
theorem d_X3_weigh_49 : decode (cd mX3_weigh) 49 = .ok (.aload_n 1, 1) := by decide +kernel
theorem d_X3_weigh_50 : decode (cd mX3_weigh) 50 = .ok (.aload_n 2, 1) := by decide +kernel
theorem d_X3_weigh_51 : decode (cd mX3_weigh) 51 = .ok (.iload_n 3, 1) := by decide +kernel
theorem d_X3_weigh_52 : decode (cd mX3_weigh) 52 = .ok (.iload 5, 2) := by decide +kernel
theorem d_X3_weigh_54 : decode (cd mX3_weigh) 54 = .ok (.invokevirtual 27, 3) := by decide +kernel
theorem d_X3_weigh_57 : decode (cd mX3_weigh) 57 = .ok (.lstore 6, 2) := by decide +kernel
theorem d_X3_weigh_59 : decode (cd mX3_weigh) 59 = .ok (.iload 4, 2) := by decide +kernel
theorem d_X3_weigh_61 : decode (cd mX3_weigh) 61 = .ok (.iconst (-1), 1) := by decide +kernel
theorem d_X3_weigh_62 : decode (cd mX3_weigh) 62 = .ok (.if_icmp .ne 29, 3) := by decide +kernel
theorem d_X3_weigh_65 : decode (cd mX3_weigh) 65 = .ok (.aload_n 0, 1) := by decide +kernel
theorem d_X3_weigh_66 : decode (cd mX3_weigh) 66 = .ok (.dup, 1) := by decide +kernel
theorem d_X3_weigh_67 : decode (cd mX3_weigh) 67 = .ok (.getfield 18, 3) := by decide +kernel
theorem d_X3_weigh_70 : decode (cd mX3_weigh) 70 = .ok (.lload 6, 2) := by decide +kernel
theorem d_X3_weigh_72 : decode (cd mX3_weigh) 72 = .ok (.aload_n 0, 1) := by decide +kernel
theorem d_X3_weigh_73 : decode (cd mX3_weigh) 73 = .ok (.getfield 12, 3) := by decide +kernel
theorem d_X3_weigh_76 : decode (cd mX3_weigh) 76 = .ok (.getfield 31, 3) := by decide +kernel
theorem d_X3_weigh_79 : decode (cd mX3_weigh) 79 = .ok (.bipush 9, 2) := by decide +kernel
theorem d_X3_weigh_81 : decode (cd mX3_weigh) 81 = .ok (.iadd, 1) := by decide +kernel
theorem d_X3_weigh_82 : decode (cd mX3_weigh) 82 = .ok (.i2l, 1) := by decide +kernel
theorem d_X3_weigh_83 : decode (cd mX3_weigh) 83 = .ok (.lmul, 1) := by decide +kernel
theorem d_X3_weigh_84 : decode (cd mX3_weigh) 84 = .ok (.ladd, 1) := by decide +kernel
theorem d_X3_weigh_85 : decode (cd mX3_weigh) 85 = .ok (.putfield 18, 3) := by decide +kernel
theorem d_X3_weigh_88 : decode (cd mX3_weigh) 88 = .ok (.goto 26, 3) := by decide +kernel
theorem d_X3_weigh_91 : decode (cd mX3_weigh) 91 = .ok (.aload_n 0, 1) := by decide +kernel
theorem d_X3_weigh_92 : decode (cd mX3_weigh) 92 = .ok (.getfield 12, 3) := by decide +kernel
theorem d_X3_weigh_95 : decode (cd mX3_weigh) 95 = .ok (.invokevirtual 35, 3) := by decide +kernel
theorem d_X3_weigh_98 : decode (cd mX3_weigh) 98 = .ok (.iload 4, 2) := by decide +kernel
theorem d_X3_weigh_100 : decode (cd mX3_weigh) 100 = .ok (.if_icmp .ne 14, 3) := by decide +kernel
theorem d_X3_weigh_103 : decode (cd mX3_weigh) 103 = .ok (.aload_n 0, 1) := by decide +kernel
theorem d_X3_weigh_104 : decode (cd mX3_weigh) 104 = .ok (.dup, 1) := by decide +kernel
theorem d_X3_weigh_105 : decode (cd mX3_weigh) 105 = .ok (.getfield 18, 3) := by decide +kernel
theorem d_X3_weigh_108 : decode (cd mX3_weigh) 108 = .ok (.lload 6, 2) := by decide +kernel
theorem d_X3_weigh_110 : decode (cd mX3_weigh) 110 = .ok (.ladd, 1) := by decide +kernel
theorem d_X3_weigh_111 : decode (cd mX3_weigh) 111 = .ok (.putfield 18, 3) := by decide +kernel
theorem d_X3_weigh_114 : decode (cd mX3_weigh) 114 = .ok (.iinc 5 1, 3) := by decide +kernel
theorem d_X3_weigh_117 : decode (cd mX3_weigh) 117 = .ok (.goto (-77), 3) := by decide +kernel
theorem d_X3_weigh_120 : decode (cd mX3_weigh) 120 = .ok (.aload_n 0, 1) := by decide +kernel
theorem d_X3_weigh_121 : decode (cd mX3_weigh) 121 = .ok (.invokevirtual 39, 3) := by decide +kernel
theorem d_X3_weigh_124 : decode (cd mX3_weigh) 124 = .ok (.return_, 1) := by decide +kernel
theorem d_X3_blow_0 : decode (cd mX3_blow) 0 = .ok (.lconst 1, 1) := by decide +kernel
theorem d_X3_blow_1 : decode (cd mX3_blow) 1 = .ok (.lstore 5, 2) := by decide +kernel
theorem d_X3_blow_3 : decode (cd mX3_blow) 3 = .ok (.aload_n 0, 1) := by decide +kernel
theorem d_X3_blow_4 : decode (cd mX3_blow) 4 = .ok (.getfield 12, 3) := by decide +kernel
theorem d_X3_blow_7 : decode (cd mX3_blow) 7 = .ok (.aload_n 2, 1) := by decide +kernel
theorem d_X3_blow_8 : decode (cd mX3_blow) 8 = .ok (.invokevirtual 42, 3) := by decide +kernel
theorem d_X3_blow_11 : decode (cd mX3_blow) 11 = .ok (.iconst 0, 1) := by decide +kernel
theorem d_X3_blow_12 : decode (cd mX3_blow) 12 = .ok (.istore 7, 2) := by decide +kernel
theorem d_X3_blow_14 : decode (cd mX3_blow) 14 = .ok (.iload 7, 2) := by decide +kernel
theorem d_X3_blow_16 : decode (cd mX3_blow) 16 = .ok (.iload_n 3, 1) := by decide +kernel
theorem d_X3_blow_17 : decode (cd mX3_blow) 17 = .ok (.if_icmp .ge 61, 3) := by decide +kernel
theorem d_X3_blow_20 : decode (cd mX3_blow) 20 = .ok (.aload_n 0, 1) := by decide +kernel
theorem d_X3_blow_21 : decode (cd mX3_blow) 21 = .ok (.getfield 12, 3) := by decide +kernel
theorem d_X3_blow_24 : decode (cd mX3_blow) 24 = .ok (.aload_n 1, 1) := by decide +kernel
theorem d_X3_blow_25 : decode (cd mX3_blow) 25 = .ok (.invokevirtual 46, 3) := by decide +kernel
theorem d_X3_blow_28 : decode (cd mX3_blow) 28 = .ok (.iload 4, 2) := by decide +kernel
theorem d_X3_blow_30 : decode (cd mX3_blow) 30 = .ok (.iload 7, 2) := by decide +kernel
theorem d_X3_blow_32 : decode (cd mX3_blow) 32 = .ok (.ishr, 1) := by decide +kernel
theorem d_X3_blow_33 : decode (cd mX3_blow) 33 = .ok (.iconst 1, 1) := by decide +kernel
theorem d_X3_blow_34 : decode (cd mX3_blow) 34 = .ok (.iand, 1) := by decide +kernel
theorem d_X3_blow_35 : decode (cd mX3_blow) 35 = .ok (.iconst 1, 1) := by decide +kernel
theorem d_X3_blow_36 : decode (cd mX3_blow) 36 = .ok (.if_icmp .ne 23, 3) := by decide +kernel
theorem d_X3_blow_39 : decode (cd mX3_blow) 39 = .ok (.aload_n 0, 1) := by decide +kernel
theorem d_X3_blow_40 : decode (cd mX3_blow) 40 = .ok (.getfield 12, 3) := by decide +kernel
theorem d_X3_blow_43 : decode (cd mX3_blow) 43 = .ok (.invokevirtual 50, 3) := by decide +kernel
theorem d_X3_blow_46 : decode (cd mX3_blow) 46 = .ok (.lload 5, 2) := by decide +kernel
theorem d_X3_blow_48 : decode (cd mX3_blow) 48 = .ok (.aload_n 1, 1) := by decide +kernel
theorem d_X3_blow_49 : decode (cd mX3_blow) 49 = .ok (.getfield 53, 3) := by decide +kernel
theorem d_X3_blow_52 : decode (cd mX3_blow) 52 = .ok (.i2l, 1) := by decide +kernel
theorem d_X3_blow_53 : decode (cd mX3_blow) 53 = .ok (.lmul, 1) := by decide +kernel
theorem d_X3_blow_54 : decode (cd mX3_blow) 54 = .ok (.lstore 5, 2) := by decide +kernel
theorem d_X3_blow_56 : decode (cd mX3_blow) 56 = .ok (.goto 16, 3) := by decide +kernel
theorem d_X3_blow_59 : decode (cd mX3_blow) 59 = .ok (.lload 5, 2) := by decide +kernel
theorem d_X3_blow_61 : decode (cd mX3_blow) 61 = .ok (.bipush 100, 2) := by decide +kernel
theorem d_X3_blow_63 : decode (cd mX3_blow) 63 = .ok (.aload_n 1, 1) := by decide +kernel
theorem d_X3_blow_64 : decode (cd mX3_blow) 64 = .ok (.getfield 53, 3) := by decide +kernel
theorem d_X3_blow_67 : decode (cd mX3_blow) 67 = .ok (.isub, 1) := by decide +kernel
theorem d_X3_blow_68 : decode (cd mX3_blow) 68 = .ok (.i2l, 1) := by decide +kernel
theorem d_X3_blow_69 : decode (cd mX3_blow) 69 = .ok (.lmul, 1) := by decide +kernel
theorem d_X3_blow_70 : decode (cd mX3_blow) 70 = .ok (.lstore 5, 2) := by decide +kernel
theorem d_X3_blow_72 : decode (cd mX3_blow) 72 = .ok (.iinc 7 1, 3) := by decide +kernel
theorem d_X3_blow_75 : decode (cd mX3_blow) 75 = .ok (.goto (-61), 3) := by decide +kernel
theorem d_X3_blow_78 : decode (cd mX3_blow) 78 = .ok (.lload 5, 2) := by decide +kernel
theorem d_X3_blow_80 : decode (cd mX3_blow) 80 = .ok (.lreturn, 1) := by decide +kernel
theorem d_X3_shorten_0 : decode (cd mX3_shorten) 0 = .ok (.aload_n 0, 1) := by decide +kernel
theorem d_X3_shorten_1 : decode (cd mX3_shorten) 1 = .ok (.getfield 22, 3) := by decide +kernel
theorem d_X3_shorten_4 : decode (cd mX3_shorten) 4 = .ok (.lstore_n 1, 1) := by decide +kernel
theorem d_X3_shorten_5 : decode (cd mX3_shorten) 5 = .ok (.aload_n 0, 1) := by decide +kernel
theorem d_X3_shorten_6 : decode (cd mX3_shorten) 6 = .ok (.getfield 18, 3) := by decide +kernel
theorem d_X3_shorten_9 : decode (cd mX3_shorten) 9 = .ok (.lstore_n 3, 1) := by decide +kernel
theorem d_X3_shorten_10 : decode (cd mX3_shorten) 10 = .ok (.iconst 0, 1) := by decide +kernel
theorem d_X3_shorten_11 : decode (cd mX3_shorten) 11 = .ok (.istore 5, 2) := by decide +kernel
theorem d_X3_shorten_13 : decode (cd mX3_shorten) 13 = .ok (.iload 5, 2) := by decide +kernel
theorem d_X3_shorten_15 : decode (cd mX3_shorten) 15 = .ok (.sipush 200, 3) := by decide +kernel
theorem d_X3_shorten_18 : decode (cd mX3_shorten) 18 = .ok (.if_icmp .ge 25, 3) := by decide +kernel
theorem d_X3_shorten_21 : decode (cd mX3_shorten) 21 = .ok (.lload_n 3, 1) := by decide +kernel
theorem d_X3_shorten_22 : decode (cd mX3_shorten) 22 = .ok (.lconst 0, 1) := by decide +kernel
theorem d_X3_shorten_23 : decode (cd mX3_shorten) 23 = .ok (.lcmp, 1) := by decide +kernel
theorem d_X3_shorten_24 : decode (cd mX3_shorten) 24 = .ok (.ifCond .eq 19, 3) := by decide +kernel
theorem d_X3_shorten_27 : decode (cd mX3_shorten) 27 = .ok (.lload_n 1, 1) := by decide +kernel
theorem d_X3_shorten_28 : decode (cd mX3_shorten) 28 = .ok (.lload_n 3, 1) := by decide +kernel
theorem d_X3_shorten_29 : decode (cd mX3_shorten) 29 = .ok (.lrem, 1) := by decide +kernel
theorem d_X3_shorten_30 : decode (cd mX3_shorten) 30 = .ok (.lstore 6, 2) := by decide +kernel
theorem d_X3_shorten_32 : decode (cd mX3_shorten) 32 = .ok (.lload_n 3, 1) := by decide +kernel
theorem d_X3_shorten_33 : decode (cd mX3_shorten) 33 = .ok (.lstore_n 1, 1) := by decide +kernel
theorem d_X3_shorten_34 : decode (cd mX3_shorten) 34 = .ok (.lload 6, 2) := by decide +kernel
theorem d_X3_shorten_36 : decode (cd mX3_shorten) 36 = .ok (.lstore_n 3, 1) := by decide +kernel
theorem d_X3_shorten_37 : decode (cd mX3_shorten) 37 = .ok (.iinc 5 1, 3) := by decide +kernel
theorem d_X3_shorten_40 : decode (cd mX3_shorten) 40 = .ok (.goto (-27), 3) := by decide +kernel
theorem d_X3_shorten_43 : decode (cd mX3_shorten) 43 = .ok (.lload_n 1, 1) := by decide +kernel
theorem d_X3_shorten_44 : decode (cd mX3_shorten) 44 = .ok (.lconst 1, 1) := by decide +kernel
theorem d_X3_shorten_45 : decode (cd mX3_shorten) 45 = .ok (.lcmp, 1) := by decide +kernel
theorem d_X3_shorten_46 : decode (cd mX3_shorten) 46 = .ok (.ifCond .le 23, 3) := by decide +kernel
theorem d_X3_shorten_49 : decode (cd mX3_shorten) 49 = .ok (.aload_n 0, 1) := by decide +kernel
theorem d_X3_shorten_50 : decode (cd mX3_shorten) 50 = .ok (.dup, 1) := by decide +kernel
theorem d_X3_shorten_51 : decode (cd mX3_shorten) 51 = .ok (.getfield 18, 3) := by decide +kernel
theorem d_X3_shorten_54 : decode (cd mX3_shorten) 54 = .ok (.lload_n 1, 1) := by decide +kernel
theorem d_X3_shorten_55 : decode (cd mX3_shorten) 55 = .ok (.ldiv, 1) := by decide +kernel
theorem d_X3_shorten_56 : decode (cd mX3_shorten) 56 = .ok (.putfield 18, 3) := by decide +kernel
theorem d_X3_shorten_59 : decode (cd mX3_shorten) 59 = .ok (.aload_n 0, 1) := by decide +kernel
theorem d_X3_shorten_60 : decode (cd mX3_shorten) 60 = .ok (.dup, 1) := by decide +kernel
theorem d_X3_shorten_61 : decode (cd mX3_shorten) 61 = .ok (.getfield 22, 3) := by decide +kernel
theorem d_X3_shorten_64 : decode (cd mX3_shorten) 64 = .ok (.lload_n 1, 1) := by decide +kernel
theorem d_X3_shorten_65 : decode (cd mX3_shorten) 65 = .ok (.ldiv, 1) := by decide +kernel
theorem d_X3_shorten_66 : decode (cd mX3_shorten) 66 = .ok (.putfield 22, 3) := by decide +kernel
theorem d_X3_shorten_69 : decode (cd mX3_shorten) 69 = .ok (.return_, 1) := by decide +kernel
theorem d_X3_draw_0 : decode (cd mX3_draw) 0 = .ok (.iload_n 3, 1) := by decide +kernel
theorem d_X3_draw_1 : decode (cd mX3_draw) 1 = .ok (.istore 5, 2) := by decide +kernel
theorem d_X3_draw_3 : decode (cd mX3_draw) 3 = .ok (.aload_n 0, 1) := by decide +kernel
theorem d_X3_draw_4 : decode (cd mX3_draw) 4 = .ok (.iconst 0, 1) := by decide +kernel
theorem d_X3_draw_5 : decode (cd mX3_draw) 5 = .ok (.putfield 57, 3) := by decide +kernel
theorem d_X3_draw_8 : decode (cd mX3_draw) 8 = .ok (.aload_n 0, 1) := by decide +kernel
theorem d_X3_draw_9 : decode (cd mX3_draw) 9 = .ok (.getfield 12, 3) := by decide +kernel
theorem d_X3_draw_12 : decode (cd mX3_draw) 12 = .ok (.aload_n 2, 1) := by decide +kernel
theorem d_X3_draw_13 : decode (cd mX3_draw) 13 = .ok (.invokevirtual 42, 3) := by decide +kernel
theorem d_X3_draw_16 : decode (cd mX3_draw) 16 = .ok (.iconst 0, 1) := by decide +kernel
theorem d_X3_draw_17 : decode (cd mX3_draw) 17 = .ok (.istore 6, 2) := by decide +kernel
theorem d_X3_draw_19 : decode (cd mX3_draw) 19 = .ok (.iload 6, 2) := by decide +kernel
theorem d_X3_draw_21 : decode (cd mX3_draw) 21 = .ok (.iload 4, 2) := by decide +kernel
theorem d_X3_draw_23 : decode (cd mX3_draw) 23 = .ok (.if_icmp .ge 74, 3) := by decide +kernel
theorem d_X3_draw_26 : decode (cd mX3_draw) 26 = .ok (.aload_n 0, 1) := by decide +kernel
theorem d_X3_draw_27 : decode (cd mX3_draw) 27 = .ok (.getfield 12, 3) := by decide +kernel
theorem d_X3_draw_30 : decode (cd mX3_draw) 30 = .ok (.aload_n 1, 1) := by decide +kernel
theorem d_X3_draw_31 : decode (cd mX3_draw) 31 = .ok (.invokevirtual 46, 3) := by decide +kernel
theorem d_X3_draw_34 : decode (cd mX3_draw) 34 = .ok (.aload_n 0, 1) := by decide +kernel
theorem d_X3_draw_35 : decode (cd mX3_draw) 35 = .ok (.dup, 1) := by decide +kernel
theorem d_X3_draw_36 : decode (cd mX3_draw) 36 = .ok (.getfield 57, 3) := by decide +kernel
theorem d_X3_draw_39 : decode (cd mX3_draw) 39 = .ok (.aload_n 0, 1) := by decide +kernel
theorem d_X3_draw_40 : decode (cd mX3_draw) 40 = .ok (.getfield 12, 3) := by decide +kernel
theorem d_X3_draw_43 : decode (cd mX3_draw) 43 = .ok (.getfield 60, 3) := by decide +kernel
theorem d_X3_draw_46 : decode (cd mX3_draw) 46 = .ok (.iconst 1, 1) := by decide +kernel
theorem d_X3_draw_47 : decode (cd mX3_draw) 47 = .ok (.if_icmp .ne 7, 3) := by decide +kernel
theorem d_X3_draw_50 : decode (cd mX3_draw) 50 = .ok (.iconst 1, 1) := by decide +kernel
theorem d_X3_draw_51 : decode (cd mX3_draw) 51 = .ok (.goto 4, 3) := by decide +kernel
theorem d_X3_draw_54 : decode (cd mX3_draw) 54 = .ok (.iconst 0, 1) := by decide +kernel
theorem d_X3_draw_55 : decode (cd mX3_draw) 55 = .ok (.iadd, 1) := by decide +kernel
theorem d_X3_draw_56 : decode (cd mX3_draw) 56 = .ok (.putfield 57, 3) := by decide +kernel
theorem d_X3_draw_59 : decode (cd mX3_draw) 59 = .ok (.bipush 75, 2) := by decide +kernel
theorem d_X3_draw_61 : decode (cd mX3_draw) 61 = .ok (.iload 5, 2) := by decide +kernel
theorem d_X3_draw_63 : decode (cd mX3_draw) 63 = .ok (.imul, 1) := by decide +kernel
theorem d_X3_draw_64 : decode (cd mX3_draw) 64 = .ok (.bipush 74, 2) := by decide +kernel
theorem d_X3_draw_66 : decode (cd mX3_draw) 66 = .ok (.iadd, 1) := by decide +kernel
theorem d_X3_draw_67 : decode (cd mX3_draw) 67 = .ok (.ldc 63, 2) := by decide +kernel
theorem d_X3_draw_69 : decode (cd mX3_draw) 69 = .ok (.irem, 1) := by decide +kernel
theorem d_X3_draw_70 : decode (cd mX3_draw) 70 = .ok (.istore 5, 2) := by decide +kernel
theorem d_X3_draw_72 : decode (cd mX3_draw) 72 = .ok (.iload 5, 2) := by decide +kernel
theorem d_X3_draw_74 : decode (cd mX3_draw) 74 = .ok (.bipush 100, 2) := by decide +kernel
theorem d_X3_draw_76 : decode (cd mX3_draw) 76 = .ok (.irem, 1) := by decide +kernel
theorem d_X3_draw_77 : decode (cd mX3_draw) 77 = .ok (.aload_n 1, 1) := by decide +kernel
theorem d_X3_draw_78 : decode (cd mX3_draw) 78 = .ok (.getfield 53, 3) := by decide +kernel
theorem d_X3_draw_81 : decode (cd mX3_draw) 81 = .ok (.if_icmp .ge 10, 3) := by decide +kernel
theorem d_X3_draw_84 : decode (cd mX3_draw) 84 = .ok (.aload_n 0, 1) := by decide +kernel
theorem d_X3_draw_85 : decode (cd mX3_draw) 85 = .ok (.getfield 12, 3) := by decide +kernel
theorem d_X3_draw_88 : decode (cd mX3_draw) 88 = .ok (.invokevirtual 50, 3) := by decide +kernel
theorem d_X3_draw_91 : decode (cd mX3_draw) 91 = .ok (.iinc 6 1, 3) := by decide +kernel
theorem d_X3_draw_94 : decode (cd mX3_draw) 94 = .ok (.goto (-75), 3) := by decide +kernel
theorem d_X3_draw_97 : decode (cd mX3_draw) 97 = .ok (.return_, 1) := by decide +kernel
theorem d_X4_init_0 : decode (cd mX4_init) 0 = .ok (.aload_n 0, 1) := by decide +kernel
theorem d_X4_init_1 : decode (cd mX4_init) 1 = .ok (.invokespecial 5, 3) := by decide +kernel
theorem d_X4_init_4 : decode (cd mX4_init) 4 = .ok (.aload_n 0, 1) := by decide +kernel
theorem d_X4_init_5 : decode (cd mX4_init) 5 = .ok (.bipush 40, 2) := by decide +kernel
theorem d_X4_init_7 : decode (cd mX4_init) 7 = .ok (.newarray .int, 2) := by decide +kernel
theorem d_X4_init_9 : decode (cd mX4_init) 9 = .ok (.putfield 11, 3) := by decide +kernel
theorem d_X4_init_12 : decode (cd mX4_init) 12 = .ok (.aload_n 0, 1) := by decide +kernel
theorem d_X4_init_13 : decode (cd mX4_init) 13 = .ok (.new 15, 3) := by decide +kernel
theorem d_X4_init_16 : decode (cd mX4_init) 16 = .ok (.dup, 1) := by decide +kernel
theorem d_X4_init_17 : decode (cd mX4_init) 17 = .ok (.invokespecial 17, 3) := by decide +kernel
theorem d_X4_init_20 : decode (cd mX4_init) 20 = .ok (.putfield 18, 3) := by decide +kernel
theorem d_X4_init_23 : decode (cd mX4_init) 23 = .ok (.aload_n 0, 1) := by decide +kernel
theorem d_X4_init_24 : decode (cd mX4_init) 24 = .ok (.bipush 21, 2) := by decide +kernel
theorem d_X4_init_26 : decode (cd mX4_init) 26 = .ok (.newarray .int, 2) := by decide +kernel
theorem d_X4_init_28 : decode (cd mX4_init) 28 = .ok (.putfield 22, 3) := by decide +kernel
theorem d_X4_init_31 : decode (cd mX4_init) 31 = .ok (.aload_n 0, 1) := by decide +kernel
theorem d_X4_init_32 : decode (cd mX4_init) 32 = .ok (.bipush 84, 2) := by decide +kernel
theorem d_X4_init_34 : decode (cd mX4_init) 34 = .ok (.newarray .int, 2) := by decide +kernel
theorem d_X4_init_36 : decode (cd mX4_init) 36 = .ok (.putfield 25, 3) := by decide +kernel
theorem d_X4_init_39 : decode (cd mX4_init) 39 = .ok (.return_, 1) := by decide +kernel
theorem d_X4_forget_0 : decode (cd mX4_forget) 0 = .ok (.aload_n 0, 1) := by decide +kernel
theorem d_X4_forget_1 : decode (cd mX4_forget) 1 = .ok (.iconst 0, 1) := by decide +kernel
theorem d_X4_forget_2 : decode (cd mX4_forget) 2 = .ok (.putfield 28, 3) := by decide +kernel
theorem d_X4_forget_5 : decode (cd mX4_forget) 5 = .ok (.aload_n 0, 1) := by decide +kernel
theorem d_X4_forget_6 : decode (cd mX4_forget) 6 = .ok (.iconst 0, 1) := by decide +kernel
theorem d_X4_forget_7 : decode (cd mX4_forget) 7 = .ok (.putfield 32, 3) := by decide +kernel
theorem d_X4_forget_10 : decode (cd mX4_forget) 10 = .ok (.return_, 1) := by decide +kernel
theorem d_X4_nameOf_0 : decode (cd mX4_nameOf) 0 = .ok (.iload_n 1, 1) := by decide +kernel
theorem d_X4_nameOf_1 : decode (cd mX4_nameOf) 1 = .ok (.ifCond .lt 43, 3) := by decide +kernel
theorem d_X4_nameOf_4 : decode (cd mX4_nameOf) 4 = .ok (.iload_n 1, 1) := by decide +kernel
theorem d_X4_nameOf_5 : decode (cd mX4_nameOf) 5 = .ok (.aload_n 0, 1) := by decide +kernel
theorem d_X4_nameOf_6 : decode (cd mX4_nameOf) 6 = .ok (.getfield 32, 3) := by decide +kernel
theorem d_X4_nameOf_9 : decode (cd mX4_nameOf) 9 = .ok (.if_icmp .ge 35, 3) := by decide +kernel
theorem d_X4_nameOf_12 : decode (cd mX4_nameOf) 12 = .ok (.iload_n 1, 1) := by decide +kernel
theorem d_X4_nameOf_13 : decode (cd mX4_nameOf) 13 = .ok (.aload_n 0, 1) := by decide +kernel
theorem d_X4_nameOf_14 : decode (cd mX4_nameOf) 14 = .ok (.getfield 11, 3) := by decide +kernel
theorem d_X4_nameOf_17 : decode (cd mX4_nameOf) 17 = .ok (.arraylength, 1) := by decide +kernel
theorem d_X4_nameOf_18 : decode (cd mX4_nameOf) 18 = .ok (.if_icmp .ge 26, 3) := by decide +kernel
theorem d_X4_nameOf_21 : decode (cd mX4_nameOf) 21 = .ok (.aload_n 0, 1) := by decide +kernel
theorem d_X4_nameOf_22 : decode (cd mX4_nameOf) 22 = .ok (.getfield 11, 3) := by decide +kernel
theorem d_X4_nameOf_25 : decode (cd mX4_nameOf) 25 = .ok (.iload_n 1, 1) := by decide +kernel
theorem d_X4_nameOf_26 : decode (cd mX4_nameOf) 26 = .ok (.iaload, 1) := by decide +kernel
theorem d_X4_nameOf_27 : decode (cd mX4_nameOf) 27 = .ok (.iconst 4, 1) := by decide +kernel
theorem d_X4_nameOf_28 : decode (cd mX4_nameOf) 28 = .ok (.idiv, 1) := by decide +kernel
theorem d_X4_nameOf_29 : decode (cd mX4_nameOf) 29 = .ok (.bipush 10, 2) := by decide +kernel
theorem d_X4_nameOf_31 : decode (cd mX4_nameOf) 31 = .ok (.imul, 1) := by decide +kernel
theorem d_X4_nameOf_32 : decode (cd mX4_nameOf) 32 = .ok (.aload_n 0, 1) := by decide +kernel
theorem d_X4_nameOf_33 : decode (cd mX4_nameOf) 33 = .ok (.getfield 11, 3) := by decide +kernel
theorem d_X4_nameOf_36 : decode (cd mX4_nameOf) 36 = .ok (.iload_n 1, 1) := by decide +kernel
theorem d_X4_nameOf_37 : decode (cd mX4_nameOf) 37 = .ok (.iaload, 1) := by decide +kernel
theorem d_X4_nameOf_38 : decode (cd mX4_nameOf) 38 = .ok (.iconst 4, 1) := by decide +kernel
theorem d_X4_nameOf_39 : decode (cd mX4_nameOf) 39 = .ok (.irem, 1) := by decide +kernel
theorem d_X4_nameOf_40 : decode (cd mX4_nameOf) 40 = .ok (.iadd, 1) := by decide +kernel
theorem d_X4_nameOf_41 : decode (cd mX4_nameOf) 41 = .ok (.goto 4, 3) := by decide +kernel
theorem d_X4_nameOf_44 : decode (cd mX4_nameOf) 44 = .ok (.iconst (-1), 1) := by decide +kernel
theorem d_X4_nameOf_45 : decode (cd mX4_nameOf) 45 = .ok (.ireturn, 1) := by decide +kernel
theorem d_X4_bitsOf_0 : decode (cd mX4_bitsOf) 0 = .ok (.iconst 0, 1) := by decide +kernel
theorem d_X4_bitsOf_1 : decode (cd mX4_bitsOf) 1 = .ok (.istore_n 2, 1) := by decide +kernel
theorem d_X4_bitsOf_2 : decode (cd mX4_bitsOf) 2 = .ok (.iconst 0, 1) := by decide +kernel
theorem d_X4_bitsOf_3 : decode (cd mX4_bitsOf) 3 = .ok (.istore_n 3, 1) := by decide +kernel
theorem d_X4_bitsOf_4 : decode (cd mX4_bitsOf) 4 = .ok (.iload_n 3, 1) := by decide +kernel
theorem d_X4_bitsOf_5 : decode (cd mX4_bitsOf) 5 = .ok (.aload_n 0, 1) := by decide +kernel
theorem d_X4_bitsOf_6 : decode (cd mX4_bitsOf) 6 = .ok (.getfield 32, 3) := by decide +kernel
theorem d_X4_bitsOf_9 : decode (cd mX4_bitsOf) 9 = .ok (.if_icmp .ge 46, 3) := by decide +kernel
theorem d_X4_bitsOf_12 : decode (cd mX4_bitsOf) 12 = .ok (.iload_n 3, 1) := by decide +kernel
theorem d_X4_bitsOf_13 : decode (cd mX4_bitsOf) 13 = .ok (.aload_n 0, 1) := by decide +kernel
theorem d_X4_bitsOf_14 : decode (cd mX4_bitsOf) 14 = .ok (.getfield 11, 3) := by decide +kernel
theorem d_X4_bitsOf_17 : decode (cd mX4_bitsOf) 17 = .ok (.arraylength, 1) := by decide +kernel
theorem d_X4_bitsOf_18 : decode (cd mX4_bitsOf) 18 = .ok (.if_icmp .ge 37, 3) := by decide +kernel
theorem d_X4_bitsOf_21 : decode (cd mX4_bitsOf) 21 = .ok (.iload_n 2, 1) := by decide +kernel
theorem d_X4_bitsOf_22 : decode (cd mX4_bitsOf) 22 = .ok (.iconst 1, 1) := by decide +kernel
theorem d_X4_bitsOf_23 : decode (cd mX4_bitsOf) 23 = .ok (.iload_n 1, 1) := by decide +kernel
theorem d_X4_bitsOf_24 : decode (cd mX4_bitsOf) 24 = .ok (.ifCond .eq 14, 3) := by decide +kernel
theorem d_X4_bitsOf_27 : decode (cd mX4_bitsOf) 27 = .ok (.aload_n 0, 1) := by decide +kernel
theorem d_X4_bitsOf_28 : decode (cd mX4_bitsOf) 28 = .ok (.getfield 11, 3) := by decide +kernel
theorem d_X4_bitsOf_31 : decode (cd mX4_bitsOf) 31 = .ok (.iload_n 3, 1) := by decide +kernel
theorem d_X4_bitsOf_32 : decode (cd mX4_bitsOf) 32 = .ok (.iaload, 1) := by decide +kernel
theorem d_X4_bitsOf_33 : decode (cd mX4_bitsOf) 33 = .ok (.iconst 4, 1) := by decide +kernel
theorem d_X4_bitsOf_34 : decode (cd mX4_bitsOf) 34 = .ok (.irem, 1) := by decide +kernel
theorem d_X4_bitsOf_35 : decode (cd mX4_bitsOf) 35 = .ok (.goto 11, 3) := by decide +kernel
theorem d_X4_bitsOf_38 : decode (cd mX4_bitsOf) 38 = .ok (.aload_n 0, 1) := by decide +kernel
theorem d_X4_bitsOf_39 : decode (cd mX4_bitsOf) 39 = .ok (.getfield 11, 3) := by decide +kernel
theorem d_X4_bitsOf_42 : decode (cd mX4_bitsOf) 42 = .ok (.iload_n 3, 1) := by decide +kernel
theorem d_X4_bitsOf_43 : decode (cd mX4_bitsOf) 43 = .ok (.iaload, 1) := by decide +kernel
theorem d_X4_bitsOf_44 : decode (cd mX4_bitsOf) 44 = .ok (.iconst 4, 1) := by decide +kernel
theorem d_X4_bitsOf_45 : decode (cd mX4_bitsOf) 45 = .ok (.idiv, 1) := by decide +kernel
theorem d_X4_bitsOf_46 : decode (cd mX4_bitsOf) 46 = .ok (.ishl, 1) := by decide +kernel
theorem d_X4_bitsOf_47 : decode (cd mX4_bitsOf) 47 = .ok (.ior, 1) := by decide +kernel
theorem d_X4_bitsOf_48 : decode (cd mX4_bitsOf) 48 = .ok (.istore_n 2, 1) := by decide +kernel
theorem d_X4_bitsOf_49 : decode (cd mX4_bitsOf) 49 = .ok (.iinc 3 1, 3) := by decide +kernel
theorem d_X4_bitsOf_52 : decode (cd mX4_bitsOf) 52 = .ok (.goto (-48), 3) := by decide +kernel
theorem d_X4_bitsOf_55 : decode (cd mX4_bitsOf) 55 = .ok (.iload_n 2, 1) := by decide +kernel
theorem d_X4_bitsOf_56 : decode (cd mX4_bitsOf) 56 = .ok (.ireturn, 1) := by decide +kernel
theorem d_X4_onlyOne_0 : decode (cd mX4_onlyOne) 0 = .ok (.aload_n 0, 1) := by decide +kernel
theorem d_X4_onlyOne_1 : decode (cd mX4_onlyOne) 1 = .ok (.iload_n 1, 1) := by decide +kernel
theorem d_X4_onlyOne_2 : decode (cd mX4_onlyOne) 2 = .ok (.invokevirtual 36, 3) := by decide +kernel
theorem d_X4_onlyOne_5 : decode (cd mX4_onlyOne) 5 = .ok (.istore_n 2, 1) := by decide +kernel
theorem d_X4_onlyOne_6 : decode (cd mX4_onlyOne) 6 = .ok (.iconst 0, 1) := by decide +kernel
theorem d_X4_onlyOne_7 : decode (cd mX4_onlyOne) 7 = .ok (.istore_n 3, 1) := by decide +kernel
theorem d_X4_onlyOne_8 : decode (cd mX4_onlyOne) 8 = .ok (.iload_n 3, 1) := by decide +kernel
theorem d_X4_onlyOne_9 : decode (cd mX4_onlyOne) 9 = .ok (.bipush 9, 2) := by decide +kernel
theorem d_X4_onlyOne_11 : decode (cd mX4_onlyOne) 11 = .ok (.if_icmp .gt 18, 3) := by decide +kernel
theorem d_X4_onlyOne_14 : decode (cd mX4_onlyOne) 14 = .ok (.iload_n 2, 1) := by decide +kernel
theorem d_X4_onlyOne_15 : decode (cd mX4_onlyOne) 15 = .ok (.iconst 1, 1) := by decide +kernel
theorem d_X4_onlyOne_16 : decode (cd mX4_onlyOne) 16 = .ok (.iload_n 3, 1) := by decide +kernel
theorem d_X4_onlyOne_17 : decode (cd mX4_onlyOne) 17 = .ok (.ishl, 1) := by decide +kernel
theorem d_X4_onlyOne_18 : decode (cd mX4_onlyOne) 18 = .ok (.if_icmp .ne 5, 3) := by decide +kernel
theorem d_X4_onlyOne_21 : decode (cd mX4_onlyOne) 21 = .ok (.iload_n 3, 1) := by decide +kernel
theorem d_X4_onlyOne_22 : decode (cd mX4_onlyOne) 22 = .ok (.ireturn, 1) := by decide +kernel
theorem d_X4_onlyOne_23 : decode (cd mX4_onlyOne) 23 = .ok (.iinc 3 1, 3) := by decide +kernel
theorem d_X4_onlyOne_26 : decode (cd mX4_onlyOne) 26 = .ok (.goto (-18), 3) := by decide +kernel
theorem d_X4_onlyOne_29 : decode (cd mX4_onlyOne) 29 = .ok (.bipush (-2), 2) := by decide +kernel
theorem d_X4_onlyOne_31 : decode (cd mX4_onlyOne) 31 = .ok (.ireturn, 1) := by decide +kernel
theorem d_X4_chooseDay_0 : decode (cd mX4_chooseDay) 0 = .ok (.aload_n 0, 1) := by decide +kernel
theorem d_X4_chooseDay_1 : decode (cd mX4_chooseDay) 1 = .ok (.aload_n 1, 1) := by decide +kernel
theorem d_X4_chooseDay_2 : decode (cd mX4_chooseDay) 2 = .ok (.invokevirtual 40, 3) := by decide +kernel
theorem d_X4_chooseDay_5 : decode (cd mX4_chooseDay) 5 = .ok (.aload_n 0, 1) := by decide +kernel
theorem d_X4_chooseDay_6 : decode (cd mX4_chooseDay) 6 = .ok (.bipush (-2), 2) := by decide +kernel
theorem d_X4_chooseDay_8 : decode (cd mX4_chooseDay) 8 = .ok (.putfield 44, 3) := by decide +kernel
theorem d_X4_chooseDay_11 : decode (cd mX4_chooseDay) 11 = .ok (.aload_n 0, 1) := by decide +kernel
theorem d_X4_chooseDay_12 : decode (cd mX4_chooseDay) 12 = .ok (.bipush (-2), 2) := by decide +kernel
theorem d_X4_chooseDay_14 : decode (cd mX4_chooseDay) 14 = .ok (.putfield 47, 3) := by decide +kernel
theorem d_X4_chooseDay_17 : decode (cd mX4_chooseDay) 17 = .ok (.iconst 0, 1) := by decide +kernel
theorem d_X4_chooseDay_18 : decode (cd mX4_chooseDay) 18 = .ok (.istore_n 2, 1) := by decide +kernel
theorem d_X4_chooseDay_19 : decode (cd mX4_chooseDay) 19 = .ok (.iload_n 2, 1) := by decide +kernel
theorem d_X4_chooseDay_20 : decode (cd mX4_chooseDay) 20 = .ok (.bipush 21, 2) := by decide +kernel
theorem d_X4_chooseDay_22 : decode (cd mX4_chooseDay) 22 = .ok (.if_icmp .ge 49, 3) := by decide +kernel
theorem d_X4_chooseDay_25 : decode (cd mX4_chooseDay) 25 = .ok (.aload_n 0, 1) := by decide +kernel
theorem d_X4_chooseDay_26 : decode (cd mX4_chooseDay) 26 = .ok (.getfield 32, 3) := by decide +kernel
theorem d_X4_chooseDay_29 : decode (cd mX4_chooseDay) 29 = .ok (.ifCond .le 42, 3) := by decide +kernel
theorem d_X4_chooseDay_32 : decode (cd mX4_chooseDay) 32 = .ok (.aload_n 0, 1) := by decide +kernel
theorem d_X4_chooseDay_33 : decode (cd mX4_chooseDay) 33 = .ok (.iload_n 2, 1) := by decide +kernel
theorem d_X4_chooseDay_34 : decode (cd mX4_chooseDay) 34 = .ok (.invokevirtual 50, 3) := by decide +kernel
theorem d_X4_chooseDay_37 : decode (cd mX4_chooseDay) 37 = .ok (.istore_n 3, 1) := by decide +kernel
theorem d_X4_chooseDay_38 : decode (cd mX4_chooseDay) 38 = .ok (.aload_n 0, 1) := by decide +kernel
theorem d_X4_chooseDay_39 : decode (cd mX4_chooseDay) 39 = .ok (.getfield 44, 3) := by decide +kernel
theorem d_X4_chooseDay_42 : decode (cd mX4_chooseDay) 42 = .ok (.bipush (-2), 2) := by decide +kernel
theorem d_X4_chooseDay_44 : decode (cd mX4_chooseDay) 44 = .ok (.if_icmp .eq 11, 3) := by decide +kernel
theorem d_X4_chooseDay_47 : decode (cd mX4_chooseDay) 47 = .ok (.iload_n 3, 1) := by decide +kernel
theorem d_X4_chooseDay_48 : decode (cd mX4_chooseDay) 48 = .ok (.aload_n 0, 1) := by decide +kernel
theorem d_X4_chooseDay_49 : decode (cd mX4_chooseDay) 49 = .ok (.getfield 47, 3) := by decide +kernel
theorem d_X4_chooseDay_52 : decode (cd mX4_chooseDay) 52 = .ok (.if_icmp .ge 13, 3) := by decide +kernel
theorem d_X4_chooseDay_55 : decode (cd mX4_chooseDay) 55 = .ok (.aload_n 0, 1) := by decide +kernel
theorem d_X4_chooseDay_56 : decode (cd mX4_chooseDay) 56 = .ok (.iload_n 2, 1) := by decide +kernel
theorem d_X4_chooseDay_57 : decode (cd mX4_chooseDay) 57 = .ok (.putfield 44, 3) := by decide +kernel
theorem d_X4_chooseDay_60 : decode (cd mX4_chooseDay) 60 = .ok (.aload_n 0, 1) := by decide +kernel
theorem d_X4_chooseDay_61 : decode (cd mX4_chooseDay) 61 = .ok (.iload_n 3, 1) := by decide +kernel
theorem d_X4_chooseDay_62 : decode (cd mX4_chooseDay) 62 = .ok (.putfield 47, 3) := by decide +kernel
theorem d_X4_chooseDay_65 : decode (cd mX4_chooseDay) 65 = .ok (.iinc 2 1, 3) := by decide +kernel
theorem d_X4_chooseDay_68 : decode (cd mX4_chooseDay) 68 = .ok (.goto (-49), 3) := by decide +kernel
theorem d_X4_chooseDay_71 : decode (cd mX4_chooseDay) 71 = .ok (.return_, 1) := by decide +kernel
theorem d_X4_firstUnlike_0 : decode (cd mX4_firstUnlike) 0 = .ok (.aload_n 0, 1) := by decide +kernel
theorem d_X4_firstUnlike_1 : decode (cd mX4_firstUnlike) 1 = .ok (.aload_n 1, 1) := by decide +kernel
theorem d_X4_firstUnlike_2 : decode (cd mX4_firstUnlike) 2 = .ok (.aload_n 1, 1) := by decide +kernel
theorem d_X4_firstUnlike_3 : decode (cd mX4_firstUnlike) 3 = .ok (.getfield 54, 3) := by decide +kernel
theorem d_X4_firstUnlike_6 : decode (cd mX4_firstUnlike) 6 = .ok (.aload_n 1, 1) := by decide +kernel
theorem d_X4_firstUnlike_7 : decode (cd mX4_firstUnlike) 7 = .ok (.getfield 59, 3) := by decide +kernel
theorem d_X4_firstUnlike_10 : decode (cd mX4_firstUnlike) 10 = .ok (.invokevirtual 62, 3) := by decide +kernel
theorem d_X4_firstUnlike_13 : decode (cd mX4_firstUnlike) 13 = .ok (.aload_n 0, 1) := by decide +kernel
theorem d_X4_firstUnlike_14 : decode (cd mX4_firstUnlike) 14 = .ok (.aload_n 1, 1) := by decide +kernel
theorem d_X4_firstUnlike_15 : decode (cd mX4_firstUnlike) 15 = .ok (.invokevirtual 66, 3) := by decide +kernel
theorem d_X4_firstUnlike_18 : decode (cd mX4_firstUnlike) 18 = .ok (.ireturn, 1) := by decide +kernel
theorem d_X4_gather_0 : decode (cd mX4_gather) 0 = .ok (.aload_n 0, 1) := by decide +kernel
theorem d_X4_gather_1 : decode (cd mX4_gather) 1 = .ok (.getfield 28, 3) := by decide +kernel
theorem d_X4_gather_4 : decode (cd mX4_gather) 4 = .ok (.ifCond .eq 4, 3) := by decide +kernel
theorem d_X4_gather_7 : decode (cd mX4_gather) 7 = .ok (.return_, 1) := by decide +kernel
theorem d_X4_gather_8 : decode (cd mX4_gather) 8 = .ok (.aload_n 0, 1) := by decide +kernel
theorem d_X4_gather_9 : decode (cd mX4_gather) 9 = .ok (.iconst 0, 1) := by decide +kernel
theorem d_X4_gather_10 : decode (cd mX4_gather) 10 = .ok (.putfield 32, 3) := by decide +kernel
theorem d_X4_gather_13 : decode (cd mX4_gather) 13 = .ok (.iconst 0, 1) := by decide +kernel
theorem d_X4_gather_14 : decode (cd mX4_gather) 14 = .ok (.istore_n 2, 1) := by decide +kernel
theorem d_X4_gather_15 : decode (cd mX4_gather) 15 = .ok (.iload_n 2, 1) := by decide +kernel
theorem d_X4_gather_16 : decode (cd mX4_gather) 16 = .ok (.bipush 40, 2) := by decide +kernel
theorem d_X4_gather_18 : decode (cd mX4_gather) 18 = .ok (.if_icmp .ge 62, 3) := by decide +kernel
theorem d_X4_gather_21 : decode (cd mX4_gather) 21 = .ok (.aload_n 0, 1) := by decide +kernel
theorem d_X4_gather_22 : decode (cd mX4_gather) 22 = .ok (.aload_n 1, 1) := by decide +kernel
theorem d_X4_gather_23 : decode (cd mX4_gather) 23 = .ok (.iload_n 2, 1) := by decide +kernel
theorem d_X4_gather_24 : decode (cd mX4_gather) 24 = .ok (.iconst 4, 1) := by decide +kernel
theorem d_X4_gather_25 : decode (cd mX4_gather) 25 = .ok (.idiv, 1) := by decide +kernel
theorem d_X4_gather_26 : decode (cd mX4_gather) 26 = .ok (.iload_n 2, 1) := by decide +kernel
theorem d_X4_gather_27 : decode (cd mX4_gather) 27 = .ok (.iconst 4, 1) := by decide +kernel
theorem d_X4_gather_28 : decode (cd mX4_gather) 28 = .ok (.irem, 1) := by decide +kernel
theorem d_X4_gather_29 : decode (cd mX4_gather) 29 = .ok (.invokevirtual 62, 3) := by decide +kernel
theorem d_X4_gather_32 : decode (cd mX4_gather) 32 = .ok (.aload_n 0, 1) := by decide +kernel
theorem d_X4_gather_33 : decode (cd mX4_gather) 33 = .ok (.aload_n 1, 1) := by decide +kernel
theorem d_X4_gather_34 : decode (cd mX4_gather) 34 = .ok (.invokevirtual 66, 3) := by decide +kernel
theorem d_X4_gather_37 : decode (cd mX4_gather) 37 = .ok (.bipush (-2), 2) := by decide +kernel
theorem d_X4_gather_39 : decode (cd mX4_gather) 39 = .ok (.if_icmp .ne 35, 3) := by decide +kernel
theorem d_X4_gather_42 : decode (cd mX4_gather) 42 = .ok (.aload_n 0, 1) := by decide +kernel
theorem d_X4_gather_43 : decode (cd mX4_gather) 43 = .ok (.getfield 32, 3) := by decide +kernel
theorem d_X4_gather_46 : decode (cd mX4_gather) 46 = .ok (.aload_n 0, 1) := by decide +kernel
theorem d_X4_gather_47 : decode (cd mX4_gather) 47 = .ok (.getfield 11, 3) := by decide +kernel
theorem d_X4_gather_50 : decode (cd mX4_gather) 50 = .ok (.arraylength, 1) := by decide +kernel
theorem d_X4_gather_51 : decode (cd mX4_gather) 51 = .ok (.if_icmp .ge 23, 3) := by decide +kernel
theorem d_X4_gather_54 : decode (cd mX4_gather) 54 = .ok (.aload_n 0, 1) := by decide +kernel
theorem d_X4_gather_55 : decode (cd mX4_gather) 55 = .ok (.getfield 11, 3) := by decide +kernel
theorem d_X4_gather_58 : decode (cd mX4_gather) 58 = .ok (.aload_n 0, 1) := by decide +kernel
theorem d_X4_gather_59 : decode (cd mX4_gather) 59 = .ok (.getfield 32, 3) := by decide +kernel
theorem d_X4_gather_62 : decode (cd mX4_gather) 62 = .ok (.iload_n 2, 1) := by decide +kernel
theorem d_X4_gather_63 : decode (cd mX4_gather) 63 = .ok (.iastore, 1) := by decide +kernel
theorem d_X4_gather_64 : decode (cd mX4_gather) 64 = .ok (.aload_n 0, 1) := by decide +kernel
theorem d_X4_gather_65 : decode (cd mX4_gather) 65 = .ok (.dup, 1) := by decide +kernel
theorem d_X4_gather_66 : decode (cd mX4_gather) 66 = .ok (.getfield 32, 3) := by decide +kernel
theorem d_X4_gather_69 : decode (cd mX4_gather) 69 = .ok (.iconst 1, 1) := by decide +kernel
theorem d_X4_gather_70 : decode (cd mX4_gather) 70 = .ok (.iadd, 1) := by decide +kernel
theorem d_X4_gather_71 : decode (cd mX4_gather) 71 = .ok (.putfield 32, 3) := by decide +kernel
theorem d_X4_gather_74 : decode (cd mX4_gather) 74 = .ok (.iinc 2 1, 3) := by decide +kernel
theorem d_X4_gather_77 : decode (cd mX4_gather) 77 = .ok (.goto (-62), 3) := by decide +kernel
theorem d_X4_gather_80 : decode (cd mX4_gather) 80 = .ok (.aload_n 0, 1) := by decide +kernel
theorem d_X4_gather_81 : decode (cd mX4_gather) 81 = .ok (.iconst 1, 1) := by decide +kernel
theorem d_X4_gather_82 : decode (cd mX4_gather) 82 = .ok (.putfield 28, 3) := by decide +kernel
theorem d_X4_gather_85 : decode (cd mX4_gather) 85 = .ok (.return_, 1) := by decide +kernel
theorem d_X4_watch_0 : decode (cd mX4_watch) 0 = .ok (.aload_n 0, 1) := by decide +kernel
theorem d_X4_watch_1 : decode (cd mX4_watch) 1 = .ok (.getfield 18, 3) := by decide +kernel
theorem d_X4_watch_4 : decode (cd mX4_watch) 4 = .ok (.aload_n 1, 1) := by decide +kernel
theorem d_X4_watch_5 : decode (cd mX4_watch) 5 = .ok (.getfield 70, 3) := by decide +kernel
theorem d_X4_watch_8 : decode (cd mX4_watch) 8 = .ok (.iload_n 2, 1) := by decide +kernel
theorem d_X4_watch_9 : decode (cd mX4_watch) 9 = .ok (.iload_n 3, 1) := by decide +kernel
theorem d_X4_watch_10 : decode (cd mX4_watch) 10 = .ok (.invokevirtual 73, 3) := by decide +kernel
theorem d_X4_watch_13 : decode (cd mX4_watch) 13 = .ok (.iconst 0, 1) := by decide +kernel
theorem d_X4_watch_14 : decode (cd mX4_watch) 14 = .ok (.istore 4, 2) := by decide +kernel
theorem d_X4_watch_16 : decode (cd mX4_watch) 16 = .ok (.iload 4, 2) := by decide +kernel
theorem d_X4_watch_18 : decode (cd mX4_watch) 18 = .ok (.aload_n 0, 1) := by decide +kernel
theorem d_X4_watch_19 : decode (cd mX4_watch) 19 = .ok (.getfield 22, 3) := by decide +kernel
theorem d_X4_watch_22 : decode (cd mX4_watch) 22 = .ok (.arraylength, 1) := by decide +kernel
theorem d_X4_watch_23 : decode (cd mX4_watch) 23 = .ok (.if_icmp .ge 31, 3) := by decide +kernel
theorem d_X4_watch_26 : decode (cd mX4_watch) 26 = .ok (.aload_n 0, 1) := by decide +kernel
theorem d_X4_watch_27 : decode (cd mX4_watch) 27 = .ok (.getfield 18, 3) := by decide +kernel
theorem d_X4_watch_30 : decode (cd mX4_watch) 30 = .ok (.aload_n 1, 1) := by decide +kernel
theorem d_X4_watch_31 : decode (cd mX4_watch) 31 = .ok (.invokevirtual 77, 3) := by decide +kernel
theorem d_X4_watch_34 : decode (cd mX4_watch) 34 = .ok (.aload_n 0, 1) := by decide +kernel
theorem d_X4_watch_35 : decode (cd mX4_watch) 35 = .ok (.getfield 22, 3) := by decide +kernel
theorem d_X4_watch_38 : decode (cd mX4_watch) 38 = .ok (.iload 4, 2) := by decide +kernel
theorem d_X4_watch_40 : decode (cd mX4_watch) 40 = .ok (.aload_n 0, 1) := by decide +kernel
theorem d_X4_watch_41 : decode (cd mX4_watch) 41 = .ok (.getfield 18, 3) := by decide +kernel
theorem d_X4_watch_44 : decode (cd mX4_watch) 44 = .ok (.invokevirtual 80, 3) := by decide +kernel
theorem d_X4_watch_47 : decode (cd mX4_watch) 47 = .ok (.iastore, 1) := by decide +kernel
theorem d_X4_watch_48 : decode (cd mX4_watch) 48 = .ok (.iinc 4 1, 3) := by decide +kernel
theorem d_X4_watch_51 : decode (cd mX4_watch) 51 = .ok (.goto (-35), 3) := by decide +kernel
theorem d_X4_watch_54 : decode (cd mX4_watch) 54 = .ok (.return_, 1) := by decide +kernel
theorem d_X4_unlikeSeen_0 : decode (cd mX4_unlikeSeen) 0 = .ok (.iconst 0, 1) := by decide +kernel
theorem d_X4_unlikeSeen_1 : decode (cd mX4_unlikeSeen) 1 = .ok (.istore_n 2, 1) := by decide +kernel
theorem d_X4_unlikeSeen_2 : decode (cd mX4_unlikeSeen) 2 = .ok (.iload_n 2, 1) := by decide +kernel
theorem d_X4_unlikeSeen_3 : decode (cd mX4_unlikeSeen) 3 = .ok (.aload_n 1, 1) := by decide +kernel
theorem d_X4_unlikeSeen_4 : decode (cd mX4_unlikeSeen) 4 = .ok (.getfield 84, 3) := by decide +kernel
theorem d_X4_unlikeSeen_7 : decode (cd mX4_unlikeSeen) 7 = .ok (.getfield 88, 3) := by decide +kernel
theorem d_X4_unlikeSeen_10 : decode (cd mX4_unlikeSeen) 10 = .ok (.if_icmp .ge 52, 3) := by decide +kernel
theorem d_X4_unlikeSeen_13 : decode (cd mX4_unlikeSeen) 13 = .ok (.aload_n 1, 1) := by decide +kernel
theorem d_X4_unlikeSeen_14 : decode (cd mX4_unlikeSeen) 14 = .ok (.getfield 84, 3) := by decide +kernel
theorem d_X4_unlikeSeen_17 : decode (cd mX4_unlikeSeen) 17 = .ok (.iload_n 2, 1) := by decide +kernel
theorem d_X4_unlikeSeen_18 : decode (cd mX4_unlikeSeen) 18 = .ok (.iconst 0, 1) := by decide +kernel
theorem d_X4_unlikeSeen_19 : decode (cd mX4_unlikeSeen) 19 = .ok (.invokevirtual 91, 3) := by decide +kernel
theorem d_X4_unlikeSeen_22 : decode (cd mX4_unlikeSeen) 22 = .ok (.istore_n 3, 1) := by decide +kernel
theorem d_X4_unlikeSeen_23 : decode (cd mX4_unlikeSeen) 23 = .ok (.iload_n 3, 1) := by decide +kernel
theorem d_X4_unlikeSeen_24 : decode (cd mX4_unlikeSeen) 24 = .ok (.ifCond .lt 32, 3) := by decide +kernel
theorem d_X4_unlikeSeen_27 : decode (cd mX4_unlikeSeen) 27 = .ok (.iload_n 3, 1) := by decide +kernel
theorem d_X4_unlikeSeen_28 : decode (cd mX4_unlikeSeen) 28 = .ok (.aload_n 0, 1) := by decide +kernel
theorem d_X4_unlikeSeen_29 : decode (cd mX4_unlikeSeen) 29 = .ok (.getfield 22, 3) := by decide +kernel
theorem d_X4_unlikeSeen_32 : decode (cd mX4_unlikeSeen) 32 = .ok (.arraylength, 1) := by decide +kernel
theorem d_X4_unlikeSeen_33 : decode (cd mX4_unlikeSeen) 33 = .ok (.if_icmp .ge 23, 3) := by decide +kernel
theorem d_X4_unlikeSeen_36 : decode (cd mX4_unlikeSeen) 36 = .ok (.aload_n 0, 1) := by decide +kernel
theorem d_X4_unlikeSeen_37 : decode (cd mX4_unlikeSeen) 37 = .ok (.getfield 22, 3) := by decide +kernel
theorem d_X4_unlikeSeen_40 : decode (cd mX4_unlikeSeen) 40 = .ok (.iload_n 3, 1) := by decide +kernel
theorem d_X4_unlikeSeen_41 : decode (cd mX4_unlikeSeen) 41 = .ok (.iaload, 1) := by decide +kernel
theorem d_X4_unlikeSeen_42 : decode (cd mX4_unlikeSeen) 42 = .ok (.aload_n 1, 1) := by decide +kernel
theorem d_X4_unlikeSeen_43 : decode (cd mX4_unlikeSeen) 43 = .ok (.getfield 84, 3) := by decide +kernel
theorem d_X4_unlikeSeen_46 : decode (cd mX4_unlikeSeen) 46 = .ok (.iload_n 2, 1) := by decide +kernel
theorem d_X4_unlikeSeen_47 : decode (cd mX4_unlikeSeen) 47 = .ok (.iconst 1, 1) := by decide +kernel
theorem d_X4_unlikeSeen_48 : decode (cd mX4_unlikeSeen) 48 = .ok (.invokevirtual 91, 3) := by decide +kernel
theorem d_X4_unlikeSeen_51 : decode (cd mX4_unlikeSeen) 51 = .ok (.if_icmp .eq 5, 3) := by decide +kernel
theorem d_X4_unlikeSeen_54 : decode (cd mX4_unlikeSeen) 54 = .ok (.iload_n 2, 1) := by decide +kernel
theorem d_X4_unlikeSeen_55 : decode (cd mX4_unlikeSeen) 55 = .ok (.ireturn, 1) := by decide +kernel
theorem d_X4_unlikeSeen_56 : decode (cd mX4_unlikeSeen) 56 = .ok (.iinc 2 1, 3) := by decide +kernel
theorem d_X4_unlikeSeen_59 : decode (cd mX4_unlikeSeen) 59 = .ok (.goto (-57), 3) := by decide +kernel
theorem d_X4_unlikeSeen_62 : decode (cd mX4_unlikeSeen) 62 = .ok (.bipush (-2), 2) := by decide +kernel
theorem d_X4_unlikeSeen_64 : decode (cd mX4_unlikeSeen) 64 = .ok (.ireturn, 1) := by decide +kernel
theorem d_X4_countOuts_0 : decode (cd mX4_countOuts) 0 = .ok (.aload_n 0, 1) := by decide +kernel
theorem d_X4_countOuts_1 : decode (cd mX4_countOuts) 1 = .ok (.getfield 25, 3) := by decide +kernel
theorem d_X4_countOuts_4 : decode (cd mX4_countOuts) 4 = .ok (.iconst 0, 1) := by decide +kernel
theorem d_X4_countOuts_5 : decode (cd mX4_countOuts) 5 = .ok (.invokestatic 95, 3) := by decide +kernel
theorem d_X4_countOuts_8 : decode (cd mX4_countOuts) 8 = .ok (.iconst 0, 1) := by decide +kernel
theorem d_X4_countOuts_9 : decode (cd mX4_countOuts) 9 = .ok (.istore_n 2, 1) := by decide +kernel
theorem d_X4_countOuts_10 : decode (cd mX4_countOuts) 10 = .ok (.iload_n 2, 1) := by decide +kernel
theorem d_X4_countOuts_11 : decode (cd mX4_countOuts) 11 = .ok (.aload_n 0, 1) := by decide +kernel
theorem d_X4_countOuts_12 : decode (cd mX4_countOuts) 12 = .ok (.getfield 32, 3) := by decide +kernel
theorem d_X4_countOuts_15 : decode (cd mX4_countOuts) 15 = .ok (.if_icmp .ge 94, 3) := by decide +kernel
theorem d_X4_countOuts_18 : decode (cd mX4_countOuts) 18 = .ok (.iload_n 2, 1) := by decide +kernel
theorem d_X4_countOuts_19 : decode (cd mX4_countOuts) 19 = .ok (.aload_n 0, 1) := by decide +kernel
theorem d_X4_countOuts_20 : decode (cd mX4_countOuts) 20 = .ok (.getfield 11, 3) := by decide +kernel
theorem d_X4_countOuts_23 : decode (cd mX4_countOuts) 23 = .ok (.arraylength, 1) := by decide +kernel
theorem d_X4_countOuts_24 : decode (cd mX4_countOuts) 24 = .ok (.if_icmp .ge 85, 3) := by decide +kernel
theorem d_X4_countOuts_27 : decode (cd mX4_countOuts) 27 = .ok (.aload_n 0, 1) := by decide +kernel
theorem d_X4_countOuts_28 : decode (cd mX4_countOuts) 28 = .ok (.aload_n 1, 1) := by decide +kernel
theorem d_X4_countOuts_29 : decode (cd mX4_countOuts) 29 = .ok (.aload_n 0, 1) := by decide +kernel
theorem d_X4_countOuts_30 : decode (cd mX4_countOuts) 30 = .ok (.getfield 11, 3) := by decide +kernel
theorem d_X4_countOuts_33 : decode (cd mX4_countOuts) 33 = .ok (.iload_n 2, 1) := by decide +kernel
theorem d_X4_countOuts_34 : decode (cd mX4_countOuts) 34 = .ok (.iaload, 1) := by decide +kernel
theorem d_X4_countOuts_35 : decode (cd mX4_countOuts) 35 = .ok (.iconst 4, 1) := by decide +kernel
theorem d_X4_countOuts_36 : decode (cd mX4_countOuts) 36 = .ok (.idiv, 1) := by decide +kernel
theorem d_X4_countOuts_37 : decode (cd mX4_countOuts) 37 = .ok (.aload_n 0, 1) := by decide +kernel
theorem d_X4_countOuts_38 : decode (cd mX4_countOuts) 38 = .ok (.getfield 11, 3) := by decide +kernel
theorem d_X4_countOuts_41 : decode (cd mX4_countOuts) 41 = .ok (.iload_n 2, 1) := by decide +kernel
theorem d_X4_countOuts_42 : decode (cd mX4_countOuts) 42 = .ok (.iaload, 1) := by decide +kernel
theorem d_X4_countOuts_43 : decode (cd mX4_countOuts) 43 = .ok (.iconst 4, 1) := by decide +kernel
theorem d_X4_countOuts_44 : decode (cd mX4_countOuts) 44 = .ok (.irem, 1) := by decide +kernel
theorem d_X4_countOuts_45 : decode (cd mX4_countOuts) 45 = .ok (.invokevirtual 62, 3) := by decide +kernel
theorem d_X4_countOuts_48 : decode (cd mX4_countOuts) 48 = .ok (.iconst 0, 1) := by decide +kernel
theorem d_X4_countOuts_49 : decode (cd mX4_countOuts) 49 = .ok (.istore_n 3, 1) := by decide +kernel
theorem d_X4_countOuts_50 : decode (cd mX4_countOuts) 50 = .ok (.iload_n 3, 1) := by decide +kernel
theorem d_X4_countOuts_51 : decode (cd mX4_countOuts) 51 = .ok (.aload_n 0, 1) := by decide +kernel
theorem d_X4_countOuts_52 : decode (cd mX4_countOuts) 52 = .ok (.getfield 22, 3) := by decide +kernel
theorem d_X4_countOuts_55 : decode (cd mX4_countOuts) 55 = .ok (.arraylength, 1) := by decide +kernel
theorem d_X4_countOuts_56 : decode (cd mX4_countOuts) 56 = .ok (.if_icmp .ge 47, 3) := by decide +kernel
theorem d_X4_countOuts_59 : decode (cd mX4_countOuts) 59 = .ok (.iload_n 3, 1) := by decide +kernel
theorem d_X4_countOuts_60 : decode (cd mX4_countOuts) 60 = .ok (.iconst 4, 1) := by decide +kernel
theorem d_X4_countOuts_61 : decode (cd mX4_countOuts) 61 = .ok (.imul, 1) := by decide +kernel
theorem d_X4_countOuts_62 : decode (cd mX4_countOuts) 62 = .ok (.aload_n 0, 1) := by decide +kernel
theorem d_X4_countOuts_63 : decode (cd mX4_countOuts) 63 = .ok (.getfield 22, 3) := by decide +kernel
theorem d_X4_countOuts_66 : decode (cd mX4_countOuts) 66 = .ok (.iload_n 3, 1) := by decide +kernel
theorem d_X4_countOuts_67 : decode (cd mX4_countOuts) 67 = .ok (.iaload, 1) := by decide +kernel
theorem d_X4_countOuts_68 : decode (cd mX4_countOuts) 68 = .ok (.iadd, 1) := by decide +kernel
theorem d_X4_countOuts_69 : decode (cd mX4_countOuts) 69 = .ok (.istore 4, 2) := by decide +kernel
theorem d_X4_countOuts_71 : decode (cd mX4_countOuts) 71 = .ok (.iload 4, 2) := by decide +kernel
theorem d_X4_countOuts_73 : decode (cd mX4_countOuts) 73 = .ok (.ifCond .lt 24, 3) := by decide +kernel
theorem d_X4_countOuts_76 : decode (cd mX4_countOuts) 76 = .ok (.iload 4, 2) := by decide +kernel
theorem d_X4_countOuts_78 : decode (cd mX4_countOuts) 78 = .ok (.aload_n 0, 1) := by decide +kernel
theorem d_X4_countOuts_79 : decode (cd mX4_countOuts) 79 = .ok (.getfield 25, 3) := by decide +kernel
theorem d_X4_countOuts_82 : decode (cd mX4_countOuts) 82 = .ok (.arraylength, 1) := by decide +kernel
theorem d_X4_countOuts_83 : decode (cd mX4_countOuts) 83 = .ok (.if_icmp .ge 14, 3) := by decide +kernel
theorem d_X4_countOuts_86 : decode (cd mX4_countOuts) 86 = .ok (.aload_n 0, 1) := by decide +kernel
theorem d_X4_countOuts_87 : decode (cd mX4_countOuts) 87 = .ok (.getfield 25, 3) := by decide +kernel
theorem d_X4_countOuts_90 : decode (cd mX4_countOuts) 90 = .ok (.iload 4, 2) := by decide +kernel
theorem d_X4_countOuts_92 : decode (cd mX4_countOuts) 92 = .ok (.dup2, 1) := by decide +kernel
theorem d_X4_countOuts_93 : decode (cd mX4_countOuts) 93 = .ok (.iaload, 1) := by decide +kernel
theorem d_X4_countOuts_94 : decode (cd mX4_countOuts) 94 = .ok (.iconst 1, 1) := by decide +kernel
theorem d_X4_countOuts_95 : decode (cd mX4_countOuts) 95 = .ok (.iadd, 1) := by decide +kernel
theorem d_X4_countOuts_96 : decode (cd mX4_countOuts) 96 = .ok (.iastore, 1) := by decide +kernel
theorem d_X4_countOuts_97 : decode (cd mX4_countOuts) 97 = .ok (.iinc 3 1, 3) := by decide +kernel
theorem d_X4_countOuts_100 : decode (cd mX4_countOuts) 100 = .ok (.goto (-50), 3) := by decide +kernel
theorem d_X4_countOuts_103 : decode (cd mX4_countOuts) 103 = .ok (.iinc 2 1, 3) := by decide +kernel
theorem d_X4_countOuts_106 : decode (cd mX4_countOuts) 106 = .ok (.goto (-96), 3) := by decide +kernel
theorem d_X4_countOuts_109 : decode (cd mX4_countOuts) 109 = .ok (.return_, 1) := by decide +kernel
theorem d_X4_mostOf_0 : decode (cd mX4_mostOf) 0 = .ok (.iconst 0, 1) := by decide +kernel
theorem d_X4_mostOf_1 : decode (cd mX4_mostOf) 1 = .ok (.istore_n 2, 1) := by decide +kernel
theorem d_X4_mostOf_2 : decode (cd mX4_mostOf) 2 = .ok (.iconst 0, 1) := by decide +kernel
theorem d_X4_mostOf_3 : decode (cd mX4_mostOf) 3 = .ok (.istore_n 3, 1) := by decide +kernel
theorem d_X4_mostOf_4 : decode (cd mX4_mostOf) 4 = .ok (.iload_n 3, 1) := by decide +kernel
theorem d_X4_mostOf_5 : decode (cd mX4_mostOf) 5 = .ok (.iconst 3, 1) := by decide +kernel
theorem d_X4_mostOf_6 : decode (cd mX4_mostOf) 6 = .ok (.if_icmp .gt 43, 3) := by decide +kernel
theorem d_X4_mostOf_9 : decode (cd mX4_mostOf) 9 = .ok (.iload_n 1, 1) := by decide +kernel
theorem d_X4_mostOf_10 : decode (cd mX4_mostOf) 10 = .ok (.iconst 4, 1) := by decide +kernel
theorem d_X4_mostOf_11 : decode (cd mX4_mostOf) 11 = .ok (.imul, 1) := by decide +kernel
theorem d_X4_mostOf_12 : decode (cd mX4_mostOf) 12 = .ok (.iload_n 3, 1) := by decide +kernel
theorem d_X4_mostOf_13 : decode (cd mX4_mostOf) 13 = .ok (.iadd, 1) := by decide +kernel
theorem d_X4_mostOf_14 : decode (cd mX4_mostOf) 14 = .ok (.istore 4, 2) := by decide +kernel
theorem d_X4_mostOf_16 : decode (cd mX4_mostOf) 16 = .ok (.iload 4, 2) := by decide +kernel
theorem d_X4_mostOf_18 : decode (cd mX4_mostOf) 18 = .ok (.ifCond .lt 25, 3) := by decide +kernel
theorem d_X4_mostOf_21 : decode (cd mX4_mostOf) 21 = .ok (.iload 4, 2) := by decide +kernel
theorem d_X4_mostOf_23 : decode (cd mX4_mostOf) 23 = .ok (.aload_n 0, 1) := by decide +kernel
theorem d_X4_mostOf_24 : decode (cd mX4_mostOf) 24 = .ok (.getfield 25, 3) := by decide +kernel
theorem d_X4_mostOf_27 : decode (cd mX4_mostOf) 27 = .ok (.arraylength, 1) := by decide +kernel
theorem d_X4_mostOf_28 : decode (cd mX4_mostOf) 28 = .ok (.if_icmp .ge 15, 3) := by decide +kernel
theorem d_X4_mostOf_31 : decode (cd mX4_mostOf) 31 = .ok (.iload_n 2, 1) := by decide +kernel
theorem d_X4_mostOf_32 : decode (cd mX4_mostOf) 32 = .ok (.aload_n 0, 1) := by decide +kernel
theorem d_X4_mostOf_33 : decode (cd mX4_mostOf) 33 = .ok (.getfield 25, 3) := by decide +kernel
theorem d_X4_mostOf_36 : decode (cd mX4_mostOf) 36 = .ok (.iload 4, 2) := by decide +kernel
theorem d_X4_mostOf_38 : decode (cd mX4_mostOf) 38 = .ok (.iaload, 1) := by decide +kernel
theorem d_X4_mostOf_39 : decode (cd mX4_mostOf) 39 = .ok (.invokestatic 101, 3) := by decide +kernel
theorem d_X4_mostOf_42 : decode (cd mX4_mostOf) 42 = .ok (.istore_n 2, 1) := by decide +kernel
theorem d_X4_mostOf_43 : decode (cd mX4_mostOf) 43 = .ok (.iinc 3 1, 3) := by decide +kernel
theorem d_X4_mostOf_46 : decode (cd mX4_mostOf) 46 = .ok (.goto (-42), 3) := by decide +kernel
theorem d_X4_mostOf_49 : decode (cd mX4_mostOf) 49 = .ok (.iload_n 2, 1) := by decide +kernel
theorem d_X4_mostOf_50 : decode (cd mX4_mostOf) 50 = .ok (.ireturn, 1) := by decide +kernel
theorem d_X5_init_0 : decode (cd mX5_init) 0 = .ok (.aload_n 0, 1) := by decide +kernel
theorem d_X5_init_1 : decode (cd mX5_init) 1 = .ok (.invokespecial 3, 3) := by decide +kernel
theorem d_X5_init_4 : decode (cd mX5_init) 4 = .ok (.aload_n 0, 1) := by decide +kernel
theorem d_X5_init_5 : decode (cd mX5_init) 5 = .ok (.bipush 16, 2) := by decide +kernel
theorem d_X5_init_7 : decode (cd mX5_init) 7 = .ok (.anewarray 11, 3) := by decide +kernel
theorem d_X5_init_10 : decode (cd mX5_init) 10 = .ok (.putfield 13, 3) := by decide +kernel
theorem d_X5_init_13 : decode (cd mX5_init) 13 = .ok (.aload_n 0, 1) := by decide +kernel
theorem d_X5_init_14 : decode (cd mX5_init) 14 = .ok (.iconst 3, 1) := by decide +kernel
theorem d_X5_init_15 : decode (cd mX5_init) 15 = .ok (.anewarray 11, 3) := by decide +kernel
theorem d_X5_init_18 : decode (cd mX5_init) 18 = .ok (.putfield 17, 3) := by decide +kernel
theorem d_X5_init_21 : decode (cd mX5_init) 21 = .ok (.iconst 0, 1) := by decide +kernel
theorem d_X5_init_22 : decode (cd mX5_init) 22 = .ok (.istore_n 1, 1) := by decide +kernel
theorem d_X5_init_23 : decode (cd mX5_init) 23 = .ok (.iload_n 1, 1) := by decide +kernel
theorem d_X5_init_24 : decode (cd mX5_init) 24 = .ok (.aload_n 0, 1) := by decide +kernel
theorem d_X5_init_25 : decode (cd mX5_init) 25 = .ok (.getfield 13, 3) := by decide +kernel
theorem d_X5_init_28 : decode (cd mX5_init) 28 = .ok (.arraylength, 1) := by decide +kernel
theorem d_X5_init_29 : decode (cd mX5_init) 29 = .ok (.if_icmp .ge 22, 3) := by decide +kernel
theorem d_X5_init_32 : decode (cd mX5_init) 32 = .ok (.aload_n 0, 1) := by decide +kernel
theorem d_X5_init_33 : decode (cd mX5_init) 33 = .ok (.getfield 13, 3) := by decide +kernel
theorem d_X5_init_36 : decode (cd mX5_init) 36 = .ok (.iload_n 1, 1) := by decide +kernel
theorem d_X5_init_37 : decode (cd mX5_init) 37 = .ok (.new 11, 3) := by decide +kernel
theorem d_X5_init_40 : decode (cd mX5_init) 40 = .ok (.dup, 1) := by decide +kernel
theorem d_X5_init_41 : decode (cd mX5_init) 41 = .ok (.invokespecial 20, 3) := by decide +kernel
theorem d_X5_init_44 : decode (cd mX5_init) 44 = .ok (.aastore, 1) := by decide +kernel
theorem d_X5_init_45 : decode (cd mX5_init) 45 = .ok (.iinc 1 1, 3) := by decide +kernel
theorem d_X5_init_48 : decode (cd mX5_init) 48 = .ok (.goto (-25), 3) := by decide +kernel
theorem d_X5_init_51 : decode (cd mX5_init) 51 = .ok (.iconst 0, 1) := by decide +kernel
theorem d_X5_init_52 : decode (cd mX5_init) 52 = .ok (.istore_n 1, 1) := by decide +kernel
theorem d_X5_init_53 : decode (cd mX5_init) 53 = .ok (.iload_n 1, 1) := by decide +kernel
theorem d_X5_init_54 : decode (cd mX5_init) 54 = .ok (.aload_n 0, 1) := by decide +kernel
theorem d_X5_init_55 : decode (cd mX5_init) 55 = .ok (.getfield 17, 3) := by decide +kernel
theorem d_X5_init_58 : decode (cd mX5_init) 58 = .ok (.arraylength, 1) := by decide +kernel
theorem d_X5_init_59 : decode (cd mX5_init) 59 = .ok (.if_icmp .ge 22, 3) := by decide +kernel
theorem d_X5_init_62 : decode (cd mX5_init) 62 = .ok (.aload_n 0, 1) := by decide +kernel
theorem d_X5_init_63 : decode (cd mX5_init) 63 = .ok (.getfield 17, 3) := by decide +kernel
theorem d_X5_init_66 : decode (cd mX5_init) 66 = .ok (.iload_n 1, 1) := by decide +kernel
theorem d_X5_init_67 : decode (cd mX5_init) 67 = .ok (.new 11, 3) := by decide +kernel
theorem d_X5_init_70 : decode (cd mX5_init) 70 = .ok (.dup, 1) := by decide +kernel
theorem d_X5_init_71 : decode (cd mX5_init) 71 = .ok (.invokespecial 20, 3) := by decide +kernel
theorem d_X5_init_74 : decode (cd mX5_init) 74 = .ok (.aastore, 1) := by decide +kernel
theorem d_X5_init_75 : decode (cd mX5_init) 75 = .ok (.iinc 1 1, 3) := by decide +kernel
theorem d_X5_init_78 : decode (cd mX5_init) 78 = .ok (.goto (-25), 3) := by decide +kernel
theorem d_X5_init_81 : decode (cd mX5_init) 81 = .ok (.return_, 1) := by decide +kernel
theorem d_X5_forget_0 : decode (cd mX5_forget) 0 = .ok (.aload_n 0, 1) := by decide +kernel
theorem d_X5_forget_1 : decode (cd mX5_forget) 1 = .ok (.iconst 0, 1) := by decide +kernel
theorem d_X5_forget_2 : decode (cd mX5_forget) 2 = .ok (.putfield 21, 3) := by decide +kernel
theorem d_X5_forget_5 : decode (cd mX5_forget) 5 = .ok (.aload_n 0, 1) := by decide +kernel
theorem d_X5_forget_6 : decode (cd mX5_forget) 6 = .ok (.iconst 0, 1) := by decide +kernel
theorem d_X5_forget_7 : decode (cd mX5_forget) 7 = .ok (.putfield 25, 3) := by decide +kernel
theorem d_X5_forget_10 : decode (cd mX5_forget) 10 = .ok (.return_, 1) := by decide +kernel
theorem d_X5_keep_0 : decode (cd mX5_keep) 0 = .ok (.aload_n 0, 1) := by decide +kernel
theorem d_X5_keep_1 : decode (cd mX5_keep) 1 = .ok (.getfield 28, 3) := by decide +kernel
theorem d_X5_keep_4 : decode (cd mX5_keep) 4 = .ok (.iconst 0, 1) := by decide +kernel
theorem d_X5_keep_5 : decode (cd mX5_keep) 5 = .ok (.bipush 15, 2) := by decide +kernel
theorem d_X5_keep_7 : decode (cd mX5_keep) 7 = .ok (.invokestatic 31, 3) := by decide +kernel
theorem d_X5_keep_10 : decode (cd mX5_keep) 10 = .ok (.ifCond .ne 4, 3) := by decide +kernel
theorem d_X5_keep_13 : decode (cd mX5_keep) 13 = .ok (.return_, 1) := by decide +kernel
theorem d_X5_keep_14 : decode (cd mX5_keep) 14 = .ok (.aload_n 0, 1) := by decide +kernel
theorem d_X5_keep_15 : decode (cd mX5_keep) 15 = .ok (.getfield 13, 3) := by decide +kernel
theorem d_X5_keep_18 : decode (cd mX5_keep) 18 = .ok (.aload_n 0, 1) := by decide +kernel
theorem d_X5_keep_19 : decode (cd mX5_keep) 19 = .ok (.getfield 28, 3) := by decide +kernel
theorem d_X5_keep_22 : decode (cd mX5_keep) 22 = .ok (.aaload, 1) := by decide +kernel
theorem d_X5_keep_23 : decode (cd mX5_keep) 23 = .ok (.aload_n 1, 1) := by decide +kernel
theorem d_X5_keep_24 : decode (cd mX5_keep) 24 = .ok (.invokevirtual 35, 3) := by decide +kernel
theorem d_X5_keep_27 : decode (cd mX5_keep) 27 = .ok (.aload_n 0, 1) := by decide +kernel
theorem d_X5_keep_28 : decode (cd mX5_keep) 28 = .ok (.aload_n 0, 1) := by decide +kernel
theorem d_X5_keep_29 : decode (cd mX5_keep) 29 = .ok (.getfield 28, 3) := by decide +kernel
theorem d_X5_keep_32 : decode (cd mX5_keep) 32 = .ok (.iconst 1, 1) := by decide +kernel
theorem d_X5_keep_33 : decode (cd mX5_keep) 33 = .ok (.iadd, 1) := by decide +kernel
theorem d_X5_keep_34 : decode (cd mX5_keep) 34 = .ok (.bipush 16, 2) := by decide +kernel
theorem d_X5_keep_36 : decode (cd mX5_keep) 36 = .ok (.irem, 1) := by decide +kernel
theorem d_X5_keep_37 : decode (cd mX5_keep) 37 = .ok (.putfield 28, 3) := by decide +kernel
theorem d_X5_keep_40 : decode (cd mX5_keep) 40 = .ok (.aload_n 0, 1) := by decide +kernel
theorem d_X5_keep_41 : decode (cd mX5_keep) 41 = .ok (.aload_n 0, 1) := by decide +kernel
theorem d_X5_keep_42 : decode (cd mX5_keep) 42 = .ok (.getfield 21, 3) := by decide +kernel
theorem d_X5_keep_45 : decode (cd mX5_keep) 45 = .ok (.iconst 1, 1) := by decide +kernel
theorem d_X5_keep_46 : decode (cd mX5_keep) 46 = .ok (.iadd, 1) := by decide +kernel
theorem d_X5_keep_47 : decode (cd mX5_keep) 47 = .ok (.bipush 16, 2) := by decide +kernel
theorem d_X5_keep_49 : decode (cd mX5_keep) 49 = .ok (.invokestatic 39, 3) := by decide +kernel
theorem d_X5_keep_52 : decode (cd mX5_keep) 52 = .ok (.putfield 21, 3) := by decide +kernel
theorem d_X5_keep_55 : decode (cd mX5_keep) 55 = .ok (.return_, 1) := by decide +kernel
theorem d_X5_takeBack_0 : decode (cd mX5_takeBack) 0 = .ok (.aload_n 0, 1) := by decide +kernel
theorem d_X5_takeBack_1 : decode (cd mX5_takeBack) 1 = .ok (.getfield 28, 3) := by decide +kernel
theorem d_X5_takeBack_4 : decode (cd mX5_takeBack) 4 = .ok (.bipush 16, 2) := by decide +kernel
theorem d_X5_takeBack_6 : decode (cd mX5_takeBack) 6 = .ok (.iadd, 1) := by decide +kernel
theorem d_X5_takeBack_7 : decode (cd mX5_takeBack) 7 = .ok (.iconst 1, 1) := by decide +kernel
theorem d_X5_takeBack_8 : decode (cd mX5_takeBack) 8 = .ok (.isub, 1) := by decide +kernel
theorem d_X5_takeBack_9 : decode (cd mX5_takeBack) 9 = .ok (.bipush 16, 2) := by decide +kernel
theorem d_X5_takeBack_11 : decode (cd mX5_takeBack) 11 = .ok (.irem, 1) := by decide +kernel
theorem d_X5_takeBack_12 : decode (cd mX5_takeBack) 12 = .ok (.istore_n 2, 1) := by decide +kernel
theorem d_X5_takeBack_13 : decode (cd mX5_takeBack) 13 = .ok (.aload_n 0, 1) := by decide +kernel
theorem d_X5_takeBack_14 : decode (cd mX5_takeBack) 14 = .ok (.getfield 21, 3) := by decide +kernel
theorem d_X5_takeBack_17 : decode (cd mX5_takeBack) 17 = .ok (.ifCond .eq 13, 3) := by decide +kernel
theorem d_X5_takeBack_20 : decode (cd mX5_takeBack) 20 = .ok (.iload_n 2, 1) := by decide +kernel
theorem d_X5_takeBack_21 : decode (cd mX5_takeBack) 21 = .ok (.iconst 0, 1) := by decide +kernel
theorem d_X5_takeBack_22 : decode (cd mX5_takeBack) 22 = .ok (.bipush 15, 2) := by decide +kernel
theorem d_X5_takeBack_24 : decode (cd mX5_takeBack) 24 = .ok (.invokestatic 31, 3) := by decide +kernel
theorem d_X5_takeBack_27 : decode (cd mX5_takeBack) 27 = .ok (.ifCond .ne 5, 3) := by decide +kernel
theorem d_X5_takeBack_30 : decode (cd mX5_takeBack) 30 = .ok (.iconst 0, 1) := by decide +kernel
theorem d_X5_takeBack_31 : decode (cd mX5_takeBack) 31 = .ok (.ireturn, 1) := by decide +kernel
theorem d_X5_takeBack_32 : decode (cd mX5_takeBack) 32 = .ok (.aload_n 1, 1) := by decide +kernel
theorem d_X5_takeBack_33 : decode (cd mX5_takeBack) 33 = .ok (.aload_n 0, 1) := by decide +kernel
theorem d_X5_takeBack_34 : decode (cd mX5_takeBack) 34 = .ok (.getfield 13, 3) := by decide +kernel
theorem d_X5_takeBack_37 : decode (cd mX5_takeBack) 37 = .ok (.iload_n 2, 1) := by decide +kernel
theorem d_X5_takeBack_38 : decode (cd mX5_takeBack) 38 = .ok (.aaload, 1) := by decide +kernel
theorem d_X5_takeBack_39 : decode (cd mX5_takeBack) 39 = .ok (.invokevirtual 35, 3) := by decide +kernel
theorem d_X5_takeBack_42 : decode (cd mX5_takeBack) 42 = .ok (.aload_n 0, 1) := by decide +kernel
theorem d_X5_takeBack_43 : decode (cd mX5_takeBack) 43 = .ok (.iload_n 2, 1) := by decide +kernel
theorem d_X5_takeBack_44 : decode (cd mX5_takeBack) 44 = .ok (.putfield 28, 3) := by decide +kernel
theorem d_X5_takeBack_47 : decode (cd mX5_takeBack) 47 = .ok (.aload_n 0, 1) := by decide +kernel
theorem d_X5_takeBack_48 : decode (cd mX5_takeBack) 48 = .ok (.dup, 1) := by decide +kernel
theorem d_X5_takeBack_49 : decode (cd mX5_takeBack) 49 = .ok (.getfield 21, 3) := by decide +kernel
theorem d_X5_takeBack_52 : decode (cd mX5_takeBack) 52 = .ok (.iconst 1, 1) := by decide +kernel
theorem d_X5_takeBack_53 : decode (cd mX5_takeBack) 53 = .ok (.isub, 1) := by decide +kernel
theorem d_X5_takeBack_54 : decode (cd mX5_takeBack) 54 = .ok (.putfield 21, 3) := by decide +kernel
theorem d_X5_takeBack_57 : decode (cd mX5_takeBack) 57 = .ok (.iconst 1, 1) := by decide +kernel
theorem d_X5_takeBack_58 : decode (cd mX5_takeBack) 58 = .ok (.ireturn, 1) := by decide +kernel
theorem d_X5_paint_0 : decode (cd mX5_paint) 0 = .ok (.aload_n 0, 1) := by decide +kernel
theorem d_X5_paint_1 : decode (cd mX5_paint) 1 = .ok (.getfield 25, 3) := by decide +kernel
theorem d_X5_paint_4 : decode (cd mX5_paint) 4 = .ok (.iconst 3, 1) := by decide +kernel
theorem d_X5_paint_5 : decode (cd mX5_paint) 5 = .ok (.if_icmp .lt 5, 3) := by decide +kernel
theorem d_X5_paint_8 : decode (cd mX5_paint) 8 = .ok (.iconst (-1), 1) := by decide +kernel
theorem d_X5_paint_9 : decode (cd mX5_paint) 9 = .ok (.ireturn, 1) := by decide +kernel
theorem d_X5_paint_10 : decode (cd mX5_paint) 10 = .ok (.aload_n 0, 1) := by decide +kernel
theorem d_X5_paint_11 : decode (cd mX5_paint) 11 = .ok (.getfield 17, 3) := by decide +kernel
theorem d_X5_paint_14 : decode (cd mX5_paint) 14 = .ok (.aload_n 0, 1) := by decide +kernel
theorem d_X5_paint_15 : decode (cd mX5_paint) 15 = .ok (.getfield 25, 3) := by decide +kernel
theorem d_X5_paint_18 : decode (cd mX5_paint) 18 = .ok (.aaload, 1) := by decide +kernel
theorem d_X5_paint_19 : decode (cd mX5_paint) 19 = .ok (.aload_n 1, 1) := by decide +kernel
theorem d_X5_paint_20 : decode (cd mX5_paint) 20 = .ok (.invokevirtual 35, 3) := by decide +kernel
theorem d_X5_paint_23 : decode (cd mX5_paint) 23 = .ok (.aload_n 0, 1) := by decide +kernel
theorem d_X5_paint_24 : decode (cd mX5_paint) 24 = .ok (.dup, 1) := by decide +kernel
theorem d_X5_paint_25 : decode (cd mX5_paint) 25 = .ok (.getfield 25, 3) := by decide +kernel
theorem d_X5_paint_28 : decode (cd mX5_paint) 28 = .ok (.iconst 1, 1) := by decide +kernel
theorem d_X5_paint_29 : decode (cd mX5_paint) 29 = .ok (.iadd, 1) := by decide +kernel
theorem d_X5_paint_30 : decode (cd mX5_paint) 30 = .ok (.putfield 25, 3) := by decide +kernel
theorem d_X5_paint_33 : decode (cd mX5_paint) 33 = .ok (.aload_n 0, 1) := by decide +kernel
theorem d_X5_paint_34 : decode (cd mX5_paint) 34 = .ok (.getfield 25, 3) := by decide +kernel
theorem d_X5_paint_37 : decode (cd mX5_paint) 37 = .ok (.iconst 1, 1) := by decide +kernel
theorem d_X5_paint_38 : decode (cd mX5_paint) 38 = .ok (.isub, 1) := by decide +kernel
theorem d_X5_paint_39 : decode (cd mX5_paint) 39 = .ok (.ireturn, 1) := by decide +kernel
theorem d_X5_recall_0 : decode (cd mX5_recall) 0 = .ok (.iload_n 1, 1) := by decide +kernel
theorem d_X5_recall_1 : decode (cd mX5_recall) 1 = .ok (.ifCond .lt 16, 3) := by decide +kernel
theorem d_X5_recall_4 : decode (cd mX5_recall) 4 = .ok (.iload_n 1, 1) := by decide +kernel
theorem d_X5_recall_5 : decode (cd mX5_recall) 5 = .ok (.aload_n 0, 1) := by decide +kernel
theorem d_X5_recall_6 : decode (cd mX5_recall) 6 = .ok (.getfield 25, 3) := by decide +kernel
theorem d_X5_recall_9 : decode (cd mX5_recall) 9 = .ok (.if_icmp .ge 8, 3) := by decide +kernel
theorem d_X5_recall_12 : decode (cd mX5_recall) 12 = .ok (.iload_n 1, 1) := by decide +kernel
theorem d_X5_recall_13 : decode (cd mX5_recall) 13 = .ok (.iconst 3, 1) := by decide +kernel
theorem d_X5_recall_14 : decode (cd mX5_recall) 14 = .ok (.if_icmp .lt 5, 3) := by decide +kernel
theorem d_X5_recall_17 : decode (cd mX5_recall) 17 = .ok (.iconst 0, 1) := by decide +kernel
theorem d_X5_recall_18 : decode (cd mX5_recall) 18 = .ok (.ireturn, 1) := by decide +kernel
theorem d_X5_recall_19 : decode (cd mX5_recall) 19 = .ok (.aload_n 2, 1) := by decide +kernel
theorem d_X5_recall_20 : decode (cd mX5_recall) 20 = .ok (.aload_n 0, 1) := by decide +kernel
theorem d_X5_recall_21 : decode (cd mX5_recall) 21 = .ok (.getfield 17, 3) := by decide +kernel
theorem d_X5_recall_24 : decode (cd mX5_recall) 24 = .ok (.iload_n 1, 1) := by decide +kernel
theorem d_X5_recall_25 : decode (cd mX5_recall) 25 = .ok (.aaload, 1) := by decide +kernel
theorem d_X5_recall_26 : decode (cd mX5_recall) 26 = .ok (.invokevirtual 35, 3) := by decide +kernel
theorem d_X5_recall_29 : decode (cd mX5_recall) 29 = .ok (.aload_n 0, 1) := by decide +kernel
theorem d_X5_recall_30 : decode (cd mX5_recall) 30 = .ok (.iconst 0, 1) := by decide +kernel
theorem d_X5_recall_31 : decode (cd mX5_recall) 31 = .ok (.putfield 21, 3) := by decide +kernel
theorem d_X5_recall_34 : decode (cd mX5_recall) 34 = .ok (.iconst 1, 1) := by decide +kernel
theorem d_X5_recall_35 : decode (cd mX5_recall) 35 = .ok (.ireturn, 1) := by decide +kernel
theorem d_X7_init_0 : decode (cd mX7_init) 0 = .ok (.aload_n 0, 1) := by decide +kernel
theorem d_X7_init_1 : decode (cd mX7_init) 1 = .ok (.invokespecial 1, 3) := by decide +kernel
theorem d_X7_init_4 : decode (cd mX7_init) 4 = .ok (.aload_n 0, 1) := by decide +kernel
theorem d_X7_init_5 : decode (cd mX7_init) 5 = .ok (.iload_n 1, 1) := by decide +kernel
theorem d_X7_init_6 : decode (cd mX7_init) 6 = .ok (.ifCond .le 7, 3) := by decide +kernel
theorem d_X7_init_9 : decode (cd mX7_init) 9 = .ok (.iload_n 1, 1) := by decide +kernel
theorem d_X7_init_10 : decode (cd mX7_init) 10 = .ok (.goto 4, 3) := by decide +kernel
theorem d_X7_init_13 : decode (cd mX7_init) 13 = .ok (.iconst 0, 1) := by decide +kernel
theorem d_X7_init_14 : decode (cd mX7_init) 14 = .ok (.putfield 7, 3) := by decide +kernel
theorem d_X7_init_17 : decode (cd mX7_init) 17 = .ok (.aload_n 0, 1) := by decide +kernel
theorem d_X7_init_18 : decode (cd mX7_init) 18 = .ok (.iload_n 2, 1) := by decide +kernel
theorem d_X7_init_19 : decode (cd mX7_init) 19 = .ok (.ifCond .le 7, 3) := by decide +kernel
theorem d_X7_init_22 : decode (cd mX7_init) 22 = .ok (.iload_n 2, 1) := by decide +kernel
theorem d_X7_init_23 : decode (cd mX7_init) 23 = .ok (.goto 4, 3) := by decide +kernel
theorem d_X7_init_26 : decode (cd mX7_init) 26 = .ok (.iconst 0, 1) := by decide +kernel
theorem d_X7_init_27 : decode (cd mX7_init) 27 = .ok (.putfield 13, 3) := by decide +kernel
theorem d_X7_init_30 : decode (cd mX7_init) 30 = .ok (.aload_n 0, 1) := by decide +kernel
theorem d_X7_init_31 : decode (cd mX7_init) 31 = .ok (.aload_n 0, 1) := by decide +kernel
theorem d_X7_init_32 : decode (cd mX7_init) 32 = .ok (.getfield 7, 3) := by decide +kernel
theorem d_X7_init_35 : decode (cd mX7_init) 35 = .ok (.aload_n 0, 1) := by decide +kernel
theorem d_X7_init_36 : decode (cd mX7_init) 36 = .ok (.getfield 13, 3) := by decide +kernel
theorem d_X7_init_39 : decode (cd mX7_init) 39 = .ok (.imul, 1) := by decide +kernel
theorem d_X7_init_40 : decode (cd mX7_init) 40 = .ok (.newarray .int, 2) := by decide +kernel
theorem d_X7_init_42 : decode (cd mX7_init) 42 = .ok (.putfield 16, 3) := by decide +kernel
theorem d_X7_init_45 : decode (cd mX7_init) 45 = .ok (.return_, 1) := by decide +kernel
theorem d_X7_isFull_0 : decode (cd mX7_isFull) 0 = .ok (.aload_n 0, 1) := by decide +kernel
theorem d_X7_isFull_1 : decode (cd mX7_isFull) 1 = .ok (.getfield 20, 3) := by decide +kernel
theorem d_X7_isFull_4 : decode (cd mX7_isFull) 4 = .ok (.aload_n 0, 1) := by decide +kernel
theorem d_X7_isFull_5 : decode (cd mX7_isFull) 5 = .ok (.getfield 7, 3) := by decide +kernel
theorem d_X7_isFull_8 : decode (cd mX7_isFull) 8 = .ok (.if_icmp .lt 7, 3) := by decide +kernel
theorem d_X7_isFull_11 : decode (cd mX7_isFull) 11 = .ok (.iconst 1, 1) := by decide +kernel
theorem d_X7_isFull_12 : decode (cd mX7_isFull) 12 = .ok (.goto 4, 3) := by decide +kernel
theorem d_X7_isFull_15 : decode (cd mX7_isFull) 15 = .ok (.iconst 0, 1) := by decide +kernel
theorem d_X7_isFull_16 : decode (cd mX7_isFull) 16 = .ok (.ireturn, 1) := by decide +kernel
theorem d_X7_holds_0 : decode (cd mX7_holds) 0 = .ok (.iload_n 1, 1) := by decide +kernel
theorem d_X7_holds_1 : decode (cd mX7_holds) 1 = .ok (.ifCond .lt 15, 3) := by decide +kernel
theorem d_X7_holds_4 : decode (cd mX7_holds) 4 = .ok (.iload_n 1, 1) := by decide +kernel
theorem d_X7_holds_5 : decode (cd mX7_holds) 5 = .ok (.aload_n 0, 1) := by decide +kernel
theorem d_X7_holds_6 : decode (cd mX7_holds) 6 = .ok (.getfield 20, 3) := by decide +kernel
theorem d_X7_holds_9 : decode (cd mX7_holds) 9 = .ok (.if_icmp .ge 7, 3) := by decide +kernel
theorem d_X7_holds_12 : decode (cd mX7_holds) 12 = .ok (.iconst 1, 1) := by decide +kernel
theorem d_X7_holds_13 : decode (cd mX7_holds) 13 = .ok (.goto 4, 3) := by decide +kernel
theorem d_X7_holds_16 : decode (cd mX7_holds) 16 = .ok (.iconst 0, 1) := by decide +kernel
theorem d_X7_holds_17 : decode (cd mX7_holds) 17 = .ok (.ireturn, 1) := by decide +kernel
theorem d_X7_cell_0 : decode (cd mX7_cell) 0 = .ok (.iload_n 1, 1) := by decide +kernel
theorem d_X7_cell_1 : decode (cd mX7_cell) 1 = .ok (.aload_n 0, 1) := by decide +kernel
theorem d_X7_cell_2 : decode (cd mX7_cell) 2 = .ok (.getfield 13, 3) := by decide +kernel
theorem d_X7_cell_5 : decode (cd mX7_cell) 5 = .ok (.imul, 1) := by decide +kernel
theorem d_X7_cell_6 : decode (cd mX7_cell) 6 = .ok (.iload_n 2, 1) := by decide +kernel
theorem d_X7_cell_7 : decode (cd mX7_cell) 7 = .ok (.iadd, 1) := by decide +kernel
theorem d_X7_cell_8 : decode (cd mX7_cell) 8 = .ok (.istore_n 3, 1) := by decide +kernel
theorem d_X7_cell_9 : decode (cd mX7_cell) 9 = .ok (.aload_n 0, 1) := by decide +kernel
theorem d_X7_cell_10 : decode (cd mX7_cell) 10 = .ok (.iload_n 1, 1) := by decide +kernel
theorem d_X7_cell_11 : decode (cd mX7_cell) 11 = .ok (.invokevirtual 23, 3) := by decide +kernel
theorem d_X7_cell_14 : decode (cd mX7_cell) 14 = .ok (.ifCond .eq 19, 3) := by decide +kernel
theorem d_X7_cell_17 : decode (cd mX7_cell) 17 = .ok (.iload_n 2, 1) := by decide +kernel
theorem d_X7_cell_18 : decode (cd mX7_cell) 18 = .ok (.ifCond .lt 15, 3) := by decide +kernel
theorem d_X7_cell_21 : decode (cd mX7_cell) 21 = .ok (.iload_n 2, 1) := by decide +kernel
theorem d_X7_cell_22 : decode (cd mX7_cell) 22 = .ok (.aload_n 0, 1) := by decide +kernel
theorem d_X7_cell_23 : decode (cd mX7_cell) 23 = .ok (.getfield 13, 3) := by decide +kernel
theorem d_X7_cell_26 : decode (cd mX7_cell) 26 = .ok (.if_icmp .ge 7, 3) := by decide +kernel
theorem d_X7_cell_29 : decode (cd mX7_cell) 29 = .ok (.iconst 1, 1) := by decide +kernel
theorem d_X7_cell_30 : decode (cd mX7_cell) 30 = .ok (.goto 4, 3) := by decide +kernel
theorem d_X7_cell_33 : decode (cd mX7_cell) 33 = .ok (.iconst 0, 1) := by decide +kernel
theorem d_X7_cell_34 : decode (cd mX7_cell) 34 = .ok (.istore 4, 2) := by decide +kernel
theorem d_X7_cell_36 : decode (cd mX7_cell) 36 = .ok (.iload 4, 2) := by decide +kernel
theorem d_X7_cell_38 : decode (cd mX7_cell) 38 = .ok (.ifCond .eq 25, 3) := by decide +kernel
theorem d_X7_cell_41 : decode (cd mX7_cell) 41 = .ok (.iload_n 3, 1) := by decide +kernel
theorem d_X7_cell_42 : decode (cd mX7_cell) 42 = .ok (.ifCond .lt 21, 3) := by decide +kernel
theorem d_X7_cell_45 : decode (cd mX7_cell) 45 = .ok (.iload_n 3, 1) := by decide +kernel
theorem d_X7_cell_46 : decode (cd mX7_cell) 46 = .ok (.aload_n 0, 1) := by decide +kernel
theorem d_X7_cell_47 : decode (cd mX7_cell) 47 = .ok (.getfield 16, 3) := by decide +kernel
theorem d_X7_cell_50 : decode (cd mX7_cell) 50 = .ok (.arraylength, 1) := by decide +kernel
theorem d_X7_cell_51 : decode (cd mX7_cell) 51 = .ok (.if_icmp .ge 12, 3) := by decide +kernel
theorem d_X7_cell_54 : decode (cd mX7_cell) 54 = .ok (.aload_n 0, 1) := by decide +kernel
theorem d_X7_cell_55 : decode (cd mX7_cell) 55 = .ok (.getfield 16, 3) := by decide +kernel
theorem d_X7_cell_58 : decode (cd mX7_cell) 58 = .ok (.iload_n 3, 1) := by decide +kernel
theorem d_X7_cell_59 : decode (cd mX7_cell) 59 = .ok (.iaload, 1) := by decide +kernel
theorem d_X7_cell_60 : decode (cd mX7_cell) 60 = .ok (.goto 4, 3) := by decide +kernel
theorem d_X7_cell_63 : decode (cd mX7_cell) 63 = .ok (.iconst 0, 1) := by decide +kernel
theorem d_X7_cell_64 : decode (cd mX7_cell) 64 = .ok (.ireturn, 1) := by decide +kernel
theorem d_X7_put_0 : decode (cd mX7_put) 0 = .ok (.aload_n 0, 1) := by decide +kernel
theorem d_X7_put_1 : decode (cd mX7_put) 1 = .ok (.getfield 20, 3) := by decide +kernel
theorem d_X7_put_4 : decode (cd mX7_put) 4 = .ok (.aload_n 0, 1) := by decide +kernel
theorem d_X7_put_5 : decode (cd mX7_put) 5 = .ok (.getfield 13, 3) := by decide +kernel
theorem d_X7_put_8 : decode (cd mX7_put) 8 = .ok (.imul, 1) := by decide +kernel
theorem d_X7_put_9 : decode (cd mX7_put) 9 = .ok (.iload_n 1, 1) := by decide +kernel
theorem d_X7_put_10 : decode (cd mX7_put) 10 = .ok (.iadd, 1) := by decide +kernel
theorem d_X7_put_11 : decode (cd mX7_put) 11 = .ok (.istore_n 3, 1) := by decide +kernel
theorem d_X7_put_12 : decode (cd mX7_put) 12 = .ok (.iload_n 1, 1) := by decide +kernel
theorem d_X7_put_13 : decode (cd mX7_put) 13 = .ok (.ifCond .lt 31, 3) := by decide +kernel
theorem d_X7_put_16 : decode (cd mX7_put) 16 = .ok (.iload_n 1, 1) := by decide +kernel
theorem d_X7_put_17 : decode (cd mX7_put) 17 = .ok (.aload_n 0, 1) := by decide +kernel
theorem d_X7_put_18 : decode (cd mX7_put) 18 = .ok (.getfield 13, 3) := by decide +kernel
theorem d_X7_put_21 : decode (cd mX7_put) 21 = .ok (.if_icmp .ge 23, 3) := by decide +kernel
theorem d_X7_put_24 : decode (cd mX7_put) 24 = .ok (.iload_n 3, 1) := by decide +kernel
theorem d_X7_put_25 : decode (cd mX7_put) 25 = .ok (.ifCond .lt 19, 3) := by decide +kernel
theorem d_X7_put_28 : decode (cd mX7_put) 28 = .ok (.iload_n 3, 1) := by decide +kernel
theorem d_X7_put_29 : decode (cd mX7_put) 29 = .ok (.aload_n 0, 1) := by decide +kernel
theorem d_X7_put_30 : decode (cd mX7_put) 30 = .ok (.getfield 16, 3) := by decide +kernel
theorem d_X7_put_33 : decode (cd mX7_put) 33 = .ok (.arraylength, 1) := by decide +kernel
theorem d_X7_put_34 : decode (cd mX7_put) 34 = .ok (.if_icmp .ge 10, 3) := by decide +kernel
theorem d_X7_put_37 : decode (cd mX7_put) 37 = .ok (.aload_n 0, 1) := by decide +kernel
theorem d_X7_put_38 : decode (cd mX7_put) 38 = .ok (.getfield 16, 3) := by decide +kernel
theorem d_X7_put_41 : decode (cd mX7_put) 41 = .ok (.iload_n 3, 1) := by decide +kernel
theorem d_X7_put_42 : decode (cd mX7_put) 42 = .ok (.iload_n 2, 1) := by decide +kernel
theorem d_X7_put_43 : decode (cd mX7_put) 43 = .ok (.iastore, 1) := by decide +kernel
theorem d_X7_put_44 : decode (cd mX7_put) 44 = .ok (.return_, 1) := by decide +kernel
theorem d_X7_closeRow_0 : decode (cd mX7_closeRow) 0 = .ok (.aload_n 0, 1) := by decide +kernel
theorem d_X7_closeRow_1 : decode (cd mX7_closeRow) 1 = .ok (.getfield 20, 3) := by decide +kernel
theorem d_X7_closeRow_4 : decode (cd mX7_closeRow) 4 = .ok (.aload_n 0, 1) := by decide +kernel
theorem d_X7_closeRow_5 : decode (cd mX7_closeRow) 5 = .ok (.getfield 7, 3) := by decide +kernel
theorem d_X7_closeRow_8 : decode (cd mX7_closeRow) 8 = .ok (.if_icmp .ge 13, 3) := by decide +kernel
theorem d_X7_closeRow_11 : decode (cd mX7_closeRow) 11 = .ok (.aload_n 0, 1) := by decide +kernel
theorem d_X7_closeRow_12 : decode (cd mX7_closeRow) 12 = .ok (.dup, 1) := by decide +kernel
theorem d_X7_closeRow_13 : decode (cd mX7_closeRow) 13 = .ok (.getfield 20, 3) := by decide +kernel
theorem d_X7_closeRow_16 : decode (cd mX7_closeRow) 16 = .ok (.iconst 1, 1) := by decide +kernel
theorem d_X7_closeRow_17 : decode (cd mX7_closeRow) 17 = .ok (.iadd, 1) := by decide +kernel
theorem d_X7_closeRow_18 : decode (cd mX7_closeRow) 18 = .ok (.putfield 20, 3) := by decide +kernel
theorem d_X7_closeRow_21 : decode (cd mX7_closeRow) 21 = .ok (.return_, 1) := by decide +kernel
theorem d_X8_init_0 : decode (cd mX8_init) 0 = .ok (.aload_n 0, 1) := by decide +kernel
theorem d_X8_init_1 : decode (cd mX8_init) 1 = .ok (.invokespecial 3, 3) := by decide +kernel
theorem d_X8_init_4 : decode (cd mX8_init) 4 = .ok (.aload_n 0, 1) := by decide +kernel
theorem d_X8_init_5 : decode (cd mX8_init) 5 = .ok (.new 9, 3) := by decide +kernel
theorem d_X8_init_8 : decode (cd mX8_init) 8 = .ok (.dup, 1) := by decide +kernel
theorem d_X8_init_9 : decode (cd mX8_init) 9 = .ok (.iconst 4, 1) := by decide +kernel
theorem d_X8_init_10 : decode (cd mX8_init) 10 = .ok (.iconst 3, 1) := by decide +kernel
theorem d_X8_init_11 : decode (cd mX8_init) 11 = .ok (.invokespecial 11, 3) := by decide +kernel
theorem d_X8_init_14 : decode (cd mX8_init) 14 = .ok (.putfield 14, 3) := by decide +kernel
theorem d_X8_init_17 : decode (cd mX8_init) 17 = .ok (.aload_n 0, 1) := by decide +kernel
theorem d_X8_init_18 : decode (cd mX8_init) 18 = .ok (.new 9, 3) := by decide +kernel
theorem d_X8_init_21 : decode (cd mX8_init) 21 = .ok (.dup, 1) := by decide +kernel
theorem d_X8_init_22 : decode (cd mX8_init) 22 = .ok (.bipush 6, 2) := by decide +kernel
theorem d_X8_init_24 : decode (cd mX8_init) 24 = .ok (.iconst 3, 1) := by decide +kernel
theorem d_X8_init_25 : decode (cd mX8_init) 25 = .ok (.invokespecial 11, 3) := by decide +kernel
theorem d_X8_init_28 : decode (cd mX8_init) 28 = .ok (.putfield 20, 3) := by decide +kernel
theorem d_X8_init_31 : decode (cd mX8_init) 31 = .ok (.aload_n 0, 1) := by decide +kernel
theorem d_X8_init_32 : decode (cd mX8_init) 32 = .ok (.new 9, 3) := by decide +kernel
theorem d_X8_init_35 : decode (cd mX8_init) 35 = .ok (.dup, 1) := by decide +kernel
theorem d_X8_init_36 : decode (cd mX8_init) 36 = .ok (.iconst 5, 1) := by decide +kernel
theorem d_X8_init_37 : decode (cd mX8_init) 37 = .ok (.iconst 2, 1) := by decide +kernel
theorem d_X8_init_38 : decode (cd mX8_init) 38 = .ok (.invokespecial 11, 3) := by decide +kernel
theorem d_X8_init_41 : decode (cd mX8_init) 41 = .ok (.putfield 23, 3) := by decide +kernel
theorem d_X8_init_44 : decode (cd mX8_init) 44 = .ok (.aload_n 0, 1) := by decide +kernel
theorem d_X8_init_45 : decode (cd mX8_init) 45 = .ok (.new 9, 3) := by decide +kernel
theorem d_X8_init_48 : decode (cd mX8_init) 48 = .ok (.dup, 1) := by decide +kernel
theorem d_X8_init_49 : decode (cd mX8_init) 49 = .ok (.bipush 9, 2) := by decide +kernel
theorem d_X8_init_51 : decode (cd mX8_init) 51 = .ok (.iconst 3, 1) := by decide +kernel
theorem d_X8_init_52 : decode (cd mX8_init) 52 = .ok (.invokespecial 11, 3) := by decide +kernel
theorem d_X8_init_55 : decode (cd mX8_init) 55 = .ok (.putfield 26, 3) := by decide +kernel
theorem d_X8_init_58 : decode (cd mX8_init) 58 = .ok (.return_, 1) := by decide +kernel
theorem d_X8_clear_0 : decode (cd mX8_clear) 0 = .ok (.aload_n 0, 1) := by decide +kernel
theorem d_X8_clear_1 : decode (cd mX8_clear) 1 = .ok (.iconst 0, 1) := by decide +kernel
theorem d_X8_clear_2 : decode (cd mX8_clear) 2 = .ok (.putfield 29, 3) := by decide +kernel
theorem d_X8_clear_5 : decode (cd mX8_clear) 5 = .ok (.aload_n 0, 1) := by decide +kernel
theorem d_X8_clear_6 : decode (cd mX8_clear) 6 = .ok (.iconst 0, 1) := by decide +kernel
theorem d_X8_clear_7 : decode (cd mX8_clear) 7 = .ok (.putfield 33, 3) := by decide +kernel
theorem d_X8_clear_10 : decode (cd mX8_clear) 10 = .ok (.aload_n 0, 1) := by decide +kernel
theorem d_X8_clear_11 : decode (cd mX8_clear) 11 = .ok (.iconst 0, 1) := by decide +kernel
theorem d_X8_clear_12 : decode (cd mX8_clear) 12 = .ok (.putfield 36, 3) := by decide +kernel
theorem d_X8_clear_15 : decode (cd mX8_clear) 15 = .ok (.aload_n 0, 1) := by decide +kernel
theorem d_X8_clear_16 : decode (cd mX8_clear) 16 = .ok (.iconst 0, 1) := by decide +kernel
theorem d_X8_clear_17 : decode (cd mX8_clear) 17 = .ok (.putfield 39, 3) := by decide +kernel
theorem d_X8_clear_20 : decode (cd mX8_clear) 20 = .ok (.aload_n 0, 1) := by decide +kernel
theorem d_X8_clear_21 : decode (cd mX8_clear) 21 = .ok (.bipush 10, 2) := by decide +kernel
theorem d_X8_clear_23 : decode (cd mX8_clear) 23 = .ok (.putfield 42, 3) := by decide +kernel
theorem d_X8_clear_26 : decode (cd mX8_clear) 26 = .ok (.aload_n 0, 1) := by decide +kernel
theorem d_X8_clear_27 : decode (cd mX8_clear) 27 = .ok (.bipush 10, 2) := by decide +kernel
theorem d_X8_clear_29 : decode (cd mX8_clear) 29 = .ok (.putfield 45, 3) := by decide +kernel
theorem d_X8_clear_32 : decode (cd mX8_clear) 32 = .ok (.aload_n 0, 1) := by decide +kernel
theorem d_X8_clear_33 : decode (cd mX8_clear) 33 = .ok (.iconst 0, 1) := by decide +kernel
theorem d_X8_clear_34 : decode (cd mX8_clear) 34 = .ok (.putfield 48, 3) := by decide +kernel
theorem d_X8_clear_37 : decode (cd mX8_clear) 37 = .ok (.aload_n 0, 1) := by decide +kernel
theorem d_X8_clear_38 : decode (cd mX8_clear) 38 = .ok (.getfield 14, 3) := by decide +kernel
theorem d_X8_clear_41 : decode (cd mX8_clear) 41 = .ok (.iconst 0, 1) := by decide +kernel
theorem d_X8_clear_42 : decode (cd mX8_clear) 42 = .ok (.putfield 51, 3) := by decide +kernel
theorem d_X8_clear_45 : decode (cd mX8_clear) 45 = .ok (.aload_n 0, 1) := by decide +kernel
theorem d_X8_clear_46 : decode (cd mX8_clear) 46 = .ok (.getfield 20, 3) := by decide +kernel
theorem d_X8_clear_49 : decode (cd mX8_clear) 49 = .ok (.iconst 0, 1) := by decide +kernel
theorem d_X8_clear_50 : decode (cd mX8_clear) 50 = .ok (.putfield 51, 3) := by decide +kernel
theorem d_X8_clear_53 : decode (cd mX8_clear) 53 = .ok (.aload_n 0, 1) := by decide +kernel
theorem d_X8_clear_54 : decode (cd mX8_clear) 54 = .ok (.getfield 23, 3) := by decide +kernel
theorem d_X8_clear_57 : decode (cd mX8_clear) 57 = .ok (.iconst 0, 1) := by decide +kernel
theorem d_X8_clear_58 : decode (cd mX8_clear) 58 = .ok (.putfield 51, 3) := by decide +kernel
theorem d_X8_clear_61 : decode (cd mX8_clear) 61 = .ok (.aload_n 0, 1) := by decide +kernel
theorem d_X8_clear_62 : decode (cd mX8_clear) 62 = .ok (.getfield 26, 3) := by decide +kernel
theorem d_X8_clear_65 : decode (cd mX8_clear) 65 = .ok (.iconst 0, 1) := by decide +kernel
theorem d_X8_clear_66 : decode (cd mX8_clear) 66 = .ok (.putfield 51, 3) := by decide +kernel
theorem d_X8_clear_69 : decode (cd mX8_clear) 69 = .ok (.return_, 1) := by decide +kernel
theorem d_X8_pullOfVents_0 : decode (cd mX8_pullOfVents) 0 = .ok (.iconst 0, 1) := by decide +kernel
theorem d_X8_pullOfVents_1 : decode (cd mX8_pullOfVents) 1 = .ok (.istore_n 2, 1) := by decide +kernel
theorem d_X8_pullOfVents_2 : decode (cd mX8_pullOfVents) 2 = .ok (.iconst 0, 1) := by decide +kernel
theorem d_X8_pullOfVents_3 : decode (cd mX8_pullOfVents) 3 = .ok (.istore_n 3, 1) := by decide +kernel
theorem d_X8_pullOfVents_4 : decode (cd mX8_pullOfVents) 4 = .ok (.iload_n 3, 1) := by decide +kernel
theorem d_X8_pullOfVents_5 : decode (cd mX8_pullOfVents) 5 = .ok (.aload_n 0, 1) := by decide +kernel
theorem d_X8_pullOfVents_6 : decode (cd mX8_pullOfVents) 6 = .ok (.getfield 14, 3) := by decide +kernel
theorem d_X8_pullOfVents_9 : decode (cd mX8_pullOfVents) 9 = .ok (.getfield 51, 3) := by decide +kernel
theorem d_X8_pullOfVents_12 : decode (cd mX8_pullOfVents) 12 = .ok (.if_icmp .ge 53, 3) := by decide +kernel
theorem d_X8_pullOfVents_15 : decode (cd mX8_pullOfVents) 15 = .ok (.iload_n 1, 1) := by decide +kernel
theorem d_X8_pullOfVents_16 : decode (cd mX8_pullOfVents) 16 = .ok (.iload_n 3, 1) := by decide +kernel
theorem d_X8_pullOfVents_17 : decode (cd mX8_pullOfVents) 17 = .ok (.ishr, 1) := by decide +kernel
theorem d_X8_pullOfVents_18 : decode (cd mX8_pullOfVents) 18 = .ok (.iconst 1, 1) := by decide +kernel
theorem d_X8_pullOfVents_19 : decode (cd mX8_pullOfVents) 19 = .ok (.iand, 1) := by decide +kernel
theorem d_X8_pullOfVents_20 : decode (cd mX8_pullOfVents) 20 = .ok (.iconst 1, 1) := by decide +kernel
theorem d_X8_pullOfVents_21 : decode (cd mX8_pullOfVents) 21 = .ok (.if_icmp .ne 38, 3) := by decide +kernel
theorem d_X8_pullOfVents_24 : decode (cd mX8_pullOfVents) 24 = .ok (.aload_n 0, 1) := by decide +kernel
theorem d_X8_pullOfVents_25 : decode (cd mX8_pullOfVents) 25 = .ok (.getfield 14, 3) := by decide +kernel
theorem d_X8_pullOfVents_28 : decode (cd mX8_pullOfVents) 28 = .ok (.iload_n 3, 1) := by decide +kernel
theorem d_X8_pullOfVents_29 : decode (cd mX8_pullOfVents) 29 = .ok (.iconst 1, 1) := by decide +kernel
theorem d_X8_pullOfVents_30 : decode (cd mX8_pullOfVents) 30 = .ok (.invokevirtual 54, 3) := by decide +kernel
theorem d_X8_pullOfVents_33 : decode (cd mX8_pullOfVents) 33 = .ok (.istore 4, 2) := by decide +kernel
theorem d_X8_pullOfVents_35 : decode (cd mX8_pullOfVents) 35 = .ok (.iload_n 2, 1) := by decide +kernel
theorem d_X8_pullOfVents_36 : decode (cd mX8_pullOfVents) 36 = .ok (.aload_n 0, 1) := by decide +kernel
theorem d_X8_pullOfVents_37 : decode (cd mX8_pullOfVents) 37 = .ok (.getfield 14, 3) := by decide +kernel
theorem d_X8_pullOfVents_40 : decode (cd mX8_pullOfVents) 40 = .ok (.iload_n 3, 1) := by decide +kernel
theorem d_X8_pullOfVents_41 : decode (cd mX8_pullOfVents) 41 = .ok (.iconst 0, 1) := by decide +kernel
theorem d_X8_pullOfVents_42 : decode (cd mX8_pullOfVents) 42 = .ok (.invokevirtual 54, 3) := by decide +kernel
theorem d_X8_pullOfVents_45 : decode (cd mX8_pullOfVents) 45 = .ok (.iconst 1, 1) := by decide +kernel
theorem d_X8_pullOfVents_46 : decode (cd mX8_pullOfVents) 46 = .ok (.if_icmp .ne 8, 3) := by decide +kernel
theorem d_X8_pullOfVents_49 : decode (cd mX8_pullOfVents) 49 = .ok (.iload 4, 2) := by decide +kernel
theorem d_X8_pullOfVents_51 : decode (cd mX8_pullOfVents) 51 = .ok (.goto 6, 3) := by decide +kernel
theorem d_X8_pullOfVents_54 : decode (cd mX8_pullOfVents) 54 = .ok (.iload 4, 2) := by decide +kernel
theorem d_X8_pullOfVents_56 : decode (cd mX8_pullOfVents) 56 = .ok (.ineg, 1) := by decide +kernel
theorem d_X8_pullOfVents_57 : decode (cd mX8_pullOfVents) 57 = .ok (.iadd, 1) := by decide +kernel
theorem d_X8_pullOfVents_58 : decode (cd mX8_pullOfVents) 58 = .ok (.istore_n 2, 1) := by decide +kernel
theorem d_X8_pullOfVents_59 : decode (cd mX8_pullOfVents) 59 = .ok (.iinc 3 1, 3) := by decide +kernel
theorem d_X8_pullOfVents_62 : decode (cd mX8_pullOfVents) 62 = .ok (.goto (-58), 3) := by decide +kernel
theorem d_X8_pullOfVents_65 : decode (cd mX8_pullOfVents) 65 = .ok (.iload_n 2, 1) := by decide +kernel
theorem d_X8_pullOfVents_66 : decode (cd mX8_pullOfVents) 66 = .ok (.ireturn, 1) := by decide +kernel
theorem d_X8_isKept_0 : decode (cd mX8_isKept) 0 = .ok (.aload_n 2, 1) := by decide +kernel
theorem d_X8_isKept_1 : decode (cd mX8_isKept) 1 = .ok (.aload_n 0, 1) := by decide +kernel
theorem d_X8_isKept_2 : decode (cd mX8_isKept) 2 = .ok (.getfield 20, 3) := by decide +kernel
theorem d_X8_isKept_5 : decode (cd mX8_isKept) 5 = .ok (.iload_n 1, 1) := by decide +kernel
theorem d_X8_isKept_6 : decode (cd mX8_isKept) 6 = .ok (.iconst 0, 1) := by decide +kernel
theorem d_X8_isKept_7 : decode (cd mX8_isKept) 7 = .ok (.invokevirtual 54, 3) := by decide +kernel
theorem d_X8_isKept_10 : decode (cd mX8_isKept) 10 = .ok (.aload_n 0, 1) := by decide +kernel
theorem d_X8_isKept_11 : decode (cd mX8_isKept) 11 = .ok (.getfield 20, 3) := by decide +kernel
theorem d_X8_isKept_14 : decode (cd mX8_isKept) 14 = .ok (.iload_n 1, 1) := by decide +kernel
theorem d_X8_isKept_15 : decode (cd mX8_isKept) 15 = .ok (.iconst 1, 1) := by decide +kernel
theorem d_X8_isKept_16 : decode (cd mX8_isKept) 16 = .ok (.invokevirtual 54, 3) := by decide +kernel
theorem d_X8_isKept_19 : decode (cd mX8_isKept) 19 = .ok (.invokevirtual 58, 3) := by decide +kernel
theorem d_X8_isKept_22 : decode (cd mX8_isKept) 22 = .ok (.ireturn, 1) := by decide +kernel
theorem d_X8_worthKept_0 : decode (cd mX8_worthKept) 0 = .ok (.iconst 0, 1) := by decide +kernel
theorem d_X8_worthKept_1 : decode (cd mX8_worthKept) 1 = .ok (.istore_n 3, 1) := by decide +kernel
theorem d_X8_worthKept_2 : decode (cd mX8_worthKept) 2 = .ok (.iconst 0, 1) := by decide +kernel
theorem d_X8_worthKept_3 : decode (cd mX8_worthKept) 3 = .ok (.istore 4, 2) := by decide +kernel
theorem d_X8_worthKept_5 : decode (cd mX8_worthKept) 5 = .ok (.iload 4, 2) := by decide +kernel
theorem d_X8_worthKept_7 : decode (cd mX8_worthKept) 7 = .ok (.aload_n 0, 1) := by decide +kernel
theorem d_X8_worthKept_8 : decode (cd mX8_worthKept) 8 = .ok (.getfield 20, 3) := by decide +kernel
theorem d_X8_worthKept_11 : decode (cd mX8_worthKept) 11 = .ok (.getfield 51, 3) := by decide +kernel
theorem d_X8_worthKept_14 : decode (cd mX8_worthKept) 14 = .ok (.if_icmp .ge 46, 3) := by decide +kernel
theorem d_X8_worthKept_17 : decode (cd mX8_worthKept) 17 = .ok (.aload_n 0, 1) := by decide +kernel
theorem d_X8_worthKept_18 : decode (cd mX8_worthKept) 18 = .ok (.getfield 20, 3) := by decide +kernel
theorem d_X8_worthKept_21 : decode (cd mX8_worthKept) 21 = .ok (.iload 4, 2) := by decide +kernel
theorem d_X8_worthKept_23 : decode (cd mX8_worthKept) 23 = .ok (.iconst 0, 1) := by decide +kernel
theorem d_X8_worthKept_24 : decode (cd mX8_worthKept) 24 = .ok (.invokevirtual 54, 3) := by decide +kernel
theorem d_X8_worthKept_27 : decode (cd mX8_worthKept) 27 = .ok (.iload_n 2, 1) := by decide +kernel
theorem d_X8_worthKept_28 : decode (cd mX8_worthKept) 28 = .ok (.if_icmp .lt 26, 3) := by decide +kernel
theorem d_X8_worthKept_31 : decode (cd mX8_worthKept) 31 = .ok (.aload_n 0, 1) := by decide +kernel
theorem d_X8_worthKept_32 : decode (cd mX8_worthKept) 32 = .ok (.iload 4, 2) := by decide +kernel
theorem d_X8_worthKept_34 : decode (cd mX8_worthKept) 34 = .ok (.aload_n 1, 1) := by decide +kernel
theorem d_X8_worthKept_35 : decode (cd mX8_worthKept) 35 = .ok (.invokevirtual 64, 3) := by decide +kernel
theorem d_X8_worthKept_38 : decode (cd mX8_worthKept) 38 = .ok (.ifCond .eq 16, 3) := by decide +kernel
theorem d_X8_worthKept_41 : decode (cd mX8_worthKept) 41 = .ok (.iload_n 3, 1) := by decide +kernel
theorem d_X8_worthKept_42 : decode (cd mX8_worthKept) 42 = .ok (.aload_n 0, 1) := by decide +kernel
theorem d_X8_worthKept_43 : decode (cd mX8_worthKept) 43 = .ok (.getfield 20, 3) := by decide +kernel
theorem d_X8_worthKept_46 : decode (cd mX8_worthKept) 46 = .ok (.iload 4, 2) := by decide +kernel
theorem d_X8_worthKept_48 : decode (cd mX8_worthKept) 48 = .ok (.iconst 2, 1) := by decide +kernel
theorem d_X8_worthKept_49 : decode (cd mX8_worthKept) 49 = .ok (.invokevirtual 54, 3) := by decide +kernel
theorem d_X8_worthKept_52 : decode (cd mX8_worthKept) 52 = .ok (.iadd, 1) := by decide +kernel
theorem d_X8_worthKept_53 : decode (cd mX8_worthKept) 53 = .ok (.istore_n 3, 1) := by decide +kernel
theorem d_X8_worthKept_54 : decode (cd mX8_worthKept) 54 = .ok (.iinc 4 1, 3) := by decide +kernel
theorem d_X8_worthKept_57 : decode (cd mX8_worthKept) 57 = .ok (.goto (-52), 3) := by decide +kernel
theorem d_X8_worthKept_60 : decode (cd mX8_worthKept) 60 = .ok (.iload_n 3, 1) := by decide +kernel
theorem d_X8_worthKept_61 : decode (cd mX8_worthKept) 61 = .ok (.ireturn, 1) := by decide +kernel
theorem d_X8_keptAll_0 : decode (cd mX8_keptAll) 0 = .ok (.iconst 0, 1) := by decide +kernel
theorem d_X8_keptAll_1 : decode (cd mX8_keptAll) 1 = .ok (.istore_n 3, 1) := by decide +kernel
theorem d_X8_keptAll_2 : decode (cd mX8_keptAll) 2 = .ok (.iload_n 3, 1) := by decide +kernel
theorem d_X8_keptAll_3 : decode (cd mX8_keptAll) 3 = .ok (.aload_n 0, 1) := by decide +kernel
theorem d_X8_keptAll_4 : decode (cd mX8_keptAll) 4 = .ok (.getfield 20, 3) := by decide +kernel
theorem d_X8_keptAll_7 : decode (cd mX8_keptAll) 7 = .ok (.getfield 51, 3) := by decide +kernel
theorem d_X8_keptAll_10 : decode (cd mX8_keptAll) 10 = .ok (.if_icmp .ge 46, 3) := by decide +kernel
theorem d_X8_keptAll_13 : decode (cd mX8_keptAll) 13 = .ok (.aload_n 0, 1) := by decide +kernel
theorem d_X8_keptAll_14 : decode (cd mX8_keptAll) 14 = .ok (.getfield 20, 3) := by decide +kernel
theorem d_X8_keptAll_17 : decode (cd mX8_keptAll) 17 = .ok (.iload_n 3, 1) := by decide +kernel
theorem d_X8_keptAll_18 : decode (cd mX8_keptAll) 18 = .ok (.iconst 0, 1) := by decide +kernel
theorem d_X8_keptAll_19 : decode (cd mX8_keptAll) 19 = .ok (.invokevirtual 54, 3) := by decide +kernel
theorem d_X8_keptAll_22 : decode (cd mX8_keptAll) 22 = .ok (.istore 4, 2) := by decide +kernel
theorem d_X8_keptAll_24 : decode (cd mX8_keptAll) 24 = .ok (.iload 4, 2) := by decide +kernel
theorem d_X8_keptAll_26 : decode (cd mX8_keptAll) 26 = .ok (.iload_n 2, 1) := by decide +kernel
theorem d_X8_keptAll_27 : decode (cd mX8_keptAll) 27 = .ok (.if_icmp .lt 23, 3) := by decide +kernel
theorem d_X8_keptAll_30 : decode (cd mX8_keptAll) 30 = .ok (.iload 4, 2) := by decide +kernel
theorem d_X8_keptAll_32 : decode (cd mX8_keptAll) 32 = .ok (.aload_n 1, 1) := by decide +kernel
theorem d_X8_keptAll_33 : decode (cd mX8_keptAll) 33 = .ok (.getfield 68, 3) := by decide +kernel
theorem d_X8_keptAll_36 : decode (cd mX8_keptAll) 36 = .ok (.if_icmp .ge 14, 3) := by decide +kernel
theorem d_X8_keptAll_39 : decode (cd mX8_keptAll) 39 = .ok (.aload_n 0, 1) := by decide +kernel
theorem d_X8_keptAll_40 : decode (cd mX8_keptAll) 40 = .ok (.iload_n 3, 1) := by decide +kernel
theorem d_X8_keptAll_41 : decode (cd mX8_keptAll) 41 = .ok (.aload_n 1, 1) := by decide +kernel
theorem d_X8_keptAll_42 : decode (cd mX8_keptAll) 42 = .ok (.invokevirtual 64, 3) := by decide +kernel
theorem d_X8_keptAll_45 : decode (cd mX8_keptAll) 45 = .ok (.ifCond .ne 5, 3) := by decide +kernel
theorem d_X8_keptAll_48 : decode (cd mX8_keptAll) 48 = .ok (.iconst 0, 1) := by decide +kernel
theorem d_X8_keptAll_49 : decode (cd mX8_keptAll) 49 = .ok (.ireturn, 1) := by decide +kernel
theorem d_X8_keptAll_50 : decode (cd mX8_keptAll) 50 = .ok (.iinc 3 1, 3) := by decide +kernel
theorem d_X8_keptAll_53 : decode (cd mX8_keptAll) 53 = .ok (.goto (-51), 3) := by decide +kernel
theorem d_X8_keptAll_56 : decode (cd mX8_keptAll) 56 = .ok (.iconst 1, 1) := by decide +kernel
theorem d_X8_keptAll_57 : decode (cd mX8_keptAll) 57 = .ok (.ireturn, 1) := by decide +kernel
theorem d_X8_hasDitch_0 : decode (cd mX8_hasDitch) 0 = .ok (.iconst 0, 1) := by decide +kernel
theorem d_X8_hasDitch_1 : decode (cd mX8_hasDitch) 1 = .ok (.istore_n 3, 1) := by decide +kernel
theorem d_X8_hasDitch_2 : decode (cd mX8_hasDitch) 2 = .ok (.iload_n 3, 1) := by decide +kernel
theorem d_X8_hasDitch_3 : decode (cd mX8_hasDitch) 3 = .ok (.aload_n 0, 1) := by decide +kernel
theorem d_X8_hasDitch_4 : decode (cd mX8_hasDitch) 4 = .ok (.getfield 26, 3) := by decide +kernel
theorem d_X8_hasDitch_7 : decode (cd mX8_hasDitch) 7 = .ok (.getfield 51, 3) := by decide +kernel
theorem d_X8_hasDitch_10 : decode (cd mX8_hasDitch) 10 = .ok (.if_icmp .ge 37, 3) := by decide +kernel
theorem d_X8_hasDitch_13 : decode (cd mX8_hasDitch) 13 = .ok (.aload_n 0, 1) := by decide +kernel
theorem d_X8_hasDitch_14 : decode (cd mX8_hasDitch) 14 = .ok (.getfield 26, 3) := by decide +kernel
theorem d_X8_hasDitch_17 : decode (cd mX8_hasDitch) 17 = .ok (.iload_n 3, 1) := by decide +kernel
theorem d_X8_hasDitch_18 : decode (cd mX8_hasDitch) 18 = .ok (.iconst 0, 1) := by decide +kernel
theorem d_X8_hasDitch_19 : decode (cd mX8_hasDitch) 19 = .ok (.invokevirtual 54, 3) := by decide +kernel
theorem d_X8_hasDitch_22 : decode (cd mX8_hasDitch) 22 = .ok (.iload_n 1, 1) := by decide +kernel
theorem d_X8_hasDitch_23 : decode (cd mX8_hasDitch) 23 = .ok (.if_icmp .ne 18, 3) := by decide +kernel
theorem d_X8_hasDitch_26 : decode (cd mX8_hasDitch) 26 = .ok (.aload_n 0, 1) := by decide +kernel
theorem d_X8_hasDitch_27 : decode (cd mX8_hasDitch) 27 = .ok (.getfield 26, 3) := by decide +kernel
theorem d_X8_hasDitch_30 : decode (cd mX8_hasDitch) 30 = .ok (.iload_n 3, 1) := by decide +kernel
theorem d_X8_hasDitch_31 : decode (cd mX8_hasDitch) 31 = .ok (.iconst 1, 1) := by decide +kernel
theorem d_X8_hasDitch_32 : decode (cd mX8_hasDitch) 32 = .ok (.invokevirtual 54, 3) := by decide +kernel
theorem d_X8_hasDitch_35 : decode (cd mX8_hasDitch) 35 = .ok (.iload_n 2, 1) := by decide +kernel
theorem d_X8_hasDitch_36 : decode (cd mX8_hasDitch) 36 = .ok (.if_icmp .ne 5, 3) := by decide +kernel
theorem d_X8_hasDitch_39 : decode (cd mX8_hasDitch) 39 = .ok (.iconst 1, 1) := by decide +kernel
theorem d_X8_hasDitch_40 : decode (cd mX8_hasDitch) 40 = .ok (.ireturn, 1) := by decide +kernel
theorem d_X8_hasDitch_41 : decode (cd mX8_hasDitch) 41 = .ok (.iinc 3 1, 3) := by decide +kernel
theorem d_X8_hasDitch_44 : decode (cd mX8_hasDitch) 44 = .ok (.goto (-42), 3) := by decide +kernel
theorem d_X8_hasDitch_47 : decode (cd mX8_hasDitch) 47 = .ok (.iconst 0, 1) := by decide +kernel
theorem d_X8_hasDitch_48 : decode (cd mX8_hasDitch) 48 = .ok (.ireturn, 1) := by decide +kernel
theorem d_X8_sawOn_0 : decode (cd mX8_sawOn) 0 = .ok (.iconst 0, 1) := by decide +kernel
theorem d_X8_sawOn_1 : decode (cd mX8_sawOn) 1 = .ok (.istore_n 2, 1) := by decide +kernel
theorem d_X8_sawOn_2 : decode (cd mX8_sawOn) 2 = .ok (.iload_n 2, 1) := by decide +kernel
theorem d_X8_sawOn_3 : decode (cd mX8_sawOn) 3 = .ok (.aload_n 0, 1) := by decide +kernel
theorem d_X8_sawOn_4 : decode (cd mX8_sawOn) 4 = .ok (.getfield 23, 3) := by decide +kernel
theorem d_X8_sawOn_7 : decode (cd mX8_sawOn) 7 = .ok (.getfield 51, 3) := by decide +kernel
theorem d_X8_sawOn_10 : decode (cd mX8_sawOn) 10 = .ok (.if_icmp .ge 24, 3) := by decide +kernel
theorem d_X8_sawOn_13 : decode (cd mX8_sawOn) 13 = .ok (.aload_n 0, 1) := by decide +kernel
theorem d_X8_sawOn_14 : decode (cd mX8_sawOn) 14 = .ok (.getfield 23, 3) := by decide +kernel
theorem d_X8_sawOn_17 : decode (cd mX8_sawOn) 17 = .ok (.iload_n 2, 1) := by decide +kernel
theorem d_X8_sawOn_18 : decode (cd mX8_sawOn) 18 = .ok (.iconst 0, 1) := by decide +kernel
theorem d_X8_sawOn_19 : decode (cd mX8_sawOn) 19 = .ok (.invokevirtual 54, 3) := by decide +kernel
theorem d_X8_sawOn_22 : decode (cd mX8_sawOn) 22 = .ok (.iload_n 1, 1) := by decide +kernel
theorem d_X8_sawOn_23 : decode (cd mX8_sawOn) 23 = .ok (.if_icmp .ne 5, 3) := by decide +kernel
theorem d_X8_sawOn_26 : decode (cd mX8_sawOn) 26 = .ok (.iconst 1, 1) := by decide +kernel
theorem d_X8_sawOn_27 : decode (cd mX8_sawOn) 27 = .ok (.ireturn, 1) := by decide +kernel
theorem d_X8_sawOn_28 : decode (cd mX8_sawOn) 28 = .ok (.iinc 2 1, 3) := by decide +kernel
theorem d_X8_sawOn_31 : decode (cd mX8_sawOn) 31 = .ok (.goto (-29), 3) := by decide +kernel
theorem d_X8_sawOn_34 : decode (cd mX8_sawOn) 34 = .ok (.iconst 0, 1) := by decide +kernel
theorem d_X8_sawOn_35 : decode (cd mX8_sawOn) 35 = .ok (.ireturn, 1) := by decide +kernel
theorem d_X9_init_0 : decode (cd mX9_init) 0 = .ok (.aload_n 0, 1) := by decide +kernel
theorem d_X9_init_1 : decode (cd mX9_init) 1 = .ok (.invokespecial 5, 3) := by decide +kernel
theorem d_X9_init_4 : decode (cd mX9_init) 4 = .ok (.aload_n 0, 1) := by decide +kernel
theorem d_X9_init_5 : decode (cd mX9_init) 5 = .ok (.iconst 4, 1) := by decide +kernel
theorem d_X9_init_6 : decode (cd mX9_init) 6 = .ok (.newarray .int, 2) := by decide +kernel
theorem d_X9_init_8 : decode (cd mX9_init) 8 = .ok (.putfield 11, 3) := by decide +kernel
theorem d_X9_init_11 : decode (cd mX9_init) 11 = .ok (.aload_n 0, 1) := by decide +kernel
theorem d_X9_init_12 : decode (cd mX9_init) 12 = .ok (.iconst 5, 1) := by decide +kernel
theorem d_X9_init_13 : decode (cd mX9_init) 13 = .ok (.newarray .int, 2) := by decide +kernel
theorem d_X9_init_15 : decode (cd mX9_init) 15 = .ok (.putfield 17, 3) := by decide +kernel
theorem d_X9_init_18 : decode (cd mX9_init) 18 = .ok (.aload_n 0, 1) := by decide +kernel
theorem d_X9_init_19 : decode (cd mX9_init) 19 = .ok (.iconst 5, 1) := by decide +kernel
theorem d_X9_init_20 : decode (cd mX9_init) 20 = .ok (.anewarray 20, 3) := by decide +kernel
theorem d_X9_init_23 : decode (cd mX9_init) 23 = .ok (.putfield 22, 3) := by decide +kernel
theorem d_X9_init_26 : decode (cd mX9_init) 26 = .ok (.iconst 0, 1) := by decide +kernel
theorem d_X9_init_27 : decode (cd mX9_init) 27 = .ok (.istore_n 1, 1) := by decide +kernel
theorem d_X9_init_28 : decode (cd mX9_init) 28 = .ok (.iload_n 1, 1) := by decide +kernel
theorem d_X9_init_29 : decode (cd mX9_init) 29 = .ok (.aload_n 0, 1) := by decide +kernel
theorem d_X9_init_30 : decode (cd mX9_init) 30 = .ok (.getfield 22, 3) := by decide +kernel
theorem d_X9_init_33 : decode (cd mX9_init) 33 = .ok (.arraylength, 1) := by decide +kernel
theorem d_X9_init_34 : decode (cd mX9_init) 34 = .ok (.if_icmp .ge 22, 3) := by decide +kernel
theorem d_X9_init_37 : decode (cd mX9_init) 37 = .ok (.aload_n 0, 1) := by decide +kernel
theorem d_X9_init_38 : decode (cd mX9_init) 38 = .ok (.getfield 22, 3) := by decide +kernel
theorem d_X9_init_41 : decode (cd mX9_init) 41 = .ok (.iload_n 1, 1) := by decide +kernel
theorem d_X9_init_42 : decode (cd mX9_init) 42 = .ok (.new 20, 3) := by decide +kernel
theorem d_X9_init_45 : decode (cd mX9_init) 45 = .ok (.dup, 1) := by decide +kernel
theorem d_X9_init_46 : decode (cd mX9_init) 46 = .ok (.invokespecial 26, 3) := by decide +kernel
theorem d_X9_init_49 : decode (cd mX9_init) 49 = .ok (.aastore, 1) := by decide +kernel
theorem d_X9_init_50 : decode (cd mX9_init) 50 = .ok (.iinc 1 1, 3) := by decide +kernel
theorem d_X9_init_53 : decode (cd mX9_init) 53 = .ok (.goto (-25), 3) := by decide +kernel
theorem d_X9_init_56 : decode (cd mX9_init) 56 = .ok (.return_, 1) := by decide +kernel
theorem d_X9_take_0 : decode (cd mX9_take) 0 = .ok (.iload_n 1, 1) := by decide +kernel
theorem d_X9_take_1 : decode (cd mX9_take) 1 = .ok (.istore 4, 2) := by decide +kernel
theorem d_X9_take_3 : decode (cd mX9_take) 3 = .ok (.iload_n 2, 1) := by decide +kernel
theorem d_X9_take_4 : decode (cd mX9_take) 4 = .ok (.iconst 1, 1) := by decide +kernel
theorem d_X9_take_5 : decode (cd mX9_take) 5 = .ok (.isub, 1) := by decide +kernel
theorem d_X9_take_6 : decode (cd mX9_take) 6 = .ok (.istore 5, 2) := by decide +kernel
theorem d_X9_take_8 : decode (cd mX9_take) 8 = .ok (.iload 5, 2) := by decide +kernel
theorem d_X9_take_10 : decode (cd mX9_take) 10 = .ok (.ifCond .lt 61, 3) := by decide +kernel
theorem d_X9_take_13 : decode (cd mX9_take) 13 = .ok (.iload 5, 2) := by decide +kernel
theorem d_X9_take_15 : decode (cd mX9_take) 15 = .ok (.aload_n 0, 1) := by decide +kernel
theorem d_X9_take_16 : decode (cd mX9_take) 16 = .ok (.getfield 11, 3) := by decide +kernel
theorem d_X9_take_19 : decode (cd mX9_take) 19 = .ok (.arraylength, 1) := by decide +kernel
theorem d_X9_take_20 : decode (cd mX9_take) 20 = .ok (.if_icmp .ge 51, 3) := by decide +kernel
theorem d_X9_take_23 : decode (cd mX9_take) 23 = .ok (.aload_n 0, 1) := by decide +kernel
theorem d_X9_take_24 : decode (cd mX9_take) 24 = .ok (.getfield 11, 3) := by decide +kernel
theorem d_X9_take_27 : decode (cd mX9_take) 27 = .ok (.iload 5, 2) := by decide +kernel
theorem d_X9_take_29 : decode (cd mX9_take) 29 = .ok (.iload 4, 2) := by decide +kernel
theorem d_X9_take_31 : decode (cd mX9_take) 31 = .ok (.bipush 10, 2) := by decide +kernel
theorem d_X9_take_33 : decode (cd mX9_take) 33 = .ok (.irem, 1) := by decide +kernel
theorem d_X9_take_34 : decode (cd mX9_take) 34 = .ok (.iastore, 1) := by decide +kernel
theorem d_X9_take_35 : decode (cd mX9_take) 35 = .ok (.aload_n 0, 1) := by decide +kernel
theorem d_X9_take_36 : decode (cd mX9_take) 36 = .ok (.getfield 11, 3) := by decide +kernel
theorem d_X9_take_39 : decode (cd mX9_take) 39 = .ok (.iload 5, 2) := by decide +kernel
theorem d_X9_take_41 : decode (cd mX9_take) 41 = .ok (.iaload, 1) := by decide +kernel
theorem d_X9_take_42 : decode (cd mX9_take) 42 = .ok (.ifCond .lt 14, 3) := by decide +kernel
theorem d_X9_take_45 : decode (cd mX9_take) 45 = .ok (.aload_n 0, 1) := by decide +kernel
theorem d_X9_take_46 : decode (cd mX9_take) 46 = .ok (.getfield 11, 3) := by decide +kernel
theorem d_X9_take_49 : decode (cd mX9_take) 49 = .ok (.iload 5, 2) := by decide +kernel
theorem d_X9_take_51 : decode (cd mX9_take) 51 = .ok (.iaload, 1) := by decide +kernel
theorem d_X9_take_52 : decode (cd mX9_take) 52 = .ok (.iload_n 3, 1) := by decide +kernel
theorem d_X9_take_53 : decode (cd mX9_take) 53 = .ok (.if_icmp .le 5, 3) := by decide +kernel
theorem d_X9_take_56 : decode (cd mX9_take) 56 = .ok (.iconst 0, 1) := by decide +kernel
theorem d_X9_take_57 : decode (cd mX9_take) 57 = .ok (.ireturn, 1) := by decide +kernel
theorem d_X9_take_58 : decode (cd mX9_take) 58 = .ok (.iload 4, 2) := by decide +kernel
theorem d_X9_take_60 : decode (cd mX9_take) 60 = .ok (.bipush 10, 2) := by decide +kernel
theorem d_X9_take_62 : decode (cd mX9_take) 62 = .ok (.idiv, 1) := by decide +kernel
theorem d_X9_take_63 : decode (cd mX9_take) 63 = .ok (.istore 4, 2) := by decide +kernel
theorem d_X9_take_65 : decode (cd mX9_take) 65 = .ok (.iinc 5 (-1), 3) := by decide +kernel
theorem d_X9_take_68 : decode (cd mX9_take) 68 = .ok (.goto (-60), 3) := by decide +kernel
theorem d_X9_take_71 : decode (cd mX9_take) 71 = .ok (.iload 4, 2) := by decide +kernel
theorem d_X9_take_73 : decode (cd mX9_take) 73 = .ok (.ifCond .ne 7, 3) := by decide +kernel
theorem d_X9_take_76 : decode (cd mX9_take) 76 = .ok (.iconst 1, 1) := by decide +kernel
theorem d_X9_take_77 : decode (cd mX9_take) 77 = .ok (.goto 4, 3) := by decide +kernel
theorem d_X9_take_80 : decode (cd mX9_take) 80 = .ok (.iconst 0, 1) := by decide +kernel
theorem d_X9_take_81 : decode (cd mX9_take) 81 = .ok (.ireturn, 1) := by decide +kernel
theorem d_X9_worth_0 : decode (cd mX9_worth) 0 = .ok (.aload_n 0, 1) := by decide +kernel
theorem d_X9_worth_1 : decode (cd mX9_worth) 1 = .ok (.getfield 22, 3) := by decide +kernel
theorem d_X9_worth_4 : decode (cd mX9_worth) 4 = .ok (.iconst 0, 1) := by decide +kernel
theorem d_X9_worth_5 : decode (cd mX9_worth) 5 = .ok (.aaload, 1) := by decide +kernel
theorem d_X9_worth_6 : decode (cd mX9_worth) 6 = .ok (.aload_n 2, 1) := by decide +kernel
theorem d_X9_worth_7 : decode (cd mX9_worth) 7 = .ok (.invokevirtual 27, 3) := by decide +kernel
theorem d_X9_worth_10 : decode (cd mX9_worth) 10 = .ok (.aload_n 0, 1) := by decide +kernel
theorem d_X9_worth_11 : decode (cd mX9_worth) 11 = .ok (.aload_n 1, 1) := by decide +kernel
theorem d_X9_worth_12 : decode (cd mX9_worth) 12 = .ok (.iconst 0, 1) := by decide +kernel
theorem d_X9_worth_13 : decode (cd mX9_worth) 13 = .ok (.iload_n 3, 1) := by decide +kernel
theorem d_X9_worth_14 : decode (cd mX9_worth) 14 = .ok (.invokevirtual 31, 3) := by decide +kernel
theorem d_X9_worth_17 : decode (cd mX9_worth) 17 = .ok (.aload_n 0, 1) := by decide +kernel
theorem d_X9_worth_18 : decode (cd mX9_worth) 18 = .ok (.aload_n 1, 1) := by decide +kernel
theorem d_X9_worth_19 : decode (cd mX9_worth) 19 = .ok (.aload_n 2, 1) := by decide +kernel
theorem d_X9_worth_20 : decode (cd mX9_worth) 20 = .ok (.iload_n 3, 1) := by decide +kernel
theorem d_X9_worth_21 : decode (cd mX9_worth) 21 = .ok (.iconst 4, 1) := by decide +kernel
theorem d_X9_worth_22 : decode (cd mX9_worth) 22 = .ok (.invokevirtual 35, 3) := by decide +kernel
theorem d_X9_worth_25 : decode (cd mX9_worth) 25 = .ok (.ireturn, 1) := by decide +kernel
theorem d_X9_search_0 : decode (cd mX9_search) 0 = .ok (.aload_n 0, 1) := by decide +kernel
theorem d_X9_search_1 : decode (cd mX9_search) 1 = .ok (.bipush (-2), 2) := by decide +kernel
theorem d_X9_search_3 : decode (cd mX9_search) 3 = .ok (.putfield 39, 3) := by decide +kernel
theorem d_X9_search_6 : decode (cd mX9_search) 6 = .ok (.aload_n 0, 1) := by decide +kernel
theorem d_X9_search_7 : decode (cd mX9_search) 7 = .ok (.ldc 43, 2) := by decide +kernel
theorem d_X9_search_9 : decode (cd mX9_search) 9 = .ok (.putfield 44, 3) := by decide +kernel
theorem d_X9_search_12 : decode (cd mX9_search) 12 = .ok (.aload_n 0, 1) := by decide +kernel
theorem d_X9_search_13 : decode (cd mX9_search) 13 = .ok (.getfield 22, 3) := by decide +kernel
theorem d_X9_search_16 : decode (cd mX9_search) 16 = .ok (.iconst 0, 1) := by decide +kernel
theorem d_X9_search_17 : decode (cd mX9_search) 17 = .ok (.aaload, 1) := by decide +kernel
theorem d_X9_search_18 : decode (cd mX9_search) 18 = .ok (.aload_n 2, 1) := by decide +kernel
theorem d_X9_search_19 : decode (cd mX9_search) 19 = .ok (.invokevirtual 27, 3) := by decide +kernel
theorem d_X9_search_22 : decode (cd mX9_search) 22 = .ok (.aload_n 0, 1) := by decide +kernel
theorem d_X9_search_23 : decode (cd mX9_search) 23 = .ok (.getfield 11, 3) := by decide +kernel
theorem d_X9_search_26 : decode (cd mX9_search) 26 = .ok (.iconst 0, 1) := by decide +kernel
theorem d_X9_search_27 : decode (cd mX9_search) 27 = .ok (.invokestatic 47, 3) := by decide +kernel
theorem d_X9_search_30 : decode (cd mX9_search) 30 = .ok (.iload_n 3, 1) := by decide +kernel
theorem d_X9_search_31 : decode (cd mX9_search) 31 = .ok (.aload_n 1, 1) := by decide +kernel
theorem d_X9_search_32 : decode (cd mX9_search) 32 = .ok (.getfield 53, 3) := by decide +kernel
theorem d_X9_search_35 : decode (cd mX9_search) 35 = .ok (.getfield 59, 3) := by decide +kernel
theorem d_X9_search_38 : decode (cd mX9_search) 38 = .ok (.invokestatic 64, 3) := by decide +kernel
theorem d_X9_search_41 : decode (cd mX9_search) 41 = .ok (.istore 5, 2) := by decide +kernel
theorem d_X9_search_43 : decode (cd mX9_search) 43 = .ok (.iconst 0, 1) := by decide +kernel
theorem d_X9_search_44 : decode (cd mX9_search) 44 = .ok (.istore 6, 2) := by decide +kernel
theorem d_X9_search_46 : decode (cd mX9_search) 46 = .ok (.iconst 0, 1) := by decide +kernel
theorem d_X9_search_47 : decode (cd mX9_search) 47 = .ok (.istore 7, 2) := by decide +kernel
theorem d_X9_search_49 : decode (cd mX9_search) 49 = .ok (.iload 7, 2) := by decide +kernel
theorem d_X9_search_51 : decode (cd mX9_search) 51 = .ok (.iload 5, 2) := by decide +kernel
theorem d_X9_search_53 : decode (cd mX9_search) 53 = .ok (.if_icmp .ge 66, 3) := by decide +kernel
theorem d_X9_search_56 : decode (cd mX9_search) 56 = .ok (.aload_n 0, 1) := by decide +kernel
theorem d_X9_search_57 : decode (cd mX9_search) 57 = .ok (.aload_n 1, 1) := by decide +kernel
theorem d_X9_search_58 : decode (cd mX9_search) 58 = .ok (.iload 6, 2) := by decide +kernel
theorem d_X9_search_60 : decode (cd mX9_search) 60 = .ok (.iload_n 3, 1) := by decide +kernel
theorem d_X9_search_61 : decode (cd mX9_search) 61 = .ok (.invokevirtual 31, 3) := by decide +kernel
theorem d_X9_search_64 : decode (cd mX9_search) 64 = .ok (.aload_n 0, 1) := by decide +kernel
theorem d_X9_search_65 : decode (cd mX9_search) 65 = .ok (.aload_n 1, 1) := by decide +kernel
theorem d_X9_search_66 : decode (cd mX9_search) 66 = .ok (.aload_n 2, 1) := by decide +kernel
theorem d_X9_search_67 : decode (cd mX9_search) 67 = .ok (.iload_n 3, 1) := by decide +kernel
theorem d_X9_search_68 : decode (cd mX9_search) 68 = .ok (.iload 4, 2) := by decide +kernel
theorem d_X9_search_70 : decode (cd mX9_search) 70 = .ok (.invokevirtual 35, 3) := by decide +kernel
theorem d_X9_search_73 : decode (cd mX9_search) 73 = .ok (.istore 8, 2) := by decide +kernel
theorem d_X9_search_75 : decode (cd mX9_search) 75 = .ok (.iload 8, 2) := by decide +kernel
theorem d_X9_search_77 : decode (cd mX9_search) 77 = .ok (.aload_n 0, 1) := by decide +kernel
theorem d_X9_search_78 : decode (cd mX9_search) 78 = .ok (.getfield 44, 3) := by decide +kernel
theorem d_X9_search_81 : decode (cd mX9_search) 81 = .ok (.if_icmp .le 18, 3) := by decide +kernel
theorem d_X9_search_84 : decode (cd mX9_search) 84 = .ok (.aload_n 0, 1) := by decide +kernel
theorem d_X9_search_85 : decode (cd mX9_search) 85 = .ok (.iload 8, 2) := by decide +kernel
theorem d_X9_search_87 : decode (cd mX9_search) 87 = .ok (.putfield 44, 3) := by decide +kernel
theorem d_X9_search_90 : decode (cd mX9_search) 90 = .ok (.aload_n 0, 1) := by decide +kernel
theorem d_X9_search_91 : decode (cd mX9_search) 91 = .ok (.aload_n 0, 1) := by decide +kernel
theorem d_X9_search_92 : decode (cd mX9_search) 92 = .ok (.iload_n 3, 1) := by decide +kernel
theorem d_X9_search_93 : decode (cd mX9_search) 93 = .ok (.invokevirtual 68, 3) := by decide +kernel
theorem d_X9_search_96 : decode (cd mX9_search) 96 = .ok (.putfield 39, 3) := by decide +kernel
theorem d_X9_search_99 : decode (cd mX9_search) 99 = .ok (.aload_n 0, 1) := by decide +kernel
theorem d_X9_search_100 : decode (cd mX9_search) 100 = .ok (.iload_n 3, 1) := by decide +kernel
theorem d_X9_search_101 : decode (cd mX9_search) 101 = .ok (.aload_n 1, 1) := by decide +kernel
theorem d_X9_search_102 : decode (cd mX9_search) 102 = .ok (.getfield 53, 3) := by decide +kernel
theorem d_X9_search_105 : decode (cd mX9_search) 105 = .ok (.getfield 59, 3) := by decide +kernel
theorem d_X9_search_108 : decode (cd mX9_search) 108 = .ok (.invokevirtual 72, 3) := by decide +kernel
theorem d_X9_search_111 : decode (cd mX9_search) 111 = .ok (.istore 6, 2) := by decide +kernel
theorem d_X9_search_113 : decode (cd mX9_search) 113 = .ok (.iinc 7 1, 3) := by decide +kernel
theorem d_X9_search_116 : decode (cd mX9_search) 116 = .ok (.goto (-67), 3) := by decide +kernel
theorem d_X9_search_119 : decode (cd mX9_search) 119 = .ok (.return_, 1) := by decide +kernel
theorem d_X9_follow_0 : decode (cd mX9_follow) 0 = .ok (.iload_n 2, 1) := by decide +kernel
theorem d_X9_follow_1 : decode (cd mX9_follow) 1 = .ok (.istore 4, 2) := by decide +kernel
theorem d_X9_follow_3 : decode (cd mX9_follow) 3 = .ok (.iload 4, 2) := by decide +kernel
theorem d_X9_follow_5 : decode (cd mX9_follow) 5 = .ok (.iload_n 3, 1) := by decide +kernel
theorem d_X9_follow_6 : decode (cd mX9_follow) 6 = .ok (.if_icmp .ge 63, 3) := by decide +kernel
theorem d_X9_follow_9 : decode (cd mX9_follow) 9 = .ok (.iload 4, 2) := by decide +kernel
theorem d_X9_follow_11 : decode (cd mX9_follow) 11 = .ok (.iconst 4, 1) := by decide +kernel
theorem d_X9_follow_12 : decode (cd mX9_follow) 12 = .ok (.if_icmp .ge 57, 3) := by decide +kernel
theorem d_X9_follow_15 : decode (cd mX9_follow) 15 = .ok (.aload_n 0, 1) := by decide +kernel
theorem d_X9_follow_16 : decode (cd mX9_follow) 16 = .ok (.getfield 17, 3) := by decide +kernel
theorem d_X9_follow_19 : decode (cd mX9_follow) 19 = .ok (.iload 4, 2) := by decide +kernel
theorem d_X9_follow_21 : decode (cd mX9_follow) 21 = .ok (.iconst 1, 1) := by decide +kernel
theorem d_X9_follow_22 : decode (cd mX9_follow) 22 = .ok (.iadd, 1) := by decide +kernel
theorem d_X9_follow_23 : decode (cd mX9_follow) 23 = .ok (.aload_n 0, 1) := by decide +kernel
theorem d_X9_follow_24 : decode (cd mX9_follow) 24 = .ok (.getfield 17, 3) := by decide +kernel
theorem d_X9_follow_27 : decode (cd mX9_follow) 27 = .ok (.iload 4, 2) := by decide +kernel
theorem d_X9_follow_29 : decode (cd mX9_follow) 29 = .ok (.iaload, 1) := by decide +kernel
theorem d_X9_follow_30 : decode (cd mX9_follow) 30 = .ok (.aload_n 1, 1) := by decide +kernel
theorem d_X9_follow_31 : decode (cd mX9_follow) 31 = .ok (.getfield 53, 3) := by decide +kernel
theorem d_X9_follow_34 : decode (cd mX9_follow) 34 = .ok (.aload_n 0, 1) := by decide +kernel
theorem d_X9_follow_35 : decode (cd mX9_follow) 35 = .ok (.getfield 11, 3) := by decide +kernel
theorem d_X9_follow_38 : decode (cd mX9_follow) 38 = .ok (.iload 4, 2) := by decide +kernel
theorem d_X9_follow_40 : decode (cd mX9_follow) 40 = .ok (.iaload, 1) := by decide +kernel
theorem d_X9_follow_41 : decode (cd mX9_follow) 41 = .ok (.iconst 1, 1) := by decide +kernel
theorem d_X9_follow_42 : decode (cd mX9_follow) 42 = .ok (.isub, 1) := by decide +kernel
theorem d_X9_follow_43 : decode (cd mX9_follow) 43 = .ok (.iconst 2, 1) := by decide +kernel
theorem d_X9_follow_44 : decode (cd mX9_follow) 44 = .ok (.invokevirtual 75, 3) := by decide +kernel
theorem d_X9_follow_47 : decode (cd mX9_follow) 47 = .ok (.iadd, 1) := by decide +kernel
theorem d_X9_follow_48 : decode (cd mX9_follow) 48 = .ok (.iastore, 1) := by decide +kernel
theorem d_X9_follow_49 : decode (cd mX9_follow) 49 = .ok (.aload_n 0, 1) := by decide +kernel
theorem d_X9_follow_50 : decode (cd mX9_follow) 50 = .ok (.aload_n 1, 1) := by decide +kernel
theorem d_X9_follow_51 : decode (cd mX9_follow) 51 = .ok (.iload 4, 2) := by decide +kernel
theorem d_X9_follow_53 : decode (cd mX9_follow) 53 = .ok (.aload_n 0, 1) := by decide +kernel
theorem d_X9_follow_54 : decode (cd mX9_follow) 54 = .ok (.getfield 11, 3) := by decide +kernel
theorem d_X9_follow_57 : decode (cd mX9_follow) 57 = .ok (.iload 4, 2) := by decide +kernel
theorem d_X9_follow_59 : decode (cd mX9_follow) 59 = .ok (.iaload, 1) := by decide +kernel
theorem d_X9_follow_60 : decode (cd mX9_follow) 60 = .ok (.invokevirtual 78, 3) := by decide +kernel
theorem d_X9_follow_63 : decode (cd mX9_follow) 63 = .ok (.iinc 4 1, 3) := by decide +kernel
theorem d_X9_follow_66 : decode (cd mX9_follow) 66 = .ok (.goto (-63), 3) := by decide +kernel
theorem d_X9_follow_69 : decode (cd mX9_follow) 69 = .ok (.return_, 1) := by decide +kernel
theorem d_X9_passTurn_0 : decode (cd mX9_passTurn) 0 = .ok (.iload_n 2, 1) := by decide +kernel
theorem d_X9_passTurn_1 : decode (cd mX9_passTurn) 1 = .ok (.iconst 0, 1) := by decide +kernel
theorem d_X9_passTurn_2 : decode (cd mX9_passTurn) 2 = .ok (.iconst 3, 1) := by decide +kernel
theorem d_X9_passTurn_3 : decode (cd mX9_passTurn) 3 = .ok (.invokestatic 81, 3) := by decide +kernel
theorem d_X9_passTurn_6 : decode (cd mX9_passTurn) 6 = .ok (.ifCond .ne 4, 3) := by decide +kernel
theorem d_X9_passTurn_9 : decode (cd mX9_passTurn) 9 = .ok (.return_, 1) := by decide +kernel
theorem d_X9_passTurn_10 : decode (cd mX9_passTurn) 10 = .ok (.aload_n 0, 1) := by decide +kernel
theorem d_X9_passTurn_11 : decode (cd mX9_passTurn) 11 = .ok (.getfield 22, 3) := by decide +kernel
theorem d_X9_passTurn_14 : decode (cd mX9_passTurn) 14 = .ok (.iload_n 2, 1) := by decide +kernel
theorem d_X9_passTurn_15 : decode (cd mX9_passTurn) 15 = .ok (.iconst 1, 1) := by decide +kernel
theorem d_X9_passTurn_16 : decode (cd mX9_passTurn) 16 = .ok (.iadd, 1) := by decide +kernel
theorem d_X9_passTurn_17 : decode (cd mX9_passTurn) 17 = .ok (.aaload, 1) := by decide +kernel
theorem d_X9_passTurn_18 : decode (cd mX9_passTurn) 18 = .ok (.astore 4, 2) := by decide +kernel
theorem d_X9_passTurn_20 : decode (cd mX9_passTurn) 20 = .ok (.aload 4, 2) := by decide +kernel
theorem d_X9_passTurn_22 : decode (cd mX9_passTurn) 22 = .ok (.aload_n 0, 1) := by decide +kernel
theorem d_X9_passTurn_23 : decode (cd mX9_passTurn) 23 = .ok (.getfield 22, 3) := by decide +kernel
theorem d_X9_passTurn_26 : decode (cd mX9_passTurn) 26 = .ok (.iload_n 2, 1) := by decide +kernel
theorem d_X9_passTurn_27 : decode (cd mX9_passTurn) 27 = .ok (.aaload, 1) := by decide +kernel
theorem d_X9_passTurn_28 : decode (cd mX9_passTurn) 28 = .ok (.invokevirtual 27, 3) := by decide +kernel
theorem d_X9_passTurn_31 : decode (cd mX9_passTurn) 31 = .ok (.iload_n 3, 1) := by decide +kernel
theorem d_X9_passTurn_32 : decode (cd mX9_passTurn) 32 = .ok (.ifCond .le 11, 3) := by decide +kernel
theorem d_X9_passTurn_35 : decode (cd mX9_passTurn) 35 = .ok (.aload 4, 2) := by decide +kernel
theorem d_X9_passTurn_37 : decode (cd mX9_passTurn) 37 = .ok (.iload_n 3, 1) := by decide +kernel
theorem d_X9_passTurn_38 : decode (cd mX9_passTurn) 38 = .ok (.iconst 1, 1) := by decide +kernel
theorem d_X9_passTurn_39 : decode (cd mX9_passTurn) 39 = .ok (.isub, 1) := by decide +kernel
theorem d_X9_passTurn_40 : decode (cd mX9_passTurn) 40 = .ok (.invokevirtual 85, 3) := by decide +kernel
theorem d_X9_passTurn_43 : decode (cd mX9_passTurn) 43 = .ok (.aload 4, 2) := by decide +kernel
theorem d_X9_passTurn_45 : decode (cd mX9_passTurn) 45 = .ok (.aload_n 1, 1) := by decide +kernel
theorem d_X9_passTurn_46 : decode (cd mX9_passTurn) 46 = .ok (.invokevirtual 89, 3) := by decide +kernel
theorem d_X9_passTurn_49 : decode (cd mX9_passTurn) 49 = .ok (.return_, 1) := by decide +kernel
theorem d_X9_scoreOf_0 : decode (cd mX9_scoreOf) 0 = .ok (.iload_n 3, 1) := by decide +kernel
theorem d_X9_scoreOf_1 : decode (cd mX9_scoreOf) 1 = .ok (.iconst 0, 1) := by decide +kernel
theorem d_X9_scoreOf_2 : decode (cd mX9_scoreOf) 2 = .ok (.iconst 4, 1) := by decide +kernel
theorem d_X9_scoreOf_3 : decode (cd mX9_scoreOf) 3 = .ok (.invokestatic 81, 3) := by decide +kernel
theorem d_X9_scoreOf_6 : decode (cd mX9_scoreOf) 6 = .ok (.ifCond .ne 6, 3) := by decide +kernel
theorem d_X9_scoreOf_9 : decode (cd mX9_scoreOf) 9 = .ok (.ldc 43, 2) := by decide +kernel
theorem d_X9_scoreOf_11 : decode (cd mX9_scoreOf) 11 = .ok (.ireturn, 1) := by decide +kernel
theorem d_X9_scoreOf_12 : decode (cd mX9_scoreOf) 12 = .ok (.aload_n 0, 1) := by decide +kernel
theorem d_X9_scoreOf_13 : decode (cd mX9_scoreOf) 13 = .ok (.getfield 22, 3) := by decide +kernel
theorem d_X9_scoreOf_16 : decode (cd mX9_scoreOf) 16 = .ok (.iload_n 3, 1) := by decide +kernel
theorem d_X9_scoreOf_17 : decode (cd mX9_scoreOf) 17 = .ok (.aaload, 1) := by decide +kernel
theorem d_X9_scoreOf_18 : decode (cd mX9_scoreOf) 18 = .ok (.astore 5, 2) := by decide +kernel
theorem d_X9_scoreOf_20 : decode (cd mX9_scoreOf) 20 = .ok (.iload 4, 2) := by decide +kernel
theorem d_X9_scoreOf_22 : decode (cd mX9_scoreOf) 22 = .ok (.iconst 4, 1) := by decide +kernel
theorem d_X9_scoreOf_23 : decode (cd mX9_scoreOf) 23 = .ok (.if_icmp .ne 21, 3) := by decide +kernel
theorem d_X9_scoreOf_26 : decode (cd mX9_scoreOf) 26 = .ok (.aload_n 1, 1) := by decide +kernel
theorem d_X9_scoreOf_27 : decode (cd mX9_scoreOf) 27 = .ok (.aload 5, 2) := by decide +kernel
theorem d_X9_scoreOf_29 : decode (cd mX9_scoreOf) 29 = .ok (.aload_n 2, 1) := by decide +kernel
theorem d_X9_scoreOf_30 : decode (cd mX9_scoreOf) 30 = .ok (.getfield 93, 3) := by decide +kernel
theorem d_X9_scoreOf_33 : decode (cd mX9_scoreOf) 33 = .ok (.invokevirtual 96, 3) := by decide +kernel
theorem d_X9_scoreOf_36 : decode (cd mX9_scoreOf) 36 = .ok (.aload_n 0, 1) := by decide +kernel
theorem d_X9_scoreOf_37 : decode (cd mX9_scoreOf) 37 = .ok (.getfield 17, 3) := by decide +kernel
theorem d_X9_scoreOf_40 : decode (cd mX9_scoreOf) 40 = .ok (.iload_n 3, 1) := by decide +kernel
theorem d_X9_scoreOf_41 : decode (cd mX9_scoreOf) 41 = .ok (.iaload, 1) := by decide +kernel
theorem d_X9_scoreOf_42 : decode (cd mX9_scoreOf) 42 = .ok (.isub, 1) := by decide +kernel
theorem d_X9_scoreOf_43 : decode (cd mX9_scoreOf) 43 = .ok (.ireturn, 1) := by decide +kernel
theorem d_X9_scoreOf_44 : decode (cd mX9_scoreOf) 44 = .ok (.iload 4, 2) := by decide +kernel
theorem d_X9_scoreOf_46 : decode (cd mX9_scoreOf) 46 = .ok (.iconst 5, 1) := by decide +kernel
theorem d_X9_scoreOf_47 : decode (cd mX9_scoreOf) 47 = .ok (.if_icmp .ne 29, 3) := by decide +kernel
theorem d_X9_scoreOf_50 : decode (cd mX9_scoreOf) 50 = .ok (.aload_n 1, 1) := by decide +kernel
theorem d_X9_scoreOf_51 : decode (cd mX9_scoreOf) 51 = .ok (.aload 5, 2) := by decide +kernel
theorem d_X9_scoreOf_53 : decode (cd mX9_scoreOf) 53 = .ok (.aload_n 2, 1) := by decide +kernel
theorem d_X9_scoreOf_54 : decode (cd mX9_scoreOf) 54 = .ok (.getfield 93, 3) := by decide +kernel
theorem d_X9_scoreOf_57 : decode (cd mX9_scoreOf) 57 = .ok (.invokevirtual 100, 3) := by decide +kernel
theorem d_X9_scoreOf_60 : decode (cd mX9_scoreOf) 60 = .ok (.ifCond .eq 13, 3) := by decide +kernel
theorem d_X9_scoreOf_63 : decode (cd mX9_scoreOf) 63 = .ok (.aload_n 0, 1) := by decide +kernel
theorem d_X9_scoreOf_64 : decode (cd mX9_scoreOf) 64 = .ok (.getfield 17, 3) := by decide +kernel
theorem d_X9_scoreOf_67 : decode (cd mX9_scoreOf) 67 = .ok (.iload_n 3, 1) := by decide +kernel
theorem d_X9_scoreOf_68 : decode (cd mX9_scoreOf) 68 = .ok (.iaload, 1) := by decide +kernel
theorem d_X9_scoreOf_69 : decode (cd mX9_scoreOf) 69 = .ok (.ineg, 1) := by decide +kernel
theorem d_X9_scoreOf_70 : decode (cd mX9_scoreOf) 70 = .ok (.goto 5, 3) := by decide +kernel
theorem d_X9_scoreOf_73 : decode (cd mX9_scoreOf) 73 = .ok (.ldc 43, 2) := by decide +kernel
theorem d_X9_scoreOf_75 : decode (cd mX9_scoreOf) 75 = .ok (.ireturn, 1) := by decide +kernel
theorem d_X9_scoreOf_76 : decode (cd mX9_scoreOf) 76 = .ok (.aload 5, 2) := by decide +kernel
theorem d_X9_scoreOf_78 : decode (cd mX9_scoreOf) 78 = .ok (.invokevirtual 104, 3) := by decide +kernel
theorem d_X9_scoreOf_81 : decode (cd mX9_scoreOf) 81 = .ok (.iload 4, 2) := by decide +kernel
theorem d_X9_scoreOf_83 : decode (cd mX9_scoreOf) 83 = .ok (.if_icmp .ne 12, 3) := by decide +kernel
theorem d_X9_scoreOf_86 : decode (cd mX9_scoreOf) 86 = .ok (.aload_n 0, 1) := by decide +kernel
theorem d_X9_scoreOf_87 : decode (cd mX9_scoreOf) 87 = .ok (.iload_n 3, 1) := by decide +kernel
theorem d_X9_scoreOf_88 : decode (cd mX9_scoreOf) 88 = .ok (.invokevirtual 108, 3) := by decide +kernel
theorem d_X9_scoreOf_91 : decode (cd mX9_scoreOf) 91 = .ok (.ineg, 1) := by decide +kernel
theorem d_X9_scoreOf_92 : decode (cd mX9_scoreOf) 92 = .ok (.goto 5, 3) := by decide +kernel
theorem d_X9_scoreOf_95 : decode (cd mX9_scoreOf) 95 = .ok (.ldc 43, 2) := by decide +kernel
theorem d_X9_scoreOf_97 : decode (cd mX9_scoreOf) 97 = .ok (.ireturn, 1) := by decide +kernel
theorem d_X9_opened_0 : decode (cd mX9_opened) 0 = .ok (.iconst 0, 1) := by decide +kernel
theorem d_X9_opened_1 : decode (cd mX9_opened) 1 = .ok (.istore_n 2, 1) := by decide +kernel
theorem d_X9_opened_2 : decode (cd mX9_opened) 2 = .ok (.iconst 0, 1) := by decide +kernel
theorem d_X9_opened_3 : decode (cd mX9_opened) 3 = .ok (.istore_n 3, 1) := by decide +kernel
theorem d_X9_opened_4 : decode (cd mX9_opened) 4 = .ok (.iload_n 3, 1) := by decide +kernel
theorem d_X9_opened_5 : decode (cd mX9_opened) 5 = .ok (.iload_n 1, 1) := by decide +kernel
theorem d_X9_opened_6 : decode (cd mX9_opened) 6 = .ok (.if_icmp .ge 35, 3) := by decide +kernel
theorem d_X9_opened_9 : decode (cd mX9_opened) 9 = .ok (.iload_n 3, 1) := by decide +kernel
theorem d_X9_opened_10 : decode (cd mX9_opened) 10 = .ok (.aload_n 0, 1) := by decide +kernel
theorem d_X9_opened_11 : decode (cd mX9_opened) 11 = .ok (.getfield 11, 3) := by decide +kernel
theorem d_X9_opened_14 : decode (cd mX9_opened) 14 = .ok (.arraylength, 1) := by decide +kernel
theorem d_X9_opened_15 : decode (cd mX9_opened) 15 = .ok (.if_icmp .ge 26, 3) := by decide +kernel
theorem d_X9_opened_18 : decode (cd mX9_opened) 18 = .ok (.iload_n 2, 1) := by decide +kernel
theorem d_X9_opened_19 : decode (cd mX9_opened) 19 = .ok (.aload_n 0, 1) := by decide +kernel
theorem d_X9_opened_20 : decode (cd mX9_opened) 20 = .ok (.getfield 11, 3) := by decide +kernel
theorem d_X9_opened_23 : decode (cd mX9_opened) 23 = .ok (.iload_n 3, 1) := by decide +kernel
theorem d_X9_opened_24 : decode (cd mX9_opened) 24 = .ok (.iaload, 1) := by decide +kernel
theorem d_X9_opened_25 : decode (cd mX9_opened) 25 = .ok (.ifCond .le 7, 3) := by decide +kernel
theorem d_X9_opened_28 : decode (cd mX9_opened) 28 = .ok (.iconst 1, 1) := by decide +kernel
theorem d_X9_opened_29 : decode (cd mX9_opened) 29 = .ok (.goto 4, 3) := by decide +kernel
theorem d_X9_opened_32 : decode (cd mX9_opened) 32 = .ok (.iconst 0, 1) := by decide +kernel
theorem d_X9_opened_33 : decode (cd mX9_opened) 33 = .ok (.iadd, 1) := by decide +kernel
theorem d_X9_opened_34 : decode (cd mX9_opened) 34 = .ok (.istore_n 2, 1) := by decide +kernel
theorem d_X9_opened_35 : decode (cd mX9_opened) 35 = .ok (.iinc 3 1, 3) := by decide +kernel
theorem d_X9_opened_38 : decode (cd mX9_opened) 38 = .ok (.goto (-34), 3) := by decide +kernel
theorem d_X9_opened_41 : decode (cd mX9_opened) 41 = .ok (.iload_n 2, 1) := by decide +kernel
theorem d_X9_opened_42 : decode (cd mX9_opened) 42 = .ok (.ireturn, 1) := by decide +kernel
theorem d_X9_digits_0 : decode (cd mX9_digits) 0 = .ok (.iconst 0, 1) := by decide +kernel
theorem d_X9_digits_1 : decode (cd mX9_digits) 1 = .ok (.istore_n 2, 1) := by decide +kernel
theorem d_X9_digits_2 : decode (cd mX9_digits) 2 = .ok (.iconst 0, 1) := by decide +kernel
theorem d_X9_digits_3 : decode (cd mX9_digits) 3 = .ok (.istore_n 3, 1) := by decide +kernel
theorem d_X9_digits_4 : decode (cd mX9_digits) 4 = .ok (.iload_n 3, 1) := by decide +kernel
theorem d_X9_digits_5 : decode (cd mX9_digits) 5 = .ok (.iload_n 1, 1) := by decide +kernel
theorem d_X9_digits_6 : decode (cd mX9_digits) 6 = .ok (.if_icmp .ge 30, 3) := by decide +kernel
theorem d_X9_digits_9 : decode (cd mX9_digits) 9 = .ok (.iload_n 3, 1) := by decide +kernel
theorem d_X9_digits_10 : decode (cd mX9_digits) 10 = .ok (.aload_n 0, 1) := by decide +kernel
theorem d_X9_digits_11 : decode (cd mX9_digits) 11 = .ok (.getfield 11, 3) := by decide +kernel
theorem d_X9_digits_14 : decode (cd mX9_digits) 14 = .ok (.arraylength, 1) := by decide +kernel
theorem d_X9_digits_15 : decode (cd mX9_digits) 15 = .ok (.if_icmp .ge 21, 3) := by decide +kernel
theorem d_X9_digits_18 : decode (cd mX9_digits) 18 = .ok (.bipush 10, 2) := by decide +kernel
theorem d_X9_digits_20 : decode (cd mX9_digits) 20 = .ok (.iload_n 2, 1) := by decide +kernel
theorem d_X9_digits_21 : decode (cd mX9_digits) 21 = .ok (.imul, 1) := by decide +kernel
theorem d_X9_digits_22 : decode (cd mX9_digits) 22 = .ok (.aload_n 0, 1) := by decide +kernel
theorem d_X9_digits_23 : decode (cd mX9_digits) 23 = .ok (.getfield 11, 3) := by decide +kernel
theorem d_X9_digits_26 : decode (cd mX9_digits) 26 = .ok (.iload_n 3, 1) := by decide +kernel
theorem d_X9_digits_27 : decode (cd mX9_digits) 27 = .ok (.iaload, 1) := by decide +kernel
theorem d_X9_digits_28 : decode (cd mX9_digits) 28 = .ok (.iadd, 1) := by decide +kernel
theorem d_X9_digits_29 : decode (cd mX9_digits) 29 = .ok (.istore_n 2, 1) := by decide +kernel
theorem d_X9_digits_30 : decode (cd mX9_digits) 30 = .ok (.iinc 3 1, 3) := by decide +kernel
theorem d_X9_digits_33 : decode (cd mX9_digits) 33 = .ok (.goto (-29), 3) := by decide +kernel
theorem d_X9_digits_36 : decode (cd mX9_digits) 36 = .ok (.iload_n 2, 1) := by decide +kernel
theorem d_X9_digits_37 : decode (cd mX9_digits) 37 = .ok (.ireturn, 1) := by decide +kernel
theorem d_X9_rowsOf_0 : decode (cd mX9_rowsOf) 0 = .ok (.iconst 1, 1) := by decide +kernel
theorem d_X9_rowsOf_1 : decode (cd mX9_rowsOf) 1 = .ok (.istore_n 2, 1) := by decide +kernel
theorem d_X9_rowsOf_2 : decode (cd mX9_rowsOf) 2 = .ok (.iconst 0, 1) := by decide +kernel
theorem d_X9_rowsOf_3 : decode (cd mX9_rowsOf) 3 = .ok (.istore_n 3, 1) := by decide +kernel
theorem d_X9_rowsOf_4 : decode (cd mX9_rowsOf) 4 = .ok (.iload_n 3, 1) := by decide +kernel
theorem d_X9_rowsOf_5 : decode (cd mX9_rowsOf) 5 = .ok (.iload_n 0, 1) := by decide +kernel
theorem d_X9_rowsOf_6 : decode (cd mX9_rowsOf) 6 = .ok (.if_icmp .ge 15, 3) := by decide +kernel
theorem d_X9_rowsOf_9 : decode (cd mX9_rowsOf) 9 = .ok (.iload_n 2, 1) := by decide +kernel
theorem d_X9_rowsOf_10 : decode (cd mX9_rowsOf) 10 = .ok (.iload_n 1, 1) := by decide +kernel
theorem d_X9_rowsOf_11 : decode (cd mX9_rowsOf) 11 = .ok (.iconst 1, 1) := by decide +kernel
theorem d_X9_rowsOf_12 : decode (cd mX9_rowsOf) 12 = .ok (.iadd, 1) := by decide +kernel
theorem d_X9_rowsOf_13 : decode (cd mX9_rowsOf) 13 = .ok (.imul, 1) := by decide +kernel
theorem d_X9_rowsOf_14 : decode (cd mX9_rowsOf) 14 = .ok (.istore_n 2, 1) := by decide +kernel
theorem d_X9_rowsOf_15 : decode (cd mX9_rowsOf) 15 = .ok (.iinc 3 1, 3) := by decide +kernel
theorem d_X9_rowsOf_18 : decode (cd mX9_rowsOf) 18 = .ok (.goto (-14), 3) := by decide +kernel
theorem d_X9_rowsOf_21 : decode (cd mX9_rowsOf) 21 = .ok (.iload_n 2, 1) := by decide +kernel
theorem d_X9_rowsOf_22 : decode (cd mX9_rowsOf) 22 = .ok (.ireturn, 1) := by decide +kernel
theorem d_X9_nextRow_0 : decode (cd mX9_nextRow) 0 = .ok (.iload_n 1, 1) := by decide +kernel
theorem d_X9_nextRow_1 : decode (cd mX9_nextRow) 1 = .ok (.iconst 1, 1) := by decide +kernel
theorem d_X9_nextRow_2 : decode (cd mX9_nextRow) 2 = .ok (.isub, 1) := by decide +kernel
theorem d_X9_nextRow_3 : decode (cd mX9_nextRow) 3 = .ok (.istore_n 3, 1) := by decide +kernel
theorem d_X9_nextRow_4 : decode (cd mX9_nextRow) 4 = .ok (.iload_n 3, 1) := by decide +kernel
theorem d_X9_nextRow_5 : decode (cd mX9_nextRow) 5 = .ok (.ifCond .lt 47, 3) := by decide +kernel
theorem d_X9_nextRow_8 : decode (cd mX9_nextRow) 8 = .ok (.iload_n 3, 1) := by decide +kernel
theorem d_X9_nextRow_9 : decode (cd mX9_nextRow) 9 = .ok (.aload_n 0, 1) := by decide +kernel
theorem d_X9_nextRow_10 : decode (cd mX9_nextRow) 10 = .ok (.getfield 11, 3) := by decide +kernel
theorem d_X9_nextRow_13 : decode (cd mX9_nextRow) 13 = .ok (.arraylength, 1) := by decide +kernel
theorem d_X9_nextRow_14 : decode (cd mX9_nextRow) 14 = .ok (.if_icmp .ge 38, 3) := by decide +kernel
theorem d_X9_nextRow_17 : decode (cd mX9_nextRow) 17 = .ok (.aload_n 0, 1) := by decide +kernel
theorem d_X9_nextRow_18 : decode (cd mX9_nextRow) 18 = .ok (.getfield 11, 3) := by decide +kernel
theorem d_X9_nextRow_21 : decode (cd mX9_nextRow) 21 = .ok (.iload_n 3, 1) := by decide +kernel
theorem d_X9_nextRow_22 : decode (cd mX9_nextRow) 22 = .ok (.iaload, 1) := by decide +kernel
theorem d_X9_nextRow_23 : decode (cd mX9_nextRow) 23 = .ok (.iload_n 2, 1) := by decide +kernel
theorem d_X9_nextRow_24 : decode (cd mX9_nextRow) 24 = .ok (.if_icmp .ge 15, 3) := by decide +kernel
theorem d_X9_nextRow_27 : decode (cd mX9_nextRow) 27 = .ok (.aload_n 0, 1) := by decide +kernel
theorem d_X9_nextRow_28 : decode (cd mX9_nextRow) 28 = .ok (.getfield 11, 3) := by decide +kernel
theorem d_X9_nextRow_31 : decode (cd mX9_nextRow) 31 = .ok (.iload_n 3, 1) := by decide +kernel
theorem d_X9_nextRow_32 : decode (cd mX9_nextRow) 32 = .ok (.dup2, 1) := by decide +kernel
theorem d_X9_nextRow_33 : decode (cd mX9_nextRow) 33 = .ok (.iaload, 1) := by decide +kernel
theorem d_X9_nextRow_34 : decode (cd mX9_nextRow) 34 = .ok (.iconst 1, 1) := by decide +kernel
theorem d_X9_nextRow_35 : decode (cd mX9_nextRow) 35 = .ok (.iadd, 1) := by decide +kernel
theorem d_X9_nextRow_36 : decode (cd mX9_nextRow) 36 = .ok (.iastore, 1) := by decide +kernel
theorem d_X9_nextRow_37 : decode (cd mX9_nextRow) 37 = .ok (.iload_n 3, 1) := by decide +kernel
theorem d_X9_nextRow_38 : decode (cd mX9_nextRow) 38 = .ok (.ireturn, 1) := by decide +kernel
theorem d_X9_nextRow_39 : decode (cd mX9_nextRow) 39 = .ok (.aload_n 0, 1) := by decide +kernel
theorem d_X9_nextRow_40 : decode (cd mX9_nextRow) 40 = .ok (.getfield 11, 3) := by decide +kernel
theorem d_X9_nextRow_43 : decode (cd mX9_nextRow) 43 = .ok (.iload_n 3, 1) := by decide +kernel
theorem d_X9_nextRow_44 : decode (cd mX9_nextRow) 44 = .ok (.iconst 0, 1) := by decide +kernel
theorem d_X9_nextRow_45 : decode (cd mX9_nextRow) 45 = .ok (.iastore, 1) := by decide +kernel
theorem d_X9_nextRow_46 : decode (cd mX9_nextRow) 46 = .ok (.iinc 3 (-1), 3) := by decide +kernel
theorem d_X9_nextRow_49 : decode (cd mX9_nextRow) 49 = .ok (.goto (-45), 3) := by decide +kernel
theorem d_X9_nextRow_52 : decode (cd mX9_nextRow) 52 = .ok (.iconst 0, 1) := by decide +kernel
theorem d_X9_nextRow_53 : decode (cd mX9_nextRow) 53 = .ok (.ireturn, 1) := by decide +kernel
theorem d_X9_played_0 : decode (cd mX9_played) 0 = .ok (.aload_n 0, 1) := by decide +kernel
theorem d_X9_played_1 : decode (cd mX9_played) 1 = .ok (.getfield 22, 3) := by decide +kernel
theorem d_X9_played_4 : decode (cd mX9_played) 4 = .ok (.iconst 0, 1) := by decide +kernel
theorem d_X9_played_5 : decode (cd mX9_played) 5 = .ok (.aaload, 1) := by decide +kernel
theorem d_X9_played_6 : decode (cd mX9_played) 6 = .ok (.aload_n 2, 1) := by decide +kernel
theorem d_X9_played_7 : decode (cd mX9_played) 7 = .ok (.invokevirtual 27, 3) := by decide +kernel
theorem d_X9_played_10 : decode (cd mX9_played) 10 = .ok (.aload_n 0, 1) := by decide +kernel
theorem d_X9_played_11 : decode (cd mX9_played) 11 = .ok (.aload_n 1, 1) := by decide +kernel
theorem d_X9_played_12 : decode (cd mX9_played) 12 = .ok (.iconst 0, 1) := by decide +kernel
theorem d_X9_played_13 : decode (cd mX9_played) 13 = .ok (.iload_n 3, 1) := by decide +kernel
theorem d_X9_played_14 : decode (cd mX9_played) 14 = .ok (.invokestatic 111, 3) := by decide +kernel
theorem d_X9_played_17 : decode (cd mX9_played) 17 = .ok (.ireturn, 1) := by decide +kernel
theorem d_X9_bestFrom_0 : decode (cd mX9_bestFrom) 0 = .ok (.iload_n 2, 1) := by decide +kernel
theorem d_X9_bestFrom_1 : decode (cd mX9_bestFrom) 1 = .ok (.iload_n 3, 1) := by decide +kernel
theorem d_X9_bestFrom_2 : decode (cd mX9_bestFrom) 2 = .ok (.if_icmp .ge 8, 3) := by decide +kernel
theorem d_X9_bestFrom_5 : decode (cd mX9_bestFrom) 5 = .ok (.iload_n 2, 1) := by decide +kernel
theorem d_X9_bestFrom_6 : decode (cd mX9_bestFrom) 6 = .ok (.iconst 4, 1) := by decide +kernel
theorem d_X9_bestFrom_7 : decode (cd mX9_bestFrom) 7 = .ok (.if_icmp .lt 26, 3) := by decide +kernel
theorem d_X9_bestFrom_10 : decode (cd mX9_bestFrom) 10 = .ok (.aload_n 0, 1) := by decide +kernel
theorem d_X9_bestFrom_11 : decode (cd mX9_bestFrom) 11 = .ok (.getfield 22, 3) := by decide +kernel
theorem d_X9_bestFrom_14 : decode (cd mX9_bestFrom) 14 = .ok (.iload_n 2, 1) := by decide +kernel
theorem d_X9_bestFrom_15 : decode (cd mX9_bestFrom) 15 = .ok (.iconst 0, 1) := by decide +kernel
theorem d_X9_bestFrom_16 : decode (cd mX9_bestFrom) 16 = .ok (.iconst 4, 1) := by decide +kernel
theorem d_X9_bestFrom_17 : decode (cd mX9_bestFrom) 17 = .ok (.invokestatic 81, 3) := by decide +kernel
theorem d_X9_bestFrom_20 : decode (cd mX9_bestFrom) 20 = .ok (.ifCond .eq 7, 3) := by decide +kernel
theorem d_X9_bestFrom_23 : decode (cd mX9_bestFrom) 23 = .ok (.iload_n 2, 1) := by decide +kernel
theorem d_X9_bestFrom_24 : decode (cd mX9_bestFrom) 24 = .ok (.goto 4, 3) := by decide +kernel
theorem d_X9_bestFrom_27 : decode (cd mX9_bestFrom) 27 = .ok (.iconst 0, 1) := by decide +kernel
theorem d_X9_bestFrom_28 : decode (cd mX9_bestFrom) 28 = .ok (.aaload, 1) := by decide +kernel
theorem d_X9_bestFrom_29 : decode (cd mX9_bestFrom) 29 = .ok (.getfield 115, 3) := by decide +kernel
theorem d_X9_bestFrom_32 : decode (cd mX9_bestFrom) 32 = .ok (.ireturn, 1) := by decide +kernel
theorem d_X9_bestFrom_33 : decode (cd mX9_bestFrom) 33 = .ok (.iload_n 2, 1) := by decide +kernel
theorem d_X9_bestFrom_34 : decode (cd mX9_bestFrom) 34 = .ok (.iconst 2, 1) := by decide +kernel
theorem d_X9_bestFrom_35 : decode (cd mX9_bestFrom) 35 = .ok (.irem, 1) := by decide +kernel
theorem d_X9_bestFrom_36 : decode (cd mX9_bestFrom) 36 = .ok (.ifCond .ne 7, 3) := by decide +kernel
theorem d_X9_bestFrom_39 : decode (cd mX9_bestFrom) 39 = .ok (.iconst 1, 1) := by decide +kernel
theorem d_X9_bestFrom_40 : decode (cd mX9_bestFrom) 40 = .ok (.goto 4, 3) := by decide +kernel
theorem d_X9_bestFrom_43 : decode (cd mX9_bestFrom) 43 = .ok (.iconst 0, 1) := by decide +kernel
theorem d_X9_bestFrom_44 : decode (cd mX9_bestFrom) 44 = .ok (.istore 4, 2) := by decide +kernel
theorem d_X9_bestFrom_46 : decode (cd mX9_bestFrom) 46 = .ok (.iload 4, 2) := by decide +kernel
theorem d_X9_bestFrom_48 : decode (cd mX9_bestFrom) 48 = .ok (.ifCond .eq 8, 3) := by decide +kernel
theorem d_X9_bestFrom_51 : decode (cd mX9_bestFrom) 51 = .ok (.bipush (-9), 2) := by decide +kernel
theorem d_X9_bestFrom_53 : decode (cd mX9_bestFrom) 53 = .ok (.goto 5, 3) := by decide +kernel
theorem d_X9_bestFrom_56 : decode (cd mX9_bestFrom) 56 = .ok (.bipush 9, 2) := by decide +kernel
theorem d_X9_bestFrom_58 : decode (cd mX9_bestFrom) 58 = .ok (.istore 5, 2) := by decide +kernel
theorem d_X9_bestFrom_60 : decode (cd mX9_bestFrom) 60 = .ok (.iconst 0, 1) := by decide +kernel
theorem d_X9_bestFrom_61 : decode (cd mX9_bestFrom) 61 = .ok (.istore 6, 2) := by decide +kernel
theorem d_X9_bestFrom_63 : decode (cd mX9_bestFrom) 63 = .ok (.iload 6, 2) := by decide +kernel
theorem d_X9_bestFrom_65 : decode (cd mX9_bestFrom) 65 = .ok (.aload_n 1, 1) := by decide +kernel
theorem d_X9_bestFrom_66 : decode (cd mX9_bestFrom) 66 = .ok (.getfield 53, 3) := by decide +kernel
theorem d_X9_bestFrom_69 : decode (cd mX9_bestFrom) 69 = .ok (.getfield 59, 3) := by decide +kernel
theorem d_X9_bestFrom_72 : decode (cd mX9_bestFrom) 72 = .ok (.if_icmp .gt 52, 3) := by decide +kernel
theorem d_X9_bestFrom_75 : decode (cd mX9_bestFrom) 75 = .ok (.aload_n 0, 1) := by decide +kernel
theorem d_X9_bestFrom_76 : decode (cd mX9_bestFrom) 76 = .ok (.aload_n 1, 1) := by decide +kernel
theorem d_X9_bestFrom_77 : decode (cd mX9_bestFrom) 77 = .ok (.iload_n 2, 1) := by decide +kernel
theorem d_X9_bestFrom_78 : decode (cd mX9_bestFrom) 78 = .ok (.iload 6, 2) := by decide +kernel
theorem d_X9_bestFrom_80 : decode (cd mX9_bestFrom) 80 = .ok (.invokevirtual 78, 3) := by decide +kernel
theorem d_X9_bestFrom_83 : decode (cd mX9_bestFrom) 83 = .ok (.aload_n 0, 1) := by decide +kernel
theorem d_X9_bestFrom_84 : decode (cd mX9_bestFrom) 84 = .ok (.aload_n 1, 1) := by decide +kernel
theorem d_X9_bestFrom_85 : decode (cd mX9_bestFrom) 85 = .ok (.iload_n 2, 1) := by decide +kernel
theorem d_X9_bestFrom_86 : decode (cd mX9_bestFrom) 86 = .ok (.iconst 1, 1) := by decide +kernel
theorem d_X9_bestFrom_87 : decode (cd mX9_bestFrom) 87 = .ok (.iadd, 1) := by decide +kernel
theorem d_X9_bestFrom_88 : decode (cd mX9_bestFrom) 88 = .ok (.iload_n 3, 1) := by decide +kernel
theorem d_X9_bestFrom_89 : decode (cd mX9_bestFrom) 89 = .ok (.invokestatic 111, 3) := by decide +kernel
theorem d_X9_bestFrom_92 : decode (cd mX9_bestFrom) 92 = .ok (.istore 7, 2) := by decide +kernel
theorem d_X9_bestFrom_94 : decode (cd mX9_bestFrom) 94 = .ok (.iload 4, 2) := by decide +kernel
theorem d_X9_bestFrom_96 : decode (cd mX9_bestFrom) 96 = .ok (.ifCond .eq 13, 3) := by decide +kernel
theorem d_X9_bestFrom_99 : decode (cd mX9_bestFrom) 99 = .ok (.iload 5, 2) := by decide +kernel
theorem d_X9_bestFrom_101 : decode (cd mX9_bestFrom) 101 = .ok (.iload 7, 2) := by decide +kernel
theorem d_X9_bestFrom_103 : decode (cd mX9_bestFrom) 103 = .ok (.invokestatic 118, 3) := by decide +kernel
theorem d_X9_bestFrom_106 : decode (cd mX9_bestFrom) 106 = .ok (.goto 10, 3) := by decide +kernel
theorem d_X9_bestFrom_109 : decode (cd mX9_bestFrom) 109 = .ok (.iload 5, 2) := by decide +kernel
theorem d_X9_bestFrom_111 : decode (cd mX9_bestFrom) 111 = .ok (.iload 7, 2) := by decide +kernel
theorem d_X9_bestFrom_113 : decode (cd mX9_bestFrom) 113 = .ok (.invokestatic 123, 3) := by decide +kernel
theorem d_X9_bestFrom_116 : decode (cd mX9_bestFrom) 116 = .ok (.istore 5, 2) := by decide +kernel
theorem d_X9_bestFrom_118 : decode (cd mX9_bestFrom) 118 = .ok (.iinc 6 1, 3) := by decide +kernel
theorem d_X9_bestFrom_121 : decode (cd mX9_bestFrom) 121 = .ok (.goto (-58), 3) := by decide +kernel
theorem d_X9_bestFrom_124 : decode (cd mX9_bestFrom) 124 = .ok (.iload 5, 2) := by decide +kernel
theorem d_X9_bestFrom_126 : decode (cd mX9_bestFrom) 126 = .ok (.ireturn, 1) := by decide +kernel
theorem d_X9_firstOpened_0 : decode (cd mX9_firstOpened) 0 = .ok (.aload_n 0, 1) := by decide +kernel
theorem d_X9_firstOpened_1 : decode (cd mX9_firstOpened) 1 = .ok (.getfield 22, 3) := by decide +kernel
theorem d_X9_firstOpened_4 : decode (cd mX9_firstOpened) 4 = .ok (.iconst 0, 1) := by decide +kernel
theorem d_X9_firstOpened_5 : decode (cd mX9_firstOpened) 5 = .ok (.aaload, 1) := by decide +kernel
theorem d_X9_firstOpened_6 : decode (cd mX9_firstOpened) 6 = .ok (.aload_n 2, 1) := by decide +kernel
theorem d_X9_firstOpened_7 : decode (cd mX9_firstOpened) 7 = .ok (.invokevirtual 27, 3) := by decide +kernel
theorem d_X9_firstOpened_10 : decode (cd mX9_firstOpened) 10 = .ok (.bipush (-2), 2) := by decide +kernel
theorem d_X9_firstOpened_12 : decode (cd mX9_firstOpened) 12 = .ok (.istore 4, 2) := by decide +kernel
theorem d_X9_firstOpened_14 : decode (cd mX9_firstOpened) 14 = .ok (.bipush (-10), 2) := by decide +kernel
theorem d_X9_firstOpened_16 : decode (cd mX9_firstOpened) 16 = .ok (.istore 5, 2) := by decide +kernel
theorem d_X9_firstOpened_18 : decode (cd mX9_firstOpened) 18 = .ok (.iconst 0, 1) := by decide +kernel
theorem d_X9_firstOpened_19 : decode (cd mX9_firstOpened) 19 = .ok (.istore 6, 2) := by decide +kernel
theorem d_X9_firstOpened_21 : decode (cd mX9_firstOpened) 21 = .ok (.iload 6, 2) := by decide +kernel
theorem d_X9_firstOpened_23 : decode (cd mX9_firstOpened) 23 = .ok (.aload_n 1, 1) := by decide +kernel
theorem d_X9_firstOpened_24 : decode (cd mX9_firstOpened) 24 = .ok (.getfield 53, 3) := by decide +kernel
theorem d_X9_firstOpened_27 : decode (cd mX9_firstOpened) 27 = .ok (.getfield 59, 3) := by decide +kernel
theorem d_X9_firstOpened_30 : decode (cd mX9_firstOpened) 30 = .ok (.if_icmp .gt 53, 3) := by decide +kernel
theorem d_X9_firstOpened_33 : decode (cd mX9_firstOpened) 33 = .ok (.aload_n 0, 1) := by decide +kernel
theorem d_X9_firstOpened_34 : decode (cd mX9_firstOpened) 34 = .ok (.aload_n 1, 1) := by decide +kernel
theorem d_X9_firstOpened_35 : decode (cd mX9_firstOpened) 35 = .ok (.iconst 0, 1) := by decide +kernel
theorem d_X9_firstOpened_36 : decode (cd mX9_firstOpened) 36 = .ok (.iload 6, 2) := by decide +kernel
theorem d_X9_firstOpened_38 : decode (cd mX9_firstOpened) 38 = .ok (.invokevirtual 78, 3) := by decide +kernel
theorem d_X9_firstOpened_41 : decode (cd mX9_firstOpened) 41 = .ok (.aload_n 0, 1) := by decide +kernel
theorem d_X9_firstOpened_42 : decode (cd mX9_firstOpened) 42 = .ok (.aload_n 1, 1) := by decide +kernel
theorem d_X9_firstOpened_43 : decode (cd mX9_firstOpened) 43 = .ok (.iconst 1, 1) := by decide +kernel
theorem d_X9_firstOpened_44 : decode (cd mX9_firstOpened) 44 = .ok (.iload_n 3, 1) := by decide +kernel
theorem d_X9_firstOpened_45 : decode (cd mX9_firstOpened) 45 = .ok (.invokestatic 111, 3) := by decide +kernel
theorem d_X9_firstOpened_48 : decode (cd mX9_firstOpened) 48 = .ok (.istore 7, 2) := by decide +kernel
theorem d_X9_firstOpened_50 : decode (cd mX9_firstOpened) 50 = .ok (.iload 7, 2) := by decide +kernel
theorem d_X9_firstOpened_52 : decode (cd mX9_firstOpened) 52 = .ok (.iload 5, 2) := by decide +kernel
theorem d_X9_firstOpened_54 : decode (cd mX9_firstOpened) 54 = .ok (.if_icmp .le 23, 3) := by decide +kernel
theorem d_X9_firstOpened_57 : decode (cd mX9_firstOpened) 57 = .ok (.iload 7, 2) := by decide +kernel
theorem d_X9_firstOpened_59 : decode (cd mX9_firstOpened) 59 = .ok (.istore 5, 2) := by decide +kernel
theorem d_X9_firstOpened_61 : decode (cd mX9_firstOpened) 61 = .ok (.iload 6, 2) := by decide +kernel
theorem d_X9_firstOpened_63 : decode (cd mX9_firstOpened) 63 = .ok (.ifCond .ne 8, 3) := by decide +kernel
theorem d_X9_firstOpened_66 : decode (cd mX9_firstOpened) 66 = .ok (.bipush (-2), 2) := by decide +kernel
theorem d_X9_firstOpened_68 : decode (cd mX9_firstOpened) 68 = .ok (.goto 7, 3) := by decide +kernel
theorem d_X9_firstOpened_71 : decode (cd mX9_firstOpened) 71 = .ok (.iload 6, 2) := by decide +kernel
theorem d_X9_firstOpened_73 : decode (cd mX9_firstOpened) 73 = .ok (.iconst 1, 1) := by decide +kernel
theorem d_X9_firstOpened_74 : decode (cd mX9_firstOpened) 74 = .ok (.isub, 1) := by decide +kernel
theorem d_X9_firstOpened_75 : decode (cd mX9_firstOpened) 75 = .ok (.istore 4, 2) := by decide +kernel
theorem d_X9_firstOpened_77 : decode (cd mX9_firstOpened) 77 = .ok (.iinc 6 1, 3) := by decide +kernel
theorem d_X9_firstOpened_80 : decode (cd mX9_firstOpened) 80 = .ok (.goto (-59), 3) := by decide +kernel
theorem d_X9_firstOpened_83 : decode (cd mX9_firstOpened) 83 = .ok (.iload 4, 2) := by decide +kernel
theorem d_X9_firstOpened_85 : decode (cd mX9_firstOpened) 85 = .ok (.ireturn, 1) := by decide +kernel
