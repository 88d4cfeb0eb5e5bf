/-! decode rows (written by program) -/
theorem d_E_run_0 : decode b_E_run 0 = .ok (.iload_n 1, 1) := by decide +kernel
theorem d_E_run_1 : decode b_E_run 1 = .ok (.ifCond .eq (7), 3) := by decide +kernel
theorem d_E_run_4 : decode b_E_run 4 = .ok (.aload_n 0, 1) := by decide +kernel
theorem d_E_run_5 : decode b_E_run 5 = .ok (.invokevirtual 66, 3) := by decide +kernel
theorem d_E_run_8 : decode b_E_run 8 = .ok (.aload_n 0, 1) := by decide +kernel
theorem d_E_run_9 : decode b_E_run 9 = .ok (.getfield 30, 3) := by decide +kernel
theorem d_E_run_12 : decode b_E_run 12 = .ok (.aload_n 0, 1) := by decide +kernel
theorem d_E_run_13 : decode b_E_run 13 = .ok (.getfield 11, 3) := by decide +kernel
theorem d_E_run_16 : decode b_E_run 16 = .ok (.aload_n 0, 1) := by decide +kernel
theorem d_E_run_17 : decode b_E_run 17 = .ok (.getfield 23, 3) := by decide +kernel
theorem d_E_run_20 : decode b_E_run 20 = .ok (.iload_n 1, 1) := by decide +kernel
theorem d_E_run_21 : decode b_E_run 21 = .ok (.invokevirtual 69, 3) := by decide +kernel
theorem d_E_run_24 : decode b_E_run 24 = .ok (.ireturn, 1) := by decide +kernel
theorem d_E_settle_0 : decode b_E_settle 0 = .ok (.aload_n 0, 1) := by decide +kernel
theorem d_E_settle_1 : decode b_E_settle 1 = .ok (.getfield 34, 3) := by decide +kernel
theorem d_E_settle_4 : decode b_E_settle 4 = .ok (.ifCond .ne (4), 3) := by decide +kernel
theorem d_E_settle_7 : decode b_E_settle 7 = .ok (.return_, 1) := by decide +kernel
theorem d_E_settle_8 : decode b_E_settle 8 = .ok (.iconst 4, 1) := by decide +kernel
theorem d_E_settle_9 : decode b_E_settle 9 = .ok (.istore_n 1, 1) := by decide +kernel
theorem d_E_settle_10 : decode b_E_settle 10 = .ok (.iload_n 1, 1) := by decide +kernel
theorem d_E_settle_11 : decode b_E_settle 11 = .ok (.ifCond .lt (47), 3) := by decide +kernel
theorem d_E_settle_14 : decode b_E_settle 14 = .ok (.aload_n 0, 1) := by decide +kernel
theorem d_E_settle_15 : decode b_E_settle 15 = .ok (.getfield 17, 3) := by decide +kernel
theorem d_E_settle_18 : decode b_E_settle 18 = .ok (.iload_n 1, 1) := by decide +kernel
theorem d_E_settle_19 : decode b_E_settle 19 = .ok (.aaload, 1) := by decide +kernel
theorem d_E_settle_20 : decode b_E_settle 20 = .ok (.aload_n 0, 1) := by decide +kernel
theorem d_E_settle_21 : decode b_E_settle 21 = .ok (.getfield 11, 3) := by decide +kernel
theorem d_E_settle_24 : decode b_E_settle 24 = .ok (.aload_n 0, 1) := by decide +kernel
theorem d_E_settle_25 : decode b_E_settle 25 = .ok (.getfield 17, 3) := by decide +kernel
theorem d_E_settle_28 : decode b_E_settle 28 = .ok (.iload_n 1, 1) := by decide +kernel
theorem d_E_settle_29 : decode b_E_settle 29 = .ok (.invokevirtual 117, 3) := by decide +kernel
theorem d_E_settle_32 : decode b_E_settle 32 = .ok (.aload_n 0, 1) := by decide +kernel
theorem d_E_settle_33 : decode b_E_settle 33 = .ok (.getfield 23, 3) := by decide +kernel
theorem d_E_settle_36 : decode b_E_settle 36 = .ok (.iload_n 1, 1) := by decide +kernel
theorem d_E_settle_37 : decode b_E_settle 37 = .ok (.aaload, 1) := by decide +kernel
theorem d_E_settle_38 : decode b_E_settle 38 = .ok (.aload_n 0, 1) := by decide +kernel
theorem d_E_settle_39 : decode b_E_settle 39 = .ok (.getfield 11, 3) := by decide +kernel
theorem d_E_settle_42 : decode b_E_settle 42 = .ok (.aload_n 0, 1) := by decide +kernel
theorem d_E_settle_43 : decode b_E_settle 43 = .ok (.getfield 17, 3) := by decide +kernel
theorem d_E_settle_46 : decode b_E_settle 46 = .ok (.iload_n 1, 1) := by decide +kernel
theorem d_E_settle_47 : decode b_E_settle 47 = .ok (.aaload, 1) := by decide +kernel
theorem d_E_settle_48 : decode b_E_settle 48 = .ok (.iload_n 1, 1) := by decide +kernel
theorem d_E_settle_49 : decode b_E_settle 49 = .ok (.invokevirtual 121, 3) := by decide +kernel
theorem d_E_settle_52 : decode b_E_settle 52 = .ok (.iinc 1 (-1), 3) := by decide +kernel
theorem d_E_settle_55 : decode b_E_settle 55 = .ok (.goto (-45), 3) := by decide +kernel
theorem d_E_settle_58 : decode b_E_settle 58 = .ok (.aload_n 0, 1) := by decide +kernel
theorem d_E_settle_59 : decode b_E_settle 59 = .ok (.iconst 0, 1) := by decide +kernel
theorem d_E_settle_60 : decode b_E_settle 60 = .ok (.putfield 34, 3) := by decide +kernel
theorem d_E_settle_63 : decode b_E_settle 63 = .ok (.return_, 1) := by decide +kernel
theorem d_F_gather_0 : decode b_F_gather 0 = .ok (.aload_n 0, 1) := by decide +kernel
theorem d_F_gather_1 : decode b_F_gather 1 = .ok (.invokevirtual 41, 3) := by decide +kernel
theorem d_F_gather_4 : decode b_F_gather 4 = .ok (.aload_n 1, 1) := by decide +kernel
theorem d_F_gather_5 : decode b_F_gather 5 = .ok (.iload_n 3, 1) := by decide +kernel
theorem d_F_gather_6 : decode b_F_gather 6 = .ok (.aaload, 1) := by decide +kernel
theorem d_F_gather_7 : decode b_F_gather 7 = .ok (.astore 4, 2) := by decide +kernel
theorem d_F_gather_9 : decode b_F_gather 9 = .ok (.aload 4, 2) := by decide +kernel
theorem d_F_gather_11 : decode b_F_gather 11 = .ok (.getfield 44, 3) := by decide +kernel
theorem d_F_gather_14 : decode b_F_gather 14 = .ok (.ifCond .ne (4), 3) := by decide +kernel
theorem d_F_gather_17 : decode b_F_gather 17 = .ok (.return_, 1) := by decide +kernel
theorem d_F_gather_18 : decode b_F_gather 18 = .ok (.aload_n 0, 1) := by decide +kernel
theorem d_F_gather_19 : decode b_F_gather 19 = .ok (.aload 4, 2) := by decide +kernel
theorem d_F_gather_21 : decode b_F_gather 21 = .ok (.getfield 49, 3) := by decide +kernel
theorem d_F_gather_24 : decode b_F_gather 24 = .ok (.invokevirtual 52, 3) := by decide +kernel
theorem d_F_gather_27 : decode b_F_gather 27 = .ok (.aload_n 0, 1) := by decide +kernel
theorem d_F_gather_28 : decode b_F_gather 28 = .ok (.iconst 1, 1) := by decide +kernel
theorem d_F_gather_29 : decode b_F_gather 29 = .ok (.putfield 37, 3) := by decide +kernel
theorem d_F_gather_32 : decode b_F_gather 32 = .ok (.iconst 0, 1) := by decide +kernel
theorem d_F_gather_33 : decode b_F_gather 33 = .ok (.istore 5, 2) := by decide +kernel
theorem d_F_gather_35 : decode b_F_gather 35 = .ok (.iload 5, 2) := by decide +kernel
theorem d_F_gather_37 : decode b_F_gather 37 = .ok (.sipush (2000), 3) := by decide +kernel
theorem d_F_gather_40 : decode b_F_gather 40 = .ok (.if_icmp .ge (73), 3) := by decide +kernel
theorem d_F_gather_43 : decode b_F_gather 43 = .ok (.aload_n 0, 1) := by decide +kernel
theorem d_F_gather_44 : decode b_F_gather 44 = .ok (.getfield 37, 3) := by decide +kernel
theorem d_F_gather_47 : decode b_F_gather 47 = .ok (.ifCond .eq (66), 3) := by decide +kernel
theorem d_F_gather_50 : decode b_F_gather 50 = .ok (.aload_n 0, 1) := by decide +kernel
theorem d_F_gather_51 : decode b_F_gather 51 = .ok (.iconst 0, 1) := by decide +kernel
theorem d_F_gather_52 : decode b_F_gather 52 = .ok (.putfield 37, 3) := by decide +kernel
theorem d_F_gather_55 : decode b_F_gather 55 = .ok (.iconst 0, 1) := by decide +kernel
theorem d_F_gather_56 : decode b_F_gather 56 = .ok (.istore 6, 2) := by decide +kernel
theorem d_F_gather_58 : decode b_F_gather 58 = .ok (.iload 6, 2) := by decide +kernel
theorem d_F_gather_60 : decode b_F_gather 60 = .ok (.aload 4, 2) := by decide +kernel
theorem d_F_gather_62 : decode b_F_gather 62 = .ok (.getfield 44, 3) := by decide +kernel
theorem d_F_gather_65 : decode b_F_gather 65 = .ok (.if_icmp .ge (42), 3) := by decide +kernel
theorem d_F_gather_68 : decode b_F_gather 68 = .ok (.aload 4, 2) := by decide +kernel
theorem d_F_gather_70 : decode b_F_gather 70 = .ok (.getfield 56, 3) := by decide +kernel
theorem d_F_gather_73 : decode b_F_gather 73 = .ok (.iload 6, 2) := by decide +kernel
theorem d_F_gather_75 : decode b_F_gather 75 = .ok (.iaload, 1) := by decide +kernel
theorem d_F_gather_76 : decode b_F_gather 76 = .ok (.bipush (16), 2) := by decide +kernel
theorem d_F_gather_78 : decode b_F_gather 78 = .ok (.if_icmp .ne (15), 3) := by decide +kernel
theorem d_F_gather_81 : decode b_F_gather 81 = .ok (.aload_n 0, 1) := by decide +kernel
theorem d_F_gather_82 : decode b_F_gather 82 = .ok (.aload_n 1, 1) := by decide +kernel
theorem d_F_gather_83 : decode b_F_gather 83 = .ok (.aload_n 2, 1) := by decide +kernel
theorem d_F_gather_84 : decode b_F_gather 84 = .ok (.iload_n 3, 1) := by decide +kernel
theorem d_F_gather_85 : decode b_F_gather 85 = .ok (.iload 6, 2) := by decide +kernel
theorem d_F_gather_87 : decode b_F_gather 87 = .ok (.invokevirtual 59, 3) := by decide +kernel
theorem d_F_gather_90 : decode b_F_gather 90 = .ok (.goto (11), 3) := by decide +kernel
theorem d_F_gather_93 : decode b_F_gather 93 = .ok (.aload_n 0, 1) := by decide +kernel
theorem d_F_gather_94 : decode b_F_gather 94 = .ok (.aload 4, 2) := by decide +kernel
theorem d_F_gather_96 : decode b_F_gather 96 = .ok (.iload 6, 2) := by decide +kernel
theorem d_F_gather_98 : decode b_F_gather 98 = .ok (.invokevirtual 63, 3) := by decide +kernel
theorem d_F_gather_101 : decode b_F_gather 101 = .ok (.iinc 6 (1), 3) := by decide +kernel
theorem d_F_gather_104 : decode b_F_gather 104 = .ok (.goto (-46), 3) := by decide +kernel
theorem d_F_gather_107 : decode b_F_gather 107 = .ok (.iinc 5 (1), 3) := by decide +kernel
theorem d_F_gather_110 : decode b_F_gather 110 = .ok (.goto (-75), 3) := by decide +kernel
theorem d_F_gather_113 : decode b_F_gather 113 = .ok (.aload_n 0, 1) := by decide +kernel
theorem d_F_gather_114 : decode b_F_gather 114 = .ok (.aload 4, 2) := by decide +kernel
theorem d_F_gather_116 : decode b_F_gather 116 = .ok (.getfield 49, 3) := by decide +kernel
theorem d_F_gather_119 : decode b_F_gather 119 = .ok (.invokevirtual 67, 3) := by decide +kernel
theorem d_F_gather_122 : decode b_F_gather 122 = .ok (.return_, 1) := by decide +kernel
theorem d_F_forget_0 : decode b_F_forget 0 = .ok (.aload_n 0, 1) := by decide +kernel
theorem d_F_forget_1 : decode b_F_forget 1 = .ok (.getfield 9, 3) := by decide +kernel
theorem d_F_forget_4 : decode b_F_forget 4 = .ok (.iconst 0, 1) := by decide +kernel
theorem d_F_forget_5 : decode b_F_forget 5 = .ok (.invokestatic 70, 3) := by decide +kernel
theorem d_F_forget_8 : decode b_F_forget 8 = .ok (.aload_n 0, 1) := by decide +kernel
theorem d_F_forget_9 : decode b_F_forget 9 = .ok (.getfield 17, 3) := by decide +kernel
theorem d_F_forget_12 : decode b_F_forget 12 = .ok (.iconst 0, 1) := by decide +kernel
theorem d_F_forget_13 : decode b_F_forget 13 = .ok (.aaload, 1) := by decide +kernel
theorem d_F_forget_14 : decode b_F_forget 14 = .ok (.iconst 0, 1) := by decide +kernel
theorem d_F_forget_15 : decode b_F_forget 15 = .ok (.invokestatic 70, 3) := by decide +kernel
theorem d_F_forget_18 : decode b_F_forget 18 = .ok (.aload_n 0, 1) := by decide +kernel
theorem d_F_forget_19 : decode b_F_forget 19 = .ok (.getfield 17, 3) := by decide +kernel
theorem d_F_forget_22 : decode b_F_forget 22 = .ok (.iconst 1, 1) := by decide +kernel
theorem d_F_forget_23 : decode b_F_forget 23 = .ok (.aaload, 1) := by decide +kernel
theorem d_F_forget_24 : decode b_F_forget 24 = .ok (.iconst 0, 1) := by decide +kernel
theorem d_F_forget_25 : decode b_F_forget 25 = .ok (.invokestatic 70, 3) := by decide +kernel
theorem d_F_forget_28 : decode b_F_forget 28 = .ok (.aload_n 0, 1) := by decide +kernel
theorem d_F_forget_29 : decode b_F_forget 29 = .ok (.getfield 20, 3) := by decide +kernel
theorem d_F_forget_32 : decode b_F_forget 32 = .ok (.iconst 0, 1) := by decide +kernel
theorem d_F_forget_33 : decode b_F_forget 33 = .ok (.invokestatic 70, 3) := by decide +kernel
theorem d_F_forget_36 : decode b_F_forget 36 = .ok (.iconst 0, 1) := by decide +kernel
theorem d_F_forget_37 : decode b_F_forget 37 = .ok (.istore_n 1, 1) := by decide +kernel
theorem d_F_forget_38 : decode b_F_forget 38 = .ok (.iload_n 1, 1) := by decide +kernel
theorem d_F_forget_39 : decode b_F_forget 39 = .ok (.iconst 2, 1) := by decide +kernel
theorem d_F_forget_40 : decode b_F_forget 40 = .ok (.if_icmp .ge (16), 3) := by decide +kernel
theorem d_F_forget_43 : decode b_F_forget 43 = .ok (.aload_n 0, 1) := by decide +kernel
theorem d_F_forget_44 : decode b_F_forget 44 = .ok (.getfield 23, 3) := by decide +kernel
theorem d_F_forget_47 : decode b_F_forget 47 = .ok (.iload_n 1, 1) := by decide +kernel
theorem d_F_forget_48 : decode b_F_forget 48 = .ok (.iconst 0, 1) := by decide +kernel
theorem d_F_forget_49 : decode b_F_forget 49 = .ok (.bastore, 1) := by decide +kernel
theorem d_F_forget_50 : decode b_F_forget 50 = .ok (.iinc 1 (1), 3) := by decide +kernel
theorem d_F_forget_53 : decode b_F_forget 53 = .ok (.goto (-15), 3) := by decide +kernel
theorem d_F_forget_56 : decode b_F_forget 56 = .ok (.aload_n 0, 1) := by decide +kernel
theorem d_F_forget_57 : decode b_F_forget 57 = .ok (.iconst 0, 1) := by decide +kernel
theorem d_F_forget_58 : decode b_F_forget 58 = .ok (.putfield 27, 3) := by decide +kernel
theorem d_F_forget_61 : decode b_F_forget 61 = .ok (.aload_n 0, 1) := by decide +kernel
theorem d_F_forget_62 : decode b_F_forget 62 = .ok (.iconst 0, 1) := by decide +kernel
theorem d_F_forget_63 : decode b_F_forget 63 = .ok (.putfield 31, 3) := by decide +kernel
theorem d_F_forget_66 : decode b_F_forget 66 = .ok (.aload_n 0, 1) := by decide +kernel
theorem d_F_forget_67 : decode b_F_forget 67 = .ok (.iconst 0, 1) := by decide +kernel
theorem d_F_forget_68 : decode b_F_forget 68 = .ok (.putfield 34, 3) := by decide +kernel
theorem d_F_forget_71 : decode b_F_forget 71 = .ok (.return_, 1) := by decide +kernel
theorem d_A_fill_0 : decode b_A_fill 0 = .ok (.iconst 0, 1) := by decide +kernel
theorem d_A_fill_1 : decode b_A_fill 1 = .ok (.istore_n 2, 1) := by decide +kernel
theorem d_A_fill_2 : decode b_A_fill 2 = .ok (.aload_n 0, 1) := by decide +kernel
theorem d_A_fill_3 : decode b_A_fill 3 = .ok (.arraylength, 1) := by decide +kernel
theorem d_A_fill_4 : decode b_A_fill 4 = .ok (.istore_n 3, 1) := by decide +kernel
theorem d_A_fill_5 : decode b_A_fill 5 = .ok (.iload_n 2, 1) := by decide +kernel
theorem d_A_fill_6 : decode b_A_fill 6 = .ok (.iload_n 3, 1) := by decide +kernel
theorem d_A_fill_7 : decode b_A_fill 7 = .ok (.if_icmp .ge (13), 3) := by decide +kernel
theorem d_A_fill_10 : decode b_A_fill 10 = .ok (.aload_n 0, 1) := by decide +kernel
theorem d_A_fill_11 : decode b_A_fill 11 = .ok (.iload_n 2, 1) := by decide +kernel
theorem d_A_fill_12 : decode b_A_fill 12 = .ok (.iload_n 1, 1) := by decide +kernel
theorem d_A_fill_13 : decode b_A_fill 13 = .ok (.iastore, 1) := by decide +kernel
theorem d_A_fill_14 : decode b_A_fill 14 = .ok (.iinc 2 (1), 3) := by decide +kernel
theorem d_A_fill_17 : decode b_A_fill 17 = .ok (.goto (-12), 3) := by decide +kernel
theorem d_A_fill_20 : decode b_A_fill 20 = .ok (.return_, 1) := by decide +kernel
theorem d_F_begin_0 : decode b_F_begin 0 = .ok (.iconst 0, 1) := by decide +kernel
theorem d_F_begin_1 : decode b_F_begin 1 = .ok (.istore_n 2, 1) := by decide +kernel
theorem d_F_begin_2 : decode b_F_begin 2 = .ok (.iload_n 2, 1) := by decide +kernel
theorem d_F_begin_3 : decode b_F_begin 3 = .ok (.iload_n 1, 1) := by decide +kernel
theorem d_F_begin_4 : decode b_F_begin 4 = .ok (.if_icmp .ge (30), 3) := by decide +kernel
theorem d_F_begin_7 : decode b_F_begin 7 = .ok (.aload_n 0, 1) := by decide +kernel
theorem d_F_begin_8 : decode b_F_begin 8 = .ok (.iload_n 2, 1) := by decide +kernel
theorem d_F_begin_9 : decode b_F_begin 9 = .ok (.ldc 76, 2) := by decide +kernel
theorem d_F_begin_11 : decode b_F_begin 11 = .ok (.iload_n 2, 1) := by decide +kernel
theorem d_F_begin_12 : decode b_F_begin 12 = .ok (.ishl, 1) := by decide +kernel
theorem d_F_begin_13 : decode b_F_begin 13 = .ok (.invokevirtual 77, 3) := by decide +kernel
theorem d_F_begin_16 : decode b_F_begin 16 = .ok (.aload_n 0, 1) := by decide +kernel
theorem d_F_begin_17 : decode b_F_begin 17 = .ok (.ldc 76, 2) := by decide +kernel
theorem d_F_begin_19 : decode b_F_begin 19 = .ok (.iload_n 2, 1) := by decide +kernel
theorem d_F_begin_20 : decode b_F_begin 20 = .ok (.ishl, 1) := by decide +kernel
theorem d_F_begin_21 : decode b_F_begin 21 = .ok (.ldc 76, 2) := by decide +kernel
theorem d_F_begin_23 : decode b_F_begin 23 = .ok (.iload_n 2, 1) := by decide +kernel
theorem d_F_begin_24 : decode b_F_begin 24 = .ok (.ishl, 1) := by decide +kernel
theorem d_F_begin_25 : decode b_F_begin 25 = .ok (.invokevirtual 81, 3) := by decide +kernel
theorem d_F_begin_28 : decode b_F_begin 28 = .ok (.iinc 2 (1), 3) := by decide +kernel
theorem d_F_begin_31 : decode b_F_begin 31 = .ok (.goto (-29), 3) := by decide +kernel
theorem d_F_begin_34 : decode b_F_begin 34 = .ok (.aload_n 0, 1) := by decide +kernel
theorem d_F_begin_35 : decode b_F_begin 35 = .ok (.ldc 84, 2) := by decide +kernel
theorem d_F_begin_37 : decode b_F_begin 37 = .ok (.ldc 84, 2) := by decide +kernel
theorem d_F_begin_39 : decode b_F_begin 39 = .ok (.invokevirtual 81, 3) := by decide +kernel
theorem d_F_begin_42 : decode b_F_begin 42 = .ok (.return_, 1) := by decide +kernel
theorem d_F_refer_0 : decode b_F_refer 0 = .ok (.aload_n 0, 1) := by decide +kernel
theorem d_F_refer_1 : decode b_F_refer 1 = .ok (.getfield 9, 3) := by decide +kernel
theorem d_F_refer_4 : decode b_F_refer 4 = .ok (.iload_n 1, 1) := by decide +kernel
theorem d_F_refer_5 : decode b_F_refer 5 = .ok (.iaload, 1) := by decide +kernel
theorem d_F_refer_6 : decode b_F_refer 6 = .ok (.iload_n 2, 1) := by decide +kernel
theorem d_F_refer_7 : decode b_F_refer 7 = .ok (.ior, 1) := by decide +kernel
theorem d_F_refer_8 : decode b_F_refer 8 = .ok (.aload_n 0, 1) := by decide +kernel
theorem d_F_refer_9 : decode b_F_refer 9 = .ok (.getfield 9, 3) := by decide +kernel
theorem d_F_refer_12 : decode b_F_refer 12 = .ok (.iload_n 1, 1) := by decide +kernel
theorem d_F_refer_13 : decode b_F_refer 13 = .ok (.iaload, 1) := by decide +kernel
theorem d_F_refer_14 : decode b_F_refer 14 = .ok (.if_icmp .eq (18), 3) := by decide +kernel
theorem d_F_refer_17 : decode b_F_refer 17 = .ok (.aload_n 0, 1) := by decide +kernel
theorem d_F_refer_18 : decode b_F_refer 18 = .ok (.getfield 9, 3) := by decide +kernel
theorem d_F_refer_21 : decode b_F_refer 21 = .ok (.iload_n 1, 1) := by decide +kernel
theorem d_F_refer_22 : decode b_F_refer 22 = .ok (.dup2, 1) := by decide +kernel
theorem d_F_refer_23 : decode b_F_refer 23 = .ok (.iaload, 1) := by decide +kernel
theorem d_F_refer_24 : decode b_F_refer 24 = .ok (.iload_n 2, 1) := by decide +kernel
theorem d_F_refer_25 : decode b_F_refer 25 = .ok (.ior, 1) := by decide +kernel
theorem d_F_refer_26 : decode b_F_refer 26 = .ok (.iastore, 1) := by decide +kernel
theorem d_F_refer_27 : decode b_F_refer 27 = .ok (.aload_n 0, 1) := by decide +kernel
theorem d_F_refer_28 : decode b_F_refer 28 = .ok (.iconst 1, 1) := by decide +kernel
theorem d_F_refer_29 : decode b_F_refer 29 = .ok (.putfield 37, 3) := by decide +kernel
theorem d_F_refer_32 : decode b_F_refer 32 = .ok (.return_, 1) := by decide +kernel
theorem d_F_holdInBoth_0 : decode b_F_holdInBoth 0 = .ok (.aload_n 0, 1) := by decide +kernel
theorem d_F_holdInBoth_1 : decode b_F_holdInBoth 1 = .ok (.iconst 0, 1) := by decide +kernel
theorem d_F_holdInBoth_2 : decode b_F_holdInBoth 2 = .ok (.iload_n 1, 1) := by decide +kernel
theorem d_F_holdInBoth_3 : decode b_F_holdInBoth 3 = .ok (.iload_n 2, 1) := by decide +kernel
theorem d_F_holdInBoth_4 : decode b_F_holdInBoth 4 = .ok (.invokevirtual 110, 3) := by decide +kernel
theorem d_F_holdInBoth_7 : decode b_F_holdInBoth 7 = .ok (.aload_n 0, 1) := by decide +kernel
theorem d_F_holdInBoth_8 : decode b_F_holdInBoth 8 = .ok (.iconst 1, 1) := by decide +kernel
theorem d_F_holdInBoth_9 : decode b_F_holdInBoth 9 = .ok (.iload_n 1, 1) := by decide +kernel
theorem d_F_holdInBoth_10 : decode b_F_holdInBoth 10 = .ok (.iload_n 2, 1) := by decide +kernel
theorem d_F_holdInBoth_11 : decode b_F_holdInBoth 11 = .ok (.invokevirtual 110, 3) := by decide +kernel
theorem d_F_holdInBoth_14 : decode b_F_holdInBoth 14 = .ok (.return_, 1) := by decide +kernel
theorem d_F_holdIn_0 : decode b_F_holdIn 0 = .ok (.aload_n 0, 1) := by decide +kernel
theorem d_F_holdIn_1 : decode b_F_holdIn 1 = .ok (.getfield 17, 3) := by decide +kernel
theorem d_F_holdIn_4 : decode b_F_holdIn 4 = .ok (.iload_n 1, 1) := by decide +kernel
theorem d_F_holdIn_5 : decode b_F_holdIn 5 = .ok (.aaload, 1) := by decide +kernel
theorem d_F_holdIn_6 : decode b_F_holdIn 6 = .ok (.astore 4, 2) := by decide +kernel
theorem d_F_holdIn_8 : decode b_F_holdIn 8 = .ok (.iconst 0, 1) := by decide +kernel
theorem d_F_holdIn_9 : decode b_F_holdIn 9 = .ok (.istore 5, 2) := by decide +kernel
theorem d_F_holdIn_11 : decode b_F_holdIn 11 = .ok (.iload 5, 2) := by decide +kernel
theorem d_F_holdIn_13 : decode b_F_holdIn 13 = .ok (.bipush (27), 2) := by decide +kernel
theorem d_F_holdIn_15 : decode b_F_holdIn 15 = .ok (.if_icmp .ge (48), 3) := by decide +kernel
theorem d_F_holdIn_18 : decode b_F_holdIn 18 = .ok (.iload_n 2, 1) := by decide +kernel
theorem d_F_holdIn_19 : decode b_F_holdIn 19 = .ok (.iload 5, 2) := by decide +kernel
theorem d_F_holdIn_21 : decode b_F_holdIn 21 = .ok (.ishr, 1) := by decide +kernel
theorem d_F_holdIn_22 : decode b_F_holdIn 22 = .ok (.iconst 1, 1) := by decide +kernel
theorem d_F_holdIn_23 : decode b_F_holdIn 23 = .ok (.iand, 1) := by decide +kernel
theorem d_F_holdIn_24 : decode b_F_holdIn 24 = .ok (.iconst 1, 1) := by decide +kernel
theorem d_F_holdIn_25 : decode b_F_holdIn 25 = .ok (.if_icmp .ne (32), 3) := by decide +kernel
theorem d_F_holdIn_28 : decode b_F_holdIn 28 = .ok (.aload 4, 2) := by decide +kernel
theorem d_F_holdIn_30 : decode b_F_holdIn 30 = .ok (.iload 5, 2) := by decide +kernel
theorem d_F_holdIn_32 : decode b_F_holdIn 32 = .ok (.iaload, 1) := by decide +kernel
theorem d_F_holdIn_33 : decode b_F_holdIn 33 = .ok (.iload_n 3, 1) := by decide +kernel
theorem d_F_holdIn_34 : decode b_F_holdIn 34 = .ok (.ior, 1) := by decide +kernel
theorem d_F_holdIn_35 : decode b_F_holdIn 35 = .ok (.aload 4, 2) := by decide +kernel
theorem d_F_holdIn_37 : decode b_F_holdIn 37 = .ok (.iload 5, 2) := by decide +kernel
theorem d_F_holdIn_39 : decode b_F_holdIn 39 = .ok (.iaload, 1) := by decide +kernel
theorem d_F_holdIn_40 : decode b_F_holdIn 40 = .ok (.if_icmp .eq (17), 3) := by decide +kernel
theorem d_F_holdIn_43 : decode b_F_holdIn 43 = .ok (.aload 4, 2) := by decide +kernel
theorem d_F_holdIn_45 : decode b_F_holdIn 45 = .ok (.iload 5, 2) := by decide +kernel
theorem d_F_holdIn_47 : decode b_F_holdIn 47 = .ok (.dup2, 1) := by decide +kernel
theorem d_F_holdIn_48 : decode b_F_holdIn 48 = .ok (.iaload, 1) := by decide +kernel
theorem d_F_holdIn_49 : decode b_F_holdIn 49 = .ok (.iload_n 3, 1) := by decide +kernel
theorem d_F_holdIn_50 : decode b_F_holdIn 50 = .ok (.ior, 1) := by decide +kernel
theorem d_F_holdIn_51 : decode b_F_holdIn 51 = .ok (.iastore, 1) := by decide +kernel
theorem d_F_holdIn_52 : decode b_F_holdIn 52 = .ok (.aload_n 0, 1) := by decide +kernel
theorem d_F_holdIn_53 : decode b_F_holdIn 53 = .ok (.iconst 1, 1) := by decide +kernel
theorem d_F_holdIn_54 : decode b_F_holdIn 54 = .ok (.putfield 37, 3) := by decide +kernel
theorem d_F_holdIn_57 : decode b_F_holdIn 57 = .ok (.iinc 5 (1), 3) := by decide +kernel
theorem d_F_holdIn_60 : decode b_F_holdIn 60 = .ok (.goto (-49), 3) := by decide +kernel
theorem d_F_holdIn_63 : decode b_F_holdIn 63 = .ok (.return_, 1) := by decide +kernel
theorem d_F_applyCall_0 : decode b_F_applyCall 0 = .ok (.aload_n 1, 1) := by decide +kernel
theorem d_F_applyCall_1 : decode b_F_applyCall 1 = .ok (.iload_n 3, 1) := by decide +kernel
theorem d_F_applyCall_2 : decode b_F_applyCall 2 = .ok (.aaload, 1) := by decide +kernel
theorem d_F_applyCall_3 : decode b_F_applyCall 3 = .ok (.getfield 85, 3) := by decide +kernel
theorem d_F_applyCall_6 : decode b_F_applyCall 6 = .ok (.iload 4, 2) := by decide +kernel
theorem d_F_applyCall_8 : decode b_F_applyCall 8 = .ok (.iaload, 1) := by decide +kernel
theorem d_F_applyCall_9 : decode b_F_applyCall 9 = .ok (.istore 5, 2) := by decide +kernel
theorem d_F_applyCall_11 : decode b_F_applyCall 11 = .ok (.aload_n 1, 1) := by decide +kernel
theorem d_F_applyCall_12 : decode b_F_applyCall 12 = .ok (.iload_n 3, 1) := by decide +kernel
theorem d_F_applyCall_13 : decode b_F_applyCall 13 = .ok (.aaload, 1) := by decide +kernel
theorem d_F_applyCall_14 : decode b_F_applyCall 14 = .ok (.getfield 88, 3) := by decide +kernel
theorem d_F_applyCall_17 : decode b_F_applyCall 17 = .ok (.iload 4, 2) := by decide +kernel
theorem d_F_applyCall_19 : decode b_F_applyCall 19 = .ok (.iaload, 1) := by decide +kernel
theorem d_F_applyCall_20 : decode b_F_applyCall 20 = .ok (.istore 6, 2) := by decide +kernel
theorem d_F_applyCall_22 : decode b_F_applyCall 22 = .ok (.aload_n 1, 1) := by decide +kernel
theorem d_F_applyCall_23 : decode b_F_applyCall 23 = .ok (.iload_n 3, 1) := by decide +kernel
theorem d_F_applyCall_24 : decode b_F_applyCall 24 = .ok (.aaload, 1) := by decide +kernel
theorem d_F_applyCall_25 : decode b_F_applyCall 25 = .ok (.getfield 91, 3) := by decide +kernel
theorem d_F_applyCall_28 : decode b_F_applyCall 28 = .ok (.iload 4, 2) := by decide +kernel
theorem d_F_applyCall_30 : decode b_F_applyCall 30 = .ok (.iaload, 1) := by decide +kernel
theorem d_F_applyCall_31 : decode b_F_applyCall 31 = .ok (.istore 7, 2) := by decide +kernel
theorem d_F_applyCall_33 : decode b_F_applyCall 33 = .ok (.aload_n 1, 1) := by decide +kernel
theorem d_F_applyCall_34 : decode b_F_applyCall 34 = .ok (.iload_n 3, 1) := by decide +kernel
theorem d_F_applyCall_35 : decode b_F_applyCall 35 = .ok (.aaload, 1) := by decide +kernel
theorem d_F_applyCall_36 : decode b_F_applyCall 36 = .ok (.getfield 102, 3) := by decide +kernel
theorem d_F_applyCall_39 : decode b_F_applyCall 39 = .ok (.iload 4, 2) := by decide +kernel
theorem d_F_applyCall_41 : decode b_F_applyCall 41 = .ok (.iaload, 1) := by decide +kernel
theorem d_F_applyCall_42 : decode b_F_applyCall 42 = .ok (.istore 8, 2) := by decide +kernel
theorem d_F_applyCall_44 : decode b_F_applyCall 44 = .ok (.aload_n 1, 1) := by decide +kernel
theorem d_F_applyCall_45 : decode b_F_applyCall 45 = .ok (.iload 8, 2) := by decide +kernel
theorem d_F_applyCall_47 : decode b_F_applyCall 47 = .ok (.aaload, 1) := by decide +kernel
theorem d_F_applyCall_48 : decode b_F_applyCall 48 = .ok (.getfield 49, 3) := by decide +kernel
theorem d_F_applyCall_51 : decode b_F_applyCall 51 = .ok (.istore 9, 2) := by decide +kernel
theorem d_F_applyCall_53 : decode b_F_applyCall 53 = .ok (.iload 8, 2) := by decide +kernel
theorem d_F_applyCall_55 : decode b_F_applyCall 55 = .ok (.iload_n 3, 1) := by decide +kernel
theorem d_F_applyCall_56 : decode b_F_applyCall 56 = .ok (.if_icmp .le (13), 3) := by decide +kernel
theorem d_F_applyCall_59 : decode b_F_applyCall 59 = .ok (.aload_n 1, 1) := by decide +kernel
theorem d_F_applyCall_60 : decode b_F_applyCall 60 = .ok (.iload 8, 2) := by decide +kernel
theorem d_F_applyCall_62 : decode b_F_applyCall 62 = .ok (.aaload, 1) := by decide +kernel
theorem d_F_applyCall_63 : decode b_F_applyCall 63 = .ok (.getfield 44, 3) := by decide +kernel
theorem d_F_applyCall_66 : decode b_F_applyCall 66 = .ok (.ifCond .ne (7), 3) := by decide +kernel
theorem d_F_applyCall_69 : decode b_F_applyCall 69 = .ok (.iconst 1, 1) := by decide +kernel
theorem d_F_applyCall_70 : decode b_F_applyCall 70 = .ok (.goto (4), 3) := by decide +kernel
theorem d_F_applyCall_73 : decode b_F_applyCall 73 = .ok (.iconst 0, 1) := by decide +kernel
theorem d_F_applyCall_74 : decode b_F_applyCall 74 = .ok (.istore 10, 2) := by decide +kernel
theorem d_F_applyCall_76 : decode b_F_applyCall 76 = .ok (.aload_n 0, 1) := by decide +kernel
theorem d_F_applyCall_77 : decode b_F_applyCall 77 = .ok (.aload_n 0, 1) := by decide +kernel
theorem d_F_applyCall_78 : decode b_F_applyCall 78 = .ok (.ldc 84, 2) := by decide +kernel
theorem d_F_applyCall_80 : decode b_F_applyCall 80 = .ok (.invokevirtual 105, 3) := by decide +kernel
theorem d_F_applyCall_83 : decode b_F_applyCall 83 = .ok (.ldc 84, 2) := by decide +kernel
theorem d_F_applyCall_85 : decode b_F_applyCall 85 = .ok (.invokevirtual 81, 3) := by decide +kernel
theorem d_F_applyCall_88 : decode b_F_applyCall 88 = .ok (.aload_n 0, 1) := by decide +kernel
theorem d_F_applyCall_89 : decode b_F_applyCall 89 = .ok (.iload 5, 2) := by decide +kernel
theorem d_F_applyCall_91 : decode b_F_applyCall 91 = .ok (.aload_n 0, 1) := by decide +kernel
theorem d_F_applyCall_92 : decode b_F_applyCall 92 = .ok (.getfield 17, 3) := by decide +kernel
theorem d_F_applyCall_95 : decode b_F_applyCall 95 = .ok (.iconst 0, 1) := by decide +kernel
theorem d_F_applyCall_96 : decode b_F_applyCall 96 = .ok (.aaload, 1) := by decide +kernel
theorem d_F_applyCall_97 : decode b_F_applyCall 97 = .ok (.bipush (26), 2) := by decide +kernel
theorem d_F_applyCall_99 : decode b_F_applyCall 99 = .ok (.iaload, 1) := by decide +kernel
theorem d_F_applyCall_100 : decode b_F_applyCall 100 = .ok (.invokevirtual 77, 3) := by decide +kernel
theorem d_F_applyCall_103 : decode b_F_applyCall 103 = .ok (.iconst 0, 1) := by decide +kernel
theorem d_F_applyCall_104 : decode b_F_applyCall 104 = .ok (.istore 11, 2) := by decide +kernel
theorem d_F_applyCall_106 : decode b_F_applyCall 106 = .ok (.iload 11, 2) := by decide +kernel
theorem d_F_applyCall_108 : decode b_F_applyCall 108 = .ok (.iload 9, 2) := by decide +kernel
theorem d_F_applyCall_110 : decode b_F_applyCall 110 = .ok (.if_icmp .ge (175), 3) := by decide +kernel
theorem d_F_applyCall_113 : decode b_F_applyCall 113 = .ok (.iload 10, 2) := by decide +kernel
theorem d_F_applyCall_115 : decode b_F_applyCall 115 = .ok (.ifCond .eq (7), 3) := by decide +kernel
theorem d_F_applyCall_118 : decode b_F_applyCall 118 = .ok (.iconst 2, 1) := by decide +kernel
theorem d_F_applyCall_119 : decode b_F_applyCall 119 = .ok (.goto (13), 3) := by decide +kernel
theorem d_F_applyCall_122 : decode b_F_applyCall 122 = .ok (.aload_n 2, 1) := by decide +kernel
theorem d_F_applyCall_123 : decode b_F_applyCall 123 = .ok (.iload 8, 2) := by decide +kernel
theorem d_F_applyCall_125 : decode b_F_applyCall 125 = .ok (.aaload, 1) := by decide +kernel
theorem d_F_applyCall_126 : decode b_F_applyCall 126 = .ok (.getfield 20, 3) := by decide +kernel
theorem d_F_applyCall_129 : decode b_F_applyCall 129 = .ok (.iload 11, 2) := by decide +kernel
theorem d_F_applyCall_131 : decode b_F_applyCall 131 = .ok (.iaload, 1) := by decide +kernel
theorem d_F_applyCall_132 : decode b_F_applyCall 132 = .ok (.istore 12, 2) := by decide +kernel
theorem d_F_applyCall_134 : decode b_F_applyCall 134 = .ok (.aload_n 0, 1) := by decide +kernel
theorem d_F_applyCall_135 : decode b_F_applyCall 135 = .ok (.getfield 9, 3) := by decide +kernel
theorem d_F_applyCall_138 : decode b_F_applyCall 138 = .ok (.iload 11, 2) := by decide +kernel
theorem d_F_applyCall_140 : decode b_F_applyCall 140 = .ok (.ifCond .ne (8), 3) := by decide +kernel
theorem d_F_applyCall_143 : decode b_F_applyCall 143 = .ok (.iload 6, 2) := by decide +kernel
theorem d_F_applyCall_145 : decode b_F_applyCall 145 = .ok (.goto (5), 3) := by decide +kernel
theorem d_F_applyCall_148 : decode b_F_applyCall 148 = .ok (.iload 7, 2) := by decide +kernel
theorem d_F_applyCall_150 : decode b_F_applyCall 150 = .ok (.iaload, 1) := by decide +kernel
theorem d_F_applyCall_151 : decode b_F_applyCall 151 = .ok (.istore 13, 2) := by decide +kernel
theorem d_F_applyCall_153 : decode b_F_applyCall 153 = .ok (.aload_n 0, 1) := by decide +kernel
theorem d_F_applyCall_154 : decode b_F_applyCall 154 = .ok (.iload 13, 2) := by decide +kernel
theorem d_F_applyCall_156 : decode b_F_applyCall 156 = .ok (.invokevirtual 105, 3) := by decide +kernel
theorem d_F_applyCall_159 : decode b_F_applyCall 159 = .ok (.istore 14, 2) := by decide +kernel
theorem d_F_applyCall_161 : decode b_F_applyCall 161 = .ok (.iload 12, 2) := by decide +kernel
theorem d_F_applyCall_163 : decode b_F_applyCall 163 = .ok (.iconst 2, 1) := by decide +kernel
theorem d_F_applyCall_164 : decode b_F_applyCall 164 = .ok (.if_icmp .eq (16), 3) := by decide +kernel
theorem d_F_applyCall_167 : decode b_F_applyCall 167 = .ok (.aload_n 2, 1) := by decide +kernel
theorem d_F_applyCall_168 : decode b_F_applyCall 168 = .ok (.iload 8, 2) := by decide +kernel
theorem d_F_applyCall_170 : decode b_F_applyCall 170 = .ok (.aaload, 1) := by decide +kernel
theorem d_F_applyCall_171 : decode b_F_applyCall 171 = .ok (.getfield 23, 3) := by decide +kernel
theorem d_F_applyCall_174 : decode b_F_applyCall 174 = .ok (.iload 11, 2) := by decide +kernel
theorem d_F_applyCall_176 : decode b_F_applyCall 176 = .ok (.baload, 1) := by decide +kernel
theorem d_F_applyCall_177 : decode b_F_applyCall 177 = .ok (.ifCond .eq (7), 3) := by decide +kernel
theorem d_F_applyCall_180 : decode b_F_applyCall 180 = .ok (.iconst 1, 1) := by decide +kernel
theorem d_F_applyCall_181 : decode b_F_applyCall 181 = .ok (.goto (4), 3) := by decide +kernel
theorem d_F_applyCall_184 : decode b_F_applyCall 184 = .ok (.iconst 0, 1) := by decide +kernel
theorem d_F_applyCall_185 : decode b_F_applyCall 185 = .ok (.istore 15, 2) := by decide +kernel
theorem d_F_applyCall_187 : decode b_F_applyCall 187 = .ok (.aload_n 0, 1) := by decide +kernel
theorem d_F_applyCall_188 : decode b_F_applyCall 188 = .ok (.iload 14, 2) := by decide +kernel
theorem d_F_applyCall_190 : decode b_F_applyCall 190 = .ok (.iload 15, 2) := by decide +kernel
theorem d_F_applyCall_192 : decode b_F_applyCall 192 = .ok (.ifCond .eq (11), 3) := by decide +kernel
theorem d_F_applyCall_195 : decode b_F_applyCall 195 = .ok (.iload 14, 2) := by decide +kernel
theorem d_F_applyCall_197 : decode b_F_applyCall 197 = .ok (.ldc 84, 2) := by decide +kernel
theorem d_F_applyCall_199 : decode b_F_applyCall 199 = .ok (.ior, 1) := by decide +kernel
theorem d_F_applyCall_200 : decode b_F_applyCall 200 = .ok (.goto (5), 3) := by decide +kernel
theorem d_F_applyCall_203 : decode b_F_applyCall 203 = .ok (.iload 14, 2) := by decide +kernel
theorem d_F_applyCall_205 : decode b_F_applyCall 205 = .ok (.invokevirtual 81, 3) := by decide +kernel
theorem d_F_applyCall_208 : decode b_F_applyCall 208 = .ok (.iload 12, 2) := by decide +kernel
theorem d_F_applyCall_210 : decode b_F_applyCall 210 = .ok (.iconst 2, 1) := by decide +kernel
theorem d_F_applyCall_211 : decode b_F_applyCall 211 = .ok (.if_icmp .ne (14), 3) := by decide +kernel
theorem d_F_applyCall_214 : decode b_F_applyCall 214 = .ok (.aload_n 0, 1) := by decide +kernel
theorem d_F_applyCall_215 : decode b_F_applyCall 215 = .ok (.ldc 84, 2) := by decide +kernel
theorem d_F_applyCall_217 : decode b_F_applyCall 217 = .ok (.iload 13, 2) := by decide +kernel
theorem d_F_applyCall_219 : decode b_F_applyCall 219 = .ok (.invokevirtual 81, 3) := by decide +kernel
theorem d_F_applyCall_222 : decode b_F_applyCall 222 = .ok (.goto (57), 3) := by decide +kernel
theorem d_F_applyCall_225 : decode b_F_applyCall 225 = .ok (.iload 12, 2) := by decide +kernel
theorem d_F_applyCall_227 : decode b_F_applyCall 227 = .ok (.iconst 1, 1) := by decide +kernel
theorem d_F_applyCall_228 : decode b_F_applyCall 228 = .ok (.if_icmp .ne (51), 3) := by decide +kernel
theorem d_F_applyCall_231 : decode b_F_applyCall 231 = .ok (.aload_n 0, 1) := by decide +kernel
theorem d_F_applyCall_232 : decode b_F_applyCall 232 = .ok (.iload 9, 2) := by decide +kernel
theorem d_F_applyCall_234 : decode b_F_applyCall 234 = .ok (.iconst 2, 1) := by decide +kernel
theorem d_F_applyCall_235 : decode b_F_applyCall 235 = .ok (.if_icmp .ne (21), 3) := by decide +kernel
theorem d_F_applyCall_238 : decode b_F_applyCall 238 = .ok (.aload_n 0, 1) := by decide +kernel
theorem d_F_applyCall_239 : decode b_F_applyCall 239 = .ok (.getfield 9, 3) := by decide +kernel
theorem d_F_applyCall_242 : decode b_F_applyCall 242 = .ok (.iload 6, 2) := by decide +kernel
theorem d_F_applyCall_244 : decode b_F_applyCall 244 = .ok (.iaload, 1) := by decide +kernel
theorem d_F_applyCall_245 : decode b_F_applyCall 245 = .ok (.aload_n 0, 1) := by decide +kernel
theorem d_F_applyCall_246 : decode b_F_applyCall 246 = .ok (.getfield 9, 3) := by decide +kernel
theorem d_F_applyCall_249 : decode b_F_applyCall 249 = .ok (.iload 7, 2) := by decide +kernel
theorem d_F_applyCall_251 : decode b_F_applyCall 251 = .ok (.iaload, 1) := by decide +kernel
theorem d_F_applyCall_252 : decode b_F_applyCall 252 = .ok (.ior, 1) := by decide +kernel
theorem d_F_applyCall_253 : decode b_F_applyCall 253 = .ok (.goto (5), 3) := by decide +kernel
theorem d_F_applyCall_256 : decode b_F_applyCall 256 = .ok (.iload 13, 2) := by decide +kernel
theorem d_F_applyCall_258 : decode b_F_applyCall 258 = .ok (.invokevirtual 105, 3) := by decide +kernel
theorem d_F_applyCall_261 : decode b_F_applyCall 261 = .ok (.istore 16, 2) := by decide +kernel
theorem d_F_applyCall_263 : decode b_F_applyCall 263 = .ok (.aload_n 0, 1) := by decide +kernel
theorem d_F_applyCall_264 : decode b_F_applyCall 264 = .ok (.iload 16, 2) := by decide +kernel
theorem d_F_applyCall_266 : decode b_F_applyCall 266 = .ok (.iload 16, 2) := by decide +kernel
theorem d_F_applyCall_268 : decode b_F_applyCall 268 = .ok (.invokevirtual 81, 3) := by decide +kernel
theorem d_F_applyCall_271 : decode b_F_applyCall 271 = .ok (.aload_n 0, 1) := by decide +kernel
theorem d_F_applyCall_272 : decode b_F_applyCall 272 = .ok (.iload 5, 2) := by decide +kernel
theorem d_F_applyCall_274 : decode b_F_applyCall 274 = .ok (.iload 16, 2) := by decide +kernel
theorem d_F_applyCall_276 : decode b_F_applyCall 276 = .ok (.invokevirtual 77, 3) := by decide +kernel
theorem d_F_applyCall_279 : decode b_F_applyCall 279 = .ok (.iinc 11 (1), 3) := by decide +kernel
theorem d_F_applyCall_282 : decode b_F_applyCall 282 = .ok (.goto (-176), 3) := by decide +kernel
theorem d_F_applyCall_285 : decode b_F_applyCall 285 = .ok (.return_, 1) := by decide +kernel
theorem d_F_reached_0 : decode b_F_reached 0 = .ok (.iload_n 1, 1) := by decide +kernel
theorem d_F_reached_1 : decode b_F_reached 1 = .ok (.istore_n 2, 1) := by decide +kernel
theorem d_F_reached_2 : decode b_F_reached 2 = .ok (.iconst 0, 1) := by decide +kernel
theorem d_F_reached_3 : decode b_F_reached 3 = .ok (.istore_n 3, 1) := by decide +kernel
theorem d_F_reached_4 : decode b_F_reached 4 = .ok (.iload_n 3, 1) := by decide +kernel
theorem d_F_reached_5 : decode b_F_reached 5 = .ok (.bipush (27), 2) := by decide +kernel
theorem d_F_reached_7 : decode b_F_reached 7 = .ok (.if_icmp .ge (38), 3) := by decide +kernel
theorem d_F_reached_10 : decode b_F_reached 10 = .ok (.iload_n 2, 1) := by decide +kernel
theorem d_F_reached_11 : decode b_F_reached 11 = .ok (.aload_n 0, 1) := by decide +kernel
theorem d_F_reached_12 : decode b_F_reached 12 = .ok (.iload_n 2, 1) := by decide +kernel
theorem d_F_reached_13 : decode b_F_reached 13 = .ok (.iconst 0, 1) := by decide +kernel
theorem d_F_reached_14 : decode b_F_reached 14 = .ok (.invokevirtual 94, 3) := by decide +kernel
theorem d_F_reached_17 : decode b_F_reached 17 = .ok (.ior, 1) := by decide +kernel
theorem d_F_reached_18 : decode b_F_reached 18 = .ok (.aload_n 0, 1) := by decide +kernel
theorem d_F_reached_19 : decode b_F_reached 19 = .ok (.iload_n 2, 1) := by decide +kernel
theorem d_F_reached_20 : decode b_F_reached 20 = .ok (.iconst 1, 1) := by decide +kernel
theorem d_F_reached_21 : decode b_F_reached 21 = .ok (.invokevirtual 94, 3) := by decide +kernel
theorem d_F_reached_24 : decode b_F_reached 24 = .ok (.ior, 1) := by decide +kernel
theorem d_F_reached_25 : decode b_F_reached 25 = .ok (.istore 4, 2) := by decide +kernel
theorem d_F_reached_27 : decode b_F_reached 27 = .ok (.iload 4, 2) := by decide +kernel
theorem d_F_reached_29 : decode b_F_reached 29 = .ok (.iload_n 2, 1) := by decide +kernel
theorem d_F_reached_30 : decode b_F_reached 30 = .ok (.if_icmp .ne (6), 3) := by decide +kernel
theorem d_F_reached_33 : decode b_F_reached 33 = .ok (.goto (12), 3) := by decide +kernel
theorem d_F_reached_36 : decode b_F_reached 36 = .ok (.iload 4, 2) := by decide +kernel
theorem d_F_reached_38 : decode b_F_reached 38 = .ok (.istore_n 2, 1) := by decide +kernel
theorem d_F_reached_39 : decode b_F_reached 39 = .ok (.iinc 3 (1), 3) := by decide +kernel
theorem d_F_reached_42 : decode b_F_reached 42 = .ok (.goto (-38), 3) := by decide +kernel
theorem d_F_reached_45 : decode b_F_reached 45 = .ok (.iload_n 2, 1) := by decide +kernel
theorem d_F_reached_46 : decode b_F_reached 46 = .ok (.ireturn, 1) := by decide +kernel
theorem d_F_heldBy_0 : decode b_F_heldBy 0 = .ok (.aload_n 0, 1) := by decide +kernel
theorem d_F_heldBy_1 : decode b_F_heldBy 1 = .ok (.getfield 17, 3) := by decide +kernel
theorem d_F_heldBy_4 : decode b_F_heldBy 4 = .ok (.iload_n 2, 1) := by decide +kernel
theorem d_F_heldBy_5 : decode b_F_heldBy 5 = .ok (.aaload, 1) := by decide +kernel
theorem d_F_heldBy_6 : decode b_F_heldBy 6 = .ok (.astore_n 3, 1) := by decide +kernel
theorem d_F_heldBy_7 : decode b_F_heldBy 7 = .ok (.iconst 0, 1) := by decide +kernel
theorem d_F_heldBy_8 : decode b_F_heldBy 8 = .ok (.istore 4, 2) := by decide +kernel
theorem d_F_heldBy_10 : decode b_F_heldBy 10 = .ok (.iconst 0, 1) := by decide +kernel
theorem d_F_heldBy_11 : decode b_F_heldBy 11 = .ok (.istore 5, 2) := by decide +kernel
theorem d_F_heldBy_13 : decode b_F_heldBy 13 = .ok (.iload 5, 2) := by decide +kernel
theorem d_F_heldBy_15 : decode b_F_heldBy 15 = .ok (.bipush (27), 2) := by decide +kernel
theorem d_F_heldBy_17 : decode b_F_heldBy 17 = .ok (.if_icmp .ge (28), 3) := by decide +kernel
theorem d_F_heldBy_20 : decode b_F_heldBy 20 = .ok (.iload_n 1, 1) := by decide +kernel
theorem d_F_heldBy_21 : decode b_F_heldBy 21 = .ok (.iload 5, 2) := by decide +kernel
theorem d_F_heldBy_23 : decode b_F_heldBy 23 = .ok (.ishr, 1) := by decide +kernel
theorem d_F_heldBy_24 : decode b_F_heldBy 24 = .ok (.iconst 1, 1) := by decide +kernel
theorem d_F_heldBy_25 : decode b_F_heldBy 25 = .ok (.iand, 1) := by decide +kernel
theorem d_F_heldBy_26 : decode b_F_heldBy 26 = .ok (.iconst 1, 1) := by decide +kernel
theorem d_F_heldBy_27 : decode b_F_heldBy 27 = .ok (.if_icmp .ne (12), 3) := by decide +kernel
theorem d_F_heldBy_30 : decode b_F_heldBy 30 = .ok (.iload 4, 2) := by decide +kernel
theorem d_F_heldBy_32 : decode b_F_heldBy 32 = .ok (.aload_n 3, 1) := by decide +kernel
theorem d_F_heldBy_33 : decode b_F_heldBy 33 = .ok (.iload 5, 2) := by decide +kernel
theorem d_F_heldBy_35 : decode b_F_heldBy 35 = .ok (.iaload, 1) := by decide +kernel
theorem d_F_heldBy_36 : decode b_F_heldBy 36 = .ok (.ior, 1) := by decide +kernel
theorem d_F_heldBy_37 : decode b_F_heldBy 37 = .ok (.istore 4, 2) := by decide +kernel
theorem d_F_heldBy_39 : decode b_F_heldBy 39 = .ok (.iinc 5 (1), 3) := by decide +kernel
theorem d_F_heldBy_42 : decode b_F_heldBy 42 = .ok (.goto (-29), 3) := by decide +kernel
theorem d_F_heldBy_45 : decode b_F_heldBy 45 = .ok (.iload 4, 2) := by decide +kernel
theorem d_F_heldBy_47 : decode b_F_heldBy 47 = .ok (.ireturn, 1) := by decide +kernel
theorem d_F_apply_0 : decode b_F_apply 0 = .ok (.aload_n 1, 1) := by decide +kernel
theorem d_F_apply_1 : decode b_F_apply 1 = .ok (.getfield 85, 3) := by decide +kernel
theorem d_F_apply_4 : decode b_F_apply 4 = .ok (.iload_n 2, 1) := by decide +kernel
theorem d_F_apply_5 : decode b_F_apply 5 = .ok (.iaload, 1) := by decide +kernel
theorem d_F_apply_6 : decode b_F_apply 6 = .ok (.istore_n 3, 1) := by decide +kernel
theorem d_F_apply_7 : decode b_F_apply 7 = .ok (.aload_n 1, 1) := by decide +kernel
theorem d_F_apply_8 : decode b_F_apply 8 = .ok (.getfield 88, 3) := by decide +kernel
theorem d_F_apply_11 : decode b_F_apply 11 = .ok (.iload_n 2, 1) := by decide +kernel
theorem d_F_apply_12 : decode b_F_apply 12 = .ok (.iaload, 1) := by decide +kernel
theorem d_F_apply_13 : decode b_F_apply 13 = .ok (.istore 4, 2) := by decide +kernel
theorem d_F_apply_15 : decode b_F_apply 15 = .ok (.aload_n 1, 1) := by decide +kernel
theorem d_F_apply_16 : decode b_F_apply 16 = .ok (.getfield 91, 3) := by decide +kernel
theorem d_F_apply_19 : decode b_F_apply 19 = .ok (.iload_n 2, 1) := by decide +kernel
theorem d_F_apply_20 : decode b_F_apply 20 = .ok (.iaload, 1) := by decide +kernel
theorem d_F_apply_21 : decode b_F_apply 21 = .ok (.istore 5, 2) := by decide +kernel
theorem d_F_apply_23 : decode b_F_apply 23 = .ok (.aload_n 1, 1) := by decide +kernel
theorem d_F_apply_24 : decode b_F_apply 24 = .ok (.getfield 56, 3) := by decide +kernel
theorem d_F_apply_27 : decode b_F_apply 27 = .ok (.iload_n 2, 1) := by decide +kernel
theorem d_F_apply_28 : decode b_F_apply 28 = .ok (.iaload, 1) := by decide +kernel
theorem d_F_apply_29 : decode b_F_apply 29 = .ok (.tableswitch (206) (0) (17) #[87, 98, 206, 113, 134, 206, 206, 206, 206, 206, 206, 206, 156, 171, 206, 206, 206, 188], 87) := by decide +kernel
theorem d_F_apply_116 : decode b_F_apply 116 = .ok (.aload_n 0, 1) := by decide +kernel
theorem d_F_apply_117 : decode b_F_apply 117 = .ok (.iload_n 3, 1) := by decide +kernel
theorem d_F_apply_118 : decode b_F_apply 118 = .ok (.iconst 1, 1) := by decide +kernel
theorem d_F_apply_119 : decode b_F_apply 119 = .ok (.iload_n 2, 1) := by decide +kernel
theorem d_F_apply_120 : decode b_F_apply 120 = .ok (.ishl, 1) := by decide +kernel
theorem d_F_apply_121 : decode b_F_apply 121 = .ok (.invokevirtual 77, 3) := by decide +kernel
theorem d_F_apply_124 : decode b_F_apply 124 = .ok (.goto (111), 3) := by decide +kernel
theorem d_F_apply_127 : decode b_F_apply 127 = .ok (.aload_n 0, 1) := by decide +kernel
theorem d_F_apply_128 : decode b_F_apply 128 = .ok (.iload_n 3, 1) := by decide +kernel
theorem d_F_apply_129 : decode b_F_apply 129 = .ok (.aload_n 0, 1) := by decide +kernel
theorem d_F_apply_130 : decode b_F_apply 130 = .ok (.getfield 9, 3) := by decide +kernel
theorem d_F_apply_133 : decode b_F_apply 133 = .ok (.iload 4, 2) := by decide +kernel
theorem d_F_apply_135 : decode b_F_apply 135 = .ok (.iaload, 1) := by decide +kernel
theorem d_F_apply_136 : decode b_F_apply 136 = .ok (.invokevirtual 77, 3) := by decide +kernel
theorem d_F_apply_139 : decode b_F_apply 139 = .ok (.goto (96), 3) := by decide +kernel
theorem d_F_apply_142 : decode b_F_apply 142 = .ok (.aload_n 0, 1) := by decide +kernel
theorem d_F_apply_143 : decode b_F_apply 143 = .ok (.iload_n 3, 1) := by decide +kernel
theorem d_F_apply_144 : decode b_F_apply 144 = .ok (.aload_n 0, 1) := by decide +kernel
theorem d_F_apply_145 : decode b_F_apply 145 = .ok (.aload_n 0, 1) := by decide +kernel
theorem d_F_apply_146 : decode b_F_apply 146 = .ok (.getfield 9, 3) := by decide +kernel
theorem d_F_apply_149 : decode b_F_apply 149 = .ok (.iload 4, 2) := by decide +kernel
theorem d_F_apply_151 : decode b_F_apply 151 = .ok (.iaload, 1) := by decide +kernel
theorem d_F_apply_152 : decode b_F_apply 152 = .ok (.iload 5, 2) := by decide +kernel
theorem d_F_apply_154 : decode b_F_apply 154 = .ok (.invokevirtual 94, 3) := by decide +kernel
theorem d_F_apply_157 : decode b_F_apply 157 = .ok (.invokevirtual 77, 3) := by decide +kernel
theorem d_F_apply_160 : decode b_F_apply 160 = .ok (.goto (75), 3) := by decide +kernel
theorem d_F_apply_163 : decode b_F_apply 163 = .ok (.aload_n 0, 1) := by decide +kernel
theorem d_F_apply_164 : decode b_F_apply 164 = .ok (.aload_n 0, 1) := by decide +kernel
theorem d_F_apply_165 : decode b_F_apply 165 = .ok (.getfield 9, 3) := by decide +kernel
theorem d_F_apply_168 : decode b_F_apply 168 = .ok (.iload_n 3, 1) := by decide +kernel
theorem d_F_apply_169 : decode b_F_apply 169 = .ok (.iaload, 1) := by decide +kernel
theorem d_F_apply_170 : decode b_F_apply 170 = .ok (.iload 5, 2) := by decide +kernel
theorem d_F_apply_172 : decode b_F_apply 172 = .ok (.aload_n 0, 1) := by decide +kernel
theorem d_F_apply_173 : decode b_F_apply 173 = .ok (.getfield 9, 3) := by decide +kernel
theorem d_F_apply_176 : decode b_F_apply 176 = .ok (.iload 4, 2) := by decide +kernel
theorem d_F_apply_178 : decode b_F_apply 178 = .ok (.iaload, 1) := by decide +kernel
theorem d_F_apply_179 : decode b_F_apply 179 = .ok (.invokevirtual 98, 3) := by decide +kernel
theorem d_F_apply_182 : decode b_F_apply 182 = .ok (.goto (53), 3) := by decide +kernel
theorem d_F_apply_185 : decode b_F_apply 185 = .ok (.aload_n 0, 1) := by decide +kernel
theorem d_F_apply_186 : decode b_F_apply 186 = .ok (.ldc 84, 2) := by decide +kernel
theorem d_F_apply_188 : decode b_F_apply 188 = .ok (.aload_n 0, 1) := by decide +kernel
theorem d_F_apply_189 : decode b_F_apply 189 = .ok (.getfield 9, 3) := by decide +kernel
theorem d_F_apply_192 : decode b_F_apply 192 = .ok (.iload_n 3, 1) := by decide +kernel
theorem d_F_apply_193 : decode b_F_apply 193 = .ok (.iaload, 1) := by decide +kernel
theorem d_F_apply_194 : decode b_F_apply 194 = .ok (.invokevirtual 81, 3) := by decide +kernel
theorem d_F_apply_197 : decode b_F_apply 197 = .ok (.goto (38), 3) := by decide +kernel
theorem d_F_apply_200 : decode b_F_apply 200 = .ok (.aload_n 0, 1) := by decide +kernel
theorem d_F_apply_201 : decode b_F_apply 201 = .ok (.iload_n 3, 1) := by decide +kernel
theorem d_F_apply_202 : decode b_F_apply 202 = .ok (.aload_n 0, 1) := by decide +kernel
theorem d_F_apply_203 : decode b_F_apply 203 = .ok (.getfield 17, 3) := by decide +kernel
theorem d_F_apply_206 : decode b_F_apply 206 = .ok (.iconst 0, 1) := by decide +kernel
theorem d_F_apply_207 : decode b_F_apply 207 = .ok (.aaload, 1) := by decide +kernel
theorem d_F_apply_208 : decode b_F_apply 208 = .ok (.bipush (26), 2) := by decide +kernel
theorem d_F_apply_210 : decode b_F_apply 210 = .ok (.iaload, 1) := by decide +kernel
theorem d_F_apply_211 : decode b_F_apply 211 = .ok (.invokevirtual 77, 3) := by decide +kernel
theorem d_F_apply_214 : decode b_F_apply 214 = .ok (.goto (21), 3) := by decide +kernel
theorem d_F_apply_217 : decode b_F_apply 217 = .ok (.aload_n 0, 1) := by decide +kernel
theorem d_F_apply_218 : decode b_F_apply 218 = .ok (.dup, 1) := by decide +kernel
theorem d_F_apply_219 : decode b_F_apply 219 = .ok (.getfield 27, 3) := by decide +kernel
theorem d_F_apply_222 : decode b_F_apply 222 = .ok (.aload_n 0, 1) := by decide +kernel
theorem d_F_apply_223 : decode b_F_apply 223 = .ok (.getfield 9, 3) := by decide +kernel
theorem d_F_apply_226 : decode b_F_apply 226 = .ok (.iload_n 3, 1) := by decide +kernel
theorem d_F_apply_227 : decode b_F_apply 227 = .ok (.iaload, 1) := by decide +kernel
theorem d_F_apply_228 : decode b_F_apply 228 = .ok (.ior, 1) := by decide +kernel
theorem d_F_apply_229 : decode b_F_apply 229 = .ok (.putfield 27, 3) := by decide +kernel
theorem d_F_apply_232 : decode b_F_apply 232 = .ok (.goto (3), 3) := by decide +kernel
theorem d_F_apply_235 : decode b_F_apply 235 = .ok (.return_, 1) := by decide +kernel
theorem d_F_hold_0 : decode b_F_hold 0 = .ok (.iload_n 1, 1) := by decide +kernel
theorem d_F_hold_1 : decode b_F_hold 1 = .ok (.ldc 109, 2) := by decide +kernel
theorem d_F_hold_3 : decode b_F_hold 3 = .ok (.iand, 1) := by decide +kernel
theorem d_F_hold_4 : decode b_F_hold 4 = .ok (.istore 4, 2) := by decide +kernel
theorem d_F_hold_6 : decode b_F_hold 6 = .ok (.aload_n 0, 1) := by decide +kernel
theorem d_F_hold_7 : decode b_F_hold 7 = .ok (.iload_n 2, 1) := by decide +kernel
theorem d_F_hold_8 : decode b_F_hold 8 = .ok (.iload 4, 2) := by decide +kernel
theorem d_F_hold_10 : decode b_F_hold 10 = .ok (.iload_n 3, 1) := by decide +kernel
theorem d_F_hold_11 : decode b_F_hold 11 = .ok (.invokevirtual 110, 3) := by decide +kernel
theorem d_F_hold_14 : decode b_F_hold 14 = .ok (.aload_n 0, 1) := by decide +kernel
theorem d_F_hold_15 : decode b_F_hold 15 = .ok (.iload_n 1, 1) := by decide +kernel
theorem d_F_hold_16 : decode b_F_hold 16 = .ok (.iload 4, 2) := by decide +kernel
theorem d_F_hold_18 : decode b_F_hold 18 = .ok (.iconst (-1), 1) := by decide +kernel
theorem d_F_hold_19 : decode b_F_hold 19 = .ok (.ixor, 1) := by decide +kernel
theorem d_F_hold_20 : decode b_F_hold 20 = .ok (.iand, 1) := by decide +kernel
theorem d_F_hold_21 : decode b_F_hold 21 = .ok (.iload_n 3, 1) := by decide +kernel
theorem d_F_hold_22 : decode b_F_hold 22 = .ok (.invokevirtual 81, 3) := by decide +kernel
theorem d_F_hold_25 : decode b_F_hold 25 = .ok (.return_, 1) := by decide +kernel
theorem d_F_sumUp_0 : decode b_F_sumUp 0 = .ok (.aload_n 0, 1) := by decide +kernel
theorem d_F_sumUp_1 : decode b_F_sumUp 1 = .ok (.aload_n 0, 1) := by decide +kernel
theorem d_F_sumUp_2 : decode b_F_sumUp 2 = .ok (.getfield 27, 3) := by decide +kernel
theorem d_F_sumUp_5 : decode b_F_sumUp 5 = .ok (.invokevirtual 105, 3) := by decide +kernel
theorem d_F_sumUp_8 : decode b_F_sumUp 8 = .ok (.istore_n 2, 1) := by decide +kernel
theorem d_F_sumUp_9 : decode b_F_sumUp 9 = .ok (.aload_n 0, 1) := by decide +kernel
theorem d_F_sumUp_10 : decode b_F_sumUp 10 = .ok (.aload_n 0, 1) := by decide +kernel
theorem d_F_sumUp_11 : decode b_F_sumUp 11 = .ok (.ldc 84, 2) := by decide +kernel
theorem d_F_sumUp_13 : decode b_F_sumUp 13 = .ok (.invokevirtual 105, 3) := by decide +kernel
theorem d_F_sumUp_16 : decode b_F_sumUp 16 = .ok (.putfield 31, 3) := by decide +kernel
theorem d_F_sumUp_19 : decode b_F_sumUp 19 = .ok (.aload_n 0, 1) := by decide +kernel
theorem d_F_sumUp_20 : decode b_F_sumUp 20 = .ok (.iload_n 2, 1) := by decide +kernel
theorem d_F_sumUp_21 : decode b_F_sumUp 21 = .ok (.putfield 34, 3) := by decide +kernel
theorem d_F_sumUp_24 : decode b_F_sumUp 24 = .ok (.iconst 0, 1) := by decide +kernel
theorem d_F_sumUp_25 : decode b_F_sumUp 25 = .ok (.istore_n 3, 1) := by decide +kernel
theorem d_F_sumUp_26 : decode b_F_sumUp 26 = .ok (.iload_n 3, 1) := by decide +kernel
theorem d_F_sumUp_27 : decode b_F_sumUp 27 = .ok (.iload_n 1, 1) := by decide +kernel
theorem d_F_sumUp_28 : decode b_F_sumUp 28 = .ok (.if_icmp .ge (111), 3) := by decide +kernel
theorem d_F_sumUp_31 : decode b_F_sumUp 31 = .ok (.aload_n 0, 1) := by decide +kernel
theorem d_F_sumUp_32 : decode b_F_sumUp 32 = .ok (.ldc 76, 2) := by decide +kernel
theorem d_F_sumUp_34 : decode b_F_sumUp 34 = .ok (.iload_n 3, 1) := by decide +kernel
theorem d_F_sumUp_35 : decode b_F_sumUp 35 = .ok (.ishl, 1) := by decide +kernel
theorem d_F_sumUp_36 : decode b_F_sumUp 36 = .ok (.invokevirtual 105, 3) := by decide +kernel
theorem d_F_sumUp_39 : decode b_F_sumUp 39 = .ok (.istore 4, 2) := by decide +kernel
theorem d_F_sumUp_41 : decode b_F_sumUp 41 = .ok (.iload_n 1, 1) := by decide +kernel
theorem d_F_sumUp_42 : decode b_F_sumUp 42 = .ok (.iconst 2, 1) := by decide +kernel
theorem d_F_sumUp_43 : decode b_F_sumUp 43 = .ok (.if_icmp .ne (16), 3) := by decide +kernel
theorem d_F_sumUp_46 : decode b_F_sumUp 46 = .ok (.aload_n 0, 1) := by decide +kernel
theorem d_F_sumUp_47 : decode b_F_sumUp 47 = .ok (.ldc 76, 2) := by decide +kernel
theorem d_F_sumUp_49 : decode b_F_sumUp 49 = .ok (.iconst 1, 1) := by decide +kernel
theorem d_F_sumUp_50 : decode b_F_sumUp 50 = .ok (.iload_n 3, 1) := by decide +kernel
theorem d_F_sumUp_51 : decode b_F_sumUp 51 = .ok (.isub, 1) := by decide +kernel
theorem d_F_sumUp_52 : decode b_F_sumUp 52 = .ok (.ishl, 1) := by decide +kernel
theorem d_F_sumUp_53 : decode b_F_sumUp 53 = .ok (.invokevirtual 105, 3) := by decide +kernel
theorem d_F_sumUp_56 : decode b_F_sumUp 56 = .ok (.goto (4), 3) := by decide +kernel
theorem d_F_sumUp_59 : decode b_F_sumUp 59 = .ok (.iconst 0, 1) := by decide +kernel
theorem d_F_sumUp_60 : decode b_F_sumUp 60 = .ok (.istore 5, 2) := by decide +kernel
theorem d_F_sumUp_62 : decode b_F_sumUp 62 = .ok (.aload_n 0, 1) := by decide +kernel
theorem d_F_sumUp_63 : decode b_F_sumUp 63 = .ok (.getfield 23, 3) := by decide +kernel
theorem d_F_sumUp_66 : decode b_F_sumUp 66 = .ok (.iload_n 3, 1) := by decide +kernel
theorem d_F_sumUp_67 : decode b_F_sumUp 67 = .ok (.iload 4, 2) := by decide +kernel
theorem d_F_sumUp_69 : decode b_F_sumUp 69 = .ok (.aload_n 0, 1) := by decide +kernel
theorem d_F_sumUp_70 : decode b_F_sumUp 70 = .ok (.getfield 31, 3) := by decide +kernel
theorem d_F_sumUp_73 : decode b_F_sumUp 73 = .ok (.iand, 1) := by decide +kernel
theorem d_F_sumUp_74 : decode b_F_sumUp 74 = .ok (.ifCond .eq (7), 3) := by decide +kernel
theorem d_F_sumUp_77 : decode b_F_sumUp 77 = .ok (.iconst 1, 1) := by decide +kernel
theorem d_F_sumUp_78 : decode b_F_sumUp 78 = .ok (.goto (4), 3) := by decide +kernel
theorem d_F_sumUp_81 : decode b_F_sumUp 81 = .ok (.iconst 0, 1) := by decide +kernel
theorem d_F_sumUp_82 : decode b_F_sumUp 82 = .ok (.bastore, 1) := by decide +kernel
theorem d_F_sumUp_83 : decode b_F_sumUp 83 = .ok (.aload_n 0, 1) := by decide +kernel
theorem d_F_sumUp_84 : decode b_F_sumUp 84 = .ok (.getfield 31, 3) := by decide +kernel
theorem d_F_sumUp_87 : decode b_F_sumUp 87 = .ok (.ldc 76, 2) := by decide +kernel
theorem d_F_sumUp_89 : decode b_F_sumUp 89 = .ok (.iload_n 3, 1) := by decide +kernel
theorem d_F_sumUp_90 : decode b_F_sumUp 90 = .ok (.ishl, 1) := by decide +kernel
theorem d_F_sumUp_91 : decode b_F_sumUp 91 = .ok (.iand, 1) := by decide +kernel
theorem d_F_sumUp_92 : decode b_F_sumUp 92 = .ok (.ifCond .eq (13), 3) := by decide +kernel
theorem d_F_sumUp_95 : decode b_F_sumUp 95 = .ok (.aload_n 0, 1) := by decide +kernel
theorem d_F_sumUp_96 : decode b_F_sumUp 96 = .ok (.getfield 20, 3) := by decide +kernel
theorem d_F_sumUp_99 : decode b_F_sumUp 99 = .ok (.iload_n 3, 1) := by decide +kernel
theorem d_F_sumUp_100 : decode b_F_sumUp 100 = .ok (.iconst 2, 1) := by decide +kernel
theorem d_F_sumUp_101 : decode b_F_sumUp 101 = .ok (.iastore, 1) := by decide +kernel
theorem d_F_sumUp_102 : decode b_F_sumUp 102 = .ok (.goto (20), 3) := by decide +kernel
theorem d_F_sumUp_105 : decode b_F_sumUp 105 = .ok (.iload 4, 2) := by decide +kernel
theorem d_F_sumUp_107 : decode b_F_sumUp 107 = .ok (.iload_n 2, 1) := by decide +kernel
theorem d_F_sumUp_108 : decode b_F_sumUp 108 = .ok (.iload 5, 2) := by decide +kernel
theorem d_F_sumUp_110 : decode b_F_sumUp 110 = .ok (.ior, 1) := by decide +kernel
theorem d_F_sumUp_111 : decode b_F_sumUp 111 = .ok (.iand, 1) := by decide +kernel
theorem d_F_sumUp_112 : decode b_F_sumUp 112 = .ok (.ifCond .eq (10), 3) := by decide +kernel
theorem d_F_sumUp_115 : decode b_F_sumUp 115 = .ok (.aload_n 0, 1) := by decide +kernel
theorem d_F_sumUp_116 : decode b_F_sumUp 116 = .ok (.getfield 20, 3) := by decide +kernel
theorem d_F_sumUp_119 : decode b_F_sumUp 119 = .ok (.iload_n 3, 1) := by decide +kernel
theorem d_F_sumUp_120 : decode b_F_sumUp 120 = .ok (.iconst 1, 1) := by decide +kernel
theorem d_F_sumUp_121 : decode b_F_sumUp 121 = .ok (.iastore, 1) := by decide +kernel
theorem d_F_sumUp_122 : decode b_F_sumUp 122 = .ok (.aload_n 0, 1) := by decide +kernel
theorem d_F_sumUp_123 : decode b_F_sumUp 123 = .ok (.dup, 1) := by decide +kernel
theorem d_F_sumUp_124 : decode b_F_sumUp 124 = .ok (.getfield 34, 3) := by decide +kernel
theorem d_F_sumUp_127 : decode b_F_sumUp 127 = .ok (.iload 4, 2) := by decide +kernel
theorem d_F_sumUp_129 : decode b_F_sumUp 129 = .ok (.ior, 1) := by decide +kernel
theorem d_F_sumUp_130 : decode b_F_sumUp 130 = .ok (.putfield 34, 3) := by decide +kernel
theorem d_F_sumUp_133 : decode b_F_sumUp 133 = .ok (.iinc 3 (1), 3) := by decide +kernel
theorem d_F_sumUp_136 : decode b_F_sumUp 136 = .ok (.goto (-110), 3) := by decide +kernel
theorem d_F_sumUp_139 : decode b_F_sumUp 139 = .ok (.return_, 1) := by decide +kernel
theorem d_P_draw_0 : decode b_P_draw 0 = .ok (.aload_n 0, 1) := by decide +kernel
theorem d_P_draw_1 : decode b_P_draw 1 = .ok (.getfield 9, 3) := by decide +kernel
theorem d_P_draw_4 : decode b_P_draw 4 = .ok (.iconst 0, 1) := by decide +kernel
theorem d_P_draw_5 : decode b_P_draw 5 = .ok (.invokestatic 15, 3) := by decide +kernel
theorem d_P_draw_8 : decode b_P_draw 8 = .ok (.aload_n 1, 1) := by decide +kernel
theorem d_P_draw_9 : decode b_P_draw 9 = .ok (.iload_n 3, 1) := by decide +kernel
theorem d_P_draw_10 : decode b_P_draw 10 = .ok (.aaload, 1) := by decide +kernel
theorem d_P_draw_11 : decode b_P_draw 11 = .ok (.astore 4, 2) := by decide +kernel
theorem d_P_draw_13 : decode b_P_draw 13 = .ok (.aload 4, 2) := by decide +kernel
theorem d_P_draw_15 : decode b_P_draw 15 = .ok (.getfield 21, 3) := by decide +kernel
theorem d_P_draw_18 : decode b_P_draw 18 = .ok (.istore 5, 2) := by decide +kernel
theorem d_P_draw_20 : decode b_P_draw 20 = .ok (.iload 5, 2) := by decide +kernel
theorem d_P_draw_22 : decode b_P_draw 22 = .ok (.iconst 4, 1) := by decide +kernel
theorem d_P_draw_23 : decode b_P_draw 23 = .ok (.if_icmp .ge (90), 3) := by decide +kernel
theorem d_P_draw_26 : decode b_P_draw 26 = .ok (.aload 4, 2) := by decide +kernel
theorem d_P_draw_28 : decode b_P_draw 28 = .ok (.iload 5, 2) := by decide +kernel
theorem d_P_draw_30 : decode b_P_draw 30 = .ok (.invokestatic 27, 3) := by decide +kernel
theorem d_P_draw_33 : decode b_P_draw 33 = .ok (.istore 6, 2) := by decide +kernel
theorem d_P_draw_35 : decode b_P_draw 35 = .ok (.iload 6, 2) := by decide +kernel
theorem d_P_draw_37 : decode b_P_draw 37 = .ok (.iconst (-1), 1) := by decide +kernel
theorem d_P_draw_38 : decode b_P_draw 38 = .ok (.if_icmp .ne (6), 3) := by decide +kernel
theorem d_P_draw_41 : decode b_P_draw 41 = .ok (.goto (66), 3) := by decide +kernel
theorem d_P_draw_44 : decode b_P_draw 44 = .ok (.aload 4, 2) := by decide +kernel
theorem d_P_draw_46 : decode b_P_draw 46 = .ok (.iload 6, 2) := by decide +kernel
theorem d_P_draw_48 : decode b_P_draw 48 = .ok (.invokevirtual 31, 3) := by decide +kernel
theorem d_P_draw_51 : decode b_P_draw 51 = .ok (.istore 7, 2) := by decide +kernel
theorem d_P_draw_53 : decode b_P_draw 53 = .ok (.aload_n 1, 1) := by decide +kernel
theorem d_P_draw_54 : decode b_P_draw 54 = .ok (.iload_n 3, 1) := by decide +kernel
theorem d_P_draw_55 : decode b_P_draw 55 = .ok (.iload 5, 2) := by decide +kernel
theorem d_P_draw_57 : decode b_P_draw 57 = .ok (.invokestatic 35, 3) := by decide +kernel
theorem d_P_draw_60 : decode b_P_draw 60 = .ok (.ifCond .eq (28), 3) := by decide +kernel
theorem d_P_draw_63 : decode b_P_draw 63 = .ok (.aload 4, 2) := by decide +kernel
theorem d_P_draw_65 : decode b_P_draw 65 = .ok (.iload 5, 2) := by decide +kernel
theorem d_P_draw_67 : decode b_P_draw 67 = .ok (.iload 7, 2) := by decide +kernel
theorem d_P_draw_69 : decode b_P_draw 69 = .ok (.invokestatic 39, 3) := by decide +kernel
theorem d_P_draw_72 : decode b_P_draw 72 = .ok (.ifCond .eq (16), 3) := by decide +kernel
theorem d_P_draw_75 : decode b_P_draw 75 = .ok (.aload_n 0, 1) := by decide +kernel
theorem d_P_draw_76 : decode b_P_draw 76 = .ok (.aload 4, 2) := by decide +kernel
theorem d_P_draw_78 : decode b_P_draw 78 = .ok (.iload 5, 2) := by decide +kernel
theorem d_P_draw_80 : decode b_P_draw 80 = .ok (.iload 6, 2) := by decide +kernel
theorem d_P_draw_82 : decode b_P_draw 82 = .ok (.invokevirtual 43, 3) := by decide +kernel
theorem d_P_draw_85 : decode b_P_draw 85 = .ok (.goto (22), 3) := by decide +kernel
theorem d_P_draw_88 : decode b_P_draw 88 = .ok (.aload_n 2, 1) := by decide +kernel
theorem d_P_draw_89 : decode b_P_draw 89 = .ok (.iload 6, 2) := by decide +kernel
theorem d_P_draw_91 : decode b_P_draw 91 = .ok (.invokevirtual 47, 3) := by decide +kernel
theorem d_P_draw_94 : decode b_P_draw 94 = .ok (.ifCond .ne (13), 3) := by decide +kernel
theorem d_P_draw_97 : decode b_P_draw 97 = .ok (.aload_n 0, 1) := by decide +kernel
theorem d_P_draw_98 : decode b_P_draw 98 = .ok (.aload 4, 2) := by decide +kernel
theorem d_P_draw_100 : decode b_P_draw 100 = .ok (.iload 5, 2) := by decide +kernel
theorem d_P_draw_102 : decode b_P_draw 102 = .ok (.iload 7, 2) := by decide +kernel
theorem d_P_draw_104 : decode b_P_draw 104 = .ok (.invokevirtual 52, 3) := by decide +kernel
theorem d_P_draw_107 : decode b_P_draw 107 = .ok (.iinc 5 (1), 3) := by decide +kernel
theorem d_P_draw_110 : decode b_P_draw 110 = .ok (.goto (-90), 3) := by decide +kernel
theorem d_P_draw_113 : decode b_P_draw 113 = .ok (.return_, 1) := by decide +kernel
theorem d_P_soleNew_0 : decode b_P_soleNew 0 = .ok (.iconst (-1), 1) := by decide +kernel
theorem d_P_soleNew_1 : decode b_P_soleNew 1 = .ok (.istore_n 2, 1) := by decide +kernel
theorem d_P_soleNew_2 : decode b_P_soleNew 2 = .ok (.iconst 0, 1) := by decide +kernel
theorem d_P_soleNew_3 : decode b_P_soleNew 3 = .ok (.istore_n 3, 1) := by decide +kernel
theorem d_P_soleNew_4 : decode b_P_soleNew 4 = .ok (.iload_n 3, 1) := by decide +kernel
theorem d_P_soleNew_5 : decode b_P_soleNew 5 = .ok (.aload_n 0, 1) := by decide +kernel
theorem d_P_soleNew_6 : decode b_P_soleNew 6 = .ok (.getfield 55, 3) := by decide +kernel
theorem d_P_soleNew_9 : decode b_P_soleNew 9 = .ok (.if_icmp .ge (39), 3) := by decide +kernel
theorem d_P_soleNew_12 : decode b_P_soleNew 12 = .ok (.aload_n 0, 1) := by decide +kernel
theorem d_P_soleNew_13 : decode b_P_soleNew 13 = .ok (.iload_n 3, 1) := by decide +kernel
theorem d_P_soleNew_14 : decode b_P_soleNew 14 = .ok (.iload_n 1, 1) := by decide +kernel
theorem d_P_soleNew_15 : decode b_P_soleNew 15 = .ok (.invokevirtual 58, 3) := by decide +kernel
theorem d_P_soleNew_18 : decode b_P_soleNew 18 = .ok (.ifCond .ne (6), 3) := by decide +kernel
theorem d_P_soleNew_21 : decode b_P_soleNew 21 = .ok (.goto (21), 3) := by decide +kernel
theorem d_P_soleNew_24 : decode b_P_soleNew 24 = .ok (.aload_n 0, 1) := by decide +kernel
theorem d_P_soleNew_25 : decode b_P_soleNew 25 = .ok (.getfield 62, 3) := by decide +kernel
theorem d_P_soleNew_28 : decode b_P_soleNew 28 = .ok (.iload_n 3, 1) := by decide +kernel
theorem d_P_soleNew_29 : decode b_P_soleNew 29 = .ok (.iaload, 1) := by decide +kernel
theorem d_P_soleNew_30 : decode b_P_soleNew 30 = .ok (.ifCond .ne (8), 3) := by decide +kernel
theorem d_P_soleNew_33 : decode b_P_soleNew 33 = .ok (.iload_n 2, 1) := by decide +kernel
theorem d_P_soleNew_34 : decode b_P_soleNew 34 = .ok (.iconst (-1), 1) := by decide +kernel
theorem d_P_soleNew_35 : decode b_P_soleNew 35 = .ok (.if_icmp .eq (5), 3) := by decide +kernel
theorem d_P_soleNew_38 : decode b_P_soleNew 38 = .ok (.iconst (-1), 1) := by decide +kernel
theorem d_P_soleNew_39 : decode b_P_soleNew 39 = .ok (.ireturn, 1) := by decide +kernel
theorem d_P_soleNew_40 : decode b_P_soleNew 40 = .ok (.iload_n 3, 1) := by decide +kernel
theorem d_P_soleNew_41 : decode b_P_soleNew 41 = .ok (.istore_n 2, 1) := by decide +kernel
theorem d_P_soleNew_42 : decode b_P_soleNew 42 = .ok (.iinc 3 (1), 3) := by decide +kernel
theorem d_P_soleNew_45 : decode b_P_soleNew 45 = .ok (.goto (-41), 3) := by decide +kernel
theorem d_P_soleNew_48 : decode b_P_soleNew 48 = .ok (.iload_n 2, 1) := by decide +kernel
theorem d_P_soleNew_49 : decode b_P_soleNew 49 = .ok (.ireturn, 1) := by decide +kernel
theorem d_C_defines_0 : decode b_C_defines 0 = .ok (.aload_n 0, 1) := by decide +kernel
theorem d_C_defines_1 : decode b_C_defines 1 = .ok (.getfield 9, 3) := by decide +kernel
theorem d_C_defines_4 : decode b_C_defines 4 = .ok (.iload_n 1, 1) := by decide +kernel
theorem d_C_defines_5 : decode b_C_defines 5 = .ok (.iaload, 1) := by decide +kernel
theorem d_C_defines_6 : decode b_C_defines 6 = .ok (.tableswitch (98) (0) (16) #[82, 82, 82, 82, 98, 98, 98, 98, 98, 98, 98, 98, 98, 82, 98, 98, 82], 82) := by decide +kernel
theorem d_C_defines_88 : decode b_C_defines 88 = .ok (.aload_n 0, 1) := by decide +kernel
theorem d_C_defines_89 : decode b_C_defines 89 = .ok (.getfield 15, 3) := by decide +kernel
theorem d_C_defines_92 : decode b_C_defines 92 = .ok (.iload_n 1, 1) := by decide +kernel
theorem d_C_defines_93 : decode b_C_defines 93 = .ok (.iaload, 1) := by decide +kernel
theorem d_C_defines_94 : decode b_C_defines 94 = .ok (.iload_n 2, 1) := by decide +kernel
theorem d_C_defines_95 : decode b_C_defines 95 = .ok (.if_icmp .ne (7), 3) := by decide +kernel
theorem d_C_defines_98 : decode b_C_defines 98 = .ok (.iconst 1, 1) := by decide +kernel
theorem d_C_defines_99 : decode b_C_defines 99 = .ok (.goto (4), 3) := by decide +kernel
theorem d_C_defines_102 : decode b_C_defines 102 = .ok (.iconst 0, 1) := by decide +kernel
theorem d_C_defines_103 : decode b_C_defines 103 = .ok (.ireturn, 1) := by decide +kernel
theorem d_C_defines_104 : decode b_C_defines 104 = .ok (.iconst 0, 1) := by decide +kernel
theorem d_C_defines_105 : decode b_C_defines 105 = .ok (.ireturn, 1) := by decide +kernel
theorem d_C_reachedWithout_0 : decode b_C_reachedWithout 0 = .ok (.iconst 1, 1) := by decide +kernel
theorem d_C_reachedWithout_1 : decode b_C_reachedWithout 1 = .ok (.iload_n 1, 1) := by decide +kernel
theorem d_C_reachedWithout_2 : decode b_C_reachedWithout 2 = .ok (.ishl, 1) := by decide +kernel
theorem d_C_reachedWithout_3 : decode b_C_reachedWithout 3 = .ok (.iconst (-1), 1) := by decide +kernel
theorem d_C_reachedWithout_4 : decode b_C_reachedWithout 4 = .ok (.ixor, 1) := by decide +kernel
theorem d_C_reachedWithout_5 : decode b_C_reachedWithout 5 = .ok (.istore_n 2, 1) := by decide +kernel
theorem d_C_reachedWithout_6 : decode b_C_reachedWithout 6 = .ok (.aload_n 0, 1) := by decide +kernel
theorem d_C_reachedWithout_7 : decode b_C_reachedWithout 7 = .ok (.iconst 0, 1) := by decide +kernel
theorem d_C_reachedWithout_8 : decode b_C_reachedWithout 8 = .ok (.invokevirtual 34, 3) := by decide +kernel
theorem d_C_reachedWithout_11 : decode b_C_reachedWithout 11 = .ok (.iload_n 2, 1) := by decide +kernel
theorem d_C_reachedWithout_12 : decode b_C_reachedWithout 12 = .ok (.iand, 1) := by decide +kernel
theorem d_C_reachedWithout_13 : decode b_C_reachedWithout 13 = .ok (.istore_n 3, 1) := by decide +kernel
theorem d_C_reachedWithout_14 : decode b_C_reachedWithout 14 = .ok (.iconst 0, 1) := by decide +kernel
theorem d_C_reachedWithout_15 : decode b_C_reachedWithout 15 = .ok (.istore 4, 2) := by decide +kernel
theorem d_C_reachedWithout_17 : decode b_C_reachedWithout 17 = .ok (.iload 4, 2) := by decide +kernel
theorem d_C_reachedWithout_19 : decode b_C_reachedWithout 19 = .ok (.bipush (24), 2) := by decide +kernel
theorem d_C_reachedWithout_21 : decode b_C_reachedWithout 21 = .ok (.if_icmp .ge (32), 3) := by decide +kernel
theorem d_C_reachedWithout_24 : decode b_C_reachedWithout 24 = .ok (.iload_n 3, 1) := by decide +kernel
theorem d_C_reachedWithout_25 : decode b_C_reachedWithout 25 = .ok (.aload_n 0, 1) := by decide +kernel
theorem d_C_reachedWithout_26 : decode b_C_reachedWithout 26 = .ok (.iload_n 3, 1) := by decide +kernel
theorem d_C_reachedWithout_27 : decode b_C_reachedWithout 27 = .ok (.invokevirtual 38, 3) := by decide +kernel
theorem d_C_reachedWithout_30 : decode b_C_reachedWithout 30 = .ok (.ior, 1) := by decide +kernel
theorem d_C_reachedWithout_31 : decode b_C_reachedWithout 31 = .ok (.iload_n 2, 1) := by decide +kernel
theorem d_C_reachedWithout_32 : decode b_C_reachedWithout 32 = .ok (.iand, 1) := by decide +kernel
theorem d_C_reachedWithout_33 : decode b_C_reachedWithout 33 = .ok (.istore 5, 2) := by decide +kernel
theorem d_C_reachedWithout_35 : decode b_C_reachedWithout 35 = .ok (.iload 5, 2) := by decide +kernel
theorem d_C_reachedWithout_37 : decode b_C_reachedWithout 37 = .ok (.iload_n 3, 1) := by decide +kernel
theorem d_C_reachedWithout_38 : decode b_C_reachedWithout 38 = .ok (.if_icmp .ne (6), 3) := by decide +kernel
theorem d_C_reachedWithout_41 : decode b_C_reachedWithout 41 = .ok (.goto (12), 3) := by decide +kernel
theorem d_C_reachedWithout_44 : decode b_C_reachedWithout 44 = .ok (.iload 5, 2) := by decide +kernel
theorem d_C_reachedWithout_46 : decode b_C_reachedWithout 46 = .ok (.istore_n 3, 1) := by decide +kernel
theorem d_C_reachedWithout_47 : decode b_C_reachedWithout 47 = .ok (.iinc 4 (1), 3) := by decide +kernel
theorem d_C_reachedWithout_50 : decode b_C_reachedWithout 50 = .ok (.goto (-33), 3) := by decide +kernel
theorem d_C_reachedWithout_53 : decode b_C_reachedWithout 53 = .ok (.iload_n 3, 1) := by decide +kernel
theorem d_C_reachedWithout_54 : decode b_C_reachedWithout 54 = .ok (.ireturn, 1) := by decide +kernel
theorem d_C_bit_0 : decode b_C_bit 0 = .ok (.aload_n 0, 1) := by decide +kernel
theorem d_C_bit_1 : decode b_C_bit 1 = .ok (.iload_n 1, 1) := by decide +kernel
theorem d_C_bit_2 : decode b_C_bit 2 = .ok (.invokevirtual 45, 3) := by decide +kernel
theorem d_C_bit_5 : decode b_C_bit 5 = .ok (.ifCond .eq (9), 3) := by decide +kernel
theorem d_C_bit_8 : decode b_C_bit 8 = .ok (.iconst 1, 1) := by decide +kernel
theorem d_C_bit_9 : decode b_C_bit 9 = .ok (.iload_n 1, 1) := by decide +kernel
theorem d_C_bit_10 : decode b_C_bit 10 = .ok (.ishl, 1) := by decide +kernel
theorem d_C_bit_11 : decode b_C_bit 11 = .ok (.goto (4), 3) := by decide +kernel
theorem d_C_bit_14 : decode b_C_bit 14 = .ok (.iconst 0, 1) := by decide +kernel
theorem d_C_bit_15 : decode b_C_bit 15 = .ok (.ireturn, 1) := by decide +kernel
theorem d_C_has_0 : decode b_C_has 0 = .ok (.iload_n 1, 1) := by decide +kernel
theorem d_C_has_1 : decode b_C_has 1 = .ok (.ifCond .lt (15), 3) := by decide +kernel
theorem d_C_has_4 : decode b_C_has 4 = .ok (.iload_n 1, 1) := by decide +kernel
theorem d_C_has_5 : decode b_C_has 5 = .ok (.aload_n 0, 1) := by decide +kernel
theorem d_C_has_6 : decode b_C_has 6 = .ok (.getfield 27, 3) := by decide +kernel
theorem d_C_has_9 : decode b_C_has 9 = .ok (.if_icmp .ge (7), 3) := by decide +kernel
theorem d_C_has_12 : decode b_C_has 12 = .ok (.iconst 1, 1) := by decide +kernel
theorem d_C_has_13 : decode b_C_has 13 = .ok (.goto (4), 3) := by decide +kernel
theorem d_C_has_16 : decode b_C_has 16 = .ok (.iconst 0, 1) := by decide +kernel
theorem d_C_has_17 : decode b_C_has 17 = .ok (.ireturn, 1) := by decide +kernel
theorem d_C_behind_0 : decode b_C_behind 0 = .ok (.iconst 0, 1) := by decide +kernel
theorem d_C_behind_1 : decode b_C_behind 1 = .ok (.istore_n 2, 1) := by decide +kernel
theorem d_C_behind_2 : decode b_C_behind 2 = .ok (.iconst 0, 1) := by decide +kernel
theorem d_C_behind_3 : decode b_C_behind 3 = .ok (.istore_n 3, 1) := by decide +kernel
theorem d_C_behind_4 : decode b_C_behind 4 = .ok (.iload_n 3, 1) := by decide +kernel
theorem d_C_behind_5 : decode b_C_behind 5 = .ok (.aload_n 0, 1) := by decide +kernel
theorem d_C_behind_6 : decode b_C_behind 6 = .ok (.getfield 27, 3) := by decide +kernel
theorem d_C_behind_9 : decode b_C_behind 9 = .ok (.if_icmp .ge (73), 3) := by decide +kernel
theorem d_C_behind_12 : decode b_C_behind 12 = .ok (.iload_n 1, 1) := by decide +kernel
theorem d_C_behind_13 : decode b_C_behind 13 = .ok (.iload_n 3, 1) := by decide +kernel
theorem d_C_behind_14 : decode b_C_behind 14 = .ok (.ishr, 1) := by decide +kernel
theorem d_C_behind_15 : decode b_C_behind 15 = .ok (.iconst 1, 1) := by decide +kernel
theorem d_C_behind_16 : decode b_C_behind 16 = .ok (.iand, 1) := by decide +kernel
theorem d_C_behind_17 : decode b_C_behind 17 = .ok (.ifCond .ne (6), 3) := by decide +kernel
theorem d_C_behind_20 : decode b_C_behind 20 = .ok (.goto (56), 3) := by decide +kernel
theorem d_C_behind_23 : decode b_C_behind 23 = .ok (.aload_n 0, 1) := by decide +kernel
theorem d_C_behind_24 : decode b_C_behind 24 = .ok (.getfield 9, 3) := by decide +kernel
theorem d_C_behind_27 : decode b_C_behind 27 = .ok (.iload_n 3, 1) := by decide +kernel
theorem d_C_behind_28 : decode b_C_behind 28 = .ok (.iaload, 1) := by decide +kernel
theorem d_C_behind_29 : decode b_C_behind 29 = .ok (.bipush (14), 2) := by decide +kernel
theorem d_C_behind_31 : decode b_C_behind 31 = .ok (.if_icmp .eq (24), 3) := by decide +kernel
theorem d_C_behind_34 : decode b_C_behind 34 = .ok (.aload_n 0, 1) := by decide +kernel
theorem d_C_behind_35 : decode b_C_behind 35 = .ok (.getfield 9, 3) := by decide +kernel
theorem d_C_behind_38 : decode b_C_behind 38 = .ok (.iload_n 3, 1) := by decide +kernel
theorem d_C_behind_39 : decode b_C_behind 39 = .ok (.iaload, 1) := by decide +kernel
theorem d_C_behind_40 : decode b_C_behind 40 = .ok (.bipush (17), 2) := by decide +kernel
theorem d_C_behind_42 : decode b_C_behind 42 = .ok (.if_icmp .eq (13), 3) := by decide +kernel
theorem d_C_behind_45 : decode b_C_behind 45 = .ok (.iload_n 2, 1) := by decide +kernel
theorem d_C_behind_46 : decode b_C_behind 46 = .ok (.aload_n 0, 1) := by decide +kernel
theorem d_C_behind_47 : decode b_C_behind 47 = .ok (.iload_n 3, 1) := by decide +kernel
theorem d_C_behind_48 : decode b_C_behind 48 = .ok (.iconst 1, 1) := by decide +kernel
theorem d_C_behind_49 : decode b_C_behind 49 = .ok (.iadd, 1) := by decide +kernel
theorem d_C_behind_50 : decode b_C_behind 50 = .ok (.invokevirtual 34, 3) := by decide +kernel
theorem d_C_behind_53 : decode b_C_behind 53 = .ok (.ior, 1) := by decide +kernel
theorem d_C_behind_54 : decode b_C_behind 54 = .ok (.istore_n 2, 1) := by decide +kernel
theorem d_C_behind_55 : decode b_C_behind 55 = .ok (.aload_n 0, 1) := by decide +kernel
theorem d_C_behind_56 : decode b_C_behind 56 = .ok (.iload_n 3, 1) := by decide +kernel
theorem d_C_behind_57 : decode b_C_behind 57 = .ok (.invokevirtual 41, 3) := by decide +kernel
theorem d_C_behind_60 : decode b_C_behind 60 = .ok (.ifCond .eq (16), 3) := by decide +kernel
theorem d_C_behind_63 : decode b_C_behind 63 = .ok (.iload_n 2, 1) := by decide +kernel
theorem d_C_behind_64 : decode b_C_behind 64 = .ok (.aload_n 0, 1) := by decide +kernel
theorem d_C_behind_65 : decode b_C_behind 65 = .ok (.aload_n 0, 1) := by decide +kernel
theorem d_C_behind_66 : decode b_C_behind 66 = .ok (.getfield 24, 3) := by decide +kernel
theorem d_C_behind_69 : decode b_C_behind 69 = .ok (.iload_n 3, 1) := by decide +kernel
theorem d_C_behind_70 : decode b_C_behind 70 = .ok (.iaload, 1) := by decide +kernel
theorem d_C_behind_71 : decode b_C_behind 71 = .ok (.invokevirtual 34, 3) := by decide +kernel
theorem d_C_behind_74 : decode b_C_behind 74 = .ok (.ior, 1) := by decide +kernel
theorem d_C_behind_75 : decode b_C_behind 75 = .ok (.istore_n 2, 1) := by decide +kernel
theorem d_C_behind_76 : decode b_C_behind 76 = .ok (.iinc 3 (1), 3) := by decide +kernel
theorem d_C_behind_79 : decode b_C_behind 79 = .ok (.goto (-75), 3) := by decide +kernel
theorem d_C_behind_82 : decode b_C_behind 82 = .ok (.iload_n 2, 1) := by decide +kernel
theorem d_C_behind_83 : decode b_C_behind 83 = .ok (.ireturn, 1) := by decide +kernel
theorem d_C_jumps_0 : decode b_C_jumps 0 = .ok (.aload_n 0, 1) := by decide +kernel
theorem d_C_jumps_1 : decode b_C_jumps 1 = .ok (.getfield 9, 3) := by decide +kernel
theorem d_C_jumps_4 : decode b_C_jumps 4 = .ok (.iload_n 1, 1) := by decide +kernel
theorem d_C_jumps_5 : decode b_C_jumps 5 = .ok (.iaload, 1) := by decide +kernel
theorem d_C_jumps_6 : decode b_C_jumps 6 = .ok (.bipush (14), 2) := by decide +kernel
theorem d_C_jumps_8 : decode b_C_jumps 8 = .ok (.if_icmp .eq (14), 3) := by decide +kernel
theorem d_C_jumps_11 : decode b_C_jumps 11 = .ok (.aload_n 0, 1) := by decide +kernel
theorem d_C_jumps_12 : decode b_C_jumps 12 = .ok (.getfield 9, 3) := by decide +kernel
theorem d_C_jumps_15 : decode b_C_jumps 15 = .ok (.iload_n 1, 1) := by decide +kernel
theorem d_C_jumps_16 : decode b_C_jumps 16 = .ok (.iaload, 1) := by decide +kernel
theorem d_C_jumps_17 : decode b_C_jumps 17 = .ok (.bipush (15), 2) := by decide +kernel
theorem d_C_jumps_19 : decode b_C_jumps 19 = .ok (.if_icmp .ne (7), 3) := by decide +kernel
theorem d_C_jumps_22 : decode b_C_jumps 22 = .ok (.iconst 1, 1) := by decide +kernel
theorem d_C_jumps_23 : decode b_C_jumps 23 = .ok (.goto (4), 3) := by decide +kernel
theorem d_C_jumps_26 : decode b_C_jumps 26 = .ok (.iconst 0, 1) := by decide +kernel
theorem d_C_jumps_27 : decode b_C_jumps 27 = .ok (.ireturn, 1) := by decide +kernel
theorem d_P_staysInside_0 : decode b_P_staysInside 0 = .ok (.aload_n 0, 1) := by decide +kernel
theorem d_P_staysInside_1 : decode b_P_staysInside 1 = .ok (.iload_n 1, 1) := by decide +kernel
theorem d_P_staysInside_2 : decode b_P_staysInside 2 = .ok (.aaload, 1) := by decide +kernel
theorem d_P_staysInside_3 : decode b_P_staysInside 3 = .ok (.astore_n 3, 1) := by decide +kernel
theorem d_P_staysInside_4 : decode b_P_staysInside 4 = .ok (.iconst 0, 1) := by decide +kernel
theorem d_P_staysInside_5 : decode b_P_staysInside 5 = .ok (.istore 4, 2) := by decide +kernel
theorem d_P_staysInside_7 : decode b_P_staysInside 7 = .ok (.iload 4, 2) := by decide +kernel
theorem d_P_staysInside_9 : decode b_P_staysInside 9 = .ok (.aload_n 3, 1) := by decide +kernel
theorem d_P_staysInside_10 : decode b_P_staysInside 10 = .ok (.getfield 55, 3) := by decide +kernel
theorem d_P_staysInside_13 : decode b_P_staysInside 13 = .ok (.if_icmp .ge (53), 3) := by decide +kernel
theorem d_P_staysInside_16 : decode b_P_staysInside 16 = .ok (.aload_n 3, 1) := by decide +kernel
theorem d_P_staysInside_17 : decode b_P_staysInside 17 = .ok (.getfield 62, 3) := by decide +kernel
theorem d_P_staysInside_20 : decode b_P_staysInside 20 = .ok (.iload 4, 2) := by decide +kernel
theorem d_P_staysInside_22 : decode b_P_staysInside 22 = .ok (.iaload, 1) := by decide +kernel
theorem d_P_staysInside_23 : decode b_P_staysInside 23 = .ok (.bipush (16), 2) := by decide +kernel
theorem d_P_staysInside_25 : decode b_P_staysInside 25 = .ok (.if_icmp .ne (18), 3) := by decide +kernel
theorem d_P_staysInside_28 : decode b_P_staysInside 28 = .ok (.aload_n 0, 1) := by decide +kernel
theorem d_P_staysInside_29 : decode b_P_staysInside 29 = .ok (.aload_n 3, 1) := by decide +kernel
theorem d_P_staysInside_30 : decode b_P_staysInside 30 = .ok (.getfield 65, 3) := by decide +kernel
theorem d_P_staysInside_33 : decode b_P_staysInside 33 = .ok (.iload 4, 2) := by decide +kernel
theorem d_P_staysInside_35 : decode b_P_staysInside 35 = .ok (.iaload, 1) := by decide +kernel
theorem d_P_staysInside_36 : decode b_P_staysInside 36 = .ok (.aaload, 1) := by decide +kernel
theorem d_P_staysInside_37 : decode b_P_staysInside 37 = .ok (.getfield 21, 3) := by decide +kernel
theorem d_P_staysInside_40 : decode b_P_staysInside 40 = .ok (.goto (4), 3) := by decide +kernel
theorem d_P_staysInside_43 : decode b_P_staysInside 43 = .ok (.iconst 0, 1) := by decide +kernel
theorem d_P_staysInside_44 : decode b_P_staysInside 44 = .ok (.istore 5, 2) := by decide +kernel
theorem d_P_staysInside_46 : decode b_P_staysInside 46 = .ok (.aload_n 3, 1) := by decide +kernel
theorem d_P_staysInside_47 : decode b_P_staysInside 47 = .ok (.iload 4, 2) := by decide +kernel
theorem d_P_staysInside_49 : decode b_P_staysInside 49 = .ok (.iload_n 2, 1) := by decide +kernel
theorem d_P_staysInside_50 : decode b_P_staysInside 50 = .ok (.iload 5, 2) := by decide +kernel
theorem d_P_staysInside_52 : decode b_P_staysInside 52 = .ok (.invokevirtual 68, 3) := by decide +kernel
theorem d_P_staysInside_55 : decode b_P_staysInside 55 = .ok (.ifCond .eq (5), 3) := by decide +kernel
theorem d_P_staysInside_58 : decode b_P_staysInside 58 = .ok (.iconst 0, 1) := by decide +kernel
theorem d_P_staysInside_59 : decode b_P_staysInside 59 = .ok (.ireturn, 1) := by decide +kernel
theorem d_P_staysInside_60 : decode b_P_staysInside 60 = .ok (.iinc 4 (1), 3) := by decide +kernel
theorem d_P_staysInside_63 : decode b_P_staysInside 63 = .ok (.goto (-56), 3) := by decide +kernel
theorem d_P_staysInside_66 : decode b_P_staysInside 66 = .ok (.iconst 1, 1) := by decide +kernel
theorem d_P_staysInside_67 : decode b_P_staysInside 67 = .ok (.ireturn, 1) := by decide +kernel
theorem d_C_handsOn_0 : decode b_C_handsOn 0 = .ok (.aload_n 0, 1) := by decide +kernel
theorem d_C_handsOn_1 : decode b_C_handsOn 1 = .ok (.getfield 9, 3) := by decide +kernel
theorem d_C_handsOn_4 : decode b_C_handsOn 4 = .ok (.iload_n 1, 1) := by decide +kernel
theorem d_C_handsOn_5 : decode b_C_handsOn 5 = .ok (.iaload, 1) := by decide +kernel
theorem d_C_handsOn_6 : decode b_C_handsOn 6 = .ok (.lookupswitch (118) #[(1, 50), (4, 50), (12, 66), (16, 82), (17, 66)], 50) := by decide +kernel
theorem d_C_handsOn_56 : decode b_C_handsOn 56 = .ok (.aload_n 0, 1) := by decide +kernel
theorem d_C_handsOn_57 : decode b_C_handsOn 57 = .ok (.getfield 18, 3) := by decide +kernel
theorem d_C_handsOn_60 : decode b_C_handsOn 60 = .ok (.iload_n 1, 1) := by decide +kernel
theorem d_C_handsOn_61 : decode b_C_handsOn 61 = .ok (.iaload, 1) := by decide +kernel
theorem d_C_handsOn_62 : decode b_C_handsOn 62 = .ok (.iload_n 2, 1) := by decide +kernel
theorem d_C_handsOn_63 : decode b_C_handsOn 63 = .ok (.if_icmp .ne (7), 3) := by decide +kernel
theorem d_C_handsOn_66 : decode b_C_handsOn 66 = .ok (.iconst 1, 1) := by decide +kernel
theorem d_C_handsOn_67 : decode b_C_handsOn 67 = .ok (.goto (4), 3) := by decide +kernel
theorem d_C_handsOn_70 : decode b_C_handsOn 70 = .ok (.iconst 0, 1) := by decide +kernel
theorem d_C_handsOn_71 : decode b_C_handsOn 71 = .ok (.ireturn, 1) := by decide +kernel
theorem d_C_handsOn_72 : decode b_C_handsOn 72 = .ok (.aload_n 0, 1) := by decide +kernel
theorem d_C_handsOn_73 : decode b_C_handsOn 73 = .ok (.getfield 15, 3) := by decide +kernel
theorem d_C_handsOn_76 : decode b_C_handsOn 76 = .ok (.iload_n 1, 1) := by decide +kernel
theorem d_C_handsOn_77 : decode b_C_handsOn 77 = .ok (.iaload, 1) := by decide +kernel
theorem d_C_handsOn_78 : decode b_C_handsOn 78 = .ok (.iload_n 2, 1) := by decide +kernel
theorem d_C_handsOn_79 : decode b_C_handsOn 79 = .ok (.if_icmp .ne (7), 3) := by decide +kernel
theorem d_C_handsOn_82 : decode b_C_handsOn 82 = .ok (.iconst 1, 1) := by decide +kernel
theorem d_C_handsOn_83 : decode b_C_handsOn 83 = .ok (.goto (4), 3) := by decide +kernel
theorem d_C_handsOn_86 : decode b_C_handsOn 86 = .ok (.iconst 0, 1) := by decide +kernel
theorem d_C_handsOn_87 : decode b_C_handsOn 87 = .ok (.ireturn, 1) := by decide +kernel
theorem d_C_handsOn_88 : decode b_C_handsOn 88 = .ok (.iload_n 3, 1) := by decide +kernel
theorem d_C_handsOn_89 : decode b_C_handsOn 89 = .ok (.iconst 1, 1) := by decide +kernel
theorem d_C_handsOn_90 : decode b_C_handsOn 90 = .ok (.if_icmp .lt (13), 3) := by decide +kernel
theorem d_C_handsOn_93 : decode b_C_handsOn 93 = .ok (.aload_n 0, 1) := by decide +kernel
theorem d_C_handsOn_94 : decode b_C_handsOn 94 = .ok (.getfield 18, 3) := by decide +kernel
theorem d_C_handsOn_97 : decode b_C_handsOn 97 = .ok (.iload_n 1, 1) := by decide +kernel
theorem d_C_handsOn_98 : decode b_C_handsOn 98 = .ok (.iaload, 1) := by decide +kernel
theorem d_C_handsOn_99 : decode b_C_handsOn 99 = .ok (.iload_n 2, 1) := by decide +kernel
theorem d_C_handsOn_100 : decode b_C_handsOn 100 = .ok (.if_icmp .eq (18), 3) := by decide +kernel
theorem d_C_handsOn_103 : decode b_C_handsOn 103 = .ok (.iload_n 3, 1) := by decide +kernel
theorem d_C_handsOn_104 : decode b_C_handsOn 104 = .ok (.iconst 2, 1) := by decide +kernel
theorem d_C_handsOn_105 : decode b_C_handsOn 105 = .ok (.if_icmp .lt (17), 3) := by decide +kernel
theorem d_C_handsOn_108 : decode b_C_handsOn 108 = .ok (.aload_n 0, 1) := by decide +kernel
theorem d_C_handsOn_109 : decode b_C_handsOn 109 = .ok (.getfield 21, 3) := by decide +kernel
theorem d_C_handsOn_112 : decode b_C_handsOn 112 = .ok (.iload_n 1, 1) := by decide +kernel
theorem d_C_handsOn_113 : decode b_C_handsOn 113 = .ok (.iaload, 1) := by decide +kernel
theorem d_C_handsOn_114 : decode b_C_handsOn 114 = .ok (.iload_n 2, 1) := by decide +kernel
theorem d_C_handsOn_115 : decode b_C_handsOn 115 = .ok (.if_icmp .ne (7), 3) := by decide +kernel
theorem d_C_handsOn_118 : decode b_C_handsOn 118 = .ok (.iconst 1, 1) := by decide +kernel
theorem d_C_handsOn_119 : decode b_C_handsOn 119 = .ok (.goto (4), 3) := by decide +kernel
theorem d_C_handsOn_122 : decode b_C_handsOn 122 = .ok (.iconst 0, 1) := by decide +kernel
theorem d_C_handsOn_123 : decode b_C_handsOn 123 = .ok (.ireturn, 1) := by decide +kernel
theorem d_C_handsOn_124 : decode b_C_handsOn 124 = .ok (.iconst 0, 1) := by decide +kernel
theorem d_C_handsOn_125 : decode b_C_handsOn 125 = .ok (.ireturn, 1) := by decide +kernel
theorem d_P_isMadeFirst_0 : decode b_P_isMadeFirst 0 = .ok (.iconst 0, 1) := by decide +kernel
theorem d_P_isMadeFirst_1 : decode b_P_isMadeFirst 1 = .ok (.istore_n 3, 1) := by decide +kernel
theorem d_P_isMadeFirst_2 : decode b_P_isMadeFirst 2 = .ok (.iload_n 3, 1) := by decide +kernel
theorem d_P_isMadeFirst_3 : decode b_P_isMadeFirst 3 = .ok (.aload_n 0, 1) := by decide +kernel
theorem d_P_isMadeFirst_4 : decode b_P_isMadeFirst 4 = .ok (.getfield 55, 3) := by decide +kernel
theorem d_P_isMadeFirst_7 : decode b_P_isMadeFirst 7 = .ok (.if_icmp .ge (29), 3) := by decide +kernel
theorem d_P_isMadeFirst_10 : decode b_P_isMadeFirst 10 = .ok (.aload_n 0, 1) := by decide +kernel
theorem d_P_isMadeFirst_11 : decode b_P_isMadeFirst 11 = .ok (.iload_n 3, 1) := by decide +kernel
theorem d_P_isMadeFirst_12 : decode b_P_isMadeFirst 12 = .ok (.iload_n 1, 1) := by decide +kernel
theorem d_P_isMadeFirst_13 : decode b_P_isMadeFirst 13 = .ok (.invokevirtual 72, 3) := by decide +kernel
theorem d_P_isMadeFirst_16 : decode b_P_isMadeFirst 16 = .ok (.ifCond .eq (14), 3) := by decide +kernel
theorem d_P_isMadeFirst_19 : decode b_P_isMadeFirst 19 = .ok (.iload_n 2, 1) := by decide +kernel
theorem d_P_isMadeFirst_20 : decode b_P_isMadeFirst 20 = .ok (.iload_n 3, 1) := by decide +kernel
theorem d_P_isMadeFirst_21 : decode b_P_isMadeFirst 21 = .ok (.ishr, 1) := by decide +kernel
theorem d_P_isMadeFirst_22 : decode b_P_isMadeFirst 22 = .ok (.iconst 1, 1) := by decide +kernel
theorem d_P_isMadeFirst_23 : decode b_P_isMadeFirst 23 = .ok (.iand, 1) := by decide +kernel
theorem d_P_isMadeFirst_24 : decode b_P_isMadeFirst 24 = .ok (.iconst 1, 1) := by decide +kernel
theorem d_P_isMadeFirst_25 : decode b_P_isMadeFirst 25 = .ok (.if_icmp .ne (5), 3) := by decide +kernel
theorem d_P_isMadeFirst_28 : decode b_P_isMadeFirst 28 = .ok (.iconst 0, 1) := by decide +kernel
theorem d_P_isMadeFirst_29 : decode b_P_isMadeFirst 29 = .ok (.ireturn, 1) := by decide +kernel
theorem d_P_isMadeFirst_30 : decode b_P_isMadeFirst 30 = .ok (.iinc 3 (1), 3) := by decide +kernel
theorem d_P_isMadeFirst_33 : decode b_P_isMadeFirst 33 = .ok (.goto (-31), 3) := by decide +kernel
theorem d_P_isMadeFirst_36 : decode b_P_isMadeFirst 36 = .ok (.iconst 1, 1) := by decide +kernel
theorem d_P_isMadeFirst_37 : decode b_P_isMadeFirst 37 = .ok (.ireturn, 1) := by decide +kernel
theorem d_C_worksOn_0 : decode b_C_worksOn 0 = .ok (.aload_n 0, 1) := by decide +kernel
theorem d_C_worksOn_1 : decode b_C_worksOn 1 = .ok (.getfield 9, 3) := by decide +kernel
theorem d_C_worksOn_4 : decode b_C_worksOn 4 = .ok (.iload_n 1, 1) := by decide +kernel
theorem d_C_worksOn_5 : decode b_C_worksOn 5 = .ok (.iaload, 1) := by decide +kernel
theorem d_C_worksOn_6 : decode b_C_worksOn 6 = .ok (.tableswitch (108) (3) (11) #[50, 66, 50, 66, 108, 108, 82, 66, 66], 50) := by decide +kernel
theorem d_C_worksOn_56 : decode b_C_worksOn 56 = .ok (.aload_n 0, 1) := by decide +kernel
theorem d_C_worksOn_57 : decode b_C_worksOn 57 = .ok (.getfield 18, 3) := by decide +kernel
theorem d_C_worksOn_60 : decode b_C_worksOn 60 = .ok (.iload_n 1, 1) := by decide +kernel
theorem d_C_worksOn_61 : decode b_C_worksOn 61 = .ok (.iaload, 1) := by decide +kernel
theorem d_C_worksOn_62 : decode b_C_worksOn 62 = .ok (.iload_n 2, 1) := by decide +kernel
theorem d_C_worksOn_63 : decode b_C_worksOn 63 = .ok (.if_icmp .ne (7), 3) := by decide +kernel
theorem d_C_worksOn_66 : decode b_C_worksOn 66 = .ok (.iconst 1, 1) := by decide +kernel
theorem d_C_worksOn_67 : decode b_C_worksOn 67 = .ok (.goto (4), 3) := by decide +kernel
theorem d_C_worksOn_70 : decode b_C_worksOn 70 = .ok (.iconst 0, 1) := by decide +kernel
theorem d_C_worksOn_71 : decode b_C_worksOn 71 = .ok (.ireturn, 1) := by decide +kernel
theorem d_C_worksOn_72 : decode b_C_worksOn 72 = .ok (.aload_n 0, 1) := by decide +kernel
theorem d_C_worksOn_73 : decode b_C_worksOn 73 = .ok (.getfield 15, 3) := by decide +kernel
theorem d_C_worksOn_76 : decode b_C_worksOn 76 = .ok (.iload_n 1, 1) := by decide +kernel
theorem d_C_worksOn_77 : decode b_C_worksOn 77 = .ok (.iaload, 1) := by decide +kernel
theorem d_C_worksOn_78 : decode b_C_worksOn 78 = .ok (.iload_n 2, 1) := by decide +kernel
theorem d_C_worksOn_79 : decode b_C_worksOn 79 = .ok (.if_icmp .ne (7), 3) := by decide +kernel
theorem d_C_worksOn_82 : decode b_C_worksOn 82 = .ok (.iconst 1, 1) := by decide +kernel
theorem d_C_worksOn_83 : decode b_C_worksOn 83 = .ok (.goto (4), 3) := by decide +kernel
theorem d_C_worksOn_86 : decode b_C_worksOn 86 = .ok (.iconst 0, 1) := by decide +kernel
theorem d_C_worksOn_87 : decode b_C_worksOn 87 = .ok (.ireturn, 1) := by decide +kernel
theorem d_C_worksOn_88 : decode b_C_worksOn 88 = .ok (.aload_n 0, 1) := by decide +kernel
theorem d_C_worksOn_89 : decode b_C_worksOn 89 = .ok (.getfield 18, 3) := by decide +kernel
theorem d_C_worksOn_92 : decode b_C_worksOn 92 = .ok (.iload_n 1, 1) := by decide +kernel
theorem d_C_worksOn_93 : decode b_C_worksOn 93 = .ok (.iaload, 1) := by decide +kernel
theorem d_C_worksOn_94 : decode b_C_worksOn 94 = .ok (.iload_n 2, 1) := by decide +kernel
theorem d_C_worksOn_95 : decode b_C_worksOn 95 = .ok (.if_icmp .eq (13), 3) := by decide +kernel
theorem d_C_worksOn_98 : decode b_C_worksOn 98 = .ok (.aload_n 0, 1) := by decide +kernel
theorem d_C_worksOn_99 : decode b_C_worksOn 99 = .ok (.getfield 21, 3) := by decide +kernel
theorem d_C_worksOn_102 : decode b_C_worksOn 102 = .ok (.iload_n 1, 1) := by decide +kernel
theorem d_C_worksOn_103 : decode b_C_worksOn 103 = .ok (.iaload, 1) := by decide +kernel
theorem d_C_worksOn_104 : decode b_C_worksOn 104 = .ok (.iload_n 2, 1) := by decide +kernel
theorem d_C_worksOn_105 : decode b_C_worksOn 105 = .ok (.if_icmp .ne (7), 3) := by decide +kernel
theorem d_C_worksOn_108 : decode b_C_worksOn 108 = .ok (.iconst 1, 1) := by decide +kernel
theorem d_C_worksOn_109 : decode b_C_worksOn 109 = .ok (.goto (4), 3) := by decide +kernel
theorem d_C_worksOn_112 : decode b_C_worksOn 112 = .ok (.iconst 0, 1) := by decide +kernel
theorem d_C_worksOn_113 : decode b_C_worksOn 113 = .ok (.ireturn, 1) := by decide +kernel
theorem d_C_worksOn_114 : decode b_C_worksOn 114 = .ok (.iconst 0, 1) := by decide +kernel
theorem d_C_worksOn_115 : decode b_C_worksOn 115 = .ok (.ireturn, 1) := by decide +kernel
theorem d_P_takeApart_0 : decode b_P_takeApart 0 = .ok (.aload_n 0, 1) := by decide +kernel
theorem d_P_takeApart_1 : decode b_P_takeApart 1 = .ok (.getfield 9, 3) := by decide +kernel
theorem d_P_takeApart_4 : decode b_P_takeApart 4 = .ok (.iload_n 3, 1) := by decide +kernel
theorem d_P_takeApart_5 : decode b_P_takeApart 5 = .ok (.iconst 1, 1) := by decide +kernel
theorem d_P_takeApart_6 : decode b_P_takeApart 6 = .ok (.iastore, 1) := by decide +kernel
theorem d_P_takeApart_7 : decode b_P_takeApart 7 = .ok (.iconst 0, 1) := by decide +kernel
theorem d_P_takeApart_8 : decode b_P_takeApart 8 = .ok (.istore 4, 2) := by decide +kernel
theorem d_P_takeApart_10 : decode b_P_takeApart 10 = .ok (.iload 4, 2) := by decide +kernel
theorem d_P_takeApart_12 : decode b_P_takeApart 12 = .ok (.aload_n 1, 1) := by decide +kernel
theorem d_P_takeApart_13 : decode b_P_takeApart 13 = .ok (.getfield 55, 3) := by decide +kernel
theorem d_P_takeApart_16 : decode b_P_takeApart 16 = .ok (.if_icmp .ge (27), 3) := by decide +kernel
theorem d_P_takeApart_19 : decode b_P_takeApart 19 = .ok (.aload_n 1, 1) := by decide +kernel
theorem d_P_takeApart_20 : decode b_P_takeApart 20 = .ok (.iload 4, 2) := by decide +kernel
theorem d_P_takeApart_22 : decode b_P_takeApart 22 = .ok (.iload_n 2, 1) := by decide +kernel
theorem d_P_takeApart_23 : decode b_P_takeApart 23 = .ok (.invokevirtual 72, 3) := by decide +kernel
theorem d_P_takeApart_26 : decode b_P_takeApart 26 = .ok (.ifCond .eq (11), 3) := by decide +kernel
theorem d_P_takeApart_29 : decode b_P_takeApart 29 = .ok (.aload_n 0, 1) := by decide +kernel
theorem d_P_takeApart_30 : decode b_P_takeApart 30 = .ok (.getfield 9, 3) := by decide +kernel
theorem d_P_takeApart_33 : decode b_P_takeApart 33 = .ok (.iload 4, 2) := by decide +kernel
theorem d_P_takeApart_35 : decode b_P_takeApart 35 = .ok (.iconst 1, 1) := by decide +kernel
theorem d_P_takeApart_36 : decode b_P_takeApart 36 = .ok (.iastore, 1) := by decide +kernel
theorem d_P_takeApart_37 : decode b_P_takeApart 37 = .ok (.iinc 4 (1), 3) := by decide +kernel
theorem d_P_takeApart_40 : decode b_P_takeApart 40 = .ok (.goto (-30), 3) := by decide +kernel
theorem d_P_takeApart_43 : decode b_P_takeApart 43 = .ok (.return_, 1) := by decide +kernel
theorem d_F_escapeOf_0 : decode b_F_escapeOf 0 = .ok (.aload_n 0, 1) := by decide +kernel
theorem d_F_escapeOf_1 : decode b_F_escapeOf 1 = .ok (.getfield 31, 3) := by decide +kernel
theorem d_F_escapeOf_4 : decode b_F_escapeOf 4 = .ok (.iload_n 1, 1) := by decide +kernel
theorem d_F_escapeOf_5 : decode b_F_escapeOf 5 = .ok (.ishr, 1) := by decide +kernel
theorem d_F_escapeOf_6 : decode b_F_escapeOf 6 = .ok (.iconst 1, 1) := by decide +kernel
theorem d_F_escapeOf_7 : decode b_F_escapeOf 7 = .ok (.iand, 1) := by decide +kernel
theorem d_F_escapeOf_8 : decode b_F_escapeOf 8 = .ok (.iconst 1, 1) := by decide +kernel
theorem d_F_escapeOf_9 : decode b_F_escapeOf 9 = .ok (.if_icmp .ne (5), 3) := by decide +kernel
theorem d_F_escapeOf_12 : decode b_F_escapeOf 12 = .ok (.iconst 2, 1) := by decide +kernel
theorem d_F_escapeOf_13 : decode b_F_escapeOf 13 = .ok (.ireturn, 1) := by decide +kernel
theorem d_F_escapeOf_14 : decode b_F_escapeOf 14 = .ok (.aload_n 0, 1) := by decide +kernel
theorem d_F_escapeOf_15 : decode b_F_escapeOf 15 = .ok (.getfield 34, 3) := by decide +kernel
theorem d_F_escapeOf_18 : decode b_F_escapeOf 18 = .ok (.iload_n 1, 1) := by decide +kernel
theorem d_F_escapeOf_19 : decode b_F_escapeOf 19 = .ok (.ishr, 1) := by decide +kernel
theorem d_F_escapeOf_20 : decode b_F_escapeOf 20 = .ok (.iconst 1, 1) := by decide +kernel
theorem d_F_escapeOf_21 : decode b_F_escapeOf 21 = .ok (.iand, 1) := by decide +kernel
theorem d_F_escapeOf_22 : decode b_F_escapeOf 22 = .ok (.iconst 1, 1) := by decide +kernel
theorem d_F_escapeOf_23 : decode b_F_escapeOf 23 = .ok (.if_icmp .ne (7), 3) := by decide +kernel
theorem d_F_escapeOf_26 : decode b_F_escapeOf 26 = .ok (.iconst 1, 1) := by decide +kernel
theorem d_F_escapeOf_27 : decode b_F_escapeOf 27 = .ok (.goto (4), 3) := by decide +kernel
theorem d_F_escapeOf_30 : decode b_F_escapeOf 30 = .ok (.iconst 0, 1) := by decide +kernel
theorem d_F_escapeOf_31 : decode b_F_escapeOf 31 = .ok (.ireturn, 1) := by decide +kernel
theorem d_P_pairLocks_0 : decode b_P_pairLocks 0 = .ok (.iconst 0, 1) := by decide +kernel
theorem d_P_pairLocks_1 : decode b_P_pairLocks 1 = .ok (.istore 4, 2) := by decide +kernel
theorem d_P_pairLocks_3 : decode b_P_pairLocks 3 = .ok (.iload 4, 2) := by decide +kernel
theorem d_P_pairLocks_5 : decode b_P_pairLocks 5 = .ok (.aload_n 1, 1) := by decide +kernel
theorem d_P_pairLocks_6 : decode b_P_pairLocks 6 = .ok (.getfield 55, 3) := by decide +kernel
theorem d_P_pairLocks_9 : decode b_P_pairLocks 9 = .ok (.if_icmp .ge (75), 3) := by decide +kernel
theorem d_P_pairLocks_12 : decode b_P_pairLocks 12 = .ok (.aload_n 1, 1) := by decide +kernel
theorem d_P_pairLocks_13 : decode b_P_pairLocks 13 = .ok (.getfield 62, 3) := by decide +kernel
theorem d_P_pairLocks_16 : decode b_P_pairLocks 16 = .ok (.iload 4, 2) := by decide +kernel
theorem d_P_pairLocks_18 : decode b_P_pairLocks 18 = .ok (.iaload, 1) := by decide +kernel
theorem d_P_pairLocks_19 : decode b_P_pairLocks 19 = .ok (.bipush (10), 2) := by decide +kernel
theorem d_P_pairLocks_21 : decode b_P_pairLocks 21 = .ok (.if_icmp .ne (57), 3) := by decide +kernel
theorem d_P_pairLocks_24 : decode b_P_pairLocks 24 = .ok (.aload_n 1, 1) := by decide +kernel
theorem d_P_pairLocks_25 : decode b_P_pairLocks 25 = .ok (.getfield 75, 3) := by decide +kernel
theorem d_P_pairLocks_28 : decode b_P_pairLocks 28 = .ok (.iload 4, 2) := by decide +kernel
theorem d_P_pairLocks_30 : decode b_P_pairLocks 30 = .ok (.iaload, 1) := by decide +kernel
theorem d_P_pairLocks_31 : decode b_P_pairLocks 31 = .ok (.iload_n 2, 1) := by decide +kernel
theorem d_P_pairLocks_32 : decode b_P_pairLocks 32 = .ok (.if_icmp .ne (46), 3) := by decide +kernel
theorem d_P_pairLocks_35 : decode b_P_pairLocks 35 = .ok (.iload_n 3, 1) := by decide +kernel
theorem d_P_pairLocks_36 : decode b_P_pairLocks 36 = .ok (.iload 4, 2) := by decide +kernel
theorem d_P_pairLocks_38 : decode b_P_pairLocks 38 = .ok (.ishr, 1) := by decide +kernel
theorem d_P_pairLocks_39 : decode b_P_pairLocks 39 = .ok (.iconst 1, 1) := by decide +kernel
theorem d_P_pairLocks_40 : decode b_P_pairLocks 40 = .ok (.iand, 1) := by decide +kernel
theorem d_P_pairLocks_41 : decode b_P_pairLocks 41 = .ok (.iconst 1, 1) := by decide +kernel
theorem d_P_pairLocks_42 : decode b_P_pairLocks 42 = .ok (.if_icmp .ne (6), 3) := by decide +kernel
theorem d_P_pairLocks_45 : decode b_P_pairLocks 45 = .ok (.goto (33), 3) := by decide +kernel
theorem d_P_pairLocks_48 : decode b_P_pairLocks 48 = .ok (.aload_n 1, 1) := by decide +kernel
theorem d_P_pairLocks_49 : decode b_P_pairLocks 49 = .ok (.iload 4, 2) := by decide +kernel
theorem d_P_pairLocks_51 : decode b_P_pairLocks 51 = .ok (.invokestatic 78, 3) := by decide +kernel
theorem d_P_pairLocks_54 : decode b_P_pairLocks 54 = .ok (.istore 5, 2) := by decide +kernel
theorem d_P_pairLocks_56 : decode b_P_pairLocks 56 = .ok (.iload 5, 2) := by decide +kernel
theorem d_P_pairLocks_58 : decode b_P_pairLocks 58 = .ok (.iconst (-1), 1) := by decide +kernel
theorem d_P_pairLocks_59 : decode b_P_pairLocks 59 = .ok (.if_icmp .eq (19), 3) := by decide +kernel
theorem d_P_pairLocks_62 : decode b_P_pairLocks 62 = .ok (.aload_n 0, 1) := by decide +kernel
theorem d_P_pairLocks_63 : decode b_P_pairLocks 63 = .ok (.getfield 9, 3) := by decide +kernel
theorem d_P_pairLocks_66 : decode b_P_pairLocks 66 = .ok (.iload 4, 2) := by decide +kernel
theorem d_P_pairLocks_68 : decode b_P_pairLocks 68 = .ok (.iconst 2, 1) := by decide +kernel
theorem d_P_pairLocks_69 : decode b_P_pairLocks 69 = .ok (.iastore, 1) := by decide +kernel
theorem d_P_pairLocks_70 : decode b_P_pairLocks 70 = .ok (.aload_n 0, 1) := by decide +kernel
theorem d_P_pairLocks_71 : decode b_P_pairLocks 71 = .ok (.getfield 9, 3) := by decide +kernel
theorem d_P_pairLocks_74 : decode b_P_pairLocks 74 = .ok (.iload 5, 2) := by decide +kernel
theorem d_P_pairLocks_76 : decode b_P_pairLocks 76 = .ok (.iconst 2, 1) := by decide +kernel
theorem d_P_pairLocks_77 : decode b_P_pairLocks 77 = .ok (.iastore, 1) := by decide +kernel
theorem d_P_pairLocks_78 : decode b_P_pairLocks 78 = .ok (.iinc 4 (1), 3) := by decide +kernel
theorem d_P_pairLocks_81 : decode b_P_pairLocks 81 = .ok (.goto (-78), 3) := by decide +kernel
theorem d_P_pairLocks_84 : decode b_P_pairLocks 84 = .ok (.return_, 1) := by decide +kernel
theorem d_P_partner_0 : decode b_P_partner 0 = .ok (.iload_n 1, 1) := by decide +kernel
theorem d_P_partner_1 : decode b_P_partner 1 = .ok (.iconst 1, 1) := by decide +kernel
theorem d_P_partner_2 : decode b_P_partner 2 = .ok (.iadd, 1) := by decide +kernel
theorem d_P_partner_3 : decode b_P_partner 3 = .ok (.istore_n 2, 1) := by decide +kernel
theorem d_P_partner_4 : decode b_P_partner 4 = .ok (.iload_n 2, 1) := by decide +kernel
theorem d_P_partner_5 : decode b_P_partner 5 = .ok (.aload_n 0, 1) := by decide +kernel
theorem d_P_partner_6 : decode b_P_partner 6 = .ok (.getfield 55, 3) := by decide +kernel
theorem d_P_partner_9 : decode b_P_partner 9 = .ok (.if_icmp .ge (66), 3) := by decide +kernel
theorem d_P_partner_12 : decode b_P_partner 12 = .ok (.aload_n 0, 1) := by decide +kernel
theorem d_P_partner_13 : decode b_P_partner 13 = .ok (.getfield 62, 3) := by decide +kernel
theorem d_P_partner_16 : decode b_P_partner 16 = .ok (.iload_n 2, 1) := by decide +kernel
theorem d_P_partner_17 : decode b_P_partner 17 = .ok (.iaload, 1) := by decide +kernel
theorem d_P_partner_18 : decode b_P_partner 18 = .ok (.bipush (11), 2) := by decide +kernel
theorem d_P_partner_20 : decode b_P_partner 20 = .ok (.if_icmp .ne (35), 3) := by decide +kernel
theorem d_P_partner_23 : decode b_P_partner 23 = .ok (.aload_n 0, 1) := by decide +kernel
theorem d_P_partner_24 : decode b_P_partner 24 = .ok (.getfield 75, 3) := by decide +kernel
theorem d_P_partner_27 : decode b_P_partner 27 = .ok (.iload_n 2, 1) := by decide +kernel
theorem d_P_partner_28 : decode b_P_partner 28 = .ok (.iaload, 1) := by decide +kernel
theorem d_P_partner_29 : decode b_P_partner 29 = .ok (.aload_n 0, 1) := by decide +kernel
theorem d_P_partner_30 : decode b_P_partner 30 = .ok (.getfield 75, 3) := by decide +kernel
theorem d_P_partner_33 : decode b_P_partner 33 = .ok (.iload_n 1, 1) := by decide +kernel
theorem d_P_partner_34 : decode b_P_partner 34 = .ok (.iaload, 1) := by decide +kernel
theorem d_P_partner_35 : decode b_P_partner 35 = .ok (.if_icmp .ne (20), 3) := by decide +kernel
theorem d_P_partner_38 : decode b_P_partner 38 = .ok (.aload_n 0, 1) := by decide +kernel
theorem d_P_partner_39 : decode b_P_partner 39 = .ok (.iload_n 1, 1) := by decide +kernel
theorem d_P_partner_40 : decode b_P_partner 40 = .ok (.iconst 1, 1) := by decide +kernel
theorem d_P_partner_41 : decode b_P_partner 41 = .ok (.iadd, 1) := by decide +kernel
theorem d_P_partner_42 : decode b_P_partner 42 = .ok (.iload_n 2, 1) := by decide +kernel
theorem d_P_partner_43 : decode b_P_partner 43 = .ok (.invokestatic 81, 3) := by decide +kernel
theorem d_P_partner_46 : decode b_P_partner 46 = .ok (.ifCond .eq (7), 3) := by decide +kernel
theorem d_P_partner_49 : decode b_P_partner 49 = .ok (.iconst (-1), 1) := by decide +kernel
theorem d_P_partner_50 : decode b_P_partner 50 = .ok (.goto (4), 3) := by decide +kernel
theorem d_P_partner_53 : decode b_P_partner 53 = .ok (.iload_n 2, 1) := by decide +kernel
theorem d_P_partner_54 : decode b_P_partner 54 = .ok (.ireturn, 1) := by decide +kernel
theorem d_P_partner_55 : decode b_P_partner 55 = .ok (.aload_n 0, 1) := by decide +kernel
theorem d_P_partner_56 : decode b_P_partner 56 = .ok (.getfield 62, 3) := by decide +kernel
theorem d_P_partner_59 : decode b_P_partner 59 = .ok (.iload_n 2, 1) := by decide +kernel
theorem d_P_partner_60 : decode b_P_partner 60 = .ok (.iaload, 1) := by decide +kernel
theorem d_P_partner_61 : decode b_P_partner 61 = .ok (.invokestatic 84, 3) := by decide +kernel
theorem d_P_partner_64 : decode b_P_partner 64 = .ok (.ifCond .eq (5), 3) := by decide +kernel
theorem d_P_partner_67 : decode b_P_partner 67 = .ok (.iconst (-1), 1) := by decide +kernel
theorem d_P_partner_68 : decode b_P_partner 68 = .ok (.ireturn, 1) := by decide +kernel
theorem d_P_partner_69 : decode b_P_partner 69 = .ok (.iinc 2 (1), 3) := by decide +kernel
theorem d_P_partner_72 : decode b_P_partner 72 = .ok (.goto (-68), 3) := by decide +kernel
theorem d_P_partner_75 : decode b_P_partner 75 = .ok (.iconst (-1), 1) := by decide +kernel
theorem d_P_partner_76 : decode b_P_partner 76 = .ok (.ireturn, 1) := by decide +kernel
theorem d_P_isJumpedInto_0 : decode b_P_isJumpedInto 0 = .ok (.iconst 0, 1) := by decide +kernel
theorem d_P_isJumpedInto_1 : decode b_P_isJumpedInto 1 = .ok (.istore_n 3, 1) := by decide +kernel
theorem d_P_isJumpedInto_2 : decode b_P_isJumpedInto 2 = .ok (.iload_n 3, 1) := by decide +kernel
theorem d_P_isJumpedInto_3 : decode b_P_isJumpedInto 3 = .ok (.aload_n 0, 1) := by decide +kernel
theorem d_P_isJumpedInto_4 : decode b_P_isJumpedInto 4 = .ok (.getfield 55, 3) := by decide +kernel
theorem d_P_isJumpedInto_7 : decode b_P_isJumpedInto 7 = .ok (.if_icmp .ge (39), 3) := by decide +kernel
theorem d_P_isJumpedInto_10 : decode b_P_isJumpedInto 10 = .ok (.aload_n 0, 1) := by decide +kernel
theorem d_P_isJumpedInto_11 : decode b_P_isJumpedInto 11 = .ok (.iload_n 3, 1) := by decide +kernel
theorem d_P_isJumpedInto_12 : decode b_P_isJumpedInto 12 = .ok (.invokevirtual 88, 3) := by decide +kernel
theorem d_P_isJumpedInto_15 : decode b_P_isJumpedInto 15 = .ok (.ifCond .eq (25), 3) := by decide +kernel
theorem d_P_isJumpedInto_18 : decode b_P_isJumpedInto 18 = .ok (.aload_n 0, 1) := by decide +kernel
theorem d_P_isJumpedInto_19 : decode b_P_isJumpedInto 19 = .ok (.getfield 65, 3) := by decide +kernel
theorem d_P_isJumpedInto_22 : decode b_P_isJumpedInto 22 = .ok (.iload_n 3, 1) := by decide +kernel
theorem d_P_isJumpedInto_23 : decode b_P_isJumpedInto 23 = .ok (.iaload, 1) := by decide +kernel
theorem d_P_isJumpedInto_24 : decode b_P_isJumpedInto 24 = .ok (.iload_n 1, 1) := by decide +kernel
theorem d_P_isJumpedInto_25 : decode b_P_isJumpedInto 25 = .ok (.if_icmp .lt (15), 3) := by decide +kernel
theorem d_P_isJumpedInto_28 : decode b_P_isJumpedInto 28 = .ok (.aload_n 0, 1) := by decide +kernel
theorem d_P_isJumpedInto_29 : decode b_P_isJumpedInto 29 = .ok (.getfield 65, 3) := by decide +kernel
theorem d_P_isJumpedInto_32 : decode b_P_isJumpedInto 32 = .ok (.iload_n 3, 1) := by decide +kernel
theorem d_P_isJumpedInto_33 : decode b_P_isJumpedInto 33 = .ok (.iaload, 1) := by decide +kernel
theorem d_P_isJumpedInto_34 : decode b_P_isJumpedInto 34 = .ok (.iload_n 2, 1) := by decide +kernel
theorem d_P_isJumpedInto_35 : decode b_P_isJumpedInto 35 = .ok (.if_icmp .gt (5), 3) := by decide +kernel
theorem d_P_isJumpedInto_38 : decode b_P_isJumpedInto 38 = .ok (.iconst 1, 1) := by decide +kernel
theorem d_P_isJumpedInto_39 : decode b_P_isJumpedInto 39 = .ok (.ireturn, 1) := by decide +kernel
theorem d_P_isJumpedInto_40 : decode b_P_isJumpedInto 40 = .ok (.iinc 3 (1), 3) := by decide +kernel
theorem d_P_isJumpedInto_43 : decode b_P_isJumpedInto 43 = .ok (.goto (-41), 3) := by decide +kernel
theorem d_P_isJumpedInto_46 : decode b_P_isJumpedInto 46 = .ok (.iconst 0, 1) := by decide +kernel
theorem d_P_isJumpedInto_47 : decode b_P_isJumpedInto 47 = .ok (.ireturn, 1) := by decide +kernel
theorem d_P_endsPairing_0 : decode b_P_endsPairing 0 = .ok (.iload_n 0, 1) := by decide +kernel
theorem d_P_endsPairing_1 : decode b_P_endsPairing 1 = .ok (.tableswitch (89) (0) (17) #[87, 89, 89, 89, 89, 89, 89, 89, 89, 89, 87, 87, 89, 89, 87, 87, 87, 87], 87) := by decide +kernel
theorem d_P_endsPairing_88 : decode b_P_endsPairing 88 = .ok (.iconst 1, 1) := by decide +kernel
theorem d_P_endsPairing_89 : decode b_P_endsPairing 89 = .ok (.ireturn, 1) := by decide +kernel
theorem d_P_endsPairing_90 : decode b_P_endsPairing 90 = .ok (.iconst 0, 1) := by decide +kernel
theorem d_P_endsPairing_91 : decode b_P_endsPairing 91 = .ok (.ireturn, 1) := by decide +kernel
theorem d_E_latest_0 : decode b_E_latest 0 = .ok (.iload_n 1, 1) := by decide +kernel
theorem d_E_latest_1 : decode b_E_latest 1 = .ok (.tableswitch (75) (0) (4) #[35, 43, 51, 59, 67], 35) := by decide +kernel
theorem d_E_latest_36 : decode b_E_latest 36 = .ok (.aload_n 0, 1) := by decide +kernel
theorem d_E_latest_37 : decode b_E_latest 37 = .ok (.getfield 30, 3) := by decide +kernel
theorem d_E_latest_40 : decode b_E_latest 40 = .ok (.getfield 83, 3) := by decide +kernel
theorem d_E_latest_43 : decode b_E_latest 43 = .ok (.ireturn, 1) := by decide +kernel
theorem d_E_latest_44 : decode b_E_latest 44 = .ok (.aload_n 0, 1) := by decide +kernel
theorem d_E_latest_45 : decode b_E_latest 45 = .ok (.getfield 30, 3) := by decide +kernel
theorem d_E_latest_48 : decode b_E_latest 48 = .ok (.getfield 73, 3) := by decide +kernel
theorem d_E_latest_51 : decode b_E_latest 51 = .ok (.ireturn, 1) := by decide +kernel
theorem d_E_latest_52 : decode b_E_latest 52 = .ok (.aload_n 0, 1) := by decide +kernel
theorem d_E_latest_53 : decode b_E_latest 53 = .ok (.getfield 30, 3) := by decide +kernel
theorem d_E_latest_56 : decode b_E_latest 56 = .ok (.getfield 86, 3) := by decide +kernel
theorem d_E_latest_59 : decode b_E_latest 59 = .ok (.ireturn, 1) := by decide +kernel
theorem d_E_latest_60 : decode b_E_latest 60 = .ok (.aload_n 0, 1) := by decide +kernel
theorem d_E_latest_61 : decode b_E_latest 61 = .ok (.getfield 30, 3) := by decide +kernel
theorem d_E_latest_64 : decode b_E_latest 64 = .ok (.getfield 89, 3) := by decide +kernel
theorem d_E_latest_67 : decode b_E_latest 67 = .ok (.ireturn, 1) := by decide +kernel
theorem d_E_latest_68 : decode b_E_latest 68 = .ok (.aload_n 0, 1) := by decide +kernel
theorem d_E_latest_69 : decode b_E_latest 69 = .ok (.getfield 30, 3) := by decide +kernel
theorem d_E_latest_72 : decode b_E_latest 72 = .ok (.getfield 92, 3) := by decide +kernel
theorem d_E_latest_75 : decode b_E_latest 75 = .ok (.ireturn, 1) := by decide +kernel
theorem d_E_latest_76 : decode b_E_latest 76 = .ok (.iconst (-1), 1) := by decide +kernel
theorem d_E_latest_77 : decode b_E_latest 77 = .ok (.ireturn, 1) := by decide +kernel
theorem d_E_escape_0 : decode b_E_escape 0 = .ok (.iload_n 1, 1) := by decide +kernel
theorem d_E_escape_1 : decode b_E_escape 1 = .ok (.invokestatic 41, 3) := by decide +kernel
theorem d_E_escape_4 : decode b_E_escape 4 = .ok (.ifCond .eq (30), 3) := by decide +kernel
theorem d_E_escape_7 : decode b_E_escape 7 = .ok (.aload_n 0, 1) := by decide +kernel
theorem d_E_escape_8 : decode b_E_escape 8 = .ok (.getfield 11, 3) := by decide +kernel
theorem d_E_escape_11 : decode b_E_escape 11 = .ok (.iload_n 1, 1) := by decide +kernel
theorem d_E_escape_12 : decode b_E_escape 12 = .ok (.aaload, 1) := by decide +kernel
theorem d_E_escape_13 : decode b_E_escape 13 = .ok (.iload_n 2, 1) := by decide +kernel
theorem d_E_escape_14 : decode b_E_escape 14 = .ok (.invokevirtual 95, 3) := by decide +kernel
theorem d_E_escape_17 : decode b_E_escape 17 = .ok (.ifCond .eq (17), 3) := by decide +kernel
theorem d_E_escape_20 : decode b_E_escape 20 = .ok (.aload_n 0, 1) := by decide +kernel
theorem d_E_escape_21 : decode b_E_escape 21 = .ok (.getfield 11, 3) := by decide +kernel
theorem d_E_escape_24 : decode b_E_escape 24 = .ok (.iload_n 1, 1) := by decide +kernel
theorem d_E_escape_25 : decode b_E_escape 25 = .ok (.aaload, 1) := by decide +kernel
theorem d_E_escape_26 : decode b_E_escape 26 = .ok (.getfield 98, 3) := by decide +kernel
theorem d_E_escape_29 : decode b_E_escape 29 = .ok (.iload_n 2, 1) := by decide +kernel
theorem d_E_escape_30 : decode b_E_escape 30 = .ok (.iaload, 1) := by decide +kernel
theorem d_E_escape_31 : decode b_E_escape 31 = .ok (.ifCond .eq (5), 3) := by decide +kernel
theorem d_E_escape_34 : decode b_E_escape 34 = .ok (.iconst (-1), 1) := by decide +kernel
theorem d_E_escape_35 : decode b_E_escape 35 = .ok (.ireturn, 1) := by decide +kernel
theorem d_E_escape_36 : decode b_E_escape 36 = .ok (.aload_n 0, 1) := by decide +kernel
theorem d_E_escape_37 : decode b_E_escape 37 = .ok (.invokevirtual 66, 3) := by decide +kernel
theorem d_E_escape_40 : decode b_E_escape 40 = .ok (.aload_n 0, 1) := by decide +kernel
theorem d_E_escape_41 : decode b_E_escape 41 = .ok (.getfield 17, 3) := by decide +kernel
theorem d_E_escape_44 : decode b_E_escape 44 = .ok (.iload_n 1, 1) := by decide +kernel
theorem d_E_escape_45 : decode b_E_escape 45 = .ok (.aaload, 1) := by decide +kernel
theorem d_E_escape_46 : decode b_E_escape 46 = .ok (.iload_n 2, 1) := by decide +kernel
theorem d_E_escape_47 : decode b_E_escape 47 = .ok (.invokevirtual 101, 3) := by decide +kernel
theorem d_E_escape_50 : decode b_E_escape 50 = .ok (.ireturn, 1) := by decide +kernel
theorem d_E_isMethod_0 : decode b_E_isMethod 0 = .ok (.iload_n 0, 1) := by decide +kernel
theorem d_E_isMethod_1 : decode b_E_isMethod 1 = .ok (.ifCond .lt (12), 3) := by decide +kernel
theorem d_E_isMethod_4 : decode b_E_isMethod 4 = .ok (.iload_n 0, 1) := by decide +kernel
theorem d_E_isMethod_5 : decode b_E_isMethod 5 = .ok (.iconst 5, 1) := by decide +kernel
theorem d_E_isMethod_6 : decode b_E_isMethod 6 = .ok (.if_icmp .ge (7), 3) := by decide +kernel
theorem d_E_isMethod_9 : decode b_E_isMethod 9 = .ok (.iconst 1, 1) := by decide +kernel
theorem d_E_isMethod_10 : decode b_E_isMethod 10 = .ok (.goto (4), 3) := by decide +kernel
theorem d_E_isMethod_13 : decode b_E_isMethod 13 = .ok (.iconst 0, 1) := by decide +kernel
theorem d_E_isMethod_14 : decode b_E_isMethod 14 = .ok (.ireturn, 1) := by decide +kernel
theorem d_E_summary_0 : decode b_E_summary 0 = .ok (.iload_n 1, 1) := by decide +kernel
theorem d_E_summary_1 : decode b_E_summary 1 = .ok (.invokestatic 41, 3) := by decide +kernel
theorem d_E_summary_4 : decode b_E_summary 4 = .ok (.ifCond .eq (20), 3) := by decide +kernel
theorem d_E_summary_7 : decode b_E_summary 7 = .ok (.iload_n 2, 1) := by decide +kernel
theorem d_E_summary_8 : decode b_E_summary 8 = .ok (.ifCond .lt (16), 3) := by decide +kernel
theorem d_E_summary_11 : decode b_E_summary 11 = .ok (.iload_n 2, 1) := by decide +kernel
theorem d_E_summary_12 : decode b_E_summary 12 = .ok (.aload_n 0, 1) := by decide +kernel
theorem d_E_summary_13 : decode b_E_summary 13 = .ok (.getfield 11, 3) := by decide +kernel
theorem d_E_summary_16 : decode b_E_summary 16 = .ok (.iload_n 1, 1) := by decide +kernel
theorem d_E_summary_17 : decode b_E_summary 17 = .ok (.aaload, 1) := by decide +kernel
theorem d_E_summary_18 : decode b_E_summary 18 = .ok (.getfield 48, 3) := by decide +kernel
theorem d_E_summary_21 : decode b_E_summary 21 = .ok (.if_icmp .lt (5), 3) := by decide +kernel
theorem d_E_summary_24 : decode b_E_summary 24 = .ok (.iconst (-1), 1) := by decide +kernel
theorem d_E_summary_25 : decode b_E_summary 25 = .ok (.ireturn, 1) := by decide +kernel
theorem d_E_summary_26 : decode b_E_summary 26 = .ok (.aload_n 0, 1) := by decide +kernel
theorem d_E_summary_27 : decode b_E_summary 27 = .ok (.invokevirtual 66, 3) := by decide +kernel
theorem d_E_summary_30 : decode b_E_summary 30 = .ok (.aload_n 0, 1) := by decide +kernel
theorem d_E_summary_31 : decode b_E_summary 31 = .ok (.getfield 17, 3) := by decide +kernel
theorem d_E_summary_34 : decode b_E_summary 34 = .ok (.iload_n 1, 1) := by decide +kernel
theorem d_E_summary_35 : decode b_E_summary 35 = .ok (.aaload, 1) := by decide +kernel
theorem d_E_summary_36 : decode b_E_summary 36 = .ok (.getfield 105, 3) := by decide +kernel
theorem d_E_summary_39 : decode b_E_summary 39 = .ok (.iload_n 2, 1) := by decide +kernel
theorem d_E_summary_40 : decode b_E_summary 40 = .ok (.iaload, 1) := by decide +kernel
theorem d_E_summary_41 : decode b_E_summary 41 = .ok (.ireturn, 1) := by decide +kernel
theorem d_E_fate_0 : decode b_E_fate 0 = .ok (.iload_n 1, 1) := by decide +kernel
theorem d_E_fate_1 : decode b_E_fate 1 = .ok (.invokestatic 41, 3) := by decide +kernel
theorem d_E_fate_4 : decode b_E_fate 4 = .ok (.ifCond .eq (16), 3) := by decide +kernel
theorem d_E_fate_7 : decode b_E_fate 7 = .ok (.aload_n 0, 1) := by decide +kernel
theorem d_E_fate_8 : decode b_E_fate 8 = .ok (.getfield 11, 3) := by decide +kernel
theorem d_E_fate_11 : decode b_E_fate 11 = .ok (.iload_n 1, 1) := by decide +kernel
theorem d_E_fate_12 : decode b_E_fate 12 = .ok (.aaload, 1) := by decide +kernel
theorem d_E_fate_13 : decode b_E_fate 13 = .ok (.iload_n 2, 1) := by decide +kernel
theorem d_E_fate_14 : decode b_E_fate 14 = .ok (.invokevirtual 95, 3) := by decide +kernel
theorem d_E_fate_17 : decode b_E_fate 17 = .ok (.ifCond .ne (5), 3) := by decide +kernel
theorem d_E_fate_20 : decode b_E_fate 20 = .ok (.iconst (-1), 1) := by decide +kernel
theorem d_E_fate_21 : decode b_E_fate 21 = .ok (.ireturn, 1) := by decide +kernel
theorem d_E_fate_22 : decode b_E_fate 22 = .ok (.aload_n 0, 1) := by decide +kernel
theorem d_E_fate_23 : decode b_E_fate 23 = .ok (.invokevirtual 66, 3) := by decide +kernel
theorem d_E_fate_26 : decode b_E_fate 26 = .ok (.aload_n 0, 1) := by decide +kernel
theorem d_E_fate_27 : decode b_E_fate 27 = .ok (.getfield 23, 3) := by decide +kernel
theorem d_E_fate_30 : decode b_E_fate 30 = .ok (.iload_n 1, 1) := by decide +kernel
theorem d_E_fate_31 : decode b_E_fate 31 = .ok (.aaload, 1) := by decide +kernel
theorem d_E_fate_32 : decode b_E_fate 32 = .ok (.getfield 108, 3) := by decide +kernel
theorem d_E_fate_35 : decode b_E_fate 35 = .ok (.iload_n 2, 1) := by decide +kernel
theorem d_E_fate_36 : decode b_E_fate 36 = .ok (.iaload, 1) := by decide +kernel
theorem d_E_fate_37 : decode b_E_fate 37 = .ok (.ireturn, 1) := by decide +kernel
theorem d_E_may_0 : decode b_E_may 0 = .ok (.iload_n 1, 1) := by decide +kernel
theorem d_E_may_1 : decode b_E_may 1 = .ok (.invokestatic 41, 3) := by decide +kernel
theorem d_E_may_4 : decode b_E_may 4 = .ok (.ifCond .eq (12), 3) := by decide +kernel
theorem d_E_may_7 : decode b_E_may 7 = .ok (.iload_n 2, 1) := by decide +kernel
theorem d_E_may_8 : decode b_E_may 8 = .ok (.ifCond .lt (8), 3) := by decide +kernel
theorem d_E_may_11 : decode b_E_may 11 = .ok (.iload_n 2, 1) := by decide +kernel
theorem d_E_may_12 : decode b_E_may 12 = .ok (.iconst 4, 1) := by decide +kernel
theorem d_E_may_13 : decode b_E_may 13 = .ok (.if_icmp .lt (5), 3) := by decide +kernel
theorem d_E_may_16 : decode b_E_may 16 = .ok (.iconst (-1), 1) := by decide +kernel
theorem d_E_may_17 : decode b_E_may 17 = .ok (.ireturn, 1) := by decide +kernel
theorem d_E_may_18 : decode b_E_may 18 = .ok (.aload_n 0, 1) := by decide +kernel
theorem d_E_may_19 : decode b_E_may 19 = .ok (.invokevirtual 66, 3) := by decide +kernel
theorem d_E_may_22 : decode b_E_may 22 = .ok (.aload_n 0, 1) := by decide +kernel
theorem d_E_may_23 : decode b_E_may 23 = .ok (.getfield 17, 3) := by decide +kernel
theorem d_E_may_26 : decode b_E_may 26 = .ok (.iload_n 1, 1) := by decide +kernel
theorem d_E_may_27 : decode b_E_may 27 = .ok (.aaload, 1) := by decide +kernel
theorem d_E_may_28 : decode b_E_may 28 = .ok (.getfield 111, 3) := by decide +kernel
theorem d_E_may_31 : decode b_E_may 31 = .ok (.iload_n 2, 1) := by decide +kernel
theorem d_E_may_32 : decode b_E_may 32 = .ok (.iaload, 1) := by decide +kernel
theorem d_E_may_33 : decode b_E_may 33 = .ok (.ireturn, 1) := by decide +kernel
theorem d_E_length_0 : decode b_E_length 0 = .ok (.iload_n 1, 1) := by decide +kernel
theorem d_E_length_1 : decode b_E_length 1 = .ok (.invokestatic 41, 3) := by decide +kernel
theorem d_E_length_4 : decode b_E_length 4 = .ok (.ifCond .eq (15), 3) := by decide +kernel
theorem d_E_length_7 : decode b_E_length 7 = .ok (.aload_n 0, 1) := by decide +kernel
theorem d_E_length_8 : decode b_E_length 8 = .ok (.getfield 11, 3) := by decide +kernel
theorem d_E_length_11 : decode b_E_length 11 = .ok (.iload_n 1, 1) := by decide +kernel
theorem d_E_length_12 : decode b_E_length 12 = .ok (.aaload, 1) := by decide +kernel
theorem d_E_length_13 : decode b_E_length 13 = .ok (.getfield 56, 3) := by decide +kernel
theorem d_E_length_16 : decode b_E_length 16 = .ok (.goto (4), 3) := by decide +kernel
theorem d_E_length_19 : decode b_E_length 19 = .ok (.iconst (-1), 1) := by decide +kernel
theorem d_E_length_20 : decode b_E_length 20 = .ok (.ireturn, 1) := by decide +kernel
theorem d_E_parameters_0 : decode b_E_parameters 0 = .ok (.iload_n 1, 1) := by decide +kernel
theorem d_E_parameters_1 : decode b_E_parameters 1 = .ok (.invokestatic 41, 3) := by decide +kernel
theorem d_E_parameters_4 : decode b_E_parameters 4 = .ok (.ifCond .eq (12), 3) := by decide +kernel
theorem d_E_parameters_7 : decode b_E_parameters 7 = .ok (.iload_n 2, 1) := by decide +kernel
theorem d_E_parameters_8 : decode b_E_parameters 8 = .ok (.ifCond .lt (8), 3) := by decide +kernel
theorem d_E_parameters_11 : decode b_E_parameters 11 = .ok (.iload_n 2, 1) := by decide +kernel
theorem d_E_parameters_12 : decode b_E_parameters 12 = .ok (.iconst 2, 1) := by decide +kernel
theorem d_E_parameters_13 : decode b_E_parameters 13 = .ok (.if_icmp .le (11), 3) := by decide +kernel
theorem d_E_parameters_16 : decode b_E_parameters 16 = .ok (.new 45, 3) := by decide +kernel
theorem d_E_parameters_19 : decode b_E_parameters 19 = .ok (.dup, 1) := by decide +kernel
theorem d_E_parameters_20 : decode b_E_parameters 20 = .ok (.invokespecial 47, 3) := by decide +kernel
theorem d_E_parameters_23 : decode b_E_parameters 23 = .ok (.athrow, 1) := by decide +kernel
theorem d_E_parameters_24 : decode b_E_parameters 24 = .ok (.aload_n 0, 1) := by decide +kernel
theorem d_E_parameters_25 : decode b_E_parameters 25 = .ok (.getfield 11, 3) := by decide +kernel
theorem d_E_parameters_28 : decode b_E_parameters 28 = .ok (.iload_n 1, 1) := by decide +kernel
theorem d_E_parameters_29 : decode b_E_parameters 29 = .ok (.aaload, 1) := by decide +kernel
theorem d_E_parameters_30 : decode b_E_parameters 30 = .ok (.iload_n 2, 1) := by decide +kernel
theorem d_E_parameters_31 : decode b_E_parameters 31 = .ok (.putfield 48, 3) := by decide +kernel
theorem d_E_parameters_34 : decode b_E_parameters 34 = .ok (.aload_n 0, 1) := by decide +kernel
theorem d_E_parameters_35 : decode b_E_parameters 35 = .ok (.iconst 1, 1) := by decide +kernel
theorem d_E_parameters_36 : decode b_E_parameters 36 = .ok (.putfield 34, 3) := by decide +kernel
theorem d_E_parameters_39 : decode b_E_parameters 39 = .ok (.iconst 1, 1) := by decide +kernel
theorem d_E_parameters_40 : decode b_E_parameters 40 = .ok (.ireturn, 1) := by decide +kernel
theorem d_E_put_0 : decode b_E_put 0 = .ok (.iload_n 1, 1) := by decide +kernel
theorem d_E_put_1 : decode b_E_put 1 = .ok (.invokestatic 41, 3) := by decide +kernel
theorem d_E_put_4 : decode b_E_put 4 = .ok (.ifCond .eq (17), 3) := by decide +kernel
theorem d_E_put_7 : decode b_E_put 7 = .ok (.iload_n 2, 1) := by decide +kernel
theorem d_E_put_8 : decode b_E_put 8 = .ok (.iload_n 3, 1) := by decide +kernel
theorem d_E_put_9 : decode b_E_put 9 = .ok (.iload 4, 2) := by decide +kernel
theorem d_E_put_11 : decode b_E_put 11 = .ok (.iload 5, 2) := by decide +kernel
theorem d_E_put_13 : decode b_E_put 13 = .ok (.iload 6, 2) := by decide +kernel
theorem d_E_put_15 : decode b_E_put 15 = .ok (.invokestatic 52, 3) := by decide +kernel
theorem d_E_put_18 : decode b_E_put 18 = .ok (.ifCond .ne (11), 3) := by decide +kernel
theorem d_E_put_21 : decode b_E_put 21 = .ok (.new 45, 3) := by decide +kernel
theorem d_E_put_24 : decode b_E_put 24 = .ok (.dup, 1) := by decide +kernel
theorem d_E_put_25 : decode b_E_put 25 = .ok (.invokespecial 47, 3) := by decide +kernel
theorem d_E_put_28 : decode b_E_put 28 = .ok (.athrow, 1) := by decide +kernel
theorem d_E_put_29 : decode b_E_put 29 = .ok (.aload_n 0, 1) := by decide +kernel
theorem d_E_put_30 : decode b_E_put 30 = .ok (.getfield 11, 3) := by decide +kernel
theorem d_E_put_33 : decode b_E_put 33 = .ok (.iload_n 1, 1) := by decide +kernel
theorem d_E_put_34 : decode b_E_put 34 = .ok (.aaload, 1) := by decide +kernel
theorem d_E_put_35 : decode b_E_put 35 = .ok (.getfield 56, 3) := by decide +kernel
theorem d_E_put_38 : decode b_E_put 38 = .ok (.bipush (24), 2) := by decide +kernel
theorem d_E_put_40 : decode b_E_put 40 = .ok (.if_icmp .lt (11), 3) := by decide +kernel
theorem d_E_put_43 : decode b_E_put 43 = .ok (.new 59, 3) := by decide +kernel
theorem d_E_put_46 : decode b_E_put 46 = .ok (.dup, 1) := by decide +kernel
theorem d_E_put_47 : decode b_E_put 47 = .ok (.invokespecial 61, 3) := by decide +kernel
theorem d_E_put_50 : decode b_E_put 50 = .ok (.athrow, 1) := by decide +kernel
theorem d_E_put_51 : decode b_E_put 51 = .ok (.aload_n 0, 1) := by decide +kernel
theorem d_E_put_52 : decode b_E_put 52 = .ok (.iconst 1, 1) := by decide +kernel
theorem d_E_put_53 : decode b_E_put 53 = .ok (.putfield 34, 3) := by decide +kernel
theorem d_E_put_56 : decode b_E_put 56 = .ok (.aload_n 0, 1) := by decide +kernel
theorem d_E_put_57 : decode b_E_put 57 = .ok (.getfield 11, 3) := by decide +kernel
theorem d_E_put_60 : decode b_E_put 60 = .ok (.iload_n 1, 1) := by decide +kernel
theorem d_E_put_61 : decode b_E_put 61 = .ok (.aaload, 1) := by decide +kernel
theorem d_E_put_62 : decode b_E_put 62 = .ok (.iload_n 2, 1) := by decide +kernel
theorem d_E_put_63 : decode b_E_put 63 = .ok (.iload_n 3, 1) := by decide +kernel
theorem d_E_put_64 : decode b_E_put 64 = .ok (.iload 4, 2) := by decide +kernel
theorem d_E_put_66 : decode b_E_put 66 = .ok (.iload 5, 2) := by decide +kernel
theorem d_E_put_68 : decode b_E_put 68 = .ok (.iload 6, 2) := by decide +kernel
theorem d_E_put_70 : decode b_E_put 70 = .ok (.invokevirtual 62, 3) := by decide +kernel
theorem d_E_put_73 : decode b_E_put 73 = .ok (.ireturn, 1) := by decide +kernel
theorem d_E_isInstruction_0 : decode b_E_isInstruction 0 = .ok (.iload_n 0, 1) := by decide +kernel
theorem d_E_isInstruction_1 : decode b_E_isInstruction 1 = .ok (.ifCond .lt (30), 3) := by decide +kernel
theorem d_E_isInstruction_4 : decode b_E_isInstruction 4 = .ok (.iload_n 0, 1) := by decide +kernel
theorem d_E_isInstruction_5 : decode b_E_isInstruction 5 = .ok (.bipush (18), 2) := by decide +kernel
theorem d_E_isInstruction_7 : decode b_E_isInstruction 7 = .ok (.if_icmp .gt (24), 3) := by decide +kernel
theorem d_E_isInstruction_10 : decode b_E_isInstruction 10 = .ok (.iload_n 1, 1) := by decide +kernel
theorem d_E_isInstruction_11 : decode b_E_isInstruction 11 = .ok (.invokestatic 114, 3) := by decide +kernel
theorem d_E_isInstruction_14 : decode b_E_isInstruction 14 = .ok (.ifCond .eq (17), 3) := by decide +kernel
theorem d_E_isInstruction_17 : decode b_E_isInstruction 17 = .ok (.iload_n 2, 1) := by decide +kernel
theorem d_E_isInstruction_18 : decode b_E_isInstruction 18 = .ok (.invokestatic 114, 3) := by decide +kernel
theorem d_E_isInstruction_21 : decode b_E_isInstruction 21 = .ok (.ifCond .eq (10), 3) := by decide +kernel
theorem d_E_isInstruction_24 : decode b_E_isInstruction 24 = .ok (.iload_n 3, 1) := by decide +kernel
theorem d_E_isInstruction_25 : decode b_E_isInstruction 25 = .ok (.invokestatic 114, 3) := by decide +kernel
theorem d_E_isInstruction_28 : decode b_E_isInstruction 28 = .ok (.ifCond .ne (5), 3) := by decide +kernel
theorem d_E_isInstruction_31 : decode b_E_isInstruction 31 = .ok (.iconst 0, 1) := by decide +kernel
theorem d_E_isInstruction_32 : decode b_E_isInstruction 32 = .ok (.ireturn, 1) := by decide +kernel
theorem d_E_isInstruction_33 : decode b_E_isInstruction 33 = .ok (.iload_n 0, 1) := by decide +kernel
theorem d_E_isInstruction_34 : decode b_E_isInstruction 34 = .ok (.iconst 3, 1) := by decide +kernel
theorem d_E_isInstruction_35 : decode b_E_isInstruction 35 = .ok (.if_icmp .eq (19), 3) := by decide +kernel
theorem d_E_isInstruction_38 : decode b_E_isInstruction 38 = .ok (.iload_n 0, 1) := by decide +kernel
theorem d_E_isInstruction_39 : decode b_E_isInstruction 39 = .ok (.iconst 4, 1) := by decide +kernel
theorem d_E_isInstruction_40 : decode b_E_isInstruction 40 = .ok (.if_icmp .eq (14), 3) := by decide +kernel
theorem d_E_isInstruction_43 : decode b_E_isInstruction 43 = .ok (.iload_n 0, 1) := by decide +kernel
theorem d_E_isInstruction_44 : decode b_E_isInstruction 44 = .ok (.iconst 5, 1) := by decide +kernel
theorem d_E_isInstruction_45 : decode b_E_isInstruction 45 = .ok (.if_icmp .eq (9), 3) := by decide +kernel
theorem d_E_isInstruction_48 : decode b_E_isInstruction 48 = .ok (.iload_n 0, 1) := by decide +kernel
theorem d_E_isInstruction_49 : decode b_E_isInstruction 49 = .ok (.bipush (6), 2) := by decide +kernel
theorem d_E_isInstruction_51 : decode b_E_isInstruction 51 = .ok (.if_icmp .ne (7), 3) := by decide +kernel
theorem d_E_isInstruction_54 : decode b_E_isInstruction 54 = .ok (.iconst 1, 1) := by decide +kernel
theorem d_E_isInstruction_55 : decode b_E_isInstruction 55 = .ok (.goto (4), 3) := by decide +kernel
theorem d_E_isInstruction_58 : decode b_E_isInstruction 58 = .ok (.iconst 0, 1) := by decide +kernel
theorem d_E_isInstruction_59 : decode b_E_isInstruction 59 = .ok (.istore 5, 2) := by decide +kernel
theorem d_E_isInstruction_61 : decode b_E_isInstruction 61 = .ok (.iload 5, 2) := by decide +kernel
theorem d_E_isInstruction_63 : decode b_E_isInstruction 63 = .ok (.ifCond .eq (10), 3) := by decide +kernel
theorem d_E_isInstruction_66 : decode b_E_isInstruction 66 = .ok (.iload_n 3, 1) := by decide +kernel
theorem d_E_isInstruction_67 : decode b_E_isInstruction 67 = .ok (.iconst 2, 1) := by decide +kernel
theorem d_E_isInstruction_68 : decode b_E_isInstruction 68 = .ok (.if_icmp .lt (5), 3) := by decide +kernel
theorem d_E_isInstruction_71 : decode b_E_isInstruction 71 = .ok (.iconst 0, 1) := by decide +kernel
theorem d_E_isInstruction_72 : decode b_E_isInstruction 72 = .ok (.ireturn, 1) := by decide +kernel
theorem d_E_isInstruction_73 : decode b_E_isInstruction 73 = .ok (.iload_n 0, 1) := by decide +kernel
theorem d_E_isInstruction_74 : decode b_E_isInstruction 74 = .ok (.bipush (16), 2) := by decide +kernel
theorem d_E_isInstruction_76 : decode b_E_isInstruction 76 = .ok (.if_icmp .ne (11), 3) := by decide +kernel
theorem d_E_isInstruction_79 : decode b_E_isInstruction 79 = .ok (.iload 4, 2) := by decide +kernel
theorem d_E_isInstruction_81 : decode b_E_isInstruction 81 = .ok (.invokestatic 41, 3) := by decide +kernel
theorem d_E_isInstruction_84 : decode b_E_isInstruction 84 = .ok (.ifCond .eq (7), 3) := by decide +kernel
theorem d_E_isInstruction_87 : decode b_E_isInstruction 87 = .ok (.iconst 1, 1) := by decide +kernel
theorem d_E_isInstruction_88 : decode b_E_isInstruction 88 = .ok (.goto (4), 3) := by decide +kernel
theorem d_E_isInstruction_91 : decode b_E_isInstruction 91 = .ok (.iconst 0, 1) := by decide +kernel
theorem d_E_isInstruction_92 : decode b_E_isInstruction 92 = .ok (.ireturn, 1) := by decide +kernel
theorem d_E_isVariable_0 : decode b_E_isVariable 0 = .ok (.iload_n 0, 1) := by decide +kernel
theorem d_E_isVariable_1 : decode b_E_isVariable 1 = .ok (.ifCond .lt (12), 3) := by decide +kernel
theorem d_E_isVariable_4 : decode b_E_isVariable 4 = .ok (.iload_n 0, 1) := by decide +kernel
theorem d_E_isVariable_5 : decode b_E_isVariable 5 = .ok (.iconst 4, 1) := by decide +kernel
theorem d_E_isVariable_6 : decode b_E_isVariable 6 = .ok (.if_icmp .ge (7), 3) := by decide +kernel
theorem d_E_isVariable_9 : decode b_E_isVariable 9 = .ok (.iconst 1, 1) := by decide +kernel
theorem d_E_isVariable_10 : decode b_E_isVariable 10 = .ok (.goto (4), 3) := by decide +kernel
theorem d_E_isVariable_13 : decode b_E_isVariable 13 = .ok (.iconst 0, 1) := by decide +kernel
theorem d_E_isVariable_14 : decode b_E_isVariable 14 = .ok (.ireturn, 1) := by decide +kernel
theorem d_C_append_0 : decode b_C_append 0 = .ok (.aload_n 0, 1) := by decide +kernel
theorem d_C_append_1 : decode b_C_append 1 = .ok (.getfield 27, 3) := by decide +kernel
theorem d_C_append_4 : decode b_C_append 4 = .ok (.istore 6, 2) := by decide +kernel
theorem d_C_append_6 : decode b_C_append 6 = .ok (.aload_n 0, 1) := by decide +kernel
theorem d_C_append_7 : decode b_C_append 7 = .ok (.getfield 9, 3) := by decide +kernel
theorem d_C_append_10 : decode b_C_append 10 = .ok (.iload 6, 2) := by decide +kernel
theorem d_C_append_12 : decode b_C_append 12 = .ok (.iload_n 1, 1) := by decide +kernel
theorem d_C_append_13 : decode b_C_append 13 = .ok (.iastore, 1) := by decide +kernel
theorem d_C_append_14 : decode b_C_append 14 = .ok (.aload_n 0, 1) := by decide +kernel
theorem d_C_append_15 : decode b_C_append 15 = .ok (.getfield 15, 3) := by decide +kernel
theorem d_C_append_18 : decode b_C_append 18 = .ok (.iload 6, 2) := by decide +kernel
theorem d_C_append_20 : decode b_C_append 20 = .ok (.iload_n 2, 1) := by decide +kernel
theorem d_C_append_21 : decode b_C_append 21 = .ok (.iastore, 1) := by decide +kernel
theorem d_C_append_22 : decode b_C_append 22 = .ok (.aload_n 0, 1) := by decide +kernel
theorem d_C_append_23 : decode b_C_append 23 = .ok (.getfield 18, 3) := by decide +kernel
theorem d_C_append_26 : decode b_C_append 26 = .ok (.iload 6, 2) := by decide +kernel
theorem d_C_append_28 : decode b_C_append 28 = .ok (.iload_n 3, 1) := by decide +kernel
theorem d_C_append_29 : decode b_C_append 29 = .ok (.iastore, 1) := by decide +kernel
theorem d_C_append_30 : decode b_C_append 30 = .ok (.aload_n 0, 1) := by decide +kernel
theorem d_C_append_31 : decode b_C_append 31 = .ok (.getfield 21, 3) := by decide +kernel
theorem d_C_append_34 : decode b_C_append 34 = .ok (.iload 6, 2) := by decide +kernel
theorem d_C_append_36 : decode b_C_append 36 = .ok (.iload 4, 2) := by decide +kernel
theorem d_C_append_38 : decode b_C_append 38 = .ok (.iastore, 1) := by decide +kernel
theorem d_C_append_39 : decode b_C_append 39 = .ok (.aload_n 0, 1) := by decide +kernel
theorem d_C_append_40 : decode b_C_append 40 = .ok (.getfield 24, 3) := by decide +kernel
theorem d_C_append_43 : decode b_C_append 43 = .ok (.iload 6, 2) := by decide +kernel
theorem d_C_append_45 : decode b_C_append 45 = .ok (.iload 5, 2) := by decide +kernel
theorem d_C_append_47 : decode b_C_append 47 = .ok (.iastore, 1) := by decide +kernel
theorem d_C_append_48 : decode b_C_append 48 = .ok (.aload_n 0, 1) := by decide +kernel
theorem d_C_append_49 : decode b_C_append 49 = .ok (.iload 6, 2) := by decide +kernel
theorem d_C_append_51 : decode b_C_append 51 = .ok (.iconst 1, 1) := by decide +kernel
theorem d_C_append_52 : decode b_C_append 52 = .ok (.iadd, 1) := by decide +kernel
theorem d_C_append_53 : decode b_C_append 53 = .ok (.putfield 27, 3) := by decide +kernel
theorem d_C_append_56 : decode b_C_append 56 = .ok (.iload 6, 2) := by decide +kernel
theorem d_C_append_58 : decode b_C_append 58 = .ok (.ireturn, 1) := by decide +kernel
theorem d_E_clear_0 : decode b_E_clear 0 = .ok (.iload_n 1, 1) := by decide +kernel
theorem d_E_clear_1 : decode b_E_clear 1 = .ok (.invokestatic 41, 3) := by decide +kernel
theorem d_E_clear_4 : decode b_E_clear 4 = .ok (.ifCond .ne (11), 3) := by decide +kernel
theorem d_E_clear_7 : decode b_E_clear 7 = .ok (.new 45, 3) := by decide +kernel
theorem d_E_clear_10 : decode b_E_clear 10 = .ok (.dup, 1) := by decide +kernel
theorem d_E_clear_11 : decode b_E_clear 11 = .ok (.invokespecial 47, 3) := by decide +kernel
theorem d_E_clear_14 : decode b_E_clear 14 = .ok (.athrow, 1) := by decide +kernel
theorem d_E_clear_15 : decode b_E_clear 15 = .ok (.aload_n 0, 1) := by decide +kernel
theorem d_E_clear_16 : decode b_E_clear 16 = .ok (.getfield 11, 3) := by decide +kernel
theorem d_E_clear_19 : decode b_E_clear 19 = .ok (.iload_n 1, 1) := by decide +kernel
theorem d_E_clear_20 : decode b_E_clear 20 = .ok (.aaload, 1) := by decide +kernel
theorem d_E_clear_21 : decode b_E_clear 21 = .ok (.getfield 56, 3) := by decide +kernel
theorem d_E_clear_24 : decode b_E_clear 24 = .ok (.istore_n 2, 1) := by decide +kernel
theorem d_E_clear_25 : decode b_E_clear 25 = .ok (.aload_n 0, 1) := by decide +kernel
theorem d_E_clear_26 : decode b_E_clear 26 = .ok (.getfield 11, 3) := by decide +kernel
theorem d_E_clear_29 : decode b_E_clear 29 = .ok (.iload_n 1, 1) := by decide +kernel
theorem d_E_clear_30 : decode b_E_clear 30 = .ok (.aaload, 1) := by decide +kernel
theorem d_E_clear_31 : decode b_E_clear 31 = .ok (.iconst 0, 1) := by decide +kernel
theorem d_E_clear_32 : decode b_E_clear 32 = .ok (.putfield 56, 3) := by decide +kernel
theorem d_E_clear_35 : decode b_E_clear 35 = .ok (.aload_n 0, 1) := by decide +kernel
theorem d_E_clear_36 : decode b_E_clear 36 = .ok (.iconst 1, 1) := by decide +kernel
theorem d_E_clear_37 : decode b_E_clear 37 = .ok (.putfield 34, 3) := by decide +kernel
theorem d_E_clear_40 : decode b_E_clear 40 = .ok (.iload_n 2, 1) := by decide +kernel
theorem d_E_clear_41 : decode b_E_clear 41 = .ok (.ireturn, 1) := by decide +kernel
theorem d_E_shown_0 : decode b_E_shown 0 = .ok (.iload_n 1, 1) := by decide +kernel
theorem d_E_shown_1 : decode b_E_shown 1 = .ok (.ifCond .lt (20), 3) := by decide +kernel
theorem d_E_shown_4 : decode b_E_shown 4 = .ok (.iload_n 1, 1) := by decide +kernel
theorem d_E_shown_5 : decode b_E_shown 5 = .ok (.bipush (32), 2) := by decide +kernel
theorem d_E_shown_7 : decode b_E_shown 7 = .ok (.if_icmp .ge (14), 3) := by decide +kernel
theorem d_E_shown_10 : decode b_E_shown 10 = .ok (.iload_n 1, 1) := by decide +kernel
theorem d_E_shown_11 : decode b_E_shown 11 = .ok (.aload_n 0, 1) := by decide +kernel
theorem d_E_shown_12 : decode b_E_shown 12 = .ok (.getfield 30, 3) := by decide +kernel
theorem d_E_shown_15 : decode b_E_shown 15 = .ok (.getfield 73, 3) := by decide +kernel
theorem d_E_shown_18 : decode b_E_shown 18 = .ok (.if_icmp .lt (11), 3) := by decide +kernel
theorem d_E_shown_21 : decode b_E_shown 21 = .ok (.new 76, 3) := by decide +kernel
theorem d_E_shown_24 : decode b_E_shown 24 = .ok (.dup, 1) := by decide +kernel
theorem d_E_shown_25 : decode b_E_shown 25 = .ok (.invokespecial 78, 3) := by decide +kernel
theorem d_E_shown_28 : decode b_E_shown 28 = .ok (.athrow, 1) := by decide +kernel
theorem d_E_shown_29 : decode b_E_shown 29 = .ok (.aload_n 0, 1) := by decide +kernel
theorem d_E_shown_30 : decode b_E_shown 30 = .ok (.getfield 30, 3) := by decide +kernel
theorem d_E_shown_33 : decode b_E_shown 33 = .ok (.getfield 79, 3) := by decide +kernel
theorem d_E_shown_36 : decode b_E_shown 36 = .ok (.iload_n 1, 1) := by decide +kernel
theorem d_E_shown_37 : decode b_E_shown 37 = .ok (.iaload, 1) := by decide +kernel
theorem d_E_shown_38 : decode b_E_shown 38 = .ok (.ireturn, 1) := by decide +kernel
