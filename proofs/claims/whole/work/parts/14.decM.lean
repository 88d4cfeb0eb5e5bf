/-! decode rows (written by program) -/
theorem d_M_go_0 : decode b_M_go 0 = .ok (.aload_n 0, 1) := by decide +kernel
theorem d_M_go_1 : decode b_M_go 1 = .ok (.invokevirtual 61, 3) := by decide +kernel
theorem d_M_go_4 : decode b_M_go 4 = .ok (.iconst 0, 1) := by decide +kernel
theorem d_M_go_5 : decode b_M_go 5 = .ok (.istore 4, 2) := by decide +kernel
theorem d_M_go_7 : decode b_M_go 7 = .ok (.iload 4, 2) := by decide +kernel
theorem d_M_go_9 : decode b_M_go 9 = .ok (.sipush (802), 3) := by decide +kernel
theorem d_M_go_12 : decode b_M_go 12 = .ok (.if_icmp .ge (135), 3) := by decide +kernel
theorem d_M_go_15 : decode b_M_go 15 = .ok (.aload_n 0, 1) := by decide +kernel
theorem d_M_go_16 : decode b_M_go 16 = .ok (.getfield 39, 3) := by decide +kernel
theorem d_M_go_19 : decode b_M_go 19 = .ok (.ifCond .le (128), 3) := by decide +kernel
theorem d_M_go_22 : decode b_M_go 22 = .ok (.aload_n 0, 1) := by decide +kernel
theorem d_M_go_23 : decode b_M_go 23 = .ok (.getfield 46, 3) := by decide +kernel
theorem d_M_go_26 : decode b_M_go 26 = .ok (.ifCond .ne (121), 3) := by decide +kernel
theorem d_M_go_29 : decode b_M_go 29 = .ok (.aload_n 0, 1) := by decide +kernel
theorem d_M_go_30 : decode b_M_go 30 = .ok (.getfield 39, 3) := by decide +kernel
theorem d_M_go_33 : decode b_M_go 33 = .ok (.iconst 1, 1) := by decide +kernel
theorem d_M_go_34 : decode b_M_go 34 = .ok (.isub, 1) := by decide +kernel
theorem d_M_go_35 : decode b_M_go 35 = .ok (.istore 5, 2) := by decide +kernel
theorem d_M_go_37 : decode b_M_go 37 = .ok (.aload_n 0, 1) := by decide +kernel
theorem d_M_go_38 : decode b_M_go 38 = .ok (.getfield 24, 3) := by decide +kernel
theorem d_M_go_41 : decode b_M_go 41 = .ok (.iload 5, 2) := by decide +kernel
theorem d_M_go_43 : decode b_M_go 43 = .ok (.iaload, 1) := by decide +kernel
theorem d_M_go_44 : decode b_M_go 44 = .ok (.istore 6, 2) := by decide +kernel
theorem d_M_go_46 : decode b_M_go 46 = .ok (.aload_n 0, 1) := by decide +kernel
theorem d_M_go_47 : decode b_M_go 47 = .ok (.getfield 27, 3) := by decide +kernel
theorem d_M_go_50 : decode b_M_go 50 = .ok (.iload 5, 2) := by decide +kernel
theorem d_M_go_52 : decode b_M_go 52 = .ok (.iaload, 1) := by decide +kernel
theorem d_M_go_53 : decode b_M_go 53 = .ok (.istore 7, 2) := by decide +kernel
theorem d_M_go_55 : decode b_M_go 55 = .ok (.aload_n 1, 1) := by decide +kernel
theorem d_M_go_56 : decode b_M_go 56 = .ok (.iload 6, 2) := by decide +kernel
theorem d_M_go_58 : decode b_M_go 58 = .ok (.aaload, 1) := by decide +kernel
theorem d_M_go_59 : decode b_M_go 59 = .ok (.iload 7, 2) := by decide +kernel
theorem d_M_go_61 : decode b_M_go 61 = .ok (.invokevirtual 64, 3) := by decide +kernel
theorem d_M_go_64 : decode b_M_go 64 = .ok (.ifCond .ne (11), 3) := by decide +kernel
theorem d_M_go_67 : decode b_M_go 67 = .ok (.aload_n 0, 1) := by decide +kernel
theorem d_M_go_68 : decode b_M_go 68 = .ok (.iconst 0, 1) := by decide +kernel
theorem d_M_go_69 : decode b_M_go 69 = .ok (.invokevirtual 70, 3) := by decide +kernel
theorem d_M_go_72 : decode b_M_go 72 = .ok (.goto (69), 3) := by decide +kernel
theorem d_M_go_75 : decode b_M_go 75 = .ok (.aload_n 0, 1) := by decide +kernel
theorem d_M_go_76 : decode b_M_go 76 = .ok (.getfield 52, 3) := by decide +kernel
theorem d_M_go_79 : decode b_M_go 79 = .ok (.sipush (400), 3) := by decide +kernel
theorem d_M_go_82 : decode b_M_go 82 = .ok (.if_icmp .lt (11), 3) := by decide +kernel
theorem d_M_go_85 : decode b_M_go 85 = .ok (.aload_n 0, 1) := by decide +kernel
theorem d_M_go_86 : decode b_M_go 86 = .ok (.iconst 4, 1) := by decide +kernel
theorem d_M_go_87 : decode b_M_go 87 = .ok (.putfield 46, 3) := by decide +kernel
theorem d_M_go_90 : decode b_M_go 90 = .ok (.goto (51), 3) := by decide +kernel
theorem d_M_go_93 : decode b_M_go 93 = .ok (.aload_n 0, 1) := by decide +kernel
theorem d_M_go_94 : decode b_M_go 94 = .ok (.dup, 1) := by decide +kernel
theorem d_M_go_95 : decode b_M_go 95 = .ok (.getfield 52, 3) := by decide +kernel
theorem d_M_go_98 : decode b_M_go 98 = .ok (.iconst 1, 1) := by decide +kernel
theorem d_M_go_99 : decode b_M_go 99 = .ok (.iadd, 1) := by decide +kernel
theorem d_M_go_100 : decode b_M_go 100 = .ok (.putfield 52, 3) := by decide +kernel
theorem d_M_go_103 : decode b_M_go 103 = .ok (.aload_n 0, 1) := by decide +kernel
theorem d_M_go_104 : decode b_M_go 104 = .ok (.getfield 27, 3) := by decide +kernel
theorem d_M_go_107 : decode b_M_go 107 = .ok (.iload 5, 2) := by decide +kernel
theorem d_M_go_109 : decode b_M_go 109 = .ok (.iload 7, 2) := by decide +kernel
theorem d_M_go_111 : decode b_M_go 111 = .ok (.iconst 1, 1) := by decide +kernel
theorem d_M_go_112 : decode b_M_go 112 = .ok (.iadd, 1) := by decide +kernel
theorem d_M_go_113 : decode b_M_go 113 = .ok (.iastore, 1) := by decide +kernel
theorem d_M_go_114 : decode b_M_go 114 = .ok (.aload_n 0, 1) := by decide +kernel
theorem d_M_go_115 : decode b_M_go 115 = .ok (.aload_n 1, 1) := by decide +kernel
theorem d_M_go_116 : decode b_M_go 116 = .ok (.iload 6, 2) := by decide +kernel
theorem d_M_go_118 : decode b_M_go 118 = .ok (.iload 7, 2) := by decide +kernel
theorem d_M_go_120 : decode b_M_go 120 = .ok (.iload_n 3, 1) := by decide +kernel
theorem d_M_go_121 : decode b_M_go 121 = .ok (.ifCond .eq (16), 3) := by decide +kernel
theorem d_M_go_124 : decode b_M_go 124 = .ok (.aload_n 2, 1) := by decide +kernel
theorem d_M_go_125 : decode b_M_go 125 = .ok (.iload 6, 2) := by decide +kernel
theorem d_M_go_127 : decode b_M_go 127 = .ok (.aaload, 1) := by decide +kernel
theorem d_M_go_128 : decode b_M_go 128 = .ok (.getfield 74, 3) := by decide +kernel
theorem d_M_go_131 : decode b_M_go 131 = .ok (.iload 7, 2) := by decide +kernel
theorem d_M_go_133 : decode b_M_go 133 = .ok (.iaload, 1) := by decide +kernel
theorem d_M_go_134 : decode b_M_go 134 = .ok (.goto (4), 3) := by decide +kernel
theorem d_M_go_137 : decode b_M_go 137 = .ok (.iconst 0, 1) := by decide +kernel
theorem d_M_go_138 : decode b_M_go 138 = .ok (.invokevirtual 79, 3) := by decide +kernel
theorem d_M_go_141 : decode b_M_go 141 = .ok (.iinc 4 (1), 3) := by decide +kernel
theorem d_M_go_144 : decode b_M_go 144 = .ok (.goto (-137), 3) := by decide +kernel
theorem d_M_go_147 : decode b_M_go 147 = .ok (.aload_n 0, 1) := by decide +kernel
theorem d_M_go_148 : decode b_M_go 148 = .ok (.getfield 46, 3) := by decide +kernel
theorem d_M_go_151 : decode b_M_go 151 = .ok (.ireturn, 1) := by decide +kernel
theorem d_M_begin_0 : decode b_M_begin 0 = .ok (.aload_n 0, 1) := by decide +kernel
theorem d_M_begin_1 : decode b_M_begin 1 = .ok (.getfield 21, 3) := by decide +kernel
theorem d_M_begin_4 : decode b_M_begin 4 = .ok (.iconst 0, 1) := by decide +kernel
theorem d_M_begin_5 : decode b_M_begin 5 = .ok (.invokestatic 83, 3) := by decide +kernel
theorem d_M_begin_8 : decode b_M_begin 8 = .ok (.aload_n 0, 1) := by decide +kernel
theorem d_M_begin_9 : decode b_M_begin 9 = .ok (.iconst 0, 1) := by decide +kernel
theorem d_M_begin_10 : decode b_M_begin 10 = .ok (.putfield 46, 3) := by decide +kernel
theorem d_M_begin_13 : decode b_M_begin 13 = .ok (.aload_n 0, 1) := by decide +kernel
theorem d_M_begin_14 : decode b_M_begin 14 = .ok (.iconst 0, 1) := by decide +kernel
theorem d_M_begin_15 : decode b_M_begin 15 = .ok (.putfield 49, 3) := by decide +kernel
theorem d_M_begin_18 : decode b_M_begin 18 = .ok (.aload_n 0, 1) := by decide +kernel
theorem d_M_begin_19 : decode b_M_begin 19 = .ok (.iconst 0, 1) := by decide +kernel
theorem d_M_begin_20 : decode b_M_begin 20 = .ok (.putfield 52, 3) := by decide +kernel
theorem d_M_begin_23 : decode b_M_begin 23 = .ok (.aload_n 0, 1) := by decide +kernel
theorem d_M_begin_24 : decode b_M_begin 24 = .ok (.iconst 0, 1) := by decide +kernel
theorem d_M_begin_25 : decode b_M_begin 25 = .ok (.putfield 55, 3) := by decide +kernel
theorem d_M_begin_28 : decode b_M_begin 28 = .ok (.aload_n 0, 1) := by decide +kernel
theorem d_M_begin_29 : decode b_M_begin 29 = .ok (.iconst 0, 1) := by decide +kernel
theorem d_M_begin_30 : decode b_M_begin 30 = .ok (.putfield 58, 3) := by decide +kernel
theorem d_M_begin_33 : decode b_M_begin 33 = .ok (.aload_n 0, 1) := by decide +kernel
theorem d_M_begin_34 : decode b_M_begin 34 = .ok (.iconst 0, 1) := by decide +kernel
theorem d_M_begin_35 : decode b_M_begin 35 = .ok (.putfield 39, 3) := by decide +kernel
theorem d_M_begin_38 : decode b_M_begin 38 = .ok (.aload_n 0, 1) := by decide +kernel
theorem d_M_begin_39 : decode b_M_begin 39 = .ok (.iconst 0, 1) := by decide +kernel
theorem d_M_begin_40 : decode b_M_begin 40 = .ok (.iconst 0, 1) := by decide +kernel
theorem d_M_begin_41 : decode b_M_begin 41 = .ok (.iconst 0, 1) := by decide +kernel
theorem d_M_begin_42 : decode b_M_begin 42 = .ok (.iconst 0, 1) := by decide +kernel
theorem d_M_begin_43 : decode b_M_begin 43 = .ok (.invokevirtual 89, 3) := by decide +kernel
theorem d_M_begin_46 : decode b_M_begin 46 = .ok (.return_, 1) := by decide +kernel
theorem d_M_enter_0 : decode b_M_enter 0 = .ok (.aload_n 0, 1) := by decide +kernel
theorem d_M_enter_1 : decode b_M_enter 1 = .ok (.getfield 24, 3) := by decide +kernel
theorem d_M_enter_4 : decode b_M_enter 4 = .ok (.aload_n 0, 1) := by decide +kernel
theorem d_M_enter_5 : decode b_M_enter 5 = .ok (.getfield 39, 3) := by decide +kernel
theorem d_M_enter_8 : decode b_M_enter 8 = .ok (.iload_n 1, 1) := by decide +kernel
theorem d_M_enter_9 : decode b_M_enter 9 = .ok (.iastore, 1) := by decide +kernel
theorem d_M_enter_10 : decode b_M_enter 10 = .ok (.aload_n 0, 1) := by decide +kernel
theorem d_M_enter_11 : decode b_M_enter 11 = .ok (.getfield 27, 3) := by decide +kernel
theorem d_M_enter_14 : decode b_M_enter 14 = .ok (.aload_n 0, 1) := by decide +kernel
theorem d_M_enter_15 : decode b_M_enter 15 = .ok (.getfield 39, 3) := by decide +kernel
theorem d_M_enter_18 : decode b_M_enter 18 = .ok (.iconst 0, 1) := by decide +kernel
theorem d_M_enter_19 : decode b_M_enter 19 = .ok (.iastore, 1) := by decide +kernel
theorem d_M_enter_20 : decode b_M_enter 20 = .ok (.aload_n 0, 1) := by decide +kernel
theorem d_M_enter_21 : decode b_M_enter 21 = .ok (.getfield 30, 3) := by decide +kernel
theorem d_M_enter_24 : decode b_M_enter 24 = .ok (.aload_n 0, 1) := by decide +kernel
theorem d_M_enter_25 : decode b_M_enter 25 = .ok (.getfield 39, 3) := by decide +kernel
theorem d_M_enter_28 : decode b_M_enter 28 = .ok (.iload_n 2, 1) := by decide +kernel
theorem d_M_enter_29 : decode b_M_enter 29 = .ok (.iastore, 1) := by decide +kernel
theorem d_M_enter_30 : decode b_M_enter 30 = .ok (.aload_n 0, 1) := by decide +kernel
theorem d_M_enter_31 : decode b_M_enter 31 = .ok (.dup, 1) := by decide +kernel
theorem d_M_enter_32 : decode b_M_enter 32 = .ok (.getfield 39, 3) := by decide +kernel
theorem d_M_enter_35 : decode b_M_enter 35 = .ok (.iconst 1, 1) := by decide +kernel
theorem d_M_enter_36 : decode b_M_enter 36 = .ok (.iadd, 1) := by decide +kernel
theorem d_M_enter_37 : decode b_M_enter 37 = .ok (.putfield 39, 3) := by decide +kernel
theorem d_M_enter_40 : decode b_M_enter 40 = .ok (.aload_n 0, 1) := by decide +kernel
theorem d_M_enter_41 : decode b_M_enter 41 = .ok (.invokevirtual 124, 3) := by decide +kernel
theorem d_M_enter_44 : decode b_M_enter 44 = .ok (.istore 5, 2) := by decide +kernel
theorem d_M_enter_46 : decode b_M_enter 46 = .ok (.iconst 0, 1) := by decide +kernel
theorem d_M_enter_47 : decode b_M_enter 47 = .ok (.istore 6, 2) := by decide +kernel
theorem d_M_enter_49 : decode b_M_enter 49 = .ok (.iload 6, 2) := by decide +kernel
theorem d_M_enter_51 : decode b_M_enter 51 = .ok (.iconst 4, 1) := by decide +kernel
theorem d_M_enter_52 : decode b_M_enter 52 = .ok (.if_icmp .ge (31), 3) := by decide +kernel
theorem d_M_enter_55 : decode b_M_enter 55 = .ok (.aload_n 0, 1) := by decide +kernel
theorem d_M_enter_56 : decode b_M_enter 56 = .ok (.getfield 33, 3) := by decide +kernel
theorem d_M_enter_59 : decode b_M_enter 59 = .ok (.iload 5, 2) := by decide +kernel
theorem d_M_enter_61 : decode b_M_enter 61 = .ok (.iload 6, 2) := by decide +kernel
theorem d_M_enter_63 : decode b_M_enter 63 = .ok (.iadd, 1) := by decide +kernel
theorem d_M_enter_64 : decode b_M_enter 64 = .ok (.iconst 0, 1) := by decide +kernel
theorem d_M_enter_65 : decode b_M_enter 65 = .ok (.iastore, 1) := by decide +kernel
theorem d_M_enter_66 : decode b_M_enter 66 = .ok (.aload_n 0, 1) := by decide +kernel
theorem d_M_enter_67 : decode b_M_enter 67 = .ok (.getfield 36, 3) := by decide +kernel
theorem d_M_enter_70 : decode b_M_enter 70 = .ok (.iload 5, 2) := by decide +kernel
theorem d_M_enter_72 : decode b_M_enter 72 = .ok (.iload 6, 2) := by decide +kernel
theorem d_M_enter_74 : decode b_M_enter 74 = .ok (.iadd, 1) := by decide +kernel
theorem d_M_enter_75 : decode b_M_enter 75 = .ok (.iconst 0, 1) := by decide +kernel
theorem d_M_enter_76 : decode b_M_enter 76 = .ok (.iastore, 1) := by decide +kernel
theorem d_M_enter_77 : decode b_M_enter 77 = .ok (.iinc 6 (1), 3) := by decide +kernel
theorem d_M_enter_80 : decode b_M_enter 80 = .ok (.goto (-31), 3) := by decide +kernel
theorem d_M_enter_83 : decode b_M_enter 83 = .ok (.aload_n 0, 1) := by decide +kernel
theorem d_M_enter_84 : decode b_M_enter 84 = .ok (.getfield 33, 3) := by decide +kernel
theorem d_M_enter_87 : decode b_M_enter 87 = .ok (.iload 5, 2) := by decide +kernel
theorem d_M_enter_89 : decode b_M_enter 89 = .ok (.iload_n 3, 1) := by decide +kernel
theorem d_M_enter_90 : decode b_M_enter 90 = .ok (.iastore, 1) := by decide +kernel
theorem d_M_enter_91 : decode b_M_enter 91 = .ok (.aload_n 0, 1) := by decide +kernel
theorem d_M_enter_92 : decode b_M_enter 92 = .ok (.getfield 33, 3) := by decide +kernel
theorem d_M_enter_95 : decode b_M_enter 95 = .ok (.iload 5, 2) := by decide +kernel
theorem d_M_enter_97 : decode b_M_enter 97 = .ok (.iconst 1, 1) := by decide +kernel
theorem d_M_enter_98 : decode b_M_enter 98 = .ok (.iadd, 1) := by decide +kernel
theorem d_M_enter_99 : decode b_M_enter 99 = .ok (.iload 4, 2) := by decide +kernel
theorem d_M_enter_101 : decode b_M_enter 101 = .ok (.iastore, 1) := by decide +kernel
theorem d_M_enter_102 : decode b_M_enter 102 = .ok (.return_, 1) := by decide +kernel
theorem d_M_base_0 : decode b_M_base 0 = .ok (.aload_n 0, 1) := by decide +kernel
theorem d_M_base_1 : decode b_M_base 1 = .ok (.getfield 39, 3) := by decide +kernel
theorem d_M_base_4 : decode b_M_base 4 = .ok (.iconst 1, 1) := by decide +kernel
theorem d_M_base_5 : decode b_M_base 5 = .ok (.isub, 1) := by decide +kernel
theorem d_M_base_6 : decode b_M_base 6 = .ok (.iconst 4, 1) := by decide +kernel
theorem d_M_base_7 : decode b_M_base 7 = .ok (.imul, 1) := by decide +kernel
theorem d_M_base_8 : decode b_M_base 8 = .ok (.ireturn, 1) := by decide +kernel
theorem d_M_leave_0 : decode b_M_leave 0 = .ok (.aload_n 0, 1) := by decide +kernel
theorem d_M_leave_1 : decode b_M_leave 1 = .ok (.dup, 1) := by decide +kernel
theorem d_M_leave_2 : decode b_M_leave 2 = .ok (.getfield 39, 3) := by decide +kernel
theorem d_M_leave_5 : decode b_M_leave 5 = .ok (.iconst 1, 1) := by decide +kernel
theorem d_M_leave_6 : decode b_M_leave 6 = .ok (.isub, 1) := by decide +kernel
theorem d_M_leave_7 : decode b_M_leave 7 = .ok (.putfield 39, 3) := by decide +kernel
theorem d_M_leave_10 : decode b_M_leave 10 = .ok (.aload_n 0, 1) := by decide +kernel
theorem d_M_leave_11 : decode b_M_leave 11 = .ok (.getfield 39, 3) := by decide +kernel
theorem d_M_leave_14 : decode b_M_leave 14 = .ok (.ifCond .le (23), 3) := by decide +kernel
theorem d_M_leave_17 : decode b_M_leave 17 = .ok (.aload_n 0, 1) := by decide +kernel
theorem d_M_leave_18 : decode b_M_leave 18 = .ok (.getfield 33, 3) := by decide +kernel
theorem d_M_leave_21 : decode b_M_leave 21 = .ok (.aload_n 0, 1) := by decide +kernel
theorem d_M_leave_22 : decode b_M_leave 22 = .ok (.invokevirtual 124, 3) := by decide +kernel
theorem d_M_leave_25 : decode b_M_leave 25 = .ok (.aload_n 0, 1) := by decide +kernel
theorem d_M_leave_26 : decode b_M_leave 26 = .ok (.getfield 30, 3) := by decide +kernel
theorem d_M_leave_29 : decode b_M_leave 29 = .ok (.aload_n 0, 1) := by decide +kernel
theorem d_M_leave_30 : decode b_M_leave 30 = .ok (.getfield 39, 3) := by decide +kernel
theorem d_M_leave_33 : decode b_M_leave 33 = .ok (.iaload, 1) := by decide +kernel
theorem d_M_leave_34 : decode b_M_leave 34 = .ok (.iadd, 1) := by decide +kernel
theorem d_M_leave_35 : decode b_M_leave 35 = .ok (.iload_n 1, 1) := by decide +kernel
theorem d_M_leave_36 : decode b_M_leave 36 = .ok (.iastore, 1) := by decide +kernel
theorem d_M_leave_37 : decode b_M_leave 37 = .ok (.return_, 1) := by decide +kernel
theorem d_M_perform_0 : decode b_M_perform 0 = .ok (.aload_n 1, 1) := by decide +kernel
theorem d_M_perform_1 : decode b_M_perform 1 = .ok (.iload_n 2, 1) := by decide +kernel
theorem d_M_perform_2 : decode b_M_perform 2 = .ok (.aaload, 1) := by decide +kernel
theorem d_M_perform_3 : decode b_M_perform 3 = .ok (.getfield 93, 3) := by decide +kernel
theorem d_M_perform_6 : decode b_M_perform 6 = .ok (.iload_n 3, 1) := by decide +kernel
theorem d_M_perform_7 : decode b_M_perform 7 = .ok (.iaload, 1) := by decide +kernel
theorem d_M_perform_8 : decode b_M_perform 8 = .ok (.istore 5, 2) := by decide +kernel
theorem d_M_perform_10 : decode b_M_perform 10 = .ok (.aload_n 1, 1) := by decide +kernel
theorem d_M_perform_11 : decode b_M_perform 11 = .ok (.iload_n 2, 1) := by decide +kernel
theorem d_M_perform_12 : decode b_M_perform 12 = .ok (.aaload, 1) := by decide +kernel
theorem d_M_perform_13 : decode b_M_perform 13 = .ok (.getfield 96, 3) := by decide +kernel
theorem d_M_perform_16 : decode b_M_perform 16 = .ok (.iload_n 3, 1) := by decide +kernel
theorem d_M_perform_17 : decode b_M_perform 17 = .ok (.iaload, 1) := by decide +kernel
theorem d_M_perform_18 : decode b_M_perform 18 = .ok (.istore 6, 2) := by decide +kernel
theorem d_M_perform_20 : decode b_M_perform 20 = .ok (.aload_n 1, 1) := by decide +kernel
theorem d_M_perform_21 : decode b_M_perform 21 = .ok (.iload_n 2, 1) := by decide +kernel
theorem d_M_perform_22 : decode b_M_perform 22 = .ok (.aaload, 1) := by decide +kernel
theorem d_M_perform_23 : decode b_M_perform 23 = .ok (.getfield 99, 3) := by decide +kernel
theorem d_M_perform_26 : decode b_M_perform 26 = .ok (.iload_n 3, 1) := by decide +kernel
theorem d_M_perform_27 : decode b_M_perform 27 = .ok (.iaload, 1) := by decide +kernel
theorem d_M_perform_28 : decode b_M_perform 28 = .ok (.istore 7, 2) := by decide +kernel
theorem d_M_perform_30 : decode b_M_perform 30 = .ok (.iload 5, 2) := by decide +kernel
theorem d_M_perform_32 : decode b_M_perform 32 = .ok (.tableswitch (279) (0) (17) #[245, 279, 279, 88, 115, 88, 115, 279, 279, 279, 142, 142, 279, 279, 186, 208, 163, 173], 88) := by decide +kernel
theorem d_M_perform_120 : decode b_M_perform 120 = .ok (.aload_n 0, 1) := by decide +kernel
theorem d_M_perform_121 : decode b_M_perform 121 = .ok (.iload 5, 2) := by decide +kernel
theorem d_M_perform_123 : decode b_M_perform 123 = .ok (.iload 6, 2) := by decide +kernel
theorem d_M_perform_125 : decode b_M_perform 125 = .ok (.iload 7, 2) := by decide +kernel
theorem d_M_perform_127 : decode b_M_perform 127 = .ok (.aload_n 1, 1) := by decide +kernel
theorem d_M_perform_128 : decode b_M_perform 128 = .ok (.iload_n 2, 1) := by decide +kernel
theorem d_M_perform_129 : decode b_M_perform 129 = .ok (.aaload, 1) := by decide +kernel
theorem d_M_perform_130 : decode b_M_perform 130 = .ok (.getfield 102, 3) := by decide +kernel
theorem d_M_perform_133 : decode b_M_perform 133 = .ok (.iload_n 3, 1) := by decide +kernel
theorem d_M_perform_134 : decode b_M_perform 134 = .ok (.iaload, 1) := by decide +kernel
theorem d_M_perform_135 : decode b_M_perform 135 = .ok (.aload_n 0, 1) := by decide +kernel
theorem d_M_perform_136 : decode b_M_perform 136 = .ok (.iload 7, 2) := by decide +kernel
theorem d_M_perform_138 : decode b_M_perform 138 = .ok (.invokevirtual 105, 3) := by decide +kernel
theorem d_M_perform_141 : decode b_M_perform 141 = .ok (.invokevirtual 109, 3) := by decide +kernel
theorem d_M_perform_144 : decode b_M_perform 144 = .ok (.goto (175), 3) := by decide +kernel
theorem d_M_perform_147 : decode b_M_perform 147 = .ok (.aload_n 0, 1) := by decide +kernel
theorem d_M_perform_148 : decode b_M_perform 148 = .ok (.iload 5, 2) := by decide +kernel
theorem d_M_perform_150 : decode b_M_perform 150 = .ok (.iload 6, 2) := by decide +kernel
theorem d_M_perform_152 : decode b_M_perform 152 = .ok (.iload 7, 2) := by decide +kernel
theorem d_M_perform_154 : decode b_M_perform 154 = .ok (.aload_n 1, 1) := by decide +kernel
theorem d_M_perform_155 : decode b_M_perform 155 = .ok (.iload_n 2, 1) := by decide +kernel
theorem d_M_perform_156 : decode b_M_perform 156 = .ok (.aaload, 1) := by decide +kernel
theorem d_M_perform_157 : decode b_M_perform 157 = .ok (.getfield 102, 3) := by decide +kernel
theorem d_M_perform_160 : decode b_M_perform 160 = .ok (.iload_n 3, 1) := by decide +kernel
theorem d_M_perform_161 : decode b_M_perform 161 = .ok (.iaload, 1) := by decide +kernel
theorem d_M_perform_162 : decode b_M_perform 162 = .ok (.aload_n 0, 1) := by decide +kernel
theorem d_M_perform_163 : decode b_M_perform 163 = .ok (.iload 6, 2) := by decide +kernel
theorem d_M_perform_165 : decode b_M_perform 165 = .ok (.invokevirtual 105, 3) := by decide +kernel
theorem d_M_perform_168 : decode b_M_perform 168 = .ok (.invokevirtual 109, 3) := by decide +kernel
theorem d_M_perform_171 : decode b_M_perform 171 = .ok (.goto (148), 3) := by decide +kernel
theorem d_M_perform_174 : decode b_M_perform 174 = .ok (.iload 4, 2) := by decide +kernel
theorem d_M_perform_176 : decode b_M_perform 176 = .ok (.iconst 2, 1) := by decide +kernel
theorem d_M_perform_177 : decode b_M_perform 177 = .ok (.if_icmp .eq (142), 3) := by decide +kernel
theorem d_M_perform_180 : decode b_M_perform 180 = .ok (.aload_n 0, 1) := by decide +kernel
theorem d_M_perform_181 : decode b_M_perform 181 = .ok (.iload 5, 2) := by decide +kernel
theorem d_M_perform_183 : decode b_M_perform 183 = .ok (.aload_n 0, 1) := by decide +kernel
theorem d_M_perform_184 : decode b_M_perform 184 = .ok (.iload 6, 2) := by decide +kernel
theorem d_M_perform_186 : decode b_M_perform 186 = .ok (.invokevirtual 105, 3) := by decide +kernel
theorem d_M_perform_189 : decode b_M_perform 189 = .ok (.invokevirtual 113, 3) := by decide +kernel
theorem d_M_perform_192 : decode b_M_perform 192 = .ok (.goto (127), 3) := by decide +kernel
theorem d_M_perform_195 : decode b_M_perform 195 = .ok (.aload_n 0, 1) := by decide +kernel
theorem d_M_perform_196 : decode b_M_perform 196 = .ok (.aload_n 1, 1) := by decide +kernel
theorem d_M_perform_197 : decode b_M_perform 197 = .ok (.iload_n 2, 1) := by decide +kernel
theorem d_M_perform_198 : decode b_M_perform 198 = .ok (.iload_n 3, 1) := by decide +kernel
theorem d_M_perform_199 : decode b_M_perform 199 = .ok (.invokevirtual 117, 3) := by decide +kernel
theorem d_M_perform_202 : decode b_M_perform 202 = .ok (.goto (117), 3) := by decide +kernel
theorem d_M_perform_205 : decode b_M_perform 205 = .ok (.aload_n 0, 1) := by decide +kernel
theorem d_M_perform_206 : decode b_M_perform 206 = .ok (.aload_n 0, 1) := by decide +kernel
theorem d_M_perform_207 : decode b_M_perform 207 = .ok (.iload 6, 2) := by decide +kernel
theorem d_M_perform_209 : decode b_M_perform 209 = .ok (.invokevirtual 105, 3) := by decide +kernel
theorem d_M_perform_212 : decode b_M_perform 212 = .ok (.invokevirtual 70, 3) := by decide +kernel
theorem d_M_perform_215 : decode b_M_perform 215 = .ok (.goto (104), 3) := by decide +kernel
theorem d_M_perform_218 : decode b_M_perform 218 = .ok (.aload_n 0, 1) := by decide +kernel
theorem d_M_perform_219 : decode b_M_perform 219 = .ok (.getfield 27, 3) := by decide +kernel
theorem d_M_perform_222 : decode b_M_perform 222 = .ok (.aload_n 0, 1) := by decide +kernel
theorem d_M_perform_223 : decode b_M_perform 223 = .ok (.getfield 39, 3) := by decide +kernel
theorem d_M_perform_226 : decode b_M_perform 226 = .ok (.iconst 1, 1) := by decide +kernel
theorem d_M_perform_227 : decode b_M_perform 227 = .ok (.isub, 1) := by decide +kernel
theorem d_M_perform_228 : decode b_M_perform 228 = .ok (.aload_n 1, 1) := by decide +kernel
theorem d_M_perform_229 : decode b_M_perform 229 = .ok (.iload_n 2, 1) := by decide +kernel
theorem d_M_perform_230 : decode b_M_perform 230 = .ok (.aaload, 1) := by decide +kernel
theorem d_M_perform_231 : decode b_M_perform 231 = .ok (.getfield 121, 3) := by decide +kernel
theorem d_M_perform_234 : decode b_M_perform 234 = .ok (.iload_n 3, 1) := by decide +kernel
theorem d_M_perform_235 : decode b_M_perform 235 = .ok (.iaload, 1) := by decide +kernel
theorem d_M_perform_236 : decode b_M_perform 236 = .ok (.iastore, 1) := by decide +kernel
theorem d_M_perform_237 : decode b_M_perform 237 = .ok (.goto (82), 3) := by decide +kernel
theorem d_M_perform_240 : decode b_M_perform 240 = .ok (.aload_n 0, 1) := by decide +kernel
theorem d_M_perform_241 : decode b_M_perform 241 = .ok (.getfield 36, 3) := by decide +kernel
theorem d_M_perform_244 : decode b_M_perform 244 = .ok (.aload_n 0, 1) := by decide +kernel
theorem d_M_perform_245 : decode b_M_perform 245 = .ok (.invokevirtual 124, 3) := by decide +kernel
theorem d_M_perform_248 : decode b_M_perform 248 = .ok (.iload 6, 2) := by decide +kernel
theorem d_M_perform_250 : decode b_M_perform 250 = .ok (.iadd, 1) := by decide +kernel
theorem d_M_perform_251 : decode b_M_perform 251 = .ok (.iaload, 1) := by decide +kernel
theorem d_M_perform_252 : decode b_M_perform 252 = .ok (.ifCond .ne (67), 3) := by decide +kernel
theorem d_M_perform_255 : decode b_M_perform 255 = .ok (.aload_n 0, 1) := by decide +kernel
theorem d_M_perform_256 : decode b_M_perform 256 = .ok (.getfield 27, 3) := by decide +kernel
theorem d_M_perform_259 : decode b_M_perform 259 = .ok (.aload_n 0, 1) := by decide +kernel
theorem d_M_perform_260 : decode b_M_perform 260 = .ok (.getfield 39, 3) := by decide +kernel
theorem d_M_perform_263 : decode b_M_perform 263 = .ok (.iconst 1, 1) := by decide +kernel
theorem d_M_perform_264 : decode b_M_perform 264 = .ok (.isub, 1) := by decide +kernel
theorem d_M_perform_265 : decode b_M_perform 265 = .ok (.aload_n 1, 1) := by decide +kernel
theorem d_M_perform_266 : decode b_M_perform 266 = .ok (.iload_n 2, 1) := by decide +kernel
theorem d_M_perform_267 : decode b_M_perform 267 = .ok (.aaload, 1) := by decide +kernel
theorem d_M_perform_268 : decode b_M_perform 268 = .ok (.getfield 121, 3) := by decide +kernel
theorem d_M_perform_271 : decode b_M_perform 271 = .ok (.iload_n 3, 1) := by decide +kernel
theorem d_M_perform_272 : decode b_M_perform 272 = .ok (.iaload, 1) := by decide +kernel
theorem d_M_perform_273 : decode b_M_perform 273 = .ok (.iastore, 1) := by decide +kernel
theorem d_M_perform_274 : decode b_M_perform 274 = .ok (.goto (45), 3) := by decide +kernel
theorem d_M_perform_277 : decode b_M_perform 277 = .ok (.aload_n 0, 1) := by decide +kernel
theorem d_M_perform_278 : decode b_M_perform 278 = .ok (.getfield 33, 3) := by decide +kernel
theorem d_M_perform_281 : decode b_M_perform 281 = .ok (.aload_n 0, 1) := by decide +kernel
theorem d_M_perform_282 : decode b_M_perform 282 = .ok (.invokevirtual 124, 3) := by decide +kernel
theorem d_M_perform_285 : decode b_M_perform 285 = .ok (.iload 6, 2) := by decide +kernel
theorem d_M_perform_287 : decode b_M_perform 287 = .ok (.iadd, 1) := by decide +kernel
theorem d_M_perform_288 : decode b_M_perform 288 = .ok (.iload 4, 2) := by decide +kernel
theorem d_M_perform_290 : decode b_M_perform 290 = .ok (.iconst 1, 1) := by decide +kernel
theorem d_M_perform_291 : decode b_M_perform 291 = .ok (.if_icmp .ne (12), 3) := by decide +kernel
theorem d_M_perform_294 : decode b_M_perform 294 = .ok (.aload_n 0, 1) := by decide +kernel
theorem d_M_perform_295 : decode b_M_perform 295 = .ok (.iload 6, 2) := by decide +kernel
theorem d_M_perform_297 : decode b_M_perform 297 = .ok (.invokevirtual 128, 3) := by decide +kernel
theorem d_M_perform_300 : decode b_M_perform 300 = .ok (.goto (7), 3) := by decide +kernel
theorem d_M_perform_303 : decode b_M_perform 303 = .ok (.aload_n 0, 1) := by decide +kernel
theorem d_M_perform_304 : decode b_M_perform 304 = .ok (.invokevirtual 131, 3) := by decide +kernel
theorem d_M_perform_307 : decode b_M_perform 307 = .ok (.iastore, 1) := by decide +kernel
theorem d_M_perform_308 : decode b_M_perform 308 = .ok (.goto (11), 3) := by decide +kernel
theorem d_M_perform_311 : decode b_M_perform 311 = .ok (.aload_n 0, 1) := by decide +kernel
theorem d_M_perform_312 : decode b_M_perform 312 = .ok (.aload_n 1, 1) := by decide +kernel
theorem d_M_perform_313 : decode b_M_perform 313 = .ok (.iload_n 2, 1) := by decide +kernel
theorem d_M_perform_314 : decode b_M_perform 314 = .ok (.aaload, 1) := by decide +kernel
theorem d_M_perform_315 : decode b_M_perform 315 = .ok (.iload_n 3, 1) := by decide +kernel
theorem d_M_perform_316 : decode b_M_perform 316 = .ok (.invokevirtual 134, 3) := by decide +kernel
theorem d_M_perform_319 : decode b_M_perform 319 = .ok (.return_, 1) := by decide +kernel
theorem d_M_cellOf_0 : decode b_M_cellOf 0 = .ok (.aload_n 0, 1) := by decide +kernel
theorem d_M_cellOf_1 : decode b_M_cellOf 1 = .ok (.getfield 33, 3) := by decide +kernel
theorem d_M_cellOf_4 : decode b_M_cellOf 4 = .ok (.aload_n 0, 1) := by decide +kernel
theorem d_M_cellOf_5 : decode b_M_cellOf 5 = .ok (.invokevirtual 124, 3) := by decide +kernel
theorem d_M_cellOf_8 : decode b_M_cellOf 8 = .ok (.iload_n 1, 1) := by decide +kernel
theorem d_M_cellOf_9 : decode b_M_cellOf 9 = .ok (.iadd, 1) := by decide +kernel
theorem d_M_cellOf_10 : decode b_M_cellOf 10 = .ok (.iaload, 1) := by decide +kernel
theorem d_M_cellOf_11 : decode b_M_cellOf 11 = .ok (.ireturn, 1) := by decide +kernel
theorem d_M_workOnField_0 : decode b_M_workOnField 0 = .ok (.iload 5, 2) := by decide +kernel
theorem d_M_workOnField_2 : decode b_M_workOnField 2 = .ok (.ifCond .ne (9), 3) := by decide +kernel
theorem d_M_workOnField_5 : decode b_M_workOnField 5 = .ok (.aload_n 0, 1) := by decide +kernel
theorem d_M_workOnField_6 : decode b_M_workOnField 6 = .ok (.iconst 1, 1) := by decide +kernel
theorem d_M_workOnField_7 : decode b_M_workOnField 7 = .ok (.putfield 46, 3) := by decide +kernel
theorem d_M_workOnField_10 : decode b_M_workOnField 10 = .ok (.return_, 1) := by decide +kernel
theorem d_M_workOnField_11 : decode b_M_workOnField 11 = .ok (.aload_n 0, 1) := by decide +kernel
theorem d_M_workOnField_12 : decode b_M_workOnField 12 = .ok (.invokevirtual 124, 3) := by decide +kernel
theorem d_M_workOnField_15 : decode b_M_workOnField 15 = .ok (.istore 6, 2) := by decide +kernel
theorem d_M_workOnField_17 : decode b_M_workOnField 17 = .ok (.iload 5, 2) := by decide +kernel
theorem d_M_workOnField_19 : decode b_M_workOnField 19 = .ok (.iconst 2, 1) := by decide +kernel
theorem d_M_workOnField_20 : decode b_M_workOnField 20 = .ok (.imul, 1) := by decide +kernel
theorem d_M_workOnField_21 : decode b_M_workOnField 21 = .ok (.iload 4, 2) := by decide +kernel
theorem d_M_workOnField_23 : decode b_M_workOnField 23 = .ok (.iadd, 1) := by decide +kernel
theorem d_M_workOnField_24 : decode b_M_workOnField 24 = .ok (.istore 7, 2) := by decide +kernel
theorem d_M_workOnField_26 : decode b_M_workOnField 26 = .ok (.iload_n 1, 1) := by decide +kernel
theorem d_M_workOnField_27 : decode b_M_workOnField 27 = .ok (.iconst 3, 1) := by decide +kernel
theorem d_M_workOnField_28 : decode b_M_workOnField 28 = .ok (.if_icmp .ne (22), 3) := by decide +kernel
theorem d_M_workOnField_31 : decode b_M_workOnField 31 = .ok (.aload_n 0, 1) := by decide +kernel
theorem d_M_workOnField_32 : decode b_M_workOnField 32 = .ok (.getfield 33, 3) := by decide +kernel
theorem d_M_workOnField_35 : decode b_M_workOnField 35 = .ok (.iload 6, 2) := by decide +kernel
theorem d_M_workOnField_37 : decode b_M_workOnField 37 = .ok (.iload_n 2, 1) := by decide +kernel
theorem d_M_workOnField_38 : decode b_M_workOnField 38 = .ok (.iadd, 1) := by decide +kernel
theorem d_M_workOnField_39 : decode b_M_workOnField 39 = .ok (.aload_n 0, 1) := by decide +kernel
theorem d_M_workOnField_40 : decode b_M_workOnField 40 = .ok (.getfield 11, 3) := by decide +kernel
theorem d_M_workOnField_43 : decode b_M_workOnField 43 = .ok (.iload 7, 2) := by decide +kernel
theorem d_M_workOnField_45 : decode b_M_workOnField 45 = .ok (.iaload, 1) := by decide +kernel
theorem d_M_workOnField_46 : decode b_M_workOnField 46 = .ok (.iastore, 1) := by decide +kernel
theorem d_M_workOnField_47 : decode b_M_workOnField 47 = .ok (.goto (67), 3) := by decide +kernel
theorem d_M_workOnField_50 : decode b_M_workOnField 50 = .ok (.iload_n 1, 1) := by decide +kernel
theorem d_M_workOnField_51 : decode b_M_workOnField 51 = .ok (.iconst 5, 1) := by decide +kernel
theorem d_M_workOnField_52 : decode b_M_workOnField 52 = .ok (.if_icmp .ne (22), 3) := by decide +kernel
theorem d_M_workOnField_55 : decode b_M_workOnField 55 = .ok (.aload_n 0, 1) := by decide +kernel
theorem d_M_workOnField_56 : decode b_M_workOnField 56 = .ok (.getfield 36, 3) := by decide +kernel
theorem d_M_workOnField_59 : decode b_M_workOnField 59 = .ok (.iload 6, 2) := by decide +kernel
theorem d_M_workOnField_61 : decode b_M_workOnField 61 = .ok (.iload_n 2, 1) := by decide +kernel
theorem d_M_workOnField_62 : decode b_M_workOnField 62 = .ok (.iadd, 1) := by decide +kernel
theorem d_M_workOnField_63 : decode b_M_workOnField 63 = .ok (.aload_n 0, 1) := by decide +kernel
theorem d_M_workOnField_64 : decode b_M_workOnField 64 = .ok (.getfield 15, 3) := by decide +kernel
theorem d_M_workOnField_67 : decode b_M_workOnField 67 = .ok (.iload 7, 2) := by decide +kernel
theorem d_M_workOnField_69 : decode b_M_workOnField 69 = .ok (.iaload, 1) := by decide +kernel
theorem d_M_workOnField_70 : decode b_M_workOnField 70 = .ok (.iastore, 1) := by decide +kernel
theorem d_M_workOnField_71 : decode b_M_workOnField 71 = .ok (.goto (43), 3) := by decide +kernel
theorem d_M_workOnField_74 : decode b_M_workOnField 74 = .ok (.iload_n 1, 1) := by decide +kernel
theorem d_M_workOnField_75 : decode b_M_workOnField 75 = .ok (.iconst 4, 1) := by decide +kernel
theorem d_M_workOnField_76 : decode b_M_workOnField 76 = .ok (.if_icmp .ne (22), 3) := by decide +kernel
theorem d_M_workOnField_79 : decode b_M_workOnField 79 = .ok (.aload_n 0, 1) := by decide +kernel
theorem d_M_workOnField_80 : decode b_M_workOnField 80 = .ok (.getfield 11, 3) := by decide +kernel
theorem d_M_workOnField_83 : decode b_M_workOnField 83 = .ok (.iload 7, 2) := by decide +kernel
theorem d_M_workOnField_85 : decode b_M_workOnField 85 = .ok (.aload_n 0, 1) := by decide +kernel
theorem d_M_workOnField_86 : decode b_M_workOnField 86 = .ok (.getfield 33, 3) := by decide +kernel
theorem d_M_workOnField_89 : decode b_M_workOnField 89 = .ok (.iload 6, 2) := by decide +kernel
theorem d_M_workOnField_91 : decode b_M_workOnField 91 = .ok (.iload_n 3, 1) := by decide +kernel
theorem d_M_workOnField_92 : decode b_M_workOnField 92 = .ok (.iadd, 1) := by decide +kernel
theorem d_M_workOnField_93 : decode b_M_workOnField 93 = .ok (.iaload, 1) := by decide +kernel
theorem d_M_workOnField_94 : decode b_M_workOnField 94 = .ok (.iastore, 1) := by decide +kernel
theorem d_M_workOnField_95 : decode b_M_workOnField 95 = .ok (.goto (19), 3) := by decide +kernel
theorem d_M_workOnField_98 : decode b_M_workOnField 98 = .ok (.aload_n 0, 1) := by decide +kernel
theorem d_M_workOnField_99 : decode b_M_workOnField 99 = .ok (.getfield 15, 3) := by decide +kernel
theorem d_M_workOnField_102 : decode b_M_workOnField 102 = .ok (.iload 7, 2) := by decide +kernel
theorem d_M_workOnField_104 : decode b_M_workOnField 104 = .ok (.aload_n 0, 1) := by decide +kernel
theorem d_M_workOnField_105 : decode b_M_workOnField 105 = .ok (.getfield 36, 3) := by decide +kernel
theorem d_M_workOnField_108 : decode b_M_workOnField 108 = .ok (.iload 6, 2) := by decide +kernel
theorem d_M_workOnField_110 : decode b_M_workOnField 110 = .ok (.iload_n 3, 1) := by decide +kernel
theorem d_M_workOnField_111 : decode b_M_workOnField 111 = .ok (.iadd, 1) := by decide +kernel
theorem d_M_workOnField_112 : decode b_M_workOnField 112 = .ok (.iaload, 1) := by decide +kernel
theorem d_M_workOnField_113 : decode b_M_workOnField 113 = .ok (.iastore, 1) := by decide +kernel
theorem d_M_workOnField_114 : decode b_M_workOnField 114 = .ok (.return_, 1) := by decide +kernel
theorem d_M_changeCount_0 : decode b_M_changeCount 0 = .ok (.iload_n 2, 1) := by decide +kernel
theorem d_M_changeCount_1 : decode b_M_changeCount 1 = .ok (.ifCond .ne (11), 3) := by decide +kernel
theorem d_M_changeCount_4 : decode b_M_changeCount 4 = .ok (.aload_n 0, 1) := by decide +kernel
theorem d_M_changeCount_5 : decode b_M_changeCount 5 = .ok (.iconst 1, 1) := by decide +kernel
theorem d_M_changeCount_6 : decode b_M_changeCount 6 = .ok (.putfield 46, 3) := by decide +kernel
theorem d_M_changeCount_9 : decode b_M_changeCount 9 = .ok (.goto (67), 3) := by decide +kernel
theorem d_M_changeCount_12 : decode b_M_changeCount 12 = .ok (.iload_n 1, 1) := by decide +kernel
theorem d_M_changeCount_13 : decode b_M_changeCount 13 = .ok (.bipush (11), 2) := by decide +kernel
theorem d_M_changeCount_15 : decode b_M_changeCount 15 = .ok (.if_icmp .ne (20), 3) := by decide +kernel
theorem d_M_changeCount_18 : decode b_M_changeCount 18 = .ok (.aload_n 0, 1) := by decide +kernel
theorem d_M_changeCount_19 : decode b_M_changeCount 19 = .ok (.getfield 18, 3) := by decide +kernel
theorem d_M_changeCount_22 : decode b_M_changeCount 22 = .ok (.iload_n 2, 1) := by decide +kernel
theorem d_M_changeCount_23 : decode b_M_changeCount 23 = .ok (.iaload, 1) := by decide +kernel
theorem d_M_changeCount_24 : decode b_M_changeCount 24 = .ok (.ifCond .ne (11), 3) := by decide +kernel
theorem d_M_changeCount_27 : decode b_M_changeCount 27 = .ok (.aload_n 0, 1) := by decide +kernel
theorem d_M_changeCount_28 : decode b_M_changeCount 28 = .ok (.iconst 2, 1) := by decide +kernel
theorem d_M_changeCount_29 : decode b_M_changeCount 29 = .ok (.putfield 46, 3) := by decide +kernel
theorem d_M_changeCount_32 : decode b_M_changeCount 32 = .ok (.goto (44), 3) := by decide +kernel
theorem d_M_changeCount_35 : decode b_M_changeCount 35 = .ok (.aload_n 0, 1) := by decide +kernel
theorem d_M_changeCount_36 : decode b_M_changeCount 36 = .ok (.getfield 18, 3) := by decide +kernel
theorem d_M_changeCount_39 : decode b_M_changeCount 39 = .ok (.iload_n 2, 1) := by decide +kernel
theorem d_M_changeCount_40 : decode b_M_changeCount 40 = .ok (.dup2, 1) := by decide +kernel
theorem d_M_changeCount_41 : decode b_M_changeCount 41 = .ok (.iaload, 1) := by decide +kernel
theorem d_M_changeCount_42 : decode b_M_changeCount 42 = .ok (.iload_n 1, 1) := by decide +kernel
theorem d_M_changeCount_43 : decode b_M_changeCount 43 = .ok (.bipush (10), 2) := by decide +kernel
theorem d_M_changeCount_45 : decode b_M_changeCount 45 = .ok (.if_icmp .ne (7), 3) := by decide +kernel
theorem d_M_changeCount_48 : decode b_M_changeCount 48 = .ok (.iconst 1, 1) := by decide +kernel
theorem d_M_changeCount_49 : decode b_M_changeCount 49 = .ok (.goto (4), 3) := by decide +kernel
theorem d_M_changeCount_52 : decode b_M_changeCount 52 = .ok (.iconst (-1), 1) := by decide +kernel
theorem d_M_changeCount_53 : decode b_M_changeCount 53 = .ok (.iadd, 1) := by decide +kernel
theorem d_M_changeCount_54 : decode b_M_changeCount 54 = .ok (.iastore, 1) := by decide +kernel
theorem d_M_changeCount_55 : decode b_M_changeCount 55 = .ok (.aload_n 0, 1) := by decide +kernel
theorem d_M_changeCount_56 : decode b_M_changeCount 56 = .ok (.dup, 1) := by decide +kernel
theorem d_M_changeCount_57 : decode b_M_changeCount 57 = .ok (.getfield 58, 3) := by decide +kernel
theorem d_M_changeCount_60 : decode b_M_changeCount 60 = .ok (.iload_n 2, 1) := by decide +kernel
theorem d_M_changeCount_61 : decode b_M_changeCount 61 = .ok (.sipush (401), 3) := by decide +kernel
theorem d_M_changeCount_64 : decode b_M_changeCount 64 = .ok (.if_icmp .ge (7), 3) := by decide +kernel
theorem d_M_changeCount_67 : decode b_M_changeCount 67 = .ok (.iconst 1, 1) := by decide +kernel
theorem d_M_changeCount_68 : decode b_M_changeCount 68 = .ok (.goto (4), 3) := by decide +kernel
theorem d_M_changeCount_71 : decode b_M_changeCount 71 = .ok (.iconst 0, 1) := by decide +kernel
theorem d_M_changeCount_72 : decode b_M_changeCount 72 = .ok (.iadd, 1) := by decide +kernel
theorem d_M_changeCount_73 : decode b_M_changeCount 73 = .ok (.putfield 58, 3) := by decide +kernel
theorem d_M_changeCount_76 : decode b_M_changeCount 76 = .ok (.return_, 1) := by decide +kernel
theorem d_M_call_0 : decode b_M_call 0 = .ok (.aload_n 1, 1) := by decide +kernel
theorem d_M_call_1 : decode b_M_call 1 = .ok (.iload_n 2, 1) := by decide +kernel
theorem d_M_call_2 : decode b_M_call 2 = .ok (.aaload, 1) := by decide +kernel
theorem d_M_call_3 : decode b_M_call 3 = .ok (.astore 4, 2) := by decide +kernel
theorem d_M_call_5 : decode b_M_call 5 = .ok (.aload 4, 2) := by decide +kernel
theorem d_M_call_7 : decode b_M_call 7 = .ok (.getfield 121, 3) := by decide +kernel
theorem d_M_call_10 : decode b_M_call 10 = .ok (.iload_n 3, 1) := by decide +kernel
theorem d_M_call_11 : decode b_M_call 11 = .ok (.iaload, 1) := by decide +kernel
theorem d_M_call_12 : decode b_M_call 12 = .ok (.istore 5, 2) := by decide +kernel
theorem d_M_call_14 : decode b_M_call 14 = .ok (.aload_n 1, 1) := by decide +kernel
theorem d_M_call_15 : decode b_M_call 15 = .ok (.iload 5, 2) := by decide +kernel
theorem d_M_call_17 : decode b_M_call 17 = .ok (.aaload, 1) := by decide +kernel
theorem d_M_call_18 : decode b_M_call 18 = .ok (.getfield 144, 3) := by decide +kernel
theorem d_M_call_21 : decode b_M_call 21 = .ok (.ifCond .eq (12), 3) := by decide +kernel
theorem d_M_call_24 : decode b_M_call 24 = .ok (.aload_n 0, 1) := by decide +kernel
theorem d_M_call_25 : decode b_M_call 25 = .ok (.getfield 39, 3) := by decide +kernel
theorem d_M_call_28 : decode b_M_call 28 = .ok (.bipush (8), 2) := by decide +kernel
theorem d_M_call_30 : decode b_M_call 30 = .ok (.if_icmp .lt (9), 3) := by decide +kernel
theorem d_M_call_33 : decode b_M_call 33 = .ok (.aload_n 0, 1) := by decide +kernel
theorem d_M_call_34 : decode b_M_call 34 = .ok (.iconst 3, 1) := by decide +kernel
theorem d_M_call_35 : decode b_M_call 35 = .ok (.putfield 46, 3) := by decide +kernel
theorem d_M_call_38 : decode b_M_call 38 = .ok (.return_, 1) := by decide +kernel
theorem d_M_call_39 : decode b_M_call 39 = .ok (.aload_n 1, 1) := by decide +kernel
theorem d_M_call_40 : decode b_M_call 40 = .ok (.iload 5, 2) := by decide +kernel
theorem d_M_call_42 : decode b_M_call 42 = .ok (.aaload, 1) := by decide +kernel
theorem d_M_call_43 : decode b_M_call 43 = .ok (.getfield 147, 3) := by decide +kernel
theorem d_M_call_46 : decode b_M_call 46 = .ok (.istore 6, 2) := by decide +kernel
theorem d_M_call_48 : decode b_M_call 48 = .ok (.iload 6, 2) := by decide +kernel
theorem d_M_call_50 : decode b_M_call 50 = .ok (.iconst 1, 1) := by decide +kernel
theorem d_M_call_51 : decode b_M_call 51 = .ok (.if_icmp .lt (17), 3) := by decide +kernel
theorem d_M_call_54 : decode b_M_call 54 = .ok (.aload_n 0, 1) := by decide +kernel
theorem d_M_call_55 : decode b_M_call 55 = .ok (.aload 4, 2) := by decide +kernel
theorem d_M_call_57 : decode b_M_call 57 = .ok (.getfield 99, 3) := by decide +kernel
theorem d_M_call_60 : decode b_M_call 60 = .ok (.iload_n 3, 1) := by decide +kernel
theorem d_M_call_61 : decode b_M_call 61 = .ok (.iaload, 1) := by decide +kernel
theorem d_M_call_62 : decode b_M_call 62 = .ok (.invokevirtual 105, 3) := by decide +kernel
theorem d_M_call_65 : decode b_M_call 65 = .ok (.goto (4), 3) := by decide +kernel
theorem d_M_call_68 : decode b_M_call 68 = .ok (.iconst 0, 1) := by decide +kernel
theorem d_M_call_69 : decode b_M_call 69 = .ok (.istore 7, 2) := by decide +kernel
theorem d_M_call_71 : decode b_M_call 71 = .ok (.iload 6, 2) := by decide +kernel
theorem d_M_call_73 : decode b_M_call 73 = .ok (.iconst 2, 1) := by decide +kernel
theorem d_M_call_74 : decode b_M_call 74 = .ok (.if_icmp .lt (17), 3) := by decide +kernel
theorem d_M_call_77 : decode b_M_call 77 = .ok (.aload_n 0, 1) := by decide +kernel
theorem d_M_call_78 : decode b_M_call 78 = .ok (.aload 4, 2) := by decide +kernel
theorem d_M_call_80 : decode b_M_call 80 = .ok (.getfield 102, 3) := by decide +kernel
theorem d_M_call_83 : decode b_M_call 83 = .ok (.iload_n 3, 1) := by decide +kernel
theorem d_M_call_84 : decode b_M_call 84 = .ok (.iaload, 1) := by decide +kernel
theorem d_M_call_85 : decode b_M_call 85 = .ok (.invokevirtual 105, 3) := by decide +kernel
theorem d_M_call_88 : decode b_M_call 88 = .ok (.goto (4), 3) := by decide +kernel
theorem d_M_call_91 : decode b_M_call 91 = .ok (.iconst 0, 1) := by decide +kernel
theorem d_M_call_92 : decode b_M_call 92 = .ok (.istore 8, 2) := by decide +kernel
theorem d_M_call_94 : decode b_M_call 94 = .ok (.aload_n 0, 1) := by decide +kernel
theorem d_M_call_95 : decode b_M_call 95 = .ok (.iload 5, 2) := by decide +kernel
theorem d_M_call_97 : decode b_M_call 97 = .ok (.aload 4, 2) := by decide +kernel
theorem d_M_call_99 : decode b_M_call 99 = .ok (.getfield 96, 3) := by decide +kernel
theorem d_M_call_102 : decode b_M_call 102 = .ok (.iload_n 3, 1) := by decide +kernel
theorem d_M_call_103 : decode b_M_call 103 = .ok (.iaload, 1) := by decide +kernel
theorem d_M_call_104 : decode b_M_call 104 = .ok (.iload 7, 2) := by decide +kernel
theorem d_M_call_106 : decode b_M_call 106 = .ok (.iload 8, 2) := by decide +kernel
theorem d_M_call_108 : decode b_M_call 108 = .ok (.invokevirtual 89, 3) := by decide +kernel
theorem d_M_call_111 : decode b_M_call 111 = .ok (.return_, 1) := by decide +kernel
theorem d_M_newParts_0 : decode b_M_newParts 0 = .ok (.aload_n 0, 1) := by decide +kernel
theorem d_M_newParts_1 : decode b_M_newParts 1 = .ok (.sipush (401), 3) := by decide +kernel
theorem d_M_newParts_4 : decode b_M_newParts 4 = .ok (.aload_n 0, 1) := by decide +kernel
theorem d_M_newParts_5 : decode b_M_newParts 5 = .ok (.invokevirtual 124, 3) := by decide +kernel
theorem d_M_newParts_8 : decode b_M_newParts 8 = .ok (.iadd, 1) := by decide +kernel
theorem d_M_newParts_9 : decode b_M_newParts 9 = .ok (.iload_n 1, 1) := by decide +kernel
theorem d_M_newParts_10 : decode b_M_newParts 10 = .ok (.iadd, 1) := by decide +kernel
theorem d_M_newParts_11 : decode b_M_newParts 11 = .ok (.invokevirtual 141, 3) := by decide +kernel
theorem d_M_newParts_14 : decode b_M_newParts 14 = .ok (.ireturn, 1) := by decide +kernel
theorem d_M_emptied_0 : decode b_M_emptied 0 = .ok (.iconst 0, 1) := by decide +kernel
theorem d_M_emptied_1 : decode b_M_emptied 1 = .ok (.istore_n 2, 1) := by decide +kernel
theorem d_M_emptied_2 : decode b_M_emptied 2 = .ok (.iload_n 2, 1) := by decide +kernel
theorem d_M_emptied_3 : decode b_M_emptied 3 = .ok (.iconst 2, 1) := by decide +kernel
theorem d_M_emptied_4 : decode b_M_emptied 4 = .ok (.if_icmp .ge (31), 3) := by decide +kernel
theorem d_M_emptied_7 : decode b_M_emptied 7 = .ok (.aload_n 0, 1) := by decide +kernel
theorem d_M_emptied_8 : decode b_M_emptied 8 = .ok (.getfield 11, 3) := by decide +kernel
theorem d_M_emptied_11 : decode b_M_emptied 11 = .ok (.iload_n 1, 1) := by decide +kernel
theorem d_M_emptied_12 : decode b_M_emptied 12 = .ok (.iconst 2, 1) := by decide +kernel
theorem d_M_emptied_13 : decode b_M_emptied 13 = .ok (.imul, 1) := by decide +kernel
theorem d_M_emptied_14 : decode b_M_emptied 14 = .ok (.iload_n 2, 1) := by decide +kernel
theorem d_M_emptied_15 : decode b_M_emptied 15 = .ok (.iadd, 1) := by decide +kernel
theorem d_M_emptied_16 : decode b_M_emptied 16 = .ok (.iconst 0, 1) := by decide +kernel
theorem d_M_emptied_17 : decode b_M_emptied 17 = .ok (.iastore, 1) := by decide +kernel
theorem d_M_emptied_18 : decode b_M_emptied 18 = .ok (.aload_n 0, 1) := by decide +kernel
theorem d_M_emptied_19 : decode b_M_emptied 19 = .ok (.getfield 15, 3) := by decide +kernel
theorem d_M_emptied_22 : decode b_M_emptied 22 = .ok (.iload_n 1, 1) := by decide +kernel
theorem d_M_emptied_23 : decode b_M_emptied 23 = .ok (.iconst 2, 1) := by decide +kernel
theorem d_M_emptied_24 : decode b_M_emptied 24 = .ok (.imul, 1) := by decide +kernel
theorem d_M_emptied_25 : decode b_M_emptied 25 = .ok (.iload_n 2, 1) := by decide +kernel
theorem d_M_emptied_26 : decode b_M_emptied 26 = .ok (.iadd, 1) := by decide +kernel
theorem d_M_emptied_27 : decode b_M_emptied 27 = .ok (.iconst 0, 1) := by decide +kernel
theorem d_M_emptied_28 : decode b_M_emptied 28 = .ok (.iastore, 1) := by decide +kernel
theorem d_M_emptied_29 : decode b_M_emptied 29 = .ok (.iinc 2 (1), 3) := by decide +kernel
theorem d_M_emptied_32 : decode b_M_emptied 32 = .ok (.goto (-30), 3) := by decide +kernel
theorem d_M_emptied_35 : decode b_M_emptied 35 = .ok (.aload_n 0, 1) := by decide +kernel
theorem d_M_emptied_36 : decode b_M_emptied 36 = .ok (.getfield 18, 3) := by decide +kernel
theorem d_M_emptied_39 : decode b_M_emptied 39 = .ok (.iload_n 1, 1) := by decide +kernel
theorem d_M_emptied_40 : decode b_M_emptied 40 = .ok (.iconst 0, 1) := by decide +kernel
theorem d_M_emptied_41 : decode b_M_emptied 41 = .ok (.iastore, 1) := by decide +kernel
theorem d_M_emptied_42 : decode b_M_emptied 42 = .ok (.iload_n 1, 1) := by decide +kernel
theorem d_M_emptied_43 : decode b_M_emptied 43 = .ok (.ireturn, 1) := by decide +kernel
theorem d_M_newObject_0 : decode b_M_newObject 0 = .ok (.aload_n 0, 1) := by decide +kernel
theorem d_M_newObject_1 : decode b_M_newObject 1 = .ok (.dup, 1) := by decide +kernel
theorem d_M_newObject_2 : decode b_M_newObject 2 = .ok (.getfield 55, 3) := by decide +kernel
theorem d_M_newObject_5 : decode b_M_newObject 5 = .ok (.iconst 1, 1) := by decide +kernel
theorem d_M_newObject_6 : decode b_M_newObject 6 = .ok (.iadd, 1) := by decide +kernel
theorem d_M_newObject_7 : decode b_M_newObject 7 = .ok (.putfield 55, 3) := by decide +kernel
theorem d_M_newObject_10 : decode b_M_newObject 10 = .ok (.aload_n 0, 1) := by decide +kernel
theorem d_M_newObject_11 : decode b_M_newObject 11 = .ok (.aload_n 0, 1) := by decide +kernel
theorem d_M_newObject_12 : decode b_M_newObject 12 = .ok (.getfield 55, 3) := by decide +kernel
theorem d_M_newObject_15 : decode b_M_newObject 15 = .ok (.invokevirtual 141, 3) := by decide +kernel
theorem d_M_newObject_18 : decode b_M_newObject 18 = .ok (.ireturn, 1) := by decide +kernel
theorem d_M_move_0 : decode b_M_move 0 = .ok (.aload_n 0, 1) := by decide +kernel
theorem d_M_move_1 : decode b_M_move 1 = .ok (.invokevirtual 124, 3) := by decide +kernel
theorem d_M_move_4 : decode b_M_move 4 = .ok (.istore_n 3, 1) := by decide +kernel
theorem d_M_move_5 : decode b_M_move 5 = .ok (.aload_n 1, 1) := by decide +kernel
theorem d_M_move_6 : decode b_M_move 6 = .ok (.getfield 96, 3) := by decide +kernel
theorem d_M_move_9 : decode b_M_move 9 = .ok (.iload_n 2, 1) := by decide +kernel
theorem d_M_move_10 : decode b_M_move 10 = .ok (.iaload, 1) := by decide +kernel
theorem d_M_move_11 : decode b_M_move 11 = .ok (.istore 4, 2) := by decide +kernel
theorem d_M_move_13 : decode b_M_move 13 = .ok (.aload_n 1, 1) := by decide +kernel
theorem d_M_move_14 : decode b_M_move 14 = .ok (.getfield 99, 3) := by decide +kernel
theorem d_M_move_17 : decode b_M_move 17 = .ok (.iload_n 2, 1) := by decide +kernel
theorem d_M_move_18 : decode b_M_move 18 = .ok (.iaload, 1) := by decide +kernel
theorem d_M_move_19 : decode b_M_move 19 = .ok (.istore 5, 2) := by decide +kernel
theorem d_M_move_21 : decode b_M_move 21 = .ok (.aload_n 1, 1) := by decide +kernel
theorem d_M_move_22 : decode b_M_move 22 = .ok (.getfield 102, 3) := by decide +kernel
theorem d_M_move_25 : decode b_M_move 25 = .ok (.iload_n 2, 1) := by decide +kernel
theorem d_M_move_26 : decode b_M_move 26 = .ok (.iaload, 1) := by decide +kernel
theorem d_M_move_27 : decode b_M_move 27 = .ok (.istore 6, 2) := by decide +kernel
theorem d_M_move_29 : decode b_M_move 29 = .ok (.aload_n 1, 1) := by decide +kernel
theorem d_M_move_30 : decode b_M_move 30 = .ok (.getfield 93, 3) := by decide +kernel
theorem d_M_move_33 : decode b_M_move 33 = .ok (.iload_n 2, 1) := by decide +kernel
theorem d_M_move_34 : decode b_M_move 34 = .ok (.iaload, 1) := by decide +kernel
theorem d_M_move_35 : decode b_M_move 35 = .ok (.tableswitch (260) (1) (18) #[85, 106, 260, 260, 260, 260, 119, 137, 168, 260, 260, 206, 225, 260, 260, 260, 260, 244], 85) := by decide +kernel
theorem d_M_move_120 : decode b_M_move 120 = .ok (.aload_n 0, 1) := by decide +kernel
theorem d_M_move_121 : decode b_M_move 121 = .ok (.getfield 33, 3) := by decide +kernel
theorem d_M_move_124 : decode b_M_move 124 = .ok (.iload_n 3, 1) := by decide +kernel
theorem d_M_move_125 : decode b_M_move 125 = .ok (.iload 4, 2) := by decide +kernel
theorem d_M_move_127 : decode b_M_move 127 = .ok (.iadd, 1) := by decide +kernel
theorem d_M_move_128 : decode b_M_move 128 = .ok (.aload_n 0, 1) := by decide +kernel
theorem d_M_move_129 : decode b_M_move 129 = .ok (.getfield 33, 3) := by decide +kernel
theorem d_M_move_132 : decode b_M_move 132 = .ok (.iload_n 3, 1) := by decide +kernel
theorem d_M_move_133 : decode b_M_move 133 = .ok (.iload 5, 2) := by decide +kernel
theorem d_M_move_135 : decode b_M_move 135 = .ok (.iadd, 1) := by decide +kernel
theorem d_M_move_136 : decode b_M_move 136 = .ok (.iaload, 1) := by decide +kernel
theorem d_M_move_137 : decode b_M_move 137 = .ok (.iastore, 1) := by decide +kernel
theorem d_M_move_138 : decode b_M_move 138 = .ok (.goto (157), 3) := by decide +kernel
theorem d_M_move_141 : decode b_M_move 141 = .ok (.aload_n 0, 1) := by decide +kernel
theorem d_M_move_142 : decode b_M_move 142 = .ok (.getfield 33, 3) := by decide +kernel
theorem d_M_move_145 : decode b_M_move 145 = .ok (.iload_n 3, 1) := by decide +kernel
theorem d_M_move_146 : decode b_M_move 146 = .ok (.iload 4, 2) := by decide +kernel
theorem d_M_move_148 : decode b_M_move 148 = .ok (.iadd, 1) := by decide +kernel
theorem d_M_move_149 : decode b_M_move 149 = .ok (.iconst 0, 1) := by decide +kernel
theorem d_M_move_150 : decode b_M_move 150 = .ok (.iastore, 1) := by decide +kernel
theorem d_M_move_151 : decode b_M_move 151 = .ok (.goto (144), 3) := by decide +kernel
theorem d_M_move_154 : decode b_M_move 154 = .ok (.aload_n 0, 1) := by decide +kernel
theorem d_M_move_155 : decode b_M_move 155 = .ok (.getfield 36, 3) := by decide +kernel
theorem d_M_move_158 : decode b_M_move 158 = .ok (.iload_n 3, 1) := by decide +kernel
theorem d_M_move_159 : decode b_M_move 159 = .ok (.iload 4, 2) := by decide +kernel
theorem d_M_move_161 : decode b_M_move 161 = .ok (.iadd, 1) := by decide +kernel
theorem d_M_move_162 : decode b_M_move 162 = .ok (.aload_n 1, 1) := by decide +kernel
theorem d_M_move_163 : decode b_M_move 163 = .ok (.getfield 121, 3) := by decide +kernel
theorem d_M_move_166 : decode b_M_move 166 = .ok (.iload_n 2, 1) := by decide +kernel
theorem d_M_move_167 : decode b_M_move 167 = .ok (.iaload, 1) := by decide +kernel
theorem d_M_move_168 : decode b_M_move 168 = .ok (.iastore, 1) := by decide +kernel
theorem d_M_move_169 : decode b_M_move 169 = .ok (.goto (126), 3) := by decide +kernel
theorem d_M_move_172 : decode b_M_move 172 = .ok (.aload_n 0, 1) := by decide +kernel
theorem d_M_move_173 : decode b_M_move 173 = .ok (.getfield 36, 3) := by decide +kernel
theorem d_M_move_176 : decode b_M_move 176 = .ok (.iload_n 3, 1) := by decide +kernel
theorem d_M_move_177 : decode b_M_move 177 = .ok (.iload 4, 2) := by decide +kernel
theorem d_M_move_179 : decode b_M_move 179 = .ok (.iadd, 1) := by decide +kernel
theorem d_M_move_180 : decode b_M_move 180 = .ok (.aload_n 0, 1) := by decide +kernel
theorem d_M_move_181 : decode b_M_move 181 = .ok (.getfield 36, 3) := by decide +kernel
theorem d_M_move_184 : decode b_M_move 184 = .ok (.iload_n 3, 1) := by decide +kernel
theorem d_M_move_185 : decode b_M_move 185 = .ok (.iload 5, 2) := by decide +kernel
theorem d_M_move_187 : decode b_M_move 187 = .ok (.iadd, 1) := by decide +kernel
theorem d_M_move_188 : decode b_M_move 188 = .ok (.iaload, 1) := by decide +kernel
theorem d_M_move_189 : decode b_M_move 189 = .ok (.aload_n 0, 1) := by decide +kernel
theorem d_M_move_190 : decode b_M_move 190 = .ok (.getfield 36, 3) := by decide +kernel
theorem d_M_move_193 : decode b_M_move 193 = .ok (.iload_n 3, 1) := by decide +kernel
theorem d_M_move_194 : decode b_M_move 194 = .ok (.iload 6, 2) := by decide +kernel
theorem d_M_move_196 : decode b_M_move 196 = .ok (.iadd, 1) := by decide +kernel
theorem d_M_move_197 : decode b_M_move 197 = .ok (.iaload, 1) := by decide +kernel
theorem d_M_move_198 : decode b_M_move 198 = .ok (.iadd, 1) := by decide +kernel
theorem d_M_move_199 : decode b_M_move 199 = .ok (.iastore, 1) := by decide +kernel
theorem d_M_move_200 : decode b_M_move 200 = .ok (.goto (95), 3) := by decide +kernel
theorem d_M_move_203 : decode b_M_move 203 = .ok (.aload_n 0, 1) := by decide +kernel
theorem d_M_move_204 : decode b_M_move 204 = .ok (.getfield 36, 3) := by decide +kernel
theorem d_M_move_207 : decode b_M_move 207 = .ok (.iload_n 3, 1) := by decide +kernel
theorem d_M_move_208 : decode b_M_move 208 = .ok (.iload 4, 2) := by decide +kernel
theorem d_M_move_210 : decode b_M_move 210 = .ok (.iadd, 1) := by decide +kernel
theorem d_M_move_211 : decode b_M_move 211 = .ok (.aload_n 0, 1) := by decide +kernel
theorem d_M_move_212 : decode b_M_move 212 = .ok (.getfield 33, 3) := by decide +kernel
theorem d_M_move_215 : decode b_M_move 215 = .ok (.iload_n 3, 1) := by decide +kernel
theorem d_M_move_216 : decode b_M_move 216 = .ok (.iload 5, 2) := by decide +kernel
theorem d_M_move_218 : decode b_M_move 218 = .ok (.iadd, 1) := by decide +kernel
theorem d_M_move_219 : decode b_M_move 219 = .ok (.iaload, 1) := by decide +kernel
theorem d_M_move_220 : decode b_M_move 220 = .ok (.aload_n 0, 1) := by decide +kernel
theorem d_M_move_221 : decode b_M_move 221 = .ok (.getfield 33, 3) := by decide +kernel
theorem d_M_move_224 : decode b_M_move 224 = .ok (.iload_n 3, 1) := by decide +kernel
theorem d_M_move_225 : decode b_M_move 225 = .ok (.iload 6, 2) := by decide +kernel
theorem d_M_move_227 : decode b_M_move 227 = .ok (.iadd, 1) := by decide +kernel
theorem d_M_move_228 : decode b_M_move 228 = .ok (.iaload, 1) := by decide +kernel
theorem d_M_move_229 : decode b_M_move 229 = .ok (.if_icmp .ne (7), 3) := by decide +kernel
theorem d_M_move_232 : decode b_M_move 232 = .ok (.iconst 1, 1) := by decide +kernel
theorem d_M_move_233 : decode b_M_move 233 = .ok (.goto (4), 3) := by decide +kernel
theorem d_M_move_236 : decode b_M_move 236 = .ok (.iconst 0, 1) := by decide +kernel
theorem d_M_move_237 : decode b_M_move 237 = .ok (.iastore, 1) := by decide +kernel
theorem d_M_move_238 : decode b_M_move 238 = .ok (.goto (57), 3) := by decide +kernel
theorem d_M_move_241 : decode b_M_move 241 = .ok (.aload_n 0, 1) := by decide +kernel
theorem d_M_move_242 : decode b_M_move 242 = .ok (.getfield 21, 3) := by decide +kernel
theorem d_M_move_245 : decode b_M_move 245 = .ok (.iload 5, 2) := by decide +kernel
theorem d_M_move_247 : decode b_M_move 247 = .ok (.aload_n 0, 1) := by decide +kernel
theorem d_M_move_248 : decode b_M_move 248 = .ok (.getfield 33, 3) := by decide +kernel
theorem d_M_move_251 : decode b_M_move 251 = .ok (.iload_n 3, 1) := by decide +kernel
theorem d_M_move_252 : decode b_M_move 252 = .ok (.iload 4, 2) := by decide +kernel
theorem d_M_move_254 : decode b_M_move 254 = .ok (.iadd, 1) := by decide +kernel
theorem d_M_move_255 : decode b_M_move 255 = .ok (.iaload, 1) := by decide +kernel
theorem d_M_move_256 : decode b_M_move 256 = .ok (.iastore, 1) := by decide +kernel
theorem d_M_move_257 : decode b_M_move 257 = .ok (.goto (38), 3) := by decide +kernel
theorem d_M_move_260 : decode b_M_move 260 = .ok (.aload_n 0, 1) := by decide +kernel
theorem d_M_move_261 : decode b_M_move 261 = .ok (.getfield 33, 3) := by decide +kernel
theorem d_M_move_264 : decode b_M_move 264 = .ok (.iload_n 3, 1) := by decide +kernel
theorem d_M_move_265 : decode b_M_move 265 = .ok (.iload 4, 2) := by decide +kernel
theorem d_M_move_267 : decode b_M_move 267 = .ok (.iadd, 1) := by decide +kernel
theorem d_M_move_268 : decode b_M_move 268 = .ok (.aload_n 0, 1) := by decide +kernel
theorem d_M_move_269 : decode b_M_move 269 = .ok (.getfield 21, 3) := by decide +kernel
theorem d_M_move_272 : decode b_M_move 272 = .ok (.iload 5, 2) := by decide +kernel
theorem d_M_move_274 : decode b_M_move 274 = .ok (.iaload, 1) := by decide +kernel
theorem d_M_move_275 : decode b_M_move 275 = .ok (.iastore, 1) := by decide +kernel
theorem d_M_move_276 : decode b_M_move 276 = .ok (.goto (19), 3) := by decide +kernel
theorem d_M_move_279 : decode b_M_move 279 = .ok (.aload_n 0, 1) := by decide +kernel
theorem d_M_move_280 : decode b_M_move 280 = .ok (.aload_n 0, 1) := by decide +kernel
theorem d_M_move_281 : decode b_M_move 281 = .ok (.getfield 36, 3) := by decide +kernel
theorem d_M_move_284 : decode b_M_move 284 = .ok (.iload_n 3, 1) := by decide +kernel
theorem d_M_move_285 : decode b_M_move 285 = .ok (.iload 4, 2) := by decide +kernel
theorem d_M_move_287 : decode b_M_move 287 = .ok (.iadd, 1) := by decide +kernel
theorem d_M_move_288 : decode b_M_move 288 = .ok (.iaload, 1) := by decide +kernel
theorem d_M_move_289 : decode b_M_move 289 = .ok (.invokevirtual 138, 3) := by decide +kernel
theorem d_M_move_292 : decode b_M_move 292 = .ok (.goto (3), 3) := by decide +kernel
theorem d_M_move_295 : decode b_M_move 295 = .ok (.return_, 1) := by decide +kernel
theorem d_M_show_0 : decode b_M_show 0 = .ok (.aload_n 0, 1) := by decide +kernel
theorem d_M_show_1 : decode b_M_show 1 = .ok (.getfield 49, 3) := by decide +kernel
theorem d_M_show_4 : decode b_M_show 4 = .ok (.bipush (32), 2) := by decide +kernel
theorem d_M_show_6 : decode b_M_show 6 = .ok (.if_icmp .ge (13), 3) := by decide +kernel
theorem d_M_show_9 : decode b_M_show 9 = .ok (.aload_n 0, 1) := by decide +kernel
theorem d_M_show_10 : decode b_M_show 10 = .ok (.getfield 43, 3) := by decide +kernel
theorem d_M_show_13 : decode b_M_show 13 = .ok (.aload_n 0, 1) := by decide +kernel
theorem d_M_show_14 : decode b_M_show 14 = .ok (.getfield 49, 3) := by decide +kernel
theorem d_M_show_17 : decode b_M_show 17 = .ok (.iload_n 1, 1) := by decide +kernel
theorem d_M_show_18 : decode b_M_show 18 = .ok (.iastore, 1) := by decide +kernel
theorem d_M_show_19 : decode b_M_show 19 = .ok (.aload_n 0, 1) := by decide +kernel
theorem d_M_show_20 : decode b_M_show 20 = .ok (.dup, 1) := by decide +kernel
theorem d_M_show_21 : decode b_M_show 21 = .ok (.getfield 49, 3) := by decide +kernel
theorem d_M_show_24 : decode b_M_show 24 = .ok (.iconst 1, 1) := by decide +kernel
theorem d_M_show_25 : decode b_M_show 25 = .ok (.iadd, 1) := by decide +kernel
theorem d_M_show_26 : decode b_M_show 26 = .ok (.putfield 49, 3) := by decide +kernel
theorem d_M_show_29 : decode b_M_show 29 = .ok (.return_, 1) := by decide +kernel
