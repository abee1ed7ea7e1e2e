theorem dM_init_0 : decode cM_init 0 = .ok (.aload_n 0, 1) := by decide +kernel
theorem dM_init_1 : decode cM_init 1 = .ok (.invokespecial 1, 3) := by decide +kernel
theorem dM_init_4 : decode cM_init 4 = .ok (.aload_n 0, 1) := by decide +kernel
theorem dM_init_5 : decode cM_init 5 = .ok (.iconst 0, 1) := by decide +kernel
theorem dM_init_6 : decode cM_init 6 = .ok (.putfield 7, 3) := by decide +kernel
theorem dM_init_9 : decode cM_init 9 = .ok (.aload_n 0, 1) := by decide +kernel
theorem dM_init_10 : decode cM_init 10 = .ok (.bipush 16, 2) := by decide +kernel
theorem dM_init_12 : decode cM_init 12 = .ok (.sipush 2000, 3) := by decide +kernel
theorem dM_init_15 : decode cM_init 15 = .ok (.multianewarray 13 2, 4) := by decide +kernel
theorem dM_init_19 : decode cM_init 19 = .ok (.putfield 15, 3) := by decide +kernel
theorem dM_init_22 : decode cM_init 22 = .ok (.aload_n 0, 1) := by decide +kernel
theorem dM_init_23 : decode cM_init 23 = .ok (.bipush 16, 2) := by decide +kernel
theorem dM_init_25 : decode cM_init 25 = .ok (.newarray .int, 2) := by decide +kernel
theorem dM_init_27 : decode cM_init 27 = .ok (.putfield 18, 3) := by decide +kernel
theorem dM_init_30 : decode cM_init 30 = .ok (.aload_n 0, 1) := by decide +kernel
theorem dM_init_31 : decode cM_init 31 = .ok (.sipush 2001, 3) := by decide +kernel
theorem dM_init_34 : decode cM_init 34 = .ok (.newarray .int, 2) := by decide +kernel
theorem dM_init_36 : decode cM_init 36 = .ok (.putfield 22, 3) := by decide +kernel
theorem dM_init_39 : decode cM_init 39 = .ok (.aload_n 0, 1) := by decide +kernel
theorem dM_init_40 : decode cM_init 40 = .ok (.sipush 2001, 3) := by decide +kernel
theorem dM_init_43 : decode cM_init 43 = .ok (.newarray .int, 2) := by decide +kernel
theorem dM_init_45 : decode cM_init 45 = .ok (.putfield 25, 3) := by decide +kernel
theorem dM_init_48 : decode cM_init 48 = .ok (.aload_n 0, 1) := by decide +kernel
theorem dM_init_49 : decode cM_init 49 = .ok (.sipush 2001, 3) := by decide +kernel
theorem dM_init_52 : decode cM_init 52 = .ok (.newarray .int, 2) := by decide +kernel
theorem dM_init_54 : decode cM_init 54 = .ok (.putfield 28, 3) := by decide +kernel
theorem dM_init_57 : decode cM_init 57 = .ok (.aload_n 0, 1) := by decide +kernel
theorem dM_init_58 : decode cM_init 58 = .ok (.iconst 0, 1) := by decide +kernel
theorem dM_init_59 : decode cM_init 59 = .ok (.putfield 31, 3) := by decide +kernel
theorem dM_init_62 : decode cM_init 62 = .ok (.aload_n 0, 1) := by decide +kernel
theorem dM_init_63 : decode cM_init 63 = .ok (.iconst 0, 1) := by decide +kernel
theorem dM_init_64 : decode cM_init 64 = .ok (.putfield 34, 3) := by decide +kernel
theorem dM_init_67 : decode cM_init 67 = .ok (.aload_n 0, 1) := by decide +kernel
theorem dM_init_68 : decode cM_init 68 = .ok (.iconst 0, 1) := by decide +kernel
theorem dM_init_69 : decode cM_init 69 = .ok (.putfield 37, 3) := by decide +kernel
theorem dM_init_72 : decode cM_init 72 = .ok (.aload_n 0, 1) := by decide +kernel
theorem dM_init_73 : decode cM_init 73 = .ok (.ldc 41, 2) := by decide +kernel
theorem dM_init_75 : decode cM_init 75 = .ok (.newarray .byte, 2) := by decide +kernel
theorem dM_init_77 : decode cM_init 77 = .ok (.putfield 42, 3) := by decide +kernel
theorem dM_init_80 : decode cM_init 80 = .ok (.aload_n 0, 1) := by decide +kernel
theorem dM_init_81 : decode cM_init 81 = .ok (.iconst 0, 1) := by decide +kernel
theorem dM_init_82 : decode cM_init 82 = .ok (.putfield 46, 3) := by decide +kernel
theorem dM_init_85 : decode cM_init 85 = .ok (.aload_n 0, 1) := by decide +kernel
theorem dM_init_86 : decode cM_init 86 = .ok (.sipush 2002, 3) := by decide +kernel
theorem dM_init_89 : decode cM_init 89 = .ok (.newarray .int, 2) := by decide +kernel
theorem dM_init_91 : decode cM_init 91 = .ok (.putfield 49, 3) := by decide +kernel
theorem dM_init_94 : decode cM_init 94 = .ok (.aload_n 0, 1) := by decide +kernel
theorem dM_init_95 : decode cM_init 95 = .ok (.iconst 0, 1) := by decide +kernel
theorem dM_init_96 : decode cM_init 96 = .ok (.putfield 52, 3) := by decide +kernel
theorem dM_init_99 : decode cM_init 99 = .ok (.aload_n 0, 1) := by decide +kernel
theorem dM_init_100 : decode cM_init 100 = .ok (.iconst 0, 1) := by decide +kernel
theorem dM_init_101 : decode cM_init 101 = .ok (.putfield 55, 3) := by decide +kernel
theorem dM_init_104 : decode cM_init 104 = .ok (.aload_n 0, 1) := by decide +kernel
theorem dM_init_105 : decode cM_init 105 = .ok (.sipush 8000, 3) := by decide +kernel
theorem dM_init_108 : decode cM_init 108 = .ok (.newarray .int, 2) := by decide +kernel
theorem dM_init_110 : decode cM_init 110 = .ok (.putfield 58, 3) := by decide +kernel
theorem dM_init_113 : decode cM_init 113 = .ok (.aload_n 0, 1) := by decide +kernel
theorem dM_init_114 : decode cM_init 114 = .ok (.getfield 18, 3) := by decide +kernel
theorem dM_init_117 : decode cM_init 117 = .ok (.iconst 1, 1) := by decide +kernel
theorem dM_init_118 : decode cM_init 118 = .ok (.invokestatic 61, 3) := by decide +kernel
theorem dM_init_121 : decode cM_init 121 = .ok (.return_, 1) := by decide +kernel
theorem dM_thrown_0 : decode cM_thrown 0 = .ok (.aload_n 0, 1) := by decide +kernel
theorem dM_thrown_1 : decode cM_thrown 1 = .ok (.getfield 7, 3) := by decide +kernel
theorem dM_thrown_4 : decode cM_thrown 4 = .ok (.ireturn, 1) := by decide +kernel
theorem dM_refuse_0 : decode cM_refuse 0 = .ok (.iload_n 2, 1) := by decide +kernel
theorem dM_refuse_1 : decode cM_refuse 1 = .ok (.ifCond .eq 8, 3) := by decide +kernel
theorem dM_refuse_4 : decode cM_refuse 4 = .ok (.aload_n 0, 1) := by decide +kernel
theorem dM_refuse_5 : decode cM_refuse 5 = .ok (.iload_n 1, 1) := by decide +kernel
theorem dM_refuse_6 : decode cM_refuse 6 = .ok (.putfield 7, 3) := by decide +kernel
theorem dM_refuse_9 : decode cM_refuse 9 = .ok (.iload_n 2, 1) := by decide +kernel
theorem dM_refuse_10 : decode cM_refuse 10 = .ok (.ireturn, 1) := by decide +kernel
theorem dM_none_0 : decode cM_none 0 = .ok (.aload_n 0, 1) := by decide +kernel
theorem dM_none_1 : decode cM_none 1 = .ok (.iconst 0, 1) := by decide +kernel
theorem dM_none_2 : decode cM_none 2 = .ok (.putfield 7, 3) := by decide +kernel
theorem dM_none_5 : decode cM_none 5 = .ok (.aload_n 0, 1) := by decide +kernel
theorem dM_none_6 : decode cM_none 6 = .ok (.iconst 1, 1) := by decide +kernel
theorem dM_none_7 : decode cM_none 7 = .ok (.iload_n 1, 1) := by decide +kernel
theorem dM_none_8 : decode cM_none 8 = .ok (.ifCond .lt 9, 3) := by decide +kernel
theorem dM_none_11 : decode cM_none 11 = .ok (.iload_n 1, 1) := by decide +kernel
theorem dM_none_12 : decode cM_none 12 = .ok (.bipush 15, 2) := by decide +kernel
theorem dM_none_14 : decode cM_none 14 = .ok (.if_icmp .le 7, 3) := by decide +kernel
theorem dM_none_17 : decode cM_none 17 = .ok (.iconst 1, 1) := by decide +kernel
theorem dM_none_18 : decode cM_none 18 = .ok (.goto 4, 3) := by decide +kernel
theorem dM_none_21 : decode cM_none 21 = .ok (.iconst 0, 1) := by decide +kernel
theorem dM_none_22 : decode cM_none 22 = .ok (.invokevirtual 67, 3) := by decide +kernel
theorem dM_none_25 : decode cM_none 25 = .ok (.ireturn, 1) := by decide +kernel
theorem dM_begin_0 : decode cM_begin 0 = .ok (.aload_n 0, 1) := by decide +kernel
theorem dM_begin_1 : decode cM_begin 1 = .ok (.iconst 0, 1) := by decide +kernel
theorem dM_begin_2 : decode cM_begin 2 = .ok (.putfield 31, 3) := by decide +kernel
theorem dM_begin_5 : decode cM_begin 5 = .ok (.aload_n 0, 1) := by decide +kernel
theorem dM_begin_6 : decode cM_begin 6 = .ok (.iconst 0, 1) := by decide +kernel
theorem dM_begin_7 : decode cM_begin 7 = .ok (.putfield 37, 3) := by decide +kernel
theorem dM_begin_10 : decode cM_begin 10 = .ok (.return_, 1) := by decide +kernel
theorem dM_add_0 : decode cM_add 0 = .ok (.aload_n 0, 1) := by decide +kernel
theorem dM_add_1 : decode cM_add 1 = .ok (.getfield 31, 3) := by decide +kernel
theorem dM_add_4 : decode cM_add 4 = .ok (.sipush 2000, 3) := by decide +kernel
theorem dM_add_7 : decode cM_add 7 = .ok (.if_icmp .ne 9, 3) := by decide +kernel
theorem dM_add_10 : decode cM_add 10 = .ok (.aload_n 0, 1) := by decide +kernel
theorem dM_add_11 : decode cM_add 11 = .ok (.iconst 1, 1) := by decide +kernel
theorem dM_add_12 : decode cM_add 12 = .ok (.putfield 37, 3) := by decide +kernel
theorem dM_add_15 : decode cM_add 15 = .ok (.return_, 1) := by decide +kernel
theorem dM_add_16 : decode cM_add 16 = .ok (.aload_n 0, 1) := by decide +kernel
theorem dM_add_17 : decode cM_add 17 = .ok (.getfield 22, 3) := by decide +kernel
theorem dM_add_20 : decode cM_add 20 = .ok (.aload_n 0, 1) := by decide +kernel
theorem dM_add_21 : decode cM_add 21 = .ok (.dup, 1) := by decide +kernel
theorem dM_add_22 : decode cM_add 22 = .ok (.getfield 31, 3) := by decide +kernel
theorem dM_add_25 : decode cM_add 25 = .ok (.dup_x1, 1) := by decide +kernel
theorem dM_add_26 : decode cM_add 26 = .ok (.iconst 1, 1) := by decide +kernel
theorem dM_add_27 : decode cM_add 27 = .ok (.iadd, 1) := by decide +kernel
theorem dM_add_28 : decode cM_add 28 = .ok (.putfield 31, 3) := by decide +kernel
theorem dM_add_31 : decode cM_add 31 = .ok (.iload_n 1, 1) := by decide +kernel
theorem dM_add_32 : decode cM_add 32 = .ok (.iastore, 1) := by decide +kernel
theorem dM_add_33 : decode cM_add 33 = .ok (.return_, 1) := by decide +kernel
theorem dM_add2_0 : decode cM_add2 0 = .ok (.iload_n 2, 1) := by decide +kernel
theorem dM_add2_1 : decode cM_add2 1 = .ok (.istore 4, 2) := by decide +kernel
theorem dM_add2_3 : decode cM_add2 3 = .ok (.iload 4, 2) := by decide +kernel
theorem dM_add2_5 : decode cM_add2 5 = .ok (.iload_n 3, 1) := by decide +kernel
theorem dM_add2_6 : decode cM_add2 6 = .ok (.if_icmp .ge 17, 3) := by decide +kernel
theorem dM_add2_9 : decode cM_add2 9 = .ok (.aload_n 0, 1) := by decide +kernel
theorem dM_add2_10 : decode cM_add2 10 = .ok (.aload_n 1, 1) := by decide +kernel
theorem dM_add2_11 : decode cM_add2 11 = .ok (.iload 4, 2) := by decide +kernel
theorem dM_add2_13 : decode cM_add2 13 = .ok (.iaload, 1) := by decide +kernel
theorem dM_add2_14 : decode cM_add2 14 = .ok (.invokevirtual 71, 3) := by decide +kernel
theorem dM_add2_17 : decode cM_add2 17 = .ok (.iinc 4 1, 3) := by decide +kernel
theorem dM_add2_20 : decode cM_add2 20 = .ok (.goto (-17), 3) := by decide +kernel
theorem dM_add2_23 : decode cM_add2 23 = .ok (.return_, 1) := by decide +kernel
theorem dM_add3_0 : decode cM_add3 0 = .ok (.iload_n 2, 1) := by decide +kernel
theorem dM_add3_1 : decode cM_add3 1 = .ok (.istore 8, 2) := by decide +kernel
theorem dM_add3_3 : decode cM_add3 3 = .ok (.iload 8, 2) := by decide +kernel
theorem dM_add3_5 : decode cM_add3 5 = .ok (.iload_n 3, 1) := by decide +kernel
theorem dM_add3_6 : decode cM_add3 6 = .ok (.if_icmp .ge 39, 3) := by decide +kernel
theorem dM_add3_9 : decode cM_add3 9 = .ok (.aload_n 1, 1) := by decide +kernel
theorem dM_add3_10 : decode cM_add3 10 = .ok (.iload 8, 2) := by decide +kernel
theorem dM_add3_12 : decode cM_add3 12 = .ok (.iaload, 1) := by decide +kernel
theorem dM_add3_13 : decode cM_add3 13 = .ok (.iload 4, 2) := by decide +kernel
theorem dM_add3_15 : decode cM_add3 15 = .ok (.if_icmp .ne 16, 3) := by decide +kernel
theorem dM_add3_18 : decode cM_add3 18 = .ok (.aload_n 0, 1) := by decide +kernel
theorem dM_add3_19 : decode cM_add3 19 = .ok (.aload 5, 2) := by decide +kernel
theorem dM_add3_21 : decode cM_add3 21 = .ok (.iload 6, 2) := by decide +kernel
theorem dM_add3_23 : decode cM_add3 23 = .ok (.iload 7, 2) := by decide +kernel
theorem dM_add3_25 : decode cM_add3 25 = .ok (.invokevirtual 75, 3) := by decide +kernel
theorem dM_add3_28 : decode cM_add3 28 = .ok (.goto 11, 3) := by decide +kernel
theorem dM_add3_31 : decode cM_add3 31 = .ok (.aload_n 0, 1) := by decide +kernel
theorem dM_add3_32 : decode cM_add3 32 = .ok (.aload_n 1, 1) := by decide +kernel
theorem dM_add3_33 : decode cM_add3 33 = .ok (.iload 8, 2) := by decide +kernel
theorem dM_add3_35 : decode cM_add3 35 = .ok (.iaload, 1) := by decide +kernel
theorem dM_add3_36 : decode cM_add3 36 = .ok (.invokevirtual 71, 3) := by decide +kernel
theorem dM_add3_39 : decode cM_add3 39 = .ok (.iinc 8 1, 3) := by decide +kernel
theorem dM_add3_42 : decode cM_add3 42 = .ok (.goto (-39), 3) := by decide +kernel
theorem dM_add3_45 : decode cM_add3 45 = .ok (.return_, 1) := by decide +kernel
theorem dM_end_0 : decode cM_end 0 = .ok (.iload_n 1, 1) := by decide +kernel
theorem dM_end_1 : decode cM_end 1 = .ok (.istore_n 2, 1) := by decide +kernel
theorem dM_end_2 : decode cM_end 2 = .ok (.iconst 1, 1) := by decide +kernel
theorem dM_end_3 : decode cM_end 3 = .ok (.istore_n 3, 1) := by decide +kernel
theorem dM_end_4 : decode cM_end 4 = .ok (.iload_n 3, 1) := by decide +kernel
theorem dM_end_5 : decode cM_end 5 = .ok (.ifCond .le 39, 3) := by decide +kernel
theorem dM_end_8 : decode cM_end 8 = .ok (.iload_n 3, 1) := by decide +kernel
theorem dM_end_9 : decode cM_end 9 = .ok (.aload_n 0, 1) := by decide +kernel
theorem dM_end_10 : decode cM_end 10 = .ok (.iload_n 2, 1) := by decide +kernel
theorem dM_end_11 : decode cM_end 11 = .ok (.iaload, 1) := by decide +kernel
theorem dM_end_12 : decode cM_end 12 = .ok (.sipush 1000, 3) := by decide +kernel
theorem dM_end_15 : decode cM_end 15 = .ok (.if_icmp .ne 7, 3) := by decide +kernel
theorem dM_end_18 : decode cM_end 18 = .ok (.iconst 1, 1) := by decide +kernel
theorem dM_end_19 : decode cM_end 19 = .ok (.goto 17, 3) := by decide +kernel
theorem dM_end_22 : decode cM_end 22 = .ok (.aload_n 0, 1) := by decide +kernel
theorem dM_end_23 : decode cM_end 23 = .ok (.iload_n 2, 1) := by decide +kernel
theorem dM_end_24 : decode cM_end 24 = .ok (.iaload, 1) := by decide +kernel
theorem dM_end_25 : decode cM_end 25 = .ok (.sipush 2000, 3) := by decide +kernel
theorem dM_end_28 : decode cM_end 28 = .ok (.if_icmp .lt 7, 3) := by decide +kernel
theorem dM_end_31 : decode cM_end 31 = .ok (.iconst 0, 1) := by decide +kernel
theorem dM_end_32 : decode cM_end 32 = .ok (.goto 4, 3) := by decide +kernel
theorem dM_end_35 : decode cM_end 35 = .ok (.iconst (-1), 1) := by decide +kernel
theorem dM_end_36 : decode cM_end 36 = .ok (.iadd, 1) := by decide +kernel
theorem dM_end_37 : decode cM_end 37 = .ok (.istore_n 3, 1) := by decide +kernel
theorem dM_end_38 : decode cM_end 38 = .ok (.iinc 2 1, 3) := by decide +kernel
theorem dM_end_41 : decode cM_end 41 = .ok (.goto (-37), 3) := by decide +kernel
theorem dM_end_44 : decode cM_end 44 = .ok (.iload_n 2, 1) := by decide +kernel
theorem dM_end_45 : decode cM_end 45 = .ok (.ireturn, 1) := by decide +kernel
theorem dM_depth_0 : decode cM_depth 0 = .ok (.iconst 0, 1) := by decide +kernel
theorem dM_depth_1 : decode cM_depth 1 = .ok (.istore_n 3, 1) := by decide +kernel
theorem dM_depth_2 : decode cM_depth 2 = .ok (.iconst 0, 1) := by decide +kernel
theorem dM_depth_3 : decode cM_depth 3 = .ok (.istore 4, 2) := by decide +kernel
theorem dM_depth_5 : decode cM_depth 5 = .ok (.iconst 0, 1) := by decide +kernel
theorem dM_depth_6 : decode cM_depth 6 = .ok (.istore 5, 2) := by decide +kernel
theorem dM_depth_8 : decode cM_depth 8 = .ok (.iload 5, 2) := by decide +kernel
theorem dM_depth_10 : decode cM_depth 10 = .ok (.iload_n 2, 1) := by decide +kernel
theorem dM_depth_11 : decode cM_depth 11 = .ok (.if_icmp .ge 94, 3) := by decide +kernel
theorem dM_depth_14 : decode cM_depth 14 = .ok (.iload_n 3, 1) := by decide +kernel
theorem dM_depth_15 : decode cM_depth 15 = .ok (.iload 4, 2) := by decide +kernel
theorem dM_depth_17 : decode cM_depth 17 = .ok (.iconst 1, 1) := by decide +kernel
theorem dM_depth_18 : decode cM_depth 18 = .ok (.iadd, 1) := by decide +kernel
theorem dM_depth_19 : decode cM_depth 19 = .ok (.invokestatic 78, 3) := by decide +kernel
theorem dM_depth_22 : decode cM_depth 22 = .ok (.istore_n 3, 1) := by decide +kernel
theorem dM_depth_23 : decode cM_depth 23 = .ok (.aload_n 1, 1) := by decide +kernel
theorem dM_depth_24 : decode cM_depth 24 = .ok (.iload 5, 2) := by decide +kernel
theorem dM_depth_26 : decode cM_depth 26 = .ok (.iaload, 1) := by decide +kernel
theorem dM_depth_27 : decode cM_depth 27 = .ok (.sipush 1000, 3) := by decide +kernel
theorem dM_depth_30 : decode cM_depth 30 = .ok (.if_icmp .eq 13, 3) := by decide +kernel
theorem dM_depth_33 : decode cM_depth 33 = .ok (.aload_n 1, 1) := by decide +kernel
theorem dM_depth_34 : decode cM_depth 34 = .ok (.iload 5, 2) := by decide +kernel
theorem dM_depth_36 : decode cM_depth 36 = .ok (.iaload, 1) := by decide +kernel
theorem dM_depth_37 : decode cM_depth 37 = .ok (.sipush 2000, 3) := by decide +kernel
theorem dM_depth_40 : decode cM_depth 40 = .ok (.if_icmp .lt 31, 3) := by decide +kernel
theorem dM_depth_43 : decode cM_depth 43 = .ok (.aload_n 0, 1) := by decide +kernel
theorem dM_depth_44 : decode cM_depth 44 = .ok (.getfield 49, 3) := by decide +kernel
theorem dM_depth_47 : decode cM_depth 47 = .ok (.iload 4, 2) := by decide +kernel
theorem dM_depth_49 : decode cM_depth 49 = .ok (.iinc 4 1, 3) := by decide +kernel
theorem dM_depth_52 : decode cM_depth 52 = .ok (.aload_n 1, 1) := by decide +kernel
theorem dM_depth_53 : decode cM_depth 53 = .ok (.iload 5, 2) := by decide +kernel
theorem dM_depth_55 : decode cM_depth 55 = .ok (.iaload, 1) := by decide +kernel
theorem dM_depth_56 : decode cM_depth 56 = .ok (.sipush 1000, 3) := by decide +kernel
theorem dM_depth_59 : decode cM_depth 59 = .ok (.if_icmp .ne 7, 3) := by decide +kernel
theorem dM_depth_62 : decode cM_depth 62 = .ok (.iconst 2, 1) := by decide +kernel
theorem dM_depth_63 : decode cM_depth 63 = .ok (.goto 4, 3) := by decide +kernel
theorem dM_depth_66 : decode cM_depth 66 = .ok (.iconst 1, 1) := by decide +kernel
theorem dM_depth_67 : decode cM_depth 67 = .ok (.iastore, 1) := by decide +kernel
theorem dM_depth_68 : decode cM_depth 68 = .ok (.goto 31, 3) := by decide +kernel
theorem dM_depth_71 : decode cM_depth 71 = .ok (.iload 4, 2) := by decide +kernel
theorem dM_depth_73 : decode cM_depth 73 = .ok (.ifCond .le 26, 3) := by decide +kernel
theorem dM_depth_76 : decode cM_depth 76 = .ok (.aload_n 0, 1) := by decide +kernel
theorem dM_depth_77 : decode cM_depth 77 = .ok (.getfield 49, 3) := by decide +kernel
theorem dM_depth_80 : decode cM_depth 80 = .ok (.iload 4, 2) := by decide +kernel
theorem dM_depth_82 : decode cM_depth 82 = .ok (.iconst 1, 1) := by decide +kernel
theorem dM_depth_83 : decode cM_depth 83 = .ok (.isub, 1) := by decide +kernel
theorem dM_depth_84 : decode cM_depth 84 = .ok (.dup2, 1) := by decide +kernel
theorem dM_depth_85 : decode cM_depth 85 = .ok (.iaload, 1) := by decide +kernel
theorem dM_depth_86 : decode cM_depth 86 = .ok (.iconst 1, 1) := by decide +kernel
theorem dM_depth_87 : decode cM_depth 87 = .ok (.isub, 1) := by decide +kernel
theorem dM_depth_88 : decode cM_depth 88 = .ok (.dup_x2, 1) := by decide +kernel
theorem dM_depth_89 : decode cM_depth 89 = .ok (.iastore, 1) := by decide +kernel
theorem dM_depth_90 : decode cM_depth 90 = .ok (.ifCond .ne 9, 3) := by decide +kernel
theorem dM_depth_93 : decode cM_depth 93 = .ok (.iinc 4 (-1), 3) := by decide +kernel
theorem dM_depth_96 : decode cM_depth 96 = .ok (.goto (-25), 3) := by decide +kernel
theorem dM_depth_99 : decode cM_depth 99 = .ok (.iinc 5 1, 3) := by decide +kernel
theorem dM_depth_102 : decode cM_depth 102 = .ok (.goto (-94), 3) := by decide +kernel
theorem dM_depth_105 : decode cM_depth 105 = .ok (.iload_n 3, 1) := by decide +kernel
theorem dM_depth_106 : decode cM_depth 106 = .ok (.ireturn, 1) := by decide +kernel
theorem dM_renamed_0 : decode cM_renamed 0 = .ok (.aload_n 0, 1) := by decide +kernel
theorem dM_renamed_1 : decode cM_renamed 1 = .ok (.iconst 0, 1) := by decide +kernel
theorem dM_renamed_2 : decode cM_renamed 2 = .ok (.putfield 52, 3) := by decide +kernel
theorem dM_renamed_5 : decode cM_renamed 5 = .ok (.aload_n 0, 1) := by decide +kernel
theorem dM_renamed_6 : decode cM_renamed 6 = .ok (.iconst 0, 1) := by decide +kernel
theorem dM_renamed_7 : decode cM_renamed 7 = .ok (.putfield 55, 3) := by decide +kernel
theorem dM_renamed_10 : decode cM_renamed 10 = .ok (.aload_n 0, 1) := by decide +kernel
theorem dM_renamed_11 : decode cM_renamed 11 = .ok (.invokevirtual 84, 3) := by decide +kernel
theorem dM_renamed_14 : decode cM_renamed 14 = .ok (.return_, 1) := by decide +kernel
theorem dM_rename_0 : decode cM_rename 0 = .ok (.aload_n 0, 1) := by decide +kernel
theorem dM_rename_1 : decode cM_rename 1 = .ok (.getfield 22, 3) := by decide +kernel
theorem dM_rename_4 : decode cM_rename 4 = .ok (.aload_n 0, 1) := by decide +kernel
theorem dM_rename_5 : decode cM_rename 5 = .ok (.getfield 52, 3) := by decide +kernel
theorem dM_rename_8 : decode cM_rename 8 = .ok (.iaload, 1) := by decide +kernel
theorem dM_rename_9 : decode cM_rename 9 = .ok (.istore_n 1, 1) := by decide +kernel
theorem dM_rename_10 : decode cM_rename 10 = .ok (.iload_n 1, 1) := by decide +kernel
theorem dM_rename_11 : decode cM_rename 11 = .ok (.sipush 1000, 3) := by decide +kernel
theorem dM_rename_14 : decode cM_rename 14 = .ok (.if_icmp .ne 24, 3) := by decide +kernel
theorem dM_rename_17 : decode cM_rename 17 = .ok (.aload_n 0, 1) := by decide +kernel
theorem dM_rename_18 : decode cM_rename 18 = .ok (.dup, 1) := by decide +kernel
theorem dM_rename_19 : decode cM_rename 19 = .ok (.getfield 52, 3) := by decide +kernel
theorem dM_rename_22 : decode cM_rename 22 = .ok (.iconst 1, 1) := by decide +kernel
theorem dM_rename_23 : decode cM_rename 23 = .ok (.iadd, 1) := by decide +kernel
theorem dM_rename_24 : decode cM_rename 24 = .ok (.putfield 52, 3) := by decide +kernel
theorem dM_rename_27 : decode cM_rename 27 = .ok (.aload_n 0, 1) := by decide +kernel
theorem dM_rename_28 : decode cM_rename 28 = .ok (.invokevirtual 84, 3) := by decide +kernel
theorem dM_rename_31 : decode cM_rename 31 = .ok (.aload_n 0, 1) := by decide +kernel
theorem dM_rename_32 : decode cM_rename 32 = .ok (.invokevirtual 84, 3) := by decide +kernel
theorem dM_rename_35 : decode cM_rename 35 = .ok (.goto 111, 3) := by decide +kernel
theorem dM_rename_38 : decode cM_rename 38 = .ok (.iload_n 1, 1) := by decide +kernel
theorem dM_rename_39 : decode cM_rename 39 = .ok (.sipush 2000, 3) := by decide +kernel
theorem dM_rename_42 : decode cM_rename 42 = .ok (.if_icmp .lt 71, 3) := by decide +kernel
theorem dM_rename_45 : decode cM_rename 45 = .ok (.iload_n 1, 1) := by decide +kernel
theorem dM_rename_46 : decode cM_rename 46 = .ok (.sipush 2000, 3) := by decide +kernel
theorem dM_rename_49 : decode cM_rename 49 = .ok (.isub, 1) := by decide +kernel
theorem dM_rename_50 : decode cM_rename 50 = .ok (.istore_n 2, 1) := by decide +kernel
theorem dM_rename_51 : decode cM_rename 51 = .ok (.aload_n 0, 1) := by decide +kernel
theorem dM_rename_52 : decode cM_rename 52 = .ok (.getfield 58, 3) := by decide +kernel
theorem dM_rename_55 : decode cM_rename 55 = .ok (.iload_n 2, 1) := by decide +kernel
theorem dM_rename_56 : decode cM_rename 56 = .ok (.iaload, 1) := by decide +kernel
theorem dM_rename_57 : decode cM_rename 57 = .ok (.istore_n 3, 1) := by decide +kernel
theorem dM_rename_58 : decode cM_rename 58 = .ok (.aload_n 0, 1) := by decide +kernel
theorem dM_rename_59 : decode cM_rename 59 = .ok (.getfield 58, 3) := by decide +kernel
theorem dM_rename_62 : decode cM_rename 62 = .ok (.iload_n 2, 1) := by decide +kernel
theorem dM_rename_63 : decode cM_rename 63 = .ok (.aload_n 0, 1) := by decide +kernel
theorem dM_rename_64 : decode cM_rename 64 = .ok (.getfield 55, 3) := by decide +kernel
theorem dM_rename_67 : decode cM_rename 67 = .ok (.iastore, 1) := by decide +kernel
theorem dM_rename_68 : decode cM_rename 68 = .ok (.aload_n 0, 1) := by decide +kernel
theorem dM_rename_69 : decode cM_rename 69 = .ok (.getfield 22, 3) := by decide +kernel
theorem dM_rename_72 : decode cM_rename 72 = .ok (.aload_n 0, 1) := by decide +kernel
theorem dM_rename_73 : decode cM_rename 73 = .ok (.dup, 1) := by decide +kernel
theorem dM_rename_74 : decode cM_rename 74 = .ok (.getfield 52, 3) := by decide +kernel
theorem dM_rename_77 : decode cM_rename 77 = .ok (.dup_x1, 1) := by decide +kernel
theorem dM_rename_78 : decode cM_rename 78 = .ok (.iconst 1, 1) := by decide +kernel
theorem dM_rename_79 : decode cM_rename 79 = .ok (.iadd, 1) := by decide +kernel
theorem dM_rename_80 : decode cM_rename 80 = .ok (.putfield 52, 3) := by decide +kernel
theorem dM_rename_83 : decode cM_rename 83 = .ok (.sipush 2000, 3) := by decide +kernel
theorem dM_rename_86 : decode cM_rename 86 = .ok (.aload_n 0, 1) := by decide +kernel
theorem dM_rename_87 : decode cM_rename 87 = .ok (.dup, 1) := by decide +kernel
theorem dM_rename_88 : decode cM_rename 88 = .ok (.getfield 55, 3) := by decide +kernel
theorem dM_rename_91 : decode cM_rename 91 = .ok (.dup_x1, 1) := by decide +kernel
theorem dM_rename_92 : decode cM_rename 92 = .ok (.iconst 1, 1) := by decide +kernel
theorem dM_rename_93 : decode cM_rename 93 = .ok (.iadd, 1) := by decide +kernel
theorem dM_rename_94 : decode cM_rename 94 = .ok (.putfield 55, 3) := by decide +kernel
theorem dM_rename_97 : decode cM_rename 97 = .ok (.iadd, 1) := by decide +kernel
theorem dM_rename_98 : decode cM_rename 98 = .ok (.iastore, 1) := by decide +kernel
theorem dM_rename_99 : decode cM_rename 99 = .ok (.aload_n 0, 1) := by decide +kernel
theorem dM_rename_100 : decode cM_rename 100 = .ok (.invokevirtual 84, 3) := by decide +kernel
theorem dM_rename_103 : decode cM_rename 103 = .ok (.aload_n 0, 1) := by decide +kernel
theorem dM_rename_104 : decode cM_rename 104 = .ok (.getfield 58, 3) := by decide +kernel
theorem dM_rename_107 : decode cM_rename 107 = .ok (.iload_n 2, 1) := by decide +kernel
theorem dM_rename_108 : decode cM_rename 108 = .ok (.iload_n 3, 1) := by decide +kernel
theorem dM_rename_109 : decode cM_rename 109 = .ok (.iastore, 1) := by decide +kernel
theorem dM_rename_110 : decode cM_rename 110 = .ok (.goto 36, 3) := by decide +kernel
theorem dM_rename_113 : decode cM_rename 113 = .ok (.iload_n 1, 1) := by decide +kernel
theorem dM_rename_114 : decode cM_rename 114 = .ok (.ifCond .ge 22, 3) := by decide +kernel
theorem dM_rename_117 : decode cM_rename 117 = .ok (.aload_n 0, 1) := by decide +kernel
theorem dM_rename_118 : decode cM_rename 118 = .ok (.getfield 22, 3) := by decide +kernel
theorem dM_rename_121 : decode cM_rename 121 = .ok (.aload_n 0, 1) := by decide +kernel
theorem dM_rename_122 : decode cM_rename 122 = .ok (.getfield 52, 3) := by decide +kernel
theorem dM_rename_125 : decode cM_rename 125 = .ok (.iconst (-1), 1) := by decide +kernel
theorem dM_rename_126 : decode cM_rename 126 = .ok (.aload_n 0, 1) := by decide +kernel
theorem dM_rename_127 : decode cM_rename 127 = .ok (.getfield 58, 3) := by decide +kernel
theorem dM_rename_130 : decode cM_rename 130 = .ok (.iconst (-1), 1) := by decide +kernel
theorem dM_rename_131 : decode cM_rename 131 = .ok (.iload_n 1, 1) := by decide +kernel
theorem dM_rename_132 : decode cM_rename 132 = .ok (.isub, 1) := by decide +kernel
theorem dM_rename_133 : decode cM_rename 133 = .ok (.iaload, 1) := by decide +kernel
theorem dM_rename_134 : decode cM_rename 134 = .ok (.isub, 1) := by decide +kernel
theorem dM_rename_135 : decode cM_rename 135 = .ok (.iastore, 1) := by decide +kernel
theorem dM_rename_136 : decode cM_rename 136 = .ok (.aload_n 0, 1) := by decide +kernel
theorem dM_rename_137 : decode cM_rename 137 = .ok (.dup, 1) := by decide +kernel
theorem dM_rename_138 : decode cM_rename 138 = .ok (.getfield 52, 3) := by decide +kernel
theorem dM_rename_141 : decode cM_rename 141 = .ok (.iconst 1, 1) := by decide +kernel
theorem dM_rename_142 : decode cM_rename 142 = .ok (.iadd, 1) := by decide +kernel
theorem dM_rename_143 : decode cM_rename 143 = .ok (.putfield 52, 3) := by decide +kernel
theorem dM_rename_146 : decode cM_rename 146 = .ok (.return_, 1) := by decide +kernel
theorem dM_whole_0 : decode cM_whole 0 = .ok (.aload_n 0, 1) := by decide +kernel
theorem dM_whole_1 : decode cM_whole 1 = .ok (.getfield 37, 3) := by decide +kernel
theorem dM_whole_4 : decode cM_whole 4 = .ok (.ifCond .ne 21, 3) := by decide +kernel
theorem dM_whole_7 : decode cM_whole 7 = .ok (.aload_n 0, 1) := by decide +kernel
theorem dM_whole_8 : decode cM_whole 8 = .ok (.aload_n 0, 1) := by decide +kernel
theorem dM_whole_9 : decode cM_whole 9 = .ok (.getfield 22, 3) := by decide +kernel
theorem dM_whole_12 : decode cM_whole 12 = .ok (.aload_n 0, 1) := by decide +kernel
theorem dM_whole_13 : decode cM_whole 13 = .ok (.getfield 31, 3) := by decide +kernel
theorem dM_whole_16 : decode cM_whole 16 = .ok (.invokevirtual 87, 3) := by decide +kernel
theorem dM_whole_19 : decode cM_whole 19 = .ok (.sipush 150, 3) := by decide +kernel
theorem dM_whole_22 : decode cM_whole 22 = .ok (.if_icmp .le 5, 3) := by decide +kernel
theorem dM_whole_25 : decode cM_whole 25 = .ok (.iconst 0, 1) := by decide +kernel
theorem dM_whole_26 : decode cM_whole 26 = .ok (.ireturn, 1) := by decide +kernel
theorem dM_whole_27 : decode cM_whole 27 = .ok (.aload_n 0, 1) := by decide +kernel
theorem dM_whole_28 : decode cM_whole 28 = .ok (.invokevirtual 91, 3) := by decide +kernel
theorem dM_whole_31 : decode cM_whole 31 = .ok (.iconst 1, 1) := by decide +kernel
theorem dM_whole_32 : decode cM_whole 32 = .ok (.ireturn, 1) := by decide +kernel
theorem dM_keep_0 : decode cM_keep 0 = .ok (.aload_n 0, 1) := by decide +kernel
theorem dM_keep_1 : decode cM_keep 1 = .ok (.getfield 22, 3) := by decide +kernel
theorem dM_keep_4 : decode cM_keep 4 = .ok (.iconst 0, 1) := by decide +kernel
theorem dM_keep_5 : decode cM_keep 5 = .ok (.aload_n 0, 1) := by decide +kernel
theorem dM_keep_6 : decode cM_keep 6 = .ok (.getfield 15, 3) := by decide +kernel
theorem dM_keep_9 : decode cM_keep 9 = .ok (.iload_n 1, 1) := by decide +kernel
theorem dM_keep_10 : decode cM_keep 10 = .ok (.aaload, 1) := by decide +kernel
theorem dM_keep_11 : decode cM_keep 11 = .ok (.iconst 0, 1) := by decide +kernel
theorem dM_keep_12 : decode cM_keep 12 = .ok (.aload_n 0, 1) := by decide +kernel
theorem dM_keep_13 : decode cM_keep 13 = .ok (.getfield 31, 3) := by decide +kernel
theorem dM_keep_16 : decode cM_keep 16 = .ok (.invokestatic 94, 3) := by decide +kernel
theorem dM_keep_19 : decode cM_keep 19 = .ok (.aload_n 0, 1) := by decide +kernel
theorem dM_keep_20 : decode cM_keep 20 = .ok (.getfield 18, 3) := by decide +kernel
theorem dM_keep_23 : decode cM_keep 23 = .ok (.iload_n 1, 1) := by decide +kernel
theorem dM_keep_24 : decode cM_keep 24 = .ok (.aload_n 0, 1) := by decide +kernel
theorem dM_keep_25 : decode cM_keep 25 = .ok (.getfield 31, 3) := by decide +kernel
theorem dM_keep_28 : decode cM_keep 28 = .ok (.iastore, 1) := by decide +kernel
theorem dM_keep_29 : decode cM_keep 29 = .ok (.aload_n 0, 1) := by decide +kernel
theorem dM_keep_30 : decode cM_keep 30 = .ok (.getfield 31, 3) := by decide +kernel
theorem dM_keep_33 : decode cM_keep 33 = .ok (.ireturn, 1) := by decide +kernel
theorem dM_free_0 : decode cM_free 0 = .ok (.aload_n 0, 1) := by decide +kernel
theorem dM_free_1 : decode cM_free 1 = .ok (.iload_n 1, 1) := by decide +kernel
theorem dM_free_2 : decode cM_free 2 = .ok (.invokevirtual 100, 3) := by decide +kernel
theorem dM_free_5 : decode cM_free 5 = .ok (.ifCond .ne 26, 3) := by decide +kernel
theorem dM_free_8 : decode cM_free 8 = .ok (.aload_n 0, 1) := by decide +kernel
theorem dM_free_9 : decode cM_free 9 = .ok (.iconst 1, 1) := by decide +kernel
theorem dM_free_10 : decode cM_free 10 = .ok (.iload_n 2, 1) := by decide +kernel
theorem dM_free_11 : decode cM_free 11 = .ok (.ifCond .lt 9, 3) := by decide +kernel
theorem dM_free_14 : decode cM_free 14 = .ok (.iload_n 2, 1) := by decide +kernel
theorem dM_free_15 : decode cM_free 15 = .ok (.bipush 99, 2) := by decide +kernel
theorem dM_free_17 : decode cM_free 17 = .ok (.if_icmp .le 7, 3) := by decide +kernel
theorem dM_free_20 : decode cM_free 20 = .ok (.iconst 1, 1) := by decide +kernel
theorem dM_free_21 : decode cM_free 21 = .ok (.goto 4, 3) := by decide +kernel
theorem dM_free_24 : decode cM_free 24 = .ok (.iconst 0, 1) := by decide +kernel
theorem dM_free_25 : decode cM_free 25 = .ok (.invokevirtual 67, 3) := by decide +kernel
theorem dM_free_28 : decode cM_free 28 = .ok (.ifCond .eq 4, 3) := by decide +kernel
theorem dM_free_31 : decode cM_free 31 = .ok (.return_, 1) := by decide +kernel
theorem dM_free_32 : decode cM_free 32 = .ok (.aload_n 0, 1) := by decide +kernel
theorem dM_free_33 : decode cM_free 33 = .ok (.invokevirtual 104, 3) := by decide +kernel
theorem dM_free_36 : decode cM_free 36 = .ok (.aload_n 0, 1) := by decide +kernel
theorem dM_free_37 : decode cM_free 37 = .ok (.iload_n 2, 1) := by decide +kernel
theorem dM_free_38 : decode cM_free 38 = .ok (.invokevirtual 71, 3) := by decide +kernel
theorem dM_free_41 : decode cM_free 41 = .ok (.aload_n 0, 1) := by decide +kernel
theorem dM_free_42 : decode cM_free 42 = .ok (.iload_n 1, 1) := by decide +kernel
theorem dM_free_43 : decode cM_free 43 = .ok (.invokevirtual 107, 3) := by decide +kernel
theorem dM_free_46 : decode cM_free 46 = .ok (.pop, 1) := by decide +kernel
theorem dM_free_47 : decode cM_free 47 = .ok (.return_, 1) := by decide +kernel
theorem dM_apply_0 : decode cM_apply 0 = .ok (.aload_n 0, 1) := by decide +kernel
theorem dM_apply_1 : decode cM_apply 1 = .ok (.iload_n 1, 1) := by decide +kernel
theorem dM_apply_2 : decode cM_apply 2 = .ok (.invokevirtual 100, 3) := by decide +kernel
theorem dM_apply_5 : decode cM_apply 5 = .ok (.ifCond .ne 19, 3) := by decide +kernel
theorem dM_apply_8 : decode cM_apply 8 = .ok (.aload_n 0, 1) := by decide +kernel
theorem dM_apply_9 : decode cM_apply 9 = .ok (.iload_n 2, 1) := by decide +kernel
theorem dM_apply_10 : decode cM_apply 10 = .ok (.invokevirtual 100, 3) := by decide +kernel
theorem dM_apply_13 : decode cM_apply 13 = .ok (.ifCond .ne 11, 3) := by decide +kernel
theorem dM_apply_16 : decode cM_apply 16 = .ok (.aload_n 0, 1) := by decide +kernel
theorem dM_apply_17 : decode cM_apply 17 = .ok (.iload_n 3, 1) := by decide +kernel
theorem dM_apply_18 : decode cM_apply 18 = .ok (.invokevirtual 100, 3) := by decide +kernel
theorem dM_apply_21 : decode cM_apply 21 = .ok (.ifCond .eq 5, 3) := by decide +kernel
theorem dM_apply_24 : decode cM_apply 24 = .ok (.iconst 0, 1) := by decide +kernel
theorem dM_apply_25 : decode cM_apply 25 = .ok (.ireturn, 1) := by decide +kernel
theorem dM_apply_26 : decode cM_apply 26 = .ok (.aload_n 0, 1) := by decide +kernel
theorem dM_apply_27 : decode cM_apply 27 = .ok (.invokevirtual 104, 3) := by decide +kernel
theorem dM_apply_30 : decode cM_apply 30 = .ok (.aload_n 0, 1) := by decide +kernel
theorem dM_apply_31 : decode cM_apply 31 = .ok (.sipush 1000, 3) := by decide +kernel
theorem dM_apply_34 : decode cM_apply 34 = .ok (.invokevirtual 71, 3) := by decide +kernel
theorem dM_apply_37 : decode cM_apply 37 = .ok (.aload_n 0, 1) := by decide +kernel
theorem dM_apply_38 : decode cM_apply 38 = .ok (.aload_n 0, 1) := by decide +kernel
theorem dM_apply_39 : decode cM_apply 39 = .ok (.getfield 15, 3) := by decide +kernel
theorem dM_apply_42 : decode cM_apply 42 = .ok (.iload_n 2, 1) := by decide +kernel
theorem dM_apply_43 : decode cM_apply 43 = .ok (.aaload, 1) := by decide +kernel
theorem dM_apply_44 : decode cM_apply 44 = .ok (.iconst 0, 1) := by decide +kernel
theorem dM_apply_45 : decode cM_apply 45 = .ok (.aload_n 0, 1) := by decide +kernel
theorem dM_apply_46 : decode cM_apply 46 = .ok (.getfield 18, 3) := by decide +kernel
theorem dM_apply_49 : decode cM_apply 49 = .ok (.iload_n 2, 1) := by decide +kernel
theorem dM_apply_50 : decode cM_apply 50 = .ok (.iaload, 1) := by decide +kernel
theorem dM_apply_51 : decode cM_apply 51 = .ok (.invokevirtual 75, 3) := by decide +kernel
theorem dM_apply_54 : decode cM_apply 54 = .ok (.aload_n 0, 1) := by decide +kernel
theorem dM_apply_55 : decode cM_apply 55 = .ok (.aload_n 0, 1) := by decide +kernel
theorem dM_apply_56 : decode cM_apply 56 = .ok (.getfield 15, 3) := by decide +kernel
theorem dM_apply_59 : decode cM_apply 59 = .ok (.iload_n 3, 1) := by decide +kernel
theorem dM_apply_60 : decode cM_apply 60 = .ok (.aaload, 1) := by decide +kernel
theorem dM_apply_61 : decode cM_apply 61 = .ok (.iconst 0, 1) := by decide +kernel
theorem dM_apply_62 : decode cM_apply 62 = .ok (.aload_n 0, 1) := by decide +kernel
theorem dM_apply_63 : decode cM_apply 63 = .ok (.getfield 18, 3) := by decide +kernel
theorem dM_apply_66 : decode cM_apply 66 = .ok (.iload_n 3, 1) := by decide +kernel
theorem dM_apply_67 : decode cM_apply 67 = .ok (.iaload, 1) := by decide +kernel
theorem dM_apply_68 : decode cM_apply 68 = .ok (.invokevirtual 75, 3) := by decide +kernel
theorem dM_apply_71 : decode cM_apply 71 = .ok (.aload_n 0, 1) := by decide +kernel
theorem dM_apply_72 : decode cM_apply 72 = .ok (.iconst 2, 1) := by decide +kernel
theorem dM_apply_73 : decode cM_apply 73 = .ok (.aload_n 0, 1) := by decide +kernel
theorem dM_apply_74 : decode cM_apply 74 = .ok (.invokevirtual 111, 3) := by decide +kernel
theorem dM_apply_77 : decode cM_apply 77 = .ok (.ifCond .ne 7, 3) := by decide +kernel
theorem dM_apply_80 : decode cM_apply 80 = .ok (.iconst 1, 1) := by decide +kernel
theorem dM_apply_81 : decode cM_apply 81 = .ok (.goto 4, 3) := by decide +kernel
theorem dM_apply_84 : decode cM_apply 84 = .ok (.iconst 0, 1) := by decide +kernel
theorem dM_apply_85 : decode cM_apply 85 = .ok (.invokevirtual 67, 3) := by decide +kernel
theorem dM_apply_88 : decode cM_apply 88 = .ok (.ifCond .eq 5, 3) := by decide +kernel
theorem dM_apply_91 : decode cM_apply 91 = .ok (.iconst 0, 1) := by decide +kernel
theorem dM_apply_92 : decode cM_apply 92 = .ok (.ireturn, 1) := by decide +kernel
theorem dM_apply_93 : decode cM_apply 93 = .ok (.aload_n 0, 1) := by decide +kernel
theorem dM_apply_94 : decode cM_apply 94 = .ok (.iload_n 1, 1) := by decide +kernel
theorem dM_apply_95 : decode cM_apply 95 = .ok (.invokevirtual 107, 3) := by decide +kernel
theorem dM_apply_98 : decode cM_apply 98 = .ok (.ireturn, 1) := by decide +kernel
theorem dM_bind_0 : decode cM_bind 0 = .ok (.aload_n 0, 1) := by decide +kernel
theorem dM_bind_1 : decode cM_bind 1 = .ok (.iload_n 1, 1) := by decide +kernel
theorem dM_bind_2 : decode cM_bind 2 = .ok (.invokevirtual 100, 3) := by decide +kernel
theorem dM_bind_5 : decode cM_bind 5 = .ok (.ifCond .ne 34, 3) := by decide +kernel
theorem dM_bind_8 : decode cM_bind 8 = .ok (.aload_n 0, 1) := by decide +kernel
theorem dM_bind_9 : decode cM_bind 9 = .ok (.iload_n 2, 1) := by decide +kernel
theorem dM_bind_10 : decode cM_bind 10 = .ok (.invokevirtual 100, 3) := by decide +kernel
theorem dM_bind_13 : decode cM_bind 13 = .ok (.ifCond .ne 26, 3) := by decide +kernel
theorem dM_bind_16 : decode cM_bind 16 = .ok (.aload_n 0, 1) := by decide +kernel
theorem dM_bind_17 : decode cM_bind 17 = .ok (.iconst 1, 1) := by decide +kernel
theorem dM_bind_18 : decode cM_bind 18 = .ok (.iload_n 3, 1) := by decide +kernel
theorem dM_bind_19 : decode cM_bind 19 = .ok (.ifCond .lt 9, 3) := by decide +kernel
theorem dM_bind_22 : decode cM_bind 22 = .ok (.iload_n 3, 1) := by decide +kernel
theorem dM_bind_23 : decode cM_bind 23 = .ok (.bipush 99, 2) := by decide +kernel
theorem dM_bind_25 : decode cM_bind 25 = .ok (.if_icmp .le 7, 3) := by decide +kernel
theorem dM_bind_28 : decode cM_bind 28 = .ok (.iconst 1, 1) := by decide +kernel
theorem dM_bind_29 : decode cM_bind 29 = .ok (.goto 4, 3) := by decide +kernel
theorem dM_bind_32 : decode cM_bind 32 = .ok (.iconst 0, 1) := by decide +kernel
theorem dM_bind_33 : decode cM_bind 33 = .ok (.invokevirtual 67, 3) := by decide +kernel
theorem dM_bind_36 : decode cM_bind 36 = .ok (.ifCond .eq 5, 3) := by decide +kernel
theorem dM_bind_39 : decode cM_bind 39 = .ok (.iconst 0, 1) := by decide +kernel
theorem dM_bind_40 : decode cM_bind 40 = .ok (.ireturn, 1) := by decide +kernel
theorem dM_bind_41 : decode cM_bind 41 = .ok (.aload_n 0, 1) := by decide +kernel
theorem dM_bind_42 : decode cM_bind 42 = .ok (.invokevirtual 104, 3) := by decide +kernel
theorem dM_bind_45 : decode cM_bind 45 = .ok (.aload_n 0, 1) := by decide +kernel
theorem dM_bind_46 : decode cM_bind 46 = .ok (.sipush 7000, 3) := by decide +kernel
theorem dM_bind_49 : decode cM_bind 49 = .ok (.invokevirtual 71, 3) := by decide +kernel
theorem dM_bind_52 : decode cM_bind 52 = .ok (.aload_n 0, 1) := by decide +kernel
theorem dM_bind_53 : decode cM_bind 53 = .ok (.getfield 25, 3) := by decide +kernel
theorem dM_bind_56 : decode cM_bind 56 = .ok (.iconst 0, 1) := by decide +kernel
theorem dM_bind_57 : decode cM_bind 57 = .ok (.sipush (-5001), 3) := by decide +kernel
theorem dM_bind_60 : decode cM_bind 60 = .ok (.iastore, 1) := by decide +kernel
theorem dM_bind_61 : decode cM_bind 61 = .ok (.aload_n 0, 1) := by decide +kernel
theorem dM_bind_62 : decode cM_bind 62 = .ok (.aload_n 0, 1) := by decide +kernel
theorem dM_bind_63 : decode cM_bind 63 = .ok (.getfield 15, 3) := by decide +kernel
theorem dM_bind_66 : decode cM_bind 66 = .ok (.iload_n 2, 1) := by decide +kernel
theorem dM_bind_67 : decode cM_bind 67 = .ok (.aaload, 1) := by decide +kernel
theorem dM_bind_68 : decode cM_bind 68 = .ok (.iconst 0, 1) := by decide +kernel
theorem dM_bind_69 : decode cM_bind 69 = .ok (.aload_n 0, 1) := by decide +kernel
theorem dM_bind_70 : decode cM_bind 70 = .ok (.getfield 18, 3) := by decide +kernel
theorem dM_bind_73 : decode cM_bind 73 = .ok (.iload_n 2, 1) := by decide +kernel
theorem dM_bind_74 : decode cM_bind 74 = .ok (.iaload, 1) := by decide +kernel
theorem dM_bind_75 : decode cM_bind 75 = .ok (.iload_n 3, 1) := by decide +kernel
theorem dM_bind_76 : decode cM_bind 76 = .ok (.aload_n 0, 1) := by decide +kernel
theorem dM_bind_77 : decode cM_bind 77 = .ok (.getfield 25, 3) := by decide +kernel
theorem dM_bind_80 : decode cM_bind 80 = .ok (.iconst 0, 1) := by decide +kernel
theorem dM_bind_81 : decode cM_bind 81 = .ok (.iconst 1, 1) := by decide +kernel
theorem dM_bind_82 : decode cM_bind 82 = .ok (.invokevirtual 115, 3) := by decide +kernel
theorem dM_bind_85 : decode cM_bind 85 = .ok (.aload_n 0, 1) := by decide +kernel
theorem dM_bind_86 : decode cM_bind 86 = .ok (.iconst 2, 1) := by decide +kernel
theorem dM_bind_87 : decode cM_bind 87 = .ok (.aload_n 0, 1) := by decide +kernel
theorem dM_bind_88 : decode cM_bind 88 = .ok (.invokevirtual 111, 3) := by decide +kernel
theorem dM_bind_91 : decode cM_bind 91 = .ok (.ifCond .ne 7, 3) := by decide +kernel
theorem dM_bind_94 : decode cM_bind 94 = .ok (.iconst 1, 1) := by decide +kernel
theorem dM_bind_95 : decode cM_bind 95 = .ok (.goto 4, 3) := by decide +kernel
theorem dM_bind_98 : decode cM_bind 98 = .ok (.iconst 0, 1) := by decide +kernel
theorem dM_bind_99 : decode cM_bind 99 = .ok (.invokevirtual 67, 3) := by decide +kernel
theorem dM_bind_102 : decode cM_bind 102 = .ok (.ifCond .eq 5, 3) := by decide +kernel
theorem dM_bind_105 : decode cM_bind 105 = .ok (.iconst 0, 1) := by decide +kernel
theorem dM_bind_106 : decode cM_bind 106 = .ok (.ireturn, 1) := by decide +kernel
theorem dM_bind_107 : decode cM_bind 107 = .ok (.aload_n 0, 1) := by decide +kernel
theorem dM_bind_108 : decode cM_bind 108 = .ok (.iload_n 1, 1) := by decide +kernel
theorem dM_bind_109 : decode cM_bind 109 = .ok (.invokevirtual 107, 3) := by decide +kernel
theorem dM_bind_112 : decode cM_bind 112 = .ok (.ireturn, 1) := by decide +kernel
theorem dM_put_0 : decode cM_put 0 = .ok (.aload_n 0, 1) := by decide +kernel
theorem dM_put_1 : decode cM_put 1 = .ok (.iload_n 1, 1) := by decide +kernel
theorem dM_put_2 : decode cM_put 2 = .ok (.invokevirtual 100, 3) := by decide +kernel
theorem dM_put_5 : decode cM_put 5 = .ok (.ifCond .ne 43, 3) := by decide +kernel
theorem dM_put_8 : decode cM_put 8 = .ok (.aload_n 0, 1) := by decide +kernel
theorem dM_put_9 : decode cM_put 9 = .ok (.iload_n 2, 1) := by decide +kernel
theorem dM_put_10 : decode cM_put 10 = .ok (.invokevirtual 100, 3) := by decide +kernel
theorem dM_put_13 : decode cM_put 13 = .ok (.ifCond .ne 35, 3) := by decide +kernel
theorem dM_put_16 : decode cM_put 16 = .ok (.aload_n 0, 1) := by decide +kernel
theorem dM_put_17 : decode cM_put 17 = .ok (.iconst 1, 1) := by decide +kernel
theorem dM_put_18 : decode cM_put 18 = .ok (.iload_n 3, 1) := by decide +kernel
theorem dM_put_19 : decode cM_put 19 = .ok (.ifCond .lt 9, 3) := by decide +kernel
theorem dM_put_22 : decode cM_put 22 = .ok (.iload_n 3, 1) := by decide +kernel
theorem dM_put_23 : decode cM_put 23 = .ok (.bipush 99, 2) := by decide +kernel
theorem dM_put_25 : decode cM_put 25 = .ok (.if_icmp .le 7, 3) := by decide +kernel
theorem dM_put_28 : decode cM_put 28 = .ok (.iconst 1, 1) := by decide +kernel
theorem dM_put_29 : decode cM_put 29 = .ok (.goto 4, 3) := by decide +kernel
theorem dM_put_32 : decode cM_put 32 = .ok (.iconst 0, 1) := by decide +kernel
theorem dM_put_33 : decode cM_put 33 = .ok (.invokevirtual 67, 3) := by decide +kernel
theorem dM_put_36 : decode cM_put 36 = .ok (.ifCond .ne 12, 3) := by decide +kernel
theorem dM_put_39 : decode cM_put 39 = .ok (.aload_n 0, 1) := by decide +kernel
theorem dM_put_40 : decode cM_put 40 = .ok (.iload 4, 2) := by decide +kernel
theorem dM_put_42 : decode cM_put 42 = .ok (.invokevirtual 100, 3) := by decide +kernel
theorem dM_put_45 : decode cM_put 45 = .ok (.ifCond .eq 5, 3) := by decide +kernel
theorem dM_put_48 : decode cM_put 48 = .ok (.iconst 0, 1) := by decide +kernel
theorem dM_put_49 : decode cM_put 49 = .ok (.ireturn, 1) := by decide +kernel
theorem dM_put_50 : decode cM_put 50 = .ok (.aload_n 0, 1) := by decide +kernel
theorem dM_put_51 : decode cM_put 51 = .ok (.invokevirtual 104, 3) := by decide +kernel
theorem dM_put_54 : decode cM_put 54 = .ok (.aload_n 0, 1) := by decide +kernel
theorem dM_put_55 : decode cM_put 55 = .ok (.aload_n 0, 1) := by decide +kernel
theorem dM_put_56 : decode cM_put 56 = .ok (.getfield 15, 3) := by decide +kernel
theorem dM_put_59 : decode cM_put 59 = .ok (.iload_n 2, 1) := by decide +kernel
theorem dM_put_60 : decode cM_put 60 = .ok (.aaload, 1) := by decide +kernel
theorem dM_put_61 : decode cM_put 61 = .ok (.iconst 0, 1) := by decide +kernel
theorem dM_put_62 : decode cM_put 62 = .ok (.aload_n 0, 1) := by decide +kernel
theorem dM_put_63 : decode cM_put 63 = .ok (.getfield 18, 3) := by decide +kernel
theorem dM_put_66 : decode cM_put 66 = .ok (.iload_n 2, 1) := by decide +kernel
theorem dM_put_67 : decode cM_put 67 = .ok (.iaload, 1) := by decide +kernel
theorem dM_put_68 : decode cM_put 68 = .ok (.iload_n 3, 1) := by decide +kernel
theorem dM_put_69 : decode cM_put 69 = .ok (.aload_n 0, 1) := by decide +kernel
theorem dM_put_70 : decode cM_put 70 = .ok (.getfield 15, 3) := by decide +kernel
theorem dM_put_73 : decode cM_put 73 = .ok (.iload 4, 2) := by decide +kernel
theorem dM_put_75 : decode cM_put 75 = .ok (.aaload, 1) := by decide +kernel
theorem dM_put_76 : decode cM_put 76 = .ok (.iconst 0, 1) := by decide +kernel
theorem dM_put_77 : decode cM_put 77 = .ok (.aload_n 0, 1) := by decide +kernel
theorem dM_put_78 : decode cM_put 78 = .ok (.getfield 18, 3) := by decide +kernel
theorem dM_put_81 : decode cM_put 81 = .ok (.iload 4, 2) := by decide +kernel
theorem dM_put_83 : decode cM_put 83 = .ok (.iaload, 1) := by decide +kernel
theorem dM_put_84 : decode cM_put 84 = .ok (.invokevirtual 115, 3) := by decide +kernel
theorem dM_put_87 : decode cM_put 87 = .ok (.aload_n 0, 1) := by decide +kernel
theorem dM_put_88 : decode cM_put 88 = .ok (.iconst 2, 1) := by decide +kernel
theorem dM_put_89 : decode cM_put 89 = .ok (.aload_n 0, 1) := by decide +kernel
theorem dM_put_90 : decode cM_put 90 = .ok (.invokevirtual 111, 3) := by decide +kernel
theorem dM_put_93 : decode cM_put 93 = .ok (.ifCond .ne 7, 3) := by decide +kernel
theorem dM_put_96 : decode cM_put 96 = .ok (.iconst 1, 1) := by decide +kernel
theorem dM_put_97 : decode cM_put 97 = .ok (.goto 4, 3) := by decide +kernel
theorem dM_put_100 : decode cM_put 100 = .ok (.iconst 0, 1) := by decide +kernel
theorem dM_put_101 : decode cM_put 101 = .ok (.invokevirtual 67, 3) := by decide +kernel
theorem dM_put_104 : decode cM_put 104 = .ok (.ifCond .eq 5, 3) := by decide +kernel
theorem dM_put_107 : decode cM_put 107 = .ok (.iconst 0, 1) := by decide +kernel
theorem dM_put_108 : decode cM_put 108 = .ok (.ireturn, 1) := by decide +kernel
theorem dM_put_109 : decode cM_put 109 = .ok (.aload_n 0, 1) := by decide +kernel
theorem dM_put_110 : decode cM_put 110 = .ok (.iload_n 1, 1) := by decide +kernel
theorem dM_put_111 : decode cM_put 111 = .ok (.invokevirtual 107, 3) := by decide +kernel
theorem dM_put_114 : decode cM_put 114 = .ok (.ireturn, 1) := by decide +kernel
theorem dM_open_0 : decode cM_open 0 = .ok (.aload_n 0, 1) := by decide +kernel
theorem dM_open_1 : decode cM_open 1 = .ok (.iload_n 1, 1) := by decide +kernel
theorem dM_open_2 : decode cM_open 2 = .ok (.invokevirtual 100, 3) := by decide +kernel
theorem dM_open_5 : decode cM_open 5 = .ok (.ifCond .ne 46, 3) := by decide +kernel
theorem dM_open_8 : decode cM_open 8 = .ok (.aload_n 0, 1) := by decide +kernel
theorem dM_open_9 : decode cM_open 9 = .ok (.iload_n 2, 1) := by decide +kernel
theorem dM_open_10 : decode cM_open 10 = .ok (.invokevirtual 100, 3) := by decide +kernel
theorem dM_open_13 : decode cM_open 13 = .ok (.ifCond .ne 38, 3) := by decide +kernel
theorem dM_open_16 : decode cM_open 16 = .ok (.aload_n 0, 1) := by decide +kernel
theorem dM_open_17 : decode cM_open 17 = .ok (.iload_n 3, 1) := by decide +kernel
theorem dM_open_18 : decode cM_open 18 = .ok (.invokevirtual 100, 3) := by decide +kernel
theorem dM_open_21 : decode cM_open 21 = .ok (.ifCond .ne 30, 3) := by decide +kernel
theorem dM_open_24 : decode cM_open 24 = .ok (.aload_n 0, 1) := by decide +kernel
theorem dM_open_25 : decode cM_open 25 = .ok (.iconst 2, 1) := by decide +kernel
theorem dM_open_26 : decode cM_open 26 = .ok (.aload_n 0, 1) := by decide +kernel
theorem dM_open_27 : decode cM_open 27 = .ok (.getfield 15, 3) := by decide +kernel
theorem dM_open_30 : decode cM_open 30 = .ok (.iload_n 2, 1) := by decide +kernel
theorem dM_open_31 : decode cM_open 31 = .ok (.aaload, 1) := by decide +kernel
theorem dM_open_32 : decode cM_open 32 = .ok (.iconst 0, 1) := by decide +kernel
theorem dM_open_33 : decode cM_open 33 = .ok (.iaload, 1) := by decide +kernel
theorem dM_open_34 : decode cM_open 34 = .ok (.sipush 2000, 3) := by decide +kernel
theorem dM_open_37 : decode cM_open 37 = .ok (.if_icmp .ge 7, 3) := by decide +kernel
theorem dM_open_40 : decode cM_open 40 = .ok (.iconst 1, 1) := by decide +kernel
theorem dM_open_41 : decode cM_open 41 = .ok (.goto 4, 3) := by decide +kernel
theorem dM_open_44 : decode cM_open 44 = .ok (.iconst 0, 1) := by decide +kernel
theorem dM_open_45 : decode cM_open 45 = .ok (.invokevirtual 67, 3) := by decide +kernel
theorem dM_open_48 : decode cM_open 48 = .ok (.ifCond .eq 5, 3) := by decide +kernel
theorem dM_open_51 : decode cM_open 51 = .ok (.iconst 0, 1) := by decide +kernel
theorem dM_open_52 : decode cM_open 52 = .ok (.ireturn, 1) := by decide +kernel
theorem dM_open_53 : decode cM_open 53 = .ok (.aload_n 0, 1) := by decide +kernel
theorem dM_open_54 : decode cM_open 54 = .ok (.invokevirtual 104, 3) := by decide +kernel
theorem dM_open_57 : decode cM_open 57 = .ok (.aload_n 0, 1) := by decide +kernel
theorem dM_open_58 : decode cM_open 58 = .ok (.aload_n 0, 1) := by decide +kernel
theorem dM_open_59 : decode cM_open 59 = .ok (.getfield 15, 3) := by decide +kernel
theorem dM_open_62 : decode cM_open 62 = .ok (.iload_n 2, 1) := by decide +kernel
theorem dM_open_63 : decode cM_open 63 = .ok (.aaload, 1) := by decide +kernel
theorem dM_open_64 : decode cM_open 64 = .ok (.iconst 1, 1) := by decide +kernel
theorem dM_open_65 : decode cM_open 65 = .ok (.aload_n 0, 1) := by decide +kernel
theorem dM_open_66 : decode cM_open 66 = .ok (.getfield 18, 3) := by decide +kernel
theorem dM_open_69 : decode cM_open 69 = .ok (.iload_n 2, 1) := by decide +kernel
theorem dM_open_70 : decode cM_open 70 = .ok (.iaload, 1) := by decide +kernel
theorem dM_open_71 : decode cM_open 71 = .ok (.iconst (-1), 1) := by decide +kernel
theorem dM_open_72 : decode cM_open 72 = .ok (.aload_n 0, 1) := by decide +kernel
theorem dM_open_73 : decode cM_open 73 = .ok (.getfield 15, 3) := by decide +kernel
theorem dM_open_76 : decode cM_open 76 = .ok (.iload_n 2, 1) := by decide +kernel
theorem dM_open_77 : decode cM_open 77 = .ok (.aaload, 1) := by decide +kernel
theorem dM_open_78 : decode cM_open 78 = .ok (.iconst 0, 1) := by decide +kernel
theorem dM_open_79 : decode cM_open 79 = .ok (.iaload, 1) := by decide +kernel
theorem dM_open_80 : decode cM_open 80 = .ok (.sipush 2000, 3) := by decide +kernel
theorem dM_open_83 : decode cM_open 83 = .ok (.isub, 1) := by decide +kernel
theorem dM_open_84 : decode cM_open 84 = .ok (.isub, 1) := by decide +kernel
theorem dM_open_85 : decode cM_open 85 = .ok (.aload_n 0, 1) := by decide +kernel
theorem dM_open_86 : decode cM_open 86 = .ok (.getfield 15, 3) := by decide +kernel
theorem dM_open_89 : decode cM_open 89 = .ok (.iload_n 3, 1) := by decide +kernel
theorem dM_open_90 : decode cM_open 90 = .ok (.aaload, 1) := by decide +kernel
theorem dM_open_91 : decode cM_open 91 = .ok (.iconst 0, 1) := by decide +kernel
theorem dM_open_92 : decode cM_open 92 = .ok (.aload_n 0, 1) := by decide +kernel
theorem dM_open_93 : decode cM_open 93 = .ok (.getfield 18, 3) := by decide +kernel
theorem dM_open_96 : decode cM_open 96 = .ok (.iload_n 3, 1) := by decide +kernel
theorem dM_open_97 : decode cM_open 97 = .ok (.iaload, 1) := by decide +kernel
theorem dM_open_98 : decode cM_open 98 = .ok (.invokevirtual 115, 3) := by decide +kernel
theorem dM_open_101 : decode cM_open 101 = .ok (.aload_n 0, 1) := by decide +kernel
theorem dM_open_102 : decode cM_open 102 = .ok (.iconst 3, 1) := by decide +kernel
theorem dM_open_103 : decode cM_open 103 = .ok (.aload_n 0, 1) := by decide +kernel
theorem dM_open_104 : decode cM_open 104 = .ok (.invokevirtual 111, 3) := by decide +kernel
theorem dM_open_107 : decode cM_open 107 = .ok (.ifCond .ne 7, 3) := by decide +kernel
theorem dM_open_110 : decode cM_open 110 = .ok (.iconst 1, 1) := by decide +kernel
theorem dM_open_111 : decode cM_open 111 = .ok (.goto 4, 3) := by decide +kernel
theorem dM_open_114 : decode cM_open 114 = .ok (.iconst 0, 1) := by decide +kernel
theorem dM_open_115 : decode cM_open 115 = .ok (.invokevirtual 67, 3) := by decide +kernel
theorem dM_open_118 : decode cM_open 118 = .ok (.ifCond .eq 5, 3) := by decide +kernel
theorem dM_open_121 : decode cM_open 121 = .ok (.iconst 0, 1) := by decide +kernel
theorem dM_open_122 : decode cM_open 122 = .ok (.ireturn, 1) := by decide +kernel
theorem dM_open_123 : decode cM_open 123 = .ok (.aload_n 0, 1) := by decide +kernel
theorem dM_open_124 : decode cM_open 124 = .ok (.iload_n 1, 1) := by decide +kernel
theorem dM_open_125 : decode cM_open 125 = .ok (.invokevirtual 107, 3) := by decide +kernel
theorem dM_open_128 : decode cM_open 128 = .ok (.ireturn, 1) := by decide +kernel
theorem dM_part_0 : decode cM_part 0 = .ok (.aload_n 0, 1) := by decide +kernel
theorem dM_part_1 : decode cM_part 1 = .ok (.iload_n 1, 1) := by decide +kernel
theorem dM_part_2 : decode cM_part 2 = .ok (.invokevirtual 100, 3) := by decide +kernel
theorem dM_part_5 : decode cM_part 5 = .ok (.ifCond .ne 38, 3) := by decide +kernel
theorem dM_part_8 : decode cM_part 8 = .ok (.aload_n 0, 1) := by decide +kernel
theorem dM_part_9 : decode cM_part 9 = .ok (.iload_n 2, 1) := by decide +kernel
theorem dM_part_10 : decode cM_part 10 = .ok (.invokevirtual 100, 3) := by decide +kernel
theorem dM_part_13 : decode cM_part 13 = .ok (.ifCond .ne 30, 3) := by decide +kernel
theorem dM_part_16 : decode cM_part 16 = .ok (.aload_n 0, 1) := by decide +kernel
theorem dM_part_17 : decode cM_part 17 = .ok (.iconst 2, 1) := by decide +kernel
theorem dM_part_18 : decode cM_part 18 = .ok (.aload_n 0, 1) := by decide +kernel
theorem dM_part_19 : decode cM_part 19 = .ok (.getfield 15, 3) := by decide +kernel
theorem dM_part_22 : decode cM_part 22 = .ok (.iload_n 2, 1) := by decide +kernel
theorem dM_part_23 : decode cM_part 23 = .ok (.aaload, 1) := by decide +kernel
theorem dM_part_24 : decode cM_part 24 = .ok (.iconst 0, 1) := by decide +kernel
theorem dM_part_25 : decode cM_part 25 = .ok (.iaload, 1) := by decide +kernel
theorem dM_part_26 : decode cM_part 26 = .ok (.sipush 1000, 3) := by decide +kernel
theorem dM_part_29 : decode cM_part 29 = .ok (.if_icmp .eq 7, 3) := by decide +kernel
theorem dM_part_32 : decode cM_part 32 = .ok (.iconst 1, 1) := by decide +kernel
theorem dM_part_33 : decode cM_part 33 = .ok (.goto 4, 3) := by decide +kernel
theorem dM_part_36 : decode cM_part 36 = .ok (.iconst 0, 1) := by decide +kernel
theorem dM_part_37 : decode cM_part 37 = .ok (.invokevirtual 67, 3) := by decide +kernel
theorem dM_part_40 : decode cM_part 40 = .ok (.ifCond .eq 4, 3) := by decide +kernel
theorem dM_part_43 : decode cM_part 43 = .ok (.return_, 1) := by decide +kernel
theorem dM_part_44 : decode cM_part 44 = .ok (.aload_n 0, 1) := by decide +kernel
theorem dM_part_45 : decode cM_part 45 = .ok (.getfield 15, 3) := by decide +kernel
theorem dM_part_48 : decode cM_part 48 = .ok (.iload_n 2, 1) := by decide +kernel
theorem dM_part_49 : decode cM_part 49 = .ok (.aaload, 1) := by decide +kernel
theorem dM_part_50 : decode cM_part 50 = .ok (.iconst 1, 1) := by decide +kernel
theorem dM_part_51 : decode cM_part 51 = .ok (.invokestatic 118, 3) := by decide +kernel
theorem dM_part_54 : decode cM_part 54 = .ok (.istore 4, 2) := by decide +kernel
theorem dM_part_56 : decode cM_part 56 = .ok (.aload_n 0, 1) := by decide +kernel
theorem dM_part_57 : decode cM_part 57 = .ok (.invokevirtual 104, 3) := by decide +kernel
theorem dM_part_60 : decode cM_part 60 = .ok (.iload_n 3, 1) := by decide +kernel
theorem dM_part_61 : decode cM_part 61 = .ok (.ifCond .eq 24, 3) := by decide +kernel
theorem dM_part_64 : decode cM_part 64 = .ok (.aload_n 0, 1) := by decide +kernel
theorem dM_part_65 : decode cM_part 65 = .ok (.aload_n 0, 1) := by decide +kernel
theorem dM_part_66 : decode cM_part 66 = .ok (.getfield 15, 3) := by decide +kernel
theorem dM_part_69 : decode cM_part 69 = .ok (.iload_n 2, 1) := by decide +kernel
theorem dM_part_70 : decode cM_part 70 = .ok (.aaload, 1) := by decide +kernel
theorem dM_part_71 : decode cM_part 71 = .ok (.iload 4, 2) := by decide +kernel
theorem dM_part_73 : decode cM_part 73 = .ok (.aload_n 0, 1) := by decide +kernel
theorem dM_part_74 : decode cM_part 74 = .ok (.getfield 18, 3) := by decide +kernel
theorem dM_part_77 : decode cM_part 77 = .ok (.iload_n 2, 1) := by decide +kernel
theorem dM_part_78 : decode cM_part 78 = .ok (.iaload, 1) := by decide +kernel
theorem dM_part_79 : decode cM_part 79 = .ok (.invokevirtual 75, 3) := by decide +kernel
theorem dM_part_82 : decode cM_part 82 = .ok (.goto 16, 3) := by decide +kernel
theorem dM_part_85 : decode cM_part 85 = .ok (.aload_n 0, 1) := by decide +kernel
theorem dM_part_86 : decode cM_part 86 = .ok (.aload_n 0, 1) := by decide +kernel
theorem dM_part_87 : decode cM_part 87 = .ok (.getfield 15, 3) := by decide +kernel
theorem dM_part_90 : decode cM_part 90 = .ok (.iload_n 2, 1) := by decide +kernel
theorem dM_part_91 : decode cM_part 91 = .ok (.aaload, 1) := by decide +kernel
theorem dM_part_92 : decode cM_part 92 = .ok (.iconst 1, 1) := by decide +kernel
theorem dM_part_93 : decode cM_part 93 = .ok (.iload 4, 2) := by decide +kernel
theorem dM_part_95 : decode cM_part 95 = .ok (.invokevirtual 75, 3) := by decide +kernel
theorem dM_part_98 : decode cM_part 98 = .ok (.aload_n 0, 1) := by decide +kernel
theorem dM_part_99 : decode cM_part 99 = .ok (.invokevirtual 91, 3) := by decide +kernel
theorem dM_part_102 : decode cM_part 102 = .ok (.aload_n 0, 1) := by decide +kernel
theorem dM_part_103 : decode cM_part 103 = .ok (.iload_n 1, 1) := by decide +kernel
theorem dM_part_104 : decode cM_part 104 = .ok (.invokevirtual 107, 3) := by decide +kernel
theorem dM_part_107 : decode cM_part 107 = .ok (.pop, 1) := by decide +kernel
theorem dM_part_108 : decode cM_part 108 = .ok (.return_, 1) := by decide +kernel
theorem dM_begins_0 : decode cM_begins 0 = .ok (.aload_n 0, 1) := by decide +kernel
theorem dM_begins_1 : decode cM_begins 1 = .ok (.getfield 15, 3) := by decide +kernel
theorem dM_begins_4 : decode cM_begins 4 = .ok (.iload_n 1, 1) := by decide +kernel
theorem dM_begins_5 : decode cM_begins 5 = .ok (.aaload, 1) := by decide +kernel
theorem dM_begins_6 : decode cM_begins 6 = .ok (.iconst 0, 1) := by decide +kernel
theorem dM_begins_7 : decode cM_begins 7 = .ok (.aload_n 0, 1) := by decide +kernel
theorem dM_begins_8 : decode cM_begins 8 = .ok (.getfield 28, 3) := by decide +kernel
theorem dM_begins_11 : decode cM_begins 11 = .ok (.iconst 0, 1) := by decide +kernel
theorem dM_begins_12 : decode cM_begins 12 = .ok (.aload_n 0, 1) := by decide +kernel
theorem dM_begins_13 : decode cM_begins 13 = .ok (.getfield 18, 3) := by decide +kernel
theorem dM_begins_16 : decode cM_begins 16 = .ok (.iload_n 1, 1) := by decide +kernel
theorem dM_begins_17 : decode cM_begins 17 = .ok (.iaload, 1) := by decide +kernel
theorem dM_begins_18 : decode cM_begins 18 = .ok (.invokestatic 94, 3) := by decide +kernel
theorem dM_begins_21 : decode cM_begins 21 = .ok (.aload_n 0, 1) := by decide +kernel
theorem dM_begins_22 : decode cM_begins 22 = .ok (.aload_n 0, 1) := by decide +kernel
theorem dM_begins_23 : decode cM_begins 23 = .ok (.getfield 18, 3) := by decide +kernel
theorem dM_begins_26 : decode cM_begins 26 = .ok (.iload_n 1, 1) := by decide +kernel
theorem dM_begins_27 : decode cM_begins 27 = .ok (.iaload, 1) := by decide +kernel
theorem dM_begins_28 : decode cM_begins 28 = .ok (.putfield 34, 3) := by decide +kernel
theorem dM_begins_31 : decode cM_begins 31 = .ok (.return_, 1) := by decide +kernel
theorem dM_stepped_0 : decode cM_stepped 0 = .ok (.iload_n 1, 1) := by decide +kernel
theorem dM_stepped_1 : decode cM_stepped 1 = .ok (.iconst 2, 1) := by decide +kernel
theorem dM_stepped_2 : decode cM_stepped 2 = .ok (.iadd, 1) := by decide +kernel
theorem dM_stepped_3 : decode cM_stepped 3 = .ok (.istore_n 2, 1) := by decide +kernel
theorem dM_stepped_4 : decode cM_stepped 4 = .ok (.aload_n 0, 1) := by decide +kernel
theorem dM_stepped_5 : decode cM_stepped 5 = .ok (.getfield 28, 3) := by decide +kernel
theorem dM_stepped_8 : decode cM_stepped 8 = .ok (.iload_n 1, 1) := by decide +kernel
theorem dM_stepped_9 : decode cM_stepped 9 = .ok (.iconst 1, 1) := by decide +kernel
theorem dM_stepped_10 : decode cM_stepped 10 = .ok (.iadd, 1) := by decide +kernel
theorem dM_stepped_11 : decode cM_stepped 11 = .ok (.invokestatic 118, 3) := by decide +kernel
theorem dM_stepped_14 : decode cM_stepped 14 = .ok (.istore_n 3, 1) := by decide +kernel
theorem dM_stepped_15 : decode cM_stepped 15 = .ok (.aload_n 0, 1) := by decide +kernel
theorem dM_stepped_16 : decode cM_stepped 16 = .ok (.getfield 28, 3) := by decide +kernel
theorem dM_stepped_19 : decode cM_stepped 19 = .ok (.iload_n 3, 1) := by decide +kernel
theorem dM_stepped_20 : decode cM_stepped 20 = .ok (.invokestatic 118, 3) := by decide +kernel
theorem dM_stepped_23 : decode cM_stepped 23 = .ok (.istore 4, 2) := by decide +kernel
theorem dM_stepped_25 : decode cM_stepped 25 = .ok (.aload_n 0, 1) := by decide +kernel
theorem dM_stepped_26 : decode cM_stepped 26 = .ok (.invokevirtual 104, 3) := by decide +kernel
theorem dM_stepped_29 : decode cM_stepped 29 = .ok (.aload_n 0, 1) := by decide +kernel
theorem dM_stepped_30 : decode cM_stepped 30 = .ok (.aload_n 0, 1) := by decide +kernel
theorem dM_stepped_31 : decode cM_stepped 31 = .ok (.getfield 28, 3) := by decide +kernel
theorem dM_stepped_34 : decode cM_stepped 34 = .ok (.iconst 0, 1) := by decide +kernel
theorem dM_stepped_35 : decode cM_stepped 35 = .ok (.iload_n 1, 1) := by decide +kernel
theorem dM_stepped_36 : decode cM_stepped 36 = .ok (.invokevirtual 75, 3) := by decide +kernel
theorem dM_stepped_39 : decode cM_stepped 39 = .ok (.aload_n 0, 1) := by decide +kernel
theorem dM_stepped_40 : decode cM_stepped 40 = .ok (.aload_n 0, 1) := by decide +kernel
theorem dM_stepped_41 : decode cM_stepped 41 = .ok (.getfield 28, 3) := by decide +kernel
theorem dM_stepped_44 : decode cM_stepped 44 = .ok (.iload_n 2, 1) := by decide +kernel
theorem dM_stepped_45 : decode cM_stepped 45 = .ok (.iload_n 3, 1) := by decide +kernel
theorem dM_stepped_46 : decode cM_stepped 46 = .ok (.iconst (-1), 1) := by decide +kernel
theorem dM_stepped_47 : decode cM_stepped 47 = .ok (.aload_n 0, 1) := by decide +kernel
theorem dM_stepped_48 : decode cM_stepped 48 = .ok (.getfield 28, 3) := by decide +kernel
theorem dM_stepped_51 : decode cM_stepped 51 = .ok (.iload_n 1, 1) := by decide +kernel
theorem dM_stepped_52 : decode cM_stepped 52 = .ok (.iconst 1, 1) := by decide +kernel
theorem dM_stepped_53 : decode cM_stepped 53 = .ok (.iadd, 1) := by decide +kernel
theorem dM_stepped_54 : decode cM_stepped 54 = .ok (.iaload, 1) := by decide +kernel
theorem dM_stepped_55 : decode cM_stepped 55 = .ok (.sipush 2000, 3) := by decide +kernel
theorem dM_stepped_58 : decode cM_stepped 58 = .ok (.isub, 1) := by decide +kernel
theorem dM_stepped_59 : decode cM_stepped 59 = .ok (.isub, 1) := by decide +kernel
theorem dM_stepped_60 : decode cM_stepped 60 = .ok (.aload_n 0, 1) := by decide +kernel
theorem dM_stepped_61 : decode cM_stepped 61 = .ok (.getfield 28, 3) := by decide +kernel
theorem dM_stepped_64 : decode cM_stepped 64 = .ok (.iload_n 3, 1) := by decide +kernel
theorem dM_stepped_65 : decode cM_stepped 65 = .ok (.iload 4, 2) := by decide +kernel
theorem dM_stepped_67 : decode cM_stepped 67 = .ok (.invokevirtual 115, 3) := by decide +kernel
theorem dM_stepped_70 : decode cM_stepped 70 = .ok (.aload_n 0, 1) := by decide +kernel
theorem dM_stepped_71 : decode cM_stepped 71 = .ok (.aload_n 0, 1) := by decide +kernel
theorem dM_stepped_72 : decode cM_stepped 72 = .ok (.getfield 28, 3) := by decide +kernel
theorem dM_stepped_75 : decode cM_stepped 75 = .ok (.iload 4, 2) := by decide +kernel
theorem dM_stepped_77 : decode cM_stepped 77 = .ok (.aload_n 0, 1) := by decide +kernel
theorem dM_stepped_78 : decode cM_stepped 78 = .ok (.getfield 34, 3) := by decide +kernel
theorem dM_stepped_81 : decode cM_stepped 81 = .ok (.invokevirtual 75, 3) := by decide +kernel
theorem dM_stepped_84 : decode cM_stepped 84 = .ok (.aload_n 0, 1) := by decide +kernel
theorem dM_stepped_85 : decode cM_stepped 85 = .ok (.invokevirtual 111, 3) := by decide +kernel
theorem dM_stepped_88 : decode cM_stepped 88 = .ok (.ifCond .ne 5, 3) := by decide +kernel
theorem dM_stepped_91 : decode cM_stepped 91 = .ok (.iconst 0, 1) := by decide +kernel
theorem dM_stepped_92 : decode cM_stepped 92 = .ok (.ireturn, 1) := by decide +kernel
theorem dM_stepped_93 : decode cM_stepped 93 = .ok (.aload_n 0, 1) := by decide +kernel
theorem dM_stepped_94 : decode cM_stepped 94 = .ok (.getfield 22, 3) := by decide +kernel
theorem dM_stepped_97 : decode cM_stepped 97 = .ok (.iconst 0, 1) := by decide +kernel
theorem dM_stepped_98 : decode cM_stepped 98 = .ok (.aload_n 0, 1) := by decide +kernel
theorem dM_stepped_99 : decode cM_stepped 99 = .ok (.getfield 28, 3) := by decide +kernel
theorem dM_stepped_102 : decode cM_stepped 102 = .ok (.iconst 0, 1) := by decide +kernel
theorem dM_stepped_103 : decode cM_stepped 103 = .ok (.aload_n 0, 1) := by decide +kernel
theorem dM_stepped_104 : decode cM_stepped 104 = .ok (.getfield 31, 3) := by decide +kernel
theorem dM_stepped_107 : decode cM_stepped 107 = .ok (.invokestatic 94, 3) := by decide +kernel
theorem dM_stepped_110 : decode cM_stepped 110 = .ok (.aload_n 0, 1) := by decide +kernel
theorem dM_stepped_111 : decode cM_stepped 111 = .ok (.aload_n 0, 1) := by decide +kernel
theorem dM_stepped_112 : decode cM_stepped 112 = .ok (.getfield 31, 3) := by decide +kernel
theorem dM_stepped_115 : decode cM_stepped 115 = .ok (.putfield 34, 3) := by decide +kernel
theorem dM_stepped_118 : decode cM_stepped 118 = .ok (.iconst 1, 1) := by decide +kernel
theorem dM_stepped_119 : decode cM_stepped 119 = .ok (.ireturn, 1) := by decide +kernel
theorem dM_isStep_0 : decode cM_isStep 0 = .ok (.aload_n 0, 1) := by decide +kernel
theorem dM_isStep_1 : decode cM_isStep 1 = .ok (.getfield 28, 3) := by decide +kernel
theorem dM_isStep_4 : decode cM_isStep 4 = .ok (.iload_n 1, 1) := by decide +kernel
theorem dM_isStep_5 : decode cM_isStep 5 = .ok (.iaload, 1) := by decide +kernel
theorem dM_isStep_6 : decode cM_isStep 6 = .ok (.sipush 1000, 3) := by decide +kernel
theorem dM_isStep_9 : decode cM_isStep 9 = .ok (.if_icmp .ne 21, 3) := by decide +kernel
theorem dM_isStep_12 : decode cM_isStep 12 = .ok (.aload_n 0, 1) := by decide +kernel
theorem dM_isStep_13 : decode cM_isStep 13 = .ok (.getfield 28, 3) := by decide +kernel
theorem dM_isStep_16 : decode cM_isStep 16 = .ok (.iload_n 1, 1) := by decide +kernel
theorem dM_isStep_17 : decode cM_isStep 17 = .ok (.iconst 1, 1) := by decide +kernel
theorem dM_isStep_18 : decode cM_isStep 18 = .ok (.iadd, 1) := by decide +kernel
theorem dM_isStep_19 : decode cM_isStep 19 = .ok (.iaload, 1) := by decide +kernel
theorem dM_isStep_20 : decode cM_isStep 20 = .ok (.sipush 2000, 3) := by decide +kernel
theorem dM_isStep_23 : decode cM_isStep 23 = .ok (.if_icmp .lt 7, 3) := by decide +kernel
theorem dM_isStep_26 : decode cM_isStep 26 = .ok (.iconst 1, 1) := by decide +kernel
theorem dM_isStep_27 : decode cM_isStep 27 = .ok (.goto 4, 3) := by decide +kernel
theorem dM_isStep_30 : decode cM_isStep 30 = .ok (.iconst 0, 1) := by decide +kernel
theorem dM_isStep_31 : decode cM_isStep 31 = .ok (.ireturn, 1) := by decide +kernel
theorem dM_first_0 : decode cM_first 0 = .ok (.iconst 0, 1) := by decide +kernel
theorem dM_first_1 : decode cM_first 1 = .ok (.istore_n 1, 1) := by decide +kernel
theorem dM_first_2 : decode cM_first 2 = .ok (.iload_n 1, 1) := by decide +kernel
theorem dM_first_3 : decode cM_first 3 = .ok (.aload_n 0, 1) := by decide +kernel
theorem dM_first_4 : decode cM_first 4 = .ok (.getfield 34, 3) := by decide +kernel
theorem dM_first_7 : decode cM_first 7 = .ok (.if_icmp .ge 19, 3) := by decide +kernel
theorem dM_first_10 : decode cM_first 10 = .ok (.aload_n 0, 1) := by decide +kernel
theorem dM_first_11 : decode cM_first 11 = .ok (.iload_n 1, 1) := by decide +kernel
theorem dM_first_12 : decode cM_first 12 = .ok (.invokevirtual 121, 3) := by decide +kernel
theorem dM_first_15 : decode cM_first 15 = .ok (.ifCond .eq 5, 3) := by decide +kernel
theorem dM_first_18 : decode cM_first 18 = .ok (.iload_n 1, 1) := by decide +kernel
theorem dM_first_19 : decode cM_first 19 = .ok (.ireturn, 1) := by decide +kernel
theorem dM_first_20 : decode cM_first 20 = .ok (.iinc 1 1, 3) := by decide +kernel
theorem dM_first_23 : decode cM_first 23 = .ok (.goto (-21), 3) := by decide +kernel
theorem dM_first_26 : decode cM_first 26 = .ok (.iconst (-1), 1) := by decide +kernel
theorem dM_first_27 : decode cM_first 27 = .ok (.ireturn, 1) := by decide +kernel
theorem dM_atHead_0 : decode cM_atHead 0 = .ok (.iconst 0, 1) := by decide +kernel
theorem dM_atHead_1 : decode cM_atHead 1 = .ok (.istore_n 1, 1) := by decide +kernel
theorem dM_atHead_2 : decode cM_atHead 2 = .ok (.aload_n 0, 1) := by decide +kernel
theorem dM_atHead_3 : decode cM_atHead 3 = .ok (.getfield 28, 3) := by decide +kernel
theorem dM_atHead_6 : decode cM_atHead 6 = .ok (.iload_n 1, 1) := by decide +kernel
theorem dM_atHead_7 : decode cM_atHead 7 = .ok (.iaload, 1) := by decide +kernel
theorem dM_atHead_8 : decode cM_atHead 8 = .ok (.sipush 1000, 3) := by decide +kernel
theorem dM_atHead_11 : decode cM_atHead 11 = .ok (.if_icmp .ne 17, 3) := by decide +kernel
theorem dM_atHead_14 : decode cM_atHead 14 = .ok (.aload_n 0, 1) := by decide +kernel
theorem dM_atHead_15 : decode cM_atHead 15 = .ok (.iload_n 1, 1) := by decide +kernel
theorem dM_atHead_16 : decode cM_atHead 16 = .ok (.invokevirtual 121, 3) := by decide +kernel
theorem dM_atHead_19 : decode cM_atHead 19 = .ok (.ifCond .ne 9, 3) := by decide +kernel
theorem dM_atHead_22 : decode cM_atHead 22 = .ok (.iinc 1 1, 3) := by decide +kernel
theorem dM_atHead_25 : decode cM_atHead 25 = .ok (.goto (-23), 3) := by decide +kernel
theorem dM_atHead_28 : decode cM_atHead 28 = .ok (.aload_n 0, 1) := by decide +kernel
theorem dM_atHead_29 : decode cM_atHead 29 = .ok (.getfield 28, 3) := by decide +kernel
theorem dM_atHead_32 : decode cM_atHead 32 = .ok (.iload_n 1, 1) := by decide +kernel
theorem dM_atHead_33 : decode cM_atHead 33 = .ok (.iaload, 1) := by decide +kernel
theorem dM_atHead_34 : decode cM_atHead 34 = .ok (.sipush 1000, 3) := by decide +kernel
theorem dM_atHead_37 : decode cM_atHead 37 = .ok (.if_icmp .ne 7, 3) := by decide +kernel
theorem dM_atHead_40 : decode cM_atHead 40 = .ok (.iload_n 1, 1) := by decide +kernel
theorem dM_atHead_41 : decode cM_atHead 41 = .ok (.goto 4, 3) := by decide +kernel
theorem dM_atHead_44 : decode cM_atHead 44 = .ok (.iconst (-1), 1) := by decide +kernel
theorem dM_atHead_45 : decode cM_atHead 45 = .ok (.ireturn, 1) := by decide +kernel
theorem dM_keepNow_0 : decode cM_keepNow 0 = .ok (.aload_n 0, 1) := by decide +kernel
theorem dM_keepNow_1 : decode cM_keepNow 1 = .ok (.getfield 28, 3) := by decide +kernel
theorem dM_keepNow_4 : decode cM_keepNow 4 = .ok (.iconst 0, 1) := by decide +kernel
theorem dM_keepNow_5 : decode cM_keepNow 5 = .ok (.aload_n 0, 1) := by decide +kernel
theorem dM_keepNow_6 : decode cM_keepNow 6 = .ok (.getfield 15, 3) := by decide +kernel
theorem dM_keepNow_9 : decode cM_keepNow 9 = .ok (.iload_n 1, 1) := by decide +kernel
theorem dM_keepNow_10 : decode cM_keepNow 10 = .ok (.aaload, 1) := by decide +kernel
theorem dM_keepNow_11 : decode cM_keepNow 11 = .ok (.iconst 0, 1) := by decide +kernel
theorem dM_keepNow_12 : decode cM_keepNow 12 = .ok (.aload_n 0, 1) := by decide +kernel
theorem dM_keepNow_13 : decode cM_keepNow 13 = .ok (.getfield 34, 3) := by decide +kernel
theorem dM_keepNow_16 : decode cM_keepNow 16 = .ok (.invokestatic 94, 3) := by decide +kernel
theorem dM_keepNow_19 : decode cM_keepNow 19 = .ok (.aload_n 0, 1) := by decide +kernel
theorem dM_keepNow_20 : decode cM_keepNow 20 = .ok (.getfield 18, 3) := by decide +kernel
theorem dM_keepNow_23 : decode cM_keepNow 23 = .ok (.iload_n 1, 1) := by decide +kernel
theorem dM_keepNow_24 : decode cM_keepNow 24 = .ok (.aload_n 0, 1) := by decide +kernel
theorem dM_keepNow_25 : decode cM_keepNow 25 = .ok (.getfield 34, 3) := by decide +kernel
theorem dM_keepNow_28 : decode cM_keepNow 28 = .ok (.iastore, 1) := by decide +kernel
theorem dM_keepNow_29 : decode cM_keepNow 29 = .ok (.return_, 1) := by decide +kernel
theorem dM_step_0 : decode cM_step 0 = .ok (.aload_n 0, 1) := by decide +kernel
theorem dM_step_1 : decode cM_step 1 = .ok (.iload_n 1, 1) := by decide +kernel
theorem dM_step_2 : decode cM_step 2 = .ok (.invokevirtual 100, 3) := by decide +kernel
theorem dM_step_5 : decode cM_step 5 = .ok (.ifCond .ne 11, 3) := by decide +kernel
theorem dM_step_8 : decode cM_step 8 = .ok (.aload_n 0, 1) := by decide +kernel
theorem dM_step_9 : decode cM_step 9 = .ok (.iload_n 2, 1) := by decide +kernel
theorem dM_step_10 : decode cM_step 10 = .ok (.invokevirtual 100, 3) := by decide +kernel
theorem dM_step_13 : decode cM_step 13 = .ok (.ifCond .eq 5, 3) := by decide +kernel
theorem dM_step_16 : decode cM_step 16 = .ok (.iconst 0, 1) := by decide +kernel
theorem dM_step_17 : decode cM_step 17 = .ok (.ireturn, 1) := by decide +kernel
theorem dM_step_18 : decode cM_step 18 = .ok (.aload_n 0, 1) := by decide +kernel
theorem dM_step_19 : decode cM_step 19 = .ok (.iload_n 2, 1) := by decide +kernel
theorem dM_step_20 : decode cM_step 20 = .ok (.invokevirtual 124, 3) := by decide +kernel
theorem dM_step_23 : decode cM_step 23 = .ok (.aload_n 0, 1) := by decide +kernel
theorem dM_step_24 : decode cM_step 24 = .ok (.invokevirtual 127, 3) := by decide +kernel
theorem dM_step_27 : decode cM_step 27 = .ok (.istore_n 3, 1) := by decide +kernel
theorem dM_step_28 : decode cM_step 28 = .ok (.iload_n 3, 1) := by decide +kernel
theorem dM_step_29 : decode cM_step 29 = .ok (.ifCond .lt 26, 3) := by decide +kernel
theorem dM_step_32 : decode cM_step 32 = .ok (.aload_n 0, 1) := by decide +kernel
theorem dM_step_33 : decode cM_step 33 = .ok (.iconst 2, 1) := by decide +kernel
theorem dM_step_34 : decode cM_step 34 = .ok (.aload_n 0, 1) := by decide +kernel
theorem dM_step_35 : decode cM_step 35 = .ok (.iload_n 3, 1) := by decide +kernel
theorem dM_step_36 : decode cM_step 36 = .ok (.invokevirtual 131, 3) := by decide +kernel
theorem dM_step_39 : decode cM_step 39 = .ok (.ifCond .ne 7, 3) := by decide +kernel
theorem dM_step_42 : decode cM_step 42 = .ok (.iconst 1, 1) := by decide +kernel
theorem dM_step_43 : decode cM_step 43 = .ok (.goto 4, 3) := by decide +kernel
theorem dM_step_46 : decode cM_step 46 = .ok (.iconst 0, 1) := by decide +kernel
theorem dM_step_47 : decode cM_step 47 = .ok (.invokevirtual 67, 3) := by decide +kernel
theorem dM_step_50 : decode cM_step 50 = .ok (.ifCond .eq 5, 3) := by decide +kernel
theorem dM_step_53 : decode cM_step 53 = .ok (.iconst 0, 1) := by decide +kernel
theorem dM_step_54 : decode cM_step 54 = .ok (.ireturn, 1) := by decide +kernel
theorem dM_step_55 : decode cM_step 55 = .ok (.aload_n 0, 1) := by decide +kernel
theorem dM_step_56 : decode cM_step 56 = .ok (.iload_n 1, 1) := by decide +kernel
theorem dM_step_57 : decode cM_step 57 = .ok (.invokevirtual 134, 3) := by decide +kernel
theorem dM_step_60 : decode cM_step 60 = .ok (.iload_n 3, 1) := by decide +kernel
theorem dM_step_61 : decode cM_step 61 = .ok (.ifCond .lt 7, 3) := by decide +kernel
theorem dM_step_64 : decode cM_step 64 = .ok (.iconst 1, 1) := by decide +kernel
theorem dM_step_65 : decode cM_step 65 = .ok (.goto 4, 3) := by decide +kernel
theorem dM_step_68 : decode cM_step 68 = .ok (.iconst 0, 1) := by decide +kernel
theorem dM_step_69 : decode cM_step 69 = .ok (.ireturn, 1) := by decide +kernel
theorem dM_all_0 : decode cM_all 0 = .ok (.aload_n 0, 1) := by decide +kernel
theorem dM_all_1 : decode cM_all 1 = .ok (.iload_n 1, 1) := by decide +kernel
theorem dM_all_2 : decode cM_all 2 = .ok (.invokevirtual 100, 3) := by decide +kernel
theorem dM_all_5 : decode cM_all 5 = .ok (.ifCond .ne 11, 3) := by decide +kernel
theorem dM_all_8 : decode cM_all 8 = .ok (.aload_n 0, 1) := by decide +kernel
theorem dM_all_9 : decode cM_all 9 = .ok (.iload_n 2, 1) := by decide +kernel
theorem dM_all_10 : decode cM_all 10 = .ok (.invokevirtual 100, 3) := by decide +kernel
theorem dM_all_13 : decode cM_all 13 = .ok (.ifCond .eq 5, 3) := by decide +kernel
theorem dM_all_16 : decode cM_all 16 = .ok (.iconst 0, 1) := by decide +kernel
theorem dM_all_17 : decode cM_all 17 = .ok (.ireturn, 1) := by decide +kernel
theorem dM_all_18 : decode cM_all 18 = .ok (.aload_n 0, 1) := by decide +kernel
theorem dM_all_19 : decode cM_all 19 = .ok (.iload_n 2, 1) := by decide +kernel
theorem dM_all_20 : decode cM_all 20 = .ok (.invokevirtual 124, 3) := by decide +kernel
theorem dM_all_23 : decode cM_all 23 = .ok (.iconst 0, 1) := by decide +kernel
theorem dM_all_24 : decode cM_all 24 = .ok (.istore 4, 2) := by decide +kernel
theorem dM_all_26 : decode cM_all 26 = .ok (.iload_n 3, 1) := by decide +kernel
theorem dM_all_27 : decode cM_all 27 = .ok (.ifCond .eq 10, 3) := by decide +kernel
theorem dM_all_30 : decode cM_all 30 = .ok (.aload_n 0, 1) := by decide +kernel
theorem dM_all_31 : decode cM_all 31 = .ok (.invokevirtual 137, 3) := by decide +kernel
theorem dM_all_34 : decode cM_all 34 = .ok (.goto 7, 3) := by decide +kernel
theorem dM_all_37 : decode cM_all 37 = .ok (.aload_n 0, 1) := by decide +kernel
theorem dM_all_38 : decode cM_all 38 = .ok (.invokevirtual 127, 3) := by decide +kernel
theorem dM_all_41 : decode cM_all 41 = .ok (.istore 5, 2) := by decide +kernel
theorem dM_all_43 : decode cM_all 43 = .ok (.iload 5, 2) := by decide +kernel
theorem dM_all_45 : decode cM_all 45 = .ok (.ifCond .lt 73, 3) := by decide +kernel
theorem dM_all_48 : decode cM_all 48 = .ok (.aload_n 0, 1) := by decide +kernel
theorem dM_all_49 : decode cM_all 49 = .ok (.iconst 2, 1) := by decide +kernel
theorem dM_all_50 : decode cM_all 50 = .ok (.aload_n 0, 1) := by decide +kernel
theorem dM_all_51 : decode cM_all 51 = .ok (.iload 5, 2) := by decide +kernel
theorem dM_all_53 : decode cM_all 53 = .ok (.invokevirtual 131, 3) := by decide +kernel
theorem dM_all_56 : decode cM_all 56 = .ok (.ifCond .ne 7, 3) := by decide +kernel
theorem dM_all_59 : decode cM_all 59 = .ok (.iconst 1, 1) := by decide +kernel
theorem dM_all_60 : decode cM_all 60 = .ok (.goto 4, 3) := by decide +kernel
theorem dM_all_63 : decode cM_all 63 = .ok (.iconst 0, 1) := by decide +kernel
theorem dM_all_64 : decode cM_all 64 = .ok (.invokevirtual 67, 3) := by decide +kernel
theorem dM_all_67 : decode cM_all 67 = .ok (.ifCond .eq 5, 3) := by decide +kernel
theorem dM_all_70 : decode cM_all 70 = .ok (.iconst 0, 1) := by decide +kernel
theorem dM_all_71 : decode cM_all 71 = .ok (.ireturn, 1) := by decide +kernel
theorem dM_all_72 : decode cM_all 72 = .ok (.iinc 4 1, 3) := by decide +kernel
theorem dM_all_75 : decode cM_all 75 = .ok (.aload_n 0, 1) := by decide +kernel
theorem dM_all_76 : decode cM_all 76 = .ok (.iconst 3, 1) := by decide +kernel
theorem dM_all_77 : decode cM_all 77 = .ok (.iload 4, 2) := by decide +kernel
theorem dM_all_79 : decode cM_all 79 = .ok (.sipush 300, 3) := by decide +kernel
theorem dM_all_82 : decode cM_all 82 = .ok (.if_icmp .le 7, 3) := by decide +kernel
theorem dM_all_85 : decode cM_all 85 = .ok (.iconst 1, 1) := by decide +kernel
theorem dM_all_86 : decode cM_all 86 = .ok (.goto 4, 3) := by decide +kernel
theorem dM_all_89 : decode cM_all 89 = .ok (.iconst 0, 1) := by decide +kernel
theorem dM_all_90 : decode cM_all 90 = .ok (.invokevirtual 67, 3) := by decide +kernel
theorem dM_all_93 : decode cM_all 93 = .ok (.ifCond .eq 5, 3) := by decide +kernel
theorem dM_all_96 : decode cM_all 96 = .ok (.iconst 0, 1) := by decide +kernel
theorem dM_all_97 : decode cM_all 97 = .ok (.ireturn, 1) := by decide +kernel
theorem dM_all_98 : decode cM_all 98 = .ok (.iload_n 3, 1) := by decide +kernel
theorem dM_all_99 : decode cM_all 99 = .ok (.ifCond .eq 10, 3) := by decide +kernel
theorem dM_all_102 : decode cM_all 102 = .ok (.aload_n 0, 1) := by decide +kernel
theorem dM_all_103 : decode cM_all 103 = .ok (.invokevirtual 137, 3) := by decide +kernel
theorem dM_all_106 : decode cM_all 106 = .ok (.goto 7, 3) := by decide +kernel
theorem dM_all_109 : decode cM_all 109 = .ok (.aload_n 0, 1) := by decide +kernel
theorem dM_all_110 : decode cM_all 110 = .ok (.invokevirtual 127, 3) := by decide +kernel
theorem dM_all_113 : decode cM_all 113 = .ok (.istore 5, 2) := by decide +kernel
theorem dM_all_115 : decode cM_all 115 = .ok (.goto (-72), 3) := by decide +kernel
theorem dM_all_118 : decode cM_all 118 = .ok (.aload_n 0, 1) := by decide +kernel
theorem dM_all_119 : decode cM_all 119 = .ok (.iload_n 1, 1) := by decide +kernel
theorem dM_all_120 : decode cM_all 120 = .ok (.invokevirtual 134, 3) := by decide +kernel
theorem dM_all_123 : decode cM_all 123 = .ok (.iload 4, 2) := by decide +kernel
theorem dM_all_125 : decode cM_all 125 = .ok (.ireturn, 1) := by decide +kernel
theorem dM_head_0 : decode cM_head 0 = .ok (.aload_n 0, 1) := by decide +kernel
theorem dM_head_1 : decode cM_head 1 = .ok (.iload_n 1, 1) := by decide +kernel
theorem dM_head_2 : decode cM_head 2 = .ok (.iload_n 2, 1) := by decide +kernel
theorem dM_head_3 : decode cM_head 3 = .ok (.iconst 1, 1) := by decide +kernel
theorem dM_head_4 : decode cM_head 4 = .ok (.invokevirtual 140, 3) := by decide +kernel
theorem dM_head_7 : decode cM_head 7 = .ok (.ireturn, 1) := by decide +kernel
theorem dM_normal_0 : decode cM_normal 0 = .ok (.aload_n 0, 1) := by decide +kernel
theorem dM_normal_1 : decode cM_normal 1 = .ok (.iload_n 1, 1) := by decide +kernel
theorem dM_normal_2 : decode cM_normal 2 = .ok (.iload_n 2, 1) := by decide +kernel
theorem dM_normal_3 : decode cM_normal 3 = .ok (.iconst 0, 1) := by decide +kernel
theorem dM_normal_4 : decode cM_normal 4 = .ok (.invokevirtual 140, 3) := by decide +kernel
theorem dM_normal_7 : decode cM_normal 7 = .ok (.ireturn, 1) := by decide +kernel
theorem dM_same_0 : decode cM_same 0 = .ok (.aload_n 0, 1) := by decide +kernel
theorem dM_same_1 : decode cM_same 1 = .ok (.iload_n 1, 1) := by decide +kernel
theorem dM_same_2 : decode cM_same 2 = .ok (.invokevirtual 100, 3) := by decide +kernel
theorem dM_same_5 : decode cM_same 5 = .ok (.ifCond .ne 11, 3) := by decide +kernel
theorem dM_same_8 : decode cM_same 8 = .ok (.aload_n 0, 1) := by decide +kernel
theorem dM_same_9 : decode cM_same 9 = .ok (.iload_n 2, 1) := by decide +kernel
theorem dM_same_10 : decode cM_same 10 = .ok (.invokevirtual 100, 3) := by decide +kernel
theorem dM_same_13 : decode cM_same 13 = .ok (.ifCond .eq 5, 3) := by decide +kernel
theorem dM_same_16 : decode cM_same 16 = .ok (.iconst 0, 1) := by decide +kernel
theorem dM_same_17 : decode cM_same 17 = .ok (.ireturn, 1) := by decide +kernel
theorem dM_same_18 : decode cM_same 18 = .ok (.aload_n 0, 1) := by decide +kernel
theorem dM_same_19 : decode cM_same 19 = .ok (.getfield 18, 3) := by decide +kernel
theorem dM_same_22 : decode cM_same 22 = .ok (.iload_n 1, 1) := by decide +kernel
theorem dM_same_23 : decode cM_same 23 = .ok (.iaload, 1) := by decide +kernel
theorem dM_same_24 : decode cM_same 24 = .ok (.aload_n 0, 1) := by decide +kernel
theorem dM_same_25 : decode cM_same 25 = .ok (.getfield 18, 3) := by decide +kernel
theorem dM_same_28 : decode cM_same 28 = .ok (.iload_n 2, 1) := by decide +kernel
theorem dM_same_29 : decode cM_same 29 = .ok (.iaload, 1) := by decide +kernel
theorem dM_same_30 : decode cM_same 30 = .ok (.if_icmp .eq 5, 3) := by decide +kernel
theorem dM_same_33 : decode cM_same 33 = .ok (.iconst 0, 1) := by decide +kernel
theorem dM_same_34 : decode cM_same 34 = .ok (.ireturn, 1) := by decide +kernel
theorem dM_same_35 : decode cM_same 35 = .ok (.iconst 0, 1) := by decide +kernel
theorem dM_same_36 : decode cM_same 36 = .ok (.istore_n 3, 1) := by decide +kernel
theorem dM_same_37 : decode cM_same 37 = .ok (.iload_n 3, 1) := by decide +kernel
theorem dM_same_38 : decode cM_same 38 = .ok (.aload_n 0, 1) := by decide +kernel
theorem dM_same_39 : decode cM_same 39 = .ok (.getfield 18, 3) := by decide +kernel
theorem dM_same_42 : decode cM_same 42 = .ok (.iload_n 1, 1) := by decide +kernel
theorem dM_same_43 : decode cM_same 43 = .ok (.iaload, 1) := by decide +kernel
theorem dM_same_44 : decode cM_same 44 = .ok (.if_icmp .ge 30, 3) := by decide +kernel
theorem dM_same_47 : decode cM_same 47 = .ok (.aload_n 0, 1) := by decide +kernel
theorem dM_same_48 : decode cM_same 48 = .ok (.getfield 15, 3) := by decide +kernel
theorem dM_same_51 : decode cM_same 51 = .ok (.iload_n 1, 1) := by decide +kernel
theorem dM_same_52 : decode cM_same 52 = .ok (.aaload, 1) := by decide +kernel
theorem dM_same_53 : decode cM_same 53 = .ok (.iload_n 3, 1) := by decide +kernel
theorem dM_same_54 : decode cM_same 54 = .ok (.iaload, 1) := by decide +kernel
theorem dM_same_55 : decode cM_same 55 = .ok (.aload_n 0, 1) := by decide +kernel
theorem dM_same_56 : decode cM_same 56 = .ok (.getfield 15, 3) := by decide +kernel
theorem dM_same_59 : decode cM_same 59 = .ok (.iload_n 2, 1) := by decide +kernel
theorem dM_same_60 : decode cM_same 60 = .ok (.aaload, 1) := by decide +kernel
theorem dM_same_61 : decode cM_same 61 = .ok (.iload_n 3, 1) := by decide +kernel
theorem dM_same_62 : decode cM_same 62 = .ok (.iaload, 1) := by decide +kernel
theorem dM_same_63 : decode cM_same 63 = .ok (.if_icmp .eq 5, 3) := by decide +kernel
theorem dM_same_66 : decode cM_same 66 = .ok (.iconst 0, 1) := by decide +kernel
theorem dM_same_67 : decode cM_same 67 = .ok (.ireturn, 1) := by decide +kernel
theorem dM_same_68 : decode cM_same 68 = .ok (.iinc 3 1, 3) := by decide +kernel
theorem dM_same_71 : decode cM_same 71 = .ok (.goto (-34), 3) := by decide +kernel
theorem dM_same_74 : decode cM_same 74 = .ok (.iconst 1, 1) := by decide +kernel
theorem dM_same_75 : decode cM_same 75 = .ok (.ireturn, 1) := by decide +kernel
theorem dM_places_0 : decode cM_places 0 = .ok (.iconst 0, 1) := by decide +kernel
theorem dM_places_1 : decode cM_places 1 = .ok (.istore_n 3, 1) := by decide +kernel
theorem dM_places_2 : decode cM_places 2 = .ok (.iconst 0, 1) := by decide +kernel
theorem dM_places_3 : decode cM_places 3 = .ok (.istore 4, 2) := by decide +kernel
theorem dM_places_5 : decode cM_places 5 = .ok (.iload 4, 2) := by decide +kernel
theorem dM_places_7 : decode cM_places 7 = .ok (.aload_n 0, 1) := by decide +kernel
theorem dM_places_8 : decode cM_places 8 = .ok (.getfield 18, 3) := by decide +kernel
theorem dM_places_11 : decode cM_places 11 = .ok (.iload_n 1, 1) := by decide +kernel
theorem dM_places_12 : decode cM_places 12 = .ok (.iaload, 1) := by decide +kernel
theorem dM_places_13 : decode cM_places 13 = .ok (.if_icmp .ge 25, 3) := by decide +kernel
theorem dM_places_16 : decode cM_places 16 = .ok (.aload_n 0, 1) := by decide +kernel
theorem dM_places_17 : decode cM_places 17 = .ok (.getfield 15, 3) := by decide +kernel
theorem dM_places_20 : decode cM_places 20 = .ok (.iload_n 1, 1) := by decide +kernel
theorem dM_places_21 : decode cM_places 21 = .ok (.aaload, 1) := by decide +kernel
theorem dM_places_22 : decode cM_places 22 = .ok (.iload 4, 2) := by decide +kernel
theorem dM_places_24 : decode cM_places 24 = .ok (.iaload, 1) := by decide +kernel
theorem dM_places_25 : decode cM_places 25 = .ok (.iload_n 2, 1) := by decide +kernel
theorem dM_places_26 : decode cM_places 26 = .ok (.if_icmp .ne 6, 3) := by decide +kernel
theorem dM_places_29 : decode cM_places 29 = .ok (.iinc 3 1, 3) := by decide +kernel
theorem dM_places_32 : decode cM_places 32 = .ok (.iinc 4 1, 3) := by decide +kernel
theorem dM_places_35 : decode cM_places 35 = .ok (.goto (-30), 3) := by decide +kernel
theorem dM_places_38 : decode cM_places 38 = .ok (.iload_n 3, 1) := by decide +kernel
theorem dM_places_39 : decode cM_places 39 = .ok (.ireturn, 1) := by decide +kernel
theorem dM_about_0 : decode cM_about 0 = .ok (.aload_n 0, 1) := by decide +kernel
theorem dM_about_1 : decode cM_about 1 = .ok (.iload_n 1, 1) := by decide +kernel
theorem dM_about_2 : decode cM_about 2 = .ok (.invokevirtual 100, 3) := by decide +kernel
theorem dM_about_5 : decode cM_about 5 = .ok (.ifCond .ne 25, 3) := by decide +kernel
theorem dM_about_8 : decode cM_about 8 = .ok (.aload_n 0, 1) := by decide +kernel
theorem dM_about_9 : decode cM_about 9 = .ok (.iconst 2, 1) := by decide +kernel
theorem dM_about_10 : decode cM_about 10 = .ok (.iload_n 2, 1) := by decide +kernel
theorem dM_about_11 : decode cM_about 11 = .ok (.ifCond .lt 8, 3) := by decide +kernel
theorem dM_about_14 : decode cM_about 14 = .ok (.iload_n 2, 1) := by decide +kernel
theorem dM_about_15 : decode cM_about 15 = .ok (.iconst 4, 1) := by decide +kernel
theorem dM_about_16 : decode cM_about 16 = .ok (.if_icmp .le 7, 3) := by decide +kernel
theorem dM_about_19 : decode cM_about 19 = .ok (.iconst 1, 1) := by decide +kernel
theorem dM_about_20 : decode cM_about 20 = .ok (.goto 4, 3) := by decide +kernel
theorem dM_about_23 : decode cM_about 23 = .ok (.iconst 0, 1) := by decide +kernel
theorem dM_about_24 : decode cM_about 24 = .ok (.invokevirtual 67, 3) := by decide +kernel
theorem dM_about_27 : decode cM_about 27 = .ok (.ifCond .eq 5, 3) := by decide +kernel
theorem dM_about_30 : decode cM_about 30 = .ok (.iconst 0, 1) := by decide +kernel
theorem dM_about_31 : decode cM_about 31 = .ok (.ireturn, 1) := by decide +kernel
theorem dM_about_32 : decode cM_about 32 = .ok (.iconst 0, 1) := by decide +kernel
theorem dM_about_33 : decode cM_about 33 = .ok (.istore_n 3, 1) := by decide +kernel
theorem dM_about_34 : decode cM_about 34 = .ok (.iload_n 2, 1) := by decide +kernel
theorem dM_about_35 : decode cM_about 35 = .ok (.tableswitch 122 0 3 #[29, 36, 53, 91], 29) := by decide +kernel
theorem dM_about_64 : decode cM_about 64 = .ok (.aload_n 0, 1) := by decide +kernel
theorem dM_about_65 : decode cM_about 65 = .ok (.getfield 18, 3) := by decide +kernel
theorem dM_about_68 : decode cM_about 68 = .ok (.iload_n 1, 1) := by decide +kernel
theorem dM_about_69 : decode cM_about 69 = .ok (.iaload, 1) := by decide +kernel
theorem dM_about_70 : decode cM_about 70 = .ok (.ireturn, 1) := by decide +kernel
theorem dM_about_71 : decode cM_about 71 = .ok (.aload_n 0, 1) := by decide +kernel
theorem dM_about_72 : decode cM_about 72 = .ok (.aload_n 0, 1) := by decide +kernel
theorem dM_about_73 : decode cM_about 73 = .ok (.getfield 15, 3) := by decide +kernel
theorem dM_about_76 : decode cM_about 76 = .ok (.iload_n 1, 1) := by decide +kernel
theorem dM_about_77 : decode cM_about 77 = .ok (.aaload, 1) := by decide +kernel
theorem dM_about_78 : decode cM_about 78 = .ok (.aload_n 0, 1) := by decide +kernel
theorem dM_about_79 : decode cM_about 79 = .ok (.getfield 18, 3) := by decide +kernel
theorem dM_about_82 : decode cM_about 82 = .ok (.iload_n 1, 1) := by decide +kernel
theorem dM_about_83 : decode cM_about 83 = .ok (.iaload, 1) := by decide +kernel
theorem dM_about_84 : decode cM_about 84 = .ok (.invokevirtual 87, 3) := by decide +kernel
theorem dM_about_87 : decode cM_about 87 = .ok (.ireturn, 1) := by decide +kernel
theorem dM_about_88 : decode cM_about 88 = .ok (.aload_n 0, 1) := by decide +kernel
theorem dM_about_89 : decode cM_about 89 = .ok (.getfield 15, 3) := by decide +kernel
theorem dM_about_92 : decode cM_about 92 = .ok (.iload_n 1, 1) := by decide +kernel
theorem dM_about_93 : decode cM_about 93 = .ok (.aaload, 1) := by decide +kernel
theorem dM_about_94 : decode cM_about 94 = .ok (.iconst 0, 1) := by decide +kernel
theorem dM_about_95 : decode cM_about 95 = .ok (.iaload, 1) := by decide +kernel
theorem dM_about_96 : decode cM_about 96 = .ok (.sipush 1000, 3) := by decide +kernel
theorem dM_about_99 : decode cM_about 99 = .ok (.if_icmp .ne 7, 3) := by decide +kernel
theorem dM_about_102 : decode cM_about 102 = .ok (.iconst 1, 1) := by decide +kernel
theorem dM_about_103 : decode cM_about 103 = .ok (.goto 22, 3) := by decide +kernel
theorem dM_about_106 : decode cM_about 106 = .ok (.aload_n 0, 1) := by decide +kernel
theorem dM_about_107 : decode cM_about 107 = .ok (.getfield 15, 3) := by decide +kernel
theorem dM_about_110 : decode cM_about 110 = .ok (.iload_n 1, 1) := by decide +kernel
theorem dM_about_111 : decode cM_about 111 = .ok (.aaload, 1) := by decide +kernel
theorem dM_about_112 : decode cM_about 112 = .ok (.iconst 0, 1) := by decide +kernel
theorem dM_about_113 : decode cM_about 113 = .ok (.iaload, 1) := by decide +kernel
theorem dM_about_114 : decode cM_about 114 = .ok (.sipush 2000, 3) := by decide +kernel
theorem dM_about_117 : decode cM_about 117 = .ok (.if_icmp .lt 7, 3) := by decide +kernel
theorem dM_about_120 : decode cM_about 120 = .ok (.iconst 2, 1) := by decide +kernel
theorem dM_about_121 : decode cM_about 121 = .ok (.goto 4, 3) := by decide +kernel
theorem dM_about_124 : decode cM_about 124 = .ok (.iconst 0, 1) := by decide +kernel
theorem dM_about_125 : decode cM_about 125 = .ok (.ireturn, 1) := by decide +kernel
theorem dM_about_126 : decode cM_about 126 = .ok (.iconst 0, 1) := by decide +kernel
theorem dM_about_127 : decode cM_about 127 = .ok (.istore 4, 2) := by decide +kernel
theorem dM_about_129 : decode cM_about 129 = .ok (.iload 4, 2) := by decide +kernel
theorem dM_about_131 : decode cM_about 131 = .ok (.bipush 100, 2) := by decide +kernel
theorem dM_about_133 : decode cM_about 133 = .ok (.if_icmp .ge 22, 3) := by decide +kernel
theorem dM_about_136 : decode cM_about 136 = .ok (.aload_n 0, 1) := by decide +kernel
theorem dM_about_137 : decode cM_about 137 = .ok (.iload_n 1, 1) := by decide +kernel
theorem dM_about_138 : decode cM_about 138 = .ok (.iload 4, 2) := by decide +kernel
theorem dM_about_140 : decode cM_about 140 = .ok (.invokevirtual 144, 3) := by decide +kernel
theorem dM_about_143 : decode cM_about 143 = .ok (.ifCond .le 6, 3) := by decide +kernel
theorem dM_about_146 : decode cM_about 146 = .ok (.iinc 3 1, 3) := by decide +kernel
theorem dM_about_149 : decode cM_about 149 = .ok (.iinc 4 1, 3) := by decide +kernel
theorem dM_about_152 : decode cM_about 152 = .ok (.goto (-23), 3) := by decide +kernel
theorem dM_about_155 : decode cM_about 155 = .ok (.iload_n 3, 1) := by decide +kernel
theorem dM_about_156 : decode cM_about 156 = .ok (.ireturn, 1) := by decide +kernel
theorem dM_about_157 : decode cM_about 157 = .ok (.aload_n 0, 1) := by decide +kernel
theorem dM_about_158 : decode cM_about 158 = .ok (.iload_n 1, 1) := by decide +kernel
theorem dM_about_159 : decode cM_about 159 = .ok (.invokevirtual 124, 3) := by decide +kernel
theorem dM_about_162 : decode cM_about 162 = .ok (.iconst 0, 1) := by decide +kernel
theorem dM_about_163 : decode cM_about 163 = .ok (.istore 4, 2) := by decide +kernel
theorem dM_about_165 : decode cM_about 165 = .ok (.iload 4, 2) := by decide +kernel
theorem dM_about_167 : decode cM_about 167 = .ok (.aload_n 0, 1) := by decide +kernel
theorem dM_about_168 : decode cM_about 168 = .ok (.getfield 34, 3) := by decide +kernel
theorem dM_about_171 : decode cM_about 171 = .ok (.if_icmp .ge 21, 3) := by decide +kernel
theorem dM_about_174 : decode cM_about 174 = .ok (.aload_n 0, 1) := by decide +kernel
theorem dM_about_175 : decode cM_about 175 = .ok (.iload 4, 2) := by decide +kernel
theorem dM_about_177 : decode cM_about 177 = .ok (.invokevirtual 121, 3) := by decide +kernel
theorem dM_about_180 : decode cM_about 180 = .ok (.ifCond .eq 6, 3) := by decide +kernel
theorem dM_about_183 : decode cM_about 183 = .ok (.iinc 3 1, 3) := by decide +kernel
theorem dM_about_186 : decode cM_about 186 = .ok (.iinc 4 1, 3) := by decide +kernel
theorem dM_about_189 : decode cM_about 189 = .ok (.goto (-24), 3) := by decide +kernel
theorem dM_about_192 : decode cM_about 192 = .ok (.iload_n 3, 1) := by decide +kernel
theorem dM_about_193 : decode cM_about 193 = .ok (.ireturn, 1) := by decide +kernel
theorem dM_has_0 : decode cM_has 0 = .ok (.aload_n 0, 1) := by decide +kernel
theorem dM_has_1 : decode cM_has 1 = .ok (.iload_n 1, 1) := by decide +kernel
theorem dM_has_2 : decode cM_has 2 = .ok (.invokevirtual 100, 3) := by decide +kernel
theorem dM_has_5 : decode cM_has 5 = .ok (.ifCond .ne 26, 3) := by decide +kernel
theorem dM_has_8 : decode cM_has 8 = .ok (.aload_n 0, 1) := by decide +kernel
theorem dM_has_9 : decode cM_has 9 = .ok (.iconst 1, 1) := by decide +kernel
theorem dM_has_10 : decode cM_has 10 = .ok (.iload_n 2, 1) := by decide +kernel
theorem dM_has_11 : decode cM_has 11 = .ok (.ifCond .lt 9, 3) := by decide +kernel
theorem dM_has_14 : decode cM_has 14 = .ok (.iload_n 2, 1) := by decide +kernel
theorem dM_has_15 : decode cM_has 15 = .ok (.bipush 99, 2) := by decide +kernel
theorem dM_has_17 : decode cM_has 17 = .ok (.if_icmp .le 7, 3) := by decide +kernel
theorem dM_has_20 : decode cM_has 20 = .ok (.iconst 1, 1) := by decide +kernel
theorem dM_has_21 : decode cM_has 21 = .ok (.goto 4, 3) := by decide +kernel
theorem dM_has_24 : decode cM_has 24 = .ok (.iconst 0, 1) := by decide +kernel
theorem dM_has_25 : decode cM_has 25 = .ok (.invokevirtual 67, 3) := by decide +kernel
theorem dM_has_28 : decode cM_has 28 = .ok (.ifCond .eq 5, 3) := by decide +kernel
theorem dM_has_31 : decode cM_has 31 = .ok (.iconst 0, 1) := by decide +kernel
theorem dM_has_32 : decode cM_has 32 = .ok (.ireturn, 1) := by decide +kernel
theorem dM_has_33 : decode cM_has 33 = .ok (.aload_n 0, 1) := by decide +kernel
theorem dM_has_34 : decode cM_has 34 = .ok (.iload_n 1, 1) := by decide +kernel
theorem dM_has_35 : decode cM_has 35 = .ok (.iload_n 2, 1) := by decide +kernel
theorem dM_has_36 : decode cM_has 36 = .ok (.invokevirtual 144, 3) := by decide +kernel
theorem dM_has_39 : decode cM_has 39 = .ok (.ireturn, 1) := by decide +kernel
theorem dM_say_0 : decode cM_say 0 = .ok (.aload_n 0, 1) := by decide +kernel
theorem dM_say_1 : decode cM_say 1 = .ok (.getfield 42, 3) := by decide +kernel
theorem dM_say_4 : decode cM_say 4 = .ok (.aload_n 0, 1) := by decide +kernel
theorem dM_say_5 : decode cM_say 5 = .ok (.dup, 1) := by decide +kernel
theorem dM_say_6 : decode cM_say 6 = .ok (.getfield 46, 3) := by decide +kernel
theorem dM_say_9 : decode cM_say 9 = .ok (.dup_x1, 1) := by decide +kernel
theorem dM_say_10 : decode cM_say 10 = .ok (.iconst 1, 1) := by decide +kernel
theorem dM_say_11 : decode cM_say 11 = .ok (.iadd, 1) := by decide +kernel
theorem dM_say_12 : decode cM_say 12 = .ok (.putfield 46, 3) := by decide +kernel
theorem dM_say_15 : decode cM_say 15 = .ok (.iload_n 1, 1) := by decide +kernel
theorem dM_say_16 : decode cM_say 16 = .ok (.i2b, 1) := by decide +kernel
theorem dM_say_17 : decode cM_say 17 = .ok (.bastore, 1) := by decide +kernel
theorem dM_say_18 : decode cM_say 18 = .ok (.return_, 1) := by decide +kernel
theorem dM_written_0 : decode cM_written 0 = .ok (.aload_n 0, 1) := by decide +kernel
theorem dM_written_1 : decode cM_written 1 = .ok (.getfield 15, 3) := by decide +kernel
theorem dM_written_4 : decode cM_written 4 = .ok (.iload_n 1, 1) := by decide +kernel
theorem dM_written_5 : decode cM_written 5 = .ok (.aaload, 1) := by decide +kernel
theorem dM_written_6 : decode cM_written 6 = .ok (.iload_n 2, 1) := by decide +kernel
theorem dM_written_7 : decode cM_written 7 = .ok (.iaload, 1) := by decide +kernel
theorem dM_written_8 : decode cM_written 8 = .ok (.istore 4, 2) := by decide +kernel
theorem dM_written_10 : decode cM_written 10 = .ok (.iload 4, 2) := by decide +kernel
theorem dM_written_12 : decode cM_written 12 = .ok (.sipush 1000, 3) := by decide +kernel
theorem dM_written_15 : decode cM_written 15 = .ok (.if_icmp .ne 45, 3) := by decide +kernel
theorem dM_written_18 : decode cM_written 18 = .ok (.aload_n 0, 1) := by decide +kernel
theorem dM_written_19 : decode cM_written 19 = .ok (.bipush 40, 2) := by decide +kernel
theorem dM_written_21 : decode cM_written 21 = .ok (.invokevirtual 147, 3) := by decide +kernel
theorem dM_written_24 : decode cM_written 24 = .ok (.aload_n 0, 1) := by decide +kernel
theorem dM_written_25 : decode cM_written 25 = .ok (.iload_n 1, 1) := by decide +kernel
theorem dM_written_26 : decode cM_written 26 = .ok (.iload_n 2, 1) := by decide +kernel
theorem dM_written_27 : decode cM_written 27 = .ok (.iconst 1, 1) := by decide +kernel
theorem dM_written_28 : decode cM_written 28 = .ok (.iadd, 1) := by decide +kernel
theorem dM_written_29 : decode cM_written 29 = .ok (.iload_n 3, 1) := by decide +kernel
theorem dM_written_30 : decode cM_written 30 = .ok (.invokevirtual 150, 3) := by decide +kernel
theorem dM_written_33 : decode cM_written 33 = .ok (.istore 5, 2) := by decide +kernel
theorem dM_written_35 : decode cM_written 35 = .ok (.aload_n 0, 1) := by decide +kernel
theorem dM_written_36 : decode cM_written 36 = .ok (.bipush 32, 2) := by decide +kernel
theorem dM_written_38 : decode cM_written 38 = .ok (.invokevirtual 147, 3) := by decide +kernel
theorem dM_written_41 : decode cM_written 41 = .ok (.aload_n 0, 1) := by decide +kernel
theorem dM_written_42 : decode cM_written 42 = .ok (.iload_n 1, 1) := by decide +kernel
theorem dM_written_43 : decode cM_written 43 = .ok (.iload 5, 2) := by decide +kernel
theorem dM_written_45 : decode cM_written 45 = .ok (.iload_n 3, 1) := by decide +kernel
theorem dM_written_46 : decode cM_written 46 = .ok (.invokevirtual 150, 3) := by decide +kernel
theorem dM_written_49 : decode cM_written 49 = .ok (.istore 6, 2) := by decide +kernel
theorem dM_written_51 : decode cM_written 51 = .ok (.aload_n 0, 1) := by decide +kernel
theorem dM_written_52 : decode cM_written 52 = .ok (.bipush 41, 2) := by decide +kernel
theorem dM_written_54 : decode cM_written 54 = .ok (.invokevirtual 147, 3) := by decide +kernel
theorem dM_written_57 : decode cM_written 57 = .ok (.iload 6, 2) := by decide +kernel
theorem dM_written_59 : decode cM_written 59 = .ok (.ireturn, 1) := by decide +kernel
theorem dM_written_60 : decode cM_written 60 = .ok (.iload 4, 2) := by decide +kernel
theorem dM_written_62 : decode cM_written 62 = .ok (.sipush 2000, 3) := by decide +kernel
theorem dM_written_65 : decode cM_written 65 = .ok (.if_icmp .lt 33, 3) := by decide +kernel
theorem dM_written_68 : decode cM_written 68 = .ok (.aload_n 0, 1) := by decide +kernel
theorem dM_written_69 : decode cM_written 69 = .ok (.bipush 46, 2) := by decide +kernel
theorem dM_written_71 : decode cM_written 71 = .ok (.invokevirtual 147, 3) := by decide +kernel
theorem dM_written_74 : decode cM_written 74 = .ok (.aload_n 0, 1) := by decide +kernel
theorem dM_written_75 : decode cM_written 75 = .ok (.getfield 49, 3) := by decide +kernel
theorem dM_written_78 : decode cM_written 78 = .ok (.iload_n 3, 1) := by decide +kernel
theorem dM_written_79 : decode cM_written 79 = .ok (.iload 4, 2) := by decide +kernel
theorem dM_written_81 : decode cM_written 81 = .ok (.sipush 2000, 3) := by decide +kernel
theorem dM_written_84 : decode cM_written 84 = .ok (.isub, 1) := by decide +kernel
theorem dM_written_85 : decode cM_written 85 = .ok (.iastore, 1) := by decide +kernel
theorem dM_written_86 : decode cM_written 86 = .ok (.aload_n 0, 1) := by decide +kernel
theorem dM_written_87 : decode cM_written 87 = .ok (.iload_n 1, 1) := by decide +kernel
theorem dM_written_88 : decode cM_written 88 = .ok (.iload_n 2, 1) := by decide +kernel
theorem dM_written_89 : decode cM_written 89 = .ok (.iconst 1, 1) := by decide +kernel
theorem dM_written_90 : decode cM_written 90 = .ok (.iadd, 1) := by decide +kernel
theorem dM_written_91 : decode cM_written 91 = .ok (.iload_n 3, 1) := by decide +kernel
theorem dM_written_92 : decode cM_written 92 = .ok (.iconst 1, 1) := by decide +kernel
theorem dM_written_93 : decode cM_written 93 = .ok (.iadd, 1) := by decide +kernel
theorem dM_written_94 : decode cM_written 94 = .ok (.invokevirtual 150, 3) := by decide +kernel
theorem dM_written_97 : decode cM_written 97 = .ok (.ireturn, 1) := by decide +kernel
theorem dM_written_98 : decode cM_written 98 = .ok (.iload 4, 2) := by decide +kernel
theorem dM_written_100 : decode cM_written 100 = .ok (.ifCond .lt 37, 3) := by decide +kernel
theorem dM_written_103 : decode cM_written 103 = .ok (.iload 4, 2) := by decide +kernel
theorem dM_written_105 : decode cM_written 105 = .ok (.bipush 9, 2) := by decide +kernel
theorem dM_written_107 : decode cM_written 107 = .ok (.if_icmp .le 15, 3) := by decide +kernel
theorem dM_written_110 : decode cM_written 110 = .ok (.aload_n 0, 1) := by decide +kernel
theorem dM_written_111 : decode cM_written 111 = .ok (.bipush 48, 2) := by decide +kernel
theorem dM_written_113 : decode cM_written 113 = .ok (.iload 4, 2) := by decide +kernel
theorem dM_written_115 : decode cM_written 115 = .ok (.bipush 10, 2) := by decide +kernel
theorem dM_written_117 : decode cM_written 117 = .ok (.idiv, 1) := by decide +kernel
theorem dM_written_118 : decode cM_written 118 = .ok (.iadd, 1) := by decide +kernel
theorem dM_written_119 : decode cM_written 119 = .ok (.invokevirtual 147, 3) := by decide +kernel
theorem dM_written_122 : decode cM_written 122 = .ok (.aload_n 0, 1) := by decide +kernel
theorem dM_written_123 : decode cM_written 123 = .ok (.bipush 48, 2) := by decide +kernel
theorem dM_written_125 : decode cM_written 125 = .ok (.iload 4, 2) := by decide +kernel
theorem dM_written_127 : decode cM_written 127 = .ok (.bipush 10, 2) := by decide +kernel
theorem dM_written_129 : decode cM_written 129 = .ok (.irem, 1) := by decide +kernel
theorem dM_written_130 : decode cM_written 130 = .ok (.iadd, 1) := by decide +kernel
theorem dM_written_131 : decode cM_written 131 = .ok (.invokevirtual 147, 3) := by decide +kernel
theorem dM_written_134 : decode cM_written 134 = .ok (.goto 40, 3) := by decide +kernel
theorem dM_written_137 : decode cM_written 137 = .ok (.iload_n 3, 1) := by decide +kernel
theorem dM_written_138 : decode cM_written 138 = .ok (.iconst 1, 1) := by decide +kernel
theorem dM_written_139 : decode cM_written 139 = .ok (.isub, 1) := by decide +kernel
theorem dM_written_140 : decode cM_written 140 = .ok (.istore 5, 2) := by decide +kernel
theorem dM_written_142 : decode cM_written 142 = .ok (.aload_n 0, 1) := by decide +kernel
theorem dM_written_143 : decode cM_written 143 = .ok (.getfield 49, 3) := by decide +kernel
theorem dM_written_146 : decode cM_written 146 = .ok (.iload 5, 2) := by decide +kernel
theorem dM_written_148 : decode cM_written 148 = .ok (.iaload, 1) := by decide +kernel
theorem dM_written_149 : decode cM_written 149 = .ok (.iconst (-1), 1) := by decide +kernel
theorem dM_written_150 : decode cM_written 150 = .ok (.iload 4, 2) := by decide +kernel
theorem dM_written_152 : decode cM_written 152 = .ok (.isub, 1) := by decide +kernel
theorem dM_written_153 : decode cM_written 153 = .ok (.if_icmp .eq 15, 3) := by decide +kernel
theorem dM_written_156 : decode cM_written 156 = .ok (.aload_n 0, 1) := by decide +kernel
theorem dM_written_157 : decode cM_written 157 = .ok (.bipush 39, 2) := by decide +kernel
theorem dM_written_159 : decode cM_written 159 = .ok (.invokevirtual 147, 3) := by decide +kernel
theorem dM_written_162 : decode cM_written 162 = .ok (.iinc 5 (-1), 3) := by decide +kernel
theorem dM_written_165 : decode cM_written 165 = .ok (.goto (-23), 3) := by decide +kernel
theorem dM_written_168 : decode cM_written 168 = .ok (.aload_n 0, 1) := by decide +kernel
theorem dM_written_169 : decode cM_written 169 = .ok (.bipush 39, 2) := by decide +kernel
theorem dM_written_171 : decode cM_written 171 = .ok (.invokevirtual 147, 3) := by decide +kernel
theorem dM_written_174 : decode cM_written 174 = .ok (.iload_n 2, 1) := by decide +kernel
theorem dM_written_175 : decode cM_written 175 = .ok (.iconst 1, 1) := by decide +kernel
theorem dM_written_176 : decode cM_written 176 = .ok (.iadd, 1) := by decide +kernel
theorem dM_written_177 : decode cM_written 177 = .ok (.ireturn, 1) := by decide +kernel
theorem dM_write_0 : decode cM_write 0 = .ok (.aload_n 0, 1) := by decide +kernel
theorem dM_write_1 : decode cM_write 1 = .ok (.iload_n 1, 1) := by decide +kernel
theorem dM_write_2 : decode cM_write 2 = .ok (.invokevirtual 100, 3) := by decide +kernel
theorem dM_write_5 : decode cM_write 5 = .ok (.ifCond .eq 5, 3) := by decide +kernel
theorem dM_write_8 : decode cM_write 8 = .ok (.iconst 0, 1) := by decide +kernel
theorem dM_write_9 : decode cM_write 9 = .ok (.ireturn, 1) := by decide +kernel
theorem dM_write_10 : decode cM_write 10 = .ok (.aload_n 0, 1) := by decide +kernel
theorem dM_write_11 : decode cM_write 11 = .ok (.iconst 0, 1) := by decide +kernel
theorem dM_write_12 : decode cM_write 12 = .ok (.putfield 46, 3) := by decide +kernel
theorem dM_write_15 : decode cM_write 15 = .ok (.aload_n 0, 1) := by decide +kernel
theorem dM_write_16 : decode cM_write 16 = .ok (.iload_n 1, 1) := by decide +kernel
theorem dM_write_17 : decode cM_write 17 = .ok (.iconst 0, 1) := by decide +kernel
theorem dM_write_18 : decode cM_write 18 = .ok (.iconst 0, 1) := by decide +kernel
theorem dM_write_19 : decode cM_write 19 = .ok (.invokevirtual 150, 3) := by decide +kernel
theorem dM_write_22 : decode cM_write 22 = .ok (.pop, 1) := by decide +kernel
theorem dM_write_23 : decode cM_write 23 = .ok (.aload_n 0, 1) := by decide +kernel
theorem dM_write_24 : decode cM_write 24 = .ok (.getfield 46, 3) := by decide +kernel
theorem dM_write_27 : decode cM_write 27 = .ok (.ireturn, 1) := by decide +kernel
theorem dM_out_0 : decode cM_out 0 = .ok (.aload_n 0, 1) := by decide +kernel
theorem dM_out_1 : decode cM_out 1 = .ok (.iconst 0, 1) := by decide +kernel
theorem dM_out_2 : decode cM_out 2 = .ok (.putfield 7, 3) := by decide +kernel
theorem dM_out_5 : decode cM_out 5 = .ok (.aload_n 0, 1) := by decide +kernel
theorem dM_out_6 : decode cM_out 6 = .ok (.iconst 1, 1) := by decide +kernel
theorem dM_out_7 : decode cM_out 7 = .ok (.iload_n 1, 1) := by decide +kernel
theorem dM_out_8 : decode cM_out 8 = .ok (.ifCond .lt 11, 3) := by decide +kernel
theorem dM_out_11 : decode cM_out 11 = .ok (.iload_n 1, 1) := by decide +kernel
theorem dM_out_12 : decode cM_out 12 = .ok (.aload_n 0, 1) := by decide +kernel
theorem dM_out_13 : decode cM_out 13 = .ok (.getfield 46, 3) := by decide +kernel
theorem dM_out_16 : decode cM_out 16 = .ok (.if_icmp .lt 7, 3) := by decide +kernel
theorem dM_out_19 : decode cM_out 19 = .ok (.iconst 1, 1) := by decide +kernel
theorem dM_out_20 : decode cM_out 20 = .ok (.goto 4, 3) := by decide +kernel
theorem dM_out_23 : decode cM_out 23 = .ok (.iconst 0, 1) := by decide +kernel
theorem dM_out_24 : decode cM_out 24 = .ok (.invokevirtual 67, 3) := by decide +kernel
theorem dM_out_27 : decode cM_out 27 = .ok (.ifCond .eq 5, 3) := by decide +kernel
theorem dM_out_30 : decode cM_out 30 = .ok (.iconst 0, 1) := by decide +kernel
theorem dM_out_31 : decode cM_out 31 = .ok (.ireturn, 1) := by decide +kernel
theorem dM_out_32 : decode cM_out 32 = .ok (.aload_n 0, 1) := by decide +kernel
theorem dM_out_33 : decode cM_out 33 = .ok (.getfield 42, 3) := by decide +kernel
theorem dM_out_36 : decode cM_out 36 = .ok (.iload_n 1, 1) := by decide +kernel
theorem dM_out_37 : decode cM_out 37 = .ok (.baload, 1) := by decide +kernel
theorem dM_out_38 : decode cM_out 38 = .ok (.ireturn, 1) := by decide +kernel
