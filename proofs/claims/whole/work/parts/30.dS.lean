theorem dX_init_0 : decode cX_init 0 = .ok (.aload_n 0, 1) := by decide +kernel
theorem dX_init_1 : decode cX_init 1 = .ok (.invokespecial 3, 3) := by decide +kernel
theorem dX_init_4 : decode cX_init 4 = .ok (.aload_n 0, 1) := by decide +kernel
theorem dX_init_5 : decode cX_init 5 = .ok (.bipush 64, 2) := by decide +kernel
theorem dX_init_7 : decode cX_init 7 = .ok (.newarray .byte, 2) := by decide +kernel
theorem dX_init_9 : decode cX_init 9 = .ok (.putfield 9, 3) := by decide +kernel
theorem dX_init_12 : decode cX_init 12 = .ok (.aload_n 0, 1) := by decide +kernel
theorem dX_init_13 : decode cX_init 13 = .ok (.iconst 0, 1) := by decide +kernel
theorem dX_init_14 : decode cX_init 14 = .ok (.putfield 15, 3) := by decide +kernel
theorem dX_init_17 : decode cX_init 17 = .ok (.aload_n 0, 1) := by decide +kernel
theorem dX_init_18 : decode cX_init 18 = .ok (.new 19, 3) := by decide +kernel
theorem dX_init_21 : decode cX_init 21 = .ok (.dup, 1) := by decide +kernel
theorem dX_init_22 : decode cX_init 22 = .ok (.iconst 1, 1) := by decide +kernel
theorem dX_init_23 : decode cX_init 23 = .ok (.iconst 0, 1) := by decide +kernel
theorem dX_init_24 : decode cX_init 24 = .ok (.invokespecial 21, 3) := by decide +kernel
theorem dX_init_27 : decode cX_init 27 = .ok (.putfield 24, 3) := by decide +kernel
theorem dX_init_30 : decode cX_init 30 = .ok (.return_, 1) := by decide +kernel
theorem dX_show_0 : decode cX_show 0 = .ok (.aload_n 0, 1) := by decide +kernel
theorem dX_show_1 : decode cX_show 1 = .ok (.iconst 0, 1) := by decide +kernel
theorem dX_show_2 : decode cX_show 2 = .ok (.putfield 15, 3) := by decide +kernel
theorem dX_show_5 : decode cX_show 5 = .ok (.aload_n 0, 1) := by decide +kernel
theorem dX_show_6 : decode cX_show 6 = .ok (.getfield 24, 3) := by decide +kernel
theorem dX_show_9 : decode cX_show 9 = .ok (.invokevirtual 28, 3) := by decide +kernel
theorem dX_show_12 : decode cX_show 12 = .ok (.iconst 0, 1) := by decide +kernel
theorem dX_show_13 : decode cX_show 13 = .ok (.istore_n 2, 1) := by decide +kernel
theorem dX_show_14 : decode cX_show 14 = .ok (.iload_n 2, 1) := by decide +kernel
theorem dX_show_15 : decode cX_show 15 = .ok (.aload_n 1, 1) := by decide +kernel
theorem dX_show_16 : decode cX_show 16 = .ok (.getfield 31, 3) := by decide +kernel
theorem dX_show_19 : decode cX_show 19 = .ok (.if_icmp .ge 106, 3) := by decide +kernel
theorem dX_show_22 : decode cX_show 22 = .ok (.aload_n 1, 1) := by decide +kernel
theorem dX_show_23 : decode cX_show 23 = .ok (.getfield 36, 3) := by decide +kernel
theorem dX_show_26 : decode cX_show 26 = .ok (.iload_n 2, 1) := by decide +kernel
theorem dX_show_27 : decode cX_show 27 = .ok (.iaload, 1) := by decide +kernel
theorem dX_show_28 : decode cX_show 28 = .ok (.istore_n 3, 1) := by decide +kernel
theorem dX_show_29 : decode cX_show 29 = .ok (.aload_n 0, 1) := by decide +kernel
theorem dX_show_30 : decode cX_show 30 = .ok (.getfield 24, 3) := by decide +kernel
theorem dX_show_33 : decode cX_show 33 = .ok (.getfield 40, 3) := by decide +kernel
theorem dX_show_36 : decode cX_show 36 = .ok (.istore 4, 2) := by decide +kernel
theorem dX_show_38 : decode cX_show 38 = .ok (.aload_n 0, 1) := by decide +kernel
theorem dX_show_39 : decode cX_show 39 = .ok (.getfield 24, 3) := by decide +kernel
theorem dX_show_42 : decode cX_show 42 = .ok (.iload_n 3, 1) := by decide +kernel
theorem dX_show_43 : decode cX_show 43 = .ok (.invokevirtual 43, 3) := by decide +kernel
theorem dX_show_46 : decode cX_show 46 = .ok (.iload_n 3, 1) := by decide +kernel
theorem dX_show_47 : decode cX_show 47 = .ok (.iconst (-1), 1) := by decide +kernel
theorem dX_show_48 : decode cX_show 48 = .ok (.if_icmp .ne 13, 3) := by decide +kernel
theorem dX_show_51 : decode cX_show 51 = .ok (.aload_n 0, 1) := by decide +kernel
theorem dX_show_52 : decode cX_show 52 = .ok (.bipush 40, 2) := by decide +kernel
theorem dX_show_54 : decode cX_show 54 = .ok (.iconst 1, 1) := by decide +kernel
theorem dX_show_55 : decode cX_show 55 = .ok (.invokevirtual 47, 3) := by decide +kernel
theorem dX_show_58 : decode cX_show 58 = .ok (.goto 61, 3) := by decide +kernel
theorem dX_show_61 : decode cX_show 61 = .ok (.iload_n 3, 1) := by decide +kernel
theorem dX_show_62 : decode cX_show 62 = .ok (.bipush (-2), 2) := by decide +kernel
theorem dX_show_64 : decode cX_show 64 = .ok (.if_icmp .ne 13, 3) := by decide +kernel
theorem dX_show_67 : decode cX_show 67 = .ok (.aload_n 0, 1) := by decide +kernel
theorem dX_show_68 : decode cX_show 68 = .ok (.bipush 46, 2) := by decide +kernel
theorem dX_show_70 : decode cX_show 70 = .ok (.iconst 1, 1) := by decide +kernel
theorem dX_show_71 : decode cX_show 71 = .ok (.invokevirtual 47, 3) := by decide +kernel
theorem dX_show_74 : decode cX_show 74 = .ok (.goto 45, 3) := by decide +kernel
theorem dX_show_77 : decode cX_show 77 = .ok (.aload_n 0, 1) := by decide +kernel
theorem dX_show_78 : decode cX_show 78 = .ok (.iload_n 3, 1) := by decide +kernel
theorem dX_show_79 : decode cX_show 79 = .ok (.invokevirtual 51, 3) := by decide +kernel
theorem dX_show_82 : decode cX_show 82 = .ok (.aload_n 0, 1) := by decide +kernel
theorem dX_show_83 : decode cX_show 83 = .ok (.bipush 41, 2) := by decide +kernel
theorem dX_show_85 : decode cX_show 85 = .ok (.iload 4, 2) := by decide +kernel
theorem dX_show_87 : decode cX_show 87 = .ok (.aload_n 0, 1) := by decide +kernel
theorem dX_show_88 : decode cX_show 88 = .ok (.getfield 24, 3) := by decide +kernel
theorem dX_show_91 : decode cX_show 91 = .ok (.getfield 40, 3) := by decide +kernel
theorem dX_show_94 : decode cX_show 94 = .ok (.isub, 1) := by decide +kernel
theorem dX_show_95 : decode cX_show 95 = .ok (.invokevirtual 47, 3) := by decide +kernel
theorem dX_show_98 : decode cX_show 98 = .ok (.aload_n 0, 1) := by decide +kernel
theorem dX_show_99 : decode cX_show 99 = .ok (.bipush 32, 2) := by decide +kernel
theorem dX_show_101 : decode cX_show 101 = .ok (.iload_n 2, 1) := by decide +kernel
theorem dX_show_102 : decode cX_show 102 = .ok (.iconst 1, 1) := by decide +kernel
theorem dX_show_103 : decode cX_show 103 = .ok (.iadd, 1) := by decide +kernel
theorem dX_show_104 : decode cX_show 104 = .ok (.aload_n 1, 1) := by decide +kernel
theorem dX_show_105 : decode cX_show 105 = .ok (.getfield 31, 3) := by decide +kernel
theorem dX_show_108 : decode cX_show 108 = .ok (.if_icmp .ge 7, 3) := by decide +kernel
theorem dX_show_111 : decode cX_show 111 = .ok (.iconst 1, 1) := by decide +kernel
theorem dX_show_112 : decode cX_show 112 = .ok (.goto 4, 3) := by decide +kernel
theorem dX_show_115 : decode cX_show 115 = .ok (.iconst 0, 1) := by decide +kernel
theorem dX_show_116 : decode cX_show 116 = .ok (.invokevirtual 47, 3) := by decide +kernel
theorem dX_show_119 : decode cX_show 119 = .ok (.iinc 2 1, 3) := by decide +kernel
theorem dX_show_122 : decode cX_show 122 = .ok (.goto (-108), 3) := by decide +kernel
theorem dX_show_125 : decode cX_show 125 = .ok (.aload_n 0, 1) := by decide +kernel
theorem dX_show_126 : decode cX_show 126 = .ok (.getfield 15, 3) := by decide +kernel
theorem dX_show_129 : decode cX_show 129 = .ok (.ireturn, 1) := by decide +kernel
theorem dX_addLeaf_0 : decode cX_addLeaf 0 = .ok (.iload_n 1, 1) := by decide +kernel
theorem dX_addLeaf_1 : decode cX_addLeaf 1 = .ok (.bipush 99, 2) := by decide +kernel
theorem dX_addLeaf_3 : decode cX_addLeaf 3 = .ok (.if_icmp .le 14, 3) := by decide +kernel
theorem dX_addLeaf_6 : decode cX_addLeaf 6 = .ok (.aload_n 0, 1) := by decide +kernel
theorem dX_addLeaf_7 : decode cX_addLeaf 7 = .ok (.bipush 39, 2) := by decide +kernel
theorem dX_addLeaf_9 : decode cX_addLeaf 9 = .ok (.iload_n 1, 1) := by decide +kernel
theorem dX_addLeaf_10 : decode cX_addLeaf 10 = .ok (.bipush 99, 2) := by decide +kernel
theorem dX_addLeaf_12 : decode cX_addLeaf 12 = .ok (.isub, 1) := by decide +kernel
theorem dX_addLeaf_13 : decode cX_addLeaf 13 = .ok (.invokevirtual 47, 3) := by decide +kernel
theorem dX_addLeaf_16 : decode cX_addLeaf 16 = .ok (.return_, 1) := by decide +kernel
theorem dX_addLeaf_17 : decode cX_addLeaf 17 = .ok (.iload_n 1, 1) := by decide +kernel
theorem dX_addLeaf_18 : decode cX_addLeaf 18 = .ok (.bipush 10, 2) := by decide +kernel
theorem dX_addLeaf_20 : decode cX_addLeaf 20 = .ok (.if_icmp .lt 16, 3) := by decide +kernel
theorem dX_addLeaf_23 : decode cX_addLeaf 23 = .ok (.aload_n 0, 1) := by decide +kernel
theorem dX_addLeaf_24 : decode cX_addLeaf 24 = .ok (.bipush 48, 2) := by decide +kernel
theorem dX_addLeaf_26 : decode cX_addLeaf 26 = .ok (.iload_n 1, 1) := by decide +kernel
theorem dX_addLeaf_27 : decode cX_addLeaf 27 = .ok (.bipush 10, 2) := by decide +kernel
theorem dX_addLeaf_29 : decode cX_addLeaf 29 = .ok (.idiv, 1) := by decide +kernel
theorem dX_addLeaf_30 : decode cX_addLeaf 30 = .ok (.iadd, 1) := by decide +kernel
theorem dX_addLeaf_31 : decode cX_addLeaf 31 = .ok (.i2c, 1) := by decide +kernel
theorem dX_addLeaf_32 : decode cX_addLeaf 32 = .ok (.iconst 1, 1) := by decide +kernel
theorem dX_addLeaf_33 : decode cX_addLeaf 33 = .ok (.invokevirtual 47, 3) := by decide +kernel
theorem dX_addLeaf_36 : decode cX_addLeaf 36 = .ok (.aload_n 0, 1) := by decide +kernel
theorem dX_addLeaf_37 : decode cX_addLeaf 37 = .ok (.bipush 48, 2) := by decide +kernel
theorem dX_addLeaf_39 : decode cX_addLeaf 39 = .ok (.iload_n 1, 1) := by decide +kernel
theorem dX_addLeaf_40 : decode cX_addLeaf 40 = .ok (.bipush 10, 2) := by decide +kernel
theorem dX_addLeaf_42 : decode cX_addLeaf 42 = .ok (.irem, 1) := by decide +kernel
theorem dX_addLeaf_43 : decode cX_addLeaf 43 = .ok (.iadd, 1) := by decide +kernel
theorem dX_addLeaf_44 : decode cX_addLeaf 44 = .ok (.i2c, 1) := by decide +kernel
theorem dX_addLeaf_45 : decode cX_addLeaf 45 = .ok (.iconst 1, 1) := by decide +kernel
theorem dX_addLeaf_46 : decode cX_addLeaf 46 = .ok (.invokevirtual 47, 3) := by decide +kernel
theorem dX_addLeaf_49 : decode cX_addLeaf 49 = .ok (.return_, 1) := by decide +kernel
theorem dX_add_0 : decode cX_add 0 = .ok (.iload_n 2, 1) := by decide +kernel
theorem dX_add_1 : decode cX_add 1 = .ok (.aload_n 0, 1) := by decide +kernel
theorem dX_add_2 : decode cX_add 2 = .ok (.getfield 9, 3) := by decide +kernel
theorem dX_add_5 : decode cX_add 5 = .ok (.arraylength, 1) := by decide +kernel
theorem dX_add_6 : decode cX_add 6 = .ok (.aload_n 0, 1) := by decide +kernel
theorem dX_add_7 : decode cX_add 7 = .ok (.getfield 15, 3) := by decide +kernel
theorem dX_add_10 : decode cX_add 10 = .ok (.isub, 1) := by decide +kernel
theorem dX_add_11 : decode cX_add 11 = .ok (.if_icmp .le 23, 3) := by decide +kernel
theorem dX_add_14 : decode cX_add 14 = .ok (.aload_n 0, 1) := by decide +kernel
theorem dX_add_15 : decode cX_add 15 = .ok (.aload_n 0, 1) := by decide +kernel
theorem dX_add_16 : decode cX_add 16 = .ok (.getfield 9, 3) := by decide +kernel
theorem dX_add_19 : decode cX_add 19 = .ok (.iconst 2, 1) := by decide +kernel
theorem dX_add_20 : decode cX_add 20 = .ok (.aload_n 0, 1) := by decide +kernel
theorem dX_add_21 : decode cX_add 21 = .ok (.getfield 9, 3) := by decide +kernel
theorem dX_add_24 : decode cX_add 24 = .ok (.arraylength, 1) := by decide +kernel
theorem dX_add_25 : decode cX_add 25 = .ok (.imul, 1) := by decide +kernel
theorem dX_add_26 : decode cX_add 26 = .ok (.iload_n 2, 1) := by decide +kernel
theorem dX_add_27 : decode cX_add 27 = .ok (.iadd, 1) := by decide +kernel
theorem dX_add_28 : decode cX_add 28 = .ok (.invokestatic 54, 3) := by decide +kernel
theorem dX_add_31 : decode cX_add 31 = .ok (.putfield 9, 3) := by decide +kernel
theorem dX_add_34 : decode cX_add 34 = .ok (.iconst 0, 1) := by decide +kernel
theorem dX_add_35 : decode cX_add 35 = .ok (.istore_n 3, 1) := by decide +kernel
theorem dX_add_36 : decode cX_add 36 = .ok (.iload_n 3, 1) := by decide +kernel
theorem dX_add_37 : decode cX_add 37 = .ok (.iload_n 2, 1) := by decide +kernel
theorem dX_add_38 : decode cX_add 38 = .ok (.if_icmp .ge 30, 3) := by decide +kernel
theorem dX_add_41 : decode cX_add 41 = .ok (.aload_n 0, 1) := by decide +kernel
theorem dX_add_42 : decode cX_add 42 = .ok (.getfield 9, 3) := by decide +kernel
theorem dX_add_45 : decode cX_add 45 = .ok (.aload_n 0, 1) := by decide +kernel
theorem dX_add_46 : decode cX_add 46 = .ok (.getfield 15, 3) := by decide +kernel
theorem dX_add_49 : decode cX_add 49 = .ok (.iload_n 1, 1) := by decide +kernel
theorem dX_add_50 : decode cX_add 50 = .ok (.i2b, 1) := by decide +kernel
theorem dX_add_51 : decode cX_add 51 = .ok (.bastore, 1) := by decide +kernel
theorem dX_add_52 : decode cX_add 52 = .ok (.aload_n 0, 1) := by decide +kernel
theorem dX_add_53 : decode cX_add 53 = .ok (.dup, 1) := by decide +kernel
theorem dX_add_54 : decode cX_add 54 = .ok (.getfield 15, 3) := by decide +kernel
theorem dX_add_57 : decode cX_add 57 = .ok (.iconst 1, 1) := by decide +kernel
theorem dX_add_58 : decode cX_add 58 = .ok (.iadd, 1) := by decide +kernel
theorem dX_add_59 : decode cX_add 59 = .ok (.putfield 15, 3) := by decide +kernel
theorem dX_add_62 : decode cX_add 62 = .ok (.iinc 3 1, 3) := by decide +kernel
theorem dX_add_65 : decode cX_add 65 = .ok (.goto (-29), 3) := by decide +kernel
theorem dX_add_68 : decode cX_add 68 = .ok (.return_, 1) := by decide +kernel
theorem dS_init_0 : decode cS_init 0 = .ok (.aload_n 0, 1) := by decide +kernel
theorem dS_init_1 : decode cS_init 1 = .ok (.invokespecial 3, 3) := by decide +kernel
theorem dS_init_4 : decode cS_init 4 = .ok (.aload_n 0, 1) := by decide +kernel
theorem dS_init_5 : decode cS_init 5 = .ok (.new 9, 3) := by decide +kernel
theorem dS_init_8 : decode cS_init 8 = .ok (.dup, 1) := by decide +kernel
theorem dS_init_9 : decode cS_init 9 = .ok (.sipush 2000, 3) := by decide +kernel
theorem dS_init_12 : decode cS_init 12 = .ok (.invokespecial 11, 3) := by decide +kernel
theorem dS_init_15 : decode cS_init 15 = .ok (.putfield 14, 3) := by decide +kernel
theorem dS_init_18 : decode cS_init 18 = .ok (.aload_n 0, 1) := by decide +kernel
theorem dS_init_19 : decode cS_init 19 = .ok (.new 9, 3) := by decide +kernel
theorem dS_init_22 : decode cS_init 22 = .ok (.dup, 1) := by decide +kernel
theorem dS_init_23 : decode cS_init 23 = .ok (.sipush 2000, 3) := by decide +kernel
theorem dS_init_26 : decode cS_init 26 = .ok (.invokespecial 11, 3) := by decide +kernel
theorem dS_init_29 : decode cS_init 29 = .ok (.putfield 20, 3) := by decide +kernel
theorem dS_init_32 : decode cS_init 32 = .ok (.aload_n 0, 1) := by decide +kernel
theorem dS_init_33 : decode cS_init 33 = .ok (.new 23, 3) := by decide +kernel
theorem dS_init_36 : decode cS_init 36 = .ok (.dup, 1) := by decide +kernel
theorem dS_init_37 : decode cS_init 37 = .ok (.iconst 1, 1) := by decide +kernel
theorem dS_init_38 : decode cS_init 38 = .ok (.iconst 1, 1) := by decide +kernel
theorem dS_init_39 : decode cS_init 39 = .ok (.invokespecial 25, 3) := by decide +kernel
theorem dS_init_42 : decode cS_init 42 = .ok (.putfield 28, 3) := by decide +kernel
theorem dS_init_45 : decode cS_init 45 = .ok (.aload_n 0, 1) := by decide +kernel
theorem dS_init_46 : decode cS_init 46 = .ok (.new 23, 3) := by decide +kernel
theorem dS_init_49 : decode cS_init 49 = .ok (.dup, 1) := by decide +kernel
theorem dS_init_50 : decode cS_init 50 = .ok (.iconst 0, 1) := by decide +kernel
theorem dS_init_51 : decode cS_init 51 = .ok (.iconst 1, 1) := by decide +kernel
theorem dS_init_52 : decode cS_init 52 = .ok (.invokespecial 25, 3) := by decide +kernel
theorem dS_init_55 : decode cS_init 55 = .ok (.putfield 32, 3) := by decide +kernel
theorem dS_init_58 : decode cS_init 58 = .ok (.aload_n 0, 1) := by decide +kernel
theorem dS_init_59 : decode cS_init 59 = .ok (.new 23, 3) := by decide +kernel
theorem dS_init_62 : decode cS_init 62 = .ok (.dup, 1) := by decide +kernel
theorem dS_init_63 : decode cS_init 63 = .ok (.iconst 0, 1) := by decide +kernel
theorem dS_init_64 : decode cS_init 64 = .ok (.iconst 1, 1) := by decide +kernel
theorem dS_init_65 : decode cS_init 65 = .ok (.invokespecial 25, 3) := by decide +kernel
theorem dS_init_68 : decode cS_init 68 = .ok (.putfield 35, 3) := by decide +kernel
theorem dS_init_71 : decode cS_init 71 = .ok (.return_, 1) := by decide +kernel
theorem dS_join_0 : decode cS_join 0 = .ok (.aload_n 0, 1) := by decide +kernel
theorem dS_join_1 : decode cS_join 1 = .ok (.getfield 14, 3) := by decide +kernel
theorem dS_join_4 : decode cS_join 4 = .ok (.invokevirtual 38, 3) := by decide +kernel
theorem dS_join_7 : decode cS_join 7 = .ok (.aload_n 0, 1) := by decide +kernel
theorem dS_join_8 : decode cS_join 8 = .ok (.getfield 14, 3) := by decide +kernel
theorem dS_join_11 : decode cS_join 11 = .ok (.iconst (-1), 1) := by decide +kernel
theorem dS_join_12 : decode cS_join 12 = .ok (.invokevirtual 41, 3) := by decide +kernel
theorem dS_join_15 : decode cS_join 15 = .ok (.aload_n 0, 1) := by decide +kernel
theorem dS_join_16 : decode cS_join 16 = .ok (.getfield 14, 3) := by decide +kernel
theorem dS_join_19 : decode cS_join 19 = .ok (.aload_n 1, 1) := by decide +kernel
theorem dS_join_20 : decode cS_join 20 = .ok (.iconst 0, 1) := by decide +kernel
theorem dS_join_21 : decode cS_join 21 = .ok (.aload_n 1, 1) := by decide +kernel
theorem dS_join_22 : decode cS_join 22 = .ok (.getfield 44, 3) := by decide +kernel
theorem dS_join_25 : decode cS_join 25 = .ok (.invokevirtual 48, 3) := by decide +kernel
theorem dS_join_28 : decode cS_join 28 = .ok (.aload_n 0, 1) := by decide +kernel
theorem dS_join_29 : decode cS_join 29 = .ok (.getfield 14, 3) := by decide +kernel
theorem dS_join_32 : decode cS_join 32 = .ok (.aload_n 2, 1) := by decide +kernel
theorem dS_join_33 : decode cS_join 33 = .ok (.iconst 0, 1) := by decide +kernel
theorem dS_join_34 : decode cS_join 34 = .ok (.aload_n 2, 1) := by decide +kernel
theorem dS_join_35 : decode cS_join 35 = .ok (.getfield 44, 3) := by decide +kernel
theorem dS_join_38 : decode cS_join 38 = .ok (.invokevirtual 48, 3) := by decide +kernel
theorem dS_join_41 : decode cS_join 41 = .ok (.aload_n 0, 1) := by decide +kernel
theorem dS_join_42 : decode cS_join 42 = .ok (.invokevirtual 52, 3) := by decide +kernel
theorem dS_join_45 : decode cS_join 45 = .ok (.areturn, 1) := by decide +kernel
theorem dS_close_0 : decode cS_close 0 = .ok (.aload_n 0, 1) := by decide +kernel
theorem dS_close_1 : decode cS_close 1 = .ok (.getfield 14, 3) := by decide +kernel
theorem dS_close_4 : decode cS_close 4 = .ok (.invokevirtual 38, 3) := by decide +kernel
theorem dS_close_7 : decode cS_close 7 = .ok (.aload_n 0, 1) := by decide +kernel
theorem dS_close_8 : decode cS_close 8 = .ok (.getfield 14, 3) := by decide +kernel
theorem dS_close_11 : decode cS_close 11 = .ok (.bipush (-2), 2) := by decide +kernel
theorem dS_close_13 : decode cS_close 13 = .ok (.invokevirtual 41, 3) := by decide +kernel
theorem dS_close_16 : decode cS_close 16 = .ok (.aload_n 0, 1) := by decide +kernel
theorem dS_close_17 : decode cS_close 17 = .ok (.getfield 32, 3) := by decide +kernel
theorem dS_close_20 : decode cS_close 20 = .ok (.invokevirtual 56, 3) := by decide +kernel
theorem dS_close_23 : decode cS_close 23 = .ok (.iconst 0, 1) := by decide +kernel
theorem dS_close_24 : decode cS_close 24 = .ok (.istore_n 3, 1) := by decide +kernel
theorem dS_close_25 : decode cS_close 25 = .ok (.iload_n 3, 1) := by decide +kernel
theorem dS_close_26 : decode cS_close 26 = .ok (.aload_n 1, 1) := by decide +kernel
theorem dS_close_27 : decode cS_close 27 = .ok (.getfield 44, 3) := by decide +kernel
theorem dS_close_30 : decode cS_close 30 = .ok (.if_icmp .ge 54, 3) := by decide +kernel
theorem dS_close_33 : decode cS_close 33 = .ok (.aload_n 1, 1) := by decide +kernel
theorem dS_close_34 : decode cS_close 34 = .ok (.getfield 59, 3) := by decide +kernel
theorem dS_close_37 : decode cS_close 37 = .ok (.iload_n 3, 1) := by decide +kernel
theorem dS_close_38 : decode cS_close 38 = .ok (.iaload, 1) := by decide +kernel
theorem dS_close_39 : decode cS_close 39 = .ok (.istore 4, 2) := by decide +kernel
theorem dS_close_41 : decode cS_close 41 = .ok (.aload_n 0, 1) := by decide +kernel
theorem dS_close_42 : decode cS_close 42 = .ok (.getfield 14, 3) := by decide +kernel
theorem dS_close_45 : decode cS_close 45 = .ok (.iload 4, 2) := by decide +kernel
theorem dS_close_47 : decode cS_close 47 = .ok (.iload_n 2, 1) := by decide +kernel
theorem dS_close_48 : decode cS_close 48 = .ok (.if_icmp .ne 16, 3) := by decide +kernel
theorem dS_close_51 : decode cS_close 51 = .ok (.bipush 100, 2) := by decide +kernel
theorem dS_close_53 : decode cS_close 53 = .ok (.aload_n 0, 1) := by decide +kernel
theorem dS_close_54 : decode cS_close 54 = .ok (.getfield 32, 3) := by decide +kernel
theorem dS_close_57 : decode cS_close 57 = .ok (.getfield 63, 3) := by decide +kernel
theorem dS_close_60 : decode cS_close 60 = .ok (.iadd, 1) := by decide +kernel
theorem dS_close_61 : decode cS_close 61 = .ok (.goto 5, 3) := by decide +kernel
theorem dS_close_64 : decode cS_close 64 = .ok (.iload 4, 2) := by decide +kernel
theorem dS_close_66 : decode cS_close 66 = .ok (.invokevirtual 41, 3) := by decide +kernel
theorem dS_close_69 : decode cS_close 69 = .ok (.aload_n 0, 1) := by decide +kernel
theorem dS_close_70 : decode cS_close 70 = .ok (.getfield 32, 3) := by decide +kernel
theorem dS_close_73 : decode cS_close 73 = .ok (.iload 4, 2) := by decide +kernel
theorem dS_close_75 : decode cS_close 75 = .ok (.invokevirtual 66, 3) := by decide +kernel
theorem dS_close_78 : decode cS_close 78 = .ok (.iinc 3 1, 3) := by decide +kernel
theorem dS_close_81 : decode cS_close 81 = .ok (.goto (-56), 3) := by decide +kernel
theorem dS_close_84 : decode cS_close 84 = .ok (.aload_n 0, 1) := by decide +kernel
theorem dS_close_85 : decode cS_close 85 = .ok (.invokevirtual 52, 3) := by decide +kernel
theorem dS_close_88 : decode cS_close 88 = .ok (.areturn, 1) := by decide +kernel
theorem dS_replace_0 : decode cS_replace 0 = .ok (.aload_n 0, 1) := by decide +kernel
theorem dS_replace_1 : decode cS_replace 1 = .ok (.getfield 14, 3) := by decide +kernel
theorem dS_replace_4 : decode cS_replace 4 = .ok (.invokevirtual 38, 3) := by decide +kernel
theorem dS_replace_7 : decode cS_replace 7 = .ok (.iconst 0, 1) := by decide +kernel
theorem dS_replace_8 : decode cS_replace 8 = .ok (.istore 4, 2) := by decide +kernel
theorem dS_replace_10 : decode cS_replace 10 = .ok (.iload 4, 2) := by decide +kernel
theorem dS_replace_12 : decode cS_replace 12 = .ok (.aload_n 1, 1) := by decide +kernel
theorem dS_replace_13 : decode cS_replace 13 = .ok (.getfield 44, 3) := by decide +kernel
theorem dS_replace_16 : decode cS_replace 16 = .ok (.if_icmp .ge 50, 3) := by decide +kernel
theorem dS_replace_19 : decode cS_replace 19 = .ok (.aload_n 1, 1) := by decide +kernel
theorem dS_replace_20 : decode cS_replace 20 = .ok (.getfield 59, 3) := by decide +kernel
theorem dS_replace_23 : decode cS_replace 23 = .ok (.iload 4, 2) := by decide +kernel
theorem dS_replace_25 : decode cS_replace 25 = .ok (.iaload, 1) := by decide +kernel
theorem dS_replace_26 : decode cS_replace 26 = .ok (.iload_n 2, 1) := by decide +kernel
theorem dS_replace_27 : decode cS_replace 27 = .ok (.if_icmp .ne 19, 3) := by decide +kernel
theorem dS_replace_30 : decode cS_replace 30 = .ok (.aload_n 0, 1) := by decide +kernel
theorem dS_replace_31 : decode cS_replace 31 = .ok (.getfield 14, 3) := by decide +kernel
theorem dS_replace_34 : decode cS_replace 34 = .ok (.aload_n 3, 1) := by decide +kernel
theorem dS_replace_35 : decode cS_replace 35 = .ok (.iconst 0, 1) := by decide +kernel
theorem dS_replace_36 : decode cS_replace 36 = .ok (.aload_n 3, 1) := by decide +kernel
theorem dS_replace_37 : decode cS_replace 37 = .ok (.getfield 44, 3) := by decide +kernel
theorem dS_replace_40 : decode cS_replace 40 = .ok (.invokevirtual 48, 3) := by decide +kernel
theorem dS_replace_43 : decode cS_replace 43 = .ok (.goto 17, 3) := by decide +kernel
theorem dS_replace_46 : decode cS_replace 46 = .ok (.aload_n 0, 1) := by decide +kernel
theorem dS_replace_47 : decode cS_replace 47 = .ok (.getfield 14, 3) := by decide +kernel
theorem dS_replace_50 : decode cS_replace 50 = .ok (.aload_n 1, 1) := by decide +kernel
theorem dS_replace_51 : decode cS_replace 51 = .ok (.getfield 59, 3) := by decide +kernel
theorem dS_replace_54 : decode cS_replace 54 = .ok (.iload 4, 2) := by decide +kernel
theorem dS_replace_56 : decode cS_replace 56 = .ok (.iaload, 1) := by decide +kernel
theorem dS_replace_57 : decode cS_replace 57 = .ok (.invokevirtual 41, 3) := by decide +kernel
theorem dS_replace_60 : decode cS_replace 60 = .ok (.iinc 4 1, 3) := by decide +kernel
theorem dS_replace_63 : decode cS_replace 63 = .ok (.goto (-53), 3) := by decide +kernel
theorem dS_replace_66 : decode cS_replace 66 = .ok (.aload_n 0, 1) := by decide +kernel
theorem dS_replace_67 : decode cS_replace 67 = .ok (.invokevirtual 52, 3) := by decide +kernel
theorem dS_replace_70 : decode cS_replace 70 = .ok (.areturn, 1) := by decide +kernel
theorem dS_fill_0 : decode cS_fill 0 = .ok (.aload_n 0, 1) := by decide +kernel
theorem dS_fill_1 : decode cS_fill 1 = .ok (.getfield 14, 3) := by decide +kernel
theorem dS_fill_4 : decode cS_fill 4 = .ok (.invokevirtual 38, 3) := by decide +kernel
theorem dS_fill_7 : decode cS_fill 7 = .ok (.aload_n 0, 1) := by decide +kernel
theorem dS_fill_8 : decode cS_fill 8 = .ok (.aload_n 1, 1) := by decide +kernel
theorem dS_fill_9 : decode cS_fill 9 = .ok (.iconst 1, 1) := by decide +kernel
theorem dS_fill_10 : decode cS_fill 10 = .ok (.aload_n 1, 1) := by decide +kernel
theorem dS_fill_11 : decode cS_fill 11 = .ok (.getfield 44, 3) := by decide +kernel
theorem dS_fill_14 : decode cS_fill 14 = .ok (.aload_n 2, 1) := by decide +kernel
theorem dS_fill_15 : decode cS_fill 15 = .ok (.iconst 0, 1) := by decide +kernel
theorem dS_fill_16 : decode cS_fill 16 = .ok (.aload_n 2, 1) := by decide +kernel
theorem dS_fill_17 : decode cS_fill 17 = .ok (.getfield 44, 3) := by decide +kernel
theorem dS_fill_20 : decode cS_fill 20 = .ok (.invokevirtual 69, 3) := by decide +kernel
theorem dS_fill_23 : decode cS_fill 23 = .ok (.aload_n 0, 1) := by decide +kernel
theorem dS_fill_24 : decode cS_fill 24 = .ok (.invokevirtual 52, 3) := by decide +kernel
theorem dS_fill_27 : decode cS_fill 27 = .ok (.areturn, 1) := by decide +kernel
theorem dS_cut_0 : decode cS_cut 0 = .ok (.aload_n 1, 1) := by decide +kernel
theorem dS_cut_1 : decode cS_cut 1 = .ok (.iconst 1, 1) := by decide +kernel
theorem dS_cut_2 : decode cS_cut 2 = .ok (.invokevirtual 73, 3) := by decide +kernel
theorem dS_cut_5 : decode cS_cut 5 = .ok (.istore_n 3, 1) := by decide +kernel
theorem dS_cut_6 : decode cS_cut 6 = .ok (.aload_n 0, 1) := by decide +kernel
theorem dS_cut_7 : decode cS_cut 7 = .ok (.getfield 14, 3) := by decide +kernel
theorem dS_cut_10 : decode cS_cut 10 = .ok (.invokevirtual 38, 3) := by decide +kernel
theorem dS_cut_13 : decode cS_cut 13 = .ok (.iload_n 2, 1) := by decide +kernel
theorem dS_cut_14 : decode cS_cut 14 = .ok (.ifCond .eq 19, 3) := by decide +kernel
theorem dS_cut_17 : decode cS_cut 17 = .ok (.aload_n 0, 1) := by decide +kernel
theorem dS_cut_18 : decode cS_cut 18 = .ok (.getfield 14, 3) := by decide +kernel
theorem dS_cut_21 : decode cS_cut 21 = .ok (.aload_n 1, 1) := by decide +kernel
theorem dS_cut_22 : decode cS_cut 22 = .ok (.iload_n 3, 1) := by decide +kernel
theorem dS_cut_23 : decode cS_cut 23 = .ok (.aload_n 1, 1) := by decide +kernel
theorem dS_cut_24 : decode cS_cut 24 = .ok (.getfield 44, 3) := by decide +kernel
theorem dS_cut_27 : decode cS_cut 27 = .ok (.invokevirtual 48, 3) := by decide +kernel
theorem dS_cut_30 : decode cS_cut 30 = .ok (.goto 13, 3) := by decide +kernel
theorem dS_cut_33 : decode cS_cut 33 = .ok (.aload_n 0, 1) := by decide +kernel
theorem dS_cut_34 : decode cS_cut 34 = .ok (.getfield 14, 3) := by decide +kernel
theorem dS_cut_37 : decode cS_cut 37 = .ok (.aload_n 1, 1) := by decide +kernel
theorem dS_cut_38 : decode cS_cut 38 = .ok (.iconst 1, 1) := by decide +kernel
theorem dS_cut_39 : decode cS_cut 39 = .ok (.iload_n 3, 1) := by decide +kernel
theorem dS_cut_40 : decode cS_cut 40 = .ok (.invokevirtual 48, 3) := by decide +kernel
theorem dS_cut_43 : decode cS_cut 43 = .ok (.aload_n 0, 1) := by decide +kernel
theorem dS_cut_44 : decode cS_cut 44 = .ok (.getfield 14, 3) := by decide +kernel
theorem dS_cut_47 : decode cS_cut 47 = .ok (.areturn, 1) := by decide +kernel
theorem dS_contract_0 : decode cS_contract 0 = .ok (.aload_n 1, 1) := by decide +kernel
theorem dS_contract_1 : decode cS_contract 1 = .ok (.iload_n 2, 1) := by decide +kernel
theorem dS_contract_2 : decode cS_contract 2 = .ok (.iconst 1, 1) := by decide +kernel
theorem dS_contract_3 : decode cS_contract 3 = .ok (.iadd, 1) := by decide +kernel
theorem dS_contract_4 : decode cS_contract 4 = .ok (.invokevirtual 73, 3) := by decide +kernel
theorem dS_contract_7 : decode cS_contract 7 = .ok (.istore_n 3, 1) := by decide +kernel
theorem dS_contract_8 : decode cS_contract 8 = .ok (.aload_n 1, 1) := by decide +kernel
theorem dS_contract_9 : decode cS_contract 9 = .ok (.iload_n 3, 1) := by decide +kernel
theorem dS_contract_10 : decode cS_contract 10 = .ok (.invokevirtual 73, 3) := by decide +kernel
theorem dS_contract_13 : decode cS_contract 13 = .ok (.istore 4, 2) := by decide +kernel
theorem dS_contract_15 : decode cS_contract 15 = .ok (.aload_n 0, 1) := by decide +kernel
theorem dS_contract_16 : decode cS_contract 16 = .ok (.getfield 14, 3) := by decide +kernel
theorem dS_contract_19 : decode cS_contract 19 = .ok (.invokevirtual 38, 3) := by decide +kernel
theorem dS_contract_22 : decode cS_contract 22 = .ok (.aload_n 0, 1) := by decide +kernel
theorem dS_contract_23 : decode cS_contract 23 = .ok (.getfield 14, 3) := by decide +kernel
theorem dS_contract_26 : decode cS_contract 26 = .ok (.aload_n 1, 1) := by decide +kernel
theorem dS_contract_27 : decode cS_contract 27 = .ok (.iconst 0, 1) := by decide +kernel
theorem dS_contract_28 : decode cS_contract 28 = .ok (.iload_n 2, 1) := by decide +kernel
theorem dS_contract_29 : decode cS_contract 29 = .ok (.invokevirtual 48, 3) := by decide +kernel
theorem dS_contract_32 : decode cS_contract 32 = .ok (.aload_n 0, 1) := by decide +kernel
theorem dS_contract_33 : decode cS_contract 33 = .ok (.aload_n 1, 1) := by decide +kernel
theorem dS_contract_34 : decode cS_contract 34 = .ok (.iload_n 2, 1) := by decide +kernel
theorem dS_contract_35 : decode cS_contract 35 = .ok (.iconst 2, 1) := by decide +kernel
theorem dS_contract_36 : decode cS_contract 36 = .ok (.iadd, 1) := by decide +kernel
theorem dS_contract_37 : decode cS_contract 37 = .ok (.iload_n 3, 1) := by decide +kernel
theorem dS_contract_38 : decode cS_contract 38 = .ok (.aload_n 1, 1) := by decide +kernel
theorem dS_contract_39 : decode cS_contract 39 = .ok (.iload_n 3, 1) := by decide +kernel
theorem dS_contract_40 : decode cS_contract 40 = .ok (.iload 4, 2) := by decide +kernel
theorem dS_contract_42 : decode cS_contract 42 = .ok (.invokevirtual 69, 3) := by decide +kernel
theorem dS_contract_45 : decode cS_contract 45 = .ok (.aload_n 0, 1) := by decide +kernel
theorem dS_contract_46 : decode cS_contract 46 = .ok (.getfield 14, 3) := by decide +kernel
theorem dS_contract_49 : decode cS_contract 49 = .ok (.aload_n 1, 1) := by decide +kernel
theorem dS_contract_50 : decode cS_contract 50 = .ok (.iload 4, 2) := by decide +kernel
theorem dS_contract_52 : decode cS_contract 52 = .ok (.aload_n 1, 1) := by decide +kernel
theorem dS_contract_53 : decode cS_contract 53 = .ok (.getfield 44, 3) := by decide +kernel
theorem dS_contract_56 : decode cS_contract 56 = .ok (.invokevirtual 48, 3) := by decide +kernel
theorem dS_contract_59 : decode cS_contract 59 = .ok (.aload_n 0, 1) := by decide +kernel
theorem dS_contract_60 : decode cS_contract 60 = .ok (.invokevirtual 52, 3) := by decide +kernel
theorem dS_contract_63 : decode cS_contract 63 = .ok (.areturn, 1) := by decide +kernel
theorem dS_reduce_0 : decode cS_reduce 0 = .ok (.aload_n 0, 1) := by decide +kernel
theorem dS_reduce_1 : decode cS_reduce 1 = .ok (.getfield 20, 3) := by decide +kernel
theorem dS_reduce_4 : decode cS_reduce 4 = .ok (.aload_n 1, 1) := by decide +kernel
theorem dS_reduce_5 : decode cS_reduce 5 = .ok (.invokevirtual 77, 3) := by decide +kernel
theorem dS_reduce_8 : decode cS_reduce 8 = .ok (.pop, 1) := by decide +kernel
theorem dS_reduce_9 : decode cS_reduce 9 = .ok (.iconst 0, 1) := by decide +kernel
theorem dS_reduce_10 : decode cS_reduce 10 = .ok (.istore_n 3, 1) := by decide +kernel
theorem dS_reduce_11 : decode cS_reduce 11 = .ok (.iconst 0, 1) := by decide +kernel
theorem dS_reduce_12 : decode cS_reduce 12 = .ok (.istore 4, 2) := by decide +kernel
theorem dS_reduce_14 : decode cS_reduce 14 = .ok (.iload 4, 2) := by decide +kernel
theorem dS_reduce_16 : decode cS_reduce 16 = .ok (.sipush 300, 3) := by decide +kernel
theorem dS_reduce_19 : decode cS_reduce 19 = .ok (.if_icmp .gt 77, 3) := by decide +kernel
theorem dS_reduce_22 : decode cS_reduce 22 = .ok (.iload_n 2, 1) := by decide +kernel
theorem dS_reduce_23 : decode cS_reduce 23 = .ok (.ifCond .eq 13, 3) := by decide +kernel
theorem dS_reduce_26 : decode cS_reduce 26 = .ok (.aload_n 0, 1) := by decide +kernel
theorem dS_reduce_27 : decode cS_reduce 27 = .ok (.getfield 20, 3) := by decide +kernel
theorem dS_reduce_30 : decode cS_reduce 30 = .ok (.invokevirtual 81, 3) := by decide +kernel
theorem dS_reduce_33 : decode cS_reduce 33 = .ok (.goto 11, 3) := by decide +kernel
theorem dS_reduce_36 : decode cS_reduce 36 = .ok (.aload_n 0, 1) := by decide +kernel
theorem dS_reduce_37 : decode cS_reduce 37 = .ok (.getfield 20, 3) := by decide +kernel
theorem dS_reduce_40 : decode cS_reduce 40 = .ok (.iload_n 3, 1) := by decide +kernel
theorem dS_reduce_41 : decode cS_reduce 41 = .ok (.invokevirtual 85, 3) := by decide +kernel
theorem dS_reduce_44 : decode cS_reduce 44 = .ok (.istore 5, 2) := by decide +kernel
theorem dS_reduce_46 : decode cS_reduce 46 = .ok (.iload 5, 2) := by decide +kernel
theorem dS_reduce_48 : decode cS_reduce 48 = .ok (.iconst (-1), 1) := by decide +kernel
theorem dS_reduce_49 : decode cS_reduce 49 = .ok (.if_icmp .ne 6, 3) := by decide +kernel
theorem dS_reduce_52 : decode cS_reduce 52 = .ok (.iload 4, 2) := by decide +kernel
theorem dS_reduce_54 : decode cS_reduce 54 = .ok (.ireturn, 1) := by decide +kernel
theorem dS_reduce_55 : decode cS_reduce 55 = .ok (.aload_n 0, 1) := by decide +kernel
theorem dS_reduce_56 : decode cS_reduce 56 = .ok (.aload_n 0, 1) := by decide +kernel
theorem dS_reduce_57 : decode cS_reduce 57 = .ok (.getfield 20, 3) := by decide +kernel
theorem dS_reduce_60 : decode cS_reduce 60 = .ok (.iload 5, 2) := by decide +kernel
theorem dS_reduce_62 : decode cS_reduce 62 = .ok (.invokevirtual 88, 3) := by decide +kernel
theorem dS_reduce_65 : decode cS_reduce 65 = .ok (.astore 6, 2) := by decide +kernel
theorem dS_reduce_67 : decode cS_reduce 67 = .ok (.aload_n 0, 1) := by decide +kernel
theorem dS_reduce_68 : decode cS_reduce 68 = .ok (.aload_n 0, 1) := by decide +kernel
theorem dS_reduce_69 : decode cS_reduce 69 = .ok (.getfield 20, 3) := by decide +kernel
theorem dS_reduce_72 : decode cS_reduce 72 = .ok (.putfield 14, 3) := by decide +kernel
theorem dS_reduce_75 : decode cS_reduce 75 = .ok (.aload_n 0, 1) := by decide +kernel
theorem dS_reduce_76 : decode cS_reduce 76 = .ok (.aload 6, 2) := by decide +kernel
theorem dS_reduce_78 : decode cS_reduce 78 = .ok (.putfield 20, 3) := by decide +kernel
theorem dS_reduce_81 : decode cS_reduce 81 = .ok (.iconst 0, 1) := by decide +kernel
theorem dS_reduce_82 : decode cS_reduce 82 = .ok (.iload 5, 2) := by decide +kernel
theorem dS_reduce_84 : decode cS_reduce 84 = .ok (.iconst 1, 1) := by decide +kernel
theorem dS_reduce_85 : decode cS_reduce 85 = .ok (.isub, 1) := by decide +kernel
theorem dS_reduce_86 : decode cS_reduce 86 = .ok (.invokestatic 92, 3) := by decide +kernel
theorem dS_reduce_89 : decode cS_reduce 89 = .ok (.istore_n 3, 1) := by decide +kernel
theorem dS_reduce_90 : decode cS_reduce 90 = .ok (.iinc 4 1, 3) := by decide +kernel
theorem dS_reduce_93 : decode cS_reduce 93 = .ok (.goto (-79), 3) := by decide +kernel
theorem dS_reduce_96 : decode cS_reduce 96 = .ok (.new 98, 3) := by decide +kernel
theorem dS_reduce_99 : decode cS_reduce 99 = .ok (.dup, 1) := by decide +kernel
theorem dS_reduce_100 : decode cS_reduce 100 = .ok (.ldc 100, 2) := by decide +kernel
theorem dS_reduce_102 : decode cS_reduce 102 = .ok (.invokespecial 102, 3) := by decide +kernel
theorem dS_reduce_105 : decode cS_reduce 105 = .ok (.athrow, 1) := by decide +kernel
theorem dS_reduced_0 : decode cS_reduced 0 = .ok (.aload_n 0, 1) := by decide +kernel
theorem dS_reduced_1 : decode cS_reduced 1 = .ok (.getfield 20, 3) := by decide +kernel
theorem dS_reduced_4 : decode cS_reduced 4 = .ok (.areturn, 1) := by decide +kernel
theorem dS_addFilled_0 : decode cS_addFilled 0 = .ok (.aload_n 0, 1) := by decide +kernel
theorem dS_addFilled_1 : decode cS_addFilled 1 = .ok (.getfield 32, 3) := by decide +kernel
theorem dS_addFilled_4 : decode cS_addFilled 4 = .ok (.invokevirtual 56, 3) := by decide +kernel
theorem dS_addFilled_7 : decode cS_addFilled 7 = .ok (.iload_n 2, 1) := by decide +kernel
theorem dS_addFilled_8 : decode cS_addFilled 8 = .ok (.istore 7, 2) := by decide +kernel
theorem dS_addFilled_10 : decode cS_addFilled 10 = .ok (.iload 7, 2) := by decide +kernel
theorem dS_addFilled_12 : decode cS_addFilled 12 = .ok (.iload_n 3, 1) := by decide +kernel
theorem dS_addFilled_13 : decode cS_addFilled 13 = .ok (.if_icmp .ge 89, 3) := by decide +kernel
theorem dS_addFilled_16 : decode cS_addFilled 16 = .ok (.aload_n 1, 1) := by decide +kernel
theorem dS_addFilled_17 : decode cS_addFilled 17 = .ok (.getfield 59, 3) := by decide +kernel
theorem dS_addFilled_20 : decode cS_addFilled 20 = .ok (.iload 7, 2) := by decide +kernel
theorem dS_addFilled_22 : decode cS_addFilled 22 = .ok (.iaload, 1) := by decide +kernel
theorem dS_addFilled_23 : decode cS_addFilled 23 = .ok (.istore 8, 2) := by decide +kernel
theorem dS_addFilled_25 : decode cS_addFilled 25 = .ok (.bipush 100, 2) := by decide +kernel
theorem dS_addFilled_27 : decode cS_addFilled 27 = .ok (.aload_n 0, 1) := by decide +kernel
theorem dS_addFilled_28 : decode cS_addFilled 28 = .ok (.getfield 32, 3) := by decide +kernel
theorem dS_addFilled_31 : decode cS_addFilled 31 = .ok (.getfield 63, 3) := by decide +kernel
theorem dS_addFilled_34 : decode cS_addFilled 34 = .ok (.iadd, 1) := by decide +kernel
theorem dS_addFilled_35 : decode cS_addFilled 35 = .ok (.istore 9, 2) := by decide +kernel
theorem dS_addFilled_37 : decode cS_addFilled 37 = .ok (.iload 8, 2) := by decide +kernel
theorem dS_addFilled_39 : decode cS_addFilled 39 = .ok (.iload 9, 2) := by decide +kernel
theorem dS_addFilled_41 : decode cS_addFilled 41 = .ok (.if_icmp .ne 23, 3) := by decide +kernel
theorem dS_addFilled_44 : decode cS_addFilled 44 = .ok (.aload_n 0, 1) := by decide +kernel
theorem dS_addFilled_45 : decode cS_addFilled 45 = .ok (.aload 4, 2) := by decide +kernel
theorem dS_addFilled_47 : decode cS_addFilled 47 = .ok (.iload 5, 2) := by decide +kernel
theorem dS_addFilled_49 : decode cS_addFilled 49 = .ok (.iload 6, 2) := by decide +kernel
theorem dS_addFilled_51 : decode cS_addFilled 51 = .ok (.aload_n 0, 1) := by decide +kernel
theorem dS_addFilled_52 : decode cS_addFilled 52 = .ok (.getfield 32, 3) := by decide +kernel
theorem dS_addFilled_55 : decode cS_addFilled 55 = .ok (.getfield 63, 3) := by decide +kernel
theorem dS_addFilled_58 : decode cS_addFilled 58 = .ok (.invokevirtual 105, 3) := by decide +kernel
theorem dS_addFilled_61 : decode cS_addFilled 61 = .ok (.goto 26, 3) := by decide +kernel
theorem dS_addFilled_64 : decode cS_addFilled 64 = .ok (.aload_n 0, 1) := by decide +kernel
theorem dS_addFilled_65 : decode cS_addFilled 65 = .ok (.getfield 14, 3) := by decide +kernel
theorem dS_addFilled_68 : decode cS_addFilled 68 = .ok (.iload 8, 2) := by decide +kernel
theorem dS_addFilled_70 : decode cS_addFilled 70 = .ok (.iload 9, 2) := by decide +kernel
theorem dS_addFilled_72 : decode cS_addFilled 72 = .ok (.if_icmp .le 10, 3) := by decide +kernel
theorem dS_addFilled_75 : decode cS_addFilled 75 = .ok (.iload 8, 2) := by decide +kernel
theorem dS_addFilled_77 : decode cS_addFilled 77 = .ok (.iconst 1, 1) := by decide +kernel
theorem dS_addFilled_78 : decode cS_addFilled 78 = .ok (.isub, 1) := by decide +kernel
theorem dS_addFilled_79 : decode cS_addFilled 79 = .ok (.goto 5, 3) := by decide +kernel
theorem dS_addFilled_82 : decode cS_addFilled 82 = .ok (.iload 8, 2) := by decide +kernel
theorem dS_addFilled_84 : decode cS_addFilled 84 = .ok (.invokevirtual 41, 3) := by decide +kernel
theorem dS_addFilled_87 : decode cS_addFilled 87 = .ok (.aload_n 0, 1) := by decide +kernel
theorem dS_addFilled_88 : decode cS_addFilled 88 = .ok (.getfield 32, 3) := by decide +kernel
theorem dS_addFilled_91 : decode cS_addFilled 91 = .ok (.iload 8, 2) := by decide +kernel
theorem dS_addFilled_93 : decode cS_addFilled 93 = .ok (.invokevirtual 66, 3) := by decide +kernel
theorem dS_addFilled_96 : decode cS_addFilled 96 = .ok (.iinc 7 1, 3) := by decide +kernel
theorem dS_addFilled_99 : decode cS_addFilled 99 = .ok (.goto (-89), 3) := by decide +kernel
theorem dS_addFilled_102 : decode cS_addFilled 102 = .ok (.return_, 1) := by decide +kernel
theorem dS_addRaised_0 : decode cS_addRaised 0 = .ok (.iload 4, 2) := by decide +kernel
theorem dS_addRaised_2 : decode cS_addRaised 2 = .ok (.ifCond .eq 16, 3) := by decide +kernel
theorem dS_addRaised_5 : decode cS_addRaised 5 = .ok (.aload_n 0, 1) := by decide +kernel
theorem dS_addRaised_6 : decode cS_addRaised 6 = .ok (.getfield 14, 3) := by decide +kernel
theorem dS_addRaised_9 : decode cS_addRaised 9 = .ok (.iload_n 3, 1) := by decide +kernel
theorem dS_addRaised_10 : decode cS_addRaised 10 = .ok (.iload_n 2, 1) := by decide +kernel
theorem dS_addRaised_11 : decode cS_addRaised 11 = .ok (.isub, 1) := by decide +kernel
theorem dS_addRaised_12 : decode cS_addRaised 12 = .ok (.invokevirtual 109, 3) := by decide +kernel
theorem dS_addRaised_15 : decode cS_addRaised 15 = .ok (.ifCond .ne 14, 3) := by decide +kernel
theorem dS_addRaised_18 : decode cS_addRaised 18 = .ok (.aload_n 0, 1) := by decide +kernel
theorem dS_addRaised_19 : decode cS_addRaised 19 = .ok (.getfield 14, 3) := by decide +kernel
theorem dS_addRaised_22 : decode cS_addRaised 22 = .ok (.aload_n 1, 1) := by decide +kernel
theorem dS_addRaised_23 : decode cS_addRaised 23 = .ok (.iload_n 2, 1) := by decide +kernel
theorem dS_addRaised_24 : decode cS_addRaised 24 = .ok (.iload_n 3, 1) := by decide +kernel
theorem dS_addRaised_25 : decode cS_addRaised 25 = .ok (.invokevirtual 48, 3) := by decide +kernel
theorem dS_addRaised_28 : decode cS_addRaised 28 = .ok (.return_, 1) := by decide +kernel
theorem dS_addRaised_29 : decode cS_addRaised 29 = .ok (.aload_n 0, 1) := by decide +kernel
theorem dS_addRaised_30 : decode cS_addRaised 30 = .ok (.getfield 35, 3) := by decide +kernel
theorem dS_addRaised_33 : decode cS_addRaised 33 = .ok (.invokevirtual 56, 3) := by decide +kernel
theorem dS_addRaised_36 : decode cS_addRaised 36 = .ok (.iload_n 2, 1) := by decide +kernel
theorem dS_addRaised_37 : decode cS_addRaised 37 = .ok (.istore 5, 2) := by decide +kernel
theorem dS_addRaised_39 : decode cS_addRaised 39 = .ok (.iload 5, 2) := by decide +kernel
theorem dS_addRaised_41 : decode cS_addRaised 41 = .ok (.iload_n 3, 1) := by decide +kernel
theorem dS_addRaised_42 : decode cS_addRaised 42 = .ok (.if_icmp .ge 59, 3) := by decide +kernel
theorem dS_addRaised_45 : decode cS_addRaised 45 = .ok (.aload_n 1, 1) := by decide +kernel
theorem dS_addRaised_46 : decode cS_addRaised 46 = .ok (.getfield 59, 3) := by decide +kernel
theorem dS_addRaised_49 : decode cS_addRaised 49 = .ok (.iload 5, 2) := by decide +kernel
theorem dS_addRaised_51 : decode cS_addRaised 51 = .ok (.iaload, 1) := by decide +kernel
theorem dS_addRaised_52 : decode cS_addRaised 52 = .ok (.istore 6, 2) := by decide +kernel
theorem dS_addRaised_54 : decode cS_addRaised 54 = .ok (.aload_n 0, 1) := by decide +kernel
theorem dS_addRaised_55 : decode cS_addRaised 55 = .ok (.getfield 14, 3) := by decide +kernel
theorem dS_addRaised_58 : decode cS_addRaised 58 = .ok (.iload 6, 2) := by decide +kernel
theorem dS_addRaised_60 : decode cS_addRaised 60 = .ok (.bipush 99, 2) := by decide +kernel
theorem dS_addRaised_62 : decode cS_addRaised 62 = .ok (.aload_n 0, 1) := by decide +kernel
theorem dS_addRaised_63 : decode cS_addRaised 63 = .ok (.getfield 35, 3) := by decide +kernel
theorem dS_addRaised_66 : decode cS_addRaised 66 = .ok (.getfield 63, 3) := by decide +kernel
theorem dS_addRaised_69 : decode cS_addRaised 69 = .ok (.iadd, 1) := by decide +kernel
theorem dS_addRaised_70 : decode cS_addRaised 70 = .ok (.if_icmp .le 11, 3) := by decide +kernel
theorem dS_addRaised_73 : decode cS_addRaised 73 = .ok (.iload 6, 2) := by decide +kernel
theorem dS_addRaised_75 : decode cS_addRaised 75 = .ok (.iload 4, 2) := by decide +kernel
theorem dS_addRaised_77 : decode cS_addRaised 77 = .ok (.iadd, 1) := by decide +kernel
theorem dS_addRaised_78 : decode cS_addRaised 78 = .ok (.goto 5, 3) := by decide +kernel
theorem dS_addRaised_81 : decode cS_addRaised 81 = .ok (.iload 6, 2) := by decide +kernel
theorem dS_addRaised_83 : decode cS_addRaised 83 = .ok (.invokevirtual 41, 3) := by decide +kernel
theorem dS_addRaised_86 : decode cS_addRaised 86 = .ok (.aload_n 0, 1) := by decide +kernel
theorem dS_addRaised_87 : decode cS_addRaised 87 = .ok (.getfield 35, 3) := by decide +kernel
theorem dS_addRaised_90 : decode cS_addRaised 90 = .ok (.iload 6, 2) := by decide +kernel
theorem dS_addRaised_92 : decode cS_addRaised 92 = .ok (.invokevirtual 66, 3) := by decide +kernel
theorem dS_addRaised_95 : decode cS_addRaised 95 = .ok (.iinc 5 1, 3) := by decide +kernel
theorem dS_addRaised_98 : decode cS_addRaised 98 = .ok (.goto (-59), 3) := by decide +kernel
theorem dS_addRaised_101 : decode cS_addRaised 101 = .ok (.return_, 1) := by decide +kernel
theorem dS_checked_0 : decode cS_checked 0 = .ok (.aload_n 0, 1) := by decide +kernel
theorem dS_checked_1 : decode cS_checked 1 = .ok (.getfield 14, 3) := by decide +kernel
theorem dS_checked_4 : decode cS_checked 4 = .ok (.getfield 44, 3) := by decide +kernel
theorem dS_checked_7 : decode cS_checked 7 = .ok (.sipush 2000, 3) := by decide +kernel
theorem dS_checked_10 : decode cS_checked 10 = .ok (.if_icmp .gt 14, 3) := by decide +kernel
theorem dS_checked_13 : decode cS_checked 13 = .ok (.aload_n 0, 1) := by decide +kernel
theorem dS_checked_14 : decode cS_checked 14 = .ok (.aload_n 0, 1) := by decide +kernel
theorem dS_checked_15 : decode cS_checked 15 = .ok (.getfield 14, 3) := by decide +kernel
theorem dS_checked_18 : decode cS_checked 18 = .ok (.invokevirtual 113, 3) := by decide +kernel
theorem dS_checked_21 : decode cS_checked 21 = .ok (.ifCond .eq 13, 3) := by decide +kernel
theorem dS_checked_24 : decode cS_checked 24 = .ok (.new 117, 3) := by decide +kernel
theorem dS_checked_27 : decode cS_checked 27 = .ok (.dup, 1) := by decide +kernel
theorem dS_checked_28 : decode cS_checked 28 = .ok (.ldc 119, 2) := by decide +kernel
theorem dS_checked_30 : decode cS_checked 30 = .ok (.invokespecial 121, 3) := by decide +kernel
theorem dS_checked_33 : decode cS_checked 33 = .ok (.athrow, 1) := by decide +kernel
theorem dS_checked_34 : decode cS_checked 34 = .ok (.aload_n 0, 1) := by decide +kernel
theorem dS_checked_35 : decode cS_checked 35 = .ok (.getfield 14, 3) := by decide +kernel
theorem dS_checked_38 : decode cS_checked 38 = .ok (.areturn, 1) := by decide +kernel
theorem dS_isTooDeep_0 : decode cS_isTooDeep 0 = .ok (.aload_n 1, 1) := by decide +kernel
theorem dS_isTooDeep_1 : decode cS_isTooDeep 1 = .ok (.getfield 44, 3) := by decide +kernel
theorem dS_isTooDeep_4 : decode cS_isTooDeep 4 = .ok (.sipush 150, 3) := by decide +kernel
theorem dS_isTooDeep_7 : decode cS_isTooDeep 7 = .ok (.if_icmp .le 18, 3) := by decide +kernel
theorem dS_isTooDeep_10 : decode cS_isTooDeep 10 = .ok (.aload_n 0, 1) := by decide +kernel
theorem dS_isTooDeep_11 : decode cS_isTooDeep 11 = .ok (.aload_n 1, 1) := by decide +kernel
theorem dS_isTooDeep_12 : decode cS_isTooDeep 12 = .ok (.invokevirtual 122, 3) := by decide +kernel
theorem dS_isTooDeep_15 : decode cS_isTooDeep 15 = .ok (.sipush 150, 3) := by decide +kernel
theorem dS_isTooDeep_18 : decode cS_isTooDeep 18 = .ok (.if_icmp .le 7, 3) := by decide +kernel
theorem dS_isTooDeep_21 : decode cS_isTooDeep 21 = .ok (.iconst 1, 1) := by decide +kernel
theorem dS_isTooDeep_22 : decode cS_isTooDeep 22 = .ok (.goto 4, 3) := by decide +kernel
theorem dS_isTooDeep_25 : decode cS_isTooDeep 25 = .ok (.iconst 0, 1) := by decide +kernel
theorem dS_isTooDeep_26 : decode cS_isTooDeep 26 = .ok (.ireturn, 1) := by decide +kernel
theorem dS_depth_0 : decode cS_depth 0 = .ok (.iconst 0, 1) := by decide +kernel
theorem dS_depth_1 : decode cS_depth 1 = .ok (.istore_n 2, 1) := by decide +kernel
theorem dS_depth_2 : decode cS_depth 2 = .ok (.aload_n 0, 1) := by decide +kernel
theorem dS_depth_3 : decode cS_depth 3 = .ok (.getfield 28, 3) := by decide +kernel
theorem dS_depth_6 : decode cS_depth 6 = .ok (.invokevirtual 56, 3) := by decide +kernel
theorem dS_depth_9 : decode cS_depth 9 = .ok (.iconst 0, 1) := by decide +kernel
theorem dS_depth_10 : decode cS_depth 10 = .ok (.istore_n 3, 1) := by decide +kernel
theorem dS_depth_11 : decode cS_depth 11 = .ok (.iload_n 3, 1) := by decide +kernel
theorem dS_depth_12 : decode cS_depth 12 = .ok (.aload_n 1, 1) := by decide +kernel
theorem dS_depth_13 : decode cS_depth 13 = .ok (.getfield 44, 3) := by decide +kernel
theorem dS_depth_16 : decode cS_depth 16 = .ok (.if_icmp .ge 41, 3) := by decide +kernel
theorem dS_depth_19 : decode cS_depth 19 = .ok (.iload_n 2, 1) := by decide +kernel
theorem dS_depth_20 : decode cS_depth 20 = .ok (.sipush 150, 3) := by decide +kernel
theorem dS_depth_23 : decode cS_depth 23 = .ok (.if_icmp .ge 34, 3) := by decide +kernel
theorem dS_depth_26 : decode cS_depth 26 = .ok (.iload_n 2, 1) := by decide +kernel
theorem dS_depth_27 : decode cS_depth 27 = .ok (.aload_n 0, 1) := by decide +kernel
theorem dS_depth_28 : decode cS_depth 28 = .ok (.getfield 28, 3) := by decide +kernel
theorem dS_depth_31 : decode cS_depth 31 = .ok (.getfield 63, 3) := by decide +kernel
theorem dS_depth_34 : decode cS_depth 34 = .ok (.invokestatic 92, 3) := by decide +kernel
theorem dS_depth_37 : decode cS_depth 37 = .ok (.istore_n 2, 1) := by decide +kernel
theorem dS_depth_38 : decode cS_depth 38 = .ok (.aload_n 0, 1) := by decide +kernel
theorem dS_depth_39 : decode cS_depth 39 = .ok (.getfield 28, 3) := by decide +kernel
theorem dS_depth_42 : decode cS_depth 42 = .ok (.aload_n 1, 1) := by decide +kernel
theorem dS_depth_43 : decode cS_depth 43 = .ok (.getfield 59, 3) := by decide +kernel
theorem dS_depth_46 : decode cS_depth 46 = .ok (.iload_n 3, 1) := by decide +kernel
theorem dS_depth_47 : decode cS_depth 47 = .ok (.iaload, 1) := by decide +kernel
theorem dS_depth_48 : decode cS_depth 48 = .ok (.invokevirtual 66, 3) := by decide +kernel
theorem dS_depth_51 : decode cS_depth 51 = .ok (.iinc 3 1, 3) := by decide +kernel
theorem dS_depth_54 : decode cS_depth 54 = .ok (.goto (-43), 3) := by decide +kernel
theorem dS_depth_57 : decode cS_depth 57 = .ok (.iload_n 2, 1) := by decide +kernel
theorem dS_depth_58 : decode cS_depth 58 = .ok (.iconst 1, 1) := by decide +kernel
theorem dS_depth_59 : decode cS_depth 59 = .ok (.iadd, 1) := by decide +kernel
theorem dS_depth_60 : decode cS_depth 60 = .ok (.ireturn, 1) := by decide +kernel
