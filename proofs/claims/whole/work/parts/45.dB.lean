theorem dB_init_0 : decode cB_init 0 = .ok (.aload_n 0, 1) := by decide +kernel
theorem dB_init_1 : decode cB_init 1 = .ok (.invokespecial 1, 3) := by decide +kernel
theorem dB_init_4 : decode cB_init 4 = .ok (.aload_n 0, 1) := by decide +kernel
theorem dB_init_5 : decode cB_init 5 = .ok (.bipush 16, 2) := by decide +kernel
theorem dB_init_7 : decode cB_init 7 = .ok (.anewarray 9, 3) := by decide +kernel
theorem dB_init_10 : decode cB_init 10 = .ok (.putfield 11, 3) := by decide +kernel
theorem dB_init_13 : decode cB_init 13 = .ok (.iconst 0, 1) := by decide +kernel
theorem dB_init_14 : decode cB_init 14 = .ok (.istore_n 1, 1) := by decide +kernel
theorem dB_init_15 : decode cB_init 15 = .ok (.iload_n 1, 1) := by decide +kernel
theorem dB_init_16 : decode cB_init 16 = .ok (.bipush 16, 2) := by decide +kernel
theorem dB_init_18 : decode cB_init 18 = .ok (.if_icmp .ge 24, 3) := by decide +kernel
theorem dB_init_21 : decode cB_init 21 = .ok (.aload_n 0, 1) := by decide +kernel
theorem dB_init_22 : decode cB_init 22 = .ok (.getfield 11, 3) := by decide +kernel
theorem dB_init_25 : decode cB_init 25 = .ok (.iload_n 1, 1) := by decide +kernel
theorem dB_init_26 : decode cB_init 26 = .ok (.new 9, 3) := by decide +kernel
theorem dB_init_29 : decode cB_init 29 = .ok (.dup, 1) := by decide +kernel
theorem dB_init_30 : decode cB_init 30 = .ok (.bipush 8, 2) := by decide +kernel
theorem dB_init_32 : decode cB_init 32 = .ok (.invokespecial 15, 3) := by decide +kernel
theorem dB_init_35 : decode cB_init 35 = .ok (.aastore, 1) := by decide +kernel
theorem dB_init_36 : decode cB_init 36 = .ok (.iinc 1 1, 3) := by decide +kernel
theorem dB_init_39 : decode cB_init 39 = .ok (.goto (-24), 3) := by decide +kernel
theorem dB_init_42 : decode cB_init 42 = .ok (.aload_n 0, 1) := by decide +kernel
theorem dB_init_43 : decode cB_init 43 = .ok (.new 18, 3) := by decide +kernel
theorem dB_init_46 : decode cB_init 46 = .ok (.dup, 1) := by decide +kernel
theorem dB_init_47 : decode cB_init 47 = .ok (.invokespecial 20, 3) := by decide +kernel
theorem dB_init_50 : decode cB_init 50 = .ok (.putfield 21, 3) := by decide +kernel
theorem dB_init_53 : decode cB_init 53 = .ok (.aload_n 0, 1) := by decide +kernel
theorem dB_init_54 : decode cB_init 54 = .ok (.new 25, 3) := by decide +kernel
theorem dB_init_57 : decode cB_init 57 = .ok (.dup, 1) := by decide +kernel
theorem dB_init_58 : decode cB_init 58 = .ok (.invokespecial 27, 3) := by decide +kernel
theorem dB_init_61 : decode cB_init 61 = .ok (.putfield 28, 3) := by decide +kernel
theorem dB_init_64 : decode cB_init 64 = .ok (.return_, 1) := by decide +kernel
theorem dB_free_0 : decode cB_free 0 = .ok (.aload_n 0, 1) := by decide +kernel
theorem dB_free_1 : decode cB_free 1 = .ok (.iload_n 1, 1) := by decide +kernel
theorem dB_free_2 : decode cB_free 2 = .ok (.invokevirtual 32, 3) := by decide +kernel
theorem dB_free_5 : decode cB_free 5 = .ok (.astore_n 3, 1) := by decide +kernel
theorem dB_free_6 : decode cB_free 6 = .ok (.iload_n 2, 1) := by decide +kernel
theorem dB_free_7 : decode cB_free 7 = .ok (.invokestatic 36, 3) := by decide +kernel
theorem dB_free_10 : decode cB_free 10 = .ok (.aload_n 3, 1) := by decide +kernel
theorem dB_free_11 : decode cB_free 11 = .ok (.iload_n 2, 1) := by decide +kernel
theorem dB_free_12 : decode cB_free 12 = .ok (.invokevirtual 39, 3) := by decide +kernel
theorem dB_free_15 : decode cB_free 15 = .ok (.return_, 1) := by decide +kernel
theorem dB_apply_0 : decode cB_apply 0 = .ok (.aload_n 0, 1) := by decide +kernel
theorem dB_apply_1 : decode cB_apply 1 = .ok (.iload_n 1, 1) := by decide +kernel
theorem dB_apply_2 : decode cB_apply 2 = .ok (.invokevirtual 32, 3) := by decide +kernel
theorem dB_apply_5 : decode cB_apply 5 = .ok (.astore 4, 2) := by decide +kernel
theorem dB_apply_7 : decode cB_apply 7 = .ok (.aload 4, 2) := by decide +kernel
theorem dB_apply_9 : decode cB_apply 9 = .ok (.aload_n 0, 1) := by decide +kernel
theorem dB_apply_10 : decode cB_apply 10 = .ok (.getfield 21, 3) := by decide +kernel
theorem dB_apply_13 : decode cB_apply 13 = .ok (.aload_n 0, 1) := by decide +kernel
theorem dB_apply_14 : decode cB_apply 14 = .ok (.iload_n 2, 1) := by decide +kernel
theorem dB_apply_15 : decode cB_apply 15 = .ok (.invokevirtual 32, 3) := by decide +kernel
theorem dB_apply_18 : decode cB_apply 18 = .ok (.aload_n 0, 1) := by decide +kernel
theorem dB_apply_19 : decode cB_apply 19 = .ok (.iload_n 3, 1) := by decide +kernel
theorem dB_apply_20 : decode cB_apply 20 = .ok (.invokevirtual 32, 3) := by decide +kernel
theorem dB_apply_23 : decode cB_apply 23 = .ok (.invokevirtual 42, 3) := by decide +kernel
theorem dB_apply_26 : decode cB_apply 26 = .ok (.invokevirtual 46, 3) := by decide +kernel
theorem dB_apply_29 : decode cB_apply 29 = .ok (.ireturn, 1) := by decide +kernel
theorem dB_bind_0 : decode cB_bind 0 = .ok (.aload_n 0, 1) := by decide +kernel
theorem dB_bind_1 : decode cB_bind 1 = .ok (.iload_n 1, 1) := by decide +kernel
theorem dB_bind_2 : decode cB_bind 2 = .ok (.invokevirtual 32, 3) := by decide +kernel
theorem dB_bind_5 : decode cB_bind 5 = .ok (.astore 4, 2) := by decide +kernel
theorem dB_bind_7 : decode cB_bind 7 = .ok (.aload_n 0, 1) := by decide +kernel
theorem dB_bind_8 : decode cB_bind 8 = .ok (.iload_n 2, 1) := by decide +kernel
theorem dB_bind_9 : decode cB_bind 9 = .ok (.invokevirtual 32, 3) := by decide +kernel
theorem dB_bind_12 : decode cB_bind 12 = .ok (.astore 5, 2) := by decide +kernel
theorem dB_bind_14 : decode cB_bind 14 = .ok (.iload_n 3, 1) := by decide +kernel
theorem dB_bind_15 : decode cB_bind 15 = .ok (.invokestatic 36, 3) := by decide +kernel
theorem dB_bind_18 : decode cB_bind 18 = .ok (.aload 4, 2) := by decide +kernel
theorem dB_bind_20 : decode cB_bind 20 = .ok (.aload_n 0, 1) := by decide +kernel
theorem dB_bind_21 : decode cB_bind 21 = .ok (.getfield 21, 3) := by decide +kernel
theorem dB_bind_24 : decode cB_bind 24 = .ok (.aload 5, 2) := by decide +kernel
theorem dB_bind_26 : decode cB_bind 26 = .ok (.iload_n 3, 1) := by decide +kernel
theorem dB_bind_27 : decode cB_bind 27 = .ok (.invokevirtual 50, 3) := by decide +kernel
theorem dB_bind_30 : decode cB_bind 30 = .ok (.invokevirtual 46, 3) := by decide +kernel
theorem dB_bind_33 : decode cB_bind 33 = .ok (.ireturn, 1) := by decide +kernel
theorem dB_put_0 : decode cB_put 0 = .ok (.aload_n 0, 1) := by decide +kernel
theorem dB_put_1 : decode cB_put 1 = .ok (.iload_n 1, 1) := by decide +kernel
theorem dB_put_2 : decode cB_put 2 = .ok (.invokevirtual 32, 3) := by decide +kernel
theorem dB_put_5 : decode cB_put 5 = .ok (.astore 5, 2) := by decide +kernel
theorem dB_put_7 : decode cB_put 7 = .ok (.aload_n 0, 1) := by decide +kernel
theorem dB_put_8 : decode cB_put 8 = .ok (.iload_n 2, 1) := by decide +kernel
theorem dB_put_9 : decode cB_put 9 = .ok (.invokevirtual 32, 3) := by decide +kernel
theorem dB_put_12 : decode cB_put 12 = .ok (.astore 6, 2) := by decide +kernel
theorem dB_put_14 : decode cB_put 14 = .ok (.iload_n 3, 1) := by decide +kernel
theorem dB_put_15 : decode cB_put 15 = .ok (.invokestatic 36, 3) := by decide +kernel
theorem dB_put_18 : decode cB_put 18 = .ok (.aload 5, 2) := by decide +kernel
theorem dB_put_20 : decode cB_put 20 = .ok (.aload_n 0, 1) := by decide +kernel
theorem dB_put_21 : decode cB_put 21 = .ok (.getfield 21, 3) := by decide +kernel
theorem dB_put_24 : decode cB_put 24 = .ok (.aload 6, 2) := by decide +kernel
theorem dB_put_26 : decode cB_put 26 = .ok (.iload_n 3, 1) := by decide +kernel
theorem dB_put_27 : decode cB_put 27 = .ok (.aload_n 0, 1) := by decide +kernel
theorem dB_put_28 : decode cB_put 28 = .ok (.iload 4, 2) := by decide +kernel
theorem dB_put_30 : decode cB_put 30 = .ok (.invokevirtual 32, 3) := by decide +kernel
theorem dB_put_33 : decode cB_put 33 = .ok (.invokevirtual 54, 3) := by decide +kernel
theorem dB_put_36 : decode cB_put 36 = .ok (.invokevirtual 46, 3) := by decide +kernel
theorem dB_put_39 : decode cB_put 39 = .ok (.ireturn, 1) := by decide +kernel
theorem dB_open_0 : decode cB_open 0 = .ok (.aload_n 0, 1) := by decide +kernel
theorem dB_open_1 : decode cB_open 1 = .ok (.iload_n 1, 1) := by decide +kernel
theorem dB_open_2 : decode cB_open 2 = .ok (.invokevirtual 32, 3) := by decide +kernel
theorem dB_open_5 : decode cB_open 5 = .ok (.astore 4, 2) := by decide +kernel
theorem dB_open_7 : decode cB_open 7 = .ok (.aload_n 0, 1) := by decide +kernel
theorem dB_open_8 : decode cB_open 8 = .ok (.iload_n 2, 1) := by decide +kernel
theorem dB_open_9 : decode cB_open 9 = .ok (.invokevirtual 32, 3) := by decide +kernel
theorem dB_open_12 : decode cB_open 12 = .ok (.astore 5, 2) := by decide +kernel
theorem dB_open_14 : decode cB_open 14 = .ok (.aload_n 0, 1) := by decide +kernel
theorem dB_open_15 : decode cB_open 15 = .ok (.iload_n 3, 1) := by decide +kernel
theorem dB_open_16 : decode cB_open 16 = .ok (.invokevirtual 32, 3) := by decide +kernel
theorem dB_open_19 : decode cB_open 19 = .ok (.astore 6, 2) := by decide +kernel
theorem dB_open_21 : decode cB_open 21 = .ok (.aload 5, 2) := by decide +kernel
theorem dB_open_23 : decode cB_open 23 = .ok (.invokevirtual 58, 3) := by decide +kernel
theorem dB_open_26 : decode cB_open 26 = .ok (.bipush (-2), 2) := by decide +kernel
theorem dB_open_28 : decode cB_open 28 = .ok (.if_icmp .eq 13, 3) := by decide +kernel
theorem dB_open_31 : decode cB_open 31 = .ok (.new 62, 3) := by decide +kernel
theorem dB_open_34 : decode cB_open 34 = .ok (.dup, 1) := by decide +kernel
theorem dB_open_35 : decode cB_open 35 = .ok (.ldc 64, 2) := by decide +kernel
theorem dB_open_37 : decode cB_open 37 = .ok (.invokespecial 66, 3) := by decide +kernel
theorem dB_open_40 : decode cB_open 40 = .ok (.athrow, 1) := by decide +kernel
theorem dB_open_41 : decode cB_open 41 = .ok (.aload 4, 2) := by decide +kernel
theorem dB_open_43 : decode cB_open 43 = .ok (.aload_n 0, 1) := by decide +kernel
theorem dB_open_44 : decode cB_open 44 = .ok (.getfield 21, 3) := by decide +kernel
theorem dB_open_47 : decode cB_open 47 = .ok (.aload 5, 2) := by decide +kernel
theorem dB_open_49 : decode cB_open 49 = .ok (.aload 6, 2) := by decide +kernel
theorem dB_open_51 : decode cB_open 51 = .ok (.invokevirtual 69, 3) := by decide +kernel
theorem dB_open_54 : decode cB_open 54 = .ok (.invokevirtual 46, 3) := by decide +kernel
theorem dB_open_57 : decode cB_open 57 = .ok (.ireturn, 1) := by decide +kernel
theorem dB_part_0 : decode cB_part 0 = .ok (.aload_n 0, 1) := by decide +kernel
theorem dB_part_1 : decode cB_part 1 = .ok (.iload_n 1, 1) := by decide +kernel
theorem dB_part_2 : decode cB_part 2 = .ok (.invokevirtual 32, 3) := by decide +kernel
theorem dB_part_5 : decode cB_part 5 = .ok (.astore 4, 2) := by decide +kernel
theorem dB_part_7 : decode cB_part 7 = .ok (.aload_n 0, 1) := by decide +kernel
theorem dB_part_8 : decode cB_part 8 = .ok (.iload_n 2, 1) := by decide +kernel
theorem dB_part_9 : decode cB_part 9 = .ok (.invokevirtual 32, 3) := by decide +kernel
theorem dB_part_12 : decode cB_part 12 = .ok (.astore 5, 2) := by decide +kernel
theorem dB_part_14 : decode cB_part 14 = .ok (.aload 5, 2) := by decide +kernel
theorem dB_part_16 : decode cB_part 16 = .ok (.invokevirtual 58, 3) := by decide +kernel
theorem dB_part_19 : decode cB_part 19 = .ok (.iconst (-1), 1) := by decide +kernel
theorem dB_part_20 : decode cB_part 20 = .ok (.if_icmp .eq 13, 3) := by decide +kernel
theorem dB_part_23 : decode cB_part 23 = .ok (.new 62, 3) := by decide +kernel
theorem dB_part_26 : decode cB_part 26 = .ok (.dup, 1) := by decide +kernel
theorem dB_part_27 : decode cB_part 27 = .ok (.ldc 72, 2) := by decide +kernel
theorem dB_part_29 : decode cB_part 29 = .ok (.invokespecial 66, 3) := by decide +kernel
theorem dB_part_32 : decode cB_part 32 = .ok (.athrow, 1) := by decide +kernel
theorem dB_part_33 : decode cB_part 33 = .ok (.aload 4, 2) := by decide +kernel
theorem dB_part_35 : decode cB_part 35 = .ok (.aload_n 0, 1) := by decide +kernel
theorem dB_part_36 : decode cB_part 36 = .ok (.getfield 21, 3) := by decide +kernel
theorem dB_part_39 : decode cB_part 39 = .ok (.aload 5, 2) := by decide +kernel
theorem dB_part_41 : decode cB_part 41 = .ok (.iload_n 3, 1) := by decide +kernel
theorem dB_part_42 : decode cB_part 42 = .ok (.invokevirtual 74, 3) := by decide +kernel
theorem dB_part_45 : decode cB_part 45 = .ok (.invokevirtual 46, 3) := by decide +kernel
theorem dB_part_48 : decode cB_part 48 = .ok (.pop, 1) := by decide +kernel
theorem dB_part_49 : decode cB_part 49 = .ok (.return_, 1) := by decide +kernel
theorem dB_step_0 : decode cB_step 0 = .ok (.aload_n 0, 1) := by decide +kernel
theorem dB_step_1 : decode cB_step 1 = .ok (.iload_n 1, 1) := by decide +kernel
theorem dB_step_2 : decode cB_step 2 = .ok (.invokevirtual 32, 3) := by decide +kernel
theorem dB_step_5 : decode cB_step 5 = .ok (.astore_n 3, 1) := by decide +kernel
theorem dB_step_6 : decode cB_step 6 = .ok (.aload_n 0, 1) := by decide +kernel
theorem dB_step_7 : decode cB_step 7 = .ok (.iload_n 2, 1) := by decide +kernel
theorem dB_step_8 : decode cB_step 8 = .ok (.invokevirtual 32, 3) := by decide +kernel
theorem dB_step_11 : decode cB_step 11 = .ok (.astore 4, 2) := by decide +kernel
theorem dB_step_13 : decode cB_step 13 = .ok (.aload 4, 2) := by decide +kernel
theorem dB_step_15 : decode cB_step 15 = .ok (.iconst 0, 1) := by decide +kernel
theorem dB_step_16 : decode cB_step 16 = .ok (.invokevirtual 78, 3) := by decide +kernel
theorem dB_step_19 : decode cB_step 19 = .ok (.istore 5, 2) := by decide +kernel
theorem dB_step_21 : decode cB_step 21 = .ok (.iload 5, 2) := by decide +kernel
theorem dB_step_23 : decode cB_step 23 = .ok (.iconst (-1), 1) := by decide +kernel
theorem dB_step_24 : decode cB_step 24 = .ok (.if_icmp .ne 12, 3) := by decide +kernel
theorem dB_step_27 : decode cB_step 27 = .ok (.aload_n 3, 1) := by decide +kernel
theorem dB_step_28 : decode cB_step 28 = .ok (.aload 4, 2) := by decide +kernel
theorem dB_step_30 : decode cB_step 30 = .ok (.invokevirtual 46, 3) := by decide +kernel
theorem dB_step_33 : decode cB_step 33 = .ok (.pop, 1) := by decide +kernel
theorem dB_step_34 : decode cB_step 34 = .ok (.iconst 0, 1) := by decide +kernel
theorem dB_step_35 : decode cB_step 35 = .ok (.ireturn, 1) := by decide +kernel
theorem dB_step_36 : decode cB_step 36 = .ok (.aload_n 3, 1) := by decide +kernel
theorem dB_step_37 : decode cB_step 37 = .ok (.aload_n 0, 1) := by decide +kernel
theorem dB_step_38 : decode cB_step 38 = .ok (.getfield 21, 3) := by decide +kernel
theorem dB_step_41 : decode cB_step 41 = .ok (.aload 4, 2) := by decide +kernel
theorem dB_step_43 : decode cB_step 43 = .ok (.iload 5, 2) := by decide +kernel
theorem dB_step_45 : decode cB_step 45 = .ok (.invokevirtual 82, 3) := by decide +kernel
theorem dB_step_48 : decode cB_step 48 = .ok (.invokevirtual 46, 3) := by decide +kernel
theorem dB_step_51 : decode cB_step 51 = .ok (.pop, 1) := by decide +kernel
theorem dB_step_52 : decode cB_step 52 = .ok (.iconst 1, 1) := by decide +kernel
theorem dB_step_53 : decode cB_step 53 = .ok (.ireturn, 1) := by decide +kernel
theorem dB_head_0 : decode cB_head 0 = .ok (.aload_n 0, 1) := by decide +kernel
theorem dB_head_1 : decode cB_head 1 = .ok (.iload_n 1, 1) := by decide +kernel
theorem dB_head_2 : decode cB_head 2 = .ok (.invokevirtual 32, 3) := by decide +kernel
theorem dB_head_5 : decode cB_head 5 = .ok (.astore_n 3, 1) := by decide +kernel
theorem dB_head_6 : decode cB_head 6 = .ok (.aload_n 0, 1) := by decide +kernel
theorem dB_head_7 : decode cB_head 7 = .ok (.getfield 21, 3) := by decide +kernel
theorem dB_head_10 : decode cB_head 10 = .ok (.aload_n 0, 1) := by decide +kernel
theorem dB_head_11 : decode cB_head 11 = .ok (.iload_n 2, 1) := by decide +kernel
theorem dB_head_12 : decode cB_head 12 = .ok (.invokevirtual 32, 3) := by decide +kernel
theorem dB_head_15 : decode cB_head 15 = .ok (.iconst 1, 1) := by decide +kernel
theorem dB_head_16 : decode cB_head 16 = .ok (.invokevirtual 85, 3) := by decide +kernel
theorem dB_head_19 : decode cB_head 19 = .ok (.istore 4, 2) := by decide +kernel
theorem dB_head_21 : decode cB_head 21 = .ok (.aload_n 3, 1) := by decide +kernel
theorem dB_head_22 : decode cB_head 22 = .ok (.aload_n 0, 1) := by decide +kernel
theorem dB_head_23 : decode cB_head 23 = .ok (.getfield 21, 3) := by decide +kernel
theorem dB_head_26 : decode cB_head 26 = .ok (.invokevirtual 89, 3) := by decide +kernel
theorem dB_head_29 : decode cB_head 29 = .ok (.invokevirtual 46, 3) := by decide +kernel
theorem dB_head_32 : decode cB_head 32 = .ok (.pop, 1) := by decide +kernel
theorem dB_head_33 : decode cB_head 33 = .ok (.iload 4, 2) := by decide +kernel
theorem dB_head_35 : decode cB_head 35 = .ok (.ireturn, 1) := by decide +kernel
theorem dB_normal_0 : decode cB_normal 0 = .ok (.aload_n 0, 1) := by decide +kernel
theorem dB_normal_1 : decode cB_normal 1 = .ok (.iload_n 1, 1) := by decide +kernel
theorem dB_normal_2 : decode cB_normal 2 = .ok (.invokevirtual 32, 3) := by decide +kernel
theorem dB_normal_5 : decode cB_normal 5 = .ok (.astore_n 3, 1) := by decide +kernel
theorem dB_normal_6 : decode cB_normal 6 = .ok (.aload_n 0, 1) := by decide +kernel
theorem dB_normal_7 : decode cB_normal 7 = .ok (.getfield 21, 3) := by decide +kernel
theorem dB_normal_10 : decode cB_normal 10 = .ok (.aload_n 0, 1) := by decide +kernel
theorem dB_normal_11 : decode cB_normal 11 = .ok (.iload_n 2, 1) := by decide +kernel
theorem dB_normal_12 : decode cB_normal 12 = .ok (.invokevirtual 32, 3) := by decide +kernel
theorem dB_normal_15 : decode cB_normal 15 = .ok (.iconst 0, 1) := by decide +kernel
theorem dB_normal_16 : decode cB_normal 16 = .ok (.invokevirtual 85, 3) := by decide +kernel
theorem dB_normal_19 : decode cB_normal 19 = .ok (.istore 4, 2) := by decide +kernel
theorem dB_normal_21 : decode cB_normal 21 = .ok (.aload_n 3, 1) := by decide +kernel
theorem dB_normal_22 : decode cB_normal 22 = .ok (.aload_n 0, 1) := by decide +kernel
theorem dB_normal_23 : decode cB_normal 23 = .ok (.getfield 21, 3) := by decide +kernel
theorem dB_normal_26 : decode cB_normal 26 = .ok (.invokevirtual 89, 3) := by decide +kernel
theorem dB_normal_29 : decode cB_normal 29 = .ok (.invokevirtual 46, 3) := by decide +kernel
theorem dB_normal_32 : decode cB_normal 32 = .ok (.pop, 1) := by decide +kernel
theorem dB_normal_33 : decode cB_normal 33 = .ok (.iload 4, 2) := by decide +kernel
theorem dB_normal_35 : decode cB_normal 35 = .ok (.ireturn, 1) := by decide +kernel
theorem dB_same_0 : decode cB_same 0 = .ok (.aload_n 0, 1) := by decide +kernel
theorem dB_same_1 : decode cB_same 1 = .ok (.iload_n 1, 1) := by decide +kernel
theorem dB_same_2 : decode cB_same 2 = .ok (.invokevirtual 32, 3) := by decide +kernel
theorem dB_same_5 : decode cB_same 5 = .ok (.aload_n 0, 1) := by decide +kernel
theorem dB_same_6 : decode cB_same 6 = .ok (.iload_n 2, 1) := by decide +kernel
theorem dB_same_7 : decode cB_same 7 = .ok (.invokevirtual 32, 3) := by decide +kernel
theorem dB_same_10 : decode cB_same 10 = .ok (.invokevirtual 93, 3) := by decide +kernel
theorem dB_same_13 : decode cB_same 13 = .ok (.ireturn, 1) := by decide +kernel
theorem dB_about_0 : decode cB_about 0 = .ok (.aload_n 0, 1) := by decide +kernel
theorem dB_about_1 : decode cB_about 1 = .ok (.iload_n 1, 1) := by decide +kernel
theorem dB_about_2 : decode cB_about 2 = .ok (.invokevirtual 32, 3) := by decide +kernel
theorem dB_about_5 : decode cB_about 5 = .ok (.astore_n 3, 1) := by decide +kernel
theorem dB_about_6 : decode cB_about 6 = .ok (.iload_n 2, 1) := by decide +kernel
theorem dB_about_7 : decode cB_about 7 = .ok (.tableswitch 62 0 4 #[33, 38, 47, 52, 57], 33) := by decide +kernel
theorem dB_about_40 : decode cB_about 40 = .ok (.aload_n 3, 1) := by decide +kernel
theorem dB_about_41 : decode cB_about 41 = .ok (.getfield 97, 3) := by decide +kernel
theorem dB_about_44 : decode cB_about 44 = .ok (.ireturn, 1) := by decide +kernel
theorem dB_about_45 : decode cB_about 45 = .ok (.aload_n 0, 1) := by decide +kernel
theorem dB_about_46 : decode cB_about 46 = .ok (.getfield 21, 3) := by decide +kernel
theorem dB_about_49 : decode cB_about 49 = .ok (.aload_n 3, 1) := by decide +kernel
theorem dB_about_50 : decode cB_about 50 = .ok (.invokevirtual 101, 3) := by decide +kernel
theorem dB_about_53 : decode cB_about 53 = .ok (.ireturn, 1) := by decide +kernel
theorem dB_about_54 : decode cB_about 54 = .ok (.aload_n 3, 1) := by decide +kernel
theorem dB_about_55 : decode cB_about 55 = .ok (.invokevirtual 104, 3) := by decide +kernel
theorem dB_about_58 : decode cB_about 58 = .ok (.ireturn, 1) := by decide +kernel
theorem dB_about_59 : decode cB_about 59 = .ok (.aload_n 3, 1) := by decide +kernel
theorem dB_about_60 : decode cB_about 60 = .ok (.invokevirtual 107, 3) := by decide +kernel
theorem dB_about_63 : decode cB_about 63 = .ok (.ireturn, 1) := by decide +kernel
theorem dB_about_64 : decode cB_about 64 = .ok (.aload_n 3, 1) := by decide +kernel
theorem dB_about_65 : decode cB_about 65 = .ok (.invokevirtual 110, 3) := by decide +kernel
theorem dB_about_68 : decode cB_about 68 = .ok (.ireturn, 1) := by decide +kernel
theorem dB_about_69 : decode cB_about 69 = .ok (.new 62, 3) := by decide +kernel
theorem dB_about_72 : decode cB_about 72 = .ok (.dup, 1) := by decide +kernel
theorem dB_about_73 : decode cB_about 73 = .ok (.ldc 113, 2) := by decide +kernel
theorem dB_about_75 : decode cB_about 75 = .ok (.invokespecial 66, 3) := by decide +kernel
theorem dB_about_78 : decode cB_about 78 = .ok (.athrow, 1) := by decide +kernel
theorem dB_has_0 : decode cB_has 0 = .ok (.aload_n 0, 1) := by decide +kernel
theorem dB_has_1 : decode cB_has 1 = .ok (.iload_n 1, 1) := by decide +kernel
theorem dB_has_2 : decode cB_has 2 = .ok (.invokevirtual 32, 3) := by decide +kernel
theorem dB_has_5 : decode cB_has 5 = .ok (.astore_n 3, 1) := by decide +kernel
theorem dB_has_6 : decode cB_has 6 = .ok (.iload_n 2, 1) := by decide +kernel
theorem dB_has_7 : decode cB_has 7 = .ok (.invokestatic 36, 3) := by decide +kernel
theorem dB_has_10 : decode cB_has 10 = .ok (.aload_n 3, 1) := by decide +kernel
theorem dB_has_11 : decode cB_has 11 = .ok (.iload_n 2, 1) := by decide +kernel
theorem dB_has_12 : decode cB_has 12 = .ok (.invokevirtual 115, 3) := by decide +kernel
theorem dB_has_15 : decode cB_has 15 = .ok (.ireturn, 1) := by decide +kernel
theorem dB_write_0 : decode cB_write 0 = .ok (.aload_n 0, 1) := by decide +kernel
theorem dB_write_1 : decode cB_write 1 = .ok (.getfield 28, 3) := by decide +kernel
theorem dB_write_4 : decode cB_write 4 = .ok (.aload_n 0, 1) := by decide +kernel
theorem dB_write_5 : decode cB_write 5 = .ok (.iload_n 1, 1) := by decide +kernel
theorem dB_write_6 : decode cB_write 6 = .ok (.invokevirtual 32, 3) := by decide +kernel
theorem dB_write_9 : decode cB_write 9 = .ok (.invokevirtual 118, 3) := by decide +kernel
theorem dB_write_12 : decode cB_write 12 = .ok (.ireturn, 1) := by decide +kernel
theorem dB_out_0 : decode cB_out 0 = .ok (.iload_n 1, 1) := by decide +kernel
theorem dB_out_1 : decode cB_out 1 = .ok (.ifCond .lt 14, 3) := by decide +kernel
theorem dB_out_4 : decode cB_out 4 = .ok (.iload_n 1, 1) := by decide +kernel
theorem dB_out_5 : decode cB_out 5 = .ok (.aload_n 0, 1) := by decide +kernel
theorem dB_out_6 : decode cB_out 6 = .ok (.getfield 28, 3) := by decide +kernel
theorem dB_out_9 : decode cB_out 9 = .ok (.getfield 121, 3) := by decide +kernel
theorem dB_out_12 : decode cB_out 12 = .ok (.if_icmp .lt 13, 3) := by decide +kernel
theorem dB_out_15 : decode cB_out 15 = .ok (.new 124, 3) := by decide +kernel
theorem dB_out_18 : decode cB_out 18 = .ok (.dup, 1) := by decide +kernel
theorem dB_out_19 : decode cB_out 19 = .ok (.ldc 126, 2) := by decide +kernel
theorem dB_out_21 : decode cB_out 21 = .ok (.invokespecial 128, 3) := by decide +kernel
theorem dB_out_24 : decode cB_out 24 = .ok (.athrow, 1) := by decide +kernel
theorem dB_out_25 : decode cB_out 25 = .ok (.aload_n 0, 1) := by decide +kernel
theorem dB_out_26 : decode cB_out 26 = .ok (.getfield 28, 3) := by decide +kernel
theorem dB_out_29 : decode cB_out 29 = .ok (.getfield 129, 3) := by decide +kernel
theorem dB_out_32 : decode cB_out 32 = .ok (.iload_n 1, 1) := by decide +kernel
theorem dB_out_33 : decode cB_out 33 = .ok (.baload, 1) := by decide +kernel
theorem dB_out_34 : decode cB_out 34 = .ok (.ireturn, 1) := by decide +kernel
theorem dB_register_0 : decode cB_register 0 = .ok (.iload_n 1, 1) := by decide +kernel
theorem dB_register_1 : decode cB_register 1 = .ok (.ifCond .lt 9, 3) := by decide +kernel
theorem dB_register_4 : decode cB_register 4 = .ok (.iload_n 1, 1) := by decide +kernel
theorem dB_register_5 : decode cB_register 5 = .ok (.bipush 16, 2) := by decide +kernel
theorem dB_register_7 : decode cB_register 7 = .ok (.if_icmp .lt 13, 3) := by decide +kernel
theorem dB_register_10 : decode cB_register 10 = .ok (.new 133, 3) := by decide +kernel
theorem dB_register_13 : decode cB_register 13 = .ok (.dup, 1) := by decide +kernel
theorem dB_register_14 : decode cB_register 14 = .ok (.ldc 135, 2) := by decide +kernel
theorem dB_register_16 : decode cB_register 16 = .ok (.invokespecial 137, 3) := by decide +kernel
theorem dB_register_19 : decode cB_register 19 = .ok (.athrow, 1) := by decide +kernel
theorem dB_register_20 : decode cB_register 20 = .ok (.aload_n 0, 1) := by decide +kernel
theorem dB_register_21 : decode cB_register 21 = .ok (.getfield 11, 3) := by decide +kernel
theorem dB_register_24 : decode cB_register 24 = .ok (.iload_n 1, 1) := by decide +kernel
theorem dB_register_25 : decode cB_register 25 = .ok (.aaload, 1) := by decide +kernel
theorem dB_register_26 : decode cB_register 26 = .ok (.areturn, 1) := by decide +kernel
theorem dB_checkFree_0 : decode cB_checkFree 0 = .ok (.iload_n 0, 1) := by decide +kernel
theorem dB_checkFree_1 : decode cB_checkFree 1 = .ok (.ifCond .lt 9, 3) := by decide +kernel
theorem dB_checkFree_4 : decode cB_checkFree 4 = .ok (.iload_n 0, 1) := by decide +kernel
theorem dB_checkFree_5 : decode cB_checkFree 5 = .ok (.bipush 99, 2) := by decide +kernel
theorem dB_checkFree_7 : decode cB_checkFree 7 = .ok (.if_icmp .le 13, 3) := by decide +kernel
theorem dB_checkFree_10 : decode cB_checkFree 10 = .ok (.new 133, 3) := by decide +kernel
theorem dB_checkFree_13 : decode cB_checkFree 13 = .ok (.dup, 1) := by decide +kernel
theorem dB_checkFree_14 : decode cB_checkFree 14 = .ok (.ldc 138, 2) := by decide +kernel
theorem dB_checkFree_16 : decode cB_checkFree 16 = .ok (.invokespecial 137, 3) := by decide +kernel
theorem dB_checkFree_19 : decode cB_checkFree 19 = .ok (.athrow, 1) := by decide +kernel
theorem dB_checkFree_20 : decode cB_checkFree 20 = .ok (.return_, 1) := by decide +kernel
