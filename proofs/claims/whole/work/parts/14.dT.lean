theorem dT_init_0 : decode cT_init 0 = .ok (.aload_n 0, 1) := by decide +kernel
theorem dT_init_1 : decode cT_init 1 = .ok (.invokespecial 3, 3) := by decide +kernel
theorem dT_init_4 : decode cT_init 4 = .ok (.aload_n 0, 1) := by decide +kernel
theorem dT_init_5 : decode cT_init 5 = .ok (.iload_n 1, 1) := by decide +kernel
theorem dT_init_6 : decode cT_init 6 = .ok (.newarray .int, 2) := by decide +kernel
theorem dT_init_8 : decode cT_init 8 = .ok (.putfield 9, 3) := by decide +kernel
theorem dT_init_11 : decode cT_init 11 = .ok (.aload_n 0, 1) := by decide +kernel
theorem dT_init_12 : decode cT_init 12 = .ok (.iconst 1, 1) := by decide +kernel
theorem dT_init_13 : decode cT_init 13 = .ok (.putfield 15, 3) := by decide +kernel
theorem dT_init_16 : decode cT_init 16 = .ok (.return_, 1) := by decide +kernel
theorem dT_first_0 : decode cT_first 0 = .ok (.aload_n 0, 1) := by decide +kernel
theorem dT_first_1 : decode cT_first 1 = .ok (.getfield 9, 3) := by decide +kernel
theorem dT_first_4 : decode cT_first 4 = .ok (.iconst 0, 1) := by decide +kernel
theorem dT_first_5 : decode cT_first 5 = .ok (.iaload, 1) := by decide +kernel
theorem dT_first_6 : decode cT_first 6 = .ok (.ireturn, 1) := by decide +kernel
theorem dT_becomeFree_0 : decode cT_becomeFree 0 = .ok (.aload_n 0, 1) := by decide +kernel
theorem dT_becomeFree_1 : decode cT_becomeFree 1 = .ok (.getfield 9, 3) := by decide +kernel
theorem dT_becomeFree_4 : decode cT_becomeFree 4 = .ok (.iconst 0, 1) := by decide +kernel
theorem dT_becomeFree_5 : decode cT_becomeFree 5 = .ok (.iload_n 1, 1) := by decide +kernel
theorem dT_becomeFree_6 : decode cT_becomeFree 6 = .ok (.iastore, 1) := by decide +kernel
theorem dT_becomeFree_7 : decode cT_becomeFree 7 = .ok (.aload_n 0, 1) := by decide +kernel
theorem dT_becomeFree_8 : decode cT_becomeFree 8 = .ok (.iconst 1, 1) := by decide +kernel
theorem dT_becomeFree_9 : decode cT_becomeFree 9 = .ok (.putfield 15, 3) := by decide +kernel
theorem dT_becomeFree_12 : decode cT_becomeFree 12 = .ok (.return_, 1) := by decide +kernel
theorem dT_become_0 : decode cT_become 0 = .ok (.aload_n 0, 1) := by decide +kernel
theorem dT_become_1 : decode cT_become 1 = .ok (.aload_n 1, 1) := by decide +kernel
theorem dT_become_2 : decode cT_become 2 = .ok (.getfield 15, 3) := by decide +kernel
theorem dT_become_5 : decode cT_become 5 = .ok (.invokevirtual 19, 3) := by decide +kernel
theorem dT_become_8 : decode cT_become 8 = .ok (.aload_n 1, 1) := by decide +kernel
theorem dT_become_9 : decode cT_become 9 = .ok (.getfield 9, 3) := by decide +kernel
theorem dT_become_12 : decode cT_become 12 = .ok (.iconst 0, 1) := by decide +kernel
theorem dT_become_13 : decode cT_become 13 = .ok (.aload_n 0, 1) := by decide +kernel
theorem dT_become_14 : decode cT_become 14 = .ok (.getfield 9, 3) := by decide +kernel
theorem dT_become_17 : decode cT_become 17 = .ok (.iconst 0, 1) := by decide +kernel
theorem dT_become_18 : decode cT_become 18 = .ok (.aload_n 1, 1) := by decide +kernel
theorem dT_become_19 : decode cT_become 19 = .ok (.getfield 15, 3) := by decide +kernel
theorem dT_become_22 : decode cT_become 22 = .ok (.invokestatic 23, 3) := by decide +kernel
theorem dT_become_25 : decode cT_become 25 = .ok (.aload_n 0, 1) := by decide +kernel
theorem dT_become_26 : decode cT_become 26 = .ok (.aload_n 1, 1) := by decide +kernel
theorem dT_become_27 : decode cT_become 27 = .ok (.getfield 15, 3) := by decide +kernel
theorem dT_become_30 : decode cT_become 30 = .ok (.putfield 15, 3) := by decide +kernel
theorem dT_become_33 : decode cT_become 33 = .ok (.aload_n 0, 1) := by decide +kernel
theorem dT_become_34 : decode cT_become 34 = .ok (.getfield 15, 3) := by decide +kernel
theorem dT_become_37 : decode cT_become 37 = .ok (.ireturn, 1) := by decide +kernel
theorem dT_reserve_0 : decode cT_reserve 0 = .ok (.iload_n 1, 1) := by decide +kernel
theorem dT_reserve_1 : decode cT_reserve 1 = .ok (.aload_n 0, 1) := by decide +kernel
theorem dT_reserve_2 : decode cT_reserve 2 = .ok (.getfield 9, 3) := by decide +kernel
theorem dT_reserve_5 : decode cT_reserve 5 = .ok (.arraylength, 1) := by decide +kernel
theorem dT_reserve_6 : decode cT_reserve 6 = .ok (.if_icmp .le 26, 3) := by decide +kernel
theorem dT_reserve_9 : decode cT_reserve 9 = .ok (.aload_n 0, 1) := by decide +kernel
theorem dT_reserve_10 : decode cT_reserve 10 = .ok (.sipush 2000, 3) := by decide +kernel
theorem dT_reserve_13 : decode cT_reserve 13 = .ok (.iload_n 1, 1) := by decide +kernel
theorem dT_reserve_14 : decode cT_reserve 14 = .ok (.iconst 2, 1) := by decide +kernel
theorem dT_reserve_15 : decode cT_reserve 15 = .ok (.aload_n 0, 1) := by decide +kernel
theorem dT_reserve_16 : decode cT_reserve 16 = .ok (.getfield 9, 3) := by decide +kernel
theorem dT_reserve_19 : decode cT_reserve 19 = .ok (.arraylength, 1) := by decide +kernel
theorem dT_reserve_20 : decode cT_reserve 20 = .ok (.imul, 1) := by decide +kernel
theorem dT_reserve_21 : decode cT_reserve 21 = .ok (.invokestatic 29, 3) := by decide +kernel
theorem dT_reserve_24 : decode cT_reserve 24 = .ok (.invokestatic 35, 3) := by decide +kernel
theorem dT_reserve_27 : decode cT_reserve 27 = .ok (.newarray .int, 2) := by decide +kernel
theorem dT_reserve_29 : decode cT_reserve 29 = .ok (.putfield 9, 3) := by decide +kernel
theorem dT_reserve_32 : decode cT_reserve 32 = .ok (.return_, 1) := by decide +kernel
theorem dT_clear_0 : decode cT_clear 0 = .ok (.aload_n 0, 1) := by decide +kernel
theorem dT_clear_1 : decode cT_clear 1 = .ok (.iconst 0, 1) := by decide +kernel
theorem dT_clear_2 : decode cT_clear 2 = .ok (.putfield 15, 3) := by decide +kernel
theorem dT_clear_5 : decode cT_clear 5 = .ok (.return_, 1) := by decide +kernel
theorem dT_add_0 : decode cT_add 0 = .ok (.aload_n 0, 1) := by decide +kernel
theorem dT_add_1 : decode cT_add 1 = .ok (.getfield 15, 3) := by decide +kernel
theorem dT_add_4 : decode cT_add 4 = .ok (.aload_n 0, 1) := by decide +kernel
theorem dT_add_5 : decode cT_add 5 = .ok (.getfield 9, 3) := by decide +kernel
theorem dT_add_8 : decode cT_add 8 = .ok (.arraylength, 1) := by decide +kernel
theorem dT_add_9 : decode cT_add 9 = .ok (.if_icmp .ge 13, 3) := by decide +kernel
theorem dT_add_12 : decode cT_add 12 = .ok (.aload_n 0, 1) := by decide +kernel
theorem dT_add_13 : decode cT_add 13 = .ok (.getfield 9, 3) := by decide +kernel
theorem dT_add_16 : decode cT_add 16 = .ok (.aload_n 0, 1) := by decide +kernel
theorem dT_add_17 : decode cT_add 17 = .ok (.getfield 15, 3) := by decide +kernel
theorem dT_add_20 : decode cT_add 20 = .ok (.iload_n 1, 1) := by decide +kernel
theorem dT_add_21 : decode cT_add 21 = .ok (.iastore, 1) := by decide +kernel
theorem dT_add_22 : decode cT_add 22 = .ok (.aload_n 0, 1) := by decide +kernel
theorem dT_add_23 : decode cT_add 23 = .ok (.dup, 1) := by decide +kernel
theorem dT_add_24 : decode cT_add 24 = .ok (.getfield 15, 3) := by decide +kernel
theorem dT_add_27 : decode cT_add 27 = .ok (.iconst 1, 1) := by decide +kernel
theorem dT_add_28 : decode cT_add 28 = .ok (.iadd, 1) := by decide +kernel
theorem dT_add_29 : decode cT_add 29 = .ok (.putfield 15, 3) := by decide +kernel
theorem dT_add_32 : decode cT_add 32 = .ok (.return_, 1) := by decide +kernel
theorem dT_addAll_0 : decode cT_addAll 0 = .ok (.aload_n 0, 1) := by decide +kernel
theorem dT_addAll_1 : decode cT_addAll 1 = .ok (.iload_n 3, 1) := by decide +kernel
theorem dT_addAll_2 : decode cT_addAll 2 = .ok (.iload_n 2, 1) := by decide +kernel
theorem dT_addAll_3 : decode cT_addAll 3 = .ok (.isub, 1) := by decide +kernel
theorem dT_addAll_4 : decode cT_addAll 4 = .ok (.invokevirtual 38, 3) := by decide +kernel
theorem dT_addAll_7 : decode cT_addAll 7 = .ok (.ifCond .eq 22, 3) := by decide +kernel
theorem dT_addAll_10 : decode cT_addAll 10 = .ok (.aload_n 1, 1) := by decide +kernel
theorem dT_addAll_11 : decode cT_addAll 11 = .ok (.getfield 9, 3) := by decide +kernel
theorem dT_addAll_14 : decode cT_addAll 14 = .ok (.iload_n 2, 1) := by decide +kernel
theorem dT_addAll_15 : decode cT_addAll 15 = .ok (.aload_n 0, 1) := by decide +kernel
theorem dT_addAll_16 : decode cT_addAll 16 = .ok (.getfield 9, 3) := by decide +kernel
theorem dT_addAll_19 : decode cT_addAll 19 = .ok (.aload_n 0, 1) := by decide +kernel
theorem dT_addAll_20 : decode cT_addAll 20 = .ok (.getfield 15, 3) := by decide +kernel
theorem dT_addAll_23 : decode cT_addAll 23 = .ok (.iload_n 3, 1) := by decide +kernel
theorem dT_addAll_24 : decode cT_addAll 24 = .ok (.iload_n 2, 1) := by decide +kernel
theorem dT_addAll_25 : decode cT_addAll 25 = .ok (.isub, 1) := by decide +kernel
theorem dT_addAll_26 : decode cT_addAll 26 = .ok (.invokestatic 23, 3) := by decide +kernel
theorem dT_addAll_29 : decode cT_addAll 29 = .ok (.aload_n 0, 1) := by decide +kernel
theorem dT_addAll_30 : decode cT_addAll 30 = .ok (.dup, 1) := by decide +kernel
theorem dT_addAll_31 : decode cT_addAll 31 = .ok (.getfield 15, 3) := by decide +kernel
theorem dT_addAll_34 : decode cT_addAll 34 = .ok (.iload_n 3, 1) := by decide +kernel
theorem dT_addAll_35 : decode cT_addAll 35 = .ok (.iload_n 2, 1) := by decide +kernel
theorem dT_addAll_36 : decode cT_addAll 36 = .ok (.isub, 1) := by decide +kernel
theorem dT_addAll_37 : decode cT_addAll 37 = .ok (.iadd, 1) := by decide +kernel
theorem dT_addAll_38 : decode cT_addAll 38 = .ok (.putfield 15, 3) := by decide +kernel
theorem dT_addAll_41 : decode cT_addAll 41 = .ok (.return_, 1) := by decide +kernel
theorem dT_takes_0 : decode cT_takes 0 = .ok (.iload_n 1, 1) := by decide +kernel
theorem dT_takes_1 : decode cT_takes 1 = .ok (.aload_n 0, 1) := by decide +kernel
theorem dT_takes_2 : decode cT_takes 2 = .ok (.getfield 9, 3) := by decide +kernel
theorem dT_takes_5 : decode cT_takes 5 = .ok (.arraylength, 1) := by decide +kernel
theorem dT_takes_6 : decode cT_takes 6 = .ok (.aload_n 0, 1) := by decide +kernel
theorem dT_takes_7 : decode cT_takes 7 = .ok (.getfield 15, 3) := by decide +kernel
theorem dT_takes_10 : decode cT_takes 10 = .ok (.isub, 1) := by decide +kernel
theorem dT_takes_11 : decode cT_takes 11 = .ok (.if_icmp .gt 7, 3) := by decide +kernel
theorem dT_takes_14 : decode cT_takes 14 = .ok (.iconst 1, 1) := by decide +kernel
theorem dT_takes_15 : decode cT_takes 15 = .ok (.goto 4, 3) := by decide +kernel
theorem dT_takes_18 : decode cT_takes 18 = .ok (.iconst 0, 1) := by decide +kernel
theorem dT_takes_19 : decode cT_takes 19 = .ok (.ireturn, 1) := by decide +kernel
theorem dT_endOf_0 : decode cT_endOf 0 = .ok (.iconst 1, 1) := by decide +kernel
theorem dT_endOf_1 : decode cT_endOf 1 = .ok (.istore_n 2, 1) := by decide +kernel
theorem dT_endOf_2 : decode cT_endOf 2 = .ok (.iload_n 1, 1) := by decide +kernel
theorem dT_endOf_3 : decode cT_endOf 3 = .ok (.istore_n 3, 1) := by decide +kernel
theorem dT_endOf_4 : decode cT_endOf 4 = .ok (.iload_n 3, 1) := by decide +kernel
theorem dT_endOf_5 : decode cT_endOf 5 = .ok (.aload_n 0, 1) := by decide +kernel
theorem dT_endOf_6 : decode cT_endOf 6 = .ok (.getfield 15, 3) := by decide +kernel
theorem dT_endOf_9 : decode cT_endOf 9 = .ok (.if_icmp .ge 43, 3) := by decide +kernel
theorem dT_endOf_12 : decode cT_endOf 12 = .ok (.iload_n 2, 1) := by decide +kernel
theorem dT_endOf_13 : decode cT_endOf 13 = .ok (.ifCond .le 39, 3) := by decide +kernel
theorem dT_endOf_16 : decode cT_endOf 16 = .ok (.aload_n 0, 1) := by decide +kernel
theorem dT_endOf_17 : decode cT_endOf 17 = .ok (.getfield 9, 3) := by decide +kernel
theorem dT_endOf_20 : decode cT_endOf 20 = .ok (.iload_n 3, 1) := by decide +kernel
theorem dT_endOf_21 : decode cT_endOf 21 = .ok (.iaload, 1) := by decide +kernel
theorem dT_endOf_22 : decode cT_endOf 22 = .ok (.iconst (-1), 1) := by decide +kernel
theorem dT_endOf_23 : decode cT_endOf 23 = .ok (.if_icmp .ne 9, 3) := by decide +kernel
theorem dT_endOf_26 : decode cT_endOf 26 = .ok (.iinc 2 1, 3) := by decide +kernel
theorem dT_endOf_29 : decode cT_endOf 29 = .ok (.goto 17, 3) := by decide +kernel
theorem dT_endOf_32 : decode cT_endOf 32 = .ok (.aload_n 0, 1) := by decide +kernel
theorem dT_endOf_33 : decode cT_endOf 33 = .ok (.getfield 9, 3) := by decide +kernel
theorem dT_endOf_36 : decode cT_endOf 36 = .ok (.iload_n 3, 1) := by decide +kernel
theorem dT_endOf_37 : decode cT_endOf 37 = .ok (.iaload, 1) := by decide +kernel
theorem dT_endOf_38 : decode cT_endOf 38 = .ok (.bipush (-2), 2) := by decide +kernel
theorem dT_endOf_40 : decode cT_endOf 40 = .ok (.if_icmp .eq 6, 3) := by decide +kernel
theorem dT_endOf_43 : decode cT_endOf 43 = .ok (.iinc 2 (-1), 3) := by decide +kernel
theorem dT_endOf_46 : decode cT_endOf 46 = .ok (.iinc 3 1, 3) := by decide +kernel
theorem dT_endOf_49 : decode cT_endOf 49 = .ok (.goto (-45), 3) := by decide +kernel
theorem dT_endOf_52 : decode cT_endOf 52 = .ok (.iload_n 3, 1) := by decide +kernel
theorem dT_endOf_53 : decode cT_endOf 53 = .ok (.ireturn, 1) := by decide +kernel
theorem dT_isRedex_0 : decode cT_isRedex 0 = .ok (.aload_n 0, 1) := by decide +kernel
theorem dT_isRedex_1 : decode cT_isRedex 1 = .ok (.getfield 9, 3) := by decide +kernel
theorem dT_isRedex_4 : decode cT_isRedex 4 = .ok (.iload_n 1, 1) := by decide +kernel
theorem dT_isRedex_5 : decode cT_isRedex 5 = .ok (.iaload, 1) := by decide +kernel
theorem dT_isRedex_6 : decode cT_isRedex 6 = .ok (.iconst (-1), 1) := by decide +kernel
theorem dT_isRedex_7 : decode cT_isRedex 7 = .ok (.if_icmp .ne 20, 3) := by decide +kernel
theorem dT_isRedex_10 : decode cT_isRedex 10 = .ok (.aload_n 0, 1) := by decide +kernel
theorem dT_isRedex_11 : decode cT_isRedex 11 = .ok (.getfield 9, 3) := by decide +kernel
theorem dT_isRedex_14 : decode cT_isRedex 14 = .ok (.iload_n 1, 1) := by decide +kernel
theorem dT_isRedex_15 : decode cT_isRedex 15 = .ok (.iconst 1, 1) := by decide +kernel
theorem dT_isRedex_16 : decode cT_isRedex 16 = .ok (.iadd, 1) := by decide +kernel
theorem dT_isRedex_17 : decode cT_isRedex 17 = .ok (.iaload, 1) := by decide +kernel
theorem dT_isRedex_18 : decode cT_isRedex 18 = .ok (.bipush (-2), 2) := by decide +kernel
theorem dT_isRedex_20 : decode cT_isRedex 20 = .ok (.if_icmp .ne 7, 3) := by decide +kernel
theorem dT_isRedex_23 : decode cT_isRedex 23 = .ok (.iconst 1, 1) := by decide +kernel
theorem dT_isRedex_24 : decode cT_isRedex 24 = .ok (.goto 4, 3) := by decide +kernel
theorem dT_isRedex_27 : decode cT_isRedex 27 = .ok (.iconst 0, 1) := by decide +kernel
theorem dT_isRedex_28 : decode cT_isRedex 28 = .ok (.ireturn, 1) := by decide +kernel
theorem dT_firstRedex_0 : decode cT_firstRedex 0 = .ok (.iload_n 1, 1) := by decide +kernel
theorem dT_firstRedex_1 : decode cT_firstRedex 1 = .ok (.istore_n 2, 1) := by decide +kernel
theorem dT_firstRedex_2 : decode cT_firstRedex 2 = .ok (.iload_n 2, 1) := by decide +kernel
theorem dT_firstRedex_3 : decode cT_firstRedex 3 = .ok (.aload_n 0, 1) := by decide +kernel
theorem dT_firstRedex_4 : decode cT_firstRedex 4 = .ok (.getfield 15, 3) := by decide +kernel
theorem dT_firstRedex_7 : decode cT_firstRedex 7 = .ok (.iconst 1, 1) := by decide +kernel
theorem dT_firstRedex_8 : decode cT_firstRedex 8 = .ok (.isub, 1) := by decide +kernel
theorem dT_firstRedex_9 : decode cT_firstRedex 9 = .ok (.if_icmp .ge 19, 3) := by decide +kernel
theorem dT_firstRedex_12 : decode cT_firstRedex 12 = .ok (.aload_n 0, 1) := by decide +kernel
theorem dT_firstRedex_13 : decode cT_firstRedex 13 = .ok (.iload_n 2, 1) := by decide +kernel
theorem dT_firstRedex_14 : decode cT_firstRedex 14 = .ok (.invokevirtual 42, 3) := by decide +kernel
theorem dT_firstRedex_17 : decode cT_firstRedex 17 = .ok (.ifCond .eq 5, 3) := by decide +kernel
theorem dT_firstRedex_20 : decode cT_firstRedex 20 = .ok (.iload_n 2, 1) := by decide +kernel
theorem dT_firstRedex_21 : decode cT_firstRedex 21 = .ok (.ireturn, 1) := by decide +kernel
theorem dT_firstRedex_22 : decode cT_firstRedex 22 = .ok (.iinc 2 1, 3) := by decide +kernel
theorem dT_firstRedex_25 : decode cT_firstRedex 25 = .ok (.goto (-23), 3) := by decide +kernel
theorem dT_firstRedex_28 : decode cT_firstRedex 28 = .ok (.iconst (-1), 1) := by decide +kernel
theorem dT_firstRedex_29 : decode cT_firstRedex 29 = .ok (.ireturn, 1) := by decide +kernel
theorem dT_headRedex_0 : decode cT_headRedex 0 = .ok (.iconst 0, 1) := by decide +kernel
theorem dT_headRedex_1 : decode cT_headRedex 1 = .ok (.istore_n 1, 1) := by decide +kernel
theorem dT_headRedex_2 : decode cT_headRedex 2 = .ok (.iload_n 1, 1) := by decide +kernel
theorem dT_headRedex_3 : decode cT_headRedex 3 = .ok (.aload_n 0, 1) := by decide +kernel
theorem dT_headRedex_4 : decode cT_headRedex 4 = .ok (.getfield 15, 3) := by decide +kernel
theorem dT_headRedex_7 : decode cT_headRedex 7 = .ok (.iconst 1, 1) := by decide +kernel
theorem dT_headRedex_8 : decode cT_headRedex 8 = .ok (.isub, 1) := by decide +kernel
theorem dT_headRedex_9 : decode cT_headRedex 9 = .ok (.if_icmp .ge 29, 3) := by decide +kernel
theorem dT_headRedex_12 : decode cT_headRedex 12 = .ok (.aload_n 0, 1) := by decide +kernel
theorem dT_headRedex_13 : decode cT_headRedex 13 = .ok (.getfield 9, 3) := by decide +kernel
theorem dT_headRedex_16 : decode cT_headRedex 16 = .ok (.iload_n 1, 1) := by decide +kernel
theorem dT_headRedex_17 : decode cT_headRedex 17 = .ok (.iaload, 1) := by decide +kernel
theorem dT_headRedex_18 : decode cT_headRedex 18 = .ok (.iconst (-1), 1) := by decide +kernel
theorem dT_headRedex_19 : decode cT_headRedex 19 = .ok (.if_icmp .ne 19, 3) := by decide +kernel
theorem dT_headRedex_22 : decode cT_headRedex 22 = .ok (.aload_n 0, 1) := by decide +kernel
theorem dT_headRedex_23 : decode cT_headRedex 23 = .ok (.iload_n 1, 1) := by decide +kernel
theorem dT_headRedex_24 : decode cT_headRedex 24 = .ok (.invokevirtual 42, 3) := by decide +kernel
theorem dT_headRedex_27 : decode cT_headRedex 27 = .ok (.ifCond .eq 5, 3) := by decide +kernel
theorem dT_headRedex_30 : decode cT_headRedex 30 = .ok (.iload_n 1, 1) := by decide +kernel
theorem dT_headRedex_31 : decode cT_headRedex 31 = .ok (.ireturn, 1) := by decide +kernel
theorem dT_headRedex_32 : decode cT_headRedex 32 = .ok (.iinc 1 1, 3) := by decide +kernel
theorem dT_headRedex_35 : decode cT_headRedex 35 = .ok (.goto (-33), 3) := by decide +kernel
theorem dT_headRedex_38 : decode cT_headRedex 38 = .ok (.iconst (-1), 1) := by decide +kernel
theorem dT_headRedex_39 : decode cT_headRedex 39 = .ok (.ireturn, 1) := by decide +kernel
theorem dT_redexes_0 : decode cT_redexes 0 = .ok (.iconst 0, 1) := by decide +kernel
theorem dT_redexes_1 : decode cT_redexes 1 = .ok (.istore_n 1, 1) := by decide +kernel
theorem dT_redexes_2 : decode cT_redexes 2 = .ok (.iconst 0, 1) := by decide +kernel
theorem dT_redexes_3 : decode cT_redexes 3 = .ok (.istore_n 2, 1) := by decide +kernel
theorem dT_redexes_4 : decode cT_redexes 4 = .ok (.iload_n 2, 1) := by decide +kernel
theorem dT_redexes_5 : decode cT_redexes 5 = .ok (.aload_n 0, 1) := by decide +kernel
theorem dT_redexes_6 : decode cT_redexes 6 = .ok (.getfield 15, 3) := by decide +kernel
theorem dT_redexes_9 : decode cT_redexes 9 = .ok (.iconst 1, 1) := by decide +kernel
theorem dT_redexes_10 : decode cT_redexes 10 = .ok (.isub, 1) := by decide +kernel
theorem dT_redexes_11 : decode cT_redexes 11 = .ok (.if_icmp .ge 20, 3) := by decide +kernel
theorem dT_redexes_14 : decode cT_redexes 14 = .ok (.aload_n 0, 1) := by decide +kernel
theorem dT_redexes_15 : decode cT_redexes 15 = .ok (.iload_n 2, 1) := by decide +kernel
theorem dT_redexes_16 : decode cT_redexes 16 = .ok (.invokevirtual 42, 3) := by decide +kernel
theorem dT_redexes_19 : decode cT_redexes 19 = .ok (.ifCond .eq 6, 3) := by decide +kernel
theorem dT_redexes_22 : decode cT_redexes 22 = .ok (.iinc 1 1, 3) := by decide +kernel
theorem dT_redexes_25 : decode cT_redexes 25 = .ok (.iinc 2 1, 3) := by decide +kernel
theorem dT_redexes_28 : decode cT_redexes 28 = .ok (.goto (-24), 3) := by decide +kernel
theorem dT_redexes_31 : decode cT_redexes 31 = .ok (.iload_n 1, 1) := by decide +kernel
theorem dT_redexes_32 : decode cT_redexes 32 = .ok (.ireturn, 1) := by decide +kernel
theorem dT_kind_0 : decode cT_kind 0 = .ok (.aload_n 0, 1) := by decide +kernel
theorem dT_kind_1 : decode cT_kind 1 = .ok (.getfield 9, 3) := by decide +kernel
theorem dT_kind_4 : decode cT_kind 4 = .ok (.iconst 0, 1) := by decide +kernel
theorem dT_kind_5 : decode cT_kind 5 = .ok (.iaload, 1) := by decide +kernel
theorem dT_kind_6 : decode cT_kind 6 = .ok (.iconst (-1), 1) := by decide +kernel
theorem dT_kind_7 : decode cT_kind 7 = .ok (.if_icmp .ne 5, 3) := by decide +kernel
theorem dT_kind_10 : decode cT_kind 10 = .ok (.iconst 1, 1) := by decide +kernel
theorem dT_kind_11 : decode cT_kind 11 = .ok (.ireturn, 1) := by decide +kernel
theorem dT_kind_12 : decode cT_kind 12 = .ok (.aload_n 0, 1) := by decide +kernel
theorem dT_kind_13 : decode cT_kind 13 = .ok (.getfield 9, 3) := by decide +kernel
theorem dT_kind_16 : decode cT_kind 16 = .ok (.iconst 0, 1) := by decide +kernel
theorem dT_kind_17 : decode cT_kind 17 = .ok (.iaload, 1) := by decide +kernel
theorem dT_kind_18 : decode cT_kind 18 = .ok (.bipush (-2), 2) := by decide +kernel
theorem dT_kind_20 : decode cT_kind 20 = .ok (.if_icmp .ne 7, 3) := by decide +kernel
theorem dT_kind_23 : decode cT_kind 23 = .ok (.iconst 2, 1) := by decide +kernel
theorem dT_kind_24 : decode cT_kind 24 = .ok (.goto 4, 3) := by decide +kernel
theorem dT_kind_27 : decode cT_kind 27 = .ok (.iconst 0, 1) := by decide +kernel
theorem dT_kind_28 : decode cT_kind 28 = .ok (.ireturn, 1) := by decide +kernel
theorem dT_places_0 : decode cT_places 0 = .ok (.iconst 0, 1) := by decide +kernel
theorem dT_places_1 : decode cT_places 1 = .ok (.istore_n 2, 1) := by decide +kernel
theorem dT_places_2 : decode cT_places 2 = .ok (.iconst 0, 1) := by decide +kernel
theorem dT_places_3 : decode cT_places 3 = .ok (.istore_n 3, 1) := by decide +kernel
theorem dT_places_4 : decode cT_places 4 = .ok (.iload_n 3, 1) := by decide +kernel
theorem dT_places_5 : decode cT_places 5 = .ok (.aload_n 0, 1) := by decide +kernel
theorem dT_places_6 : decode cT_places 6 = .ok (.getfield 15, 3) := by decide +kernel
theorem dT_places_9 : decode cT_places 9 = .ok (.if_icmp .ge 22, 3) := by decide +kernel
theorem dT_places_12 : decode cT_places 12 = .ok (.aload_n 0, 1) := by decide +kernel
theorem dT_places_13 : decode cT_places 13 = .ok (.getfield 9, 3) := by decide +kernel
theorem dT_places_16 : decode cT_places 16 = .ok (.iload_n 3, 1) := by decide +kernel
theorem dT_places_17 : decode cT_places 17 = .ok (.iaload, 1) := by decide +kernel
theorem dT_places_18 : decode cT_places 18 = .ok (.iload_n 1, 1) := by decide +kernel
theorem dT_places_19 : decode cT_places 19 = .ok (.if_icmp .ne 6, 3) := by decide +kernel
theorem dT_places_22 : decode cT_places 22 = .ok (.iinc 2 1, 3) := by decide +kernel
theorem dT_places_25 : decode cT_places 25 = .ok (.iinc 3 1, 3) := by decide +kernel
theorem dT_places_28 : decode cT_places 28 = .ok (.goto (-24), 3) := by decide +kernel
theorem dT_places_31 : decode cT_places 31 = .ok (.iload_n 2, 1) := by decide +kernel
theorem dT_places_32 : decode cT_places 32 = .ok (.ireturn, 1) := by decide +kernel
theorem dT_differentFree_0 : decode cT_differentFree 0 = .ok (.lconst 0, 1) := by decide +kernel
theorem dT_differentFree_1 : decode cT_differentFree 1 = .ok (.lstore_n 1, 1) := by decide +kernel
theorem dT_differentFree_2 : decode cT_differentFree 2 = .ok (.lconst 0, 1) := by decide +kernel
theorem dT_differentFree_3 : decode cT_differentFree 3 = .ok (.lstore_n 3, 1) := by decide +kernel
theorem dT_differentFree_4 : decode cT_differentFree 4 = .ok (.iconst 0, 1) := by decide +kernel
theorem dT_differentFree_5 : decode cT_differentFree 5 = .ok (.istore 5, 2) := by decide +kernel
theorem dT_differentFree_7 : decode cT_differentFree 7 = .ok (.iload 5, 2) := by decide +kernel
theorem dT_differentFree_9 : decode cT_differentFree 9 = .ok (.aload_n 0, 1) := by decide +kernel
theorem dT_differentFree_10 : decode cT_differentFree 10 = .ok (.getfield 15, 3) := by decide +kernel
theorem dT_differentFree_13 : decode cT_differentFree 13 = .ok (.if_icmp .ge 64, 3) := by decide +kernel
theorem dT_differentFree_16 : decode cT_differentFree 16 = .ok (.aload_n 0, 1) := by decide +kernel
theorem dT_differentFree_17 : decode cT_differentFree 17 = .ok (.getfield 9, 3) := by decide +kernel
theorem dT_differentFree_20 : decode cT_differentFree 20 = .ok (.iload 5, 2) := by decide +kernel
theorem dT_differentFree_22 : decode cT_differentFree 22 = .ok (.iaload, 1) := by decide +kernel
theorem dT_differentFree_23 : decode cT_differentFree 23 = .ok (.istore 6, 2) := by decide +kernel
theorem dT_differentFree_25 : decode cT_differentFree 25 = .ok (.iload 6, 2) := by decide +kernel
theorem dT_differentFree_27 : decode cT_differentFree 27 = .ok (.ifCond .lt 20, 3) := by decide +kernel
theorem dT_differentFree_30 : decode cT_differentFree 30 = .ok (.iload 6, 2) := by decide +kernel
theorem dT_differentFree_32 : decode cT_differentFree 32 = .ok (.bipush 64, 2) := by decide +kernel
theorem dT_differentFree_34 : decode cT_differentFree 34 = .ok (.if_icmp .ge 13, 3) := by decide +kernel
theorem dT_differentFree_37 : decode cT_differentFree 37 = .ok (.lload_n 1, 1) := by decide +kernel
theorem dT_differentFree_38 : decode cT_differentFree 38 = .ok (.lconst 1, 1) := by decide +kernel
theorem dT_differentFree_39 : decode cT_differentFree 39 = .ok (.iload 6, 2) := by decide +kernel
theorem dT_differentFree_41 : decode cT_differentFree 41 = .ok (.lshl, 1) := by decide +kernel
theorem dT_differentFree_42 : decode cT_differentFree 42 = .ok (.lor, 1) := by decide +kernel
theorem dT_differentFree_43 : decode cT_differentFree 43 = .ok (.lstore_n 1, 1) := by decide +kernel
theorem dT_differentFree_44 : decode cT_differentFree 44 = .ok (.goto 27, 3) := by decide +kernel
theorem dT_differentFree_47 : decode cT_differentFree 47 = .ok (.iload 6, 2) := by decide +kernel
theorem dT_differentFree_49 : decode cT_differentFree 49 = .ok (.bipush 64, 2) := by decide +kernel
theorem dT_differentFree_51 : decode cT_differentFree 51 = .ok (.if_icmp .lt 20, 3) := by decide +kernel
theorem dT_differentFree_54 : decode cT_differentFree 54 = .ok (.iload 6, 2) := by decide +kernel
theorem dT_differentFree_56 : decode cT_differentFree 56 = .ok (.bipush 99, 2) := by decide +kernel
theorem dT_differentFree_58 : decode cT_differentFree 58 = .ok (.if_icmp .gt 13, 3) := by decide +kernel
theorem dT_differentFree_61 : decode cT_differentFree 61 = .ok (.lload_n 3, 1) := by decide +kernel
theorem dT_differentFree_62 : decode cT_differentFree 62 = .ok (.lconst 1, 1) := by decide +kernel
theorem dT_differentFree_63 : decode cT_differentFree 63 = .ok (.iload 6, 2) := by decide +kernel
theorem dT_differentFree_65 : decode cT_differentFree 65 = .ok (.bipush 64, 2) := by decide +kernel
theorem dT_differentFree_67 : decode cT_differentFree 67 = .ok (.isub, 1) := by decide +kernel
theorem dT_differentFree_68 : decode cT_differentFree 68 = .ok (.lshl, 1) := by decide +kernel
theorem dT_differentFree_69 : decode cT_differentFree 69 = .ok (.lor, 1) := by decide +kernel
theorem dT_differentFree_70 : decode cT_differentFree 70 = .ok (.lstore_n 3, 1) := by decide +kernel
theorem dT_differentFree_71 : decode cT_differentFree 71 = .ok (.iinc 5 1, 3) := by decide +kernel
theorem dT_differentFree_74 : decode cT_differentFree 74 = .ok (.goto (-67), 3) := by decide +kernel
theorem dT_differentFree_77 : decode cT_differentFree 77 = .ok (.lload_n 1, 1) := by decide +kernel
theorem dT_differentFree_78 : decode cT_differentFree 78 = .ok (.invokestatic 45, 3) := by decide +kernel
theorem dT_differentFree_81 : decode cT_differentFree 81 = .ok (.lload_n 3, 1) := by decide +kernel
theorem dT_differentFree_82 : decode cT_differentFree 82 = .ok (.invokestatic 45, 3) := by decide +kernel
theorem dT_differentFree_85 : decode cT_differentFree 85 = .ok (.iadd, 1) := by decide +kernel
theorem dT_differentFree_86 : decode cT_differentFree 86 = .ok (.ireturn, 1) := by decide +kernel
theorem dT_equalTo_0 : decode cT_equalTo 0 = .ok (.aload_n 0, 1) := by decide +kernel
theorem dT_equalTo_1 : decode cT_equalTo 1 = .ok (.getfield 15, 3) := by decide +kernel
theorem dT_equalTo_4 : decode cT_equalTo 4 = .ok (.aload_n 1, 1) := by decide +kernel
theorem dT_equalTo_5 : decode cT_equalTo 5 = .ok (.getfield 15, 3) := by decide +kernel
theorem dT_equalTo_8 : decode cT_equalTo 8 = .ok (.if_icmp .eq 5, 3) := by decide +kernel
theorem dT_equalTo_11 : decode cT_equalTo 11 = .ok (.iconst 0, 1) := by decide +kernel
theorem dT_equalTo_12 : decode cT_equalTo 12 = .ok (.ireturn, 1) := by decide +kernel
theorem dT_equalTo_13 : decode cT_equalTo 13 = .ok (.iconst 0, 1) := by decide +kernel
theorem dT_equalTo_14 : decode cT_equalTo 14 = .ok (.istore_n 2, 1) := by decide +kernel
theorem dT_equalTo_15 : decode cT_equalTo 15 = .ok (.iload_n 2, 1) := by decide +kernel
theorem dT_equalTo_16 : decode cT_equalTo 16 = .ok (.aload_n 0, 1) := by decide +kernel
theorem dT_equalTo_17 : decode cT_equalTo 17 = .ok (.getfield 15, 3) := by decide +kernel
theorem dT_equalTo_20 : decode cT_equalTo 20 = .ok (.if_icmp .ge 26, 3) := by decide +kernel
theorem dT_equalTo_23 : decode cT_equalTo 23 = .ok (.aload_n 0, 1) := by decide +kernel
theorem dT_equalTo_24 : decode cT_equalTo 24 = .ok (.getfield 9, 3) := by decide +kernel
theorem dT_equalTo_27 : decode cT_equalTo 27 = .ok (.iload_n 2, 1) := by decide +kernel
theorem dT_equalTo_28 : decode cT_equalTo 28 = .ok (.iaload, 1) := by decide +kernel
theorem dT_equalTo_29 : decode cT_equalTo 29 = .ok (.aload_n 1, 1) := by decide +kernel
theorem dT_equalTo_30 : decode cT_equalTo 30 = .ok (.getfield 9, 3) := by decide +kernel
theorem dT_equalTo_33 : decode cT_equalTo 33 = .ok (.iload_n 2, 1) := by decide +kernel
theorem dT_equalTo_34 : decode cT_equalTo 34 = .ok (.iaload, 1) := by decide +kernel
theorem dT_equalTo_35 : decode cT_equalTo 35 = .ok (.if_icmp .eq 5, 3) := by decide +kernel
theorem dT_equalTo_38 : decode cT_equalTo 38 = .ok (.iconst 0, 1) := by decide +kernel
theorem dT_equalTo_39 : decode cT_equalTo 39 = .ok (.ireturn, 1) := by decide +kernel
theorem dT_equalTo_40 : decode cT_equalTo 40 = .ok (.iinc 2 1, 3) := by decide +kernel
theorem dT_equalTo_43 : decode cT_equalTo 43 = .ok (.goto (-28), 3) := by decide +kernel
theorem dT_equalTo_46 : decode cT_equalTo 46 = .ok (.iconst 1, 1) := by decide +kernel
theorem dT_equalTo_47 : decode cT_equalTo 47 = .ok (.ireturn, 1) := by decide +kernel
theorem dW_init_0 : decode cW_init 0 = .ok (.aload_n 0, 1) := by decide +kernel
theorem dW_init_1 : decode cW_init 1 = .ok (.invokespecial 3, 3) := by decide +kernel
theorem dW_init_4 : decode cW_init 4 = .ok (.aload_n 0, 1) := by decide +kernel
theorem dW_init_5 : decode cW_init 5 = .ok (.iload_n 1, 1) := by decide +kernel
theorem dW_init_6 : decode cW_init 6 = .ok (.putfield 9, 3) := by decide +kernel
theorem dW_init_9 : decode cW_init 9 = .ok (.aload_n 0, 1) := by decide +kernel
theorem dW_init_10 : decode cW_init 10 = .ok (.iload_n 2, 1) := by decide +kernel
theorem dW_init_11 : decode cW_init 11 = .ok (.putfield 15, 3) := by decide +kernel
theorem dW_init_14 : decode cW_init 14 = .ok (.aload_n 0, 1) := by decide +kernel
theorem dW_init_15 : decode cW_init 15 = .ok (.sipush 150, 3) := by decide +kernel
theorem dW_init_18 : decode cW_init 18 = .ok (.newarray .int, 2) := by decide +kernel
theorem dW_init_20 : decode cW_init 20 = .ok (.putfield 18, 3) := by decide +kernel
theorem dW_init_23 : decode cW_init 23 = .ok (.return_, 1) := by decide +kernel
theorem dW_start_0 : decode cW_start 0 = .ok (.aload_n 0, 1) := by decide +kernel
theorem dW_start_1 : decode cW_start 1 = .ok (.iconst 0, 1) := by decide +kernel
theorem dW_start_2 : decode cW_start 2 = .ok (.putfield 22, 3) := by decide +kernel
theorem dW_start_5 : decode cW_start 5 = .ok (.aload_n 0, 1) := by decide +kernel
theorem dW_start_6 : decode cW_start 6 = .ok (.iconst 0, 1) := by decide +kernel
theorem dW_start_7 : decode cW_start 7 = .ok (.putfield 25, 3) := by decide +kernel
theorem dW_start_10 : decode cW_start 10 = .ok (.return_, 1) := by decide +kernel
theorem dW_pass_0 : decode cW_pass 0 = .ok (.iload_n 1, 1) := by decide +kernel
theorem dW_pass_1 : decode cW_pass 1 = .ok (.iconst (-1), 1) := by decide +kernel
theorem dW_pass_2 : decode cW_pass 2 = .ok (.if_icmp .ne 54, 3) := by decide +kernel
theorem dW_pass_5 : decode cW_pass 5 = .ok (.aload_n 0, 1) := by decide +kernel
theorem dW_pass_6 : decode cW_pass 6 = .ok (.dup, 1) := by decide +kernel
theorem dW_pass_7 : decode cW_pass 7 = .ok (.getfield 25, 3) := by decide +kernel
theorem dW_pass_10 : decode cW_pass 10 = .ok (.aload_n 0, 1) := by decide +kernel
theorem dW_pass_11 : decode cW_pass 11 = .ok (.getfield 9, 3) := by decide +kernel
theorem dW_pass_14 : decode cW_pass 14 = .ok (.iadd, 1) := by decide +kernel
theorem dW_pass_15 : decode cW_pass 15 = .ok (.putfield 25, 3) := by decide +kernel
theorem dW_pass_18 : decode cW_pass 18 = .ok (.aload_n 0, 1) := by decide +kernel
theorem dW_pass_19 : decode cW_pass 19 = .ok (.getfield 22, 3) := by decide +kernel
theorem dW_pass_22 : decode cW_pass 22 = .ok (.aload_n 0, 1) := by decide +kernel
theorem dW_pass_23 : decode cW_pass 23 = .ok (.getfield 18, 3) := by decide +kernel
theorem dW_pass_26 : decode cW_pass 26 = .ok (.arraylength, 1) := by decide +kernel
theorem dW_pass_27 : decode cW_pass 27 = .ok (.if_icmp .ge 89, 3) := by decide +kernel
theorem dW_pass_30 : decode cW_pass 30 = .ok (.aload_n 0, 1) := by decide +kernel
theorem dW_pass_31 : decode cW_pass 31 = .ok (.getfield 18, 3) := by decide +kernel
theorem dW_pass_34 : decode cW_pass 34 = .ok (.aload_n 0, 1) := by decide +kernel
theorem dW_pass_35 : decode cW_pass 35 = .ok (.getfield 22, 3) := by decide +kernel
theorem dW_pass_38 : decode cW_pass 38 = .ok (.aload_n 0, 1) := by decide +kernel
theorem dW_pass_39 : decode cW_pass 39 = .ok (.getfield 25, 3) := by decide +kernel
theorem dW_pass_42 : decode cW_pass 42 = .ok (.iastore, 1) := by decide +kernel
theorem dW_pass_43 : decode cW_pass 43 = .ok (.aload_n 0, 1) := by decide +kernel
theorem dW_pass_44 : decode cW_pass 44 = .ok (.dup, 1) := by decide +kernel
theorem dW_pass_45 : decode cW_pass 45 = .ok (.getfield 22, 3) := by decide +kernel
theorem dW_pass_48 : decode cW_pass 48 = .ok (.iconst 1, 1) := by decide +kernel
theorem dW_pass_49 : decode cW_pass 49 = .ok (.iadd, 1) := by decide +kernel
theorem dW_pass_50 : decode cW_pass 50 = .ok (.putfield 22, 3) := by decide +kernel
theorem dW_pass_53 : decode cW_pass 53 = .ok (.goto 63, 3) := by decide +kernel
theorem dW_pass_56 : decode cW_pass 56 = .ok (.iload_n 1, 1) := by decide +kernel
theorem dW_pass_57 : decode cW_pass 57 = .ok (.bipush (-2), 2) := by decide +kernel
theorem dW_pass_59 : decode cW_pass 59 = .ok (.if_icmp .ne 19, 3) := by decide +kernel
theorem dW_pass_62 : decode cW_pass 62 = .ok (.aload_n 0, 1) := by decide +kernel
theorem dW_pass_63 : decode cW_pass 63 = .ok (.dup, 1) := by decide +kernel
theorem dW_pass_64 : decode cW_pass 64 = .ok (.getfield 25, 3) := by decide +kernel
theorem dW_pass_67 : decode cW_pass 67 = .ok (.aload_n 0, 1) := by decide +kernel
theorem dW_pass_68 : decode cW_pass 68 = .ok (.getfield 15, 3) := by decide +kernel
theorem dW_pass_71 : decode cW_pass 71 = .ok (.iadd, 1) := by decide +kernel
theorem dW_pass_72 : decode cW_pass 72 = .ok (.putfield 25, 3) := by decide +kernel
theorem dW_pass_75 : decode cW_pass 75 = .ok (.goto 41, 3) := by decide +kernel
theorem dW_pass_78 : decode cW_pass 78 = .ok (.aload_n 0, 1) := by decide +kernel
theorem dW_pass_79 : decode cW_pass 79 = .ok (.getfield 22, 3) := by decide +kernel
theorem dW_pass_82 : decode cW_pass 82 = .ok (.ifCond .le 29, 3) := by decide +kernel
theorem dW_pass_85 : decode cW_pass 85 = .ok (.aload_n 0, 1) := by decide +kernel
theorem dW_pass_86 : decode cW_pass 86 = .ok (.dup, 1) := by decide +kernel
theorem dW_pass_87 : decode cW_pass 87 = .ok (.getfield 22, 3) := by decide +kernel
theorem dW_pass_90 : decode cW_pass 90 = .ok (.iconst 1, 1) := by decide +kernel
theorem dW_pass_91 : decode cW_pass 91 = .ok (.isub, 1) := by decide +kernel
theorem dW_pass_92 : decode cW_pass 92 = .ok (.putfield 22, 3) := by decide +kernel
theorem dW_pass_95 : decode cW_pass 95 = .ok (.aload_n 0, 1) := by decide +kernel
theorem dW_pass_96 : decode cW_pass 96 = .ok (.aload_n 0, 1) := by decide +kernel
theorem dW_pass_97 : decode cW_pass 97 = .ok (.getfield 18, 3) := by decide +kernel
theorem dW_pass_100 : decode cW_pass 100 = .ok (.aload_n 0, 1) := by decide +kernel
theorem dW_pass_101 : decode cW_pass 101 = .ok (.getfield 22, 3) := by decide +kernel
theorem dW_pass_104 : decode cW_pass 104 = .ok (.iaload, 1) := by decide +kernel
theorem dW_pass_105 : decode cW_pass 105 = .ok (.putfield 25, 3) := by decide +kernel
theorem dW_pass_108 : decode cW_pass 108 = .ok (.goto 8, 3) := by decide +kernel
theorem dW_pass_111 : decode cW_pass 111 = .ok (.aload_n 0, 1) := by decide +kernel
theorem dW_pass_112 : decode cW_pass 112 = .ok (.iconst 0, 1) := by decide +kernel
theorem dW_pass_113 : decode cW_pass 113 = .ok (.putfield 25, 3) := by decide +kernel
theorem dW_pass_116 : decode cW_pass 116 = .ok (.return_, 1) := by decide +kernel
