theorem dX7_remember_0 : decode cX7_remember 0 = .ok (.aload_n 0, 1) := by decide +kernel
theorem dX7_remember_1 : decode cX7_remember 1 = .ok (.getfield 49, 3) := by decide +kernel
theorem dX7_remember_4 : decode cX7_remember 4 = .ok (.bipush 14, 2) := by decide +kernel
theorem dX7_remember_6 : decode cX7_remember 6 = .ok (.if_icmp .ne 31, 3) := by decide +kernel
theorem dX7_remember_9 : decode cX7_remember 9 = .ok (.aload_n 0, 1) := by decide +kernel
theorem dX7_remember_10 : decode cX7_remember 10 = .ok (.getfield 22, 3) := by decide +kernel
theorem dX7_remember_13 : decode cX7_remember 13 = .ok (.sipush 205, 3) := by decide +kernel
theorem dX7_remember_16 : decode cX7_remember 16 = .ok (.aload_n 0, 1) := by decide +kernel
theorem dX7_remember_17 : decode cX7_remember 17 = .ok (.getfield 22, 3) := by decide +kernel
theorem dX7_remember_20 : decode cX7_remember 20 = .ok (.iconst 0, 1) := by decide +kernel
theorem dX7_remember_21 : decode cX7_remember 21 = .ok (.sipush 2665, 3) := by decide +kernel
theorem dX7_remember_24 : decode cX7_remember 24 = .ok (.invokestatic 52, 3) := by decide +kernel
theorem dX7_remember_27 : decode cX7_remember 27 = .ok (.aload_n 0, 1) := by decide +kernel
theorem dX7_remember_28 : decode cX7_remember 28 = .ok (.dup, 1) := by decide +kernel
theorem dX7_remember_29 : decode cX7_remember 29 = .ok (.getfield 49, 3) := by decide +kernel
theorem dX7_remember_32 : decode cX7_remember 32 = .ok (.iconst 1, 1) := by decide +kernel
theorem dX7_remember_33 : decode cX7_remember 33 = .ok (.isub, 1) := by decide +kernel
theorem dX7_remember_34 : decode cX7_remember 34 = .ok (.putfield 49, 3) := by decide +kernel
theorem dX7_remember_37 : decode cX7_remember 37 = .ok (.aload_n 0, 1) := by decide +kernel
theorem dX7_remember_38 : decode cX7_remember 38 = .ok (.getfield 16, 3) := by decide +kernel
theorem dX7_remember_41 : decode cX7_remember 41 = .ok (.iconst 0, 1) := by decide +kernel
theorem dX7_remember_42 : decode cX7_remember 42 = .ok (.aload_n 0, 1) := by decide +kernel
theorem dX7_remember_43 : decode cX7_remember 43 = .ok (.getfield 22, 3) := by decide +kernel
theorem dX7_remember_46 : decode cX7_remember 46 = .ok (.sipush 205, 3) := by decide +kernel
theorem dX7_remember_49 : decode cX7_remember 49 = .ok (.aload_n 0, 1) := by decide +kernel
theorem dX7_remember_50 : decode cX7_remember 50 = .ok (.getfield 49, 3) := by decide +kernel
theorem dX7_remember_53 : decode cX7_remember 53 = .ok (.imul, 1) := by decide +kernel
theorem dX7_remember_54 : decode cX7_remember 54 = .ok (.sipush 205, 3) := by decide +kernel
theorem dX7_remember_57 : decode cX7_remember 57 = .ok (.invokestatic 52, 3) := by decide +kernel
theorem dX7_remember_60 : decode cX7_remember 60 = .ok (.aload_n 0, 1) := by decide +kernel
theorem dX7_remember_61 : decode cX7_remember 61 = .ok (.dup, 1) := by decide +kernel
theorem dX7_remember_62 : decode cX7_remember 62 = .ok (.getfield 49, 3) := by decide +kernel
theorem dX7_remember_65 : decode cX7_remember 65 = .ok (.iconst 1, 1) := by decide +kernel
theorem dX7_remember_66 : decode cX7_remember 66 = .ok (.iadd, 1) := by decide +kernel
theorem dX7_remember_67 : decode cX7_remember 67 = .ok (.putfield 49, 3) := by decide +kernel
theorem dX7_remember_70 : decode cX7_remember 70 = .ok (.return_, 1) := by decide +kernel
theorem dX7_tryIt_0 : decode cX7_tryIt 0 = .ok (.aload_n 0, 1) := by decide +kernel
theorem dX7_tryIt_1 : decode cX7_tryIt 1 = .ok (.getfield 16, 3) := by decide +kernel
theorem dX7_tryIt_4 : decode cX7_tryIt 4 = .ok (.iconst 0, 1) := by decide +kernel
theorem dX7_tryIt_5 : decode cX7_tryIt 5 = .ok (.aload_n 0, 1) := by decide +kernel
theorem dX7_tryIt_6 : decode cX7_tryIt 6 = .ok (.getfield 19, 3) := by decide +kernel
theorem dX7_tryIt_9 : decode cX7_tryIt 9 = .ok (.iconst 0, 1) := by decide +kernel
theorem dX7_tryIt_10 : decode cX7_tryIt 10 = .ok (.sipush 205, 3) := by decide +kernel
theorem dX7_tryIt_13 : decode cX7_tryIt 13 = .ok (.invokestatic 52, 3) := by decide +kernel
theorem dX7_tryIt_16 : decode cX7_tryIt 16 = .ok (.aload_n 0, 1) := by decide +kernel
theorem dX7_tryIt_17 : decode cX7_tryIt 17 = .ok (.iconst (-1), 1) := by decide +kernel
theorem dX7_tryIt_18 : decode cX7_tryIt 18 = .ok (.putfield 32, 3) := by decide +kernel
theorem dX7_tryIt_21 : decode cX7_tryIt 21 = .ok (.aload_n 0, 1) := by decide +kernel
theorem dX7_tryIt_22 : decode cX7_tryIt 22 = .ok (.iconst 0, 1) := by decide +kernel
theorem dX7_tryIt_23 : decode cX7_tryIt 23 = .ok (.putfield 56, 3) := by decide +kernel
theorem dX7_tryIt_26 : decode cX7_tryIt 26 = .ok (.return_, 1) := by decide +kernel
theorem dX7_at_0 : decode cX7_at 0 = .ok (.bipush 37, 2) := by decide +kernel
theorem dX7_at_2 : decode cX7_at 2 = .ok (.bipush 7, 2) := by decide +kernel
theorem dX7_at_4 : decode cX7_at 4 = .ok (.iload_n 0, 1) := by decide +kernel
theorem dX7_at_5 : decode cX7_at 5 = .ok (.imul, 1) := by decide +kernel
theorem dX7_at_6 : decode cX7_at 6 = .ok (.iadd, 1) := by decide +kernel
theorem dX7_at_7 : decode cX7_at 7 = .ok (.iload_n 1, 1) := by decide +kernel
theorem dX7_at_8 : decode cX7_at 8 = .ok (.iadd, 1) := by decide +kernel
theorem dX7_at_9 : decode cX7_at 9 = .ok (.ireturn, 1) := by decide +kernel
theorem dX7_free_0 : decode cX7_free 0 = .ok (.iconst 0, 1) := by decide +kernel
theorem dX7_free_1 : decode cX7_free 1 = .ok (.istore_n 2, 1) := by decide +kernel
theorem dX7_free_2 : decode cX7_free 2 = .ok (.iload_n 2, 1) := by decide +kernel
theorem dX7_free_3 : decode cX7_free 3 = .ok (.bipush 7, 2) := by decide +kernel
theorem dX7_free_5 : decode cX7_free 5 = .ok (.if_icmp .ge 17, 3) := by decide +kernel
theorem dX7_free_8 : decode cX7_free 8 = .ok (.aload_n 0, 1) := by decide +kernel
theorem dX7_free_9 : decode cX7_free 9 = .ok (.iload_n 1, 1) := by decide +kernel
theorem dX7_free_10 : decode cX7_free 10 = .ok (.iload_n 2, 1) := by decide +kernel
theorem dX7_free_11 : decode cX7_free 11 = .ok (.invokestatic 60, 3) := by decide +kernel
theorem dX7_free_14 : decode cX7_free 14 = .ok (.iconst 0, 1) := by decide +kernel
theorem dX7_free_15 : decode cX7_free 15 = .ok (.iastore, 1) := by decide +kernel
theorem dX7_free_16 : decode cX7_free 16 = .ok (.iinc 2 1, 3) := by decide +kernel
theorem dX7_free_19 : decode cX7_free 19 = .ok (.goto (-17), 3) := by decide +kernel
theorem dX7_free_22 : decode cX7_free 22 = .ok (.aload_n 0, 1) := by decide +kernel
theorem dX7_free_23 : decode cX7_free 23 = .ok (.iload_n 1, 1) := by decide +kernel
theorem dX7_free_24 : decode cX7_free 24 = .ok (.iconst 0, 1) := by decide +kernel
theorem dX7_free_25 : decode cX7_free 25 = .ok (.invokestatic 60, 3) := by decide +kernel
theorem dX7_free_28 : decode cX7_free 28 = .ok (.iconst (-1), 1) := by decide +kernel
theorem dX7_free_29 : decode cX7_free 29 = .ok (.iastore, 1) := by decide +kernel
theorem dX7_free_30 : decode cX7_free 30 = .ok (.aload_n 0, 1) := by decide +kernel
theorem dX7_free_31 : decode cX7_free 31 = .ok (.iload_n 1, 1) := by decide +kernel
theorem dX7_free_32 : decode cX7_free 32 = .ok (.bipush 6, 2) := by decide +kernel
theorem dX7_free_34 : decode cX7_free 34 = .ok (.invokestatic 60, 3) := by decide +kernel
theorem dX7_free_37 : decode cX7_free 37 = .ok (.iconst (-1), 1) := by decide +kernel
theorem dX7_free_38 : decode cX7_free 38 = .ok (.iastore, 1) := by decide +kernel
theorem dX7_free_39 : decode cX7_free 39 = .ok (.return_, 1) := by decide +kernel
theorem dX7_isFree_0 : decode cX7_isFree 0 = .ok (.aload_n 0, 1) := by decide +kernel
theorem dX7_isFree_1 : decode cX7_isFree 1 = .ok (.iload_n 1, 1) := by decide +kernel
theorem dX7_isFree_2 : decode cX7_isFree 2 = .ok (.iconst 0, 1) := by decide +kernel
theorem dX7_isFree_3 : decode cX7_isFree 3 = .ok (.invokestatic 60, 3) := by decide +kernel
theorem dX7_isFree_6 : decode cX7_isFree 6 = .ok (.iaload, 1) := by decide +kernel
theorem dX7_isFree_7 : decode cX7_isFree 7 = .ok (.iconst (-1), 1) := by decide +kernel
theorem dX7_isFree_8 : decode cX7_isFree 8 = .ok (.if_icmp .ne 7, 3) := by decide +kernel
theorem dX7_isFree_11 : decode cX7_isFree 11 = .ok (.iconst 1, 1) := by decide +kernel
theorem dX7_isFree_12 : decode cX7_isFree 12 = .ok (.goto 4, 3) := by decide +kernel
theorem dX7_isFree_15 : decode cX7_isFree 15 = .ok (.iconst 0, 1) := by decide +kernel
theorem dX7_isFree_16 : decode cX7_isFree 16 = .ok (.ireturn, 1) := by decide +kernel
theorem dX7_hasLapsed_0 : decode cX7_hasLapsed 0 = .ok (.aload_n 0, 1) := by decide +kernel
theorem dX7_hasLapsed_1 : decode cX7_hasLapsed 1 = .ok (.iload_n 1, 1) := by decide +kernel
theorem dX7_hasLapsed_2 : decode cX7_hasLapsed 2 = .ok (.invokestatic 64, 3) := by decide +kernel
theorem dX7_hasLapsed_5 : decode cX7_hasLapsed 5 = .ok (.ifCond .ne 20, 3) := by decide +kernel
theorem dX7_hasLapsed_8 : decode cX7_hasLapsed 8 = .ok (.aload_n 0, 1) := by decide +kernel
theorem dX7_hasLapsed_9 : decode cX7_hasLapsed 9 = .ok (.iconst 0, 1) := by decide +kernel
theorem dX7_hasLapsed_10 : decode cX7_hasLapsed 10 = .ok (.iaload, 1) := by decide +kernel
theorem dX7_hasLapsed_11 : decode cX7_hasLapsed 11 = .ok (.aload_n 0, 1) := by decide +kernel
theorem dX7_hasLapsed_12 : decode cX7_hasLapsed 12 = .ok (.iload_n 1, 1) := by decide +kernel
theorem dX7_hasLapsed_13 : decode cX7_hasLapsed 13 = .ok (.iconst 1, 1) := by decide +kernel
theorem dX7_hasLapsed_14 : decode cX7_hasLapsed 14 = .ok (.invokestatic 60, 3) := by decide +kernel
theorem dX7_hasLapsed_17 : decode cX7_hasLapsed 17 = .ok (.iaload, 1) := by decide +kernel
theorem dX7_hasLapsed_18 : decode cX7_hasLapsed 18 = .ok (.if_icmp .le 7, 3) := by decide +kernel
theorem dX7_hasLapsed_21 : decode cX7_hasLapsed 21 = .ok (.iconst 1, 1) := by decide +kernel
theorem dX7_hasLapsed_22 : decode cX7_hasLapsed 22 = .ok (.goto 4, 3) := by decide +kernel
theorem dX7_hasLapsed_25 : decode cX7_hasLapsed 25 = .ok (.iconst 0, 1) := by decide +kernel
theorem dX7_hasLapsed_26 : decode cX7_hasLapsed 26 = .ok (.ireturn, 1) := by decide +kernel
theorem dX7_isDisputed_0 : decode cX7_isDisputed 0 = .ok (.aload_n 0, 1) := by decide +kernel
theorem dX7_isDisputed_1 : decode cX7_isDisputed 1 = .ok (.iload_n 1, 1) := by decide +kernel
theorem dX7_isDisputed_2 : decode cX7_isDisputed 2 = .ok (.bipush 6, 2) := by decide +kernel
theorem dX7_isDisputed_4 : decode cX7_isDisputed 4 = .ok (.invokestatic 60, 3) := by decide +kernel
theorem dX7_isDisputed_7 : decode cX7_isDisputed 7 = .ok (.iaload, 1) := by decide +kernel
theorem dX7_isDisputed_8 : decode cX7_isDisputed 8 = .ok (.iconst (-1), 1) := by decide +kernel
theorem dX7_isDisputed_9 : decode cX7_isDisputed 9 = .ok (.if_icmp .eq 7, 3) := by decide +kernel
theorem dX7_isDisputed_12 : decode cX7_isDisputed 12 = .ok (.iconst 1, 1) := by decide +kernel
theorem dX7_isDisputed_13 : decode cX7_isDisputed 13 = .ok (.goto 4, 3) := by decide +kernel
theorem dX7_isDisputed_16 : decode cX7_isDisputed 16 = .ok (.iconst 0, 1) := by decide +kernel
theorem dX7_isDisputed_17 : decode cX7_isDisputed 17 = .ok (.ireturn, 1) := by decide +kernel
theorem dX7_latest_0 : decode cX7_latest 0 = .ok (.aload_n 0, 1) := by decide +kernel
theorem dX7_latest_1 : decode cX7_latest 1 = .ok (.iload_n 1, 1) := by decide +kernel
theorem dX7_latest_2 : decode cX7_latest 2 = .ok (.iconst 2, 1) := by decide +kernel
theorem dX7_latest_3 : decode cX7_latest 3 = .ok (.invokestatic 60, 3) := by decide +kernel
theorem dX7_latest_6 : decode cX7_latest 6 = .ok (.iaload, 1) := by decide +kernel
theorem dX7_latest_7 : decode cX7_latest 7 = .ok (.istore_n 2, 1) := by decide +kernel
theorem dX7_latest_8 : decode cX7_latest 8 = .ok (.iload_n 2, 1) := by decide +kernel
theorem dX7_latest_9 : decode cX7_latest 9 = .ok (.ifCond .ne 7, 3) := by decide +kernel
theorem dX7_latest_12 : decode cX7_latest 12 = .ok (.iconst (-1), 1) := by decide +kernel
theorem dX7_latest_13 : decode cX7_latest 13 = .ok (.goto 14, 3) := by decide +kernel
theorem dX7_latest_16 : decode cX7_latest 16 = .ok (.aload_n 0, 1) := by decide +kernel
theorem dX7_latest_17 : decode cX7_latest 17 = .ok (.iload_n 1, 1) := by decide +kernel
theorem dX7_latest_18 : decode cX7_latest 18 = .ok (.iconst 3, 1) := by decide +kernel
theorem dX7_latest_19 : decode cX7_latest 19 = .ok (.iload_n 2, 1) := by decide +kernel
theorem dX7_latest_20 : decode cX7_latest 20 = .ok (.iadd, 1) := by decide +kernel
theorem dX7_latest_21 : decode cX7_latest 21 = .ok (.iconst 1, 1) := by decide +kernel
theorem dX7_latest_22 : decode cX7_latest 22 = .ok (.isub, 1) := by decide +kernel
theorem dX7_latest_23 : decode cX7_latest 23 = .ok (.invokestatic 60, 3) := by decide +kernel
theorem dX7_latest_26 : decode cX7_latest 26 = .ok (.iaload, 1) := by decide +kernel
theorem dX7_latest_27 : decode cX7_latest 27 = .ok (.ireturn, 1) := by decide +kernel
theorem dX7_rests_0 : decode cX7_rests 0 = .ok (.aload_n 0, 1) := by decide +kernel
theorem dX7_rests_1 : decode cX7_rests 1 = .ok (.iload_n 1, 1) := by decide +kernel
theorem dX7_rests_2 : decode cX7_rests 2 = .ok (.iconst 2, 1) := by decide +kernel
theorem dX7_rests_3 : decode cX7_rests 3 = .ok (.invokestatic 60, 3) := by decide +kernel
theorem dX7_rests_6 : decode cX7_rests 6 = .ok (.iaload, 1) := by decide +kernel
theorem dX7_rests_7 : decode cX7_rests 7 = .ok (.ifCond .le 23, 3) := by decide +kernel
theorem dX7_rests_10 : decode cX7_rests 10 = .ok (.aload_n 0, 1) := by decide +kernel
theorem dX7_rests_11 : decode cX7_rests 11 = .ok (.iconst 0, 1) := by decide +kernel
theorem dX7_rests_12 : decode cX7_rests 12 = .ok (.iaload, 1) := by decide +kernel
theorem dX7_rests_13 : decode cX7_rests 13 = .ok (.aload_n 0, 1) := by decide +kernel
theorem dX7_rests_14 : decode cX7_rests 14 = .ok (.iload_n 1, 1) := by decide +kernel
theorem dX7_rests_15 : decode cX7_rests 15 = .ok (.invokestatic 68, 3) := by decide +kernel
theorem dX7_rests_18 : decode cX7_rests 18 = .ok (.aload_n 0, 1) := by decide +kernel
theorem dX7_rests_19 : decode cX7_rests 19 = .ok (.bipush 6, 2) := by decide +kernel
theorem dX7_rests_21 : decode cX7_rests 21 = .ok (.iaload, 1) := by decide +kernel
theorem dX7_rests_22 : decode cX7_rests 22 = .ok (.iadd, 1) := by decide +kernel
theorem dX7_rests_23 : decode cX7_rests 23 = .ok (.if_icmp .ge 7, 3) := by decide +kernel
theorem dX7_rests_26 : decode cX7_rests 26 = .ok (.iconst 1, 1) := by decide +kernel
theorem dX7_rests_27 : decode cX7_rests 27 = .ok (.goto 4, 3) := by decide +kernel
theorem dX7_rests_30 : decode cX7_rests 30 = .ok (.iconst 0, 1) := by decide +kernel
theorem dX7_rests_31 : decode cX7_rests 31 = .ok (.ireturn, 1) := by decide +kernel
theorem dX7_state_0 : decode cX7_state 0 = .ok (.aload_n 0, 1) := by decide +kernel
theorem dX7_state_1 : decode cX7_state 1 = .ok (.iload_n 1, 1) := by decide +kernel
theorem dX7_state_2 : decode cX7_state 2 = .ok (.invokestatic 64, 3) := by decide +kernel
theorem dX7_state_5 : decode cX7_state 5 = .ok (.ifCond .eq 5, 3) := by decide +kernel
theorem dX7_state_8 : decode cX7_state 8 = .ok (.iconst 0, 1) := by decide +kernel
theorem dX7_state_9 : decode cX7_state 9 = .ok (.ireturn, 1) := by decide +kernel
theorem dX7_state_10 : decode cX7_state 10 = .ok (.aload_n 0, 1) := by decide +kernel
theorem dX7_state_11 : decode cX7_state 11 = .ok (.iload_n 1, 1) := by decide +kernel
theorem dX7_state_12 : decode cX7_state 12 = .ok (.invokestatic 72, 3) := by decide +kernel
theorem dX7_state_15 : decode cX7_state 15 = .ok (.ifCond .ne 7, 3) := by decide +kernel
theorem dX7_state_18 : decode cX7_state 18 = .ok (.iconst 1, 1) := by decide +kernel
theorem dX7_state_19 : decode cX7_state 19 = .ok (.goto 28, 3) := by decide +kernel
theorem dX7_state_22 : decode cX7_state 22 = .ok (.aload_n 0, 1) := by decide +kernel
theorem dX7_state_23 : decode cX7_state 23 = .ok (.iload_n 1, 1) := by decide +kernel
theorem dX7_state_24 : decode cX7_state 24 = .ok (.invokestatic 75, 3) := by decide +kernel
theorem dX7_state_27 : decode cX7_state 27 = .ok (.ifCond .eq 7, 3) := by decide +kernel
theorem dX7_state_30 : decode cX7_state 30 = .ok (.iconst 2, 1) := by decide +kernel
theorem dX7_state_31 : decode cX7_state 31 = .ok (.goto 16, 3) := by decide +kernel
theorem dX7_state_34 : decode cX7_state 34 = .ok (.aload_n 0, 1) := by decide +kernel
theorem dX7_state_35 : decode cX7_state 35 = .ok (.iload_n 1, 1) := by decide +kernel
theorem dX7_state_36 : decode cX7_state 36 = .ok (.invokestatic 78, 3) := by decide +kernel
theorem dX7_state_39 : decode cX7_state 39 = .ok (.ifCond .eq 7, 3) := by decide +kernel
theorem dX7_state_42 : decode cX7_state 42 = .ok (.iconst 3, 1) := by decide +kernel
theorem dX7_state_43 : decode cX7_state 43 = .ok (.goto 4, 3) := by decide +kernel
theorem dX7_state_46 : decode cX7_state 46 = .ok (.iconst 4, 1) := by decide +kernel
theorem dX7_state_47 : decode cX7_state 47 = .ok (.ireturn, 1) := by decide +kernel
theorem dX7_apart_0 : decode cX7_apart 0 = .ok (.iload_n 0, 1) := by decide +kernel
theorem dX7_apart_1 : decode cX7_apart 1 = .ok (.iload_n 1, 1) := by decide +kernel
theorem dX7_apart_2 : decode cX7_apart 2 = .ok (.if_icmp .ge 9, 3) := by decide +kernel
theorem dX7_apart_5 : decode cX7_apart 5 = .ok (.iload_n 1, 1) := by decide +kernel
theorem dX7_apart_6 : decode cX7_apart 6 = .ok (.iload_n 0, 1) := by decide +kernel
theorem dX7_apart_7 : decode cX7_apart 7 = .ok (.isub, 1) := by decide +kernel
theorem dX7_apart_8 : decode cX7_apart 8 = .ok (.goto 6, 3) := by decide +kernel
theorem dX7_apart_11 : decode cX7_apart 11 = .ok (.iload_n 0, 1) := by decide +kernel
theorem dX7_apart_12 : decode cX7_apart 12 = .ok (.iload_n 1, 1) := by decide +kernel
theorem dX7_apart_13 : decode cX7_apart 13 = .ok (.isub, 1) := by decide +kernel
theorem dX7_apart_14 : decode cX7_apart 14 = .ok (.ireturn, 1) := by decide +kernel
theorem dX7_way_0 : decode cX7_way 0 = .ok (.iload_n 0, 1) := by decide +kernel
theorem dX7_way_1 : decode cX7_way 1 = .ok (.bipush 6, 2) := by decide +kernel
theorem dX7_way_3 : decode cX7_way 3 = .ok (.idiv, 1) := by decide +kernel
theorem dX7_way_4 : decode cX7_way 4 = .ok (.iload_n 1, 1) := by decide +kernel
theorem dX7_way_5 : decode cX7_way 5 = .ok (.bipush 6, 2) := by decide +kernel
theorem dX7_way_7 : decode cX7_way 7 = .ok (.idiv, 1) := by decide +kernel
theorem dX7_way_8 : decode cX7_way 8 = .ok (.invokestatic 81, 3) := by decide +kernel
theorem dX7_way_11 : decode cX7_way 11 = .ok (.iload_n 0, 1) := by decide +kernel
theorem dX7_way_12 : decode cX7_way 12 = .ok (.bipush 6, 2) := by decide +kernel
theorem dX7_way_14 : decode cX7_way 14 = .ok (.irem, 1) := by decide +kernel
theorem dX7_way_15 : decode cX7_way 15 = .ok (.iload_n 1, 1) := by decide +kernel
theorem dX7_way_16 : decode cX7_way 16 = .ok (.bipush 6, 2) := by decide +kernel
theorem dX7_way_18 : decode cX7_way 18 = .ok (.irem, 1) := by decide +kernel
theorem dX7_way_19 : decode cX7_way 19 = .ok (.invokestatic 81, 3) := by decide +kernel
theorem dX7_way_22 : decode cX7_way 22 = .ok (.iadd, 1) := by decide +kernel
theorem dX7_way_23 : decode cX7_way 23 = .ok (.ireturn, 1) := by decide +kernel
theorem dX7_near_0 : decode cX7_near 0 = .ok (.bipush 24, 2) := by decide +kernel
theorem dX7_near_2 : decode cX7_near 2 = .ok (.istore_n 3, 1) := by decide +kernel
theorem dX7_near_3 : decode cX7_near 3 = .ok (.iconst 0, 1) := by decide +kernel
theorem dX7_near_4 : decode cX7_near 4 = .ok (.istore 4, 2) := by decide +kernel
theorem dX7_near_6 : decode cX7_near 6 = .ok (.iload 4, 2) := by decide +kernel
theorem dX7_near_8 : decode cX7_near 8 = .ok (.bipush 24, 2) := by decide +kernel
theorem dX7_near_10 : decode cX7_near 10 = .ok (.if_icmp .ge 42, 3) := by decide +kernel
theorem dX7_near_13 : decode cX7_near 13 = .ok (.aload_n 0, 1) := by decide +kernel
theorem dX7_near_14 : decode cX7_near 14 = .ok (.iload 4, 2) := by decide +kernel
theorem dX7_near_16 : decode cX7_near 16 = .ok (.iconst 0, 1) := by decide +kernel
theorem dX7_near_17 : decode cX7_near 17 = .ok (.invokestatic 60, 3) := by decide +kernel
theorem dX7_near_20 : decode cX7_near 20 = .ok (.iaload, 1) := by decide +kernel
theorem dX7_near_21 : decode cX7_near 21 = .ok (.iload_n 1, 1) := by decide +kernel
theorem dX7_near_22 : decode cX7_near 22 = .ok (.if_icmp .ne 22, 3) := by decide +kernel
theorem dX7_near_25 : decode cX7_near 25 = .ok (.iload_n 2, 1) := by decide +kernel
theorem dX7_near_26 : decode cX7_near 26 = .ok (.iload 4, 2) := by decide +kernel
theorem dX7_near_28 : decode cX7_near 28 = .ok (.invokestatic 84, 3) := by decide +kernel
theorem dX7_near_31 : decode cX7_near 31 = .ok (.iload_n 3, 1) := by decide +kernel
theorem dX7_near_32 : decode cX7_near 32 = .ok (.if_icmp .ge 12, 3) := by decide +kernel
theorem dX7_near_35 : decode cX7_near 35 = .ok (.iload_n 2, 1) := by decide +kernel
theorem dX7_near_36 : decode cX7_near 36 = .ok (.iload 4, 2) := by decide +kernel
theorem dX7_near_38 : decode cX7_near 38 = .ok (.invokestatic 84, 3) := by decide +kernel
theorem dX7_near_41 : decode cX7_near 41 = .ok (.goto 4, 3) := by decide +kernel
theorem dX7_near_44 : decode cX7_near 44 = .ok (.iload_n 3, 1) := by decide +kernel
theorem dX7_near_45 : decode cX7_near 45 = .ok (.istore_n 3, 1) := by decide +kernel
theorem dX7_near_46 : decode cX7_near 46 = .ok (.iinc 4 1, 3) := by decide +kernel
theorem dX7_near_49 : decode cX7_near 49 = .ok (.goto (-43), 3) := by decide +kernel
theorem dX7_near_52 : decode cX7_near 52 = .ok (.iload_n 3, 1) := by decide +kernel
theorem dX7_near_53 : decode cX7_near 53 = .ok (.bipush 24, 2) := by decide +kernel
theorem dX7_near_55 : decode cX7_near 55 = .ok (.if_icmp .ne 7, 3) := by decide +kernel
theorem dX7_near_58 : decode cX7_near 58 = .ok (.iconst 0, 1) := by decide +kernel
theorem dX7_near_59 : decode cX7_near 59 = .ok (.goto 4, 3) := by decide +kernel
theorem dX7_near_62 : decode cX7_near 62 = .ok (.iload_n 3, 1) := by decide +kernel
theorem dX7_near_63 : decode cX7_near 63 = .ok (.ireturn, 1) := by decide +kernel
theorem dX7_bestPlot_0 : decode cX7_bestPlot 0 = .ok (.iconst (-1), 1) := by decide +kernel
theorem dX7_bestPlot_1 : decode cX7_bestPlot 1 = .ok (.istore_n 2, 1) := by decide +kernel
theorem dX7_bestPlot_2 : decode cX7_bestPlot 2 = .ok (.iconst 0, 1) := by decide +kernel
theorem dX7_bestPlot_3 : decode cX7_bestPlot 3 = .ok (.istore_n 3, 1) := by decide +kernel
theorem dX7_bestPlot_4 : decode cX7_bestPlot 4 = .ok (.iconst 0, 1) := by decide +kernel
theorem dX7_bestPlot_5 : decode cX7_bestPlot 5 = .ok (.istore 4, 2) := by decide +kernel
theorem dX7_bestPlot_7 : decode cX7_bestPlot 7 = .ok (.iload 4, 2) := by decide +kernel
theorem dX7_bestPlot_9 : decode cX7_bestPlot 9 = .ok (.bipush 24, 2) := by decide +kernel
theorem dX7_bestPlot_11 : decode cX7_bestPlot 11 = .ok (.if_icmp .ge 82, 3) := by decide +kernel
theorem dX7_bestPlot_14 : decode cX7_bestPlot 14 = .ok (.aload_n 0, 1) := by decide +kernel
theorem dX7_bestPlot_15 : decode cX7_bestPlot 15 = .ok (.iload 4, 2) := by decide +kernel
theorem dX7_bestPlot_17 : decode cX7_bestPlot 17 = .ok (.invokestatic 64, 3) := by decide +kernel
theorem dX7_bestPlot_20 : decode cX7_bestPlot 20 = .ok (.ifCond .eq 13, 3) := by decide +kernel
theorem dX7_bestPlot_23 : decode cX7_bestPlot 23 = .ok (.aload_n 0, 1) := by decide +kernel
theorem dX7_bestPlot_24 : decode cX7_bestPlot 24 = .ok (.iload_n 1, 1) := by decide +kernel
theorem dX7_bestPlot_25 : decode cX7_bestPlot 25 = .ok (.iload 4, 2) := by decide +kernel
theorem dX7_bestPlot_27 : decode cX7_bestPlot 27 = .ok (.invokestatic 87, 3) := by decide +kernel
theorem dX7_bestPlot_30 : decode cX7_bestPlot 30 = .ok (.goto 4, 3) := by decide +kernel
theorem dX7_bestPlot_33 : decode cX7_bestPlot 33 = .ok (.iconst 0, 1) := by decide +kernel
theorem dX7_bestPlot_34 : decode cX7_bestPlot 34 = .ok (.istore 5, 2) := by decide +kernel
theorem dX7_bestPlot_36 : decode cX7_bestPlot 36 = .ok (.aload_n 0, 1) := by decide +kernel
theorem dX7_bestPlot_37 : decode cX7_bestPlot 37 = .ok (.iload 4, 2) := by decide +kernel
theorem dX7_bestPlot_39 : decode cX7_bestPlot 39 = .ok (.invokestatic 64, 3) := by decide +kernel
theorem dX7_bestPlot_42 : decode cX7_bestPlot 42 = .ok (.ifCond .eq 18, 3) := by decide +kernel
theorem dX7_bestPlot_45 : decode cX7_bestPlot 45 = .ok (.iload_n 2, 1) := by decide +kernel
theorem dX7_bestPlot_46 : decode cX7_bestPlot 46 = .ok (.iconst (-1), 1) := by decide +kernel
theorem dX7_bestPlot_47 : decode cX7_bestPlot 47 = .ok (.if_icmp .eq 9, 3) := by decide +kernel
theorem dX7_bestPlot_50 : decode cX7_bestPlot 50 = .ok (.iload 5, 2) := by decide +kernel
theorem dX7_bestPlot_52 : decode cX7_bestPlot 52 = .ok (.iload_n 3, 1) := by decide +kernel
theorem dX7_bestPlot_53 : decode cX7_bestPlot 53 = .ok (.if_icmp .ge 7, 3) := by decide +kernel
theorem dX7_bestPlot_56 : decode cX7_bestPlot 56 = .ok (.iconst 1, 1) := by decide +kernel
theorem dX7_bestPlot_57 : decode cX7_bestPlot 57 = .ok (.goto 4, 3) := by decide +kernel
theorem dX7_bestPlot_60 : decode cX7_bestPlot 60 = .ok (.iconst 0, 1) := by decide +kernel
theorem dX7_bestPlot_61 : decode cX7_bestPlot 61 = .ok (.istore 6, 2) := by decide +kernel
theorem dX7_bestPlot_63 : decode cX7_bestPlot 63 = .ok (.iload 6, 2) := by decide +kernel
theorem dX7_bestPlot_65 : decode cX7_bestPlot 65 = .ok (.ifCond .eq 8, 3) := by decide +kernel
theorem dX7_bestPlot_68 : decode cX7_bestPlot 68 = .ok (.iload 4, 2) := by decide +kernel
theorem dX7_bestPlot_70 : decode cX7_bestPlot 70 = .ok (.goto 4, 3) := by decide +kernel
theorem dX7_bestPlot_73 : decode cX7_bestPlot 73 = .ok (.iload_n 2, 1) := by decide +kernel
theorem dX7_bestPlot_74 : decode cX7_bestPlot 74 = .ok (.istore_n 2, 1) := by decide +kernel
theorem dX7_bestPlot_75 : decode cX7_bestPlot 75 = .ok (.iload 6, 2) := by decide +kernel
theorem dX7_bestPlot_77 : decode cX7_bestPlot 77 = .ok (.ifCond .eq 8, 3) := by decide +kernel
theorem dX7_bestPlot_80 : decode cX7_bestPlot 80 = .ok (.iload 5, 2) := by decide +kernel
theorem dX7_bestPlot_82 : decode cX7_bestPlot 82 = .ok (.goto 4, 3) := by decide +kernel
theorem dX7_bestPlot_85 : decode cX7_bestPlot 85 = .ok (.iload_n 3, 1) := by decide +kernel
theorem dX7_bestPlot_86 : decode cX7_bestPlot 86 = .ok (.istore_n 3, 1) := by decide +kernel
theorem dX7_bestPlot_87 : decode cX7_bestPlot 87 = .ok (.iinc 4 1, 3) := by decide +kernel
theorem dX7_bestPlot_90 : decode cX7_bestPlot 90 = .ok (.goto (-83), 3) := by decide +kernel
theorem dX7_bestPlot_93 : decode cX7_bestPlot 93 = .ok (.iload_n 2, 1) := by decide +kernel
theorem dX7_bestPlot_94 : decode cX7_bestPlot 94 = .ok (.ireturn, 1) := by decide +kernel
theorem dX7_pay_0 : decode cX7_pay 0 = .ok (.aload_n 0, 1) := by decide +kernel
theorem dX7_pay_1 : decode cX7_pay 1 = .ok (.bipush 14, 2) := by decide +kernel
theorem dX7_pay_3 : decode cX7_pay 3 = .ok (.iload_n 1, 1) := by decide +kernel
theorem dX7_pay_4 : decode cX7_pay 4 = .ok (.iadd, 1) := by decide +kernel
theorem dX7_pay_5 : decode cX7_pay 5 = .ok (.dup2, 1) := by decide +kernel
theorem dX7_pay_6 : decode cX7_pay 6 = .ok (.iaload, 1) := by decide +kernel
theorem dX7_pay_7 : decode cX7_pay 7 = .ok (.iload_n 2, 1) := by decide +kernel
theorem dX7_pay_8 : decode cX7_pay 8 = .ok (.iadd, 1) := by decide +kernel
theorem dX7_pay_9 : decode cX7_pay 9 = .ok (.iastore, 1) := by decide +kernel
theorem dX7_pay_10 : decode cX7_pay 10 = .ok (.aload_n 0, 1) := by decide +kernel
theorem dX7_pay_11 : decode cX7_pay 11 = .ok (.iconst 2, 1) := by decide +kernel
theorem dX7_pay_12 : decode cX7_pay 12 = .ok (.dup2, 1) := by decide +kernel
theorem dX7_pay_13 : decode cX7_pay 13 = .ok (.iaload, 1) := by decide +kernel
theorem dX7_pay_14 : decode cX7_pay 14 = .ok (.iload_n 2, 1) := by decide +kernel
theorem dX7_pay_15 : decode cX7_pay 15 = .ok (.iadd, 1) := by decide +kernel
theorem dX7_pay_16 : decode cX7_pay 16 = .ok (.iastore, 1) := by decide +kernel
theorem dX7_pay_17 : decode cX7_pay 17 = .ok (.return_, 1) := by decide +kernel
theorem dX7_give_0 : decode cX7_give 0 = .ok (.aload_n 1, 1) := by decide +kernel
theorem dX7_give_1 : decode cX7_give 1 = .ok (.iload_n 3, 1) := by decide +kernel
theorem dX7_give_2 : decode cX7_give 2 = .ok (.invokestatic 45, 3) := by decide +kernel
theorem dX7_give_5 : decode cX7_give 5 = .ok (.aload_n 1, 1) := by decide +kernel
theorem dX7_give_6 : decode cX7_give 6 = .ok (.iload_n 3, 1) := by decide +kernel
theorem dX7_give_7 : decode cX7_give 7 = .ok (.iconst 0, 1) := by decide +kernel
theorem dX7_give_8 : decode cX7_give 8 = .ok (.invokestatic 60, 3) := by decide +kernel
theorem dX7_give_11 : decode cX7_give 11 = .ok (.iload_n 2, 1) := by decide +kernel
theorem dX7_give_12 : decode cX7_give 12 = .ok (.iastore, 1) := by decide +kernel
theorem dX7_give_13 : decode cX7_give 13 = .ok (.aload_n 1, 1) := by decide +kernel
theorem dX7_give_14 : decode cX7_give 14 = .ok (.iload_n 3, 1) := by decide +kernel
theorem dX7_give_15 : decode cX7_give 15 = .ok (.iconst 1, 1) := by decide +kernel
theorem dX7_give_16 : decode cX7_give 16 = .ok (.invokestatic 60, 3) := by decide +kernel
theorem dX7_give_19 : decode cX7_give 19 = .ok (.aload_n 1, 1) := by decide +kernel
theorem dX7_give_20 : decode cX7_give 20 = .ok (.iconst 0, 1) := by decide +kernel
theorem dX7_give_21 : decode cX7_give 21 = .ok (.iaload, 1) := by decide +kernel
theorem dX7_give_22 : decode cX7_give 22 = .ok (.aload_n 1, 1) := by decide +kernel
theorem dX7_give_23 : decode cX7_give 23 = .ok (.iconst 5, 1) := by decide +kernel
theorem dX7_give_24 : decode cX7_give 24 = .ok (.iaload, 1) := by decide +kernel
theorem dX7_give_25 : decode cX7_give 25 = .ok (.iadd, 1) := by decide +kernel
theorem dX7_give_26 : decode cX7_give 26 = .ok (.iconst 1, 1) := by decide +kernel
theorem dX7_give_27 : decode cX7_give 27 = .ok (.isub, 1) := by decide +kernel
theorem dX7_give_28 : decode cX7_give 28 = .ok (.iastore, 1) := by decide +kernel
theorem dX7_give_29 : decode cX7_give 29 = .ok (.aload_n 1, 1) := by decide +kernel
theorem dX7_give_30 : decode cX7_give 30 = .ok (.iload_n 2, 1) := by decide +kernel
theorem dX7_give_31 : decode cX7_give 31 = .ok (.aload_n 1, 1) := by decide +kernel
theorem dX7_give_32 : decode cX7_give 32 = .ok (.iconst 5, 1) := by decide +kernel
theorem dX7_give_33 : decode cX7_give 33 = .ok (.iaload, 1) := by decide +kernel
theorem dX7_give_34 : decode cX7_give 34 = .ok (.aload_n 1, 1) := by decide +kernel
theorem dX7_give_35 : decode cX7_give 35 = .ok (.bipush 7, 2) := by decide +kernel
theorem dX7_give_37 : decode cX7_give 37 = .ok (.iaload, 1) := by decide +kernel
theorem dX7_give_38 : decode cX7_give 38 = .ok (.imul, 1) := by decide +kernel
theorem dX7_give_39 : decode cX7_give 39 = .ok (.invokestatic 91, 3) := by decide +kernel
theorem dX7_give_42 : decode cX7_give 42 = .ok (.aload_n 0, 1) := by decide +kernel
theorem dX7_give_43 : decode cX7_give 43 = .ok (.aload_n 0, 1) := by decide +kernel
theorem dX7_give_44 : decode cX7_give 44 = .ok (.getfield 56, 3) := by decide +kernel
theorem dX7_give_47 : decode cX7_give 47 = .ok (.ifCond .ne 11, 3) := by decide +kernel
theorem dX7_give_50 : decode cX7_give 50 = .ok (.iload_n 2, 1) := by decide +kernel
theorem dX7_give_51 : decode cX7_give 51 = .ok (.aload_n 0, 1) := by decide +kernel
theorem dX7_give_52 : decode cX7_give 52 = .ok (.getfield 32, 3) := by decide +kernel
theorem dX7_give_55 : decode cX7_give 55 = .ok (.if_icmp .ne 7, 3) := by decide +kernel
theorem dX7_give_58 : decode cX7_give 58 = .ok (.iconst 1, 1) := by decide +kernel
theorem dX7_give_59 : decode cX7_give 59 = .ok (.goto 4, 3) := by decide +kernel
theorem dX7_give_62 : decode cX7_give 62 = .ok (.iconst 0, 1) := by decide +kernel
theorem dX7_give_63 : decode cX7_give 63 = .ok (.putfield 56, 3) := by decide +kernel
theorem dX7_give_66 : decode cX7_give 66 = .ok (.return_, 1) := by decide +kernel
theorem dX7_serve_0 : decode cX7_serve 0 = .ok (.iconst 0, 1) := by decide +kernel
theorem dX7_serve_1 : decode cX7_serve 1 = .ok (.istore_n 2, 1) := by decide +kernel
theorem dX7_serve_2 : decode cX7_serve 2 = .ok (.aload_n 1, 1) := by decide +kernel
theorem dX7_serve_3 : decode cX7_serve 3 = .ok (.iconst 1, 1) := by decide +kernel
theorem dX7_serve_4 : decode cX7_serve 4 = .ok (.iaload, 1) := by decide +kernel
theorem dX7_serve_5 : decode cX7_serve 5 = .ok (.ifCond .le 74, 3) := by decide +kernel
theorem dX7_serve_8 : decode cX7_serve 8 = .ok (.aload_n 1, 1) := by decide +kernel
theorem dX7_serve_9 : decode cX7_serve 9 = .ok (.aload_n 1, 1) := by decide +kernel
theorem dX7_serve_10 : decode cX7_serve 10 = .ok (.bipush 24, 2) := by decide +kernel
theorem dX7_serve_12 : decode cX7_serve 12 = .ok (.iaload, 1) := by decide +kernel
theorem dX7_serve_13 : decode cX7_serve 13 = .ok (.invokestatic 95, 3) := by decide +kernel
theorem dX7_serve_16 : decode cX7_serve 16 = .ok (.iconst (-1), 1) := by decide +kernel
theorem dX7_serve_17 : decode cX7_serve 17 = .ok (.if_icmp .eq 62, 3) := by decide +kernel
theorem dX7_serve_20 : decode cX7_serve 20 = .ok (.aload_n 0, 1) := by decide +kernel
theorem dX7_serve_21 : decode cX7_serve 21 = .ok (.aload_n 1, 1) := by decide +kernel
theorem dX7_serve_22 : decode cX7_serve 22 = .ok (.aload_n 1, 1) := by decide +kernel
theorem dX7_serve_23 : decode cX7_serve 23 = .ok (.bipush 24, 2) := by decide +kernel
theorem dX7_serve_25 : decode cX7_serve 25 = .ok (.iaload, 1) := by decide +kernel
theorem dX7_serve_26 : decode cX7_serve 26 = .ok (.aload_n 1, 1) := by decide +kernel
theorem dX7_serve_27 : decode cX7_serve 27 = .ok (.aload_n 1, 1) := by decide +kernel
theorem dX7_serve_28 : decode cX7_serve 28 = .ok (.bipush 24, 2) := by decide +kernel
theorem dX7_serve_30 : decode cX7_serve 30 = .ok (.iaload, 1) := by decide +kernel
theorem dX7_serve_31 : decode cX7_serve 31 = .ok (.invokestatic 95, 3) := by decide +kernel
theorem dX7_serve_34 : decode cX7_serve 34 = .ok (.invokevirtual 98, 3) := by decide +kernel
theorem dX7_serve_37 : decode cX7_serve 37 = .ok (.aload_n 1, 1) := by decide +kernel
theorem dX7_serve_38 : decode cX7_serve 38 = .ok (.iconst 1, 1) := by decide +kernel
theorem dX7_serve_39 : decode cX7_serve 39 = .ok (.dup2, 1) := by decide +kernel
theorem dX7_serve_40 : decode cX7_serve 40 = .ok (.iaload, 1) := by decide +kernel
theorem dX7_serve_41 : decode cX7_serve 41 = .ok (.iconst 1, 1) := by decide +kernel
theorem dX7_serve_42 : decode cX7_serve 42 = .ok (.isub, 1) := by decide +kernel
theorem dX7_serve_43 : decode cX7_serve 43 = .ok (.iastore, 1) := by decide +kernel
theorem dX7_serve_44 : decode cX7_serve 44 = .ok (.iconst 0, 1) := by decide +kernel
theorem dX7_serve_45 : decode cX7_serve 45 = .ok (.istore_n 3, 1) := by decide +kernel
theorem dX7_serve_46 : decode cX7_serve 46 = .ok (.iload_n 3, 1) := by decide +kernel
theorem dX7_serve_47 : decode cX7_serve 47 = .ok (.aload_n 1, 1) := by decide +kernel
theorem dX7_serve_48 : decode cX7_serve 48 = .ok (.iconst 1, 1) := by decide +kernel
theorem dX7_serve_49 : decode cX7_serve 49 = .ok (.iaload, 1) := by decide +kernel
theorem dX7_serve_50 : decode cX7_serve 50 = .ok (.if_icmp .ge 23, 3) := by decide +kernel
theorem dX7_serve_53 : decode cX7_serve 53 = .ok (.aload_n 1, 1) := by decide +kernel
theorem dX7_serve_54 : decode cX7_serve 54 = .ok (.bipush 24, 2) := by decide +kernel
theorem dX7_serve_56 : decode cX7_serve 56 = .ok (.iload_n 3, 1) := by decide +kernel
theorem dX7_serve_57 : decode cX7_serve 57 = .ok (.iadd, 1) := by decide +kernel
theorem dX7_serve_58 : decode cX7_serve 58 = .ok (.aload_n 1, 1) := by decide +kernel
theorem dX7_serve_59 : decode cX7_serve 59 = .ok (.bipush 24, 2) := by decide +kernel
theorem dX7_serve_61 : decode cX7_serve 61 = .ok (.iload_n 3, 1) := by decide +kernel
theorem dX7_serve_62 : decode cX7_serve 62 = .ok (.iadd, 1) := by decide +kernel
theorem dX7_serve_63 : decode cX7_serve 63 = .ok (.iconst 1, 1) := by decide +kernel
theorem dX7_serve_64 : decode cX7_serve 64 = .ok (.iadd, 1) := by decide +kernel
theorem dX7_serve_65 : decode cX7_serve 65 = .ok (.iaload, 1) := by decide +kernel
theorem dX7_serve_66 : decode cX7_serve 66 = .ok (.iastore, 1) := by decide +kernel
theorem dX7_serve_67 : decode cX7_serve 67 = .ok (.iinc 3 1, 3) := by decide +kernel
theorem dX7_serve_70 : decode cX7_serve 70 = .ok (.goto (-24), 3) := by decide +kernel
theorem dX7_serve_73 : decode cX7_serve 73 = .ok (.iinc 2 1, 3) := by decide +kernel
theorem dX7_serve_76 : decode cX7_serve 76 = .ok (.goto (-74), 3) := by decide +kernel
theorem dX7_serve_79 : decode cX7_serve 79 = .ok (.iload_n 2, 1) := by decide +kernel
theorem dX7_serve_80 : decode cX7_serve 80 = .ok (.ireturn, 1) := by decide +kernel
theorem dX7_canAsk_0 : decode cX7_canAsk 0 = .ok (.aload_n 0, 1) := by decide +kernel
theorem dX7_canAsk_1 : decode cX7_canAsk 1 = .ok (.iconst 1, 1) := by decide +kernel
theorem dX7_canAsk_2 : decode cX7_canAsk 2 = .ok (.iaload, 1) := by decide +kernel
theorem dX7_canAsk_3 : decode cX7_canAsk 3 = .ok (.bipush 12, 2) := by decide +kernel
theorem dX7_canAsk_5 : decode cX7_canAsk 5 = .ok (.if_icmp .lt 12, 3) := by decide +kernel
theorem dX7_canAsk_8 : decode cX7_canAsk 8 = .ok (.aload_n 0, 1) := by decide +kernel
theorem dX7_canAsk_9 : decode cX7_canAsk 9 = .ok (.iload_n 1, 1) := by decide +kernel
theorem dX7_canAsk_10 : decode cX7_canAsk 10 = .ok (.invokestatic 95, 3) := by decide +kernel
theorem dX7_canAsk_13 : decode cX7_canAsk 13 = .ok (.iconst (-1), 1) := by decide +kernel
theorem dX7_canAsk_14 : decode cX7_canAsk 14 = .ok (.if_icmp .eq 7, 3) := by decide +kernel
theorem dX7_canAsk_17 : decode cX7_canAsk 17 = .ok (.iconst 1, 1) := by decide +kernel
theorem dX7_canAsk_18 : decode cX7_canAsk 18 = .ok (.goto 4, 3) := by decide +kernel
theorem dX7_canAsk_21 : decode cX7_canAsk 21 = .ok (.iconst 0, 1) := by decide +kernel
theorem dX7_canAsk_22 : decode cX7_canAsk 22 = .ok (.ireturn, 1) := by decide +kernel
theorem dX7_askIn_0 : decode cX7_askIn 0 = .ok (.aload_n 1, 1) := by decide +kernel
theorem dX7_askIn_1 : decode cX7_askIn 1 = .ok (.iload_n 2, 1) := by decide +kernel
theorem dX7_askIn_2 : decode cX7_askIn 2 = .ok (.invokestatic 95, 3) := by decide +kernel
theorem dX7_askIn_5 : decode cX7_askIn 5 = .ok (.istore_n 3, 1) := by decide +kernel
theorem dX7_askIn_6 : decode cX7_askIn 6 = .ok (.iload_n 3, 1) := by decide +kernel
theorem dX7_askIn_7 : decode cX7_askIn 7 = .ok (.iconst (-1), 1) := by decide +kernel
theorem dX7_askIn_8 : decode cX7_askIn 8 = .ok (.if_icmp .ne 22, 3) := by decide +kernel
theorem dX7_askIn_11 : decode cX7_askIn 11 = .ok (.aload_n 1, 1) := by decide +kernel
theorem dX7_askIn_12 : decode cX7_askIn 12 = .ok (.bipush 24, 2) := by decide +kernel
theorem dX7_askIn_14 : decode cX7_askIn 14 = .ok (.aload_n 1, 1) := by decide +kernel
theorem dX7_askIn_15 : decode cX7_askIn 15 = .ok (.iconst 1, 1) := by decide +kernel
theorem dX7_askIn_16 : decode cX7_askIn 16 = .ok (.iaload, 1) := by decide +kernel
theorem dX7_askIn_17 : decode cX7_askIn 17 = .ok (.iadd, 1) := by decide +kernel
theorem dX7_askIn_18 : decode cX7_askIn 18 = .ok (.iload_n 2, 1) := by decide +kernel
theorem dX7_askIn_19 : decode cX7_askIn 19 = .ok (.iastore, 1) := by decide +kernel
theorem dX7_askIn_20 : decode cX7_askIn 20 = .ok (.aload_n 1, 1) := by decide +kernel
theorem dX7_askIn_21 : decode cX7_askIn 21 = .ok (.iconst 1, 1) := by decide +kernel
theorem dX7_askIn_22 : decode cX7_askIn 22 = .ok (.dup2, 1) := by decide +kernel
theorem dX7_askIn_23 : decode cX7_askIn 23 = .ok (.iaload, 1) := by decide +kernel
theorem dX7_askIn_24 : decode cX7_askIn 24 = .ok (.iconst 1, 1) := by decide +kernel
theorem dX7_askIn_25 : decode cX7_askIn 25 = .ok (.iadd, 1) := by decide +kernel
theorem dX7_askIn_26 : decode cX7_askIn 26 = .ok (.iastore, 1) := by decide +kernel
theorem dX7_askIn_27 : decode cX7_askIn 27 = .ok (.goto 10, 3) := by decide +kernel
theorem dX7_askIn_30 : decode cX7_askIn 30 = .ok (.aload_n 0, 1) := by decide +kernel
theorem dX7_askIn_31 : decode cX7_askIn 31 = .ok (.aload_n 1, 1) := by decide +kernel
theorem dX7_askIn_32 : decode cX7_askIn 32 = .ok (.iload_n 2, 1) := by decide +kernel
theorem dX7_askIn_33 : decode cX7_askIn 33 = .ok (.iload_n 3, 1) := by decide +kernel
theorem dX7_askIn_34 : decode cX7_askIn 34 = .ok (.invokevirtual 98, 3) := by decide +kernel
theorem dX7_askIn_37 : decode cX7_askIn 37 = .ok (.iload_n 3, 1) := by decide +kernel
theorem dX7_askIn_38 : decode cX7_askIn 38 = .ok (.ireturn, 1) := by decide +kernel
theorem dX7_yearIn_0 : decode cX7_yearIn 0 = .ok (.aload_n 1, 1) := by decide +kernel
theorem dX7_yearIn_1 : decode cX7_yearIn 1 = .ok (.iconst 0, 1) := by decide +kernel
theorem dX7_yearIn_2 : decode cX7_yearIn 2 = .ok (.dup2, 1) := by decide +kernel
theorem dX7_yearIn_3 : decode cX7_yearIn 3 = .ok (.iaload, 1) := by decide +kernel
theorem dX7_yearIn_4 : decode cX7_yearIn 4 = .ok (.iconst 1, 1) := by decide +kernel
theorem dX7_yearIn_5 : decode cX7_yearIn 5 = .ok (.iadd, 1) := by decide +kernel
theorem dX7_yearIn_6 : decode cX7_yearIn 6 = .ok (.iastore, 1) := by decide +kernel
theorem dX7_yearIn_7 : decode cX7_yearIn 7 = .ok (.iconst 0, 1) := by decide +kernel
theorem dX7_yearIn_8 : decode cX7_yearIn 8 = .ok (.istore_n 2, 1) := by decide +kernel
theorem dX7_yearIn_9 : decode cX7_yearIn 9 = .ok (.iload_n 2, 1) := by decide +kernel
theorem dX7_yearIn_10 : decode cX7_yearIn 10 = .ok (.bipush 24, 2) := by decide +kernel
theorem dX7_yearIn_12 : decode cX7_yearIn 12 = .ok (.if_icmp .ge 40, 3) := by decide +kernel
theorem dX7_yearIn_15 : decode cX7_yearIn 15 = .ok (.aload_n 1, 1) := by decide +kernel
theorem dX7_yearIn_16 : decode cX7_yearIn 16 = .ok (.iload_n 2, 1) := by decide +kernel
theorem dX7_yearIn_17 : decode cX7_yearIn 17 = .ok (.invokestatic 72, 3) := by decide +kernel
theorem dX7_yearIn_20 : decode cX7_yearIn 20 = .ok (.ifCond .eq 26, 3) := by decide +kernel
theorem dX7_yearIn_23 : decode cX7_yearIn 23 = .ok (.aload_n 1, 1) := by decide +kernel
theorem dX7_yearIn_24 : decode cX7_yearIn 24 = .ok (.iload_n 2, 1) := by decide +kernel
theorem dX7_yearIn_25 : decode cX7_yearIn 25 = .ok (.iconst 2, 1) := by decide +kernel
theorem dX7_yearIn_26 : decode cX7_yearIn 26 = .ok (.invokestatic 60, 3) := by decide +kernel
theorem dX7_yearIn_29 : decode cX7_yearIn 29 = .ok (.iaload, 1) := by decide +kernel
theorem dX7_yearIn_30 : decode cX7_yearIn 30 = .ok (.ifCond .ne 16, 3) := by decide +kernel
theorem dX7_yearIn_33 : decode cX7_yearIn 33 = .ok (.aload_n 1, 1) := by decide +kernel
theorem dX7_yearIn_34 : decode cX7_yearIn 34 = .ok (.iload_n 2, 1) := by decide +kernel
theorem dX7_yearIn_35 : decode cX7_yearIn 35 = .ok (.invokestatic 75, 3) := by decide +kernel
theorem dX7_yearIn_38 : decode cX7_yearIn 38 = .ok (.ifCond .ne 8, 3) := by decide +kernel
theorem dX7_yearIn_41 : decode cX7_yearIn 41 = .ok (.aload_n 1, 1) := by decide +kernel
theorem dX7_yearIn_42 : decode cX7_yearIn 42 = .ok (.iload_n 2, 1) := by decide +kernel
theorem dX7_yearIn_43 : decode cX7_yearIn 43 = .ok (.invokestatic 45, 3) := by decide +kernel
theorem dX7_yearIn_46 : decode cX7_yearIn 46 = .ok (.iinc 2 1, 3) := by decide +kernel
theorem dX7_yearIn_49 : decode cX7_yearIn 49 = .ok (.goto (-40), 3) := by decide +kernel
theorem dX7_yearIn_52 : decode cX7_yearIn 52 = .ok (.aload_n 0, 1) := by decide +kernel
theorem dX7_yearIn_53 : decode cX7_yearIn 53 = .ok (.aload_n 1, 1) := by decide +kernel
theorem dX7_yearIn_54 : decode cX7_yearIn 54 = .ok (.invokevirtual 101, 3) := by decide +kernel
theorem dX7_yearIn_57 : decode cX7_yearIn 57 = .ok (.ireturn, 1) := by decide +kernel
theorem dX7_runIn_0 : decode cX7_runIn 0 = .ok (.iconst 0, 1) := by decide +kernel
theorem dX7_runIn_1 : decode cX7_runIn 1 = .ok (.istore_n 3, 1) := by decide +kernel
theorem dX7_runIn_2 : decode cX7_runIn 2 = .ok (.iconst 0, 1) := by decide +kernel
theorem dX7_runIn_3 : decode cX7_runIn 3 = .ok (.istore 4, 2) := by decide +kernel
theorem dX7_runIn_5 : decode cX7_runIn 5 = .ok (.iload 4, 2) := by decide +kernel
theorem dX7_runIn_7 : decode cX7_runIn 7 = .ok (.iload_n 2, 1) := by decide +kernel
theorem dX7_runIn_8 : decode cX7_runIn 8 = .ok (.if_icmp .ge 17, 3) := by decide +kernel
theorem dX7_runIn_11 : decode cX7_runIn 11 = .ok (.iload_n 3, 1) := by decide +kernel
theorem dX7_runIn_12 : decode cX7_runIn 12 = .ok (.aload_n 0, 1) := by decide +kernel
theorem dX7_runIn_13 : decode cX7_runIn 13 = .ok (.aload_n 1, 1) := by decide +kernel
theorem dX7_runIn_14 : decode cX7_runIn 14 = .ok (.invokevirtual 105, 3) := by decide +kernel
theorem dX7_runIn_17 : decode cX7_runIn 17 = .ok (.iadd, 1) := by decide +kernel
theorem dX7_runIn_18 : decode cX7_runIn 18 = .ok (.istore_n 3, 1) := by decide +kernel
theorem dX7_runIn_19 : decode cX7_runIn 19 = .ok (.iinc 4 1, 3) := by decide +kernel
theorem dX7_runIn_22 : decode cX7_runIn 22 = .ok (.goto (-17), 3) := by decide +kernel
theorem dX7_runIn_25 : decode cX7_runIn 25 = .ok (.iload_n 3, 1) := by decide +kernel
theorem dX7_runIn_26 : decode cX7_runIn 26 = .ok (.ireturn, 1) := by decide +kernel
theorem dX7_canBury_0 : decode cX7_canBury 0 = .ok (.aload_n 0, 1) := by decide +kernel
theorem dX7_canBury_1 : decode cX7_canBury 1 = .ok (.iload_n 1, 1) := by decide +kernel
theorem dX7_canBury_2 : decode cX7_canBury 2 = .ok (.invokestatic 108, 3) := by decide +kernel
theorem dX7_canBury_5 : decode cX7_canBury 5 = .ok (.iconst 1, 1) := by decide +kernel
theorem dX7_canBury_6 : decode cX7_canBury 6 = .ok (.if_icmp .ne 34, 3) := by decide +kernel
theorem dX7_canBury_9 : decode cX7_canBury 9 = .ok (.aload_n 0, 1) := by decide +kernel
theorem dX7_canBury_10 : decode cX7_canBury 10 = .ok (.iload_n 1, 1) := by decide +kernel
theorem dX7_canBury_11 : decode cX7_canBury 11 = .ok (.invokestatic 75, 3) := by decide +kernel
theorem dX7_canBury_14 : decode cX7_canBury 14 = .ok (.ifCond .ne 26, 3) := by decide +kernel
theorem dX7_canBury_17 : decode cX7_canBury 17 = .ok (.aload_n 0, 1) := by decide +kernel
theorem dX7_canBury_18 : decode cX7_canBury 18 = .ok (.iload_n 1, 1) := by decide +kernel
theorem dX7_canBury_19 : decode cX7_canBury 19 = .ok (.iconst 2, 1) := by decide +kernel
theorem dX7_canBury_20 : decode cX7_canBury 20 = .ok (.invokestatic 60, 3) := by decide +kernel
theorem dX7_canBury_23 : decode cX7_canBury 23 = .ok (.iaload, 1) := by decide +kernel
theorem dX7_canBury_24 : decode cX7_canBury 24 = .ok (.aload_n 0, 1) := by decide +kernel
theorem dX7_canBury_25 : decode cX7_canBury 25 = .ok (.bipush 10, 2) := by decide +kernel
theorem dX7_canBury_27 : decode cX7_canBury 27 = .ok (.iload_n 1, 1) := by decide +kernel
theorem dX7_canBury_28 : decode cX7_canBury 28 = .ok (.bipush 6, 2) := by decide +kernel
theorem dX7_canBury_30 : decode cX7_canBury 30 = .ok (.idiv, 1) := by decide +kernel
theorem dX7_canBury_31 : decode cX7_canBury 31 = .ok (.iadd, 1) := by decide +kernel
theorem dX7_canBury_32 : decode cX7_canBury 32 = .ok (.iaload, 1) := by decide +kernel
theorem dX7_canBury_33 : decode cX7_canBury 33 = .ok (.if_icmp .ge 7, 3) := by decide +kernel
theorem dX7_canBury_36 : decode cX7_canBury 36 = .ok (.iconst 1, 1) := by decide +kernel
theorem dX7_canBury_37 : decode cX7_canBury 37 = .ok (.goto 4, 3) := by decide +kernel
theorem dX7_canBury_40 : decode cX7_canBury 40 = .ok (.iconst 0, 1) := by decide +kernel
theorem dX7_canBury_41 : decode cX7_canBury 41 = .ok (.ireturn, 1) := by decide +kernel
theorem dX7_buryIn_0 : decode cX7_buryIn 0 = .ok (.aload_n 0, 1) := by decide +kernel
theorem dX7_buryIn_1 : decode cX7_buryIn 1 = .ok (.iload_n 1, 1) := by decide +kernel
theorem dX7_buryIn_2 : decode cX7_buryIn 2 = .ok (.iconst 0, 1) := by decide +kernel
theorem dX7_buryIn_3 : decode cX7_buryIn 3 = .ok (.invokestatic 60, 3) := by decide +kernel
theorem dX7_buryIn_6 : decode cX7_buryIn 6 = .ok (.iaload, 1) := by decide +kernel
theorem dX7_buryIn_7 : decode cX7_buryIn 7 = .ok (.istore_n 2, 1) := by decide +kernel
theorem dX7_buryIn_8 : decode cX7_buryIn 8 = .ok (.aload_n 0, 1) := by decide +kernel
theorem dX7_buryIn_9 : decode cX7_buryIn 9 = .ok (.iconst 0, 1) := by decide +kernel
theorem dX7_buryIn_10 : decode cX7_buryIn 10 = .ok (.iaload, 1) := by decide +kernel
theorem dX7_buryIn_11 : decode cX7_buryIn 11 = .ok (.aload_n 0, 1) := by decide +kernel
theorem dX7_buryIn_12 : decode cX7_buryIn 12 = .ok (.bipush 6, 2) := by decide +kernel
theorem dX7_buryIn_14 : decode cX7_buryIn 14 = .ok (.iaload, 1) := by decide +kernel
theorem dX7_buryIn_15 : decode cX7_buryIn 15 = .ok (.iadd, 1) := by decide +kernel
theorem dX7_buryIn_16 : decode cX7_buryIn 16 = .ok (.istore_n 3, 1) := by decide +kernel
theorem dX7_buryIn_17 : decode cX7_buryIn 17 = .ok (.aload_n 0, 1) := by decide +kernel
theorem dX7_buryIn_18 : decode cX7_buryIn 18 = .ok (.iload_n 1, 1) := by decide +kernel
theorem dX7_buryIn_19 : decode cX7_buryIn 19 = .ok (.iconst 3, 1) := by decide +kernel
theorem dX7_buryIn_20 : decode cX7_buryIn 20 = .ok (.aload_n 0, 1) := by decide +kernel
theorem dX7_buryIn_21 : decode cX7_buryIn 21 = .ok (.iload_n 1, 1) := by decide +kernel
theorem dX7_buryIn_22 : decode cX7_buryIn 22 = .ok (.iconst 2, 1) := by decide +kernel
theorem dX7_buryIn_23 : decode cX7_buryIn 23 = .ok (.invokestatic 60, 3) := by decide +kernel
theorem dX7_buryIn_26 : decode cX7_buryIn 26 = .ok (.iaload, 1) := by decide +kernel
theorem dX7_buryIn_27 : decode cX7_buryIn 27 = .ok (.iadd, 1) := by decide +kernel
theorem dX7_buryIn_28 : decode cX7_buryIn 28 = .ok (.invokestatic 60, 3) := by decide +kernel
theorem dX7_buryIn_31 : decode cX7_buryIn 31 = .ok (.aload_n 0, 1) := by decide +kernel
theorem dX7_buryIn_32 : decode cX7_buryIn 32 = .ok (.iconst 0, 1) := by decide +kernel
theorem dX7_buryIn_33 : decode cX7_buryIn 33 = .ok (.iaload, 1) := by decide +kernel
theorem dX7_buryIn_34 : decode cX7_buryIn 34 = .ok (.iastore, 1) := by decide +kernel
theorem dX7_buryIn_35 : decode cX7_buryIn 35 = .ok (.aload_n 0, 1) := by decide +kernel
theorem dX7_buryIn_36 : decode cX7_buryIn 36 = .ok (.iload_n 1, 1) := by decide +kernel
theorem dX7_buryIn_37 : decode cX7_buryIn 37 = .ok (.iconst 2, 1) := by decide +kernel
theorem dX7_buryIn_38 : decode cX7_buryIn 38 = .ok (.invokestatic 60, 3) := by decide +kernel
theorem dX7_buryIn_41 : decode cX7_buryIn 41 = .ok (.dup2, 1) := by decide +kernel
theorem dX7_buryIn_42 : decode cX7_buryIn 42 = .ok (.iaload, 1) := by decide +kernel
theorem dX7_buryIn_43 : decode cX7_buryIn 43 = .ok (.iconst 1, 1) := by decide +kernel
theorem dX7_buryIn_44 : decode cX7_buryIn 44 = .ok (.iadd, 1) := by decide +kernel
theorem dX7_buryIn_45 : decode cX7_buryIn 45 = .ok (.iastore, 1) := by decide +kernel
theorem dX7_buryIn_46 : decode cX7_buryIn 46 = .ok (.aload_n 0, 1) := by decide +kernel
theorem dX7_buryIn_47 : decode cX7_buryIn 47 = .ok (.iload_n 2, 1) := by decide +kernel
theorem dX7_buryIn_48 : decode cX7_buryIn 48 = .ok (.aload_n 0, 1) := by decide +kernel
theorem dX7_buryIn_49 : decode cX7_buryIn 49 = .ok (.bipush 8, 2) := by decide +kernel
theorem dX7_buryIn_51 : decode cX7_buryIn 51 = .ok (.iaload, 1) := by decide +kernel
theorem dX7_buryIn_52 : decode cX7_buryIn 52 = .ok (.invokestatic 91, 3) := by decide +kernel
theorem dX7_buryIn_55 : decode cX7_buryIn 55 = .ok (.aload_n 0, 1) := by decide +kernel
theorem dX7_buryIn_56 : decode cX7_buryIn 56 = .ok (.iload_n 1, 1) := by decide +kernel
theorem dX7_buryIn_57 : decode cX7_buryIn 57 = .ok (.iconst 1, 1) := by decide +kernel
theorem dX7_buryIn_58 : decode cX7_buryIn 58 = .ok (.invokestatic 60, 3) := by decide +kernel
theorem dX7_buryIn_61 : decode cX7_buryIn 61 = .ok (.iaload, 1) := by decide +kernel
theorem dX7_buryIn_62 : decode cX7_buryIn 62 = .ok (.iload_n 3, 1) := by decide +kernel
theorem dX7_buryIn_63 : decode cX7_buryIn 63 = .ok (.if_icmp .ge 30, 3) := by decide +kernel
theorem dX7_buryIn_66 : decode cX7_buryIn 66 = .ok (.aload_n 0, 1) := by decide +kernel
theorem dX7_buryIn_67 : decode cX7_buryIn 67 = .ok (.iload_n 2, 1) := by decide +kernel
theorem dX7_buryIn_68 : decode cX7_buryIn 68 = .ok (.iload_n 3, 1) := by decide +kernel
theorem dX7_buryIn_69 : decode cX7_buryIn 69 = .ok (.aload_n 0, 1) := by decide +kernel
theorem dX7_buryIn_70 : decode cX7_buryIn 70 = .ok (.iload_n 1, 1) := by decide +kernel
theorem dX7_buryIn_71 : decode cX7_buryIn 71 = .ok (.iconst 1, 1) := by decide +kernel
theorem dX7_buryIn_72 : decode cX7_buryIn 72 = .ok (.invokestatic 60, 3) := by decide +kernel
theorem dX7_buryIn_75 : decode cX7_buryIn 75 = .ok (.iaload, 1) := by decide +kernel
theorem dX7_buryIn_76 : decode cX7_buryIn 76 = .ok (.isub, 1) := by decide +kernel
theorem dX7_buryIn_77 : decode cX7_buryIn 77 = .ok (.aload_n 0, 1) := by decide +kernel
theorem dX7_buryIn_78 : decode cX7_buryIn 78 = .ok (.bipush 7, 2) := by decide +kernel
theorem dX7_buryIn_80 : decode cX7_buryIn 80 = .ok (.iaload, 1) := by decide +kernel
theorem dX7_buryIn_81 : decode cX7_buryIn 81 = .ok (.imul, 1) := by decide +kernel
theorem dX7_buryIn_82 : decode cX7_buryIn 82 = .ok (.invokestatic 91, 3) := by decide +kernel
theorem dX7_buryIn_85 : decode cX7_buryIn 85 = .ok (.aload_n 0, 1) := by decide +kernel
theorem dX7_buryIn_86 : decode cX7_buryIn 86 = .ok (.iload_n 1, 1) := by decide +kernel
theorem dX7_buryIn_87 : decode cX7_buryIn 87 = .ok (.iconst 1, 1) := by decide +kernel
theorem dX7_buryIn_88 : decode cX7_buryIn 88 = .ok (.invokestatic 60, 3) := by decide +kernel
theorem dX7_buryIn_91 : decode cX7_buryIn 91 = .ok (.iload_n 3, 1) := by decide +kernel
theorem dX7_buryIn_92 : decode cX7_buryIn 92 = .ok (.iastore, 1) := by decide +kernel
theorem dX7_buryIn_93 : decode cX7_buryIn 93 = .ok (.aload_n 0, 1) := by decide +kernel
theorem dX7_buryIn_94 : decode cX7_buryIn 94 = .ok (.iload_n 1, 1) := by decide +kernel
theorem dX7_buryIn_95 : decode cX7_buryIn 95 = .ok (.iconst 1, 1) := by decide +kernel
theorem dX7_buryIn_96 : decode cX7_buryIn 96 = .ok (.invokestatic 60, 3) := by decide +kernel
theorem dX7_buryIn_99 : decode cX7_buryIn 99 = .ok (.iaload, 1) := by decide +kernel
theorem dX7_buryIn_100 : decode cX7_buryIn 100 = .ok (.ireturn, 1) := by decide +kernel
theorem dX7_clearIn_0 : decode cX7_clearIn 0 = .ok (.aload_n 0, 1) := by decide +kernel
theorem dX7_clearIn_1 : decode cX7_clearIn 1 = .ok (.iload_n 1, 1) := by decide +kernel
theorem dX7_clearIn_2 : decode cX7_clearIn 2 = .ok (.iconst 2, 1) := by decide +kernel
theorem dX7_clearIn_3 : decode cX7_clearIn 3 = .ok (.invokestatic 60, 3) := by decide +kernel
theorem dX7_clearIn_6 : decode cX7_clearIn 6 = .ok (.iaload, 1) := by decide +kernel
theorem dX7_clearIn_7 : decode cX7_clearIn 7 = .ok (.istore_n 2, 1) := by decide +kernel
theorem dX7_clearIn_8 : decode cX7_clearIn 8 = .ok (.aload_n 0, 1) := by decide +kernel
theorem dX7_clearIn_9 : decode cX7_clearIn 9 = .ok (.iconst 4, 1) := by decide +kernel
theorem dX7_clearIn_10 : decode cX7_clearIn 10 = .ok (.dup2, 1) := by decide +kernel
theorem dX7_clearIn_11 : decode cX7_clearIn 11 = .ok (.iaload, 1) := by decide +kernel
theorem dX7_clearIn_12 : decode cX7_clearIn 12 = .ok (.iload_n 2, 1) := by decide +kernel
theorem dX7_clearIn_13 : decode cX7_clearIn 13 = .ok (.iadd, 1) := by decide +kernel
theorem dX7_clearIn_14 : decode cX7_clearIn 14 = .ok (.iastore, 1) := by decide +kernel
theorem dX7_clearIn_15 : decode cX7_clearIn 15 = .ok (.aload_n 0, 1) := by decide +kernel
theorem dX7_clearIn_16 : decode cX7_clearIn 16 = .ok (.iconst 3, 1) := by decide +kernel
theorem dX7_clearIn_17 : decode cX7_clearIn 17 = .ok (.dup2, 1) := by decide +kernel
theorem dX7_clearIn_18 : decode cX7_clearIn 18 = .ok (.iaload, 1) := by decide +kernel
theorem dX7_clearIn_19 : decode cX7_clearIn 19 = .ok (.aload_n 0, 1) := by decide +kernel
theorem dX7_clearIn_20 : decode cX7_clearIn 20 = .ok (.bipush 9, 2) := by decide +kernel
theorem dX7_clearIn_22 : decode cX7_clearIn 22 = .ok (.iaload, 1) := by decide +kernel
theorem dX7_clearIn_23 : decode cX7_clearIn 23 = .ok (.iadd, 1) := by decide +kernel
theorem dX7_clearIn_24 : decode cX7_clearIn 24 = .ok (.iastore, 1) := by decide +kernel
theorem dX7_clearIn_25 : decode cX7_clearIn 25 = .ok (.aload_n 0, 1) := by decide +kernel
theorem dX7_clearIn_26 : decode cX7_clearIn 26 = .ok (.iload_n 1, 1) := by decide +kernel
theorem dX7_clearIn_27 : decode cX7_clearIn 27 = .ok (.invokestatic 45, 3) := by decide +kernel
theorem dX7_clearIn_30 : decode cX7_clearIn 30 = .ok (.iload_n 2, 1) := by decide +kernel
theorem dX7_clearIn_31 : decode cX7_clearIn 31 = .ok (.ireturn, 1) := by decide +kernel
theorem dX7_canClaim_0 : decode cX7_canClaim 0 = .ok (.aload_n 0, 1) := by decide +kernel
theorem dX7_canClaim_1 : decode cX7_canClaim 1 = .ok (.iload_n 1, 1) := by decide +kernel
theorem dX7_canClaim_2 : decode cX7_canClaim 2 = .ok (.invokestatic 64, 3) := by decide +kernel
theorem dX7_canClaim_5 : decode cX7_canClaim 5 = .ok (.ifCond .ne 26, 3) := by decide +kernel
theorem dX7_canClaim_8 : decode cX7_canClaim 8 = .ok (.aload_n 0, 1) := by decide +kernel
theorem dX7_canClaim_9 : decode cX7_canClaim 9 = .ok (.iload_n 1, 1) := by decide +kernel
theorem dX7_canClaim_10 : decode cX7_canClaim 10 = .ok (.iconst 0, 1) := by decide +kernel
theorem dX7_canClaim_11 : decode cX7_canClaim 11 = .ok (.invokestatic 60, 3) := by decide +kernel
theorem dX7_canClaim_14 : decode cX7_canClaim 14 = .ok (.iaload, 1) := by decide +kernel
theorem dX7_canClaim_15 : decode cX7_canClaim 15 = .ok (.iload_n 2, 1) := by decide +kernel
theorem dX7_canClaim_16 : decode cX7_canClaim 16 = .ok (.if_icmp .eq 15, 3) := by decide +kernel
theorem dX7_canClaim_19 : decode cX7_canClaim 19 = .ok (.aload_n 0, 1) := by decide +kernel
theorem dX7_canClaim_20 : decode cX7_canClaim 20 = .ok (.iload_n 1, 1) := by decide +kernel
theorem dX7_canClaim_21 : decode cX7_canClaim 21 = .ok (.invokestatic 75, 3) := by decide +kernel
theorem dX7_canClaim_24 : decode cX7_canClaim 24 = .ok (.ifCond .ne 7, 3) := by decide +kernel
theorem dX7_canClaim_27 : decode cX7_canClaim 27 = .ok (.iconst 1, 1) := by decide +kernel
theorem dX7_canClaim_28 : decode cX7_canClaim 28 = .ok (.goto 4, 3) := by decide +kernel
theorem dX7_canClaim_31 : decode cX7_canClaim 31 = .ok (.iconst 0, 1) := by decide +kernel
theorem dX7_canClaim_32 : decode cX7_canClaim 32 = .ok (.ireturn, 1) := by decide +kernel
theorem dX7_settleIn_0 : decode cX7_settleIn 0 = .ok (.aload_n 0, 1) := by decide +kernel
theorem dX7_settleIn_1 : decode cX7_settleIn 1 = .ok (.iload_n 1, 1) := by decide +kernel
theorem dX7_settleIn_2 : decode cX7_settleIn 2 = .ok (.iconst 0, 1) := by decide +kernel
theorem dX7_settleIn_3 : decode cX7_settleIn 3 = .ok (.invokestatic 60, 3) := by decide +kernel
theorem dX7_settleIn_6 : decode cX7_settleIn 6 = .ok (.iload_n 2, 1) := by decide +kernel
theorem dX7_settleIn_7 : decode cX7_settleIn 7 = .ok (.ifCond .eq 14, 3) := by decide +kernel
theorem dX7_settleIn_10 : decode cX7_settleIn 10 = .ok (.aload_n 0, 1) := by decide +kernel
theorem dX7_settleIn_11 : decode cX7_settleIn 11 = .ok (.iload_n 1, 1) := by decide +kernel
theorem dX7_settleIn_12 : decode cX7_settleIn 12 = .ok (.bipush 6, 2) := by decide +kernel
theorem dX7_settleIn_14 : decode cX7_settleIn 14 = .ok (.invokestatic 60, 3) := by decide +kernel
theorem dX7_settleIn_17 : decode cX7_settleIn 17 = .ok (.iaload, 1) := by decide +kernel
theorem dX7_settleIn_18 : decode cX7_settleIn 18 = .ok (.goto 10, 3) := by decide +kernel
theorem dX7_settleIn_21 : decode cX7_settleIn 21 = .ok (.aload_n 0, 1) := by decide +kernel
theorem dX7_settleIn_22 : decode cX7_settleIn 22 = .ok (.iload_n 1, 1) := by decide +kernel
theorem dX7_settleIn_23 : decode cX7_settleIn 23 = .ok (.iconst 0, 1) := by decide +kernel
theorem dX7_settleIn_24 : decode cX7_settleIn 24 = .ok (.invokestatic 60, 3) := by decide +kernel
theorem dX7_settleIn_27 : decode cX7_settleIn 27 = .ok (.iaload, 1) := by decide +kernel
theorem dX7_settleIn_28 : decode cX7_settleIn 28 = .ok (.iastore, 1) := by decide +kernel
theorem dX7_settleIn_29 : decode cX7_settleIn 29 = .ok (.aload_n 0, 1) := by decide +kernel
theorem dX7_settleIn_30 : decode cX7_settleIn 30 = .ok (.iload_n 1, 1) := by decide +kernel
theorem dX7_settleIn_31 : decode cX7_settleIn 31 = .ok (.bipush 6, 2) := by decide +kernel
theorem dX7_settleIn_33 : decode cX7_settleIn 33 = .ok (.invokestatic 60, 3) := by decide +kernel
theorem dX7_settleIn_36 : decode cX7_settleIn 36 = .ok (.iconst (-1), 1) := by decide +kernel
theorem dX7_settleIn_37 : decode cX7_settleIn 37 = .ok (.iastore, 1) := by decide +kernel
theorem dX7_settleIn_38 : decode cX7_settleIn 38 = .ok (.aload_n 0, 1) := by decide +kernel
theorem dX7_settleIn_39 : decode cX7_settleIn 39 = .ok (.iload_n 1, 1) := by decide +kernel
theorem dX7_settleIn_40 : decode cX7_settleIn 40 = .ok (.iconst 0, 1) := by decide +kernel
theorem dX7_settleIn_41 : decode cX7_settleIn 41 = .ok (.invokestatic 60, 3) := by decide +kernel
theorem dX7_settleIn_44 : decode cX7_settleIn 44 = .ok (.iaload, 1) := by decide +kernel
theorem dX7_settleIn_45 : decode cX7_settleIn 45 = .ok (.ireturn, 1) := by decide +kernel
theorem dX7_renewIn_0 : decode cX7_renewIn 0 = .ok (.aload_n 0, 1) := by decide +kernel
theorem dX7_renewIn_1 : decode cX7_renewIn 1 = .ok (.iload_n 1, 1) := by decide +kernel
theorem dX7_renewIn_2 : decode cX7_renewIn 2 = .ok (.iconst 1, 1) := by decide +kernel
theorem dX7_renewIn_3 : decode cX7_renewIn 3 = .ok (.invokestatic 60, 3) := by decide +kernel
theorem dX7_renewIn_6 : decode cX7_renewIn 6 = .ok (.dup2, 1) := by decide +kernel
theorem dX7_renewIn_7 : decode cX7_renewIn 7 = .ok (.iaload, 1) := by decide +kernel
theorem dX7_renewIn_8 : decode cX7_renewIn 8 = .ok (.iload_n 2, 1) := by decide +kernel
theorem dX7_renewIn_9 : decode cX7_renewIn 9 = .ok (.iadd, 1) := by decide +kernel
theorem dX7_renewIn_10 : decode cX7_renewIn 10 = .ok (.iastore, 1) := by decide +kernel
theorem dX7_renewIn_11 : decode cX7_renewIn 11 = .ok (.aload_n 0, 1) := by decide +kernel
theorem dX7_renewIn_12 : decode cX7_renewIn 12 = .ok (.aload_n 0, 1) := by decide +kernel
theorem dX7_renewIn_13 : decode cX7_renewIn 13 = .ok (.iload_n 1, 1) := by decide +kernel
theorem dX7_renewIn_14 : decode cX7_renewIn 14 = .ok (.iconst 0, 1) := by decide +kernel
theorem dX7_renewIn_15 : decode cX7_renewIn 15 = .ok (.invokestatic 60, 3) := by decide +kernel
theorem dX7_renewIn_18 : decode cX7_renewIn 18 = .ok (.iaload, 1) := by decide +kernel
theorem dX7_renewIn_19 : decode cX7_renewIn 19 = .ok (.iload_n 2, 1) := by decide +kernel
theorem dX7_renewIn_20 : decode cX7_renewIn 20 = .ok (.aload_n 0, 1) := by decide +kernel
theorem dX7_renewIn_21 : decode cX7_renewIn 21 = .ok (.bipush 7, 2) := by decide +kernel
theorem dX7_renewIn_23 : decode cX7_renewIn 23 = .ok (.iaload, 1) := by decide +kernel
theorem dX7_renewIn_24 : decode cX7_renewIn 24 = .ok (.imul, 1) := by decide +kernel
theorem dX7_renewIn_25 : decode cX7_renewIn 25 = .ok (.invokestatic 91, 3) := by decide +kernel
theorem dX7_renewIn_28 : decode cX7_renewIn 28 = .ok (.aload_n 0, 1) := by decide +kernel
theorem dX7_renewIn_29 : decode cX7_renewIn 29 = .ok (.iload_n 1, 1) := by decide +kernel
theorem dX7_renewIn_30 : decode cX7_renewIn 30 = .ok (.iconst 1, 1) := by decide +kernel
theorem dX7_renewIn_31 : decode cX7_renewIn 31 = .ok (.invokestatic 60, 3) := by decide +kernel
theorem dX7_renewIn_34 : decode cX7_renewIn 34 = .ok (.iaload, 1) := by decide +kernel
theorem dX7_renewIn_35 : decode cX7_renewIn 35 = .ok (.ireturn, 1) := by decide +kernel
theorem dX7_inState_0 : decode cX7_inState 0 = .ok (.iconst 0, 1) := by decide +kernel
theorem dX7_inState_1 : decode cX7_inState 1 = .ok (.istore_n 2, 1) := by decide +kernel
theorem dX7_inState_2 : decode cX7_inState 2 = .ok (.iconst 0, 1) := by decide +kernel
theorem dX7_inState_3 : decode cX7_inState 3 = .ok (.istore_n 3, 1) := by decide +kernel
theorem dX7_inState_4 : decode cX7_inState 4 = .ok (.iload_n 3, 1) := by decide +kernel
theorem dX7_inState_5 : decode cX7_inState 5 = .ok (.bipush 24, 2) := by decide +kernel
theorem dX7_inState_7 : decode cX7_inState 7 = .ok (.if_icmp .ge 26, 3) := by decide +kernel
theorem dX7_inState_10 : decode cX7_inState 10 = .ok (.iload_n 2, 1) := by decide +kernel
theorem dX7_inState_11 : decode cX7_inState 11 = .ok (.aload_n 0, 1) := by decide +kernel
theorem dX7_inState_12 : decode cX7_inState 12 = .ok (.iload_n 3, 1) := by decide +kernel
theorem dX7_inState_13 : decode cX7_inState 13 = .ok (.invokestatic 108, 3) := by decide +kernel
theorem dX7_inState_16 : decode cX7_inState 16 = .ok (.iload_n 1, 1) := by decide +kernel
theorem dX7_inState_17 : decode cX7_inState 17 = .ok (.if_icmp .ne 7, 3) := by decide +kernel
theorem dX7_inState_20 : decode cX7_inState 20 = .ok (.iconst 1, 1) := by decide +kernel
theorem dX7_inState_21 : decode cX7_inState 21 = .ok (.goto 4, 3) := by decide +kernel
theorem dX7_inState_24 : decode cX7_inState 24 = .ok (.iconst 0, 1) := by decide +kernel
theorem dX7_inState_25 : decode cX7_inState 25 = .ok (.iadd, 1) := by decide +kernel
theorem dX7_inState_26 : decode cX7_inState 26 = .ok (.istore_n 2, 1) := by decide +kernel
theorem dX7_inState_27 : decode cX7_inState 27 = .ok (.iinc 3 1, 3) := by decide +kernel
theorem dX7_inState_30 : decode cX7_inState 30 = .ok (.goto (-26), 3) := by decide +kernel
theorem dX7_inState_33 : decode cX7_inState 33 = .ok (.iload_n 2, 1) := by decide +kernel
theorem dX7_inState_34 : decode cX7_inState 34 = .ok (.ireturn, 1) := by decide +kernel
theorem dX7_lapsed_0 : decode cX7_lapsed 0 = .ok (.aload_n 0, 1) := by decide +kernel
theorem dX7_lapsed_1 : decode cX7_lapsed 1 = .ok (.iconst 2, 1) := by decide +kernel
theorem dX7_lapsed_2 : decode cX7_lapsed 2 = .ok (.invokestatic 111, 3) := by decide +kernel
theorem dX7_lapsed_5 : decode cX7_lapsed 5 = .ok (.aload_n 0, 1) := by decide +kernel
theorem dX7_lapsed_6 : decode cX7_lapsed 6 = .ok (.iconst 3, 1) := by decide +kernel
theorem dX7_lapsed_7 : decode cX7_lapsed 7 = .ok (.invokestatic 111, 3) := by decide +kernel
theorem dX7_lapsed_10 : decode cX7_lapsed 10 = .ok (.iadd, 1) := by decide +kernel
theorem dX7_lapsed_11 : decode cX7_lapsed 11 = .ok (.aload_n 0, 1) := by decide +kernel
theorem dX7_lapsed_12 : decode cX7_lapsed 12 = .ok (.iconst 4, 1) := by decide +kernel
theorem dX7_lapsed_13 : decode cX7_lapsed 13 = .ok (.invokestatic 111, 3) := by decide +kernel
theorem dX7_lapsed_16 : decode cX7_lapsed 16 = .ok (.iadd, 1) := by decide +kernel
theorem dX7_lapsed_17 : decode cX7_lapsed 17 = .ok (.ireturn, 1) := by decide +kernel
theorem dX7_disputes_0 : decode cX7_disputes 0 = .ok (.iconst 0, 1) := by decide +kernel
theorem dX7_disputes_1 : decode cX7_disputes 1 = .ok (.istore_n 1, 1) := by decide +kernel
theorem dX7_disputes_2 : decode cX7_disputes 2 = .ok (.iconst 0, 1) := by decide +kernel
theorem dX7_disputes_3 : decode cX7_disputes 3 = .ok (.istore_n 2, 1) := by decide +kernel
theorem dX7_disputes_4 : decode cX7_disputes 4 = .ok (.iload_n 2, 1) := by decide +kernel
theorem dX7_disputes_5 : decode cX7_disputes 5 = .ok (.bipush 24, 2) := by decide +kernel
theorem dX7_disputes_7 : decode cX7_disputes 7 = .ok (.if_icmp .ge 25, 3) := by decide +kernel
theorem dX7_disputes_10 : decode cX7_disputes 10 = .ok (.iload_n 1, 1) := by decide +kernel
theorem dX7_disputes_11 : decode cX7_disputes 11 = .ok (.aload_n 0, 1) := by decide +kernel
theorem dX7_disputes_12 : decode cX7_disputes 12 = .ok (.iload_n 2, 1) := by decide +kernel
theorem dX7_disputes_13 : decode cX7_disputes 13 = .ok (.invokestatic 75, 3) := by decide +kernel
theorem dX7_disputes_16 : decode cX7_disputes 16 = .ok (.ifCond .eq 7, 3) := by decide +kernel
theorem dX7_disputes_19 : decode cX7_disputes 19 = .ok (.iconst 1, 1) := by decide +kernel
theorem dX7_disputes_20 : decode cX7_disputes 20 = .ok (.goto 4, 3) := by decide +kernel
theorem dX7_disputes_23 : decode cX7_disputes 23 = .ok (.iconst 0, 1) := by decide +kernel
theorem dX7_disputes_24 : decode cX7_disputes 24 = .ok (.iadd, 1) := by decide +kernel
theorem dX7_disputes_25 : decode cX7_disputes 25 = .ok (.istore_n 1, 1) := by decide +kernel
theorem dX7_disputes_26 : decode cX7_disputes 26 = .ok (.iinc 2 1, 3) := by decide +kernel
theorem dX7_disputes_29 : decode cX7_disputes 29 = .ok (.goto (-25), 3) := by decide +kernel
theorem dX7_disputes_32 : decode cX7_disputes 32 = .ok (.iload_n 1, 1) := by decide +kernel
theorem dX7_disputes_33 : decode cX7_disputes 33 = .ok (.ireturn, 1) := by decide +kernel
theorem dX7_buried_0 : decode cX7_buried 0 = .ok (.iconst 0, 1) := by decide +kernel
theorem dX7_buried_1 : decode cX7_buried 1 = .ok (.istore_n 1, 1) := by decide +kernel
theorem dX7_buried_2 : decode cX7_buried 2 = .ok (.iconst 0, 1) := by decide +kernel
theorem dX7_buried_3 : decode cX7_buried 3 = .ok (.istore_n 2, 1) := by decide +kernel
theorem dX7_buried_4 : decode cX7_buried 4 = .ok (.iload_n 2, 1) := by decide +kernel
theorem dX7_buried_5 : decode cX7_buried 5 = .ok (.bipush 24, 2) := by decide +kernel
theorem dX7_buried_7 : decode cX7_buried 7 = .ok (.if_icmp .ge 19, 3) := by decide +kernel
theorem dX7_buried_10 : decode cX7_buried 10 = .ok (.iload_n 1, 1) := by decide +kernel
theorem dX7_buried_11 : decode cX7_buried 11 = .ok (.aload_n 0, 1) := by decide +kernel
theorem dX7_buried_12 : decode cX7_buried 12 = .ok (.iload_n 2, 1) := by decide +kernel
theorem dX7_buried_13 : decode cX7_buried 13 = .ok (.iconst 2, 1) := by decide +kernel
theorem dX7_buried_14 : decode cX7_buried 14 = .ok (.invokestatic 60, 3) := by decide +kernel
theorem dX7_buried_17 : decode cX7_buried 17 = .ok (.iaload, 1) := by decide +kernel
theorem dX7_buried_18 : decode cX7_buried 18 = .ok (.iadd, 1) := by decide +kernel
theorem dX7_buried_19 : decode cX7_buried 19 = .ok (.istore_n 1, 1) := by decide +kernel
theorem dX7_buried_20 : decode cX7_buried 20 = .ok (.iinc 2 1, 3) := by decide +kernel
theorem dX7_buried_23 : decode cX7_buried 23 = .ok (.goto (-19), 3) := by decide +kernel
theorem dX7_buried_26 : decode cX7_buried 26 = .ok (.iload_n 1, 1) := by decide +kernel
theorem dX7_buried_27 : decode cX7_buried 27 = .ok (.ireturn, 1) := by decide +kernel
theorem dX7_append_0 : decode cX7_append 0 = .ok (.aload_n 0, 1) := by decide +kernel
theorem dX7_append_1 : decode cX7_append 1 = .ok (.iload_n 1, 1) := by decide +kernel
theorem dX7_append_2 : decode cX7_append 2 = .ok (.i2l, 1) := by decide +kernel
theorem dX7_append_3 : decode cX7_append 3 = .ok (.lconst 0, 1) := by decide +kernel
theorem dX7_append_4 : decode cX7_append 4 = .ok (.ldc2_w 114, 3) := by decide +kernel
theorem dX7_append_7 : decode cX7_append 7 = .ok (.invokestatic 116, 3) := by decide +kernel
theorem dX7_append_10 : decode cX7_append 10 = .ok (.ifCond .ne 7, 3) := by decide +kernel
theorem dX7_append_13 : decode cX7_append 13 = .ok (.iconst 1, 1) := by decide +kernel
theorem dX7_append_14 : decode cX7_append 14 = .ok (.goto 17, 3) := by decide +kernel
theorem dX7_append_17 : decode cX7_append 17 = .ok (.aload_n 0, 1) := by decide +kernel
theorem dX7_append_18 : decode cX7_append 18 = .ok (.getfield 120, 3) := by decide +kernel
theorem dX7_append_21 : decode cX7_append 21 = .ok (.bipush 120, 2) := by decide +kernel
theorem dX7_append_23 : decode cX7_append 23 = .ok (.if_icmp .ne 7, 3) := by decide +kernel
theorem dX7_append_26 : decode cX7_append 26 = .ok (.iconst 2, 1) := by decide +kernel
theorem dX7_append_27 : decode cX7_append 27 = .ok (.goto 4, 3) := by decide +kernel
theorem dX7_append_30 : decode cX7_append 30 = .ok (.iconst 0, 1) := by decide +kernel
theorem dX7_append_31 : decode cX7_append 31 = .ok (.invokevirtual 123, 3) := by decide +kernel
theorem dX7_append_34 : decode cX7_append 34 = .ok (.ifCond .eq 5, 3) := by decide +kernel
theorem dX7_append_37 : decode cX7_append 37 = .ok (.iconst 0, 1) := by decide +kernel
theorem dX7_append_38 : decode cX7_append 38 = .ok (.ireturn, 1) := by decide +kernel
theorem dX7_append_39 : decode cX7_append 39 = .ok (.aload_n 0, 1) := by decide +kernel
theorem dX7_append_40 : decode cX7_append 40 = .ok (.getfield 7, 3) := by decide +kernel
theorem dX7_append_43 : decode cX7_append 43 = .ok (.aload_n 0, 1) := by decide +kernel
theorem dX7_append_44 : decode cX7_append 44 = .ok (.getfield 120, 3) := by decide +kernel
theorem dX7_append_47 : decode cX7_append 47 = .ok (.iload_n 1, 1) := by decide +kernel
theorem dX7_append_48 : decode cX7_append 48 = .ok (.iastore, 1) := by decide +kernel
theorem dX7_append_49 : decode cX7_append 49 = .ok (.aload_n 0, 1) := by decide +kernel
theorem dX7_append_50 : decode cX7_append 50 = .ok (.dup, 1) := by decide +kernel
theorem dX7_append_51 : decode cX7_append 51 = .ok (.getfield 120, 3) := by decide +kernel
theorem dX7_append_54 : decode cX7_append 54 = .ok (.iconst 1, 1) := by decide +kernel
theorem dX7_append_55 : decode cX7_append 55 = .ok (.iadd, 1) := by decide +kernel
theorem dX7_append_56 : decode cX7_append 56 = .ok (.putfield 120, 3) := by decide +kernel
theorem dX7_append_59 : decode cX7_append 59 = .ok (.aload_n 0, 1) := by decide +kernel
theorem dX7_append_60 : decode cX7_append 60 = .ok (.getfield 120, 3) := by decide +kernel
theorem dX7_append_63 : decode cX7_append 63 = .ok (.ireturn, 1) := by decide +kernel
theorem dX7_clearText_0 : decode cX7_clearText 0 = .ok (.aload_n 0, 1) := by decide +kernel
theorem dX7_clearText_1 : decode cX7_clearText 1 = .ok (.iconst 0, 1) := by decide +kernel
theorem dX7_clearText_2 : decode cX7_clearText 2 = .ok (.putfield 40, 3) := by decide +kernel
theorem dX7_clearText_5 : decode cX7_clearText 5 = .ok (.aload_n 0, 1) := by decide +kernel
theorem dX7_clearText_6 : decode cX7_clearText 6 = .ok (.getfield 120, 3) := by decide +kernel
theorem dX7_clearText_9 : decode cX7_clearText 9 = .ok (.istore_n 1, 1) := by decide +kernel
theorem dX7_clearText_10 : decode cX7_clearText 10 = .ok (.aload_n 0, 1) := by decide +kernel
theorem dX7_clearText_11 : decode cX7_clearText 11 = .ok (.iconst 0, 1) := by decide +kernel
theorem dX7_clearText_12 : decode cX7_clearText 12 = .ok (.putfield 120, 3) := by decide +kernel
theorem dX7_clearText_15 : decode cX7_clearText 15 = .ok (.iload_n 1, 1) := by decide +kernel
theorem dX7_clearText_16 : decode cX7_clearText 16 = .ok (.ireturn, 1) := by decide +kernel
theorem dX7_isNext_0 : decode cX7_isNext 0 = .ok (.aload_n 0, 1) := by decide +kernel
theorem dX7_isNext_1 : decode cX7_isNext 1 = .ok (.getfield 127, 3) := by decide +kernel
theorem dX7_isNext_4 : decode cX7_isNext 4 = .ok (.aload_n 0, 1) := by decide +kernel
theorem dX7_isNext_5 : decode cX7_isNext 5 = .ok (.getfield 120, 3) := by decide +kernel
theorem dX7_isNext_8 : decode cX7_isNext 8 = .ok (.if_icmp .ge 20, 3) := by decide +kernel
theorem dX7_isNext_11 : decode cX7_isNext 11 = .ok (.aload_n 0, 1) := by decide +kernel
theorem dX7_isNext_12 : decode cX7_isNext 12 = .ok (.getfield 7, 3) := by decide +kernel
theorem dX7_isNext_15 : decode cX7_isNext 15 = .ok (.aload_n 0, 1) := by decide +kernel
theorem dX7_isNext_16 : decode cX7_isNext 16 = .ok (.getfield 127, 3) := by decide +kernel
theorem dX7_isNext_19 : decode cX7_isNext 19 = .ok (.iaload, 1) := by decide +kernel
theorem dX7_isNext_20 : decode cX7_isNext 20 = .ok (.iload_n 1, 1) := by decide +kernel
theorem dX7_isNext_21 : decode cX7_isNext 21 = .ok (.if_icmp .ne 7, 3) := by decide +kernel
theorem dX7_isNext_24 : decode cX7_isNext 24 = .ok (.iconst 1, 1) := by decide +kernel
theorem dX7_isNext_25 : decode cX7_isNext 25 = .ok (.goto 4, 3) := by decide +kernel
theorem dX7_isNext_28 : decode cX7_isNext 28 = .ok (.iconst 0, 1) := by decide +kernel
theorem dX7_isNext_29 : decode cX7_isNext 29 = .ok (.ireturn, 1) := by decide +kernel
theorem dX7_accept_0 : decode cX7_accept 0 = .ok (.aload_n 0, 1) := by decide +kernel
theorem dX7_accept_1 : decode cX7_accept 1 = .ok (.aload_n 0, 1) := by decide +kernel
theorem dX7_accept_2 : decode cX7_accept 2 = .ok (.getfield 130, 3) := by decide +kernel
theorem dX7_accept_5 : decode cX7_accept 5 = .ok (.ifCond .eq 11, 3) := by decide +kernel
theorem dX7_accept_8 : decode cX7_accept 8 = .ok (.iload_n 1, 1) := by decide +kernel
theorem dX7_accept_9 : decode cX7_accept 9 = .ok (.ifCond .eq 7, 3) := by decide +kernel
theorem dX7_accept_12 : decode cX7_accept 12 = .ok (.iconst 1, 1) := by decide +kernel
theorem dX7_accept_13 : decode cX7_accept 13 = .ok (.goto 4, 3) := by decide +kernel
theorem dX7_accept_16 : decode cX7_accept 16 = .ok (.iconst 0, 1) := by decide +kernel
theorem dX7_accept_17 : decode cX7_accept 17 = .ok (.putfield 130, 3) := by decide +kernel
theorem dX7_accept_20 : decode cX7_accept 20 = .ok (.aload_n 0, 1) := by decide +kernel
theorem dX7_accept_21 : decode cX7_accept 21 = .ok (.dup, 1) := by decide +kernel
theorem dX7_accept_22 : decode cX7_accept 22 = .ok (.getfield 127, 3) := by decide +kernel
theorem dX7_accept_25 : decode cX7_accept 25 = .ok (.aload_n 0, 1) := by decide +kernel
theorem dX7_accept_26 : decode cX7_accept 26 = .ok (.getfield 130, 3) := by decide +kernel
theorem dX7_accept_29 : decode cX7_accept 29 = .ok (.ifCond .eq 7, 3) := by decide +kernel
theorem dX7_accept_32 : decode cX7_accept 32 = .ok (.iconst 1, 1) := by decide +kernel
theorem dX7_accept_33 : decode cX7_accept 33 = .ok (.goto 4, 3) := by decide +kernel
theorem dX7_accept_36 : decode cX7_accept 36 = .ok (.iconst 0, 1) := by decide +kernel
theorem dX7_accept_37 : decode cX7_accept 37 = .ok (.iadd, 1) := by decide +kernel
theorem dX7_accept_38 : decode cX7_accept 38 = .ok (.putfield 127, 3) := by decide +kernel
theorem dX7_accept_41 : decode cX7_accept 41 = .ok (.return_, 1) := by decide +kernel
theorem dX7_digit_0 : decode cX7_digit 0 = .ok (.aload_n 0, 1) := by decide +kernel
theorem dX7_digit_1 : decode cX7_digit 1 = .ok (.getfield 127, 3) := by decide +kernel
theorem dX7_digit_4 : decode cX7_digit 4 = .ok (.aload_n 0, 1) := by decide +kernel
theorem dX7_digit_5 : decode cX7_digit 5 = .ok (.getfield 120, 3) := by decide +kernel
theorem dX7_digit_8 : decode cX7_digit 8 = .ok (.if_icmp .ge 18, 3) := by decide +kernel
theorem dX7_digit_11 : decode cX7_digit 11 = .ok (.aload_n 0, 1) := by decide +kernel
theorem dX7_digit_12 : decode cX7_digit 12 = .ok (.getfield 7, 3) := by decide +kernel
theorem dX7_digit_15 : decode cX7_digit 15 = .ok (.aload_n 0, 1) := by decide +kernel
theorem dX7_digit_16 : decode cX7_digit 16 = .ok (.getfield 127, 3) := by decide +kernel
theorem dX7_digit_19 : decode cX7_digit 19 = .ok (.iaload, 1) := by decide +kernel
theorem dX7_digit_20 : decode cX7_digit 20 = .ok (.bipush 48, 2) := by decide +kernel
theorem dX7_digit_22 : decode cX7_digit 22 = .ok (.isub, 1) := by decide +kernel
theorem dX7_digit_23 : decode cX7_digit 23 = .ok (.goto 4, 3) := by decide +kernel
theorem dX7_digit_26 : decode cX7_digit 26 = .ok (.iconst (-1), 1) := by decide +kernel
theorem dX7_digit_27 : decode cX7_digit 27 = .ok (.istore_n 1, 1) := by decide +kernel
theorem dX7_digit_28 : decode cX7_digit 28 = .ok (.iload_n 1, 1) := by decide +kernel
theorem dX7_digit_29 : decode cX7_digit 29 = .ok (.i2l, 1) := by decide +kernel
theorem dX7_digit_30 : decode cX7_digit 30 = .ok (.lconst 0, 1) := by decide +kernel
theorem dX7_digit_31 : decode cX7_digit 31 = .ok (.ldc2_w 133, 3) := by decide +kernel
theorem dX7_digit_34 : decode cX7_digit 34 = .ok (.invokestatic 116, 3) := by decide +kernel
theorem dX7_digit_37 : decode cX7_digit 37 = .ok (.ifCond .eq 7, 3) := by decide +kernel
theorem dX7_digit_40 : decode cX7_digit 40 = .ok (.iload_n 1, 1) := by decide +kernel
theorem dX7_digit_41 : decode cX7_digit 41 = .ok (.goto 4, 3) := by decide +kernel
theorem dX7_digit_44 : decode cX7_digit 44 = .ok (.iconst (-1), 1) := by decide +kernel
theorem dX7_digit_45 : decode cX7_digit 45 = .ok (.ireturn, 1) := by decide +kernel
theorem dX7_number_0 : decode cX7_number 0 = .ok (.aload_n 0, 1) := by decide +kernel
theorem dX7_number_1 : decode cX7_number 1 = .ok (.aload_n 0, 1) := by decide +kernel
theorem dX7_number_2 : decode cX7_number 2 = .ok (.bipush 44, 2) := by decide +kernel
theorem dX7_number_4 : decode cX7_number 4 = .ok (.invokevirtual 135, 3) := by decide +kernel
theorem dX7_number_7 : decode cX7_number 7 = .ok (.invokevirtual 138, 3) := by decide +kernel
theorem dX7_number_10 : decode cX7_number 10 = .ok (.aload_n 0, 1) := by decide +kernel
theorem dX7_number_11 : decode cX7_number 11 = .ok (.invokevirtual 142, 3) := by decide +kernel
theorem dX7_number_14 : decode cX7_number 14 = .ok (.istore_n 3, 1) := by decide +kernel
theorem dX7_number_15 : decode cX7_number 15 = .ok (.aload_n 0, 1) := by decide +kernel
theorem dX7_number_16 : decode cX7_number 16 = .ok (.iload_n 3, 1) := by decide +kernel
theorem dX7_number_17 : decode cX7_number 17 = .ok (.iconst (-1), 1) := by decide +kernel
theorem dX7_number_18 : decode cX7_number 18 = .ok (.if_icmp .eq 19, 3) := by decide +kernel
theorem dX7_number_21 : decode cX7_number 21 = .ok (.iload_n 3, 1) := by decide +kernel
theorem dX7_number_22 : decode cX7_number 22 = .ok (.i2l, 1) := by decide +kernel
theorem dX7_number_23 : decode cX7_number 23 = .ok (.iload_n 1, 1) := by decide +kernel
theorem dX7_number_24 : decode cX7_number 24 = .ok (.i2l, 1) := by decide +kernel
theorem dX7_number_25 : decode cX7_number 25 = .ok (.iload_n 2, 1) := by decide +kernel
theorem dX7_number_26 : decode cX7_number 26 = .ok (.i2l, 1) := by decide +kernel
theorem dX7_number_27 : decode cX7_number 27 = .ok (.invokestatic 116, 3) := by decide +kernel
theorem dX7_number_30 : decode cX7_number 30 = .ok (.ifCond .eq 7, 3) := by decide +kernel
theorem dX7_number_33 : decode cX7_number 33 = .ok (.iconst 1, 1) := by decide +kernel
theorem dX7_number_34 : decode cX7_number 34 = .ok (.goto 4, 3) := by decide +kernel
theorem dX7_number_37 : decode cX7_number 37 = .ok (.iconst 0, 1) := by decide +kernel
theorem dX7_number_38 : decode cX7_number 38 = .ok (.invokevirtual 138, 3) := by decide +kernel
theorem dX7_number_41 : decode cX7_number 41 = .ok (.aload_n 0, 1) := by decide +kernel
theorem dX7_number_42 : decode cX7_number 42 = .ok (.getfield 130, 3) := by decide +kernel
theorem dX7_number_45 : decode cX7_number 45 = .ok (.ifCond .eq 42, 3) := by decide +kernel
theorem dX7_number_48 : decode cX7_number 48 = .ok (.iload_n 3, 1) := by decide +kernel
theorem dX7_number_49 : decode cX7_number 49 = .ok (.ifCond .le 38, 3) := by decide +kernel
theorem dX7_number_52 : decode cX7_number 52 = .ok (.aload_n 0, 1) := by decide +kernel
theorem dX7_number_53 : decode cX7_number 53 = .ok (.invokevirtual 142, 3) := by decide +kernel
theorem dX7_number_56 : decode cX7_number 56 = .ok (.iconst (-1), 1) := by decide +kernel
theorem dX7_number_57 : decode cX7_number 57 = .ok (.if_icmp .eq 30, 3) := by decide +kernel
theorem dX7_number_60 : decode cX7_number 60 = .ok (.bipush 10, 2) := by decide +kernel
theorem dX7_number_62 : decode cX7_number 62 = .ok (.iload_n 3, 1) := by decide +kernel
theorem dX7_number_63 : decode cX7_number 63 = .ok (.imul, 1) := by decide +kernel
theorem dX7_number_64 : decode cX7_number 64 = .ok (.aload_n 0, 1) := by decide +kernel
theorem dX7_number_65 : decode cX7_number 65 = .ok (.invokevirtual 142, 3) := by decide +kernel
theorem dX7_number_68 : decode cX7_number 68 = .ok (.iadd, 1) := by decide +kernel
theorem dX7_number_69 : decode cX7_number 69 = .ok (.istore_n 3, 1) := by decide +kernel
theorem dX7_number_70 : decode cX7_number 70 = .ok (.aload_n 0, 1) := by decide +kernel
theorem dX7_number_71 : decode cX7_number 71 = .ok (.iload_n 3, 1) := by decide +kernel
theorem dX7_number_72 : decode cX7_number 72 = .ok (.iload_n 2, 1) := by decide +kernel
theorem dX7_number_73 : decode cX7_number 73 = .ok (.if_icmp .gt 7, 3) := by decide +kernel
theorem dX7_number_76 : decode cX7_number 76 = .ok (.iconst 1, 1) := by decide +kernel
theorem dX7_number_77 : decode cX7_number 77 = .ok (.goto 4, 3) := by decide +kernel
theorem dX7_number_80 : decode cX7_number 80 = .ok (.iconst 0, 1) := by decide +kernel
theorem dX7_number_81 : decode cX7_number 81 = .ok (.invokevirtual 138, 3) := by decide +kernel
theorem dX7_number_84 : decode cX7_number 84 = .ok (.goto (-43), 3) := by decide +kernel
theorem dX7_number_87 : decode cX7_number 87 = .ok (.iload_n 3, 1) := by decide +kernel
theorem dX7_number_88 : decode cX7_number 88 = .ok (.ireturn, 1) := by decide +kernel
theorem dX7_word_0 : decode cX7_word 0 = .ok (.aload_n 0, 1) := by decide +kernel
theorem dX7_word_1 : decode cX7_word 1 = .ok (.aload_n 0, 1) := by decide +kernel
theorem dX7_word_2 : decode cX7_word 2 = .ok (.iload_n 1, 1) := by decide +kernel
theorem dX7_word_3 : decode cX7_word 3 = .ok (.invokevirtual 135, 3) := by decide +kernel
theorem dX7_word_6 : decode cX7_word 6 = .ok (.invokevirtual 138, 3) := by decide +kernel
theorem dX7_word_9 : decode cX7_word 9 = .ok (.aload_n 0, 1) := by decide +kernel
theorem dX7_word_10 : decode cX7_word 10 = .ok (.aload_n 0, 1) := by decide +kernel
theorem dX7_word_11 : decode cX7_word 11 = .ok (.iload_n 2, 1) := by decide +kernel
theorem dX7_word_12 : decode cX7_word 12 = .ok (.invokevirtual 135, 3) := by decide +kernel
theorem dX7_word_15 : decode cX7_word 15 = .ok (.invokevirtual 138, 3) := by decide +kernel
theorem dX7_word_18 : decode cX7_word 18 = .ok (.return_, 1) := by decide +kernel
theorem dX7_goes_0 : decode cX7_goes 0 = .ok (.aload_n 0, 1) := by decide +kernel
theorem dX7_goes_1 : decode cX7_goes 1 = .ok (.dup, 1) := by decide +kernel
theorem dX7_goes_2 : decode cX7_goes 2 = .ok (.getfield 146, 3) := by decide +kernel
theorem dX7_goes_5 : decode cX7_goes 5 = .ok (.aload_n 0, 1) := by decide +kernel
theorem dX7_goes_6 : decode cX7_goes 6 = .ok (.getfield 130, 3) := by decide +kernel
theorem dX7_goes_9 : decode cX7_goes 9 = .ok (.ifCond .eq 11, 3) := by decide +kernel
theorem dX7_goes_12 : decode cX7_goes 12 = .ok (.iload_n 1, 1) := by decide +kernel
theorem dX7_goes_13 : decode cX7_goes 13 = .ok (.ifCond .ne 7, 3) := by decide +kernel
theorem dX7_goes_16 : decode cX7_goes 16 = .ok (.iconst 1, 1) := by decide +kernel
theorem dX7_goes_17 : decode cX7_goes 17 = .ok (.goto 4, 3) := by decide +kernel
theorem dX7_goes_20 : decode cX7_goes 20 = .ok (.iconst 0, 1) := by decide +kernel
theorem dX7_goes_21 : decode cX7_goes 21 = .ok (.iadd, 1) := by decide +kernel
theorem dX7_goes_22 : decode cX7_goes 22 = .ok (.putfield 146, 3) := by decide +kernel
theorem dX7_goes_25 : decode cX7_goes 25 = .ok (.aload_n 0, 1) := by decide +kernel
theorem dX7_goes_26 : decode cX7_goes 26 = .ok (.getfield 130, 3) := by decide +kernel
theorem dX7_goes_29 : decode cX7_goes 29 = .ok (.ifCond .eq 11, 3) := by decide +kernel
theorem dX7_goes_32 : decode cX7_goes 32 = .ok (.iload_n 1, 1) := by decide +kernel
theorem dX7_goes_33 : decode cX7_goes 33 = .ok (.ifCond .eq 7, 3) := by decide +kernel
theorem dX7_goes_36 : decode cX7_goes 36 = .ok (.iconst 1, 1) := by decide +kernel
theorem dX7_goes_37 : decode cX7_goes 37 = .ok (.goto 4, 3) := by decide +kernel
theorem dX7_goes_40 : decode cX7_goes 40 = .ok (.iconst 0, 1) := by decide +kernel
theorem dX7_goes_41 : decode cX7_goes 41 = .ok (.ireturn, 1) := by decide +kernel
theorem dX7_readAsk_0 : decode cX7_readAsk 0 = .ok (.aload_n 0, 1) := by decide +kernel
theorem dX7_readAsk_1 : decode cX7_readAsk 1 = .ok (.bipush 115, 2) := by decide +kernel
theorem dX7_readAsk_3 : decode cX7_readAsk 3 = .ok (.bipush 107, 2) := by decide +kernel
theorem dX7_readAsk_5 : decode cX7_readAsk 5 = .ok (.invokevirtual 149, 3) := by decide +kernel
theorem dX7_readAsk_8 : decode cX7_readAsk 8 = .ok (.aload_n 0, 1) := by decide +kernel
theorem dX7_readAsk_9 : decode cX7_readAsk 9 = .ok (.iconst 0, 1) := by decide +kernel
theorem dX7_readAsk_10 : decode cX7_readAsk 10 = .ok (.bipush 9, 2) := by decide +kernel
theorem dX7_readAsk_12 : decode cX7_readAsk 12 = .ok (.invokevirtual 153, 3) := by decide +kernel
theorem dX7_readAsk_15 : decode cX7_readAsk 15 = .ok (.istore_n 1, 1) := by decide +kernel
theorem dX7_readAsk_16 : decode cX7_readAsk 16 = .ok (.aload_n 0, 1) := by decide +kernel
theorem dX7_readAsk_17 : decode cX7_readAsk 17 = .ok (.getfield 130, 3) := by decide +kernel
theorem dX7_readAsk_20 : decode cX7_readAsk 20 = .ok (.ifCond .eq 28, 3) := by decide +kernel
theorem dX7_readAsk_23 : decode cX7_readAsk 23 = .ok (.aload_n 0, 1) := by decide +kernel
theorem dX7_readAsk_24 : decode cX7_readAsk 24 = .ok (.aload_n 0, 1) := by decide +kernel
theorem dX7_readAsk_25 : decode cX7_readAsk 25 = .ok (.getfield 13, 3) := by decide +kernel
theorem dX7_readAsk_28 : decode cX7_readAsk 28 = .ok (.iload_n 1, 1) := by decide +kernel
theorem dX7_readAsk_29 : decode cX7_readAsk 29 = .ok (.invokestatic 156, 3) := by decide +kernel
theorem dX7_readAsk_32 : decode cX7_readAsk 32 = .ok (.invokevirtual 159, 3) := by decide +kernel
theorem dX7_readAsk_35 : decode cX7_readAsk 35 = .ok (.ifCond .eq 13, 3) := by decide +kernel
theorem dX7_readAsk_38 : decode cX7_readAsk 38 = .ok (.aload_n 0, 1) := by decide +kernel
theorem dX7_readAsk_39 : decode cX7_readAsk 39 = .ok (.aload_n 0, 1) := by decide +kernel
theorem dX7_readAsk_40 : decode cX7_readAsk 40 = .ok (.getfield 13, 3) := by decide +kernel
theorem dX7_readAsk_43 : decode cX7_readAsk 43 = .ok (.iload_n 1, 1) := by decide +kernel
theorem dX7_readAsk_44 : decode cX7_readAsk 44 = .ok (.invokevirtual 163, 3) := by decide +kernel
theorem dX7_readAsk_47 : decode cX7_readAsk 47 = .ok (.pop, 1) := by decide +kernel
theorem dX7_readAsk_48 : decode cX7_readAsk 48 = .ok (.return_, 1) := by decide +kernel
theorem dX7_readLet_0 : decode cX7_readLet 0 = .ok (.aload_n 0, 1) := by decide +kernel
theorem dX7_readLet_1 : decode cX7_readLet 1 = .ok (.bipush 101, 2) := by decide +kernel
theorem dX7_readLet_3 : decode cX7_readLet 3 = .ok (.bipush 116, 2) := by decide +kernel
theorem dX7_readLet_5 : decode cX7_readLet 5 = .ok (.invokevirtual 149, 3) := by decide +kernel
theorem dX7_readLet_8 : decode cX7_readLet 8 = .ok (.aload_n 0, 1) := by decide +kernel
theorem dX7_readLet_9 : decode cX7_readLet 9 = .ok (.iconst 0, 1) := by decide +kernel
theorem dX7_readLet_10 : decode cX7_readLet 10 = .ok (.bipush 9, 2) := by decide +kernel
theorem dX7_readLet_12 : decode cX7_readLet 12 = .ok (.invokevirtual 153, 3) := by decide +kernel
theorem dX7_readLet_15 : decode cX7_readLet 15 = .ok (.istore_n 1, 1) := by decide +kernel
theorem dX7_readLet_16 : decode cX7_readLet 16 = .ok (.aload_n 0, 1) := by decide +kernel
theorem dX7_readLet_17 : decode cX7_readLet 17 = .ok (.iconst 0, 1) := by decide +kernel
theorem dX7_readLet_18 : decode cX7_readLet 18 = .ok (.bipush 23, 2) := by decide +kernel
theorem dX7_readLet_20 : decode cX7_readLet 20 = .ok (.invokevirtual 153, 3) := by decide +kernel
theorem dX7_readLet_23 : decode cX7_readLet 23 = .ok (.istore_n 2, 1) := by decide +kernel
theorem dX7_readLet_24 : decode cX7_readLet 24 = .ok (.aload_n 0, 1) := by decide +kernel
theorem dX7_readLet_25 : decode cX7_readLet 25 = .ok (.getfield 130, 3) := by decide +kernel
theorem dX7_readLet_28 : decode cX7_readLet 28 = .ok (.ifCond .eq 28, 3) := by decide +kernel
theorem dX7_readLet_31 : decode cX7_readLet 31 = .ok (.aload_n 0, 1) := by decide +kernel
theorem dX7_readLet_32 : decode cX7_readLet 32 = .ok (.aload_n 0, 1) := by decide +kernel
theorem dX7_readLet_33 : decode cX7_readLet 33 = .ok (.getfield 13, 3) := by decide +kernel
theorem dX7_readLet_36 : decode cX7_readLet 36 = .ok (.iload_n 2, 1) := by decide +kernel
theorem dX7_readLet_37 : decode cX7_readLet 37 = .ok (.invokestatic 64, 3) := by decide +kernel
theorem dX7_readLet_40 : decode cX7_readLet 40 = .ok (.invokevirtual 159, 3) := by decide +kernel
theorem dX7_readLet_43 : decode cX7_readLet 43 = .ok (.ifCond .eq 13, 3) := by decide +kernel
theorem dX7_readLet_46 : decode cX7_readLet 46 = .ok (.aload_n 0, 1) := by decide +kernel
theorem dX7_readLet_47 : decode cX7_readLet 47 = .ok (.aload_n 0, 1) := by decide +kernel
theorem dX7_readLet_48 : decode cX7_readLet 48 = .ok (.getfield 13, 3) := by decide +kernel
theorem dX7_readLet_51 : decode cX7_readLet 51 = .ok (.iload_n 1, 1) := by decide +kernel
theorem dX7_readLet_52 : decode cX7_readLet 52 = .ok (.iload_n 2, 1) := by decide +kernel
theorem dX7_readLet_53 : decode cX7_readLet 53 = .ok (.invokevirtual 98, 3) := by decide +kernel
theorem dX7_readLet_56 : decode cX7_readLet 56 = .ok (.return_, 1) := by decide +kernel
theorem dX7_readBury_0 : decode cX7_readBury 0 = .ok (.aload_n 0, 1) := by decide +kernel
theorem dX7_readBury_1 : decode cX7_readBury 1 = .ok (.bipush 117, 2) := by decide +kernel
theorem dX7_readBury_3 : decode cX7_readBury 3 = .ok (.bipush 114, 2) := by decide +kernel
theorem dX7_readBury_5 : decode cX7_readBury 5 = .ok (.invokevirtual 149, 3) := by decide +kernel
theorem dX7_readBury_8 : decode cX7_readBury 8 = .ok (.aload_n 0, 1) := by decide +kernel
theorem dX7_readBury_9 : decode cX7_readBury 9 = .ok (.aload_n 0, 1) := by decide +kernel
theorem dX7_readBury_10 : decode cX7_readBury 10 = .ok (.bipush 121, 2) := by decide +kernel
theorem dX7_readBury_12 : decode cX7_readBury 12 = .ok (.invokevirtual 135, 3) := by decide +kernel
theorem dX7_readBury_15 : decode cX7_readBury 15 = .ok (.invokevirtual 138, 3) := by decide +kernel
theorem dX7_readBury_18 : decode cX7_readBury 18 = .ok (.aload_n 0, 1) := by decide +kernel
theorem dX7_readBury_19 : decode cX7_readBury 19 = .ok (.iconst 0, 1) := by decide +kernel
theorem dX7_readBury_20 : decode cX7_readBury 20 = .ok (.bipush 23, 2) := by decide +kernel
theorem dX7_readBury_22 : decode cX7_readBury 22 = .ok (.invokevirtual 153, 3) := by decide +kernel
theorem dX7_readBury_25 : decode cX7_readBury 25 = .ok (.istore_n 1, 1) := by decide +kernel
theorem dX7_readBury_26 : decode cX7_readBury 26 = .ok (.aload_n 0, 1) := by decide +kernel
theorem dX7_readBury_27 : decode cX7_readBury 27 = .ok (.getfield 130, 3) := by decide +kernel
theorem dX7_readBury_30 : decode cX7_readBury 30 = .ok (.ifCond .eq 27, 3) := by decide +kernel
theorem dX7_readBury_33 : decode cX7_readBury 33 = .ok (.aload_n 0, 1) := by decide +kernel
theorem dX7_readBury_34 : decode cX7_readBury 34 = .ok (.aload_n 0, 1) := by decide +kernel
theorem dX7_readBury_35 : decode cX7_readBury 35 = .ok (.getfield 13, 3) := by decide +kernel
theorem dX7_readBury_38 : decode cX7_readBury 38 = .ok (.iload_n 1, 1) := by decide +kernel
theorem dX7_readBury_39 : decode cX7_readBury 39 = .ok (.invokestatic 166, 3) := by decide +kernel
theorem dX7_readBury_42 : decode cX7_readBury 42 = .ok (.invokevirtual 159, 3) := by decide +kernel
theorem dX7_readBury_45 : decode cX7_readBury 45 = .ok (.ifCond .eq 12, 3) := by decide +kernel
theorem dX7_readBury_48 : decode cX7_readBury 48 = .ok (.aload_n 0, 1) := by decide +kernel
theorem dX7_readBury_49 : decode cX7_readBury 49 = .ok (.getfield 13, 3) := by decide +kernel
theorem dX7_readBury_52 : decode cX7_readBury 52 = .ok (.iload_n 1, 1) := by decide +kernel
theorem dX7_readBury_53 : decode cX7_readBury 53 = .ok (.invokestatic 169, 3) := by decide +kernel
theorem dX7_readBury_56 : decode cX7_readBury 56 = .ok (.pop, 1) := by decide +kernel
theorem dX7_readBury_57 : decode cX7_readBury 57 = .ok (.return_, 1) := by decide +kernel
theorem dX7_readDig_0 : decode cX7_readDig 0 = .ok (.aload_n 0, 1) := by decide +kernel
theorem dX7_readDig_1 : decode cX7_readDig 1 = .ok (.bipush 105, 2) := by decide +kernel
theorem dX7_readDig_3 : decode cX7_readDig 3 = .ok (.bipush 103, 2) := by decide +kernel
theorem dX7_readDig_5 : decode cX7_readDig 5 = .ok (.invokevirtual 149, 3) := by decide +kernel
theorem dX7_readDig_8 : decode cX7_readDig 8 = .ok (.aload_n 0, 1) := by decide +kernel
theorem dX7_readDig_9 : decode cX7_readDig 9 = .ok (.iconst 0, 1) := by decide +kernel
theorem dX7_readDig_10 : decode cX7_readDig 10 = .ok (.iconst 3, 1) := by decide +kernel
theorem dX7_readDig_11 : decode cX7_readDig 11 = .ok (.invokevirtual 153, 3) := by decide +kernel
theorem dX7_readDig_14 : decode cX7_readDig 14 = .ok (.istore_n 1, 1) := by decide +kernel
theorem dX7_readDig_15 : decode cX7_readDig 15 = .ok (.aload_n 0, 1) := by decide +kernel
theorem dX7_readDig_16 : decode cX7_readDig 16 = .ok (.iconst 1, 1) := by decide +kernel
theorem dX7_readDig_17 : decode cX7_readDig 17 = .ok (.iconst 3, 1) := by decide +kernel
theorem dX7_readDig_18 : decode cX7_readDig 18 = .ok (.invokevirtual 153, 3) := by decide +kernel
theorem dX7_readDig_21 : decode cX7_readDig 21 = .ok (.istore_n 2, 1) := by decide +kernel
theorem dX7_readDig_22 : decode cX7_readDig 22 = .ok (.aload_n 0, 1) := by decide +kernel
theorem dX7_readDig_23 : decode cX7_readDig 23 = .ok (.getfield 130, 3) := by decide +kernel
theorem dX7_readDig_26 : decode cX7_readDig 26 = .ok (.ifCond .eq 13, 3) := by decide +kernel
theorem dX7_readDig_29 : decode cX7_readDig 29 = .ok (.aload_n 0, 1) := by decide +kernel
theorem dX7_readDig_30 : decode cX7_readDig 30 = .ok (.getfield 13, 3) := by decide +kernel
theorem dX7_readDig_33 : decode cX7_readDig 33 = .ok (.bipush 10, 2) := by decide +kernel
theorem dX7_readDig_35 : decode cX7_readDig 35 = .ok (.iload_n 1, 1) := by decide +kernel
theorem dX7_readDig_36 : decode cX7_readDig 36 = .ok (.iadd, 1) := by decide +kernel
theorem dX7_readDig_37 : decode cX7_readDig 37 = .ok (.iload_n 2, 1) := by decide +kernel
theorem dX7_readDig_38 : decode cX7_readDig 38 = .ok (.iastore, 1) := by decide +kernel
theorem dX7_readDig_39 : decode cX7_readDig 39 = .ok (.return_, 1) := by decide +kernel
theorem dX7_readRun_0 : decode cX7_readRun 0 = .ok (.aload_n 0, 1) := by decide +kernel
theorem dX7_readRun_1 : decode cX7_readRun 1 = .ok (.bipush 117, 2) := by decide +kernel
theorem dX7_readRun_3 : decode cX7_readRun 3 = .ok (.bipush 110, 2) := by decide +kernel
theorem dX7_readRun_5 : decode cX7_readRun 5 = .ok (.invokevirtual 149, 3) := by decide +kernel
theorem dX7_readRun_8 : decode cX7_readRun 8 = .ok (.aload_n 0, 1) := by decide +kernel
theorem dX7_readRun_9 : decode cX7_readRun 9 = .ok (.iconst 1, 1) := by decide +kernel
theorem dX7_readRun_10 : decode cX7_readRun 10 = .ok (.bipush 99, 2) := by decide +kernel
theorem dX7_readRun_12 : decode cX7_readRun 12 = .ok (.invokevirtual 153, 3) := by decide +kernel
theorem dX7_readRun_15 : decode cX7_readRun 15 = .ok (.istore_n 1, 1) := by decide +kernel
theorem dX7_readRun_16 : decode cX7_readRun 16 = .ok (.aload_n 0, 1) := by decide +kernel
theorem dX7_readRun_17 : decode cX7_readRun 17 = .ok (.getfield 130, 3) := by decide +kernel
theorem dX7_readRun_20 : decode cX7_readRun 20 = .ok (.ifCond .eq 13, 3) := by decide +kernel
theorem dX7_readRun_23 : decode cX7_readRun 23 = .ok (.aload_n 0, 1) := by decide +kernel
theorem dX7_readRun_24 : decode cX7_readRun 24 = .ok (.aload_n 0, 1) := by decide +kernel
theorem dX7_readRun_25 : decode cX7_readRun 25 = .ok (.getfield 13, 3) := by decide +kernel
theorem dX7_readRun_28 : decode cX7_readRun 28 = .ok (.iload_n 1, 1) := by decide +kernel
theorem dX7_readRun_29 : decode cX7_readRun 29 = .ok (.invokevirtual 172, 3) := by decide +kernel
theorem dX7_readRun_32 : decode cX7_readRun 32 = .ok (.pop, 1) := by decide +kernel
theorem dX7_readRun_33 : decode cX7_readRun 33 = .ok (.return_, 1) := by decide +kernel
theorem dX7_readCommand_0 : decode cX7_readCommand 0 = .ok (.aload_n 0, 1) := by decide +kernel
theorem dX7_readCommand_1 : decode cX7_readCommand 1 = .ok (.getfield 127, 3) := by decide +kernel
theorem dX7_readCommand_4 : decode cX7_readCommand 4 = .ok (.aload_n 0, 1) := by decide +kernel
theorem dX7_readCommand_5 : decode cX7_readCommand 5 = .ok (.getfield 120, 3) := by decide +kernel
theorem dX7_readCommand_8 : decode cX7_readCommand 8 = .ok (.if_icmp .ge 15, 3) := by decide +kernel
theorem dX7_readCommand_11 : decode cX7_readCommand 11 = .ok (.aload_n 0, 1) := by decide +kernel
theorem dX7_readCommand_12 : decode cX7_readCommand 12 = .ok (.getfield 7, 3) := by decide +kernel
theorem dX7_readCommand_15 : decode cX7_readCommand 15 = .ok (.aload_n 0, 1) := by decide +kernel
theorem dX7_readCommand_16 : decode cX7_readCommand 16 = .ok (.getfield 127, 3) := by decide +kernel
theorem dX7_readCommand_19 : decode cX7_readCommand 19 = .ok (.iaload, 1) := by decide +kernel
theorem dX7_readCommand_20 : decode cX7_readCommand 20 = .ok (.goto 4, 3) := by decide +kernel
theorem dX7_readCommand_23 : decode cX7_readCommand 23 = .ok (.iconst (-1), 1) := by decide +kernel
theorem dX7_readCommand_24 : decode cX7_readCommand 24 = .ok (.istore_n 1, 1) := by decide +kernel
theorem dX7_readCommand_25 : decode cX7_readCommand 25 = .ok (.aload_n 0, 1) := by decide +kernel
theorem dX7_readCommand_26 : decode cX7_readCommand 26 = .ok (.iload_n 1, 1) := by decide +kernel
theorem dX7_readCommand_27 : decode cX7_readCommand 27 = .ok (.bipush 97, 2) := by decide +kernel
theorem dX7_readCommand_29 : decode cX7_readCommand 29 = .ok (.if_icmp .eq 27, 3) := by decide +kernel
theorem dX7_readCommand_32 : decode cX7_readCommand 32 = .ok (.iload_n 1, 1) := by decide +kernel
theorem dX7_readCommand_33 : decode cX7_readCommand 33 = .ok (.bipush 108, 2) := by decide +kernel
theorem dX7_readCommand_35 : decode cX7_readCommand 35 = .ok (.if_icmp .eq 21, 3) := by decide +kernel
theorem dX7_readCommand_38 : decode cX7_readCommand 38 = .ok (.iload_n 1, 1) := by decide +kernel
theorem dX7_readCommand_39 : decode cX7_readCommand 39 = .ok (.bipush 98, 2) := by decide +kernel
theorem dX7_readCommand_41 : decode cX7_readCommand 41 = .ok (.if_icmp .eq 15, 3) := by decide +kernel
theorem dX7_readCommand_44 : decode cX7_readCommand 44 = .ok (.iload_n 1, 1) := by decide +kernel
theorem dX7_readCommand_45 : decode cX7_readCommand 45 = .ok (.bipush 100, 2) := by decide +kernel
theorem dX7_readCommand_47 : decode cX7_readCommand 47 = .ok (.if_icmp .eq 9, 3) := by decide +kernel
theorem dX7_readCommand_50 : decode cX7_readCommand 50 = .ok (.iload_n 1, 1) := by decide +kernel
theorem dX7_readCommand_51 : decode cX7_readCommand 51 = .ok (.bipush 114, 2) := by decide +kernel
theorem dX7_readCommand_53 : decode cX7_readCommand 53 = .ok (.if_icmp .ne 7, 3) := by decide +kernel
theorem dX7_readCommand_56 : decode cX7_readCommand 56 = .ok (.iconst 1, 1) := by decide +kernel
theorem dX7_readCommand_57 : decode cX7_readCommand 57 = .ok (.goto 4, 3) := by decide +kernel
theorem dX7_readCommand_60 : decode cX7_readCommand 60 = .ok (.iconst 0, 1) := by decide +kernel
theorem dX7_readCommand_61 : decode cX7_readCommand 61 = .ok (.invokevirtual 138, 3) := by decide +kernel
theorem dX7_readCommand_64 : decode cX7_readCommand 64 = .ok (.aload_n 0, 1) := by decide +kernel
theorem dX7_readCommand_65 : decode cX7_readCommand 65 = .ok (.getfield 130, 3) := by decide +kernel
theorem dX7_readCommand_68 : decode cX7_readCommand 68 = .ok (.ifCond .ne 4, 3) := by decide +kernel
theorem dX7_readCommand_71 : decode cX7_readCommand 71 = .ok (.return_, 1) := by decide +kernel
theorem dX7_readCommand_72 : decode cX7_readCommand 72 = .ok (.iload_n 1, 1) := by decide +kernel
theorem dX7_readCommand_73 : decode cX7_readCommand 73 = .ok (.bipush 97, 2) := by decide +kernel
theorem dX7_readCommand_75 : decode cX7_readCommand 75 = .ok (.if_icmp .ne 10, 3) := by decide +kernel
theorem dX7_readCommand_78 : decode cX7_readCommand 78 = .ok (.aload_n 0, 1) := by decide +kernel
theorem dX7_readCommand_79 : decode cX7_readCommand 79 = .ok (.invokevirtual 175, 3) := by decide +kernel
theorem dX7_readCommand_82 : decode cX7_readCommand 82 = .ok (.goto 46, 3) := by decide +kernel
theorem dX7_readCommand_85 : decode cX7_readCommand 85 = .ok (.iload_n 1, 1) := by decide +kernel
theorem dX7_readCommand_86 : decode cX7_readCommand 86 = .ok (.bipush 108, 2) := by decide +kernel
theorem dX7_readCommand_88 : decode cX7_readCommand 88 = .ok (.if_icmp .ne 10, 3) := by decide +kernel
theorem dX7_readCommand_91 : decode cX7_readCommand 91 = .ok (.aload_n 0, 1) := by decide +kernel
theorem dX7_readCommand_92 : decode cX7_readCommand 92 = .ok (.invokevirtual 178, 3) := by decide +kernel
theorem dX7_readCommand_95 : decode cX7_readCommand 95 = .ok (.goto 33, 3) := by decide +kernel
theorem dX7_readCommand_98 : decode cX7_readCommand 98 = .ok (.iload_n 1, 1) := by decide +kernel
theorem dX7_readCommand_99 : decode cX7_readCommand 99 = .ok (.bipush 98, 2) := by decide +kernel
theorem dX7_readCommand_101 : decode cX7_readCommand 101 = .ok (.if_icmp .ne 10, 3) := by decide +kernel
theorem dX7_readCommand_104 : decode cX7_readCommand 104 = .ok (.aload_n 0, 1) := by decide +kernel
theorem dX7_readCommand_105 : decode cX7_readCommand 105 = .ok (.invokevirtual 181, 3) := by decide +kernel
theorem dX7_readCommand_108 : decode cX7_readCommand 108 = .ok (.goto 20, 3) := by decide +kernel
theorem dX7_readCommand_111 : decode cX7_readCommand 111 = .ok (.iload_n 1, 1) := by decide +kernel
theorem dX7_readCommand_112 : decode cX7_readCommand 112 = .ok (.bipush 100, 2) := by decide +kernel
theorem dX7_readCommand_114 : decode cX7_readCommand 114 = .ok (.if_icmp .ne 10, 3) := by decide +kernel
theorem dX7_readCommand_117 : decode cX7_readCommand 117 = .ok (.aload_n 0, 1) := by decide +kernel
theorem dX7_readCommand_118 : decode cX7_readCommand 118 = .ok (.invokevirtual 184, 3) := by decide +kernel
theorem dX7_readCommand_121 : decode cX7_readCommand 121 = .ok (.goto 7, 3) := by decide +kernel
theorem dX7_readCommand_124 : decode cX7_readCommand 124 = .ok (.aload_n 0, 1) := by decide +kernel
theorem dX7_readCommand_125 : decode cX7_readCommand 125 = .ok (.invokevirtual 187, 3) := by decide +kernel
theorem dX7_readCommand_128 : decode cX7_readCommand 128 = .ok (.return_, 1) := by decide +kernel
theorem dX7_readText_0 : decode cX7_readText 0 = .ok (.aload_n 0, 1) := by decide +kernel
theorem dX7_readText_1 : decode cX7_readText 1 = .ok (.iconst 0, 1) := by decide +kernel
theorem dX7_readText_2 : decode cX7_readText 2 = .ok (.putfield 127, 3) := by decide +kernel
theorem dX7_readText_5 : decode cX7_readText 5 = .ok (.aload_n 0, 1) := by decide +kernel
theorem dX7_readText_6 : decode cX7_readText 6 = .ok (.iconst 1, 1) := by decide +kernel
theorem dX7_readText_7 : decode cX7_readText 7 = .ok (.putfield 130, 3) := by decide +kernel
theorem dX7_readText_10 : decode cX7_readText 10 = .ok (.aload_n 0, 1) := by decide +kernel
theorem dX7_readText_11 : decode cX7_readText 11 = .ok (.iconst 0, 1) := by decide +kernel
theorem dX7_readText_12 : decode cX7_readText 12 = .ok (.putfield 146, 3) := by decide +kernel
theorem dX7_readText_15 : decode cX7_readText 15 = .ok (.aload_n 0, 1) := by decide +kernel
theorem dX7_readText_16 : decode cX7_readText 16 = .ok (.iconst (-1), 1) := by decide +kernel
theorem dX7_readText_17 : decode cX7_readText 17 = .ok (.putfield 32, 3) := by decide +kernel
theorem dX7_readText_20 : decode cX7_readText 20 = .ok (.aload_n 0, 1) := by decide +kernel
theorem dX7_readText_21 : decode cX7_readText 21 = .ok (.getfield 13, 3) := by decide +kernel
theorem dX7_readText_24 : decode cX7_readText 24 = .ok (.invokestatic 36, 3) := by decide +kernel
theorem dX7_readText_27 : decode cX7_readText 27 = .ok (.aload_n 0, 1) := by decide +kernel
theorem dX7_readText_28 : decode cX7_readText 28 = .ok (.invokevirtual 190, 3) := by decide +kernel
theorem dX7_readText_31 : decode cX7_readText 31 = .ok (.aload_n 0, 1) := by decide +kernel
theorem dX7_readText_32 : decode cX7_readText 32 = .ok (.getfield 130, 3) := by decide +kernel
theorem dX7_readText_35 : decode cX7_readText 35 = .ok (.ifCond .eq 38, 3) := by decide +kernel
theorem dX7_readText_38 : decode cX7_readText 38 = .ok (.aload_n 0, 1) := by decide +kernel
theorem dX7_readText_39 : decode cX7_readText 39 = .ok (.getfield 127, 3) := by decide +kernel
theorem dX7_readText_42 : decode cX7_readText 42 = .ok (.aload_n 0, 1) := by decide +kernel
theorem dX7_readText_43 : decode cX7_readText 43 = .ok (.getfield 120, 3) := by decide +kernel
theorem dX7_readText_46 : decode cX7_readText 46 = .ok (.if_icmp .ge 27, 3) := by decide +kernel
theorem dX7_readText_49 : decode cX7_readText 49 = .ok (.aload_n 0, 1) := by decide +kernel
theorem dX7_readText_50 : decode cX7_readText 50 = .ok (.aload_n 0, 1) := by decide +kernel
theorem dX7_readText_51 : decode cX7_readText 51 = .ok (.bipush 59, 2) := by decide +kernel
theorem dX7_readText_53 : decode cX7_readText 53 = .ok (.invokevirtual 135, 3) := by decide +kernel
theorem dX7_readText_56 : decode cX7_readText 56 = .ok (.invokevirtual 138, 3) := by decide +kernel
theorem dX7_readText_59 : decode cX7_readText 59 = .ok (.aload_n 0, 1) := by decide +kernel
theorem dX7_readText_60 : decode cX7_readText 60 = .ok (.getfield 130, 3) := by decide +kernel
theorem dX7_readText_63 : decode cX7_readText 63 = .ok (.ifCond .eq (-32), 3) := by decide +kernel
theorem dX7_readText_66 : decode cX7_readText 66 = .ok (.aload_n 0, 1) := by decide +kernel
theorem dX7_readText_67 : decode cX7_readText 67 = .ok (.invokevirtual 190, 3) := by decide +kernel
theorem dX7_readText_70 : decode cX7_readText 70 = .ok (.goto (-39), 3) := by decide +kernel
theorem dX7_readText_73 : decode cX7_readText 73 = .ok (.aload_n 0, 1) := by decide +kernel
theorem dX7_readText_74 : decode cX7_readText 74 = .ok (.getfield 130, 3) := by decide +kernel
theorem dX7_readText_77 : decode cX7_readText 77 = .ok (.ifCond .eq 7, 3) := by decide +kernel
theorem dX7_readText_80 : decode cX7_readText 80 = .ok (.iconst (-1), 1) := by decide +kernel
theorem dX7_readText_81 : decode cX7_readText 81 = .ok (.goto 7, 3) := by decide +kernel
theorem dX7_readText_84 : decode cX7_readText 84 = .ok (.aload_n 0, 1) := by decide +kernel
theorem dX7_readText_85 : decode cX7_readText 85 = .ok (.getfield 127, 3) := by decide +kernel
theorem dX7_readText_88 : decode cX7_readText 88 = .ok (.ireturn, 1) := by decide +kernel
theorem dX7_errorPosition_0 : decode cX7_errorPosition 0 = .ok (.aload_n 0, 1) := by decide +kernel
theorem dX7_errorPosition_1 : decode cX7_errorPosition 1 = .ok (.iconst 0, 1) := by decide +kernel
theorem dX7_errorPosition_2 : decode cX7_errorPosition 2 = .ok (.putfield 40, 3) := by decide +kernel
theorem dX7_errorPosition_5 : decode cX7_errorPosition 5 = .ok (.aload_n 0, 1) := by decide +kernel
theorem dX7_errorPosition_6 : decode cX7_errorPosition 6 = .ok (.invokevirtual 193, 3) := by decide +kernel
theorem dX7_errorPosition_9 : decode cX7_errorPosition 9 = .ok (.ireturn, 1) := by decide +kernel
theorem dX7_load_0 : decode cX7_load 0 = .ok (.aload_n 0, 1) := by decide +kernel
theorem dX7_load_1 : decode cX7_load 1 = .ok (.aload_n 0, 1) := by decide +kernel
theorem dX7_load_2 : decode cX7_load 2 = .ok (.invokevirtual 193, 3) := by decide +kernel
theorem dX7_load_5 : decode cX7_load 5 = .ok (.iconst (-1), 1) := by decide +kernel
theorem dX7_load_6 : decode cX7_load 6 = .ok (.if_icmp .ne 7, 3) := by decide +kernel
theorem dX7_load_9 : decode cX7_load 9 = .ok (.iconst 0, 1) := by decide +kernel
theorem dX7_load_10 : decode cX7_load 10 = .ok (.goto 4, 3) := by decide +kernel
theorem dX7_load_13 : decode cX7_load 13 = .ok (.iconst 1, 1) := by decide +kernel
theorem dX7_load_14 : decode cX7_load 14 = .ok (.invokevirtual 123, 3) := by decide +kernel
theorem dX7_load_17 : decode cX7_load 17 = .ok (.ifCond .eq 5, 3) := by decide +kernel
theorem dX7_load_20 : decode cX7_load 20 = .ok (.iconst 0, 1) := by decide +kernel
theorem dX7_load_21 : decode cX7_load 21 = .ok (.ireturn, 1) := by decide +kernel
theorem dX7_load_22 : decode cX7_load 22 = .ok (.aload_n 0, 1) := by decide +kernel
theorem dX7_load_23 : decode cX7_load 23 = .ok (.getfield 13, 3) := by decide +kernel
theorem dX7_load_26 : decode cX7_load 26 = .ok (.iconst 0, 1) := by decide +kernel
theorem dX7_load_27 : decode cX7_load 27 = .ok (.aload_n 0, 1) := by decide +kernel
theorem dX7_load_28 : decode cX7_load 28 = .ok (.getfield 16, 3) := by decide +kernel
theorem dX7_load_31 : decode cX7_load 31 = .ok (.iconst 0, 1) := by decide +kernel
theorem dX7_load_32 : decode cX7_load 32 = .ok (.sipush 205, 3) := by decide +kernel
theorem dX7_load_35 : decode cX7_load 35 = .ok (.invokestatic 52, 3) := by decide +kernel
theorem dX7_load_38 : decode cX7_load 38 = .ok (.aload_n 0, 1) := by decide +kernel
theorem dX7_load_39 : decode cX7_load 39 = .ok (.iconst 0, 1) := by decide +kernel
theorem dX7_load_40 : decode cX7_load 40 = .ok (.putfield 49, 3) := by decide +kernel
theorem dX7_load_43 : decode cX7_load 43 = .ok (.aload_n 0, 1) := by decide +kernel
theorem dX7_load_44 : decode cX7_load 44 = .ok (.getfield 28, 3) := by decide +kernel
theorem dX7_load_47 : decode cX7_load 47 = .ok (.iconst 0, 1) := by decide +kernel
theorem dX7_load_48 : decode cX7_load 48 = .ok (.iconst 0, 1) := by decide +kernel
theorem dX7_load_49 : decode cX7_load 49 = .ok (.bastore, 1) := by decide +kernel
theorem dX7_load_50 : decode cX7_load 50 = .ok (.aload_n 0, 1) := by decide +kernel
theorem dX7_load_51 : decode cX7_load 51 = .ok (.getfield 28, 3) := by decide +kernel
theorem dX7_load_54 : decode cX7_load 54 = .ok (.iconst 1, 1) := by decide +kernel
theorem dX7_load_55 : decode cX7_load 55 = .ok (.iconst 0, 1) := by decide +kernel
theorem dX7_load_56 : decode cX7_load 56 = .ok (.bastore, 1) := by decide +kernel
theorem dX7_load_57 : decode cX7_load 57 = .ok (.aload_n 0, 1) := by decide +kernel
theorem dX7_load_58 : decode cX7_load 58 = .ok (.getfield 146, 3) := by decide +kernel
theorem dX7_load_61 : decode cX7_load 61 = .ok (.ireturn, 1) := by decide +kernel
theorem dX7_about_0 : decode cX7_about 0 = .ok (.aload_n 0, 1) := by decide +kernel
theorem dX7_about_1 : decode cX7_about 1 = .ok (.iload_n 1, 1) := by decide +kernel
theorem dX7_about_2 : decode cX7_about 2 = .ok (.i2l, 1) := by decide +kernel
theorem dX7_about_3 : decode cX7_about 3 = .ok (.lconst 0, 1) := by decide +kernel
theorem dX7_about_4 : decode cX7_about 4 = .ok (.ldc2_w 133, 3) := by decide +kernel
theorem dX7_about_7 : decode cX7_about 7 = .ok (.invokestatic 116, 3) := by decide +kernel
theorem dX7_about_10 : decode cX7_about 10 = .ok (.ifCond .eq 7, 3) := by decide +kernel
theorem dX7_about_13 : decode cX7_about 13 = .ok (.iconst 0, 1) := by decide +kernel
theorem dX7_about_14 : decode cX7_about 14 = .ok (.goto 4, 3) := by decide +kernel
theorem dX7_about_17 : decode cX7_about 17 = .ok (.iconst 1, 1) := by decide +kernel
theorem dX7_about_18 : decode cX7_about 18 = .ok (.invokevirtual 123, 3) := by decide +kernel
theorem dX7_about_21 : decode cX7_about 21 = .ok (.ifCond .eq 5, 3) := by decide +kernel
theorem dX7_about_24 : decode cX7_about 24 = .ok (.iconst 0, 1) := by decide +kernel
theorem dX7_about_25 : decode cX7_about 25 = .ok (.ireturn, 1) := by decide +kernel
theorem dX7_about_26 : decode cX7_about 26 = .ok (.iload_n 1, 1) := by decide +kernel
theorem dX7_about_27 : decode cX7_about 27 = .ok (.tableswitch 119 0 8 #[49, 56, 65, 73, 82, 90, 97, 105, 112], 49) := by decide +kernel
theorem dX7_about_76 : decode cX7_about 76 = .ok (.aload_n 0, 1) := by decide +kernel
theorem dX7_about_77 : decode cX7_about 77 = .ok (.getfield 16, 3) := by decide +kernel
theorem dX7_about_80 : decode cX7_about 80 = .ok (.iconst 0, 1) := by decide +kernel
theorem dX7_about_81 : decode cX7_about 81 = .ok (.iaload, 1) := by decide +kernel
theorem dX7_about_82 : decode cX7_about 82 = .ok (.ireturn, 1) := by decide +kernel
theorem dX7_about_83 : decode cX7_about 83 = .ok (.aload_n 0, 1) := by decide +kernel
theorem dX7_about_84 : decode cX7_about 84 = .ok (.getfield 16, 3) := by decide +kernel
theorem dX7_about_87 : decode cX7_about 87 = .ok (.iconst 0, 1) := by decide +kernel
theorem dX7_about_88 : decode cX7_about 88 = .ok (.invokestatic 111, 3) := by decide +kernel
theorem dX7_about_91 : decode cX7_about 91 = .ok (.ireturn, 1) := by decide +kernel
theorem dX7_about_92 : decode cX7_about 92 = .ok (.aload_n 0, 1) := by decide +kernel
theorem dX7_about_93 : decode cX7_about 93 = .ok (.getfield 16, 3) := by decide +kernel
theorem dX7_about_96 : decode cX7_about 96 = .ok (.invokestatic 196, 3) := by decide +kernel
theorem dX7_about_99 : decode cX7_about 99 = .ok (.ireturn, 1) := by decide +kernel
theorem dX7_about_100 : decode cX7_about 100 = .ok (.aload_n 0, 1) := by decide +kernel
theorem dX7_about_101 : decode cX7_about 101 = .ok (.getfield 16, 3) := by decide +kernel
theorem dX7_about_104 : decode cX7_about 104 = .ok (.iconst 4, 1) := by decide +kernel
theorem dX7_about_105 : decode cX7_about 105 = .ok (.invokestatic 111, 3) := by decide +kernel
theorem dX7_about_108 : decode cX7_about 108 = .ok (.ireturn, 1) := by decide +kernel
theorem dX7_about_109 : decode cX7_about 109 = .ok (.aload_n 0, 1) := by decide +kernel
theorem dX7_about_110 : decode cX7_about 110 = .ok (.getfield 16, 3) := by decide +kernel
theorem dX7_about_113 : decode cX7_about 113 = .ok (.invokestatic 199, 3) := by decide +kernel
theorem dX7_about_116 : decode cX7_about 116 = .ok (.ireturn, 1) := by decide +kernel
theorem dX7_about_117 : decode cX7_about 117 = .ok (.aload_n 0, 1) := by decide +kernel
theorem dX7_about_118 : decode cX7_about 118 = .ok (.getfield 16, 3) := by decide +kernel
theorem dX7_about_121 : decode cX7_about 121 = .ok (.iconst 1, 1) := by decide +kernel
theorem dX7_about_122 : decode cX7_about 122 = .ok (.iaload, 1) := by decide +kernel
theorem dX7_about_123 : decode cX7_about 123 = .ok (.ireturn, 1) := by decide +kernel
theorem dX7_about_124 : decode cX7_about 124 = .ok (.aload_n 0, 1) := by decide +kernel
theorem dX7_about_125 : decode cX7_about 125 = .ok (.getfield 16, 3) := by decide +kernel
theorem dX7_about_128 : decode cX7_about 128 = .ok (.invokestatic 202, 3) := by decide +kernel
theorem dX7_about_131 : decode cX7_about 131 = .ok (.ireturn, 1) := by decide +kernel
theorem dX7_about_132 : decode cX7_about 132 = .ok (.aload_n 0, 1) := by decide +kernel
theorem dX7_about_133 : decode cX7_about 133 = .ok (.getfield 16, 3) := by decide +kernel
theorem dX7_about_136 : decode cX7_about 136 = .ok (.iconst 4, 1) := by decide +kernel
theorem dX7_about_137 : decode cX7_about 137 = .ok (.iaload, 1) := by decide +kernel
theorem dX7_about_138 : decode cX7_about 138 = .ok (.ireturn, 1) := by decide +kernel
theorem dX7_about_139 : decode cX7_about 139 = .ok (.aload_n 0, 1) := by decide +kernel
theorem dX7_about_140 : decode cX7_about 140 = .ok (.getfield 16, 3) := by decide +kernel
theorem dX7_about_143 : decode cX7_about 143 = .ok (.iconst 2, 1) := by decide +kernel
theorem dX7_about_144 : decode cX7_about 144 = .ok (.iaload, 1) := by decide +kernel
theorem dX7_about_145 : decode cX7_about 145 = .ok (.ireturn, 1) := by decide +kernel
theorem dX7_about_146 : decode cX7_about 146 = .ok (.aload_n 0, 1) := by decide +kernel
theorem dX7_about_147 : decode cX7_about 147 = .ok (.getfield 16, 3) := by decide +kernel
theorem dX7_about_150 : decode cX7_about 150 = .ok (.iconst 3, 1) := by decide +kernel
theorem dX7_about_151 : decode cX7_about 151 = .ok (.iaload, 1) := by decide +kernel
theorem dX7_about_152 : decode cX7_about 152 = .ok (.ireturn, 1) := by decide +kernel
theorem dX7_isPlot_0 : decode cX7_isPlot 0 = .ok (.iload_n 0, 1) := by decide +kernel
theorem dX7_isPlot_1 : decode cX7_isPlot 1 = .ok (.i2l, 1) := by decide +kernel
theorem dX7_isPlot_2 : decode cX7_isPlot 2 = .ok (.lconst 0, 1) := by decide +kernel
theorem dX7_isPlot_3 : decode cX7_isPlot 3 = .ok (.ldc2_w 205, 3) := by decide +kernel
theorem dX7_isPlot_6 : decode cX7_isPlot 6 = .ok (.invokestatic 116, 3) := by decide +kernel
theorem dX7_isPlot_9 : decode cX7_isPlot 9 = .ok (.ireturn, 1) := by decide +kernel
theorem dX7_isFamily_0 : decode cX7_isFamily 0 = .ok (.iload_n 0, 1) := by decide +kernel
theorem dX7_isFamily_1 : decode cX7_isFamily 1 = .ok (.i2l, 1) := by decide +kernel
theorem dX7_isFamily_2 : decode cX7_isFamily 2 = .ok (.lconst 0, 1) := by decide +kernel
theorem dX7_isFamily_3 : decode cX7_isFamily 3 = .ok (.ldc2_w 133, 3) := by decide +kernel
theorem dX7_isFamily_6 : decode cX7_isFamily 6 = .ok (.invokestatic 116, 3) := by decide +kernel
theorem dX7_isFamily_9 : decode cX7_isFamily 9 = .ok (.ireturn, 1) := by decide +kernel
theorem dX7_plot_0 : decode cX7_plot 0 = .ok (.aload_n 0, 1) := by decide +kernel
theorem dX7_plot_1 : decode cX7_plot 1 = .ok (.iload_n 1, 1) := by decide +kernel
theorem dX7_plot_2 : decode cX7_plot 2 = .ok (.invokestatic 207, 3) := by decide +kernel
theorem dX7_plot_5 : decode cX7_plot 5 = .ok (.ifCond .ne 7, 3) := by decide +kernel
theorem dX7_plot_8 : decode cX7_plot 8 = .ok (.iconst 1, 1) := by decide +kernel
theorem dX7_plot_9 : decode cX7_plot 9 = .ok (.goto 20, 3) := by decide +kernel
theorem dX7_plot_12 : decode cX7_plot 12 = .ok (.iload_n 2, 1) := by decide +kernel
theorem dX7_plot_13 : decode cX7_plot 13 = .ok (.i2l, 1) := by decide +kernel
theorem dX7_plot_14 : decode cX7_plot 14 = .ok (.lconst 0, 1) := by decide +kernel
theorem dX7_plot_15 : decode cX7_plot 15 = .ok (.ldc2_w 210, 3) := by decide +kernel
theorem dX7_plot_18 : decode cX7_plot 18 = .ok (.invokestatic 116, 3) := by decide +kernel
theorem dX7_plot_21 : decode cX7_plot 21 = .ok (.ifCond .eq 7, 3) := by decide +kernel
theorem dX7_plot_24 : decode cX7_plot 24 = .ok (.iconst 0, 1) := by decide +kernel
theorem dX7_plot_25 : decode cX7_plot 25 = .ok (.goto 4, 3) := by decide +kernel
theorem dX7_plot_28 : decode cX7_plot 28 = .ok (.iconst 2, 1) := by decide +kernel
theorem dX7_plot_29 : decode cX7_plot 29 = .ok (.invokevirtual 123, 3) := by decide +kernel
theorem dX7_plot_32 : decode cX7_plot 32 = .ok (.ifCond .eq 5, 3) := by decide +kernel
theorem dX7_plot_35 : decode cX7_plot 35 = .ok (.iconst 0, 1) := by decide +kernel
theorem dX7_plot_36 : decode cX7_plot 36 = .ok (.ireturn, 1) := by decide +kernel
theorem dX7_plot_37 : decode cX7_plot 37 = .ok (.iload_n 2, 1) := by decide +kernel
theorem dX7_plot_38 : decode cX7_plot 38 = .ok (.tableswitch 103 0 4 #[34, 45, 71, 82, 91], 34) := by decide +kernel
theorem dX7_plot_72 : decode cX7_plot 72 = .ok (.aload_n 0, 1) := by decide +kernel
theorem dX7_plot_73 : decode cX7_plot 73 = .ok (.getfield 16, 3) := by decide +kernel
theorem dX7_plot_76 : decode cX7_plot 76 = .ok (.iload_n 1, 1) := by decide +kernel
theorem dX7_plot_77 : decode cX7_plot 77 = .ok (.iconst 0, 1) := by decide +kernel
theorem dX7_plot_78 : decode cX7_plot 78 = .ok (.invokestatic 60, 3) := by decide +kernel
theorem dX7_plot_81 : decode cX7_plot 81 = .ok (.iaload, 1) := by decide +kernel
theorem dX7_plot_82 : decode cX7_plot 82 = .ok (.ireturn, 1) := by decide +kernel
theorem dX7_plot_83 : decode cX7_plot 83 = .ok (.aload_n 0, 1) := by decide +kernel
theorem dX7_plot_84 : decode cX7_plot 84 = .ok (.getfield 16, 3) := by decide +kernel
theorem dX7_plot_87 : decode cX7_plot 87 = .ok (.iload_n 1, 1) := by decide +kernel
theorem dX7_plot_88 : decode cX7_plot 88 = .ok (.invokestatic 64, 3) := by decide +kernel
theorem dX7_plot_91 : decode cX7_plot 91 = .ok (.ifCond .eq 7, 3) := by decide +kernel
theorem dX7_plot_94 : decode cX7_plot 94 = .ok (.iconst (-1), 1) := by decide +kernel
theorem dX7_plot_95 : decode cX7_plot 95 = .ok (.goto 13, 3) := by decide +kernel
theorem dX7_plot_98 : decode cX7_plot 98 = .ok (.aload_n 0, 1) := by decide +kernel
theorem dX7_plot_99 : decode cX7_plot 99 = .ok (.getfield 16, 3) := by decide +kernel
theorem dX7_plot_102 : decode cX7_plot 102 = .ok (.iload_n 1, 1) := by decide +kernel
theorem dX7_plot_103 : decode cX7_plot 103 = .ok (.iconst 1, 1) := by decide +kernel
theorem dX7_plot_104 : decode cX7_plot 104 = .ok (.invokestatic 60, 3) := by decide +kernel
theorem dX7_plot_107 : decode cX7_plot 107 = .ok (.iaload, 1) := by decide +kernel
theorem dX7_plot_108 : decode cX7_plot 108 = .ok (.ireturn, 1) := by decide +kernel
theorem dX7_plot_109 : decode cX7_plot 109 = .ok (.aload_n 0, 1) := by decide +kernel
theorem dX7_plot_110 : decode cX7_plot 110 = .ok (.getfield 16, 3) := by decide +kernel
theorem dX7_plot_113 : decode cX7_plot 113 = .ok (.iload_n 1, 1) := by decide +kernel
theorem dX7_plot_114 : decode cX7_plot 114 = .ok (.iconst 2, 1) := by decide +kernel
theorem dX7_plot_115 : decode cX7_plot 115 = .ok (.invokestatic 60, 3) := by decide +kernel
theorem dX7_plot_118 : decode cX7_plot 118 = .ok (.iaload, 1) := by decide +kernel
theorem dX7_plot_119 : decode cX7_plot 119 = .ok (.ireturn, 1) := by decide +kernel
theorem dX7_plot_120 : decode cX7_plot 120 = .ok (.aload_n 0, 1) := by decide +kernel
theorem dX7_plot_121 : decode cX7_plot 121 = .ok (.getfield 16, 3) := by decide +kernel
theorem dX7_plot_124 : decode cX7_plot 124 = .ok (.iload_n 1, 1) := by decide +kernel
theorem dX7_plot_125 : decode cX7_plot 125 = .ok (.invokestatic 68, 3) := by decide +kernel
theorem dX7_plot_128 : decode cX7_plot 128 = .ok (.ireturn, 1) := by decide +kernel
theorem dX7_plot_129 : decode cX7_plot 129 = .ok (.aload_n 0, 1) := by decide +kernel
theorem dX7_plot_130 : decode cX7_plot 130 = .ok (.getfield 16, 3) := by decide +kernel
theorem dX7_plot_133 : decode cX7_plot 133 = .ok (.iload_n 1, 1) := by decide +kernel
theorem dX7_plot_134 : decode cX7_plot 134 = .ok (.bipush 6, 2) := by decide +kernel
theorem dX7_plot_136 : decode cX7_plot 136 = .ok (.invokestatic 60, 3) := by decide +kernel
theorem dX7_plot_139 : decode cX7_plot 139 = .ok (.iaload, 1) := by decide +kernel
theorem dX7_plot_140 : decode cX7_plot 140 = .ok (.ireturn, 1) := by decide +kernel
theorem dX7_plot_141 : decode cX7_plot 141 = .ok (.aload_n 0, 1) := by decide +kernel
theorem dX7_plot_142 : decode cX7_plot 142 = .ok (.getfield 16, 3) := by decide +kernel
theorem dX7_plot_145 : decode cX7_plot 145 = .ok (.iload_n 1, 1) := by decide +kernel
theorem dX7_plot_146 : decode cX7_plot 146 = .ok (.invokestatic 108, 3) := by decide +kernel
theorem dX7_plot_149 : decode cX7_plot 149 = .ok (.ireturn, 1) := by decide +kernel
theorem dX7_burial_0 : decode cX7_burial 0 = .ok (.aload_n 0, 1) := by decide +kernel
theorem dX7_burial_1 : decode cX7_burial 1 = .ok (.iload_n 1, 1) := by decide +kernel
theorem dX7_burial_2 : decode cX7_burial 2 = .ok (.invokestatic 207, 3) := by decide +kernel
theorem dX7_burial_5 : decode cX7_burial 5 = .ok (.ifCond .ne 7, 3) := by decide +kernel
theorem dX7_burial_8 : decode cX7_burial 8 = .ok (.iconst 1, 1) := by decide +kernel
theorem dX7_burial_9 : decode cX7_burial 9 = .ok (.goto 12, 3) := by decide +kernel
theorem dX7_burial_12 : decode cX7_burial 12 = .ok (.iload_n 2, 1) := by decide +kernel
theorem dX7_burial_13 : decode cX7_burial 13 = .ok (.ifCond .ge 7, 3) := by decide +kernel
theorem dX7_burial_16 : decode cX7_burial 16 = .ok (.iconst 2, 1) := by decide +kernel
theorem dX7_burial_17 : decode cX7_burial 17 = .ok (.goto 4, 3) := by decide +kernel
theorem dX7_burial_20 : decode cX7_burial 20 = .ok (.iconst 0, 1) := by decide +kernel
theorem dX7_burial_21 : decode cX7_burial 21 = .ok (.invokevirtual 123, 3) := by decide +kernel
theorem dX7_burial_24 : decode cX7_burial 24 = .ok (.ifCond .eq 5, 3) := by decide +kernel
theorem dX7_burial_27 : decode cX7_burial 27 = .ok (.iconst 0, 1) := by decide +kernel
theorem dX7_burial_28 : decode cX7_burial 28 = .ok (.ireturn, 1) := by decide +kernel
theorem dX7_burial_29 : decode cX7_burial 29 = .ok (.iload_n 2, 1) := by decide +kernel
theorem dX7_burial_30 : decode cX7_burial 30 = .ok (.aload_n 0, 1) := by decide +kernel
theorem dX7_burial_31 : decode cX7_burial 31 = .ok (.getfield 16, 3) := by decide +kernel
theorem dX7_burial_34 : decode cX7_burial 34 = .ok (.iload_n 1, 1) := by decide +kernel
theorem dX7_burial_35 : decode cX7_burial 35 = .ok (.iconst 2, 1) := by decide +kernel
theorem dX7_burial_36 : decode cX7_burial 36 = .ok (.invokestatic 60, 3) := by decide +kernel
theorem dX7_burial_39 : decode cX7_burial 39 = .ok (.iaload, 1) := by decide +kernel
theorem dX7_burial_40 : decode cX7_burial 40 = .ok (.if_icmp .ge 18, 3) := by decide +kernel
theorem dX7_burial_43 : decode cX7_burial 43 = .ok (.aload_n 0, 1) := by decide +kernel
theorem dX7_burial_44 : decode cX7_burial 44 = .ok (.getfield 16, 3) := by decide +kernel
theorem dX7_burial_47 : decode cX7_burial 47 = .ok (.iload_n 1, 1) := by decide +kernel
theorem dX7_burial_48 : decode cX7_burial 48 = .ok (.iconst 3, 1) := by decide +kernel
theorem dX7_burial_49 : decode cX7_burial 49 = .ok (.iload_n 2, 1) := by decide +kernel
theorem dX7_burial_50 : decode cX7_burial 50 = .ok (.iadd, 1) := by decide +kernel
theorem dX7_burial_51 : decode cX7_burial 51 = .ok (.invokestatic 60, 3) := by decide +kernel
theorem dX7_burial_54 : decode cX7_burial 54 = .ok (.iaload, 1) := by decide +kernel
theorem dX7_burial_55 : decode cX7_burial 55 = .ok (.goto 4, 3) := by decide +kernel
theorem dX7_burial_58 : decode cX7_burial 58 = .ok (.iconst (-1), 1) := by decide +kernel
theorem dX7_burial_59 : decode cX7_burial 59 = .ok (.ireturn, 1) := by decide +kernel
theorem dX7_ofPlots_0 : decode cX7_ofPlots 0 = .ok (.iconst 0, 1) := by decide +kernel
theorem dX7_ofPlots_1 : decode cX7_ofPlots 1 = .ok (.istore_n 3, 1) := by decide +kernel
theorem dX7_ofPlots_2 : decode cX7_ofPlots 2 = .ok (.iconst 0, 1) := by decide +kernel
theorem dX7_ofPlots_3 : decode cX7_ofPlots 3 = .ok (.istore 4, 2) := by decide +kernel
theorem dX7_ofPlots_5 : decode cX7_ofPlots 5 = .ok (.iload 4, 2) := by decide +kernel
theorem dX7_ofPlots_7 : decode cX7_ofPlots 7 = .ok (.bipush 24, 2) := by decide +kernel
theorem dX7_ofPlots_9 : decode cX7_ofPlots 9 = .ok (.if_icmp .ge 100, 3) := by decide +kernel
theorem dX7_ofPlots_12 : decode cX7_ofPlots 12 = .ok (.aload_n 0, 1) := by decide +kernel
theorem dX7_ofPlots_13 : decode cX7_ofPlots 13 = .ok (.getfield 16, 3) := by decide +kernel
theorem dX7_ofPlots_16 : decode cX7_ofPlots 16 = .ok (.iload 4, 2) := by decide +kernel
theorem dX7_ofPlots_18 : decode cX7_ofPlots 18 = .ok (.iconst 0, 1) := by decide +kernel
theorem dX7_ofPlots_19 : decode cX7_ofPlots 19 = .ok (.invokestatic 60, 3) := by decide +kernel
theorem dX7_ofPlots_22 : decode cX7_ofPlots 22 = .ok (.iaload, 1) := by decide +kernel
theorem dX7_ofPlots_23 : decode cX7_ofPlots 23 = .ok (.iload_n 1, 1) := by decide +kernel
theorem dX7_ofPlots_24 : decode cX7_ofPlots 24 = .ok (.if_icmp .ne 7, 3) := by decide +kernel
theorem dX7_ofPlots_27 : decode cX7_ofPlots 27 = .ok (.iconst 1, 1) := by decide +kernel
theorem dX7_ofPlots_28 : decode cX7_ofPlots 28 = .ok (.goto 4, 3) := by decide +kernel
theorem dX7_ofPlots_31 : decode cX7_ofPlots 31 = .ok (.iconst 0, 1) := by decide +kernel
theorem dX7_ofPlots_32 : decode cX7_ofPlots 32 = .ok (.istore 5, 2) := by decide +kernel
theorem dX7_ofPlots_34 : decode cX7_ofPlots 34 = .ok (.iload_n 3, 1) := by decide +kernel
theorem dX7_ofPlots_35 : decode cX7_ofPlots 35 = .ok (.iload_n 2, 1) := by decide +kernel
theorem dX7_ofPlots_36 : decode cX7_ofPlots 36 = .ok (.ifCond .ne 16, 3) := by decide +kernel
theorem dX7_ofPlots_39 : decode cX7_ofPlots 39 = .ok (.iload 5, 2) := by decide +kernel
theorem dX7_ofPlots_41 : decode cX7_ofPlots 41 = .ok (.ifCond .eq 7, 3) := by decide +kernel
theorem dX7_ofPlots_44 : decode cX7_ofPlots 44 = .ok (.iconst 1, 1) := by decide +kernel
theorem dX7_ofPlots_45 : decode cX7_ofPlots 45 = .ok (.goto 56, 3) := by decide +kernel
theorem dX7_ofPlots_48 : decode cX7_ofPlots 48 = .ok (.iconst 0, 1) := by decide +kernel
theorem dX7_ofPlots_49 : decode cX7_ofPlots 49 = .ok (.goto 52, 3) := by decide +kernel
theorem dX7_ofPlots_52 : decode cX7_ofPlots 52 = .ok (.iload_n 2, 1) := by decide +kernel
theorem dX7_ofPlots_53 : decode cX7_ofPlots 53 = .ok (.iconst 1, 1) := by decide +kernel
theorem dX7_ofPlots_54 : decode cX7_ofPlots 54 = .ok (.if_icmp .ne 26, 3) := by decide +kernel
theorem dX7_ofPlots_57 : decode cX7_ofPlots 57 = .ok (.iload 5, 2) := by decide +kernel
theorem dX7_ofPlots_59 : decode cX7_ofPlots 59 = .ok (.ifCond .eq 17, 3) := by decide +kernel
theorem dX7_ofPlots_62 : decode cX7_ofPlots 62 = .ok (.aload_n 0, 1) := by decide +kernel
theorem dX7_ofPlots_63 : decode cX7_ofPlots 63 = .ok (.getfield 16, 3) := by decide +kernel
theorem dX7_ofPlots_66 : decode cX7_ofPlots 66 = .ok (.iload 4, 2) := by decide +kernel
theorem dX7_ofPlots_68 : decode cX7_ofPlots 68 = .ok (.iconst 2, 1) := by decide +kernel
theorem dX7_ofPlots_69 : decode cX7_ofPlots 69 = .ok (.invokestatic 60, 3) := by decide +kernel
theorem dX7_ofPlots_72 : decode cX7_ofPlots 72 = .ok (.iaload, 1) := by decide +kernel
theorem dX7_ofPlots_73 : decode cX7_ofPlots 73 = .ok (.goto 28, 3) := by decide +kernel
theorem dX7_ofPlots_76 : decode cX7_ofPlots 76 = .ok (.iconst 0, 1) := by decide +kernel
theorem dX7_ofPlots_77 : decode cX7_ofPlots 77 = .ok (.goto 24, 3) := by decide +kernel
theorem dX7_ofPlots_80 : decode cX7_ofPlots 80 = .ok (.aload_n 0, 1) := by decide +kernel
theorem dX7_ofPlots_81 : decode cX7_ofPlots 81 = .ok (.getfield 16, 3) := by decide +kernel
theorem dX7_ofPlots_84 : decode cX7_ofPlots 84 = .ok (.iload 4, 2) := by decide +kernel
theorem dX7_ofPlots_86 : decode cX7_ofPlots 86 = .ok (.bipush 6, 2) := by decide +kernel
theorem dX7_ofPlots_88 : decode cX7_ofPlots 88 = .ok (.invokestatic 60, 3) := by decide +kernel
theorem dX7_ofPlots_91 : decode cX7_ofPlots 91 = .ok (.iaload, 1) := by decide +kernel
theorem dX7_ofPlots_92 : decode cX7_ofPlots 92 = .ok (.iload_n 1, 1) := by decide +kernel
theorem dX7_ofPlots_93 : decode cX7_ofPlots 93 = .ok (.if_icmp .ne 7, 3) := by decide +kernel
theorem dX7_ofPlots_96 : decode cX7_ofPlots 96 = .ok (.iconst 1, 1) := by decide +kernel
theorem dX7_ofPlots_97 : decode cX7_ofPlots 97 = .ok (.goto 4, 3) := by decide +kernel
theorem dX7_ofPlots_100 : decode cX7_ofPlots 100 = .ok (.iconst 0, 1) := by decide +kernel
theorem dX7_ofPlots_101 : decode cX7_ofPlots 101 = .ok (.iadd, 1) := by decide +kernel
theorem dX7_ofPlots_102 : decode cX7_ofPlots 102 = .ok (.istore_n 3, 1) := by decide +kernel
theorem dX7_ofPlots_103 : decode cX7_ofPlots 103 = .ok (.iinc 4 1, 3) := by decide +kernel
theorem dX7_ofPlots_106 : decode cX7_ofPlots 106 = .ok (.goto (-101), 3) := by decide +kernel
theorem dX7_ofPlots_109 : decode cX7_ofPlots 109 = .ok (.iload_n 3, 1) := by decide +kernel
theorem dX7_ofPlots_110 : decode cX7_ofPlots 110 = .ok (.ireturn, 1) := by decide +kernel
theorem dX7_waits_0 : decode cX7_waits 0 = .ok (.iconst 0, 1) := by decide +kernel
theorem dX7_waits_1 : decode cX7_waits 1 = .ok (.istore_n 3, 1) := by decide +kernel
theorem dX7_waits_2 : decode cX7_waits 2 = .ok (.iconst (-1), 1) := by decide +kernel
theorem dX7_waits_3 : decode cX7_waits 3 = .ok (.istore 4, 2) := by decide +kernel
theorem dX7_waits_5 : decode cX7_waits 5 = .ok (.aload_n 0, 1) := by decide +kernel
theorem dX7_waits_6 : decode cX7_waits 6 = .ok (.getfield 16, 3) := by decide +kernel
theorem dX7_waits_9 : decode cX7_waits 9 = .ok (.iconst 1, 1) := by decide +kernel
theorem dX7_waits_10 : decode cX7_waits 10 = .ok (.iaload, 1) := by decide +kernel
theorem dX7_waits_11 : decode cX7_waits 11 = .ok (.iconst 1, 1) := by decide +kernel
theorem dX7_waits_12 : decode cX7_waits 12 = .ok (.isub, 1) := by decide +kernel
theorem dX7_waits_13 : decode cX7_waits 13 = .ok (.istore 5, 2) := by decide +kernel
theorem dX7_waits_15 : decode cX7_waits 15 = .ok (.iload 5, 2) := by decide +kernel
theorem dX7_waits_17 : decode cX7_waits 17 = .ok (.ifCond .lt 54, 3) := by decide +kernel
theorem dX7_waits_20 : decode cX7_waits 20 = .ok (.iload_n 3, 1) := by decide +kernel
theorem dX7_waits_21 : decode cX7_waits 21 = .ok (.aload_n 0, 1) := by decide +kernel
theorem dX7_waits_22 : decode cX7_waits 22 = .ok (.getfield 16, 3) := by decide +kernel
theorem dX7_waits_25 : decode cX7_waits 25 = .ok (.bipush 24, 2) := by decide +kernel
theorem dX7_waits_27 : decode cX7_waits 27 = .ok (.iload 5, 2) := by decide +kernel
theorem dX7_waits_29 : decode cX7_waits 29 = .ok (.iadd, 1) := by decide +kernel
theorem dX7_waits_30 : decode cX7_waits 30 = .ok (.iaload, 1) := by decide +kernel
theorem dX7_waits_31 : decode cX7_waits 31 = .ok (.iload_n 1, 1) := by decide +kernel
theorem dX7_waits_32 : decode cX7_waits 32 = .ok (.if_icmp .ne 7, 3) := by decide +kernel
theorem dX7_waits_35 : decode cX7_waits 35 = .ok (.iconst 1, 1) := by decide +kernel
theorem dX7_waits_36 : decode cX7_waits 36 = .ok (.goto 4, 3) := by decide +kernel
theorem dX7_waits_39 : decode cX7_waits 39 = .ok (.iconst 0, 1) := by decide +kernel
theorem dX7_waits_40 : decode cX7_waits 40 = .ok (.iadd, 1) := by decide +kernel
theorem dX7_waits_41 : decode cX7_waits 41 = .ok (.istore_n 3, 1) := by decide +kernel
theorem dX7_waits_42 : decode cX7_waits 42 = .ok (.aload_n 0, 1) := by decide +kernel
theorem dX7_waits_43 : decode cX7_waits 43 = .ok (.getfield 16, 3) := by decide +kernel
theorem dX7_waits_46 : decode cX7_waits 46 = .ok (.bipush 24, 2) := by decide +kernel
theorem dX7_waits_48 : decode cX7_waits 48 = .ok (.iload 5, 2) := by decide +kernel
theorem dX7_waits_50 : decode cX7_waits 50 = .ok (.iadd, 1) := by decide +kernel
theorem dX7_waits_51 : decode cX7_waits 51 = .ok (.iaload, 1) := by decide +kernel
theorem dX7_waits_52 : decode cX7_waits 52 = .ok (.iload_n 1, 1) := by decide +kernel
theorem dX7_waits_53 : decode cX7_waits 53 = .ok (.if_icmp .ne 8, 3) := by decide +kernel
theorem dX7_waits_56 : decode cX7_waits 56 = .ok (.iload 5, 2) := by decide +kernel
theorem dX7_waits_58 : decode cX7_waits 58 = .ok (.goto 5, 3) := by decide +kernel
theorem dX7_waits_61 : decode cX7_waits 61 = .ok (.iload 4, 2) := by decide +kernel
theorem dX7_waits_63 : decode cX7_waits 63 = .ok (.istore 4, 2) := by decide +kernel
theorem dX7_waits_65 : decode cX7_waits 65 = .ok (.iinc 5 (-1), 3) := by decide +kernel
theorem dX7_waits_68 : decode cX7_waits 68 = .ok (.goto (-53), 3) := by decide +kernel
theorem dX7_waits_71 : decode cX7_waits 71 = .ok (.iload_n 2, 1) := by decide +kernel
theorem dX7_waits_72 : decode cX7_waits 72 = .ok (.ifCond .eq 8, 3) := by decide +kernel
theorem dX7_waits_75 : decode cX7_waits 75 = .ok (.iload 4, 2) := by decide +kernel
theorem dX7_waits_77 : decode cX7_waits 77 = .ok (.goto 4, 3) := by decide +kernel
theorem dX7_waits_80 : decode cX7_waits 80 = .ok (.iload_n 3, 1) := by decide +kernel
theorem dX7_waits_81 : decode cX7_waits 81 = .ok (.ireturn, 1) := by decide +kernel
theorem dX7_family_0 : decode cX7_family 0 = .ok (.aload_n 0, 1) := by decide +kernel
theorem dX7_family_1 : decode cX7_family 1 = .ok (.iload_n 1, 1) := by decide +kernel
theorem dX7_family_2 : decode cX7_family 2 = .ok (.invokestatic 212, 3) := by decide +kernel
theorem dX7_family_5 : decode cX7_family 5 = .ok (.ifCond .ne 7, 3) := by decide +kernel
theorem dX7_family_8 : decode cX7_family 8 = .ok (.iconst 1, 1) := by decide +kernel
theorem dX7_family_9 : decode cX7_family 9 = .ok (.goto 20, 3) := by decide +kernel
theorem dX7_family_12 : decode cX7_family 12 = .ok (.iload_n 2, 1) := by decide +kernel
theorem dX7_family_13 : decode cX7_family 13 = .ok (.i2l, 1) := by decide +kernel
theorem dX7_family_14 : decode cX7_family 14 = .ok (.lconst 0, 1) := by decide +kernel
theorem dX7_family_15 : decode cX7_family 15 = .ok (.ldc2_w 210, 3) := by decide +kernel
theorem dX7_family_18 : decode cX7_family 18 = .ok (.invokestatic 116, 3) := by decide +kernel
theorem dX7_family_21 : decode cX7_family 21 = .ok (.ifCond .eq 7, 3) := by decide +kernel
theorem dX7_family_24 : decode cX7_family 24 = .ok (.iconst 0, 1) := by decide +kernel
theorem dX7_family_25 : decode cX7_family 25 = .ok (.goto 4, 3) := by decide +kernel
theorem dX7_family_28 : decode cX7_family 28 = .ok (.iconst 2, 1) := by decide +kernel
theorem dX7_family_29 : decode cX7_family 29 = .ok (.invokevirtual 123, 3) := by decide +kernel
theorem dX7_family_32 : decode cX7_family 32 = .ok (.ifCond .eq 5, 3) := by decide +kernel
theorem dX7_family_35 : decode cX7_family 35 = .ok (.iconst 0, 1) := by decide +kernel
theorem dX7_family_36 : decode cX7_family 36 = .ok (.ireturn, 1) := by decide +kernel
theorem dX7_family_37 : decode cX7_family 37 = .ok (.iload_n 2, 1) := by decide +kernel
theorem dX7_family_38 : decode cX7_family 38 = .ok (.tableswitch 54 2 5 #[30, 37, 54, 44], 30) := by decide +kernel
theorem dX7_family_68 : decode cX7_family 68 = .ok (.aload_n 0, 1) := by decide +kernel
theorem dX7_family_69 : decode cX7_family 69 = .ok (.iload_n 1, 1) := by decide +kernel
theorem dX7_family_70 : decode cX7_family 70 = .ok (.iconst 0, 1) := by decide +kernel
theorem dX7_family_71 : decode cX7_family 71 = .ok (.invokevirtual 215, 3) := by decide +kernel
theorem dX7_family_74 : decode cX7_family 74 = .ok (.ireturn, 1) := by decide +kernel
theorem dX7_family_75 : decode cX7_family 75 = .ok (.aload_n 0, 1) := by decide +kernel
theorem dX7_family_76 : decode cX7_family 76 = .ok (.iload_n 1, 1) := by decide +kernel
theorem dX7_family_77 : decode cX7_family 77 = .ok (.iconst 1, 1) := by decide +kernel
theorem dX7_family_78 : decode cX7_family 78 = .ok (.invokevirtual 215, 3) := by decide +kernel
theorem dX7_family_81 : decode cX7_family 81 = .ok (.ireturn, 1) := by decide +kernel
theorem dX7_family_82 : decode cX7_family 82 = .ok (.aload_n 0, 1) := by decide +kernel
theorem dX7_family_83 : decode cX7_family 83 = .ok (.getfield 16, 3) := by decide +kernel
theorem dX7_family_86 : decode cX7_family 86 = .ok (.bipush 14, 2) := by decide +kernel
theorem dX7_family_88 : decode cX7_family 88 = .ok (.iload_n 1, 1) := by decide +kernel
theorem dX7_family_89 : decode cX7_family 89 = .ok (.iadd, 1) := by decide +kernel
theorem dX7_family_90 : decode cX7_family 90 = .ok (.iaload, 1) := by decide +kernel
theorem dX7_family_91 : decode cX7_family 91 = .ok (.ireturn, 1) := by decide +kernel
theorem dX7_family_92 : decode cX7_family 92 = .ok (.aload_n 0, 1) := by decide +kernel
theorem dX7_family_93 : decode cX7_family 93 = .ok (.iload_n 1, 1) := by decide +kernel
theorem dX7_family_94 : decode cX7_family 94 = .ok (.iload_n 2, 1) := by decide +kernel
theorem dX7_family_95 : decode cX7_family 95 = .ok (.invokevirtual 219, 3) := by decide +kernel
theorem dX7_family_98 : decode cX7_family 98 = .ok (.ireturn, 1) := by decide +kernel
theorem dX7_waiting_0 : decode cX7_waiting 0 = .ok (.aload_n 0, 1) := by decide +kernel
theorem dX7_waiting_1 : decode cX7_waiting 1 = .ok (.iload_n 1, 1) := by decide +kernel
theorem dX7_waiting_2 : decode cX7_waiting 2 = .ok (.ifCond .ge 7, 3) := by decide +kernel
theorem dX7_waiting_5 : decode cX7_waiting 5 = .ok (.iconst 1, 1) := by decide +kernel
theorem dX7_waiting_6 : decode cX7_waiting 6 = .ok (.goto 4, 3) := by decide +kernel
theorem dX7_waiting_9 : decode cX7_waiting 9 = .ok (.iconst 0, 1) := by decide +kernel
theorem dX7_waiting_10 : decode cX7_waiting 10 = .ok (.invokevirtual 123, 3) := by decide +kernel
theorem dX7_waiting_13 : decode cX7_waiting 13 = .ok (.ifCond .eq 5, 3) := by decide +kernel
theorem dX7_waiting_16 : decode cX7_waiting 16 = .ok (.iconst 0, 1) := by decide +kernel
theorem dX7_waiting_17 : decode cX7_waiting 17 = .ok (.ireturn, 1) := by decide +kernel
theorem dX7_waiting_18 : decode cX7_waiting 18 = .ok (.iload_n 1, 1) := by decide +kernel
theorem dX7_waiting_19 : decode cX7_waiting 19 = .ok (.aload_n 0, 1) := by decide +kernel
theorem dX7_waiting_20 : decode cX7_waiting 20 = .ok (.getfield 16, 3) := by decide +kernel
theorem dX7_waiting_23 : decode cX7_waiting 23 = .ok (.iconst 1, 1) := by decide +kernel
theorem dX7_waiting_24 : decode cX7_waiting 24 = .ok (.iaload, 1) := by decide +kernel
theorem dX7_waiting_25 : decode cX7_waiting 25 = .ok (.if_icmp .ge 15, 3) := by decide +kernel
theorem dX7_waiting_28 : decode cX7_waiting 28 = .ok (.aload_n 0, 1) := by decide +kernel
theorem dX7_waiting_29 : decode cX7_waiting 29 = .ok (.getfield 16, 3) := by decide +kernel
theorem dX7_waiting_32 : decode cX7_waiting 32 = .ok (.bipush 24, 2) := by decide +kernel
theorem dX7_waiting_34 : decode cX7_waiting 34 = .ok (.iload_n 1, 1) := by decide +kernel
theorem dX7_waiting_35 : decode cX7_waiting 35 = .ok (.iadd, 1) := by decide +kernel
theorem dX7_waiting_36 : decode cX7_waiting 36 = .ok (.iaload, 1) := by decide +kernel
theorem dX7_waiting_37 : decode cX7_waiting 37 = .ok (.goto 4, 3) := by decide +kernel
theorem dX7_waiting_40 : decode cX7_waiting 40 = .ok (.iconst (-1), 1) := by decide +kernel
theorem dX7_waiting_41 : decode cX7_waiting 41 = .ok (.ireturn, 1) := by decide +kernel
theorem dX7_put_0 : decode cX7_put 0 = .ok (.aload_n 0, 1) := by decide +kernel
theorem dX7_put_1 : decode cX7_put 1 = .ok (.aload_n 0, 1) := by decide +kernel
theorem dX7_put_2 : decode cX7_put 2 = .ok (.getfield 222, 3) := by decide +kernel
theorem dX7_put_5 : decode cX7_put 5 = .ok (.ifCond .ne 7, 3) := by decide +kernel
theorem dX7_put_8 : decode cX7_put 8 = .ok (.iload_n 1, 1) := by decide +kernel
theorem dX7_put_9 : decode cX7_put 9 = .ok (.goto 7, 3) := by decide +kernel
theorem dX7_put_12 : decode cX7_put 12 = .ok (.aload_n 0, 1) := by decide +kernel
theorem dX7_put_13 : decode cX7_put 13 = .ok (.getfield 225, 3) := by decide +kernel
theorem dX7_put_16 : decode cX7_put 16 = .ok (.putfield 225, 3) := by decide +kernel
theorem dX7_put_19 : decode cX7_put 19 = .ok (.aload_n 0, 1) := by decide +kernel
theorem dX7_put_20 : decode cX7_put 20 = .ok (.dup, 1) := by decide +kernel
theorem dX7_put_21 : decode cX7_put 21 = .ok (.getfield 222, 3) := by decide +kernel
theorem dX7_put_24 : decode cX7_put 24 = .ok (.iconst 1, 1) := by decide +kernel
theorem dX7_put_25 : decode cX7_put 25 = .ok (.isub, 1) := by decide +kernel
theorem dX7_put_26 : decode cX7_put 26 = .ok (.putfield 222, 3) := by decide +kernel
theorem dX7_put_29 : decode cX7_put 29 = .ok (.return_, 1) := by decide +kernel
theorem dX7_putNumber_0 : decode cX7_putNumber 0 = .ok (.iconst 1, 1) := by decide +kernel
theorem dX7_putNumber_1 : decode cX7_putNumber 1 = .ok (.istore_n 2, 1) := by decide +kernel
theorem dX7_putNumber_2 : decode cX7_putNumber 2 = .ok (.iload_n 1, 1) := by decide +kernel
theorem dX7_putNumber_3 : decode cX7_putNumber 3 = .ok (.i2l, 1) := by decide +kernel
theorem dX7_putNumber_4 : decode cX7_putNumber 4 = .ok (.iload_n 2, 1) := by decide +kernel
theorem dX7_putNumber_5 : decode cX7_putNumber 5 = .ok (.invokestatic 228, 3) := by decide +kernel
theorem dX7_putNumber_8 : decode cX7_putNumber 8 = .ok (.lcmp, 1) := by decide +kernel
theorem dX7_putNumber_9 : decode cX7_putNumber 9 = .ok (.ifCond .lt 9, 3) := by decide +kernel
theorem dX7_putNumber_12 : decode cX7_putNumber 12 = .ok (.iinc 2 1, 3) := by decide +kernel
theorem dX7_putNumber_15 : decode cX7_putNumber 15 = .ok (.goto (-13), 3) := by decide +kernel
theorem dX7_putNumber_18 : decode cX7_putNumber 18 = .ok (.iload_n 2, 1) := by decide +kernel
theorem dX7_putNumber_19 : decode cX7_putNumber 19 = .ok (.iconst 1, 1) := by decide +kernel
theorem dX7_putNumber_20 : decode cX7_putNumber 20 = .ok (.isub, 1) := by decide +kernel
theorem dX7_putNumber_21 : decode cX7_putNumber 21 = .ok (.istore_n 3, 1) := by decide +kernel
theorem dX7_putNumber_22 : decode cX7_putNumber 22 = .ok (.iload_n 3, 1) := by decide +kernel
theorem dX7_putNumber_23 : decode cX7_putNumber 23 = .ok (.ifCond .lt 28, 3) := by decide +kernel
theorem dX7_putNumber_26 : decode cX7_putNumber 26 = .ok (.aload_n 0, 1) := by decide +kernel
theorem dX7_putNumber_27 : decode cX7_putNumber 27 = .ok (.bipush 48, 2) := by decide +kernel
theorem dX7_putNumber_29 : decode cX7_putNumber 29 = .ok (.iload_n 1, 1) := by decide +kernel
theorem dX7_putNumber_30 : decode cX7_putNumber 30 = .ok (.i2l, 1) := by decide +kernel
theorem dX7_putNumber_31 : decode cX7_putNumber 31 = .ok (.iload_n 3, 1) := by decide +kernel
theorem dX7_putNumber_32 : decode cX7_putNumber 32 = .ok (.invokestatic 228, 3) := by decide +kernel
theorem dX7_putNumber_35 : decode cX7_putNumber 35 = .ok (.ldiv, 1) := by decide +kernel
theorem dX7_putNumber_36 : decode cX7_putNumber 36 = .ok (.ldc2_w 43, 3) := by decide +kernel
theorem dX7_putNumber_39 : decode cX7_putNumber 39 = .ok (.lrem, 1) := by decide +kernel
theorem dX7_putNumber_40 : decode cX7_putNumber 40 = .ok (.l2i, 1) := by decide +kernel
theorem dX7_putNumber_41 : decode cX7_putNumber 41 = .ok (.iadd, 1) := by decide +kernel
theorem dX7_putNumber_42 : decode cX7_putNumber 42 = .ok (.invokevirtual 232, 3) := by decide +kernel
theorem dX7_putNumber_45 : decode cX7_putNumber 45 = .ok (.iinc 3 (-1), 3) := by decide +kernel
theorem dX7_putNumber_48 : decode cX7_putNumber 48 = .ok (.goto (-26), 3) := by decide +kernel
theorem dX7_putNumber_51 : decode cX7_putNumber 51 = .ok (.return_, 1) := by decide +kernel
theorem dX7_putFree_0 : decode cX7_putFree 0 = .ok (.aload_n 0, 1) := by decide +kernel
theorem dX7_putFree_1 : decode cX7_putFree 1 = .ok (.bipush 102, 2) := by decide +kernel
theorem dX7_putFree_3 : decode cX7_putFree 3 = .ok (.invokevirtual 232, 3) := by decide +kernel
theorem dX7_putFree_6 : decode cX7_putFree 6 = .ok (.aload_n 0, 1) := by decide +kernel
theorem dX7_putFree_7 : decode cX7_putFree 7 = .ok (.bipush 114, 2) := by decide +kernel
theorem dX7_putFree_9 : decode cX7_putFree 9 = .ok (.invokevirtual 232, 3) := by decide +kernel
theorem dX7_putFree_12 : decode cX7_putFree 12 = .ok (.aload_n 0, 1) := by decide +kernel
theorem dX7_putFree_13 : decode cX7_putFree 13 = .ok (.bipush 101, 2) := by decide +kernel
theorem dX7_putFree_15 : decode cX7_putFree 15 = .ok (.invokevirtual 232, 3) := by decide +kernel
theorem dX7_putFree_18 : decode cX7_putFree 18 = .ok (.aload_n 0, 1) := by decide +kernel
theorem dX7_putFree_19 : decode cX7_putFree 19 = .ok (.bipush 101, 2) := by decide +kernel
theorem dX7_putFree_21 : decode cX7_putFree 21 = .ok (.invokevirtual 232, 3) := by decide +kernel
theorem dX7_putFree_24 : decode cX7_putFree 24 = .ok (.return_, 1) := by decide +kernel
theorem dX7_line_0 : decode cX7_line 0 = .ok (.aload_n 0, 1) := by decide +kernel
theorem dX7_line_1 : decode cX7_line 1 = .ok (.iload_n 1, 1) := by decide +kernel
theorem dX7_line_2 : decode cX7_line 2 = .ok (.invokestatic 207, 3) := by decide +kernel
theorem dX7_line_5 : decode cX7_line 5 = .ok (.ifCond .ne 7, 3) := by decide +kernel
theorem dX7_line_8 : decode cX7_line 8 = .ok (.iconst 1, 1) := by decide +kernel
theorem dX7_line_9 : decode cX7_line 9 = .ok (.goto 12, 3) := by decide +kernel
theorem dX7_line_12 : decode cX7_line 12 = .ok (.iload_n 2, 1) := by decide +kernel
theorem dX7_line_13 : decode cX7_line 13 = .ok (.ifCond .ge 7, 3) := by decide +kernel
theorem dX7_line_16 : decode cX7_line 16 = .ok (.iconst 2, 1) := by decide +kernel
theorem dX7_line_17 : decode cX7_line 17 = .ok (.goto 4, 3) := by decide +kernel
theorem dX7_line_20 : decode cX7_line 20 = .ok (.iconst 0, 1) := by decide +kernel
theorem dX7_line_21 : decode cX7_line 21 = .ok (.invokevirtual 123, 3) := by decide +kernel
theorem dX7_line_24 : decode cX7_line 24 = .ok (.ifCond .eq 5, 3) := by decide +kernel
theorem dX7_line_27 : decode cX7_line 27 = .ok (.iconst 0, 1) := by decide +kernel
theorem dX7_line_28 : decode cX7_line 28 = .ok (.ireturn, 1) := by decide +kernel
theorem dX7_line_29 : decode cX7_line 29 = .ok (.aload_n 0, 1) := by decide +kernel
theorem dX7_line_30 : decode cX7_line 30 = .ok (.iload_n 2, 1) := by decide +kernel
theorem dX7_line_31 : decode cX7_line 31 = .ok (.putfield 222, 3) := by decide +kernel
theorem dX7_line_34 : decode cX7_line 34 = .ok (.aload_n 0, 1) := by decide +kernel
theorem dX7_line_35 : decode cX7_line 35 = .ok (.iconst (-1), 1) := by decide +kernel
theorem dX7_line_36 : decode cX7_line 36 = .ok (.putfield 225, 3) := by decide +kernel
theorem dX7_line_39 : decode cX7_line 39 = .ok (.aload_n 0, 1) := by decide +kernel
theorem dX7_line_40 : decode cX7_line 40 = .ok (.bipush 112, 2) := by decide +kernel
theorem dX7_line_42 : decode cX7_line 42 = .ok (.invokevirtual 232, 3) := by decide +kernel
theorem dX7_line_45 : decode cX7_line 45 = .ok (.aload_n 0, 1) := by decide +kernel
theorem dX7_line_46 : decode cX7_line 46 = .ok (.iload_n 1, 1) := by decide +kernel
theorem dX7_line_47 : decode cX7_line 47 = .ok (.invokevirtual 236, 3) := by decide +kernel
theorem dX7_line_50 : decode cX7_line 50 = .ok (.aload_n 0, 1) := by decide +kernel
theorem dX7_line_51 : decode cX7_line 51 = .ok (.bipush 32, 2) := by decide +kernel
theorem dX7_line_53 : decode cX7_line 53 = .ok (.invokevirtual 232, 3) := by decide +kernel
theorem dX7_line_56 : decode cX7_line 56 = .ok (.aload_n 0, 1) := by decide +kernel
theorem dX7_line_57 : decode cX7_line 57 = .ok (.getfield 16, 3) := by decide +kernel
theorem dX7_line_60 : decode cX7_line 60 = .ok (.iload_n 1, 1) := by decide +kernel
theorem dX7_line_61 : decode cX7_line 61 = .ok (.invokestatic 64, 3) := by decide +kernel
theorem dX7_line_64 : decode cX7_line 64 = .ok (.ifCond .eq 12, 3) := by decide +kernel
theorem dX7_line_67 : decode cX7_line 67 = .ok (.aload_n 0, 1) := by decide +kernel
theorem dX7_line_68 : decode cX7_line 68 = .ok (.invokevirtual 239, 3) := by decide +kernel
theorem dX7_line_71 : decode cX7_line 71 = .ok (.aload_n 0, 1) := by decide +kernel
theorem dX7_line_72 : decode cX7_line 72 = .ok (.getfield 225, 3) := by decide +kernel
theorem dX7_line_75 : decode cX7_line 75 = .ok (.ireturn, 1) := by decide +kernel
theorem dX7_line_76 : decode cX7_line 76 = .ok (.aload_n 0, 1) := by decide +kernel
theorem dX7_line_77 : decode cX7_line 77 = .ok (.bipush 102, 2) := by decide +kernel
theorem dX7_line_79 : decode cX7_line 79 = .ok (.invokevirtual 232, 3) := by decide +kernel
theorem dX7_line_82 : decode cX7_line 82 = .ok (.aload_n 0, 1) := by decide +kernel
theorem dX7_line_83 : decode cX7_line 83 = .ok (.aload_n 0, 1) := by decide +kernel
theorem dX7_line_84 : decode cX7_line 84 = .ok (.getfield 16, 3) := by decide +kernel
theorem dX7_line_87 : decode cX7_line 87 = .ok (.iload_n 1, 1) := by decide +kernel
theorem dX7_line_88 : decode cX7_line 88 = .ok (.iconst 0, 1) := by decide +kernel
theorem dX7_line_89 : decode cX7_line 89 = .ok (.invokestatic 60, 3) := by decide +kernel
theorem dX7_line_92 : decode cX7_line 92 = .ok (.iaload, 1) := by decide +kernel
theorem dX7_line_93 : decode cX7_line 93 = .ok (.invokevirtual 236, 3) := by decide +kernel
theorem dX7_line_96 : decode cX7_line 96 = .ok (.aload_n 0, 1) := by decide +kernel
theorem dX7_line_97 : decode cX7_line 97 = .ok (.bipush 32, 2) := by decide +kernel
theorem dX7_line_99 : decode cX7_line 99 = .ok (.invokevirtual 232, 3) := by decide +kernel
theorem dX7_line_102 : decode cX7_line 102 = .ok (.aload_n 0, 1) := by decide +kernel
theorem dX7_line_103 : decode cX7_line 103 = .ok (.aload_n 0, 1) := by decide +kernel
theorem dX7_line_104 : decode cX7_line 104 = .ok (.getfield 16, 3) := by decide +kernel
theorem dX7_line_107 : decode cX7_line 107 = .ok (.iload_n 1, 1) := by decide +kernel
theorem dX7_line_108 : decode cX7_line 108 = .ok (.iconst 2, 1) := by decide +kernel
theorem dX7_line_109 : decode cX7_line 109 = .ok (.invokestatic 60, 3) := by decide +kernel
theorem dX7_line_112 : decode cX7_line 112 = .ok (.iaload, 1) := by decide +kernel
theorem dX7_line_113 : decode cX7_line 113 = .ok (.invokevirtual 236, 3) := by decide +kernel
theorem dX7_line_116 : decode cX7_line 116 = .ok (.aload_n 0, 1) := by decide +kernel
theorem dX7_line_117 : decode cX7_line 117 = .ok (.bipush 47, 2) := by decide +kernel
theorem dX7_line_119 : decode cX7_line 119 = .ok (.invokevirtual 232, 3) := by decide +kernel
theorem dX7_line_122 : decode cX7_line 122 = .ok (.aload_n 0, 1) := by decide +kernel
theorem dX7_line_123 : decode cX7_line 123 = .ok (.aload_n 0, 1) := by decide +kernel
theorem dX7_line_124 : decode cX7_line 124 = .ok (.getfield 16, 3) := by decide +kernel
theorem dX7_line_127 : decode cX7_line 127 = .ok (.bipush 10, 2) := by decide +kernel
theorem dX7_line_129 : decode cX7_line 129 = .ok (.iload_n 1, 1) := by decide +kernel
theorem dX7_line_130 : decode cX7_line 130 = .ok (.bipush 6, 2) := by decide +kernel
theorem dX7_line_132 : decode cX7_line 132 = .ok (.idiv, 1) := by decide +kernel
theorem dX7_line_133 : decode cX7_line 133 = .ok (.iadd, 1) := by decide +kernel
theorem dX7_line_134 : decode cX7_line 134 = .ok (.iaload, 1) := by decide +kernel
theorem dX7_line_135 : decode cX7_line 135 = .ok (.invokevirtual 236, 3) := by decide +kernel
theorem dX7_line_138 : decode cX7_line 138 = .ok (.aload_n 0, 1) := by decide +kernel
theorem dX7_line_139 : decode cX7_line 139 = .ok (.bipush 32, 2) := by decide +kernel
theorem dX7_line_141 : decode cX7_line 141 = .ok (.invokevirtual 232, 3) := by decide +kernel
theorem dX7_line_144 : decode cX7_line 144 = .ok (.aload_n 0, 1) := by decide +kernel
theorem dX7_line_145 : decode cX7_line 145 = .ok (.aload_n 0, 1) := by decide +kernel
theorem dX7_line_146 : decode cX7_line 146 = .ok (.getfield 16, 3) := by decide +kernel
theorem dX7_line_149 : decode cX7_line 149 = .ok (.iload_n 1, 1) := by decide +kernel
theorem dX7_line_150 : decode cX7_line 150 = .ok (.iconst 1, 1) := by decide +kernel
theorem dX7_line_151 : decode cX7_line 151 = .ok (.invokestatic 60, 3) := by decide +kernel
theorem dX7_line_154 : decode cX7_line 154 = .ok (.iaload, 1) := by decide +kernel
theorem dX7_line_155 : decode cX7_line 155 = .ok (.invokevirtual 236, 3) := by decide +kernel
theorem dX7_line_158 : decode cX7_line 158 = .ok (.aload_n 0, 1) := by decide +kernel
theorem dX7_line_159 : decode cX7_line 159 = .ok (.getfield 16, 3) := by decide +kernel
theorem dX7_line_162 : decode cX7_line 162 = .ok (.iload_n 1, 1) := by decide +kernel
theorem dX7_line_163 : decode cX7_line 163 = .ok (.invokestatic 72, 3) := by decide +kernel
theorem dX7_line_166 : decode cX7_line 166 = .ok (.ifCond .eq 9, 3) := by decide +kernel
theorem dX7_line_169 : decode cX7_line 169 = .ok (.aload_n 0, 1) := by decide +kernel
theorem dX7_line_170 : decode cX7_line 170 = .ok (.bipush 33, 2) := by decide +kernel
theorem dX7_line_172 : decode cX7_line 172 = .ok (.invokevirtual 232, 3) := by decide +kernel
theorem dX7_line_175 : decode cX7_line 175 = .ok (.aload_n 0, 1) := by decide +kernel
theorem dX7_line_176 : decode cX7_line 176 = .ok (.getfield 16, 3) := by decide +kernel
theorem dX7_line_179 : decode cX7_line 179 = .ok (.iload_n 1, 1) := by decide +kernel
theorem dX7_line_180 : decode cX7_line 180 = .ok (.invokestatic 75, 3) := by decide +kernel
theorem dX7_line_183 : decode cX7_line 183 = .ok (.ifCond .eq 24, 3) := by decide +kernel
theorem dX7_line_186 : decode cX7_line 186 = .ok (.aload_n 0, 1) := by decide +kernel
theorem dX7_line_187 : decode cX7_line 187 = .ok (.bipush 63, 2) := by decide +kernel
theorem dX7_line_189 : decode cX7_line 189 = .ok (.invokevirtual 232, 3) := by decide +kernel
theorem dX7_line_192 : decode cX7_line 192 = .ok (.aload_n 0, 1) := by decide +kernel
theorem dX7_line_193 : decode cX7_line 193 = .ok (.aload_n 0, 1) := by decide +kernel
theorem dX7_line_194 : decode cX7_line 194 = .ok (.getfield 16, 3) := by decide +kernel
theorem dX7_line_197 : decode cX7_line 197 = .ok (.iload_n 1, 1) := by decide +kernel
theorem dX7_line_198 : decode cX7_line 198 = .ok (.bipush 6, 2) := by decide +kernel
theorem dX7_line_200 : decode cX7_line 200 = .ok (.invokestatic 60, 3) := by decide +kernel
theorem dX7_line_203 : decode cX7_line 203 = .ok (.iaload, 1) := by decide +kernel
theorem dX7_line_204 : decode cX7_line 204 = .ok (.invokevirtual 236, 3) := by decide +kernel
theorem dX7_line_207 : decode cX7_line 207 = .ok (.aload_n 0, 1) := by decide +kernel
theorem dX7_line_208 : decode cX7_line 208 = .ok (.getfield 225, 3) := by decide +kernel
theorem dX7_line_211 : decode cX7_line 211 = .ok (.ireturn, 1) := by decide +kernel
theorem dX7_isRow_0 : decode cX7_isRow 0 = .ok (.iload_n 0, 1) := by decide +kernel
theorem dX7_isRow_1 : decode cX7_isRow 1 = .ok (.i2l, 1) := by decide +kernel
theorem dX7_isRow_2 : decode cX7_isRow 2 = .ok (.lconst 0, 1) := by decide +kernel
theorem dX7_isRow_3 : decode cX7_isRow 3 = .ok (.ldc2_w 242, 3) := by decide +kernel
theorem dX7_isRow_6 : decode cX7_isRow 6 = .ok (.invokestatic 116, 3) := by decide +kernel
theorem dX7_isRow_9 : decode cX7_isRow 9 = .ok (.ireturn, 1) := by decide +kernel
theorem dX7_depth_0 : decode cX7_depth 0 = .ok (.aload_n 0, 1) := by decide +kernel
theorem dX7_depth_1 : decode cX7_depth 1 = .ok (.iload_n 1, 1) := by decide +kernel
theorem dX7_depth_2 : decode cX7_depth 2 = .ok (.invokestatic 244, 3) := by decide +kernel
theorem dX7_depth_5 : decode cX7_depth 5 = .ok (.ifCond .eq 7, 3) := by decide +kernel
theorem dX7_depth_8 : decode cX7_depth 8 = .ok (.iconst 0, 1) := by decide +kernel
theorem dX7_depth_9 : decode cX7_depth 9 = .ok (.goto 4, 3) := by decide +kernel
theorem dX7_depth_12 : decode cX7_depth 12 = .ok (.iconst 1, 1) := by decide +kernel
theorem dX7_depth_13 : decode cX7_depth 13 = .ok (.invokevirtual 123, 3) := by decide +kernel
theorem dX7_depth_16 : decode cX7_depth 16 = .ok (.ifCond .eq 5, 3) := by decide +kernel
theorem dX7_depth_19 : decode cX7_depth 19 = .ok (.iconst 0, 1) := by decide +kernel
theorem dX7_depth_20 : decode cX7_depth 20 = .ok (.ireturn, 1) := by decide +kernel
theorem dX7_depth_21 : decode cX7_depth 21 = .ok (.aload_n 0, 1) := by decide +kernel
theorem dX7_depth_22 : decode cX7_depth 22 = .ok (.getfield 16, 3) := by decide +kernel
theorem dX7_depth_25 : decode cX7_depth 25 = .ok (.bipush 10, 2) := by decide +kernel
theorem dX7_depth_27 : decode cX7_depth 27 = .ok (.iload_n 1, 1) := by decide +kernel
theorem dX7_depth_28 : decode cX7_depth 28 = .ok (.iadd, 1) := by decide +kernel
theorem dX7_depth_29 : decode cX7_depth 29 = .ok (.iaload, 1) := by decide +kernel
theorem dX7_depth_30 : decode cX7_depth 30 = .ok (.ireturn, 1) := by decide +kernel
theorem dX7_setting_0 : decode cX7_setting 0 = .ok (.aload_n 0, 1) := by decide +kernel
theorem dX7_setting_1 : decode cX7_setting 1 = .ok (.iload_n 1, 1) := by decide +kernel
theorem dX7_setting_2 : decode cX7_setting 2 = .ok (.i2l, 1) := by decide +kernel
theorem dX7_setting_3 : decode cX7_setting 3 = .ok (.lconst 0, 1) := by decide +kernel
theorem dX7_setting_4 : decode cX7_setting 4 = .ok (.ldc2_w 247, 3) := by decide +kernel
theorem dX7_setting_7 : decode cX7_setting 7 = .ok (.invokestatic 116, 3) := by decide +kernel
theorem dX7_setting_10 : decode cX7_setting 10 = .ok (.ifCond .eq 7, 3) := by decide +kernel
theorem dX7_setting_13 : decode cX7_setting 13 = .ok (.iconst 0, 1) := by decide +kernel
theorem dX7_setting_14 : decode cX7_setting 14 = .ok (.goto 4, 3) := by decide +kernel
theorem dX7_setting_17 : decode cX7_setting 17 = .ok (.iconst 1, 1) := by decide +kernel
theorem dX7_setting_18 : decode cX7_setting 18 = .ok (.invokevirtual 123, 3) := by decide +kernel
theorem dX7_setting_21 : decode cX7_setting 21 = .ok (.ifCond .eq 5, 3) := by decide +kernel
theorem dX7_setting_24 : decode cX7_setting 24 = .ok (.iconst 0, 1) := by decide +kernel
theorem dX7_setting_25 : decode cX7_setting 25 = .ok (.ireturn, 1) := by decide +kernel
theorem dX7_setting_26 : decode cX7_setting 26 = .ok (.aload_n 0, 1) := by decide +kernel
theorem dX7_setting_27 : decode cX7_setting 27 = .ok (.getfield 16, 3) := by decide +kernel
theorem dX7_setting_30 : decode cX7_setting 30 = .ok (.iconst 5, 1) := by decide +kernel
theorem dX7_setting_31 : decode cX7_setting 31 = .ok (.iload_n 1, 1) := by decide +kernel
theorem dX7_setting_32 : decode cX7_setting 32 = .ok (.iadd, 1) := by decide +kernel
theorem dX7_setting_33 : decode cX7_setting 33 = .ok (.iaload, 1) := by decide +kernel
theorem dX7_setting_34 : decode cX7_setting 34 = .ok (.ireturn, 1) := by decide +kernel
theorem dX7_ask_0 : decode cX7_ask 0 = .ok (.aload_n 0, 1) := by decide +kernel
theorem dX7_ask_1 : decode cX7_ask 1 = .ok (.iload_n 1, 1) := by decide +kernel
theorem dX7_ask_2 : decode cX7_ask 2 = .ok (.invokestatic 212, 3) := by decide +kernel
theorem dX7_ask_5 : decode cX7_ask 5 = .ok (.ifCond .ne 7, 3) := by decide +kernel
theorem dX7_ask_8 : decode cX7_ask 8 = .ok (.iconst 1, 1) := by decide +kernel
theorem dX7_ask_9 : decode cX7_ask 9 = .ok (.goto 19, 3) := by decide +kernel
theorem dX7_ask_12 : decode cX7_ask 12 = .ok (.aload_n 0, 1) := by decide +kernel
theorem dX7_ask_13 : decode cX7_ask 13 = .ok (.getfield 16, 3) := by decide +kernel
theorem dX7_ask_16 : decode cX7_ask 16 = .ok (.iload_n 1, 1) := by decide +kernel
theorem dX7_ask_17 : decode cX7_ask 17 = .ok (.invokestatic 156, 3) := by decide +kernel
theorem dX7_ask_20 : decode cX7_ask 20 = .ok (.ifCond .eq 7, 3) := by decide +kernel
theorem dX7_ask_23 : decode cX7_ask 23 = .ok (.iconst 0, 1) := by decide +kernel
theorem dX7_ask_24 : decode cX7_ask 24 = .ok (.goto 4, 3) := by decide +kernel
theorem dX7_ask_27 : decode cX7_ask 27 = .ok (.iconst 2, 1) := by decide +kernel
theorem dX7_ask_28 : decode cX7_ask 28 = .ok (.invokevirtual 123, 3) := by decide +kernel
theorem dX7_ask_31 : decode cX7_ask 31 = .ok (.ifCond .eq 5, 3) := by decide +kernel
theorem dX7_ask_34 : decode cX7_ask 34 = .ok (.iconst 0, 1) := by decide +kernel
theorem dX7_ask_35 : decode cX7_ask 35 = .ok (.ireturn, 1) := by decide +kernel
theorem dX7_ask_36 : decode cX7_ask 36 = .ok (.aload_n 0, 1) := by decide +kernel
theorem dX7_ask_37 : decode cX7_ask 37 = .ok (.invokevirtual 249, 3) := by decide +kernel
theorem dX7_ask_40 : decode cX7_ask 40 = .ok (.aload_n 0, 1) := by decide +kernel
theorem dX7_ask_41 : decode cX7_ask 41 = .ok (.aload_n 0, 1) := by decide +kernel
theorem dX7_ask_42 : decode cX7_ask 42 = .ok (.getfield 16, 3) := by decide +kernel
theorem dX7_ask_45 : decode cX7_ask 45 = .ok (.iload_n 1, 1) := by decide +kernel
theorem dX7_ask_46 : decode cX7_ask 46 = .ok (.invokevirtual 163, 3) := by decide +kernel
theorem dX7_ask_49 : decode cX7_ask 49 = .ok (.ireturn, 1) := by decide +kernel
theorem dX7_let_0 : decode cX7_let 0 = .ok (.aload_n 0, 1) := by decide +kernel
theorem dX7_let_1 : decode cX7_let 1 = .ok (.iload_n 1, 1) := by decide +kernel
theorem dX7_let_2 : decode cX7_let 2 = .ok (.invokestatic 212, 3) := by decide +kernel
theorem dX7_let_5 : decode cX7_let 5 = .ok (.ifCond .eq 10, 3) := by decide +kernel
theorem dX7_let_8 : decode cX7_let 8 = .ok (.iload_n 2, 1) := by decide +kernel
theorem dX7_let_9 : decode cX7_let 9 = .ok (.invokestatic 207, 3) := by decide +kernel
theorem dX7_let_12 : decode cX7_let 12 = .ok (.ifCond .ne 7, 3) := by decide +kernel
theorem dX7_let_15 : decode cX7_let 15 = .ok (.iconst 1, 1) := by decide +kernel
theorem dX7_let_16 : decode cX7_let 16 = .ok (.goto 19, 3) := by decide +kernel
theorem dX7_let_19 : decode cX7_let 19 = .ok (.aload_n 0, 1) := by decide +kernel
theorem dX7_let_20 : decode cX7_let 20 = .ok (.getfield 16, 3) := by decide +kernel
theorem dX7_let_23 : decode cX7_let 23 = .ok (.iload_n 2, 1) := by decide +kernel
theorem dX7_let_24 : decode cX7_let 24 = .ok (.invokestatic 64, 3) := by decide +kernel
theorem dX7_let_27 : decode cX7_let 27 = .ok (.ifCond .eq 7, 3) := by decide +kernel
theorem dX7_let_30 : decode cX7_let 30 = .ok (.iconst 0, 1) := by decide +kernel
theorem dX7_let_31 : decode cX7_let 31 = .ok (.goto 4, 3) := by decide +kernel
theorem dX7_let_34 : decode cX7_let 34 = .ok (.iconst 2, 1) := by decide +kernel
theorem dX7_let_35 : decode cX7_let 35 = .ok (.invokevirtual 123, 3) := by decide +kernel
theorem dX7_let_38 : decode cX7_let 38 = .ok (.ifCond .eq 5, 3) := by decide +kernel
theorem dX7_let_41 : decode cX7_let 41 = .ok (.iconst 0, 1) := by decide +kernel
theorem dX7_let_42 : decode cX7_let 42 = .ok (.ireturn, 1) := by decide +kernel
theorem dX7_let_43 : decode cX7_let 43 = .ok (.aload_n 0, 1) := by decide +kernel
theorem dX7_let_44 : decode cX7_let 44 = .ok (.invokevirtual 249, 3) := by decide +kernel
theorem dX7_let_47 : decode cX7_let 47 = .ok (.aload_n 0, 1) := by decide +kernel
theorem dX7_let_48 : decode cX7_let 48 = .ok (.aload_n 0, 1) := by decide +kernel
theorem dX7_let_49 : decode cX7_let 49 = .ok (.getfield 16, 3) := by decide +kernel
theorem dX7_let_52 : decode cX7_let 52 = .ok (.iload_n 1, 1) := by decide +kernel
theorem dX7_let_53 : decode cX7_let 53 = .ok (.iload_n 2, 1) := by decide +kernel
theorem dX7_let_54 : decode cX7_let 54 = .ok (.invokevirtual 98, 3) := by decide +kernel
theorem dX7_let_57 : decode cX7_let 57 = .ok (.aload_n 0, 1) := by decide +kernel
theorem dX7_let_58 : decode cX7_let 58 = .ok (.getfield 16, 3) := by decide +kernel
theorem dX7_let_61 : decode cX7_let 61 = .ok (.iload_n 2, 1) := by decide +kernel
theorem dX7_let_62 : decode cX7_let 62 = .ok (.iconst 1, 1) := by decide +kernel
theorem dX7_let_63 : decode cX7_let 63 = .ok (.invokestatic 60, 3) := by decide +kernel
theorem dX7_let_66 : decode cX7_let 66 = .ok (.iaload, 1) := by decide +kernel
theorem dX7_let_67 : decode cX7_let 67 = .ok (.ireturn, 1) := by decide +kernel
theorem dX7_bury_0 : decode cX7_bury 0 = .ok (.aload_n 0, 1) := by decide +kernel
theorem dX7_bury_1 : decode cX7_bury 1 = .ok (.iload_n 1, 1) := by decide +kernel
theorem dX7_bury_2 : decode cX7_bury 2 = .ok (.invokestatic 207, 3) := by decide +kernel
theorem dX7_bury_5 : decode cX7_bury 5 = .ok (.ifCond .ne 7, 3) := by decide +kernel
theorem dX7_bury_8 : decode cX7_bury 8 = .ok (.iconst 1, 1) := by decide +kernel
theorem dX7_bury_9 : decode cX7_bury 9 = .ok (.goto 19, 3) := by decide +kernel
theorem dX7_bury_12 : decode cX7_bury 12 = .ok (.aload_n 0, 1) := by decide +kernel
theorem dX7_bury_13 : decode cX7_bury 13 = .ok (.getfield 16, 3) := by decide +kernel
theorem dX7_bury_16 : decode cX7_bury 16 = .ok (.iload_n 1, 1) := by decide +kernel
theorem dX7_bury_17 : decode cX7_bury 17 = .ok (.invokestatic 166, 3) := by decide +kernel
theorem dX7_bury_20 : decode cX7_bury 20 = .ok (.ifCond .eq 7, 3) := by decide +kernel
theorem dX7_bury_23 : decode cX7_bury 23 = .ok (.iconst 0, 1) := by decide +kernel
theorem dX7_bury_24 : decode cX7_bury 24 = .ok (.goto 4, 3) := by decide +kernel
theorem dX7_bury_27 : decode cX7_bury 27 = .ok (.iconst 2, 1) := by decide +kernel
theorem dX7_bury_28 : decode cX7_bury 28 = .ok (.invokevirtual 123, 3) := by decide +kernel
theorem dX7_bury_31 : decode cX7_bury 31 = .ok (.ifCond .eq 5, 3) := by decide +kernel
theorem dX7_bury_34 : decode cX7_bury 34 = .ok (.iconst 0, 1) := by decide +kernel
theorem dX7_bury_35 : decode cX7_bury 35 = .ok (.ireturn, 1) := by decide +kernel
theorem dX7_bury_36 : decode cX7_bury 36 = .ok (.aload_n 0, 1) := by decide +kernel
theorem dX7_bury_37 : decode cX7_bury 37 = .ok (.invokevirtual 249, 3) := by decide +kernel
theorem dX7_bury_40 : decode cX7_bury 40 = .ok (.aload_n 0, 1) := by decide +kernel
theorem dX7_bury_41 : decode cX7_bury 41 = .ok (.getfield 16, 3) := by decide +kernel
theorem dX7_bury_44 : decode cX7_bury 44 = .ok (.iload_n 1, 1) := by decide +kernel
theorem dX7_bury_45 : decode cX7_bury 45 = .ok (.invokestatic 169, 3) := by decide +kernel
theorem dX7_bury_48 : decode cX7_bury 48 = .ok (.ireturn, 1) := by decide +kernel
theorem dX7_renew_0 : decode cX7_renew 0 = .ok (.aload_n 0, 1) := by decide +kernel
theorem dX7_renew_1 : decode cX7_renew 1 = .ok (.iload_n 1, 1) := by decide +kernel
theorem dX7_renew_2 : decode cX7_renew 2 = .ok (.invokestatic 207, 3) := by decide +kernel
theorem dX7_renew_5 : decode cX7_renew 5 = .ok (.ifCond .ne 7, 3) := by decide +kernel
theorem dX7_renew_8 : decode cX7_renew 8 = .ok (.iconst 1, 1) := by decide +kernel
theorem dX7_renew_9 : decode cX7_renew 9 = .ok (.goto 46, 3) := by decide +kernel
theorem dX7_renew_12 : decode cX7_renew 12 = .ok (.iload_n 2, 1) := by decide +kernel
theorem dX7_renew_13 : decode cX7_renew 13 = .ok (.i2l, 1) := by decide +kernel
theorem dX7_renew_14 : decode cX7_renew 14 = .ok (.lconst 1, 1) := by decide +kernel
theorem dX7_renew_15 : decode cX7_renew 15 = .ok (.ldc2_w 252, 3) := by decide +kernel
theorem dX7_renew_18 : decode cX7_renew 18 = .ok (.invokestatic 116, 3) := by decide +kernel
theorem dX7_renew_21 : decode cX7_renew 21 = .ok (.ifCond .ne 7, 3) := by decide +kernel
theorem dX7_renew_24 : decode cX7_renew 24 = .ok (.iconst 2, 1) := by decide +kernel
theorem dX7_renew_25 : decode cX7_renew 25 = .ok (.goto 30, 3) := by decide +kernel
theorem dX7_renew_28 : decode cX7_renew 28 = .ok (.aload_n 0, 1) := by decide +kernel
theorem dX7_renew_29 : decode cX7_renew 29 = .ok (.getfield 16, 3) := by decide +kernel
theorem dX7_renew_32 : decode cX7_renew 32 = .ok (.iload_n 1, 1) := by decide +kernel
theorem dX7_renew_33 : decode cX7_renew 33 = .ok (.invokestatic 64, 3) := by decide +kernel
theorem dX7_renew_36 : decode cX7_renew 36 = .ok (.ifCond .ne 14, 3) := by decide +kernel
theorem dX7_renew_39 : decode cX7_renew 39 = .ok (.aload_n 0, 1) := by decide +kernel
theorem dX7_renew_40 : decode cX7_renew 40 = .ok (.getfield 16, 3) := by decide +kernel
theorem dX7_renew_43 : decode cX7_renew 43 = .ok (.iload_n 1, 1) := by decide +kernel
theorem dX7_renew_44 : decode cX7_renew 44 = .ok (.invokestatic 75, 3) := by decide +kernel
theorem dX7_renew_47 : decode cX7_renew 47 = .ok (.ifCond .eq 7, 3) := by decide +kernel
theorem dX7_renew_50 : decode cX7_renew 50 = .ok (.iconst 3, 1) := by decide +kernel
theorem dX7_renew_51 : decode cX7_renew 51 = .ok (.goto 4, 3) := by decide +kernel
theorem dX7_renew_54 : decode cX7_renew 54 = .ok (.iconst 0, 1) := by decide +kernel
theorem dX7_renew_55 : decode cX7_renew 55 = .ok (.invokevirtual 123, 3) := by decide +kernel
theorem dX7_renew_58 : decode cX7_renew 58 = .ok (.ifCond .eq 5, 3) := by decide +kernel
theorem dX7_renew_61 : decode cX7_renew 61 = .ok (.iconst 0, 1) := by decide +kernel
theorem dX7_renew_62 : decode cX7_renew 62 = .ok (.ireturn, 1) := by decide +kernel
theorem dX7_renew_63 : decode cX7_renew 63 = .ok (.aload_n 0, 1) := by decide +kernel
theorem dX7_renew_64 : decode cX7_renew 64 = .ok (.invokevirtual 249, 3) := by decide +kernel
theorem dX7_renew_67 : decode cX7_renew 67 = .ok (.aload_n 0, 1) := by decide +kernel
theorem dX7_renew_68 : decode cX7_renew 68 = .ok (.getfield 16, 3) := by decide +kernel
theorem dX7_renew_71 : decode cX7_renew 71 = .ok (.iload_n 1, 1) := by decide +kernel
theorem dX7_renew_72 : decode cX7_renew 72 = .ok (.iload_n 2, 1) := by decide +kernel
theorem dX7_renew_73 : decode cX7_renew 73 = .ok (.invokestatic 254, 3) := by decide +kernel
theorem dX7_renew_76 : decode cX7_renew 76 = .ok (.ireturn, 1) := by decide +kernel
theorem dX7_claim_0 : decode cX7_claim 0 = .ok (.aload_n 0, 1) := by decide +kernel
theorem dX7_claim_1 : decode cX7_claim 1 = .ok (.iload_n 1, 1) := by decide +kernel
theorem dX7_claim_2 : decode cX7_claim 2 = .ok (.invokestatic 207, 3) := by decide +kernel
theorem dX7_claim_5 : decode cX7_claim 5 = .ok (.ifCond .eq 10, 3) := by decide +kernel
theorem dX7_claim_8 : decode cX7_claim 8 = .ok (.iload_n 2, 1) := by decide +kernel
theorem dX7_claim_9 : decode cX7_claim 9 = .ok (.invokestatic 212, 3) := by decide +kernel
theorem dX7_claim_12 : decode cX7_claim 12 = .ok (.ifCond .ne 7, 3) := by decide +kernel
theorem dX7_claim_15 : decode cX7_claim 15 = .ok (.iconst 1, 1) := by decide +kernel
theorem dX7_claim_16 : decode cX7_claim 16 = .ok (.goto 20, 3) := by decide +kernel
theorem dX7_claim_19 : decode cX7_claim 19 = .ok (.aload_n 0, 1) := by decide +kernel
theorem dX7_claim_20 : decode cX7_claim 20 = .ok (.getfield 16, 3) := by decide +kernel
theorem dX7_claim_23 : decode cX7_claim 23 = .ok (.iload_n 1, 1) := by decide +kernel
theorem dX7_claim_24 : decode cX7_claim 24 = .ok (.iload_n 2, 1) := by decide +kernel
theorem dX7_claim_25 : decode cX7_claim 25 = .ok (.invokestatic 257, 3) := by decide +kernel
theorem dX7_claim_28 : decode cX7_claim 28 = .ok (.ifCond .eq 7, 3) := by decide +kernel
theorem dX7_claim_31 : decode cX7_claim 31 = .ok (.iconst 0, 1) := by decide +kernel
theorem dX7_claim_32 : decode cX7_claim 32 = .ok (.goto 4, 3) := by decide +kernel
theorem dX7_claim_35 : decode cX7_claim 35 = .ok (.iconst 2, 1) := by decide +kernel
theorem dX7_claim_36 : decode cX7_claim 36 = .ok (.invokevirtual 123, 3) := by decide +kernel
theorem dX7_claim_39 : decode cX7_claim 39 = .ok (.ifCond .eq 5, 3) := by decide +kernel
theorem dX7_claim_42 : decode cX7_claim 42 = .ok (.iconst 0, 1) := by decide +kernel
theorem dX7_claim_43 : decode cX7_claim 43 = .ok (.ireturn, 1) := by decide +kernel
theorem dX7_claim_44 : decode cX7_claim 44 = .ok (.aload_n 0, 1) := by decide +kernel
theorem dX7_claim_45 : decode cX7_claim 45 = .ok (.invokevirtual 249, 3) := by decide +kernel
theorem dX7_claim_48 : decode cX7_claim 48 = .ok (.aload_n 0, 1) := by decide +kernel
theorem dX7_claim_49 : decode cX7_claim 49 = .ok (.getfield 16, 3) := by decide +kernel
theorem dX7_claim_52 : decode cX7_claim 52 = .ok (.iload_n 1, 1) := by decide +kernel
theorem dX7_claim_53 : decode cX7_claim 53 = .ok (.bipush 6, 2) := by decide +kernel
theorem dX7_claim_55 : decode cX7_claim 55 = .ok (.invokestatic 60, 3) := by decide +kernel
theorem dX7_claim_58 : decode cX7_claim 58 = .ok (.iload_n 2, 1) := by decide +kernel
theorem dX7_claim_59 : decode cX7_claim 59 = .ok (.iastore, 1) := by decide +kernel
theorem dX7_claim_60 : decode cX7_claim 60 = .ok (.aload_n 0, 1) := by decide +kernel
theorem dX7_claim_61 : decode cX7_claim 61 = .ok (.getfield 16, 3) := by decide +kernel
theorem dX7_claim_64 : decode cX7_claim 64 = .ok (.invokestatic 199, 3) := by decide +kernel
theorem dX7_claim_67 : decode cX7_claim 67 = .ok (.ireturn, 1) := by decide +kernel
theorem dX7_settle_0 : decode cX7_settle 0 = .ok (.aload_n 0, 1) := by decide +kernel
theorem dX7_settle_1 : decode cX7_settle 1 = .ok (.iload_n 1, 1) := by decide +kernel
theorem dX7_settle_2 : decode cX7_settle 2 = .ok (.invokestatic 207, 3) := by decide +kernel
theorem dX7_settle_5 : decode cX7_settle 5 = .ok (.ifCond .ne 7, 3) := by decide +kernel
theorem dX7_settle_8 : decode cX7_settle 8 = .ok (.iconst 1, 1) := by decide +kernel
theorem dX7_settle_9 : decode cX7_settle 9 = .ok (.goto 19, 3) := by decide +kernel
theorem dX7_settle_12 : decode cX7_settle 12 = .ok (.aload_n 0, 1) := by decide +kernel
theorem dX7_settle_13 : decode cX7_settle 13 = .ok (.getfield 16, 3) := by decide +kernel
theorem dX7_settle_16 : decode cX7_settle 16 = .ok (.iload_n 1, 1) := by decide +kernel
theorem dX7_settle_17 : decode cX7_settle 17 = .ok (.invokestatic 75, 3) := by decide +kernel
theorem dX7_settle_20 : decode cX7_settle 20 = .ok (.ifCond .eq 7, 3) := by decide +kernel
theorem dX7_settle_23 : decode cX7_settle 23 = .ok (.iconst 0, 1) := by decide +kernel
theorem dX7_settle_24 : decode cX7_settle 24 = .ok (.goto 4, 3) := by decide +kernel
theorem dX7_settle_27 : decode cX7_settle 27 = .ok (.iconst 2, 1) := by decide +kernel
theorem dX7_settle_28 : decode cX7_settle 28 = .ok (.invokevirtual 123, 3) := by decide +kernel
theorem dX7_settle_31 : decode cX7_settle 31 = .ok (.ifCond .eq 5, 3) := by decide +kernel
theorem dX7_settle_34 : decode cX7_settle 34 = .ok (.iconst 0, 1) := by decide +kernel
theorem dX7_settle_35 : decode cX7_settle 35 = .ok (.ireturn, 1) := by decide +kernel
theorem dX7_settle_36 : decode cX7_settle 36 = .ok (.aload_n 0, 1) := by decide +kernel
theorem dX7_settle_37 : decode cX7_settle 37 = .ok (.invokevirtual 249, 3) := by decide +kernel
theorem dX7_settle_40 : decode cX7_settle 40 = .ok (.aload_n 0, 1) := by decide +kernel
theorem dX7_settle_41 : decode cX7_settle 41 = .ok (.getfield 16, 3) := by decide +kernel
theorem dX7_settle_44 : decode cX7_settle 44 = .ok (.iload_n 1, 1) := by decide +kernel
theorem dX7_settle_45 : decode cX7_settle 45 = .ok (.iload_n 2, 1) := by decide +kernel
theorem dX7_settle_46 : decode cX7_settle 46 = .ok (.invokestatic 261, 3) := by decide +kernel
theorem dX7_settle_49 : decode cX7_settle 49 = .ok (.ireturn, 1) := by decide +kernel
theorem dX7_clear_0 : decode cX7_clear 0 = .ok (.aload_n 0, 1) := by decide +kernel
theorem dX7_clear_1 : decode cX7_clear 1 = .ok (.iload_n 1, 1) := by decide +kernel
theorem dX7_clear_2 : decode cX7_clear 2 = .ok (.invokestatic 207, 3) := by decide +kernel
theorem dX7_clear_5 : decode cX7_clear 5 = .ok (.ifCond .ne 7, 3) := by decide +kernel
theorem dX7_clear_8 : decode cX7_clear 8 = .ok (.iconst 1, 1) := by decide +kernel
theorem dX7_clear_9 : decode cX7_clear 9 = .ok (.goto 20, 3) := by decide +kernel
theorem dX7_clear_12 : decode cX7_clear 12 = .ok (.aload_n 0, 1) := by decide +kernel
theorem dX7_clear_13 : decode cX7_clear 13 = .ok (.getfield 16, 3) := by decide +kernel
theorem dX7_clear_16 : decode cX7_clear 16 = .ok (.iload_n 1, 1) := by decide +kernel
theorem dX7_clear_17 : decode cX7_clear 17 = .ok (.invokestatic 108, 3) := by decide +kernel
theorem dX7_clear_20 : decode cX7_clear 20 = .ok (.iconst 4, 1) := by decide +kernel
theorem dX7_clear_21 : decode cX7_clear 21 = .ok (.if_icmp .ne 7, 3) := by decide +kernel
theorem dX7_clear_24 : decode cX7_clear 24 = .ok (.iconst 0, 1) := by decide +kernel
theorem dX7_clear_25 : decode cX7_clear 25 = .ok (.goto 4, 3) := by decide +kernel
theorem dX7_clear_28 : decode cX7_clear 28 = .ok (.iconst 2, 1) := by decide +kernel
theorem dX7_clear_29 : decode cX7_clear 29 = .ok (.invokevirtual 123, 3) := by decide +kernel
theorem dX7_clear_32 : decode cX7_clear 32 = .ok (.ifCond .eq 5, 3) := by decide +kernel
theorem dX7_clear_35 : decode cX7_clear 35 = .ok (.iconst 0, 1) := by decide +kernel
theorem dX7_clear_36 : decode cX7_clear 36 = .ok (.ireturn, 1) := by decide +kernel
theorem dX7_clear_37 : decode cX7_clear 37 = .ok (.aload_n 0, 1) := by decide +kernel
theorem dX7_clear_38 : decode cX7_clear 38 = .ok (.invokevirtual 249, 3) := by decide +kernel
theorem dX7_clear_41 : decode cX7_clear 41 = .ok (.aload_n 0, 1) := by decide +kernel
theorem dX7_clear_42 : decode cX7_clear 42 = .ok (.getfield 16, 3) := by decide +kernel
theorem dX7_clear_45 : decode cX7_clear 45 = .ok (.iload_n 1, 1) := by decide +kernel
theorem dX7_clear_46 : decode cX7_clear 46 = .ok (.invokestatic 265, 3) := by decide +kernel
theorem dX7_clear_49 : decode cX7_clear 49 = .ok (.ireturn, 1) := by decide +kernel
theorem dX7_dig_0 : decode cX7_dig 0 = .ok (.aload_n 0, 1) := by decide +kernel
theorem dX7_dig_1 : decode cX7_dig 1 = .ok (.iload_n 1, 1) := by decide +kernel
theorem dX7_dig_2 : decode cX7_dig 2 = .ok (.invokestatic 244, 3) := by decide +kernel
theorem dX7_dig_5 : decode cX7_dig 5 = .ok (.ifCond .ne 7, 3) := by decide +kernel
theorem dX7_dig_8 : decode cX7_dig 8 = .ok (.iconst 1, 1) := by decide +kernel
theorem dX7_dig_9 : decode cX7_dig 9 = .ok (.goto 20, 3) := by decide +kernel
theorem dX7_dig_12 : decode cX7_dig 12 = .ok (.iload_n 2, 1) := by decide +kernel
theorem dX7_dig_13 : decode cX7_dig 13 = .ok (.i2l, 1) := by decide +kernel
theorem dX7_dig_14 : decode cX7_dig 14 = .ok (.lconst 1, 1) := by decide +kernel
theorem dX7_dig_15 : decode cX7_dig 15 = .ok (.ldc2_w 242, 3) := by decide +kernel
theorem dX7_dig_18 : decode cX7_dig 18 = .ok (.invokestatic 116, 3) := by decide +kernel
theorem dX7_dig_21 : decode cX7_dig 21 = .ok (.ifCond .eq 7, 3) := by decide +kernel
theorem dX7_dig_24 : decode cX7_dig 24 = .ok (.iconst 0, 1) := by decide +kernel
theorem dX7_dig_25 : decode cX7_dig 25 = .ok (.goto 4, 3) := by decide +kernel
theorem dX7_dig_28 : decode cX7_dig 28 = .ok (.iconst 2, 1) := by decide +kernel
theorem dX7_dig_29 : decode cX7_dig 29 = .ok (.invokevirtual 123, 3) := by decide +kernel
theorem dX7_dig_32 : decode cX7_dig 32 = .ok (.ifCond .eq 5, 3) := by decide +kernel
theorem dX7_dig_35 : decode cX7_dig 35 = .ok (.iconst 0, 1) := by decide +kernel
theorem dX7_dig_36 : decode cX7_dig 36 = .ok (.ireturn, 1) := by decide +kernel
theorem dX7_dig_37 : decode cX7_dig 37 = .ok (.aload_n 0, 1) := by decide +kernel
theorem dX7_dig_38 : decode cX7_dig 38 = .ok (.invokevirtual 249, 3) := by decide +kernel
theorem dX7_dig_41 : decode cX7_dig 41 = .ok (.aload_n 0, 1) := by decide +kernel
theorem dX7_dig_42 : decode cX7_dig 42 = .ok (.getfield 16, 3) := by decide +kernel
theorem dX7_dig_45 : decode cX7_dig 45 = .ok (.bipush 10, 2) := by decide +kernel
theorem dX7_dig_47 : decode cX7_dig 47 = .ok (.iload_n 1, 1) := by decide +kernel
theorem dX7_dig_48 : decode cX7_dig 48 = .ok (.iadd, 1) := by decide +kernel
theorem dX7_dig_49 : decode cX7_dig 49 = .ok (.iaload, 1) := by decide +kernel
theorem dX7_dig_50 : decode cX7_dig 50 = .ok (.istore_n 3, 1) := by decide +kernel
theorem dX7_dig_51 : decode cX7_dig 51 = .ok (.aload_n 0, 1) := by decide +kernel
theorem dX7_dig_52 : decode cX7_dig 52 = .ok (.getfield 16, 3) := by decide +kernel
theorem dX7_dig_55 : decode cX7_dig 55 = .ok (.bipush 10, 2) := by decide +kernel
theorem dX7_dig_57 : decode cX7_dig 57 = .ok (.iload_n 1, 1) := by decide +kernel
theorem dX7_dig_58 : decode cX7_dig 58 = .ok (.iadd, 1) := by decide +kernel
theorem dX7_dig_59 : decode cX7_dig 59 = .ok (.iload_n 2, 1) := by decide +kernel
theorem dX7_dig_60 : decode cX7_dig 60 = .ok (.iastore, 1) := by decide +kernel
theorem dX7_dig_61 : decode cX7_dig 61 = .ok (.iload_n 3, 1) := by decide +kernel
theorem dX7_dig_62 : decode cX7_dig 62 = .ok (.ireturn, 1) := by decide +kernel
theorem dX7_isRun_0 : decode cX7_isRun 0 = .ok (.iload_n 0, 1) := by decide +kernel
theorem dX7_isRun_1 : decode cX7_isRun 1 = .ok (.i2l, 1) := by decide +kernel
theorem dX7_isRun_2 : decode cX7_isRun 2 = .ok (.lconst 1, 1) := by decide +kernel
theorem dX7_isRun_3 : decode cX7_isRun 3 = .ok (.ldc2_w 252, 3) := by decide +kernel
theorem dX7_isRun_6 : decode cX7_isRun 6 = .ok (.invokestatic 116, 3) := by decide +kernel
theorem dX7_isRun_9 : decode cX7_isRun 9 = .ok (.ireturn, 1) := by decide +kernel
theorem dX7_run_0 : decode cX7_run 0 = .ok (.aload_n 0, 1) := by decide +kernel
theorem dX7_run_1 : decode cX7_run 1 = .ok (.iload_n 1, 1) := by decide +kernel
theorem dX7_run_2 : decode cX7_run 2 = .ok (.invokestatic 268, 3) := by decide +kernel
theorem dX7_run_5 : decode cX7_run 5 = .ok (.ifCond .eq 7, 3) := by decide +kernel
theorem dX7_run_8 : decode cX7_run 8 = .ok (.iconst 0, 1) := by decide +kernel
theorem dX7_run_9 : decode cX7_run 9 = .ok (.goto 4, 3) := by decide +kernel
theorem dX7_run_12 : decode cX7_run 12 = .ok (.iconst 1, 1) := by decide +kernel
theorem dX7_run_13 : decode cX7_run 13 = .ok (.invokevirtual 123, 3) := by decide +kernel
theorem dX7_run_16 : decode cX7_run 16 = .ok (.ifCond .eq 5, 3) := by decide +kernel
theorem dX7_run_19 : decode cX7_run 19 = .ok (.iconst 0, 1) := by decide +kernel
theorem dX7_run_20 : decode cX7_run 20 = .ok (.ireturn, 1) := by decide +kernel
theorem dX7_run_21 : decode cX7_run 21 = .ok (.aload_n 0, 1) := by decide +kernel
theorem dX7_run_22 : decode cX7_run 22 = .ok (.invokevirtual 249, 3) := by decide +kernel
theorem dX7_run_25 : decode cX7_run 25 = .ok (.aload_n 0, 1) := by decide +kernel
theorem dX7_run_26 : decode cX7_run 26 = .ok (.aload_n 0, 1) := by decide +kernel
theorem dX7_run_27 : decode cX7_run 27 = .ok (.getfield 16, 3) := by decide +kernel
theorem dX7_run_30 : decode cX7_run 30 = .ok (.iload_n 1, 1) := by decide +kernel
theorem dX7_run_31 : decode cX7_run 31 = .ok (.invokevirtual 172, 3) := by decide +kernel
theorem dX7_run_34 : decode cX7_run 34 = .ok (.ireturn, 1) := by decide +kernel
theorem dX7_isSetting_0 : decode cX7_isSetting 0 = .ok (.iload_n 0, 1) := by decide +kernel
theorem dX7_isSetting_1 : decode cX7_isSetting 1 = .ok (.i2l, 1) := by decide +kernel
theorem dX7_isSetting_2 : decode cX7_isSetting 2 = .ok (.lconst 0, 1) := by decide +kernel
theorem dX7_isSetting_3 : decode cX7_isSetting 3 = .ok (.ldc2_w 247, 3) := by decide +kernel
theorem dX7_isSetting_6 : decode cX7_isSetting 6 = .ok (.invokestatic 116, 3) := by decide +kernel
theorem dX7_isSetting_9 : decode cX7_isSetting 9 = .ok (.ifCond .eq 43, 3) := by decide +kernel
theorem dX7_isSetting_12 : decode cX7_isSetting 12 = .ok (.iload_n 1, 1) := by decide +kernel
theorem dX7_isSetting_13 : decode cX7_isSetting 13 = .ok (.i2l, 1) := by decide +kernel
theorem dX7_isSetting_14 : decode cX7_isSetting 14 = .ok (.iload_n 0, 1) := by decide +kernel
theorem dX7_isSetting_15 : decode cX7_isSetting 15 = .ok (.ifCond .eq 8, 3) := by decide +kernel
theorem dX7_isSetting_18 : decode cX7_isSetting 18 = .ok (.iload_n 0, 1) := by decide +kernel
theorem dX7_isSetting_19 : decode cX7_isSetting 19 = .ok (.iconst 1, 1) := by decide +kernel
theorem dX7_isSetting_20 : decode cX7_isSetting 20 = .ok (.if_icmp .ne 7, 3) := by decide +kernel
theorem dX7_isSetting_23 : decode cX7_isSetting 23 = .ok (.lconst 1, 1) := by decide +kernel
theorem dX7_isSetting_24 : decode cX7_isSetting 24 = .ok (.goto 4, 3) := by decide +kernel
theorem dX7_isSetting_27 : decode cX7_isSetting 27 = .ok (.lconst 0, 1) := by decide +kernel
theorem dX7_isSetting_28 : decode cX7_isSetting 28 = .ok (.iload_n 0, 1) := by decide +kernel
theorem dX7_isSetting_29 : decode cX7_isSetting 29 = .ok (.iconst 1, 1) := by decide +kernel
theorem dX7_isSetting_30 : decode cX7_isSetting 30 = .ok (.if_icmp .ne 9, 3) := by decide +kernel
theorem dX7_isSetting_33 : decode cX7_isSetting 33 = .ok (.ldc2_w 271, 3) := by decide +kernel
theorem dX7_isSetting_36 : decode cX7_isSetting 36 = .ok (.goto 6, 3) := by decide +kernel
theorem dX7_isSetting_39 : decode cX7_isSetting 39 = .ok (.ldc2_w 252, 3) := by decide +kernel
theorem dX7_isSetting_42 : decode cX7_isSetting 42 = .ok (.invokestatic 116, 3) := by decide +kernel
theorem dX7_isSetting_45 : decode cX7_isSetting 45 = .ok (.ifCond .eq 7, 3) := by decide +kernel
theorem dX7_isSetting_48 : decode cX7_isSetting 48 = .ok (.iconst 1, 1) := by decide +kernel
theorem dX7_isSetting_49 : decode cX7_isSetting 49 = .ok (.goto 4, 3) := by decide +kernel
theorem dX7_isSetting_52 : decode cX7_isSetting 52 = .ok (.iconst 0, 1) := by decide +kernel
theorem dX7_isSetting_53 : decode cX7_isSetting 53 = .ok (.ireturn, 1) := by decide +kernel
theorem dX7_set_0 : decode cX7_set 0 = .ok (.aload_n 0, 1) := by decide +kernel
theorem dX7_set_1 : decode cX7_set 1 = .ok (.iload_n 1, 1) := by decide +kernel
theorem dX7_set_2 : decode cX7_set 2 = .ok (.iload_n 2, 1) := by decide +kernel
theorem dX7_set_3 : decode cX7_set 3 = .ok (.invokestatic 273, 3) := by decide +kernel
theorem dX7_set_6 : decode cX7_set 6 = .ok (.ifCond .eq 7, 3) := by decide +kernel
theorem dX7_set_9 : decode cX7_set 9 = .ok (.iconst 0, 1) := by decide +kernel
theorem dX7_set_10 : decode cX7_set 10 = .ok (.goto 4, 3) := by decide +kernel
theorem dX7_set_13 : decode cX7_set 13 = .ok (.iconst 1, 1) := by decide +kernel
theorem dX7_set_14 : decode cX7_set 14 = .ok (.invokevirtual 123, 3) := by decide +kernel
theorem dX7_set_17 : decode cX7_set 17 = .ok (.ifCond .eq 5, 3) := by decide +kernel
theorem dX7_set_20 : decode cX7_set 20 = .ok (.iconst 0, 1) := by decide +kernel
theorem dX7_set_21 : decode cX7_set 21 = .ok (.ireturn, 1) := by decide +kernel
theorem dX7_set_22 : decode cX7_set 22 = .ok (.aload_n 0, 1) := by decide +kernel
theorem dX7_set_23 : decode cX7_set 23 = .ok (.invokevirtual 249, 3) := by decide +kernel
theorem dX7_set_26 : decode cX7_set 26 = .ok (.aload_n 0, 1) := by decide +kernel
theorem dX7_set_27 : decode cX7_set 27 = .ok (.getfield 16, 3) := by decide +kernel
theorem dX7_set_30 : decode cX7_set 30 = .ok (.iconst 5, 1) := by decide +kernel
theorem dX7_set_31 : decode cX7_set 31 = .ok (.iload_n 1, 1) := by decide +kernel
theorem dX7_set_32 : decode cX7_set 32 = .ok (.iadd, 1) := by decide +kernel
theorem dX7_set_33 : decode cX7_set 33 = .ok (.iaload, 1) := by decide +kernel
theorem dX7_set_34 : decode cX7_set 34 = .ok (.istore_n 3, 1) := by decide +kernel
theorem dX7_set_35 : decode cX7_set 35 = .ok (.aload_n 0, 1) := by decide +kernel
theorem dX7_set_36 : decode cX7_set 36 = .ok (.getfield 16, 3) := by decide +kernel
theorem dX7_set_39 : decode cX7_set 39 = .ok (.iconst 5, 1) := by decide +kernel
theorem dX7_set_40 : decode cX7_set 40 = .ok (.iload_n 1, 1) := by decide +kernel
theorem dX7_set_41 : decode cX7_set 41 = .ok (.iadd, 1) := by decide +kernel
theorem dX7_set_42 : decode cX7_set 42 = .ok (.iload_n 2, 1) := by decide +kernel
theorem dX7_set_43 : decode cX7_set 43 = .ok (.iastore, 1) := by decide +kernel
theorem dX7_set_44 : decode cX7_set 44 = .ok (.iload_n 3, 1) := by decide +kernel
theorem dX7_set_45 : decode cX7_set 45 = .ok (.ireturn, 1) := by decide +kernel
theorem dX7_undo_0 : decode cX7_undo 0 = .ok (.aload_n 0, 1) := by decide +kernel
theorem dX7_undo_1 : decode cX7_undo 1 = .ok (.aload_n 0, 1) := by decide +kernel
theorem dX7_undo_2 : decode cX7_undo 2 = .ok (.getfield 49, 3) := by decide +kernel
theorem dX7_undo_5 : decode cX7_undo 5 = .ok (.ifCond .ne 7, 3) := by decide +kernel
theorem dX7_undo_8 : decode cX7_undo 8 = .ok (.iconst 1, 1) := by decide +kernel
theorem dX7_undo_9 : decode cX7_undo 9 = .ok (.goto 4, 3) := by decide +kernel
theorem dX7_undo_12 : decode cX7_undo 12 = .ok (.iconst 0, 1) := by decide +kernel
theorem dX7_undo_13 : decode cX7_undo 13 = .ok (.invokevirtual 123, 3) := by decide +kernel
theorem dX7_undo_16 : decode cX7_undo 16 = .ok (.ifCond .eq 5, 3) := by decide +kernel
theorem dX7_undo_19 : decode cX7_undo 19 = .ok (.iconst 0, 1) := by decide +kernel
theorem dX7_undo_20 : decode cX7_undo 20 = .ok (.ireturn, 1) := by decide +kernel
theorem dX7_undo_21 : decode cX7_undo 21 = .ok (.aload_n 0, 1) := by decide +kernel
theorem dX7_undo_22 : decode cX7_undo 22 = .ok (.dup, 1) := by decide +kernel
theorem dX7_undo_23 : decode cX7_undo 23 = .ok (.getfield 49, 3) := by decide +kernel
theorem dX7_undo_26 : decode cX7_undo 26 = .ok (.iconst 1, 1) := by decide +kernel
theorem dX7_undo_27 : decode cX7_undo 27 = .ok (.isub, 1) := by decide +kernel
theorem dX7_undo_28 : decode cX7_undo 28 = .ok (.putfield 49, 3) := by decide +kernel
theorem dX7_undo_31 : decode cX7_undo 31 = .ok (.aload_n 0, 1) := by decide +kernel
theorem dX7_undo_32 : decode cX7_undo 32 = .ok (.getfield 22, 3) := by decide +kernel
theorem dX7_undo_35 : decode cX7_undo 35 = .ok (.sipush 205, 3) := by decide +kernel
theorem dX7_undo_38 : decode cX7_undo 38 = .ok (.aload_n 0, 1) := by decide +kernel
theorem dX7_undo_39 : decode cX7_undo 39 = .ok (.getfield 49, 3) := by decide +kernel
theorem dX7_undo_42 : decode cX7_undo 42 = .ok (.imul, 1) := by decide +kernel
theorem dX7_undo_43 : decode cX7_undo 43 = .ok (.aload_n 0, 1) := by decide +kernel
theorem dX7_undo_44 : decode cX7_undo 44 = .ok (.getfield 16, 3) := by decide +kernel
theorem dX7_undo_47 : decode cX7_undo 47 = .ok (.iconst 0, 1) := by decide +kernel
theorem dX7_undo_48 : decode cX7_undo 48 = .ok (.sipush 205, 3) := by decide +kernel
theorem dX7_undo_51 : decode cX7_undo 51 = .ok (.invokestatic 52, 3) := by decide +kernel
theorem dX7_undo_54 : decode cX7_undo 54 = .ok (.aload_n 0, 1) := by decide +kernel
theorem dX7_undo_55 : decode cX7_undo 55 = .ok (.getfield 49, 3) := by decide +kernel
theorem dX7_undo_58 : decode cX7_undo 58 = .ok (.ireturn, 1) := by decide +kernel
theorem dX7_plotFor_0 : decode cX7_plotFor 0 = .ok (.aload_n 0, 1) := by decide +kernel
theorem dX7_plotFor_1 : decode cX7_plotFor 1 = .ok (.iload_n 1, 1) := by decide +kernel
theorem dX7_plotFor_2 : decode cX7_plotFor 2 = .ok (.invokestatic 212, 3) := by decide +kernel
theorem dX7_plotFor_5 : decode cX7_plotFor 5 = .ok (.ifCond .eq 7, 3) := by decide +kernel
theorem dX7_plotFor_8 : decode cX7_plotFor 8 = .ok (.iconst 0, 1) := by decide +kernel
theorem dX7_plotFor_9 : decode cX7_plotFor 9 = .ok (.goto 4, 3) := by decide +kernel
theorem dX7_plotFor_12 : decode cX7_plotFor 12 = .ok (.iconst 1, 1) := by decide +kernel
theorem dX7_plotFor_13 : decode cX7_plotFor 13 = .ok (.invokevirtual 123, 3) := by decide +kernel
theorem dX7_plotFor_16 : decode cX7_plotFor 16 = .ok (.ifCond .eq 5, 3) := by decide +kernel
theorem dX7_plotFor_19 : decode cX7_plotFor 19 = .ok (.iconst 0, 1) := by decide +kernel
theorem dX7_plotFor_20 : decode cX7_plotFor 20 = .ok (.ireturn, 1) := by decide +kernel
theorem dX7_plotFor_21 : decode cX7_plotFor 21 = .ok (.aload_n 0, 1) := by decide +kernel
theorem dX7_plotFor_22 : decode cX7_plotFor 22 = .ok (.getfield 16, 3) := by decide +kernel
theorem dX7_plotFor_25 : decode cX7_plotFor 25 = .ok (.iload_n 1, 1) := by decide +kernel
theorem dX7_plotFor_26 : decode cX7_plotFor 26 = .ok (.invokestatic 95, 3) := by decide +kernel
theorem dX7_plotFor_29 : decode cX7_plotFor 29 = .ok (.ireturn, 1) := by decide +kernel
theorem dX7_clearFrom_0 : decode cX7_clearFrom 0 = .ok (.aload_n 0, 1) := by decide +kernel
theorem dX7_clearFrom_1 : decode cX7_clearFrom 1 = .ok (.iload_n 1, 1) := by decide +kernel
theorem dX7_clearFrom_2 : decode cX7_clearFrom 2 = .ok (.invokestatic 207, 3) := by decide +kernel
theorem dX7_clearFrom_5 : decode cX7_clearFrom 5 = .ok (.ifCond .eq 7, 3) := by decide +kernel
theorem dX7_clearFrom_8 : decode cX7_clearFrom 8 = .ok (.iconst 0, 1) := by decide +kernel
theorem dX7_clearFrom_9 : decode cX7_clearFrom 9 = .ok (.goto 4, 3) := by decide +kernel
theorem dX7_clearFrom_12 : decode cX7_clearFrom 12 = .ok (.iconst 1, 1) := by decide +kernel
theorem dX7_clearFrom_13 : decode cX7_clearFrom 13 = .ok (.invokevirtual 123, 3) := by decide +kernel
theorem dX7_clearFrom_16 : decode cX7_clearFrom 16 = .ok (.ifCond .eq 5, 3) := by decide +kernel
theorem dX7_clearFrom_19 : decode cX7_clearFrom 19 = .ok (.iconst 0, 1) := by decide +kernel
theorem dX7_clearFrom_20 : decode cX7_clearFrom 20 = .ok (.ireturn, 1) := by decide +kernel
theorem dX7_clearFrom_21 : decode cX7_clearFrom 21 = .ok (.aload_n 0, 1) := by decide +kernel
theorem dX7_clearFrom_22 : decode cX7_clearFrom 22 = .ok (.getfield 16, 3) := by decide +kernel
theorem dX7_clearFrom_25 : decode cX7_clearFrom 25 = .ok (.iload_n 1, 1) := by decide +kernel
theorem dX7_clearFrom_26 : decode cX7_clearFrom 26 = .ok (.invokestatic 64, 3) := by decide +kernel
theorem dX7_clearFrom_29 : decode cX7_clearFrom 29 = .ok (.ifCond .eq 5, 3) := by decide +kernel
theorem dX7_clearFrom_32 : decode cX7_clearFrom 32 = .ok (.iconst (-1), 1) := by decide +kernel
theorem dX7_clearFrom_33 : decode cX7_clearFrom 33 = .ok (.ireturn, 1) := by decide +kernel
theorem dX7_clearFrom_34 : decode cX7_clearFrom 34 = .ok (.aload_n 0, 1) := by decide +kernel
theorem dX7_clearFrom_35 : decode cX7_clearFrom 35 = .ok (.getfield 16, 3) := by decide +kernel
theorem dX7_clearFrom_38 : decode cX7_clearFrom 38 = .ok (.iload_n 1, 1) := by decide +kernel
theorem dX7_clearFrom_39 : decode cX7_clearFrom 39 = .ok (.iconst 1, 1) := by decide +kernel
theorem dX7_clearFrom_40 : decode cX7_clearFrom 40 = .ok (.invokestatic 60, 3) := by decide +kernel
theorem dX7_clearFrom_43 : decode cX7_clearFrom 43 = .ok (.iaload, 1) := by decide +kernel
theorem dX7_clearFrom_44 : decode cX7_clearFrom 44 = .ok (.iconst 1, 1) := by decide +kernel
theorem dX7_clearFrom_45 : decode cX7_clearFrom 45 = .ok (.iadd, 1) := by decide +kernel
theorem dX7_clearFrom_46 : decode cX7_clearFrom 46 = .ok (.istore_n 2, 1) := by decide +kernel
theorem dX7_clearFrom_47 : decode cX7_clearFrom 47 = .ok (.aload_n 0, 1) := by decide +kernel
theorem dX7_clearFrom_48 : decode cX7_clearFrom 48 = .ok (.getfield 16, 3) := by decide +kernel
theorem dX7_clearFrom_51 : decode cX7_clearFrom 51 = .ok (.iload_n 1, 1) := by decide +kernel
theorem dX7_clearFrom_52 : decode cX7_clearFrom 52 = .ok (.iconst 2, 1) := by decide +kernel
theorem dX7_clearFrom_53 : decode cX7_clearFrom 53 = .ok (.invokestatic 60, 3) := by decide +kernel
theorem dX7_clearFrom_56 : decode cX7_clearFrom 56 = .ok (.iaload, 1) := by decide +kernel
theorem dX7_clearFrom_57 : decode cX7_clearFrom 57 = .ok (.ifCond .ne 7, 3) := by decide +kernel
theorem dX7_clearFrom_60 : decode cX7_clearFrom 60 = .ok (.iconst 0, 1) := by decide +kernel
theorem dX7_clearFrom_61 : decode cX7_clearFrom 61 = .ok (.goto 19, 3) := by decide +kernel
theorem dX7_clearFrom_64 : decode cX7_clearFrom 64 = .ok (.aload_n 0, 1) := by decide +kernel
theorem dX7_clearFrom_65 : decode cX7_clearFrom 65 = .ok (.getfield 16, 3) := by decide +kernel
theorem dX7_clearFrom_68 : decode cX7_clearFrom 68 = .ok (.iload_n 1, 1) := by decide +kernel
theorem dX7_clearFrom_69 : decode cX7_clearFrom 69 = .ok (.invokestatic 68, 3) := by decide +kernel
theorem dX7_clearFrom_72 : decode cX7_clearFrom 72 = .ok (.aload_n 0, 1) := by decide +kernel
theorem dX7_clearFrom_73 : decode cX7_clearFrom 73 = .ok (.getfield 16, 3) := by decide +kernel
theorem dX7_clearFrom_76 : decode cX7_clearFrom 76 = .ok (.bipush 6, 2) := by decide +kernel
theorem dX7_clearFrom_78 : decode cX7_clearFrom 78 = .ok (.iaload, 1) := by decide +kernel
theorem dX7_clearFrom_79 : decode cX7_clearFrom 79 = .ok (.iadd, 1) := by decide +kernel
theorem dX7_clearFrom_80 : decode cX7_clearFrom 80 = .ok (.istore_n 3, 1) := by decide +kernel
theorem dX7_clearFrom_81 : decode cX7_clearFrom 81 = .ok (.iload_n 3, 1) := by decide +kernel
theorem dX7_clearFrom_82 : decode cX7_clearFrom 82 = .ok (.iload_n 2, 1) := by decide +kernel
theorem dX7_clearFrom_83 : decode cX7_clearFrom 83 = .ok (.if_icmp .le 7, 3) := by decide +kernel
theorem dX7_clearFrom_86 : decode cX7_clearFrom 86 = .ok (.iload_n 3, 1) := by decide +kernel
theorem dX7_clearFrom_87 : decode cX7_clearFrom 87 = .ok (.goto 4, 3) := by decide +kernel
theorem dX7_clearFrom_90 : decode cX7_clearFrom 90 = .ok (.iload_n 2, 1) := by decide +kernel
theorem dX7_clearFrom_91 : decode cX7_clearFrom 91 = .ok (.istore_n 2, 1) := by decide +kernel
theorem dX7_clearFrom_92 : decode cX7_clearFrom 92 = .ok (.iload_n 2, 1) := by decide +kernel
theorem dX7_clearFrom_93 : decode cX7_clearFrom 93 = .ok (.aload_n 0, 1) := by decide +kernel
theorem dX7_clearFrom_94 : decode cX7_clearFrom 94 = .ok (.getfield 16, 3) := by decide +kernel
theorem dX7_clearFrom_97 : decode cX7_clearFrom 97 = .ok (.iconst 0, 1) := by decide +kernel
theorem dX7_clearFrom_98 : decode cX7_clearFrom 98 = .ok (.iaload, 1) := by decide +kernel
theorem dX7_clearFrom_99 : decode cX7_clearFrom 99 = .ok (.if_icmp .le 7, 3) := by decide +kernel
theorem dX7_clearFrom_102 : decode cX7_clearFrom 102 = .ok (.iload_n 2, 1) := by decide +kernel
theorem dX7_clearFrom_103 : decode cX7_clearFrom 103 = .ok (.goto 9, 3) := by decide +kernel
theorem dX7_clearFrom_106 : decode cX7_clearFrom 106 = .ok (.aload_n 0, 1) := by decide +kernel
theorem dX7_clearFrom_107 : decode cX7_clearFrom 107 = .ok (.getfield 16, 3) := by decide +kernel
theorem dX7_clearFrom_110 : decode cX7_clearFrom 110 = .ok (.iconst 0, 1) := by decide +kernel
theorem dX7_clearFrom_111 : decode cX7_clearFrom 111 = .ok (.iaload, 1) := by decide +kernel
theorem dX7_clearFrom_112 : decode cX7_clearFrom 112 = .ok (.ireturn, 1) := by decide +kernel
theorem dX7_coming_0 : decode cX7_coming 0 = .ok (.aload_n 0, 1) := by decide +kernel
theorem dX7_coming_1 : decode cX7_coming 1 = .ok (.iload_n 1, 1) := by decide +kernel
theorem dX7_coming_2 : decode cX7_coming 2 = .ok (.i2l, 1) := by decide +kernel
theorem dX7_coming_3 : decode cX7_coming 3 = .ok (.lconst 1, 1) := by decide +kernel
theorem dX7_coming_4 : decode cX7_coming 4 = .ok (.ldc2_w 277, 3) := by decide +kernel
theorem dX7_coming_7 : decode cX7_coming 7 = .ok (.invokestatic 116, 3) := by decide +kernel
theorem dX7_coming_10 : decode cX7_coming 10 = .ok (.ifCond .eq 19, 3) := by decide +kernel
theorem dX7_coming_13 : decode cX7_coming 13 = .ok (.iload_n 2, 1) := by decide +kernel
theorem dX7_coming_14 : decode cX7_coming 14 = .ok (.i2l, 1) := by decide +kernel
theorem dX7_coming_15 : decode cX7_coming 15 = .ok (.lconst 0, 1) := by decide +kernel
theorem dX7_coming_16 : decode cX7_coming 16 = .ok (.ldc2_w 242, 3) := by decide +kernel
theorem dX7_coming_19 : decode cX7_coming 19 = .ok (.invokestatic 116, 3) := by decide +kernel
theorem dX7_coming_22 : decode cX7_coming 22 = .ok (.ifCond .eq 7, 3) := by decide +kernel
theorem dX7_coming_25 : decode cX7_coming 25 = .ok (.iconst 0, 1) := by decide +kernel
theorem dX7_coming_26 : decode cX7_coming 26 = .ok (.goto 4, 3) := by decide +kernel
theorem dX7_coming_29 : decode cX7_coming 29 = .ok (.iconst 1, 1) := by decide +kernel
theorem dX7_coming_30 : decode cX7_coming 30 = .ok (.invokevirtual 123, 3) := by decide +kernel
theorem dX7_coming_33 : decode cX7_coming 33 = .ok (.ifCond .eq 5, 3) := by decide +kernel
theorem dX7_coming_36 : decode cX7_coming 36 = .ok (.iconst 0, 1) := by decide +kernel
theorem dX7_coming_37 : decode cX7_coming 37 = .ok (.ireturn, 1) := by decide +kernel
theorem dX7_coming_38 : decode cX7_coming 38 = .ok (.aload_n 0, 1) := by decide +kernel
theorem dX7_coming_39 : decode cX7_coming 39 = .ok (.invokevirtual 279, 3) := by decide +kernel
theorem dX7_coming_42 : decode cX7_coming 42 = .ok (.aload_n 0, 1) := by decide +kernel
theorem dX7_coming_43 : decode cX7_coming 43 = .ok (.aload_n 0, 1) := by decide +kernel
theorem dX7_coming_44 : decode cX7_coming 44 = .ok (.getfield 19, 3) := by decide +kernel
theorem dX7_coming_47 : decode cX7_coming 47 = .ok (.iload_n 1, 1) := by decide +kernel
theorem dX7_coming_48 : decode cX7_coming 48 = .ok (.invokevirtual 172, 3) := by decide +kernel
theorem dX7_coming_51 : decode cX7_coming 51 = .ok (.pop, 1) := by decide +kernel
theorem dX7_coming_52 : decode cX7_coming 52 = .ok (.iload_n 2, 1) := by decide +kernel
theorem dX7_coming_53 : decode cX7_coming 53 = .ok (.ifCond .ne 14, 3) := by decide +kernel
theorem dX7_coming_56 : decode cX7_coming 56 = .ok (.aload_n 0, 1) := by decide +kernel
theorem dX7_coming_57 : decode cX7_coming 57 = .ok (.getfield 19, 3) := by decide +kernel
theorem dX7_coming_60 : decode cX7_coming 60 = .ok (.iconst 0, 1) := by decide +kernel
theorem dX7_coming_61 : decode cX7_coming 61 = .ok (.invokestatic 111, 3) := by decide +kernel
theorem dX7_coming_64 : decode cX7_coming 64 = .ok (.goto 40, 3) := by decide +kernel
theorem dX7_coming_67 : decode cX7_coming 67 = .ok (.iload_n 2, 1) := by decide +kernel
theorem dX7_coming_68 : decode cX7_coming 68 = .ok (.iconst 1, 1) := by decide +kernel
theorem dX7_coming_69 : decode cX7_coming 69 = .ok (.if_icmp .ne 13, 3) := by decide +kernel
theorem dX7_coming_72 : decode cX7_coming 72 = .ok (.aload_n 0, 1) := by decide +kernel
theorem dX7_coming_73 : decode cX7_coming 73 = .ok (.getfield 19, 3) := by decide +kernel
theorem dX7_coming_76 : decode cX7_coming 76 = .ok (.invokestatic 196, 3) := by decide +kernel
theorem dX7_coming_79 : decode cX7_coming 79 = .ok (.goto 25, 3) := by decide +kernel
theorem dX7_coming_82 : decode cX7_coming 82 = .ok (.iload_n 2, 1) := by decide +kernel
theorem dX7_coming_83 : decode cX7_coming 83 = .ok (.iconst 2, 1) := by decide +kernel
theorem dX7_coming_84 : decode cX7_coming 84 = .ok (.if_icmp .ne 14, 3) := by decide +kernel
theorem dX7_coming_87 : decode cX7_coming 87 = .ok (.aload_n 0, 1) := by decide +kernel
theorem dX7_coming_88 : decode cX7_coming 88 = .ok (.getfield 19, 3) := by decide +kernel
theorem dX7_coming_91 : decode cX7_coming 91 = .ok (.iconst 4, 1) := by decide +kernel
theorem dX7_coming_92 : decode cX7_coming 92 = .ok (.invokestatic 111, 3) := by decide +kernel
theorem dX7_coming_95 : decode cX7_coming 95 = .ok (.goto 9, 3) := by decide +kernel
theorem dX7_coming_98 : decode cX7_coming 98 = .ok (.aload_n 0, 1) := by decide +kernel
theorem dX7_coming_99 : decode cX7_coming 99 = .ok (.getfield 19, 3) := by decide +kernel
theorem dX7_coming_102 : decode cX7_coming 102 = .ok (.iconst 1, 1) := by decide +kernel
theorem dX7_coming_103 : decode cX7_coming 103 = .ok (.iaload, 1) := by decide +kernel
theorem dX7_coming_104 : decode cX7_coming 104 = .ok (.ireturn, 1) := by decide +kernel
theorem dX7_clearAll_0 : decode cX7_clearAll 0 = .ok (.iconst 0, 1) := by decide +kernel
theorem dX7_clearAll_1 : decode cX7_clearAll 1 = .ok (.istore_n 1, 1) := by decide +kernel
theorem dX7_clearAll_2 : decode cX7_clearAll 2 = .ok (.iload_n 1, 1) := by decide +kernel
theorem dX7_clearAll_3 : decode cX7_clearAll 3 = .ok (.bipush 24, 2) := by decide +kernel
theorem dX7_clearAll_5 : decode cX7_clearAll 5 = .ok (.if_icmp .ge 30, 3) := by decide +kernel
theorem dX7_clearAll_8 : decode cX7_clearAll 8 = .ok (.aload_n 0, 1) := by decide +kernel
theorem dX7_clearAll_9 : decode cX7_clearAll 9 = .ok (.getfield 19, 3) := by decide +kernel
theorem dX7_clearAll_12 : decode cX7_clearAll 12 = .ok (.iload_n 1, 1) := by decide +kernel
theorem dX7_clearAll_13 : decode cX7_clearAll 13 = .ok (.invokestatic 108, 3) := by decide +kernel
theorem dX7_clearAll_16 : decode cX7_clearAll 16 = .ok (.iconst 4, 1) := by decide +kernel
theorem dX7_clearAll_17 : decode cX7_clearAll 17 = .ok (.if_icmp .ne 12, 3) := by decide +kernel
theorem dX7_clearAll_20 : decode cX7_clearAll 20 = .ok (.aload_n 0, 1) := by decide +kernel
theorem dX7_clearAll_21 : decode cX7_clearAll 21 = .ok (.getfield 19, 3) := by decide +kernel
theorem dX7_clearAll_24 : decode cX7_clearAll 24 = .ok (.iload_n 1, 1) := by decide +kernel
theorem dX7_clearAll_25 : decode cX7_clearAll 25 = .ok (.invokestatic 265, 3) := by decide +kernel
theorem dX7_clearAll_28 : decode cX7_clearAll 28 = .ok (.pop, 1) := by decide +kernel
theorem dX7_clearAll_29 : decode cX7_clearAll 29 = .ok (.iinc 1 1, 3) := by decide +kernel
theorem dX7_clearAll_32 : decode cX7_clearAll 32 = .ok (.goto (-30), 3) := by decide +kernel
theorem dX7_clearAll_35 : decode cX7_clearAll 35 = .ok (.aload_n 0, 1) := by decide +kernel
theorem dX7_clearAll_36 : decode cX7_clearAll 36 = .ok (.aload_n 0, 1) := by decide +kernel
theorem dX7_clearAll_37 : decode cX7_clearAll 37 = .ok (.getfield 19, 3) := by decide +kernel
theorem dX7_clearAll_40 : decode cX7_clearAll 40 = .ok (.invokevirtual 101, 3) := by decide +kernel
theorem dX7_clearAll_43 : decode cX7_clearAll 43 = .ok (.pop, 1) := by decide +kernel
theorem dX7_clearAll_44 : decode cX7_clearAll 44 = .ok (.return_, 1) := by decide +kernel
theorem dX7_whenFor_0 : decode cX7_whenFor 0 = .ok (.aload_n 0, 1) := by decide +kernel
theorem dX7_whenFor_1 : decode cX7_whenFor 1 = .ok (.iload_n 1, 1) := by decide +kernel
theorem dX7_whenFor_2 : decode cX7_whenFor 2 = .ok (.invokestatic 212, 3) := by decide +kernel
theorem dX7_whenFor_5 : decode cX7_whenFor 5 = .ok (.ifCond .eq 7, 3) := by decide +kernel
theorem dX7_whenFor_8 : decode cX7_whenFor 8 = .ok (.iconst 0, 1) := by decide +kernel
theorem dX7_whenFor_9 : decode cX7_whenFor 9 = .ok (.goto 4, 3) := by decide +kernel
theorem dX7_whenFor_12 : decode cX7_whenFor 12 = .ok (.iconst 1, 1) := by decide +kernel
theorem dX7_whenFor_13 : decode cX7_whenFor 13 = .ok (.invokevirtual 123, 3) := by decide +kernel
theorem dX7_whenFor_16 : decode cX7_whenFor 16 = .ok (.ifCond .eq 5, 3) := by decide +kernel
theorem dX7_whenFor_19 : decode cX7_whenFor 19 = .ok (.iconst 0, 1) := by decide +kernel
theorem dX7_whenFor_20 : decode cX7_whenFor 20 = .ok (.ireturn, 1) := by decide +kernel
theorem dX7_whenFor_21 : decode cX7_whenFor 21 = .ok (.aload_n 0, 1) := by decide +kernel
theorem dX7_whenFor_22 : decode cX7_whenFor 22 = .ok (.invokevirtual 279, 3) := by decide +kernel
theorem dX7_whenFor_25 : decode cX7_whenFor 25 = .ok (.aload_n 0, 1) := by decide +kernel
theorem dX7_whenFor_26 : decode cX7_whenFor 26 = .ok (.iload_n 1, 1) := by decide +kernel
theorem dX7_whenFor_27 : decode cX7_whenFor 27 = .ok (.putfield 32, 3) := by decide +kernel
theorem dX7_whenFor_30 : decode cX7_whenFor 30 = .ok (.aload_n 0, 1) := by decide +kernel
theorem dX7_whenFor_31 : decode cX7_whenFor 31 = .ok (.aload_n 0, 1) := by decide +kernel
theorem dX7_whenFor_32 : decode cX7_whenFor 32 = .ok (.getfield 19, 3) := by decide +kernel
theorem dX7_whenFor_35 : decode cX7_whenFor 35 = .ok (.iload_n 1, 1) := by decide +kernel
theorem dX7_whenFor_36 : decode cX7_whenFor 36 = .ok (.invokevirtual 163, 3) := by decide +kernel
theorem dX7_whenFor_39 : decode cX7_whenFor 39 = .ok (.pop, 1) := by decide +kernel
theorem dX7_whenFor_40 : decode cX7_whenFor 40 = .ok (.iconst 0, 1) := by decide +kernel
theorem dX7_whenFor_41 : decode cX7_whenFor 41 = .ok (.istore_n 2, 1) := by decide +kernel
theorem dX7_whenFor_42 : decode cX7_whenFor 42 = .ok (.iload_n 2, 1) := by decide +kernel
theorem dX7_whenFor_43 : decode cX7_whenFor 43 = .ok (.sipush 200, 3) := by decide +kernel
theorem dX7_whenFor_46 : decode cX7_whenFor 46 = .ok (.if_icmp .gt 45, 3) := by decide +kernel
theorem dX7_whenFor_49 : decode cX7_whenFor 49 = .ok (.iload_n 2, 1) := by decide +kernel
theorem dX7_whenFor_50 : decode cX7_whenFor 50 = .ok (.ifCond .le 12, 3) := by decide +kernel
theorem dX7_whenFor_53 : decode cX7_whenFor 53 = .ok (.aload_n 0, 1) := by decide +kernel
theorem dX7_whenFor_54 : decode cX7_whenFor 54 = .ok (.aload_n 0, 1) := by decide +kernel
theorem dX7_whenFor_55 : decode cX7_whenFor 55 = .ok (.getfield 19, 3) := by decide +kernel
theorem dX7_whenFor_58 : decode cX7_whenFor 58 = .ok (.invokevirtual 105, 3) := by decide +kernel
theorem dX7_whenFor_61 : decode cX7_whenFor 61 = .ok (.pop, 1) := by decide +kernel
theorem dX7_whenFor_62 : decode cX7_whenFor 62 = .ok (.aload_n 0, 1) := by decide +kernel
theorem dX7_whenFor_63 : decode cX7_whenFor 63 = .ok (.invokevirtual 282, 3) := by decide +kernel
theorem dX7_whenFor_66 : decode cX7_whenFor 66 = .ok (.aload_n 0, 1) := by decide +kernel
theorem dX7_whenFor_67 : decode cX7_whenFor 67 = .ok (.getfield 56, 3) := by decide +kernel
theorem dX7_whenFor_70 : decode cX7_whenFor 70 = .ok (.ifCond .eq 15, 3) := by decide +kernel
theorem dX7_whenFor_73 : decode cX7_whenFor 73 = .ok (.aload_n 0, 1) := by decide +kernel
theorem dX7_whenFor_74 : decode cX7_whenFor 74 = .ok (.iconst (-1), 1) := by decide +kernel
theorem dX7_whenFor_75 : decode cX7_whenFor 75 = .ok (.putfield 32, 3) := by decide +kernel
theorem dX7_whenFor_78 : decode cX7_whenFor 78 = .ok (.aload_n 0, 1) := by decide +kernel
theorem dX7_whenFor_79 : decode cX7_whenFor 79 = .ok (.getfield 19, 3) := by decide +kernel
theorem dX7_whenFor_82 : decode cX7_whenFor 82 = .ok (.iconst 0, 1) := by decide +kernel
theorem dX7_whenFor_83 : decode cX7_whenFor 83 = .ok (.iaload, 1) := by decide +kernel
theorem dX7_whenFor_84 : decode cX7_whenFor 84 = .ok (.ireturn, 1) := by decide +kernel
theorem dX7_whenFor_85 : decode cX7_whenFor 85 = .ok (.iinc 2 1, 3) := by decide +kernel
theorem dX7_whenFor_88 : decode cX7_whenFor 88 = .ok (.goto (-46), 3) := by decide +kernel
theorem dX7_whenFor_91 : decode cX7_whenFor 91 = .ok (.aload_n 0, 1) := by decide +kernel
theorem dX7_whenFor_92 : decode cX7_whenFor 92 = .ok (.iconst (-1), 1) := by decide +kernel
theorem dX7_whenFor_93 : decode cX7_whenFor 93 = .ok (.putfield 32, 3) := by decide +kernel
theorem dX7_whenFor_96 : decode cX7_whenFor 96 = .ok (.iconst (-1), 1) := by decide +kernel
theorem dX7_whenFor_97 : decode cX7_whenFor 97 = .ok (.ireturn, 1) := by decide +kernel
theorem dX7_asks_0 : decode cX7_asks 0 = .ok (.iload_n 1, 1) := by decide +kernel
theorem dX7_asks_1 : decode cX7_asks 1 = .ok (.invokestatic 212, 3) := by decide +kernel
theorem dX7_asks_4 : decode cX7_asks 4 = .ok (.ifCond .eq 18, 3) := by decide +kernel
theorem dX7_asks_7 : decode cX7_asks 7 = .ok (.aload_n 0, 1) := by decide +kernel
theorem dX7_asks_8 : decode cX7_asks 8 = .ok (.getfield 19, 3) := by decide +kernel
theorem dX7_asks_11 : decode cX7_asks 11 = .ok (.iload_n 1, 1) := by decide +kernel
theorem dX7_asks_12 : decode cX7_asks 12 = .ok (.invokestatic 156, 3) := by decide +kernel
theorem dX7_asks_15 : decode cX7_asks 15 = .ok (.ifCond .eq 7, 3) := by decide +kernel
theorem dX7_asks_18 : decode cX7_asks 18 = .ok (.iconst 1, 1) := by decide +kernel
theorem dX7_asks_19 : decode cX7_asks 19 = .ok (.goto 4, 3) := by decide +kernel
theorem dX7_asks_22 : decode cX7_asks 22 = .ok (.iconst 0, 1) := by decide +kernel
theorem dX7_asks_23 : decode cX7_asks 23 = .ok (.istore_n 2, 1) := by decide +kernel
theorem dX7_asks_24 : decode cX7_asks 24 = .ok (.iload_n 2, 1) := by decide +kernel
theorem dX7_asks_25 : decode cX7_asks 25 = .ok (.ifCond .eq 13, 3) := by decide +kernel
theorem dX7_asks_28 : decode cX7_asks 28 = .ok (.aload_n 0, 1) := by decide +kernel
theorem dX7_asks_29 : decode cX7_asks 29 = .ok (.aload_n 0, 1) := by decide +kernel
theorem dX7_asks_30 : decode cX7_asks 30 = .ok (.getfield 19, 3) := by decide +kernel
theorem dX7_asks_33 : decode cX7_asks 33 = .ok (.iload_n 1, 1) := by decide +kernel
theorem dX7_asks_34 : decode cX7_asks 34 = .ok (.invokevirtual 163, 3) := by decide +kernel
theorem dX7_asks_37 : decode cX7_asks 37 = .ok (.pop, 1) := by decide +kernel
theorem dX7_asks_38 : decode cX7_asks 38 = .ok (.iload_n 2, 1) := by decide +kernel
theorem dX7_asks_39 : decode cX7_asks 39 = .ok (.ireturn, 1) := by decide +kernel
theorem dX7_lets_0 : decode cX7_lets 0 = .ok (.iload_n 1, 1) := by decide +kernel
theorem dX7_lets_1 : decode cX7_lets 1 = .ok (.invokestatic 212, 3) := by decide +kernel
theorem dX7_lets_4 : decode cX7_lets 4 = .ok (.ifCond .eq 25, 3) := by decide +kernel
theorem dX7_lets_7 : decode cX7_lets 7 = .ok (.iload_n 2, 1) := by decide +kernel
theorem dX7_lets_8 : decode cX7_lets 8 = .ok (.invokestatic 207, 3) := by decide +kernel
theorem dX7_lets_11 : decode cX7_lets 11 = .ok (.ifCond .eq 18, 3) := by decide +kernel
theorem dX7_lets_14 : decode cX7_lets 14 = .ok (.aload_n 0, 1) := by decide +kernel
theorem dX7_lets_15 : decode cX7_lets 15 = .ok (.getfield 19, 3) := by decide +kernel
theorem dX7_lets_18 : decode cX7_lets 18 = .ok (.iload_n 2, 1) := by decide +kernel
theorem dX7_lets_19 : decode cX7_lets 19 = .ok (.invokestatic 64, 3) := by decide +kernel
theorem dX7_lets_22 : decode cX7_lets 22 = .ok (.ifCond .eq 7, 3) := by decide +kernel
theorem dX7_lets_25 : decode cX7_lets 25 = .ok (.iconst 1, 1) := by decide +kernel
theorem dX7_lets_26 : decode cX7_lets 26 = .ok (.goto 4, 3) := by decide +kernel
theorem dX7_lets_29 : decode cX7_lets 29 = .ok (.iconst 0, 1) := by decide +kernel
theorem dX7_lets_30 : decode cX7_lets 30 = .ok (.istore_n 3, 1) := by decide +kernel
theorem dX7_lets_31 : decode cX7_lets 31 = .ok (.iload_n 3, 1) := by decide +kernel
theorem dX7_lets_32 : decode cX7_lets 32 = .ok (.ifCond .eq 13, 3) := by decide +kernel
theorem dX7_lets_35 : decode cX7_lets 35 = .ok (.aload_n 0, 1) := by decide +kernel
theorem dX7_lets_36 : decode cX7_lets 36 = .ok (.aload_n 0, 1) := by decide +kernel
theorem dX7_lets_37 : decode cX7_lets 37 = .ok (.getfield 19, 3) := by decide +kernel
theorem dX7_lets_40 : decode cX7_lets 40 = .ok (.iload_n 1, 1) := by decide +kernel
theorem dX7_lets_41 : decode cX7_lets 41 = .ok (.iload_n 2, 1) := by decide +kernel
theorem dX7_lets_42 : decode cX7_lets 42 = .ok (.invokevirtual 98, 3) := by decide +kernel
theorem dX7_lets_45 : decode cX7_lets 45 = .ok (.iload_n 3, 1) := by decide +kernel
theorem dX7_lets_46 : decode cX7_lets 46 = .ok (.ireturn, 1) := by decide +kernel
theorem dX7_buries_0 : decode cX7_buries 0 = .ok (.iload_n 1, 1) := by decide +kernel
theorem dX7_buries_1 : decode cX7_buries 1 = .ok (.invokestatic 207, 3) := by decide +kernel
theorem dX7_buries_4 : decode cX7_buries 4 = .ok (.ifCond .eq 18, 3) := by decide +kernel
theorem dX7_buries_7 : decode cX7_buries 7 = .ok (.aload_n 0, 1) := by decide +kernel
theorem dX7_buries_8 : decode cX7_buries 8 = .ok (.getfield 19, 3) := by decide +kernel
theorem dX7_buries_11 : decode cX7_buries 11 = .ok (.iload_n 1, 1) := by decide +kernel
theorem dX7_buries_12 : decode cX7_buries 12 = .ok (.invokestatic 166, 3) := by decide +kernel
theorem dX7_buries_15 : decode cX7_buries 15 = .ok (.ifCond .eq 7, 3) := by decide +kernel
theorem dX7_buries_18 : decode cX7_buries 18 = .ok (.iconst 1, 1) := by decide +kernel
theorem dX7_buries_19 : decode cX7_buries 19 = .ok (.goto 4, 3) := by decide +kernel
theorem dX7_buries_22 : decode cX7_buries 22 = .ok (.iconst 0, 1) := by decide +kernel
theorem dX7_buries_23 : decode cX7_buries 23 = .ok (.istore_n 2, 1) := by decide +kernel
theorem dX7_buries_24 : decode cX7_buries 24 = .ok (.iload_n 2, 1) := by decide +kernel
theorem dX7_buries_25 : decode cX7_buries 25 = .ok (.ifCond .eq 12, 3) := by decide +kernel
theorem dX7_buries_28 : decode cX7_buries 28 = .ok (.aload_n 0, 1) := by decide +kernel
theorem dX7_buries_29 : decode cX7_buries 29 = .ok (.getfield 19, 3) := by decide +kernel
theorem dX7_buries_32 : decode cX7_buries 32 = .ok (.iload_n 1, 1) := by decide +kernel
theorem dX7_buries_33 : decode cX7_buries 33 = .ok (.invokestatic 169, 3) := by decide +kernel
theorem dX7_buries_36 : decode cX7_buries 36 = .ok (.pop, 1) := by decide +kernel
theorem dX7_buries_37 : decode cX7_buries 37 = .ok (.iload_n 2, 1) := by decide +kernel
theorem dX7_buries_38 : decode cX7_buries 38 = .ok (.ireturn, 1) := by decide +kernel
theorem dX7_clears_0 : decode cX7_clears 0 = .ok (.iload_n 1, 1) := by decide +kernel
theorem dX7_clears_1 : decode cX7_clears 1 = .ok (.invokestatic 207, 3) := by decide +kernel
theorem dX7_clears_4 : decode cX7_clears 4 = .ok (.ifCond .eq 19, 3) := by decide +kernel
theorem dX7_clears_7 : decode cX7_clears 7 = .ok (.aload_n 0, 1) := by decide +kernel
theorem dX7_clears_8 : decode cX7_clears 8 = .ok (.getfield 19, 3) := by decide +kernel
theorem dX7_clears_11 : decode cX7_clears 11 = .ok (.iload_n 1, 1) := by decide +kernel
theorem dX7_clears_12 : decode cX7_clears 12 = .ok (.invokestatic 108, 3) := by decide +kernel
theorem dX7_clears_15 : decode cX7_clears 15 = .ok (.iconst 4, 1) := by decide +kernel
theorem dX7_clears_16 : decode cX7_clears 16 = .ok (.if_icmp .ne 7, 3) := by decide +kernel
theorem dX7_clears_19 : decode cX7_clears 19 = .ok (.iconst 1, 1) := by decide +kernel
theorem dX7_clears_20 : decode cX7_clears 20 = .ok (.goto 4, 3) := by decide +kernel
theorem dX7_clears_23 : decode cX7_clears 23 = .ok (.iconst 0, 1) := by decide +kernel
theorem dX7_clears_24 : decode cX7_clears 24 = .ok (.istore_n 2, 1) := by decide +kernel
theorem dX7_clears_25 : decode cX7_clears 25 = .ok (.iload_n 2, 1) := by decide +kernel
theorem dX7_clears_26 : decode cX7_clears 26 = .ok (.ifCond .eq 12, 3) := by decide +kernel
theorem dX7_clears_29 : decode cX7_clears 29 = .ok (.aload_n 0, 1) := by decide +kernel
theorem dX7_clears_30 : decode cX7_clears 30 = .ok (.getfield 19, 3) := by decide +kernel
theorem dX7_clears_33 : decode cX7_clears 33 = .ok (.iload_n 1, 1) := by decide +kernel
theorem dX7_clears_34 : decode cX7_clears 34 = .ok (.invokestatic 265, 3) := by decide +kernel
theorem dX7_clears_37 : decode cX7_clears 37 = .ok (.pop, 1) := by decide +kernel
theorem dX7_clears_38 : decode cX7_clears 38 = .ok (.iload_n 2, 1) := by decide +kernel
theorem dX7_clears_39 : decode cX7_clears 39 = .ok (.ireturn, 1) := by decide +kernel
theorem dX7_claims_0 : decode cX7_claims 0 = .ok (.iload_n 1, 1) := by decide +kernel
theorem dX7_claims_1 : decode cX7_claims 1 = .ok (.invokestatic 207, 3) := by decide +kernel
theorem dX7_claims_4 : decode cX7_claims 4 = .ok (.ifCond .eq 26, 3) := by decide +kernel
theorem dX7_claims_7 : decode cX7_claims 7 = .ok (.iload_n 2, 1) := by decide +kernel
theorem dX7_claims_8 : decode cX7_claims 8 = .ok (.invokestatic 212, 3) := by decide +kernel
theorem dX7_claims_11 : decode cX7_claims 11 = .ok (.ifCond .eq 19, 3) := by decide +kernel
theorem dX7_claims_14 : decode cX7_claims 14 = .ok (.aload_n 0, 1) := by decide +kernel
theorem dX7_claims_15 : decode cX7_claims 15 = .ok (.getfield 19, 3) := by decide +kernel
theorem dX7_claims_18 : decode cX7_claims 18 = .ok (.iload_n 1, 1) := by decide +kernel
theorem dX7_claims_19 : decode cX7_claims 19 = .ok (.iload_n 2, 1) := by decide +kernel
theorem dX7_claims_20 : decode cX7_claims 20 = .ok (.invokestatic 257, 3) := by decide +kernel
theorem dX7_claims_23 : decode cX7_claims 23 = .ok (.ifCond .eq 7, 3) := by decide +kernel
theorem dX7_claims_26 : decode cX7_claims 26 = .ok (.iconst 1, 1) := by decide +kernel
theorem dX7_claims_27 : decode cX7_claims 27 = .ok (.goto 4, 3) := by decide +kernel
theorem dX7_claims_30 : decode cX7_claims 30 = .ok (.iconst 0, 1) := by decide +kernel
theorem dX7_claims_31 : decode cX7_claims 31 = .ok (.istore_n 3, 1) := by decide +kernel
theorem dX7_claims_32 : decode cX7_claims 32 = .ok (.iload_n 3, 1) := by decide +kernel
theorem dX7_claims_33 : decode cX7_claims 33 = .ok (.ifCond .eq 15, 3) := by decide +kernel
theorem dX7_claims_36 : decode cX7_claims 36 = .ok (.aload_n 0, 1) := by decide +kernel
theorem dX7_claims_37 : decode cX7_claims 37 = .ok (.getfield 19, 3) := by decide +kernel
theorem dX7_claims_40 : decode cX7_claims 40 = .ok (.iload_n 1, 1) := by decide +kernel
theorem dX7_claims_41 : decode cX7_claims 41 = .ok (.bipush 6, 2) := by decide +kernel
theorem dX7_claims_43 : decode cX7_claims 43 = .ok (.invokestatic 60, 3) := by decide +kernel
theorem dX7_claims_46 : decode cX7_claims 46 = .ok (.iload_n 2, 1) := by decide +kernel
theorem dX7_claims_47 : decode cX7_claims 47 = .ok (.iastore, 1) := by decide +kernel
theorem dX7_claims_48 : decode cX7_claims 48 = .ok (.iload_n 3, 1) := by decide +kernel
theorem dX7_claims_49 : decode cX7_claims 49 = .ok (.ireturn, 1) := by decide +kernel
theorem dX7_runs_0 : decode cX7_runs 0 = .ok (.iload_n 1, 1) := by decide +kernel
theorem dX7_runs_1 : decode cX7_runs 1 = .ok (.invokestatic 268, 3) := by decide +kernel
theorem dX7_runs_4 : decode cX7_runs 4 = .ok (.ifCond .eq 13, 3) := by decide +kernel
theorem dX7_runs_7 : decode cX7_runs 7 = .ok (.aload_n 0, 1) := by decide +kernel
theorem dX7_runs_8 : decode cX7_runs 8 = .ok (.aload_n 0, 1) := by decide +kernel
theorem dX7_runs_9 : decode cX7_runs 9 = .ok (.getfield 19, 3) := by decide +kernel
theorem dX7_runs_12 : decode cX7_runs 12 = .ok (.iload_n 1, 1) := by decide +kernel
theorem dX7_runs_13 : decode cX7_runs 13 = .ok (.invokevirtual 172, 3) := by decide +kernel
theorem dX7_runs_16 : decode cX7_runs 16 = .ok (.pop, 1) := by decide +kernel
theorem dX7_runs_17 : decode cX7_runs 17 = .ok (.iload_n 1, 1) := by decide +kernel
theorem dX7_runs_18 : decode cX7_runs 18 = .ok (.invokestatic 268, 3) := by decide +kernel
theorem dX7_runs_21 : decode cX7_runs 21 = .ok (.ireturn, 1) := by decide +kernel
theorem dX7_does_0 : decode cX7_does 0 = .ok (.iload_n 1, 1) := by decide +kernel
theorem dX7_does_1 : decode cX7_does 1 = .ok (.sipush 1000, 3) := by decide +kernel
theorem dX7_does_4 : decode cX7_does 4 = .ok (.idiv, 1) := by decide +kernel
theorem dX7_does_5 : decode cX7_does 5 = .ok (.istore_n 2, 1) := by decide +kernel
theorem dX7_does_6 : decode cX7_does 6 = .ok (.iload_n 1, 1) := by decide +kernel
theorem dX7_does_7 : decode cX7_does 7 = .ok (.bipush 100, 2) := by decide +kernel
theorem dX7_does_9 : decode cX7_does 9 = .ok (.idiv, 1) := by decide +kernel
theorem dX7_does_10 : decode cX7_does 10 = .ok (.bipush 10, 2) := by decide +kernel
theorem dX7_does_12 : decode cX7_does 12 = .ok (.irem, 1) := by decide +kernel
theorem dX7_does_13 : decode cX7_does 13 = .ok (.istore_n 3, 1) := by decide +kernel
theorem dX7_does_14 : decode cX7_does 14 = .ok (.iload_n 1, 1) := by decide +kernel
theorem dX7_does_15 : decode cX7_does 15 = .ok (.bipush 100, 2) := by decide +kernel
theorem dX7_does_17 : decode cX7_does 17 = .ok (.irem, 1) := by decide +kernel
theorem dX7_does_18 : decode cX7_does 18 = .ok (.istore 4, 2) := by decide +kernel
theorem dX7_does_20 : decode cX7_does 20 = .ok (.iload_n 2, 1) := by decide +kernel
theorem dX7_does_21 : decode cX7_does 21 = .ok (.tableswitch 220 1 9 #[51, 70, 78, 97, 116, 124, 143, 172, 199], 51) := by decide +kernel
theorem dX7_does_72 : decode cX7_does 72 = .ok (.iload 4, 2) := by decide +kernel
theorem dX7_does_74 : decode cX7_does 74 = .ok (.ifCond .ne 15, 3) := by decide +kernel
theorem dX7_does_77 : decode cX7_does 77 = .ok (.aload_n 0, 1) := by decide +kernel
theorem dX7_does_78 : decode cX7_does 78 = .ok (.iload_n 3, 1) := by decide +kernel
theorem dX7_does_79 : decode cX7_does 79 = .ok (.invokevirtual 285, 3) := by decide +kernel
theorem dX7_does_82 : decode cX7_does 82 = .ok (.ifCond .eq 7, 3) := by decide +kernel
theorem dX7_does_85 : decode cX7_does 85 = .ok (.iconst 1, 1) := by decide +kernel
theorem dX7_does_86 : decode cX7_does 86 = .ok (.goto 4, 3) := by decide +kernel
theorem dX7_does_89 : decode cX7_does 89 = .ok (.iconst 0, 1) := by decide +kernel
theorem dX7_does_90 : decode cX7_does 90 = .ok (.ireturn, 1) := by decide +kernel
theorem dX7_does_91 : decode cX7_does 91 = .ok (.aload_n 0, 1) := by decide +kernel
theorem dX7_does_92 : decode cX7_does 92 = .ok (.iload_n 3, 1) := by decide +kernel
theorem dX7_does_93 : decode cX7_does 93 = .ok (.iload 4, 2) := by decide +kernel
theorem dX7_does_95 : decode cX7_does 95 = .ok (.invokevirtual 288, 3) := by decide +kernel
theorem dX7_does_98 : decode cX7_does 98 = .ok (.ireturn, 1) := by decide +kernel
theorem dX7_does_99 : decode cX7_does 99 = .ok (.iload_n 3, 1) := by decide +kernel
theorem dX7_does_100 : decode cX7_does 100 = .ok (.ifCond .ne 16, 3) := by decide +kernel
theorem dX7_does_103 : decode cX7_does 103 = .ok (.aload_n 0, 1) := by decide +kernel
theorem dX7_does_104 : decode cX7_does 104 = .ok (.iload 4, 2) := by decide +kernel
theorem dX7_does_106 : decode cX7_does 106 = .ok (.invokevirtual 291, 3) := by decide +kernel
theorem dX7_does_109 : decode cX7_does 109 = .ok (.ifCond .eq 7, 3) := by decide +kernel
theorem dX7_does_112 : decode cX7_does 112 = .ok (.iconst 1, 1) := by decide +kernel
theorem dX7_does_113 : decode cX7_does 113 = .ok (.goto 4, 3) := by decide +kernel
theorem dX7_does_116 : decode cX7_does 116 = .ok (.iconst 0, 1) := by decide +kernel
theorem dX7_does_117 : decode cX7_does 117 = .ok (.ireturn, 1) := by decide +kernel
theorem dX7_does_118 : decode cX7_does 118 = .ok (.iload_n 3, 1) := by decide +kernel
theorem dX7_does_119 : decode cX7_does 119 = .ok (.ifCond .ne 16, 3) := by decide +kernel
theorem dX7_does_122 : decode cX7_does 122 = .ok (.aload_n 0, 1) := by decide +kernel
theorem dX7_does_123 : decode cX7_does 123 = .ok (.iload 4, 2) := by decide +kernel
theorem dX7_does_125 : decode cX7_does 125 = .ok (.invokevirtual 294, 3) := by decide +kernel
theorem dX7_does_128 : decode cX7_does 128 = .ok (.ifCond .eq 7, 3) := by decide +kernel
theorem dX7_does_131 : decode cX7_does 131 = .ok (.iconst 1, 1) := by decide +kernel
theorem dX7_does_132 : decode cX7_does 132 = .ok (.goto 4, 3) := by decide +kernel
theorem dX7_does_135 : decode cX7_does 135 = .ok (.iconst 0, 1) := by decide +kernel
theorem dX7_does_136 : decode cX7_does 136 = .ok (.ireturn, 1) := by decide +kernel
theorem dX7_does_137 : decode cX7_does 137 = .ok (.aload_n 0, 1) := by decide +kernel
theorem dX7_does_138 : decode cX7_does 138 = .ok (.iload 4, 2) := by decide +kernel
theorem dX7_does_140 : decode cX7_does 140 = .ok (.iload_n 3, 1) := by decide +kernel
theorem dX7_does_141 : decode cX7_does 141 = .ok (.invokevirtual 297, 3) := by decide +kernel
theorem dX7_does_144 : decode cX7_does 144 = .ok (.ireturn, 1) := by decide +kernel
theorem dX7_does_145 : decode cX7_does 145 = .ok (.iload_n 3, 1) := by decide +kernel
theorem dX7_does_146 : decode cX7_does 146 = .ok (.ifCond .ne 16, 3) := by decide +kernel
theorem dX7_does_149 : decode cX7_does 149 = .ok (.aload_n 0, 1) := by decide +kernel
theorem dX7_does_150 : decode cX7_does 150 = .ok (.iload 4, 2) := by decide +kernel
theorem dX7_does_152 : decode cX7_does 152 = .ok (.invokevirtual 300, 3) := by decide +kernel
theorem dX7_does_155 : decode cX7_does 155 = .ok (.ifCond .eq 7, 3) := by decide +kernel
theorem dX7_does_158 : decode cX7_does 158 = .ok (.iconst 1, 1) := by decide +kernel
theorem dX7_does_159 : decode cX7_does 159 = .ok (.goto 4, 3) := by decide +kernel
theorem dX7_does_162 : decode cX7_does 162 = .ok (.iconst 0, 1) := by decide +kernel
theorem dX7_does_163 : decode cX7_does 163 = .ok (.ireturn, 1) := by decide +kernel
theorem dX7_does_164 : decode cX7_does 164 = .ok (.iload 4, 2) := by decide +kernel
theorem dX7_does_166 : decode cX7_does 166 = .ok (.invokestatic 207, 3) := by decide +kernel
theorem dX7_does_169 : decode cX7_does 169 = .ok (.ifCond .eq 22, 3) := by decide +kernel
theorem dX7_does_172 : decode cX7_does 172 = .ok (.aload_n 0, 1) := by decide +kernel
theorem dX7_does_173 : decode cX7_does 173 = .ok (.getfield 19, 3) := by decide +kernel
theorem dX7_does_176 : decode cX7_does 176 = .ok (.iload 4, 2) := by decide +kernel
theorem dX7_does_178 : decode cX7_does 178 = .ok (.iconst 0, 1) := by decide +kernel
theorem dX7_does_179 : decode cX7_does 179 = .ok (.invokestatic 60, 3) := by decide +kernel
theorem dX7_does_182 : decode cX7_does 182 = .ok (.iaload, 1) := by decide +kernel
theorem dX7_does_183 : decode cX7_does 183 = .ok (.iload_n 3, 1) := by decide +kernel
theorem dX7_does_184 : decode cX7_does 184 = .ok (.if_icmp .ne 7, 3) := by decide +kernel
theorem dX7_does_187 : decode cX7_does 187 = .ok (.iconst 1, 1) := by decide +kernel
theorem dX7_does_188 : decode cX7_does 188 = .ok (.goto 4, 3) := by decide +kernel
theorem dX7_does_191 : decode cX7_does 191 = .ok (.iconst 0, 1) := by decide +kernel
theorem dX7_does_192 : decode cX7_does 192 = .ok (.ireturn, 1) := by decide +kernel
theorem dX7_does_193 : decode cX7_does 193 = .ok (.iload 4, 2) := by decide +kernel
theorem dX7_does_195 : decode cX7_does 195 = .ok (.invokestatic 207, 3) := by decide +kernel
theorem dX7_does_198 : decode cX7_does 198 = .ok (.ifCond .eq 20, 3) := by decide +kernel
theorem dX7_does_201 : decode cX7_does 201 = .ok (.aload_n 0, 1) := by decide +kernel
theorem dX7_does_202 : decode cX7_does 202 = .ok (.getfield 19, 3) := by decide +kernel
theorem dX7_does_205 : decode cX7_does 205 = .ok (.iload 4, 2) := by decide +kernel
theorem dX7_does_207 : decode cX7_does 207 = .ok (.invokestatic 108, 3) := by decide +kernel
theorem dX7_does_210 : decode cX7_does 210 = .ok (.iload_n 3, 1) := by decide +kernel
theorem dX7_does_211 : decode cX7_does 211 = .ok (.if_icmp .ne 7, 3) := by decide +kernel
theorem dX7_does_214 : decode cX7_does 214 = .ok (.iconst 1, 1) := by decide +kernel
theorem dX7_does_215 : decode cX7_does 215 = .ok (.goto 4, 3) := by decide +kernel
theorem dX7_does_218 : decode cX7_does 218 = .ok (.iconst 0, 1) := by decide +kernel
theorem dX7_does_219 : decode cX7_does 219 = .ok (.ireturn, 1) := by decide +kernel
theorem dX7_does_220 : decode cX7_does 220 = .ok (.iload_n 3, 1) := by decide +kernel
theorem dX7_does_221 : decode cX7_does 221 = .ok (.ifCond .ne 18, 3) := by decide +kernel
theorem dX7_does_224 : decode cX7_does 224 = .ok (.aload_n 0, 1) := by decide +kernel
theorem dX7_does_225 : decode cX7_does 225 = .ok (.getfield 19, 3) := by decide +kernel
theorem dX7_does_228 : decode cX7_does 228 = .ok (.iconst 1, 1) := by decide +kernel
theorem dX7_does_229 : decode cX7_does 229 = .ok (.iaload, 1) := by decide +kernel
theorem dX7_does_230 : decode cX7_does 230 = .ok (.iload 4, 2) := by decide +kernel
theorem dX7_does_232 : decode cX7_does 232 = .ok (.if_icmp .gt 7, 3) := by decide +kernel
theorem dX7_does_235 : decode cX7_does 235 = .ok (.iconst 1, 1) := by decide +kernel
theorem dX7_does_236 : decode cX7_does 236 = .ok (.goto 4, 3) := by decide +kernel
theorem dX7_does_239 : decode cX7_does 239 = .ok (.iconst 0, 1) := by decide +kernel
theorem dX7_does_240 : decode cX7_does 240 = .ok (.ireturn, 1) := by decide +kernel
theorem dX7_does_241 : decode cX7_does 241 = .ok (.iconst 0, 1) := by decide +kernel
theorem dX7_does_242 : decode cX7_does 242 = .ok (.ireturn, 1) := by decide +kernel
theorem dX7_runScript_0 : decode cX7_runScript 0 = .ok (.iload_n 1, 1) := by decide +kernel
theorem dX7_runScript_1 : decode cX7_runScript 1 = .ok (.i2l, 1) := by decide +kernel
theorem dX7_runScript_2 : decode cX7_runScript 2 = .ok (.lconst 1, 1) := by decide +kernel
theorem dX7_runScript_3 : decode cX7_runScript 3 = .ok (.ldc2_w 242, 3) := by decide +kernel
theorem dX7_runScript_6 : decode cX7_runScript 6 = .ok (.invokestatic 116, 3) := by decide +kernel
theorem dX7_runScript_9 : decode cX7_runScript 9 = .ok (.istore 4, 2) := by decide +kernel
theorem dX7_runScript_11 : decode cX7_runScript 11 = .ok (.aload_n 0, 1) := by decide +kernel
theorem dX7_runScript_12 : decode cX7_runScript 12 = .ok (.iload 4, 2) := by decide +kernel
theorem dX7_runScript_14 : decode cX7_runScript 14 = .ok (.ifCond .eq 32, 3) := by decide +kernel
theorem dX7_runScript_17 : decode cX7_runScript 17 = .ok (.lload_n 2, 1) := by decide +kernel
theorem dX7_runScript_18 : decode cX7_runScript 18 = .ok (.lconst 0, 1) := by decide +kernel
theorem dX7_runScript_19 : decode cX7_runScript 19 = .ok (.iload 4, 2) := by decide +kernel
theorem dX7_runScript_21 : decode cX7_runScript 21 = .ok (.ifCond .eq 9, 3) := by decide +kernel
theorem dX7_runScript_24 : decode cX7_runScript 24 = .ok (.iconst 4, 1) := by decide +kernel
theorem dX7_runScript_25 : decode cX7_runScript 25 = .ok (.iload_n 1, 1) := by decide +kernel
theorem dX7_runScript_26 : decode cX7_runScript 26 = .ok (.imul, 1) := by decide +kernel
theorem dX7_runScript_27 : decode cX7_runScript 27 = .ok (.goto 4, 3) := by decide +kernel
theorem dX7_runScript_30 : decode cX7_runScript 30 = .ok (.iconst 0, 1) := by decide +kernel
theorem dX7_runScript_31 : decode cX7_runScript 31 = .ok (.invokestatic 228, 3) := by decide +kernel
theorem dX7_runScript_34 : decode cX7_runScript 34 = .ok (.lconst 1, 1) := by decide +kernel
theorem dX7_runScript_35 : decode cX7_runScript 35 = .ok (.lsub, 1) := by decide +kernel
theorem dX7_runScript_36 : decode cX7_runScript 36 = .ok (.invokestatic 116, 3) := by decide +kernel
theorem dX7_runScript_39 : decode cX7_runScript 39 = .ok (.ifCond .eq 7, 3) := by decide +kernel
theorem dX7_runScript_42 : decode cX7_runScript 42 = .ok (.iconst 0, 1) := by decide +kernel
theorem dX7_runScript_43 : decode cX7_runScript 43 = .ok (.goto 4, 3) := by decide +kernel
theorem dX7_runScript_46 : decode cX7_runScript 46 = .ok (.iconst 1, 1) := by decide +kernel
theorem dX7_runScript_47 : decode cX7_runScript 47 = .ok (.invokevirtual 123, 3) := by decide +kernel
theorem dX7_runScript_50 : decode cX7_runScript 50 = .ok (.ifCond .eq 5, 3) := by decide +kernel
theorem dX7_runScript_53 : decode cX7_runScript 53 = .ok (.iconst 0, 1) := by decide +kernel
theorem dX7_runScript_54 : decode cX7_runScript 54 = .ok (.ireturn, 1) := by decide +kernel
theorem dX7_runScript_55 : decode cX7_runScript 55 = .ok (.aload_n 0, 1) := by decide +kernel
theorem dX7_runScript_56 : decode cX7_runScript 56 = .ok (.invokevirtual 279, 3) := by decide +kernel
theorem dX7_runScript_59 : decode cX7_runScript 59 = .ok (.iconst 0, 1) := by decide +kernel
theorem dX7_runScript_60 : decode cX7_runScript 60 = .ok (.istore 5, 2) := by decide +kernel
theorem dX7_runScript_62 : decode cX7_runScript 62 = .ok (.iload 5, 2) := by decide +kernel
theorem dX7_runScript_64 : decode cX7_runScript 64 = .ok (.iload_n 1, 1) := by decide +kernel
theorem dX7_runScript_65 : decode cX7_runScript 65 = .ok (.if_icmp .ge 37, 3) := by decide +kernel
theorem dX7_runScript_68 : decode cX7_runScript 68 = .ok (.aload_n 0, 1) := by decide +kernel
theorem dX7_runScript_69 : decode cX7_runScript 69 = .ok (.lload_n 2, 1) := by decide +kernel
theorem dX7_runScript_70 : decode cX7_runScript 70 = .ok (.iconst 4, 1) := by decide +kernel
theorem dX7_runScript_71 : decode cX7_runScript 71 = .ok (.iload_n 1, 1) := by decide +kernel
theorem dX7_runScript_72 : decode cX7_runScript 72 = .ok (.iconst 1, 1) := by decide +kernel
theorem dX7_runScript_73 : decode cX7_runScript 73 = .ok (.isub, 1) := by decide +kernel
theorem dX7_runScript_74 : decode cX7_runScript 74 = .ok (.iload 5, 2) := by decide +kernel
theorem dX7_runScript_76 : decode cX7_runScript 76 = .ok (.isub, 1) := by decide +kernel
theorem dX7_runScript_77 : decode cX7_runScript 77 = .ok (.imul, 1) := by decide +kernel
theorem dX7_runScript_78 : decode cX7_runScript 78 = .ok (.invokestatic 228, 3) := by decide +kernel
theorem dX7_runScript_81 : decode cX7_runScript 81 = .ok (.ldiv, 1) := by decide +kernel
theorem dX7_runScript_82 : decode cX7_runScript 82 = .ok (.ldc2_w 303, 3) := by decide +kernel
theorem dX7_runScript_85 : decode cX7_runScript 85 = .ok (.lrem, 1) := by decide +kernel
theorem dX7_runScript_86 : decode cX7_runScript 86 = .ok (.l2i, 1) := by decide +kernel
theorem dX7_runScript_87 : decode cX7_runScript 87 = .ok (.invokevirtual 305, 3) := by decide +kernel
theorem dX7_runScript_90 : decode cX7_runScript 90 = .ok (.ifCond .ne 6, 3) := by decide +kernel
theorem dX7_runScript_93 : decode cX7_runScript 93 = .ok (.iload 5, 2) := by decide +kernel
theorem dX7_runScript_95 : decode cX7_runScript 95 = .ok (.ireturn, 1) := by decide +kernel
theorem dX7_runScript_96 : decode cX7_runScript 96 = .ok (.iinc 5 1, 3) := by decide +kernel
theorem dX7_runScript_99 : decode cX7_runScript 99 = .ok (.goto (-37), 3) := by decide +kernel
theorem dX7_runScript_102 : decode cX7_runScript 102 = .ok (.iconst (-1), 1) := by decide +kernel
theorem dX7_runScript_103 : decode cX7_runScript 103 = .ok (.ireturn, 1) := by decide +kernel
theorem dX7_stir_0 : decode cX7_stir 0 = .ok (.iload_n 1, 1) := by decide +kernel
theorem dX7_stir_1 : decode cX7_stir 1 = .ok (.bipush 8, 2) := by decide +kernel
theorem dX7_stir_3 : decode cX7_stir 3 = .ok (.idiv, 1) := by decide +kernel
theorem dX7_stir_4 : decode cX7_stir 4 = .ok (.bipush 24, 2) := by decide +kernel
theorem dX7_stir_6 : decode cX7_stir 6 = .ok (.irem, 1) := by decide +kernel
theorem dX7_stir_7 : decode cX7_stir 7 = .ok (.istore_n 2, 1) := by decide +kernel
theorem dX7_stir_8 : decode cX7_stir 8 = .ok (.iload_n 1, 1) := by decide +kernel
theorem dX7_stir_9 : decode cX7_stir 9 = .ok (.sipush 256, 3) := by decide +kernel
theorem dX7_stir_12 : decode cX7_stir 12 = .ok (.idiv, 1) := by decide +kernel
theorem dX7_stir_13 : decode cX7_stir 13 = .ok (.bipush 10, 2) := by decide +kernel
theorem dX7_stir_15 : decode cX7_stir 15 = .ok (.irem, 1) := by decide +kernel
theorem dX7_stir_16 : decode cX7_stir 16 = .ok (.istore_n 3, 1) := by decide +kernel
theorem dX7_stir_17 : decode cX7_stir 17 = .ok (.iload_n 1, 1) := by decide +kernel
theorem dX7_stir_18 : decode cX7_stir 18 = .ok (.bipush 8, 2) := by decide +kernel
theorem dX7_stir_20 : decode cX7_stir 20 = .ok (.irem, 1) := by decide +kernel
theorem dX7_stir_21 : decode cX7_stir 21 = .ok (.istore 4, 2) := by decide +kernel
theorem dX7_stir_23 : decode cX7_stir 23 = .ok (.iload 4, 2) := by decide +kernel
theorem dX7_stir_25 : decode cX7_stir 25 = .ok (.iconst 2, 1) := by decide +kernel
theorem dX7_stir_26 : decode cX7_stir 26 = .ok (.if_icmp .ge 12, 3) := by decide +kernel
theorem dX7_stir_29 : decode cX7_stir 29 = .ok (.aload_n 0, 1) := by decide +kernel
theorem dX7_stir_30 : decode cX7_stir 30 = .ok (.iload_n 3, 1) := by decide +kernel
theorem dX7_stir_31 : decode cX7_stir 31 = .ok (.invokevirtual 285, 3) := by decide +kernel
theorem dX7_stir_34 : decode cX7_stir 34 = .ok (.pop, 1) := by decide +kernel
theorem dX7_stir_35 : decode cX7_stir 35 = .ok (.goto 112, 3) := by decide +kernel
theorem dX7_stir_38 : decode cX7_stir 38 = .ok (.iload 4, 2) := by decide +kernel
theorem dX7_stir_40 : decode cX7_stir 40 = .ok (.iconst 4, 1) := by decide +kernel
theorem dX7_stir_41 : decode cX7_stir 41 = .ok (.if_icmp .ge 12, 3) := by decide +kernel
theorem dX7_stir_44 : decode cX7_stir 44 = .ok (.aload_n 0, 1) := by decide +kernel
theorem dX7_stir_45 : decode cX7_stir 45 = .ok (.iload_n 2, 1) := by decide +kernel
theorem dX7_stir_46 : decode cX7_stir 46 = .ok (.invokevirtual 291, 3) := by decide +kernel
theorem dX7_stir_49 : decode cX7_stir 49 = .ok (.pop, 1) := by decide +kernel
theorem dX7_stir_50 : decode cX7_stir 50 = .ok (.goto 97, 3) := by decide +kernel
theorem dX7_stir_53 : decode cX7_stir 53 = .ok (.iload 4, 2) := by decide +kernel
theorem dX7_stir_55 : decode cX7_stir 55 = .ok (.iconst 4, 1) := by decide +kernel
theorem dX7_stir_56 : decode cX7_stir 56 = .ok (.if_icmp .ne 12, 3) := by decide +kernel
theorem dX7_stir_59 : decode cX7_stir 59 = .ok (.aload_n 0, 1) := by decide +kernel
theorem dX7_stir_60 : decode cX7_stir 60 = .ok (.iload_n 2, 1) := by decide +kernel
theorem dX7_stir_61 : decode cX7_stir 61 = .ok (.invokevirtual 294, 3) := by decide +kernel
theorem dX7_stir_64 : decode cX7_stir 64 = .ok (.pop, 1) := by decide +kernel
theorem dX7_stir_65 : decode cX7_stir 65 = .ok (.goto 82, 3) := by decide +kernel
theorem dX7_stir_68 : decode cX7_stir 68 = .ok (.iload 4, 2) := by decide +kernel
theorem dX7_stir_70 : decode cX7_stir 70 = .ok (.iconst 5, 1) := by decide +kernel
theorem dX7_stir_71 : decode cX7_stir 71 = .ok (.if_icmp .ne 13, 3) := by decide +kernel
theorem dX7_stir_74 : decode cX7_stir 74 = .ok (.aload_n 0, 1) := by decide +kernel
theorem dX7_stir_75 : decode cX7_stir 75 = .ok (.iload_n 2, 1) := by decide +kernel
theorem dX7_stir_76 : decode cX7_stir 76 = .ok (.iload_n 3, 1) := by decide +kernel
theorem dX7_stir_77 : decode cX7_stir 77 = .ok (.invokevirtual 297, 3) := by decide +kernel
theorem dX7_stir_80 : decode cX7_stir 80 = .ok (.pop, 1) := by decide +kernel
theorem dX7_stir_81 : decode cX7_stir 81 = .ok (.goto 66, 3) := by decide +kernel
theorem dX7_stir_84 : decode cX7_stir 84 = .ok (.iload 4, 2) := by decide +kernel
theorem dX7_stir_86 : decode cX7_stir 86 = .ok (.bipush 6, 2) := by decide +kernel
theorem dX7_stir_88 : decode cX7_stir 88 = .ok (.if_icmp .ne 41, 3) := by decide +kernel
theorem dX7_stir_91 : decode cX7_stir 91 = .ok (.aload_n 0, 1) := by decide +kernel
theorem dX7_stir_92 : decode cX7_stir 92 = .ok (.getfield 19, 3) := by decide +kernel
theorem dX7_stir_95 : decode cX7_stir 95 = .ok (.iload_n 2, 1) := by decide +kernel
theorem dX7_stir_96 : decode cX7_stir 96 = .ok (.invokestatic 75, 3) := by decide +kernel
theorem dX7_stir_99 : decode cX7_stir 99 = .ok (.ifCond .eq 48, 3) := by decide +kernel
theorem dX7_stir_102 : decode cX7_stir 102 = .ok (.aload_n 0, 1) := by decide +kernel
theorem dX7_stir_103 : decode cX7_stir 103 = .ok (.getfield 19, 3) := by decide +kernel
theorem dX7_stir_106 : decode cX7_stir 106 = .ok (.iload_n 2, 1) := by decide +kernel
theorem dX7_stir_107 : decode cX7_stir 107 = .ok (.iload_n 1, 1) := by decide +kernel
theorem dX7_stir_108 : decode cX7_stir 108 = .ok (.sipush 256, 3) := by decide +kernel
theorem dX7_stir_111 : decode cX7_stir 111 = .ok (.idiv, 1) := by decide +kernel
theorem dX7_stir_112 : decode cX7_stir 112 = .ok (.iconst 2, 1) := by decide +kernel
theorem dX7_stir_113 : decode cX7_stir 113 = .ok (.irem, 1) := by decide +kernel
theorem dX7_stir_114 : decode cX7_stir 114 = .ok (.ifCond .ne 7, 3) := by decide +kernel
theorem dX7_stir_117 : decode cX7_stir 117 = .ok (.iconst 1, 1) := by decide +kernel
theorem dX7_stir_118 : decode cX7_stir 118 = .ok (.goto 4, 3) := by decide +kernel
theorem dX7_stir_121 : decode cX7_stir 121 = .ok (.iconst 0, 1) := by decide +kernel
theorem dX7_stir_122 : decode cX7_stir 122 = .ok (.invokestatic 261, 3) := by decide +kernel
theorem dX7_stir_125 : decode cX7_stir 125 = .ok (.pop, 1) := by decide +kernel
theorem dX7_stir_126 : decode cX7_stir 126 = .ok (.goto 21, 3) := by decide +kernel
theorem dX7_stir_129 : decode cX7_stir 129 = .ok (.aload_n 0, 1) := by decide +kernel
theorem dX7_stir_130 : decode cX7_stir 130 = .ok (.aload_n 0, 1) := by decide +kernel
theorem dX7_stir_131 : decode cX7_stir 131 = .ok (.getfield 19, 3) := by decide +kernel
theorem dX7_stir_134 : decode cX7_stir 134 = .ok (.iconst 1, 1) := by decide +kernel
theorem dX7_stir_135 : decode cX7_stir 135 = .ok (.iload_n 1, 1) := by decide +kernel
theorem dX7_stir_136 : decode cX7_stir 136 = .ok (.bipush 8, 2) := by decide +kernel
theorem dX7_stir_138 : decode cX7_stir 138 = .ok (.idiv, 1) := by decide +kernel
theorem dX7_stir_139 : decode cX7_stir 139 = .ok (.bipush 30, 2) := by decide +kernel
theorem dX7_stir_141 : decode cX7_stir 141 = .ok (.irem, 1) := by decide +kernel
theorem dX7_stir_142 : decode cX7_stir 142 = .ok (.iadd, 1) := by decide +kernel
theorem dX7_stir_143 : decode cX7_stir 143 = .ok (.invokevirtual 172, 3) := by decide +kernel
theorem dX7_stir_146 : decode cX7_stir 146 = .ok (.pop, 1) := by decide +kernel
theorem dX7_stir_147 : decode cX7_stir 147 = .ok (.return_, 1) := by decide +kernel
theorem dX7_simulate_0 : decode cX7_simulate 0 = .ok (.aload_n 0, 1) := by decide +kernel
theorem dX7_simulate_1 : decode cX7_simulate 1 = .ok (.iload_n 3, 1) := by decide +kernel
theorem dX7_simulate_2 : decode cX7_simulate 2 = .ok (.i2l, 1) := by decide +kernel
theorem dX7_simulate_3 : decode cX7_simulate 3 = .ok (.lconst 1, 1) := by decide +kernel
theorem dX7_simulate_4 : decode cX7_simulate 4 = .ok (.ldc2_w 271, 3) := by decide +kernel
theorem dX7_simulate_7 : decode cX7_simulate 7 = .ok (.invokestatic 116, 3) := by decide +kernel
theorem dX7_simulate_10 : decode cX7_simulate 10 = .ok (.ifCond .eq 7, 3) := by decide +kernel
theorem dX7_simulate_13 : decode cX7_simulate 13 = .ok (.iconst 0, 1) := by decide +kernel
theorem dX7_simulate_14 : decode cX7_simulate 14 = .ok (.goto 4, 3) := by decide +kernel
theorem dX7_simulate_17 : decode cX7_simulate 17 = .ok (.iconst 1, 1) := by decide +kernel
theorem dX7_simulate_18 : decode cX7_simulate 18 = .ok (.invokevirtual 123, 3) := by decide +kernel
theorem dX7_simulate_21 : decode cX7_simulate 21 = .ok (.ifCond .eq 5, 3) := by decide +kernel
theorem dX7_simulate_24 : decode cX7_simulate 24 = .ok (.iconst 0, 1) := by decide +kernel
theorem dX7_simulate_25 : decode cX7_simulate 25 = .ok (.ireturn, 1) := by decide +kernel
theorem dX7_simulate_26 : decode cX7_simulate 26 = .ok (.aload_n 0, 1) := by decide +kernel
theorem dX7_simulate_27 : decode cX7_simulate 27 = .ok (.invokevirtual 279, 3) := by decide +kernel
theorem dX7_simulate_30 : decode cX7_simulate 30 = .ok (.lload_n 1, 1) := by decide +kernel
theorem dX7_simulate_31 : decode cX7_simulate 31 = .ok (.lstore 4, 2) := by decide +kernel
theorem dX7_simulate_33 : decode cX7_simulate 33 = .ok (.iconst 0, 1) := by decide +kernel
theorem dX7_simulate_34 : decode cX7_simulate 34 = .ok (.istore 6, 2) := by decide +kernel
theorem dX7_simulate_36 : decode cX7_simulate 36 = .ok (.iload 6, 2) := by decide +kernel
theorem dX7_simulate_38 : decode cX7_simulate 38 = .ok (.iload_n 3, 1) := by decide +kernel
theorem dX7_simulate_39 : decode cX7_simulate 39 = .ok (.if_icmp .ge 31, 3) := by decide +kernel
theorem dX7_simulate_42 : decode cX7_simulate 42 = .ok (.lload 4, 2) := by decide +kernel
theorem dX7_simulate_44 : decode cX7_simulate 44 = .ok (.ldc2_w 308, 3) := by decide +kernel
theorem dX7_simulate_47 : decode cX7_simulate 47 = .ok (.lmul, 1) := by decide +kernel
theorem dX7_simulate_48 : decode cX7_simulate 48 = .ok (.ldc2_w 310, 3) := by decide +kernel
theorem dX7_simulate_51 : decode cX7_simulate 51 = .ok (.ladd, 1) := by decide +kernel
theorem dX7_simulate_52 : decode cX7_simulate 52 = .ok (.lstore 4, 2) := by decide +kernel
theorem dX7_simulate_54 : decode cX7_simulate 54 = .ok (.aload_n 0, 1) := by decide +kernel
theorem dX7_simulate_55 : decode cX7_simulate 55 = .ok (.lload 4, 2) := by decide +kernel
theorem dX7_simulate_57 : decode cX7_simulate 57 = .ok (.bipush 33, 2) := by decide +kernel
theorem dX7_simulate_59 : decode cX7_simulate 59 = .ok (.lushr, 1) := by decide +kernel
theorem dX7_simulate_60 : decode cX7_simulate 60 = .ok (.l2i, 1) := by decide +kernel
theorem dX7_simulate_61 : decode cX7_simulate 61 = .ok (.invokevirtual 312, 3) := by decide +kernel
theorem dX7_simulate_64 : decode cX7_simulate 64 = .ok (.iinc 6 1, 3) := by decide +kernel
theorem dX7_simulate_67 : decode cX7_simulate 67 = .ok (.goto (-31), 3) := by decide +kernel
theorem dX7_simulate_70 : decode cX7_simulate 70 = .ok (.bipush 100, 2) := by decide +kernel
theorem dX7_simulate_72 : decode cX7_simulate 72 = .ok (.aload_n 0, 1) := by decide +kernel
theorem dX7_simulate_73 : decode cX7_simulate 73 = .ok (.getfield 19, 3) := by decide +kernel
theorem dX7_simulate_76 : decode cX7_simulate 76 = .ok (.invokestatic 202, 3) := by decide +kernel
theorem dX7_simulate_79 : decode cX7_simulate 79 = .ok (.imul, 1) := by decide +kernel
theorem dX7_simulate_80 : decode cX7_simulate 80 = .ok (.aload_n 0, 1) := by decide +kernel
theorem dX7_simulate_81 : decode cX7_simulate 81 = .ok (.getfield 19, 3) := by decide +kernel
theorem dX7_simulate_84 : decode cX7_simulate 84 = .ok (.iconst 4, 1) := by decide +kernel
theorem dX7_simulate_85 : decode cX7_simulate 85 = .ok (.iaload, 1) := by decide +kernel
theorem dX7_simulate_86 : decode cX7_simulate 86 = .ok (.iadd, 1) := by decide +kernel
theorem dX7_simulate_87 : decode cX7_simulate 87 = .ok (.ireturn, 1) := by decide +kernel
theorem dX7_save_0 : decode cX7_save 0 = .ok (.aload_n 0, 1) := by decide +kernel
theorem dX7_save_1 : decode cX7_save 1 = .ok (.iload_n 1, 1) := by decide +kernel
theorem dX7_save_2 : decode cX7_save 2 = .ok (.i2l, 1) := by decide +kernel
theorem dX7_save_3 : decode cX7_save 3 = .ok (.lconst 0, 1) := by decide +kernel
theorem dX7_save_4 : decode cX7_save 4 = .ok (.lconst 1, 1) := by decide +kernel
theorem dX7_save_5 : decode cX7_save 5 = .ok (.invokestatic 116, 3) := by decide +kernel
theorem dX7_save_8 : decode cX7_save 8 = .ok (.ifCond .eq 7, 3) := by decide +kernel
theorem dX7_save_11 : decode cX7_save 11 = .ok (.iconst 0, 1) := by decide +kernel
theorem dX7_save_12 : decode cX7_save 12 = .ok (.goto 4, 3) := by decide +kernel
theorem dX7_save_15 : decode cX7_save 15 = .ok (.iconst 1, 1) := by decide +kernel
theorem dX7_save_16 : decode cX7_save 16 = .ok (.invokevirtual 123, 3) := by decide +kernel
theorem dX7_save_19 : decode cX7_save 19 = .ok (.ifCond .eq 5, 3) := by decide +kernel
theorem dX7_save_22 : decode cX7_save 22 = .ok (.iconst 0, 1) := by decide +kernel
theorem dX7_save_23 : decode cX7_save 23 = .ok (.ireturn, 1) := by decide +kernel
theorem dX7_save_24 : decode cX7_save 24 = .ok (.aload_n 0, 1) := by decide +kernel
theorem dX7_save_25 : decode cX7_save 25 = .ok (.getfield 16, 3) := by decide +kernel
theorem dX7_save_28 : decode cX7_save 28 = .ok (.iconst 0, 1) := by decide +kernel
theorem dX7_save_29 : decode cX7_save 29 = .ok (.aload_n 0, 1) := by decide +kernel
theorem dX7_save_30 : decode cX7_save 30 = .ok (.getfield 25, 3) := by decide +kernel
theorem dX7_save_33 : decode cX7_save 33 = .ok (.sipush 205, 3) := by decide +kernel
theorem dX7_save_36 : decode cX7_save 36 = .ok (.iload_n 1, 1) := by decide +kernel
theorem dX7_save_37 : decode cX7_save 37 = .ok (.imul, 1) := by decide +kernel
theorem dX7_save_38 : decode cX7_save 38 = .ok (.sipush 205, 3) := by decide +kernel
theorem dX7_save_41 : decode cX7_save 41 = .ok (.invokestatic 52, 3) := by decide +kernel
theorem dX7_save_44 : decode cX7_save 44 = .ok (.aload_n 0, 1) := by decide +kernel
theorem dX7_save_45 : decode cX7_save 45 = .ok (.getfield 28, 3) := by decide +kernel
theorem dX7_save_48 : decode cX7_save 48 = .ok (.iload_n 1, 1) := by decide +kernel
theorem dX7_save_49 : decode cX7_save 49 = .ok (.iconst 1, 1) := by decide +kernel
theorem dX7_save_50 : decode cX7_save 50 = .ok (.bastore, 1) := by decide +kernel
theorem dX7_save_51 : decode cX7_save 51 = .ok (.aload_n 0, 1) := by decide +kernel
theorem dX7_save_52 : decode cX7_save 52 = .ok (.getfield 16, 3) := by decide +kernel
theorem dX7_save_55 : decode cX7_save 55 = .ok (.iconst 0, 1) := by decide +kernel
theorem dX7_save_56 : decode cX7_save 56 = .ok (.iaload, 1) := by decide +kernel
theorem dX7_save_57 : decode cX7_save 57 = .ok (.ireturn, 1) := by decide +kernel
theorem dX7_restore_0 : decode cX7_restore 0 = .ok (.aload_n 0, 1) := by decide +kernel
theorem dX7_restore_1 : decode cX7_restore 1 = .ok (.iload_n 1, 1) := by decide +kernel
theorem dX7_restore_2 : decode cX7_restore 2 = .ok (.i2l, 1) := by decide +kernel
theorem dX7_restore_3 : decode cX7_restore 3 = .ok (.lconst 0, 1) := by decide +kernel
theorem dX7_restore_4 : decode cX7_restore 4 = .ok (.lconst 1, 1) := by decide +kernel
theorem dX7_restore_5 : decode cX7_restore 5 = .ok (.invokestatic 116, 3) := by decide +kernel
theorem dX7_restore_8 : decode cX7_restore 8 = .ok (.ifCond .ne 7, 3) := by decide +kernel
theorem dX7_restore_11 : decode cX7_restore 11 = .ok (.iconst 1, 1) := by decide +kernel
theorem dX7_restore_12 : decode cX7_restore 12 = .ok (.goto 17, 3) := by decide +kernel
theorem dX7_restore_15 : decode cX7_restore 15 = .ok (.aload_n 0, 1) := by decide +kernel
theorem dX7_restore_16 : decode cX7_restore 16 = .ok (.getfield 28, 3) := by decide +kernel
theorem dX7_restore_19 : decode cX7_restore 19 = .ok (.iload_n 1, 1) := by decide +kernel
theorem dX7_restore_20 : decode cX7_restore 20 = .ok (.baload, 1) := by decide +kernel
theorem dX7_restore_21 : decode cX7_restore 21 = .ok (.ifCond .eq 7, 3) := by decide +kernel
theorem dX7_restore_24 : decode cX7_restore 24 = .ok (.iconst 0, 1) := by decide +kernel
theorem dX7_restore_25 : decode cX7_restore 25 = .ok (.goto 4, 3) := by decide +kernel
theorem dX7_restore_28 : decode cX7_restore 28 = .ok (.iconst 2, 1) := by decide +kernel
theorem dX7_restore_29 : decode cX7_restore 29 = .ok (.invokevirtual 123, 3) := by decide +kernel
theorem dX7_restore_32 : decode cX7_restore 32 = .ok (.ifCond .eq 5, 3) := by decide +kernel
theorem dX7_restore_35 : decode cX7_restore 35 = .ok (.iconst 0, 1) := by decide +kernel
theorem dX7_restore_36 : decode cX7_restore 36 = .ok (.ireturn, 1) := by decide +kernel
theorem dX7_restore_37 : decode cX7_restore 37 = .ok (.aload_n 0, 1) := by decide +kernel
theorem dX7_restore_38 : decode cX7_restore 38 = .ok (.getfield 25, 3) := by decide +kernel
theorem dX7_restore_41 : decode cX7_restore 41 = .ok (.sipush 205, 3) := by decide +kernel
theorem dX7_restore_44 : decode cX7_restore 44 = .ok (.iload_n 1, 1) := by decide +kernel
theorem dX7_restore_45 : decode cX7_restore 45 = .ok (.imul, 1) := by decide +kernel
theorem dX7_restore_46 : decode cX7_restore 46 = .ok (.aload_n 0, 1) := by decide +kernel
theorem dX7_restore_47 : decode cX7_restore 47 = .ok (.getfield 16, 3) := by decide +kernel
theorem dX7_restore_50 : decode cX7_restore 50 = .ok (.iconst 0, 1) := by decide +kernel
theorem dX7_restore_51 : decode cX7_restore 51 = .ok (.sipush 205, 3) := by decide +kernel
theorem dX7_restore_54 : decode cX7_restore 54 = .ok (.invokestatic 52, 3) := by decide +kernel
theorem dX7_restore_57 : decode cX7_restore 57 = .ok (.aload_n 0, 1) := by decide +kernel
theorem dX7_restore_58 : decode cX7_restore 58 = .ok (.iconst 0, 1) := by decide +kernel
theorem dX7_restore_59 : decode cX7_restore 59 = .ok (.putfield 49, 3) := by decide +kernel
theorem dX7_restore_62 : decode cX7_restore 62 = .ok (.aload_n 0, 1) := by decide +kernel
theorem dX7_restore_63 : decode cX7_restore 63 = .ok (.getfield 16, 3) := by decide +kernel
theorem dX7_restore_66 : decode cX7_restore 66 = .ok (.iconst 0, 1) := by decide +kernel
theorem dX7_restore_67 : decode cX7_restore 67 = .ok (.iaload, 1) := by decide +kernel
theorem dX7_restore_68 : decode cX7_restore 68 = .ok (.ireturn, 1) := by decide +kernel
theorem dJ5_init_d00df_0 : decode cJ5_init_d00df 0 = .ok (.aload_n 0, 1) := by decide +kernel
theorem dJ5_init_d00df_1 : decode cJ5_init_d00df 1 = .ok (.invokespecial 3, 3) := by decide +kernel
theorem dJ5_init_d00df_4 : decode cJ5_init_d00df 4 = .ok (.getstatic 18, 3) := by decide +kernel
theorem dJ5_init_d00df_7 : decode cJ5_init_d00df 7 = .ok (.ifCond .eq 18, 3) := by decide +kernel
theorem dJ5_init_d00df_10 : decode cJ5_init_d00df 10 = .ok (.aload_n 0, 1) := by decide +kernel
theorem dJ5_init_d00df_11 : decode cJ5_init_d00df 11 = .ok (.iload_n 1, 1) := by decide +kernel
theorem dJ5_init_d00df_12 : decode cJ5_init_d00df 12 = .ok (.newarray .byte, 2) := by decide +kernel
theorem dJ5_init_d00df_14 : decode cJ5_init_d00df 14 = .ok (.putfield 15, 3) := by decide +kernel
theorem dJ5_init_d00df_17 : decode cJ5_init_d00df 17 = .ok (.aload_n 0, 1) := by decide +kernel
theorem dJ5_init_d00df_18 : decode cJ5_init_d00df 18 = .ok (.iconst 0, 1) := by decide +kernel
theorem dJ5_init_d00df_19 : decode cJ5_init_d00df 19 = .ok (.putfield 22, 3) := by decide +kernel
theorem dJ5_init_d00df_22 : decode cJ5_init_d00df 22 = .ok (.goto 16, 3) := by decide +kernel
theorem dJ5_init_d00df_25 : decode cJ5_init_d00df 25 = .ok (.aload_n 0, 1) := by decide +kernel
theorem dJ5_init_d00df_26 : decode cJ5_init_d00df 26 = .ok (.iload_n 1, 1) := by decide +kernel
theorem dJ5_init_d00df_27 : decode cJ5_init_d00df 27 = .ok (.invokestatic 26, 3) := by decide +kernel
theorem dJ5_init_d00df_30 : decode cJ5_init_d00df 30 = .ok (.putfield 15, 3) := by decide +kernel
theorem dJ5_init_d00df_33 : decode cJ5_init_d00df 33 = .ok (.aload_n 0, 1) := by decide +kernel
theorem dJ5_init_d00df_34 : decode cJ5_init_d00df 34 = .ok (.iconst 1, 1) := by decide +kernel
theorem dJ5_init_d00df_35 : decode cJ5_init_d00df 35 = .ok (.putfield 22, 3) := by decide +kernel
theorem dJ5_init_d00df_38 : decode cJ5_init_d00df 38 = .ok (.return_, 1) := by decide +kernel
theorem dJ5_length_8abf5_0 : decode cJ5_length_8abf5 0 = .ok (.aload_n 0, 1) := by decide +kernel
theorem dJ5_length_8abf5_1 : decode cJ5_length_8abf5 1 = .ok (.getfield 79, 3) := by decide +kernel
theorem dJ5_length_8abf5_4 : decode cJ5_length_8abf5 4 = .ok (.ireturn, 1) := by decide +kernel
