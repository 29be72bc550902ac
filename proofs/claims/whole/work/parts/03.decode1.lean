theorem d_BF_init_0 : decode b_BF_init 0 = .ok (.aload_n 0, 1) := by decide +kernel
theorem d_BF_init_1 : decode b_BF_init 1 = .ok (.invokespecial 1, 3) := by decide +kernel
theorem d_BF_init_4 : decode b_BF_init 4 = .ok (.aload_n 0, 1) := by decide +kernel
theorem d_BF_init_5 : decode b_BF_init 5 = .ok (.new 7, 3) := by decide +kernel
theorem d_BF_init_8 : decode b_BF_init 8 = .ok (.dup, 1) := by decide +kernel
theorem d_BF_init_9 : decode b_BF_init 9 = .ok (.invokespecial 9, 3) := by decide +kernel
theorem d_BF_init_12 : decode b_BF_init 12 = .ok (.putfield 10, 3) := by decide +kernel
theorem d_BF_init_15 : decode b_BF_init 15 = .ok (.aload_n 0, 1) := by decide +kernel
theorem d_BF_init_16 : decode b_BF_init 16 = .ok (.getstatic 16, 3) := by decide +kernel
theorem d_BF_init_19 : decode b_BF_init 19 = .ok (.invokevirtual 20, 3) := by decide +kernel
theorem d_BF_init_22 : decode b_BF_init 22 = .ok (.checkcast 21, 3) := by decide +kernel
theorem d_BF_init_25 : decode b_BF_init 25 = .ok (.putfield 25, 3) := by decide +kernel
theorem d_BF_init_28 : decode b_BF_init 28 = .ok (.aload_n 0, 1) := by decide +kernel
theorem d_BF_init_29 : decode b_BF_init 29 = .ok (.new 28, 3) := by decide +kernel
theorem d_BF_init_32 : decode b_BF_init 32 = .ok (.dup, 1) := by decide +kernel
theorem d_BF_init_33 : decode b_BF_init 33 = .ok (.invokespecial 30, 3) := by decide +kernel
theorem d_BF_init_36 : decode b_BF_init 36 = .ok (.putfield 31, 3) := by decide +kernel
theorem d_BF_init_39 : decode b_BF_init 39 = .ok (.aload_n 0, 1) := by decide +kernel
theorem d_BF_init_40 : decode b_BF_init 40 = .ok (.iconst 4, 1) := by decide +kernel
theorem d_BF_init_41 : decode b_BF_init 41 = .ok (.newarray .int, 2) := by decide +kernel
theorem d_BF_init_43 : decode b_BF_init 43 = .ok (.putfield 35, 3) := by decide +kernel
theorem d_BF_init_46 : decode b_BF_init 46 = .ok (.return_, 1) := by decide +kernel
theorem d_BF_row_0 : decode b_BF_row 0 = .ok (.iload_n 1, 1) := by decide +kernel
theorem d_BF_row_1 : decode b_BF_row 1 = .ok (.iload_n 2, 1) := by decide +kernel
theorem d_BF_row_2 : decode b_BF_row 2 = .ok (.iload_n 3, 1) := by decide +kernel
theorem d_BF_row_3 : decode b_BF_row 3 = .ok (.iload 4, 2) := by decide +kernel
theorem d_BF_row_5 : decode b_BF_row 5 = .ok (.invokestatic 38, 3) := by decide +kernel
theorem d_BF_row_8 : decode b_BF_row 8 = .ok (.ifCond .eq 26, 3) := by decide +kernel
theorem d_BF_row_11 : decode b_BF_row 11 = .ok (.iload 5, 2) := by decide +kernel
theorem d_BF_row_13 : decode b_BF_row 13 = .ok (.bipush (-100), 2) := by decide +kernel
theorem d_BF_row_15 : decode b_BF_row 15 = .ok (.bipush 100, 2) := by decide +kernel
theorem d_BF_row_17 : decode b_BF_row 17 = .ok (.invokestatic 42, 3) := by decide +kernel
theorem d_BF_row_20 : decode b_BF_row 20 = .ok (.ifCond .eq 14, 3) := by decide +kernel
theorem d_BF_row_23 : decode b_BF_row 23 = .ok (.iload 6, 2) := by decide +kernel
theorem d_BF_row_25 : decode b_BF_row 25 = .ok (.iconst 1, 1) := by decide +kernel
theorem d_BF_row_26 : decode b_BF_row 26 = .ok (.bipush 8, 2) := by decide +kernel
theorem d_BF_row_28 : decode b_BF_row 28 = .ok (.invokestatic 42, 3) := by decide +kernel
theorem d_BF_row_31 : decode b_BF_row 31 = .ok (.ifCond .ne 6, 3) := by decide +kernel
theorem d_BF_row_34 : decode b_BF_row 34 = .ok (.bipush (-2), 2) := by decide +kernel
theorem d_BF_row_36 : decode b_BF_row 36 = .ok (.ireturn, 1) := by decide +kernel
theorem d_BF_row_37 : decode b_BF_row 37 = .ok (.aload_n 0, 1) := by decide +kernel
theorem d_BF_row_38 : decode b_BF_row 38 = .ok (.iload_n 1, 1) := by decide +kernel
theorem d_BF_row_39 : decode b_BF_row 39 = .ok (.iload_n 2, 1) := by decide +kernel
theorem d_BF_row_40 : decode b_BF_row 40 = .ok (.iload_n 3, 1) := by decide +kernel
theorem d_BF_row_41 : decode b_BF_row 41 = .ok (.iload 4, 2) := by decide +kernel
theorem d_BF_row_43 : decode b_BF_row 43 = .ok (.invokevirtual 46, 3) := by decide +kernel
theorem d_BF_row_46 : decode b_BF_row 46 = .ok (.aload_n 0, 1) := by decide +kernel
theorem d_BF_row_47 : decode b_BF_row 47 = .ok (.getfield 10, 3) := by decide +kernel
theorem d_BF_row_50 : decode b_BF_row 50 = .ok (.aload_n 0, 1) := by decide +kernel
theorem d_BF_row_51 : decode b_BF_row 51 = .ok (.getfield 35, 3) := by decide +kernel
theorem d_BF_row_54 : decode b_BF_row 54 = .ok (.iload 5, 2) := by decide +kernel
theorem d_BF_row_56 : decode b_BF_row 56 = .ok (.iload 6, 2) := by decide +kernel
theorem d_BF_row_58 : decode b_BF_row 58 = .ok (.invokevirtual 50, 3) := by decide +kernel
theorem d_BF_row_61 : decode b_BF_row 61 = .ok (.ireturn, 1) := by decide +kernel
theorem d_BF_hold_0 : decode b_BF_hold 0 = .ok (.iload_n 1, 1) := by decide +kernel
theorem d_BF_hold_1 : decode b_BF_hold 1 = .ok (.aload_n 0, 1) := by decide +kernel
theorem d_BF_hold_2 : decode b_BF_hold 2 = .ok (.getfield 10, 3) := by decide +kernel
theorem d_BF_hold_5 : decode b_BF_hold 5 = .ok (.getfield 54, 3) := by decide +kernel
theorem d_BF_hold_8 : decode b_BF_hold 8 = .ok (.invokestatic 58, 3) := by decide +kernel
theorem d_BF_hold_11 : decode b_BF_hold 11 = .ok (.ifCond .eq 12, 3) := by decide +kernel
theorem d_BF_hold_14 : decode b_BF_hold 14 = .ok (.iload_n 2, 1) := by decide +kernel
theorem d_BF_hold_15 : decode b_BF_hold 15 = .ok (.iconst 0, 1) := by decide +kernel
theorem d_BF_hold_16 : decode b_BF_hold 16 = .ok (.iconst 1, 1) := by decide +kernel
theorem d_BF_hold_17 : decode b_BF_hold 17 = .ok (.invokestatic 42, 3) := by decide +kernel
theorem d_BF_hold_20 : decode b_BF_hold 20 = .ok (.ifCond .ne 6, 3) := by decide +kernel
theorem d_BF_hold_23 : decode b_BF_hold 23 = .ok (.bipush (-2), 2) := by decide +kernel
theorem d_BF_hold_25 : decode b_BF_hold 25 = .ok (.ireturn, 1) := by decide +kernel
theorem d_BF_hold_26 : decode b_BF_hold 26 = .ok (.aload_n 0, 1) := by decide +kernel
theorem d_BF_hold_27 : decode b_BF_hold 27 = .ok (.getfield 10, 3) := by decide +kernel
theorem d_BF_hold_30 : decode b_BF_hold 30 = .ok (.getfield 62, 3) := by decide +kernel
theorem d_BF_hold_33 : decode b_BF_hold 33 = .ok (.iload_n 1, 1) := by decide +kernel
theorem d_BF_hold_34 : decode b_BF_hold 34 = .ok (.baload, 1) := by decide +kernel
theorem d_BF_hold_35 : decode b_BF_hold 35 = .ok (.ifCond .eq 7, 3) := by decide +kernel
theorem d_BF_hold_38 : decode b_BF_hold 38 = .ok (.iconst 1, 1) := by decide +kernel
theorem d_BF_hold_39 : decode b_BF_hold 39 = .ok (.goto 4, 3) := by decide +kernel
theorem d_BF_hold_42 : decode b_BF_hold 42 = .ok (.iconst 0, 1) := by decide +kernel
theorem d_BF_hold_43 : decode b_BF_hold 43 = .ok (.istore_n 3, 1) := by decide +kernel
theorem d_BF_hold_44 : decode b_BF_hold 44 = .ok (.aload_n 0, 1) := by decide +kernel
theorem d_BF_hold_45 : decode b_BF_hold 45 = .ok (.getfield 10, 3) := by decide +kernel
theorem d_BF_hold_48 : decode b_BF_hold 48 = .ok (.getfield 62, 3) := by decide +kernel
theorem d_BF_hold_51 : decode b_BF_hold 51 = .ok (.iload_n 1, 1) := by decide +kernel
theorem d_BF_hold_52 : decode b_BF_hold 52 = .ok (.iload_n 2, 1) := by decide +kernel
theorem d_BF_hold_53 : decode b_BF_hold 53 = .ok (.iconst 1, 1) := by decide +kernel
theorem d_BF_hold_54 : decode b_BF_hold 54 = .ok (.if_icmp .ne 7, 3) := by decide +kernel
theorem d_BF_hold_57 : decode b_BF_hold 57 = .ok (.iconst 1, 1) := by decide +kernel
theorem d_BF_hold_58 : decode b_BF_hold 58 = .ok (.goto 4, 3) := by decide +kernel
theorem d_BF_hold_61 : decode b_BF_hold 61 = .ok (.iconst 0, 1) := by decide +kernel
theorem d_BF_hold_62 : decode b_BF_hold 62 = .ok (.bastore, 1) := by decide +kernel
theorem d_BF_hold_63 : decode b_BF_hold 63 = .ok (.iload_n 3, 1) := by decide +kernel
theorem d_BF_hold_64 : decode b_BF_hold 64 = .ok (.ireturn, 1) := by decide +kernel
theorem d_BF_set_0 : decode b_BF_set 0 = .ok (.iload_n 1, 1) := by decide +kernel
theorem d_BF_set_1 : decode b_BF_set 1 = .ok (.bipush 15, 2) := by decide +kernel
theorem d_BF_set_3 : decode b_BF_set 3 = .ok (.invokestatic 58, 3) := by decide +kernel
theorem d_BF_set_6 : decode b_BF_set 6 = .ok (.ifCond .eq 20, 3) := by decide +kernel
theorem d_BF_set_9 : decode b_BF_set 9 = .ok (.iload_n 2, 1) := by decide +kernel
theorem d_BF_set_10 : decode b_BF_set 10 = .ok (.getstatic 66, 3) := by decide +kernel
theorem d_BF_set_13 : decode b_BF_set 13 = .ok (.iload_n 1, 1) := by decide +kernel
theorem d_BF_set_14 : decode b_BF_set 14 = .ok (.iaload, 1) := by decide +kernel
theorem d_BF_set_15 : decode b_BF_set 15 = .ok (.getstatic 69, 3) := by decide +kernel
theorem d_BF_set_18 : decode b_BF_set 18 = .ok (.iload_n 1, 1) := by decide +kernel
theorem d_BF_set_19 : decode b_BF_set 19 = .ok (.iaload, 1) := by decide +kernel
theorem d_BF_set_20 : decode b_BF_set 20 = .ok (.invokestatic 42, 3) := by decide +kernel
theorem d_BF_set_23 : decode b_BF_set 23 = .ok (.ifCond .ne 6, 3) := by decide +kernel
theorem d_BF_set_26 : decode b_BF_set 26 = .ok (.bipush (-2), 2) := by decide +kernel
theorem d_BF_set_28 : decode b_BF_set 28 = .ok (.ireturn, 1) := by decide +kernel
theorem d_BF_set_29 : decode b_BF_set 29 = .ok (.aload_n 0, 1) := by decide +kernel
theorem d_BF_set_30 : decode b_BF_set 30 = .ok (.getfield 25, 3) := by decide +kernel
theorem d_BF_set_33 : decode b_BF_set 33 = .ok (.iload_n 1, 1) := by decide +kernel
theorem d_BF_set_34 : decode b_BF_set 34 = .ok (.iaload, 1) := by decide +kernel
theorem d_BF_set_35 : decode b_BF_set 35 = .ok (.istore_n 3, 1) := by decide +kernel
theorem d_BF_set_36 : decode b_BF_set 36 = .ok (.aload_n 0, 1) := by decide +kernel
theorem d_BF_set_37 : decode b_BF_set 37 = .ok (.getfield 25, 3) := by decide +kernel
theorem d_BF_set_40 : decode b_BF_set 40 = .ok (.iload_n 1, 1) := by decide +kernel
theorem d_BF_set_41 : decode b_BF_set 41 = .ok (.iload_n 2, 1) := by decide +kernel
theorem d_BF_set_42 : decode b_BF_set 42 = .ok (.iastore, 1) := by decide +kernel
theorem d_BF_set_43 : decode b_BF_set 43 = .ok (.iload_n 3, 1) := by decide +kernel
theorem d_BF_set_44 : decode b_BF_set 44 = .ok (.ireturn, 1) := by decide +kernel
theorem d_BF_clear_0 : decode b_BF_clear 0 = .ok (.aload_n 0, 1) := by decide +kernel
theorem d_BF_clear_1 : decode b_BF_clear 1 = .ok (.getfield 10, 3) := by decide +kernel
theorem d_BF_clear_4 : decode b_BF_clear 4 = .ok (.getfield 54, 3) := by decide +kernel
theorem d_BF_clear_7 : decode b_BF_clear 7 = .ok (.istore_n 1, 1) := by decide +kernel
theorem d_BF_clear_8 : decode b_BF_clear 8 = .ok (.aload_n 0, 1) := by decide +kernel
theorem d_BF_clear_9 : decode b_BF_clear 9 = .ok (.getfield 10, 3) := by decide +kernel
theorem d_BF_clear_12 : decode b_BF_clear 12 = .ok (.iconst 0, 1) := by decide +kernel
theorem d_BF_clear_13 : decode b_BF_clear 13 = .ok (.putfield 54, 3) := by decide +kernel
theorem d_BF_clear_16 : decode b_BF_clear 16 = .ok (.iload_n 1, 1) := by decide +kernel
theorem d_BF_clear_17 : decode b_BF_clear 17 = .ok (.ireturn, 1) := by decide +kernel
theorem d_BF_train_0 : decode b_BF_train 0 = .ok (.aload_n 0, 1) := by decide +kernel
theorem d_BF_train_1 : decode b_BF_train 1 = .ok (.getfield 10, 3) := by decide +kernel
theorem d_BF_train_4 : decode b_BF_train 4 = .ok (.invokevirtual 72, 3) := by decide +kernel
theorem d_BF_train_7 : decode b_BF_train 7 = .ok (.aload_n 0, 1) := by decide +kernel
theorem d_BF_train_8 : decode b_BF_train 8 = .ok (.getfield 10, 3) := by decide +kernel
theorem d_BF_train_11 : decode b_BF_train 11 = .ok (.getfield 54, 3) := by decide +kernel
theorem d_BF_train_14 : decode b_BF_train 14 = .ok (.if_icmp .ne 6, 3) := by decide +kernel
theorem d_BF_train_17 : decode b_BF_train 17 = .ok (.bipush (-2), 2) := by decide +kernel
theorem d_BF_train_19 : decode b_BF_train 19 = .ok (.ireturn, 1) := by decide +kernel
theorem d_BF_train_20 : decode b_BF_train 20 = .ok (.aload_n 0, 1) := by decide +kernel
theorem d_BF_train_21 : decode b_BF_train 21 = .ok (.getfield 31, 3) := by decide +kernel
theorem d_BF_train_24 : decode b_BF_train 24 = .ok (.aload_n 0, 1) := by decide +kernel
theorem d_BF_train_25 : decode b_BF_train 25 = .ok (.getfield 10, 3) := by decide +kernel
theorem d_BF_train_28 : decode b_BF_train 28 = .ok (.aload_n 0, 1) := by decide +kernel
theorem d_BF_train_29 : decode b_BF_train 29 = .ok (.getfield 25, 3) := by decide +kernel
theorem d_BF_train_32 : decode b_BF_train 32 = .ok (.invokevirtual 76, 3) := by decide +kernel
theorem d_BF_train_35 : decode b_BF_train 35 = .ok (.aload_n 0, 1) := by decide +kernel
theorem d_BF_train_36 : decode b_BF_train 36 = .ok (.getfield 31, 3) := by decide +kernel
theorem d_BF_train_39 : decode b_BF_train 39 = .ok (.getfield 80, 3) := by decide +kernel
theorem d_BF_train_42 : decode b_BF_train 42 = .ok (.ireturn, 1) := by decide +kernel
theorem d_BF_node_0 : decode b_BF_node 0 = .ok (.aload_n 0, 1) := by decide +kernel
theorem d_BF_node_1 : decode b_BF_node 1 = .ok (.iload_n 1, 1) := by decide +kernel
theorem d_BF_node_2 : decode b_BF_node 2 = .ok (.iload_n 2, 1) := by decide +kernel
theorem d_BF_node_3 : decode b_BF_node 3 = .ok (.invokevirtual 83, 3) := by decide +kernel
theorem d_BF_node_6 : decode b_BF_node 6 = .ok (.ifCond .eq 12, 3) := by decide +kernel
theorem d_BF_node_9 : decode b_BF_node 9 = .ok (.iload_n 3, 1) := by decide +kernel
theorem d_BF_node_10 : decode b_BF_node 10 = .ok (.bipush 7, 2) := by decide +kernel
theorem d_BF_node_12 : decode b_BF_node 12 = .ok (.invokestatic 58, 3) := by decide +kernel
theorem d_BF_node_15 : decode b_BF_node 15 = .ok (.ifCond .ne 6, 3) := by decide +kernel
theorem d_BF_node_18 : decode b_BF_node 18 = .ok (.bipush (-2), 2) := by decide +kernel
theorem d_BF_node_20 : decode b_BF_node 20 = .ok (.ireturn, 1) := by decide +kernel
theorem d_BF_node_21 : decode b_BF_node 21 = .ok (.aload_n 0, 1) := by decide +kernel
theorem d_BF_node_22 : decode b_BF_node 22 = .ok (.getfield 31, 3) := by decide +kernel
theorem d_BF_node_25 : decode b_BF_node 25 = .ok (.getfield 86, 3) := by decide +kernel
theorem d_BF_node_28 : decode b_BF_node 28 = .ok (.iload_n 1, 1) := by decide +kernel
theorem d_BF_node_29 : decode b_BF_node 29 = .ok (.aaload, 1) := by decide +kernel
theorem d_BF_node_30 : decode b_BF_node 30 = .ok (.getfield 90, 3) := by decide +kernel
theorem d_BF_node_33 : decode b_BF_node 33 = .ok (.iload_n 3, 1) := by decide +kernel
theorem d_BF_node_34 : decode b_BF_node 34 = .ok (.aaload, 1) := by decide +kernel
theorem d_BF_node_35 : decode b_BF_node 35 = .ok (.iload_n 2, 1) := by decide +kernel
theorem d_BF_node_36 : decode b_BF_node 36 = .ok (.iaload, 1) := by decide +kernel
theorem d_BF_node_37 : decode b_BF_node 37 = .ok (.ireturn, 1) := by decide +kernel
theorem d_BF_sum_0 : decode b_BF_sum 0 = .ok (.aload_n 0, 1) := by decide +kernel
theorem d_BF_sum_1 : decode b_BF_sum 1 = .ok (.iload_n 1, 1) := by decide +kernel
theorem d_BF_sum_2 : decode b_BF_sum 2 = .ok (.iload_n 2, 1) := by decide +kernel
theorem d_BF_sum_3 : decode b_BF_sum 3 = .ok (.invokevirtual 83, 3) := by decide +kernel
theorem d_BF_sum_6 : decode b_BF_sum 6 = .ok (.ifCond .eq 11, 3) := by decide +kernel
theorem d_BF_sum_9 : decode b_BF_sum 9 = .ok (.iload_n 3, 1) := by decide +kernel
theorem d_BF_sum_10 : decode b_BF_sum 10 = .ok (.iconst 3, 1) := by decide +kernel
theorem d_BF_sum_11 : decode b_BF_sum 11 = .ok (.invokestatic 58, 3) := by decide +kernel
theorem d_BF_sum_14 : decode b_BF_sum 14 = .ok (.ifCond .ne 5, 3) := by decide +kernel
theorem d_BF_sum_17 : decode b_BF_sum 17 = .ok (.lconst 0, 1) := by decide +kernel
theorem d_BF_sum_18 : decode b_BF_sum 18 = .ok (.lreturn, 1) := by decide +kernel
theorem d_BF_sum_19 : decode b_BF_sum 19 = .ok (.aload_n 0, 1) := by decide +kernel
theorem d_BF_sum_20 : decode b_BF_sum 20 = .ok (.getfield 31, 3) := by decide +kernel
theorem d_BF_sum_23 : decode b_BF_sum 23 = .ok (.getfield 86, 3) := by decide +kernel
theorem d_BF_sum_26 : decode b_BF_sum 26 = .ok (.iload_n 1, 1) := by decide +kernel
theorem d_BF_sum_27 : decode b_BF_sum 27 = .ok (.aaload, 1) := by decide +kernel
theorem d_BF_sum_28 : decode b_BF_sum 28 = .ok (.getfield 96, 3) := by decide +kernel
theorem d_BF_sum_31 : decode b_BF_sum 31 = .ok (.iload_n 3, 1) := by decide +kernel
theorem d_BF_sum_32 : decode b_BF_sum 32 = .ok (.aaload, 1) := by decide +kernel
theorem d_BF_sum_33 : decode b_BF_sum 33 = .ok (.iload_n 2, 1) := by decide +kernel
theorem d_BF_sum_34 : decode b_BF_sum 34 = .ok (.laload, 1) := by decide +kernel
theorem d_BF_sum_35 : decode b_BF_sum 35 = .ok (.lreturn, 1) := by decide +kernel
theorem d_BF_size_0 : decode b_BF_size 0 = .ok (.iload_n 1, 1) := by decide +kernel
theorem d_BF_size_1 : decode b_BF_size 1 = .ok (.aload_n 0, 1) := by decide +kernel
theorem d_BF_size_2 : decode b_BF_size 2 = .ok (.getfield 31, 3) := by decide +kernel
theorem d_BF_size_5 : decode b_BF_size 5 = .ok (.getfield 80, 3) := by decide +kernel
theorem d_BF_size_8 : decode b_BF_size 8 = .ok (.invokestatic 58, 3) := by decide +kernel
theorem d_BF_size_11 : decode b_BF_size 11 = .ok (.ifCond .eq 18, 3) := by decide +kernel
theorem d_BF_size_14 : decode b_BF_size 14 = .ok (.aload_n 0, 1) := by decide +kernel
theorem d_BF_size_15 : decode b_BF_size 15 = .ok (.getfield 31, 3) := by decide +kernel
theorem d_BF_size_18 : decode b_BF_size 18 = .ok (.getfield 86, 3) := by decide +kernel
theorem d_BF_size_21 : decode b_BF_size 21 = .ok (.iload_n 1, 1) := by decide +kernel
theorem d_BF_size_22 : decode b_BF_size 22 = .ok (.aaload, 1) := by decide +kernel
theorem d_BF_size_23 : decode b_BF_size 23 = .ok (.getfield 100, 3) := by decide +kernel
theorem d_BF_size_26 : decode b_BF_size 26 = .ok (.goto 5, 3) := by decide +kernel
theorem d_BF_size_29 : decode b_BF_size 29 = .ok (.bipush (-2), 2) := by decide +kernel
theorem d_BF_size_31 : decode b_BF_size 31 = .ok (.ireturn, 1) := by decide +kernel
theorem d_BF_leaf_0 : decode b_BF_leaf 0 = .ok (.iload_n 1, 1) := by decide +kernel
theorem d_BF_leaf_1 : decode b_BF_leaf 1 = .ok (.aload_n 0, 1) := by decide +kernel
theorem d_BF_leaf_2 : decode b_BF_leaf 2 = .ok (.getfield 31, 3) := by decide +kernel
theorem d_BF_leaf_5 : decode b_BF_leaf 5 = .ok (.getfield 80, 3) := by decide +kernel
theorem d_BF_leaf_8 : decode b_BF_leaf 8 = .ok (.invokestatic 58, 3) := by decide +kernel
theorem d_BF_leaf_11 : decode b_BF_leaf 11 = .ok (.ifCond .eq 15, 3) := by decide +kernel
theorem d_BF_leaf_14 : decode b_BF_leaf 14 = .ok (.iload_n 2, 1) := by decide +kernel
theorem d_BF_leaf_15 : decode b_BF_leaf 15 = .ok (.iload_n 3, 1) := by decide +kernel
theorem d_BF_leaf_16 : decode b_BF_leaf 16 = .ok (.iload 4, 2) := by decide +kernel
theorem d_BF_leaf_18 : decode b_BF_leaf 18 = .ok (.iload 5, 2) := by decide +kernel
theorem d_BF_leaf_20 : decode b_BF_leaf 20 = .ok (.invokestatic 38, 3) := by decide +kernel
theorem d_BF_leaf_23 : decode b_BF_leaf 23 = .ok (.ifCond .ne 6, 3) := by decide +kernel
theorem d_BF_leaf_26 : decode b_BF_leaf 26 = .ok (.bipush (-2), 2) := by decide +kernel
theorem d_BF_leaf_28 : decode b_BF_leaf 28 = .ok (.ireturn, 1) := by decide +kernel
theorem d_BF_leaf_29 : decode b_BF_leaf 29 = .ok (.aload_n 0, 1) := by decide +kernel
theorem d_BF_leaf_30 : decode b_BF_leaf 30 = .ok (.iload_n 2, 1) := by decide +kernel
theorem d_BF_leaf_31 : decode b_BF_leaf 31 = .ok (.iload_n 3, 1) := by decide +kernel
theorem d_BF_leaf_32 : decode b_BF_leaf 32 = .ok (.iload 4, 2) := by decide +kernel
theorem d_BF_leaf_34 : decode b_BF_leaf 34 = .ok (.iload 5, 2) := by decide +kernel
theorem d_BF_leaf_36 : decode b_BF_leaf 36 = .ok (.invokevirtual 46, 3) := by decide +kernel
theorem d_BF_leaf_39 : decode b_BF_leaf 39 = .ok (.aload_n 0, 1) := by decide +kernel
theorem d_BF_leaf_40 : decode b_BF_leaf 40 = .ok (.getfield 31, 3) := by decide +kernel
theorem d_BF_leaf_43 : decode b_BF_leaf 43 = .ok (.getfield 86, 3) := by decide +kernel
theorem d_BF_leaf_46 : decode b_BF_leaf 46 = .ok (.iload_n 1, 1) := by decide +kernel
theorem d_BF_leaf_47 : decode b_BF_leaf 47 = .ok (.aaload, 1) := by decide +kernel
theorem d_BF_leaf_48 : decode b_BF_leaf 48 = .ok (.aload_n 0, 1) := by decide +kernel
theorem d_BF_leaf_49 : decode b_BF_leaf 49 = .ok (.getfield 35, 3) := by decide +kernel
theorem d_BF_leaf_52 : decode b_BF_leaf 52 = .ok (.invokevirtual 103, 3) := by decide +kernel
theorem d_BF_leaf_55 : decode b_BF_leaf 55 = .ok (.ireturn, 1) := by decide +kernel
theorem d_BF_answer_0 : decode b_BF_answer 0 = .ok (.aload_n 0, 1) := by decide +kernel
theorem d_BF_answer_1 : decode b_BF_answer 1 = .ok (.getfield 31, 3) := by decide +kernel
theorem d_BF_answer_4 : decode b_BF_answer 4 = .ok (.getfield 107, 3) := by decide +kernel
theorem d_BF_answer_7 : decode b_BF_answer 7 = .ok (.ifCond .eq 30, 3) := by decide +kernel
theorem d_BF_answer_10 : decode b_BF_answer 10 = .ok (.iload_n 1, 1) := by decide +kernel
theorem d_BF_answer_11 : decode b_BF_answer 11 = .ok (.iconst 0, 1) := by decide +kernel
theorem d_BF_answer_12 : decode b_BF_answer 12 = .ok (.aload_n 0, 1) := by decide +kernel
theorem d_BF_answer_13 : decode b_BF_answer 13 = .ok (.getfield 31, 3) := by decide +kernel
theorem d_BF_answer_16 : decode b_BF_answer 16 = .ok (.getfield 80, 3) := by decide +kernel
theorem d_BF_answer_19 : decode b_BF_answer 19 = .ok (.invokestatic 42, 3) := by decide +kernel
theorem d_BF_answer_22 : decode b_BF_answer 22 = .ok (.ifCond .eq 15, 3) := by decide +kernel
theorem d_BF_answer_25 : decode b_BF_answer 25 = .ok (.iload_n 2, 1) := by decide +kernel
theorem d_BF_answer_26 : decode b_BF_answer 26 = .ok (.iload_n 3, 1) := by decide +kernel
theorem d_BF_answer_27 : decode b_BF_answer 27 = .ok (.iload 4, 2) := by decide +kernel
theorem d_BF_answer_29 : decode b_BF_answer 29 = .ok (.iload 5, 2) := by decide +kernel
theorem d_BF_answer_31 : decode b_BF_answer 31 = .ok (.invokestatic 38, 3) := by decide +kernel
theorem d_BF_answer_34 : decode b_BF_answer 34 = .ok (.ifCond .ne 5, 3) := by decide +kernel
theorem d_BF_answer_37 : decode b_BF_answer 37 = .ok (.lconst 0, 1) := by decide +kernel
theorem d_BF_answer_38 : decode b_BF_answer 38 = .ok (.lreturn, 1) := by decide +kernel
theorem d_BF_answer_39 : decode b_BF_answer 39 = .ok (.aload_n 0, 1) := by decide +kernel
theorem d_BF_answer_40 : decode b_BF_answer 40 = .ok (.iload_n 2, 1) := by decide +kernel
theorem d_BF_answer_41 : decode b_BF_answer 41 = .ok (.iload_n 3, 1) := by decide +kernel
theorem d_BF_answer_42 : decode b_BF_answer 42 = .ok (.iload 4, 2) := by decide +kernel
theorem d_BF_answer_44 : decode b_BF_answer 44 = .ok (.iload 5, 2) := by decide +kernel
theorem d_BF_answer_46 : decode b_BF_answer 46 = .ok (.invokevirtual 46, 3) := by decide +kernel
theorem d_BF_answer_49 : decode b_BF_answer 49 = .ok (.aload_n 0, 1) := by decide +kernel
theorem d_BF_answer_50 : decode b_BF_answer 50 = .ok (.getfield 31, 3) := by decide +kernel
theorem d_BF_answer_53 : decode b_BF_answer 53 = .ok (.iload_n 1, 1) := by decide +kernel
theorem d_BF_answer_54 : decode b_BF_answer 54 = .ok (.aload_n 0, 1) := by decide +kernel
theorem d_BF_answer_55 : decode b_BF_answer 55 = .ok (.getfield 35, 3) := by decide +kernel
theorem d_BF_answer_58 : decode b_BF_answer 58 = .ok (.invokevirtual 111, 3) := by decide +kernel
theorem d_BF_answer_61 : decode b_BF_answer 61 = .ok (.lreturn, 1) := by decide +kernel
theorem d_BF_loss_0 : decode b_BF_loss 0 = .ok (.aload_n 0, 1) := by decide +kernel
theorem d_BF_loss_1 : decode b_BF_loss 1 = .ok (.getfield 31, 3) := by decide +kernel
theorem d_BF_loss_4 : decode b_BF_loss 4 = .ok (.getfield 107, 3) := by decide +kernel
theorem d_BF_loss_7 : decode b_BF_loss 7 = .ok (.ifCond .eq 27, 3) := by decide +kernel
theorem d_BF_loss_10 : decode b_BF_loss 10 = .ok (.iload_n 1, 1) := by decide +kernel
theorem d_BF_loss_11 : decode b_BF_loss 11 = .ok (.iconst 0, 1) := by decide +kernel
theorem d_BF_loss_12 : decode b_BF_loss 12 = .ok (.aload_n 0, 1) := by decide +kernel
theorem d_BF_loss_13 : decode b_BF_loss 13 = .ok (.getfield 31, 3) := by decide +kernel
theorem d_BF_loss_16 : decode b_BF_loss 16 = .ok (.getfield 80, 3) := by decide +kernel
theorem d_BF_loss_19 : decode b_BF_loss 19 = .ok (.invokestatic 42, 3) := by decide +kernel
theorem d_BF_loss_22 : decode b_BF_loss 22 = .ok (.ifCond .eq 12, 3) := by decide +kernel
theorem d_BF_loss_25 : decode b_BF_loss 25 = .ok (.iload_n 2, 1) := by decide +kernel
theorem d_BF_loss_26 : decode b_BF_loss 26 = .ok (.iconst 0, 1) := by decide +kernel
theorem d_BF_loss_27 : decode b_BF_loss 27 = .ok (.iconst 1, 1) := by decide +kernel
theorem d_BF_loss_28 : decode b_BF_loss 28 = .ok (.invokestatic 42, 3) := by decide +kernel
theorem d_BF_loss_31 : decode b_BF_loss 31 = .ok (.ifCond .ne 7, 3) := by decide +kernel
theorem d_BF_loss_34 : decode b_BF_loss 34 = .ok (.ldc2_w 115, 3) := by decide +kernel
theorem d_BF_loss_37 : decode b_BF_loss 37 = .ok (.lreturn, 1) := by decide +kernel
theorem d_BF_loss_38 : decode b_BF_loss 38 = .ok (.aload_n 0, 1) := by decide +kernel
theorem d_BF_loss_39 : decode b_BF_loss 39 = .ok (.getfield 31, 3) := by decide +kernel
theorem d_BF_loss_42 : decode b_BF_loss 42 = .ok (.getfield 117, 3) := by decide +kernel
theorem d_BF_loss_45 : decode b_BF_loss 45 = .ok (.iload_n 2, 1) := by decide +kernel
theorem d_BF_loss_46 : decode b_BF_loss 46 = .ok (.aaload, 1) := by decide +kernel
theorem d_BF_loss_47 : decode b_BF_loss 47 = .ok (.iload_n 1, 1) := by decide +kernel
theorem d_BF_loss_48 : decode b_BF_loss 48 = .ok (.laload, 1) := by decide +kernel
theorem d_BF_loss_49 : decode b_BF_loss 49 = .ok (.lreturn, 1) := by decide +kernel
theorem d_BF_best_0 : decode b_BF_best 0 = .ok (.aload_n 0, 1) := by decide +kernel
theorem d_BF_best_1 : decode b_BF_best 1 = .ok (.getfield 31, 3) := by decide +kernel
theorem d_BF_best_4 : decode b_BF_best 4 = .ok (.getfield 107, 3) := by decide +kernel
theorem d_BF_best_7 : decode b_BF_best 7 = .ok (.ifCond .eq 13, 3) := by decide +kernel
theorem d_BF_best_10 : decode b_BF_best 10 = .ok (.aload_n 0, 1) := by decide +kernel
theorem d_BF_best_11 : decode b_BF_best 11 = .ok (.getfield 31, 3) := by decide +kernel
theorem d_BF_best_14 : decode b_BF_best 14 = .ok (.invokevirtual 120, 3) := by decide +kernel
theorem d_BF_best_17 : decode b_BF_best 17 = .ok (.goto 5, 3) := by decide +kernel
theorem d_BF_best_20 : decode b_BF_best 20 = .ok (.bipush (-2), 2) := by decide +kernel
theorem d_BF_best_22 : decode b_BF_best 22 = .ok (.ireturn, 1) := by decide +kernel
theorem d_BF_without_0 : decode b_BF_without 0 = .ok (.aload_n 0, 1) := by decide +kernel
theorem d_BF_without_1 : decode b_BF_without 1 = .ok (.iload_n 1, 1) := by decide +kernel
theorem d_BF_without_2 : decode b_BF_without 2 = .ok (.invokevirtual 123, 3) := by decide +kernel
theorem d_BF_without_5 : decode b_BF_without 5 = .ok (.ifCond .eq 14, 3) := by decide +kernel
theorem d_BF_without_8 : decode b_BF_without 8 = .ok (.aload_n 0, 1) := by decide +kernel
theorem d_BF_without_9 : decode b_BF_without 9 = .ok (.getfield 31, 3) := by decide +kernel
theorem d_BF_without_12 : decode b_BF_without 12 = .ok (.iload_n 1, 1) := by decide +kernel
theorem d_BF_without_13 : decode b_BF_without 13 = .ok (.invokevirtual 127, 3) := by decide +kernel
theorem d_BF_without_16 : decode b_BF_without 16 = .ok (.goto 4, 3) := by decide +kernel
theorem d_BF_without_19 : decode b_BF_without 19 = .ok (.lconst 0, 1) := by decide +kernel
theorem d_BF_without_20 : decode b_BF_without 20 = .ok (.lreturn, 1) := by decide +kernel
theorem d_BF_took_0 : decode b_BF_took 0 = .ok (.aload_n 0, 1) := by decide +kernel
theorem d_BF_took_1 : decode b_BF_took 1 = .ok (.iload_n 1, 1) := by decide +kernel
theorem d_BF_took_2 : decode b_BF_took 2 = .ok (.invokevirtual 123, 3) := by decide +kernel
theorem d_BF_took_5 : decode b_BF_took 5 = .ok (.ifCond .eq 18, 3) := by decide +kernel
theorem d_BF_took_8 : decode b_BF_took 8 = .ok (.aload_n 0, 1) := by decide +kernel
theorem d_BF_took_9 : decode b_BF_took 9 = .ok (.getfield 31, 3) := by decide +kernel
theorem d_BF_took_12 : decode b_BF_took 12 = .ok (.getfield 131, 3) := by decide +kernel
theorem d_BF_took_15 : decode b_BF_took 15 = .ok (.iload_n 1, 1) := by decide +kernel
theorem d_BF_took_16 : decode b_BF_took 16 = .ok (.iaload, 1) := by decide +kernel
theorem d_BF_took_17 : decode b_BF_took 17 = .ok (.invokestatic 134, 3) := by decide +kernel
theorem d_BF_took_20 : decode b_BF_took 20 = .ok (.goto 5, 3) := by decide +kernel
theorem d_BF_took_23 : decode b_BF_took 23 = .ok (.bipush (-2), 2) := by decide +kernel
theorem d_BF_took_25 : decode b_BF_took 25 = .ok (.ireturn, 1) := by decide +kernel
theorem d_BF_gain_0 : decode b_BF_gain 0 = .ok (.iload_n 1, 1) := by decide +kernel
theorem d_BF_gain_1 : decode b_BF_gain 1 = .ok (.iconst 4, 1) := by decide +kernel
theorem d_BF_gain_2 : decode b_BF_gain 2 = .ok (.invokestatic 58, 3) := by decide +kernel
theorem d_BF_gain_5 : decode b_BF_gain 5 = .ok (.ifCond .eq 14, 3) := by decide +kernel
theorem d_BF_gain_8 : decode b_BF_gain 8 = .ok (.aload_n 0, 1) := by decide +kernel
theorem d_BF_gain_9 : decode b_BF_gain 9 = .ok (.getfield 31, 3) := by decide +kernel
theorem d_BF_gain_12 : decode b_BF_gain 12 = .ok (.iload_n 1, 1) := by decide +kernel
theorem d_BF_gain_13 : decode b_BF_gain 13 = .ok (.invokevirtual 140, 3) := by decide +kernel
theorem d_BF_gain_16 : decode b_BF_gain 16 = .ok (.goto 4, 3) := by decide +kernel
theorem d_BF_gain_19 : decode b_BF_gain 19 = .ok (.lconst 0, 1) := by decide +kernel
theorem d_BF_gain_20 : decode b_BF_gain 20 = .ok (.lreturn, 1) := by decide +kernel
theorem d_BF_told_0 : decode b_BF_told 0 = .ok (.aload_n 0, 1) := by decide +kernel
theorem d_BF_told_1 : decode b_BF_told 1 = .ok (.getfield 31, 3) := by decide +kernel
theorem d_BF_told_4 : decode b_BF_told 4 = .ok (.getfield 107, 3) := by decide +kernel
theorem d_BF_told_7 : decode b_BF_told 7 = .ok (.ifCond .eq 24, 3) := by decide +kernel
theorem d_BF_told_10 : decode b_BF_told 10 = .ok (.iload_n 1, 1) := by decide +kernel
theorem d_BF_told_11 : decode b_BF_told 11 = .ok (.bipush 16, 2) := by decide +kernel
theorem d_BF_told_13 : decode b_BF_told 13 = .ok (.invokestatic 58, 3) := by decide +kernel
theorem d_BF_told_16 : decode b_BF_told 16 = .ok (.ifCond .eq 15, 3) := by decide +kernel
theorem d_BF_told_19 : decode b_BF_told 19 = .ok (.iload_n 2, 1) := by decide +kernel
theorem d_BF_told_20 : decode b_BF_told 20 = .ok (.iload_n 3, 1) := by decide +kernel
theorem d_BF_told_21 : decode b_BF_told 21 = .ok (.iload 4, 2) := by decide +kernel
theorem d_BF_told_23 : decode b_BF_told 23 = .ok (.iload 5, 2) := by decide +kernel
theorem d_BF_told_25 : decode b_BF_told 25 = .ok (.invokestatic 38, 3) := by decide +kernel
theorem d_BF_told_28 : decode b_BF_told 28 = .ok (.ifCond .ne 5, 3) := by decide +kernel
theorem d_BF_told_31 : decode b_BF_told 31 = .ok (.lconst 0, 1) := by decide +kernel
theorem d_BF_told_32 : decode b_BF_told 32 = .ok (.lreturn, 1) := by decide +kernel
theorem d_BF_told_33 : decode b_BF_told 33 = .ok (.aload_n 0, 1) := by decide +kernel
theorem d_BF_told_34 : decode b_BF_told 34 = .ok (.iload_n 2, 1) := by decide +kernel
theorem d_BF_told_35 : decode b_BF_told 35 = .ok (.iload_n 3, 1) := by decide +kernel
theorem d_BF_told_36 : decode b_BF_told 36 = .ok (.iload 4, 2) := by decide +kernel
theorem d_BF_told_38 : decode b_BF_told 38 = .ok (.iload 5, 2) := by decide +kernel
theorem d_BF_told_40 : decode b_BF_told 40 = .ok (.invokevirtual 46, 3) := by decide +kernel
theorem d_BF_told_43 : decode b_BF_told 43 = .ok (.aload_n 0, 1) := by decide +kernel
theorem d_BF_told_44 : decode b_BF_told 44 = .ok (.getfield 31, 3) := by decide +kernel
theorem d_BF_told_47 : decode b_BF_told 47 = .ok (.iload_n 1, 1) := by decide +kernel
theorem d_BF_told_48 : decode b_BF_told 48 = .ok (.aload_n 0, 1) := by decide +kernel
theorem d_BF_told_49 : decode b_BF_told 49 = .ok (.getfield 35, 3) := by decide +kernel
theorem d_BF_told_52 : decode b_BF_told 52 = .ok (.invokevirtual 143, 3) := by decide +kernel
theorem d_BF_told_55 : decode b_BF_told 55 = .ok (.lreturn, 1) := by decide +kernel
theorem d_BF_share_0 : decode b_BF_share 0 = .ok (.aload_n 0, 1) := by decide +kernel
theorem d_BF_share_1 : decode b_BF_share 1 = .ok (.getfield 31, 3) := by decide +kernel
theorem d_BF_share_4 : decode b_BF_share 4 = .ok (.getfield 107, 3) := by decide +kernel
theorem d_BF_share_7 : decode b_BF_share 7 = .ok (.ifCond .eq 23, 3) := by decide +kernel
theorem d_BF_share_10 : decode b_BF_share 10 = .ok (.iload_n 1, 1) := by decide +kernel
theorem d_BF_share_11 : decode b_BF_share 11 = .ok (.iconst 4, 1) := by decide +kernel
theorem d_BF_share_12 : decode b_BF_share 12 = .ok (.invokestatic 58, 3) := by decide +kernel
theorem d_BF_share_15 : decode b_BF_share 15 = .ok (.ifCond .eq 15, 3) := by decide +kernel
theorem d_BF_share_18 : decode b_BF_share 18 = .ok (.iload_n 2, 1) := by decide +kernel
theorem d_BF_share_19 : decode b_BF_share 19 = .ok (.iload_n 3, 1) := by decide +kernel
theorem d_BF_share_20 : decode b_BF_share 20 = .ok (.iload 4, 2) := by decide +kernel
theorem d_BF_share_22 : decode b_BF_share 22 = .ok (.iload 5, 2) := by decide +kernel
theorem d_BF_share_24 : decode b_BF_share 24 = .ok (.invokestatic 38, 3) := by decide +kernel
theorem d_BF_share_27 : decode b_BF_share 27 = .ok (.ifCond .ne 5, 3) := by decide +kernel
theorem d_BF_share_30 : decode b_BF_share 30 = .ok (.lconst 0, 1) := by decide +kernel
theorem d_BF_share_31 : decode b_BF_share 31 = .ok (.lreturn, 1) := by decide +kernel
theorem d_BF_share_32 : decode b_BF_share 32 = .ok (.aload_n 0, 1) := by decide +kernel
theorem d_BF_share_33 : decode b_BF_share 33 = .ok (.iload_n 2, 1) := by decide +kernel
theorem d_BF_share_34 : decode b_BF_share 34 = .ok (.iload_n 3, 1) := by decide +kernel
theorem d_BF_share_35 : decode b_BF_share 35 = .ok (.iload 4, 2) := by decide +kernel
theorem d_BF_share_37 : decode b_BF_share 37 = .ok (.iload 5, 2) := by decide +kernel
theorem d_BF_share_39 : decode b_BF_share 39 = .ok (.invokevirtual 46, 3) := by decide +kernel
theorem d_BF_share_42 : decode b_BF_share 42 = .ok (.aload_n 0, 1) := by decide +kernel
theorem d_BF_share_43 : decode b_BF_share 43 = .ok (.getfield 31, 3) := by decide +kernel
theorem d_BF_share_46 : decode b_BF_share 46 = .ok (.iload_n 1, 1) := by decide +kernel
theorem d_BF_share_47 : decode b_BF_share 47 = .ok (.aload_n 0, 1) := by decide +kernel
theorem d_BF_share_48 : decode b_BF_share 48 = .ok (.getfield 35, 3) := by decide +kernel
theorem d_BF_share_51 : decode b_BF_share 51 = .ok (.invokevirtual 146, 3) := by decide +kernel
theorem d_BF_share_54 : decode b_BF_share 54 = .ok (.lreturn, 1) := by decide +kernel
theorem d_BF_count_0 : decode b_BF_count 0 = .ok (.iload_n 1, 1) := by decide +kernel
theorem d_BF_count_1 : decode b_BF_count 1 = .ok (.tableswitch 80 0 3 #[31, 39, 47, 55], 31) := by decide +kernel
theorem d_BF_count_32 : decode b_BF_count 32 = .ok (.aload_n 0, 1) := by decide +kernel
theorem d_BF_count_33 : decode b_BF_count 33 = .ok (.getfield 10, 3) := by decide +kernel
theorem d_BF_count_36 : decode b_BF_count 36 = .ok (.getfield 54, 3) := by decide +kernel
theorem d_BF_count_39 : decode b_BF_count 39 = .ok (.ireturn, 1) := by decide +kernel
theorem d_BF_count_40 : decode b_BF_count 40 = .ok (.aload_n 0, 1) := by decide +kernel
theorem d_BF_count_41 : decode b_BF_count 41 = .ok (.getfield 10, 3) := by decide +kernel
theorem d_BF_count_44 : decode b_BF_count 44 = .ok (.invokevirtual 72, 3) := by decide +kernel
theorem d_BF_count_47 : decode b_BF_count 47 = .ok (.ireturn, 1) := by decide +kernel
theorem d_BF_count_48 : decode b_BF_count 48 = .ok (.aload_n 0, 1) := by decide +kernel
theorem d_BF_count_49 : decode b_BF_count 49 = .ok (.getfield 31, 3) := by decide +kernel
theorem d_BF_count_52 : decode b_BF_count 52 = .ok (.getfield 80, 3) := by decide +kernel
theorem d_BF_count_55 : decode b_BF_count 55 = .ok (.ireturn, 1) := by decide +kernel
theorem d_BF_count_56 : decode b_BF_count 56 = .ok (.aload_n 0, 1) := by decide +kernel
theorem d_BF_count_57 : decode b_BF_count 57 = .ok (.getfield 31, 3) := by decide +kernel
theorem d_BF_count_60 : decode b_BF_count 60 = .ok (.getfield 107, 3) := by decide +kernel
theorem d_BF_count_63 : decode b_BF_count 63 = .ok (.ifCond .eq 16, 3) := by decide +kernel
theorem d_BF_count_66 : decode b_BF_count 66 = .ok (.aload_n 0, 1) := by decide +kernel
theorem d_BF_count_67 : decode b_BF_count 67 = .ok (.getfield 31, 3) := by decide +kernel
theorem d_BF_count_70 : decode b_BF_count 70 = .ok (.getfield 149, 3) := by decide +kernel
theorem d_BF_count_73 : decode b_BF_count 73 = .ok (.getfield 54, 3) := by decide +kernel
theorem d_BF_count_76 : decode b_BF_count 76 = .ok (.goto 4, 3) := by decide +kernel
theorem d_BF_count_79 : decode b_BF_count 79 = .ok (.iconst 0, 1) := by decide +kernel
theorem d_BF_count_80 : decode b_BF_count 80 = .ok (.ireturn, 1) := by decide +kernel
theorem d_BF_count_81 : decode b_BF_count 81 = .ok (.iload_n 1, 1) := by decide +kernel
theorem d_BF_count_82 : decode b_BF_count 82 = .ok (.iconst 4, 1) := by decide +kernel
theorem d_BF_count_83 : decode b_BF_count 83 = .ok (.bipush 18, 2) := by decide +kernel
theorem d_BF_count_85 : decode b_BF_count 85 = .ok (.invokestatic 42, 3) := by decide +kernel
theorem d_BF_count_88 : decode b_BF_count 88 = .ok (.ifCond .eq 14, 3) := by decide +kernel
theorem d_BF_count_91 : decode b_BF_count 91 = .ok (.aload_n 0, 1) := by decide +kernel
theorem d_BF_count_92 : decode b_BF_count 92 = .ok (.getfield 25, 3) := by decide +kernel
theorem d_BF_count_95 : decode b_BF_count 95 = .ok (.iload_n 1, 1) := by decide +kernel
theorem d_BF_count_96 : decode b_BF_count 96 = .ok (.iconst 4, 1) := by decide +kernel
theorem d_BF_count_97 : decode b_BF_count 97 = .ok (.isub, 1) := by decide +kernel
theorem d_BF_count_98 : decode b_BF_count 98 = .ok (.iaload, 1) := by decide +kernel
theorem d_BF_count_99 : decode b_BF_count 99 = .ok (.goto 5, 3) := by decide +kernel
theorem d_BF_count_102 : decode b_BF_count 102 = .ok (.bipush (-2), 2) := by decide +kernel
theorem d_BF_count_104 : decode b_BF_count 104 = .ok (.ireturn, 1) := by decide +kernel
theorem d_BF_isNode_0 : decode b_BF_isNode 0 = .ok (.iload_n 1, 1) := by decide +kernel
theorem d_BF_isNode_1 : decode b_BF_isNode 1 = .ok (.aload_n 0, 1) := by decide +kernel
theorem d_BF_isNode_2 : decode b_BF_isNode 2 = .ok (.getfield 31, 3) := by decide +kernel
theorem d_BF_isNode_5 : decode b_BF_isNode 5 = .ok (.getfield 80, 3) := by decide +kernel
theorem d_BF_isNode_8 : decode b_BF_isNode 8 = .ok (.invokestatic 58, 3) := by decide +kernel
theorem d_BF_isNode_11 : decode b_BF_isNode 11 = .ok (.ifCond .eq 26, 3) := by decide +kernel
theorem d_BF_isNode_14 : decode b_BF_isNode 14 = .ok (.iload_n 2, 1) := by decide +kernel
theorem d_BF_isNode_15 : decode b_BF_isNode 15 = .ok (.aload_n 0, 1) := by decide +kernel
theorem d_BF_isNode_16 : decode b_BF_isNode 16 = .ok (.getfield 31, 3) := by decide +kernel
theorem d_BF_isNode_19 : decode b_BF_isNode 19 = .ok (.getfield 86, 3) := by decide +kernel
theorem d_BF_isNode_22 : decode b_BF_isNode 22 = .ok (.iload_n 1, 1) := by decide +kernel
theorem d_BF_isNode_23 : decode b_BF_isNode 23 = .ok (.aaload, 1) := by decide +kernel
theorem d_BF_isNode_24 : decode b_BF_isNode 24 = .ok (.getfield 100, 3) := by decide +kernel
theorem d_BF_isNode_27 : decode b_BF_isNode 27 = .ok (.invokestatic 58, 3) := by decide +kernel
theorem d_BF_isNode_30 : decode b_BF_isNode 30 = .ok (.ifCond .eq 7, 3) := by decide +kernel
theorem d_BF_isNode_33 : decode b_BF_isNode 33 = .ok (.iconst 1, 1) := by decide +kernel
theorem d_BF_isNode_34 : decode b_BF_isNode 34 = .ok (.goto 4, 3) := by decide +kernel
theorem d_BF_isNode_37 : decode b_BF_isNode 37 = .ok (.iconst 0, 1) := by decide +kernel
theorem d_BF_isNode_38 : decode b_BF_isNode 38 = .ok (.ireturn, 1) := by decide +kernel
theorem d_BF_isTrainedRow_0 : decode b_BF_isTrainedRow 0 = .ok (.aload_n 0, 1) := by decide +kernel
theorem d_BF_isTrainedRow_1 : decode b_BF_isTrainedRow 1 = .ok (.getfield 31, 3) := by decide +kernel
theorem d_BF_isTrainedRow_4 : decode b_BF_isTrainedRow 4 = .ok (.getfield 107, 3) := by decide +kernel
theorem d_BF_isTrainedRow_7 : decode b_BF_isTrainedRow 7 = .ok (.ifCond .eq 24, 3) := by decide +kernel
theorem d_BF_isTrainedRow_10 : decode b_BF_isTrainedRow 10 = .ok (.iload_n 1, 1) := by decide +kernel
theorem d_BF_isTrainedRow_11 : decode b_BF_isTrainedRow 11 = .ok (.aload_n 0, 1) := by decide +kernel
theorem d_BF_isTrainedRow_12 : decode b_BF_isTrainedRow 12 = .ok (.getfield 31, 3) := by decide +kernel
theorem d_BF_isTrainedRow_15 : decode b_BF_isTrainedRow 15 = .ok (.getfield 149, 3) := by decide +kernel
theorem d_BF_isTrainedRow_18 : decode b_BF_isTrainedRow 18 = .ok (.getfield 54, 3) := by decide +kernel
theorem d_BF_isTrainedRow_21 : decode b_BF_isTrainedRow 21 = .ok (.invokestatic 58, 3) := by decide +kernel
theorem d_BF_isTrainedRow_24 : decode b_BF_isTrainedRow 24 = .ok (.ifCond .eq 7, 3) := by decide +kernel
theorem d_BF_isTrainedRow_27 : decode b_BF_isTrainedRow 27 = .ok (.iconst 1, 1) := by decide +kernel
theorem d_BF_isTrainedRow_28 : decode b_BF_isTrainedRow 28 = .ok (.goto 4, 3) := by decide +kernel
theorem d_BF_isTrainedRow_31 : decode b_BF_isTrainedRow 31 = .ok (.iconst 0, 1) := by decide +kernel
theorem d_BF_isTrainedRow_32 : decode b_BF_isTrainedRow 32 = .ok (.ireturn, 1) := by decide +kernel
theorem d_BF_keepAsked_0 : decode b_BF_keepAsked 0 = .ok (.aload_n 0, 1) := by decide +kernel
theorem d_BF_keepAsked_1 : decode b_BF_keepAsked 1 = .ok (.getfield 35, 3) := by decide +kernel
theorem d_BF_keepAsked_4 : decode b_BF_keepAsked 4 = .ok (.iconst 0, 1) := by decide +kernel
theorem d_BF_keepAsked_5 : decode b_BF_keepAsked 5 = .ok (.iload_n 1, 1) := by decide +kernel
theorem d_BF_keepAsked_6 : decode b_BF_keepAsked 6 = .ok (.iastore, 1) := by decide +kernel
theorem d_BF_keepAsked_7 : decode b_BF_keepAsked 7 = .ok (.aload_n 0, 1) := by decide +kernel
theorem d_BF_keepAsked_8 : decode b_BF_keepAsked 8 = .ok (.getfield 35, 3) := by decide +kernel
theorem d_BF_keepAsked_11 : decode b_BF_keepAsked 11 = .ok (.iconst 1, 1) := by decide +kernel
theorem d_BF_keepAsked_12 : decode b_BF_keepAsked 12 = .ok (.iload_n 2, 1) := by decide +kernel
theorem d_BF_keepAsked_13 : decode b_BF_keepAsked 13 = .ok (.iastore, 1) := by decide +kernel
theorem d_BF_keepAsked_14 : decode b_BF_keepAsked 14 = .ok (.aload_n 0, 1) := by decide +kernel
theorem d_BF_keepAsked_15 : decode b_BF_keepAsked 15 = .ok (.getfield 35, 3) := by decide +kernel
theorem d_BF_keepAsked_18 : decode b_BF_keepAsked 18 = .ok (.iconst 2, 1) := by decide +kernel
theorem d_BF_keepAsked_19 : decode b_BF_keepAsked 19 = .ok (.iload_n 3, 1) := by decide +kernel
theorem d_BF_keepAsked_20 : decode b_BF_keepAsked 20 = .ok (.iastore, 1) := by decide +kernel
theorem d_BF_keepAsked_21 : decode b_BF_keepAsked 21 = .ok (.aload_n 0, 1) := by decide +kernel
theorem d_BF_keepAsked_22 : decode b_BF_keepAsked 22 = .ok (.getfield 35, 3) := by decide +kernel
theorem d_BF_keepAsked_25 : decode b_BF_keepAsked 25 = .ok (.iconst 3, 1) := by decide +kernel
theorem d_BF_keepAsked_26 : decode b_BF_keepAsked 26 = .ok (.iload 4, 2) := by decide +kernel
theorem d_BF_keepAsked_28 : decode b_BF_keepAsked 28 = .ok (.iastore, 1) := by decide +kernel
theorem d_BF_keepAsked_29 : decode b_BF_keepAsked 29 = .ok (.return_, 1) := by decide +kernel
theorem d_BF_areCells_0 : decode b_BF_areCells 0 = .ok (.iload_n 0, 1) := by decide +kernel
theorem d_BF_areCells_1 : decode b_BF_areCells 1 = .ok (.iconst (-1), 1) := by decide +kernel
theorem d_BF_areCells_2 : decode b_BF_areCells 2 = .ok (.bipush 31, 2) := by decide +kernel
theorem d_BF_areCells_4 : decode b_BF_areCells 4 = .ok (.invokestatic 42, 3) := by decide +kernel
theorem d_BF_areCells_7 : decode b_BF_areCells 7 = .ok (.ifCond .eq 37, 3) := by decide +kernel
theorem d_BF_areCells_10 : decode b_BF_areCells 10 = .ok (.iload_n 1, 1) := by decide +kernel
theorem d_BF_areCells_11 : decode b_BF_areCells 11 = .ok (.iconst (-1), 1) := by decide +kernel
theorem d_BF_areCells_12 : decode b_BF_areCells 12 = .ok (.bipush 31, 2) := by decide +kernel
theorem d_BF_areCells_14 : decode b_BF_areCells 14 = .ok (.invokestatic 42, 3) := by decide +kernel
theorem d_BF_areCells_17 : decode b_BF_areCells 17 = .ok (.ifCond .eq 27, 3) := by decide +kernel
theorem d_BF_areCells_20 : decode b_BF_areCells 20 = .ok (.iload_n 2, 1) := by decide +kernel
theorem d_BF_areCells_21 : decode b_BF_areCells 21 = .ok (.iconst (-1), 1) := by decide +kernel
theorem d_BF_areCells_22 : decode b_BF_areCells 22 = .ok (.bipush 31, 2) := by decide +kernel
theorem d_BF_areCells_24 : decode b_BF_areCells 24 = .ok (.invokestatic 42, 3) := by decide +kernel
theorem d_BF_areCells_27 : decode b_BF_areCells 27 = .ok (.ifCond .eq 17, 3) := by decide +kernel
theorem d_BF_areCells_30 : decode b_BF_areCells 30 = .ok (.iload_n 3, 1) := by decide +kernel
theorem d_BF_areCells_31 : decode b_BF_areCells 31 = .ok (.iconst (-1), 1) := by decide +kernel
theorem d_BF_areCells_32 : decode b_BF_areCells 32 = .ok (.bipush 31, 2) := by decide +kernel
theorem d_BF_areCells_34 : decode b_BF_areCells 34 = .ok (.invokestatic 42, 3) := by decide +kernel
theorem d_BF_areCells_37 : decode b_BF_areCells 37 = .ok (.ifCond .eq 7, 3) := by decide +kernel
theorem d_BF_areCells_40 : decode b_BF_areCells 40 = .ok (.iconst 1, 1) := by decide +kernel
theorem d_BF_areCells_41 : decode b_BF_areCells 41 = .ok (.goto 4, 3) := by decide +kernel
theorem d_BF_areCells_44 : decode b_BF_areCells 44 = .ok (.iconst 0, 1) := by decide +kernel
theorem d_BF_areCells_45 : decode b_BF_areCells 45 = .ok (.ireturn, 1) := by decide +kernel
theorem d_BF_isIndex_0 : decode b_BF_isIndex 0 = .ok (.iload_n 0, 1) := by decide +kernel
theorem d_BF_isIndex_1 : decode b_BF_isIndex 1 = .ok (.ifCond .lt 12, 3) := by decide +kernel
theorem d_BF_isIndex_4 : decode b_BF_isIndex 4 = .ok (.iload_n 0, 1) := by decide +kernel
theorem d_BF_isIndex_5 : decode b_BF_isIndex 5 = .ok (.iload_n 1, 1) := by decide +kernel
theorem d_BF_isIndex_6 : decode b_BF_isIndex 6 = .ok (.if_icmp .ge 7, 3) := by decide +kernel
theorem d_BF_isIndex_9 : decode b_BF_isIndex 9 = .ok (.iconst 1, 1) := by decide +kernel
theorem d_BF_isIndex_10 : decode b_BF_isIndex 10 = .ok (.goto 4, 3) := by decide +kernel
theorem d_BF_isIndex_13 : decode b_BF_isIndex 13 = .ok (.iconst 0, 1) := by decide +kernel
theorem d_BF_isIndex_14 : decode b_BF_isIndex 14 = .ok (.ireturn, 1) := by decide +kernel
theorem d_BF_isWithin_0 : decode b_BF_isWithin 0 = .ok (.iload_n 0, 1) := by decide +kernel
theorem d_BF_isWithin_1 : decode b_BF_isWithin 1 = .ok (.iload_n 1, 1) := by decide +kernel
theorem d_BF_isWithin_2 : decode b_BF_isWithin 2 = .ok (.if_icmp .lt 12, 3) := by decide +kernel
theorem d_BF_isWithin_5 : decode b_BF_isWithin 5 = .ok (.iload_n 0, 1) := by decide +kernel
theorem d_BF_isWithin_6 : decode b_BF_isWithin 6 = .ok (.iload_n 2, 1) := by decide +kernel
theorem d_BF_isWithin_7 : decode b_BF_isWithin 7 = .ok (.if_icmp .gt 7, 3) := by decide +kernel
theorem d_BF_isWithin_10 : decode b_BF_isWithin 10 = .ok (.iconst 1, 1) := by decide +kernel
theorem d_BF_isWithin_11 : decode b_BF_isWithin 11 = .ok (.goto 4, 3) := by decide +kernel
theorem d_BF_isWithin_14 : decode b_BF_isWithin 14 = .ok (.iconst 0, 1) := by decide +kernel
theorem d_BF_isWithin_15 : decode b_BF_isWithin 15 = .ok (.ireturn, 1) := by decide +kernel
theorem d_SP_init_0 : decode b_SP_init 0 = .ok (.aload_n 0, 1) := by decide +kernel
theorem d_SP_init_1 : decode b_SP_init 1 = .ok (.invokespecial 3, 3) := by decide +kernel
theorem d_SP_init_4 : decode b_SP_init 4 = .ok (.return_, 1) := by decide +kernel
theorem d_SP_forget_0 : decode b_SP_forget 0 = .ok (.aload_n 0, 1) := by decide +kernel
theorem d_SP_forget_1 : decode b_SP_forget 1 = .ok (.iconst (-1), 1) := by decide +kernel
theorem d_SP_forget_2 : decode b_SP_forget 2 = .ok (.iconst (-1), 1) := by decide +kernel
theorem d_SP_forget_3 : decode b_SP_forget 3 = .ok (.iconst (-1), 1) := by decide +kernel
theorem d_SP_forget_4 : decode b_SP_forget 4 = .ok (.lload_n 1, 1) := by decide +kernel
theorem d_SP_forget_5 : decode b_SP_forget 5 = .ok (.invokevirtual 9, 3) := by decide +kernel
theorem d_SP_forget_8 : decode b_SP_forget 8 = .ok (.return_, 1) := by decide +kernel
theorem d_SP_become_0 : decode b_SP_become 0 = .ok (.aload_n 0, 1) := by decide +kernel
theorem d_SP_become_1 : decode b_SP_become 1 = .ok (.iload_n 1, 1) := by decide +kernel
theorem d_SP_become_2 : decode b_SP_become 2 = .ok (.putfield 15, 3) := by decide +kernel
theorem d_SP_become_5 : decode b_SP_become 5 = .ok (.aload_n 0, 1) := by decide +kernel
theorem d_SP_become_6 : decode b_SP_become 6 = .ok (.iload_n 2, 1) := by decide +kernel
theorem d_SP_become_7 : decode b_SP_become 7 = .ok (.putfield 19, 3) := by decide +kernel
theorem d_SP_become_10 : decode b_SP_become 10 = .ok (.aload_n 0, 1) := by decide +kernel
theorem d_SP_become_11 : decode b_SP_become 11 = .ok (.iload_n 3, 1) := by decide +kernel
theorem d_SP_become_12 : decode b_SP_become 12 = .ok (.putfield 22, 3) := by decide +kernel
theorem d_SP_become_15 : decode b_SP_become 15 = .ok (.aload_n 0, 1) := by decide +kernel
theorem d_SP_become_16 : decode b_SP_become 16 = .ok (.lload 4, 2) := by decide +kernel
theorem d_SP_become_18 : decode b_SP_become 18 = .ok (.putfield 25, 3) := by decide +kernel
theorem d_SP_become_21 : decode b_SP_become 21 = .ok (.return_, 1) := by decide +kernel
theorem d_SM_init_0 : decode b_SM_init 0 = .ok (.aload_n 0, 1) := by decide +kernel
theorem d_SM_init_1 : decode b_SM_init 1 = .ok (.invokespecial 1, 3) := by decide +kernel
theorem d_SM_init_4 : decode b_SM_init 4 = .ok (.return_, 1) := by decide +kernel
theorem d_SM_empty_0 : decode b_SM_empty 0 = .ok (.aload_n 0, 1) := by decide +kernel
theorem d_SM_empty_1 : decode b_SM_empty 1 = .ok (.iconst 0, 1) := by decide +kernel
theorem d_SM_empty_2 : decode b_SM_empty 2 = .ok (.putfield 7, 3) := by decide +kernel
theorem d_SM_empty_5 : decode b_SM_empty 5 = .ok (.aload_n 0, 1) := by decide +kernel
theorem d_SM_empty_6 : decode b_SM_empty 6 = .ok (.iconst 0, 1) := by decide +kernel
theorem d_SM_empty_7 : decode b_SM_empty 7 = .ok (.putfield 13, 3) := by decide +kernel
theorem d_SM_empty_10 : decode b_SM_empty 10 = .ok (.aload_n 0, 1) := by decide +kernel
theorem d_SM_empty_11 : decode b_SM_empty 11 = .ok (.lconst 0, 1) := by decide +kernel
theorem d_SM_empty_12 : decode b_SM_empty 12 = .ok (.putfield 16, 3) := by decide +kernel
theorem d_SM_empty_15 : decode b_SM_empty 15 = .ok (.return_, 1) := by decide +kernel
theorem d_SM_addRow_0 : decode b_SM_addRow 0 = .ok (.aload_n 0, 1) := by decide +kernel
theorem d_SM_addRow_1 : decode b_SM_addRow 1 = .ok (.dup, 1) := by decide +kernel
theorem d_SM_addRow_2 : decode b_SM_addRow 2 = .ok (.getfield 7, 3) := by decide +kernel
theorem d_SM_addRow_5 : decode b_SM_addRow 5 = .ok (.iconst 1, 1) := by decide +kernel
theorem d_SM_addRow_6 : decode b_SM_addRow 6 = .ok (.iadd, 1) := by decide +kernel
theorem d_SM_addRow_7 : decode b_SM_addRow 7 = .ok (.putfield 7, 3) := by decide +kernel
theorem d_SM_addRow_10 : decode b_SM_addRow 10 = .ok (.aload_n 0, 1) := by decide +kernel
theorem d_SM_addRow_11 : decode b_SM_addRow 11 = .ok (.dup, 1) := by decide +kernel
theorem d_SM_addRow_12 : decode b_SM_addRow 12 = .ok (.getfield 13, 3) := by decide +kernel
theorem d_SM_addRow_15 : decode b_SM_addRow 15 = .ok (.iload_n 3, 1) := by decide +kernel
theorem d_SM_addRow_16 : decode b_SM_addRow 16 = .ok (.iadd, 1) := by decide +kernel
theorem d_SM_addRow_17 : decode b_SM_addRow 17 = .ok (.putfield 13, 3) := by decide +kernel
theorem d_SM_addRow_20 : decode b_SM_addRow 20 = .ok (.aload_n 0, 1) := by decide +kernel
theorem d_SM_addRow_21 : decode b_SM_addRow 21 = .ok (.dup, 1) := by decide +kernel
theorem d_SM_addRow_22 : decode b_SM_addRow 22 = .ok (.getfield 16, 3) := by decide +kernel
theorem d_SM_addRow_25 : decode b_SM_addRow 25 = .ok (.lload_n 1, 1) := by decide +kernel
theorem d_SM_addRow_26 : decode b_SM_addRow 26 = .ok (.ladd, 1) := by decide +kernel
theorem d_SM_addRow_27 : decode b_SM_addRow 27 = .ok (.putfield 16, 3) := by decide +kernel
theorem d_SM_addRow_30 : decode b_SM_addRow 30 = .ok (.return_, 1) := by decide +kernel
theorem d_SM_becomeSum_0 : decode b_SM_becomeSum 0 = .ok (.aload_n 0, 1) := by decide +kernel
theorem d_SM_becomeSum_1 : decode b_SM_becomeSum 1 = .ok (.aload_n 1, 1) := by decide +kernel
theorem d_SM_becomeSum_2 : decode b_SM_becomeSum 2 = .ok (.getfield 7, 3) := by decide +kernel
theorem d_SM_becomeSum_5 : decode b_SM_becomeSum 5 = .ok (.aload_n 2, 1) := by decide +kernel
theorem d_SM_becomeSum_6 : decode b_SM_becomeSum 6 = .ok (.getfield 7, 3) := by decide +kernel
theorem d_SM_becomeSum_9 : decode b_SM_becomeSum 9 = .ok (.iadd, 1) := by decide +kernel
theorem d_SM_becomeSum_10 : decode b_SM_becomeSum 10 = .ok (.putfield 7, 3) := by decide +kernel
theorem d_SM_becomeSum_13 : decode b_SM_becomeSum 13 = .ok (.aload_n 0, 1) := by decide +kernel
theorem d_SM_becomeSum_14 : decode b_SM_becomeSum 14 = .ok (.aload_n 1, 1) := by decide +kernel
theorem d_SM_becomeSum_15 : decode b_SM_becomeSum 15 = .ok (.getfield 13, 3) := by decide +kernel
theorem d_SM_becomeSum_18 : decode b_SM_becomeSum 18 = .ok (.aload_n 2, 1) := by decide +kernel
theorem d_SM_becomeSum_19 : decode b_SM_becomeSum 19 = .ok (.getfield 13, 3) := by decide +kernel
theorem d_SM_becomeSum_22 : decode b_SM_becomeSum 22 = .ok (.iadd, 1) := by decide +kernel
theorem d_SM_becomeSum_23 : decode b_SM_becomeSum 23 = .ok (.putfield 13, 3) := by decide +kernel
theorem d_SM_becomeSum_26 : decode b_SM_becomeSum 26 = .ok (.aload_n 0, 1) := by decide +kernel
theorem d_SM_becomeSum_27 : decode b_SM_becomeSum 27 = .ok (.aload_n 1, 1) := by decide +kernel
theorem d_SM_becomeSum_28 : decode b_SM_becomeSum 28 = .ok (.getfield 16, 3) := by decide +kernel
theorem d_SM_becomeSum_31 : decode b_SM_becomeSum 31 = .ok (.aload_n 2, 1) := by decide +kernel
theorem d_SM_becomeSum_32 : decode b_SM_becomeSum 32 = .ok (.getfield 16, 3) := by decide +kernel
theorem d_SM_becomeSum_35 : decode b_SM_becomeSum 35 = .ok (.ladd, 1) := by decide +kernel
theorem d_SM_becomeSum_36 : decode b_SM_becomeSum 36 = .ok (.putfield 16, 3) := by decide +kernel
theorem d_SM_becomeSum_39 : decode b_SM_becomeSum 39 = .ok (.return_, 1) := by decide +kernel
theorem d_SM_becomeRest_0 : decode b_SM_becomeRest 0 = .ok (.aload_n 0, 1) := by decide +kernel
theorem d_SM_becomeRest_1 : decode b_SM_becomeRest 1 = .ok (.aload_n 1, 1) := by decide +kernel
theorem d_SM_becomeRest_2 : decode b_SM_becomeRest 2 = .ok (.getfield 7, 3) := by decide +kernel
theorem d_SM_becomeRest_5 : decode b_SM_becomeRest 5 = .ok (.aload_n 2, 1) := by decide +kernel
theorem d_SM_becomeRest_6 : decode b_SM_becomeRest 6 = .ok (.getfield 7, 3) := by decide +kernel
theorem d_SM_becomeRest_9 : decode b_SM_becomeRest 9 = .ok (.isub, 1) := by decide +kernel
theorem d_SM_becomeRest_10 : decode b_SM_becomeRest 10 = .ok (.putfield 7, 3) := by decide +kernel
theorem d_SM_becomeRest_13 : decode b_SM_becomeRest 13 = .ok (.aload_n 0, 1) := by decide +kernel
theorem d_SM_becomeRest_14 : decode b_SM_becomeRest 14 = .ok (.aload_n 1, 1) := by decide +kernel
theorem d_SM_becomeRest_15 : decode b_SM_becomeRest 15 = .ok (.getfield 13, 3) := by decide +kernel
theorem d_SM_becomeRest_18 : decode b_SM_becomeRest 18 = .ok (.aload_n 2, 1) := by decide +kernel
theorem d_SM_becomeRest_19 : decode b_SM_becomeRest 19 = .ok (.getfield 13, 3) := by decide +kernel
theorem d_SM_becomeRest_22 : decode b_SM_becomeRest 22 = .ok (.isub, 1) := by decide +kernel
theorem d_SM_becomeRest_23 : decode b_SM_becomeRest 23 = .ok (.putfield 13, 3) := by decide +kernel
theorem d_SM_becomeRest_26 : decode b_SM_becomeRest 26 = .ok (.aload_n 0, 1) := by decide +kernel
theorem d_SM_becomeRest_27 : decode b_SM_becomeRest 27 = .ok (.aload_n 1, 1) := by decide +kernel
theorem d_SM_becomeRest_28 : decode b_SM_becomeRest 28 = .ok (.getfield 16, 3) := by decide +kernel
theorem d_SM_becomeRest_31 : decode b_SM_becomeRest 31 = .ok (.aload_n 2, 1) := by decide +kernel
theorem d_SM_becomeRest_32 : decode b_SM_becomeRest 32 = .ok (.getfield 16, 3) := by decide +kernel
theorem d_SM_becomeRest_35 : decode b_SM_becomeRest 35 = .ok (.lsub, 1) := by decide +kernel
theorem d_SM_becomeRest_36 : decode b_SM_becomeRest 36 = .ok (.putfield 16, 3) := by decide +kernel
theorem d_SM_becomeRest_39 : decode b_SM_becomeRest 39 = .ok (.return_, 1) := by decide +kernel
theorem d_SM_valueWith_0 : decode b_SM_valueWith 0 = .ok (.aload_n 0, 1) := by decide +kernel
theorem d_SM_valueWith_1 : decode b_SM_valueWith 1 = .ok (.getfield 13, 3) := by decide +kernel
theorem d_SM_valueWith_4 : decode b_SM_valueWith 4 = .ok (.i2l, 1) := by decide +kernel
theorem d_SM_valueWith_5 : decode b_SM_valueWith 5 = .ok (.iload_n 1, 1) := by decide +kernel
theorem d_SM_valueWith_6 : decode b_SM_valueWith 6 = .ok (.i2l, 1) := by decide +kernel
theorem d_SM_valueWith_7 : decode b_SM_valueWith 7 = .ok (.ladd, 1) := by decide +kernel
theorem d_SM_valueWith_8 : decode b_SM_valueWith 8 = .ok (.lstore_n 2, 1) := by decide +kernel
theorem d_SM_valueWith_9 : decode b_SM_valueWith 9 = .ok (.lload_n 2, 1) := by decide +kernel
theorem d_SM_valueWith_10 : decode b_SM_valueWith 10 = .ok (.lconst 0, 1) := by decide +kernel
theorem d_SM_valueWith_11 : decode b_SM_valueWith 11 = .ok (.lcmp, 1) := by decide +kernel
theorem d_SM_valueWith_12 : decode b_SM_valueWith 12 = .ok (.ifCond .ne 7, 3) := by decide +kernel
theorem d_SM_valueWith_15 : decode b_SM_valueWith 15 = .ok (.lconst 0, 1) := by decide +kernel
theorem d_SM_valueWith_16 : decode b_SM_valueWith 16 = .ok (.goto 10, 3) := by decide +kernel
theorem d_SM_valueWith_19 : decode b_SM_valueWith 19 = .ok (.aload_n 0, 1) := by decide +kernel
theorem d_SM_valueWith_20 : decode b_SM_valueWith 20 = .ok (.getfield 16, 3) := by decide +kernel
theorem d_SM_valueWith_23 : decode b_SM_valueWith 23 = .ok (.lneg, 1) := by decide +kernel
theorem d_SM_valueWith_24 : decode b_SM_valueWith 24 = .ok (.lload_n 2, 1) := by decide +kernel
theorem d_SM_valueWith_25 : decode b_SM_valueWith 25 = .ok (.ldiv, 1) := by decide +kernel
theorem d_SM_valueWith_26 : decode b_SM_valueWith 26 = .ok (.lreturn, 1) := by decide +kernel
theorem d_SM_worthWith_0 : decode b_SM_worthWith 0 = .ok (.aload_n 0, 1) := by decide +kernel
theorem d_SM_worthWith_1 : decode b_SM_worthWith 1 = .ok (.getfield 13, 3) := by decide +kernel
theorem d_SM_worthWith_4 : decode b_SM_worthWith 4 = .ok (.i2l, 1) := by decide +kernel
theorem d_SM_worthWith_5 : decode b_SM_worthWith 5 = .ok (.iload_n 1, 1) := by decide +kernel
theorem d_SM_worthWith_6 : decode b_SM_worthWith 6 = .ok (.i2l, 1) := by decide +kernel
theorem d_SM_worthWith_7 : decode b_SM_worthWith 7 = .ok (.ladd, 1) := by decide +kernel
theorem d_SM_worthWith_8 : decode b_SM_worthWith 8 = .ok (.lstore_n 2, 1) := by decide +kernel
theorem d_SM_worthWith_9 : decode b_SM_worthWith 9 = .ok (.lload_n 2, 1) := by decide +kernel
theorem d_SM_worthWith_10 : decode b_SM_worthWith 10 = .ok (.lconst 0, 1) := by decide +kernel
theorem d_SM_worthWith_11 : decode b_SM_worthWith 11 = .ok (.lcmp, 1) := by decide +kernel
theorem d_SM_worthWith_12 : decode b_SM_worthWith 12 = .ok (.ifCond .ne 7, 3) := by decide +kernel
theorem d_SM_worthWith_15 : decode b_SM_worthWith 15 = .ok (.lconst 0, 1) := by decide +kernel
theorem d_SM_worthWith_16 : decode b_SM_worthWith 16 = .ok (.goto 14, 3) := by decide +kernel
theorem d_SM_worthWith_19 : decode b_SM_worthWith 19 = .ok (.aload_n 0, 1) := by decide +kernel
theorem d_SM_worthWith_20 : decode b_SM_worthWith 20 = .ok (.getfield 16, 3) := by decide +kernel
theorem d_SM_worthWith_23 : decode b_SM_worthWith 23 = .ok (.aload_n 0, 1) := by decide +kernel
theorem d_SM_worthWith_24 : decode b_SM_worthWith 24 = .ok (.getfield 16, 3) := by decide +kernel
theorem d_SM_worthWith_27 : decode b_SM_worthWith 27 = .ok (.lmul, 1) := by decide +kernel
theorem d_SM_worthWith_28 : decode b_SM_worthWith 28 = .ok (.lload_n 2, 1) := by decide +kernel
theorem d_SM_worthWith_29 : decode b_SM_worthWith 29 = .ok (.ldiv, 1) := by decide +kernel
theorem d_SM_worthWith_30 : decode b_SM_worthWith 30 = .ok (.lreturn, 1) := by decide +kernel
theorem d_TB_init_0 : decode b_TB_init 0 = .ok (.aload_n 0, 1) := by decide +kernel
theorem d_TB_init_1 : decode b_TB_init 1 = .ok (.invokespecial 3, 3) := by decide +kernel
theorem d_TB_init_4 : decode b_TB_init 4 = .ok (.aload_n 0, 1) := by decide +kernel
theorem d_TB_init_5 : decode b_TB_init 5 = .ok (.bipush 40, 2) := by decide +kernel
theorem d_TB_init_7 : decode b_TB_init 7 = .ok (.iconst 4, 1) := by decide +kernel
theorem d_TB_init_8 : decode b_TB_init 8 = .ok (.multianewarray 9 2, 4) := by decide +kernel
theorem d_TB_init_12 : decode b_TB_init 12 = .ok (.putfield 11, 3) := by decide +kernel
theorem d_TB_init_15 : decode b_TB_init 15 = .ok (.aload_n 0, 1) := by decide +kernel
theorem d_TB_init_16 : decode b_TB_init 16 = .ok (.bipush 40, 2) := by decide +kernel
theorem d_TB_init_18 : decode b_TB_init 18 = .ok (.newarray .int, 2) := by decide +kernel
theorem d_TB_init_20 : decode b_TB_init 20 = .ok (.putfield 16, 3) := by decide +kernel
theorem d_TB_init_23 : decode b_TB_init 23 = .ok (.aload_n 0, 1) := by decide +kernel
theorem d_TB_init_24 : decode b_TB_init 24 = .ok (.bipush 40, 2) := by decide +kernel
theorem d_TB_init_26 : decode b_TB_init 26 = .ok (.newarray .int, 2) := by decide +kernel
theorem d_TB_init_28 : decode b_TB_init 28 = .ok (.putfield 20, 3) := by decide +kernel
theorem d_TB_init_31 : decode b_TB_init 31 = .ok (.aload_n 0, 1) := by decide +kernel
theorem d_TB_init_32 : decode b_TB_init 32 = .ok (.bipush 40, 2) := by decide +kernel
theorem d_TB_init_34 : decode b_TB_init 34 = .ok (.newarray .boolean, 2) := by decide +kernel
theorem d_TB_init_36 : decode b_TB_init 36 = .ok (.putfield 23, 3) := by decide +kernel
theorem d_TB_init_39 : decode b_TB_init 39 = .ok (.return_, 1) := by decide +kernel
theorem d_TB_append_0 : decode b_TB_append 0 = .ok (.aload_n 0, 1) := by decide +kernel
theorem d_TB_append_1 : decode b_TB_append 1 = .ok (.getfield 27, 3) := by decide +kernel
theorem d_TB_append_4 : decode b_TB_append 4 = .ok (.bipush 40, 2) := by decide +kernel
theorem d_TB_append_6 : decode b_TB_append 6 = .ok (.if_icmp .lt 6, 3) := by decide +kernel
theorem d_TB_append_9 : decode b_TB_append 9 = .ok (.bipush (-2), 2) := by decide +kernel
theorem d_TB_append_11 : decode b_TB_append 11 = .ok (.ireturn, 1) := by decide +kernel
theorem d_TB_append_12 : decode b_TB_append 12 = .ok (.aload_n 0, 1) := by decide +kernel
theorem d_TB_append_13 : decode b_TB_append 13 = .ok (.getfield 27, 3) := by decide +kernel
theorem d_TB_append_16 : decode b_TB_append 16 = .ok (.istore 4, 2) := by decide +kernel
theorem d_TB_append_18 : decode b_TB_append 18 = .ok (.aload_n 1, 1) := by decide +kernel
theorem d_TB_append_19 : decode b_TB_append 19 = .ok (.iconst 0, 1) := by decide +kernel
theorem d_TB_append_20 : decode b_TB_append 20 = .ok (.aload_n 0, 1) := by decide +kernel
theorem d_TB_append_21 : decode b_TB_append 21 = .ok (.getfield 11, 3) := by decide +kernel
theorem d_TB_append_24 : decode b_TB_append 24 = .ok (.iload 4, 2) := by decide +kernel
theorem d_TB_append_26 : decode b_TB_append 26 = .ok (.aaload, 1) := by decide +kernel
theorem d_TB_append_27 : decode b_TB_append 27 = .ok (.iconst 0, 1) := by decide +kernel
theorem d_TB_append_28 : decode b_TB_append 28 = .ok (.iconst 4, 1) := by decide +kernel
theorem d_TB_append_29 : decode b_TB_append 29 = .ok (.invokestatic 31, 3) := by decide +kernel
theorem d_TB_append_32 : decode b_TB_append 32 = .ok (.aload_n 0, 1) := by decide +kernel
theorem d_TB_append_33 : decode b_TB_append 33 = .ok (.getfield 16, 3) := by decide +kernel
theorem d_TB_append_36 : decode b_TB_append 36 = .ok (.iload 4, 2) := by decide +kernel
theorem d_TB_append_38 : decode b_TB_append 38 = .ok (.iload_n 2, 1) := by decide +kernel
theorem d_TB_append_39 : decode b_TB_append 39 = .ok (.iastore, 1) := by decide +kernel
theorem d_TB_append_40 : decode b_TB_append 40 = .ok (.aload_n 0, 1) := by decide +kernel
theorem d_TB_append_41 : decode b_TB_append 41 = .ok (.getfield 20, 3) := by decide +kernel
theorem d_TB_append_44 : decode b_TB_append 44 = .ok (.iload 4, 2) := by decide +kernel
theorem d_TB_append_46 : decode b_TB_append 46 = .ok (.iload_n 3, 1) := by decide +kernel
theorem d_TB_append_47 : decode b_TB_append 47 = .ok (.iastore, 1) := by decide +kernel
theorem d_TB_append_48 : decode b_TB_append 48 = .ok (.aload_n 0, 1) := by decide +kernel
theorem d_TB_append_49 : decode b_TB_append 49 = .ok (.getfield 23, 3) := by decide +kernel
theorem d_TB_append_52 : decode b_TB_append 52 = .ok (.iload 4, 2) := by decide +kernel
theorem d_TB_append_54 : decode b_TB_append 54 = .ok (.iconst 0, 1) := by decide +kernel
theorem d_TB_append_55 : decode b_TB_append 55 = .ok (.bastore, 1) := by decide +kernel
theorem d_TB_append_56 : decode b_TB_append 56 = .ok (.aload_n 0, 1) := by decide +kernel
theorem d_TB_append_57 : decode b_TB_append 57 = .ok (.iload 4, 2) := by decide +kernel
theorem d_TB_append_59 : decode b_TB_append 59 = .ok (.iconst 1, 1) := by decide +kernel
theorem d_TB_append_60 : decode b_TB_append 60 = .ok (.iadd, 1) := by decide +kernel
theorem d_TB_append_61 : decode b_TB_append 61 = .ok (.putfield 27, 3) := by decide +kernel
theorem d_TB_append_64 : decode b_TB_append 64 = .ok (.iload 4, 2) := by decide +kernel
theorem d_TB_append_66 : decode b_TB_append 66 = .ok (.ireturn, 1) := by decide +kernel
theorem d_TB_heldRows_0 : decode b_TB_heldRows 0 = .ok (.iconst 0, 1) := by decide +kernel
theorem d_TB_heldRows_1 : decode b_TB_heldRows 1 = .ok (.istore_n 1, 1) := by decide +kernel
theorem d_TB_heldRows_2 : decode b_TB_heldRows 2 = .ok (.iconst 0, 1) := by decide +kernel
theorem d_TB_heldRows_3 : decode b_TB_heldRows 3 = .ok (.istore_n 2, 1) := by decide +kernel
theorem d_TB_heldRows_4 : decode b_TB_heldRows 4 = .ok (.iload_n 2, 1) := by decide +kernel
theorem d_TB_heldRows_5 : decode b_TB_heldRows 5 = .ok (.aload_n 0, 1) := by decide +kernel
theorem d_TB_heldRows_6 : decode b_TB_heldRows 6 = .ok (.getfield 27, 3) := by decide +kernel
theorem d_TB_heldRows_9 : decode b_TB_heldRows 9 = .ok (.if_icmp .ge 21, 3) := by decide +kernel
theorem d_TB_heldRows_12 : decode b_TB_heldRows 12 = .ok (.aload_n 0, 1) := by decide +kernel
theorem d_TB_heldRows_13 : decode b_TB_heldRows 13 = .ok (.getfield 23, 3) := by decide +kernel
theorem d_TB_heldRows_16 : decode b_TB_heldRows 16 = .ok (.iload_n 2, 1) := by decide +kernel
theorem d_TB_heldRows_17 : decode b_TB_heldRows 17 = .ok (.baload, 1) := by decide +kernel
theorem d_TB_heldRows_18 : decode b_TB_heldRows 18 = .ok (.ifCond .eq 6, 3) := by decide +kernel
theorem d_TB_heldRows_21 : decode b_TB_heldRows 21 = .ok (.iinc 1 1, 3) := by decide +kernel
theorem d_TB_heldRows_24 : decode b_TB_heldRows 24 = .ok (.iinc 2 1, 3) := by decide +kernel
theorem d_TB_heldRows_27 : decode b_TB_heldRows 27 = .ok (.goto (-23), 3) := by decide +kernel
theorem d_TB_heldRows_30 : decode b_TB_heldRows 30 = .ok (.iload_n 1, 1) := by decide +kernel
theorem d_TB_heldRows_31 : decode b_TB_heldRows 31 = .ok (.ireturn, 1) := by decide +kernel
theorem d_TB_copyFrom_0 : decode b_TB_copyFrom 0 = .ok (.aload_n 0, 1) := by decide +kernel
theorem d_TB_copyFrom_1 : decode b_TB_copyFrom 1 = .ok (.iconst 0, 1) := by decide +kernel
theorem d_TB_copyFrom_2 : decode b_TB_copyFrom 2 = .ok (.putfield 27, 3) := by decide +kernel
theorem d_TB_copyFrom_5 : decode b_TB_copyFrom 5 = .ok (.iconst 0, 1) := by decide +kernel
theorem d_TB_copyFrom_6 : decode b_TB_copyFrom 6 = .ok (.istore_n 2, 1) := by decide +kernel
theorem d_TB_copyFrom_7 : decode b_TB_copyFrom 7 = .ok (.iload_n 2, 1) := by decide +kernel
theorem d_TB_copyFrom_8 : decode b_TB_copyFrom 8 = .ok (.aload_n 1, 1) := by decide +kernel
theorem d_TB_copyFrom_9 : decode b_TB_copyFrom 9 = .ok (.getfield 27, 3) := by decide +kernel
theorem d_TB_copyFrom_12 : decode b_TB_copyFrom 12 = .ok (.if_icmp .ge 44, 3) := by decide +kernel
theorem d_TB_copyFrom_15 : decode b_TB_copyFrom 15 = .ok (.aload_n 0, 1) := by decide +kernel
theorem d_TB_copyFrom_16 : decode b_TB_copyFrom 16 = .ok (.aload_n 1, 1) := by decide +kernel
theorem d_TB_copyFrom_17 : decode b_TB_copyFrom 17 = .ok (.getfield 11, 3) := by decide +kernel
theorem d_TB_copyFrom_20 : decode b_TB_copyFrom 20 = .ok (.iload_n 2, 1) := by decide +kernel
theorem d_TB_copyFrom_21 : decode b_TB_copyFrom 21 = .ok (.aaload, 1) := by decide +kernel
theorem d_TB_copyFrom_22 : decode b_TB_copyFrom 22 = .ok (.aload_n 1, 1) := by decide +kernel
theorem d_TB_copyFrom_23 : decode b_TB_copyFrom 23 = .ok (.getfield 16, 3) := by decide +kernel
theorem d_TB_copyFrom_26 : decode b_TB_copyFrom 26 = .ok (.iload_n 2, 1) := by decide +kernel
theorem d_TB_copyFrom_27 : decode b_TB_copyFrom 27 = .ok (.iaload, 1) := by decide +kernel
theorem d_TB_copyFrom_28 : decode b_TB_copyFrom 28 = .ok (.aload_n 1, 1) := by decide +kernel
theorem d_TB_copyFrom_29 : decode b_TB_copyFrom 29 = .ok (.getfield 20, 3) := by decide +kernel
theorem d_TB_copyFrom_32 : decode b_TB_copyFrom 32 = .ok (.iload_n 2, 1) := by decide +kernel
theorem d_TB_copyFrom_33 : decode b_TB_copyFrom 33 = .ok (.iaload, 1) := by decide +kernel
theorem d_TB_copyFrom_34 : decode b_TB_copyFrom 34 = .ok (.invokevirtual 37, 3) := by decide +kernel
theorem d_TB_copyFrom_37 : decode b_TB_copyFrom 37 = .ok (.pop, 1) := by decide +kernel
theorem d_TB_copyFrom_38 : decode b_TB_copyFrom 38 = .ok (.aload_n 0, 1) := by decide +kernel
theorem d_TB_copyFrom_39 : decode b_TB_copyFrom 39 = .ok (.getfield 23, 3) := by decide +kernel
theorem d_TB_copyFrom_42 : decode b_TB_copyFrom 42 = .ok (.iload_n 2, 1) := by decide +kernel
theorem d_TB_copyFrom_43 : decode b_TB_copyFrom 43 = .ok (.aload_n 1, 1) := by decide +kernel
theorem d_TB_copyFrom_44 : decode b_TB_copyFrom 44 = .ok (.getfield 23, 3) := by decide +kernel
theorem d_TB_copyFrom_47 : decode b_TB_copyFrom 47 = .ok (.iload_n 2, 1) := by decide +kernel
theorem d_TB_copyFrom_48 : decode b_TB_copyFrom 48 = .ok (.baload, 1) := by decide +kernel
theorem d_TB_copyFrom_49 : decode b_TB_copyFrom 49 = .ok (.bastore, 1) := by decide +kernel
theorem d_TB_copyFrom_50 : decode b_TB_copyFrom 50 = .ok (.iinc 2 1, 3) := by decide +kernel
theorem d_TB_copyFrom_53 : decode b_TB_copyFrom 53 = .ok (.goto (-46), 3) := by decide +kernel
theorem d_TB_copyFrom_56 : decode b_TB_copyFrom 56 = .ok (.return_, 1) := by decide +kernel
