theorem d_BF_init_0 : decode b_BF_init 0 = .ok (.aload_n 0, 1) := by decide +kernel
theorem d_BF_init_1 : decode b_BF_init 1 = .ok (.invokespecial 1, 3) := by decide +kernel
theorem d_BF_init_4 : decode b_BF_init 4 = .ok (.aload_n 0, 1) := by decide +kernel
theorem d_BF_init_5 : decode b_BF_init 5 = .ok (.new 7, 3) := by decide +kernel
theorem d_BF_init_8 : decode b_BF_init 8 = .ok (.dup, 1) := by decide +kernel
theorem d_BF_init_9 : decode b_BF_init 9 = .ok (.invokespecial 9, 3) := by decide +kernel
theorem d_BF_init_12 : decode b_BF_init 12 = .ok (.putfield 10, 3) := by decide +kernel
theorem d_BF_init_15 : decode b_BF_init 15 = .ok (.aload_n 0, 1) := by decide +kernel
theorem d_BF_init_16 : decode b_BF_init 16 = .ok (.getstatic 16, 3) := by decide +kernel
theorem d_BF_init_19 : decode b_BF_init 19 = .ok (.invokevirtual 20, 3) := by decide +kernel
theorem d_BF_init_22 : decode b_BF_init 22 = .ok (.checkcast 21, 3) := by decide +kernel
theorem d_BF_init_25 : decode b_BF_init 25 = .ok (.putfield 25, 3) := by decide +kernel
theorem d_BF_init_28 : decode b_BF_init 28 = .ok (.aload_n 0, 1) := by decide +kernel
theorem d_BF_init_29 : decode b_BF_init 29 = .ok (.new 28, 3) := by decide +kernel
theorem d_BF_init_32 : decode b_BF_init 32 = .ok (.dup, 1) := by decide +kernel
theorem d_BF_init_33 : decode b_BF_init 33 = .ok (.invokespecial 30, 3) := by decide +kernel
theorem d_BF_init_36 : decode b_BF_init 36 = .ok (.putfield 31, 3) := by decide +kernel
theorem d_BF_init_39 : decode b_BF_init 39 = .ok (.aload_n 0, 1) := by decide +kernel
theorem d_BF_init_40 : decode b_BF_init 40 = .ok (.iconst 4, 1) := by decide +kernel
theorem d_BF_init_41 : decode b_BF_init 41 = .ok (.newarray .int, 2) := by decide +kernel
theorem d_BF_init_43 : decode b_BF_init 43 = .ok (.putfield 35, 3) := by decide +kernel
theorem d_BF_init_46 : decode b_BF_init 46 = .ok (.return_, 1) := by decide +kernel
theorem d_SP_init_0 : decode b_SP_init 0 = .ok (.aload_n 0, 1) := by decide +kernel
theorem d_SP_init_1 : decode b_SP_init 1 = .ok (.invokespecial 3, 3) := by decide +kernel
theorem d_SP_init_4 : decode b_SP_init 4 = .ok (.return_, 1) := by decide +kernel
theorem d_SM_init_0 : decode b_SM_init 0 = .ok (.aload_n 0, 1) := by decide +kernel
theorem d_SM_init_1 : decode b_SM_init 1 = .ok (.invokespecial 1, 3) := by decide +kernel
theorem d_SM_init_4 : decode b_SM_init 4 = .ok (.return_, 1) := by decide +kernel
theorem d_TB_init_0 : decode b_TB_init 0 = .ok (.aload_n 0, 1) := by decide +kernel
theorem d_TB_init_1 : decode b_TB_init 1 = .ok (.invokespecial 3, 3) := by decide +kernel
theorem d_TB_init_4 : decode b_TB_init 4 = .ok (.aload_n 0, 1) := by decide +kernel
theorem d_TB_init_5 : decode b_TB_init 5 = .ok (.bipush 40, 2) := by decide +kernel
theorem d_TB_init_7 : decode b_TB_init 7 = .ok (.iconst 4, 1) := by decide +kernel
theorem d_TB_init_8 : decode b_TB_init 8 = .ok (.multianewarray 9 2, 4) := by decide +kernel
theorem d_TB_init_12 : decode b_TB_init 12 = .ok (.putfield 11, 3) := by decide +kernel
theorem d_TB_init_15 : decode b_TB_init 15 = .ok (.aload_n 0, 1) := by decide +kernel
theorem d_TB_init_16 : decode b_TB_init 16 = .ok (.bipush 40, 2) := by decide +kernel
theorem d_TB_init_18 : decode b_TB_init 18 = .ok (.newarray .int, 2) := by decide +kernel
theorem d_TB_init_20 : decode b_TB_init 20 = .ok (.putfield 16, 3) := by decide +kernel
theorem d_TB_init_23 : decode b_TB_init 23 = .ok (.aload_n 0, 1) := by decide +kernel
theorem d_TB_init_24 : decode b_TB_init 24 = .ok (.bipush 40, 2) := by decide +kernel
theorem d_TB_init_26 : decode b_TB_init 26 = .ok (.newarray .int, 2) := by decide +kernel
theorem d_TB_init_28 : decode b_TB_init 28 = .ok (.putfield 20, 3) := by decide +kernel
theorem d_TB_init_31 : decode b_TB_init 31 = .ok (.aload_n 0, 1) := by decide +kernel
theorem d_TB_init_32 : decode b_TB_init 32 = .ok (.bipush 40, 2) := by decide +kernel
theorem d_TB_init_34 : decode b_TB_init 34 = .ok (.newarray .boolean, 2) := by decide +kernel
theorem d_TB_init_36 : decode b_TB_init 36 = .ok (.putfield 23, 3) := by decide +kernel
theorem d_TB_init_39 : decode b_TB_init 39 = .ok (.return_, 1) := by decide +kernel
