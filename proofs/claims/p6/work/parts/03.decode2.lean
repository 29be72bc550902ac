theorem d_GR_init_0 : decode b_GR_init 0 = .ok (.aload_n 0, 1) := by decide +kernel
theorem d_GR_init_1 : decode b_GR_init 1 = .ok (.invokespecial 3, 3) := by decide +kernel
theorem d_GR_init_4 : decode b_GR_init 4 = .ok (.aload_n 0, 1) := by decide +kernel
theorem d_GR_init_5 : decode b_GR_init 5 = .ok (.new 9, 3) := by decide +kernel
theorem d_GR_init_8 : decode b_GR_init 8 = .ok (.dup, 1) := by decide +kernel
theorem d_GR_init_9 : decode b_GR_init 9 = .ok (.invokespecial 11, 3) := by decide +kernel
theorem d_GR_init_12 : decode b_GR_init 12 = .ok (.putfield 12, 3) := by decide +kernel
theorem d_GR_init_15 : decode b_GR_init 15 = .ok (.aload_n 0, 1) := by decide +kernel
theorem d_GR_init_16 : decode b_GR_init 16 = .ok (.bipush 15, 2) := by decide +kernel
theorem d_GR_init_18 : decode b_GR_init 18 = .ok (.newarray .int, 2) := by decide +kernel
theorem d_GR_init_20 : decode b_GR_init 20 = .ok (.putfield 18, 3) := by decide +kernel
theorem d_GR_init_23 : decode b_GR_init 23 = .ok (.aload_n 0, 1) := by decide +kernel
theorem d_GR_init_24 : decode b_GR_init 24 = .ok (.iconst 4, 1) := by decide +kernel
theorem d_GR_init_25 : decode b_GR_init 25 = .ok (.bipush 40, 2) := by decide +kernel
theorem d_GR_init_27 : decode b_GR_init 27 = .ok (.multianewarray 22 2, 4) := by decide +kernel
theorem d_GR_init_31 : decode b_GR_init 31 = .ok (.putfield 24, 3) := by decide +kernel
theorem d_GR_init_34 : decode b_GR_init 34 = .ok (.aload_n 0, 1) := by decide +kernel
theorem d_GR_init_35 : decode b_GR_init 35 = .ok (.bipush 40, 2) := by decide +kernel
theorem d_GR_init_37 : decode b_GR_init 37 = .ok (.newarray .int, 2) := by decide +kernel
theorem d_GR_init_39 : decode b_GR_init 39 = .ok (.putfield 27, 3) := by decide +kernel
theorem d_GR_init_42 : decode b_GR_init 42 = .ok (.aload_n 0, 1) := by decide +kernel
theorem d_GR_init_43 : decode b_GR_init 43 = .ok (.bipush 40, 2) := by decide +kernel
theorem d_GR_init_45 : decode b_GR_init 45 = .ok (.newarray .long, 2) := by decide +kernel
theorem d_GR_init_47 : decode b_GR_init 47 = .ok (.putfield 30, 3) := by decide +kernel
theorem d_GR_init_50 : decode b_GR_init 50 = .ok (.aload_n 0, 1) := by decide +kernel
theorem d_GR_init_51 : decode b_GR_init 51 = .ok (.new 34, 3) := by decide +kernel
theorem d_GR_init_54 : decode b_GR_init 54 = .ok (.dup, 1) := by decide +kernel
theorem d_GR_init_55 : decode b_GR_init 55 = .ok (.invokespecial 36, 3) := by decide +kernel
theorem d_GR_init_58 : decode b_GR_init 58 = .ok (.putfield 37, 3) := by decide +kernel
theorem d_GR_init_61 : decode b_GR_init 61 = .ok (.aload_n 0, 1) := by decide +kernel
theorem d_GR_init_62 : decode b_GR_init 62 = .ok (.new 34, 3) := by decide +kernel
theorem d_GR_init_65 : decode b_GR_init 65 = .ok (.dup, 1) := by decide +kernel
theorem d_GR_init_66 : decode b_GR_init 66 = .ok (.invokespecial 36, 3) := by decide +kernel
theorem d_GR_init_69 : decode b_GR_init 69 = .ok (.putfield 41, 3) := by decide +kernel
theorem d_GR_init_72 : decode b_GR_init 72 = .ok (.aload_n 0, 1) := by decide +kernel
theorem d_GR_init_73 : decode b_GR_init 73 = .ok (.new 34, 3) := by decide +kernel
theorem d_GR_init_76 : decode b_GR_init 76 = .ok (.dup, 1) := by decide +kernel
theorem d_GR_init_77 : decode b_GR_init 77 = .ok (.invokespecial 36, 3) := by decide +kernel
theorem d_GR_init_80 : decode b_GR_init 80 = .ok (.putfield 44, 3) := by decide +kernel
theorem d_GR_init_83 : decode b_GR_init 83 = .ok (.aload_n 0, 1) := by decide +kernel
theorem d_GR_init_84 : decode b_GR_init 84 = .ok (.new 34, 3) := by decide +kernel
theorem d_GR_init_87 : decode b_GR_init 87 = .ok (.dup, 1) := by decide +kernel
theorem d_GR_init_88 : decode b_GR_init 88 = .ok (.invokespecial 36, 3) := by decide +kernel
theorem d_GR_init_91 : decode b_GR_init 91 = .ok (.putfield 47, 3) := by decide +kernel
theorem d_GR_init_94 : decode b_GR_init 94 = .ok (.aload_n 0, 1) := by decide +kernel
theorem d_GR_init_95 : decode b_GR_init 95 = .ok (.new 34, 3) := by decide +kernel
theorem d_GR_init_98 : decode b_GR_init 98 = .ok (.dup, 1) := by decide +kernel
theorem d_GR_init_99 : decode b_GR_init 99 = .ok (.invokespecial 36, 3) := by decide +kernel
theorem d_GR_init_102 : decode b_GR_init 102 = .ok (.putfield 50, 3) := by decide +kernel
theorem d_GR_init_105 : decode b_GR_init 105 = .ok (.aload_n 0, 1) := by decide +kernel
theorem d_GR_init_106 : decode b_GR_init 106 = .ok (.new 34, 3) := by decide +kernel
theorem d_GR_init_109 : decode b_GR_init 109 = .ok (.dup, 1) := by decide +kernel
theorem d_GR_init_110 : decode b_GR_init 110 = .ok (.invokespecial 36, 3) := by decide +kernel
theorem d_GR_init_113 : decode b_GR_init 113 = .ok (.putfield 53, 3) := by decide +kernel
theorem d_GR_init_116 : decode b_GR_init 116 = .ok (.aload_n 0, 1) := by decide +kernel
theorem d_GR_init_117 : decode b_GR_init 117 = .ok (.new 56, 3) := by decide +kernel
theorem d_GR_init_120 : decode b_GR_init 120 = .ok (.dup, 1) := by decide +kernel
theorem d_GR_init_121 : decode b_GR_init 121 = .ok (.invokespecial 58, 3) := by decide +kernel
theorem d_GR_init_124 : decode b_GR_init 124 = .ok (.putfield 59, 3) := by decide +kernel
theorem d_GR_init_127 : decode b_GR_init 127 = .ok (.return_, 1) := by decide +kernel
theorem d_TG_init_0 : decode b_TG_init 0 = .ok (.aload_n 0, 1) := by decide +kernel
theorem d_TG_init_1 : decode b_TG_init 1 = .ok (.invokespecial 3, 3) := by decide +kernel
theorem d_TG_init_4 : decode b_TG_init 4 = .ok (.aload_n 0, 1) := by decide +kernel
theorem d_TG_init_5 : decode b_TG_init 5 = .ok (.new 9, 3) := by decide +kernel
theorem d_TG_init_8 : decode b_TG_init 8 = .ok (.dup, 1) := by decide +kernel
theorem d_TG_init_9 : decode b_TG_init 9 = .ok (.invokespecial 11, 3) := by decide +kernel
theorem d_TG_init_12 : decode b_TG_init 12 = .ok (.putfield 12, 3) := by decide +kernel
theorem d_TG_init_15 : decode b_TG_init 15 = .ok (.aload_n 0, 1) := by decide +kernel
theorem d_TG_init_16 : decode b_TG_init 16 = .ok (.aload_n 0, 1) := by decide +kernel
theorem d_TG_init_17 : decode b_TG_init 17 = .ok (.getfield 12, 3) := by decide +kernel
theorem d_TG_init_20 : decode b_TG_init 20 = .ok (.getfield 18, 3) := by decide +kernel
theorem d_TG_init_23 : decode b_TG_init 23 = .ok (.putfield 22, 3) := by decide +kernel
theorem d_TG_init_26 : decode b_TG_init 26 = .ok (.aload_n 0, 1) := by decide +kernel
theorem d_TG_init_27 : decode b_TG_init 27 = .ok (.aload_n 0, 1) := by decide +kernel
theorem d_TG_init_28 : decode b_TG_init 28 = .ok (.getfield 12, 3) := by decide +kernel
theorem d_TG_init_31 : decode b_TG_init 31 = .ok (.getfield 23, 3) := by decide +kernel
theorem d_TG_init_34 : decode b_TG_init 34 = .ok (.putfield 27, 3) := by decide +kernel
theorem d_TG_init_37 : decode b_TG_init 37 = .ok (.aload_n 0, 1) := by decide +kernel
theorem d_TG_init_38 : decode b_TG_init 38 = .ok (.bipush 12, 2) := by decide +kernel
theorem d_TG_init_40 : decode b_TG_init 40 = .ok (.anewarray 28, 3) := by decide +kernel
theorem d_TG_init_43 : decode b_TG_init 43 = .ok (.putfield 30, 3) := by decide +kernel
theorem d_TG_init_46 : decode b_TG_init 46 = .ok (.aload_n 0, 1) := by decide +kernel
theorem d_TG_init_47 : decode b_TG_init 47 = .ok (.bipush 40, 2) := by decide +kernel
theorem d_TG_init_49 : decode b_TG_init 49 = .ok (.newarray .long, 2) := by decide +kernel
theorem d_TG_init_51 : decode b_TG_init 51 = .ok (.putfield 34, 3) := by decide +kernel
theorem d_TG_init_54 : decode b_TG_init 54 = .ok (.aload_n 0, 1) := by decide +kernel
theorem d_TG_init_55 : decode b_TG_init 55 = .ok (.bipush 40, 2) := by decide +kernel
theorem d_TG_init_57 : decode b_TG_init 57 = .ok (.newarray .int, 2) := by decide +kernel
theorem d_TG_init_59 : decode b_TG_init 59 = .ok (.putfield 38, 3) := by decide +kernel
theorem d_TG_init_62 : decode b_TG_init 62 = .ok (.aload_n 0, 1) := by decide +kernel
theorem d_TG_init_63 : decode b_TG_init 63 = .ok (.iconst 2, 1) := by decide +kernel
theorem d_TG_init_64 : decode b_TG_init 64 = .ok (.bipush 13, 2) := by decide +kernel
theorem d_TG_init_66 : decode b_TG_init 66 = .ok (.multianewarray 41 2, 4) := by decide +kernel
theorem d_TG_init_70 : decode b_TG_init 70 = .ok (.putfield 43, 3) := by decide +kernel
theorem d_TG_init_73 : decode b_TG_init 73 = .ok (.aload_n 0, 1) := by decide +kernel
theorem d_TG_init_74 : decode b_TG_init 74 = .ok (.bipush 31, 2) := by decide +kernel
theorem d_TG_init_76 : decode b_TG_init 76 = .ok (.newarray .long, 2) := by decide +kernel
theorem d_TG_init_78 : decode b_TG_init 78 = .ok (.putfield 46, 3) := by decide +kernel
theorem d_TG_init_81 : decode b_TG_init 81 = .ok (.iconst 0, 1) := by decide +kernel
theorem d_TG_init_82 : decode b_TG_init 82 = .ok (.istore_n 1, 1) := by decide +kernel
theorem d_TG_init_83 : decode b_TG_init 83 = .ok (.iload_n 1, 1) := by decide +kernel
theorem d_TG_init_84 : decode b_TG_init 84 = .ok (.bipush 12, 2) := by decide +kernel
theorem d_TG_init_86 : decode b_TG_init 86 = .ok (.if_icmp .ge 22, 3) := by decide +kernel
theorem d_TG_init_89 : decode b_TG_init 89 = .ok (.aload_n 0, 1) := by decide +kernel
theorem d_TG_init_90 : decode b_TG_init 90 = .ok (.getfield 30, 3) := by decide +kernel
theorem d_TG_init_93 : decode b_TG_init 93 = .ok (.iload_n 1, 1) := by decide +kernel
theorem d_TG_init_94 : decode b_TG_init 94 = .ok (.new 28, 3) := by decide +kernel
theorem d_TG_init_97 : decode b_TG_init 97 = .ok (.dup, 1) := by decide +kernel
theorem d_TG_init_98 : decode b_TG_init 98 = .ok (.invokespecial 49, 3) := by decide +kernel
theorem d_TG_init_101 : decode b_TG_init 101 = .ok (.aastore, 1) := by decide +kernel
theorem d_TG_init_102 : decode b_TG_init 102 = .ok (.iinc 1 1, 3) := by decide +kernel
theorem d_TG_init_105 : decode b_TG_init 105 = .ok (.goto (-22), 3) := by decide +kernel
theorem d_TG_init_108 : decode b_TG_init 108 = .ok (.return_, 1) := by decide +kernel
theorem d_TR_init_0 : decode b_TR_init 0 = .ok (.aload_n 0, 1) := by decide +kernel
theorem d_TR_init_1 : decode b_TR_init 1 = .ok (.invokespecial 3, 3) := by decide +kernel
theorem d_TR_init_4 : decode b_TR_init 4 = .ok (.aload_n 0, 1) := by decide +kernel
theorem d_TR_init_5 : decode b_TR_init 5 = .ok (.bipush 7, 2) := by decide +kernel
theorem d_TR_init_7 : decode b_TR_init 7 = .ok (.bipush 31, 2) := by decide +kernel
theorem d_TR_init_9 : decode b_TR_init 9 = .ok (.multianewarray 9 2, 4) := by decide +kernel
theorem d_TR_init_13 : decode b_TR_init 13 = .ok (.putfield 11, 3) := by decide +kernel
theorem d_TR_init_16 : decode b_TR_init 16 = .ok (.aload_n 0, 1) := by decide +kernel
theorem d_TR_init_17 : decode b_TR_init 17 = .ok (.iconst 3, 1) := by decide +kernel
theorem d_TR_init_18 : decode b_TR_init 18 = .ok (.bipush 31, 2) := by decide +kernel
theorem d_TR_init_20 : decode b_TR_init 20 = .ok (.multianewarray 16 2, 4) := by decide +kernel
theorem d_TR_init_24 : decode b_TR_init 24 = .ok (.putfield 18, 3) := by decide +kernel
theorem d_TR_init_27 : decode b_TR_init 27 = .ok (.return_, 1) := by decide +kernel
