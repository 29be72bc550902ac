theorem d_GR_init_0 : decode b_GR_init 0 = .ok (.aload_n 0, 1) := by decide +kernel
theorem d_GR_init_1 : decode b_GR_init 1 = .ok (.invokespecial 3, 3) := by decide +kernel
theorem d_GR_init_4 : decode b_GR_init 4 = .ok (.aload_n 0, 1) := by decide +kernel
theorem d_GR_init_5 : decode b_GR_init 5 = .ok (.new 9, 3) := by decide +kernel
theorem d_GR_init_8 : decode b_GR_init 8 = .ok (.dup, 1) := by decide +kernel
theorem d_GR_init_9 : decode b_GR_init 9 = .ok (.invokespecial 11, 3) := by decide +kernel
theorem d_GR_init_12 : decode b_GR_init 12 = .ok (.putfield 12, 3) := by decide +kernel
theorem d_GR_init_15 : decode b_GR_init 15 = .ok (.aload_n 0, 1) := by decide +kernel
theorem d_GR_init_16 : decode b_GR_init 16 = .ok (.bipush 15, 2) := by decide +kernel
theorem d_GR_init_18 : decode b_GR_init 18 = .ok (.newarray .int, 2) := by decide +kernel
theorem d_GR_init_20 : decode b_GR_init 20 = .ok (.putfield 18, 3) := by decide +kernel
theorem d_GR_init_23 : decode b_GR_init 23 = .ok (.aload_n 0, 1) := by decide +kernel
theorem d_GR_init_24 : decode b_GR_init 24 = .ok (.iconst 4, 1) := by decide +kernel
theorem d_GR_init_25 : decode b_GR_init 25 = .ok (.bipush 40, 2) := by decide +kernel
theorem d_GR_init_27 : decode b_GR_init 27 = .ok (.multianewarray 22 2, 4) := by decide +kernel
theorem d_GR_init_31 : decode b_GR_init 31 = .ok (.putfield 24, 3) := by decide +kernel
theorem d_GR_init_34 : decode b_GR_init 34 = .ok (.aload_n 0, 1) := by decide +kernel
theorem d_GR_init_35 : decode b_GR_init 35 = .ok (.bipush 40, 2) := by decide +kernel
theorem d_GR_init_37 : decode b_GR_init 37 = .ok (.newarray .int, 2) := by decide +kernel
theorem d_GR_init_39 : decode b_GR_init 39 = .ok (.putfield 27, 3) := by decide +kernel
theorem d_GR_init_42 : decode b_GR_init 42 = .ok (.aload_n 0, 1) := by decide +kernel
theorem d_GR_init_43 : decode b_GR_init 43 = .ok (.bipush 40, 2) := by decide +kernel
theorem d_GR_init_45 : decode b_GR_init 45 = .ok (.newarray .long, 2) := by decide +kernel
theorem d_GR_init_47 : decode b_GR_init 47 = .ok (.putfield 30, 3) := by decide +kernel
theorem d_GR_init_50 : decode b_GR_init 50 = .ok (.aload_n 0, 1) := by decide +kernel
theorem d_GR_init_51 : decode b_GR_init 51 = .ok (.new 34, 3) := by decide +kernel
theorem d_GR_init_54 : decode b_GR_init 54 = .ok (.dup, 1) := by decide +kernel
theorem d_GR_init_55 : decode b_GR_init 55 = .ok (.invokespecial 36, 3) := by decide +kernel
theorem d_GR_init_58 : decode b_GR_init 58 = .ok (.putfield 37, 3) := by decide +kernel
theorem d_GR_init_61 : decode b_GR_init 61 = .ok (.aload_n 0, 1) := by decide +kernel
theorem d_GR_init_62 : decode b_GR_init 62 = .ok (.new 34, 3) := by decide +kernel
theorem d_GR_init_65 : decode b_GR_init 65 = .ok (.dup, 1) := by decide +kernel
theorem d_GR_init_66 : decode b_GR_init 66 = .ok (.invokespecial 36, 3) := by decide +kernel
theorem d_GR_init_69 : decode b_GR_init 69 = .ok (.putfield 41, 3) := by decide +kernel
theorem d_GR_init_72 : decode b_GR_init 72 = .ok (.aload_n 0, 1) := by decide +kernel
theorem d_GR_init_73 : decode b_GR_init 73 = .ok (.new 34, 3) := by decide +kernel
theorem d_GR_init_76 : decode b_GR_init 76 = .ok (.dup, 1) := by decide +kernel
theorem d_GR_init_77 : decode b_GR_init 77 = .ok (.invokespecial 36, 3) := by decide +kernel
theorem d_GR_init_80 : decode b_GR_init 80 = .ok (.putfield 44, 3) := by decide +kernel
theorem d_GR_init_83 : decode b_GR_init 83 = .ok (.aload_n 0, 1) := by decide +kernel
theorem d_GR_init_84 : decode b_GR_init 84 = .ok (.new 34, 3) := by decide +kernel
theorem d_GR_init_87 : decode b_GR_init 87 = .ok (.dup, 1) := by decide +kernel
theorem d_GR_init_88 : decode b_GR_init 88 = .ok (.invokespecial 36, 3) := by decide +kernel
theorem d_GR_init_91 : decode b_GR_init 91 = .ok (.putfield 47, 3) := by decide +kernel
theorem d_GR_init_94 : decode b_GR_init 94 = .ok (.aload_n 0, 1) := by decide +kernel
theorem d_GR_init_95 : decode b_GR_init 95 = .ok (.new 34, 3) := by decide +kernel
theorem d_GR_init_98 : decode b_GR_init 98 = .ok (.dup, 1) := by decide +kernel
theorem d_GR_init_99 : decode b_GR_init 99 = .ok (.invokespecial 36, 3) := by decide +kernel
theorem d_GR_init_102 : decode b_GR_init 102 = .ok (.putfield 50, 3) := by decide +kernel
theorem d_GR_init_105 : decode b_GR_init 105 = .ok (.aload_n 0, 1) := by decide +kernel
theorem d_GR_init_106 : decode b_GR_init 106 = .ok (.new 34, 3) := by decide +kernel
theorem d_GR_init_109 : decode b_GR_init 109 = .ok (.dup, 1) := by decide +kernel
theorem d_GR_init_110 : decode b_GR_init 110 = .ok (.invokespecial 36, 3) := by decide +kernel
theorem d_GR_init_113 : decode b_GR_init 113 = .ok (.putfield 53, 3) := by decide +kernel
theorem d_GR_init_116 : decode b_GR_init 116 = .ok (.aload_n 0, 1) := by decide +kernel
theorem d_GR_init_117 : decode b_GR_init 117 = .ok (.new 56, 3) := by decide +kernel
theorem d_GR_init_120 : decode b_GR_init 120 = .ok (.dup, 1) := by decide +kernel
theorem d_GR_init_121 : decode b_GR_init 121 = .ok (.invokespecial 58, 3) := by decide +kernel
theorem d_GR_init_124 : decode b_GR_init 124 = .ok (.putfield 59, 3) := by decide +kernel
theorem d_GR_init_127 : decode b_GR_init 127 = .ok (.return_, 1) := by decide +kernel
theorem d_GR_sortRows_0 : decode b_GR_sortRows 0 = .ok (.iconst 0, 1) := by decide +kernel
theorem d_GR_sortRows_1 : decode b_GR_sortRows 1 = .ok (.istore_n 1, 1) := by decide +kernel
theorem d_GR_sortRows_2 : decode b_GR_sortRows 2 = .ok (.iload_n 1, 1) := by decide +kernel
theorem d_GR_sortRows_3 : decode b_GR_sortRows 3 = .ok (.iconst 4, 1) := by decide +kernel
theorem d_GR_sortRows_4 : decode b_GR_sortRows 4 = .ok (.if_icmp .ge 101, 3) := by decide +kernel
theorem d_GR_sortRows_7 : decode b_GR_sortRows 7 = .ok (.iconst 0, 1) := by decide +kernel
theorem d_GR_sortRows_8 : decode b_GR_sortRows 8 = .ok (.istore_n 2, 1) := by decide +kernel
theorem d_GR_sortRows_9 : decode b_GR_sortRows 9 = .ok (.iload_n 2, 1) := by decide +kernel
theorem d_GR_sortRows_10 : decode b_GR_sortRows 10 = .ok (.aload_n 0, 1) := by decide +kernel
theorem d_GR_sortRows_11 : decode b_GR_sortRows 11 = .ok (.getfield 12, 3) := by decide +kernel
theorem d_GR_sortRows_14 : decode b_GR_sortRows 14 = .ok (.getfield 63, 3) := by decide +kernel
theorem d_GR_sortRows_17 : decode b_GR_sortRows 17 = .ok (.if_icmp .ge 82, 3) := by decide +kernel
theorem d_GR_sortRows_20 : decode b_GR_sortRows 20 = .ok (.iload_n 2, 1) := by decide +kernel
theorem d_GR_sortRows_21 : decode b_GR_sortRows 21 = .ok (.istore_n 3, 1) := by decide +kernel
theorem d_GR_sortRows_22 : decode b_GR_sortRows 22 = .ok (.iload_n 3, 1) := by decide +kernel
theorem d_GR_sortRows_23 : decode b_GR_sortRows 23 = .ok (.ifCond .le 61, 3) := by decide +kernel
theorem d_GR_sortRows_26 : decode b_GR_sortRows 26 = .ok (.aload_n 0, 1) := by decide +kernel
theorem d_GR_sortRows_27 : decode b_GR_sortRows 27 = .ok (.getfield 12, 3) := by decide +kernel
theorem d_GR_sortRows_30 : decode b_GR_sortRows 30 = .ok (.getfield 67, 3) := by decide +kernel
theorem d_GR_sortRows_33 : decode b_GR_sortRows 33 = .ok (.aload_n 0, 1) := by decide +kernel
theorem d_GR_sortRows_34 : decode b_GR_sortRows 34 = .ok (.getfield 24, 3) := by decide +kernel
theorem d_GR_sortRows_37 : decode b_GR_sortRows 37 = .ok (.iload_n 1, 1) := by decide +kernel
theorem d_GR_sortRows_38 : decode b_GR_sortRows 38 = .ok (.aaload, 1) := by decide +kernel
theorem d_GR_sortRows_39 : decode b_GR_sortRows 39 = .ok (.iload_n 3, 1) := by decide +kernel
theorem d_GR_sortRows_40 : decode b_GR_sortRows 40 = .ok (.iconst 1, 1) := by decide +kernel
theorem d_GR_sortRows_41 : decode b_GR_sortRows 41 = .ok (.isub, 1) := by decide +kernel
theorem d_GR_sortRows_42 : decode b_GR_sortRows 42 = .ok (.iaload, 1) := by decide +kernel
theorem d_GR_sortRows_43 : decode b_GR_sortRows 43 = .ok (.aaload, 1) := by decide +kernel
theorem d_GR_sortRows_44 : decode b_GR_sortRows 44 = .ok (.iload_n 1, 1) := by decide +kernel
theorem d_GR_sortRows_45 : decode b_GR_sortRows 45 = .ok (.iaload, 1) := by decide +kernel
theorem d_GR_sortRows_46 : decode b_GR_sortRows 46 = .ok (.aload_n 0, 1) := by decide +kernel
theorem d_GR_sortRows_47 : decode b_GR_sortRows 47 = .ok (.getfield 12, 3) := by decide +kernel
theorem d_GR_sortRows_50 : decode b_GR_sortRows 50 = .ok (.getfield 67, 3) := by decide +kernel
theorem d_GR_sortRows_53 : decode b_GR_sortRows 53 = .ok (.iload_n 2, 1) := by decide +kernel
theorem d_GR_sortRows_54 : decode b_GR_sortRows 54 = .ok (.aaload, 1) := by decide +kernel
theorem d_GR_sortRows_55 : decode b_GR_sortRows 55 = .ok (.iload_n 1, 1) := by decide +kernel
theorem d_GR_sortRows_56 : decode b_GR_sortRows 56 = .ok (.iaload, 1) := by decide +kernel
theorem d_GR_sortRows_57 : decode b_GR_sortRows 57 = .ok (.if_icmp .le 27, 3) := by decide +kernel
theorem d_GR_sortRows_60 : decode b_GR_sortRows 60 = .ok (.aload_n 0, 1) := by decide +kernel
theorem d_GR_sortRows_61 : decode b_GR_sortRows 61 = .ok (.getfield 24, 3) := by decide +kernel
theorem d_GR_sortRows_64 : decode b_GR_sortRows 64 = .ok (.iload_n 1, 1) := by decide +kernel
theorem d_GR_sortRows_65 : decode b_GR_sortRows 65 = .ok (.aaload, 1) := by decide +kernel
theorem d_GR_sortRows_66 : decode b_GR_sortRows 66 = .ok (.iload_n 3, 1) := by decide +kernel
theorem d_GR_sortRows_67 : decode b_GR_sortRows 67 = .ok (.aload_n 0, 1) := by decide +kernel
theorem d_GR_sortRows_68 : decode b_GR_sortRows 68 = .ok (.getfield 24, 3) := by decide +kernel
theorem d_GR_sortRows_71 : decode b_GR_sortRows 71 = .ok (.iload_n 1, 1) := by decide +kernel
theorem d_GR_sortRows_72 : decode b_GR_sortRows 72 = .ok (.aaload, 1) := by decide +kernel
theorem d_GR_sortRows_73 : decode b_GR_sortRows 73 = .ok (.iload_n 3, 1) := by decide +kernel
theorem d_GR_sortRows_74 : decode b_GR_sortRows 74 = .ok (.iconst 1, 1) := by decide +kernel
theorem d_GR_sortRows_75 : decode b_GR_sortRows 75 = .ok (.isub, 1) := by decide +kernel
theorem d_GR_sortRows_76 : decode b_GR_sortRows 76 = .ok (.iaload, 1) := by decide +kernel
theorem d_GR_sortRows_77 : decode b_GR_sortRows 77 = .ok (.iastore, 1) := by decide +kernel
theorem d_GR_sortRows_78 : decode b_GR_sortRows 78 = .ok (.iinc 3 (-1), 3) := by decide +kernel
theorem d_GR_sortRows_81 : decode b_GR_sortRows 81 = .ok (.goto (-59), 3) := by decide +kernel
theorem d_GR_sortRows_84 : decode b_GR_sortRows 84 = .ok (.aload_n 0, 1) := by decide +kernel
theorem d_GR_sortRows_85 : decode b_GR_sortRows 85 = .ok (.getfield 24, 3) := by decide +kernel
theorem d_GR_sortRows_88 : decode b_GR_sortRows 88 = .ok (.iload_n 1, 1) := by decide +kernel
theorem d_GR_sortRows_89 : decode b_GR_sortRows 89 = .ok (.aaload, 1) := by decide +kernel
theorem d_GR_sortRows_90 : decode b_GR_sortRows 90 = .ok (.iload_n 3, 1) := by decide +kernel
theorem d_GR_sortRows_91 : decode b_GR_sortRows 91 = .ok (.iload_n 2, 1) := by decide +kernel
theorem d_GR_sortRows_92 : decode b_GR_sortRows 92 = .ok (.iastore, 1) := by decide +kernel
theorem d_GR_sortRows_93 : decode b_GR_sortRows 93 = .ok (.iinc 2 1, 3) := by decide +kernel
theorem d_GR_sortRows_96 : decode b_GR_sortRows 96 = .ok (.goto (-87), 3) := by decide +kernel
theorem d_GR_sortRows_99 : decode b_GR_sortRows 99 = .ok (.iinc 1 1, 3) := by decide +kernel
theorem d_GR_sortRows_102 : decode b_GR_sortRows 102 = .ok (.goto (-100), 3) := by decide +kernel
theorem d_GR_sortRows_105 : decode b_GR_sortRows 105 = .ok (.return_, 1) := by decide +kernel
theorem d_GR_growTree_0 : decode b_GR_growTree 0 = .ok (.aload_n 0, 1) := by decide +kernel
theorem d_GR_growTree_1 : decode b_GR_growTree 1 = .ok (.iload_n 2, 1) := by decide +kernel
theorem d_GR_growTree_2 : decode b_GR_growTree 2 = .ok (.aload_n 3, 1) := by decide +kernel
theorem d_GR_growTree_3 : decode b_GR_growTree 3 = .ok (.invokevirtual 70, 3) := by decide +kernel
theorem d_GR_growTree_6 : decode b_GR_growTree 6 = .ok (.aload_n 1, 1) := by decide +kernel
theorem d_GR_growTree_7 : decode b_GR_growTree 7 = .ok (.iconst 0, 1) := by decide +kernel
theorem d_GR_growTree_8 : decode b_GR_growTree 8 = .ok (.putfield 74, 3) := by decide +kernel
theorem d_GR_growTree_11 : decode b_GR_growTree 11 = .ok (.aload_n 1, 1) := by decide +kernel
theorem d_GR_growTree_12 : decode b_GR_growTree 12 = .ok (.iconst 0, 1) := by decide +kernel
theorem d_GR_growTree_13 : decode b_GR_growTree 13 = .ok (.invokevirtual 79, 3) := by decide +kernel
theorem d_GR_growTree_16 : decode b_GR_growTree 16 = .ok (.iconst 0, 1) := by decide +kernel
theorem d_GR_growTree_17 : decode b_GR_growTree 17 = .ok (.istore 4, 2) := by decide +kernel
theorem d_GR_growTree_19 : decode b_GR_growTree 19 = .ok (.iload 4, 2) := by decide +kernel
theorem d_GR_growTree_21 : decode b_GR_growTree 21 = .ok (.aload_n 1, 1) := by decide +kernel
theorem d_GR_growTree_22 : decode b_GR_growTree 22 = .ok (.getfield 74, 3) := by decide +kernel
theorem d_GR_growTree_25 : decode b_GR_growTree 25 = .ok (.if_icmp .ge 88, 3) := by decide +kernel
theorem d_GR_growTree_28 : decode b_GR_growTree 28 = .ok (.iload 4, 2) := by decide +kernel
theorem d_GR_growTree_30 : decode b_GR_growTree 30 = .ok (.bipush 31, 2) := by decide +kernel
theorem d_GR_growTree_32 : decode b_GR_growTree 32 = .ok (.if_icmp .ge 81, 3) := by decide +kernel
theorem d_GR_growTree_35 : decode b_GR_growTree 35 = .ok (.aload_n 0, 1) := by decide +kernel
theorem d_GR_growTree_36 : decode b_GR_growTree 36 = .ok (.iload 4, 2) := by decide +kernel
theorem d_GR_growTree_38 : decode b_GR_growTree 38 = .ok (.invokevirtual 83, 3) := by decide +kernel
theorem d_GR_growTree_41 : decode b_GR_growTree 41 = .ok (.aload_n 1, 1) := by decide +kernel
theorem d_GR_growTree_42 : decode b_GR_growTree 42 = .ok (.iload 4, 2) := by decide +kernel
theorem d_GR_growTree_44 : decode b_GR_growTree 44 = .ok (.aload_n 0, 1) := by decide +kernel
theorem d_GR_growTree_45 : decode b_GR_growTree 45 = .ok (.getfield 37, 3) := by decide +kernel
theorem d_GR_growTree_48 : decode b_GR_growTree 48 = .ok (.aload_n 0, 1) := by decide +kernel
theorem d_GR_growTree_49 : decode b_GR_growTree 49 = .ok (.getfield 18, 3) := by decide +kernel
theorem d_GR_growTree_52 : decode b_GR_growTree 52 = .ok (.iconst 2, 1) := by decide +kernel
theorem d_GR_growTree_53 : decode b_GR_growTree 53 = .ok (.iaload, 1) := by decide +kernel
theorem d_GR_growTree_54 : decode b_GR_growTree 54 = .ok (.invokevirtual 86, 3) := by decide +kernel
theorem d_GR_growTree_57 : decode b_GR_growTree 57 = .ok (.aload_n 1, 1) := by decide +kernel
theorem d_GR_growTree_58 : decode b_GR_growTree 58 = .ok (.iload 4, 2) := by decide +kernel
theorem d_GR_growTree_60 : decode b_GR_growTree 60 = .ok (.aload_n 0, 1) := by decide +kernel
theorem d_GR_growTree_61 : decode b_GR_growTree 61 = .ok (.getfield 18, 3) := by decide +kernel
theorem d_GR_growTree_64 : decode b_GR_growTree 64 = .ok (.iconst 0, 1) := by decide +kernel
theorem d_GR_growTree_65 : decode b_GR_growTree 65 = .ok (.iaload, 1) := by decide +kernel
theorem d_GR_growTree_66 : decode b_GR_growTree 66 = .ok (.invokevirtual 90, 3) := by decide +kernel
theorem d_GR_growTree_69 : decode b_GR_growTree 69 = .ok (.ifCond .eq 38, 3) := by decide +kernel
theorem d_GR_growTree_72 : decode b_GR_growTree 72 = .ok (.aload_n 0, 1) := by decide +kernel
theorem d_GR_growTree_73 : decode b_GR_growTree 73 = .ok (.iload 4, 2) := by decide +kernel
theorem d_GR_growTree_75 : decode b_GR_growTree 75 = .ok (.iload_n 2, 1) := by decide +kernel
theorem d_GR_growTree_76 : decode b_GR_growTree 76 = .ok (.invokevirtual 94, 3) := by decide +kernel
theorem d_GR_growTree_79 : decode b_GR_growTree 79 = .ok (.aload_n 0, 1) := by decide +kernel
theorem d_GR_growTree_80 : decode b_GR_growTree 80 = .ok (.getfield 59, 3) := by decide +kernel
theorem d_GR_growTree_83 : decode b_GR_growTree 83 = .ok (.getfield 98, 3) := by decide +kernel
theorem d_GR_growTree_86 : decode b_GR_growTree 86 = .ok (.iconst (-1), 1) := by decide +kernel
theorem d_GR_growTree_87 : decode b_GR_growTree 87 = .ok (.if_icmp .eq 20, 3) := by decide +kernel
theorem d_GR_growTree_90 : decode b_GR_growTree 90 = .ok (.aload_n 1, 1) := by decide +kernel
theorem d_GR_growTree_91 : decode b_GR_growTree 91 = .ok (.iload 4, 2) := by decide +kernel
theorem d_GR_growTree_93 : decode b_GR_growTree 93 = .ok (.aload_n 0, 1) := by decide +kernel
theorem d_GR_growTree_94 : decode b_GR_growTree 94 = .ok (.getfield 59, 3) := by decide +kernel
theorem d_GR_growTree_97 : decode b_GR_growTree 97 = .ok (.invokevirtual 101, 3) := by decide +kernel
theorem d_GR_growTree_100 : decode b_GR_growTree 100 = .ok (.aload_n 0, 1) := by decide +kernel
theorem d_GR_growTree_101 : decode b_GR_growTree 101 = .ok (.aload_n 1, 1) := by decide +kernel
theorem d_GR_growTree_102 : decode b_GR_growTree 102 = .ok (.iload 4, 2) := by decide +kernel
theorem d_GR_growTree_104 : decode b_GR_growTree 104 = .ok (.invokevirtual 105, 3) := by decide +kernel
theorem d_GR_growTree_107 : decode b_GR_growTree 107 = .ok (.iinc 4 1, 3) := by decide +kernel
theorem d_GR_growTree_110 : decode b_GR_growTree 110 = .ok (.goto (-91), 3) := by decide +kernel
theorem d_GR_growTree_113 : decode b_GR_growTree 113 = .ok (.return_, 1) := by decide +kernel
theorem d_GR_hasDrawn_0 : decode b_GR_hasDrawn 0 = .ok (.aload_n 0, 1) := by decide +kernel
theorem d_GR_hasDrawn_1 : decode b_GR_hasDrawn 1 = .ok (.getfield 27, 3) := by decide +kernel
theorem d_GR_hasDrawn_4 : decode b_GR_hasDrawn 4 = .ok (.iload_n 1, 1) := by decide +kernel
theorem d_GR_hasDrawn_5 : decode b_GR_hasDrawn 5 = .ok (.iaload, 1) := by decide +kernel
theorem d_GR_hasDrawn_6 : decode b_GR_hasDrawn 6 = .ok (.iconst (-1), 1) := by decide +kernel
theorem d_GR_hasDrawn_7 : decode b_GR_hasDrawn 7 = .ok (.if_icmp .eq 7, 3) := by decide +kernel
theorem d_GR_hasDrawn_10 : decode b_GR_hasDrawn 10 = .ok (.iconst 1, 1) := by decide +kernel
theorem d_GR_hasDrawn_11 : decode b_GR_hasDrawn 11 = .ok (.goto 4, 3) := by decide +kernel
theorem d_GR_hasDrawn_14 : decode b_GR_hasDrawn 14 = .ok (.iconst 0, 1) := by decide +kernel
theorem d_GR_hasDrawn_15 : decode b_GR_hasDrawn 15 = .ok (.ireturn, 1) := by decide +kernel
theorem d_GR_drawRows_0 : decode b_GR_drawRows 0 = .ok (.iconst 0, 1) := by decide +kernel
theorem d_GR_drawRows_1 : decode b_GR_drawRows 1 = .ok (.istore_n 3, 1) := by decide +kernel
theorem d_GR_drawRows_2 : decode b_GR_drawRows 2 = .ok (.iload_n 3, 1) := by decide +kernel
theorem d_GR_drawRows_3 : decode b_GR_drawRows 3 = .ok (.aload_n 0, 1) := by decide +kernel
theorem d_GR_drawRows_4 : decode b_GR_drawRows 4 = .ok (.getfield 12, 3) := by decide +kernel
theorem d_GR_drawRows_7 : decode b_GR_drawRows 7 = .ok (.getfield 63, 3) := by decide +kernel
theorem d_GR_drawRows_10 : decode b_GR_drawRows 10 = .ok (.if_icmp .ge 99, 3) := by decide +kernel
theorem d_GR_drawRows_13 : decode b_GR_drawRows 13 = .ok (.aload_n 0, 1) := by decide +kernel
theorem d_GR_drawRows_14 : decode b_GR_drawRows 14 = .ok (.getfield 12, 3) := by decide +kernel
theorem d_GR_drawRows_17 : decode b_GR_drawRows 17 = .ok (.getfield 109, 3) := by decide +kernel
theorem d_GR_drawRows_20 : decode b_GR_drawRows 20 = .ok (.iload_n 3, 1) := by decide +kernel
theorem d_GR_drawRows_21 : decode b_GR_drawRows 21 = .ok (.baload, 1) := by decide +kernel
theorem d_GR_drawRows_22 : decode b_GR_drawRows 22 = .ok (.ifCond .ne 27, 3) := by decide +kernel
theorem d_GR_drawRows_25 : decode b_GR_drawRows 25 = .ok (.aload_n 0, 1) := by decide +kernel
theorem d_GR_drawRows_26 : decode b_GR_drawRows 26 = .ok (.bipush 64, 2) := by decide +kernel
theorem d_GR_drawRows_28 : decode b_GR_drawRows 28 = .ok (.iload_n 1, 1) := by decide +kernel
theorem d_GR_drawRows_29 : decode b_GR_drawRows 29 = .ok (.imul, 1) := by decide +kernel
theorem d_GR_drawRows_30 : decode b_GR_drawRows 30 = .ok (.iload_n 3, 1) := by decide +kernel
theorem d_GR_drawRows_31 : decode b_GR_drawRows 31 = .ok (.iadd, 1) := by decide +kernel
theorem d_GR_drawRows_32 : decode b_GR_drawRows 32 = .ok (.invokevirtual 113, 3) := by decide +kernel
theorem d_GR_drawRows_35 : decode b_GR_drawRows 35 = .ok (.aload_n 0, 1) := by decide +kernel
theorem d_GR_drawRows_36 : decode b_GR_drawRows 36 = .ok (.getfield 18, 3) := by decide +kernel
theorem d_GR_drawRows_39 : decode b_GR_drawRows 39 = .ok (.bipush 6, 2) := by decide +kernel
theorem d_GR_drawRows_41 : decode b_GR_drawRows 41 = .ok (.iaload, 1) := by decide +kernel
theorem d_GR_drawRows_42 : decode b_GR_drawRows 42 = .ok (.if_icmp .ge 7, 3) := by decide +kernel
theorem d_GR_drawRows_45 : decode b_GR_drawRows 45 = .ok (.iconst 1, 1) := by decide +kernel
theorem d_GR_drawRows_46 : decode b_GR_drawRows 46 = .ok (.goto 4, 3) := by decide +kernel
theorem d_GR_drawRows_49 : decode b_GR_drawRows 49 = .ok (.iconst 0, 1) := by decide +kernel
theorem d_GR_drawRows_50 : decode b_GR_drawRows 50 = .ok (.istore 4, 2) := by decide +kernel
theorem d_GR_drawRows_52 : decode b_GR_drawRows 52 = .ok (.aload_n 0, 1) := by decide +kernel
theorem d_GR_drawRows_53 : decode b_GR_drawRows 53 = .ok (.getfield 27, 3) := by decide +kernel
theorem d_GR_drawRows_56 : decode b_GR_drawRows 56 = .ok (.iload_n 3, 1) := by decide +kernel
theorem d_GR_drawRows_57 : decode b_GR_drawRows 57 = .ok (.iload 4, 2) := by decide +kernel
theorem d_GR_drawRows_59 : decode b_GR_drawRows 59 = .ok (.ifCond .eq 7, 3) := by decide +kernel
theorem d_GR_drawRows_62 : decode b_GR_drawRows 62 = .ok (.iconst 0, 1) := by decide +kernel
theorem d_GR_drawRows_63 : decode b_GR_drawRows 63 = .ok (.goto 4, 3) := by decide +kernel
theorem d_GR_drawRows_66 : decode b_GR_drawRows 66 = .ok (.iconst (-1), 1) := by decide +kernel
theorem d_GR_drawRows_67 : decode b_GR_drawRows 67 = .ok (.iastore, 1) := by decide +kernel
theorem d_GR_drawRows_68 : decode b_GR_drawRows 68 = .ok (.aload_n 0, 1) := by decide +kernel
theorem d_GR_drawRows_69 : decode b_GR_drawRows 69 = .ok (.getfield 30, 3) := by decide +kernel
theorem d_GR_drawRows_72 : decode b_GR_drawRows 72 = .ok (.iload_n 3, 1) := by decide +kernel
theorem d_GR_drawRows_73 : decode b_GR_drawRows 73 = .ok (.aload_n 0, 1) := by decide +kernel
theorem d_GR_drawRows_74 : decode b_GR_drawRows 74 = .ok (.getfield 12, 3) := by decide +kernel
theorem d_GR_drawRows_77 : decode b_GR_drawRows 77 = .ok (.getfield 117, 3) := by decide +kernel
theorem d_GR_drawRows_80 : decode b_GR_drawRows 80 = .ok (.iload_n 3, 1) := by decide +kernel
theorem d_GR_drawRows_81 : decode b_GR_drawRows 81 = .ok (.iaload, 1) := by decide +kernel
theorem d_GR_drawRows_82 : decode b_GR_drawRows 82 = .ok (.i2l, 1) := by decide +kernel
theorem d_GR_drawRows_83 : decode b_GR_drawRows 83 = .ok (.aload_n 2, 1) := by decide +kernel
theorem d_GR_drawRows_84 : decode b_GR_drawRows 84 = .ok (.iload_n 3, 1) := by decide +kernel
theorem d_GR_drawRows_85 : decode b_GR_drawRows 85 = .ok (.laload, 1) := by decide +kernel
theorem d_GR_drawRows_86 : decode b_GR_drawRows 86 = .ok (.sipush 256, 3) := by decide +kernel
theorem d_GR_drawRows_89 : decode b_GR_drawRows 89 = .ok (.aload_n 0, 1) := by decide +kernel
theorem d_GR_drawRows_90 : decode b_GR_drawRows 90 = .ok (.getfield 12, 3) := by decide +kernel
theorem d_GR_drawRows_93 : decode b_GR_drawRows 93 = .ok (.getfield 120, 3) := by decide +kernel
theorem d_GR_drawRows_96 : decode b_GR_drawRows 96 = .ok (.iload_n 3, 1) := by decide +kernel
theorem d_GR_drawRows_97 : decode b_GR_drawRows 97 = .ok (.iaload, 1) := by decide +kernel
theorem d_GR_drawRows_98 : decode b_GR_drawRows 98 = .ok (.imul, 1) := by decide +kernel
theorem d_GR_drawRows_99 : decode b_GR_drawRows 99 = .ok (.i2l, 1) := by decide +kernel
theorem d_GR_drawRows_100 : decode b_GR_drawRows 100 = .ok (.lsub, 1) := by decide +kernel
theorem d_GR_drawRows_101 : decode b_GR_drawRows 101 = .ok (.lmul, 1) := by decide +kernel
theorem d_GR_drawRows_102 : decode b_GR_drawRows 102 = .ok (.lastore, 1) := by decide +kernel
theorem d_GR_drawRows_103 : decode b_GR_drawRows 103 = .ok (.iinc 3 1, 3) := by decide +kernel
theorem d_GR_drawRows_106 : decode b_GR_drawRows 106 = .ok (.goto (-104), 3) := by decide +kernel
theorem d_GR_drawRows_109 : decode b_GR_drawRows 109 = .ok (.return_, 1) := by decide +kernel
theorem d_GR_gatherNode_0 : decode b_GR_gatherNode 0 = .ok (.aload_n 0, 1) := by decide +kernel
theorem d_GR_gatherNode_1 : decode b_GR_gatherNode 1 = .ok (.getfield 37, 3) := by decide +kernel
theorem d_GR_gatherNode_4 : decode b_GR_gatherNode 4 = .ok (.invokevirtual 123, 3) := by decide +kernel
theorem d_GR_gatherNode_7 : decode b_GR_gatherNode 7 = .ok (.iconst 0, 1) := by decide +kernel
theorem d_GR_gatherNode_8 : decode b_GR_gatherNode 8 = .ok (.istore_n 2, 1) := by decide +kernel
theorem d_GR_gatherNode_9 : decode b_GR_gatherNode 9 = .ok (.iload_n 2, 1) := by decide +kernel
theorem d_GR_gatherNode_10 : decode b_GR_gatherNode 10 = .ok (.aload_n 0, 1) := by decide +kernel
theorem d_GR_gatherNode_11 : decode b_GR_gatherNode 11 = .ok (.getfield 12, 3) := by decide +kernel
theorem d_GR_gatherNode_14 : decode b_GR_gatherNode 14 = .ok (.getfield 63, 3) := by decide +kernel
theorem d_GR_gatherNode_17 : decode b_GR_gatherNode 17 = .ok (.if_icmp .ge 41, 3) := by decide +kernel
theorem d_GR_gatherNode_20 : decode b_GR_gatherNode 20 = .ok (.aload_n 0, 1) := by decide +kernel
theorem d_GR_gatherNode_21 : decode b_GR_gatherNode 21 = .ok (.getfield 27, 3) := by decide +kernel
theorem d_GR_gatherNode_24 : decode b_GR_gatherNode 24 = .ok (.iload_n 2, 1) := by decide +kernel
theorem d_GR_gatherNode_25 : decode b_GR_gatherNode 25 = .ok (.iaload, 1) := by decide +kernel
theorem d_GR_gatherNode_26 : decode b_GR_gatherNode 26 = .ok (.iload_n 1, 1) := by decide +kernel
theorem d_GR_gatherNode_27 : decode b_GR_gatherNode 27 = .ok (.if_icmp .ne 25, 3) := by decide +kernel
theorem d_GR_gatherNode_30 : decode b_GR_gatherNode 30 = .ok (.aload_n 0, 1) := by decide +kernel
theorem d_GR_gatherNode_31 : decode b_GR_gatherNode 31 = .ok (.getfield 37, 3) := by decide +kernel
theorem d_GR_gatherNode_34 : decode b_GR_gatherNode 34 = .ok (.aload_n 0, 1) := by decide +kernel
theorem d_GR_gatherNode_35 : decode b_GR_gatherNode 35 = .ok (.getfield 30, 3) := by decide +kernel
theorem d_GR_gatherNode_38 : decode b_GR_gatherNode 38 = .ok (.iload_n 2, 1) := by decide +kernel
theorem d_GR_gatherNode_39 : decode b_GR_gatherNode 39 = .ok (.laload, 1) := by decide +kernel
theorem d_GR_gatherNode_40 : decode b_GR_gatherNode 40 = .ok (.aload_n 0, 1) := by decide +kernel
theorem d_GR_gatherNode_41 : decode b_GR_gatherNode 41 = .ok (.getfield 12, 3) := by decide +kernel
theorem d_GR_gatherNode_44 : decode b_GR_gatherNode 44 = .ok (.getfield 117, 3) := by decide +kernel
theorem d_GR_gatherNode_47 : decode b_GR_gatherNode 47 = .ok (.iload_n 2, 1) := by decide +kernel
theorem d_GR_gatherNode_48 : decode b_GR_gatherNode 48 = .ok (.iaload, 1) := by decide +kernel
theorem d_GR_gatherNode_49 : decode b_GR_gatherNode 49 = .ok (.invokevirtual 126, 3) := by decide +kernel
theorem d_GR_gatherNode_52 : decode b_GR_gatherNode 52 = .ok (.iinc 2 1, 3) := by decide +kernel
theorem d_GR_gatherNode_55 : decode b_GR_gatherNode 55 = .ok (.goto (-46), 3) := by decide +kernel
theorem d_GR_gatherNode_58 : decode b_GR_gatherNode 58 = .ok (.return_, 1) := by decide +kernel
theorem d_GR_moveRows_0 : decode b_GR_moveRows 0 = .ok (.iconst 0, 1) := by decide +kernel
theorem d_GR_moveRows_1 : decode b_GR_moveRows 1 = .ok (.istore_n 3, 1) := by decide +kernel
theorem d_GR_moveRows_2 : decode b_GR_moveRows 2 = .ok (.iload_n 3, 1) := by decide +kernel
theorem d_GR_moveRows_3 : decode b_GR_moveRows 3 = .ok (.aload_n 0, 1) := by decide +kernel
theorem d_GR_moveRows_4 : decode b_GR_moveRows 4 = .ok (.getfield 12, 3) := by decide +kernel
theorem d_GR_moveRows_7 : decode b_GR_moveRows 7 = .ok (.getfield 63, 3) := by decide +kernel
theorem d_GR_moveRows_10 : decode b_GR_moveRows 10 = .ok (.if_icmp .ge 39, 3) := by decide +kernel
theorem d_GR_moveRows_13 : decode b_GR_moveRows 13 = .ok (.aload_n 0, 1) := by decide +kernel
theorem d_GR_moveRows_14 : decode b_GR_moveRows 14 = .ok (.getfield 27, 3) := by decide +kernel
theorem d_GR_moveRows_17 : decode b_GR_moveRows 17 = .ok (.iload_n 3, 1) := by decide +kernel
theorem d_GR_moveRows_18 : decode b_GR_moveRows 18 = .ok (.iaload, 1) := by decide +kernel
theorem d_GR_moveRows_19 : decode b_GR_moveRows 19 = .ok (.iload_n 2, 1) := by decide +kernel
theorem d_GR_moveRows_20 : decode b_GR_moveRows 20 = .ok (.if_icmp .ne 23, 3) := by decide +kernel
theorem d_GR_moveRows_23 : decode b_GR_moveRows 23 = .ok (.aload_n 0, 1) := by decide +kernel
theorem d_GR_moveRows_24 : decode b_GR_moveRows 24 = .ok (.getfield 27, 3) := by decide +kernel
theorem d_GR_moveRows_27 : decode b_GR_moveRows 27 = .ok (.iload_n 3, 1) := by decide +kernel
theorem d_GR_moveRows_28 : decode b_GR_moveRows 28 = .ok (.aload_n 1, 1) := by decide +kernel
theorem d_GR_moveRows_29 : decode b_GR_moveRows 29 = .ok (.iload_n 2, 1) := by decide +kernel
theorem d_GR_moveRows_30 : decode b_GR_moveRows 30 = .ok (.aload_n 0, 1) := by decide +kernel
theorem d_GR_moveRows_31 : decode b_GR_moveRows 31 = .ok (.getfield 12, 3) := by decide +kernel
theorem d_GR_moveRows_34 : decode b_GR_moveRows 34 = .ok (.getfield 67, 3) := by decide +kernel
theorem d_GR_moveRows_37 : decode b_GR_moveRows 37 = .ok (.iload_n 3, 1) := by decide +kernel
theorem d_GR_moveRows_38 : decode b_GR_moveRows 38 = .ok (.aaload, 1) := by decide +kernel
theorem d_GR_moveRows_39 : decode b_GR_moveRows 39 = .ok (.invokevirtual 130, 3) := by decide +kernel
theorem d_GR_moveRows_42 : decode b_GR_moveRows 42 = .ok (.iastore, 1) := by decide +kernel
theorem d_GR_moveRows_43 : decode b_GR_moveRows 43 = .ok (.iinc 3 1, 3) := by decide +kernel
theorem d_GR_moveRows_46 : decode b_GR_moveRows 46 = .ok (.goto (-44), 3) := by decide +kernel
theorem d_GR_moveRows_49 : decode b_GR_moveRows 49 = .ok (.return_, 1) := by decide +kernel
theorem d_GR_findSplit_0 : decode b_GR_findSplit 0 = .ok (.aload_n 0, 1) := by decide +kernel
theorem d_GR_findSplit_1 : decode b_GR_findSplit 1 = .ok (.getfield 59, 3) := by decide +kernel
theorem d_GR_findSplit_4 : decode b_GR_findSplit 4 = .ok (.aload_n 0, 1) := by decide +kernel
theorem d_GR_findSplit_5 : decode b_GR_findSplit 5 = .ok (.getfield 18, 3) := by decide +kernel
theorem d_GR_findSplit_8 : decode b_GR_findSplit 8 = .ok (.iconst 5, 1) := by decide +kernel
theorem d_GR_findSplit_9 : decode b_GR_findSplit 9 = .ok (.iaload, 1) := by decide +kernel
theorem d_GR_findSplit_10 : decode b_GR_findSplit 10 = .ok (.i2l, 1) := by decide +kernel
theorem d_GR_findSplit_11 : decode b_GR_findSplit 11 = .ok (.invokevirtual 134, 3) := by decide +kernel
theorem d_GR_findSplit_14 : decode b_GR_findSplit 14 = .ok (.iconst 0, 1) := by decide +kernel
theorem d_GR_findSplit_15 : decode b_GR_findSplit 15 = .ok (.istore_n 3, 1) := by decide +kernel
theorem d_GR_findSplit_16 : decode b_GR_findSplit 16 = .ok (.iload_n 3, 1) := by decide +kernel
theorem d_GR_findSplit_17 : decode b_GR_findSplit 17 = .ok (.iconst 4, 1) := by decide +kernel
theorem d_GR_findSplit_18 : decode b_GR_findSplit 18 = .ok (.if_icmp .ge 37, 3) := by decide +kernel
theorem d_GR_findSplit_21 : decode b_GR_findSplit 21 = .ok (.aload_n 0, 1) := by decide +kernel
theorem d_GR_findSplit_22 : decode b_GR_findSplit 22 = .ok (.ldc 138, 2) := by decide +kernel
theorem d_GR_findSplit_24 : decode b_GR_findSplit 24 = .ok (.iconst 4, 1) := by decide +kernel
theorem d_GR_findSplit_25 : decode b_GR_findSplit 25 = .ok (.iload_n 2, 1) := by decide +kernel
theorem d_GR_findSplit_26 : decode b_GR_findSplit 26 = .ok (.imul, 1) := by decide +kernel
theorem d_GR_findSplit_27 : decode b_GR_findSplit 27 = .ok (.iadd, 1) := by decide +kernel
theorem d_GR_findSplit_28 : decode b_GR_findSplit 28 = .ok (.iload_n 3, 1) := by decide +kernel
theorem d_GR_findSplit_29 : decode b_GR_findSplit 29 = .ok (.iadd, 1) := by decide +kernel
theorem d_GR_findSplit_30 : decode b_GR_findSplit 30 = .ok (.invokevirtual 113, 3) := by decide +kernel
theorem d_GR_findSplit_33 : decode b_GR_findSplit 33 = .ok (.aload_n 0, 1) := by decide +kernel
theorem d_GR_findSplit_34 : decode b_GR_findSplit 34 = .ok (.getfield 18, 3) := by decide +kernel
theorem d_GR_findSplit_37 : decode b_GR_findSplit 37 = .ok (.bipush 7, 2) := by decide +kernel
theorem d_GR_findSplit_39 : decode b_GR_findSplit 39 = .ok (.iaload, 1) := by decide +kernel
theorem d_GR_findSplit_40 : decode b_GR_findSplit 40 = .ok (.if_icmp .ge 9, 3) := by decide +kernel
theorem d_GR_findSplit_43 : decode b_GR_findSplit 43 = .ok (.aload_n 0, 1) := by decide +kernel
theorem d_GR_findSplit_44 : decode b_GR_findSplit 44 = .ok (.iload_n 1, 1) := by decide +kernel
theorem d_GR_findSplit_45 : decode b_GR_findSplit 45 = .ok (.iload_n 3, 1) := by decide +kernel
theorem d_GR_findSplit_46 : decode b_GR_findSplit 46 = .ok (.invokevirtual 139, 3) := by decide +kernel
theorem d_GR_findSplit_49 : decode b_GR_findSplit 49 = .ok (.iinc 3 1, 3) := by decide +kernel
theorem d_GR_findSplit_52 : decode b_GR_findSplit 52 = .ok (.goto (-36), 3) := by decide +kernel
theorem d_GR_findSplit_55 : decode b_GR_findSplit 55 = .ok (.return_, 1) := by decide +kernel
theorem d_GR_tryColumn_0 : decode b_GR_tryColumn 0 = .ok (.aload_n 0, 1) := by decide +kernel
theorem d_GR_tryColumn_1 : decode b_GR_tryColumn 1 = .ok (.getfield 41, 3) := by decide +kernel
theorem d_GR_tryColumn_4 : decode b_GR_tryColumn 4 = .ok (.invokevirtual 123, 3) := by decide +kernel
theorem d_GR_tryColumn_7 : decode b_GR_tryColumn 7 = .ok (.aload_n 0, 1) := by decide +kernel
theorem d_GR_tryColumn_8 : decode b_GR_tryColumn 8 = .ok (.getfield 44, 3) := by decide +kernel
theorem d_GR_tryColumn_11 : decode b_GR_tryColumn 11 = .ok (.invokevirtual 123, 3) := by decide +kernel
theorem d_GR_tryColumn_14 : decode b_GR_tryColumn 14 = .ok (.iconst (-1), 1) := by decide +kernel
theorem d_GR_tryColumn_15 : decode b_GR_tryColumn 15 = .ok (.istore_n 3, 1) := by decide +kernel
theorem d_GR_tryColumn_16 : decode b_GR_tryColumn 16 = .ok (.iconst 0, 1) := by decide +kernel
theorem d_GR_tryColumn_17 : decode b_GR_tryColumn 17 = .ok (.istore 4, 2) := by decide +kernel
theorem d_GR_tryColumn_19 : decode b_GR_tryColumn 19 = .ok (.iload 4, 2) := by decide +kernel
theorem d_GR_tryColumn_21 : decode b_GR_tryColumn 21 = .ok (.aload_n 0, 1) := by decide +kernel
theorem d_GR_tryColumn_22 : decode b_GR_tryColumn 22 = .ok (.getfield 12, 3) := by decide +kernel
theorem d_GR_tryColumn_25 : decode b_GR_tryColumn 25 = .ok (.getfield 63, 3) := by decide +kernel
theorem d_GR_tryColumn_28 : decode b_GR_tryColumn 28 = .ok (.if_icmp .ge 120, 3) := by decide +kernel
theorem d_GR_tryColumn_31 : decode b_GR_tryColumn 31 = .ok (.aload_n 0, 1) := by decide +kernel
theorem d_GR_tryColumn_32 : decode b_GR_tryColumn 32 = .ok (.getfield 24, 3) := by decide +kernel
theorem d_GR_tryColumn_35 : decode b_GR_tryColumn 35 = .ok (.iload_n 2, 1) := by decide +kernel
theorem d_GR_tryColumn_36 : decode b_GR_tryColumn 36 = .ok (.aaload, 1) := by decide +kernel
theorem d_GR_tryColumn_37 : decode b_GR_tryColumn 37 = .ok (.iload 4, 2) := by decide +kernel
theorem d_GR_tryColumn_39 : decode b_GR_tryColumn 39 = .ok (.iaload, 1) := by decide +kernel
theorem d_GR_tryColumn_40 : decode b_GR_tryColumn 40 = .ok (.istore 5, 2) := by decide +kernel
theorem d_GR_tryColumn_42 : decode b_GR_tryColumn 42 = .ok (.aload_n 0, 1) := by decide +kernel
theorem d_GR_tryColumn_43 : decode b_GR_tryColumn 43 = .ok (.getfield 27, 3) := by decide +kernel
theorem d_GR_tryColumn_46 : decode b_GR_tryColumn 46 = .ok (.iload 5, 2) := by decide +kernel
theorem d_GR_tryColumn_48 : decode b_GR_tryColumn 48 = .ok (.iaload, 1) := by decide +kernel
theorem d_GR_tryColumn_49 : decode b_GR_tryColumn 49 = .ok (.iload_n 1, 1) := by decide +kernel
theorem d_GR_tryColumn_50 : decode b_GR_tryColumn 50 = .ok (.if_icmp .ne 92, 3) := by decide +kernel
theorem d_GR_tryColumn_53 : decode b_GR_tryColumn 53 = .ok (.aload_n 0, 1) := by decide +kernel
theorem d_GR_tryColumn_54 : decode b_GR_tryColumn 54 = .ok (.getfield 12, 3) := by decide +kernel
theorem d_GR_tryColumn_57 : decode b_GR_tryColumn 57 = .ok (.getfield 67, 3) := by decide +kernel
theorem d_GR_tryColumn_60 : decode b_GR_tryColumn 60 = .ok (.iload 5, 2) := by decide +kernel
theorem d_GR_tryColumn_62 : decode b_GR_tryColumn 62 = .ok (.aaload, 1) := by decide +kernel
theorem d_GR_tryColumn_63 : decode b_GR_tryColumn 63 = .ok (.iload_n 2, 1) := by decide +kernel
theorem d_GR_tryColumn_64 : decode b_GR_tryColumn 64 = .ok (.iaload, 1) := by decide +kernel
theorem d_GR_tryColumn_65 : decode b_GR_tryColumn 65 = .ok (.istore 6, 2) := by decide +kernel
theorem d_GR_tryColumn_67 : decode b_GR_tryColumn 67 = .ok (.iload_n 3, 1) := by decide +kernel
theorem d_GR_tryColumn_68 : decode b_GR_tryColumn 68 = .ok (.iconst (-1), 1) := by decide +kernel
theorem d_GR_tryColumn_69 : decode b_GR_tryColumn 69 = .ok (.if_icmp .eq 33, 3) := by decide +kernel
theorem d_GR_tryColumn_72 : decode b_GR_tryColumn 72 = .ok (.iload 6, 2) := by decide +kernel
theorem d_GR_tryColumn_74 : decode b_GR_tryColumn 74 = .ok (.iload_n 3, 1) := by decide +kernel
theorem d_GR_tryColumn_75 : decode b_GR_tryColumn 75 = .ok (.if_icmp .le 27, 3) := by decide +kernel
theorem d_GR_tryColumn_78 : decode b_GR_tryColumn 78 = .ok (.aload_n 0, 1) := by decide +kernel
theorem d_GR_tryColumn_79 : decode b_GR_tryColumn 79 = .ok (.iload_n 2, 1) := by decide +kernel
theorem d_GR_tryColumn_80 : decode b_GR_tryColumn 80 = .ok (.iload_n 3, 1) := by decide +kernel
theorem d_GR_tryColumn_81 : decode b_GR_tryColumn 81 = .ok (.iconst 0, 1) := by decide +kernel
theorem d_GR_tryColumn_82 : decode b_GR_tryColumn 82 = .ok (.invokevirtual 142, 3) := by decide +kernel
theorem d_GR_tryColumn_85 : decode b_GR_tryColumn 85 = .ok (.aload_n 0, 1) := by decide +kernel
theorem d_GR_tryColumn_86 : decode b_GR_tryColumn 86 = .ok (.getfield 41, 3) := by decide +kernel
theorem d_GR_tryColumn_89 : decode b_GR_tryColumn 89 = .ok (.getfield 146, 3) := by decide +kernel
theorem d_GR_tryColumn_92 : decode b_GR_tryColumn 92 = .ok (.ifCond .le 10, 3) := by decide +kernel
theorem d_GR_tryColumn_95 : decode b_GR_tryColumn 95 = .ok (.aload_n 0, 1) := by decide +kernel
theorem d_GR_tryColumn_96 : decode b_GR_tryColumn 96 = .ok (.iload_n 2, 1) := by decide +kernel
theorem d_GR_tryColumn_97 : decode b_GR_tryColumn 97 = .ok (.iload_n 3, 1) := by decide +kernel
theorem d_GR_tryColumn_98 : decode b_GR_tryColumn 98 = .ok (.iconst 1, 1) := by decide +kernel
theorem d_GR_tryColumn_99 : decode b_GR_tryColumn 99 = .ok (.invokevirtual 142, 3) := by decide +kernel
theorem d_GR_tryColumn_102 : decode b_GR_tryColumn 102 = .ok (.iload 6, 2) := by decide +kernel
theorem d_GR_tryColumn_104 : decode b_GR_tryColumn 104 = .ok (.iconst (-1), 1) := by decide +kernel
theorem d_GR_tryColumn_105 : decode b_GR_tryColumn 105 = .ok (.if_icmp .ne 10, 3) := by decide +kernel
theorem d_GR_tryColumn_108 : decode b_GR_tryColumn 108 = .ok (.aload_n 0, 1) := by decide +kernel
theorem d_GR_tryColumn_109 : decode b_GR_tryColumn 109 = .ok (.getfield 41, 3) := by decide +kernel
theorem d_GR_tryColumn_112 : decode b_GR_tryColumn 112 = .ok (.goto 7, 3) := by decide +kernel
theorem d_GR_tryColumn_115 : decode b_GR_tryColumn 115 = .ok (.aload_n 0, 1) := by decide +kernel
theorem d_GR_tryColumn_116 : decode b_GR_tryColumn 116 = .ok (.getfield 44, 3) := by decide +kernel
theorem d_GR_tryColumn_119 : decode b_GR_tryColumn 119 = .ok (.aload_n 0, 1) := by decide +kernel
theorem d_GR_tryColumn_120 : decode b_GR_tryColumn 120 = .ok (.getfield 30, 3) := by decide +kernel
theorem d_GR_tryColumn_123 : decode b_GR_tryColumn 123 = .ok (.iload 5, 2) := by decide +kernel
theorem d_GR_tryColumn_125 : decode b_GR_tryColumn 125 = .ok (.laload, 1) := by decide +kernel
theorem d_GR_tryColumn_126 : decode b_GR_tryColumn 126 = .ok (.aload_n 0, 1) := by decide +kernel
theorem d_GR_tryColumn_127 : decode b_GR_tryColumn 127 = .ok (.getfield 12, 3) := by decide +kernel
theorem d_GR_tryColumn_130 : decode b_GR_tryColumn 130 = .ok (.getfield 117, 3) := by decide +kernel
theorem d_GR_tryColumn_133 : decode b_GR_tryColumn 133 = .ok (.iload 5, 2) := by decide +kernel
theorem d_GR_tryColumn_135 : decode b_GR_tryColumn 135 = .ok (.iaload, 1) := by decide +kernel
theorem d_GR_tryColumn_136 : decode b_GR_tryColumn 136 = .ok (.invokevirtual 126, 3) := by decide +kernel
theorem d_GR_tryColumn_139 : decode b_GR_tryColumn 139 = .ok (.iload 6, 2) := by decide +kernel
theorem d_GR_tryColumn_141 : decode b_GR_tryColumn 141 = .ok (.istore_n 3, 1) := by decide +kernel
theorem d_GR_tryColumn_142 : decode b_GR_tryColumn 142 = .ok (.iinc 4 1, 3) := by decide +kernel
theorem d_GR_tryColumn_145 : decode b_GR_tryColumn 145 = .ok (.goto (-126), 3) := by decide +kernel
theorem d_GR_tryColumn_148 : decode b_GR_tryColumn 148 = .ok (.return_, 1) := by decide +kernel
theorem d_GR_trySplit_0 : decode b_GR_trySplit 0 = .ok (.aload_n 0, 1) := by decide +kernel
theorem d_GR_trySplit_1 : decode b_GR_trySplit 1 = .ok (.getfield 47, 3) := by decide +kernel
theorem d_GR_trySplit_4 : decode b_GR_trySplit 4 = .ok (.aload_n 0, 1) := by decide +kernel
theorem d_GR_trySplit_5 : decode b_GR_trySplit 5 = .ok (.getfield 44, 3) := by decide +kernel
theorem d_GR_trySplit_8 : decode b_GR_trySplit 8 = .ok (.iload_n 3, 1) := by decide +kernel
theorem d_GR_trySplit_9 : decode b_GR_trySplit 9 = .ok (.ifCond .ne 10, 3) := by decide +kernel
theorem d_GR_trySplit_12 : decode b_GR_trySplit 12 = .ok (.aload_n 0, 1) := by decide +kernel
theorem d_GR_trySplit_13 : decode b_GR_trySplit 13 = .ok (.getfield 41, 3) := by decide +kernel
theorem d_GR_trySplit_16 : decode b_GR_trySplit 16 = .ok (.goto 7, 3) := by decide +kernel
theorem d_GR_trySplit_19 : decode b_GR_trySplit 19 = .ok (.aload_n 0, 1) := by decide +kernel
theorem d_GR_trySplit_20 : decode b_GR_trySplit 20 = .ok (.getfield 53, 3) := by decide +kernel
theorem d_GR_trySplit_23 : decode b_GR_trySplit 23 = .ok (.invokevirtual 148, 3) := by decide +kernel
theorem d_GR_trySplit_26 : decode b_GR_trySplit 26 = .ok (.aload_n 0, 1) := by decide +kernel
theorem d_GR_trySplit_27 : decode b_GR_trySplit 27 = .ok (.getfield 50, 3) := by decide +kernel
theorem d_GR_trySplit_30 : decode b_GR_trySplit 30 = .ok (.aload_n 0, 1) := by decide +kernel
theorem d_GR_trySplit_31 : decode b_GR_trySplit 31 = .ok (.getfield 37, 3) := by decide +kernel
theorem d_GR_trySplit_34 : decode b_GR_trySplit 34 = .ok (.aload_n 0, 1) := by decide +kernel
theorem d_GR_trySplit_35 : decode b_GR_trySplit 35 = .ok (.getfield 47, 3) := by decide +kernel
theorem d_GR_trySplit_38 : decode b_GR_trySplit 38 = .ok (.invokevirtual 152, 3) := by decide +kernel
theorem d_GR_trySplit_41 : decode b_GR_trySplit 41 = .ok (.aload_n 0, 1) := by decide +kernel
theorem d_GR_trySplit_42 : decode b_GR_trySplit 42 = .ok (.getfield 47, 3) := by decide +kernel
theorem d_GR_trySplit_45 : decode b_GR_trySplit 45 = .ok (.getfield 146, 3) := by decide +kernel
theorem d_GR_trySplit_48 : decode b_GR_trySplit 48 = .ok (.aload_n 0, 1) := by decide +kernel
theorem d_GR_trySplit_49 : decode b_GR_trySplit 49 = .ok (.getfield 18, 3) := by decide +kernel
theorem d_GR_trySplit_52 : decode b_GR_trySplit 52 = .ok (.iconst 1, 1) := by decide +kernel
theorem d_GR_trySplit_53 : decode b_GR_trySplit 53 = .ok (.iaload, 1) := by decide +kernel
theorem d_GR_trySplit_54 : decode b_GR_trySplit 54 = .ok (.if_icmp .lt 19, 3) := by decide +kernel
theorem d_GR_trySplit_57 : decode b_GR_trySplit 57 = .ok (.aload_n 0, 1) := by decide +kernel
theorem d_GR_trySplit_58 : decode b_GR_trySplit 58 = .ok (.getfield 50, 3) := by decide +kernel
theorem d_GR_trySplit_61 : decode b_GR_trySplit 61 = .ok (.getfield 146, 3) := by decide +kernel
theorem d_GR_trySplit_64 : decode b_GR_trySplit 64 = .ok (.aload_n 0, 1) := by decide +kernel
theorem d_GR_trySplit_65 : decode b_GR_trySplit 65 = .ok (.getfield 18, 3) := by decide +kernel
theorem d_GR_trySplit_68 : decode b_GR_trySplit 68 = .ok (.iconst 1, 1) := by decide +kernel
theorem d_GR_trySplit_69 : decode b_GR_trySplit 69 = .ok (.iaload, 1) := by decide +kernel
theorem d_GR_trySplit_70 : decode b_GR_trySplit 70 = .ok (.if_icmp .ge 4, 3) := by decide +kernel
theorem d_GR_trySplit_73 : decode b_GR_trySplit 73 = .ok (.return_, 1) := by decide +kernel
theorem d_GR_trySplit_74 : decode b_GR_trySplit 74 = .ok (.aload_n 0, 1) := by decide +kernel
theorem d_GR_trySplit_75 : decode b_GR_trySplit 75 = .ok (.getfield 18, 3) := by decide +kernel
theorem d_GR_trySplit_78 : decode b_GR_trySplit 78 = .ok (.iconst 2, 1) := by decide +kernel
theorem d_GR_trySplit_79 : decode b_GR_trySplit 79 = .ok (.iaload, 1) := by decide +kernel
theorem d_GR_trySplit_80 : decode b_GR_trySplit 80 = .ok (.istore 4, 2) := by decide +kernel
theorem d_GR_trySplit_82 : decode b_GR_trySplit 82 = .ok (.aload_n 0, 1) := by decide +kernel
theorem d_GR_trySplit_83 : decode b_GR_trySplit 83 = .ok (.getfield 47, 3) := by decide +kernel
theorem d_GR_trySplit_86 : decode b_GR_trySplit 86 = .ok (.iload 4, 2) := by decide +kernel
theorem d_GR_trySplit_88 : decode b_GR_trySplit 88 = .ok (.invokevirtual 155, 3) := by decide +kernel
theorem d_GR_trySplit_91 : decode b_GR_trySplit 91 = .ok (.aload_n 0, 1) := by decide +kernel
theorem d_GR_trySplit_92 : decode b_GR_trySplit 92 = .ok (.getfield 50, 3) := by decide +kernel
theorem d_GR_trySplit_95 : decode b_GR_trySplit 95 = .ok (.iload 4, 2) := by decide +kernel
theorem d_GR_trySplit_97 : decode b_GR_trySplit 97 = .ok (.invokevirtual 155, 3) := by decide +kernel
theorem d_GR_trySplit_100 : decode b_GR_trySplit 100 = .ok (.ladd, 1) := by decide +kernel
theorem d_GR_trySplit_101 : decode b_GR_trySplit 101 = .ok (.aload_n 0, 1) := by decide +kernel
theorem d_GR_trySplit_102 : decode b_GR_trySplit 102 = .ok (.getfield 37, 3) := by decide +kernel
theorem d_GR_trySplit_105 : decode b_GR_trySplit 105 = .ok (.iload 4, 2) := by decide +kernel
theorem d_GR_trySplit_107 : decode b_GR_trySplit 107 = .ok (.invokevirtual 155, 3) := by decide +kernel
theorem d_GR_trySplit_110 : decode b_GR_trySplit 110 = .ok (.lsub, 1) := by decide +kernel
theorem d_GR_trySplit_111 : decode b_GR_trySplit 111 = .ok (.lstore 5, 2) := by decide +kernel
theorem d_GR_trySplit_113 : decode b_GR_trySplit 113 = .ok (.lload 5, 2) := by decide +kernel
theorem d_GR_trySplit_115 : decode b_GR_trySplit 115 = .ok (.aload_n 0, 1) := by decide +kernel
theorem d_GR_trySplit_116 : decode b_GR_trySplit 116 = .ok (.getfield 59, 3) := by decide +kernel
theorem d_GR_trySplit_119 : decode b_GR_trySplit 119 = .ok (.getfield 159, 3) := by decide +kernel
theorem d_GR_trySplit_122 : decode b_GR_trySplit 122 = .ok (.lcmp, 1) := by decide +kernel
theorem d_GR_trySplit_123 : decode b_GR_trySplit 123 = .ok (.ifCond .le 48, 3) := by decide +kernel
theorem d_GR_trySplit_126 : decode b_GR_trySplit 126 = .ok (.aload_n 0, 1) := by decide +kernel
theorem d_GR_trySplit_127 : decode b_GR_trySplit 127 = .ok (.getfield 18, 3) := by decide +kernel
theorem d_GR_trySplit_130 : decode b_GR_trySplit 130 = .ok (.bipush 11, 2) := by decide +kernel
theorem d_GR_trySplit_132 : decode b_GR_trySplit 132 = .ok (.iload_n 1, 1) := by decide +kernel
theorem d_GR_trySplit_133 : decode b_GR_trySplit 133 = .ok (.iadd, 1) := by decide +kernel
theorem d_GR_trySplit_134 : decode b_GR_trySplit 134 = .ok (.iaload, 1) := by decide +kernel
theorem d_GR_trySplit_135 : decode b_GR_trySplit 135 = .ok (.aload_n 0, 1) := by decide +kernel
theorem d_GR_trySplit_136 : decode b_GR_trySplit 136 = .ok (.getfield 47, 3) := by decide +kernel
theorem d_GR_trySplit_139 : decode b_GR_trySplit 139 = .ok (.iload 4, 2) := by decide +kernel
theorem d_GR_trySplit_141 : decode b_GR_trySplit 141 = .ok (.invokevirtual 163, 3) := by decide +kernel
theorem d_GR_trySplit_144 : decode b_GR_trySplit 144 = .ok (.aload_n 0, 1) := by decide +kernel
theorem d_GR_trySplit_145 : decode b_GR_trySplit 145 = .ok (.getfield 50, 3) := by decide +kernel
theorem d_GR_trySplit_148 : decode b_GR_trySplit 148 = .ok (.iload 4, 2) := by decide +kernel
theorem d_GR_trySplit_150 : decode b_GR_trySplit 150 = .ok (.invokevirtual 163, 3) := by decide +kernel
theorem d_GR_trySplit_153 : decode b_GR_trySplit 153 = .ok (.invokestatic 166, 3) := by decide +kernel
theorem d_GR_trySplit_156 : decode b_GR_trySplit 156 = .ok (.ifCond .eq 15, 3) := by decide +kernel
theorem d_GR_trySplit_159 : decode b_GR_trySplit 159 = .ok (.aload_n 0, 1) := by decide +kernel
theorem d_GR_trySplit_160 : decode b_GR_trySplit 160 = .ok (.getfield 59, 3) := by decide +kernel
theorem d_GR_trySplit_163 : decode b_GR_trySplit 163 = .ok (.iload_n 1, 1) := by decide +kernel
theorem d_GR_trySplit_164 : decode b_GR_trySplit 164 = .ok (.iload_n 2, 1) := by decide +kernel
theorem d_GR_trySplit_165 : decode b_GR_trySplit 165 = .ok (.iload_n 3, 1) := by decide +kernel
theorem d_GR_trySplit_166 : decode b_GR_trySplit 166 = .ok (.lload 5, 2) := by decide +kernel
theorem d_GR_trySplit_168 : decode b_GR_trySplit 168 = .ok (.invokevirtual 170, 3) := by decide +kernel
theorem d_GR_trySplit_171 : decode b_GR_trySplit 171 = .ok (.return_, 1) := by decide +kernel
theorem d_GR_keepsSign_0 : decode b_GR_keepsSign 0 = .ok (.iload_n 0, 1) := by decide +kernel
theorem d_GR_keepsSign_1 : decode b_GR_keepsSign 1 = .ok (.ifCond .eq 22, 3) := by decide +kernel
theorem d_GR_keepsSign_4 : decode b_GR_keepsSign 4 = .ok (.iload_n 0, 1) := by decide +kernel
theorem d_GR_keepsSign_5 : decode b_GR_keepsSign 5 = .ok (.ifCond .le 12, 3) := by decide +kernel
theorem d_GR_keepsSign_8 : decode b_GR_keepsSign 8 = .ok (.lload_n 1, 1) := by decide +kernel
theorem d_GR_keepsSign_9 : decode b_GR_keepsSign 9 = .ok (.lload_n 3, 1) := by decide +kernel
theorem d_GR_keepsSign_10 : decode b_GR_keepsSign 10 = .ok (.lcmp, 1) := by decide +kernel
theorem d_GR_keepsSign_11 : decode b_GR_keepsSign 11 = .ok (.ifCond .gt 16, 3) := by decide +kernel
theorem d_GR_keepsSign_14 : decode b_GR_keepsSign 14 = .ok (.goto 9, 3) := by decide +kernel
theorem d_GR_keepsSign_17 : decode b_GR_keepsSign 17 = .ok (.lload_n 1, 1) := by decide +kernel
theorem d_GR_keepsSign_18 : decode b_GR_keepsSign 18 = .ok (.lload_n 3, 1) := by decide +kernel
theorem d_GR_keepsSign_19 : decode b_GR_keepsSign 19 = .ok (.lcmp, 1) := by decide +kernel
theorem d_GR_keepsSign_20 : decode b_GR_keepsSign 20 = .ok (.ifCond .lt 7, 3) := by decide +kernel
theorem d_GR_keepsSign_23 : decode b_GR_keepsSign 23 = .ok (.iconst 1, 1) := by decide +kernel
theorem d_GR_keepsSign_24 : decode b_GR_keepsSign 24 = .ok (.goto 4, 3) := by decide +kernel
theorem d_GR_keepsSign_27 : decode b_GR_keepsSign 27 = .ok (.iconst 0, 1) := by decide +kernel
theorem d_GR_keepsSign_28 : decode b_GR_keepsSign 28 = .ok (.ireturn, 1) := by decide +kernel
theorem d_GR_drawn_0 : decode b_GR_drawn 0 = .ok (.aload_n 0, 1) := by decide +kernel
theorem d_GR_drawn_1 : decode b_GR_drawn 1 = .ok (.getfield 18, 3) := by decide +kernel
theorem d_GR_drawn_4 : decode b_GR_drawn 4 = .ok (.bipush 10, 2) := by decide +kernel
theorem d_GR_drawn_6 : decode b_GR_drawn 6 = .ok (.iaload, 1) := by decide +kernel
theorem d_GR_drawn_7 : decode b_GR_drawn 7 = .ok (.ldc 174, 2) := by decide +kernel
theorem d_GR_drawn_9 : decode b_GR_drawn 9 = .ok (.iload_n 1, 1) := by decide +kernel
theorem d_GR_drawn_10 : decode b_GR_drawn 10 = .ok (.imul, 1) := by decide +kernel
theorem d_GR_drawn_11 : decode b_GR_drawn 11 = .ok (.iadd, 1) := by decide +kernel
theorem d_GR_drawn_12 : decode b_GR_drawn 12 = .ok (.istore_n 2, 1) := by decide +kernel
theorem d_GR_drawn_13 : decode b_GR_drawn 13 = .ok (.iload_n 2, 1) := by decide +kernel
theorem d_GR_drawn_14 : decode b_GR_drawn 14 = .ok (.iload_n 2, 1) := by decide +kernel
theorem d_GR_drawn_15 : decode b_GR_drawn 15 = .ok (.bipush 15, 2) := by decide +kernel
theorem d_GR_drawn_17 : decode b_GR_drawn 17 = .ok (.iushr, 1) := by decide +kernel
theorem d_GR_drawn_18 : decode b_GR_drawn 18 = .ok (.ixor, 1) := by decide +kernel
theorem d_GR_drawn_19 : decode b_GR_drawn 19 = .ok (.ldc 175, 2) := by decide +kernel
theorem d_GR_drawn_21 : decode b_GR_drawn 21 = .ok (.imul, 1) := by decide +kernel
theorem d_GR_drawn_22 : decode b_GR_drawn 22 = .ok (.istore_n 2, 1) := by decide +kernel
theorem d_GR_drawn_23 : decode b_GR_drawn 23 = .ok (.iload_n 2, 1) := by decide +kernel
theorem d_GR_drawn_24 : decode b_GR_drawn 24 = .ok (.iload_n 2, 1) := by decide +kernel
theorem d_GR_drawn_25 : decode b_GR_drawn 25 = .ok (.bipush 12, 2) := by decide +kernel
theorem d_GR_drawn_27 : decode b_GR_drawn 27 = .ok (.iushr, 1) := by decide +kernel
theorem d_GR_drawn_28 : decode b_GR_drawn 28 = .ok (.ixor, 1) := by decide +kernel
theorem d_GR_drawn_29 : decode b_GR_drawn 29 = .ok (.ldc 176, 2) := by decide +kernel
theorem d_GR_drawn_31 : decode b_GR_drawn 31 = .ok (.imul, 1) := by decide +kernel
theorem d_GR_drawn_32 : decode b_GR_drawn 32 = .ok (.istore_n 2, 1) := by decide +kernel
theorem d_GR_drawn_33 : decode b_GR_drawn 33 = .ok (.iload_n 2, 1) := by decide +kernel
theorem d_GR_drawn_34 : decode b_GR_drawn 34 = .ok (.bipush 24, 2) := by decide +kernel
theorem d_GR_drawn_36 : decode b_GR_drawn 36 = .ok (.iushr, 1) := by decide +kernel
theorem d_GR_drawn_37 : decode b_GR_drawn 37 = .ok (.ireturn, 1) := by decide +kernel
theorem d_TG_init_0 : decode b_TG_init 0 = .ok (.aload_n 0, 1) := by decide +kernel
theorem d_TG_init_1 : decode b_TG_init 1 = .ok (.invokespecial 3, 3) := by decide +kernel
theorem d_TG_init_4 : decode b_TG_init 4 = .ok (.aload_n 0, 1) := by decide +kernel
theorem d_TG_init_5 : decode b_TG_init 5 = .ok (.new 9, 3) := by decide +kernel
theorem d_TG_init_8 : decode b_TG_init 8 = .ok (.dup, 1) := by decide +kernel
theorem d_TG_init_9 : decode b_TG_init 9 = .ok (.invokespecial 11, 3) := by decide +kernel
theorem d_TG_init_12 : decode b_TG_init 12 = .ok (.putfield 12, 3) := by decide +kernel
theorem d_TG_init_15 : decode b_TG_init 15 = .ok (.aload_n 0, 1) := by decide +kernel
theorem d_TG_init_16 : decode b_TG_init 16 = .ok (.aload_n 0, 1) := by decide +kernel
theorem d_TG_init_17 : decode b_TG_init 17 = .ok (.getfield 12, 3) := by decide +kernel
theorem d_TG_init_20 : decode b_TG_init 20 = .ok (.getfield 18, 3) := by decide +kernel
theorem d_TG_init_23 : decode b_TG_init 23 = .ok (.putfield 22, 3) := by decide +kernel
theorem d_TG_init_26 : decode b_TG_init 26 = .ok (.aload_n 0, 1) := by decide +kernel
theorem d_TG_init_27 : decode b_TG_init 27 = .ok (.aload_n 0, 1) := by decide +kernel
theorem d_TG_init_28 : decode b_TG_init 28 = .ok (.getfield 12, 3) := by decide +kernel
theorem d_TG_init_31 : decode b_TG_init 31 = .ok (.getfield 23, 3) := by decide +kernel
theorem d_TG_init_34 : decode b_TG_init 34 = .ok (.putfield 27, 3) := by decide +kernel
theorem d_TG_init_37 : decode b_TG_init 37 = .ok (.aload_n 0, 1) := by decide +kernel
theorem d_TG_init_38 : decode b_TG_init 38 = .ok (.bipush 12, 2) := by decide +kernel
theorem d_TG_init_40 : decode b_TG_init 40 = .ok (.anewarray 28, 3) := by decide +kernel
theorem d_TG_init_43 : decode b_TG_init 43 = .ok (.putfield 30, 3) := by decide +kernel
theorem d_TG_init_46 : decode b_TG_init 46 = .ok (.aload_n 0, 1) := by decide +kernel
theorem d_TG_init_47 : decode b_TG_init 47 = .ok (.bipush 40, 2) := by decide +kernel
theorem d_TG_init_49 : decode b_TG_init 49 = .ok (.newarray .long, 2) := by decide +kernel
theorem d_TG_init_51 : decode b_TG_init 51 = .ok (.putfield 34, 3) := by decide +kernel
theorem d_TG_init_54 : decode b_TG_init 54 = .ok (.aload_n 0, 1) := by decide +kernel
theorem d_TG_init_55 : decode b_TG_init 55 = .ok (.bipush 40, 2) := by decide +kernel
theorem d_TG_init_57 : decode b_TG_init 57 = .ok (.newarray .int, 2) := by decide +kernel
theorem d_TG_init_59 : decode b_TG_init 59 = .ok (.putfield 38, 3) := by decide +kernel
theorem d_TG_init_62 : decode b_TG_init 62 = .ok (.aload_n 0, 1) := by decide +kernel
theorem d_TG_init_63 : decode b_TG_init 63 = .ok (.iconst 2, 1) := by decide +kernel
theorem d_TG_init_64 : decode b_TG_init 64 = .ok (.bipush 13, 2) := by decide +kernel
theorem d_TG_init_66 : decode b_TG_init 66 = .ok (.multianewarray 41 2, 4) := by decide +kernel
theorem d_TG_init_70 : decode b_TG_init 70 = .ok (.putfield 43, 3) := by decide +kernel
theorem d_TG_init_73 : decode b_TG_init 73 = .ok (.aload_n 0, 1) := by decide +kernel
theorem d_TG_init_74 : decode b_TG_init 74 = .ok (.bipush 31, 2) := by decide +kernel
theorem d_TG_init_76 : decode b_TG_init 76 = .ok (.newarray .long, 2) := by decide +kernel
theorem d_TG_init_78 : decode b_TG_init 78 = .ok (.putfield 46, 3) := by decide +kernel
theorem d_TG_init_81 : decode b_TG_init 81 = .ok (.iconst 0, 1) := by decide +kernel
theorem d_TG_init_82 : decode b_TG_init 82 = .ok (.istore_n 1, 1) := by decide +kernel
theorem d_TG_init_83 : decode b_TG_init 83 = .ok (.iload_n 1, 1) := by decide +kernel
theorem d_TG_init_84 : decode b_TG_init 84 = .ok (.bipush 12, 2) := by decide +kernel
theorem d_TG_init_86 : decode b_TG_init 86 = .ok (.if_icmp .ge 22, 3) := by decide +kernel
theorem d_TG_init_89 : decode b_TG_init 89 = .ok (.aload_n 0, 1) := by decide +kernel
theorem d_TG_init_90 : decode b_TG_init 90 = .ok (.getfield 30, 3) := by decide +kernel
theorem d_TG_init_93 : decode b_TG_init 93 = .ok (.iload_n 1, 1) := by decide +kernel
theorem d_TG_init_94 : decode b_TG_init 94 = .ok (.new 28, 3) := by decide +kernel
theorem d_TG_init_97 : decode b_TG_init 97 = .ok (.dup, 1) := by decide +kernel
theorem d_TG_init_98 : decode b_TG_init 98 = .ok (.invokespecial 49, 3) := by decide +kernel
theorem d_TG_init_101 : decode b_TG_init 101 = .ok (.aastore, 1) := by decide +kernel
theorem d_TG_init_102 : decode b_TG_init 102 = .ok (.iinc 1 1, 3) := by decide +kernel
theorem d_TG_init_105 : decode b_TG_init 105 = .ok (.goto (-22), 3) := by decide +kernel
theorem d_TG_init_108 : decode b_TG_init 108 = .ok (.return_, 1) := by decide +kernel
theorem d_TG_run_0 : decode b_TG_run 0 = .ok (.aload_n 0, 1) := by decide +kernel
theorem d_TG_run_1 : decode b_TG_run 1 = .ok (.getfield 22, 3) := by decide +kernel
theorem d_TG_run_4 : decode b_TG_run 4 = .ok (.aload_n 1, 1) := by decide +kernel
theorem d_TG_run_5 : decode b_TG_run 5 = .ok (.invokevirtual 50, 3) := by decide +kernel
theorem d_TG_run_8 : decode b_TG_run 8 = .ok (.aload_n 2, 1) := by decide +kernel
theorem d_TG_run_9 : decode b_TG_run 9 = .ok (.iconst 0, 1) := by decide +kernel
theorem d_TG_run_10 : decode b_TG_run 10 = .ok (.aload_n 0, 1) := by decide +kernel
theorem d_TG_run_11 : decode b_TG_run 11 = .ok (.getfield 27, 3) := by decide +kernel
theorem d_TG_run_14 : decode b_TG_run 14 = .ok (.iconst 0, 1) := by decide +kernel
theorem d_TG_run_15 : decode b_TG_run 15 = .ok (.bipush 15, 2) := by decide +kernel
theorem d_TG_run_17 : decode b_TG_run 17 = .ok (.invokestatic 56, 3) := by decide +kernel
theorem d_TG_run_20 : decode b_TG_run 20 = .ok (.aload_n 0, 1) := by decide +kernel
theorem d_TG_run_21 : decode b_TG_run 21 = .ok (.invokevirtual 62, 3) := by decide +kernel
theorem d_TG_run_24 : decode b_TG_run 24 = .ok (.aload_n 0, 1) := by decide +kernel
theorem d_TG_run_25 : decode b_TG_run 25 = .ok (.getfield 22, 3) := by decide +kernel
theorem d_TG_run_28 : decode b_TG_run 28 = .ok (.invokevirtual 65, 3) := by decide +kernel
theorem d_TG_run_31 : decode b_TG_run 31 = .ok (.ifCond .le 13, 3) := by decide +kernel
theorem d_TG_run_34 : decode b_TG_run 34 = .ok (.aload_n 0, 1) := by decide +kernel
theorem d_TG_run_35 : decode b_TG_run 35 = .ok (.getfield 27, 3) := by decide +kernel
theorem d_TG_run_38 : decode b_TG_run 38 = .ok (.bipush 8, 2) := by decide +kernel
theorem d_TG_run_40 : decode b_TG_run 40 = .ok (.iaload, 1) := by decide +kernel
theorem d_TG_run_41 : decode b_TG_run 41 = .ok (.goto 4, 3) := by decide +kernel
theorem d_TG_run_44 : decode b_TG_run 44 = .ok (.iconst 0, 1) := by decide +kernel
theorem d_TG_run_45 : decode b_TG_run 45 = .ok (.istore_n 3, 1) := by decide +kernel
theorem d_TG_run_46 : decode b_TG_run 46 = .ok (.aload_n 0, 1) := by decide +kernel
theorem d_TG_run_47 : decode b_TG_run 47 = .ok (.getfield 43, 3) := by decide +kernel
theorem d_TG_run_50 : decode b_TG_run 50 = .ok (.iconst 1, 1) := by decide +kernel
theorem d_TG_run_51 : decode b_TG_run 51 = .ok (.aaload, 1) := by decide +kernel
theorem d_TG_run_52 : decode b_TG_run 52 = .ok (.iconst 0, 1) := by decide +kernel
theorem d_TG_run_53 : decode b_TG_run 53 = .ok (.laload, 1) := by decide +kernel
theorem d_TG_run_54 : decode b_TG_run 54 = .ok (.lstore 4, 2) := by decide +kernel
theorem d_TG_run_56 : decode b_TG_run 56 = .ok (.iconst 0, 1) := by decide +kernel
theorem d_TG_run_57 : decode b_TG_run 57 = .ok (.istore 6, 2) := by decide +kernel
theorem d_TG_run_59 : decode b_TG_run 59 = .ok (.iconst 0, 1) := by decide +kernel
theorem d_TG_run_60 : decode b_TG_run 60 = .ok (.istore 7, 2) := by decide +kernel
theorem d_TG_run_62 : decode b_TG_run 62 = .ok (.iload 7, 2) := by decide +kernel
theorem d_TG_run_64 : decode b_TG_run 64 = .ok (.aload_n 0, 1) := by decide +kernel
theorem d_TG_run_65 : decode b_TG_run 65 = .ok (.getfield 27, 3) := by decide +kernel
theorem d_TG_run_68 : decode b_TG_run 68 = .ok (.iconst 4, 1) := by decide +kernel
theorem d_TG_run_69 : decode b_TG_run 69 = .ok (.iaload, 1) := by decide +kernel
theorem d_TG_run_70 : decode b_TG_run 70 = .ok (.if_icmp .ge 100, 3) := by decide +kernel
theorem d_TG_run_73 : decode b_TG_run 73 = .ok (.iload 7, 2) := by decide +kernel
theorem d_TG_run_75 : decode b_TG_run 75 = .ok (.bipush 12, 2) := by decide +kernel
theorem d_TG_run_77 : decode b_TG_run 77 = .ok (.if_icmp .ge 93, 3) := by decide +kernel
theorem d_TG_run_80 : decode b_TG_run 80 = .ok (.aload_n 0, 1) := by decide +kernel
theorem d_TG_run_81 : decode b_TG_run 81 = .ok (.getfield 12, 3) := by decide +kernel
theorem d_TG_run_84 : decode b_TG_run 84 = .ok (.aload_n 0, 1) := by decide +kernel
theorem d_TG_run_85 : decode b_TG_run 85 = .ok (.getfield 30, 3) := by decide +kernel
theorem d_TG_run_88 : decode b_TG_run 88 = .ok (.iload 7, 2) := by decide +kernel
theorem d_TG_run_90 : decode b_TG_run 90 = .ok (.aaload, 1) := by decide +kernel
theorem d_TG_run_91 : decode b_TG_run 91 = .ok (.iload 7, 2) := by decide +kernel
theorem d_TG_run_93 : decode b_TG_run 93 = .ok (.aload_n 0, 1) := by decide +kernel
theorem d_TG_run_94 : decode b_TG_run 94 = .ok (.getfield 34, 3) := by decide +kernel
theorem d_TG_run_97 : decode b_TG_run 97 = .ok (.invokevirtual 69, 3) := by decide +kernel
theorem d_TG_run_100 : decode b_TG_run 100 = .ok (.aload_n 0, 1) := by decide +kernel
theorem d_TG_run_101 : decode b_TG_run 101 = .ok (.iload 7, 2) := by decide +kernel
theorem d_TG_run_103 : decode b_TG_run 103 = .ok (.invokevirtual 73, 3) := by decide +kernel
theorem d_TG_run_106 : decode b_TG_run 106 = .ok (.aload_n 0, 1) := by decide +kernel
theorem d_TG_run_107 : decode b_TG_run 107 = .ok (.getfield 43, 3) := by decide +kernel
theorem d_TG_run_110 : decode b_TG_run 110 = .ok (.iconst 1, 1) := by decide +kernel
theorem d_TG_run_111 : decode b_TG_run 111 = .ok (.aaload, 1) := by decide +kernel
theorem d_TG_run_112 : decode b_TG_run 112 = .ok (.aload_n 0, 1) := by decide +kernel
theorem d_TG_run_113 : decode b_TG_run 113 = .ok (.getfield 77, 3) := by decide +kernel
theorem d_TG_run_116 : decode b_TG_run 116 = .ok (.laload, 1) := by decide +kernel
theorem d_TG_run_117 : decode b_TG_run 117 = .ok (.lload 4, 2) := by decide +kernel
theorem d_TG_run_119 : decode b_TG_run 119 = .ok (.lcmp, 1) := by decide +kernel
theorem d_TG_run_120 : decode b_TG_run 120 = .ok (.ifCond .ge 7, 3) := by decide +kernel
theorem d_TG_run_123 : decode b_TG_run 123 = .ok (.iconst 0, 1) := by decide +kernel
theorem d_TG_run_124 : decode b_TG_run 124 = .ok (.goto 7, 3) := by decide +kernel
theorem d_TG_run_127 : decode b_TG_run 127 = .ok (.iload 6, 2) := by decide +kernel
theorem d_TG_run_129 : decode b_TG_run 129 = .ok (.iconst 1, 1) := by decide +kernel
theorem d_TG_run_130 : decode b_TG_run 130 = .ok (.iadd, 1) := by decide +kernel
theorem d_TG_run_131 : decode b_TG_run 131 = .ok (.istore 6, 2) := by decide +kernel
theorem d_TG_run_133 : decode b_TG_run 133 = .ok (.lload 4, 2) := by decide +kernel
theorem d_TG_run_135 : decode b_TG_run 135 = .ok (.aload_n 0, 1) := by decide +kernel
theorem d_TG_run_136 : decode b_TG_run 136 = .ok (.getfield 43, 3) := by decide +kernel
theorem d_TG_run_139 : decode b_TG_run 139 = .ok (.iconst 1, 1) := by decide +kernel
theorem d_TG_run_140 : decode b_TG_run 140 = .ok (.aaload, 1) := by decide +kernel
theorem d_TG_run_141 : decode b_TG_run 141 = .ok (.aload_n 0, 1) := by decide +kernel
theorem d_TG_run_142 : decode b_TG_run 142 = .ok (.getfield 77, 3) := by decide +kernel
theorem d_TG_run_145 : decode b_TG_run 145 = .ok (.laload, 1) := by decide +kernel
theorem d_TG_run_146 : decode b_TG_run 146 = .ok (.invokestatic 81, 3) := by decide +kernel
theorem d_TG_run_149 : decode b_TG_run 149 = .ok (.lstore 4, 2) := by decide +kernel
theorem d_TG_run_151 : decode b_TG_run 151 = .ok (.iload_n 3, 1) := by decide +kernel
theorem d_TG_run_152 : decode b_TG_run 152 = .ok (.ifCond .le 12, 3) := by decide +kernel
theorem d_TG_run_155 : decode b_TG_run 155 = .ok (.iload 6, 2) := by decide +kernel
theorem d_TG_run_157 : decode b_TG_run 157 = .ok (.iload_n 3, 1) := by decide +kernel
theorem d_TG_run_158 : decode b_TG_run 158 = .ok (.if_icmp .lt 6, 3) := by decide +kernel
theorem d_TG_run_161 : decode b_TG_run 161 = .ok (.goto 9, 3) := by decide +kernel
theorem d_TG_run_164 : decode b_TG_run 164 = .ok (.iinc 7 1, 3) := by decide +kernel
theorem d_TG_run_167 : decode b_TG_run 167 = .ok (.goto (-105), 3) := by decide +kernel
theorem d_TG_run_170 : decode b_TG_run 170 = .ok (.return_, 1) := by decide +kernel
theorem d_TG_begin_0 : decode b_TG_begin 0 = .ok (.aload_n 0, 1) := by decide +kernel
theorem d_TG_begin_1 : decode b_TG_begin 1 = .ok (.iconst 1, 1) := by decide +kernel
theorem d_TG_begin_2 : decode b_TG_begin 2 = .ok (.putfield 87, 3) := by decide +kernel
theorem d_TG_begin_5 : decode b_TG_begin 5 = .ok (.aload_n 0, 1) := by decide +kernel
theorem d_TG_begin_6 : decode b_TG_begin 6 = .ok (.iconst 0, 1) := by decide +kernel
theorem d_TG_begin_7 : decode b_TG_begin 7 = .ok (.putfield 77, 3) := by decide +kernel
theorem d_TG_begin_10 : decode b_TG_begin 10 = .ok (.iconst 0, 1) := by decide +kernel
theorem d_TG_begin_11 : decode b_TG_begin 11 = .ok (.istore_n 1, 1) := by decide +kernel
theorem d_TG_begin_12 : decode b_TG_begin 12 = .ok (.iload_n 1, 1) := by decide +kernel
theorem d_TG_begin_13 : decode b_TG_begin 13 = .ok (.aload_n 0, 1) := by decide +kernel
theorem d_TG_begin_14 : decode b_TG_begin 14 = .ok (.getfield 22, 3) := by decide +kernel
theorem d_TG_begin_17 : decode b_TG_begin 17 = .ok (.getfield 91, 3) := by decide +kernel
theorem d_TG_begin_20 : decode b_TG_begin 20 = .ok (.if_icmp .ge 26, 3) := by decide +kernel
theorem d_TG_begin_23 : decode b_TG_begin 23 = .ok (.aload_n 0, 1) := by decide +kernel
theorem d_TG_begin_24 : decode b_TG_begin 24 = .ok (.getfield 34, 3) := by decide +kernel
theorem d_TG_begin_27 : decode b_TG_begin 27 = .ok (.iload_n 1, 1) := by decide +kernel
theorem d_TG_begin_28 : decode b_TG_begin 28 = .ok (.aload_n 0, 1) := by decide +kernel
theorem d_TG_begin_29 : decode b_TG_begin 29 = .ok (.invokevirtual 94, 3) := by decide +kernel
theorem d_TG_begin_32 : decode b_TG_begin 32 = .ok (.lastore, 1) := by decide +kernel
theorem d_TG_begin_33 : decode b_TG_begin 33 = .ok (.aload_n 0, 1) := by decide +kernel
theorem d_TG_begin_34 : decode b_TG_begin 34 = .ok (.getfield 38, 3) := by decide +kernel
theorem d_TG_begin_37 : decode b_TG_begin 37 = .ok (.iload_n 1, 1) := by decide +kernel
theorem d_TG_begin_38 : decode b_TG_begin 38 = .ok (.iconst 0, 1) := by decide +kernel
theorem d_TG_begin_39 : decode b_TG_begin 39 = .ok (.iastore, 1) := by decide +kernel
theorem d_TG_begin_40 : decode b_TG_begin 40 = .ok (.iinc 1 1, 3) := by decide +kernel
theorem d_TG_begin_43 : decode b_TG_begin 43 = .ok (.goto (-31), 3) := by decide +kernel
theorem d_TG_begin_46 : decode b_TG_begin 46 = .ok (.aload_n 0, 1) := by decide +kernel
theorem d_TG_begin_47 : decode b_TG_begin 47 = .ok (.invokevirtual 98, 3) := by decide +kernel
theorem d_TG_begin_50 : decode b_TG_begin 50 = .ok (.aload_n 0, 1) := by decide +kernel
theorem d_TG_begin_51 : decode b_TG_begin 51 = .ok (.getfield 12, 3) := by decide +kernel
theorem d_TG_begin_54 : decode b_TG_begin 54 = .ok (.invokevirtual 101, 3) := by decide +kernel
theorem d_TG_begin_57 : decode b_TG_begin 57 = .ok (.return_, 1) := by decide +kernel
theorem d_TG_addTree_0 : decode b_TG_addTree 0 = .ok (.iconst 0, 1) := by decide +kernel
theorem d_TG_addTree_1 : decode b_TG_addTree 1 = .ok (.istore_n 2, 1) := by decide +kernel
theorem d_TG_addTree_2 : decode b_TG_addTree 2 = .ok (.iload_n 2, 1) := by decide +kernel
theorem d_TG_addTree_3 : decode b_TG_addTree 3 = .ok (.aload_n 0, 1) := by decide +kernel
theorem d_TG_addTree_4 : decode b_TG_addTree 4 = .ok (.getfield 22, 3) := by decide +kernel
theorem d_TG_addTree_7 : decode b_TG_addTree 7 = .ok (.getfield 91, 3) := by decide +kernel
theorem d_TG_addTree_10 : decode b_TG_addTree 10 = .ok (.if_icmp .ge 60, 3) := by decide +kernel
theorem d_TG_addTree_13 : decode b_TG_addTree 13 = .ok (.aload_n 0, 1) := by decide +kernel
theorem d_TG_addTree_14 : decode b_TG_addTree 14 = .ok (.getfield 34, 3) := by decide +kernel
theorem d_TG_addTree_17 : decode b_TG_addTree 17 = .ok (.iload_n 2, 1) := by decide +kernel
theorem d_TG_addTree_18 : decode b_TG_addTree 18 = .ok (.dup2, 1) := by decide +kernel
theorem d_TG_addTree_19 : decode b_TG_addTree 19 = .ok (.laload, 1) := by decide +kernel
theorem d_TG_addTree_20 : decode b_TG_addTree 20 = .ok (.aload_n 0, 1) := by decide +kernel
theorem d_TG_addTree_21 : decode b_TG_addTree 21 = .ok (.aload_n 0, 1) := by decide +kernel
theorem d_TG_addTree_22 : decode b_TG_addTree 22 = .ok (.getfield 30, 3) := by decide +kernel
theorem d_TG_addTree_25 : decode b_TG_addTree 25 = .ok (.iload_n 1, 1) := by decide +kernel
theorem d_TG_addTree_26 : decode b_TG_addTree 26 = .ok (.aaload, 1) := by decide +kernel
theorem d_TG_addTree_27 : decode b_TG_addTree 27 = .ok (.aload_n 0, 1) := by decide +kernel
theorem d_TG_addTree_28 : decode b_TG_addTree 28 = .ok (.getfield 22, 3) := by decide +kernel
theorem d_TG_addTree_31 : decode b_TG_addTree 31 = .ok (.getfield 104, 3) := by decide +kernel
theorem d_TG_addTree_34 : decode b_TG_addTree 34 = .ok (.iload_n 2, 1) := by decide +kernel
theorem d_TG_addTree_35 : decode b_TG_addTree 35 = .ok (.aaload, 1) := by decide +kernel
theorem d_TG_addTree_36 : decode b_TG_addTree 36 = .ok (.invokevirtual 108, 3) := by decide +kernel
theorem d_TG_addTree_39 : decode b_TG_addTree 39 = .ok (.ladd, 1) := by decide +kernel
theorem d_TG_addTree_40 : decode b_TG_addTree 40 = .ok (.lastore, 1) := by decide +kernel
theorem d_TG_addTree_41 : decode b_TG_addTree 41 = .ok (.aload_n 0, 1) := by decide +kernel
theorem d_TG_addTree_42 : decode b_TG_addTree 42 = .ok (.getfield 12, 3) := by decide +kernel
theorem d_TG_addTree_45 : decode b_TG_addTree 45 = .ok (.iload_n 2, 1) := by decide +kernel
theorem d_TG_addTree_46 : decode b_TG_addTree 46 = .ok (.invokevirtual 112, 3) := by decide +kernel
theorem d_TG_addTree_49 : decode b_TG_addTree 49 = .ok (.ifCond .eq 15, 3) := by decide +kernel
theorem d_TG_addTree_52 : decode b_TG_addTree 52 = .ok (.aload_n 0, 1) := by decide +kernel
theorem d_TG_addTree_53 : decode b_TG_addTree 53 = .ok (.getfield 38, 3) := by decide +kernel
theorem d_TG_addTree_56 : decode b_TG_addTree 56 = .ok (.iload_n 2, 1) := by decide +kernel
theorem d_TG_addTree_57 : decode b_TG_addTree 57 = .ok (.dup2, 1) := by decide +kernel
theorem d_TG_addTree_58 : decode b_TG_addTree 58 = .ok (.iaload, 1) := by decide +kernel
theorem d_TG_addTree_59 : decode b_TG_addTree 59 = .ok (.iconst 1, 1) := by decide +kernel
theorem d_TG_addTree_60 : decode b_TG_addTree 60 = .ok (.iload_n 1, 1) := by decide +kernel
theorem d_TG_addTree_61 : decode b_TG_addTree 61 = .ok (.ishl, 1) := by decide +kernel
theorem d_TG_addTree_62 : decode b_TG_addTree 62 = .ok (.ior, 1) := by decide +kernel
theorem d_TG_addTree_63 : decode b_TG_addTree 63 = .ok (.iastore, 1) := by decide +kernel
theorem d_TG_addTree_64 : decode b_TG_addTree 64 = .ok (.iinc 2 1, 3) := by decide +kernel
theorem d_TG_addTree_67 : decode b_TG_addTree 67 = .ok (.goto (-65), 3) := by decide +kernel
theorem d_TG_addTree_70 : decode b_TG_addTree 70 = .ok (.aload_n 0, 1) := by decide +kernel
theorem d_TG_addTree_71 : decode b_TG_addTree 71 = .ok (.iload_n 1, 1) := by decide +kernel
theorem d_TG_addTree_72 : decode b_TG_addTree 72 = .ok (.iconst 1, 1) := by decide +kernel
theorem d_TG_addTree_73 : decode b_TG_addTree 73 = .ok (.iadd, 1) := by decide +kernel
theorem d_TG_addTree_74 : decode b_TG_addTree 74 = .ok (.putfield 77, 3) := by decide +kernel
theorem d_TG_addTree_77 : decode b_TG_addTree 77 = .ok (.aload_n 0, 1) := by decide +kernel
theorem d_TG_addTree_78 : decode b_TG_addTree 78 = .ok (.invokevirtual 98, 3) := by decide +kernel
theorem d_TG_addTree_81 : decode b_TG_addTree 81 = .ok (.return_, 1) := by decide +kernel
theorem d_TG_keepLosses_0 : decode b_TG_keepLosses 0 = .ok (.aload_n 0, 1) := by decide +kernel
theorem d_TG_keepLosses_1 : decode b_TG_keepLosses 1 = .ok (.getfield 43, 3) := by decide +kernel
theorem d_TG_keepLosses_4 : decode b_TG_keepLosses 4 = .ok (.iconst 0, 1) := by decide +kernel
theorem d_TG_keepLosses_5 : decode b_TG_keepLosses 5 = .ok (.aaload, 1) := by decide +kernel
theorem d_TG_keepLosses_6 : decode b_TG_keepLosses 6 = .ok (.aload_n 0, 1) := by decide +kernel
theorem d_TG_keepLosses_7 : decode b_TG_keepLosses 7 = .ok (.getfield 77, 3) := by decide +kernel
theorem d_TG_keepLosses_10 : decode b_TG_keepLosses 10 = .ok (.lconst 0, 1) := by decide +kernel
theorem d_TG_keepLosses_11 : decode b_TG_keepLosses 11 = .ok (.lastore, 1) := by decide +kernel
theorem d_TG_keepLosses_12 : decode b_TG_keepLosses 12 = .ok (.aload_n 0, 1) := by decide +kernel
theorem d_TG_keepLosses_13 : decode b_TG_keepLosses 13 = .ok (.getfield 43, 3) := by decide +kernel
theorem d_TG_keepLosses_16 : decode b_TG_keepLosses 16 = .ok (.iconst 1, 1) := by decide +kernel
theorem d_TG_keepLosses_17 : decode b_TG_keepLosses 17 = .ok (.aaload, 1) := by decide +kernel
theorem d_TG_keepLosses_18 : decode b_TG_keepLosses 18 = .ok (.aload_n 0, 1) := by decide +kernel
theorem d_TG_keepLosses_19 : decode b_TG_keepLosses 19 = .ok (.getfield 77, 3) := by decide +kernel
theorem d_TG_keepLosses_22 : decode b_TG_keepLosses 22 = .ok (.lconst 0, 1) := by decide +kernel
theorem d_TG_keepLosses_23 : decode b_TG_keepLosses 23 = .ok (.lastore, 1) := by decide +kernel
theorem d_TG_keepLosses_24 : decode b_TG_keepLosses 24 = .ok (.iconst 0, 1) := by decide +kernel
theorem d_TG_keepLosses_25 : decode b_TG_keepLosses 25 = .ok (.istore_n 1, 1) := by decide +kernel
theorem d_TG_keepLosses_26 : decode b_TG_keepLosses 26 = .ok (.iload_n 1, 1) := by decide +kernel
theorem d_TG_keepLosses_27 : decode b_TG_keepLosses 27 = .ok (.aload_n 0, 1) := by decide +kernel
theorem d_TG_keepLosses_28 : decode b_TG_keepLosses 28 = .ok (.getfield 22, 3) := by decide +kernel
theorem d_TG_keepLosses_31 : decode b_TG_keepLosses 31 = .ok (.getfield 91, 3) := by decide +kernel
theorem d_TG_keepLosses_34 : decode b_TG_keepLosses 34 = .ok (.if_icmp .ge 75, 3) := by decide +kernel
theorem d_TG_keepLosses_37 : decode b_TG_keepLosses 37 = .ok (.aload_n 0, 1) := by decide +kernel
theorem d_TG_keepLosses_38 : decode b_TG_keepLosses 38 = .ok (.getfield 34, 3) := by decide +kernel
theorem d_TG_keepLosses_41 : decode b_TG_keepLosses 41 = .ok (.iload_n 1, 1) := by decide +kernel
theorem d_TG_keepLosses_42 : decode b_TG_keepLosses 42 = .ok (.laload, 1) := by decide +kernel
theorem d_TG_keepLosses_43 : decode b_TG_keepLosses 43 = .ok (.sipush 256, 3) := by decide +kernel
theorem d_TG_keepLosses_46 : decode b_TG_keepLosses 46 = .ok (.aload_n 0, 1) := by decide +kernel
theorem d_TG_keepLosses_47 : decode b_TG_keepLosses 47 = .ok (.getfield 22, 3) := by decide +kernel
theorem d_TG_keepLosses_50 : decode b_TG_keepLosses 50 = .ok (.getfield 116, 3) := by decide +kernel
theorem d_TG_keepLosses_53 : decode b_TG_keepLosses 53 = .ok (.iload_n 1, 1) := by decide +kernel
theorem d_TG_keepLosses_54 : decode b_TG_keepLosses 54 = .ok (.iaload, 1) := by decide +kernel
theorem d_TG_keepLosses_55 : decode b_TG_keepLosses 55 = .ok (.imul, 1) := by decide +kernel
theorem d_TG_keepLosses_56 : decode b_TG_keepLosses 56 = .ok (.i2l, 1) := by decide +kernel
theorem d_TG_keepLosses_57 : decode b_TG_keepLosses 57 = .ok (.lsub, 1) := by decide +kernel
theorem d_TG_keepLosses_58 : decode b_TG_keepLosses 58 = .ok (.lstore_n 2, 1) := by decide +kernel
theorem d_TG_keepLosses_59 : decode b_TG_keepLosses 59 = .ok (.aload_n 0, 1) := by decide +kernel
theorem d_TG_keepLosses_60 : decode b_TG_keepLosses 60 = .ok (.getfield 43, 3) := by decide +kernel
theorem d_TG_keepLosses_63 : decode b_TG_keepLosses 63 = .ok (.aload_n 0, 1) := by decide +kernel
theorem d_TG_keepLosses_64 : decode b_TG_keepLosses 64 = .ok (.getfield 22, 3) := by decide +kernel
theorem d_TG_keepLosses_67 : decode b_TG_keepLosses 67 = .ok (.getfield 119, 3) := by decide +kernel
theorem d_TG_keepLosses_70 : decode b_TG_keepLosses 70 = .ok (.iload_n 1, 1) := by decide +kernel
theorem d_TG_keepLosses_71 : decode b_TG_keepLosses 71 = .ok (.baload, 1) := by decide +kernel
theorem d_TG_keepLosses_72 : decode b_TG_keepLosses 72 = .ok (.ifCond .eq 7, 3) := by decide +kernel
theorem d_TG_keepLosses_75 : decode b_TG_keepLosses 75 = .ok (.iconst 1, 1) := by decide +kernel
theorem d_TG_keepLosses_76 : decode b_TG_keepLosses 76 = .ok (.goto 4, 3) := by decide +kernel
theorem d_TG_keepLosses_79 : decode b_TG_keepLosses 79 = .ok (.iconst 0, 1) := by decide +kernel
theorem d_TG_keepLosses_80 : decode b_TG_keepLosses 80 = .ok (.aaload, 1) := by decide +kernel
theorem d_TG_keepLosses_81 : decode b_TG_keepLosses 81 = .ok (.aload_n 0, 1) := by decide +kernel
theorem d_TG_keepLosses_82 : decode b_TG_keepLosses 82 = .ok (.getfield 77, 3) := by decide +kernel
theorem d_TG_keepLosses_85 : decode b_TG_keepLosses 85 = .ok (.dup2, 1) := by decide +kernel
theorem d_TG_keepLosses_86 : decode b_TG_keepLosses 86 = .ok (.laload, 1) := by decide +kernel
theorem d_TG_keepLosses_87 : decode b_TG_keepLosses 87 = .ok (.aload_n 0, 1) := by decide +kernel
theorem d_TG_keepLosses_88 : decode b_TG_keepLosses 88 = .ok (.getfield 22, 3) := by decide +kernel
theorem d_TG_keepLosses_91 : decode b_TG_keepLosses 91 = .ok (.getfield 123, 3) := by decide +kernel
theorem d_TG_keepLosses_94 : decode b_TG_keepLosses 94 = .ok (.iload_n 1, 1) := by decide +kernel
theorem d_TG_keepLosses_95 : decode b_TG_keepLosses 95 = .ok (.iaload, 1) := by decide +kernel
theorem d_TG_keepLosses_96 : decode b_TG_keepLosses 96 = .ok (.i2l, 1) := by decide +kernel
theorem d_TG_keepLosses_97 : decode b_TG_keepLosses 97 = .ok (.lload_n 2, 1) := by decide +kernel
theorem d_TG_keepLosses_98 : decode b_TG_keepLosses 98 = .ok (.lmul, 1) := by decide +kernel
theorem d_TG_keepLosses_99 : decode b_TG_keepLosses 99 = .ok (.lload_n 2, 1) := by decide +kernel
theorem d_TG_keepLosses_100 : decode b_TG_keepLosses 100 = .ok (.lmul, 1) := by decide +kernel
theorem d_TG_keepLosses_101 : decode b_TG_keepLosses 101 = .ok (.ladd, 1) := by decide +kernel
theorem d_TG_keepLosses_102 : decode b_TG_keepLosses 102 = .ok (.lastore, 1) := by decide +kernel
theorem d_TG_keepLosses_103 : decode b_TG_keepLosses 103 = .ok (.iinc 1 1, 3) := by decide +kernel
theorem d_TG_keepLosses_106 : decode b_TG_keepLosses 106 = .ok (.goto (-80), 3) := by decide +kernel
theorem d_TG_keepLosses_109 : decode b_TG_keepLosses 109 = .ok (.return_, 1) := by decide +kernel
theorem d_TG_treesOfLeastLoss_0 : decode b_TG_treesOfLeastLoss 0 = .ok (.aload_n 0, 1) := by decide +kernel
theorem d_TG_treesOfLeastLoss_1 : decode b_TG_treesOfLeastLoss 1 = .ok (.getfield 22, 3) := by decide +kernel
theorem d_TG_treesOfLeastLoss_4 : decode b_TG_treesOfLeastLoss 4 = .ok (.invokevirtual 65, 3) := by decide +kernel
theorem d_TG_treesOfLeastLoss_7 : decode b_TG_treesOfLeastLoss 7 = .ok (.ifCond .ne 8, 3) := by decide +kernel
theorem d_TG_treesOfLeastLoss_10 : decode b_TG_treesOfLeastLoss 10 = .ok (.aload_n 0, 1) := by decide +kernel
theorem d_TG_treesOfLeastLoss_11 : decode b_TG_treesOfLeastLoss 11 = .ok (.getfield 77, 3) := by decide +kernel
theorem d_TG_treesOfLeastLoss_14 : decode b_TG_treesOfLeastLoss 14 = .ok (.ireturn, 1) := by decide +kernel
theorem d_TG_treesOfLeastLoss_15 : decode b_TG_treesOfLeastLoss 15 = .ok (.iconst 0, 1) := by decide +kernel
theorem d_TG_treesOfLeastLoss_16 : decode b_TG_treesOfLeastLoss 16 = .ok (.istore_n 1, 1) := by decide +kernel
theorem d_TG_treesOfLeastLoss_17 : decode b_TG_treesOfLeastLoss 17 = .ok (.iconst 1, 1) := by decide +kernel
theorem d_TG_treesOfLeastLoss_18 : decode b_TG_treesOfLeastLoss 18 = .ok (.istore_n 2, 1) := by decide +kernel
theorem d_TG_treesOfLeastLoss_19 : decode b_TG_treesOfLeastLoss 19 = .ok (.iload_n 2, 1) := by decide +kernel
theorem d_TG_treesOfLeastLoss_20 : decode b_TG_treesOfLeastLoss 20 = .ok (.aload_n 0, 1) := by decide +kernel
theorem d_TG_treesOfLeastLoss_21 : decode b_TG_treesOfLeastLoss 21 = .ok (.getfield 77, 3) := by decide +kernel
theorem d_TG_treesOfLeastLoss_24 : decode b_TG_treesOfLeastLoss 24 = .ok (.if_icmp .gt 31, 3) := by decide +kernel
theorem d_TG_treesOfLeastLoss_27 : decode b_TG_treesOfLeastLoss 27 = .ok (.aload_n 0, 1) := by decide +kernel
theorem d_TG_treesOfLeastLoss_28 : decode b_TG_treesOfLeastLoss 28 = .ok (.getfield 43, 3) := by decide +kernel
theorem d_TG_treesOfLeastLoss_31 : decode b_TG_treesOfLeastLoss 31 = .ok (.iconst 1, 1) := by decide +kernel
theorem d_TG_treesOfLeastLoss_32 : decode b_TG_treesOfLeastLoss 32 = .ok (.aaload, 1) := by decide +kernel
theorem d_TG_treesOfLeastLoss_33 : decode b_TG_treesOfLeastLoss 33 = .ok (.iload_n 2, 1) := by decide +kernel
theorem d_TG_treesOfLeastLoss_34 : decode b_TG_treesOfLeastLoss 34 = .ok (.laload, 1) := by decide +kernel
theorem d_TG_treesOfLeastLoss_35 : decode b_TG_treesOfLeastLoss 35 = .ok (.aload_n 0, 1) := by decide +kernel
theorem d_TG_treesOfLeastLoss_36 : decode b_TG_treesOfLeastLoss 36 = .ok (.getfield 43, 3) := by decide +kernel
theorem d_TG_treesOfLeastLoss_39 : decode b_TG_treesOfLeastLoss 39 = .ok (.iconst 1, 1) := by decide +kernel
theorem d_TG_treesOfLeastLoss_40 : decode b_TG_treesOfLeastLoss 40 = .ok (.aaload, 1) := by decide +kernel
theorem d_TG_treesOfLeastLoss_41 : decode b_TG_treesOfLeastLoss 41 = .ok (.iload_n 1, 1) := by decide +kernel
theorem d_TG_treesOfLeastLoss_42 : decode b_TG_treesOfLeastLoss 42 = .ok (.laload, 1) := by decide +kernel
theorem d_TG_treesOfLeastLoss_43 : decode b_TG_treesOfLeastLoss 43 = .ok (.lcmp, 1) := by decide +kernel
theorem d_TG_treesOfLeastLoss_44 : decode b_TG_treesOfLeastLoss 44 = .ok (.ifCond .ge 5, 3) := by decide +kernel
theorem d_TG_treesOfLeastLoss_47 : decode b_TG_treesOfLeastLoss 47 = .ok (.iload_n 2, 1) := by decide +kernel
theorem d_TG_treesOfLeastLoss_48 : decode b_TG_treesOfLeastLoss 48 = .ok (.istore_n 1, 1) := by decide +kernel
theorem d_TG_treesOfLeastLoss_49 : decode b_TG_treesOfLeastLoss 49 = .ok (.iinc 2 1, 3) := by decide +kernel
theorem d_TG_treesOfLeastLoss_52 : decode b_TG_treesOfLeastLoss 52 = .ok (.goto (-33), 3) := by decide +kernel
theorem d_TG_treesOfLeastLoss_55 : decode b_TG_treesOfLeastLoss 55 = .ok (.iload_n 1, 1) := by decide +kernel
theorem d_TG_treesOfLeastLoss_56 : decode b_TG_treesOfLeastLoss 56 = .ok (.ireturn, 1) := by decide +kernel
theorem d_TG_answerBy_0 : decode b_TG_answerBy 0 = .ok (.aload_n 0, 1) := by decide +kernel
theorem d_TG_answerBy_1 : decode b_TG_answerBy 1 = .ok (.invokevirtual 94, 3) := by decide +kernel
theorem d_TG_answerBy_4 : decode b_TG_answerBy 4 = .ok (.lstore_n 3, 1) := by decide +kernel
theorem d_TG_answerBy_5 : decode b_TG_answerBy 5 = .ok (.iconst 0, 1) := by decide +kernel
theorem d_TG_answerBy_6 : decode b_TG_answerBy 6 = .ok (.istore 5, 2) := by decide +kernel
theorem d_TG_answerBy_8 : decode b_TG_answerBy 8 = .ok (.iload 5, 2) := by decide +kernel
theorem d_TG_answerBy_10 : decode b_TG_answerBy 10 = .ok (.iload_n 1, 1) := by decide +kernel
theorem d_TG_answerBy_11 : decode b_TG_answerBy 11 = .ok (.if_icmp .ge 33, 3) := by decide +kernel
theorem d_TG_answerBy_14 : decode b_TG_answerBy 14 = .ok (.iload 5, 2) := by decide +kernel
theorem d_TG_answerBy_16 : decode b_TG_answerBy 16 = .ok (.aload_n 0, 1) := by decide +kernel
theorem d_TG_answerBy_17 : decode b_TG_answerBy 17 = .ok (.getfield 77, 3) := by decide +kernel
theorem d_TG_answerBy_20 : decode b_TG_answerBy 20 = .ok (.if_icmp .ge 24, 3) := by decide +kernel
theorem d_TG_answerBy_23 : decode b_TG_answerBy 23 = .ok (.lload_n 3, 1) := by decide +kernel
theorem d_TG_answerBy_24 : decode b_TG_answerBy 24 = .ok (.aload_n 0, 1) := by decide +kernel
theorem d_TG_answerBy_25 : decode b_TG_answerBy 25 = .ok (.aload_n 0, 1) := by decide +kernel
theorem d_TG_answerBy_26 : decode b_TG_answerBy 26 = .ok (.getfield 30, 3) := by decide +kernel
theorem d_TG_answerBy_29 : decode b_TG_answerBy 29 = .ok (.iload 5, 2) := by decide +kernel
theorem d_TG_answerBy_31 : decode b_TG_answerBy 31 = .ok (.aaload, 1) := by decide +kernel
theorem d_TG_answerBy_32 : decode b_TG_answerBy 32 = .ok (.aload_n 2, 1) := by decide +kernel
theorem d_TG_answerBy_33 : decode b_TG_answerBy 33 = .ok (.invokevirtual 108, 3) := by decide +kernel
theorem d_TG_answerBy_36 : decode b_TG_answerBy 36 = .ok (.ladd, 1) := by decide +kernel
theorem d_TG_answerBy_37 : decode b_TG_answerBy 37 = .ok (.lstore_n 3, 1) := by decide +kernel
theorem d_TG_answerBy_38 : decode b_TG_answerBy 38 = .ok (.iinc 5 1, 3) := by decide +kernel
theorem d_TG_answerBy_41 : decode b_TG_answerBy 41 = .ok (.goto (-33), 3) := by decide +kernel
theorem d_TG_answerBy_44 : decode b_TG_answerBy 44 = .ok (.lload_n 3, 1) := by decide +kernel
theorem d_TG_answerBy_45 : decode b_TG_answerBy 45 = .ok (.lreturn, 1) := by decide +kernel
theorem d_TG_leftOut_0 : decode b_TG_leftOut 0 = .ok (.aload_n 0, 1) := by decide +kernel
theorem d_TG_leftOut_1 : decode b_TG_leftOut 1 = .ok (.invokevirtual 94, 3) := by decide +kernel
theorem d_TG_leftOut_4 : decode b_TG_leftOut 4 = .ok (.lstore_n 2, 1) := by decide +kernel
theorem d_TG_leftOut_5 : decode b_TG_leftOut 5 = .ok (.iconst 0, 1) := by decide +kernel
theorem d_TG_leftOut_6 : decode b_TG_leftOut 6 = .ok (.istore 4, 2) := by decide +kernel
theorem d_TG_leftOut_8 : decode b_TG_leftOut 8 = .ok (.iload 4, 2) := by decide +kernel
theorem d_TG_leftOut_10 : decode b_TG_leftOut 10 = .ok (.aload_n 0, 1) := by decide +kernel
theorem d_TG_leftOut_11 : decode b_TG_leftOut 11 = .ok (.getfield 77, 3) := by decide +kernel
theorem d_TG_leftOut_14 : decode b_TG_leftOut 14 = .ok (.if_icmp .ge 46, 3) := by decide +kernel
theorem d_TG_leftOut_17 : decode b_TG_leftOut 17 = .ok (.aload_n 0, 1) := by decide +kernel
theorem d_TG_leftOut_18 : decode b_TG_leftOut 18 = .ok (.getfield 38, 3) := by decide +kernel
theorem d_TG_leftOut_21 : decode b_TG_leftOut 21 = .ok (.iload_n 1, 1) := by decide +kernel
theorem d_TG_leftOut_22 : decode b_TG_leftOut 22 = .ok (.iaload, 1) := by decide +kernel
theorem d_TG_leftOut_23 : decode b_TG_leftOut 23 = .ok (.iload 4, 2) := by decide +kernel
theorem d_TG_leftOut_25 : decode b_TG_leftOut 25 = .ok (.ishr, 1) := by decide +kernel
theorem d_TG_leftOut_26 : decode b_TG_leftOut 26 = .ok (.iconst 1, 1) := by decide +kernel
theorem d_TG_leftOut_27 : decode b_TG_leftOut 27 = .ok (.iand, 1) := by decide +kernel
theorem d_TG_leftOut_28 : decode b_TG_leftOut 28 = .ok (.ifCond .ne 26, 3) := by decide +kernel
theorem d_TG_leftOut_31 : decode b_TG_leftOut 31 = .ok (.lload_n 2, 1) := by decide +kernel
theorem d_TG_leftOut_32 : decode b_TG_leftOut 32 = .ok (.aload_n 0, 1) := by decide +kernel
theorem d_TG_leftOut_33 : decode b_TG_leftOut 33 = .ok (.aload_n 0, 1) := by decide +kernel
theorem d_TG_leftOut_34 : decode b_TG_leftOut 34 = .ok (.getfield 30, 3) := by decide +kernel
theorem d_TG_leftOut_37 : decode b_TG_leftOut 37 = .ok (.iload 4, 2) := by decide +kernel
theorem d_TG_leftOut_39 : decode b_TG_leftOut 39 = .ok (.aaload, 1) := by decide +kernel
theorem d_TG_leftOut_40 : decode b_TG_leftOut 40 = .ok (.aload_n 0, 1) := by decide +kernel
theorem d_TG_leftOut_41 : decode b_TG_leftOut 41 = .ok (.getfield 22, 3) := by decide +kernel
theorem d_TG_leftOut_44 : decode b_TG_leftOut 44 = .ok (.getfield 104, 3) := by decide +kernel
theorem d_TG_leftOut_47 : decode b_TG_leftOut 47 = .ok (.iload_n 1, 1) := by decide +kernel
theorem d_TG_leftOut_48 : decode b_TG_leftOut 48 = .ok (.aaload, 1) := by decide +kernel
theorem d_TG_leftOut_49 : decode b_TG_leftOut 49 = .ok (.invokevirtual 108, 3) := by decide +kernel
theorem d_TG_leftOut_52 : decode b_TG_leftOut 52 = .ok (.ladd, 1) := by decide +kernel
theorem d_TG_leftOut_53 : decode b_TG_leftOut 53 = .ok (.lstore_n 2, 1) := by decide +kernel
theorem d_TG_leftOut_54 : decode b_TG_leftOut 54 = .ok (.iinc 4 1, 3) := by decide +kernel
theorem d_TG_leftOut_57 : decode b_TG_leftOut 57 = .ok (.goto (-49), 3) := by decide +kernel
theorem d_TG_leftOut_60 : decode b_TG_leftOut 60 = .ok (.lload_n 2, 1) := by decide +kernel
theorem d_TG_leftOut_61 : decode b_TG_leftOut 61 = .ok (.lreturn, 1) := by decide +kernel
theorem d_TG_gainBy_0 : decode b_TG_gainBy 0 = .ok (.lconst 0, 1) := by decide +kernel
theorem d_TG_gainBy_1 : decode b_TG_gainBy 1 = .ok (.lstore_n 2, 1) := by decide +kernel
theorem d_TG_gainBy_2 : decode b_TG_gainBy 2 = .ok (.iconst 0, 1) := by decide +kernel
theorem d_TG_gainBy_3 : decode b_TG_gainBy 3 = .ok (.istore 4, 2) := by decide +kernel
theorem d_TG_gainBy_5 : decode b_TG_gainBy 5 = .ok (.iload 4, 2) := by decide +kernel
theorem d_TG_gainBy_7 : decode b_TG_gainBy 7 = .ok (.aload_n 0, 1) := by decide +kernel
theorem d_TG_gainBy_8 : decode b_TG_gainBy 8 = .ok (.getfield 77, 3) := by decide +kernel
theorem d_TG_gainBy_11 : decode b_TG_gainBy 11 = .ok (.if_icmp .ge 70, 3) := by decide +kernel
theorem d_TG_gainBy_14 : decode b_TG_gainBy 14 = .ok (.iconst 0, 1) := by decide +kernel
theorem d_TG_gainBy_15 : decode b_TG_gainBy 15 = .ok (.istore 5, 2) := by decide +kernel
theorem d_TG_gainBy_17 : decode b_TG_gainBy 17 = .ok (.iload 5, 2) := by decide +kernel
theorem d_TG_gainBy_19 : decode b_TG_gainBy 19 = .ok (.aload_n 0, 1) := by decide +kernel
theorem d_TG_gainBy_20 : decode b_TG_gainBy 20 = .ok (.getfield 30, 3) := by decide +kernel
theorem d_TG_gainBy_23 : decode b_TG_gainBy 23 = .ok (.iload 4, 2) := by decide +kernel
theorem d_TG_gainBy_25 : decode b_TG_gainBy 25 = .ok (.aaload, 1) := by decide +kernel
theorem d_TG_gainBy_26 : decode b_TG_gainBy 26 = .ok (.getfield 126, 3) := by decide +kernel
theorem d_TG_gainBy_29 : decode b_TG_gainBy 29 = .ok (.if_icmp .ge 46, 3) := by decide +kernel
theorem d_TG_gainBy_32 : decode b_TG_gainBy 32 = .ok (.aload_n 0, 1) := by decide +kernel
theorem d_TG_gainBy_33 : decode b_TG_gainBy 33 = .ok (.getfield 30, 3) := by decide +kernel
theorem d_TG_gainBy_36 : decode b_TG_gainBy 36 = .ok (.iload 4, 2) := by decide +kernel
theorem d_TG_gainBy_38 : decode b_TG_gainBy 38 = .ok (.aaload, 1) := by decide +kernel
theorem d_TG_gainBy_39 : decode b_TG_gainBy 39 = .ok (.getfield 129, 3) := by decide +kernel
theorem d_TG_gainBy_42 : decode b_TG_gainBy 42 = .ok (.iconst 0, 1) := by decide +kernel
theorem d_TG_gainBy_43 : decode b_TG_gainBy 43 = .ok (.aaload, 1) := by decide +kernel
theorem d_TG_gainBy_44 : decode b_TG_gainBy 44 = .ok (.iload 5, 2) := by decide +kernel
theorem d_TG_gainBy_46 : decode b_TG_gainBy 46 = .ok (.iaload, 1) := by decide +kernel
theorem d_TG_gainBy_47 : decode b_TG_gainBy 47 = .ok (.iload_n 1, 1) := by decide +kernel
theorem d_TG_gainBy_48 : decode b_TG_gainBy 48 = .ok (.if_icmp .ne 21, 3) := by decide +kernel
theorem d_TG_gainBy_51 : decode b_TG_gainBy 51 = .ok (.lload_n 2, 1) := by decide +kernel
theorem d_TG_gainBy_52 : decode b_TG_gainBy 52 = .ok (.aload_n 0, 1) := by decide +kernel
theorem d_TG_gainBy_53 : decode b_TG_gainBy 53 = .ok (.getfield 30, 3) := by decide +kernel
theorem d_TG_gainBy_56 : decode b_TG_gainBy 56 = .ok (.iload 4, 2) := by decide +kernel
theorem d_TG_gainBy_58 : decode b_TG_gainBy 58 = .ok (.aaload, 1) := by decide +kernel
theorem d_TG_gainBy_59 : decode b_TG_gainBy 59 = .ok (.getfield 132, 3) := by decide +kernel
theorem d_TG_gainBy_62 : decode b_TG_gainBy 62 = .ok (.iconst 2, 1) := by decide +kernel
theorem d_TG_gainBy_63 : decode b_TG_gainBy 63 = .ok (.aaload, 1) := by decide +kernel
theorem d_TG_gainBy_64 : decode b_TG_gainBy 64 = .ok (.iload 5, 2) := by decide +kernel
theorem d_TG_gainBy_66 : decode b_TG_gainBy 66 = .ok (.laload, 1) := by decide +kernel
theorem d_TG_gainBy_67 : decode b_TG_gainBy 67 = .ok (.ladd, 1) := by decide +kernel
theorem d_TG_gainBy_68 : decode b_TG_gainBy 68 = .ok (.lstore_n 2, 1) := by decide +kernel
theorem d_TG_gainBy_69 : decode b_TG_gainBy 69 = .ok (.iinc 5 1, 3) := by decide +kernel
theorem d_TG_gainBy_72 : decode b_TG_gainBy 72 = .ok (.goto (-55), 3) := by decide +kernel
theorem d_TG_gainBy_75 : decode b_TG_gainBy 75 = .ok (.iinc 4 1, 3) := by decide +kernel
theorem d_TG_gainBy_78 : decode b_TG_gainBy 78 = .ok (.goto (-73), 3) := by decide +kernel
theorem d_TG_gainBy_81 : decode b_TG_gainBy 81 = .ok (.lload_n 2, 1) := by decide +kernel
theorem d_TG_gainBy_82 : decode b_TG_gainBy 82 = .ok (.lreturn, 1) := by decide +kernel
theorem d_TG_tellAll_0 : decode b_TG_tellAll 0 = .ok (.aload_n 0, 1) := by decide +kernel
theorem d_TG_tellAll_1 : decode b_TG_tellAll 1 = .ok (.invokevirtual 94, 3) := by decide +kernel
theorem d_TG_tellAll_4 : decode b_TG_tellAll 4 = .ok (.lstore_n 3, 1) := by decide +kernel
theorem d_TG_tellAll_5 : decode b_TG_tellAll 5 = .ok (.iconst 0, 1) := by decide +kernel
theorem d_TG_tellAll_6 : decode b_TG_tellAll 6 = .ok (.istore 5, 2) := by decide +kernel
theorem d_TG_tellAll_8 : decode b_TG_tellAll 8 = .ok (.iload 5, 2) := by decide +kernel
theorem d_TG_tellAll_10 : decode b_TG_tellAll 10 = .ok (.aload_n 0, 1) := by decide +kernel
theorem d_TG_tellAll_11 : decode b_TG_tellAll 11 = .ok (.getfield 77, 3) := by decide +kernel
theorem d_TG_tellAll_14 : decode b_TG_tellAll 14 = .ok (.if_icmp .ge 25, 3) := by decide +kernel
theorem d_TG_tellAll_17 : decode b_TG_tellAll 17 = .ok (.lload_n 3, 1) := by decide +kernel
theorem d_TG_tellAll_18 : decode b_TG_tellAll 18 = .ok (.aload_n 0, 1) := by decide +kernel
theorem d_TG_tellAll_19 : decode b_TG_tellAll 19 = .ok (.aload_n 0, 1) := by decide +kernel
theorem d_TG_tellAll_20 : decode b_TG_tellAll 20 = .ok (.getfield 30, 3) := by decide +kernel
theorem d_TG_tellAll_23 : decode b_TG_tellAll 23 = .ok (.iload 5, 2) := by decide +kernel
theorem d_TG_tellAll_25 : decode b_TG_tellAll 25 = .ok (.aaload, 1) := by decide +kernel
theorem d_TG_tellAll_26 : decode b_TG_tellAll 26 = .ok (.iload_n 1, 1) := by decide +kernel
theorem d_TG_tellAll_27 : decode b_TG_tellAll 27 = .ok (.aload_n 2, 1) := by decide +kernel
theorem d_TG_tellAll_28 : decode b_TG_tellAll 28 = .ok (.invokevirtual 135, 3) := by decide +kernel
theorem d_TG_tellAll_31 : decode b_TG_tellAll 31 = .ok (.ladd, 1) := by decide +kernel
theorem d_TG_tellAll_32 : decode b_TG_tellAll 32 = .ok (.lstore_n 3, 1) := by decide +kernel
theorem d_TG_tellAll_33 : decode b_TG_tellAll 33 = .ok (.iinc 5 1, 3) := by decide +kernel
theorem d_TG_tellAll_36 : decode b_TG_tellAll 36 = .ok (.goto (-28), 3) := by decide +kernel
theorem d_TG_tellAll_39 : decode b_TG_tellAll 39 = .ok (.lload_n 3, 1) := by decide +kernel
theorem d_TG_tellAll_40 : decode b_TG_tellAll 40 = .ok (.lreturn, 1) := by decide +kernel
theorem d_TG_fairShare_0 : decode b_TG_fairShare 0 = .ok (.iconst 1, 1) := by decide +kernel
theorem d_TG_fairShare_1 : decode b_TG_fairShare 1 = .ok (.iload_n 1, 1) := by decide +kernel
theorem d_TG_fairShare_2 : decode b_TG_fairShare 2 = .ok (.ishl, 1) := by decide +kernel
theorem d_TG_fairShare_3 : decode b_TG_fairShare 3 = .ok (.istore_n 3, 1) := by decide +kernel
theorem d_TG_fairShare_4 : decode b_TG_fairShare 4 = .ok (.lconst 0, 1) := by decide +kernel
theorem d_TG_fairShare_5 : decode b_TG_fairShare 5 = .ok (.lstore 4, 2) := by decide +kernel
theorem d_TG_fairShare_7 : decode b_TG_fairShare 7 = .ok (.iconst 0, 1) := by decide +kernel
theorem d_TG_fairShare_8 : decode b_TG_fairShare 8 = .ok (.istore 6, 2) := by decide +kernel
theorem d_TG_fairShare_10 : decode b_TG_fairShare 10 = .ok (.iload 6, 2) := by decide +kernel
theorem d_TG_fairShare_12 : decode b_TG_fairShare 12 = .ok (.bipush 16, 2) := by decide +kernel
theorem d_TG_fairShare_14 : decode b_TG_fairShare 14 = .ok (.if_icmp .ge 68, 3) := by decide +kernel
theorem d_TG_fairShare_17 : decode b_TG_fairShare 17 = .ok (.iload 6, 2) := by decide +kernel
theorem d_TG_fairShare_19 : decode b_TG_fairShare 19 = .ok (.iload_n 3, 1) := by decide +kernel
theorem d_TG_fairShare_20 : decode b_TG_fairShare 20 = .ok (.iand, 1) := by decide +kernel
theorem d_TG_fairShare_21 : decode b_TG_fairShare 21 = .ok (.ifCond .ne 55, 3) := by decide +kernel
theorem d_TG_fairShare_24 : decode b_TG_fairShare 24 = .ok (.iload 6, 2) := by decide +kernel
theorem d_TG_fairShare_26 : decode b_TG_fairShare 26 = .ok (.invokestatic 139, 3) := by decide +kernel
theorem d_TG_fairShare_29 : decode b_TG_fairShare 29 = .ok (.istore 7, 2) := by decide +kernel
theorem d_TG_fairShare_31 : decode b_TG_fairShare 31 = .ok (.iload 7, 2) := by decide +kernel
theorem d_TG_fairShare_33 : decode b_TG_fairShare 33 = .ok (.ifCond .eq 9, 3) := by decide +kernel
theorem d_TG_fairShare_36 : decode b_TG_fairShare 36 = .ok (.iload 7, 2) := by decide +kernel
theorem d_TG_fairShare_38 : decode b_TG_fairShare 38 = .ok (.iconst 3, 1) := by decide +kernel
theorem d_TG_fairShare_39 : decode b_TG_fairShare 39 = .ok (.if_icmp .ne 8, 3) := by decide +kernel
theorem d_TG_fairShare_42 : decode b_TG_fairShare 42 = .ok (.bipush 6, 2) := by decide +kernel
theorem d_TG_fairShare_44 : decode b_TG_fairShare 44 = .ok (.goto 4, 3) := by decide +kernel
theorem d_TG_fairShare_47 : decode b_TG_fairShare 47 = .ok (.iconst 2, 1) := by decide +kernel
theorem d_TG_fairShare_48 : decode b_TG_fairShare 48 = .ok (.istore 8, 2) := by decide +kernel
theorem d_TG_fairShare_50 : decode b_TG_fairShare 50 = .ok (.lload 4, 2) := by decide +kernel
theorem d_TG_fairShare_52 : decode b_TG_fairShare 52 = .ok (.iload 8, 2) := by decide +kernel
theorem d_TG_fairShare_54 : decode b_TG_fairShare 54 = .ok (.i2l, 1) := by decide +kernel
theorem d_TG_fairShare_55 : decode b_TG_fairShare 55 = .ok (.aload_n 0, 1) := by decide +kernel
theorem d_TG_fairShare_56 : decode b_TG_fairShare 56 = .ok (.iload 6, 2) := by decide +kernel
theorem d_TG_fairShare_58 : decode b_TG_fairShare 58 = .ok (.iload_n 3, 1) := by decide +kernel
theorem d_TG_fairShare_59 : decode b_TG_fairShare 59 = .ok (.ior, 1) := by decide +kernel
theorem d_TG_fairShare_60 : decode b_TG_fairShare 60 = .ok (.aload_n 2, 1) := by decide +kernel
theorem d_TG_fairShare_61 : decode b_TG_fairShare 61 = .ok (.invokevirtual 145, 3) := by decide +kernel
theorem d_TG_fairShare_64 : decode b_TG_fairShare 64 = .ok (.aload_n 0, 1) := by decide +kernel
theorem d_TG_fairShare_65 : decode b_TG_fairShare 65 = .ok (.iload 6, 2) := by decide +kernel
theorem d_TG_fairShare_67 : decode b_TG_fairShare 67 = .ok (.aload_n 2, 1) := by decide +kernel
theorem d_TG_fairShare_68 : decode b_TG_fairShare 68 = .ok (.invokevirtual 145, 3) := by decide +kernel
theorem d_TG_fairShare_71 : decode b_TG_fairShare 71 = .ok (.lsub, 1) := by decide +kernel
theorem d_TG_fairShare_72 : decode b_TG_fairShare 72 = .ok (.lmul, 1) := by decide +kernel
theorem d_TG_fairShare_73 : decode b_TG_fairShare 73 = .ok (.ladd, 1) := by decide +kernel
theorem d_TG_fairShare_74 : decode b_TG_fairShare 74 = .ok (.lstore 4, 2) := by decide +kernel
theorem d_TG_fairShare_76 : decode b_TG_fairShare 76 = .ok (.iinc 6 1, 3) := by decide +kernel
theorem d_TG_fairShare_79 : decode b_TG_fairShare 79 = .ok (.goto (-69), 3) := by decide +kernel
theorem d_TG_fairShare_82 : decode b_TG_fairShare 82 = .ok (.lload 4, 2) := by decide +kernel
theorem d_TG_fairShare_84 : decode b_TG_fairShare 84 = .ok (.lreturn, 1) := by decide +kernel
theorem d_TG_tellTree_0 : decode b_TG_tellTree 0 = .ok (.aload_n 1, 1) := by decide +kernel
theorem d_TG_tellTree_1 : decode b_TG_tellTree 1 = .ok (.getfield 126, 3) := by decide +kernel
theorem d_TG_tellTree_4 : decode b_TG_tellTree 4 = .ok (.iconst 1, 1) := by decide +kernel
theorem d_TG_tellTree_5 : decode b_TG_tellTree 5 = .ok (.isub, 1) := by decide +kernel
theorem d_TG_tellTree_6 : decode b_TG_tellTree 6 = .ok (.istore 4, 2) := by decide +kernel
theorem d_TG_tellTree_8 : decode b_TG_tellTree 8 = .ok (.iload 4, 2) := by decide +kernel
theorem d_TG_tellTree_10 : decode b_TG_tellTree 10 = .ok (.ifCond .lt 95, 3) := by decide +kernel
theorem d_TG_tellTree_13 : decode b_TG_tellTree 13 = .ok (.aload_n 1, 1) := by decide +kernel
theorem d_TG_tellTree_14 : decode b_TG_tellTree 14 = .ok (.getfield 129, 3) := by decide +kernel
theorem d_TG_tellTree_17 : decode b_TG_tellTree 17 = .ok (.iconst 0, 1) := by decide +kernel
theorem d_TG_tellTree_18 : decode b_TG_tellTree 18 = .ok (.aaload, 1) := by decide +kernel
theorem d_TG_tellTree_19 : decode b_TG_tellTree 19 = .ok (.iload 4, 2) := by decide +kernel
theorem d_TG_tellTree_21 : decode b_TG_tellTree 21 = .ok (.iaload, 1) := by decide +kernel
theorem d_TG_tellTree_22 : decode b_TG_tellTree 22 = .ok (.istore 5, 2) := by decide +kernel
theorem d_TG_tellTree_24 : decode b_TG_tellTree 24 = .ok (.iload 5, 2) := by decide +kernel
theorem d_TG_tellTree_26 : decode b_TG_tellTree 26 = .ok (.iconst (-1), 1) := by decide +kernel
theorem d_TG_tellTree_27 : decode b_TG_tellTree 27 = .ok (.if_icmp .ne 26, 3) := by decide +kernel
theorem d_TG_tellTree_30 : decode b_TG_tellTree 30 = .ok (.aload_n 0, 1) := by decide +kernel
theorem d_TG_tellTree_31 : decode b_TG_tellTree 31 = .ok (.getfield 46, 3) := by decide +kernel
theorem d_TG_tellTree_34 : decode b_TG_tellTree 34 = .ok (.iload 4, 2) := by decide +kernel
theorem d_TG_tellTree_36 : decode b_TG_tellTree 36 = .ok (.aload_n 0, 1) := by decide +kernel
theorem d_TG_tellTree_37 : decode b_TG_tellTree 37 = .ok (.aload_n 1, 1) := by decide +kernel
theorem d_TG_tellTree_38 : decode b_TG_tellTree 38 = .ok (.getfield 132, 3) := by decide +kernel
theorem d_TG_tellTree_41 : decode b_TG_tellTree 41 = .ok (.iconst 1, 1) := by decide +kernel
theorem d_TG_tellTree_42 : decode b_TG_tellTree 42 = .ok (.aaload, 1) := by decide +kernel
theorem d_TG_tellTree_43 : decode b_TG_tellTree 43 = .ok (.iload 4, 2) := by decide +kernel
theorem d_TG_tellTree_45 : decode b_TG_tellTree 45 = .ok (.laload, 1) := by decide +kernel
theorem d_TG_tellTree_46 : decode b_TG_tellTree 46 = .ok (.invokevirtual 149, 3) := by decide +kernel
theorem d_TG_tellTree_49 : decode b_TG_tellTree 49 = .ok (.lastore, 1) := by decide +kernel
theorem d_TG_tellTree_50 : decode b_TG_tellTree 50 = .ok (.goto 49, 3) := by decide +kernel
theorem d_TG_tellTree_53 : decode b_TG_tellTree 53 = .ok (.iload_n 2, 1) := by decide +kernel
theorem d_TG_tellTree_54 : decode b_TG_tellTree 54 = .ok (.iload 5, 2) := by decide +kernel
theorem d_TG_tellTree_56 : decode b_TG_tellTree 56 = .ok (.ishr, 1) := by decide +kernel
theorem d_TG_tellTree_57 : decode b_TG_tellTree 57 = .ok (.iconst 1, 1) := by decide +kernel
theorem d_TG_tellTree_58 : decode b_TG_tellTree 58 = .ok (.iand, 1) := by decide +kernel
theorem d_TG_tellTree_59 : decode b_TG_tellTree 59 = .ok (.iconst 1, 1) := by decide +kernel
theorem d_TG_tellTree_60 : decode b_TG_tellTree 60 = .ok (.if_icmp .ne 25, 3) := by decide +kernel
theorem d_TG_tellTree_63 : decode b_TG_tellTree 63 = .ok (.aload_n 0, 1) := by decide +kernel
theorem d_TG_tellTree_64 : decode b_TG_tellTree 64 = .ok (.getfield 46, 3) := by decide +kernel
theorem d_TG_tellTree_67 : decode b_TG_tellTree 67 = .ok (.iload 4, 2) := by decide +kernel
theorem d_TG_tellTree_69 : decode b_TG_tellTree 69 = .ok (.aload_n 0, 1) := by decide +kernel
theorem d_TG_tellTree_70 : decode b_TG_tellTree 70 = .ok (.getfield 46, 3) := by decide +kernel
theorem d_TG_tellTree_73 : decode b_TG_tellTree 73 = .ok (.aload_n 1, 1) := by decide +kernel
theorem d_TG_tellTree_74 : decode b_TG_tellTree 74 = .ok (.iload 4, 2) := by decide +kernel
theorem d_TG_tellTree_76 : decode b_TG_tellTree 76 = .ok (.aload_n 3, 1) := by decide +kernel
theorem d_TG_tellTree_77 : decode b_TG_tellTree 77 = .ok (.invokevirtual 153, 3) := by decide +kernel
theorem d_TG_tellTree_80 : decode b_TG_tellTree 80 = .ok (.laload, 1) := by decide +kernel
theorem d_TG_tellTree_81 : decode b_TG_tellTree 81 = .ok (.lastore, 1) := by decide +kernel
theorem d_TG_tellTree_82 : decode b_TG_tellTree 82 = .ok (.goto 17, 3) := by decide +kernel
theorem d_TG_tellTree_85 : decode b_TG_tellTree 85 = .ok (.aload_n 0, 1) := by decide +kernel
theorem d_TG_tellTree_86 : decode b_TG_tellTree 86 = .ok (.getfield 46, 3) := by decide +kernel
theorem d_TG_tellTree_89 : decode b_TG_tellTree 89 = .ok (.iload 4, 2) := by decide +kernel
theorem d_TG_tellTree_91 : decode b_TG_tellTree 91 = .ok (.aload_n 0, 1) := by decide +kernel
theorem d_TG_tellTree_92 : decode b_TG_tellTree 92 = .ok (.aload_n 1, 1) := by decide +kernel
theorem d_TG_tellTree_93 : decode b_TG_tellTree 93 = .ok (.iload 4, 2) := by decide +kernel
theorem d_TG_tellTree_95 : decode b_TG_tellTree 95 = .ok (.invokevirtual 157, 3) := by decide +kernel
theorem d_TG_tellTree_98 : decode b_TG_tellTree 98 = .ok (.lastore, 1) := by decide +kernel
theorem d_TG_tellTree_99 : decode b_TG_tellTree 99 = .ok (.iinc 4 (-1), 3) := by decide +kernel
theorem d_TG_tellTree_102 : decode b_TG_tellTree 102 = .ok (.goto (-94), 3) := by decide +kernel
theorem d_TG_tellTree_105 : decode b_TG_tellTree 105 = .ok (.aload_n 0, 1) := by decide +kernel
theorem d_TG_tellTree_106 : decode b_TG_tellTree 106 = .ok (.getfield 46, 3) := by decide +kernel
theorem d_TG_tellTree_109 : decode b_TG_tellTree 109 = .ok (.iconst 0, 1) := by decide +kernel
theorem d_TG_tellTree_110 : decode b_TG_tellTree 110 = .ok (.laload, 1) := by decide +kernel
theorem d_TG_tellTree_111 : decode b_TG_tellTree 111 = .ok (.lreturn, 1) := by decide +kernel
theorem d_TG_tellBoth_0 : decode b_TG_tellBoth 0 = .ok (.aload_n 1, 1) := by decide +kernel
theorem d_TG_tellBoth_1 : decode b_TG_tellBoth 1 = .ok (.getfield 129, 3) := by decide +kernel
theorem d_TG_tellBoth_4 : decode b_TG_tellBoth 4 = .ok (.iconst 4, 1) := by decide +kernel
theorem d_TG_tellBoth_5 : decode b_TG_tellBoth 5 = .ok (.aaload, 1) := by decide +kernel
theorem d_TG_tellBoth_6 : decode b_TG_tellBoth 6 = .ok (.astore_n 3, 1) := by decide +kernel
theorem d_TG_tellBoth_7 : decode b_TG_tellBoth 7 = .ok (.aload_n 1, 1) := by decide +kernel
theorem d_TG_tellBoth_8 : decode b_TG_tellBoth 8 = .ok (.getfield 129, 3) := by decide +kernel
theorem d_TG_tellBoth_11 : decode b_TG_tellBoth 11 = .ok (.iconst 3, 1) := by decide +kernel
theorem d_TG_tellBoth_12 : decode b_TG_tellBoth 12 = .ok (.aaload, 1) := by decide +kernel
theorem d_TG_tellBoth_13 : decode b_TG_tellBoth 13 = .ok (.iload_n 2, 1) := by decide +kernel
theorem d_TG_tellBoth_14 : decode b_TG_tellBoth 14 = .ok (.iaload, 1) := by decide +kernel
theorem d_TG_tellBoth_15 : decode b_TG_tellBoth 15 = .ok (.istore 4, 2) := by decide +kernel
theorem d_TG_tellBoth_17 : decode b_TG_tellBoth 17 = .ok (.aload_n 0, 1) := by decide +kernel
theorem d_TG_tellBoth_18 : decode b_TG_tellBoth 18 = .ok (.getfield 46, 3) := by decide +kernel
theorem d_TG_tellBoth_21 : decode b_TG_tellBoth 21 = .ok (.iload 4, 2) := by decide +kernel
theorem d_TG_tellBoth_23 : decode b_TG_tellBoth 23 = .ok (.laload, 1) := by decide +kernel
theorem d_TG_tellBoth_24 : decode b_TG_tellBoth 24 = .ok (.aload_n 3, 1) := by decide +kernel
theorem d_TG_tellBoth_25 : decode b_TG_tellBoth 25 = .ok (.iload 4, 2) := by decide +kernel
theorem d_TG_tellBoth_27 : decode b_TG_tellBoth 27 = .ok (.iaload, 1) := by decide +kernel
theorem d_TG_tellBoth_28 : decode b_TG_tellBoth 28 = .ok (.i2l, 1) := by decide +kernel
theorem d_TG_tellBoth_29 : decode b_TG_tellBoth 29 = .ok (.lmul, 1) := by decide +kernel
theorem d_TG_tellBoth_30 : decode b_TG_tellBoth 30 = .ok (.aload_n 0, 1) := by decide +kernel
theorem d_TG_tellBoth_31 : decode b_TG_tellBoth 31 = .ok (.getfield 46, 3) := by decide +kernel
theorem d_TG_tellBoth_34 : decode b_TG_tellBoth 34 = .ok (.iload 4, 2) := by decide +kernel
theorem d_TG_tellBoth_36 : decode b_TG_tellBoth 36 = .ok (.iconst 1, 1) := by decide +kernel
theorem d_TG_tellBoth_37 : decode b_TG_tellBoth 37 = .ok (.iadd, 1) := by decide +kernel
theorem d_TG_tellBoth_38 : decode b_TG_tellBoth 38 = .ok (.laload, 1) := by decide +kernel
theorem d_TG_tellBoth_39 : decode b_TG_tellBoth 39 = .ok (.aload_n 3, 1) := by decide +kernel
theorem d_TG_tellBoth_40 : decode b_TG_tellBoth 40 = .ok (.iload 4, 2) := by decide +kernel
theorem d_TG_tellBoth_42 : decode b_TG_tellBoth 42 = .ok (.iconst 1, 1) := by decide +kernel
theorem d_TG_tellBoth_43 : decode b_TG_tellBoth 43 = .ok (.iadd, 1) := by decide +kernel
theorem d_TG_tellBoth_44 : decode b_TG_tellBoth 44 = .ok (.iaload, 1) := by decide +kernel
theorem d_TG_tellBoth_45 : decode b_TG_tellBoth 45 = .ok (.i2l, 1) := by decide +kernel
theorem d_TG_tellBoth_46 : decode b_TG_tellBoth 46 = .ok (.lmul, 1) := by decide +kernel
theorem d_TG_tellBoth_47 : decode b_TG_tellBoth 47 = .ok (.ladd, 1) := by decide +kernel
theorem d_TG_tellBoth_48 : decode b_TG_tellBoth 48 = .ok (.lstore 5, 2) := by decide +kernel
theorem d_TG_tellBoth_50 : decode b_TG_tellBoth 50 = .ok (.aload_n 3, 1) := by decide +kernel
theorem d_TG_tellBoth_51 : decode b_TG_tellBoth 51 = .ok (.iload_n 2, 1) := by decide +kernel
theorem d_TG_tellBoth_52 : decode b_TG_tellBoth 52 = .ok (.iaload, 1) := by decide +kernel
theorem d_TG_tellBoth_53 : decode b_TG_tellBoth 53 = .ok (.i2l, 1) := by decide +kernel
theorem d_TG_tellBoth_54 : decode b_TG_tellBoth 54 = .ok (.lstore 7, 2) := by decide +kernel
theorem d_TG_tellBoth_56 : decode b_TG_tellBoth 56 = .ok (.lload 7, 2) := by decide +kernel
theorem d_TG_tellBoth_58 : decode b_TG_tellBoth 58 = .ok (.lconst 0, 1) := by decide +kernel
theorem d_TG_tellBoth_59 : decode b_TG_tellBoth 59 = .ok (.lcmp, 1) := by decide +kernel
theorem d_TG_tellBoth_60 : decode b_TG_tellBoth 60 = .ok (.ifCond .ne 7, 3) := by decide +kernel
theorem d_TG_tellBoth_63 : decode b_TG_tellBoth 63 = .ok (.lconst 0, 1) := by decide +kernel
theorem d_TG_tellBoth_64 : decode b_TG_tellBoth 64 = .ok (.goto 10, 3) := by decide +kernel
theorem d_TG_tellBoth_67 : decode b_TG_tellBoth 67 = .ok (.lload 5, 2) := by decide +kernel
theorem d_TG_tellBoth_69 : decode b_TG_tellBoth 69 = .ok (.lload 7, 2) := by decide +kernel
theorem d_TG_tellBoth_71 : decode b_TG_tellBoth 71 = .ok (.invokestatic 161, 3) := by decide +kernel
theorem d_TG_tellBoth_74 : decode b_TG_tellBoth 74 = .ok (.lreturn, 1) := by decide +kernel
theorem d_TG_addOf_0 : decode b_TG_addOf 0 = .ok (.aload_n 0, 1) := by decide +kernel
theorem d_TG_addOf_1 : decode b_TG_addOf 1 = .ok (.aload_n 1, 1) := by decide +kernel
theorem d_TG_addOf_2 : decode b_TG_addOf 2 = .ok (.getfield 132, 3) := by decide +kernel
theorem d_TG_addOf_5 : decode b_TG_addOf 5 = .ok (.iconst 1, 1) := by decide +kernel
theorem d_TG_addOf_6 : decode b_TG_addOf 6 = .ok (.aaload, 1) := by decide +kernel
theorem d_TG_addOf_7 : decode b_TG_addOf 7 = .ok (.aload_n 1, 1) := by decide +kernel
theorem d_TG_addOf_8 : decode b_TG_addOf 8 = .ok (.aload_n 2, 1) := by decide +kernel
theorem d_TG_addOf_9 : decode b_TG_addOf 9 = .ok (.invokevirtual 164, 3) := by decide +kernel
theorem d_TG_addOf_12 : decode b_TG_addOf 12 = .ok (.laload, 1) := by decide +kernel
theorem d_TG_addOf_13 : decode b_TG_addOf 13 = .ok (.invokevirtual 149, 3) := by decide +kernel
theorem d_TG_addOf_16 : decode b_TG_addOf 16 = .ok (.lreturn, 1) := by decide +kernel
theorem d_TG_shrunk_0 : decode b_TG_shrunk 0 = .ok (.lload_n 1, 1) := by decide +kernel
theorem d_TG_shrunk_1 : decode b_TG_shrunk 1 = .ok (.aload_n 0, 1) := by decide +kernel
theorem d_TG_shrunk_2 : decode b_TG_shrunk 2 = .ok (.getfield 27, 3) := by decide +kernel
theorem d_TG_shrunk_5 : decode b_TG_shrunk 5 = .ok (.iconst 3, 1) := by decide +kernel
theorem d_TG_shrunk_6 : decode b_TG_shrunk 6 = .ok (.iaload, 1) := by decide +kernel
theorem d_TG_shrunk_7 : decode b_TG_shrunk 7 = .ok (.i2l, 1) := by decide +kernel
theorem d_TG_shrunk_8 : decode b_TG_shrunk 8 = .ok (.lmul, 1) := by decide +kernel
theorem d_TG_shrunk_9 : decode b_TG_shrunk 9 = .ok (.ldc2_w 168, 3) := by decide +kernel
theorem d_TG_shrunk_12 : decode b_TG_shrunk 12 = .ok (.ldiv, 1) := by decide +kernel
theorem d_TG_shrunk_13 : decode b_TG_shrunk 13 = .ok (.lreturn, 1) := by decide +kernel
theorem d_TG_baseUnits_0 : decode b_TG_baseUnits 0 = .ok (.ldc2_w 168, 3) := by decide +kernel
theorem d_TG_baseUnits_3 : decode b_TG_baseUnits 3 = .ok (.aload_n 0, 1) := by decide +kernel
theorem d_TG_baseUnits_4 : decode b_TG_baseUnits 4 = .ok (.getfield 27, 3) := by decide +kernel
theorem d_TG_baseUnits_7 : decode b_TG_baseUnits 7 = .ok (.bipush 9, 2) := by decide +kernel
theorem d_TG_baseUnits_9 : decode b_TG_baseUnits 9 = .ok (.iaload, 1) := by decide +kernel
theorem d_TG_baseUnits_10 : decode b_TG_baseUnits 10 = .ok (.i2l, 1) := by decide +kernel
theorem d_TG_baseUnits_11 : decode b_TG_baseUnits 11 = .ok (.lmul, 1) := by decide +kernel
theorem d_TG_baseUnits_12 : decode b_TG_baseUnits 12 = .ok (.lreturn, 1) := by decide +kernel
theorem d_TR_init_0 : decode b_TR_init 0 = .ok (.aload_n 0, 1) := by decide +kernel
theorem d_TR_init_1 : decode b_TR_init 1 = .ok (.invokespecial 3, 3) := by decide +kernel
theorem d_TR_init_4 : decode b_TR_init 4 = .ok (.aload_n 0, 1) := by decide +kernel
theorem d_TR_init_5 : decode b_TR_init 5 = .ok (.bipush 7, 2) := by decide +kernel
theorem d_TR_init_7 : decode b_TR_init 7 = .ok (.bipush 31, 2) := by decide +kernel
theorem d_TR_init_9 : decode b_TR_init 9 = .ok (.multianewarray 9 2, 4) := by decide +kernel
theorem d_TR_init_13 : decode b_TR_init 13 = .ok (.putfield 11, 3) := by decide +kernel
theorem d_TR_init_16 : decode b_TR_init 16 = .ok (.aload_n 0, 1) := by decide +kernel
theorem d_TR_init_17 : decode b_TR_init 17 = .ok (.iconst 3, 1) := by decide +kernel
theorem d_TR_init_18 : decode b_TR_init 18 = .ok (.bipush 31, 2) := by decide +kernel
theorem d_TR_init_20 : decode b_TR_init 20 = .ok (.multianewarray 16 2, 4) := by decide +kernel
theorem d_TR_init_24 : decode b_TR_init 24 = .ok (.putfield 18, 3) := by decide +kernel
theorem d_TR_init_27 : decode b_TR_init 27 = .ok (.return_, 1) := by decide +kernel
theorem d_TR_appendNode_0 : decode b_TR_appendNode 0 = .ok (.aload_n 0, 1) := by decide +kernel
theorem d_TR_appendNode_1 : decode b_TR_appendNode 1 = .ok (.getfield 21, 3) := by decide +kernel
theorem d_TR_appendNode_4 : decode b_TR_appendNode 4 = .ok (.istore_n 2, 1) := by decide +kernel
theorem d_TR_appendNode_5 : decode b_TR_appendNode 5 = .ok (.aload_n 0, 1) := by decide +kernel
theorem d_TR_appendNode_6 : decode b_TR_appendNode 6 = .ok (.getfield 11, 3) := by decide +kernel
theorem d_TR_appendNode_9 : decode b_TR_appendNode 9 = .ok (.iconst 0, 1) := by decide +kernel
theorem d_TR_appendNode_10 : decode b_TR_appendNode 10 = .ok (.aaload, 1) := by decide +kernel
theorem d_TR_appendNode_11 : decode b_TR_appendNode 11 = .ok (.iload_n 2, 1) := by decide +kernel
theorem d_TR_appendNode_12 : decode b_TR_appendNode 12 = .ok (.iconst (-1), 1) := by decide +kernel
theorem d_TR_appendNode_13 : decode b_TR_appendNode 13 = .ok (.iastore, 1) := by decide +kernel
theorem d_TR_appendNode_14 : decode b_TR_appendNode 14 = .ok (.aload_n 0, 1) := by decide +kernel
theorem d_TR_appendNode_15 : decode b_TR_appendNode 15 = .ok (.getfield 11, 3) := by decide +kernel
theorem d_TR_appendNode_18 : decode b_TR_appendNode 18 = .ok (.iconst 1, 1) := by decide +kernel
theorem d_TR_appendNode_19 : decode b_TR_appendNode 19 = .ok (.aaload, 1) := by decide +kernel
theorem d_TR_appendNode_20 : decode b_TR_appendNode 20 = .ok (.iload_n 2, 1) := by decide +kernel
theorem d_TR_appendNode_21 : decode b_TR_appendNode 21 = .ok (.iconst (-1), 1) := by decide +kernel
theorem d_TR_appendNode_22 : decode b_TR_appendNode 22 = .ok (.iastore, 1) := by decide +kernel
theorem d_TR_appendNode_23 : decode b_TR_appendNode 23 = .ok (.aload_n 0, 1) := by decide +kernel
theorem d_TR_appendNode_24 : decode b_TR_appendNode 24 = .ok (.getfield 11, 3) := by decide +kernel
theorem d_TR_appendNode_27 : decode b_TR_appendNode 27 = .ok (.iconst 2, 1) := by decide +kernel
theorem d_TR_appendNode_28 : decode b_TR_appendNode 28 = .ok (.aaload, 1) := by decide +kernel
theorem d_TR_appendNode_29 : decode b_TR_appendNode 29 = .ok (.iload_n 2, 1) := by decide +kernel
theorem d_TR_appendNode_30 : decode b_TR_appendNode 30 = .ok (.iconst (-1), 1) := by decide +kernel
theorem d_TR_appendNode_31 : decode b_TR_appendNode 31 = .ok (.iastore, 1) := by decide +kernel
theorem d_TR_appendNode_32 : decode b_TR_appendNode 32 = .ok (.aload_n 0, 1) := by decide +kernel
theorem d_TR_appendNode_33 : decode b_TR_appendNode 33 = .ok (.getfield 11, 3) := by decide +kernel
theorem d_TR_appendNode_36 : decode b_TR_appendNode 36 = .ok (.iconst 3, 1) := by decide +kernel
theorem d_TR_appendNode_37 : decode b_TR_appendNode 37 = .ok (.aaload, 1) := by decide +kernel
theorem d_TR_appendNode_38 : decode b_TR_appendNode 38 = .ok (.iload_n 2, 1) := by decide +kernel
theorem d_TR_appendNode_39 : decode b_TR_appendNode 39 = .ok (.iconst (-1), 1) := by decide +kernel
theorem d_TR_appendNode_40 : decode b_TR_appendNode 40 = .ok (.iastore, 1) := by decide +kernel
theorem d_TR_appendNode_41 : decode b_TR_appendNode 41 = .ok (.aload_n 0, 1) := by decide +kernel
theorem d_TR_appendNode_42 : decode b_TR_appendNode 42 = .ok (.getfield 11, 3) := by decide +kernel
theorem d_TR_appendNode_45 : decode b_TR_appendNode 45 = .ok (.bipush 6, 2) := by decide +kernel
theorem d_TR_appendNode_47 : decode b_TR_appendNode 47 = .ok (.aaload, 1) := by decide +kernel
theorem d_TR_appendNode_48 : decode b_TR_appendNode 48 = .ok (.iload_n 2, 1) := by decide +kernel
theorem d_TR_appendNode_49 : decode b_TR_appendNode 49 = .ok (.iload_n 1, 1) := by decide +kernel
theorem d_TR_appendNode_50 : decode b_TR_appendNode 50 = .ok (.iastore, 1) := by decide +kernel
theorem d_TR_appendNode_51 : decode b_TR_appendNode 51 = .ok (.aload_n 0, 1) := by decide +kernel
theorem d_TR_appendNode_52 : decode b_TR_appendNode 52 = .ok (.getfield 18, 3) := by decide +kernel
theorem d_TR_appendNode_55 : decode b_TR_appendNode 55 = .ok (.iconst 2, 1) := by decide +kernel
theorem d_TR_appendNode_56 : decode b_TR_appendNode 56 = .ok (.aaload, 1) := by decide +kernel
theorem d_TR_appendNode_57 : decode b_TR_appendNode 57 = .ok (.iload_n 2, 1) := by decide +kernel
theorem d_TR_appendNode_58 : decode b_TR_appendNode 58 = .ok (.lconst 0, 1) := by decide +kernel
theorem d_TR_appendNode_59 : decode b_TR_appendNode 59 = .ok (.lastore, 1) := by decide +kernel
theorem d_TR_appendNode_60 : decode b_TR_appendNode 60 = .ok (.aload_n 0, 1) := by decide +kernel
theorem d_TR_appendNode_61 : decode b_TR_appendNode 61 = .ok (.iload_n 2, 1) := by decide +kernel
theorem d_TR_appendNode_62 : decode b_TR_appendNode 62 = .ok (.iconst 1, 1) := by decide +kernel
theorem d_TR_appendNode_63 : decode b_TR_appendNode 63 = .ok (.iadd, 1) := by decide +kernel
theorem d_TR_appendNode_64 : decode b_TR_appendNode 64 = .ok (.putfield 21, 3) := by decide +kernel
theorem d_TR_appendNode_67 : decode b_TR_appendNode 67 = .ok (.return_, 1) := by decide +kernel
theorem d_TR_keepSums_0 : decode b_TR_keepSums 0 = .ok (.aload_n 0, 1) := by decide +kernel
theorem d_TR_keepSums_1 : decode b_TR_keepSums 1 = .ok (.getfield 11, 3) := by decide +kernel
theorem d_TR_keepSums_4 : decode b_TR_keepSums 4 = .ok (.iconst 4, 1) := by decide +kernel
theorem d_TR_keepSums_5 : decode b_TR_keepSums 5 = .ok (.aaload, 1) := by decide +kernel
theorem d_TR_keepSums_6 : decode b_TR_keepSums 6 = .ok (.iload_n 1, 1) := by decide +kernel
theorem d_TR_keepSums_7 : decode b_TR_keepSums 7 = .ok (.aload_n 2, 1) := by decide +kernel
theorem d_TR_keepSums_8 : decode b_TR_keepSums 8 = .ok (.getfield 25, 3) := by decide +kernel
theorem d_TR_keepSums_11 : decode b_TR_keepSums 11 = .ok (.iastore, 1) := by decide +kernel
theorem d_TR_keepSums_12 : decode b_TR_keepSums 12 = .ok (.aload_n 0, 1) := by decide +kernel
theorem d_TR_keepSums_13 : decode b_TR_keepSums 13 = .ok (.getfield 11, 3) := by decide +kernel
theorem d_TR_keepSums_16 : decode b_TR_keepSums 16 = .ok (.iconst 5, 1) := by decide +kernel
theorem d_TR_keepSums_17 : decode b_TR_keepSums 17 = .ok (.aaload, 1) := by decide +kernel
theorem d_TR_keepSums_18 : decode b_TR_keepSums 18 = .ok (.iload_n 1, 1) := by decide +kernel
theorem d_TR_keepSums_19 : decode b_TR_keepSums 19 = .ok (.aload_n 2, 1) := by decide +kernel
theorem d_TR_keepSums_20 : decode b_TR_keepSums 20 = .ok (.getfield 30, 3) := by decide +kernel
theorem d_TR_keepSums_23 : decode b_TR_keepSums 23 = .ok (.iastore, 1) := by decide +kernel
theorem d_TR_keepSums_24 : decode b_TR_keepSums 24 = .ok (.aload_n 0, 1) := by decide +kernel
theorem d_TR_keepSums_25 : decode b_TR_keepSums 25 = .ok (.getfield 18, 3) := by decide +kernel
theorem d_TR_keepSums_28 : decode b_TR_keepSums 28 = .ok (.iconst 0, 1) := by decide +kernel
theorem d_TR_keepSums_29 : decode b_TR_keepSums 29 = .ok (.aaload, 1) := by decide +kernel
theorem d_TR_keepSums_30 : decode b_TR_keepSums 30 = .ok (.iload_n 1, 1) := by decide +kernel
theorem d_TR_keepSums_31 : decode b_TR_keepSums 31 = .ok (.aload_n 2, 1) := by decide +kernel
theorem d_TR_keepSums_32 : decode b_TR_keepSums 32 = .ok (.getfield 33, 3) := by decide +kernel
theorem d_TR_keepSums_35 : decode b_TR_keepSums 35 = .ok (.lastore, 1) := by decide +kernel
theorem d_TR_keepSums_36 : decode b_TR_keepSums 36 = .ok (.aload_n 0, 1) := by decide +kernel
theorem d_TR_keepSums_37 : decode b_TR_keepSums 37 = .ok (.getfield 18, 3) := by decide +kernel
theorem d_TR_keepSums_40 : decode b_TR_keepSums 40 = .ok (.iconst 1, 1) := by decide +kernel
theorem d_TR_keepSums_41 : decode b_TR_keepSums 41 = .ok (.aaload, 1) := by decide +kernel
theorem d_TR_keepSums_42 : decode b_TR_keepSums 42 = .ok (.iload_n 1, 1) := by decide +kernel
theorem d_TR_keepSums_43 : decode b_TR_keepSums 43 = .ok (.aload_n 2, 1) := by decide +kernel
theorem d_TR_keepSums_44 : decode b_TR_keepSums 44 = .ok (.iload_n 3, 1) := by decide +kernel
theorem d_TR_keepSums_45 : decode b_TR_keepSums 45 = .ok (.invokevirtual 37, 3) := by decide +kernel
theorem d_TR_keepSums_48 : decode b_TR_keepSums 48 = .ok (.lastore, 1) := by decide +kernel
theorem d_TR_keepSums_49 : decode b_TR_keepSums 49 = .ok (.return_, 1) := by decide +kernel
theorem d_TR_mayDivide_0 : decode b_TR_mayDivide 0 = .ok (.aload_n 0, 1) := by decide +kernel
theorem d_TR_mayDivide_1 : decode b_TR_mayDivide 1 = .ok (.getfield 11, 3) := by decide +kernel
theorem d_TR_mayDivide_4 : decode b_TR_mayDivide 4 = .ok (.bipush 6, 2) := by decide +kernel
theorem d_TR_mayDivide_6 : decode b_TR_mayDivide 6 = .ok (.aaload, 1) := by decide +kernel
theorem d_TR_mayDivide_7 : decode b_TR_mayDivide 7 = .ok (.iload_n 1, 1) := by decide +kernel
theorem d_TR_mayDivide_8 : decode b_TR_mayDivide 8 = .ok (.iaload, 1) := by decide +kernel
theorem d_TR_mayDivide_9 : decode b_TR_mayDivide 9 = .ok (.iload_n 2, 1) := by decide +kernel
theorem d_TR_mayDivide_10 : decode b_TR_mayDivide 10 = .ok (.if_icmp .ge 18, 3) := by decide +kernel
theorem d_TR_mayDivide_13 : decode b_TR_mayDivide 13 = .ok (.aload_n 0, 1) := by decide +kernel
theorem d_TR_mayDivide_14 : decode b_TR_mayDivide 14 = .ok (.getfield 21, 3) := by decide +kernel
theorem d_TR_mayDivide_17 : decode b_TR_mayDivide 17 = .ok (.iconst 2, 1) := by decide +kernel
theorem d_TR_mayDivide_18 : decode b_TR_mayDivide 18 = .ok (.iadd, 1) := by decide +kernel
theorem d_TR_mayDivide_19 : decode b_TR_mayDivide 19 = .ok (.bipush 31, 2) := by decide +kernel
theorem d_TR_mayDivide_21 : decode b_TR_mayDivide 21 = .ok (.if_icmp .gt 7, 3) := by decide +kernel
theorem d_TR_mayDivide_24 : decode b_TR_mayDivide 24 = .ok (.iconst 1, 1) := by decide +kernel
theorem d_TR_mayDivide_25 : decode b_TR_mayDivide 25 = .ok (.goto 4, 3) := by decide +kernel
theorem d_TR_mayDivide_28 : decode b_TR_mayDivide 28 = .ok (.iconst 0, 1) := by decide +kernel
theorem d_TR_mayDivide_29 : decode b_TR_mayDivide 29 = .ok (.ireturn, 1) := by decide +kernel
theorem d_TR_divide_0 : decode b_TR_divide 0 = .ok (.aload_n 0, 1) := by decide +kernel
theorem d_TR_divide_1 : decode b_TR_divide 1 = .ok (.getfield 11, 3) := by decide +kernel
theorem d_TR_divide_4 : decode b_TR_divide 4 = .ok (.iconst 0, 1) := by decide +kernel
theorem d_TR_divide_5 : decode b_TR_divide 5 = .ok (.aaload, 1) := by decide +kernel
theorem d_TR_divide_6 : decode b_TR_divide 6 = .ok (.iload_n 1, 1) := by decide +kernel
theorem d_TR_divide_7 : decode b_TR_divide 7 = .ok (.aload_n 2, 1) := by decide +kernel
theorem d_TR_divide_8 : decode b_TR_divide 8 = .ok (.getfield 41, 3) := by decide +kernel
theorem d_TR_divide_11 : decode b_TR_divide 11 = .ok (.iastore, 1) := by decide +kernel
theorem d_TR_divide_12 : decode b_TR_divide 12 = .ok (.aload_n 0, 1) := by decide +kernel
theorem d_TR_divide_13 : decode b_TR_divide 13 = .ok (.getfield 11, 3) := by decide +kernel
theorem d_TR_divide_16 : decode b_TR_divide 16 = .ok (.iconst 1, 1) := by decide +kernel
theorem d_TR_divide_17 : decode b_TR_divide 17 = .ok (.aaload, 1) := by decide +kernel
theorem d_TR_divide_18 : decode b_TR_divide 18 = .ok (.iload_n 1, 1) := by decide +kernel
theorem d_TR_divide_19 : decode b_TR_divide 19 = .ok (.aload_n 2, 1) := by decide +kernel
theorem d_TR_divide_20 : decode b_TR_divide 20 = .ok (.getfield 46, 3) := by decide +kernel
theorem d_TR_divide_23 : decode b_TR_divide 23 = .ok (.iastore, 1) := by decide +kernel
theorem d_TR_divide_24 : decode b_TR_divide 24 = .ok (.aload_n 0, 1) := by decide +kernel
theorem d_TR_divide_25 : decode b_TR_divide 25 = .ok (.getfield 11, 3) := by decide +kernel
theorem d_TR_divide_28 : decode b_TR_divide 28 = .ok (.iconst 2, 1) := by decide +kernel
theorem d_TR_divide_29 : decode b_TR_divide 29 = .ok (.aaload, 1) := by decide +kernel
theorem d_TR_divide_30 : decode b_TR_divide 30 = .ok (.iload_n 1, 1) := by decide +kernel
theorem d_TR_divide_31 : decode b_TR_divide 31 = .ok (.aload_n 2, 1) := by decide +kernel
theorem d_TR_divide_32 : decode b_TR_divide 32 = .ok (.getfield 49, 3) := by decide +kernel
theorem d_TR_divide_35 : decode b_TR_divide 35 = .ok (.iastore, 1) := by decide +kernel
theorem d_TR_divide_36 : decode b_TR_divide 36 = .ok (.aload_n 0, 1) := by decide +kernel
theorem d_TR_divide_37 : decode b_TR_divide 37 = .ok (.getfield 11, 3) := by decide +kernel
theorem d_TR_divide_40 : decode b_TR_divide 40 = .ok (.iconst 3, 1) := by decide +kernel
theorem d_TR_divide_41 : decode b_TR_divide 41 = .ok (.aaload, 1) := by decide +kernel
theorem d_TR_divide_42 : decode b_TR_divide 42 = .ok (.iload_n 1, 1) := by decide +kernel
theorem d_TR_divide_43 : decode b_TR_divide 43 = .ok (.aload_n 0, 1) := by decide +kernel
theorem d_TR_divide_44 : decode b_TR_divide 44 = .ok (.getfield 21, 3) := by decide +kernel
theorem d_TR_divide_47 : decode b_TR_divide 47 = .ok (.iastore, 1) := by decide +kernel
theorem d_TR_divide_48 : decode b_TR_divide 48 = .ok (.aload_n 0, 1) := by decide +kernel
theorem d_TR_divide_49 : decode b_TR_divide 49 = .ok (.getfield 18, 3) := by decide +kernel
theorem d_TR_divide_52 : decode b_TR_divide 52 = .ok (.iconst 2, 1) := by decide +kernel
theorem d_TR_divide_53 : decode b_TR_divide 53 = .ok (.aaload, 1) := by decide +kernel
theorem d_TR_divide_54 : decode b_TR_divide 54 = .ok (.iload_n 1, 1) := by decide +kernel
theorem d_TR_divide_55 : decode b_TR_divide 55 = .ok (.aload_n 2, 1) := by decide +kernel
theorem d_TR_divide_56 : decode b_TR_divide 56 = .ok (.getfield 52, 3) := by decide +kernel
theorem d_TR_divide_59 : decode b_TR_divide 59 = .ok (.lastore, 1) := by decide +kernel
theorem d_TR_divide_60 : decode b_TR_divide 60 = .ok (.aload_n 0, 1) := by decide +kernel
theorem d_TR_divide_61 : decode b_TR_divide 61 = .ok (.aload_n 0, 1) := by decide +kernel
theorem d_TR_divide_62 : decode b_TR_divide 62 = .ok (.getfield 11, 3) := by decide +kernel
theorem d_TR_divide_65 : decode b_TR_divide 65 = .ok (.bipush 6, 2) := by decide +kernel
theorem d_TR_divide_67 : decode b_TR_divide 67 = .ok (.aaload, 1) := by decide +kernel
theorem d_TR_divide_68 : decode b_TR_divide 68 = .ok (.iload_n 1, 1) := by decide +kernel
theorem d_TR_divide_69 : decode b_TR_divide 69 = .ok (.iaload, 1) := by decide +kernel
theorem d_TR_divide_70 : decode b_TR_divide 70 = .ok (.iconst 1, 1) := by decide +kernel
theorem d_TR_divide_71 : decode b_TR_divide 71 = .ok (.iadd, 1) := by decide +kernel
theorem d_TR_divide_72 : decode b_TR_divide 72 = .ok (.invokevirtual 55, 3) := by decide +kernel
theorem d_TR_divide_75 : decode b_TR_divide 75 = .ok (.aload_n 0, 1) := by decide +kernel
theorem d_TR_divide_76 : decode b_TR_divide 76 = .ok (.aload_n 0, 1) := by decide +kernel
theorem d_TR_divide_77 : decode b_TR_divide 77 = .ok (.getfield 11, 3) := by decide +kernel
theorem d_TR_divide_80 : decode b_TR_divide 80 = .ok (.bipush 6, 2) := by decide +kernel
theorem d_TR_divide_82 : decode b_TR_divide 82 = .ok (.aaload, 1) := by decide +kernel
theorem d_TR_divide_83 : decode b_TR_divide 83 = .ok (.iload_n 1, 1) := by decide +kernel
theorem d_TR_divide_84 : decode b_TR_divide 84 = .ok (.iaload, 1) := by decide +kernel
theorem d_TR_divide_85 : decode b_TR_divide 85 = .ok (.iconst 1, 1) := by decide +kernel
theorem d_TR_divide_86 : decode b_TR_divide 86 = .ok (.iadd, 1) := by decide +kernel
theorem d_TR_divide_87 : decode b_TR_divide 87 = .ok (.invokevirtual 55, 3) := by decide +kernel
theorem d_TR_divide_90 : decode b_TR_divide 90 = .ok (.return_, 1) := by decide +kernel
theorem d_TR_stepFrom_0 : decode b_TR_stepFrom 0 = .ok (.aload_n 0, 1) := by decide +kernel
theorem d_TR_stepFrom_1 : decode b_TR_stepFrom 1 = .ok (.getfield 11, 3) := by decide +kernel
theorem d_TR_stepFrom_4 : decode b_TR_stepFrom 4 = .ok (.iconst 0, 1) := by decide +kernel
theorem d_TR_stepFrom_5 : decode b_TR_stepFrom 5 = .ok (.aaload, 1) := by decide +kernel
theorem d_TR_stepFrom_6 : decode b_TR_stepFrom 6 = .ok (.iload_n 1, 1) := by decide +kernel
theorem d_TR_stepFrom_7 : decode b_TR_stepFrom 7 = .ok (.iaload, 1) := by decide +kernel
theorem d_TR_stepFrom_8 : decode b_TR_stepFrom 8 = .ok (.istore_n 3, 1) := by decide +kernel
theorem d_TR_stepFrom_9 : decode b_TR_stepFrom 9 = .ok (.iload_n 3, 1) := by decide +kernel
theorem d_TR_stepFrom_10 : decode b_TR_stepFrom 10 = .ok (.iconst (-1), 1) := by decide +kernel
theorem d_TR_stepFrom_11 : decode b_TR_stepFrom 11 = .ok (.if_icmp .ne 5, 3) := by decide +kernel
theorem d_TR_stepFrom_14 : decode b_TR_stepFrom 14 = .ok (.iload_n 1, 1) := by decide +kernel
theorem d_TR_stepFrom_15 : decode b_TR_stepFrom 15 = .ok (.ireturn, 1) := by decide +kernel
theorem d_TR_stepFrom_16 : decode b_TR_stepFrom 16 = .ok (.aload_n 2, 1) := by decide +kernel
theorem d_TR_stepFrom_17 : decode b_TR_stepFrom 17 = .ok (.iload_n 3, 1) := by decide +kernel
theorem d_TR_stepFrom_18 : decode b_TR_stepFrom 18 = .ok (.iaload, 1) := by decide +kernel
theorem d_TR_stepFrom_19 : decode b_TR_stepFrom 19 = .ok (.istore 4, 2) := by decide +kernel
theorem d_TR_stepFrom_21 : decode b_TR_stepFrom 21 = .ok (.iload 4, 2) := by decide +kernel
theorem d_TR_stepFrom_23 : decode b_TR_stepFrom 23 = .ok (.iconst (-1), 1) := by decide +kernel
theorem d_TR_stepFrom_24 : decode b_TR_stepFrom 24 = .ok (.if_icmp .ne 23, 3) := by decide +kernel
theorem d_TR_stepFrom_27 : decode b_TR_stepFrom 27 = .ok (.aload_n 0, 1) := by decide +kernel
theorem d_TR_stepFrom_28 : decode b_TR_stepFrom 28 = .ok (.getfield 11, 3) := by decide +kernel
theorem d_TR_stepFrom_31 : decode b_TR_stepFrom 31 = .ok (.iconst 2, 1) := by decide +kernel
theorem d_TR_stepFrom_32 : decode b_TR_stepFrom 32 = .ok (.aaload, 1) := by decide +kernel
theorem d_TR_stepFrom_33 : decode b_TR_stepFrom 33 = .ok (.iload_n 1, 1) := by decide +kernel
theorem d_TR_stepFrom_34 : decode b_TR_stepFrom 34 = .ok (.iaload, 1) := by decide +kernel
theorem d_TR_stepFrom_35 : decode b_TR_stepFrom 35 = .ok (.iconst 1, 1) := by decide +kernel
theorem d_TR_stepFrom_36 : decode b_TR_stepFrom 36 = .ok (.if_icmp .ne 7, 3) := by decide +kernel
theorem d_TR_stepFrom_39 : decode b_TR_stepFrom 39 = .ok (.iconst 1, 1) := by decide +kernel
theorem d_TR_stepFrom_40 : decode b_TR_stepFrom 40 = .ok (.goto 25, 3) := by decide +kernel
theorem d_TR_stepFrom_43 : decode b_TR_stepFrom 43 = .ok (.iconst 0, 1) := by decide +kernel
theorem d_TR_stepFrom_44 : decode b_TR_stepFrom 44 = .ok (.goto 21, 3) := by decide +kernel
theorem d_TR_stepFrom_47 : decode b_TR_stepFrom 47 = .ok (.iload 4, 2) := by decide +kernel
theorem d_TR_stepFrom_49 : decode b_TR_stepFrom 49 = .ok (.aload_n 0, 1) := by decide +kernel
theorem d_TR_stepFrom_50 : decode b_TR_stepFrom 50 = .ok (.getfield 11, 3) := by decide +kernel
theorem d_TR_stepFrom_53 : decode b_TR_stepFrom 53 = .ok (.iconst 1, 1) := by decide +kernel
theorem d_TR_stepFrom_54 : decode b_TR_stepFrom 54 = .ok (.aaload, 1) := by decide +kernel
theorem d_TR_stepFrom_55 : decode b_TR_stepFrom 55 = .ok (.iload_n 1, 1) := by decide +kernel
theorem d_TR_stepFrom_56 : decode b_TR_stepFrom 56 = .ok (.iaload, 1) := by decide +kernel
theorem d_TR_stepFrom_57 : decode b_TR_stepFrom 57 = .ok (.if_icmp .le 7, 3) := by decide +kernel
theorem d_TR_stepFrom_60 : decode b_TR_stepFrom 60 = .ok (.iconst 1, 1) := by decide +kernel
theorem d_TR_stepFrom_61 : decode b_TR_stepFrom 61 = .ok (.goto 4, 3) := by decide +kernel
theorem d_TR_stepFrom_64 : decode b_TR_stepFrom 64 = .ok (.iconst 0, 1) := by decide +kernel
theorem d_TR_stepFrom_65 : decode b_TR_stepFrom 65 = .ok (.istore 5, 2) := by decide +kernel
theorem d_TR_stepFrom_67 : decode b_TR_stepFrom 67 = .ok (.aload_n 0, 1) := by decide +kernel
theorem d_TR_stepFrom_68 : decode b_TR_stepFrom 68 = .ok (.getfield 11, 3) := by decide +kernel
theorem d_TR_stepFrom_71 : decode b_TR_stepFrom 71 = .ok (.iconst 3, 1) := by decide +kernel
theorem d_TR_stepFrom_72 : decode b_TR_stepFrom 72 = .ok (.aaload, 1) := by decide +kernel
theorem d_TR_stepFrom_73 : decode b_TR_stepFrom 73 = .ok (.iload_n 1, 1) := by decide +kernel
theorem d_TR_stepFrom_74 : decode b_TR_stepFrom 74 = .ok (.iaload, 1) := by decide +kernel
theorem d_TR_stepFrom_75 : decode b_TR_stepFrom 75 = .ok (.iload 5, 2) := by decide +kernel
theorem d_TR_stepFrom_77 : decode b_TR_stepFrom 77 = .ok (.ifCond .eq 7, 3) := by decide +kernel
theorem d_TR_stepFrom_80 : decode b_TR_stepFrom 80 = .ok (.iconst 1, 1) := by decide +kernel
theorem d_TR_stepFrom_81 : decode b_TR_stepFrom 81 = .ok (.goto 4, 3) := by decide +kernel
theorem d_TR_stepFrom_84 : decode b_TR_stepFrom 84 = .ok (.iconst 0, 1) := by decide +kernel
theorem d_TR_stepFrom_85 : decode b_TR_stepFrom 85 = .ok (.iadd, 1) := by decide +kernel
theorem d_TR_stepFrom_86 : decode b_TR_stepFrom 86 = .ok (.ireturn, 1) := by decide +kernel
theorem d_TR_leafOf_0 : decode b_TR_leafOf 0 = .ok (.iconst 0, 1) := by decide +kernel
theorem d_TR_leafOf_1 : decode b_TR_leafOf 1 = .ok (.istore_n 2, 1) := by decide +kernel
theorem d_TR_leafOf_2 : decode b_TR_leafOf 2 = .ok (.iconst 0, 1) := by decide +kernel
theorem d_TR_leafOf_3 : decode b_TR_leafOf 3 = .ok (.istore_n 3, 1) := by decide +kernel
theorem d_TR_leafOf_4 : decode b_TR_leafOf 4 = .ok (.iload_n 3, 1) := by decide +kernel
theorem d_TR_leafOf_5 : decode b_TR_leafOf 5 = .ok (.iconst 4, 1) := by decide +kernel
theorem d_TR_leafOf_6 : decode b_TR_leafOf 6 = .ok (.if_icmp .ge 16, 3) := by decide +kernel
theorem d_TR_leafOf_9 : decode b_TR_leafOf 9 = .ok (.aload_n 0, 1) := by decide +kernel
theorem d_TR_leafOf_10 : decode b_TR_leafOf 10 = .ok (.iload_n 2, 1) := by decide +kernel
theorem d_TR_leafOf_11 : decode b_TR_leafOf 11 = .ok (.aload_n 1, 1) := by decide +kernel
theorem d_TR_leafOf_12 : decode b_TR_leafOf 12 = .ok (.invokevirtual 59, 3) := by decide +kernel
theorem d_TR_leafOf_15 : decode b_TR_leafOf 15 = .ok (.istore_n 2, 1) := by decide +kernel
theorem d_TR_leafOf_16 : decode b_TR_leafOf 16 = .ok (.iinc 3 1, 3) := by decide +kernel
theorem d_TR_leafOf_19 : decode b_TR_leafOf 19 = .ok (.goto (-15), 3) := by decide +kernel
theorem d_TR_leafOf_22 : decode b_TR_leafOf 22 = .ok (.iload_n 2, 1) := by decide +kernel
theorem d_TR_leafOf_23 : decode b_TR_leafOf 23 = .ok (.ireturn, 1) := by decide +kernel
