theorem d_Assembly_init_0 : decode c_Assembly_init 0 = .ok (.aload_n 0, 1) := by decide +kernel
theorem d_Assembly_init_1 : decode c_Assembly_init 1 = .ok (.invokespecial 3, 3) := by decide +kernel
theorem d_Assembly_init_4 : decode c_Assembly_init 4 = .ok (.aload_n 0, 1) := by decide +kernel
theorem d_Assembly_init_5 : decode c_Assembly_init 5 = .ok (.new 9, 3) := by decide +kernel
theorem d_Assembly_init_8 : decode c_Assembly_init 8 = .ok (.dup, 1) := by decide +kernel
theorem d_Assembly_init_9 : decode c_Assembly_init 9 = .ok (.invokespecial 11, 3) := by decide +kernel
theorem d_Assembly_init_12 : decode c_Assembly_init 12 = .ok (.putfield 12, 3) := by decide +kernel
theorem d_Assembly_init_15 : decode c_Assembly_init 15 = .ok (.aload_n 0, 1) := by decide +kernel
theorem d_Assembly_init_16 : decode c_Assembly_init 16 = .ok (.new 18, 3) := by decide +kernel
theorem d_Assembly_init_19 : decode c_Assembly_init 19 = .ok (.dup, 1) := by decide +kernel
theorem d_Assembly_init_20 : decode c_Assembly_init 20 = .ok (.aload_n 1, 1) := by decide +kernel
theorem d_Assembly_init_21 : decode c_Assembly_init 21 = .ok (.aload_n 0, 1) := by decide +kernel
theorem d_Assembly_init_22 : decode c_Assembly_init 22 = .ok (.getfield 12, 3) := by decide +kernel
theorem d_Assembly_init_25 : decode c_Assembly_init 25 = .ok (.invokespecial 20, 3) := by decide +kernel
theorem d_Assembly_init_28 : decode c_Assembly_init 28 = .ok (.putfield 23, 3) := by decide +kernel
theorem d_Assembly_init_31 : decode c_Assembly_init 31 = .ok (.aload_n 0, 1) := by decide +kernel
theorem d_Assembly_init_32 : decode c_Assembly_init 32 = .ok (.new 27, 3) := by decide +kernel
theorem d_Assembly_init_35 : decode c_Assembly_init 35 = .ok (.dup, 1) := by decide +kernel
theorem d_Assembly_init_36 : decode c_Assembly_init 36 = .ok (.bipush 6, 2) := by decide +kernel
theorem d_Assembly_init_38 : decode c_Assembly_init 38 = .ok (.iconst (-1), 1) := by decide +kernel
theorem d_Assembly_init_39 : decode c_Assembly_init 39 = .ok (.iconst (-1), 1) := by decide +kernel
theorem d_Assembly_init_40 : decode c_Assembly_init 40 = .ok (.iconst 0, 1) := by decide +kernel
theorem d_Assembly_init_41 : decode c_Assembly_init 41 = .ok (.iconst 0, 1) := by decide +kernel
theorem d_Assembly_init_42 : decode c_Assembly_init 42 = .ok (.invokespecial 29, 3) := by decide +kernel
theorem d_Assembly_init_45 : decode c_Assembly_init 45 = .ok (.putfield 32, 3) := by decide +kernel
theorem d_Assembly_init_48 : decode c_Assembly_init 48 = .ok (.aload_n 0, 1) := by decide +kernel
theorem d_Assembly_init_49 : decode c_Assembly_init 49 = .ok (.bipush 121, 2) := by decide +kernel
theorem d_Assembly_init_51 : decode c_Assembly_init 51 = .ok (.newarray .int, 2) := by decide +kernel
theorem d_Assembly_init_53 : decode c_Assembly_init 53 = .ok (.putfield 36, 3) := by decide +kernel
theorem d_Assembly_init_56 : decode c_Assembly_init 56 = .ok (.aload_n 0, 1) := by decide +kernel
theorem d_Assembly_init_57 : decode c_Assembly_init 57 = .ok (.iconst 0, 1) := by decide +kernel
theorem d_Assembly_init_58 : decode c_Assembly_init 58 = .ok (.putfield 40, 3) := by decide +kernel
theorem d_Assembly_init_61 : decode c_Assembly_init 61 = .ok (.aload_n 0, 1) := by decide +kernel
theorem d_Assembly_init_62 : decode c_Assembly_init 62 = .ok (.iconst 0, 1) := by decide +kernel
theorem d_Assembly_init_63 : decode c_Assembly_init 63 = .ok (.putfield 44, 3) := by decide +kernel
theorem d_Assembly_init_66 : decode c_Assembly_init 66 = .ok (.aload_n 0, 1) := by decide +kernel
theorem d_Assembly_init_67 : decode c_Assembly_init 67 = .ok (.iconst (-1), 1) := by decide +kernel
theorem d_Assembly_init_68 : decode c_Assembly_init 68 = .ok (.putfield 47, 3) := by decide +kernel
theorem d_Assembly_init_71 : decode c_Assembly_init 71 = .ok (.aload_n 0, 1) := by decide +kernel
theorem d_Assembly_init_72 : decode c_Assembly_init 72 = .ok (.iconst 0, 1) := by decide +kernel
theorem d_Assembly_init_73 : decode c_Assembly_init 73 = .ok (.putfield 50, 3) := by decide +kernel
theorem d_Assembly_init_76 : decode c_Assembly_init 76 = .ok (.return_, 1) := by decide +kernel
theorem d_Assembly_assemble_0 : decode c_Assembly_assemble 0 = .ok (.aload_n 0, 1) := by decide +kernel
theorem d_Assembly_assemble_1 : decode c_Assembly_assemble 1 = .ok (.iconst 0, 1) := by decide +kernel
theorem d_Assembly_assemble_2 : decode c_Assembly_assemble 2 = .ok (.putfield 44, 3) := by decide +kernel
theorem d_Assembly_assemble_5 : decode c_Assembly_assemble 5 = .ok (.aload_n 0, 1) := by decide +kernel
theorem d_Assembly_assemble_6 : decode c_Assembly_assemble 6 = .ok (.iconst (-1), 1) := by decide +kernel
theorem d_Assembly_assemble_7 : decode c_Assembly_assemble 7 = .ok (.putfield 47, 3) := by decide +kernel
theorem d_Assembly_assemble_10 : decode c_Assembly_assemble 10 = .ok (.aload_n 0, 1) := by decide +kernel
theorem d_Assembly_assemble_11 : decode c_Assembly_assemble 11 = .ok (.iconst 0, 1) := by decide +kernel
theorem d_Assembly_assemble_12 : decode c_Assembly_assemble 12 = .ok (.putfield 50, 3) := by decide +kernel
theorem d_Assembly_assemble_15 : decode c_Assembly_assemble 15 = .ok (.aload_n 0, 1) := by decide +kernel
theorem d_Assembly_assemble_16 : decode c_Assembly_assemble 16 = .ok (.getfield 23, 3) := by decide +kernel
theorem d_Assembly_assemble_19 : decode c_Assembly_assemble 19 = .ok (.invokevirtual 53, 3) := by decide +kernel
theorem d_Assembly_assemble_22 : decode c_Assembly_assemble 22 = .ok (.aload_n 0, 1) := by decide +kernel
theorem d_Assembly_assemble_23 : decode c_Assembly_assemble 23 = .ok (.getfield 23, 3) := by decide +kernel
theorem d_Assembly_assemble_26 : decode c_Assembly_assemble 26 = .ok (.iconst 0, 1) := by decide +kernel
theorem d_Assembly_assemble_27 : decode c_Assembly_assemble 27 = .ok (.iconst 0, 1) := by decide +kernel
theorem d_Assembly_assemble_28 : decode c_Assembly_assemble 28 = .ok (.iconst 0, 1) := by decide +kernel
theorem d_Assembly_assemble_29 : decode c_Assembly_assemble 29 = .ok (.invokevirtual 56, 3) := by decide +kernel
theorem d_Assembly_assemble_32 : decode c_Assembly_assemble 32 = .ok (.aload_n 0, 1) := by decide +kernel
theorem d_Assembly_assemble_33 : decode c_Assembly_assemble 33 = .ok (.getfield 23, 3) := by decide +kernel
theorem d_Assembly_assemble_36 : decode c_Assembly_assemble 36 = .ok (.getfield 60, 3) := by decide +kernel
theorem d_Assembly_assemble_39 : decode c_Assembly_assemble 39 = .ok (.ifCond .eq 22, 3) := by decide +kernel
theorem d_Assembly_assemble_42 : decode c_Assembly_assemble 42 = .ok (.aload_n 0, 1) := by decide +kernel
theorem d_Assembly_assemble_43 : decode c_Assembly_assemble 43 = .ok (.aload_n 0, 1) := by decide +kernel
theorem d_Assembly_assemble_44 : decode c_Assembly_assemble 44 = .ok (.getfield 23, 3) := by decide +kernel
theorem d_Assembly_assemble_47 : decode c_Assembly_assemble 47 = .ok (.getfield 60, 3) := by decide +kernel
theorem d_Assembly_assemble_50 : decode c_Assembly_assemble 50 = .ok (.aload_n 0, 1) := by decide +kernel
theorem d_Assembly_assemble_51 : decode c_Assembly_assemble 51 = .ok (.getfield 23, 3) := by decide +kernel
theorem d_Assembly_assemble_54 : decode c_Assembly_assemble 54 = .ok (.getfield 61, 3) := by decide +kernel
theorem d_Assembly_assemble_57 : decode c_Assembly_assemble 57 = .ok (.invokevirtual 64, 3) := by decide +kernel
theorem d_Assembly_assemble_60 : decode c_Assembly_assemble 60 = .ok (.return_, 1) := by decide +kernel
theorem d_Assembly_assemble_61 : decode c_Assembly_assemble 61 = .ok (.aload_n 0, 1) := by decide +kernel
theorem d_Assembly_assemble_62 : decode c_Assembly_assemble 62 = .ok (.getfield 12, 3) := by decide +kernel
theorem d_Assembly_assemble_65 : decode c_Assembly_assemble 65 = .ok (.aload_n 0, 1) := by decide +kernel
theorem d_Assembly_assemble_66 : decode c_Assembly_assemble 66 = .ok (.getfield 32, 3) := by decide +kernel
theorem d_Assembly_assemble_69 : decode c_Assembly_assemble 69 = .ok (.iconst 0, 1) := by decide +kernel
theorem d_Assembly_assemble_70 : decode c_Assembly_assemble 70 = .ok (.iconst 0, 1) := by decide +kernel
theorem d_Assembly_assemble_71 : decode c_Assembly_assemble 71 = .ok (.iconst (-1), 1) := by decide +kernel
theorem d_Assembly_assemble_72 : decode c_Assembly_assemble 72 = .ok (.iconst 0, 1) := by decide +kernel
theorem d_Assembly_assemble_73 : decode c_Assembly_assemble 73 = .ok (.invokevirtual 68, 3) := by decide +kernel
theorem d_Assembly_assemble_76 : decode c_Assembly_assemble 76 = .ok (.aload_n 0, 1) := by decide +kernel
theorem d_Assembly_assemble_77 : decode c_Assembly_assemble 77 = .ok (.iconst 5, 1) := by decide +kernel
theorem d_Assembly_assemble_78 : decode c_Assembly_assemble 78 = .ok (.aload_n 0, 1) := by decide +kernel
theorem d_Assembly_assemble_79 : decode c_Assembly_assemble 79 = .ok (.getfield 12, 3) := by decide +kernel
theorem d_Assembly_assemble_82 : decode c_Assembly_assemble 82 = .ok (.invokevirtual 72, 3) := by decide +kernel
theorem d_Assembly_assemble_85 : decode c_Assembly_assemble 85 = .ok (.invokevirtual 76, 3) := by decide +kernel
theorem d_Assembly_assemble_88 : decode c_Assembly_assemble 88 = .ok (.ifCond .eq 4, 3) := by decide +kernel
theorem d_Assembly_assemble_91 : decode c_Assembly_assemble 91 = .ok (.return_, 1) := by decide +kernel
theorem d_Assembly_assemble_92 : decode c_Assembly_assemble 92 = .ok (.aload_n 0, 1) := by decide +kernel
theorem d_Assembly_assemble_93 : decode c_Assembly_assemble 93 = .ok (.getfield 12, 3) := by decide +kernel
theorem d_Assembly_assemble_96 : decode c_Assembly_assemble 96 = .ok (.invokevirtual 80, 3) := by decide +kernel
theorem d_Assembly_assemble_99 : decode c_Assembly_assemble 99 = .ok (.iconst 1, 1) := by decide +kernel
theorem d_Assembly_assemble_100 : decode c_Assembly_assemble 100 = .ok (.istore_n 1, 1) := by decide +kernel
theorem d_Assembly_assemble_101 : decode c_Assembly_assemble 101 = .ok (.iload_n 1, 1) := by decide +kernel
theorem d_Assembly_assemble_102 : decode c_Assembly_assemble 102 = .ok (.ifCond .eq 40, 3) := by decide +kernel
theorem d_Assembly_assemble_105 : decode c_Assembly_assemble 105 = .ok (.aload_n 0, 1) := by decide +kernel
theorem d_Assembly_assemble_106 : decode c_Assembly_assemble 106 = .ok (.getfield 50, 3) := by decide +kernel
theorem d_Assembly_assemble_109 : decode c_Assembly_assemble 109 = .ok (.bipush 120, 2) := by decide +kernel
theorem d_Assembly_assemble_111 : decode c_Assembly_assemble 111 = .ok (.if_icmp .gt 31, 3) := by decide +kernel
theorem d_Assembly_assemble_114 : decode c_Assembly_assemble 114 = .ok (.aload_n 0, 1) := by decide +kernel
theorem d_Assembly_assemble_115 : decode c_Assembly_assemble 115 = .ok (.dup, 1) := by decide +kernel
theorem d_Assembly_assemble_116 : decode c_Assembly_assemble 116 = .ok (.getfield 50, 3) := by decide +kernel
theorem d_Assembly_assemble_119 : decode c_Assembly_assemble 119 = .ok (.iconst 1, 1) := by decide +kernel
theorem d_Assembly_assemble_120 : decode c_Assembly_assemble 120 = .ok (.iadd, 1) := by decide +kernel
theorem d_Assembly_assemble_121 : decode c_Assembly_assemble 121 = .ok (.putfield 50, 3) := by decide +kernel
theorem d_Assembly_assemble_124 : decode c_Assembly_assemble 124 = .ok (.aload_n 0, 1) := by decide +kernel
theorem d_Assembly_assemble_125 : decode c_Assembly_assemble 125 = .ok (.getfield 12, 3) := by decide +kernel
theorem d_Assembly_assemble_128 : decode c_Assembly_assemble 128 = .ok (.invokevirtual 83, 3) := by decide +kernel
theorem d_Assembly_assemble_131 : decode c_Assembly_assemble 131 = .ok (.aload_n 0, 1) := by decide +kernel
theorem d_Assembly_assemble_132 : decode c_Assembly_assemble 132 = .ok (.getfield 12, 3) := by decide +kernel
theorem d_Assembly_assemble_135 : decode c_Assembly_assemble 135 = .ok (.invokevirtual 86, 3) := by decide +kernel
theorem d_Assembly_assemble_138 : decode c_Assembly_assemble 138 = .ok (.istore_n 1, 1) := by decide +kernel
theorem d_Assembly_assemble_139 : decode c_Assembly_assemble 139 = .ok (.goto (-38), 3) := by decide +kernel
theorem d_Assembly_assemble_142 : decode c_Assembly_assemble 142 = .ok (.aload_n 0, 1) := by decide +kernel
theorem d_Assembly_assemble_143 : decode c_Assembly_assemble 143 = .ok (.bipush 6, 2) := by decide +kernel
theorem d_Assembly_assemble_145 : decode c_Assembly_assemble 145 = .ok (.aload_n 0, 1) := by decide +kernel
theorem d_Assembly_assemble_146 : decode c_Assembly_assemble 146 = .ok (.getfield 12, 3) := by decide +kernel
theorem d_Assembly_assemble_149 : decode c_Assembly_assemble 149 = .ok (.invokevirtual 90, 3) := by decide +kernel
theorem d_Assembly_assemble_152 : decode c_Assembly_assemble 152 = .ok (.invokevirtual 76, 3) := by decide +kernel
theorem d_Assembly_assemble_155 : decode c_Assembly_assemble 155 = .ok (.pop, 1) := by decide +kernel
theorem d_Assembly_assemble_156 : decode c_Assembly_assemble 156 = .ok (.return_, 1) := by decide +kernel
theorem d_Assembly_failAt_0 : decode c_Assembly_failAt 0 = .ok (.aload_n 0, 1) := by decide +kernel
theorem d_Assembly_failAt_1 : decode c_Assembly_failAt 1 = .ok (.iload_n 1, 1) := by decide +kernel
theorem d_Assembly_failAt_2 : decode c_Assembly_failAt 2 = .ok (.putfield 44, 3) := by decide +kernel
theorem d_Assembly_failAt_5 : decode c_Assembly_failAt 5 = .ok (.aload_n 0, 1) := by decide +kernel
theorem d_Assembly_failAt_6 : decode c_Assembly_failAt 6 = .ok (.iload_n 2, 1) := by decide +kernel
theorem d_Assembly_failAt_7 : decode c_Assembly_failAt 7 = .ok (.putfield 47, 3) := by decide +kernel
theorem d_Assembly_failAt_10 : decode c_Assembly_failAt 10 = .ok (.aload_n 0, 1) := by decide +kernel
theorem d_Assembly_failAt_11 : decode c_Assembly_failAt 11 = .ok (.getfield 12, 3) := by decide +kernel
theorem d_Assembly_failAt_14 : decode c_Assembly_failAt 14 = .ok (.invokevirtual 93, 3) := by decide +kernel
theorem d_Assembly_failAt_17 : decode c_Assembly_failAt 17 = .ok (.return_, 1) := by decide +kernel
theorem d_Assembly_failsAtItem_0 : decode c_Assembly_failsAtItem 0 = .ok (.aload_n 0, 1) := by decide +kernel
theorem d_Assembly_failsAtItem_1 : decode c_Assembly_failsAtItem 1 = .ok (.getfield 12, 3) := by decide +kernel
theorem d_Assembly_failsAtItem_4 : decode c_Assembly_failsAtItem 4 = .ok (.iload_n 2, 1) := by decide +kernel
theorem d_Assembly_failsAtItem_5 : decode c_Assembly_failsAtItem 5 = .ok (.invokevirtual 96, 3) := by decide +kernel
theorem d_Assembly_failsAtItem_8 : decode c_Assembly_failsAtItem 8 = .ok (.astore_n 3, 1) := by decide +kernel
theorem d_Assembly_failsAtItem_9 : decode c_Assembly_failsAtItem 9 = .ok (.aload_n 3, 1) := by decide +kernel
theorem d_Assembly_failsAtItem_10 : decode c_Assembly_failsAtItem 10 = .ok (.ifnonnull 5, 3) := by decide +kernel
theorem d_Assembly_failsAtItem_13 : decode c_Assembly_failsAtItem 13 = .ok (.iconst 0, 1) := by decide +kernel
theorem d_Assembly_failsAtItem_14 : decode c_Assembly_failsAtItem 14 = .ok (.ireturn, 1) := by decide +kernel
theorem d_Assembly_failsAtItem_15 : decode c_Assembly_failsAtItem 15 = .ok (.aload_n 0, 1) := by decide +kernel
theorem d_Assembly_failsAtItem_16 : decode c_Assembly_failsAtItem 16 = .ok (.iload_n 1, 1) := by decide +kernel
theorem d_Assembly_failsAtItem_17 : decode c_Assembly_failsAtItem 17 = .ok (.aload_n 3, 1) := by decide +kernel
theorem d_Assembly_failsAtItem_18 : decode c_Assembly_failsAtItem 18 = .ok (.getfield 100, 3) := by decide +kernel
theorem d_Assembly_failsAtItem_21 : decode c_Assembly_failsAtItem 21 = .ok (.invokevirtual 64, 3) := by decide +kernel
theorem d_Assembly_failsAtItem_24 : decode c_Assembly_failsAtItem 24 = .ok (.iconst 1, 1) := by decide +kernel
theorem d_Assembly_failsAtItem_25 : decode c_Assembly_failsAtItem 25 = .ok (.ireturn, 1) := by decide +kernel
theorem d_Assembly_wordsOrFault_0 : decode c_Assembly_wordsOrFault 0 = .ok (.aload_n 0, 1) := by decide +kernel
theorem d_Assembly_wordsOrFault_1 : decode c_Assembly_wordsOrFault 1 = .ok (.getfield 44, 3) := by decide +kernel
theorem d_Assembly_wordsOrFault_4 : decode c_Assembly_wordsOrFault 4 = .ok (.ifCond .ne 14, 3) := by decide +kernel
theorem d_Assembly_wordsOrFault_7 : decode c_Assembly_wordsOrFault 7 = .ok (.aload_n 0, 1) := by decide +kernel
theorem d_Assembly_wordsOrFault_8 : decode c_Assembly_wordsOrFault 8 = .ok (.getfield 12, 3) := by decide +kernel
theorem d_Assembly_wordsOrFault_11 : decode c_Assembly_wordsOrFault 11 = .ok (.iconst 3, 1) := by decide +kernel
theorem d_Assembly_wordsOrFault_12 : decode c_Assembly_wordsOrFault 12 = .ok (.invokevirtual 103, 3) := by decide +kernel
theorem d_Assembly_wordsOrFault_15 : decode c_Assembly_wordsOrFault 15 = .ok (.goto 10, 3) := by decide +kernel
theorem d_Assembly_wordsOrFault_18 : decode c_Assembly_wordsOrFault 18 = .ok (.bipush (-10), 2) := by decide +kernel
theorem d_Assembly_wordsOrFault_20 : decode c_Assembly_wordsOrFault 20 = .ok (.aload_n 0, 1) := by decide +kernel
theorem d_Assembly_wordsOrFault_21 : decode c_Assembly_wordsOrFault 21 = .ok (.getfield 44, 3) := by decide +kernel
theorem d_Assembly_wordsOrFault_24 : decode c_Assembly_wordsOrFault 24 = .ok (.isub, 1) := by decide +kernel
theorem d_Assembly_wordsOrFault_25 : decode c_Assembly_wordsOrFault 25 = .ok (.ireturn, 1) := by decide +kernel
theorem d_Assembly_follow_0 : decode c_Assembly_follow 0 = .ok (.aload_n 0, 1) := by decide +kernel
theorem d_Assembly_follow_1 : decode c_Assembly_follow 1 = .ok (.iconst 0, 1) := by decide +kernel
theorem d_Assembly_follow_2 : decode c_Assembly_follow 2 = .ok (.putfield 40, 3) := by decide +kernel
theorem d_Assembly_follow_5 : decode c_Assembly_follow 5 = .ok (.aload_n 0, 1) := by decide +kernel
theorem d_Assembly_follow_6 : decode c_Assembly_follow 6 = .ok (.iconst 0, 1) := by decide +kernel
theorem d_Assembly_follow_7 : decode c_Assembly_follow 7 = .ok (.invokevirtual 107, 3) := by decide +kernel
theorem d_Assembly_follow_10 : decode c_Assembly_follow 10 = .ok (.iconst 0, 1) := by decide +kernel
theorem d_Assembly_follow_11 : decode c_Assembly_follow 11 = .ok (.istore_n 1, 1) := by decide +kernel
theorem d_Assembly_follow_12 : decode c_Assembly_follow 12 = .ok (.iload_n 1, 1) := by decide +kernel
theorem d_Assembly_follow_13 : decode c_Assembly_follow 13 = .ok (.aload_n 0, 1) := by decide +kernel
theorem d_Assembly_follow_14 : decode c_Assembly_follow 14 = .ok (.getfield 40, 3) := by decide +kernel
theorem d_Assembly_follow_17 : decode c_Assembly_follow 17 = .ok (.if_icmp .ge 79, 3) := by decide +kernel
theorem d_Assembly_follow_20 : decode c_Assembly_follow 20 = .ok (.iload_n 1, 1) := by decide +kernel
theorem d_Assembly_follow_21 : decode c_Assembly_follow 21 = .ok (.aload_n 0, 1) := by decide +kernel
theorem d_Assembly_follow_22 : decode c_Assembly_follow 22 = .ok (.getfield 36, 3) := by decide +kernel
theorem d_Assembly_follow_25 : decode c_Assembly_follow 25 = .ok (.arraylength, 1) := by decide +kernel
theorem d_Assembly_follow_26 : decode c_Assembly_follow 26 = .ok (.if_icmp .ge 70, 3) := by decide +kernel
theorem d_Assembly_follow_29 : decode c_Assembly_follow 29 = .ok (.aload_n 0, 1) := by decide +kernel
theorem d_Assembly_follow_30 : decode c_Assembly_follow 30 = .ok (.getfield 12, 3) := by decide +kernel
theorem d_Assembly_follow_33 : decode c_Assembly_follow 33 = .ok (.aload_n 0, 1) := by decide +kernel
theorem d_Assembly_follow_34 : decode c_Assembly_follow 34 = .ok (.getfield 36, 3) := by decide +kernel
theorem d_Assembly_follow_37 : decode c_Assembly_follow 37 = .ok (.iload_n 1, 1) := by decide +kernel
theorem d_Assembly_follow_38 : decode c_Assembly_follow 38 = .ok (.iaload, 1) := by decide +kernel
theorem d_Assembly_follow_39 : decode c_Assembly_follow 39 = .ok (.invokevirtual 96, 3) := by decide +kernel
theorem d_Assembly_follow_42 : decode c_Assembly_follow 42 = .ok (.astore_n 2, 1) := by decide +kernel
theorem d_Assembly_follow_43 : decode c_Assembly_follow 43 = .ok (.aload_n 2, 1) := by decide +kernel
theorem d_Assembly_follow_44 : decode c_Assembly_follow 44 = .ok (.ifnonnull 4, 3) := by decide +kernel
theorem d_Assembly_follow_47 : decode c_Assembly_follow 47 = .ok (.return_, 1) := by decide +kernel
theorem d_Assembly_follow_48 : decode c_Assembly_follow 48 = .ok (.aload_n 2, 1) := by decide +kernel
theorem d_Assembly_follow_49 : decode c_Assembly_follow 49 = .ok (.getfield 111, 3) := by decide +kernel
theorem d_Assembly_follow_52 : decode c_Assembly_follow 52 = .ok (.iconst 3, 1) := by decide +kernel
theorem d_Assembly_follow_53 : decode c_Assembly_follow 53 = .ok (.if_icmp .eq 15, 3) := by decide +kernel
theorem d_Assembly_follow_56 : decode c_Assembly_follow 56 = .ok (.aload_n 0, 1) := by decide +kernel
theorem d_Assembly_follow_57 : decode c_Assembly_follow 57 = .ok (.aload_n 0, 1) := by decide +kernel
theorem d_Assembly_follow_58 : decode c_Assembly_follow 58 = .ok (.getfield 36, 3) := by decide +kernel
theorem d_Assembly_follow_61 : decode c_Assembly_follow 61 = .ok (.iload_n 1, 1) := by decide +kernel
theorem d_Assembly_follow_62 : decode c_Assembly_follow 62 = .ok (.iaload, 1) := by decide +kernel
theorem d_Assembly_follow_63 : decode c_Assembly_follow 63 = .ok (.iconst 1, 1) := by decide +kernel
theorem d_Assembly_follow_64 : decode c_Assembly_follow 64 = .ok (.iadd, 1) := by decide +kernel
theorem d_Assembly_follow_65 : decode c_Assembly_follow 65 = .ok (.invokevirtual 107, 3) := by decide +kernel
theorem d_Assembly_follow_68 : decode c_Assembly_follow 68 = .ok (.aload_n 2, 1) := by decide +kernel
theorem d_Assembly_follow_69 : decode c_Assembly_follow 69 = .ok (.invokevirtual 114, 3) := by decide +kernel
theorem d_Assembly_follow_72 : decode c_Assembly_follow 72 = .ok (.ifCond .eq 18, 3) := by decide +kernel
theorem d_Assembly_follow_75 : decode c_Assembly_follow 75 = .ok (.aload_n 0, 1) := by decide +kernel
theorem d_Assembly_follow_76 : decode c_Assembly_follow 76 = .ok (.aload_n 0, 1) := by decide +kernel
theorem d_Assembly_follow_77 : decode c_Assembly_follow 77 = .ok (.getfield 12, 3) := by decide +kernel
theorem d_Assembly_follow_80 : decode c_Assembly_follow 80 = .ok (.aload_n 2, 1) := by decide +kernel
theorem d_Assembly_follow_81 : decode c_Assembly_follow 81 = .ok (.invokevirtual 117, 3) := by decide +kernel
theorem d_Assembly_follow_84 : decode c_Assembly_follow 84 = .ok (.invokevirtual 120, 3) := by decide +kernel
theorem d_Assembly_follow_87 : decode c_Assembly_follow 87 = .ok (.invokevirtual 107, 3) := by decide +kernel
theorem d_Assembly_follow_90 : decode c_Assembly_follow 90 = .ok (.iinc 1 1, 3) := by decide +kernel
theorem d_Assembly_follow_93 : decode c_Assembly_follow 93 = .ok (.goto (-81), 3) := by decide +kernel
theorem d_Assembly_follow_96 : decode c_Assembly_follow 96 = .ok (.return_, 1) := by decide +kernel
theorem d_Assembly_reach_0 : decode c_Assembly_reach 0 = .ok (.aload_n 0, 1) := by decide +kernel
theorem d_Assembly_reach_1 : decode c_Assembly_reach 1 = .ok (.getfield 12, 3) := by decide +kernel
theorem d_Assembly_reach_4 : decode c_Assembly_reach 4 = .ok (.iload_n 1, 1) := by decide +kernel
theorem d_Assembly_reach_5 : decode c_Assembly_reach 5 = .ok (.invokevirtual 96, 3) := by decide +kernel
theorem d_Assembly_reach_8 : decode c_Assembly_reach 8 = .ok (.astore_n 2, 1) := by decide +kernel
theorem d_Assembly_reach_9 : decode c_Assembly_reach 9 = .ok (.aload_n 2, 1) := by decide +kernel
theorem d_Assembly_reach_10 : decode c_Assembly_reach 10 = .ok (.ifnull 29, 3) := by decide +kernel
theorem d_Assembly_reach_13 : decode c_Assembly_reach 13 = .ok (.aload_n 2, 1) := by decide +kernel
theorem d_Assembly_reach_14 : decode c_Assembly_reach 14 = .ok (.getfield 123, 3) := by decide +kernel
theorem d_Assembly_reach_17 : decode c_Assembly_reach 17 = .ok (.ifCond .ne 22, 3) := by decide +kernel
theorem d_Assembly_reach_20 : decode c_Assembly_reach 20 = .ok (.aload_n 2, 1) := by decide +kernel
theorem d_Assembly_reach_21 : decode c_Assembly_reach 21 = .ok (.invokevirtual 127, 3) := by decide +kernel
theorem d_Assembly_reach_24 : decode c_Assembly_reach 24 = .ok (.ifCond .eq 15, 3) := by decide +kernel
theorem d_Assembly_reach_27 : decode c_Assembly_reach 27 = .ok (.aload_n 0, 1) := by decide +kernel
theorem d_Assembly_reach_28 : decode c_Assembly_reach 28 = .ok (.getfield 40, 3) := by decide +kernel
theorem d_Assembly_reach_31 : decode c_Assembly_reach 31 = .ok (.aload_n 0, 1) := by decide +kernel
theorem d_Assembly_reach_32 : decode c_Assembly_reach 32 = .ok (.getfield 36, 3) := by decide +kernel
theorem d_Assembly_reach_35 : decode c_Assembly_reach 35 = .ok (.arraylength, 1) := by decide +kernel
theorem d_Assembly_reach_36 : decode c_Assembly_reach 36 = .ok (.if_icmp .lt 4, 3) := by decide +kernel
theorem d_Assembly_reach_39 : decode c_Assembly_reach 39 = .ok (.return_, 1) := by decide +kernel
theorem d_Assembly_reach_40 : decode c_Assembly_reach 40 = .ok (.aload_n 2, 1) := by decide +kernel
theorem d_Assembly_reach_41 : decode c_Assembly_reach 41 = .ok (.iconst 1, 1) := by decide +kernel
theorem d_Assembly_reach_42 : decode c_Assembly_reach 42 = .ok (.putfield 123, 3) := by decide +kernel
theorem d_Assembly_reach_45 : decode c_Assembly_reach 45 = .ok (.aload_n 0, 1) := by decide +kernel
theorem d_Assembly_reach_46 : decode c_Assembly_reach 46 = .ok (.getfield 36, 3) := by decide +kernel
theorem d_Assembly_reach_49 : decode c_Assembly_reach 49 = .ok (.aload_n 0, 1) := by decide +kernel
theorem d_Assembly_reach_50 : decode c_Assembly_reach 50 = .ok (.getfield 40, 3) := by decide +kernel
theorem d_Assembly_reach_53 : decode c_Assembly_reach 53 = .ok (.iload_n 1, 1) := by decide +kernel
theorem d_Assembly_reach_54 : decode c_Assembly_reach 54 = .ok (.iastore, 1) := by decide +kernel
theorem d_Assembly_reach_55 : decode c_Assembly_reach 55 = .ok (.aload_n 0, 1) := by decide +kernel
theorem d_Assembly_reach_56 : decode c_Assembly_reach 56 = .ok (.dup, 1) := by decide +kernel
theorem d_Assembly_reach_57 : decode c_Assembly_reach 57 = .ok (.getfield 40, 3) := by decide +kernel
theorem d_Assembly_reach_60 : decode c_Assembly_reach 60 = .ok (.iconst 1, 1) := by decide +kernel
theorem d_Assembly_reach_61 : decode c_Assembly_reach 61 = .ok (.iadd, 1) := by decide +kernel
theorem d_Assembly_reach_62 : decode c_Assembly_reach 62 = .ok (.putfield 40, 3) := by decide +kernel
theorem d_Assembly_reach_65 : decode c_Assembly_reach 65 = .ok (.return_, 1) := by decide +kernel
theorem d_Expander_init_0 : decode c_Expander_init 0 = .ok (.aload_n 0, 1) := by decide +kernel
theorem d_Expander_init_1 : decode c_Expander_init 1 = .ok (.invokespecial 3, 3) := by decide +kernel
theorem d_Expander_init_4 : decode c_Expander_init 4 = .ok (.aload_n 0, 1) := by decide +kernel
theorem d_Expander_init_5 : decode c_Expander_init 5 = .ok (.aload_n 1, 1) := by decide +kernel
theorem d_Expander_init_6 : decode c_Expander_init 6 = .ok (.putfield 9, 3) := by decide +kernel
theorem d_Expander_init_9 : decode c_Expander_init 9 = .ok (.aload_n 0, 1) := by decide +kernel
theorem d_Expander_init_10 : decode c_Expander_init 10 = .ok (.aload_n 2, 1) := by decide +kernel
theorem d_Expander_init_11 : decode c_Expander_init 11 = .ok (.putfield 15, 3) := by decide +kernel
theorem d_Expander_init_14 : decode c_Expander_init 14 = .ok (.aload_n 0, 1) := by decide +kernel
theorem d_Expander_init_15 : decode c_Expander_init 15 = .ok (.new 19, 3) := by decide +kernel
theorem d_Expander_init_18 : decode c_Expander_init 18 = .ok (.dup, 1) := by decide +kernel
theorem d_Expander_init_19 : decode c_Expander_init 19 = .ok (.invokespecial 21, 3) := by decide +kernel
theorem d_Expander_init_22 : decode c_Expander_init 22 = .ok (.putfield 22, 3) := by decide +kernel
theorem d_Expander_init_25 : decode c_Expander_init 25 = .ok (.aload_n 0, 1) := by decide +kernel
theorem d_Expander_init_26 : decode c_Expander_init 26 = .ok (.iconst 0, 1) := by decide +kernel
theorem d_Expander_init_27 : decode c_Expander_init 27 = .ok (.putfield 26, 3) := by decide +kernel
theorem d_Expander_init_30 : decode c_Expander_init 30 = .ok (.aload_n 0, 1) := by decide +kernel
theorem d_Expander_init_31 : decode c_Expander_init 31 = .ok (.iconst 0, 1) := by decide +kernel
theorem d_Expander_init_32 : decode c_Expander_init 32 = .ok (.putfield 30, 3) := by decide +kernel
theorem d_Expander_init_35 : decode c_Expander_init 35 = .ok (.aload_n 0, 1) := by decide +kernel
theorem d_Expander_init_36 : decode c_Expander_init 36 = .ok (.iconst 0, 1) := by decide +kernel
theorem d_Expander_init_37 : decode c_Expander_init 37 = .ok (.putfield 33, 3) := by decide +kernel
theorem d_Expander_init_40 : decode c_Expander_init 40 = .ok (.return_, 1) := by decide +kernel
theorem d_Expander_startOver_0 : decode c_Expander_startOver 0 = .ok (.aload_n 0, 1) := by decide +kernel
theorem d_Expander_startOver_1 : decode c_Expander_startOver 1 = .ok (.getfield 15, 3) := by decide +kernel
theorem d_Expander_startOver_4 : decode c_Expander_startOver 4 = .ok (.invokevirtual 36, 3) := by decide +kernel
theorem d_Expander_startOver_7 : decode c_Expander_startOver 7 = .ok (.aload_n 0, 1) := by decide +kernel
theorem d_Expander_startOver_8 : decode c_Expander_startOver 8 = .ok (.getfield 22, 3) := by decide +kernel
theorem d_Expander_startOver_11 : decode c_Expander_startOver 11 = .ok (.invokevirtual 41, 3) := by decide +kernel
theorem d_Expander_startOver_14 : decode c_Expander_startOver 14 = .ok (.aload_n 0, 1) := by decide +kernel
theorem d_Expander_startOver_15 : decode c_Expander_startOver 15 = .ok (.iconst 0, 1) := by decide +kernel
theorem d_Expander_startOver_16 : decode c_Expander_startOver 16 = .ok (.putfield 26, 3) := by decide +kernel
theorem d_Expander_startOver_19 : decode c_Expander_startOver 19 = .ok (.aload_n 0, 1) := by decide +kernel
theorem d_Expander_startOver_20 : decode c_Expander_startOver 20 = .ok (.iconst 0, 1) := by decide +kernel
theorem d_Expander_startOver_21 : decode c_Expander_startOver 21 = .ok (.putfield 30, 3) := by decide +kernel
theorem d_Expander_startOver_24 : decode c_Expander_startOver 24 = .ok (.aload_n 0, 1) := by decide +kernel
theorem d_Expander_startOver_25 : decode c_Expander_startOver 25 = .ok (.iconst 0, 1) := by decide +kernel
theorem d_Expander_startOver_26 : decode c_Expander_startOver 26 = .ok (.putfield 33, 3) := by decide +kernel
theorem d_Expander_startOver_29 : decode c_Expander_startOver 29 = .ok (.return_, 1) := by decide +kernel
theorem d_Expander_expandRow_0 : decode c_Expander_expandRow 0 = .ok (.iconst 0, 1) := by decide +kernel
theorem d_Expander_expandRow_1 : decode c_Expander_expandRow 1 = .ok (.istore 4, 2) := by decide +kernel
theorem d_Expander_expandRow_3 : decode c_Expander_expandRow 3 = .ok (.aload_n 0, 1) := by decide +kernel
theorem d_Expander_expandRow_4 : decode c_Expander_expandRow 4 = .ok (.getfield 9, 3) := by decide +kernel
theorem d_Expander_expandRow_7 : decode c_Expander_expandRow 7 = .ok (.iload_n 1, 1) := by decide +kernel
theorem d_Expander_expandRow_8 : decode c_Expander_expandRow 8 = .ok (.invokevirtual 42, 3) := by decide +kernel
theorem d_Expander_expandRow_11 : decode c_Expander_expandRow 11 = .ok (.istore 5, 2) := by decide +kernel
theorem d_Expander_expandRow_13 : decode c_Expander_expandRow 13 = .ok (.iconst 0, 1) := by decide +kernel
theorem d_Expander_expandRow_14 : decode c_Expander_expandRow 14 = .ok (.istore 6, 2) := by decide +kernel
theorem d_Expander_expandRow_16 : decode c_Expander_expandRow 16 = .ok (.iload 6, 2) := by decide +kernel
theorem d_Expander_expandRow_18 : decode c_Expander_expandRow 18 = .ok (.iload 5, 2) := by decide +kernel
theorem d_Expander_expandRow_20 : decode c_Expander_expandRow 20 = .ok (.if_icmp .ge 109, 3) := by decide +kernel
theorem d_Expander_expandRow_23 : decode c_Expander_expandRow 23 = .ok (.aload_n 0, 1) := by decide +kernel
theorem d_Expander_expandRow_24 : decode c_Expander_expandRow 24 = .ok (.getfield 30, 3) := by decide +kernel
theorem d_Expander_expandRow_27 : decode c_Expander_expandRow 27 = .ok (.ifCond .ne 102, 3) := by decide +kernel
theorem d_Expander_expandRow_30 : decode c_Expander_expandRow 30 = .ok (.aload_n 0, 1) := by decide +kernel
theorem d_Expander_expandRow_31 : decode c_Expander_expandRow 31 = .ok (.getfield 9, 3) := by decide +kernel
theorem d_Expander_expandRow_34 : decode c_Expander_expandRow 34 = .ok (.iload_n 1, 1) := by decide +kernel
theorem d_Expander_expandRow_35 : decode c_Expander_expandRow 35 = .ok (.iload 6, 2) := by decide +kernel
theorem d_Expander_expandRow_37 : decode c_Expander_expandRow 37 = .ok (.invokevirtual 48, 3) := by decide +kernel
theorem d_Expander_expandRow_40 : decode c_Expander_expandRow 40 = .ok (.astore 7, 2) := by decide +kernel
theorem d_Expander_expandRow_42 : decode c_Expander_expandRow 42 = .ok (.aload 7, 2) := by decide +kernel
theorem d_Expander_expandRow_44 : decode c_Expander_expandRow 44 = .ok (.ifnonnull 4, 3) := by decide +kernel
theorem d_Expander_expandRow_47 : decode c_Expander_expandRow 47 = .ok (.return_, 1) := by decide +kernel
theorem d_Expander_expandRow_48 : decode c_Expander_expandRow 48 = .ok (.aload_n 0, 1) := by decide +kernel
theorem d_Expander_expandRow_49 : decode c_Expander_expandRow 49 = .ok (.iload_n 3, 1) := by decide +kernel
theorem d_Expander_expandRow_50 : decode c_Expander_expandRow 50 = .ok (.ifCond .ne 8, 3) := by decide +kernel
theorem d_Expander_expandRow_53 : decode c_Expander_expandRow 53 = .ok (.iload 6, 2) := by decide +kernel
theorem d_Expander_expandRow_55 : decode c_Expander_expandRow 55 = .ok (.goto 7, 3) := by decide +kernel
theorem d_Expander_expandRow_58 : decode c_Expander_expandRow 58 = .ok (.aload_n 0, 1) := by decide +kernel
theorem d_Expander_expandRow_59 : decode c_Expander_expandRow 59 = .ok (.getfield 33, 3) := by decide +kernel
theorem d_Expander_expandRow_62 : decode c_Expander_expandRow 62 = .ok (.putfield 33, 3) := by decide +kernel
theorem d_Expander_expandRow_65 : decode c_Expander_expandRow 65 = .ok (.iload 4, 2) := by decide +kernel
theorem d_Expander_expandRow_67 : decode c_Expander_expandRow 67 = .ok (.ifCond .le 37, 3) := by decide +kernel
theorem d_Expander_expandRow_70 : decode c_Expander_expandRow 70 = .ok (.iload 4, 2) := by decide +kernel
theorem d_Expander_expandRow_72 : decode c_Expander_expandRow 72 = .ok (.aload 7, 2) := by decide +kernel
theorem d_Expander_expandRow_74 : decode c_Expander_expandRow 74 = .ok (.getfield 52, 3) := by decide +kernel
theorem d_Expander_expandRow_77 : decode c_Expander_expandRow 77 = .ok (.bipush 8, 2) := by decide +kernel
theorem d_Expander_expandRow_79 : decode c_Expander_expandRow 79 = .ok (.if_icmp .ne 7, 3) := by decide +kernel
theorem d_Expander_expandRow_82 : decode c_Expander_expandRow 82 = .ok (.iconst 1, 1) := by decide +kernel
theorem d_Expander_expandRow_83 : decode c_Expander_expandRow 83 = .ok (.goto 18, 3) := by decide +kernel
theorem d_Expander_expandRow_86 : decode c_Expander_expandRow 86 = .ok (.aload 7, 2) := by decide +kernel
theorem d_Expander_expandRow_88 : decode c_Expander_expandRow 88 = .ok (.getfield 52, 3) := by decide +kernel
theorem d_Expander_expandRow_91 : decode c_Expander_expandRow 91 = .ok (.bipush 9, 2) := by decide +kernel
theorem d_Expander_expandRow_93 : decode c_Expander_expandRow 93 = .ok (.if_icmp .ne 7, 3) := by decide +kernel
theorem d_Expander_expandRow_96 : decode c_Expander_expandRow 96 = .ok (.iconst (-1), 1) := by decide +kernel
theorem d_Expander_expandRow_97 : decode c_Expander_expandRow 97 = .ok (.goto 4, 3) := by decide +kernel
theorem d_Expander_expandRow_100 : decode c_Expander_expandRow 100 = .ok (.iconst 0, 1) := by decide +kernel
theorem d_Expander_expandRow_101 : decode c_Expander_expandRow 101 = .ok (.iadd, 1) := by decide +kernel
theorem d_Expander_expandRow_102 : decode c_Expander_expandRow 102 = .ok (.istore 4, 2) := by decide +kernel
theorem d_Expander_expandRow_104 : decode c_Expander_expandRow 104 = .ok (.iload 4, 2) := by decide +kernel
theorem d_Expander_expandRow_106 : decode c_Expander_expandRow 106 = .ok (.ifCond .ne 17, 3) := by decide +kernel
theorem d_Expander_expandRow_109 : decode c_Expander_expandRow 109 = .ok (.aload_n 0, 1) := by decide +kernel
theorem d_Expander_expandRow_110 : decode c_Expander_expandRow 110 = .ok (.aload 7, 2) := by decide +kernel
theorem d_Expander_expandRow_112 : decode c_Expander_expandRow 112 = .ok (.iload_n 2, 1) := by decide +kernel
theorem d_Expander_expandRow_113 : decode c_Expander_expandRow 113 = .ok (.iload_n 3, 1) := by decide +kernel
theorem d_Expander_expandRow_114 : decode c_Expander_expandRow 114 = .ok (.invokevirtual 57, 3) := by decide +kernel
theorem d_Expander_expandRow_117 : decode c_Expander_expandRow 117 = .ok (.ifCond .ne 6, 3) := by decide +kernel
theorem d_Expander_expandRow_120 : decode c_Expander_expandRow 120 = .ok (.iconst 1, 1) := by decide +kernel
theorem d_Expander_expandRow_121 : decode c_Expander_expandRow 121 = .ok (.istore 4, 2) := by decide +kernel
theorem d_Expander_expandRow_123 : decode c_Expander_expandRow 123 = .ok (.iinc 6 1, 3) := by decide +kernel
theorem d_Expander_expandRow_126 : decode c_Expander_expandRow 126 = .ok (.goto (-110), 3) := by decide +kernel
theorem d_Expander_expandRow_129 : decode c_Expander_expandRow 129 = .ok (.return_, 1) := by decide +kernel
theorem d_Expander_expandLine_0 : decode c_Expander_expandLine 0 = .ok (.aload_n 1, 1) := by decide +kernel
theorem d_Expander_expandLine_1 : decode c_Expander_expandLine 1 = .ok (.getfield 61, 3) := by decide +kernel
theorem d_Expander_expandLine_4 : decode c_Expander_expandLine 4 = .ok (.ifCond .eq 12, 3) := by decide +kernel
theorem d_Expander_expandLine_7 : decode c_Expander_expandLine 7 = .ok (.aload_n 1, 1) := by decide +kernel
theorem d_Expander_expandLine_8 : decode c_Expander_expandLine 8 = .ok (.getfield 65, 3) := by decide +kernel
theorem d_Expander_expandLine_11 : decode c_Expander_expandLine 11 = .ok (.iload_n 2, 1) := by decide +kernel
theorem d_Expander_expandLine_12 : decode c_Expander_expandLine 12 = .ok (.iadd, 1) := by decide +kernel
theorem d_Expander_expandLine_13 : decode c_Expander_expandLine 13 = .ok (.goto 7, 3) := by decide +kernel
theorem d_Expander_expandLine_16 : decode c_Expander_expandLine 16 = .ok (.aload_n 1, 1) := by decide +kernel
theorem d_Expander_expandLine_17 : decode c_Expander_expandLine 17 = .ok (.getfield 65, 3) := by decide +kernel
theorem d_Expander_expandLine_20 : decode c_Expander_expandLine 20 = .ok (.istore 4, 2) := by decide +kernel
theorem d_Expander_expandLine_22 : decode c_Expander_expandLine 22 = .ok (.aload_n 0, 1) := by decide +kernel
theorem d_Expander_expandLine_23 : decode c_Expander_expandLine 23 = .ok (.dup, 1) := by decide +kernel
theorem d_Expander_expandLine_24 : decode c_Expander_expandLine 24 = .ok (.getfield 26, 3) := by decide +kernel
theorem d_Expander_expandLine_27 : decode c_Expander_expandLine 27 = .ok (.iconst 1, 1) := by decide +kernel
theorem d_Expander_expandLine_28 : decode c_Expander_expandLine 28 = .ok (.iadd, 1) := by decide +kernel
theorem d_Expander_expandLine_29 : decode c_Expander_expandLine 29 = .ok (.putfield 26, 3) := by decide +kernel
theorem d_Expander_expandLine_32 : decode c_Expander_expandLine 32 = .ok (.aload_n 0, 1) := by decide +kernel
theorem d_Expander_expandLine_33 : decode c_Expander_expandLine 33 = .ok (.getfield 26, 3) := by decide +kernel
theorem d_Expander_expandLine_36 : decode c_Expander_expandLine 36 = .ok (.sipush 400, 3) := by decide +kernel
theorem d_Expander_expandLine_39 : decode c_Expander_expandLine 39 = .ok (.if_icmp .gt 22, 3) := by decide +kernel
theorem d_Expander_expandLine_42 : decode c_Expander_expandLine 42 = .ok (.aload_n 1, 1) := by decide +kernel
theorem d_Expander_expandLine_43 : decode c_Expander_expandLine 43 = .ok (.invokevirtual 68, 3) := by decide +kernel
theorem d_Expander_expandLine_46 : decode c_Expander_expandLine 46 = .ok (.ifCond .eq 22, 3) := by decide +kernel
theorem d_Expander_expandLine_49 : decode c_Expander_expandLine 49 = .ok (.aload_n 0, 1) := by decide +kernel
theorem d_Expander_expandLine_50 : decode c_Expander_expandLine 50 = .ok (.getfield 15, 3) := by decide +kernel
theorem d_Expander_expandLine_53 : decode c_Expander_expandLine 53 = .ok (.getfield 72, 3) := by decide +kernel
theorem d_Expander_expandLine_56 : decode c_Expander_expandLine 56 = .ok (.bipush 120, 2) := by decide +kernel
theorem d_Expander_expandLine_58 : decode c_Expander_expandLine 58 = .ok (.if_icmp .lt 10, 3) := by decide +kernel
theorem d_Expander_expandLine_61 : decode c_Expander_expandLine 61 = .ok (.aload_n 0, 1) := by decide +kernel
theorem d_Expander_expandLine_62 : decode c_Expander_expandLine 62 = .ok (.iconst 2, 1) := by decide +kernel
theorem d_Expander_expandLine_63 : decode c_Expander_expandLine 63 = .ok (.putfield 30, 3) := by decide +kernel
theorem d_Expander_expandLine_66 : decode c_Expander_expandLine 66 = .ok (.iconst 1, 1) := by decide +kernel
theorem d_Expander_expandLine_67 : decode c_Expander_expandLine 67 = .ok (.ireturn, 1) := by decide +kernel
theorem d_Expander_expandLine_68 : decode c_Expander_expandLine 68 = .ok (.aload_n 1, 1) := by decide +kernel
theorem d_Expander_expandLine_69 : decode c_Expander_expandLine 69 = .ok (.getfield 52, 3) := by decide +kernel
theorem d_Expander_expandLine_72 : decode c_Expander_expandLine 72 = .ok (.tableswitch 104 0 10 #[83, 94, 104, 104, 104, 104, 104, 104, 73, 81, 60], 60) := by decide +kernel
theorem d_Expander_expandLine_132 : decode c_Expander_expandLine 132 = .ok (.aload_n 0, 1) := by decide +kernel
theorem d_Expander_expandLine_133 : decode c_Expander_expandLine 133 = .ok (.aload_n 1, 1) := by decide +kernel
theorem d_Expander_expandLine_134 : decode c_Expander_expandLine 134 = .ok (.getfield 75, 3) := by decide +kernel
theorem d_Expander_expandLine_137 : decode c_Expander_expandLine 137 = .ok (.iload 4, 2) := by decide +kernel
theorem d_Expander_expandLine_139 : decode c_Expander_expandLine 139 = .ok (.iload_n 3, 1) := by decide +kernel
theorem d_Expander_expandLine_140 : decode c_Expander_expandLine 140 = .ok (.invokevirtual 78, 3) := by decide +kernel
theorem d_Expander_expandLine_143 : decode c_Expander_expandLine 143 = .ok (.iconst 1, 1) := by decide +kernel
theorem d_Expander_expandLine_144 : decode c_Expander_expandLine 144 = .ok (.ireturn, 1) := by decide +kernel
theorem d_Expander_expandLine_145 : decode c_Expander_expandLine 145 = .ok (.aload_n 0, 1) := by decide +kernel
theorem d_Expander_expandLine_146 : decode c_Expander_expandLine 146 = .ok (.aload_n 1, 1) := by decide +kernel
theorem d_Expander_expandLine_147 : decode c_Expander_expandLine 147 = .ok (.iload 4, 2) := by decide +kernel
theorem d_Expander_expandLine_149 : decode c_Expander_expandLine 149 = .ok (.invokevirtual 82, 3) := by decide +kernel
theorem d_Expander_expandLine_152 : decode c_Expander_expandLine 152 = .ok (.ireturn, 1) := by decide +kernel
theorem d_Expander_expandLine_153 : decode c_Expander_expandLine 153 = .ok (.iconst 1, 1) := by decide +kernel
theorem d_Expander_expandLine_154 : decode c_Expander_expandLine 154 = .ok (.ireturn, 1) := by decide +kernel
theorem d_Expander_expandLine_155 : decode c_Expander_expandLine 155 = .ok (.aload_n 0, 1) := by decide +kernel
theorem d_Expander_expandLine_156 : decode c_Expander_expandLine 156 = .ok (.aload_n 1, 1) := by decide +kernel
theorem d_Expander_expandLine_157 : decode c_Expander_expandLine 157 = .ok (.getfield 75, 3) := by decide +kernel
theorem d_Expander_expandLine_160 : decode c_Expander_expandLine 160 = .ok (.invokevirtual 86, 3) := by decide +kernel
theorem d_Expander_expandLine_163 : decode c_Expander_expandLine 163 = .ok (.goto 13, 3) := by decide +kernel
theorem d_Expander_expandLine_166 : decode c_Expander_expandLine 166 = .ok (.aload_n 0, 1) := by decide +kernel
theorem d_Expander_expandLine_167 : decode c_Expander_expandLine 167 = .ok (.aload_n 1, 1) := by decide +kernel
theorem d_Expander_expandLine_168 : decode c_Expander_expandLine 168 = .ok (.iload 4, 2) := by decide +kernel
theorem d_Expander_expandLine_170 : decode c_Expander_expandLine 170 = .ok (.invokevirtual 90, 3) := by decide +kernel
theorem d_Expander_expandLine_173 : decode c_Expander_expandLine 173 = .ok (.goto 3, 3) := by decide +kernel
theorem d_Expander_expandLine_176 : decode c_Expander_expandLine 176 = .ok (.aload_n 1, 1) := by decide +kernel
theorem d_Expander_expandLine_177 : decode c_Expander_expandLine 177 = .ok (.getfield 52, 3) := by decide +kernel
theorem d_Expander_expandLine_180 : decode c_Expander_expandLine 180 = .ok (.iconst 1, 1) := by decide +kernel
theorem d_Expander_expandLine_181 : decode c_Expander_expandLine 181 = .ok (.if_icmp .ne 17, 3) := by decide +kernel
theorem d_Expander_expandLine_184 : decode c_Expander_expandLine 184 = .ok (.aload_n 0, 1) := by decide +kernel
theorem d_Expander_expandLine_185 : decode c_Expander_expandLine 185 = .ok (.getfield 22, 3) := by decide +kernel
theorem d_Expander_expandLine_188 : decode c_Expander_expandLine 188 = .ok (.aload_n 1, 1) := by decide +kernel
theorem d_Expander_expandLine_189 : decode c_Expander_expandLine 189 = .ok (.getfield 75, 3) := by decide +kernel
theorem d_Expander_expandLine_192 : decode c_Expander_expandLine 192 = .ok (.invokevirtual 94, 3) := by decide +kernel
theorem d_Expander_expandLine_195 : decode c_Expander_expandLine 195 = .ok (.goto 4, 3) := by decide +kernel
theorem d_Expander_expandLine_198 : decode c_Expander_expandLine 198 = .ok (.iconst 0, 1) := by decide +kernel
theorem d_Expander_expandLine_199 : decode c_Expander_expandLine 199 = .ok (.istore 5, 2) := by decide +kernel
theorem d_Expander_expandLine_201 : decode c_Expander_expandLine 201 = .ok (.aload_n 0, 1) := by decide +kernel
theorem d_Expander_expandLine_202 : decode c_Expander_expandLine 202 = .ok (.getfield 15, 3) := by decide +kernel
theorem d_Expander_expandLine_205 : decode c_Expander_expandLine 205 = .ok (.aload_n 1, 1) := by decide +kernel
theorem d_Expander_expandLine_206 : decode c_Expander_expandLine 206 = .ok (.iload 4, 2) := by decide +kernel
theorem d_Expander_expandLine_208 : decode c_Expander_expandLine 208 = .ok (.iload 5, 2) := by decide +kernel
theorem d_Expander_expandLine_210 : decode c_Expander_expandLine 210 = .ok (.aload_n 0, 1) := by decide +kernel
theorem d_Expander_expandLine_211 : decode c_Expander_expandLine 211 = .ok (.getfield 33, 3) := by decide +kernel
theorem d_Expander_expandLine_214 : decode c_Expander_expandLine 214 = .ok (.iload_n 3, 1) := by decide +kernel
theorem d_Expander_expandLine_215 : decode c_Expander_expandLine 215 = .ok (.invokevirtual 97, 3) := by decide +kernel
theorem d_Expander_expandLine_218 : decode c_Expander_expandLine 218 = .ok (.iconst 1, 1) := by decide +kernel
theorem d_Expander_expandLine_219 : decode c_Expander_expandLine 219 = .ok (.ireturn, 1) := by decide +kernel
theorem d_Expander_expandCall_0 : decode c_Expander_expandCall 0 = .ok (.iload_n 3, 1) := by decide +kernel
theorem d_Expander_expandCall_1 : decode c_Expander_expandCall 1 = .ok (.iconst 5, 1) := by decide +kernel
theorem d_Expander_expandCall_2 : decode c_Expander_expandCall 2 = .ok (.if_icmp .lt 9, 3) := by decide +kernel
theorem d_Expander_expandCall_5 : decode c_Expander_expandCall 5 = .ok (.aload_n 0, 1) := by decide +kernel
theorem d_Expander_expandCall_6 : decode c_Expander_expandCall 6 = .ok (.iconst 1, 1) := by decide +kernel
theorem d_Expander_expandCall_7 : decode c_Expander_expandCall 7 = .ok (.putfield 30, 3) := by decide +kernel
theorem d_Expander_expandCall_10 : decode c_Expander_expandCall 10 = .ok (.return_, 1) := by decide +kernel
theorem d_Expander_expandCall_11 : decode c_Expander_expandCall 11 = .ok (.aload_n 0, 1) := by decide +kernel
theorem d_Expander_expandCall_12 : decode c_Expander_expandCall 12 = .ok (.iload_n 1, 1) := by decide +kernel
theorem d_Expander_expandCall_13 : decode c_Expander_expandCall 13 = .ok (.iload_n 2, 1) := by decide +kernel
theorem d_Expander_expandCall_14 : decode c_Expander_expandCall 14 = .ok (.iload_n 3, 1) := by decide +kernel
theorem d_Expander_expandCall_15 : decode c_Expander_expandCall 15 = .ok (.iconst 1, 1) := by decide +kernel
theorem d_Expander_expandCall_16 : decode c_Expander_expandCall 16 = .ok (.iadd, 1) := by decide +kernel
theorem d_Expander_expandCall_17 : decode c_Expander_expandCall 17 = .ok (.invokevirtual 101, 3) := by decide +kernel
theorem d_Expander_expandCall_20 : decode c_Expander_expandCall 20 = .ok (.return_, 1) := by decide +kernel
theorem d_Expander_goesOn_0 : decode c_Expander_goesOn 0 = .ok (.aload_n 0, 1) := by decide +kernel
theorem d_Expander_goesOn_1 : decode c_Expander_goesOn 1 = .ok (.getfield 22, 3) := by decide +kernel
theorem d_Expander_goesOn_4 : decode c_Expander_goesOn 4 = .ok (.aload_n 1, 1) := by decide +kernel
theorem d_Expander_goesOn_5 : decode c_Expander_goesOn 5 = .ok (.getfield 75, 3) := by decide +kernel
theorem d_Expander_goesOn_8 : decode c_Expander_goesOn 8 = .ok (.invokevirtual 104, 3) := by decide +kernel
theorem d_Expander_goesOn_11 : decode c_Expander_goesOn 11 = .ok (.ifCond .eq 17, 3) := by decide +kernel
theorem d_Expander_goesOn_14 : decode c_Expander_goesOn 14 = .ok (.aload_n 0, 1) := by decide +kernel
theorem d_Expander_goesOn_15 : decode c_Expander_goesOn 15 = .ok (.getfield 22, 3) := by decide +kernel
theorem d_Expander_goesOn_18 : decode c_Expander_goesOn 18 = .ok (.aload_n 1, 1) := by decide +kernel
theorem d_Expander_goesOn_19 : decode c_Expander_goesOn 19 = .ok (.getfield 108, 3) := by decide +kernel
theorem d_Expander_goesOn_22 : decode c_Expander_goesOn 22 = .ok (.invokevirtual 104, 3) := by decide +kernel
theorem d_Expander_goesOn_25 : decode c_Expander_goesOn 25 = .ok (.ifCond .ne 10, 3) := by decide +kernel
theorem d_Expander_goesOn_28 : decode c_Expander_goesOn 28 = .ok (.aload_n 0, 1) := by decide +kernel
theorem d_Expander_goesOn_29 : decode c_Expander_goesOn 29 = .ok (.iconst 3, 1) := by decide +kernel
theorem d_Expander_goesOn_30 : decode c_Expander_goesOn 30 = .ok (.putfield 30, 3) := by decide +kernel
theorem d_Expander_goesOn_33 : decode c_Expander_goesOn 33 = .ok (.iconst 1, 1) := by decide +kernel
theorem d_Expander_goesOn_34 : decode c_Expander_goesOn 34 = .ok (.ireturn, 1) := by decide +kernel
theorem d_Expander_goesOn_35 : decode c_Expander_goesOn 35 = .ok (.iload_n 2, 1) := by decide +kernel
theorem d_Expander_goesOn_36 : decode c_Expander_goesOn 36 = .ok (.aload_n 0, 1) := by decide +kernel
theorem d_Expander_goesOn_37 : decode c_Expander_goesOn 37 = .ok (.getfield 22, 3) := by decide +kernel
theorem d_Expander_goesOn_40 : decode c_Expander_goesOn 40 = .ok (.aload_n 1, 1) := by decide +kernel
theorem d_Expander_goesOn_41 : decode c_Expander_goesOn 41 = .ok (.getfield 75, 3) := by decide +kernel
theorem d_Expander_goesOn_44 : decode c_Expander_goesOn 44 = .ok (.invokevirtual 94, 3) := by decide +kernel
theorem d_Expander_goesOn_47 : decode c_Expander_goesOn 47 = .ok (.iadd, 1) := by decide +kernel
theorem d_Expander_goesOn_48 : decode c_Expander_goesOn 48 = .ok (.aload_n 0, 1) := by decide +kernel
theorem d_Expander_goesOn_49 : decode c_Expander_goesOn 49 = .ok (.getfield 22, 3) := by decide +kernel
theorem d_Expander_goesOn_52 : decode c_Expander_goesOn 52 = .ok (.aload_n 1, 1) := by decide +kernel
theorem d_Expander_goesOn_53 : decode c_Expander_goesOn 53 = .ok (.getfield 108, 3) := by decide +kernel
theorem d_Expander_goesOn_56 : decode c_Expander_goesOn 56 = .ok (.invokevirtual 94, 3) := by decide +kernel
theorem d_Expander_goesOn_59 : decode c_Expander_goesOn 59 = .ok (.isub, 1) := by decide +kernel
theorem d_Expander_goesOn_60 : decode c_Expander_goesOn 60 = .ok (.ifCond .le 7, 3) := by decide +kernel
theorem d_Expander_goesOn_63 : decode c_Expander_goesOn 63 = .ok (.iconst 1, 1) := by decide +kernel
theorem d_Expander_goesOn_64 : decode c_Expander_goesOn 64 = .ok (.goto 4, 3) := by decide +kernel
theorem d_Expander_goesOn_67 : decode c_Expander_goesOn 67 = .ok (.iconst 0, 1) := by decide +kernel
theorem d_Expander_goesOn_68 : decode c_Expander_goesOn 68 = .ok (.ireturn, 1) := by decide +kernel
theorem d_Expander_expandLabel_0 : decode c_Expander_expandLabel 0 = .ok (.aload_n 0, 1) := by decide +kernel
theorem d_Expander_expandLabel_1 : decode c_Expander_expandLabel 1 = .ok (.getfield 22, 3) := by decide +kernel
theorem d_Expander_expandLabel_4 : decode c_Expander_expandLabel 4 = .ok (.iload_n 1, 1) := by decide +kernel
theorem d_Expander_expandLabel_5 : decode c_Expander_expandLabel 5 = .ok (.invokevirtual 111, 3) := by decide +kernel
theorem d_Expander_expandLabel_8 : decode c_Expander_expandLabel 8 = .ok (.ifCond .ne 14, 3) := by decide +kernel
theorem d_Expander_expandLabel_11 : decode c_Expander_expandLabel 11 = .ok (.aload_n 0, 1) := by decide +kernel
theorem d_Expander_expandLabel_12 : decode c_Expander_expandLabel 12 = .ok (.getfield 22, 3) := by decide +kernel
theorem d_Expander_expandLabel_15 : decode c_Expander_expandLabel 15 = .ok (.iload_n 1, 1) := by decide +kernel
theorem d_Expander_expandLabel_16 : decode c_Expander_expandLabel 16 = .ok (.invokevirtual 114, 3) := by decide +kernel
theorem d_Expander_expandLabel_19 : decode c_Expander_expandLabel 19 = .ok (.ifCond .eq 9, 3) := by decide +kernel
theorem d_Expander_expandLabel_22 : decode c_Expander_expandLabel 22 = .ok (.aload_n 0, 1) := by decide +kernel
theorem d_Expander_expandLabel_23 : decode c_Expander_expandLabel 23 = .ok (.iconst 4, 1) := by decide +kernel
theorem d_Expander_expandLabel_24 : decode c_Expander_expandLabel 24 = .ok (.putfield 30, 3) := by decide +kernel
theorem d_Expander_expandLabel_27 : decode c_Expander_expandLabel 27 = .ok (.return_, 1) := by decide +kernel
theorem d_Expander_expandLabel_28 : decode c_Expander_expandLabel 28 = .ok (.aload_n 0, 1) := by decide +kernel
theorem d_Expander_expandLabel_29 : decode c_Expander_expandLabel 29 = .ok (.getfield 22, 3) := by decide +kernel
theorem d_Expander_expandLabel_32 : decode c_Expander_expandLabel 32 = .ok (.iload_n 1, 1) := by decide +kernel
theorem d_Expander_expandLabel_33 : decode c_Expander_expandLabel 33 = .ok (.invokevirtual 117, 3) := by decide +kernel
theorem d_Expander_expandLabel_36 : decode c_Expander_expandLabel 36 = .ok (.return_, 1) := by decide +kernel
theorem d_Expander_expandSet_0 : decode c_Expander_expandSet 0 = .ok (.aload_n 0, 1) := by decide +kernel
theorem d_Expander_expandSet_1 : decode c_Expander_expandSet 1 = .ok (.getfield 22, 3) := by decide +kernel
theorem d_Expander_expandSet_4 : decode c_Expander_expandSet 4 = .ok (.aload_n 1, 1) := by decide +kernel
theorem d_Expander_expandSet_5 : decode c_Expander_expandSet 5 = .ok (.getfield 108, 3) := by decide +kernel
theorem d_Expander_expandSet_8 : decode c_Expander_expandSet 8 = .ok (.invokevirtual 104, 3) := by decide +kernel
theorem d_Expander_expandSet_11 : decode c_Expander_expandSet 11 = .ok (.ifCond .ne 11, 3) := by decide +kernel
theorem d_Expander_expandSet_14 : decode c_Expander_expandSet 14 = .ok (.aload_n 0, 1) := by decide +kernel
theorem d_Expander_expandSet_15 : decode c_Expander_expandSet 15 = .ok (.iconst 3, 1) := by decide +kernel
theorem d_Expander_expandSet_16 : decode c_Expander_expandSet 16 = .ok (.putfield 30, 3) := by decide +kernel
theorem d_Expander_expandSet_19 : decode c_Expander_expandSet 19 = .ok (.goto 49, 3) := by decide +kernel
theorem d_Expander_expandSet_22 : decode c_Expander_expandSet 22 = .ok (.aload_n 0, 1) := by decide +kernel
theorem d_Expander_expandSet_23 : decode c_Expander_expandSet 23 = .ok (.getfield 22, 3) := by decide +kernel
theorem d_Expander_expandSet_26 : decode c_Expander_expandSet 26 = .ok (.aload_n 1, 1) := by decide +kernel
theorem d_Expander_expandSet_27 : decode c_Expander_expandSet 27 = .ok (.getfield 75, 3) := by decide +kernel
theorem d_Expander_expandSet_30 : decode c_Expander_expandSet 30 = .ok (.invokevirtual 111, 3) := by decide +kernel
theorem d_Expander_expandSet_33 : decode c_Expander_expandSet 33 = .ok (.ifCond .eq 11, 3) := by decide +kernel
theorem d_Expander_expandSet_36 : decode c_Expander_expandSet 36 = .ok (.aload_n 0, 1) := by decide +kernel
theorem d_Expander_expandSet_37 : decode c_Expander_expandSet 37 = .ok (.iconst 4, 1) := by decide +kernel
theorem d_Expander_expandSet_38 : decode c_Expander_expandSet 38 = .ok (.putfield 30, 3) := by decide +kernel
theorem d_Expander_expandSet_41 : decode c_Expander_expandSet 41 = .ok (.goto 27, 3) := by decide +kernel
theorem d_Expander_expandSet_44 : decode c_Expander_expandSet 44 = .ok (.aload_n 0, 1) := by decide +kernel
theorem d_Expander_expandSet_45 : decode c_Expander_expandSet 45 = .ok (.getfield 22, 3) := by decide +kernel
theorem d_Expander_expandSet_48 : decode c_Expander_expandSet 48 = .ok (.aload_n 1, 1) := by decide +kernel
theorem d_Expander_expandSet_49 : decode c_Expander_expandSet 49 = .ok (.getfield 75, 3) := by decide +kernel
theorem d_Expander_expandSet_52 : decode c_Expander_expandSet 52 = .ok (.aload_n 0, 1) := by decide +kernel
theorem d_Expander_expandSet_53 : decode c_Expander_expandSet 53 = .ok (.getfield 22, 3) := by decide +kernel
theorem d_Expander_expandSet_56 : decode c_Expander_expandSet 56 = .ok (.aload_n 1, 1) := by decide +kernel
theorem d_Expander_expandSet_57 : decode c_Expander_expandSet 57 = .ok (.getfield 108, 3) := by decide +kernel
theorem d_Expander_expandSet_60 : decode c_Expander_expandSet 60 = .ok (.invokevirtual 94, 3) := by decide +kernel
theorem d_Expander_expandSet_63 : decode c_Expander_expandSet 63 = .ok (.iload_n 2, 1) := by decide +kernel
theorem d_Expander_expandSet_64 : decode c_Expander_expandSet 64 = .ok (.iadd, 1) := by decide +kernel
theorem d_Expander_expandSet_65 : decode c_Expander_expandSet 65 = .ok (.invokevirtual 120, 3) := by decide +kernel
theorem d_Expander_expandSet_68 : decode c_Expander_expandSet 68 = .ok (.return_, 1) := by decide +kernel
theorem d_Item_init_0 : decode c_Item_init 0 = .ok (.aload_n 0, 1) := by decide +kernel
theorem d_Item_init_1 : decode c_Item_init 1 = .ok (.invokespecial 3, 3) := by decide +kernel
theorem d_Item_init_4 : decode c_Item_init 4 = .ok (.return_, 1) := by decide +kernel
theorem d_Item_tell_0 : decode c_Item_tell 0 = .ok (.aload_n 0, 1) := by decide +kernel
theorem d_Item_tell_1 : decode c_Item_tell 1 = .ok (.aload_n 1, 1) := by decide +kernel
theorem d_Item_tell_2 : decode c_Item_tell 2 = .ok (.getfield 9, 3) := by decide +kernel
theorem d_Item_tell_5 : decode c_Item_tell 5 = .ok (.putfield 15, 3) := by decide +kernel
theorem d_Item_tell_8 : decode c_Item_tell 8 = .ok (.aload_n 0, 1) := by decide +kernel
theorem d_Item_tell_9 : decode c_Item_tell 9 = .ok (.aload_n 1, 1) := by decide +kernel
theorem d_Item_tell_10 : decode c_Item_tell 10 = .ok (.getfield 18, 3) := by decide +kernel
theorem d_Item_tell_13 : decode c_Item_tell 13 = .ok (.putfield 21, 3) := by decide +kernel
theorem d_Item_tell_16 : decode c_Item_tell 16 = .ok (.aload_n 0, 1) := by decide +kernel
theorem d_Item_tell_17 : decode c_Item_tell 17 = .ok (.aload_n 1, 1) := by decide +kernel
theorem d_Item_tell_18 : decode c_Item_tell 18 = .ok (.getfield 22, 3) := by decide +kernel
theorem d_Item_tell_21 : decode c_Item_tell 21 = .ok (.putfield 25, 3) := by decide +kernel
theorem d_Item_tell_24 : decode c_Item_tell 24 = .ok (.aload_n 0, 1) := by decide +kernel
theorem d_Item_tell_25 : decode c_Item_tell 25 = .ok (.iload_n 2, 1) := by decide +kernel
theorem d_Item_tell_26 : decode c_Item_tell 26 = .ok (.putfield 26, 3) := by decide +kernel
theorem d_Item_tell_29 : decode c_Item_tell 29 = .ok (.aload_n 0, 1) := by decide +kernel
theorem d_Item_tell_30 : decode c_Item_tell 30 = .ok (.iload_n 3, 1) := by decide +kernel
theorem d_Item_tell_31 : decode c_Item_tell 31 = .ok (.putfield 29, 3) := by decide +kernel
theorem d_Item_tell_34 : decode c_Item_tell 34 = .ok (.aload_n 0, 1) := by decide +kernel
theorem d_Item_tell_35 : decode c_Item_tell 35 = .ok (.iload 4, 2) := by decide +kernel
theorem d_Item_tell_37 : decode c_Item_tell 37 = .ok (.putfield 32, 3) := by decide +kernel
theorem d_Item_tell_40 : decode c_Item_tell 40 = .ok (.aload_n 0, 1) := by decide +kernel
theorem d_Item_tell_41 : decode c_Item_tell 41 = .ok (.iload 5, 2) := by decide +kernel
theorem d_Item_tell_43 : decode c_Item_tell 43 = .ok (.putfield 35, 3) := by decide +kernel
theorem d_Item_tell_46 : decode c_Item_tell 46 = .ok (.aload_n 0, 1) := by decide +kernel
theorem d_Item_tell_47 : decode c_Item_tell 47 = .ok (.aconst_null, 1) := by decide +kernel
theorem d_Item_tell_48 : decode c_Item_tell 48 = .ok (.putfield 38, 3) := by decide +kernel
theorem d_Item_tell_51 : decode c_Item_tell 51 = .ok (.aload_n 0, 1) := by decide +kernel
theorem d_Item_tell_52 : decode c_Item_tell 52 = .ok (.aconst_null, 1) := by decide +kernel
theorem d_Item_tell_53 : decode c_Item_tell 53 = .ok (.putfield 42, 3) := by decide +kernel
theorem d_Item_tell_56 : decode c_Item_tell 56 = .ok (.aload_n 0, 1) := by decide +kernel
theorem d_Item_tell_57 : decode c_Item_tell 57 = .ok (.aconst_null, 1) := by decide +kernel
theorem d_Item_tell_58 : decode c_Item_tell 58 = .ok (.putfield 45, 3) := by decide +kernel
theorem d_Item_tell_61 : decode c_Item_tell 61 = .ok (.aload_n 0, 1) := by decide +kernel
theorem d_Item_tell_62 : decode c_Item_tell 62 = .ok (.iconst 0, 1) := by decide +kernel
theorem d_Item_tell_63 : decode c_Item_tell 63 = .ok (.putfield 48, 3) := by decide +kernel
theorem d_Item_tell_66 : decode c_Item_tell 66 = .ok (.aload_n 0, 1) := by decide +kernel
theorem d_Item_tell_67 : decode c_Item_tell 67 = .ok (.iconst 0, 1) := by decide +kernel
theorem d_Item_tell_68 : decode c_Item_tell 68 = .ok (.putfield 51, 3) := by decide +kernel
theorem d_Item_tell_71 : decode c_Item_tell 71 = .ok (.aload_n 0, 1) := by decide +kernel
theorem d_Item_tell_72 : decode c_Item_tell 72 = .ok (.iconst 0, 1) := by decide +kernel
theorem d_Item_tell_73 : decode c_Item_tell 73 = .ok (.putfield 54, 3) := by decide +kernel
theorem d_Item_tell_76 : decode c_Item_tell 76 = .ok (.aload_n 0, 1) := by decide +kernel
theorem d_Item_tell_77 : decode c_Item_tell 77 = .ok (.iconst 0, 1) := by decide +kernel
theorem d_Item_tell_78 : decode c_Item_tell 78 = .ok (.putfield 57, 3) := by decide +kernel
theorem d_Item_tell_81 : decode c_Item_tell 81 = .ok (.aload_n 0, 1) := by decide +kernel
theorem d_Item_tell_82 : decode c_Item_tell 82 = .ok (.iconst 0, 1) := by decide +kernel
theorem d_Item_tell_83 : decode c_Item_tell 83 = .ok (.putfield 60, 3) := by decide +kernel
theorem d_Item_tell_86 : decode c_Item_tell 86 = .ok (.aload_n 0, 1) := by decide +kernel
theorem d_Item_tell_87 : decode c_Item_tell 87 = .ok (.iconst 0, 1) := by decide +kernel
theorem d_Item_tell_88 : decode c_Item_tell 88 = .ok (.putfield 64, 3) := by decide +kernel
theorem d_Item_tell_91 : decode c_Item_tell 91 = .ok (.return_, 1) := by decide +kernel
theorem d_Item_isBranch_0 : decode c_Item_isBranch 0 = .ok (.aload_n 0, 1) := by decide +kernel
theorem d_Item_isBranch_1 : decode c_Item_isBranch 1 = .ok (.getfield 15, 3) := by decide +kernel
theorem d_Item_isBranch_4 : decode c_Item_isBranch 4 = .ok (.iconst 3, 1) := by decide +kernel
theorem d_Item_isBranch_5 : decode c_Item_isBranch 5 = .ok (.if_icmp .eq 11, 3) := by decide +kernel
theorem d_Item_isBranch_8 : decode c_Item_isBranch 8 = .ok (.aload_n 0, 1) := by decide +kernel
theorem d_Item_isBranch_9 : decode c_Item_isBranch 9 = .ok (.getfield 15, 3) := by decide +kernel
theorem d_Item_isBranch_12 : decode c_Item_isBranch 12 = .ok (.iconst 4, 1) := by decide +kernel
theorem d_Item_isBranch_13 : decode c_Item_isBranch 13 = .ok (.if_icmp .ne 7, 3) := by decide +kernel
theorem d_Item_isBranch_16 : decode c_Item_isBranch 16 = .ok (.iconst 1, 1) := by decide +kernel
theorem d_Item_isBranch_17 : decode c_Item_isBranch 17 = .ok (.goto 4, 3) := by decide +kernel
theorem d_Item_isBranch_20 : decode c_Item_isBranch 20 = .ok (.iconst 0, 1) := by decide +kernel
theorem d_Item_isBranch_21 : decode c_Item_isBranch 21 = .ok (.ireturn, 1) := by decide +kernel
theorem d_Item_hasValue_0 : decode c_Item_hasValue 0 = .ok (.aload_n 0, 1) := by decide +kernel
theorem d_Item_hasValue_1 : decode c_Item_hasValue 1 = .ok (.getfield 15, 3) := by decide +kernel
theorem d_Item_hasValue_4 : decode c_Item_hasValue 4 = .ok (.iconst 2, 1) := by decide +kernel
theorem d_Item_hasValue_5 : decode c_Item_hasValue 5 = .ok (.if_icmp .eq 10, 3) := by decide +kernel
theorem d_Item_hasValue_8 : decode c_Item_hasValue 8 = .ok (.aload_n 0, 1) := by decide +kernel
theorem d_Item_hasValue_9 : decode c_Item_hasValue 9 = .ok (.invokevirtual 67, 3) := by decide +kernel
theorem d_Item_hasValue_12 : decode c_Item_hasValue 12 = .ok (.ifCond .eq 7, 3) := by decide +kernel
theorem d_Item_hasValue_15 : decode c_Item_hasValue 15 = .ok (.iconst 1, 1) := by decide +kernel
theorem d_Item_hasValue_16 : decode c_Item_hasValue 16 = .ok (.goto 4, 3) := by decide +kernel
theorem d_Item_hasValue_19 : decode c_Item_hasValue 19 = .ok (.iconst 0, 1) := by decide +kernel
theorem d_Item_hasValue_20 : decode c_Item_hasValue 20 = .ok (.ireturn, 1) := by decide +kernel
theorem d_Item_valueHere_0 : decode c_Item_valueHere 0 = .ok (.aload_n 0, 1) := by decide +kernel
theorem d_Item_valueHere_1 : decode c_Item_valueHere 1 = .ok (.getfield 38, 3) := by decide +kernel
theorem d_Item_valueHere_4 : decode c_Item_valueHere 4 = .ok (.ifnonnull 7, 3) := by decide +kernel
theorem d_Item_valueHere_7 : decode c_Item_valueHere 7 = .ok (.iconst 0, 1) := by decide +kernel
theorem d_Item_valueHere_8 : decode c_Item_valueHere 8 = .ok (.goto 10, 3) := by decide +kernel
theorem d_Item_valueHere_11 : decode c_Item_valueHere 11 = .ok (.aload_n 0, 1) := by decide +kernel
theorem d_Item_valueHere_12 : decode c_Item_valueHere 12 = .ok (.getfield 38, 3) := by decide +kernel
theorem d_Item_valueHere_15 : decode c_Item_valueHere 15 = .ok (.getfield 29, 3) := by decide +kernel
theorem d_Item_valueHere_18 : decode c_Item_valueHere 18 = .ok (.istore_n 1, 1) := by decide +kernel
theorem d_Item_valueHere_19 : decode c_Item_valueHere 19 = .ok (.aload_n 0, 1) := by decide +kernel
theorem d_Item_valueHere_20 : decode c_Item_valueHere 20 = .ok (.getfield 42, 3) := by decide +kernel
theorem d_Item_valueHere_23 : decode c_Item_valueHere 23 = .ok (.ifnonnull 7, 3) := by decide +kernel
theorem d_Item_valueHere_26 : decode c_Item_valueHere 26 = .ok (.iconst 0, 1) := by decide +kernel
theorem d_Item_valueHere_27 : decode c_Item_valueHere 27 = .ok (.goto 10, 3) := by decide +kernel
theorem d_Item_valueHere_30 : decode c_Item_valueHere 30 = .ok (.aload_n 0, 1) := by decide +kernel
theorem d_Item_valueHere_31 : decode c_Item_valueHere 31 = .ok (.getfield 42, 3) := by decide +kernel
theorem d_Item_valueHere_34 : decode c_Item_valueHere 34 = .ok (.getfield 29, 3) := by decide +kernel
theorem d_Item_valueHere_37 : decode c_Item_valueHere 37 = .ok (.istore_n 2, 1) := by decide +kernel
theorem d_Item_valueHere_38 : decode c_Item_valueHere 38 = .ok (.aload_n 0, 1) := by decide +kernel
theorem d_Item_valueHere_39 : decode c_Item_valueHere 39 = .ok (.getfield 26, 3) := by decide +kernel
theorem d_Item_valueHere_42 : decode c_Item_valueHere 42 = .ok (.iload_n 1, 1) := by decide +kernel
theorem d_Item_valueHere_43 : decode c_Item_valueHere 43 = .ok (.iadd, 1) := by decide +kernel
theorem d_Item_valueHere_44 : decode c_Item_valueHere 44 = .ok (.iload_n 2, 1) := by decide +kernel
theorem d_Item_valueHere_45 : decode c_Item_valueHere 45 = .ok (.isub, 1) := by decide +kernel
theorem d_Item_valueHere_46 : decode c_Item_valueHere 46 = .ok (.ireturn, 1) := by decide +kernel
theorem d_Item_distanceHere_0 : decode c_Item_distanceHere 0 = .ok (.aload_n 0, 1) := by decide +kernel
theorem d_Item_distanceHere_1 : decode c_Item_distanceHere 1 = .ok (.invokevirtual 71, 3) := by decide +kernel
theorem d_Item_distanceHere_4 : decode c_Item_distanceHere 4 = .ok (.aload_n 0, 1) := by decide +kernel
theorem d_Item_distanceHere_5 : decode c_Item_distanceHere 5 = .ok (.getfield 54, 3) := by decide +kernel
theorem d_Item_distanceHere_8 : decode c_Item_distanceHere 8 = .ok (.iconst 1, 1) := by decide +kernel
theorem d_Item_distanceHere_9 : decode c_Item_distanceHere 9 = .ok (.iadd, 1) := by decide +kernel
theorem d_Item_distanceHere_10 : decode c_Item_distanceHere 10 = .ok (.isub, 1) := by decide +kernel
theorem d_Item_distanceHere_11 : decode c_Item_distanceHere 11 = .ok (.ireturn, 1) := by decide +kernel
theorem d_Item_isNear_0 : decode c_Item_isNear 0 = .ok (.aload_n 0, 1) := by decide +kernel
theorem d_Item_isNear_1 : decode c_Item_isNear 1 = .ok (.invokevirtual 75, 3) := by decide +kernel
theorem d_Item_isNear_4 : decode c_Item_isNear 4 = .ok (.istore_n 1, 1) := by decide +kernel
theorem d_Item_isNear_5 : decode c_Item_isNear 5 = .ok (.iload_n 1, 1) := by decide +kernel
theorem d_Item_isNear_6 : decode c_Item_isNear 6 = .ok (.bipush (-8), 2) := by decide +kernel
theorem d_Item_isNear_8 : decode c_Item_isNear 8 = .ok (.if_icmp .lt 13, 3) := by decide +kernel
theorem d_Item_isNear_11 : decode c_Item_isNear 11 = .ok (.iload_n 1, 1) := by decide +kernel
theorem d_Item_isNear_12 : decode c_Item_isNear 12 = .ok (.bipush 7, 2) := by decide +kernel
theorem d_Item_isNear_14 : decode c_Item_isNear 14 = .ok (.if_icmp .gt 7, 3) := by decide +kernel
theorem d_Item_isNear_17 : decode c_Item_isNear 17 = .ok (.iconst 1, 1) := by decide +kernel
theorem d_Item_isNear_18 : decode c_Item_isNear 18 = .ok (.goto 4, 3) := by decide +kernel
theorem d_Item_isNear_21 : decode c_Item_isNear 21 = .ok (.iconst 0, 1) := by decide +kernel
theorem d_Item_isNear_22 : decode c_Item_isNear 22 = .ok (.ireturn, 1) := by decide +kernel
theorem d_Item_aboveLoad_0 : decode c_Item_aboveLoad 0 = .ok (.aload_n 0, 1) := by decide +kernel
theorem d_Item_aboveLoad_1 : decode c_Item_aboveLoad 1 = .ok (.getfield 45, 3) := by decide +kernel
theorem d_Item_aboveLoad_4 : decode c_Item_aboveLoad 4 = .ok (.ifnonnull 7, 3) := by decide +kernel
theorem d_Item_aboveLoad_7 : decode c_Item_aboveLoad 7 = .ok (.iconst 0, 1) := by decide +kernel
theorem d_Item_aboveLoad_8 : decode c_Item_aboveLoad 8 = .ok (.goto 20, 3) := by decide +kernel
theorem d_Item_aboveLoad_11 : decode c_Item_aboveLoad 11 = .ok (.aload_n 0, 1) := by decide +kernel
theorem d_Item_aboveLoad_12 : decode c_Item_aboveLoad 12 = .ok (.getfield 45, 3) := by decide +kernel
theorem d_Item_aboveLoad_15 : decode c_Item_aboveLoad 15 = .ok (.getfield 54, 3) := by decide +kernel
theorem d_Item_aboveLoad_18 : decode c_Item_aboveLoad 18 = .ok (.aload_n 0, 1) := by decide +kernel
theorem d_Item_aboveLoad_19 : decode c_Item_aboveLoad 19 = .ok (.getfield 48, 3) := by decide +kernel
theorem d_Item_aboveLoad_22 : decode c_Item_aboveLoad 22 = .ok (.iadd, 1) := by decide +kernel
theorem d_Item_aboveLoad_23 : decode c_Item_aboveLoad 23 = .ok (.aload_n 0, 1) := by decide +kernel
theorem d_Item_aboveLoad_24 : decode c_Item_aboveLoad 24 = .ok (.getfield 54, 3) := by decide +kernel
theorem d_Item_aboveLoad_27 : decode c_Item_aboveLoad 27 = .ok (.isub, 1) := by decide +kernel
theorem d_Item_aboveLoad_28 : decode c_Item_aboveLoad 28 = .ok (.ireturn, 1) := by decide +kernel
theorem d_Item_canBeFollowed_0 : decode c_Item_canBeFollowed 0 = .ok (.aload_n 0, 1) := by decide +kernel
theorem d_Item_canBeFollowed_1 : decode c_Item_canBeFollowed 1 = .ok (.getfield 15, 3) := by decide +kernel
theorem d_Item_canBeFollowed_4 : decode c_Item_canBeFollowed 4 = .ok (.bipush 6, 2) := by decide +kernel
theorem d_Item_canBeFollowed_6 : decode c_Item_canBeFollowed 6 = .ok (.if_icmp .eq 12, 3) := by decide +kernel
theorem d_Item_canBeFollowed_9 : decode c_Item_canBeFollowed 9 = .ok (.aload_n 0, 1) := by decide +kernel
theorem d_Item_canBeFollowed_10 : decode c_Item_canBeFollowed 10 = .ok (.getfield 15, 3) := by decide +kernel
theorem d_Item_canBeFollowed_13 : decode c_Item_canBeFollowed 13 = .ok (.bipush 7, 2) := by decide +kernel
theorem d_Item_canBeFollowed_15 : decode c_Item_canBeFollowed 15 = .ok (.if_icmp .ne 16, 3) := by decide +kernel
theorem d_Item_canBeFollowed_18 : decode c_Item_canBeFollowed 18 = .ok (.aload_n 0, 1) := by decide +kernel
theorem d_Item_canBeFollowed_19 : decode c_Item_canBeFollowed 19 = .ok (.getfield 57, 3) := by decide +kernel
theorem d_Item_canBeFollowed_22 : decode c_Item_canBeFollowed 22 = .ok (.ifCond .ne 7, 3) := by decide +kernel
theorem d_Item_canBeFollowed_25 : decode c_Item_canBeFollowed 25 = .ok (.iconst 1, 1) := by decide +kernel
theorem d_Item_canBeFollowed_26 : decode c_Item_canBeFollowed 26 = .ok (.goto 4, 3) := by decide +kernel
theorem d_Item_canBeFollowed_29 : decode c_Item_canBeFollowed 29 = .ok (.iconst 0, 1) := by decide +kernel
theorem d_Item_canBeFollowed_30 : decode c_Item_canBeFollowed 30 = .ok (.ireturn, 1) := by decide +kernel
theorem d_Item_canBeFollowed_31 : decode c_Item_canBeFollowed 31 = .ok (.aload_n 0, 1) := by decide +kernel
theorem d_Item_canBeFollowed_32 : decode c_Item_canBeFollowed 32 = .ok (.getfield 15, 3) := by decide +kernel
theorem d_Item_canBeFollowed_35 : decode c_Item_canBeFollowed 35 = .ok (.iconst 2, 1) := by decide +kernel
theorem d_Item_canBeFollowed_36 : decode c_Item_canBeFollowed 36 = .ok (.if_icmp .eq 7, 3) := by decide +kernel
theorem d_Item_canBeFollowed_39 : decode c_Item_canBeFollowed 39 = .ok (.iconst 1, 1) := by decide +kernel
theorem d_Item_canBeFollowed_40 : decode c_Item_canBeFollowed 40 = .ok (.goto 4, 3) := by decide +kernel
theorem d_Item_canBeFollowed_43 : decode c_Item_canBeFollowed 43 = .ok (.iconst 0, 1) := by decide +kernel
theorem d_Item_canBeFollowed_44 : decode c_Item_canBeFollowed 44 = .ok (.ireturn, 1) := by decide +kernel
theorem d_Item_sizeAt_0 : decode c_Item_sizeAt 0 = .ok (.aload_n 0, 1) := by decide +kernel
theorem d_Item_sizeAt_1 : decode c_Item_sizeAt 1 = .ok (.getfield 15, 3) := by decide +kernel
theorem d_Item_sizeAt_4 : decode c_Item_sizeAt 4 = .ok (.tableswitch 101 2 7 #[40, 42, 55, 40, 68, 73], 40) := by decide +kernel
theorem d_Item_sizeAt_44 : decode c_Item_sizeAt 44 = .ok (.iconst 1, 1) := by decide +kernel
theorem d_Item_sizeAt_45 : decode c_Item_sizeAt 45 = .ok (.ireturn, 1) := by decide +kernel
theorem d_Item_sizeAt_46 : decode c_Item_sizeAt 46 = .ok (.aload_n 0, 1) := by decide +kernel
theorem d_Item_sizeAt_47 : decode c_Item_sizeAt 47 = .ok (.getfield 60, 3) := by decide +kernel
theorem d_Item_sizeAt_50 : decode c_Item_sizeAt 50 = .ok (.ifCond .eq 7, 3) := by decide +kernel
theorem d_Item_sizeAt_53 : decode c_Item_sizeAt 53 = .ok (.iconst 2, 1) := by decide +kernel
theorem d_Item_sizeAt_54 : decode c_Item_sizeAt 54 = .ok (.goto 4, 3) := by decide +kernel
theorem d_Item_sizeAt_57 : decode c_Item_sizeAt 57 = .ok (.iconst 1, 1) := by decide +kernel
theorem d_Item_sizeAt_58 : decode c_Item_sizeAt 58 = .ok (.ireturn, 1) := by decide +kernel
theorem d_Item_sizeAt_59 : decode c_Item_sizeAt 59 = .ok (.aload_n 0, 1) := by decide +kernel
theorem d_Item_sizeAt_60 : decode c_Item_sizeAt 60 = .ok (.getfield 60, 3) := by decide +kernel
theorem d_Item_sizeAt_63 : decode c_Item_sizeAt 63 = .ok (.ifCond .eq 7, 3) := by decide +kernel
theorem d_Item_sizeAt_66 : decode c_Item_sizeAt 66 = .ok (.iconst 3, 1) := by decide +kernel
theorem d_Item_sizeAt_67 : decode c_Item_sizeAt 67 = .ok (.goto 4, 3) := by decide +kernel
theorem d_Item_sizeAt_70 : decode c_Item_sizeAt 70 = .ok (.iconst 1, 1) := by decide +kernel
theorem d_Item_sizeAt_71 : decode c_Item_sizeAt 71 = .ok (.ireturn, 1) := by decide +kernel
theorem d_Item_sizeAt_72 : decode c_Item_sizeAt 72 = .ok (.aload_n 0, 1) := by decide +kernel
theorem d_Item_sizeAt_73 : decode c_Item_sizeAt 73 = .ok (.getfield 51, 3) := by decide +kernel
theorem d_Item_sizeAt_76 : decode c_Item_sizeAt 76 = .ok (.ireturn, 1) := by decide +kernel
theorem d_Item_sizeAt_77 : decode c_Item_sizeAt 77 = .ok (.aload_n 0, 1) := by decide +kernel
theorem d_Item_sizeAt_78 : decode c_Item_sizeAt 78 = .ok (.getfield 26, 3) := by decide +kernel
theorem d_Item_sizeAt_81 : decode c_Item_sizeAt 81 = .ok (.ifCond .le 22, 3) := by decide +kernel
theorem d_Item_sizeAt_84 : decode c_Item_sizeAt 84 = .ok (.aload_n 0, 1) := by decide +kernel
theorem d_Item_sizeAt_85 : decode c_Item_sizeAt 85 = .ok (.getfield 26, 3) := by decide +kernel
theorem d_Item_sizeAt_88 : decode c_Item_sizeAt 88 = .ok (.iload_n 1, 1) := by decide +kernel
theorem d_Item_sizeAt_89 : decode c_Item_sizeAt 89 = .ok (.aload_n 0, 1) := by decide +kernel
theorem d_Item_sizeAt_90 : decode c_Item_sizeAt 90 = .ok (.getfield 26, 3) := by decide +kernel
theorem d_Item_sizeAt_93 : decode c_Item_sizeAt 93 = .ok (.irem, 1) := by decide +kernel
theorem d_Item_sizeAt_94 : decode c_Item_sizeAt 94 = .ok (.isub, 1) := by decide +kernel
theorem d_Item_sizeAt_95 : decode c_Item_sizeAt 95 = .ok (.aload_n 0, 1) := by decide +kernel
theorem d_Item_sizeAt_96 : decode c_Item_sizeAt 96 = .ok (.getfield 26, 3) := by decide +kernel
theorem d_Item_sizeAt_99 : decode c_Item_sizeAt 99 = .ok (.irem, 1) := by decide +kernel
theorem d_Item_sizeAt_100 : decode c_Item_sizeAt 100 = .ok (.goto 4, 3) := by decide +kernel
theorem d_Item_sizeAt_103 : decode c_Item_sizeAt 103 = .ok (.iconst 0, 1) := by decide +kernel
theorem d_Item_sizeAt_104 : decode c_Item_sizeAt 104 = .ok (.ireturn, 1) := by decide +kernel
theorem d_Item_sizeAt_105 : decode c_Item_sizeAt 105 = .ok (.iconst 0, 1) := by decide +kernel
theorem d_Item_sizeAt_106 : decode c_Item_sizeAt 106 = .ok (.ireturn, 1) := by decide +kernel
theorem d_Item_branchWord_0 : decode c_Item_branchWord 0 = .ok (.aload_n 0, 1) := by decide +kernel
theorem d_Item_branchWord_1 : decode c_Item_branchWord 1 = .ok (.getfield 60, 3) := by decide +kernel
theorem d_Item_branchWord_4 : decode c_Item_branchWord 4 = .ok (.ifCond .ne 26, 3) := by decide +kernel
theorem d_Item_branchWord_7 : decode c_Item_branchWord 7 = .ok (.aload_n 0, 1) := by decide +kernel
theorem d_Item_branchWord_8 : decode c_Item_branchWord 8 = .ok (.getfield 15, 3) := by decide +kernel
theorem d_Item_branchWord_11 : decode c_Item_branchWord 11 = .ok (.iconst 4, 1) := by decide +kernel
theorem d_Item_branchWord_12 : decode c_Item_branchWord 12 = .ok (.if_icmp .ne 9, 3) := by decide +kernel
theorem d_Item_branchWord_15 : decode c_Item_branchWord 15 = .ok (.sipush 4008, 3) := by decide +kernel
theorem d_Item_branchWord_18 : decode c_Item_branchWord 18 = .ok (.goto 6, 3) := by decide +kernel
theorem d_Item_branchWord_21 : decode c_Item_branchWord 21 = .ok (.sipush 3008, 3) := by decide +kernel
theorem d_Item_branchWord_24 : decode c_Item_branchWord 24 = .ok (.aload_n 0, 1) := by decide +kernel
theorem d_Item_branchWord_25 : decode c_Item_branchWord 25 = .ok (.invokevirtual 75, 3) := by decide +kernel
theorem d_Item_branchWord_28 : decode c_Item_branchWord 28 = .ok (.iadd, 1) := by decide +kernel
theorem d_Item_branchWord_29 : decode c_Item_branchWord 29 = .ok (.ireturn, 1) := by decide +kernel
theorem d_Item_branchWord_30 : decode c_Item_branchWord 30 = .ok (.aload_n 0, 1) := by decide +kernel
theorem d_Item_branchWord_31 : decode c_Item_branchWord 31 = .ok (.getfield 15, 3) := by decide +kernel
theorem d_Item_branchWord_34 : decode c_Item_branchWord 34 = .ok (.iconst 4, 1) := by decide +kernel
theorem d_Item_branchWord_35 : decode c_Item_branchWord 35 = .ok (.if_icmp .ne 9, 3) := by decide +kernel
theorem d_Item_branchWord_38 : decode c_Item_branchWord 38 = .ok (.iload_n 1, 1) := by decide +kernel
theorem d_Item_branchWord_39 : decode c_Item_branchWord 39 = .ok (.iconst 1, 1) := by decide +kernel
theorem d_Item_branchWord_40 : decode c_Item_branchWord 40 = .ok (.isub, 1) := by decide +kernel
theorem d_Item_branchWord_41 : decode c_Item_branchWord 41 = .ok (.goto 4, 3) := by decide +kernel
theorem d_Item_branchWord_44 : decode c_Item_branchWord 44 = .ok (.iload_n 1, 1) := by decide +kernel
theorem d_Item_branchWord_45 : decode c_Item_branchWord 45 = .ok (.istore_n 2, 1) := by decide +kernel
theorem d_Item_branchWord_46 : decode c_Item_branchWord 46 = .ok (.iload_n 2, 1) := by decide +kernel
theorem d_Item_branchWord_47 : decode c_Item_branchWord 47 = .ok (.ifCond .ge 7, 3) := by decide +kernel
theorem d_Item_branchWord_50 : decode c_Item_branchWord 50 = .ok (.sipush 4100, 3) := by decide +kernel
theorem d_Item_branchWord_53 : decode c_Item_branchWord 53 = .ok (.ireturn, 1) := by decide +kernel
theorem d_Item_branchWord_54 : decode c_Item_branchWord 54 = .ok (.iload_n 2, 1) := by decide +kernel
theorem d_Item_branchWord_55 : decode c_Item_branchWord 55 = .ok (.ifCond .ne 9, 3) := by decide +kernel
theorem d_Item_branchWord_58 : decode c_Item_branchWord 58 = .ok (.sipush 3100, 3) := by decide +kernel
theorem d_Item_branchWord_61 : decode c_Item_branchWord 61 = .ok (.goto 7, 3) := by decide +kernel
theorem d_Item_branchWord_64 : decode c_Item_branchWord 64 = .ok (.aload_n 0, 1) := by decide +kernel
theorem d_Item_branchWord_65 : decode c_Item_branchWord 65 = .ok (.invokevirtual 71, 3) := by decide +kernel
theorem d_Item_branchWord_68 : decode c_Item_branchWord 68 = .ok (.ireturn, 1) := by decide +kernel
theorem d_Item_shareOf_0 : decode c_Item_shareOf 0 = .ok (.iload_n 1, 1) := by decide +kernel
theorem d_Item_shareOf_1 : decode c_Item_shareOf 1 = .ok (.tableswitch 185 2 11 #[55, 57, 62, 75, 185, 88, 102, 120, 138, 154], 55) := by decide +kernel
theorem d_Item_shareOf_56 : decode c_Item_shareOf 56 = .ok (.iconst 1, 1) := by decide +kernel
theorem d_Item_shareOf_57 : decode c_Item_shareOf 57 = .ok (.ireturn, 1) := by decide +kernel
theorem d_Item_shareOf_58 : decode c_Item_shareOf 58 = .ok (.aload_n 0, 1) := by decide +kernel
theorem d_Item_shareOf_59 : decode c_Item_shareOf 59 = .ok (.getfield 57, 3) := by decide +kernel
theorem d_Item_shareOf_62 : decode c_Item_shareOf 62 = .ok (.ireturn, 1) := by decide +kernel
theorem d_Item_shareOf_63 : decode c_Item_shareOf 63 = .ok (.aload_n 0, 1) := by decide +kernel
theorem d_Item_shareOf_64 : decode c_Item_shareOf 64 = .ok (.invokevirtual 67, 3) := by decide +kernel
theorem d_Item_shareOf_67 : decode c_Item_shareOf 67 = .ok (.ifCond .eq 7, 3) := by decide +kernel
theorem d_Item_shareOf_70 : decode c_Item_shareOf 70 = .ok (.iconst 1, 1) := by decide +kernel
theorem d_Item_shareOf_71 : decode c_Item_shareOf 71 = .ok (.goto 4, 3) := by decide +kernel
theorem d_Item_shareOf_74 : decode c_Item_shareOf 74 = .ok (.iconst 0, 1) := by decide +kernel
theorem d_Item_shareOf_75 : decode c_Item_shareOf 75 = .ok (.ireturn, 1) := by decide +kernel
theorem d_Item_shareOf_76 : decode c_Item_shareOf 76 = .ok (.aload_n 0, 1) := by decide +kernel
theorem d_Item_shareOf_77 : decode c_Item_shareOf 77 = .ok (.getfield 60, 3) := by decide +kernel
theorem d_Item_shareOf_80 : decode c_Item_shareOf 80 = .ok (.ifCond .eq 7, 3) := by decide +kernel
theorem d_Item_shareOf_83 : decode c_Item_shareOf 83 = .ok (.iconst 1, 1) := by decide +kernel
theorem d_Item_shareOf_84 : decode c_Item_shareOf 84 = .ok (.goto 4, 3) := by decide +kernel
theorem d_Item_shareOf_87 : decode c_Item_shareOf 87 = .ok (.iconst 0, 1) := by decide +kernel
theorem d_Item_shareOf_88 : decode c_Item_shareOf 88 = .ok (.ireturn, 1) := by decide +kernel
theorem d_Item_shareOf_89 : decode c_Item_shareOf 89 = .ok (.aload_n 0, 1) := by decide +kernel
theorem d_Item_shareOf_90 : decode c_Item_shareOf 90 = .ok (.getfield 15, 3) := by decide +kernel
theorem d_Item_shareOf_93 : decode c_Item_shareOf 93 = .ok (.iconst 5, 1) := by decide +kernel
theorem d_Item_shareOf_94 : decode c_Item_shareOf 94 = .ok (.if_icmp .ne 7, 3) := by decide +kernel
theorem d_Item_shareOf_97 : decode c_Item_shareOf 97 = .ok (.iconst 1, 1) := by decide +kernel
theorem d_Item_shareOf_98 : decode c_Item_shareOf 98 = .ok (.goto 4, 3) := by decide +kernel
theorem d_Item_shareOf_101 : decode c_Item_shareOf 101 = .ok (.iconst 0, 1) := by decide +kernel
theorem d_Item_shareOf_102 : decode c_Item_shareOf 102 = .ok (.ireturn, 1) := by decide +kernel
theorem d_Item_shareOf_103 : decode c_Item_shareOf 103 = .ok (.aload_n 0, 1) := by decide +kernel
theorem d_Item_shareOf_104 : decode c_Item_shareOf 104 = .ok (.getfield 15, 3) := by decide +kernel
theorem d_Item_shareOf_107 : decode c_Item_shareOf 107 = .ok (.bipush 6, 2) := by decide +kernel
theorem d_Item_shareOf_109 : decode c_Item_shareOf 109 = .ok (.if_icmp .ne 10, 3) := by decide +kernel
theorem d_Item_shareOf_112 : decode c_Item_shareOf 112 = .ok (.aload_n 0, 1) := by decide +kernel
theorem d_Item_shareOf_113 : decode c_Item_shareOf 113 = .ok (.getfield 57, 3) := by decide +kernel
theorem d_Item_shareOf_116 : decode c_Item_shareOf 116 = .ok (.goto 4, 3) := by decide +kernel
theorem d_Item_shareOf_119 : decode c_Item_shareOf 119 = .ok (.iconst 0, 1) := by decide +kernel
theorem d_Item_shareOf_120 : decode c_Item_shareOf 120 = .ok (.ireturn, 1) := by decide +kernel
theorem d_Item_shareOf_121 : decode c_Item_shareOf 121 = .ok (.aload_n 0, 1) := by decide +kernel
theorem d_Item_shareOf_122 : decode c_Item_shareOf 122 = .ok (.getfield 15, 3) := by decide +kernel
theorem d_Item_shareOf_125 : decode c_Item_shareOf 125 = .ok (.bipush 7, 2) := by decide +kernel
theorem d_Item_shareOf_127 : decode c_Item_shareOf 127 = .ok (.if_icmp .ne 10, 3) := by decide +kernel
theorem d_Item_shareOf_130 : decode c_Item_shareOf 130 = .ok (.aload_n 0, 1) := by decide +kernel
theorem d_Item_shareOf_131 : decode c_Item_shareOf 131 = .ok (.getfield 57, 3) := by decide +kernel
theorem d_Item_shareOf_134 : decode c_Item_shareOf 134 = .ok (.goto 4, 3) := by decide +kernel
theorem d_Item_shareOf_137 : decode c_Item_shareOf 137 = .ok (.iconst 0, 1) := by decide +kernel
theorem d_Item_shareOf_138 : decode c_Item_shareOf 138 = .ok (.ireturn, 1) := by decide +kernel
theorem d_Item_shareOf_139 : decode c_Item_shareOf 139 = .ok (.aload_n 0, 1) := by decide +kernel
theorem d_Item_shareOf_140 : decode c_Item_shareOf 140 = .ok (.getfield 64, 3) := by decide +kernel
theorem d_Item_shareOf_143 : decode c_Item_shareOf 143 = .ok (.ifCond .eq 10, 3) := by decide +kernel
theorem d_Item_shareOf_146 : decode c_Item_shareOf 146 = .ok (.aload_n 0, 1) := by decide +kernel
theorem d_Item_shareOf_147 : decode c_Item_shareOf 147 = .ok (.getfield 57, 3) := by decide +kernel
theorem d_Item_shareOf_150 : decode c_Item_shareOf 150 = .ok (.goto 4, 3) := by decide +kernel
theorem d_Item_shareOf_153 : decode c_Item_shareOf 153 = .ok (.iconst 0, 1) := by decide +kernel
theorem d_Item_shareOf_154 : decode c_Item_shareOf 154 = .ok (.ireturn, 1) := by decide +kernel
theorem d_Item_shareOf_155 : decode c_Item_shareOf 155 = .ok (.aload_n 0, 1) := by decide +kernel
theorem d_Item_shareOf_156 : decode c_Item_shareOf 156 = .ok (.getfield 64, 3) := by decide +kernel
theorem d_Item_shareOf_159 : decode c_Item_shareOf 159 = .ok (.ifCond .ne 25, 3) := by decide +kernel
theorem d_Item_shareOf_162 : decode c_Item_shareOf 162 = .ok (.aload_n 0, 1) := by decide +kernel
theorem d_Item_shareOf_163 : decode c_Item_shareOf 163 = .ok (.invokevirtual 67, 3) := by decide +kernel
theorem d_Item_shareOf_166 : decode c_Item_shareOf 166 = .ok (.ifCond .ne 11, 3) := by decide +kernel
theorem d_Item_shareOf_169 : decode c_Item_shareOf 169 = .ok (.aload_n 0, 1) := by decide +kernel
theorem d_Item_shareOf_170 : decode c_Item_shareOf 170 = .ok (.getfield 15, 3) := by decide +kernel
theorem d_Item_shareOf_173 : decode c_Item_shareOf 173 = .ok (.iconst 5, 1) := by decide +kernel
theorem d_Item_shareOf_174 : decode c_Item_shareOf 174 = .ok (.if_icmp .ne 10, 3) := by decide +kernel
theorem d_Item_shareOf_177 : decode c_Item_shareOf 177 = .ok (.aload_n 0, 1) := by decide +kernel
theorem d_Item_shareOf_178 : decode c_Item_shareOf 178 = .ok (.getfield 57, 3) := by decide +kernel
theorem d_Item_shareOf_181 : decode c_Item_shareOf 181 = .ok (.goto 4, 3) := by decide +kernel
theorem d_Item_shareOf_184 : decode c_Item_shareOf 184 = .ok (.iconst 0, 1) := by decide +kernel
theorem d_Item_shareOf_185 : decode c_Item_shareOf 185 = .ok (.ireturn, 1) := by decide +kernel
theorem d_Item_shareOf_186 : decode c_Item_shareOf 186 = .ok (.iconst 0, 1) := by decide +kernel
theorem d_Item_shareOf_187 : decode c_Item_shareOf 187 = .ok (.ireturn, 1) := by decide +kernel
theorem d_Items_init_0 : decode c_Items_init 0 = .ok (.aload_n 0, 1) := by decide +kernel
theorem d_Items_init_1 : decode c_Items_init 1 = .ok (.invokespecial 3, 3) := by decide +kernel
theorem d_Items_init_4 : decode c_Items_init 4 = .ok (.aload_n 0, 1) := by decide +kernel
theorem d_Items_init_5 : decode c_Items_init 5 = .ok (.bipush 121, 2) := by decide +kernel
theorem d_Items_init_7 : decode c_Items_init 7 = .ok (.anewarray 9, 3) := by decide +kernel
theorem d_Items_init_10 : decode c_Items_init 10 = .ok (.putfield 11, 3) := by decide +kernel
theorem d_Items_init_13 : decode c_Items_init 13 = .ok (.iconst 0, 1) := by decide +kernel
theorem d_Items_init_14 : decode c_Items_init 14 = .ok (.istore_n 1, 1) := by decide +kernel
theorem d_Items_init_15 : decode c_Items_init 15 = .ok (.iload_n 1, 1) := by decide +kernel
theorem d_Items_init_16 : decode c_Items_init 16 = .ok (.aload_n 0, 1) := by decide +kernel
theorem d_Items_init_17 : decode c_Items_init 17 = .ok (.getfield 11, 3) := by decide +kernel
theorem d_Items_init_20 : decode c_Items_init 20 = .ok (.arraylength, 1) := by decide +kernel
theorem d_Items_init_21 : decode c_Items_init 21 = .ok (.if_icmp .ge 22, 3) := by decide +kernel
theorem d_Items_init_24 : decode c_Items_init 24 = .ok (.aload_n 0, 1) := by decide +kernel
theorem d_Items_init_25 : decode c_Items_init 25 = .ok (.getfield 11, 3) := by decide +kernel
theorem d_Items_init_28 : decode c_Items_init 28 = .ok (.iload_n 1, 1) := by decide +kernel
theorem d_Items_init_29 : decode c_Items_init 29 = .ok (.new 9, 3) := by decide +kernel
theorem d_Items_init_32 : decode c_Items_init 32 = .ok (.dup, 1) := by decide +kernel
theorem d_Items_init_33 : decode c_Items_init 33 = .ok (.invokespecial 17, 3) := by decide +kernel
theorem d_Items_init_36 : decode c_Items_init 36 = .ok (.aastore, 1) := by decide +kernel
theorem d_Items_init_37 : decode c_Items_init 37 = .ok (.iinc 1 1, 3) := by decide +kernel
theorem d_Items_init_40 : decode c_Items_init 40 = .ok (.goto (-25), 3) := by decide +kernel
theorem d_Items_init_43 : decode c_Items_init 43 = .ok (.aload_n 0, 1) := by decide +kernel
theorem d_Items_init_44 : decode c_Items_init 44 = .ok (.iconst 0, 1) := by decide +kernel
theorem d_Items_init_45 : decode c_Items_init 45 = .ok (.putfield 18, 3) := by decide +kernel
theorem d_Items_init_48 : decode c_Items_init 48 = .ok (.return_, 1) := by decide +kernel
theorem d_Items_clear_0 : decode c_Items_clear 0 = .ok (.aload_n 0, 1) := by decide +kernel
theorem d_Items_clear_1 : decode c_Items_clear 1 = .ok (.iconst 0, 1) := by decide +kernel
theorem d_Items_clear_2 : decode c_Items_clear 2 = .ok (.putfield 18, 3) := by decide +kernel
theorem d_Items_clear_5 : decode c_Items_clear 5 = .ok (.return_, 1) := by decide +kernel
theorem d_Items_append_0 : decode c_Items_append 0 = .ok (.aload_n 0, 1) := by decide +kernel
theorem d_Items_append_1 : decode c_Items_append 1 = .ok (.getfield 18, 3) := by decide +kernel
theorem d_Items_append_4 : decode c_Items_append 4 = .ok (.aload_n 0, 1) := by decide +kernel
theorem d_Items_append_5 : decode c_Items_append 5 = .ok (.getfield 11, 3) := by decide +kernel
theorem d_Items_append_8 : decode c_Items_append 8 = .ok (.arraylength, 1) := by decide +kernel
theorem d_Items_append_9 : decode c_Items_append 9 = .ok (.if_icmp .ge 32, 3) := by decide +kernel
theorem d_Items_append_12 : decode c_Items_append 12 = .ok (.aload_n 0, 1) := by decide +kernel
theorem d_Items_append_13 : decode c_Items_append 13 = .ok (.getfield 11, 3) := by decide +kernel
theorem d_Items_append_16 : decode c_Items_append 16 = .ok (.aload_n 0, 1) := by decide +kernel
theorem d_Items_append_17 : decode c_Items_append 17 = .ok (.getfield 18, 3) := by decide +kernel
theorem d_Items_append_20 : decode c_Items_append 20 = .ok (.aaload, 1) := by decide +kernel
theorem d_Items_append_21 : decode c_Items_append 21 = .ok (.aload_n 1, 1) := by decide +kernel
theorem d_Items_append_22 : decode c_Items_append 22 = .ok (.iload_n 2, 1) := by decide +kernel
theorem d_Items_append_23 : decode c_Items_append 23 = .ok (.iload_n 3, 1) := by decide +kernel
theorem d_Items_append_24 : decode c_Items_append 24 = .ok (.iload 4, 2) := by decide +kernel
theorem d_Items_append_26 : decode c_Items_append 26 = .ok (.iload 5, 2) := by decide +kernel
theorem d_Items_append_28 : decode c_Items_append 28 = .ok (.invokevirtual 22, 3) := by decide +kernel
theorem d_Items_append_31 : decode c_Items_append 31 = .ok (.aload_n 0, 1) := by decide +kernel
theorem d_Items_append_32 : decode c_Items_append 32 = .ok (.dup, 1) := by decide +kernel
theorem d_Items_append_33 : decode c_Items_append 33 = .ok (.getfield 18, 3) := by decide +kernel
theorem d_Items_append_36 : decode c_Items_append 36 = .ok (.iconst 1, 1) := by decide +kernel
theorem d_Items_append_37 : decode c_Items_append 37 = .ok (.iadd, 1) := by decide +kernel
theorem d_Items_append_38 : decode c_Items_append 38 = .ok (.putfield 18, 3) := by decide +kernel
theorem d_Items_append_41 : decode c_Items_append 41 = .ok (.return_, 1) := by decide +kernel
theorem d_Items_itemAt_0 : decode c_Items_itemAt 0 = .ok (.iload_n 1, 1) := by decide +kernel
theorem d_Items_itemAt_1 : decode c_Items_itemAt 1 = .ok (.ifCond .lt 20, 3) := by decide +kernel
theorem d_Items_itemAt_4 : decode c_Items_itemAt 4 = .ok (.iload_n 1, 1) := by decide +kernel
theorem d_Items_itemAt_5 : decode c_Items_itemAt 5 = .ok (.aload_n 0, 1) := by decide +kernel
theorem d_Items_itemAt_6 : decode c_Items_itemAt 6 = .ok (.getfield 18, 3) := by decide +kernel
theorem d_Items_itemAt_9 : decode c_Items_itemAt 9 = .ok (.if_icmp .ge 12, 3) := by decide +kernel
theorem d_Items_itemAt_12 : decode c_Items_itemAt 12 = .ok (.aload_n 0, 1) := by decide +kernel
theorem d_Items_itemAt_13 : decode c_Items_itemAt 13 = .ok (.getfield 11, 3) := by decide +kernel
theorem d_Items_itemAt_16 : decode c_Items_itemAt 16 = .ok (.iload_n 1, 1) := by decide +kernel
theorem d_Items_itemAt_17 : decode c_Items_itemAt 17 = .ok (.aaload, 1) := by decide +kernel
theorem d_Items_itemAt_18 : decode c_Items_itemAt 18 = .ok (.goto 4, 3) := by decide +kernel
theorem d_Items_itemAt_21 : decode c_Items_itemAt 21 = .ok (.aconst_null, 1) := by decide +kernel
theorem d_Items_itemAt_22 : decode c_Items_itemAt 22 = .ok (.areturn, 1) := by decide +kernel
theorem d_Items_nearestAhead_0 : decode c_Items_nearestAhead 0 = .ok (.iload_n 3, 1) := by decide +kernel
theorem d_Items_nearestAhead_1 : decode c_Items_nearestAhead 1 = .ok (.aload_n 0, 1) := by decide +kernel
theorem d_Items_nearestAhead_2 : decode c_Items_nearestAhead 2 = .ok (.getfield 18, 3) := by decide +kernel
theorem d_Items_nearestAhead_5 : decode c_Items_nearestAhead 5 = .ok (.invokestatic 26, 3) := by decide +kernel
theorem d_Items_nearestAhead_8 : decode c_Items_nearestAhead 8 = .ok (.iconst 1, 1) := by decide +kernel
theorem d_Items_nearestAhead_9 : decode c_Items_nearestAhead 9 = .ok (.isub, 1) := by decide +kernel
theorem d_Items_nearestAhead_10 : decode c_Items_nearestAhead 10 = .ok (.istore 4, 2) := by decide +kernel
theorem d_Items_nearestAhead_12 : decode c_Items_nearestAhead 12 = .ok (.iload 4, 2) := by decide +kernel
theorem d_Items_nearestAhead_14 : decode c_Items_nearestAhead 14 = .ok (.ifCond .lt 45, 3) := by decide +kernel
theorem d_Items_nearestAhead_17 : decode c_Items_nearestAhead 17 = .ok (.aload_n 0, 1) := by decide +kernel
theorem d_Items_nearestAhead_18 : decode c_Items_nearestAhead 18 = .ok (.getfield 11, 3) := by decide +kernel
theorem d_Items_nearestAhead_21 : decode c_Items_nearestAhead 21 = .ok (.iload 4, 2) := by decide +kernel
theorem d_Items_nearestAhead_23 : decode c_Items_nearestAhead 23 = .ok (.aaload, 1) := by decide +kernel
theorem d_Items_nearestAhead_24 : decode c_Items_nearestAhead 24 = .ok (.getfield 32, 3) := by decide +kernel
theorem d_Items_nearestAhead_27 : decode c_Items_nearestAhead 27 = .ok (.iload_n 1, 1) := by decide +kernel
theorem d_Items_nearestAhead_28 : decode c_Items_nearestAhead 28 = .ok (.if_icmp .ne 25, 3) := by decide +kernel
theorem d_Items_nearestAhead_31 : decode c_Items_nearestAhead 31 = .ok (.aload_n 0, 1) := by decide +kernel
theorem d_Items_nearestAhead_32 : decode c_Items_nearestAhead 32 = .ok (.getfield 11, 3) := by decide +kernel
theorem d_Items_nearestAhead_35 : decode c_Items_nearestAhead 35 = .ok (.iload 4, 2) := by decide +kernel
theorem d_Items_nearestAhead_37 : decode c_Items_nearestAhead 37 = .ok (.aaload, 1) := by decide +kernel
theorem d_Items_nearestAhead_38 : decode c_Items_nearestAhead 38 = .ok (.getfield 35, 3) := by decide +kernel
theorem d_Items_nearestAhead_41 : decode c_Items_nearestAhead 41 = .ok (.iload_n 2, 1) := by decide +kernel
theorem d_Items_nearestAhead_42 : decode c_Items_nearestAhead 42 = .ok (.if_icmp .ne 11, 3) := by decide +kernel
theorem d_Items_nearestAhead_45 : decode c_Items_nearestAhead 45 = .ok (.aload_n 0, 1) := by decide +kernel
theorem d_Items_nearestAhead_46 : decode c_Items_nearestAhead 46 = .ok (.getfield 11, 3) := by decide +kernel
theorem d_Items_nearestAhead_49 : decode c_Items_nearestAhead 49 = .ok (.iload 4, 2) := by decide +kernel
theorem d_Items_nearestAhead_51 : decode c_Items_nearestAhead 51 = .ok (.aaload, 1) := by decide +kernel
theorem d_Items_nearestAhead_52 : decode c_Items_nearestAhead 52 = .ok (.areturn, 1) := by decide +kernel
theorem d_Items_nearestAhead_53 : decode c_Items_nearestAhead 53 = .ok (.iinc 4 (-1), 3) := by decide +kernel
theorem d_Items_nearestAhead_56 : decode c_Items_nearestAhead 56 = .ok (.goto (-44), 3) := by decide +kernel
theorem d_Items_nearestAhead_59 : decode c_Items_nearestAhead 59 = .ok (.aconst_null, 1) := by decide +kernel
theorem d_Items_nearestAhead_60 : decode c_Items_nearestAhead 60 = .ok (.areturn, 1) := by decide +kernel
theorem d_Items_nearestBehind_0 : decode c_Items_nearestBehind 0 = .ok (.iload_n 3, 1) := by decide +kernel
theorem d_Items_nearestBehind_1 : decode c_Items_nearestBehind 1 = .ok (.iconst (-1), 1) := by decide +kernel
theorem d_Items_nearestBehind_2 : decode c_Items_nearestBehind 2 = .ok (.invokestatic 38, 3) := by decide +kernel
theorem d_Items_nearestBehind_5 : decode c_Items_nearestBehind 5 = .ok (.iconst 1, 1) := by decide +kernel
theorem d_Items_nearestBehind_6 : decode c_Items_nearestBehind 6 = .ok (.iadd, 1) := by decide +kernel
theorem d_Items_nearestBehind_7 : decode c_Items_nearestBehind 7 = .ok (.istore 4, 2) := by decide +kernel
theorem d_Items_nearestBehind_9 : decode c_Items_nearestBehind 9 = .ok (.iload 4, 2) := by decide +kernel
theorem d_Items_nearestBehind_11 : decode c_Items_nearestBehind 11 = .ok (.aload_n 0, 1) := by decide +kernel
theorem d_Items_nearestBehind_12 : decode c_Items_nearestBehind 12 = .ok (.getfield 18, 3) := by decide +kernel
theorem d_Items_nearestBehind_15 : decode c_Items_nearestBehind 15 = .ok (.if_icmp .ge 45, 3) := by decide +kernel
theorem d_Items_nearestBehind_18 : decode c_Items_nearestBehind 18 = .ok (.aload_n 0, 1) := by decide +kernel
theorem d_Items_nearestBehind_19 : decode c_Items_nearestBehind 19 = .ok (.getfield 11, 3) := by decide +kernel
theorem d_Items_nearestBehind_22 : decode c_Items_nearestBehind 22 = .ok (.iload 4, 2) := by decide +kernel
theorem d_Items_nearestBehind_24 : decode c_Items_nearestBehind 24 = .ok (.aaload, 1) := by decide +kernel
theorem d_Items_nearestBehind_25 : decode c_Items_nearestBehind 25 = .ok (.getfield 32, 3) := by decide +kernel
theorem d_Items_nearestBehind_28 : decode c_Items_nearestBehind 28 = .ok (.iload_n 1, 1) := by decide +kernel
theorem d_Items_nearestBehind_29 : decode c_Items_nearestBehind 29 = .ok (.if_icmp .ne 25, 3) := by decide +kernel
theorem d_Items_nearestBehind_32 : decode c_Items_nearestBehind 32 = .ok (.aload_n 0, 1) := by decide +kernel
theorem d_Items_nearestBehind_33 : decode c_Items_nearestBehind 33 = .ok (.getfield 11, 3) := by decide +kernel
theorem d_Items_nearestBehind_36 : decode c_Items_nearestBehind 36 = .ok (.iload 4, 2) := by decide +kernel
theorem d_Items_nearestBehind_38 : decode c_Items_nearestBehind 38 = .ok (.aaload, 1) := by decide +kernel
theorem d_Items_nearestBehind_39 : decode c_Items_nearestBehind 39 = .ok (.getfield 35, 3) := by decide +kernel
theorem d_Items_nearestBehind_42 : decode c_Items_nearestBehind 42 = .ok (.iload_n 2, 1) := by decide +kernel
theorem d_Items_nearestBehind_43 : decode c_Items_nearestBehind 43 = .ok (.if_icmp .ne 11, 3) := by decide +kernel
theorem d_Items_nearestBehind_46 : decode c_Items_nearestBehind 46 = .ok (.aload_n 0, 1) := by decide +kernel
theorem d_Items_nearestBehind_47 : decode c_Items_nearestBehind 47 = .ok (.getfield 11, 3) := by decide +kernel
theorem d_Items_nearestBehind_50 : decode c_Items_nearestBehind 50 = .ok (.iload 4, 2) := by decide +kernel
theorem d_Items_nearestBehind_52 : decode c_Items_nearestBehind 52 = .ok (.aaload, 1) := by decide +kernel
theorem d_Items_nearestBehind_53 : decode c_Items_nearestBehind 53 = .ok (.areturn, 1) := by decide +kernel
theorem d_Items_nearestBehind_54 : decode c_Items_nearestBehind 54 = .ok (.iinc 4 1, 3) := by decide +kernel
theorem d_Items_nearestBehind_57 : decode c_Items_nearestBehind 57 = .ok (.goto (-48), 3) := by decide +kernel
theorem d_Items_nearestBehind_60 : decode c_Items_nearestBehind 60 = .ok (.aconst_null, 1) := by decide +kernel
theorem d_Items_nearestBehind_61 : decode c_Items_nearestBehind 61 = .ok (.areturn, 1) := by decide +kernel
theorem d_Items_giverOf_0 : decode c_Items_giverOf 0 = .ok (.iload_n 1, 1) := by decide +kernel
theorem d_Items_giverOf_1 : decode c_Items_giverOf 1 = .ok (.bipush 9, 2) := by decide +kernel
theorem d_Items_giverOf_3 : decode c_Items_giverOf 3 = .ok (.if_icmp .le 13, 3) := by decide +kernel
theorem d_Items_giverOf_6 : decode c_Items_giverOf 6 = .ok (.aload_n 0, 1) := by decide +kernel
theorem d_Items_giverOf_7 : decode c_Items_giverOf 7 = .ok (.iconst 0, 1) := by decide +kernel
theorem d_Items_giverOf_8 : decode c_Items_giverOf 8 = .ok (.iload_n 1, 1) := by decide +kernel
theorem d_Items_giverOf_9 : decode c_Items_giverOf 9 = .ok (.iconst 2, 1) := by decide +kernel
theorem d_Items_giverOf_10 : decode c_Items_giverOf 10 = .ok (.isub, 1) := by decide +kernel
theorem d_Items_giverOf_11 : decode c_Items_giverOf 11 = .ok (.iload_n 2, 1) := by decide +kernel
theorem d_Items_giverOf_12 : decode c_Items_giverOf 12 = .ok (.invokevirtual 41, 3) := by decide +kernel
theorem d_Items_giverOf_15 : decode c_Items_giverOf 15 = .ok (.areturn, 1) := by decide +kernel
theorem d_Items_giverOf_16 : decode c_Items_giverOf 16 = .ok (.aload_n 0, 1) := by decide +kernel
theorem d_Items_giverOf_17 : decode c_Items_giverOf 17 = .ok (.iconst 0, 1) := by decide +kernel
theorem d_Items_giverOf_18 : decode c_Items_giverOf 18 = .ok (.iload_n 1, 1) := by decide +kernel
theorem d_Items_giverOf_19 : decode c_Items_giverOf 19 = .ok (.iload_n 2, 1) := by decide +kernel
theorem d_Items_giverOf_20 : decode c_Items_giverOf 20 = .ok (.invokevirtual 45, 3) := by decide +kernel
theorem d_Items_giverOf_23 : decode c_Items_giverOf 23 = .ok (.astore_n 3, 1) := by decide +kernel
theorem d_Items_giverOf_24 : decode c_Items_giverOf 24 = .ok (.aload_n 3, 1) := by decide +kernel
theorem d_Items_giverOf_25 : decode c_Items_giverOf 25 = .ok (.ifnonnull 17, 3) := by decide +kernel
theorem d_Items_giverOf_28 : decode c_Items_giverOf 28 = .ok (.iload_n 1, 1) := by decide +kernel
theorem d_Items_giverOf_29 : decode c_Items_giverOf 29 = .ok (.bipush 8, 2) := by decide +kernel
theorem d_Items_giverOf_31 : decode c_Items_giverOf 31 = .ok (.if_icmp .ge 11, 3) := by decide +kernel
theorem d_Items_giverOf_34 : decode c_Items_giverOf 34 = .ok (.aload_n 0, 1) := by decide +kernel
theorem d_Items_giverOf_35 : decode c_Items_giverOf 35 = .ok (.iconst 0, 1) := by decide +kernel
theorem d_Items_giverOf_36 : decode c_Items_giverOf 36 = .ok (.iload_n 1, 1) := by decide +kernel
theorem d_Items_giverOf_37 : decode c_Items_giverOf 37 = .ok (.iload_n 2, 1) := by decide +kernel
theorem d_Items_giverOf_38 : decode c_Items_giverOf 38 = .ok (.invokevirtual 41, 3) := by decide +kernel
theorem d_Items_giverOf_41 : decode c_Items_giverOf 41 = .ok (.astore_n 3, 1) := by decide +kernel
theorem d_Items_giverOf_42 : decode c_Items_giverOf 42 = .ok (.aload_n 3, 1) := by decide +kernel
theorem d_Items_giverOf_43 : decode c_Items_giverOf 43 = .ok (.ifnonnull 17, 3) := by decide +kernel
theorem d_Items_giverOf_46 : decode c_Items_giverOf 46 = .ok (.iload_n 1, 1) := by decide +kernel
theorem d_Items_giverOf_47 : decode c_Items_giverOf 47 = .ok (.bipush 8, 2) := by decide +kernel
theorem d_Items_giverOf_49 : decode c_Items_giverOf 49 = .ok (.if_icmp .ge 11, 3) := by decide +kernel
theorem d_Items_giverOf_52 : decode c_Items_giverOf 52 = .ok (.aload_n 0, 1) := by decide +kernel
theorem d_Items_giverOf_53 : decode c_Items_giverOf 53 = .ok (.iconst 1, 1) := by decide +kernel
theorem d_Items_giverOf_54 : decode c_Items_giverOf 54 = .ok (.iload_n 1, 1) := by decide +kernel
theorem d_Items_giverOf_55 : decode c_Items_giverOf 55 = .ok (.iload_n 2, 1) := by decide +kernel
theorem d_Items_giverOf_56 : decode c_Items_giverOf 56 = .ok (.invokevirtual 45, 3) := by decide +kernel
theorem d_Items_giverOf_59 : decode c_Items_giverOf 59 = .ok (.astore_n 3, 1) := by decide +kernel
theorem d_Items_giverOf_60 : decode c_Items_giverOf 60 = .ok (.aload_n 3, 1) := by decide +kernel
theorem d_Items_giverOf_61 : decode c_Items_giverOf 61 = .ok (.areturn, 1) := by decide +kernel
theorem d_Items_linkValues_0 : decode c_Items_linkValues 0 = .ok (.iconst 0, 1) := by decide +kernel
theorem d_Items_linkValues_1 : decode c_Items_linkValues 1 = .ok (.istore_n 1, 1) := by decide +kernel
theorem d_Items_linkValues_2 : decode c_Items_linkValues 2 = .ok (.iload_n 1, 1) := by decide +kernel
theorem d_Items_linkValues_3 : decode c_Items_linkValues 3 = .ok (.aload_n 0, 1) := by decide +kernel
theorem d_Items_linkValues_4 : decode c_Items_linkValues 4 = .ok (.getfield 18, 3) := by decide +kernel
theorem d_Items_linkValues_7 : decode c_Items_linkValues 7 = .ok (.if_icmp .ge 108, 3) := by decide +kernel
theorem d_Items_linkValues_10 : decode c_Items_linkValues 10 = .ok (.aload_n 0, 1) := by decide +kernel
theorem d_Items_linkValues_11 : decode c_Items_linkValues 11 = .ok (.getfield 11, 3) := by decide +kernel
theorem d_Items_linkValues_14 : decode c_Items_linkValues 14 = .ok (.iload_n 1, 1) := by decide +kernel
theorem d_Items_linkValues_15 : decode c_Items_linkValues 15 = .ok (.aaload, 1) := by decide +kernel
theorem d_Items_linkValues_16 : decode c_Items_linkValues 16 = .ok (.astore_n 2, 1) := by decide +kernel
theorem d_Items_linkValues_17 : decode c_Items_linkValues 17 = .ok (.aload_n 2, 1) := by decide +kernel
theorem d_Items_linkValues_18 : decode c_Items_linkValues 18 = .ok (.invokevirtual 48, 3) := by decide +kernel
theorem d_Items_linkValues_21 : decode c_Items_linkValues 21 = .ok (.ifCond .ne 6, 3) := by decide +kernel
theorem d_Items_linkValues_24 : decode c_Items_linkValues 24 = .ok (.goto 85, 3) := by decide +kernel
theorem d_Items_linkValues_27 : decode c_Items_linkValues 27 = .ok (.aload_n 2, 1) := by decide +kernel
theorem d_Items_linkValues_28 : decode c_Items_linkValues 28 = .ok (.aload_n 2, 1) := by decide +kernel
theorem d_Items_linkValues_29 : decode c_Items_linkValues 29 = .ok (.getfield 35, 3) := by decide +kernel
theorem d_Items_linkValues_32 : decode c_Items_linkValues 32 = .ok (.iconst (-1), 1) := by decide +kernel
theorem d_Items_linkValues_33 : decode c_Items_linkValues 33 = .ok (.if_icmp .ne 7, 3) := by decide +kernel
theorem d_Items_linkValues_36 : decode c_Items_linkValues 36 = .ok (.aconst_null, 1) := by decide +kernel
theorem d_Items_linkValues_37 : decode c_Items_linkValues 37 = .ok (.goto 12, 3) := by decide +kernel
theorem d_Items_linkValues_40 : decode c_Items_linkValues 40 = .ok (.aload_n 0, 1) := by decide +kernel
theorem d_Items_linkValues_41 : decode c_Items_linkValues 41 = .ok (.aload_n 2, 1) := by decide +kernel
theorem d_Items_linkValues_42 : decode c_Items_linkValues 42 = .ok (.getfield 35, 3) := by decide +kernel
theorem d_Items_linkValues_45 : decode c_Items_linkValues 45 = .ok (.iload_n 1, 1) := by decide +kernel
theorem d_Items_linkValues_46 : decode c_Items_linkValues 46 = .ok (.invokevirtual 52, 3) := by decide +kernel
theorem d_Items_linkValues_49 : decode c_Items_linkValues 49 = .ok (.putfield 56, 3) := by decide +kernel
theorem d_Items_linkValues_52 : decode c_Items_linkValues 52 = .ok (.aload_n 2, 1) := by decide +kernel
theorem d_Items_linkValues_53 : decode c_Items_linkValues 53 = .ok (.aload_n 2, 1) := by decide +kernel
theorem d_Items_linkValues_54 : decode c_Items_linkValues 54 = .ok (.getfield 60, 3) := by decide +kernel
theorem d_Items_linkValues_57 : decode c_Items_linkValues 57 = .ok (.iconst (-1), 1) := by decide +kernel
theorem d_Items_linkValues_58 : decode c_Items_linkValues 58 = .ok (.if_icmp .ne 7, 3) := by decide +kernel
theorem d_Items_linkValues_61 : decode c_Items_linkValues 61 = .ok (.aconst_null, 1) := by decide +kernel
theorem d_Items_linkValues_62 : decode c_Items_linkValues 62 = .ok (.goto 12, 3) := by decide +kernel
theorem d_Items_linkValues_65 : decode c_Items_linkValues 65 = .ok (.aload_n 0, 1) := by decide +kernel
theorem d_Items_linkValues_66 : decode c_Items_linkValues 66 = .ok (.aload_n 2, 1) := by decide +kernel
theorem d_Items_linkValues_67 : decode c_Items_linkValues 67 = .ok (.getfield 60, 3) := by decide +kernel
theorem d_Items_linkValues_70 : decode c_Items_linkValues 70 = .ok (.iload_n 1, 1) := by decide +kernel
theorem d_Items_linkValues_71 : decode c_Items_linkValues 71 = .ok (.invokevirtual 52, 3) := by decide +kernel
theorem d_Items_linkValues_74 : decode c_Items_linkValues 74 = .ok (.putfield 63, 3) := by decide +kernel
theorem d_Items_linkValues_77 : decode c_Items_linkValues 77 = .ok (.aload_n 2, 1) := by decide +kernel
theorem d_Items_linkValues_78 : decode c_Items_linkValues 78 = .ok (.getfield 35, 3) := by decide +kernel
theorem d_Items_linkValues_81 : decode c_Items_linkValues 81 = .ok (.iconst (-1), 1) := by decide +kernel
theorem d_Items_linkValues_82 : decode c_Items_linkValues 82 = .ok (.if_icmp .eq 10, 3) := by decide +kernel
theorem d_Items_linkValues_85 : decode c_Items_linkValues 85 = .ok (.aload_n 2, 1) := by decide +kernel
theorem d_Items_linkValues_86 : decode c_Items_linkValues 86 = .ok (.getfield 56, 3) := by decide +kernel
theorem d_Items_linkValues_89 : decode c_Items_linkValues 89 = .ok (.ifnull 18, 3) := by decide +kernel
theorem d_Items_linkValues_92 : decode c_Items_linkValues 92 = .ok (.aload_n 2, 1) := by decide +kernel
theorem d_Items_linkValues_93 : decode c_Items_linkValues 93 = .ok (.getfield 60, 3) := by decide +kernel
theorem d_Items_linkValues_96 : decode c_Items_linkValues 96 = .ok (.iconst (-1), 1) := by decide +kernel
theorem d_Items_linkValues_97 : decode c_Items_linkValues 97 = .ok (.if_icmp .eq 12, 3) := by decide +kernel
theorem d_Items_linkValues_100 : decode c_Items_linkValues 100 = .ok (.aload_n 2, 1) := by decide +kernel
theorem d_Items_linkValues_101 : decode c_Items_linkValues 101 = .ok (.getfield 63, 3) := by decide +kernel
theorem d_Items_linkValues_104 : decode c_Items_linkValues 104 = .ok (.ifnonnull 5, 3) := by decide +kernel
theorem d_Items_linkValues_107 : decode c_Items_linkValues 107 = .ok (.iload_n 1, 1) := by decide +kernel
theorem d_Items_linkValues_108 : decode c_Items_linkValues 108 = .ok (.ireturn, 1) := by decide +kernel
theorem d_Items_linkValues_109 : decode c_Items_linkValues 109 = .ok (.iinc 1 1, 3) := by decide +kernel
theorem d_Items_linkValues_112 : decode c_Items_linkValues 112 = .ok (.goto (-110), 3) := by decide +kernel
theorem d_Items_linkValues_115 : decode c_Items_linkValues 115 = .ok (.iconst (-1), 1) := by decide +kernel
theorem d_Items_linkValues_116 : decode c_Items_linkValues 116 = .ok (.ireturn, 1) := by decide +kernel
theorem d_Items_linkPools_0 : decode c_Items_linkPools 0 = .ok (.iconst 0, 1) := by decide +kernel
theorem d_Items_linkPools_1 : decode c_Items_linkPools 1 = .ok (.istore_n 1, 1) := by decide +kernel
theorem d_Items_linkPools_2 : decode c_Items_linkPools 2 = .ok (.iconst 0, 1) := by decide +kernel
theorem d_Items_linkPools_3 : decode c_Items_linkPools 3 = .ok (.istore_n 2, 1) := by decide +kernel
theorem d_Items_linkPools_4 : decode c_Items_linkPools 4 = .ok (.iconst 0, 1) := by decide +kernel
theorem d_Items_linkPools_5 : decode c_Items_linkPools 5 = .ok (.istore_n 3, 1) := by decide +kernel
theorem d_Items_linkPools_6 : decode c_Items_linkPools 6 = .ok (.iload_n 3, 1) := by decide +kernel
theorem d_Items_linkPools_7 : decode c_Items_linkPools 7 = .ok (.aload_n 0, 1) := by decide +kernel
theorem d_Items_linkPools_8 : decode c_Items_linkPools 8 = .ok (.getfield 18, 3) := by decide +kernel
theorem d_Items_linkPools_11 : decode c_Items_linkPools 11 = .ok (.if_icmp .ge 105, 3) := by decide +kernel
theorem d_Items_linkPools_14 : decode c_Items_linkPools 14 = .ok (.aload_n 0, 1) := by decide +kernel
theorem d_Items_linkPools_15 : decode c_Items_linkPools 15 = .ok (.getfield 11, 3) := by decide +kernel
theorem d_Items_linkPools_18 : decode c_Items_linkPools 18 = .ok (.iload_n 3, 1) := by decide +kernel
theorem d_Items_linkPools_19 : decode c_Items_linkPools 19 = .ok (.aaload, 1) := by decide +kernel
theorem d_Items_linkPools_20 : decode c_Items_linkPools 20 = .ok (.getfield 32, 3) := by decide +kernel
theorem d_Items_linkPools_23 : decode c_Items_linkPools 23 = .ok (.iconst 5, 1) := by decide +kernel
theorem d_Items_linkPools_24 : decode c_Items_linkPools 24 = .ok (.if_icmp .ne 50, 3) := by decide +kernel
theorem d_Items_linkPools_27 : decode c_Items_linkPools 27 = .ok (.aload_n 0, 1) := by decide +kernel
theorem d_Items_linkPools_28 : decode c_Items_linkPools 28 = .ok (.iload_n 1, 1) := by decide +kernel
theorem d_Items_linkPools_29 : decode c_Items_linkPools 29 = .ok (.iload_n 3, 1) := by decide +kernel
theorem d_Items_linkPools_30 : decode c_Items_linkPools 30 = .ok (.invokevirtual 66, 3) := by decide +kernel
theorem d_Items_linkPools_33 : decode c_Items_linkPools 33 = .ok (.astore 4, 2) := by decide +kernel
theorem d_Items_linkPools_35 : decode c_Items_linkPools 35 = .ok (.aload_n 0, 1) := by decide +kernel
theorem d_Items_linkPools_36 : decode c_Items_linkPools 36 = .ok (.getfield 11, 3) := by decide +kernel
theorem d_Items_linkPools_39 : decode c_Items_linkPools 39 = .ok (.iload_n 3, 1) := by decide +kernel
theorem d_Items_linkPools_40 : decode c_Items_linkPools 40 = .ok (.aaload, 1) := by decide +kernel
theorem d_Items_linkPools_41 : decode c_Items_linkPools 41 = .ok (.aload 4, 2) := by decide +kernel
theorem d_Items_linkPools_43 : decode c_Items_linkPools 43 = .ok (.ifnonnull 7, 3) := by decide +kernel
theorem d_Items_linkPools_46 : decode c_Items_linkPools 46 = .ok (.iload_n 2, 1) := by decide +kernel
theorem d_Items_linkPools_47 : decode c_Items_linkPools 47 = .ok (.goto 8, 3) := by decide +kernel
theorem d_Items_linkPools_50 : decode c_Items_linkPools 50 = .ok (.aload 4, 2) := by decide +kernel
theorem d_Items_linkPools_52 : decode c_Items_linkPools 52 = .ok (.getfield 69, 3) := by decide +kernel
theorem d_Items_linkPools_55 : decode c_Items_linkPools 55 = .ok (.putfield 69, 3) := by decide +kernel
theorem d_Items_linkPools_58 : decode c_Items_linkPools 58 = .ok (.iload_n 2, 1) := by decide +kernel
theorem d_Items_linkPools_59 : decode c_Items_linkPools 59 = .ok (.aload 4, 2) := by decide +kernel
theorem d_Items_linkPools_61 : decode c_Items_linkPools 61 = .ok (.ifnonnull 7, 3) := by decide +kernel
theorem d_Items_linkPools_64 : decode c_Items_linkPools 64 = .ok (.iconst 1, 1) := by decide +kernel
theorem d_Items_linkPools_65 : decode c_Items_linkPools 65 = .ok (.goto 4, 3) := by decide +kernel
theorem d_Items_linkPools_68 : decode c_Items_linkPools 68 = .ok (.iconst 0, 1) := by decide +kernel
theorem d_Items_linkPools_69 : decode c_Items_linkPools 69 = .ok (.iadd, 1) := by decide +kernel
theorem d_Items_linkPools_70 : decode c_Items_linkPools 70 = .ok (.istore_n 2, 1) := by decide +kernel
theorem d_Items_linkPools_71 : decode c_Items_linkPools 71 = .ok (.goto 39, 3) := by decide +kernel
theorem d_Items_linkPools_74 : decode c_Items_linkPools 74 = .ok (.aload_n 0, 1) := by decide +kernel
theorem d_Items_linkPools_75 : decode c_Items_linkPools 75 = .ok (.getfield 11, 3) := by decide +kernel
theorem d_Items_linkPools_78 : decode c_Items_linkPools 78 = .ok (.iload_n 3, 1) := by decide +kernel
theorem d_Items_linkPools_79 : decode c_Items_linkPools 79 = .ok (.aaload, 1) := by decide +kernel
theorem d_Items_linkPools_80 : decode c_Items_linkPools 80 = .ok (.getfield 32, 3) := by decide +kernel
theorem d_Items_linkPools_83 : decode c_Items_linkPools 83 = .ok (.bipush 6, 2) := by decide +kernel
theorem d_Items_linkPools_85 : decode c_Items_linkPools 85 = .ok (.if_icmp .ne 25, 3) := by decide +kernel
theorem d_Items_linkPools_88 : decode c_Items_linkPools 88 = .ok (.aload_n 0, 1) := by decide +kernel
theorem d_Items_linkPools_89 : decode c_Items_linkPools 89 = .ok (.getfield 11, 3) := by decide +kernel
theorem d_Items_linkPools_92 : decode c_Items_linkPools 92 = .ok (.iload_n 3, 1) := by decide +kernel
theorem d_Items_linkPools_93 : decode c_Items_linkPools 93 = .ok (.aaload, 1) := by decide +kernel
theorem d_Items_linkPools_94 : decode c_Items_linkPools 94 = .ok (.iload_n 2, 1) := by decide +kernel
theorem d_Items_linkPools_95 : decode c_Items_linkPools 95 = .ok (.putfield 72, 3) := by decide +kernel
theorem d_Items_linkPools_98 : decode c_Items_linkPools 98 = .ok (.aload_n 0, 1) := by decide +kernel
theorem d_Items_linkPools_99 : decode c_Items_linkPools 99 = .ok (.iload_n 1, 1) := by decide +kernel
theorem d_Items_linkPools_100 : decode c_Items_linkPools 100 = .ok (.iload_n 3, 1) := by decide +kernel
theorem d_Items_linkPools_101 : decode c_Items_linkPools 101 = .ok (.invokevirtual 75, 3) := by decide +kernel
theorem d_Items_linkPools_104 : decode c_Items_linkPools 104 = .ok (.iload_n 3, 1) := by decide +kernel
theorem d_Items_linkPools_105 : decode c_Items_linkPools 105 = .ok (.iconst 1, 1) := by decide +kernel
theorem d_Items_linkPools_106 : decode c_Items_linkPools 106 = .ok (.iadd, 1) := by decide +kernel
theorem d_Items_linkPools_107 : decode c_Items_linkPools 107 = .ok (.istore_n 1, 1) := by decide +kernel
theorem d_Items_linkPools_108 : decode c_Items_linkPools 108 = .ok (.iconst 0, 1) := by decide +kernel
theorem d_Items_linkPools_109 : decode c_Items_linkPools 109 = .ok (.istore_n 2, 1) := by decide +kernel
theorem d_Items_linkPools_110 : decode c_Items_linkPools 110 = .ok (.iinc 3 1, 3) := by decide +kernel
theorem d_Items_linkPools_113 : decode c_Items_linkPools 113 = .ok (.goto (-107), 3) := by decide +kernel
theorem d_Items_linkPools_116 : decode c_Items_linkPools 116 = .ok (.return_, 1) := by decide +kernel
theorem d_Items_loadOfSame_0 : decode c_Items_loadOfSame 0 = .ok (.iload_n 1, 1) := by decide +kernel
theorem d_Items_loadOfSame_1 : decode c_Items_loadOfSame 1 = .ok (.istore_n 3, 1) := by decide +kernel
theorem d_Items_loadOfSame_2 : decode c_Items_loadOfSame 2 = .ok (.iload_n 3, 1) := by decide +kernel
theorem d_Items_loadOfSame_3 : decode c_Items_loadOfSame 3 = .ok (.iload_n 2, 1) := by decide +kernel
theorem d_Items_loadOfSame_4 : decode c_Items_loadOfSame 4 = .ok (.if_icmp .ge 50, 3) := by decide +kernel
theorem d_Items_loadOfSame_7 : decode c_Items_loadOfSame 7 = .ok (.aload_n 0, 1) := by decide +kernel
theorem d_Items_loadOfSame_8 : decode c_Items_loadOfSame 8 = .ok (.getfield 11, 3) := by decide +kernel
theorem d_Items_loadOfSame_11 : decode c_Items_loadOfSame 11 = .ok (.iload_n 3, 1) := by decide +kernel
theorem d_Items_loadOfSame_12 : decode c_Items_loadOfSame 12 = .ok (.aaload, 1) := by decide +kernel
theorem d_Items_loadOfSame_13 : decode c_Items_loadOfSame 13 = .ok (.getfield 32, 3) := by decide +kernel
theorem d_Items_loadOfSame_16 : decode c_Items_loadOfSame 16 = .ok (.iconst 5, 1) := by decide +kernel
theorem d_Items_loadOfSame_17 : decode c_Items_loadOfSame 17 = .ok (.if_icmp .ne 31, 3) := by decide +kernel
theorem d_Items_loadOfSame_20 : decode c_Items_loadOfSame 20 = .ok (.aload_n 0, 1) := by decide +kernel
theorem d_Items_loadOfSame_21 : decode c_Items_loadOfSame 21 = .ok (.getfield 11, 3) := by decide +kernel
theorem d_Items_loadOfSame_24 : decode c_Items_loadOfSame 24 = .ok (.iload_n 3, 1) := by decide +kernel
theorem d_Items_loadOfSame_25 : decode c_Items_loadOfSame 25 = .ok (.aaload, 1) := by decide +kernel
theorem d_Items_loadOfSame_26 : decode c_Items_loadOfSame 26 = .ok (.getfield 79, 3) := by decide +kernel
theorem d_Items_loadOfSame_29 : decode c_Items_loadOfSame 29 = .ok (.aload_n 0, 1) := by decide +kernel
theorem d_Items_loadOfSame_30 : decode c_Items_loadOfSame 30 = .ok (.getfield 11, 3) := by decide +kernel
theorem d_Items_loadOfSame_33 : decode c_Items_loadOfSame 33 = .ok (.iload_n 2, 1) := by decide +kernel
theorem d_Items_loadOfSame_34 : decode c_Items_loadOfSame 34 = .ok (.aaload, 1) := by decide +kernel
theorem d_Items_loadOfSame_35 : decode c_Items_loadOfSame 35 = .ok (.getfield 79, 3) := by decide +kernel
theorem d_Items_loadOfSame_38 : decode c_Items_loadOfSame 38 = .ok (.if_icmp .ne 10, 3) := by decide +kernel
theorem d_Items_loadOfSame_41 : decode c_Items_loadOfSame 41 = .ok (.aload_n 0, 1) := by decide +kernel
theorem d_Items_loadOfSame_42 : decode c_Items_loadOfSame 42 = .ok (.getfield 11, 3) := by decide +kernel
theorem d_Items_loadOfSame_45 : decode c_Items_loadOfSame 45 = .ok (.iload_n 3, 1) := by decide +kernel
theorem d_Items_loadOfSame_46 : decode c_Items_loadOfSame 46 = .ok (.aaload, 1) := by decide +kernel
theorem d_Items_loadOfSame_47 : decode c_Items_loadOfSame 47 = .ok (.areturn, 1) := by decide +kernel
theorem d_Items_loadOfSame_48 : decode c_Items_loadOfSame 48 = .ok (.iinc 3 1, 3) := by decide +kernel
theorem d_Items_loadOfSame_51 : decode c_Items_loadOfSame 51 = .ok (.goto (-49), 3) := by decide +kernel
theorem d_Items_loadOfSame_54 : decode c_Items_loadOfSame 54 = .ok (.aconst_null, 1) := by decide +kernel
theorem d_Items_loadOfSame_55 : decode c_Items_loadOfSame 55 = .ok (.areturn, 1) := by decide +kernel
theorem d_Items_tellPool_0 : decode c_Items_tellPool 0 = .ok (.iload_n 1, 1) := by decide +kernel
theorem d_Items_tellPool_1 : decode c_Items_tellPool 1 = .ok (.istore_n 3, 1) := by decide +kernel
theorem d_Items_tellPool_2 : decode c_Items_tellPool 2 = .ok (.iload_n 3, 1) := by decide +kernel
theorem d_Items_tellPool_3 : decode c_Items_tellPool 3 = .ok (.iload_n 2, 1) := by decide +kernel
theorem d_Items_tellPool_4 : decode c_Items_tellPool 4 = .ok (.if_icmp .ge 41, 3) := by decide +kernel
theorem d_Items_tellPool_7 : decode c_Items_tellPool 7 = .ok (.aload_n 0, 1) := by decide +kernel
theorem d_Items_tellPool_8 : decode c_Items_tellPool 8 = .ok (.getfield 11, 3) := by decide +kernel
theorem d_Items_tellPool_11 : decode c_Items_tellPool 11 = .ok (.iload_n 3, 1) := by decide +kernel
theorem d_Items_tellPool_12 : decode c_Items_tellPool 12 = .ok (.aaload, 1) := by decide +kernel
theorem d_Items_tellPool_13 : decode c_Items_tellPool 13 = .ok (.aload_n 0, 1) := by decide +kernel
theorem d_Items_tellPool_14 : decode c_Items_tellPool 14 = .ok (.getfield 11, 3) := by decide +kernel
theorem d_Items_tellPool_17 : decode c_Items_tellPool 17 = .ok (.iload_n 3, 1) := by decide +kernel
theorem d_Items_tellPool_18 : decode c_Items_tellPool 18 = .ok (.aaload, 1) := by decide +kernel
theorem d_Items_tellPool_19 : decode c_Items_tellPool 19 = .ok (.getfield 32, 3) := by decide +kernel
theorem d_Items_tellPool_22 : decode c_Items_tellPool 22 = .ok (.iconst 5, 1) := by decide +kernel
theorem d_Items_tellPool_23 : decode c_Items_tellPool 23 = .ok (.if_icmp .ne 12, 3) := by decide +kernel
theorem d_Items_tellPool_26 : decode c_Items_tellPool 26 = .ok (.aload_n 0, 1) := by decide +kernel
theorem d_Items_tellPool_27 : decode c_Items_tellPool 27 = .ok (.getfield 11, 3) := by decide +kernel
theorem d_Items_tellPool_30 : decode c_Items_tellPool 30 = .ok (.iload_n 2, 1) := by decide +kernel
theorem d_Items_tellPool_31 : decode c_Items_tellPool 31 = .ok (.aaload, 1) := by decide +kernel
theorem d_Items_tellPool_32 : decode c_Items_tellPool 32 = .ok (.goto 4, 3) := by decide +kernel
theorem d_Items_tellPool_35 : decode c_Items_tellPool 35 = .ok (.aconst_null, 1) := by decide +kernel
theorem d_Items_tellPool_36 : decode c_Items_tellPool 36 = .ok (.putfield 82, 3) := by decide +kernel
theorem d_Items_tellPool_39 : decode c_Items_tellPool 39 = .ok (.iinc 3 1, 3) := by decide +kernel
theorem d_Items_tellPool_42 : decode c_Items_tellPool 42 = .ok (.goto (-40), 3) := by decide +kernel
theorem d_Items_tellPool_45 : decode c_Items_tellPool 45 = .ok (.return_, 1) := by decide +kernel
theorem d_Items_place_0 : decode c_Items_place 0 = .ok (.iconst 0, 1) := by decide +kernel
theorem d_Items_place_1 : decode c_Items_place 1 = .ok (.istore_n 1, 1) := by decide +kernel
theorem d_Items_place_2 : decode c_Items_place 2 = .ok (.iconst 0, 1) := by decide +kernel
theorem d_Items_place_3 : decode c_Items_place 3 = .ok (.istore_n 2, 1) := by decide +kernel
theorem d_Items_place_4 : decode c_Items_place 4 = .ok (.iload_n 2, 1) := by decide +kernel
theorem d_Items_place_5 : decode c_Items_place 5 = .ok (.aload_n 0, 1) := by decide +kernel
theorem d_Items_place_6 : decode c_Items_place 6 = .ok (.getfield 18, 3) := by decide +kernel
theorem d_Items_place_9 : decode c_Items_place 9 = .ok (.if_icmp .ge 84, 3) := by decide +kernel
theorem d_Items_place_12 : decode c_Items_place 12 = .ok (.aload_n 0, 1) := by decide +kernel
theorem d_Items_place_13 : decode c_Items_place 13 = .ok (.getfield 11, 3) := by decide +kernel
theorem d_Items_place_16 : decode c_Items_place 16 = .ok (.iload_n 2, 1) := by decide +kernel
theorem d_Items_place_17 : decode c_Items_place 17 = .ok (.aaload, 1) := by decide +kernel
theorem d_Items_place_18 : decode c_Items_place 18 = .ok (.iload_n 1, 1) := by decide +kernel
theorem d_Items_place_19 : decode c_Items_place 19 = .ok (.putfield 85, 3) := by decide +kernel
theorem d_Items_place_22 : decode c_Items_place 22 = .ok (.aload_n 0, 1) := by decide +kernel
theorem d_Items_place_23 : decode c_Items_place 23 = .ok (.getfield 11, 3) := by decide +kernel
theorem d_Items_place_26 : decode c_Items_place 26 = .ok (.iload_n 2, 1) := by decide +kernel
theorem d_Items_place_27 : decode c_Items_place 27 = .ok (.aaload, 1) := by decide +kernel
theorem d_Items_place_28 : decode c_Items_place 28 = .ok (.aload_n 0, 1) := by decide +kernel
theorem d_Items_place_29 : decode c_Items_place 29 = .ok (.getfield 11, 3) := by decide +kernel
theorem d_Items_place_32 : decode c_Items_place 32 = .ok (.iload_n 2, 1) := by decide +kernel
theorem d_Items_place_33 : decode c_Items_place 33 = .ok (.aaload, 1) := by decide +kernel
theorem d_Items_place_34 : decode c_Items_place 34 = .ok (.iload_n 1, 1) := by decide +kernel
theorem d_Items_place_35 : decode c_Items_place 35 = .ok (.invokevirtual 88, 3) := by decide +kernel
theorem d_Items_place_38 : decode c_Items_place 38 = .ok (.putfield 92, 3) := by decide +kernel
theorem d_Items_place_41 : decode c_Items_place 41 = .ok (.aload_n 0, 1) := by decide +kernel
theorem d_Items_place_42 : decode c_Items_place 42 = .ok (.getfield 11, 3) := by decide +kernel
theorem d_Items_place_45 : decode c_Items_place 45 = .ok (.iload_n 2, 1) := by decide +kernel
theorem d_Items_place_46 : decode c_Items_place 46 = .ok (.aaload, 1) := by decide +kernel
theorem d_Items_place_47 : decode c_Items_place 47 = .ok (.aload_n 0, 1) := by decide +kernel
theorem d_Items_place_48 : decode c_Items_place 48 = .ok (.getfield 11, 3) := by decide +kernel
theorem d_Items_place_51 : decode c_Items_place 51 = .ok (.iload_n 2, 1) := by decide +kernel
theorem d_Items_place_52 : decode c_Items_place 52 = .ok (.aaload, 1) := by decide +kernel
theorem d_Items_place_53 : decode c_Items_place 53 = .ok (.getfield 32, 3) := by decide +kernel
theorem d_Items_place_56 : decode c_Items_place 56 = .ok (.ifCond .ne 7, 3) := by decide +kernel
theorem d_Items_place_59 : decode c_Items_place 59 = .ok (.iload_n 1, 1) := by decide +kernel
theorem d_Items_place_60 : decode c_Items_place 60 = .ok (.goto 12, 3) := by decide +kernel
theorem d_Items_place_63 : decode c_Items_place 63 = .ok (.aload_n 0, 1) := by decide +kernel
theorem d_Items_place_64 : decode c_Items_place 64 = .ok (.getfield 11, 3) := by decide +kernel
theorem d_Items_place_67 : decode c_Items_place 67 = .ok (.iload_n 2, 1) := by decide +kernel
theorem d_Items_place_68 : decode c_Items_place 68 = .ok (.aaload, 1) := by decide +kernel
theorem d_Items_place_69 : decode c_Items_place 69 = .ok (.getfield 95, 3) := by decide +kernel
theorem d_Items_place_72 : decode c_Items_place 72 = .ok (.putfield 95, 3) := by decide +kernel
theorem d_Items_place_75 : decode c_Items_place 75 = .ok (.iload_n 1, 1) := by decide +kernel
theorem d_Items_place_76 : decode c_Items_place 76 = .ok (.aload_n 0, 1) := by decide +kernel
theorem d_Items_place_77 : decode c_Items_place 77 = .ok (.getfield 11, 3) := by decide +kernel
theorem d_Items_place_80 : decode c_Items_place 80 = .ok (.iload_n 2, 1) := by decide +kernel
theorem d_Items_place_81 : decode c_Items_place 81 = .ok (.aaload, 1) := by decide +kernel
theorem d_Items_place_82 : decode c_Items_place 82 = .ok (.getfield 92, 3) := by decide +kernel
theorem d_Items_place_85 : decode c_Items_place 85 = .ok (.iadd, 1) := by decide +kernel
theorem d_Items_place_86 : decode c_Items_place 86 = .ok (.istore_n 1, 1) := by decide +kernel
theorem d_Items_place_87 : decode c_Items_place 87 = .ok (.iinc 2 1, 3) := by decide +kernel
theorem d_Items_place_90 : decode c_Items_place 90 = .ok (.goto (-86), 3) := by decide +kernel
theorem d_Items_place_93 : decode c_Items_place 93 = .ok (.return_, 1) := by decide +kernel
theorem d_Items_lengthen_0 : decode c_Items_lengthen 0 = .ok (.iconst 0, 1) := by decide +kernel
theorem d_Items_lengthen_1 : decode c_Items_lengthen 1 = .ok (.istore_n 1, 1) := by decide +kernel
theorem d_Items_lengthen_2 : decode c_Items_lengthen 2 = .ok (.iconst 0, 1) := by decide +kernel
theorem d_Items_lengthen_3 : decode c_Items_lengthen 3 = .ok (.istore_n 2, 1) := by decide +kernel
theorem d_Items_lengthen_4 : decode c_Items_lengthen 4 = .ok (.iload_n 2, 1) := by decide +kernel
theorem d_Items_lengthen_5 : decode c_Items_lengthen 5 = .ok (.aload_n 0, 1) := by decide +kernel
theorem d_Items_lengthen_6 : decode c_Items_lengthen 6 = .ok (.getfield 18, 3) := by decide +kernel
theorem d_Items_lengthen_9 : decode c_Items_lengthen 9 = .ok (.if_icmp .ge 57, 3) := by decide +kernel
theorem d_Items_lengthen_12 : decode c_Items_lengthen 12 = .ok (.aload_n 0, 1) := by decide +kernel
theorem d_Items_lengthen_13 : decode c_Items_lengthen 13 = .ok (.getfield 11, 3) := by decide +kernel
theorem d_Items_lengthen_16 : decode c_Items_lengthen 16 = .ok (.iload_n 2, 1) := by decide +kernel
theorem d_Items_lengthen_17 : decode c_Items_lengthen 17 = .ok (.aaload, 1) := by decide +kernel
theorem d_Items_lengthen_18 : decode c_Items_lengthen 18 = .ok (.invokevirtual 98, 3) := by decide +kernel
theorem d_Items_lengthen_21 : decode c_Items_lengthen 21 = .ok (.ifCond .eq 39, 3) := by decide +kernel
theorem d_Items_lengthen_24 : decode c_Items_lengthen 24 = .ok (.aload_n 0, 1) := by decide +kernel
theorem d_Items_lengthen_25 : decode c_Items_lengthen 25 = .ok (.getfield 11, 3) := by decide +kernel
theorem d_Items_lengthen_28 : decode c_Items_lengthen 28 = .ok (.iload_n 2, 1) := by decide +kernel
theorem d_Items_lengthen_29 : decode c_Items_lengthen 29 = .ok (.aaload, 1) := by decide +kernel
theorem d_Items_lengthen_30 : decode c_Items_lengthen 30 = .ok (.getfield 101, 3) := by decide +kernel
theorem d_Items_lengthen_33 : decode c_Items_lengthen 33 = .ok (.ifCond .ne 27, 3) := by decide +kernel
theorem d_Items_lengthen_36 : decode c_Items_lengthen 36 = .ok (.aload_n 0, 1) := by decide +kernel
theorem d_Items_lengthen_37 : decode c_Items_lengthen 37 = .ok (.getfield 11, 3) := by decide +kernel
theorem d_Items_lengthen_40 : decode c_Items_lengthen 40 = .ok (.iload_n 2, 1) := by decide +kernel
theorem d_Items_lengthen_41 : decode c_Items_lengthen 41 = .ok (.aaload, 1) := by decide +kernel
theorem d_Items_lengthen_42 : decode c_Items_lengthen 42 = .ok (.invokevirtual 105, 3) := by decide +kernel
theorem d_Items_lengthen_45 : decode c_Items_lengthen 45 = .ok (.ifCond .ne 15, 3) := by decide +kernel
theorem d_Items_lengthen_48 : decode c_Items_lengthen 48 = .ok (.aload_n 0, 1) := by decide +kernel
theorem d_Items_lengthen_49 : decode c_Items_lengthen 49 = .ok (.getfield 11, 3) := by decide +kernel
theorem d_Items_lengthen_52 : decode c_Items_lengthen 52 = .ok (.iload_n 2, 1) := by decide +kernel
theorem d_Items_lengthen_53 : decode c_Items_lengthen 53 = .ok (.aaload, 1) := by decide +kernel
theorem d_Items_lengthen_54 : decode c_Items_lengthen 54 = .ok (.iconst 1, 1) := by decide +kernel
theorem d_Items_lengthen_55 : decode c_Items_lengthen 55 = .ok (.putfield 101, 3) := by decide +kernel
theorem d_Items_lengthen_58 : decode c_Items_lengthen 58 = .ok (.iconst 1, 1) := by decide +kernel
theorem d_Items_lengthen_59 : decode c_Items_lengthen 59 = .ok (.istore_n 1, 1) := by decide +kernel
theorem d_Items_lengthen_60 : decode c_Items_lengthen 60 = .ok (.iinc 2 1, 3) := by decide +kernel
theorem d_Items_lengthen_63 : decode c_Items_lengthen 63 = .ok (.goto (-59), 3) := by decide +kernel
theorem d_Items_lengthen_66 : decode c_Items_lengthen 66 = .ok (.iload_n 1, 1) := by decide +kernel
theorem d_Items_lengthen_67 : decode c_Items_lengthen 67 = .ok (.ireturn, 1) := by decide +kernel
theorem d_Items_firstFarLoad_0 : decode c_Items_firstFarLoad 0 = .ok (.iconst 0, 1) := by decide +kernel
theorem d_Items_firstFarLoad_1 : decode c_Items_firstFarLoad 1 = .ok (.istore_n 1, 1) := by decide +kernel
theorem d_Items_firstFarLoad_2 : decode c_Items_firstFarLoad 2 = .ok (.iload_n 1, 1) := by decide +kernel
theorem d_Items_firstFarLoad_3 : decode c_Items_firstFarLoad 3 = .ok (.aload_n 0, 1) := by decide +kernel
theorem d_Items_firstFarLoad_4 : decode c_Items_firstFarLoad 4 = .ok (.getfield 18, 3) := by decide +kernel
theorem d_Items_firstFarLoad_7 : decode c_Items_firstFarLoad 7 = .ok (.if_icmp .ge 38, 3) := by decide +kernel
theorem d_Items_firstFarLoad_10 : decode c_Items_firstFarLoad 10 = .ok (.aload_n 0, 1) := by decide +kernel
theorem d_Items_firstFarLoad_11 : decode c_Items_firstFarLoad 11 = .ok (.getfield 11, 3) := by decide +kernel
theorem d_Items_firstFarLoad_14 : decode c_Items_firstFarLoad 14 = .ok (.iload_n 1, 1) := by decide +kernel
theorem d_Items_firstFarLoad_15 : decode c_Items_firstFarLoad 15 = .ok (.aaload, 1) := by decide +kernel
theorem d_Items_firstFarLoad_16 : decode c_Items_firstFarLoad 16 = .ok (.getfield 32, 3) := by decide +kernel
theorem d_Items_firstFarLoad_19 : decode c_Items_firstFarLoad 19 = .ok (.iconst 5, 1) := by decide +kernel
theorem d_Items_firstFarLoad_20 : decode c_Items_firstFarLoad 20 = .ok (.if_icmp .ne 19, 3) := by decide +kernel
theorem d_Items_firstFarLoad_23 : decode c_Items_firstFarLoad 23 = .ok (.aload_n 0, 1) := by decide +kernel
theorem d_Items_firstFarLoad_24 : decode c_Items_firstFarLoad 24 = .ok (.getfield 11, 3) := by decide +kernel
theorem d_Items_firstFarLoad_27 : decode c_Items_firstFarLoad 27 = .ok (.iload_n 1, 1) := by decide +kernel
theorem d_Items_firstFarLoad_28 : decode c_Items_firstFarLoad 28 = .ok (.aaload, 1) := by decide +kernel
theorem d_Items_firstFarLoad_29 : decode c_Items_firstFarLoad 29 = .ok (.invokevirtual 108, 3) := by decide +kernel
theorem d_Items_firstFarLoad_32 : decode c_Items_firstFarLoad 32 = .ok (.bipush 16, 2) := by decide +kernel
theorem d_Items_firstFarLoad_34 : decode c_Items_firstFarLoad 34 = .ok (.if_icmp .le 5, 3) := by decide +kernel
theorem d_Items_firstFarLoad_37 : decode c_Items_firstFarLoad 37 = .ok (.iload_n 1, 1) := by decide +kernel
theorem d_Items_firstFarLoad_38 : decode c_Items_firstFarLoad 38 = .ok (.ireturn, 1) := by decide +kernel
theorem d_Items_firstFarLoad_39 : decode c_Items_firstFarLoad 39 = .ok (.iinc 1 1, 3) := by decide +kernel
theorem d_Items_firstFarLoad_42 : decode c_Items_firstFarLoad 42 = .ok (.goto (-40), 3) := by decide +kernel
theorem d_Items_firstFarLoad_45 : decode c_Items_firstFarLoad 45 = .ok (.iconst (-1), 1) := by decide +kernel
theorem d_Items_firstFarLoad_46 : decode c_Items_firstFarLoad 46 = .ok (.ireturn, 1) := by decide +kernel
theorem d_Items_countNeedlesslyLong_0 : decode c_Items_countNeedlesslyLong 0 = .ok (.iconst 0, 1) := by decide +kernel
theorem d_Items_countNeedlesslyLong_1 : decode c_Items_countNeedlesslyLong 1 = .ok (.istore_n 1, 1) := by decide +kernel
theorem d_Items_countNeedlesslyLong_2 : decode c_Items_countNeedlesslyLong 2 = .ok (.iconst 0, 1) := by decide +kernel
theorem d_Items_countNeedlesslyLong_3 : decode c_Items_countNeedlesslyLong 3 = .ok (.istore_n 2, 1) := by decide +kernel
theorem d_Items_countNeedlesslyLong_4 : decode c_Items_countNeedlesslyLong 4 = .ok (.iload_n 2, 1) := by decide +kernel
theorem d_Items_countNeedlesslyLong_5 : decode c_Items_countNeedlesslyLong 5 = .ok (.aload_n 0, 1) := by decide +kernel
theorem d_Items_countNeedlesslyLong_6 : decode c_Items_countNeedlesslyLong 6 = .ok (.getfield 18, 3) := by decide +kernel
theorem d_Items_countNeedlesslyLong_9 : decode c_Items_countNeedlesslyLong 9 = .ok (.if_icmp .ge 65, 3) := by decide +kernel
theorem d_Items_countNeedlesslyLong_12 : decode c_Items_countNeedlesslyLong 12 = .ok (.aload_n 0, 1) := by decide +kernel
theorem d_Items_countNeedlesslyLong_13 : decode c_Items_countNeedlesslyLong 13 = .ok (.getfield 11, 3) := by decide +kernel
theorem d_Items_countNeedlesslyLong_16 : decode c_Items_countNeedlesslyLong 16 = .ok (.iload_n 2, 1) := by decide +kernel
theorem d_Items_countNeedlesslyLong_17 : decode c_Items_countNeedlesslyLong 17 = .ok (.aaload, 1) := by decide +kernel
theorem d_Items_countNeedlesslyLong_18 : decode c_Items_countNeedlesslyLong 18 = .ok (.getfield 101, 3) := by decide +kernel
theorem d_Items_countNeedlesslyLong_21 : decode c_Items_countNeedlesslyLong 21 = .ok (.ifCond .eq 47, 3) := by decide +kernel
theorem d_Items_countNeedlesslyLong_24 : decode c_Items_countNeedlesslyLong 24 = .ok (.aload_n 0, 1) := by decide +kernel
theorem d_Items_countNeedlesslyLong_25 : decode c_Items_countNeedlesslyLong 25 = .ok (.getfield 11, 3) := by decide +kernel
theorem d_Items_countNeedlesslyLong_28 : decode c_Items_countNeedlesslyLong 28 = .ok (.iload_n 2, 1) := by decide +kernel
theorem d_Items_countNeedlesslyLong_29 : decode c_Items_countNeedlesslyLong 29 = .ok (.aaload, 1) := by decide +kernel
theorem d_Items_countNeedlesslyLong_30 : decode c_Items_countNeedlesslyLong 30 = .ok (.iconst 0, 1) := by decide +kernel
theorem d_Items_countNeedlesslyLong_31 : decode c_Items_countNeedlesslyLong 31 = .ok (.putfield 101, 3) := by decide +kernel
theorem d_Items_countNeedlesslyLong_34 : decode c_Items_countNeedlesslyLong 34 = .ok (.aload_n 0, 1) := by decide +kernel
theorem d_Items_countNeedlesslyLong_35 : decode c_Items_countNeedlesslyLong 35 = .ok (.invokevirtual 112, 3) := by decide +kernel
theorem d_Items_countNeedlesslyLong_38 : decode c_Items_countNeedlesslyLong 38 = .ok (.iload_n 1, 1) := by decide +kernel
theorem d_Items_countNeedlesslyLong_39 : decode c_Items_countNeedlesslyLong 39 = .ok (.aload_n 0, 1) := by decide +kernel
theorem d_Items_countNeedlesslyLong_40 : decode c_Items_countNeedlesslyLong 40 = .ok (.getfield 11, 3) := by decide +kernel
theorem d_Items_countNeedlesslyLong_43 : decode c_Items_countNeedlesslyLong 43 = .ok (.iload_n 2, 1) := by decide +kernel
theorem d_Items_countNeedlesslyLong_44 : decode c_Items_countNeedlesslyLong 44 = .ok (.aaload, 1) := by decide +kernel
theorem d_Items_countNeedlesslyLong_45 : decode c_Items_countNeedlesslyLong 45 = .ok (.invokevirtual 105, 3) := by decide +kernel
theorem d_Items_countNeedlesslyLong_48 : decode c_Items_countNeedlesslyLong 48 = .ok (.ifCond .eq 7, 3) := by decide +kernel
theorem d_Items_countNeedlesslyLong_51 : decode c_Items_countNeedlesslyLong 51 = .ok (.iconst 1, 1) := by decide +kernel
theorem d_Items_countNeedlesslyLong_52 : decode c_Items_countNeedlesslyLong 52 = .ok (.goto 4, 3) := by decide +kernel
theorem d_Items_countNeedlesslyLong_55 : decode c_Items_countNeedlesslyLong 55 = .ok (.iconst 0, 1) := by decide +kernel
theorem d_Items_countNeedlesslyLong_56 : decode c_Items_countNeedlesslyLong 56 = .ok (.iadd, 1) := by decide +kernel
theorem d_Items_countNeedlesslyLong_57 : decode c_Items_countNeedlesslyLong 57 = .ok (.istore_n 1, 1) := by decide +kernel
theorem d_Items_countNeedlesslyLong_58 : decode c_Items_countNeedlesslyLong 58 = .ok (.aload_n 0, 1) := by decide +kernel
theorem d_Items_countNeedlesslyLong_59 : decode c_Items_countNeedlesslyLong 59 = .ok (.getfield 11, 3) := by decide +kernel
theorem d_Items_countNeedlesslyLong_62 : decode c_Items_countNeedlesslyLong 62 = .ok (.iload_n 2, 1) := by decide +kernel
theorem d_Items_countNeedlesslyLong_63 : decode c_Items_countNeedlesslyLong 63 = .ok (.aaload, 1) := by decide +kernel
theorem d_Items_countNeedlesslyLong_64 : decode c_Items_countNeedlesslyLong 64 = .ok (.iconst 1, 1) := by decide +kernel
theorem d_Items_countNeedlesslyLong_65 : decode c_Items_countNeedlesslyLong 65 = .ok (.putfield 101, 3) := by decide +kernel
theorem d_Items_countNeedlesslyLong_68 : decode c_Items_countNeedlesslyLong 68 = .ok (.iinc 2 1, 3) := by decide +kernel
theorem d_Items_countNeedlesslyLong_71 : decode c_Items_countNeedlesslyLong 71 = .ok (.goto (-67), 3) := by decide +kernel
theorem d_Items_countNeedlesslyLong_74 : decode c_Items_countNeedlesslyLong 74 = .ok (.aload_n 0, 1) := by decide +kernel
theorem d_Items_countNeedlesslyLong_75 : decode c_Items_countNeedlesslyLong 75 = .ok (.invokevirtual 112, 3) := by decide +kernel
theorem d_Items_countNeedlesslyLong_78 : decode c_Items_countNeedlesslyLong 78 = .ok (.iload_n 1, 1) := by decide +kernel
theorem d_Items_countNeedlesslyLong_79 : decode c_Items_countNeedlesslyLong 79 = .ok (.ireturn, 1) := by decide +kernel
theorem d_Items_tally_0 : decode c_Items_tally 0 = .ok (.iconst 0, 1) := by decide +kernel
theorem d_Items_tally_1 : decode c_Items_tally 1 = .ok (.istore_n 2, 1) := by decide +kernel
theorem d_Items_tally_2 : decode c_Items_tally 2 = .ok (.iconst 0, 1) := by decide +kernel
theorem d_Items_tally_3 : decode c_Items_tally 3 = .ok (.istore_n 3, 1) := by decide +kernel
theorem d_Items_tally_4 : decode c_Items_tally 4 = .ok (.iload_n 3, 1) := by decide +kernel
theorem d_Items_tally_5 : decode c_Items_tally 5 = .ok (.aload_n 0, 1) := by decide +kernel
theorem d_Items_tally_6 : decode c_Items_tally 6 = .ok (.getfield 18, 3) := by decide +kernel
theorem d_Items_tally_9 : decode c_Items_tally 9 = .ok (.if_icmp .ge 22, 3) := by decide +kernel
theorem d_Items_tally_12 : decode c_Items_tally 12 = .ok (.iload_n 2, 1) := by decide +kernel
theorem d_Items_tally_13 : decode c_Items_tally 13 = .ok (.aload_n 0, 1) := by decide +kernel
theorem d_Items_tally_14 : decode c_Items_tally 14 = .ok (.getfield 11, 3) := by decide +kernel
theorem d_Items_tally_17 : decode c_Items_tally 17 = .ok (.iload_n 3, 1) := by decide +kernel
theorem d_Items_tally_18 : decode c_Items_tally 18 = .ok (.aaload, 1) := by decide +kernel
theorem d_Items_tally_19 : decode c_Items_tally 19 = .ok (.iload_n 1, 1) := by decide +kernel
theorem d_Items_tally_20 : decode c_Items_tally 20 = .ok (.invokevirtual 114, 3) := by decide +kernel
theorem d_Items_tally_23 : decode c_Items_tally 23 = .ok (.iadd, 1) := by decide +kernel
theorem d_Items_tally_24 : decode c_Items_tally 24 = .ok (.istore_n 2, 1) := by decide +kernel
theorem d_Items_tally_25 : decode c_Items_tally 25 = .ok (.iinc 3 1, 3) := by decide +kernel
theorem d_Items_tally_28 : decode c_Items_tally 28 = .ok (.goto (-24), 3) := by decide +kernel
theorem d_Items_tally_31 : decode c_Items_tally 31 = .ok (.iload_n 2, 1) := by decide +kernel
theorem d_Items_tally_32 : decode c_Items_tally 32 = .ok (.ireturn, 1) := by decide +kernel
theorem d_Items_holderOf_0 : decode c_Items_holderOf 0 = .ok (.iconst 0, 1) := by decide +kernel
theorem d_Items_holderOf_1 : decode c_Items_holderOf 1 = .ok (.istore_n 2, 1) := by decide +kernel
theorem d_Items_holderOf_2 : decode c_Items_holderOf 2 = .ok (.iload_n 2, 1) := by decide +kernel
theorem d_Items_holderOf_3 : decode c_Items_holderOf 3 = .ok (.aload_n 0, 1) := by decide +kernel
theorem d_Items_holderOf_4 : decode c_Items_holderOf 4 = .ok (.getfield 18, 3) := by decide +kernel
theorem d_Items_holderOf_7 : decode c_Items_holderOf 7 = .ok (.if_icmp .ge 41, 3) := by decide +kernel
theorem d_Items_holderOf_10 : decode c_Items_holderOf 10 = .ok (.aload_n 0, 1) := by decide +kernel
theorem d_Items_holderOf_11 : decode c_Items_holderOf 11 = .ok (.getfield 11, 3) := by decide +kernel
theorem d_Items_holderOf_14 : decode c_Items_holderOf 14 = .ok (.iload_n 2, 1) := by decide +kernel
theorem d_Items_holderOf_15 : decode c_Items_holderOf 15 = .ok (.aaload, 1) := by decide +kernel
theorem d_Items_holderOf_16 : decode c_Items_holderOf 16 = .ok (.getfield 85, 3) := by decide +kernel
theorem d_Items_holderOf_19 : decode c_Items_holderOf 19 = .ok (.istore_n 3, 1) := by decide +kernel
theorem d_Items_holderOf_20 : decode c_Items_holderOf 20 = .ok (.iload_n 1, 1) := by decide +kernel
theorem d_Items_holderOf_21 : decode c_Items_holderOf 21 = .ok (.iload_n 3, 1) := by decide +kernel
theorem d_Items_holderOf_22 : decode c_Items_holderOf 22 = .ok (.if_icmp .lt 20, 3) := by decide +kernel
theorem d_Items_holderOf_25 : decode c_Items_holderOf 25 = .ok (.iload_n 1, 1) := by decide +kernel
theorem d_Items_holderOf_26 : decode c_Items_holderOf 26 = .ok (.iload_n 3, 1) := by decide +kernel
theorem d_Items_holderOf_27 : decode c_Items_holderOf 27 = .ok (.aload_n 0, 1) := by decide +kernel
theorem d_Items_holderOf_28 : decode c_Items_holderOf 28 = .ok (.getfield 11, 3) := by decide +kernel
theorem d_Items_holderOf_31 : decode c_Items_holderOf 31 = .ok (.iload_n 2, 1) := by decide +kernel
theorem d_Items_holderOf_32 : decode c_Items_holderOf 32 = .ok (.aaload, 1) := by decide +kernel
theorem d_Items_holderOf_33 : decode c_Items_holderOf 33 = .ok (.getfield 92, 3) := by decide +kernel
theorem d_Items_holderOf_36 : decode c_Items_holderOf 36 = .ok (.iadd, 1) := by decide +kernel
theorem d_Items_holderOf_37 : decode c_Items_holderOf 37 = .ok (.if_icmp .ge 5, 3) := by decide +kernel
theorem d_Items_holderOf_40 : decode c_Items_holderOf 40 = .ok (.iload_n 2, 1) := by decide +kernel
theorem d_Items_holderOf_41 : decode c_Items_holderOf 41 = .ok (.ireturn, 1) := by decide +kernel
theorem d_Items_holderOf_42 : decode c_Items_holderOf 42 = .ok (.iinc 2 1, 3) := by decide +kernel
theorem d_Items_holderOf_45 : decode c_Items_holderOf 45 = .ok (.goto (-43), 3) := by decide +kernel
theorem d_Items_holderOf_48 : decode c_Items_holderOf 48 = .ok (.iconst (-1), 1) := by decide +kernel
theorem d_Items_holderOf_49 : decode c_Items_holderOf 49 = .ok (.ireturn, 1) := by decide +kernel
theorem d_Items_firstWith_0 : decode c_Items_firstWith 0 = .ok (.aload_n 0, 1) := by decide +kernel
theorem d_Items_firstWith_1 : decode c_Items_firstWith 1 = .ok (.iload_n 1, 1) := by decide +kernel
theorem d_Items_firstWith_2 : decode c_Items_firstWith 2 = .ok (.invokevirtual 117, 3) := by decide +kernel
theorem d_Items_firstWith_5 : decode c_Items_firstWith 5 = .ok (.iconst (-1), 1) := by decide +kernel
theorem d_Items_firstWith_6 : decode c_Items_firstWith 6 = .ok (.if_icmp .ne 5, 3) := by decide +kernel
theorem d_Items_firstWith_9 : decode c_Items_firstWith 9 = .ok (.iconst (-1), 1) := by decide +kernel
theorem d_Items_firstWith_10 : decode c_Items_firstWith 10 = .ok (.ireturn, 1) := by decide +kernel
theorem d_Items_firstWith_11 : decode c_Items_firstWith 11 = .ok (.iconst 0, 1) := by decide +kernel
theorem d_Items_firstWith_12 : decode c_Items_firstWith 12 = .ok (.istore_n 2, 1) := by decide +kernel
theorem d_Items_firstWith_13 : decode c_Items_firstWith 13 = .ok (.iload_n 2, 1) := by decide +kernel
theorem d_Items_firstWith_14 : decode c_Items_firstWith 14 = .ok (.aload_n 0, 1) := by decide +kernel
theorem d_Items_firstWith_15 : decode c_Items_firstWith 15 = .ok (.getfield 18, 3) := by decide +kernel
theorem d_Items_firstWith_18 : decode c_Items_firstWith 18 = .ok (.if_icmp .ge 24, 3) := by decide +kernel
theorem d_Items_firstWith_21 : decode c_Items_firstWith 21 = .ok (.aload_n 0, 1) := by decide +kernel
theorem d_Items_firstWith_22 : decode c_Items_firstWith 22 = .ok (.getfield 11, 3) := by decide +kernel
theorem d_Items_firstWith_25 : decode c_Items_firstWith 25 = .ok (.iload_n 2, 1) := by decide +kernel
theorem d_Items_firstWith_26 : decode c_Items_firstWith 26 = .ok (.aaload, 1) := by decide +kernel
theorem d_Items_firstWith_27 : decode c_Items_firstWith 27 = .ok (.getfield 85, 3) := by decide +kernel
theorem d_Items_firstWith_30 : decode c_Items_firstWith 30 = .ok (.iload_n 1, 1) := by decide +kernel
theorem d_Items_firstWith_31 : decode c_Items_firstWith 31 = .ok (.if_icmp .ne 5, 3) := by decide +kernel
theorem d_Items_firstWith_34 : decode c_Items_firstWith 34 = .ok (.iload_n 2, 1) := by decide +kernel
theorem d_Items_firstWith_35 : decode c_Items_firstWith 35 = .ok (.ireturn, 1) := by decide +kernel
theorem d_Items_firstWith_36 : decode c_Items_firstWith 36 = .ok (.iinc 2 1, 3) := by decide +kernel
theorem d_Items_firstWith_39 : decode c_Items_firstWith 39 = .ok (.goto (-26), 3) := by decide +kernel
theorem d_Items_firstWith_42 : decode c_Items_firstWith 42 = .ok (.iconst (-1), 1) := by decide +kernel
theorem d_Items_firstWith_43 : decode c_Items_firstWith 43 = .ok (.ireturn, 1) := by decide +kernel
theorem d_Items_wordOf_0 : decode c_Items_wordOf 0 = .ok (.aload_n 1, 1) := by decide +kernel
theorem d_Items_wordOf_1 : decode c_Items_wordOf 1 = .ok (.getfield 32, 3) := by decide +kernel
theorem d_Items_wordOf_4 : decode c_Items_wordOf 4 = .ok (.tableswitch 65 2 6 #[36, 41, 41, 47, 58], 36) := by decide +kernel
theorem d_Items_wordOf_40 : decode c_Items_wordOf 40 = .ok (.aload_n 1, 1) := by decide +kernel
theorem d_Items_wordOf_41 : decode c_Items_wordOf 41 = .ok (.invokevirtual 120, 3) := by decide +kernel
theorem d_Items_wordOf_44 : decode c_Items_wordOf 44 = .ok (.ireturn, 1) := by decide +kernel
theorem d_Items_wordOf_45 : decode c_Items_wordOf 45 = .ok (.aload_n 1, 1) := by decide +kernel
theorem d_Items_wordOf_46 : decode c_Items_wordOf 46 = .ok (.iload_n 2, 1) := by decide +kernel
theorem d_Items_wordOf_47 : decode c_Items_wordOf 47 = .ok (.invokevirtual 123, 3) := by decide +kernel
theorem d_Items_wordOf_50 : decode c_Items_wordOf 50 = .ok (.ireturn, 1) := by decide +kernel
theorem d_Items_wordOf_51 : decode c_Items_wordOf 51 = .ok (.sipush 5000, 3) := by decide +kernel
theorem d_Items_wordOf_54 : decode c_Items_wordOf 54 = .ok (.aload_n 1, 1) := by decide +kernel
theorem d_Items_wordOf_55 : decode c_Items_wordOf 55 = .ok (.invokevirtual 108, 3) := by decide +kernel
theorem d_Items_wordOf_58 : decode c_Items_wordOf 58 = .ok (.iadd, 1) := by decide +kernel
theorem d_Items_wordOf_59 : decode c_Items_wordOf 59 = .ok (.iconst 1, 1) := by decide +kernel
theorem d_Items_wordOf_60 : decode c_Items_wordOf 60 = .ok (.isub, 1) := by decide +kernel
theorem d_Items_wordOf_61 : decode c_Items_wordOf 61 = .ok (.ireturn, 1) := by decide +kernel
theorem d_Items_wordOf_62 : decode c_Items_wordOf 62 = .ok (.aload_n 0, 1) := by decide +kernel
theorem d_Items_wordOf_63 : decode c_Items_wordOf 63 = .ok (.aload_n 1, 1) := by decide +kernel
theorem d_Items_wordOf_64 : decode c_Items_wordOf 64 = .ok (.iload_n 2, 1) := by decide +kernel
theorem d_Items_wordOf_65 : decode c_Items_wordOf 65 = .ok (.invokevirtual 126, 3) := by decide +kernel
theorem d_Items_wordOf_68 : decode c_Items_wordOf 68 = .ok (.ireturn, 1) := by decide +kernel
theorem d_Items_wordOf_69 : decode c_Items_wordOf 69 = .ok (.iconst 0, 1) := by decide +kernel
theorem d_Items_wordOf_70 : decode c_Items_wordOf 70 = .ok (.ireturn, 1) := by decide +kernel
theorem d_Items_wordOfPool_0 : decode c_Items_wordOfPool 0 = .ok (.iconst 0, 1) := by decide +kernel
theorem d_Items_wordOfPool_1 : decode c_Items_wordOfPool 1 = .ok (.istore_n 3, 1) := by decide +kernel
theorem d_Items_wordOfPool_2 : decode c_Items_wordOfPool 2 = .ok (.iload_n 3, 1) := by decide +kernel
theorem d_Items_wordOfPool_3 : decode c_Items_wordOfPool 3 = .ok (.aload_n 0, 1) := by decide +kernel
theorem d_Items_wordOfPool_4 : decode c_Items_wordOfPool 4 = .ok (.getfield 18, 3) := by decide +kernel
theorem d_Items_wordOfPool_7 : decode c_Items_wordOfPool 7 = .ok (.if_icmp .ge 45, 3) := by decide +kernel
theorem d_Items_wordOfPool_10 : decode c_Items_wordOfPool 10 = .ok (.aload_n 0, 1) := by decide +kernel
theorem d_Items_wordOfPool_11 : decode c_Items_wordOfPool 11 = .ok (.getfield 11, 3) := by decide +kernel
theorem d_Items_wordOfPool_14 : decode c_Items_wordOfPool 14 = .ok (.iload_n 3, 1) := by decide +kernel
theorem d_Items_wordOfPool_15 : decode c_Items_wordOfPool 15 = .ok (.aaload, 1) := by decide +kernel
theorem d_Items_wordOfPool_16 : decode c_Items_wordOfPool 16 = .ok (.getfield 82, 3) := by decide +kernel
theorem d_Items_wordOfPool_19 : decode c_Items_wordOfPool 19 = .ok (.aload_n 1, 1) := by decide +kernel
theorem d_Items_wordOfPool_20 : decode c_Items_wordOfPool 20 = .ok (.if_acmp .ne 26, 3) := by decide +kernel
theorem d_Items_wordOfPool_23 : decode c_Items_wordOfPool 23 = .ok (.aload_n 0, 1) := by decide +kernel
theorem d_Items_wordOfPool_24 : decode c_Items_wordOfPool 24 = .ok (.getfield 11, 3) := by decide +kernel
theorem d_Items_wordOfPool_27 : decode c_Items_wordOfPool 27 = .ok (.iload_n 3, 1) := by decide +kernel
theorem d_Items_wordOfPool_28 : decode c_Items_wordOfPool 28 = .ok (.aaload, 1) := by decide +kernel
theorem d_Items_wordOfPool_29 : decode c_Items_wordOfPool 29 = .ok (.getfield 69, 3) := by decide +kernel
theorem d_Items_wordOfPool_32 : decode c_Items_wordOfPool 32 = .ok (.iload_n 2, 1) := by decide +kernel
theorem d_Items_wordOfPool_33 : decode c_Items_wordOfPool 33 = .ok (.if_icmp .ne 13, 3) := by decide +kernel
theorem d_Items_wordOfPool_36 : decode c_Items_wordOfPool 36 = .ok (.aload_n 0, 1) := by decide +kernel
theorem d_Items_wordOfPool_37 : decode c_Items_wordOfPool 37 = .ok (.getfield 11, 3) := by decide +kernel
theorem d_Items_wordOfPool_40 : decode c_Items_wordOfPool 40 = .ok (.iload_n 3, 1) := by decide +kernel
theorem d_Items_wordOfPool_41 : decode c_Items_wordOfPool 41 = .ok (.aaload, 1) := by decide +kernel
theorem d_Items_wordOfPool_42 : decode c_Items_wordOfPool 42 = .ok (.getfield 79, 3) := by decide +kernel
theorem d_Items_wordOfPool_45 : decode c_Items_wordOfPool 45 = .ok (.ireturn, 1) := by decide +kernel
theorem d_Items_wordOfPool_46 : decode c_Items_wordOfPool 46 = .ok (.iinc 3 1, 3) := by decide +kernel
theorem d_Items_wordOfPool_49 : decode c_Items_wordOfPool 49 = .ok (.goto (-47), 3) := by decide +kernel
theorem d_Items_wordOfPool_52 : decode c_Items_wordOfPool 52 = .ok (.iconst 0, 1) := by decide +kernel
theorem d_Items_wordOfPool_53 : decode c_Items_wordOfPool 53 = .ok (.ireturn, 1) := by decide +kernel
theorem d_Line_init_0 : decode c_Line_init 0 = .ok (.aload_n 0, 1) := by decide +kernel
theorem d_Line_init_1 : decode c_Line_init 1 = .ok (.invokespecial 3, 3) := by decide +kernel
theorem d_Line_init_4 : decode c_Line_init 4 = .ok (.aload_n 0, 1) := by decide +kernel
theorem d_Line_init_5 : decode c_Line_init 5 = .ok (.iload_n 1, 1) := by decide +kernel
theorem d_Line_init_6 : decode c_Line_init 6 = .ok (.putfield 9, 3) := by decide +kernel
theorem d_Line_init_9 : decode c_Line_init 9 = .ok (.aload_n 0, 1) := by decide +kernel
theorem d_Line_init_10 : decode c_Line_init 10 = .ok (.iload_n 2, 1) := by decide +kernel
theorem d_Line_init_11 : decode c_Line_init 11 = .ok (.putfield 15, 3) := by decide +kernel
theorem d_Line_init_14 : decode c_Line_init 14 = .ok (.aload_n 0, 1) := by decide +kernel
theorem d_Line_init_15 : decode c_Line_init 15 = .ok (.iload_n 3, 1) := by decide +kernel
theorem d_Line_init_16 : decode c_Line_init 16 = .ok (.putfield 18, 3) := by decide +kernel
theorem d_Line_init_19 : decode c_Line_init 19 = .ok (.aload_n 0, 1) := by decide +kernel
theorem d_Line_init_20 : decode c_Line_init 20 = .ok (.iload 4, 2) := by decide +kernel
theorem d_Line_init_22 : decode c_Line_init 22 = .ok (.putfield 21, 3) := by decide +kernel
theorem d_Line_init_25 : decode c_Line_init 25 = .ok (.aload_n 0, 1) := by decide +kernel
theorem d_Line_init_26 : decode c_Line_init 26 = .ok (.iload 5, 2) := by decide +kernel
theorem d_Line_init_28 : decode c_Line_init 28 = .ok (.putfield 24, 3) := by decide +kernel
theorem d_Line_init_31 : decode c_Line_init 31 = .ok (.return_, 1) := by decide +kernel
theorem d_Line_isItem_0 : decode c_Line_isItem 0 = .ok (.aload_n 0, 1) := by decide +kernel
theorem d_Line_isItem_1 : decode c_Line_isItem 1 = .ok (.getfield 9, 3) := by decide +kernel
theorem d_Line_isItem_4 : decode c_Line_isItem 4 = .ok (.bipush 8, 2) := by decide +kernel
theorem d_Line_isItem_6 : decode c_Line_isItem 6 = .ok (.if_icmp .eq 25, 3) := by decide +kernel
theorem d_Line_isItem_9 : decode c_Line_isItem 9 = .ok (.aload_n 0, 1) := by decide +kernel
theorem d_Line_isItem_10 : decode c_Line_isItem 10 = .ok (.getfield 9, 3) := by decide +kernel
theorem d_Line_isItem_13 : decode c_Line_isItem 13 = .ok (.bipush 9, 2) := by decide +kernel
theorem d_Line_isItem_15 : decode c_Line_isItem 15 = .ok (.if_icmp .eq 16, 3) := by decide +kernel
theorem d_Line_isItem_18 : decode c_Line_isItem 18 = .ok (.aload_n 0, 1) := by decide +kernel
theorem d_Line_isItem_19 : decode c_Line_isItem 19 = .ok (.getfield 9, 3) := by decide +kernel
theorem d_Line_isItem_22 : decode c_Line_isItem 22 = .ok (.bipush 10, 2) := by decide +kernel
theorem d_Line_isItem_24 : decode c_Line_isItem 24 = .ok (.if_icmp .eq 7, 3) := by decide +kernel
theorem d_Line_isItem_27 : decode c_Line_isItem 27 = .ok (.iconst 1, 1) := by decide +kernel
theorem d_Line_isItem_28 : decode c_Line_isItem 28 = .ok (.goto 4, 3) := by decide +kernel
theorem d_Line_isItem_31 : decode c_Line_isItem 31 = .ok (.iconst 0, 1) := by decide +kernel
theorem d_Line_isItem_32 : decode c_Line_isItem 32 = .ok (.ireturn, 1) := by decide +kernel
theorem d_Line_isAllowed_0 : decode c_Line_isAllowed 0 = .ok (.iload_n 0, 1) := by decide +kernel
theorem d_Line_isAllowed_1 : decode c_Line_isAllowed 1 = .ok (.ifCond .lt 49, 3) := by decide +kernel
theorem d_Line_isAllowed_4 : decode c_Line_isAllowed 4 = .ok (.iload_n 0, 1) := by decide +kernel
theorem d_Line_isAllowed_5 : decode c_Line_isAllowed 5 = .ok (.bipush 10, 2) := by decide +kernel
theorem d_Line_isAllowed_7 : decode c_Line_isAllowed 7 = .ok (.if_icmp .gt 43, 3) := by decide +kernel
theorem d_Line_isAllowed_10 : decode c_Line_isAllowed 10 = .ok (.iload_n 0, 1) := by decide +kernel
theorem d_Line_isAllowed_11 : decode c_Line_isAllowed 11 = .ok (.iload_n 1, 1) := by decide +kernel
theorem d_Line_isAllowed_12 : decode c_Line_isAllowed 12 = .ok (.invokestatic 28, 3) := by decide +kernel
theorem d_Line_isAllowed_15 : decode c_Line_isAllowed 15 = .ok (.ifCond .eq 35, 3) := by decide +kernel
theorem d_Line_isAllowed_18 : decode c_Line_isAllowed 18 = .ok (.iload_n 0, 1) := by decide +kernel
theorem d_Line_isAllowed_19 : decode c_Line_isAllowed 19 = .ok (.iload_n 2, 1) := by decide +kernel
theorem d_Line_isAllowed_20 : decode c_Line_isAllowed 20 = .ok (.invokestatic 32, 3) := by decide +kernel
theorem d_Line_isAllowed_23 : decode c_Line_isAllowed 23 = .ok (.ifCond .eq 27, 3) := by decide +kernel
theorem d_Line_isAllowed_26 : decode c_Line_isAllowed 26 = .ok (.iload_n 0, 1) := by decide +kernel
theorem d_Line_isAllowed_27 : decode c_Line_isAllowed 27 = .ok (.iload_n 3, 1) := by decide +kernel
theorem d_Line_isAllowed_28 : decode c_Line_isAllowed 28 = .ok (.invokestatic 35, 3) := by decide +kernel
theorem d_Line_isAllowed_31 : decode c_Line_isAllowed 31 = .ok (.ifCond .eq 19, 3) := by decide +kernel
theorem d_Line_isAllowed_34 : decode c_Line_isAllowed 34 = .ok (.iload 4, 2) := by decide +kernel
theorem d_Line_isAllowed_36 : decode c_Line_isAllowed 36 = .ok (.ifCond .eq 10, 3) := by decide +kernel
theorem d_Line_isAllowed_39 : decode c_Line_isAllowed 39 = .ok (.iload_n 0, 1) := by decide +kernel
theorem d_Line_isAllowed_40 : decode c_Line_isAllowed 40 = .ok (.invokestatic 38, 3) := by decide +kernel
theorem d_Line_isAllowed_43 : decode c_Line_isAllowed 43 = .ok (.ifCond .eq 7, 3) := by decide +kernel
theorem d_Line_isAllowed_46 : decode c_Line_isAllowed 46 = .ok (.iconst 1, 1) := by decide +kernel
theorem d_Line_isAllowed_47 : decode c_Line_isAllowed 47 = .ok (.goto 4, 3) := by decide +kernel
theorem d_Line_isAllowed_50 : decode c_Line_isAllowed 50 = .ok (.iconst 0, 1) := by decide +kernel
theorem d_Line_isAllowed_51 : decode c_Line_isAllowed 51 = .ok (.ireturn, 1) := by decide +kernel
theorem d_Line_isXOf_0 : decode c_Line_isXOf 0 = .ok (.iload_n 0, 1) := by decide +kernel
theorem d_Line_isXOf_1 : decode c_Line_isXOf 1 = .ok (.tableswitch 140 0 10 #[59, 75, 91, 91, 91, 140, 140, 140, 108, 140, 125], 59) := by decide +kernel
theorem d_Line_isXOf_60 : decode c_Line_isXOf 60 = .ok (.iload_n 1, 1) := by decide +kernel
theorem d_Line_isXOf_61 : decode c_Line_isXOf 61 = .ok (.ifCond .lt 13, 3) := by decide +kernel
theorem d_Line_isXOf_64 : decode c_Line_isXOf 64 = .ok (.iload_n 1, 1) := by decide +kernel
theorem d_Line_isXOf_65 : decode c_Line_isXOf 65 = .ok (.bipush 9, 2) := by decide +kernel
theorem d_Line_isXOf_67 : decode c_Line_isXOf 67 = .ok (.if_icmp .gt 7, 3) := by decide +kernel
theorem d_Line_isXOf_70 : decode c_Line_isXOf 70 = .ok (.iconst 1, 1) := by decide +kernel
theorem d_Line_isXOf_71 : decode c_Line_isXOf 71 = .ok (.goto 4, 3) := by decide +kernel
theorem d_Line_isXOf_74 : decode c_Line_isXOf 74 = .ok (.iconst 0, 1) := by decide +kernel
theorem d_Line_isXOf_75 : decode c_Line_isXOf 75 = .ok (.ireturn, 1) := by decide +kernel
theorem d_Line_isXOf_76 : decode c_Line_isXOf 76 = .ok (.iload_n 1, 1) := by decide +kernel
theorem d_Line_isXOf_77 : decode c_Line_isXOf 77 = .ok (.ifCond .lt 13, 3) := by decide +kernel
theorem d_Line_isXOf_80 : decode c_Line_isXOf 80 = .ok (.iload_n 1, 1) := by decide +kernel
theorem d_Line_isXOf_81 : decode c_Line_isXOf 81 = .ok (.bipush 8, 2) := by decide +kernel
theorem d_Line_isXOf_83 : decode c_Line_isXOf 83 = .ok (.if_icmp .ge 7, 3) := by decide +kernel
theorem d_Line_isXOf_86 : decode c_Line_isXOf 86 = .ok (.iconst 1, 1) := by decide +kernel
theorem d_Line_isXOf_87 : decode c_Line_isXOf 87 = .ok (.goto 4, 3) := by decide +kernel
theorem d_Line_isXOf_90 : decode c_Line_isXOf 90 = .ok (.iconst 0, 1) := by decide +kernel
theorem d_Line_isXOf_91 : decode c_Line_isXOf 91 = .ok (.ireturn, 1) := by decide +kernel
theorem d_Line_isXOf_92 : decode c_Line_isXOf 92 = .ok (.iload_n 1, 1) := by decide +kernel
theorem d_Line_isXOf_93 : decode c_Line_isXOf 93 = .ok (.iconst (-1), 1) := by decide +kernel
theorem d_Line_isXOf_94 : decode c_Line_isXOf 94 = .ok (.if_icmp .lt 13, 3) := by decide +kernel
theorem d_Line_isXOf_97 : decode c_Line_isXOf 97 = .ok (.iload_n 1, 1) := by decide +kernel
theorem d_Line_isXOf_98 : decode c_Line_isXOf 98 = .ok (.bipush 11, 2) := by decide +kernel
theorem d_Line_isXOf_100 : decode c_Line_isXOf 100 = .ok (.if_icmp .gt 7, 3) := by decide +kernel
theorem d_Line_isXOf_103 : decode c_Line_isXOf 103 = .ok (.iconst 1, 1) := by decide +kernel
theorem d_Line_isXOf_104 : decode c_Line_isXOf 104 = .ok (.goto 4, 3) := by decide +kernel
theorem d_Line_isXOf_107 : decode c_Line_isXOf 107 = .ok (.iconst 0, 1) := by decide +kernel
theorem d_Line_isXOf_108 : decode c_Line_isXOf 108 = .ok (.ireturn, 1) := by decide +kernel
theorem d_Line_isXOf_109 : decode c_Line_isXOf 109 = .ok (.iload_n 1, 1) := by decide +kernel
theorem d_Line_isXOf_110 : decode c_Line_isXOf 110 = .ok (.iconst (-1), 1) := by decide +kernel
theorem d_Line_isXOf_111 : decode c_Line_isXOf 111 = .ok (.if_icmp .lt 13, 3) := by decide +kernel
theorem d_Line_isXOf_114 : decode c_Line_isXOf 114 = .ok (.iload_n 1, 1) := by decide +kernel
theorem d_Line_isXOf_115 : decode c_Line_isXOf 115 = .ok (.bipush 8, 2) := by decide +kernel
theorem d_Line_isXOf_117 : decode c_Line_isXOf 117 = .ok (.if_icmp .ge 7, 3) := by decide +kernel
theorem d_Line_isXOf_120 : decode c_Line_isXOf 120 = .ok (.iconst 1, 1) := by decide +kernel
theorem d_Line_isXOf_121 : decode c_Line_isXOf 121 = .ok (.goto 4, 3) := by decide +kernel
theorem d_Line_isXOf_124 : decode c_Line_isXOf 124 = .ok (.iconst 0, 1) := by decide +kernel
theorem d_Line_isXOf_125 : decode c_Line_isXOf 125 = .ok (.ireturn, 1) := by decide +kernel
theorem d_Line_isXOf_126 : decode c_Line_isXOf 126 = .ok (.iload_n 1, 1) := by decide +kernel
theorem d_Line_isXOf_127 : decode c_Line_isXOf 127 = .ok (.ifCond .le 12, 3) := by decide +kernel
theorem d_Line_isXOf_130 : decode c_Line_isXOf 130 = .ok (.iload_n 1, 1) := by decide +kernel
theorem d_Line_isXOf_131 : decode c_Line_isXOf 131 = .ok (.iconst 5, 1) := by decide +kernel
theorem d_Line_isXOf_132 : decode c_Line_isXOf 132 = .ok (.if_icmp .ge 7, 3) := by decide +kernel
theorem d_Line_isXOf_135 : decode c_Line_isXOf 135 = .ok (.iconst 1, 1) := by decide +kernel
theorem d_Line_isXOf_136 : decode c_Line_isXOf 136 = .ok (.goto 4, 3) := by decide +kernel
theorem d_Line_isXOf_139 : decode c_Line_isXOf 139 = .ok (.iconst 0, 1) := by decide +kernel
theorem d_Line_isXOf_140 : decode c_Line_isXOf 140 = .ok (.ireturn, 1) := by decide +kernel
theorem d_Line_isXOf_141 : decode c_Line_isXOf 141 = .ok (.iload_n 1, 1) := by decide +kernel
theorem d_Line_isXOf_142 : decode c_Line_isXOf 142 = .ok (.iconst (-1), 1) := by decide +kernel
theorem d_Line_isXOf_143 : decode c_Line_isXOf 143 = .ok (.if_icmp .ne 7, 3) := by decide +kernel
theorem d_Line_isXOf_146 : decode c_Line_isXOf 146 = .ok (.iconst 1, 1) := by decide +kernel
theorem d_Line_isXOf_147 : decode c_Line_isXOf 147 = .ok (.goto 4, 3) := by decide +kernel
theorem d_Line_isXOf_150 : decode c_Line_isXOf 150 = .ok (.iconst 0, 1) := by decide +kernel
theorem d_Line_isXOf_151 : decode c_Line_isXOf 151 = .ok (.ireturn, 1) := by decide +kernel
theorem d_Line_isYOf_0 : decode c_Line_isYOf 0 = .ok (.iload_n 0, 1) := by decide +kernel
theorem d_Line_isYOf_1 : decode c_Line_isYOf 1 = .ok (.lookupswitch 69 #[(1, 35), (2, 52), (8, 35)], 35) := by decide +kernel
theorem d_Line_isYOf_36 : decode c_Line_isYOf 36 = .ok (.iload_n 1, 1) := by decide +kernel
theorem d_Line_isYOf_37 : decode c_Line_isYOf 37 = .ok (.iconst (-1), 1) := by decide +kernel
theorem d_Line_isYOf_38 : decode c_Line_isYOf 38 = .ok (.if_icmp .lt 13, 3) := by decide +kernel
theorem d_Line_isYOf_41 : decode c_Line_isYOf 41 = .ok (.iload_n 1, 1) := by decide +kernel
theorem d_Line_isYOf_42 : decode c_Line_isYOf 42 = .ok (.bipush 8, 2) := by decide +kernel
theorem d_Line_isYOf_44 : decode c_Line_isYOf 44 = .ok (.if_icmp .ge 7, 3) := by decide +kernel
theorem d_Line_isYOf_47 : decode c_Line_isYOf 47 = .ok (.iconst 1, 1) := by decide +kernel
theorem d_Line_isYOf_48 : decode c_Line_isYOf 48 = .ok (.goto 4, 3) := by decide +kernel
theorem d_Line_isYOf_51 : decode c_Line_isYOf 51 = .ok (.iconst 0, 1) := by decide +kernel
theorem d_Line_isYOf_52 : decode c_Line_isYOf 52 = .ok (.ireturn, 1) := by decide +kernel
theorem d_Line_isYOf_53 : decode c_Line_isYOf 53 = .ok (.iload_n 1, 1) := by decide +kernel
theorem d_Line_isYOf_54 : decode c_Line_isYOf 54 = .ok (.iconst (-1), 1) := by decide +kernel
theorem d_Line_isYOf_55 : decode c_Line_isYOf 55 = .ok (.if_icmp .lt 13, 3) := by decide +kernel
theorem d_Line_isYOf_58 : decode c_Line_isYOf 58 = .ok (.iload_n 1, 1) := by decide +kernel
theorem d_Line_isYOf_59 : decode c_Line_isYOf 59 = .ok (.bipush 11, 2) := by decide +kernel
theorem d_Line_isYOf_61 : decode c_Line_isYOf 61 = .ok (.if_icmp .gt 7, 3) := by decide +kernel
theorem d_Line_isYOf_64 : decode c_Line_isYOf 64 = .ok (.iconst 1, 1) := by decide +kernel
theorem d_Line_isYOf_65 : decode c_Line_isYOf 65 = .ok (.goto 4, 3) := by decide +kernel
theorem d_Line_isYOf_68 : decode c_Line_isYOf 68 = .ok (.iconst 0, 1) := by decide +kernel
theorem d_Line_isYOf_69 : decode c_Line_isYOf 69 = .ok (.ireturn, 1) := by decide +kernel
theorem d_Line_isYOf_70 : decode c_Line_isYOf 70 = .ok (.iload_n 1, 1) := by decide +kernel
theorem d_Line_isYOf_71 : decode c_Line_isYOf 71 = .ok (.iconst (-1), 1) := by decide +kernel
theorem d_Line_isYOf_72 : decode c_Line_isYOf 72 = .ok (.if_icmp .ne 7, 3) := by decide +kernel
theorem d_Line_isYOf_75 : decode c_Line_isYOf 75 = .ok (.iconst 1, 1) := by decide +kernel
theorem d_Line_isYOf_76 : decode c_Line_isYOf 76 = .ok (.goto 4, 3) := by decide +kernel
theorem d_Line_isYOf_79 : decode c_Line_isYOf 79 = .ok (.iconst 0, 1) := by decide +kernel
theorem d_Line_isYOf_80 : decode c_Line_isYOf 80 = .ok (.ireturn, 1) := by decide +kernel
theorem d_Line_isNOf_0 : decode c_Line_isNOf 0 = .ok (.iload_n 0, 1) := by decide +kernel
theorem d_Line_isNOf_1 : decode c_Line_isNOf 1 = .ok (.tableswitch 87 0 9 #[55, 87, 87, 87, 87, 87, 55, 65, 87, 55], 55) := by decide +kernel
theorem d_Line_isNOf_56 : decode c_Line_isNOf 56 = .ok (.iload_n 1, 1) := by decide +kernel
theorem d_Line_isNOf_57 : decode c_Line_isNOf 57 = .ok (.ifCond .ne 7, 3) := by decide +kernel
theorem d_Line_isNOf_60 : decode c_Line_isNOf 60 = .ok (.iconst 1, 1) := by decide +kernel
theorem d_Line_isNOf_61 : decode c_Line_isNOf 61 = .ok (.goto 4, 3) := by decide +kernel
theorem d_Line_isNOf_64 : decode c_Line_isNOf 64 = .ok (.iconst 0, 1) := by decide +kernel
theorem d_Line_isNOf_65 : decode c_Line_isNOf 65 = .ok (.ireturn, 1) := by decide +kernel
theorem d_Line_isNOf_66 : decode c_Line_isNOf 66 = .ok (.iload_n 1, 1) := by decide +kernel
theorem d_Line_isNOf_67 : decode c_Line_isNOf 67 = .ok (.iconst 2, 1) := by decide +kernel
theorem d_Line_isNOf_68 : decode c_Line_isNOf 68 = .ok (.if_icmp .eq 14, 3) := by decide +kernel
theorem d_Line_isNOf_71 : decode c_Line_isNOf 71 = .ok (.iload_n 1, 1) := by decide +kernel
theorem d_Line_isNOf_72 : decode c_Line_isNOf 72 = .ok (.iconst 4, 1) := by decide +kernel
theorem d_Line_isNOf_73 : decode c_Line_isNOf 73 = .ok (.if_icmp .eq 9, 3) := by decide +kernel
theorem d_Line_isNOf_76 : decode c_Line_isNOf 76 = .ok (.iload_n 1, 1) := by decide +kernel
theorem d_Line_isNOf_77 : decode c_Line_isNOf 77 = .ok (.bipush 8, 2) := by decide +kernel
theorem d_Line_isNOf_79 : decode c_Line_isNOf 79 = .ok (.if_icmp .ne 7, 3) := by decide +kernel
theorem d_Line_isNOf_82 : decode c_Line_isNOf 82 = .ok (.iconst 1, 1) := by decide +kernel
theorem d_Line_isNOf_83 : decode c_Line_isNOf 83 = .ok (.goto 4, 3) := by decide +kernel
theorem d_Line_isNOf_86 : decode c_Line_isNOf 86 = .ok (.iconst 0, 1) := by decide +kernel
theorem d_Line_isNOf_87 : decode c_Line_isNOf 87 = .ok (.ireturn, 1) := by decide +kernel
theorem d_Line_isNOf_88 : decode c_Line_isNOf 88 = .ok (.iload_n 1, 1) := by decide +kernel
theorem d_Line_isNOf_89 : decode c_Line_isNOf 89 = .ok (.bipush (-99), 2) := by decide +kernel
theorem d_Line_isNOf_91 : decode c_Line_isNOf 91 = .ok (.if_icmp .lt 13, 3) := by decide +kernel
theorem d_Line_isNOf_94 : decode c_Line_isNOf 94 = .ok (.iload_n 1, 1) := by decide +kernel
theorem d_Line_isNOf_95 : decode c_Line_isNOf 95 = .ok (.bipush 99, 2) := by decide +kernel
theorem d_Line_isNOf_97 : decode c_Line_isNOf 97 = .ok (.if_icmp .gt 7, 3) := by decide +kernel
theorem d_Line_isNOf_100 : decode c_Line_isNOf 100 = .ok (.iconst 1, 1) := by decide +kernel
theorem d_Line_isNOf_101 : decode c_Line_isNOf 101 = .ok (.goto 4, 3) := by decide +kernel
theorem d_Line_isNOf_104 : decode c_Line_isNOf 104 = .ok (.iconst 0, 1) := by decide +kernel
theorem d_Line_isNOf_105 : decode c_Line_isNOf 105 = .ok (.ireturn, 1) := by decide +kernel
theorem d_Line_canBeRelative_0 : decode c_Line_canBeRelative 0 = .ok (.iload_n 0, 1) := by decide +kernel
theorem d_Line_canBeRelative_1 : decode c_Line_canBeRelative 1 = .ok (.ifCond .eq 25, 3) := by decide +kernel
theorem d_Line_canBeRelative_4 : decode c_Line_canBeRelative 4 = .ok (.iload_n 0, 1) := by decide +kernel
theorem d_Line_canBeRelative_5 : decode c_Line_canBeRelative 5 = .ok (.bipush 6, 2) := by decide +kernel
theorem d_Line_canBeRelative_7 : decode c_Line_canBeRelative 7 = .ok (.if_icmp .eq 19, 3) := by decide +kernel
theorem d_Line_canBeRelative_10 : decode c_Line_canBeRelative 10 = .ok (.iload_n 0, 1) := by decide +kernel
theorem d_Line_canBeRelative_11 : decode c_Line_canBeRelative 11 = .ok (.bipush 9, 2) := by decide +kernel
theorem d_Line_canBeRelative_13 : decode c_Line_canBeRelative 13 = .ok (.if_icmp .eq 13, 3) := by decide +kernel
theorem d_Line_canBeRelative_16 : decode c_Line_canBeRelative 16 = .ok (.iload_n 0, 1) := by decide +kernel
theorem d_Line_canBeRelative_17 : decode c_Line_canBeRelative 17 = .ok (.bipush 7, 2) := by decide +kernel
theorem d_Line_canBeRelative_19 : decode c_Line_canBeRelative 19 = .ok (.if_icmp .eq 7, 3) := by decide +kernel
theorem d_Line_canBeRelative_22 : decode c_Line_canBeRelative 22 = .ok (.iconst 1, 1) := by decide +kernel
theorem d_Line_canBeRelative_23 : decode c_Line_canBeRelative 23 = .ok (.goto 4, 3) := by decide +kernel
theorem d_Line_canBeRelative_26 : decode c_Line_canBeRelative 26 = .ok (.iconst 0, 1) := by decide +kernel
theorem d_Line_canBeRelative_27 : decode c_Line_canBeRelative 27 = .ok (.ireturn, 1) := by decide +kernel
theorem d_Names_init_0 : decode c_Names_init 0 = .ok (.aload_n 0, 1) := by decide +kernel
theorem d_Names_init_1 : decode c_Names_init 1 = .ok (.invokespecial 3, 3) := by decide +kernel
theorem d_Names_init_4 : decode c_Names_init 4 = .ok (.aload_n 0, 1) := by decide +kernel
theorem d_Names_init_5 : decode c_Names_init 5 = .ok (.bipush 8, 2) := by decide +kernel
theorem d_Names_init_7 : decode c_Names_init 7 = .ok (.newarray .boolean, 2) := by decide +kernel
theorem d_Names_init_9 : decode c_Names_init 9 = .ok (.putfield 9, 3) := by decide +kernel
theorem d_Names_init_12 : decode c_Names_init 12 = .ok (.aload_n 0, 1) := by decide +kernel
theorem d_Names_init_13 : decode c_Names_init 13 = .ok (.bipush 8, 2) := by decide +kernel
theorem d_Names_init_15 : decode c_Names_init 15 = .ok (.newarray .boolean, 2) := by decide +kernel
theorem d_Names_init_17 : decode c_Names_init 17 = .ok (.putfield 15, 3) := by decide +kernel
theorem d_Names_init_20 : decode c_Names_init 20 = .ok (.aload_n 0, 1) := by decide +kernel
theorem d_Names_init_21 : decode c_Names_init 21 = .ok (.bipush 8, 2) := by decide +kernel
theorem d_Names_init_23 : decode c_Names_init 23 = .ok (.newarray .int, 2) := by decide +kernel
theorem d_Names_init_25 : decode c_Names_init 25 = .ok (.putfield 18, 3) := by decide +kernel
theorem d_Names_init_28 : decode c_Names_init 28 = .ok (.return_, 1) := by decide +kernel
theorem d_Names_clear_0 : decode c_Names_clear 0 = .ok (.iconst 0, 1) := by decide +kernel
theorem d_Names_clear_1 : decode c_Names_clear 1 = .ok (.istore_n 1, 1) := by decide +kernel
theorem d_Names_clear_2 : decode c_Names_clear 2 = .ok (.iload_n 1, 1) := by decide +kernel
theorem d_Names_clear_3 : decode c_Names_clear 3 = .ok (.bipush 8, 2) := by decide +kernel
theorem d_Names_clear_5 : decode c_Names_clear 5 = .ok (.if_icmp .ge 30, 3) := by decide +kernel
theorem d_Names_clear_8 : decode c_Names_clear 8 = .ok (.aload_n 0, 1) := by decide +kernel
theorem d_Names_clear_9 : decode c_Names_clear 9 = .ok (.getfield 9, 3) := by decide +kernel
theorem d_Names_clear_12 : decode c_Names_clear 12 = .ok (.iload_n 1, 1) := by decide +kernel
theorem d_Names_clear_13 : decode c_Names_clear 13 = .ok (.iconst 0, 1) := by decide +kernel
theorem d_Names_clear_14 : decode c_Names_clear 14 = .ok (.bastore, 1) := by decide +kernel
theorem d_Names_clear_15 : decode c_Names_clear 15 = .ok (.aload_n 0, 1) := by decide +kernel
theorem d_Names_clear_16 : decode c_Names_clear 16 = .ok (.getfield 15, 3) := by decide +kernel
theorem d_Names_clear_19 : decode c_Names_clear 19 = .ok (.iload_n 1, 1) := by decide +kernel
theorem d_Names_clear_20 : decode c_Names_clear 20 = .ok (.iconst 0, 1) := by decide +kernel
theorem d_Names_clear_21 : decode c_Names_clear 21 = .ok (.bastore, 1) := by decide +kernel
theorem d_Names_clear_22 : decode c_Names_clear 22 = .ok (.aload_n 0, 1) := by decide +kernel
theorem d_Names_clear_23 : decode c_Names_clear 23 = .ok (.getfield 18, 3) := by decide +kernel
theorem d_Names_clear_26 : decode c_Names_clear 26 = .ok (.iload_n 1, 1) := by decide +kernel
theorem d_Names_clear_27 : decode c_Names_clear 27 = .ok (.iconst 0, 1) := by decide +kernel
theorem d_Names_clear_28 : decode c_Names_clear 28 = .ok (.iastore, 1) := by decide +kernel
theorem d_Names_clear_29 : decode c_Names_clear 29 = .ok (.iinc 1 1, 3) := by decide +kernel
theorem d_Names_clear_32 : decode c_Names_clear 32 = .ok (.goto (-30), 3) := by decide +kernel
theorem d_Names_clear_35 : decode c_Names_clear 35 = .ok (.return_, 1) := by decide +kernel
theorem d_Names_isLabel_0 : decode c_Names_isLabel 0 = .ok (.iload_n 1, 1) := by decide +kernel
theorem d_Names_isLabel_1 : decode c_Names_isLabel 1 = .ok (.ifCond .lt 22, 3) := by decide +kernel
theorem d_Names_isLabel_4 : decode c_Names_isLabel 4 = .ok (.iload_n 1, 1) := by decide +kernel
theorem d_Names_isLabel_5 : decode c_Names_isLabel 5 = .ok (.bipush 8, 2) := by decide +kernel
theorem d_Names_isLabel_7 : decode c_Names_isLabel 7 = .ok (.if_icmp .ge 16, 3) := by decide +kernel
theorem d_Names_isLabel_10 : decode c_Names_isLabel 10 = .ok (.aload_n 0, 1) := by decide +kernel
theorem d_Names_isLabel_11 : decode c_Names_isLabel 11 = .ok (.getfield 9, 3) := by decide +kernel
theorem d_Names_isLabel_14 : decode c_Names_isLabel 14 = .ok (.iload_n 1, 1) := by decide +kernel
theorem d_Names_isLabel_15 : decode c_Names_isLabel 15 = .ok (.baload, 1) := by decide +kernel
theorem d_Names_isLabel_16 : decode c_Names_isLabel 16 = .ok (.ifCond .eq 7, 3) := by decide +kernel
theorem d_Names_isLabel_19 : decode c_Names_isLabel 19 = .ok (.iconst 1, 1) := by decide +kernel
theorem d_Names_isLabel_20 : decode c_Names_isLabel 20 = .ok (.goto 4, 3) := by decide +kernel
theorem d_Names_isLabel_23 : decode c_Names_isLabel 23 = .ok (.iconst 0, 1) := by decide +kernel
theorem d_Names_isLabel_24 : decode c_Names_isLabel 24 = .ok (.ireturn, 1) := by decide +kernel
theorem d_Names_isSetSoFar_0 : decode c_Names_isSetSoFar 0 = .ok (.iload_n 1, 1) := by decide +kernel
theorem d_Names_isSetSoFar_1 : decode c_Names_isSetSoFar 1 = .ok (.ifCond .lt 22, 3) := by decide +kernel
theorem d_Names_isSetSoFar_4 : decode c_Names_isSetSoFar 4 = .ok (.iload_n 1, 1) := by decide +kernel
theorem d_Names_isSetSoFar_5 : decode c_Names_isSetSoFar 5 = .ok (.bipush 8, 2) := by decide +kernel
theorem d_Names_isSetSoFar_7 : decode c_Names_isSetSoFar 7 = .ok (.if_icmp .ge 16, 3) := by decide +kernel
theorem d_Names_isSetSoFar_10 : decode c_Names_isSetSoFar 10 = .ok (.aload_n 0, 1) := by decide +kernel
theorem d_Names_isSetSoFar_11 : decode c_Names_isSetSoFar 11 = .ok (.getfield 15, 3) := by decide +kernel
theorem d_Names_isSetSoFar_14 : decode c_Names_isSetSoFar 14 = .ok (.iload_n 1, 1) := by decide +kernel
theorem d_Names_isSetSoFar_15 : decode c_Names_isSetSoFar 15 = .ok (.baload, 1) := by decide +kernel
theorem d_Names_isSetSoFar_16 : decode c_Names_isSetSoFar 16 = .ok (.ifCond .eq 7, 3) := by decide +kernel
theorem d_Names_isSetSoFar_19 : decode c_Names_isSetSoFar 19 = .ok (.iconst 1, 1) := by decide +kernel
theorem d_Names_isSetSoFar_20 : decode c_Names_isSetSoFar 20 = .ok (.goto 4, 3) := by decide +kernel
theorem d_Names_isSetSoFar_23 : decode c_Names_isSetSoFar 23 = .ok (.iconst 0, 1) := by decide +kernel
theorem d_Names_isSetSoFar_24 : decode c_Names_isSetSoFar 24 = .ok (.ireturn, 1) := by decide +kernel
theorem d_Names_isNoneOrSet_0 : decode c_Names_isNoneOrSet 0 = .ok (.iload_n 1, 1) := by decide +kernel
theorem d_Names_isNoneOrSet_1 : decode c_Names_isNoneOrSet 1 = .ok (.iconst (-1), 1) := by decide +kernel
theorem d_Names_isNoneOrSet_2 : decode c_Names_isNoneOrSet 2 = .ok (.if_icmp .eq 22, 3) := by decide +kernel
theorem d_Names_isNoneOrSet_5 : decode c_Names_isNoneOrSet 5 = .ok (.iload_n 1, 1) := by decide +kernel
theorem d_Names_isNoneOrSet_6 : decode c_Names_isNoneOrSet 6 = .ok (.ifCond .lt 22, 3) := by decide +kernel
theorem d_Names_isNoneOrSet_9 : decode c_Names_isNoneOrSet 9 = .ok (.iload_n 1, 1) := by decide +kernel
theorem d_Names_isNoneOrSet_10 : decode c_Names_isNoneOrSet 10 = .ok (.bipush 8, 2) := by decide +kernel
theorem d_Names_isNoneOrSet_12 : decode c_Names_isNoneOrSet 12 = .ok (.if_icmp .ge 16, 3) := by decide +kernel
theorem d_Names_isNoneOrSet_15 : decode c_Names_isNoneOrSet 15 = .ok (.aload_n 0, 1) := by decide +kernel
theorem d_Names_isNoneOrSet_16 : decode c_Names_isNoneOrSet 16 = .ok (.getfield 15, 3) := by decide +kernel
theorem d_Names_isNoneOrSet_19 : decode c_Names_isNoneOrSet 19 = .ok (.iload_n 1, 1) := by decide +kernel
theorem d_Names_isNoneOrSet_20 : decode c_Names_isNoneOrSet 20 = .ok (.baload, 1) := by decide +kernel
theorem d_Names_isNoneOrSet_21 : decode c_Names_isNoneOrSet 21 = .ok (.ifCond .eq 7, 3) := by decide +kernel
theorem d_Names_isNoneOrSet_24 : decode c_Names_isNoneOrSet 24 = .ok (.iconst 1, 1) := by decide +kernel
theorem d_Names_isNoneOrSet_25 : decode c_Names_isNoneOrSet 25 = .ok (.goto 4, 3) := by decide +kernel
theorem d_Names_isNoneOrSet_28 : decode c_Names_isNoneOrSet 28 = .ok (.iconst 0, 1) := by decide +kernel
theorem d_Names_isNoneOrSet_29 : decode c_Names_isNoneOrSet 29 = .ok (.ireturn, 1) := by decide +kernel
theorem d_Names_soFar_0 : decode c_Names_soFar 0 = .ok (.iload_n 1, 1) := by decide +kernel
theorem d_Names_soFar_1 : decode c_Names_soFar 1 = .ok (.ifCond .lt 27, 3) := by decide +kernel
theorem d_Names_soFar_4 : decode c_Names_soFar 4 = .ok (.iload_n 1, 1) := by decide +kernel
theorem d_Names_soFar_5 : decode c_Names_soFar 5 = .ok (.bipush 8, 2) := by decide +kernel
theorem d_Names_soFar_7 : decode c_Names_soFar 7 = .ok (.if_icmp .ge 21, 3) := by decide +kernel
theorem d_Names_soFar_10 : decode c_Names_soFar 10 = .ok (.aload_n 0, 1) := by decide +kernel
theorem d_Names_soFar_11 : decode c_Names_soFar 11 = .ok (.getfield 15, 3) := by decide +kernel
theorem d_Names_soFar_14 : decode c_Names_soFar 14 = .ok (.iload_n 1, 1) := by decide +kernel
theorem d_Names_soFar_15 : decode c_Names_soFar 15 = .ok (.baload, 1) := by decide +kernel
theorem d_Names_soFar_16 : decode c_Names_soFar 16 = .ok (.ifCond .eq 12, 3) := by decide +kernel
theorem d_Names_soFar_19 : decode c_Names_soFar 19 = .ok (.aload_n 0, 1) := by decide +kernel
theorem d_Names_soFar_20 : decode c_Names_soFar 20 = .ok (.getfield 18, 3) := by decide +kernel
theorem d_Names_soFar_23 : decode c_Names_soFar 23 = .ok (.iload_n 1, 1) := by decide +kernel
theorem d_Names_soFar_24 : decode c_Names_soFar 24 = .ok (.iaload, 1) := by decide +kernel
theorem d_Names_soFar_25 : decode c_Names_soFar 25 = .ok (.goto 4, 3) := by decide +kernel
theorem d_Names_soFar_28 : decode c_Names_soFar 28 = .ok (.iconst 0, 1) := by decide +kernel
theorem d_Names_soFar_29 : decode c_Names_soFar 29 = .ok (.ireturn, 1) := by decide +kernel
theorem d_Names_noteLabel_0 : decode c_Names_noteLabel 0 = .ok (.iload_n 1, 1) := by decide +kernel
theorem d_Names_noteLabel_1 : decode c_Names_noteLabel 1 = .ok (.ifCond .lt 16, 3) := by decide +kernel
theorem d_Names_noteLabel_4 : decode c_Names_noteLabel 4 = .ok (.iload_n 1, 1) := by decide +kernel
theorem d_Names_noteLabel_5 : decode c_Names_noteLabel 5 = .ok (.bipush 8, 2) := by decide +kernel
theorem d_Names_noteLabel_7 : decode c_Names_noteLabel 7 = .ok (.if_icmp .ge 10, 3) := by decide +kernel
theorem d_Names_noteLabel_10 : decode c_Names_noteLabel 10 = .ok (.aload_n 0, 1) := by decide +kernel
theorem d_Names_noteLabel_11 : decode c_Names_noteLabel 11 = .ok (.getfield 9, 3) := by decide +kernel
theorem d_Names_noteLabel_14 : decode c_Names_noteLabel 14 = .ok (.iload_n 1, 1) := by decide +kernel
theorem d_Names_noteLabel_15 : decode c_Names_noteLabel 15 = .ok (.iconst 1, 1) := by decide +kernel
theorem d_Names_noteLabel_16 : decode c_Names_noteLabel 16 = .ok (.bastore, 1) := by decide +kernel
theorem d_Names_noteLabel_17 : decode c_Names_noteLabel 17 = .ok (.return_, 1) := by decide +kernel
theorem d_Names_noteSet_0 : decode c_Names_noteSet 0 = .ok (.iload_n 1, 1) := by decide +kernel
theorem d_Names_noteSet_1 : decode c_Names_noteSet 1 = .ok (.ifCond .lt 23, 3) := by decide +kernel
theorem d_Names_noteSet_4 : decode c_Names_noteSet 4 = .ok (.iload_n 1, 1) := by decide +kernel
theorem d_Names_noteSet_5 : decode c_Names_noteSet 5 = .ok (.bipush 8, 2) := by decide +kernel
theorem d_Names_noteSet_7 : decode c_Names_noteSet 7 = .ok (.if_icmp .ge 17, 3) := by decide +kernel
theorem d_Names_noteSet_10 : decode c_Names_noteSet 10 = .ok (.aload_n 0, 1) := by decide +kernel
theorem d_Names_noteSet_11 : decode c_Names_noteSet 11 = .ok (.getfield 15, 3) := by decide +kernel
theorem d_Names_noteSet_14 : decode c_Names_noteSet 14 = .ok (.iload_n 1, 1) := by decide +kernel
theorem d_Names_noteSet_15 : decode c_Names_noteSet 15 = .ok (.iconst 1, 1) := by decide +kernel
theorem d_Names_noteSet_16 : decode c_Names_noteSet 16 = .ok (.bastore, 1) := by decide +kernel
theorem d_Names_noteSet_17 : decode c_Names_noteSet 17 = .ok (.aload_n 0, 1) := by decide +kernel
theorem d_Names_noteSet_18 : decode c_Names_noteSet 18 = .ok (.getfield 18, 3) := by decide +kernel
theorem d_Names_noteSet_21 : decode c_Names_noteSet 21 = .ok (.iload_n 1, 1) := by decide +kernel
theorem d_Names_noteSet_22 : decode c_Names_noteSet 22 = .ok (.iload_n 2, 1) := by decide +kernel
theorem d_Names_noteSet_23 : decode c_Names_noteSet 23 = .ok (.iastore, 1) := by decide +kernel
theorem d_Names_noteSet_24 : decode c_Names_noteSet 24 = .ok (.return_, 1) := by decide +kernel
theorem d_Row_init_0 : decode c_Row_init 0 = .ok (.aload_n 0, 1) := by decide +kernel
theorem d_Row_init_1 : decode c_Row_init 1 = .ok (.invokespecial 1, 3) := by decide +kernel
theorem d_Row_init_4 : decode c_Row_init 4 = .ok (.aload_n 0, 1) := by decide +kernel
theorem d_Row_init_5 : decode c_Row_init 5 = .ok (.iconst 0, 1) := by decide +kernel
theorem d_Row_init_6 : decode c_Row_init 6 = .ok (.iload_n 1, 1) := by decide +kernel
theorem d_Row_init_7 : decode c_Row_init 7 = .ok (.invokestatic 7, 3) := by decide +kernel
theorem d_Row_init_10 : decode c_Row_init 10 = .ok (.anewarray 13, 3) := by decide +kernel
theorem d_Row_init_13 : decode c_Row_init 13 = .ok (.putfield 15, 3) := by decide +kernel
theorem d_Row_init_16 : decode c_Row_init 16 = .ok (.aload_n 0, 1) := by decide +kernel
theorem d_Row_init_17 : decode c_Row_init 17 = .ok (.iconst 0, 1) := by decide +kernel
theorem d_Row_init_18 : decode c_Row_init 18 = .ok (.putfield 21, 3) := by decide +kernel
theorem d_Row_init_21 : decode c_Row_init 21 = .ok (.return_, 1) := by decide +kernel
theorem d_Row_insert_0 : decode c_Row_insert 0 = .ok (.aload_n 0, 1) := by decide +kernel
theorem d_Row_insert_1 : decode c_Row_insert 1 = .ok (.getfield 21, 3) := by decide +kernel
theorem d_Row_insert_4 : decode c_Row_insert 4 = .ok (.aload_n 0, 1) := by decide +kernel
theorem d_Row_insert_5 : decode c_Row_insert 5 = .ok (.getfield 15, 3) := by decide +kernel
theorem d_Row_insert_8 : decode c_Row_insert 8 = .ok (.arraylength, 1) := by decide +kernel
theorem d_Row_insert_9 : decode c_Row_insert 9 = .ok (.if_icmp .ge 15, 3) := by decide +kernel
theorem d_Row_insert_12 : decode c_Row_insert 12 = .ok (.iload_n 1, 1) := by decide +kernel
theorem d_Row_insert_13 : decode c_Row_insert 13 = .ok (.ifCond .lt 11, 3) := by decide +kernel
theorem d_Row_insert_16 : decode c_Row_insert 16 = .ok (.iload_n 1, 1) := by decide +kernel
theorem d_Row_insert_17 : decode c_Row_insert 17 = .ok (.aload_n 0, 1) := by decide +kernel
theorem d_Row_insert_18 : decode c_Row_insert 18 = .ok (.getfield 21, 3) := by decide +kernel
theorem d_Row_insert_21 : decode c_Row_insert 21 = .ok (.if_icmp .le 4, 3) := by decide +kernel
theorem d_Row_insert_24 : decode c_Row_insert 24 = .ok (.return_, 1) := by decide +kernel
theorem d_Row_insert_25 : decode c_Row_insert 25 = .ok (.aload_n 0, 1) := by decide +kernel
theorem d_Row_insert_26 : decode c_Row_insert 26 = .ok (.getfield 21, 3) := by decide +kernel
theorem d_Row_insert_29 : decode c_Row_insert 29 = .ok (.istore_n 3, 1) := by decide +kernel
theorem d_Row_insert_30 : decode c_Row_insert 30 = .ok (.iload_n 3, 1) := by decide +kernel
theorem d_Row_insert_31 : decode c_Row_insert 31 = .ok (.iload_n 1, 1) := by decide +kernel
theorem d_Row_insert_32 : decode c_Row_insert 32 = .ok (.if_icmp .le 23, 3) := by decide +kernel
theorem d_Row_insert_35 : decode c_Row_insert 35 = .ok (.aload_n 0, 1) := by decide +kernel
theorem d_Row_insert_36 : decode c_Row_insert 36 = .ok (.getfield 15, 3) := by decide +kernel
theorem d_Row_insert_39 : decode c_Row_insert 39 = .ok (.iload_n 3, 1) := by decide +kernel
theorem d_Row_insert_40 : decode c_Row_insert 40 = .ok (.aload_n 0, 1) := by decide +kernel
theorem d_Row_insert_41 : decode c_Row_insert 41 = .ok (.getfield 15, 3) := by decide +kernel
theorem d_Row_insert_44 : decode c_Row_insert 44 = .ok (.iload_n 3, 1) := by decide +kernel
theorem d_Row_insert_45 : decode c_Row_insert 45 = .ok (.iconst 1, 1) := by decide +kernel
theorem d_Row_insert_46 : decode c_Row_insert 46 = .ok (.isub, 1) := by decide +kernel
theorem d_Row_insert_47 : decode c_Row_insert 47 = .ok (.aaload, 1) := by decide +kernel
theorem d_Row_insert_48 : decode c_Row_insert 48 = .ok (.aastore, 1) := by decide +kernel
theorem d_Row_insert_49 : decode c_Row_insert 49 = .ok (.iinc 3 (-1), 3) := by decide +kernel
theorem d_Row_insert_52 : decode c_Row_insert 52 = .ok (.goto (-22), 3) := by decide +kernel
theorem d_Row_insert_55 : decode c_Row_insert 55 = .ok (.aload_n 0, 1) := by decide +kernel
theorem d_Row_insert_56 : decode c_Row_insert 56 = .ok (.getfield 15, 3) := by decide +kernel
theorem d_Row_insert_59 : decode c_Row_insert 59 = .ok (.iload_n 1, 1) := by decide +kernel
theorem d_Row_insert_60 : decode c_Row_insert 60 = .ok (.aload_n 2, 1) := by decide +kernel
theorem d_Row_insert_61 : decode c_Row_insert 61 = .ok (.aastore, 1) := by decide +kernel
theorem d_Row_insert_62 : decode c_Row_insert 62 = .ok (.aload_n 0, 1) := by decide +kernel
theorem d_Row_insert_63 : decode c_Row_insert 63 = .ok (.dup, 1) := by decide +kernel
theorem d_Row_insert_64 : decode c_Row_insert 64 = .ok (.getfield 21, 3) := by decide +kernel
theorem d_Row_insert_67 : decode c_Row_insert 67 = .ok (.iconst 1, 1) := by decide +kernel
theorem d_Row_insert_68 : decode c_Row_insert 68 = .ok (.iadd, 1) := by decide +kernel
theorem d_Row_insert_69 : decode c_Row_insert 69 = .ok (.putfield 21, 3) := by decide +kernel
theorem d_Row_insert_72 : decode c_Row_insert 72 = .ok (.return_, 1) := by decide +kernel
theorem d_Row_remove_0 : decode c_Row_remove 0 = .ok (.iload_n 1, 1) := by decide +kernel
theorem d_Row_remove_1 : decode c_Row_remove 1 = .ok (.ifCond .lt 11, 3) := by decide +kernel
theorem d_Row_remove_4 : decode c_Row_remove 4 = .ok (.iload_n 1, 1) := by decide +kernel
theorem d_Row_remove_5 : decode c_Row_remove 5 = .ok (.aload_n 0, 1) := by decide +kernel
theorem d_Row_remove_6 : decode c_Row_remove 6 = .ok (.getfield 21, 3) := by decide +kernel
theorem d_Row_remove_9 : decode c_Row_remove 9 = .ok (.if_icmp .lt 4, 3) := by decide +kernel
theorem d_Row_remove_12 : decode c_Row_remove 12 = .ok (.return_, 1) := by decide +kernel
theorem d_Row_remove_13 : decode c_Row_remove 13 = .ok (.aload_n 0, 1) := by decide +kernel
theorem d_Row_remove_14 : decode c_Row_remove 14 = .ok (.dup, 1) := by decide +kernel
theorem d_Row_remove_15 : decode c_Row_remove 15 = .ok (.getfield 21, 3) := by decide +kernel
theorem d_Row_remove_18 : decode c_Row_remove 18 = .ok (.iconst 1, 1) := by decide +kernel
theorem d_Row_remove_19 : decode c_Row_remove 19 = .ok (.isub, 1) := by decide +kernel
theorem d_Row_remove_20 : decode c_Row_remove 20 = .ok (.putfield 21, 3) := by decide +kernel
theorem d_Row_remove_23 : decode c_Row_remove 23 = .ok (.iload_n 1, 1) := by decide +kernel
theorem d_Row_remove_24 : decode c_Row_remove 24 = .ok (.istore_n 2, 1) := by decide +kernel
theorem d_Row_remove_25 : decode c_Row_remove 25 = .ok (.iload_n 2, 1) := by decide +kernel
theorem d_Row_remove_26 : decode c_Row_remove 26 = .ok (.aload_n 0, 1) := by decide +kernel
theorem d_Row_remove_27 : decode c_Row_remove 27 = .ok (.getfield 21, 3) := by decide +kernel
theorem d_Row_remove_30 : decode c_Row_remove 30 = .ok (.if_icmp .ge 23, 3) := by decide +kernel
theorem d_Row_remove_33 : decode c_Row_remove 33 = .ok (.aload_n 0, 1) := by decide +kernel
theorem d_Row_remove_34 : decode c_Row_remove 34 = .ok (.getfield 15, 3) := by decide +kernel
theorem d_Row_remove_37 : decode c_Row_remove 37 = .ok (.iload_n 2, 1) := by decide +kernel
theorem d_Row_remove_38 : decode c_Row_remove 38 = .ok (.aload_n 0, 1) := by decide +kernel
theorem d_Row_remove_39 : decode c_Row_remove 39 = .ok (.getfield 15, 3) := by decide +kernel
theorem d_Row_remove_42 : decode c_Row_remove 42 = .ok (.iload_n 2, 1) := by decide +kernel
theorem d_Row_remove_43 : decode c_Row_remove 43 = .ok (.iconst 1, 1) := by decide +kernel
theorem d_Row_remove_44 : decode c_Row_remove 44 = .ok (.iadd, 1) := by decide +kernel
theorem d_Row_remove_45 : decode c_Row_remove 45 = .ok (.aaload, 1) := by decide +kernel
theorem d_Row_remove_46 : decode c_Row_remove 46 = .ok (.aastore, 1) := by decide +kernel
theorem d_Row_remove_47 : decode c_Row_remove 47 = .ok (.iinc 2 1, 3) := by decide +kernel
theorem d_Row_remove_50 : decode c_Row_remove 50 = .ok (.goto (-25), 3) := by decide +kernel
theorem d_Row_remove_53 : decode c_Row_remove 53 = .ok (.return_, 1) := by decide +kernel
theorem d_Row_copyFrom_0 : decode c_Row_copyFrom 0 = .ok (.aload_n 0, 1) := by decide +kernel
theorem d_Row_copyFrom_1 : decode c_Row_copyFrom 1 = .ok (.aload_n 1, 1) := by decide +kernel
theorem d_Row_copyFrom_2 : decode c_Row_copyFrom 2 = .ok (.getfield 21, 3) := by decide +kernel
theorem d_Row_copyFrom_5 : decode c_Row_copyFrom 5 = .ok (.aload_n 0, 1) := by decide +kernel
theorem d_Row_copyFrom_6 : decode c_Row_copyFrom 6 = .ok (.getfield 15, 3) := by decide +kernel
theorem d_Row_copyFrom_9 : decode c_Row_copyFrom 9 = .ok (.arraylength, 1) := by decide +kernel
theorem d_Row_copyFrom_10 : decode c_Row_copyFrom 10 = .ok (.invokestatic 25, 3) := by decide +kernel
theorem d_Row_copyFrom_13 : decode c_Row_copyFrom 13 = .ok (.putfield 21, 3) := by decide +kernel
theorem d_Row_copyFrom_16 : decode c_Row_copyFrom 16 = .ok (.iconst 0, 1) := by decide +kernel
theorem d_Row_copyFrom_17 : decode c_Row_copyFrom 17 = .ok (.istore_n 2, 1) := by decide +kernel
theorem d_Row_copyFrom_18 : decode c_Row_copyFrom 18 = .ok (.iload_n 2, 1) := by decide +kernel
theorem d_Row_copyFrom_19 : decode c_Row_copyFrom 19 = .ok (.aload_n 0, 1) := by decide +kernel
theorem d_Row_copyFrom_20 : decode c_Row_copyFrom 20 = .ok (.getfield 21, 3) := by decide +kernel
theorem d_Row_copyFrom_23 : decode c_Row_copyFrom 23 = .ok (.if_icmp .ge 21, 3) := by decide +kernel
theorem d_Row_copyFrom_26 : decode c_Row_copyFrom 26 = .ok (.aload_n 0, 1) := by decide +kernel
theorem d_Row_copyFrom_27 : decode c_Row_copyFrom 27 = .ok (.getfield 15, 3) := by decide +kernel
theorem d_Row_copyFrom_30 : decode c_Row_copyFrom 30 = .ok (.iload_n 2, 1) := by decide +kernel
theorem d_Row_copyFrom_31 : decode c_Row_copyFrom 31 = .ok (.aload_n 1, 1) := by decide +kernel
theorem d_Row_copyFrom_32 : decode c_Row_copyFrom 32 = .ok (.getfield 15, 3) := by decide +kernel
theorem d_Row_copyFrom_35 : decode c_Row_copyFrom 35 = .ok (.iload_n 2, 1) := by decide +kernel
theorem d_Row_copyFrom_36 : decode c_Row_copyFrom 36 = .ok (.aaload, 1) := by decide +kernel
theorem d_Row_copyFrom_37 : decode c_Row_copyFrom 37 = .ok (.aastore, 1) := by decide +kernel
theorem d_Row_copyFrom_38 : decode c_Row_copyFrom 38 = .ok (.iinc 2 1, 3) := by decide +kernel
theorem d_Row_copyFrom_41 : decode c_Row_copyFrom 41 = .ok (.goto (-23), 3) := by decide +kernel
theorem d_Row_copyFrom_44 : decode c_Row_copyFrom 44 = .ok (.return_, 1) := by decide +kernel
theorem d_Source_init_0 : decode c_Source_init 0 = .ok (.aload_n 0, 1) := by decide +kernel
theorem d_Source_init_1 : decode c_Source_init 1 = .ok (.invokespecial 3, 3) := by decide +kernel
theorem d_Source_init_4 : decode c_Source_init 4 = .ok (.aload_n 0, 1) := by decide +kernel
theorem d_Source_init_5 : decode c_Source_init 5 = .ok (.iconst 5, 1) := by decide +kernel
theorem d_Source_init_6 : decode c_Source_init 6 = .ok (.anewarray 9, 3) := by decide +kernel
theorem d_Source_init_9 : decode c_Source_init 9 = .ok (.putfield 11, 3) := by decide +kernel
theorem d_Source_init_12 : decode c_Source_init 12 = .ok (.iconst 0, 1) := by decide +kernel
theorem d_Source_init_13 : decode c_Source_init 13 = .ok (.istore_n 2, 1) := by decide +kernel
theorem d_Source_init_14 : decode c_Source_init 14 = .ok (.iload_n 2, 1) := by decide +kernel
theorem d_Source_init_15 : decode c_Source_init 15 = .ok (.iconst 5, 1) := by decide +kernel
theorem d_Source_init_16 : decode c_Source_init 16 = .ok (.if_icmp .ge 32, 3) := by decide +kernel
theorem d_Source_init_19 : decode c_Source_init 19 = .ok (.aload_n 0, 1) := by decide +kernel
theorem d_Source_init_20 : decode c_Source_init 20 = .ok (.getfield 11, 3) := by decide +kernel
theorem d_Source_init_23 : decode c_Source_init 23 = .ok (.iload_n 2, 1) := by decide +kernel
theorem d_Source_init_24 : decode c_Source_init 24 = .ok (.new 9, 3) := by decide +kernel
theorem d_Source_init_27 : decode c_Source_init 27 = .ok (.dup, 1) := by decide +kernel
theorem d_Source_init_28 : decode c_Source_init 28 = .ok (.iload_n 2, 1) := by decide +kernel
theorem d_Source_init_29 : decode c_Source_init 29 = .ok (.ifCond .ne 7, 3) := by decide +kernel
theorem d_Source_init_32 : decode c_Source_init 32 = .ok (.iload_n 1, 1) := by decide +kernel
theorem d_Source_init_33 : decode c_Source_init 33 = .ok (.goto 5, 3) := by decide +kernel
theorem d_Source_init_36 : decode c_Source_init 36 = .ok (.bipush 10, 2) := by decide +kernel
theorem d_Source_init_38 : decode c_Source_init 38 = .ok (.invokespecial 17, 3) := by decide +kernel
theorem d_Source_init_41 : decode c_Source_init 41 = .ok (.aastore, 1) := by decide +kernel
theorem d_Source_init_42 : decode c_Source_init 42 = .ok (.iinc 2 1, 3) := by decide +kernel
theorem d_Source_init_45 : decode c_Source_init 45 = .ok (.goto (-31), 3) := by decide +kernel
theorem d_Source_init_48 : decode c_Source_init 48 = .ok (.return_, 1) := by decide +kernel
theorem d_Source_hasRow_0 : decode c_Source_hasRow 0 = .ok (.iload_n 1, 1) := by decide +kernel
theorem d_Source_hasRow_1 : decode c_Source_hasRow 1 = .ok (.ifCond .lt 12, 3) := by decide +kernel
theorem d_Source_hasRow_4 : decode c_Source_hasRow 4 = .ok (.iload_n 1, 1) := by decide +kernel
theorem d_Source_hasRow_5 : decode c_Source_hasRow 5 = .ok (.iconst 5, 1) := by decide +kernel
theorem d_Source_hasRow_6 : decode c_Source_hasRow 6 = .ok (.if_icmp .ge 7, 3) := by decide +kernel
theorem d_Source_hasRow_9 : decode c_Source_hasRow 9 = .ok (.iconst 1, 1) := by decide +kernel
theorem d_Source_hasRow_10 : decode c_Source_hasRow 10 = .ok (.goto 4, 3) := by decide +kernel
theorem d_Source_hasRow_13 : decode c_Source_hasRow 13 = .ok (.iconst 0, 1) := by decide +kernel
theorem d_Source_hasRow_14 : decode c_Source_hasRow 14 = .ok (.ireturn, 1) := by decide +kernel
theorem d_Source_hasLine_0 : decode c_Source_hasLine 0 = .ok (.aload_n 0, 1) := by decide +kernel
theorem d_Source_hasLine_1 : decode c_Source_hasLine 1 = .ok (.iload_n 1, 1) := by decide +kernel
theorem d_Source_hasLine_2 : decode c_Source_hasLine 2 = .ok (.invokevirtual 20, 3) := by decide +kernel
theorem d_Source_hasLine_5 : decode c_Source_hasLine 5 = .ok (.ifCond .eq 24, 3) := by decide +kernel
theorem d_Source_hasLine_8 : decode c_Source_hasLine 8 = .ok (.iload_n 2, 1) := by decide +kernel
theorem d_Source_hasLine_9 : decode c_Source_hasLine 9 = .ok (.ifCond .lt 20, 3) := by decide +kernel
theorem d_Source_hasLine_12 : decode c_Source_hasLine 12 = .ok (.iload_n 2, 1) := by decide +kernel
theorem d_Source_hasLine_13 : decode c_Source_hasLine 13 = .ok (.aload_n 0, 1) := by decide +kernel
theorem d_Source_hasLine_14 : decode c_Source_hasLine 14 = .ok (.getfield 11, 3) := by decide +kernel
theorem d_Source_hasLine_17 : decode c_Source_hasLine 17 = .ok (.iload_n 1, 1) := by decide +kernel
theorem d_Source_hasLine_18 : decode c_Source_hasLine 18 = .ok (.aaload, 1) := by decide +kernel
theorem d_Source_hasLine_19 : decode c_Source_hasLine 19 = .ok (.getfield 24, 3) := by decide +kernel
theorem d_Source_hasLine_22 : decode c_Source_hasLine 22 = .ok (.if_icmp .ge 7, 3) := by decide +kernel
theorem d_Source_hasLine_25 : decode c_Source_hasLine 25 = .ok (.iconst 1, 1) := by decide +kernel
theorem d_Source_hasLine_26 : decode c_Source_hasLine 26 = .ok (.goto 4, 3) := by decide +kernel
theorem d_Source_hasLine_29 : decode c_Source_hasLine 29 = .ok (.iconst 0, 1) := by decide +kernel
theorem d_Source_hasLine_30 : decode c_Source_hasLine 30 = .ok (.ireturn, 1) := by decide +kernel
theorem d_Source_isFull_0 : decode c_Source_isFull 0 = .ok (.aload_n 0, 1) := by decide +kernel
theorem d_Source_isFull_1 : decode c_Source_isFull 1 = .ok (.iload_n 1, 1) := by decide +kernel
theorem d_Source_isFull_2 : decode c_Source_isFull 2 = .ok (.invokevirtual 20, 3) := by decide +kernel
theorem d_Source_isFull_5 : decode c_Source_isFull 5 = .ok (.ifCond .eq 29, 3) := by decide +kernel
theorem d_Source_isFull_8 : decode c_Source_isFull 8 = .ok (.aload_n 0, 1) := by decide +kernel
theorem d_Source_isFull_9 : decode c_Source_isFull 9 = .ok (.getfield 11, 3) := by decide +kernel
theorem d_Source_isFull_12 : decode c_Source_isFull 12 = .ok (.iload_n 1, 1) := by decide +kernel
theorem d_Source_isFull_13 : decode c_Source_isFull 13 = .ok (.aaload, 1) := by decide +kernel
theorem d_Source_isFull_14 : decode c_Source_isFull 14 = .ok (.getfield 24, 3) := by decide +kernel
theorem d_Source_isFull_17 : decode c_Source_isFull 17 = .ok (.aload_n 0, 1) := by decide +kernel
theorem d_Source_isFull_18 : decode c_Source_isFull 18 = .ok (.getfield 11, 3) := by decide +kernel
theorem d_Source_isFull_21 : decode c_Source_isFull 21 = .ok (.iload_n 1, 1) := by decide +kernel
theorem d_Source_isFull_22 : decode c_Source_isFull 22 = .ok (.aaload, 1) := by decide +kernel
theorem d_Source_isFull_23 : decode c_Source_isFull 23 = .ok (.getfield 28, 3) := by decide +kernel
theorem d_Source_isFull_26 : decode c_Source_isFull 26 = .ok (.arraylength, 1) := by decide +kernel
theorem d_Source_isFull_27 : decode c_Source_isFull 27 = .ok (.if_icmp .lt 7, 3) := by decide +kernel
theorem d_Source_isFull_30 : decode c_Source_isFull 30 = .ok (.iconst 1, 1) := by decide +kernel
theorem d_Source_isFull_31 : decode c_Source_isFull 31 = .ok (.goto 4, 3) := by decide +kernel
theorem d_Source_isFull_34 : decode c_Source_isFull 34 = .ok (.iconst 0, 1) := by decide +kernel
theorem d_Source_isFull_35 : decode c_Source_isFull 35 = .ok (.ireturn, 1) := by decide +kernel
theorem d_Source_countOf_0 : decode c_Source_countOf 0 = .ok (.aload_n 0, 1) := by decide +kernel
theorem d_Source_countOf_1 : decode c_Source_countOf 1 = .ok (.iload_n 1, 1) := by decide +kernel
theorem d_Source_countOf_2 : decode c_Source_countOf 2 = .ok (.invokevirtual 20, 3) := by decide +kernel
theorem d_Source_countOf_5 : decode c_Source_countOf 5 = .ok (.ifCond .eq 15, 3) := by decide +kernel
theorem d_Source_countOf_8 : decode c_Source_countOf 8 = .ok (.aload_n 0, 1) := by decide +kernel
theorem d_Source_countOf_9 : decode c_Source_countOf 9 = .ok (.getfield 11, 3) := by decide +kernel
theorem d_Source_countOf_12 : decode c_Source_countOf 12 = .ok (.iload_n 1, 1) := by decide +kernel
theorem d_Source_countOf_13 : decode c_Source_countOf 13 = .ok (.aaload, 1) := by decide +kernel
theorem d_Source_countOf_14 : decode c_Source_countOf 14 = .ok (.getfield 24, 3) := by decide +kernel
theorem d_Source_countOf_17 : decode c_Source_countOf 17 = .ok (.goto 4, 3) := by decide +kernel
theorem d_Source_countOf_20 : decode c_Source_countOf 20 = .ok (.iconst 0, 1) := by decide +kernel
theorem d_Source_countOf_21 : decode c_Source_countOf 21 = .ok (.ireturn, 1) := by decide +kernel
theorem d_Source_countOfAll_0 : decode c_Source_countOfAll 0 = .ok (.iconst 0, 1) := by decide +kernel
theorem d_Source_countOfAll_1 : decode c_Source_countOfAll 1 = .ok (.istore_n 1, 1) := by decide +kernel
theorem d_Source_countOfAll_2 : decode c_Source_countOfAll 2 = .ok (.iconst 0, 1) := by decide +kernel
theorem d_Source_countOfAll_3 : decode c_Source_countOfAll 3 = .ok (.istore_n 2, 1) := by decide +kernel
theorem d_Source_countOfAll_4 : decode c_Source_countOfAll 4 = .ok (.iload_n 2, 1) := by decide +kernel
theorem d_Source_countOfAll_5 : decode c_Source_countOfAll 5 = .ok (.iconst 5, 1) := by decide +kernel
theorem d_Source_countOfAll_6 : decode c_Source_countOfAll 6 = .ok (.if_icmp .ge 21, 3) := by decide +kernel
theorem d_Source_countOfAll_9 : decode c_Source_countOfAll 9 = .ok (.iload_n 1, 1) := by decide +kernel
theorem d_Source_countOfAll_10 : decode c_Source_countOfAll 10 = .ok (.aload_n 0, 1) := by decide +kernel
theorem d_Source_countOfAll_11 : decode c_Source_countOfAll 11 = .ok (.getfield 11, 3) := by decide +kernel
theorem d_Source_countOfAll_14 : decode c_Source_countOfAll 14 = .ok (.iload_n 2, 1) := by decide +kernel
theorem d_Source_countOfAll_15 : decode c_Source_countOfAll 15 = .ok (.aaload, 1) := by decide +kernel
theorem d_Source_countOfAll_16 : decode c_Source_countOfAll 16 = .ok (.getfield 24, 3) := by decide +kernel
theorem d_Source_countOfAll_19 : decode c_Source_countOfAll 19 = .ok (.iadd, 1) := by decide +kernel
theorem d_Source_countOfAll_20 : decode c_Source_countOfAll 20 = .ok (.istore_n 1, 1) := by decide +kernel
theorem d_Source_countOfAll_21 : decode c_Source_countOfAll 21 = .ok (.iinc 2 1, 3) := by decide +kernel
theorem d_Source_countOfAll_24 : decode c_Source_countOfAll 24 = .ok (.goto (-20), 3) := by decide +kernel
theorem d_Source_countOfAll_27 : decode c_Source_countOfAll 27 = .ok (.iload_n 1, 1) := by decide +kernel
theorem d_Source_countOfAll_28 : decode c_Source_countOfAll 28 = .ok (.ireturn, 1) := by decide +kernel
theorem d_Source_lineAt_0 : decode c_Source_lineAt 0 = .ok (.aload_n 0, 1) := by decide +kernel
theorem d_Source_lineAt_1 : decode c_Source_lineAt 1 = .ok (.iload_n 1, 1) := by decide +kernel
theorem d_Source_lineAt_2 : decode c_Source_lineAt 2 = .ok (.iload_n 2, 1) := by decide +kernel
theorem d_Source_lineAt_3 : decode c_Source_lineAt 3 = .ok (.invokevirtual 32, 3) := by decide +kernel
theorem d_Source_lineAt_6 : decode c_Source_lineAt 6 = .ok (.ifCond .eq 17, 3) := by decide +kernel
theorem d_Source_lineAt_9 : decode c_Source_lineAt 9 = .ok (.aload_n 0, 1) := by decide +kernel
theorem d_Source_lineAt_10 : decode c_Source_lineAt 10 = .ok (.getfield 11, 3) := by decide +kernel
theorem d_Source_lineAt_13 : decode c_Source_lineAt 13 = .ok (.iload_n 1, 1) := by decide +kernel
theorem d_Source_lineAt_14 : decode c_Source_lineAt 14 = .ok (.aaload, 1) := by decide +kernel
theorem d_Source_lineAt_15 : decode c_Source_lineAt 15 = .ok (.getfield 28, 3) := by decide +kernel
theorem d_Source_lineAt_18 : decode c_Source_lineAt 18 = .ok (.iload_n 2, 1) := by decide +kernel
theorem d_Source_lineAt_19 : decode c_Source_lineAt 19 = .ok (.aaload, 1) := by decide +kernel
theorem d_Source_lineAt_20 : decode c_Source_lineAt 20 = .ok (.goto 4, 3) := by decide +kernel
theorem d_Source_lineAt_23 : decode c_Source_lineAt 23 = .ok (.aconst_null, 1) := by decide +kernel
theorem d_Source_lineAt_24 : decode c_Source_lineAt 24 = .ok (.areturn, 1) := by decide +kernel
theorem d_Source_insert_0 : decode c_Source_insert 0 = .ok (.aload_n 0, 1) := by decide +kernel
theorem d_Source_insert_1 : decode c_Source_insert 1 = .ok (.iload_n 1, 1) := by decide +kernel
theorem d_Source_insert_2 : decode c_Source_insert 2 = .ok (.invokevirtual 20, 3) := by decide +kernel
theorem d_Source_insert_5 : decode c_Source_insert 5 = .ok (.ifCond .eq 14, 3) := by decide +kernel
theorem d_Source_insert_8 : decode c_Source_insert 8 = .ok (.aload_n 0, 1) := by decide +kernel
theorem d_Source_insert_9 : decode c_Source_insert 9 = .ok (.getfield 11, 3) := by decide +kernel
theorem d_Source_insert_12 : decode c_Source_insert 12 = .ok (.iload_n 1, 1) := by decide +kernel
theorem d_Source_insert_13 : decode c_Source_insert 13 = .ok (.aaload, 1) := by decide +kernel
theorem d_Source_insert_14 : decode c_Source_insert 14 = .ok (.iload_n 2, 1) := by decide +kernel
theorem d_Source_insert_15 : decode c_Source_insert 15 = .ok (.aload_n 3, 1) := by decide +kernel
theorem d_Source_insert_16 : decode c_Source_insert 16 = .ok (.invokevirtual 36, 3) := by decide +kernel
theorem d_Source_insert_19 : decode c_Source_insert 19 = .ok (.return_, 1) := by decide +kernel
theorem d_Source_replace_0 : decode c_Source_replace 0 = .ok (.aload_n 0, 1) := by decide +kernel
theorem d_Source_replace_1 : decode c_Source_replace 1 = .ok (.iload_n 1, 1) := by decide +kernel
theorem d_Source_replace_2 : decode c_Source_replace 2 = .ok (.iload_n 2, 1) := by decide +kernel
theorem d_Source_replace_3 : decode c_Source_replace 3 = .ok (.invokevirtual 32, 3) := by decide +kernel
theorem d_Source_replace_6 : decode c_Source_replace 6 = .ok (.ifCond .eq 15, 3) := by decide +kernel
theorem d_Source_replace_9 : decode c_Source_replace 9 = .ok (.aload_n 0, 1) := by decide +kernel
theorem d_Source_replace_10 : decode c_Source_replace 10 = .ok (.getfield 11, 3) := by decide +kernel
theorem d_Source_replace_13 : decode c_Source_replace 13 = .ok (.iload_n 1, 1) := by decide +kernel
theorem d_Source_replace_14 : decode c_Source_replace 14 = .ok (.aaload, 1) := by decide +kernel
theorem d_Source_replace_15 : decode c_Source_replace 15 = .ok (.getfield 28, 3) := by decide +kernel
theorem d_Source_replace_18 : decode c_Source_replace 18 = .ok (.iload_n 2, 1) := by decide +kernel
theorem d_Source_replace_19 : decode c_Source_replace 19 = .ok (.aload_n 3, 1) := by decide +kernel
theorem d_Source_replace_20 : decode c_Source_replace 20 = .ok (.aastore, 1) := by decide +kernel
theorem d_Source_replace_21 : decode c_Source_replace 21 = .ok (.return_, 1) := by decide +kernel
theorem d_Source_remove_0 : decode c_Source_remove 0 = .ok (.aload_n 0, 1) := by decide +kernel
theorem d_Source_remove_1 : decode c_Source_remove 1 = .ok (.iload_n 1, 1) := by decide +kernel
theorem d_Source_remove_2 : decode c_Source_remove 2 = .ok (.iload_n 2, 1) := by decide +kernel
theorem d_Source_remove_3 : decode c_Source_remove 3 = .ok (.invokevirtual 32, 3) := by decide +kernel
theorem d_Source_remove_6 : decode c_Source_remove 6 = .ok (.ifCond .eq 13, 3) := by decide +kernel
theorem d_Source_remove_9 : decode c_Source_remove 9 = .ok (.aload_n 0, 1) := by decide +kernel
theorem d_Source_remove_10 : decode c_Source_remove 10 = .ok (.getfield 11, 3) := by decide +kernel
theorem d_Source_remove_13 : decode c_Source_remove 13 = .ok (.iload_n 1, 1) := by decide +kernel
theorem d_Source_remove_14 : decode c_Source_remove 14 = .ok (.aaload, 1) := by decide +kernel
theorem d_Source_remove_15 : decode c_Source_remove 15 = .ok (.iload_n 2, 1) := by decide +kernel
theorem d_Source_remove_16 : decode c_Source_remove 16 = .ok (.invokevirtual 40, 3) := by decide +kernel
theorem d_Source_remove_19 : decode c_Source_remove 19 = .ok (.return_, 1) := by decide +kernel
theorem d_Source_copyFrom_0 : decode c_Source_copyFrom 0 = .ok (.iconst 0, 1) := by decide +kernel
theorem d_Source_copyFrom_1 : decode c_Source_copyFrom 1 = .ok (.istore_n 2, 1) := by decide +kernel
theorem d_Source_copyFrom_2 : decode c_Source_copyFrom 2 = .ok (.iload_n 2, 1) := by decide +kernel
theorem d_Source_copyFrom_3 : decode c_Source_copyFrom 3 = .ok (.iconst 5, 1) := by decide +kernel
theorem d_Source_copyFrom_4 : decode c_Source_copyFrom 4 = .ok (.if_icmp .ge 24, 3) := by decide +kernel
theorem d_Source_copyFrom_7 : decode c_Source_copyFrom 7 = .ok (.aload_n 0, 1) := by decide +kernel
theorem d_Source_copyFrom_8 : decode c_Source_copyFrom 8 = .ok (.getfield 11, 3) := by decide +kernel
theorem d_Source_copyFrom_11 : decode c_Source_copyFrom 11 = .ok (.iload_n 2, 1) := by decide +kernel
theorem d_Source_copyFrom_12 : decode c_Source_copyFrom 12 = .ok (.aaload, 1) := by decide +kernel
theorem d_Source_copyFrom_13 : decode c_Source_copyFrom 13 = .ok (.aload_n 1, 1) := by decide +kernel
theorem d_Source_copyFrom_14 : decode c_Source_copyFrom 14 = .ok (.getfield 11, 3) := by decide +kernel
theorem d_Source_copyFrom_17 : decode c_Source_copyFrom 17 = .ok (.iload_n 2, 1) := by decide +kernel
theorem d_Source_copyFrom_18 : decode c_Source_copyFrom 18 = .ok (.aaload, 1) := by decide +kernel
theorem d_Source_copyFrom_19 : decode c_Source_copyFrom 19 = .ok (.invokevirtual 43, 3) := by decide +kernel
theorem d_Source_copyFrom_22 : decode c_Source_copyFrom 22 = .ok (.iinc 2 1, 3) := by decide +kernel
theorem d_Source_copyFrom_25 : decode c_Source_copyFrom 25 = .ok (.goto (-23), 3) := by decide +kernel
theorem d_Source_copyFrom_28 : decode c_Source_copyFrom 28 = .ok (.return_, 1) := by decide +kernel
theorem d_BP_init_0 : decode c_BP_init 0 = .ok (.aload_n 0, 1) := by decide +kernel
theorem d_BP_init_1 : decode c_BP_init 1 = .ok (.invokespecial 1, 3) := by decide +kernel
theorem d_BP_init_4 : decode c_BP_init 4 = .ok (.aload_n 0, 1) := by decide +kernel
theorem d_BP_init_5 : decode c_BP_init 5 = .ok (.new 7, 3) := by decide +kernel
theorem d_BP_init_8 : decode c_BP_init 8 = .ok (.dup, 1) := by decide +kernel
theorem d_BP_init_9 : decode c_BP_init 9 = .ok (.bipush 40, 2) := by decide +kernel
theorem d_BP_init_11 : decode c_BP_init 11 = .ok (.invokespecial 11, 3) := by decide +kernel
theorem d_BP_init_14 : decode c_BP_init 14 = .ok (.putfield 14, 3) := by decide +kernel
theorem d_BP_init_17 : decode c_BP_init 17 = .ok (.aload_n 0, 1) := by decide +kernel
theorem d_BP_init_18 : decode c_BP_init 18 = .ok (.new 18, 3) := by decide +kernel
theorem d_BP_init_21 : decode c_BP_init 21 = .ok (.dup, 1) := by decide +kernel
theorem d_BP_init_22 : decode c_BP_init 22 = .ok (.aload_n 0, 1) := by decide +kernel
theorem d_BP_init_23 : decode c_BP_init 23 = .ok (.getfield 14, 3) := by decide +kernel
theorem d_BP_init_26 : decode c_BP_init 26 = .ok (.invokespecial 20, 3) := by decide +kernel
theorem d_BP_init_29 : decode c_BP_init 29 = .ok (.putfield 23, 3) := by decide +kernel
theorem d_BP_init_32 : decode c_BP_init 32 = .ok (.aload_n 0, 1) := by decide +kernel
theorem d_BP_init_33 : decode c_BP_init 33 = .ok (.new 7, 3) := by decide +kernel
theorem d_BP_init_36 : decode c_BP_init 36 = .ok (.dup, 1) := by decide +kernel
theorem d_BP_init_37 : decode c_BP_init 37 = .ok (.bipush 60, 2) := by decide +kernel
theorem d_BP_init_39 : decode c_BP_init 39 = .ok (.invokespecial 11, 3) := by decide +kernel
theorem d_BP_init_42 : decode c_BP_init 42 = .ok (.putfield 27, 3) := by decide +kernel
theorem d_BP_init_45 : decode c_BP_init 45 = .ok (.aload_n 0, 1) := by decide +kernel
theorem d_BP_init_46 : decode c_BP_init 46 = .ok (.new 18, 3) := by decide +kernel
theorem d_BP_init_49 : decode c_BP_init 49 = .ok (.dup, 1) := by decide +kernel
theorem d_BP_init_50 : decode c_BP_init 50 = .ok (.aload_n 0, 1) := by decide +kernel
theorem d_BP_init_51 : decode c_BP_init 51 = .ok (.getfield 27, 3) := by decide +kernel
theorem d_BP_init_54 : decode c_BP_init 54 = .ok (.invokespecial 20, 3) := by decide +kernel
theorem d_BP_init_57 : decode c_BP_init 57 = .ok (.putfield 30, 3) := by decide +kernel
theorem d_BP_init_60 : decode c_BP_init 60 = .ok (.aload_n 0, 1) := by decide +kernel
theorem d_BP_init_61 : decode c_BP_init 61 = .ok (.invokevirtual 33, 3) := by decide +kernel
theorem d_BP_init_64 : decode c_BP_init 64 = .ok (.return_, 1) := by decide +kernel
theorem d_BP_add_0 : decode c_BP_add 0 = .ok (.aload_n 0, 1) := by decide +kernel
theorem d_BP_add_1 : decode c_BP_add 1 = .ok (.getfield 14, 3) := by decide +kernel
theorem d_BP_add_4 : decode c_BP_add 4 = .ok (.iload_n 1, 1) := by decide +kernel
theorem d_BP_add_5 : decode c_BP_add 5 = .ok (.invokevirtual 36, 3) := by decide +kernel
theorem d_BP_add_8 : decode c_BP_add 8 = .ok (.ifCond .ne 13, 3) := by decide +kernel
theorem d_BP_add_11 : decode c_BP_add 11 = .ok (.new 40, 3) := by decide +kernel
theorem d_BP_add_14 : decode c_BP_add 14 = .ok (.dup, 1) := by decide +kernel
theorem d_BP_add_15 : decode c_BP_add 15 = .ok (.ldc 42, 2) := by decide +kernel
theorem d_BP_add_17 : decode c_BP_add 17 = .ok (.invokespecial 44, 3) := by decide +kernel
theorem d_BP_add_20 : decode c_BP_add 20 = .ok (.athrow, 1) := by decide +kernel
theorem d_BP_add_21 : decode c_BP_add 21 = .ok (.iload_n 2, 1) := by decide +kernel
theorem d_BP_add_22 : decode c_BP_add 22 = .ok (.iload_n 3, 1) := by decide +kernel
theorem d_BP_add_23 : decode c_BP_add 23 = .ok (.iload 4, 2) := by decide +kernel
theorem d_BP_add_25 : decode c_BP_add 25 = .ok (.iload 5, 2) := by decide +kernel
theorem d_BP_add_27 : decode c_BP_add 27 = .ok (.iload 6, 2) := by decide +kernel
theorem d_BP_add_29 : decode c_BP_add 29 = .ok (.invokestatic 47, 3) := by decide +kernel
theorem d_BP_add_32 : decode c_BP_add 32 = .ok (.ifCond .ne 13, 3) := by decide +kernel
theorem d_BP_add_35 : decode c_BP_add 35 = .ok (.new 53, 3) := by decide +kernel
theorem d_BP_add_38 : decode c_BP_add 38 = .ok (.dup, 1) := by decide +kernel
theorem d_BP_add_39 : decode c_BP_add 39 = .ok (.ldc 55, 2) := by decide +kernel
theorem d_BP_add_41 : decode c_BP_add 41 = .ok (.invokespecial 57, 3) := by decide +kernel
theorem d_BP_add_44 : decode c_BP_add 44 = .ok (.athrow, 1) := by decide +kernel
theorem d_BP_add_45 : decode c_BP_add 45 = .ok (.aload_n 0, 1) := by decide +kernel
theorem d_BP_add_46 : decode c_BP_add 46 = .ok (.getfield 14, 3) := by decide +kernel
theorem d_BP_add_49 : decode c_BP_add 49 = .ok (.iload_n 1, 1) := by decide +kernel
theorem d_BP_add_50 : decode c_BP_add 50 = .ok (.invokevirtual 58, 3) := by decide +kernel
theorem d_BP_add_53 : decode c_BP_add 53 = .ok (.ifCond .eq 13, 3) := by decide +kernel
theorem d_BP_add_56 : decode c_BP_add 56 = .ok (.new 61, 3) := by decide +kernel
theorem d_BP_add_59 : decode c_BP_add 59 = .ok (.dup, 1) := by decide +kernel
theorem d_BP_add_60 : decode c_BP_add 60 = .ok (.ldc 63, 2) := by decide +kernel
theorem d_BP_add_62 : decode c_BP_add 62 = .ok (.invokespecial 65, 3) := by decide +kernel
theorem d_BP_add_65 : decode c_BP_add 65 = .ok (.athrow, 1) := by decide +kernel
theorem d_BP_add_66 : decode c_BP_add 66 = .ok (.aload_n 0, 1) := by decide +kernel
theorem d_BP_add_67 : decode c_BP_add 67 = .ok (.getfield 14, 3) := by decide +kernel
theorem d_BP_add_70 : decode c_BP_add 70 = .ok (.iload_n 1, 1) := by decide +kernel
theorem d_BP_add_71 : decode c_BP_add 71 = .ok (.invokevirtual 66, 3) := by decide +kernel
theorem d_BP_add_74 : decode c_BP_add 74 = .ok (.istore 7, 2) := by decide +kernel
theorem d_BP_add_76 : decode c_BP_add 76 = .ok (.aload_n 0, 1) := by decide +kernel
theorem d_BP_add_77 : decode c_BP_add 77 = .ok (.getfield 14, 3) := by decide +kernel
theorem d_BP_add_80 : decode c_BP_add 80 = .ok (.iload_n 1, 1) := by decide +kernel
theorem d_BP_add_81 : decode c_BP_add 81 = .ok (.iload 7, 2) := by decide +kernel
theorem d_BP_add_83 : decode c_BP_add 83 = .ok (.new 48, 3) := by decide +kernel
theorem d_BP_add_86 : decode c_BP_add 86 = .ok (.dup, 1) := by decide +kernel
theorem d_BP_add_87 : decode c_BP_add 87 = .ok (.iload_n 2, 1) := by decide +kernel
theorem d_BP_add_88 : decode c_BP_add 88 = .ok (.iload_n 3, 1) := by decide +kernel
theorem d_BP_add_89 : decode c_BP_add 89 = .ok (.iload 4, 2) := by decide +kernel
theorem d_BP_add_91 : decode c_BP_add 91 = .ok (.iload 5, 2) := by decide +kernel
theorem d_BP_add_93 : decode c_BP_add 93 = .ok (.iload 6, 2) := by decide +kernel
theorem d_BP_add_95 : decode c_BP_add 95 = .ok (.invokespecial 70, 3) := by decide +kernel
theorem d_BP_add_98 : decode c_BP_add 98 = .ok (.invokevirtual 73, 3) := by decide +kernel
theorem d_BP_add_101 : decode c_BP_add 101 = .ok (.aload_n 0, 1) := by decide +kernel
theorem d_BP_add_102 : decode c_BP_add 102 = .ok (.invokevirtual 33, 3) := by decide +kernel
theorem d_BP_add_105 : decode c_BP_add 105 = .ok (.iload 7, 2) := by decide +kernel
theorem d_BP_add_107 : decode c_BP_add 107 = .ok (.ireturn, 1) := by decide +kernel
theorem d_BP_put_0 : decode c_BP_put 0 = .ok (.aload_n 0, 1) := by decide +kernel
theorem d_BP_put_1 : decode c_BP_put 1 = .ok (.iload_n 1, 1) := by decide +kernel
theorem d_BP_put_2 : decode c_BP_put 2 = .ok (.iload_n 2, 1) := by decide +kernel
theorem d_BP_put_3 : decode c_BP_put 3 = .ok (.invokevirtual 77, 3) := by decide +kernel
theorem d_BP_put_6 : decode c_BP_put 6 = .ok (.astore 8, 2) := by decide +kernel
theorem d_BP_put_8 : decode c_BP_put 8 = .ok (.iload_n 3, 1) := by decide +kernel
theorem d_BP_put_9 : decode c_BP_put 9 = .ok (.iload 4, 2) := by decide +kernel
theorem d_BP_put_11 : decode c_BP_put 11 = .ok (.iload 5, 2) := by decide +kernel
theorem d_BP_put_13 : decode c_BP_put 13 = .ok (.iload 6, 2) := by decide +kernel
theorem d_BP_put_15 : decode c_BP_put 15 = .ok (.iload 7, 2) := by decide +kernel
theorem d_BP_put_17 : decode c_BP_put 17 = .ok (.invokestatic 47, 3) := by decide +kernel
theorem d_BP_put_20 : decode c_BP_put 20 = .ok (.ifCond .ne 13, 3) := by decide +kernel
theorem d_BP_put_23 : decode c_BP_put 23 = .ok (.new 53, 3) := by decide +kernel
theorem d_BP_put_26 : decode c_BP_put 26 = .ok (.dup, 1) := by decide +kernel
theorem d_BP_put_27 : decode c_BP_put 27 = .ok (.ldc 55, 2) := by decide +kernel
theorem d_BP_put_29 : decode c_BP_put 29 = .ok (.invokespecial 57, 3) := by decide +kernel
theorem d_BP_put_32 : decode c_BP_put 32 = .ok (.athrow, 1) := by decide +kernel
theorem d_BP_put_33 : decode c_BP_put 33 = .ok (.aload_n 0, 1) := by decide +kernel
theorem d_BP_put_34 : decode c_BP_put 34 = .ok (.getfield 14, 3) := by decide +kernel
theorem d_BP_put_37 : decode c_BP_put 37 = .ok (.iload_n 1, 1) := by decide +kernel
theorem d_BP_put_38 : decode c_BP_put 38 = .ok (.iload_n 2, 1) := by decide +kernel
theorem d_BP_put_39 : decode c_BP_put 39 = .ok (.new 48, 3) := by decide +kernel
theorem d_BP_put_42 : decode c_BP_put 42 = .ok (.dup, 1) := by decide +kernel
theorem d_BP_put_43 : decode c_BP_put 43 = .ok (.iload_n 3, 1) := by decide +kernel
theorem d_BP_put_44 : decode c_BP_put 44 = .ok (.iload 4, 2) := by decide +kernel
theorem d_BP_put_46 : decode c_BP_put 46 = .ok (.iload 5, 2) := by decide +kernel
theorem d_BP_put_48 : decode c_BP_put 48 = .ok (.iload 6, 2) := by decide +kernel
theorem d_BP_put_50 : decode c_BP_put 50 = .ok (.iload 7, 2) := by decide +kernel
theorem d_BP_put_52 : decode c_BP_put 52 = .ok (.invokespecial 70, 3) := by decide +kernel
theorem d_BP_put_55 : decode c_BP_put 55 = .ok (.invokevirtual 81, 3) := by decide +kernel
theorem d_BP_put_58 : decode c_BP_put 58 = .ok (.aload_n 0, 1) := by decide +kernel
theorem d_BP_put_59 : decode c_BP_put 59 = .ok (.invokevirtual 33, 3) := by decide +kernel
theorem d_BP_put_62 : decode c_BP_put 62 = .ok (.aload 8, 2) := by decide +kernel
theorem d_BP_put_64 : decode c_BP_put 64 = .ok (.getfield 84, 3) := by decide +kernel
theorem d_BP_put_67 : decode c_BP_put 67 = .ok (.ireturn, 1) := by decide +kernel
theorem d_BP_cut_0 : decode c_BP_cut 0 = .ok (.aload_n 0, 1) := by decide +kernel
theorem d_BP_cut_1 : decode c_BP_cut 1 = .ok (.getfield 14, 3) := by decide +kernel
theorem d_BP_cut_4 : decode c_BP_cut 4 = .ok (.iload_n 1, 1) := by decide +kernel
theorem d_BP_cut_5 : decode c_BP_cut 5 = .ok (.iload_n 2, 1) := by decide +kernel
theorem d_BP_cut_6 : decode c_BP_cut 6 = .ok (.invokevirtual 88, 3) := by decide +kernel
theorem d_BP_cut_9 : decode c_BP_cut 9 = .ok (.ifCond .ne 13, 3) := by decide +kernel
theorem d_BP_cut_12 : decode c_BP_cut 12 = .ok (.new 40, 3) := by decide +kernel
theorem d_BP_cut_15 : decode c_BP_cut 15 = .ok (.dup, 1) := by decide +kernel
theorem d_BP_cut_16 : decode c_BP_cut 16 = .ok (.ldc 92, 2) := by decide +kernel
theorem d_BP_cut_18 : decode c_BP_cut 18 = .ok (.invokespecial 44, 3) := by decide +kernel
theorem d_BP_cut_21 : decode c_BP_cut 21 = .ok (.athrow, 1) := by decide +kernel
theorem d_BP_cut_22 : decode c_BP_cut 22 = .ok (.aload_n 0, 1) := by decide +kernel
theorem d_BP_cut_23 : decode c_BP_cut 23 = .ok (.getfield 14, 3) := by decide +kernel
theorem d_BP_cut_26 : decode c_BP_cut 26 = .ok (.iload_n 1, 1) := by decide +kernel
theorem d_BP_cut_27 : decode c_BP_cut 27 = .ok (.iload_n 2, 1) := by decide +kernel
theorem d_BP_cut_28 : decode c_BP_cut 28 = .ok (.invokevirtual 94, 3) := by decide +kernel
theorem d_BP_cut_31 : decode c_BP_cut 31 = .ok (.aload_n 0, 1) := by decide +kernel
theorem d_BP_cut_32 : decode c_BP_cut 32 = .ok (.invokevirtual 33, 3) := by decide +kernel
theorem d_BP_cut_35 : decode c_BP_cut 35 = .ok (.aload_n 0, 1) := by decide +kernel
theorem d_BP_cut_36 : decode c_BP_cut 36 = .ok (.getfield 14, 3) := by decide +kernel
theorem d_BP_cut_39 : decode c_BP_cut 39 = .ok (.iload_n 1, 1) := by decide +kernel
theorem d_BP_cut_40 : decode c_BP_cut 40 = .ok (.invokevirtual 66, 3) := by decide +kernel
theorem d_BP_cut_43 : decode c_BP_cut 43 = .ok (.ireturn, 1) := by decide +kernel
theorem d_BP_ofLine_0 : decode c_BP_ofLine 0 = .ok (.aload_n 0, 1) := by decide +kernel
theorem d_BP_ofLine_1 : decode c_BP_ofLine 1 = .ok (.iload_n 1, 1) := by decide +kernel
theorem d_BP_ofLine_2 : decode c_BP_ofLine 2 = .ok (.iload_n 2, 1) := by decide +kernel
theorem d_BP_ofLine_3 : decode c_BP_ofLine 3 = .ok (.invokevirtual 77, 3) := by decide +kernel
theorem d_BP_ofLine_6 : decode c_BP_ofLine 6 = .ok (.astore 4, 2) := by decide +kernel
theorem d_BP_ofLine_8 : decode c_BP_ofLine 8 = .ok (.iload_n 3, 1) := by decide +kernel
theorem d_BP_ofLine_9 : decode c_BP_ofLine 9 = .ok (.tableswitch 73 0 4 #[35, 41, 47, 53, 59], 35) := by decide +kernel
theorem d_BP_ofLine_44 : decode c_BP_ofLine 44 = .ok (.aload 4, 2) := by decide +kernel
theorem d_BP_ofLine_46 : decode c_BP_ofLine 46 = .ok (.getfield 84, 3) := by decide +kernel
theorem d_BP_ofLine_49 : decode c_BP_ofLine 49 = .ok (.ireturn, 1) := by decide +kernel
theorem d_BP_ofLine_50 : decode c_BP_ofLine 50 = .ok (.aload 4, 2) := by decide +kernel
theorem d_BP_ofLine_52 : decode c_BP_ofLine 52 = .ok (.getfield 98, 3) := by decide +kernel
theorem d_BP_ofLine_55 : decode c_BP_ofLine 55 = .ok (.ireturn, 1) := by decide +kernel
theorem d_BP_ofLine_56 : decode c_BP_ofLine 56 = .ok (.aload 4, 2) := by decide +kernel
theorem d_BP_ofLine_58 : decode c_BP_ofLine 58 = .ok (.getfield 101, 3) := by decide +kernel
theorem d_BP_ofLine_61 : decode c_BP_ofLine 61 = .ok (.ireturn, 1) := by decide +kernel
theorem d_BP_ofLine_62 : decode c_BP_ofLine 62 = .ok (.aload 4, 2) := by decide +kernel
theorem d_BP_ofLine_64 : decode c_BP_ofLine 64 = .ok (.getfield 104, 3) := by decide +kernel
theorem d_BP_ofLine_67 : decode c_BP_ofLine 67 = .ok (.ireturn, 1) := by decide +kernel
theorem d_BP_ofLine_68 : decode c_BP_ofLine 68 = .ok (.aload 4, 2) := by decide +kernel
theorem d_BP_ofLine_70 : decode c_BP_ofLine 70 = .ok (.getfield 107, 3) := by decide +kernel
theorem d_BP_ofLine_73 : decode c_BP_ofLine 73 = .ok (.ifCond .eq 7, 3) := by decide +kernel
theorem d_BP_ofLine_76 : decode c_BP_ofLine 76 = .ok (.iconst 1, 1) := by decide +kernel
theorem d_BP_ofLine_77 : decode c_BP_ofLine 77 = .ok (.goto 4, 3) := by decide +kernel
theorem d_BP_ofLine_80 : decode c_BP_ofLine 80 = .ok (.iconst 0, 1) := by decide +kernel
theorem d_BP_ofLine_81 : decode c_BP_ofLine 81 = .ok (.ireturn, 1) := by decide +kernel
theorem d_BP_ofLine_82 : decode c_BP_ofLine 82 = .ok (.new 53, 3) := by decide +kernel
theorem d_BP_ofLine_85 : decode c_BP_ofLine 85 = .ok (.dup, 1) := by decide +kernel
theorem d_BP_ofLine_86 : decode c_BP_ofLine 86 = .ok (.ldc 111, 2) := by decide +kernel
theorem d_BP_ofLine_88 : decode c_BP_ofLine 88 = .ok (.invokespecial 57, 3) := by decide +kernel
theorem d_BP_ofLine_91 : decode c_BP_ofLine 91 = .ok (.athrow, 1) := by decide +kernel
theorem d_BP_fault_0 : decode c_BP_fault 0 = .ok (.aload_n 0, 1) := by decide +kernel
theorem d_BP_fault_1 : decode c_BP_fault 1 = .ok (.getfield 23, 3) := by decide +kernel
theorem d_BP_fault_4 : decode c_BP_fault 4 = .ok (.getfield 113, 3) := by decide +kernel
theorem d_BP_fault_7 : decode c_BP_fault 7 = .ok (.ireturn, 1) := by decide +kernel
theorem d_BP_faultAt_0 : decode c_BP_faultAt 0 = .ok (.aload_n 0, 1) := by decide +kernel
theorem d_BP_faultAt_1 : decode c_BP_faultAt 1 = .ok (.getfield 23, 3) := by decide +kernel
theorem d_BP_faultAt_4 : decode c_BP_faultAt 4 = .ok (.getfield 116, 3) := by decide +kernel
theorem d_BP_faultAt_7 : decode c_BP_faultAt 7 = .ok (.ireturn, 1) := by decide +kernel
theorem d_BP_ofItem_0 : decode c_BP_ofItem 0 = .ok (.aload_n 0, 1) := by decide +kernel
theorem d_BP_ofItem_1 : decode c_BP_ofItem 1 = .ok (.iload_n 1, 1) := by decide +kernel
theorem d_BP_ofItem_2 : decode c_BP_ofItem 2 = .ok (.invokevirtual 119, 3) := by decide +kernel
theorem d_BP_ofItem_5 : decode c_BP_ofItem 5 = .ok (.astore_n 3, 1) := by decide +kernel
theorem d_BP_ofItem_6 : decode c_BP_ofItem 6 = .ok (.iload_n 2, 1) := by decide +kernel
theorem d_BP_ofItem_7 : decode c_BP_ofItem 7 = .ok (.tableswitch 101 0 7 #[45, 50, 55, 60, 65, 70, 75, 88], 45) := by decide +kernel
theorem d_BP_ofItem_52 : decode c_BP_ofItem 52 = .ok (.aload_n 3, 1) := by decide +kernel
theorem d_BP_ofItem_53 : decode c_BP_ofItem 53 = .ok (.getfield 123, 3) := by decide +kernel
theorem d_BP_ofItem_56 : decode c_BP_ofItem 56 = .ok (.ireturn, 1) := by decide +kernel
theorem d_BP_ofItem_57 : decode c_BP_ofItem 57 = .ok (.aload_n 3, 1) := by decide +kernel
theorem d_BP_ofItem_58 : decode c_BP_ofItem 58 = .ok (.getfield 126, 3) := by decide +kernel
theorem d_BP_ofItem_61 : decode c_BP_ofItem 61 = .ok (.ireturn, 1) := by decide +kernel
theorem d_BP_ofItem_62 : decode c_BP_ofItem 62 = .ok (.aload_n 3, 1) := by decide +kernel
theorem d_BP_ofItem_63 : decode c_BP_ofItem 63 = .ok (.getfield 129, 3) := by decide +kernel
theorem d_BP_ofItem_66 : decode c_BP_ofItem 66 = .ok (.ireturn, 1) := by decide +kernel
theorem d_BP_ofItem_67 : decode c_BP_ofItem 67 = .ok (.aload_n 3, 1) := by decide +kernel
theorem d_BP_ofItem_68 : decode c_BP_ofItem 68 = .ok (.getfield 132, 3) := by decide +kernel
theorem d_BP_ofItem_71 : decode c_BP_ofItem 71 = .ok (.ireturn, 1) := by decide +kernel
theorem d_BP_ofItem_72 : decode c_BP_ofItem 72 = .ok (.aload_n 3, 1) := by decide +kernel
theorem d_BP_ofItem_73 : decode c_BP_ofItem 73 = .ok (.getfield 135, 3) := by decide +kernel
theorem d_BP_ofItem_76 : decode c_BP_ofItem 76 = .ok (.ireturn, 1) := by decide +kernel
theorem d_BP_ofItem_77 : decode c_BP_ofItem 77 = .ok (.aload_n 3, 1) := by decide +kernel
theorem d_BP_ofItem_78 : decode c_BP_ofItem 78 = .ok (.getfield 138, 3) := by decide +kernel
theorem d_BP_ofItem_81 : decode c_BP_ofItem 81 = .ok (.ireturn, 1) := by decide +kernel
theorem d_BP_ofItem_82 : decode c_BP_ofItem 82 = .ok (.aload_n 3, 1) := by decide +kernel
theorem d_BP_ofItem_83 : decode c_BP_ofItem 83 = .ok (.getfield 139, 3) := by decide +kernel
theorem d_BP_ofItem_86 : decode c_BP_ofItem 86 = .ok (.ifCond .eq 7, 3) := by decide +kernel
theorem d_BP_ofItem_89 : decode c_BP_ofItem 89 = .ok (.iconst 1, 1) := by decide +kernel
theorem d_BP_ofItem_90 : decode c_BP_ofItem 90 = .ok (.goto 4, 3) := by decide +kernel
theorem d_BP_ofItem_93 : decode c_BP_ofItem 93 = .ok (.iconst 0, 1) := by decide +kernel
theorem d_BP_ofItem_94 : decode c_BP_ofItem 94 = .ok (.ireturn, 1) := by decide +kernel
theorem d_BP_ofItem_95 : decode c_BP_ofItem 95 = .ok (.aload_n 3, 1) := by decide +kernel
theorem d_BP_ofItem_96 : decode c_BP_ofItem 96 = .ok (.getfield 142, 3) := by decide +kernel
theorem d_BP_ofItem_99 : decode c_BP_ofItem 99 = .ok (.ifCond .eq 7, 3) := by decide +kernel
theorem d_BP_ofItem_102 : decode c_BP_ofItem 102 = .ok (.iconst 1, 1) := by decide +kernel
theorem d_BP_ofItem_103 : decode c_BP_ofItem 103 = .ok (.goto 4, 3) := by decide +kernel
theorem d_BP_ofItem_106 : decode c_BP_ofItem 106 = .ok (.iconst 0, 1) := by decide +kernel
theorem d_BP_ofItem_107 : decode c_BP_ofItem 107 = .ok (.ireturn, 1) := by decide +kernel
theorem d_BP_ofItem_108 : decode c_BP_ofItem 108 = .ok (.new 53, 3) := by decide +kernel
theorem d_BP_ofItem_111 : decode c_BP_ofItem 111 = .ok (.dup, 1) := by decide +kernel
theorem d_BP_ofItem_112 : decode c_BP_ofItem 112 = .ok (.ldc 145, 2) := by decide +kernel
theorem d_BP_ofItem_114 : decode c_BP_ofItem 114 = .ok (.invokespecial 57, 3) := by decide +kernel
theorem d_BP_ofItem_117 : decode c_BP_ofItem 117 = .ok (.athrow, 1) := by decide +kernel
theorem d_BP_word_0 : decode c_BP_word 0 = .ok (.aload_n 0, 1) := by decide +kernel
theorem d_BP_word_1 : decode c_BP_word 1 = .ok (.aload_n 0, 1) := by decide +kernel
theorem d_BP_word_2 : decode c_BP_word 2 = .ok (.getfield 23, 3) := by decide +kernel
theorem d_BP_word_5 : decode c_BP_word 5 = .ok (.getfield 147, 3) := by decide +kernel
theorem d_BP_word_8 : decode c_BP_word 8 = .ok (.iload_n 1, 1) := by decide +kernel
theorem d_BP_word_9 : decode c_BP_word 9 = .ok (.invokevirtual 151, 3) := by decide +kernel
theorem d_BP_word_12 : decode c_BP_word 12 = .ok (.invokevirtual 119, 3) := by decide +kernel
theorem d_BP_word_15 : decode c_BP_word 15 = .ok (.astore_n 2, 1) := by decide +kernel
theorem d_BP_word_16 : decode c_BP_word 16 = .ok (.aload_n 0, 1) := by decide +kernel
theorem d_BP_word_17 : decode c_BP_word 17 = .ok (.getfield 23, 3) := by decide +kernel
theorem d_BP_word_20 : decode c_BP_word 20 = .ok (.getfield 147, 3) := by decide +kernel
theorem d_BP_word_23 : decode c_BP_word 23 = .ok (.aload_n 2, 1) := by decide +kernel
theorem d_BP_word_24 : decode c_BP_word 24 = .ok (.iload_n 1, 1) := by decide +kernel
theorem d_BP_word_25 : decode c_BP_word 25 = .ok (.aload_n 2, 1) := by decide +kernel
theorem d_BP_word_26 : decode c_BP_word 26 = .ok (.getfield 126, 3) := by decide +kernel
theorem d_BP_word_29 : decode c_BP_word 29 = .ok (.isub, 1) := by decide +kernel
theorem d_BP_word_30 : decode c_BP_word 30 = .ok (.invokevirtual 156, 3) := by decide +kernel
theorem d_BP_word_33 : decode c_BP_word 33 = .ok (.ireturn, 1) := by decide +kernel
theorem d_BP_itemOf_0 : decode c_BP_itemOf 0 = .ok (.aload_n 0, 1) := by decide +kernel
theorem d_BP_itemOf_1 : decode c_BP_itemOf 1 = .ok (.getfield 23, 3) := by decide +kernel
theorem d_BP_itemOf_4 : decode c_BP_itemOf 4 = .ok (.getfield 147, 3) := by decide +kernel
theorem d_BP_itemOf_7 : decode c_BP_itemOf 7 = .ok (.iload_n 1, 1) := by decide +kernel
theorem d_BP_itemOf_8 : decode c_BP_itemOf 8 = .ok (.invokevirtual 151, 3) := by decide +kernel
theorem d_BP_itemOf_11 : decode c_BP_itemOf 11 = .ok (.istore_n 2, 1) := by decide +kernel
theorem d_BP_itemOf_12 : decode c_BP_itemOf 12 = .ok (.iload_n 2, 1) := by decide +kernel
theorem d_BP_itemOf_13 : decode c_BP_itemOf 13 = .ok (.iconst (-1), 1) := by decide +kernel
theorem d_BP_itemOf_14 : decode c_BP_itemOf 14 = .ok (.if_icmp .ne 13, 3) := by decide +kernel
theorem d_BP_itemOf_17 : decode c_BP_itemOf 17 = .ok (.new 40, 3) := by decide +kernel
theorem d_BP_itemOf_20 : decode c_BP_itemOf 20 = .ok (.dup, 1) := by decide +kernel
theorem d_BP_itemOf_21 : decode c_BP_itemOf 21 = .ok (.ldc 160, 2) := by decide +kernel
theorem d_BP_itemOf_23 : decode c_BP_itemOf 23 = .ok (.invokespecial 44, 3) := by decide +kernel
theorem d_BP_itemOf_26 : decode c_BP_itemOf 26 = .ok (.athrow, 1) := by decide +kernel
theorem d_BP_itemOf_27 : decode c_BP_itemOf 27 = .ok (.iload_n 2, 1) := by decide +kernel
theorem d_BP_itemOf_28 : decode c_BP_itemOf 28 = .ok (.ireturn, 1) := by decide +kernel
theorem d_BP_isCode_0 : decode c_BP_isCode 0 = .ok (.aload_n 0, 1) := by decide +kernel
theorem d_BP_isCode_1 : decode c_BP_isCode 1 = .ok (.aload_n 0, 1) := by decide +kernel
theorem d_BP_isCode_2 : decode c_BP_isCode 2 = .ok (.getfield 23, 3) := by decide +kernel
theorem d_BP_isCode_5 : decode c_BP_isCode 5 = .ok (.getfield 147, 3) := by decide +kernel
theorem d_BP_isCode_8 : decode c_BP_isCode 8 = .ok (.iload_n 1, 1) := by decide +kernel
theorem d_BP_isCode_9 : decode c_BP_isCode 9 = .ok (.invokevirtual 151, 3) := by decide +kernel
theorem d_BP_isCode_12 : decode c_BP_isCode 12 = .ok (.invokevirtual 119, 3) := by decide +kernel
theorem d_BP_isCode_15 : decode c_BP_isCode 15 = .ok (.getfield 142, 3) := by decide +kernel
theorem d_BP_isCode_18 : decode c_BP_isCode 18 = .ok (.ireturn, 1) := by decide +kernel
theorem d_BP_value_0 : decode c_BP_value 0 = .ok (.aload_n 0, 1) := by decide +kernel
theorem d_BP_value_1 : decode c_BP_value 1 = .ok (.getfield 23, 3) := by decide +kernel
theorem d_BP_value_4 : decode c_BP_value 4 = .ok (.getfield 113, 3) := by decide +kernel
theorem d_BP_value_7 : decode c_BP_value 7 = .ok (.ifCond .eq 13, 3) := by decide +kernel
theorem d_BP_value_10 : decode c_BP_value 10 = .ok (.new 40, 3) := by decide +kernel
theorem d_BP_value_13 : decode c_BP_value 13 = .ok (.dup, 1) := by decide +kernel
theorem d_BP_value_14 : decode c_BP_value 14 = .ok (.ldc 162, 2) := by decide +kernel
theorem d_BP_value_16 : decode c_BP_value 16 = .ok (.invokespecial 44, 3) := by decide +kernel
theorem d_BP_value_19 : decode c_BP_value 19 = .ok (.athrow, 1) := by decide +kernel
theorem d_BP_value_20 : decode c_BP_value 20 = .ok (.iload_n 1, 1) := by decide +kernel
theorem d_BP_value_21 : decode c_BP_value 21 = .ok (.ifCond .lt 9, 3) := by decide +kernel
theorem d_BP_value_24 : decode c_BP_value 24 = .ok (.iload_n 1, 1) := by decide +kernel
theorem d_BP_value_25 : decode c_BP_value 25 = .ok (.bipush 8, 2) := by decide +kernel
theorem d_BP_value_27 : decode c_BP_value 27 = .ok (.if_icmp .lt 13, 3) := by decide +kernel
theorem d_BP_value_30 : decode c_BP_value 30 = .ok (.new 40, 3) := by decide +kernel
theorem d_BP_value_33 : decode c_BP_value 33 = .ok (.dup, 1) := by decide +kernel
theorem d_BP_value_34 : decode c_BP_value 34 = .ok (.ldc 164, 2) := by decide +kernel
theorem d_BP_value_36 : decode c_BP_value 36 = .ok (.invokespecial 44, 3) := by decide +kernel
theorem d_BP_value_39 : decode c_BP_value 39 = .ok (.athrow, 1) := by decide +kernel
theorem d_BP_value_40 : decode c_BP_value 40 = .ok (.aload_n 0, 1) := by decide +kernel
theorem d_BP_value_41 : decode c_BP_value 41 = .ok (.getfield 23, 3) := by decide +kernel
theorem d_BP_value_44 : decode c_BP_value 44 = .ok (.getfield 147, 3) := by decide +kernel
theorem d_BP_value_47 : decode c_BP_value 47 = .ok (.iload_n 1, 1) := by decide +kernel
theorem d_BP_value_48 : decode c_BP_value 48 = .ok (.aload_n 0, 1) := by decide +kernel
theorem d_BP_value_49 : decode c_BP_value 49 = .ok (.getfield 23, 3) := by decide +kernel
theorem d_BP_value_52 : decode c_BP_value 52 = .ok (.getfield 147, 3) := by decide +kernel
theorem d_BP_value_55 : decode c_BP_value 55 = .ok (.getfield 166, 3) := by decide +kernel
theorem d_BP_value_58 : decode c_BP_value 58 = .ok (.invokevirtual 169, 3) := by decide +kernel
theorem d_BP_value_61 : decode c_BP_value 61 = .ok (.astore_n 2, 1) := by decide +kernel
theorem d_BP_value_62 : decode c_BP_value 62 = .ok (.aload_n 2, 1) := by decide +kernel
theorem d_BP_value_63 : decode c_BP_value 63 = .ok (.ifnonnull 7, 3) := by decide +kernel
theorem d_BP_value_66 : decode c_BP_value 66 = .ok (.iconst (-1), 1) := by decide +kernel
theorem d_BP_value_67 : decode c_BP_value 67 = .ok (.goto 7, 3) := by decide +kernel
theorem d_BP_value_70 : decode c_BP_value 70 = .ok (.aload_n 2, 1) := by decide +kernel
theorem d_BP_value_71 : decode c_BP_value 71 = .ok (.getfield 173, 3) := by decide +kernel
theorem d_BP_value_74 : decode c_BP_value 74 = .ok (.ireturn, 1) := by decide +kernel
theorem d_BP_many_0 : decode c_BP_many 0 = .ok (.iload_n 1, 1) := by decide +kernel
theorem d_BP_many_1 : decode c_BP_many 1 = .ok (.ifCond .lt 9, 3) := by decide +kernel
theorem d_BP_many_4 : decode c_BP_many 4 = .ok (.iload_n 1, 1) := by decide +kernel
theorem d_BP_many_5 : decode c_BP_many 5 = .ok (.bipush 11, 2) := by decide +kernel
theorem d_BP_many_7 : decode c_BP_many 7 = .ok (.if_icmp .le 13, 3) := by decide +kernel
theorem d_BP_many_10 : decode c_BP_many 10 = .ok (.new 53, 3) := by decide +kernel
theorem d_BP_many_13 : decode c_BP_many 13 = .ok (.dup, 1) := by decide +kernel
theorem d_BP_many_14 : decode c_BP_many 14 = .ok (.ldc 176, 2) := by decide +kernel
theorem d_BP_many_16 : decode c_BP_many 16 = .ok (.invokespecial 57, 3) := by decide +kernel
theorem d_BP_many_19 : decode c_BP_many 19 = .ok (.athrow, 1) := by decide +kernel
theorem d_BP_many_20 : decode c_BP_many 20 = .ok (.iload_n 1, 1) := by decide +kernel
theorem d_BP_many_21 : decode c_BP_many 21 = .ok (.ifCond .ne 12, 3) := by decide +kernel
theorem d_BP_many_24 : decode c_BP_many 24 = .ok (.aload_n 0, 1) := by decide +kernel
theorem d_BP_many_25 : decode c_BP_many 25 = .ok (.getfield 14, 3) := by decide +kernel
theorem d_BP_many_28 : decode c_BP_many 28 = .ok (.iconst 0, 1) := by decide +kernel
theorem d_BP_many_29 : decode c_BP_many 29 = .ok (.invokevirtual 66, 3) := by decide +kernel
theorem d_BP_many_32 : decode c_BP_many 32 = .ok (.ireturn, 1) := by decide +kernel
theorem d_BP_many_33 : decode c_BP_many 33 = .ok (.iload_n 1, 1) := by decide +kernel
theorem d_BP_many_34 : decode c_BP_many 34 = .ok (.iconst 1, 1) := by decide +kernel
theorem d_BP_many_35 : decode c_BP_many 35 = .ok (.if_icmp .ne 11, 3) := by decide +kernel
theorem d_BP_many_38 : decode c_BP_many 38 = .ok (.aload_n 0, 1) := by decide +kernel
theorem d_BP_many_39 : decode c_BP_many 39 = .ok (.getfield 14, 3) := by decide +kernel
theorem d_BP_many_42 : decode c_BP_many 42 = .ok (.invokevirtual 178, 3) := by decide +kernel
theorem d_BP_many_45 : decode c_BP_many 45 = .ok (.ireturn, 1) := by decide +kernel
theorem d_BP_many_46 : decode c_BP_many 46 = .ok (.aload_n 0, 1) := by decide +kernel
theorem d_BP_many_47 : decode c_BP_many 47 = .ok (.getfield 23, 3) := by decide +kernel
theorem d_BP_many_50 : decode c_BP_many 50 = .ok (.getfield 113, 3) := by decide +kernel
theorem d_BP_many_53 : decode c_BP_many 53 = .ok (.ifCond .eq 5, 3) := by decide +kernel
theorem d_BP_many_56 : decode c_BP_many 56 = .ok (.iconst (-1), 1) := by decide +kernel
theorem d_BP_many_57 : decode c_BP_many 57 = .ok (.ireturn, 1) := by decide +kernel
theorem d_BP_many_58 : decode c_BP_many 58 = .ok (.iload_n 1, 1) := by decide +kernel
theorem d_BP_many_59 : decode c_BP_many 59 = .ok (.bipush 6, 2) := by decide +kernel
theorem d_BP_many_61 : decode c_BP_many 61 = .ok (.if_icmp .ne 13, 3) := by decide +kernel
theorem d_BP_many_64 : decode c_BP_many 64 = .ok (.aload_n 0, 1) := by decide +kernel
theorem d_BP_many_65 : decode c_BP_many 65 = .ok (.getfield 23, 3) := by decide +kernel
theorem d_BP_many_68 : decode c_BP_many 68 = .ok (.getfield 182, 3) := by decide +kernel
theorem d_BP_many_71 : decode c_BP_many 71 = .ok (.goto 14, 3) := by decide +kernel
theorem d_BP_many_74 : decode c_BP_many 74 = .ok (.aload_n 0, 1) := by decide +kernel
theorem d_BP_many_75 : decode c_BP_many 75 = .ok (.getfield 23, 3) := by decide +kernel
theorem d_BP_many_78 : decode c_BP_many 78 = .ok (.getfield 147, 3) := by decide +kernel
theorem d_BP_many_81 : decode c_BP_many 81 = .ok (.iload_n 1, 1) := by decide +kernel
theorem d_BP_many_82 : decode c_BP_many 82 = .ok (.invokevirtual 185, 3) := by decide +kernel
theorem d_BP_many_85 : decode c_BP_many 85 = .ok (.ireturn, 1) := by decide +kernel
theorem d_BP_meanSize_0 : decode c_BP_meanSize 0 = .ok (.aload_n 0, 1) := by decide +kernel
theorem d_BP_meanSize_1 : decode c_BP_meanSize 1 = .ok (.getfield 23, 3) := by decide +kernel
theorem d_BP_meanSize_4 : decode c_BP_meanSize 4 = .ok (.getfield 147, 3) := by decide +kernel
theorem d_BP_meanSize_7 : decode c_BP_meanSize 7 = .ok (.getfield 166, 3) := by decide +kernel
theorem d_BP_meanSize_10 : decode c_BP_meanSize 10 = .ok (.istore_n 1, 1) := by decide +kernel
theorem d_BP_meanSize_11 : decode c_BP_meanSize 11 = .ok (.iload_n 1, 1) := by decide +kernel
theorem d_BP_meanSize_12 : decode c_BP_meanSize 12 = .ok (.ifCond .ne 5, 3) := by decide +kernel
theorem d_BP_meanSize_15 : decode c_BP_meanSize 15 = .ok (.dconst 0, 1) := by decide +kernel
theorem d_BP_meanSize_16 : decode c_BP_meanSize 16 = .ok (.dreturn, 1) := by decide +kernel
theorem d_BP_meanSize_17 : decode c_BP_meanSize 17 = .ok (.aload_n 0, 1) := by decide +kernel
theorem d_BP_meanSize_18 : decode c_BP_meanSize 18 = .ok (.getfield 23, 3) := by decide +kernel
theorem d_BP_meanSize_21 : decode c_BP_meanSize 21 = .ok (.getfield 147, 3) := by decide +kernel
theorem d_BP_meanSize_24 : decode c_BP_meanSize 24 = .ok (.iconst 3, 1) := by decide +kernel
theorem d_BP_meanSize_25 : decode c_BP_meanSize 25 = .ok (.invokevirtual 185, 3) := by decide +kernel
theorem d_BP_meanSize_28 : decode c_BP_meanSize 28 = .ok (.i2d, 1) := by decide +kernel
theorem d_BP_meanSize_29 : decode c_BP_meanSize 29 = .ok (.iload_n 1, 1) := by decide +kernel
theorem d_BP_meanSize_30 : decode c_BP_meanSize 30 = .ok (.i2d, 1) := by decide +kernel
theorem d_BP_meanSize_31 : decode c_BP_meanSize 31 = .ok (.ddiv, 1) := by decide +kernel
theorem d_BP_meanSize_32 : decode c_BP_meanSize 32 = .ok (.dreturn, 1) := by decide +kernel
theorem d_BP_wordsWithout_0 : decode c_BP_wordsWithout 0 = .ok (.aload_n 0, 1) := by decide +kernel
theorem d_BP_wordsWithout_1 : decode c_BP_wordsWithout 1 = .ok (.getfield 14, 3) := by decide +kernel
theorem d_BP_wordsWithout_4 : decode c_BP_wordsWithout 4 = .ok (.iload_n 1, 1) := by decide +kernel
theorem d_BP_wordsWithout_5 : decode c_BP_wordsWithout 5 = .ok (.iload_n 2, 1) := by decide +kernel
theorem d_BP_wordsWithout_6 : decode c_BP_wordsWithout 6 = .ok (.invokevirtual 88, 3) := by decide +kernel
theorem d_BP_wordsWithout_9 : decode c_BP_wordsWithout 9 = .ok (.ifCond .ne 13, 3) := by decide +kernel
theorem d_BP_wordsWithout_12 : decode c_BP_wordsWithout 12 = .ok (.new 40, 3) := by decide +kernel
theorem d_BP_wordsWithout_15 : decode c_BP_wordsWithout 15 = .ok (.dup, 1) := by decide +kernel
theorem d_BP_wordsWithout_16 : decode c_BP_wordsWithout 16 = .ok (.ldc 92, 2) := by decide +kernel
theorem d_BP_wordsWithout_18 : decode c_BP_wordsWithout 18 = .ok (.invokespecial 44, 3) := by decide +kernel
theorem d_BP_wordsWithout_21 : decode c_BP_wordsWithout 21 = .ok (.athrow, 1) := by decide +kernel
theorem d_BP_wordsWithout_22 : decode c_BP_wordsWithout 22 = .ok (.aload_n 0, 1) := by decide +kernel
theorem d_BP_wordsWithout_23 : decode c_BP_wordsWithout 23 = .ok (.getfield 27, 3) := by decide +kernel
theorem d_BP_wordsWithout_26 : decode c_BP_wordsWithout 26 = .ok (.aload_n 0, 1) := by decide +kernel
theorem d_BP_wordsWithout_27 : decode c_BP_wordsWithout 27 = .ok (.getfield 14, 3) := by decide +kernel
theorem d_BP_wordsWithout_30 : decode c_BP_wordsWithout 30 = .ok (.invokevirtual 188, 3) := by decide +kernel
theorem d_BP_wordsWithout_33 : decode c_BP_wordsWithout 33 = .ok (.aload_n 0, 1) := by decide +kernel
theorem d_BP_wordsWithout_34 : decode c_BP_wordsWithout 34 = .ok (.getfield 27, 3) := by decide +kernel
theorem d_BP_wordsWithout_37 : decode c_BP_wordsWithout 37 = .ok (.iload_n 1, 1) := by decide +kernel
theorem d_BP_wordsWithout_38 : decode c_BP_wordsWithout 38 = .ok (.iload_n 2, 1) := by decide +kernel
theorem d_BP_wordsWithout_39 : decode c_BP_wordsWithout 39 = .ok (.invokevirtual 94, 3) := by decide +kernel
theorem d_BP_wordsWithout_42 : decode c_BP_wordsWithout 42 = .ok (.aload_n 0, 1) := by decide +kernel
theorem d_BP_wordsWithout_43 : decode c_BP_wordsWithout 43 = .ok (.getfield 30, 3) := by decide +kernel
theorem d_BP_wordsWithout_46 : decode c_BP_wordsWithout 46 = .ok (.invokevirtual 191, 3) := by decide +kernel
theorem d_BP_wordsWithout_49 : decode c_BP_wordsWithout 49 = .ok (.aload_n 0, 1) := by decide +kernel
theorem d_BP_wordsWithout_50 : decode c_BP_wordsWithout 50 = .ok (.getfield 30, 3) := by decide +kernel
theorem d_BP_wordsWithout_53 : decode c_BP_wordsWithout 53 = .ok (.invokevirtual 194, 3) := by decide +kernel
theorem d_BP_wordsWithout_56 : decode c_BP_wordsWithout 56 = .ok (.ireturn, 1) := by decide +kernel
theorem d_BP_wordsWith_0 : decode c_BP_wordsWith 0 = .ok (.aload_n 0, 1) := by decide +kernel
theorem d_BP_wordsWith_1 : decode c_BP_wordsWith 1 = .ok (.iload_n 1, 1) := by decide +kernel
theorem d_BP_wordsWith_2 : decode c_BP_wordsWith 2 = .ok (.iload_n 2, 1) := by decide +kernel
theorem d_BP_wordsWith_3 : decode c_BP_wordsWith 3 = .ok (.invokevirtual 77, 3) := by decide +kernel
theorem d_BP_wordsWith_6 : decode c_BP_wordsWith 6 = .ok (.astore 4, 2) := by decide +kernel
theorem d_BP_wordsWith_8 : decode c_BP_wordsWith 8 = .ok (.aload 4, 2) := by decide +kernel
theorem d_BP_wordsWith_10 : decode c_BP_wordsWith 10 = .ok (.getfield 84, 3) := by decide +kernel
theorem d_BP_wordsWith_13 : decode c_BP_wordsWith 13 = .ok (.aload 4, 2) := by decide +kernel
theorem d_BP_wordsWith_15 : decode c_BP_wordsWith 15 = .ok (.getfield 98, 3) := by decide +kernel
theorem d_BP_wordsWith_18 : decode c_BP_wordsWith 18 = .ok (.aload 4, 2) := by decide +kernel
theorem d_BP_wordsWith_20 : decode c_BP_wordsWith 20 = .ok (.getfield 101, 3) := by decide +kernel
theorem d_BP_wordsWith_23 : decode c_BP_wordsWith 23 = .ok (.iload_n 3, 1) := by decide +kernel
theorem d_BP_wordsWith_24 : decode c_BP_wordsWith 24 = .ok (.aload 4, 2) := by decide +kernel
theorem d_BP_wordsWith_26 : decode c_BP_wordsWith 26 = .ok (.getfield 107, 3) := by decide +kernel
theorem d_BP_wordsWith_29 : decode c_BP_wordsWith 29 = .ok (.invokestatic 47, 3) := by decide +kernel
theorem d_BP_wordsWith_32 : decode c_BP_wordsWith 32 = .ok (.ifCond .ne 13, 3) := by decide +kernel
theorem d_BP_wordsWith_35 : decode c_BP_wordsWith 35 = .ok (.new 53, 3) := by decide +kernel
theorem d_BP_wordsWith_38 : decode c_BP_wordsWith 38 = .ok (.dup, 1) := by decide +kernel
theorem d_BP_wordsWith_39 : decode c_BP_wordsWith 39 = .ok (.ldc 197, 2) := by decide +kernel
theorem d_BP_wordsWith_41 : decode c_BP_wordsWith 41 = .ok (.invokespecial 57, 3) := by decide +kernel
theorem d_BP_wordsWith_44 : decode c_BP_wordsWith 44 = .ok (.athrow, 1) := by decide +kernel
theorem d_BP_wordsWith_45 : decode c_BP_wordsWith 45 = .ok (.aload_n 0, 1) := by decide +kernel
theorem d_BP_wordsWith_46 : decode c_BP_wordsWith 46 = .ok (.getfield 27, 3) := by decide +kernel
theorem d_BP_wordsWith_49 : decode c_BP_wordsWith 49 = .ok (.aload_n 0, 1) := by decide +kernel
theorem d_BP_wordsWith_50 : decode c_BP_wordsWith 50 = .ok (.getfield 14, 3) := by decide +kernel
theorem d_BP_wordsWith_53 : decode c_BP_wordsWith 53 = .ok (.invokevirtual 188, 3) := by decide +kernel
theorem d_BP_wordsWith_56 : decode c_BP_wordsWith 56 = .ok (.aload_n 0, 1) := by decide +kernel
theorem d_BP_wordsWith_57 : decode c_BP_wordsWith 57 = .ok (.getfield 27, 3) := by decide +kernel
theorem d_BP_wordsWith_60 : decode c_BP_wordsWith 60 = .ok (.iload_n 1, 1) := by decide +kernel
theorem d_BP_wordsWith_61 : decode c_BP_wordsWith 61 = .ok (.iload_n 2, 1) := by decide +kernel
theorem d_BP_wordsWith_62 : decode c_BP_wordsWith 62 = .ok (.new 48, 3) := by decide +kernel
theorem d_BP_wordsWith_65 : decode c_BP_wordsWith 65 = .ok (.dup, 1) := by decide +kernel
theorem d_BP_wordsWith_66 : decode c_BP_wordsWith 66 = .ok (.aload 4, 2) := by decide +kernel
theorem d_BP_wordsWith_68 : decode c_BP_wordsWith 68 = .ok (.getfield 84, 3) := by decide +kernel
theorem d_BP_wordsWith_71 : decode c_BP_wordsWith 71 = .ok (.aload 4, 2) := by decide +kernel
theorem d_BP_wordsWith_73 : decode c_BP_wordsWith 73 = .ok (.getfield 98, 3) := by decide +kernel
theorem d_BP_wordsWith_76 : decode c_BP_wordsWith 76 = .ok (.aload 4, 2) := by decide +kernel
theorem d_BP_wordsWith_78 : decode c_BP_wordsWith 78 = .ok (.getfield 101, 3) := by decide +kernel
theorem d_BP_wordsWith_81 : decode c_BP_wordsWith 81 = .ok (.iload_n 3, 1) := by decide +kernel
theorem d_BP_wordsWith_82 : decode c_BP_wordsWith 82 = .ok (.aload 4, 2) := by decide +kernel
theorem d_BP_wordsWith_84 : decode c_BP_wordsWith 84 = .ok (.getfield 107, 3) := by decide +kernel
theorem d_BP_wordsWith_87 : decode c_BP_wordsWith 87 = .ok (.invokespecial 70, 3) := by decide +kernel
theorem d_BP_wordsWith_90 : decode c_BP_wordsWith 90 = .ok (.invokevirtual 81, 3) := by decide +kernel
theorem d_BP_wordsWith_93 : decode c_BP_wordsWith 93 = .ok (.aload_n 0, 1) := by decide +kernel
theorem d_BP_wordsWith_94 : decode c_BP_wordsWith 94 = .ok (.getfield 30, 3) := by decide +kernel
theorem d_BP_wordsWith_97 : decode c_BP_wordsWith 97 = .ok (.invokevirtual 191, 3) := by decide +kernel
theorem d_BP_wordsWith_100 : decode c_BP_wordsWith 100 = .ok (.aload_n 0, 1) := by decide +kernel
theorem d_BP_wordsWith_101 : decode c_BP_wordsWith 101 = .ok (.getfield 30, 3) := by decide +kernel
theorem d_BP_wordsWith_104 : decode c_BP_wordsWith 104 = .ok (.invokevirtual 194, 3) := by decide +kernel
theorem d_BP_wordsWith_107 : decode c_BP_wordsWith 107 = .ok (.ireturn, 1) := by decide +kernel
theorem d_BP_distance_0 : decode c_BP_distance 0 = .ok (.aload_n 0, 1) := by decide +kernel
theorem d_BP_distance_1 : decode c_BP_distance 1 = .ok (.iload_n 1, 1) := by decide +kernel
theorem d_BP_distance_2 : decode c_BP_distance 2 = .ok (.invokevirtual 119, 3) := by decide +kernel
theorem d_BP_distance_5 : decode c_BP_distance 5 = .ok (.astore_n 2, 1) := by decide +kernel
theorem d_BP_distance_6 : decode c_BP_distance 6 = .ok (.aload_n 2, 1) := by decide +kernel
theorem d_BP_distance_7 : decode c_BP_distance 7 = .ok (.invokevirtual 199, 3) := by decide +kernel
theorem d_BP_distance_10 : decode c_BP_distance 10 = .ok (.ifCond .ne 13, 3) := by decide +kernel
theorem d_BP_distance_13 : decode c_BP_distance 13 = .ok (.new 40, 3) := by decide +kernel
theorem d_BP_distance_16 : decode c_BP_distance 16 = .ok (.dup, 1) := by decide +kernel
theorem d_BP_distance_17 : decode c_BP_distance 17 = .ok (.ldc 203, 2) := by decide +kernel
theorem d_BP_distance_19 : decode c_BP_distance 19 = .ok (.invokespecial 44, 3) := by decide +kernel
theorem d_BP_distance_22 : decode c_BP_distance 22 = .ok (.athrow, 1) := by decide +kernel
theorem d_BP_distance_23 : decode c_BP_distance 23 = .ok (.aload_n 2, 1) := by decide +kernel
theorem d_BP_distance_24 : decode c_BP_distance 24 = .ok (.invokevirtual 205, 3) := by decide +kernel
theorem d_BP_distance_27 : decode c_BP_distance 27 = .ok (.ireturn, 1) := by decide +kernel
theorem d_BP_wrongly_0 : decode c_BP_wrongly 0 = .ok (.aload_n 0, 1) := by decide +kernel
theorem d_BP_wrongly_1 : decode c_BP_wrongly 1 = .ok (.getfield 23, 3) := by decide +kernel
theorem d_BP_wrongly_4 : decode c_BP_wrongly 4 = .ok (.getfield 147, 3) := by decide +kernel
theorem d_BP_wrongly_7 : decode c_BP_wrongly 7 = .ok (.invokevirtual 208, 3) := by decide +kernel
theorem d_BP_wrongly_10 : decode c_BP_wrongly 10 = .ok (.ireturn, 1) := by decide +kernel
theorem d_BP_longBy_0 : decode c_BP_longBy 0 = .ok (.iload_n 1, 1) := by decide +kernel
theorem d_BP_longBy_1 : decode c_BP_longBy 1 = .ok (.ifCond .lt 15, 3) := by decide +kernel
theorem d_BP_longBy_4 : decode c_BP_longBy 4 = .ok (.iload_n 1, 1) := by decide +kernel
theorem d_BP_longBy_5 : decode c_BP_longBy 5 = .ok (.aload_n 0, 1) := by decide +kernel
theorem d_BP_longBy_6 : decode c_BP_longBy 6 = .ok (.getfield 14, 3) := by decide +kernel
theorem d_BP_longBy_9 : decode c_BP_longBy 9 = .ok (.iconst 0, 1) := by decide +kernel
theorem d_BP_longBy_10 : decode c_BP_longBy 10 = .ok (.invokevirtual 66, 3) := by decide +kernel
theorem d_BP_longBy_13 : decode c_BP_longBy 13 = .ok (.if_icmp .le 13, 3) := by decide +kernel
theorem d_BP_longBy_16 : decode c_BP_longBy 16 = .ok (.new 40, 3) := by decide +kernel
theorem d_BP_longBy_19 : decode c_BP_longBy 19 = .ok (.dup, 1) := by decide +kernel
theorem d_BP_longBy_20 : decode c_BP_longBy 20 = .ok (.ldc 92, 2) := by decide +kernel
theorem d_BP_longBy_22 : decode c_BP_longBy 22 = .ok (.invokespecial 44, 3) := by decide +kernel
theorem d_BP_longBy_25 : decode c_BP_longBy 25 = .ok (.athrow, 1) := by decide +kernel
theorem d_BP_longBy_26 : decode c_BP_longBy 26 = .ok (.iload_n 2, 1) := by decide +kernel
theorem d_BP_longBy_27 : decode c_BP_longBy 27 = .ok (.iconst 1, 1) := by decide +kernel
theorem d_BP_longBy_28 : decode c_BP_longBy 28 = .ok (.if_icmp .lt 9, 3) := by decide +kernel
theorem d_BP_longBy_31 : decode c_BP_longBy 31 = .ok (.iload_n 2, 1) := by decide +kernel
theorem d_BP_longBy_32 : decode c_BP_longBy 32 = .ok (.bipush 20, 2) := by decide +kernel
theorem d_BP_longBy_34 : decode c_BP_longBy 34 = .ok (.if_icmp .le 13, 3) := by decide +kernel
theorem d_BP_longBy_37 : decode c_BP_longBy 37 = .ok (.new 53, 3) := by decide +kernel
theorem d_BP_longBy_40 : decode c_BP_longBy 40 = .ok (.dup, 1) := by decide +kernel
theorem d_BP_longBy_41 : decode c_BP_longBy 41 = .ok (.ldc 211, 2) := by decide +kernel
theorem d_BP_longBy_43 : decode c_BP_longBy 43 = .ok (.invokespecial 57, 3) := by decide +kernel
theorem d_BP_longBy_46 : decode c_BP_longBy 46 = .ok (.athrow, 1) := by decide +kernel
theorem d_BP_longBy_47 : decode c_BP_longBy 47 = .ok (.aload_n 0, 1) := by decide +kernel
theorem d_BP_longBy_48 : decode c_BP_longBy 48 = .ok (.getfield 23, 3) := by decide +kernel
theorem d_BP_longBy_51 : decode c_BP_longBy 51 = .ok (.getfield 113, 3) := by decide +kernel
theorem d_BP_longBy_54 : decode c_BP_longBy 54 = .ok (.ifCond .eq 5, 3) := by decide +kernel
theorem d_BP_longBy_57 : decode c_BP_longBy 57 = .ok (.iconst 0, 1) := by decide +kernel
theorem d_BP_longBy_58 : decode c_BP_longBy 58 = .ok (.ireturn, 1) := by decide +kernel
theorem d_BP_longBy_59 : decode c_BP_longBy 59 = .ok (.aload_n 0, 1) := by decide +kernel
theorem d_BP_longBy_60 : decode c_BP_longBy 60 = .ok (.getfield 27, 3) := by decide +kernel
theorem d_BP_longBy_63 : decode c_BP_longBy 63 = .ok (.aload_n 0, 1) := by decide +kernel
theorem d_BP_longBy_64 : decode c_BP_longBy 64 = .ok (.getfield 14, 3) := by decide +kernel
theorem d_BP_longBy_67 : decode c_BP_longBy 67 = .ok (.invokevirtual 188, 3) := by decide +kernel
theorem d_BP_longBy_70 : decode c_BP_longBy 70 = .ok (.new 48, 3) := by decide +kernel
theorem d_BP_longBy_73 : decode c_BP_longBy 73 = .ok (.dup, 1) := by decide +kernel
theorem d_BP_longBy_74 : decode c_BP_longBy 74 = .ok (.iconst 2, 1) := by decide +kernel
theorem d_BP_longBy_75 : decode c_BP_longBy 75 = .ok (.iconst (-1), 1) := by decide +kernel
theorem d_BP_longBy_76 : decode c_BP_longBy 76 = .ok (.iconst (-1), 1) := by decide +kernel
theorem d_BP_longBy_77 : decode c_BP_longBy 77 = .ok (.iconst 0, 1) := by decide +kernel
theorem d_BP_longBy_78 : decode c_BP_longBy 78 = .ok (.iconst 0, 1) := by decide +kernel
theorem d_BP_longBy_79 : decode c_BP_longBy 79 = .ok (.invokespecial 70, 3) := by decide +kernel
theorem d_BP_longBy_82 : decode c_BP_longBy 82 = .ok (.astore_n 3, 1) := by decide +kernel
theorem d_BP_longBy_83 : decode c_BP_longBy 83 = .ok (.iconst 0, 1) := by decide +kernel
theorem d_BP_longBy_84 : decode c_BP_longBy 84 = .ok (.istore 4, 2) := by decide +kernel
theorem d_BP_longBy_86 : decode c_BP_longBy 86 = .ok (.iload 4, 2) := by decide +kernel
theorem d_BP_longBy_88 : decode c_BP_longBy 88 = .ok (.iload_n 2, 1) := by decide +kernel
theorem d_BP_longBy_89 : decode c_BP_longBy 89 = .ok (.if_icmp .ge 19, 3) := by decide +kernel
theorem d_BP_longBy_92 : decode c_BP_longBy 92 = .ok (.aload_n 0, 1) := by decide +kernel
theorem d_BP_longBy_93 : decode c_BP_longBy 93 = .ok (.getfield 27, 3) := by decide +kernel
theorem d_BP_longBy_96 : decode c_BP_longBy 96 = .ok (.iconst 0, 1) := by decide +kernel
theorem d_BP_longBy_97 : decode c_BP_longBy 97 = .ok (.iload_n 1, 1) := by decide +kernel
theorem d_BP_longBy_98 : decode c_BP_longBy 98 = .ok (.aload_n 3, 1) := by decide +kernel
theorem d_BP_longBy_99 : decode c_BP_longBy 99 = .ok (.invokevirtual 73, 3) := by decide +kernel
theorem d_BP_longBy_102 : decode c_BP_longBy 102 = .ok (.iinc 4 1, 3) := by decide +kernel
theorem d_BP_longBy_105 : decode c_BP_longBy 105 = .ok (.goto (-19), 3) := by decide +kernel
theorem d_BP_longBy_108 : decode c_BP_longBy 108 = .ok (.aload_n 0, 1) := by decide +kernel
theorem d_BP_longBy_109 : decode c_BP_longBy 109 = .ok (.getfield 30, 3) := by decide +kernel
theorem d_BP_longBy_112 : decode c_BP_longBy 112 = .ok (.invokevirtual 191, 3) := by decide +kernel
theorem d_BP_longBy_115 : decode c_BP_longBy 115 = .ok (.aload_n 0, 1) := by decide +kernel
theorem d_BP_longBy_116 : decode c_BP_longBy 116 = .ok (.getfield 30, 3) := by decide +kernel
theorem d_BP_longBy_119 : decode c_BP_longBy 119 = .ok (.getfield 113, 3) := by decide +kernel
theorem d_BP_longBy_122 : decode c_BP_longBy 122 = .ok (.ifCond .eq 15, 3) := by decide +kernel
theorem d_BP_longBy_125 : decode c_BP_longBy 125 = .ok (.sipush (-1000), 3) := by decide +kernel
theorem d_BP_longBy_128 : decode c_BP_longBy 128 = .ok (.aload_n 0, 1) := by decide +kernel
theorem d_BP_longBy_129 : decode c_BP_longBy 129 = .ok (.getfield 30, 3) := by decide +kernel
theorem d_BP_longBy_132 : decode c_BP_longBy 132 = .ok (.getfield 113, 3) := by decide +kernel
theorem d_BP_longBy_135 : decode c_BP_longBy 135 = .ok (.isub, 1) := by decide +kernel
theorem d_BP_longBy_136 : decode c_BP_longBy 136 = .ok (.ireturn, 1) := by decide +kernel
theorem d_BP_longBy_137 : decode c_BP_longBy 137 = .ok (.aload_n 0, 1) := by decide +kernel
theorem d_BP_longBy_138 : decode c_BP_longBy 138 = .ok (.getfield 30, 3) := by decide +kernel
theorem d_BP_longBy_141 : decode c_BP_longBy 141 = .ok (.getfield 147, 3) := by decide +kernel
theorem d_BP_longBy_144 : decode c_BP_longBy 144 = .ok (.iconst 5, 1) := by decide +kernel
theorem d_BP_longBy_145 : decode c_BP_longBy 145 = .ok (.invokevirtual 185, 3) := by decide +kernel
theorem d_BP_longBy_148 : decode c_BP_longBy 148 = .ok (.aload_n 0, 1) := by decide +kernel
theorem d_BP_longBy_149 : decode c_BP_longBy 149 = .ok (.getfield 23, 3) := by decide +kernel
theorem d_BP_longBy_152 : decode c_BP_longBy 152 = .ok (.getfield 147, 3) := by decide +kernel
theorem d_BP_longBy_155 : decode c_BP_longBy 155 = .ok (.iconst 5, 1) := by decide +kernel
theorem d_BP_longBy_156 : decode c_BP_longBy 156 = .ok (.invokevirtual 185, 3) := by decide +kernel
theorem d_BP_longBy_159 : decode c_BP_longBy 159 = .ok (.isub, 1) := by decide +kernel
theorem d_BP_longBy_160 : decode c_BP_longBy 160 = .ok (.ireturn, 1) := by decide +kernel
theorem d_BP_digest_0 : decode c_BP_digest 0 = .ok (.ldc2_w 213, 3) := by decide +kernel
theorem d_BP_digest_3 : decode c_BP_digest 3 = .ok (.lstore_n 1, 1) := by decide +kernel
theorem d_BP_digest_4 : decode c_BP_digest 4 = .ok (.iconst 0, 1) := by decide +kernel
theorem d_BP_digest_5 : decode c_BP_digest 5 = .ok (.istore_n 3, 1) := by decide +kernel
theorem d_BP_digest_6 : decode c_BP_digest 6 = .ok (.iload_n 3, 1) := by decide +kernel
theorem d_BP_digest_7 : decode c_BP_digest 7 = .ok (.bipush 11, 2) := by decide +kernel
theorem d_BP_digest_9 : decode c_BP_digest 9 = .ok (.if_icmp .gt 22, 3) := by decide +kernel
theorem d_BP_digest_12 : decode c_BP_digest 12 = .ok (.lload_n 1, 1) := by decide +kernel
theorem d_BP_digest_13 : decode c_BP_digest 13 = .ok (.ldc2_w 215, 3) := by decide +kernel
theorem d_BP_digest_16 : decode c_BP_digest 16 = .ok (.lmul, 1) := by decide +kernel
theorem d_BP_digest_17 : decode c_BP_digest 17 = .ok (.aload_n 0, 1) := by decide +kernel
theorem d_BP_digest_18 : decode c_BP_digest 18 = .ok (.iload_n 3, 1) := by decide +kernel
theorem d_BP_digest_19 : decode c_BP_digest 19 = .ok (.invokevirtual 217, 3) := by decide +kernel
theorem d_BP_digest_22 : decode c_BP_digest 22 = .ok (.i2l, 1) := by decide +kernel
theorem d_BP_digest_23 : decode c_BP_digest 23 = .ok (.ladd, 1) := by decide +kernel
theorem d_BP_digest_24 : decode c_BP_digest 24 = .ok (.lstore_n 1, 1) := by decide +kernel
theorem d_BP_digest_25 : decode c_BP_digest 25 = .ok (.iinc 3 1, 3) := by decide +kernel
theorem d_BP_digest_28 : decode c_BP_digest 28 = .ok (.goto (-22), 3) := by decide +kernel
theorem d_BP_digest_31 : decode c_BP_digest 31 = .ok (.lload_n 1, 1) := by decide +kernel
theorem d_BP_digest_32 : decode c_BP_digest 32 = .ok (.ldc2_w 215, 3) := by decide +kernel
theorem d_BP_digest_35 : decode c_BP_digest 35 = .ok (.lmul, 1) := by decide +kernel
theorem d_BP_digest_36 : decode c_BP_digest 36 = .ok (.aload_n 0, 1) := by decide +kernel
theorem d_BP_digest_37 : decode c_BP_digest 37 = .ok (.getfield 23, 3) := by decide +kernel
theorem d_BP_digest_40 : decode c_BP_digest 40 = .ok (.getfield 113, 3) := by decide +kernel
theorem d_BP_digest_43 : decode c_BP_digest 43 = .ok (.i2l, 1) := by decide +kernel
theorem d_BP_digest_44 : decode c_BP_digest 44 = .ok (.ladd, 1) := by decide +kernel
theorem d_BP_digest_45 : decode c_BP_digest 45 = .ok (.lstore_n 1, 1) := by decide +kernel
theorem d_BP_digest_46 : decode c_BP_digest 46 = .ok (.lload_n 1, 1) := by decide +kernel
theorem d_BP_digest_47 : decode c_BP_digest 47 = .ok (.ldc2_w 215, 3) := by decide +kernel
theorem d_BP_digest_50 : decode c_BP_digest 50 = .ok (.lmul, 1) := by decide +kernel
theorem d_BP_digest_51 : decode c_BP_digest 51 = .ok (.aload_n 0, 1) := by decide +kernel
theorem d_BP_digest_52 : decode c_BP_digest 52 = .ok (.getfield 23, 3) := by decide +kernel
theorem d_BP_digest_55 : decode c_BP_digest 55 = .ok (.getfield 116, 3) := by decide +kernel
theorem d_BP_digest_58 : decode c_BP_digest 58 = .ok (.i2l, 1) := by decide +kernel
theorem d_BP_digest_59 : decode c_BP_digest 59 = .ok (.ladd, 1) := by decide +kernel
theorem d_BP_digest_60 : decode c_BP_digest 60 = .ok (.lstore_n 1, 1) := by decide +kernel
theorem d_BP_digest_61 : decode c_BP_digest 61 = .ok (.aload_n 0, 1) := by decide +kernel
theorem d_BP_digest_62 : decode c_BP_digest 62 = .ok (.getfield 14, 3) := by decide +kernel
theorem d_BP_digest_65 : decode c_BP_digest 65 = .ok (.iconst 0, 1) := by decide +kernel
theorem d_BP_digest_66 : decode c_BP_digest 66 = .ok (.invokevirtual 66, 3) := by decide +kernel
theorem d_BP_digest_69 : decode c_BP_digest 69 = .ok (.istore_n 3, 1) := by decide +kernel
theorem d_BP_digest_70 : decode c_BP_digest 70 = .ok (.iconst 0, 1) := by decide +kernel
theorem d_BP_digest_71 : decode c_BP_digest 71 = .ok (.istore 4, 2) := by decide +kernel
theorem d_BP_digest_73 : decode c_BP_digest 73 = .ok (.iload 4, 2) := by decide +kernel
theorem d_BP_digest_75 : decode c_BP_digest 75 = .ok (.iload_n 3, 1) := by decide +kernel
theorem d_BP_digest_76 : decode c_BP_digest 76 = .ok (.if_icmp .ge 24, 3) := by decide +kernel
theorem d_BP_digest_79 : decode c_BP_digest 79 = .ok (.lload_n 1, 1) := by decide +kernel
theorem d_BP_digest_80 : decode c_BP_digest 80 = .ok (.ldc2_w 215, 3) := by decide +kernel
theorem d_BP_digest_83 : decode c_BP_digest 83 = .ok (.lmul, 1) := by decide +kernel
theorem d_BP_digest_84 : decode c_BP_digest 84 = .ok (.aload_n 0, 1) := by decide +kernel
theorem d_BP_digest_85 : decode c_BP_digest 85 = .ok (.iconst 0, 1) := by decide +kernel
theorem d_BP_digest_86 : decode c_BP_digest 86 = .ok (.iload 4, 2) := by decide +kernel
theorem d_BP_digest_88 : decode c_BP_digest 88 = .ok (.invokevirtual 220, 3) := by decide +kernel
theorem d_BP_digest_91 : decode c_BP_digest 91 = .ok (.i2l, 1) := by decide +kernel
theorem d_BP_digest_92 : decode c_BP_digest 92 = .ok (.ladd, 1) := by decide +kernel
theorem d_BP_digest_93 : decode c_BP_digest 93 = .ok (.lstore_n 1, 1) := by decide +kernel
theorem d_BP_digest_94 : decode c_BP_digest 94 = .ok (.iinc 4 1, 3) := by decide +kernel
theorem d_BP_digest_97 : decode c_BP_digest 97 = .ok (.goto (-24), 3) := by decide +kernel
theorem d_BP_digest_100 : decode c_BP_digest 100 = .ok (.aload_n 0, 1) := by decide +kernel
theorem d_BP_digest_101 : decode c_BP_digest 101 = .ok (.getfield 23, 3) := by decide +kernel
theorem d_BP_digest_104 : decode c_BP_digest 104 = .ok (.getfield 113, 3) := by decide +kernel
theorem d_BP_digest_107 : decode c_BP_digest 107 = .ok (.ifCond .ne 11, 3) := by decide +kernel
theorem d_BP_digest_110 : decode c_BP_digest 110 = .ok (.aload_n 0, 1) := by decide +kernel
theorem d_BP_digest_111 : decode c_BP_digest 111 = .ok (.lload_n 1, 1) := by decide +kernel
theorem d_BP_digest_112 : decode c_BP_digest 112 = .ok (.invokevirtual 224, 3) := by decide +kernel
theorem d_BP_digest_115 : decode c_BP_digest 115 = .ok (.goto 4, 3) := by decide +kernel
theorem d_BP_digest_118 : decode c_BP_digest 118 = .ok (.lload_n 1, 1) := by decide +kernel
theorem d_BP_digest_119 : decode c_BP_digest 119 = .ok (.lreturn, 1) := by decide +kernel
theorem d_BP_digestOfItems_0 : decode c_BP_digestOfItems 0 = .ok (.lload_n 1, 1) := by decide +kernel
theorem d_BP_digestOfItems_1 : decode c_BP_digestOfItems 1 = .ok (.lstore_n 3, 1) := by decide +kernel
theorem d_BP_digestOfItems_2 : decode c_BP_digestOfItems 2 = .ok (.iconst 0, 1) := by decide +kernel
theorem d_BP_digestOfItems_3 : decode c_BP_digestOfItems 3 = .ok (.istore 5, 2) := by decide +kernel
theorem d_BP_digestOfItems_5 : decode c_BP_digestOfItems 5 = .ok (.iload 5, 2) := by decide +kernel
theorem d_BP_digestOfItems_7 : decode c_BP_digestOfItems 7 = .ok (.aload_n 0, 1) := by decide +kernel
theorem d_BP_digestOfItems_8 : decode c_BP_digestOfItems 8 = .ok (.getfield 23, 3) := by decide +kernel
theorem d_BP_digestOfItems_11 : decode c_BP_digestOfItems 11 = .ok (.getfield 147, 3) := by decide +kernel
theorem d_BP_digestOfItems_14 : decode c_BP_digestOfItems 14 = .ok (.getfield 166, 3) := by decide +kernel
theorem d_BP_digestOfItems_17 : decode c_BP_digestOfItems 17 = .ok (.if_icmp .ge 41, 3) := by decide +kernel
theorem d_BP_digestOfItems_20 : decode c_BP_digestOfItems 20 = .ok (.iconst 0, 1) := by decide +kernel
theorem d_BP_digestOfItems_21 : decode c_BP_digestOfItems 21 = .ok (.istore 6, 2) := by decide +kernel
theorem d_BP_digestOfItems_23 : decode c_BP_digestOfItems 23 = .ok (.iload 6, 2) := by decide +kernel
theorem d_BP_digestOfItems_25 : decode c_BP_digestOfItems 25 = .ok (.bipush 7, 2) := by decide +kernel
theorem d_BP_digestOfItems_27 : decode c_BP_digestOfItems 27 = .ok (.if_icmp .gt 25, 3) := by decide +kernel
theorem d_BP_digestOfItems_30 : decode c_BP_digestOfItems 30 = .ok (.lload_n 3, 1) := by decide +kernel
theorem d_BP_digestOfItems_31 : decode c_BP_digestOfItems 31 = .ok (.ldc2_w 215, 3) := by decide +kernel
theorem d_BP_digestOfItems_34 : decode c_BP_digestOfItems 34 = .ok (.lmul, 1) := by decide +kernel
theorem d_BP_digestOfItems_35 : decode c_BP_digestOfItems 35 = .ok (.aload_n 0, 1) := by decide +kernel
theorem d_BP_digestOfItems_36 : decode c_BP_digestOfItems 36 = .ok (.iload 5, 2) := by decide +kernel
theorem d_BP_digestOfItems_38 : decode c_BP_digestOfItems 38 = .ok (.iload 6, 2) := by decide +kernel
theorem d_BP_digestOfItems_40 : decode c_BP_digestOfItems 40 = .ok (.invokevirtual 228, 3) := by decide +kernel
theorem d_BP_digestOfItems_43 : decode c_BP_digestOfItems 43 = .ok (.i2l, 1) := by decide +kernel
theorem d_BP_digestOfItems_44 : decode c_BP_digestOfItems 44 = .ok (.ladd, 1) := by decide +kernel
theorem d_BP_digestOfItems_45 : decode c_BP_digestOfItems 45 = .ok (.lstore_n 3, 1) := by decide +kernel
theorem d_BP_digestOfItems_46 : decode c_BP_digestOfItems 46 = .ok (.iinc 6 1, 3) := by decide +kernel
theorem d_BP_digestOfItems_49 : decode c_BP_digestOfItems 49 = .ok (.goto (-26), 3) := by decide +kernel
theorem d_BP_digestOfItems_52 : decode c_BP_digestOfItems 52 = .ok (.iinc 5 1, 3) := by decide +kernel
theorem d_BP_digestOfItems_55 : decode c_BP_digestOfItems 55 = .ok (.goto (-50), 3) := by decide +kernel
theorem d_BP_digestOfItems_58 : decode c_BP_digestOfItems 58 = .ok (.aload_n 0, 1) := by decide +kernel
theorem d_BP_digestOfItems_59 : decode c_BP_digestOfItems 59 = .ok (.getfield 23, 3) := by decide +kernel
theorem d_BP_digestOfItems_62 : decode c_BP_digestOfItems 62 = .ok (.getfield 147, 3) := by decide +kernel
theorem d_BP_digestOfItems_65 : decode c_BP_digestOfItems 65 = .ok (.iconst 3, 1) := by decide +kernel
theorem d_BP_digestOfItems_66 : decode c_BP_digestOfItems 66 = .ok (.invokevirtual 185, 3) := by decide +kernel
theorem d_BP_digestOfItems_69 : decode c_BP_digestOfItems 69 = .ok (.istore 5, 2) := by decide +kernel
theorem d_BP_digestOfItems_71 : decode c_BP_digestOfItems 71 = .ok (.iconst 0, 1) := by decide +kernel
theorem d_BP_digestOfItems_72 : decode c_BP_digestOfItems 72 = .ok (.istore 6, 2) := by decide +kernel
theorem d_BP_digestOfItems_74 : decode c_BP_digestOfItems 74 = .ok (.iload 6, 2) := by decide +kernel
theorem d_BP_digestOfItems_76 : decode c_BP_digestOfItems 76 = .ok (.iload 5, 2) := by decide +kernel
theorem d_BP_digestOfItems_78 : decode c_BP_digestOfItems 78 = .ok (.if_icmp .ge 23, 3) := by decide +kernel
theorem d_BP_digestOfItems_81 : decode c_BP_digestOfItems 81 = .ok (.lload_n 3, 1) := by decide +kernel
theorem d_BP_digestOfItems_82 : decode c_BP_digestOfItems 82 = .ok (.ldc2_w 215, 3) := by decide +kernel
theorem d_BP_digestOfItems_85 : decode c_BP_digestOfItems 85 = .ok (.lmul, 1) := by decide +kernel
theorem d_BP_digestOfItems_86 : decode c_BP_digestOfItems 86 = .ok (.aload_n 0, 1) := by decide +kernel
theorem d_BP_digestOfItems_87 : decode c_BP_digestOfItems 87 = .ok (.iload 6, 2) := by decide +kernel
theorem d_BP_digestOfItems_89 : decode c_BP_digestOfItems 89 = .ok (.invokevirtual 231, 3) := by decide +kernel
theorem d_BP_digestOfItems_92 : decode c_BP_digestOfItems 92 = .ok (.i2l, 1) := by decide +kernel
theorem d_BP_digestOfItems_93 : decode c_BP_digestOfItems 93 = .ok (.ladd, 1) := by decide +kernel
theorem d_BP_digestOfItems_94 : decode c_BP_digestOfItems 94 = .ok (.lstore_n 3, 1) := by decide +kernel
theorem d_BP_digestOfItems_95 : decode c_BP_digestOfItems 95 = .ok (.iinc 6 1, 3) := by decide +kernel
theorem d_BP_digestOfItems_98 : decode c_BP_digestOfItems 98 = .ok (.goto (-24), 3) := by decide +kernel
theorem d_BP_digestOfItems_101 : decode c_BP_digestOfItems 101 = .ok (.iconst 0, 1) := by decide +kernel
theorem d_BP_digestOfItems_102 : decode c_BP_digestOfItems 102 = .ok (.istore 6, 2) := by decide +kernel
theorem d_BP_digestOfItems_104 : decode c_BP_digestOfItems 104 = .ok (.iload 6, 2) := by decide +kernel
theorem d_BP_digestOfItems_106 : decode c_BP_digestOfItems 106 = .ok (.bipush 8, 2) := by decide +kernel
theorem d_BP_digestOfItems_108 : decode c_BP_digestOfItems 108 = .ok (.if_icmp .ge 23, 3) := by decide +kernel
theorem d_BP_digestOfItems_111 : decode c_BP_digestOfItems 111 = .ok (.lload_n 3, 1) := by decide +kernel
theorem d_BP_digestOfItems_112 : decode c_BP_digestOfItems 112 = .ok (.ldc2_w 215, 3) := by decide +kernel
theorem d_BP_digestOfItems_115 : decode c_BP_digestOfItems 115 = .ok (.lmul, 1) := by decide +kernel
theorem d_BP_digestOfItems_116 : decode c_BP_digestOfItems 116 = .ok (.aload_n 0, 1) := by decide +kernel
theorem d_BP_digestOfItems_117 : decode c_BP_digestOfItems 117 = .ok (.iload 6, 2) := by decide +kernel
theorem d_BP_digestOfItems_119 : decode c_BP_digestOfItems 119 = .ok (.invokevirtual 234, 3) := by decide +kernel
theorem d_BP_digestOfItems_122 : decode c_BP_digestOfItems 122 = .ok (.i2l, 1) := by decide +kernel
theorem d_BP_digestOfItems_123 : decode c_BP_digestOfItems 123 = .ok (.ladd, 1) := by decide +kernel
theorem d_BP_digestOfItems_124 : decode c_BP_digestOfItems 124 = .ok (.lstore_n 3, 1) := by decide +kernel
theorem d_BP_digestOfItems_125 : decode c_BP_digestOfItems 125 = .ok (.iinc 6 1, 3) := by decide +kernel
theorem d_BP_digestOfItems_128 : decode c_BP_digestOfItems 128 = .ok (.goto (-24), 3) := by decide +kernel
theorem d_BP_digestOfItems_131 : decode c_BP_digestOfItems 131 = .ok (.lload_n 3, 1) := by decide +kernel
theorem d_BP_digestOfItems_132 : decode c_BP_digestOfItems 132 = .ok (.ldc2_w 215, 3) := by decide +kernel
theorem d_BP_digestOfItems_135 : decode c_BP_digestOfItems 135 = .ok (.lmul, 1) := by decide +kernel
theorem d_BP_digestOfItems_136 : decode c_BP_digestOfItems 136 = .ok (.aload_n 0, 1) := by decide +kernel
theorem d_BP_digestOfItems_137 : decode c_BP_digestOfItems 137 = .ok (.invokevirtual 237, 3) := by decide +kernel
theorem d_BP_digestOfItems_140 : decode c_BP_digestOfItems 140 = .ok (.i2l, 1) := by decide +kernel
theorem d_BP_digestOfItems_141 : decode c_BP_digestOfItems 141 = .ok (.ladd, 1) := by decide +kernel
theorem d_BP_digestOfItems_142 : decode c_BP_digestOfItems 142 = .ok (.lreturn, 1) := by decide +kernel
theorem d_BP_assembleNow_0 : decode c_BP_assembleNow 0 = .ok (.aload_n 0, 1) := by decide +kernel
theorem d_BP_assembleNow_1 : decode c_BP_assembleNow 1 = .ok (.getfield 23, 3) := by decide +kernel
theorem d_BP_assembleNow_4 : decode c_BP_assembleNow 4 = .ok (.invokevirtual 191, 3) := by decide +kernel
theorem d_BP_assembleNow_7 : decode c_BP_assembleNow 7 = .ok (.aload_n 0, 1) := by decide +kernel
theorem d_BP_assembleNow_8 : decode c_BP_assembleNow 8 = .ok (.getfield 23, 3) := by decide +kernel
theorem d_BP_assembleNow_11 : decode c_BP_assembleNow 11 = .ok (.invokevirtual 240, 3) := by decide +kernel
theorem d_BP_assembleNow_14 : decode c_BP_assembleNow 14 = .ok (.return_, 1) := by decide +kernel
theorem d_BP_lineThere_0 : decode c_BP_lineThere 0 = .ok (.aload_n 0, 1) := by decide +kernel
theorem d_BP_lineThere_1 : decode c_BP_lineThere 1 = .ok (.getfield 14, 3) := by decide +kernel
theorem d_BP_lineThere_4 : decode c_BP_lineThere 4 = .ok (.iload_n 1, 1) := by decide +kernel
theorem d_BP_lineThere_5 : decode c_BP_lineThere 5 = .ok (.iload_n 2, 1) := by decide +kernel
theorem d_BP_lineThere_6 : decode c_BP_lineThere 6 = .ok (.invokevirtual 243, 3) := by decide +kernel
theorem d_BP_lineThere_9 : decode c_BP_lineThere 9 = .ok (.astore_n 3, 1) := by decide +kernel
theorem d_BP_lineThere_10 : decode c_BP_lineThere 10 = .ok (.aload_n 3, 1) := by decide +kernel
theorem d_BP_lineThere_11 : decode c_BP_lineThere 11 = .ok (.ifnonnull 13, 3) := by decide +kernel
theorem d_BP_lineThere_14 : decode c_BP_lineThere 14 = .ok (.new 40, 3) := by decide +kernel
theorem d_BP_lineThere_17 : decode c_BP_lineThere 17 = .ok (.dup, 1) := by decide +kernel
theorem d_BP_lineThere_18 : decode c_BP_lineThere 18 = .ok (.ldc 92, 2) := by decide +kernel
theorem d_BP_lineThere_20 : decode c_BP_lineThere 20 = .ok (.invokespecial 44, 3) := by decide +kernel
theorem d_BP_lineThere_23 : decode c_BP_lineThere 23 = .ok (.athrow, 1) := by decide +kernel
theorem d_BP_lineThere_24 : decode c_BP_lineThere 24 = .ok (.aload_n 3, 1) := by decide +kernel
theorem d_BP_lineThere_25 : decode c_BP_lineThere 25 = .ok (.areturn, 1) := by decide +kernel
theorem d_BP_itemThere_0 : decode c_BP_itemThere 0 = .ok (.aload_n 0, 1) := by decide +kernel
theorem d_BP_itemThere_1 : decode c_BP_itemThere 1 = .ok (.getfield 23, 3) := by decide +kernel
theorem d_BP_itemThere_4 : decode c_BP_itemThere 4 = .ok (.getfield 147, 3) := by decide +kernel
theorem d_BP_itemThere_7 : decode c_BP_itemThere 7 = .ok (.iload_n 1, 1) := by decide +kernel
theorem d_BP_itemThere_8 : decode c_BP_itemThere 8 = .ok (.invokevirtual 246, 3) := by decide +kernel
theorem d_BP_itemThere_11 : decode c_BP_itemThere 11 = .ok (.astore_n 2, 1) := by decide +kernel
theorem d_BP_itemThere_12 : decode c_BP_itemThere 12 = .ok (.aload_n 2, 1) := by decide +kernel
theorem d_BP_itemThere_13 : decode c_BP_itemThere 13 = .ok (.ifnonnull 13, 3) := by decide +kernel
theorem d_BP_itemThere_16 : decode c_BP_itemThere 16 = .ok (.new 40, 3) := by decide +kernel
theorem d_BP_itemThere_19 : decode c_BP_itemThere 19 = .ok (.dup, 1) := by decide +kernel
theorem d_BP_itemThere_20 : decode c_BP_itemThere 20 = .ok (.ldc 249, 2) := by decide +kernel
theorem d_BP_itemThere_22 : decode c_BP_itemThere 22 = .ok (.invokespecial 44, 3) := by decide +kernel
theorem d_BP_itemThere_25 : decode c_BP_itemThere 25 = .ok (.athrow, 1) := by decide +kernel
theorem d_BP_itemThere_26 : decode c_BP_itemThere 26 = .ok (.aload_n 2, 1) := by decide +kernel
theorem d_BP_itemThere_27 : decode c_BP_itemThere 27 = .ok (.areturn, 1) := by decide +kernel
theorem d_Model_init_0 : decode c_Model_init 0 = .ok (.aload_n 0, 1) := by decide +kernel
theorem d_Model_init_1 : decode c_Model_init 1 = .ok (.invokespecial 3, 3) := by decide +kernel
theorem d_Model_init_4 : decode c_Model_init 4 = .ok (.aload_n 0, 1) := by decide +kernel
theorem d_Model_init_5 : decode c_Model_init 5 = .ok (.sipush 1600, 3) := by decide +kernel
theorem d_Model_init_8 : decode c_Model_init 8 = .ok (.newarray .int, 2) := by decide +kernel
theorem d_Model_init_10 : decode c_Model_init 10 = .ok (.putfield 9, 3) := by decide +kernel
theorem d_Model_init_13 : decode c_Model_init 13 = .ok (.aload_n 0, 1) := by decide +kernel
theorem d_Model_init_14 : decode c_Model_init 14 = .ok (.iconst 5, 1) := by decide +kernel
theorem d_Model_init_15 : decode c_Model_init 15 = .ok (.newarray .int, 2) := by decide +kernel
theorem d_Model_init_17 : decode c_Model_init 17 = .ok (.putfield 13, 3) := by decide +kernel
theorem d_Model_init_20 : decode c_Model_init 20 = .ok (.aload_n 0, 1) := by decide +kernel
theorem d_Model_init_21 : decode c_Model_init 21 = .ok (.bipush 121, 2) := by decide +kernel
theorem d_Model_init_23 : decode c_Model_init 23 = .ok (.newarray .int, 2) := by decide +kernel
theorem d_Model_init_25 : decode c_Model_init 25 = .ok (.putfield 16, 3) := by decide +kernel
theorem d_Model_init_28 : decode c_Model_init 28 = .ok (.aload_n 0, 1) := by decide +kernel
theorem d_Model_init_29 : decode c_Model_init 29 = .ok (.bipush 121, 2) := by decide +kernel
theorem d_Model_init_31 : decode c_Model_init 31 = .ok (.newarray .int, 2) := by decide +kernel
theorem d_Model_init_33 : decode c_Model_init 33 = .ok (.putfield 19, 3) := by decide +kernel
theorem d_Model_init_36 : decode c_Model_init 36 = .ok (.aload_n 0, 1) := by decide +kernel
theorem d_Model_init_37 : decode c_Model_init 37 = .ok (.bipush 121, 2) := by decide +kernel
theorem d_Model_init_39 : decode c_Model_init 39 = .ok (.newarray .int, 2) := by decide +kernel
theorem d_Model_init_41 : decode c_Model_init 41 = .ok (.putfield 22, 3) := by decide +kernel
theorem d_Model_init_44 : decode c_Model_init 44 = .ok (.aload_n 0, 1) := by decide +kernel
theorem d_Model_init_45 : decode c_Model_init 45 = .ok (.bipush 121, 2) := by decide +kernel
theorem d_Model_init_47 : decode c_Model_init 47 = .ok (.newarray .int, 2) := by decide +kernel
theorem d_Model_init_49 : decode c_Model_init 49 = .ok (.putfield 25, 3) := by decide +kernel
theorem d_Model_init_52 : decode c_Model_init 52 = .ok (.aload_n 0, 1) := by decide +kernel
theorem d_Model_init_53 : decode c_Model_init 53 = .ok (.bipush 121, 2) := by decide +kernel
theorem d_Model_init_55 : decode c_Model_init 55 = .ok (.newarray .int, 2) := by decide +kernel
theorem d_Model_init_57 : decode c_Model_init 57 = .ok (.putfield 28, 3) := by decide +kernel
theorem d_Model_init_60 : decode c_Model_init 60 = .ok (.aload_n 0, 1) := by decide +kernel
theorem d_Model_init_61 : decode c_Model_init 61 = .ok (.bipush 121, 2) := by decide +kernel
theorem d_Model_init_63 : decode c_Model_init 63 = .ok (.newarray .int, 2) := by decide +kernel
theorem d_Model_init_65 : decode c_Model_init 65 = .ok (.putfield 31, 3) := by decide +kernel
theorem d_Model_init_68 : decode c_Model_init 68 = .ok (.aload_n 0, 1) := by decide +kernel
theorem d_Model_init_69 : decode c_Model_init 69 = .ok (.bipush 122, 2) := by decide +kernel
theorem d_Model_init_71 : decode c_Model_init 71 = .ok (.newarray .int, 2) := by decide +kernel
theorem d_Model_init_73 : decode c_Model_init 73 = .ok (.putfield 34, 3) := by decide +kernel
theorem d_Model_init_76 : decode c_Model_init 76 = .ok (.aload_n 0, 1) := by decide +kernel
theorem d_Model_init_77 : decode c_Model_init 77 = .ok (.bipush 121, 2) := by decide +kernel
theorem d_Model_init_79 : decode c_Model_init 79 = .ok (.newarray .int, 2) := by decide +kernel
theorem d_Model_init_81 : decode c_Model_init 81 = .ok (.putfield 37, 3) := by decide +kernel
theorem d_Model_init_84 : decode c_Model_init 84 = .ok (.aload_n 0, 1) := by decide +kernel
theorem d_Model_init_85 : decode c_Model_init 85 = .ok (.bipush 121, 2) := by decide +kernel
theorem d_Model_init_87 : decode c_Model_init 87 = .ok (.newarray .int, 2) := by decide +kernel
theorem d_Model_init_89 : decode c_Model_init 89 = .ok (.putfield 40, 3) := by decide +kernel
theorem d_Model_init_92 : decode c_Model_init 92 = .ok (.aload_n 0, 1) := by decide +kernel
theorem d_Model_init_93 : decode c_Model_init 93 = .ok (.bipush 121, 2) := by decide +kernel
theorem d_Model_init_95 : decode c_Model_init 95 = .ok (.newarray .int, 2) := by decide +kernel
theorem d_Model_init_97 : decode c_Model_init 97 = .ok (.putfield 43, 3) := by decide +kernel
theorem d_Model_init_100 : decode c_Model_init 100 = .ok (.aload_n 0, 1) := by decide +kernel
theorem d_Model_init_101 : decode c_Model_init 101 = .ok (.bipush 121, 2) := by decide +kernel
theorem d_Model_init_103 : decode c_Model_init 103 = .ok (.newarray .int, 2) := by decide +kernel
theorem d_Model_init_105 : decode c_Model_init 105 = .ok (.putfield 46, 3) := by decide +kernel
theorem d_Model_init_108 : decode c_Model_init 108 = .ok (.aload_n 0, 1) := by decide +kernel
theorem d_Model_init_109 : decode c_Model_init 109 = .ok (.bipush 121, 2) := by decide +kernel
theorem d_Model_init_111 : decode c_Model_init 111 = .ok (.newarray .int, 2) := by decide +kernel
theorem d_Model_init_113 : decode c_Model_init 113 = .ok (.putfield 49, 3) := by decide +kernel
theorem d_Model_init_116 : decode c_Model_init 116 = .ok (.aload_n 0, 1) := by decide +kernel
theorem d_Model_init_117 : decode c_Model_init 117 = .ok (.bipush 121, 2) := by decide +kernel
theorem d_Model_init_119 : decode c_Model_init 119 = .ok (.newarray .int, 2) := by decide +kernel
theorem d_Model_init_121 : decode c_Model_init 121 = .ok (.putfield 52, 3) := by decide +kernel
theorem d_Model_init_124 : decode c_Model_init 124 = .ok (.aload_n 0, 1) := by decide +kernel
theorem d_Model_init_125 : decode c_Model_init 125 = .ok (.bipush 121, 2) := by decide +kernel
theorem d_Model_init_127 : decode c_Model_init 127 = .ok (.newarray .int, 2) := by decide +kernel
theorem d_Model_init_129 : decode c_Model_init 129 = .ok (.putfield 55, 3) := by decide +kernel
theorem d_Model_init_132 : decode c_Model_init 132 = .ok (.aload_n 0, 1) := by decide +kernel
theorem d_Model_init_133 : decode c_Model_init 133 = .ok (.bipush 121, 2) := by decide +kernel
theorem d_Model_init_135 : decode c_Model_init 135 = .ok (.newarray .int, 2) := by decide +kernel
theorem d_Model_init_137 : decode c_Model_init 137 = .ok (.putfield 58, 3) := by decide +kernel
theorem d_Model_init_140 : decode c_Model_init 140 = .ok (.aload_n 0, 1) := by decide +kernel
theorem d_Model_init_141 : decode c_Model_init 141 = .ok (.bipush 121, 2) := by decide +kernel
theorem d_Model_init_143 : decode c_Model_init 143 = .ok (.newarray .boolean, 2) := by decide +kernel
theorem d_Model_init_145 : decode c_Model_init 145 = .ok (.putfield 61, 3) := by decide +kernel
theorem d_Model_init_148 : decode c_Model_init 148 = .ok (.aload_n 0, 1) := by decide +kernel
theorem d_Model_init_149 : decode c_Model_init 149 = .ok (.bipush 121, 2) := by decide +kernel
theorem d_Model_init_151 : decode c_Model_init 151 = .ok (.newarray .boolean, 2) := by decide +kernel
theorem d_Model_init_153 : decode c_Model_init 153 = .ok (.putfield 65, 3) := by decide +kernel
theorem d_Model_init_156 : decode c_Model_init 156 = .ok (.aload_n 0, 1) := by decide +kernel
theorem d_Model_init_157 : decode c_Model_init 157 = .ok (.bipush 8, 2) := by decide +kernel
theorem d_Model_init_159 : decode c_Model_init 159 = .ok (.newarray .int, 2) := by decide +kernel
theorem d_Model_init_161 : decode c_Model_init 161 = .ok (.putfield 68, 3) := by decide +kernel
theorem d_Model_init_164 : decode c_Model_init 164 = .ok (.aload_n 0, 1) := by decide +kernel
theorem d_Model_init_165 : decode c_Model_init 165 = .ok (.bipush 8, 2) := by decide +kernel
theorem d_Model_init_167 : decode c_Model_init 167 = .ok (.newarray .int, 2) := by decide +kernel
theorem d_Model_init_169 : decode c_Model_init 169 = .ok (.putfield 71, 3) := by decide +kernel
theorem d_Model_init_172 : decode c_Model_init 172 = .ok (.aload_n 0, 1) := by decide +kernel
theorem d_Model_init_173 : decode c_Model_init 173 = .ok (.bipush 8, 2) := by decide +kernel
theorem d_Model_init_175 : decode c_Model_init 175 = .ok (.newarray .int, 2) := by decide +kernel
theorem d_Model_init_177 : decode c_Model_init 177 = .ok (.putfield 74, 3) := by decide +kernel
theorem d_Model_init_180 : decode c_Model_init 180 = .ok (.aload_n 0, 1) := by decide +kernel
theorem d_Model_init_181 : decode c_Model_init 181 = .ok (.invokevirtual 77, 3) := by decide +kernel
theorem d_Model_init_184 : decode c_Model_init 184 = .ok (.return_, 1) := by decide +kernel
theorem d_Model_thrown_0 : decode c_Model_thrown 0 = .ok (.aload_n 0, 1) := by decide +kernel
theorem d_Model_thrown_1 : decode c_Model_thrown 1 = .ok (.getfield 80, 3) := by decide +kernel
theorem d_Model_thrown_4 : decode c_Model_thrown 4 = .ok (.ireturn, 1) := by decide +kernel
theorem d_Model_no_0 : decode c_Model_no 0 = .ok (.aload_n 0, 1) := by decide +kernel
theorem d_Model_no_1 : decode c_Model_no 1 = .ok (.iload_n 1, 1) := by decide +kernel
theorem d_Model_no_2 : decode c_Model_no 2 = .ok (.putfield 80, 3) := by decide +kernel
theorem d_Model_no_5 : decode c_Model_no 5 = .ok (.iconst 0, 1) := by decide +kernel
theorem d_Model_no_6 : decode c_Model_no 6 = .ok (.ireturn, 1) := by decide +kernel
theorem d_Model_isIn_0 : decode c_Model_isIn 0 = .ok (.iload_n 0, 1) := by decide +kernel
theorem d_Model_isIn_1 : decode c_Model_isIn 1 = .ok (.iload_n 1, 1) := by decide +kernel
theorem d_Model_isIn_2 : decode c_Model_isIn 2 = .ok (.if_icmp .lt 12, 3) := by decide +kernel
theorem d_Model_isIn_5 : decode c_Model_isIn 5 = .ok (.iload_n 0, 1) := by decide +kernel
theorem d_Model_isIn_6 : decode c_Model_isIn 6 = .ok (.iload_n 2, 1) := by decide +kernel
theorem d_Model_isIn_7 : decode c_Model_isIn 7 = .ok (.if_icmp .gt 7, 3) := by decide +kernel
theorem d_Model_isIn_10 : decode c_Model_isIn 10 = .ok (.iconst 1, 1) := by decide +kernel
theorem d_Model_isIn_11 : decode c_Model_isIn 11 = .ok (.goto 4, 3) := by decide +kernel
theorem d_Model_isIn_14 : decode c_Model_isIn 14 = .ok (.iconst 0, 1) := by decide +kernel
theorem d_Model_isIn_15 : decode c_Model_isIn 15 = .ok (.ireturn, 1) := by decide +kernel
theorem d_Model_canHave_0 : decode c_Model_canHave 0 = .ok (.iload_n 0, 1) := by decide +kernel
theorem d_Model_canHave_1 : decode c_Model_canHave 1 = .ok (.bipush 7, 2) := by decide +kernel
theorem d_Model_canHave_3 : decode c_Model_canHave 3 = .ok (.if_icmp .ne 29, 3) := by decide +kernel
theorem d_Model_canHave_6 : decode c_Model_canHave 6 = .ok (.iload_n 1, 1) := by decide +kernel
theorem d_Model_canHave_7 : decode c_Model_canHave 7 = .ok (.iconst 2, 1) := by decide +kernel
theorem d_Model_canHave_8 : decode c_Model_canHave 8 = .ok (.if_icmp .eq 14, 3) := by decide +kernel
theorem d_Model_canHave_11 : decode c_Model_canHave 11 = .ok (.iload_n 1, 1) := by decide +kernel
theorem d_Model_canHave_12 : decode c_Model_canHave 12 = .ok (.iconst 4, 1) := by decide +kernel
theorem d_Model_canHave_13 : decode c_Model_canHave 13 = .ok (.if_icmp .eq 9, 3) := by decide +kernel
theorem d_Model_canHave_16 : decode c_Model_canHave 16 = .ok (.iload_n 1, 1) := by decide +kernel
theorem d_Model_canHave_17 : decode c_Model_canHave 17 = .ok (.bipush 8, 2) := by decide +kernel
theorem d_Model_canHave_19 : decode c_Model_canHave 19 = .ok (.if_icmp .ne 11, 3) := by decide +kernel
theorem d_Model_canHave_22 : decode c_Model_canHave 22 = .ok (.iload_n 2, 1) := by decide +kernel
theorem d_Model_canHave_23 : decode c_Model_canHave 23 = .ok (.ifCond .ne 7, 3) := by decide +kernel
theorem d_Model_canHave_26 : decode c_Model_canHave 26 = .ok (.iconst 1, 1) := by decide +kernel
theorem d_Model_canHave_27 : decode c_Model_canHave 27 = .ok (.goto 4, 3) := by decide +kernel
theorem d_Model_canHave_30 : decode c_Model_canHave 30 = .ok (.iconst 0, 1) := by decide +kernel
theorem d_Model_canHave_31 : decode c_Model_canHave 31 = .ok (.ireturn, 1) := by decide +kernel
theorem d_Model_canHave_32 : decode c_Model_canHave 32 = .ok (.iload_n 0, 1) := by decide +kernel
theorem d_Model_canHave_33 : decode c_Model_canHave 33 = .ok (.ifCond .eq 15, 3) := by decide +kernel
theorem d_Model_canHave_36 : decode c_Model_canHave 36 = .ok (.iload_n 0, 1) := by decide +kernel
theorem d_Model_canHave_37 : decode c_Model_canHave 37 = .ok (.bipush 6, 2) := by decide +kernel
theorem d_Model_canHave_39 : decode c_Model_canHave 39 = .ok (.if_icmp .eq 9, 3) := by decide +kernel
theorem d_Model_canHave_42 : decode c_Model_canHave 42 = .ok (.iload_n 0, 1) := by decide +kernel
theorem d_Model_canHave_43 : decode c_Model_canHave 43 = .ok (.bipush 9, 2) := by decide +kernel
theorem d_Model_canHave_45 : decode c_Model_canHave 45 = .ok (.if_icmp .ne 17, 3) := by decide +kernel
theorem d_Model_canHave_48 : decode c_Model_canHave 48 = .ok (.iload_n 1, 1) := by decide +kernel
theorem d_Model_canHave_49 : decode c_Model_canHave 49 = .ok (.ifCond .ne 11, 3) := by decide +kernel
theorem d_Model_canHave_52 : decode c_Model_canHave 52 = .ok (.iload_n 2, 1) := by decide +kernel
theorem d_Model_canHave_53 : decode c_Model_canHave 53 = .ok (.ifCond .ne 7, 3) := by decide +kernel
theorem d_Model_canHave_56 : decode c_Model_canHave 56 = .ok (.iconst 1, 1) := by decide +kernel
theorem d_Model_canHave_57 : decode c_Model_canHave 57 = .ok (.goto 4, 3) := by decide +kernel
theorem d_Model_canHave_60 : decode c_Model_canHave 60 = .ok (.iconst 0, 1) := by decide +kernel
theorem d_Model_canHave_61 : decode c_Model_canHave 61 = .ok (.ireturn, 1) := by decide +kernel
theorem d_Model_canHave_62 : decode c_Model_canHave 62 = .ok (.iload_n 1, 1) := by decide +kernel
theorem d_Model_canHave_63 : decode c_Model_canHave 63 = .ok (.bipush (-99), 2) := by decide +kernel
theorem d_Model_canHave_65 : decode c_Model_canHave 65 = .ok (.bipush 99, 2) := by decide +kernel
theorem d_Model_canHave_67 : decode c_Model_canHave 67 = .ok (.invokestatic 84, 3) := by decide +kernel
theorem d_Model_canHave_70 : decode c_Model_canHave 70 = .ok (.ireturn, 1) := by decide +kernel
theorem d_Model_canBe_0 : decode c_Model_canBe 0 = .ok (.iload_n 0, 1) := by decide +kernel
theorem d_Model_canBe_1 : decode c_Model_canBe 1 = .ok (.iload_n 3, 1) := by decide +kernel
theorem d_Model_canBe_2 : decode c_Model_canBe 2 = .ok (.iload 4, 2) := by decide +kernel
theorem d_Model_canBe_4 : decode c_Model_canBe 4 = .ok (.invokestatic 88, 3) := by decide +kernel
theorem d_Model_canBe_7 : decode c_Model_canBe 7 = .ok (.ifCond .ne 5, 3) := by decide +kernel
theorem d_Model_canBe_10 : decode c_Model_canBe 10 = .ok (.iconst 0, 1) := by decide +kernel
theorem d_Model_canBe_11 : decode c_Model_canBe 11 = .ok (.ireturn, 1) := by decide +kernel
theorem d_Model_canBe_12 : decode c_Model_canBe 12 = .ok (.iload_n 0, 1) := by decide +kernel
theorem d_Model_canBe_13 : decode c_Model_canBe 13 = .ok (.tableswitch 199 0 10 #[59, 80, 106, 132, 132, 199, 199, 199, 153, 199, 179], 59) := by decide +kernel
theorem d_Model_canBe_72 : decode c_Model_canBe 72 = .ok (.iload_n 1, 1) := by decide +kernel
theorem d_Model_canBe_73 : decode c_Model_canBe 73 = .ok (.iconst 0, 1) := by decide +kernel
theorem d_Model_canBe_74 : decode c_Model_canBe 74 = .ok (.bipush 9, 2) := by decide +kernel
theorem d_Model_canBe_76 : decode c_Model_canBe 76 = .ok (.invokestatic 84, 3) := by decide +kernel
theorem d_Model_canBe_79 : decode c_Model_canBe 79 = .ok (.ifCond .eq 12, 3) := by decide +kernel
theorem d_Model_canBe_82 : decode c_Model_canBe 82 = .ok (.iload_n 2, 1) := by decide +kernel
theorem d_Model_canBe_83 : decode c_Model_canBe 83 = .ok (.iconst (-1), 1) := by decide +kernel
theorem d_Model_canBe_84 : decode c_Model_canBe 84 = .ok (.if_icmp .ne 7, 3) := by decide +kernel
theorem d_Model_canBe_87 : decode c_Model_canBe 87 = .ok (.iconst 1, 1) := by decide +kernel
theorem d_Model_canBe_88 : decode c_Model_canBe 88 = .ok (.goto 4, 3) := by decide +kernel
theorem d_Model_canBe_91 : decode c_Model_canBe 91 = .ok (.iconst 0, 1) := by decide +kernel
theorem d_Model_canBe_92 : decode c_Model_canBe 92 = .ok (.ireturn, 1) := by decide +kernel
theorem d_Model_canBe_93 : decode c_Model_canBe 93 = .ok (.iload_n 1, 1) := by decide +kernel
theorem d_Model_canBe_94 : decode c_Model_canBe 94 = .ok (.iconst 0, 1) := by decide +kernel
theorem d_Model_canBe_95 : decode c_Model_canBe 95 = .ok (.bipush 7, 2) := by decide +kernel
theorem d_Model_canBe_97 : decode c_Model_canBe 97 = .ok (.invokestatic 84, 3) := by decide +kernel
theorem d_Model_canBe_100 : decode c_Model_canBe 100 = .ok (.ifCond .eq 17, 3) := by decide +kernel
theorem d_Model_canBe_103 : decode c_Model_canBe 103 = .ok (.iload_n 2, 1) := by decide +kernel
theorem d_Model_canBe_104 : decode c_Model_canBe 104 = .ok (.iconst (-1), 1) := by decide +kernel
theorem d_Model_canBe_105 : decode c_Model_canBe 105 = .ok (.bipush 7, 2) := by decide +kernel
theorem d_Model_canBe_107 : decode c_Model_canBe 107 = .ok (.invokestatic 84, 3) := by decide +kernel
theorem d_Model_canBe_110 : decode c_Model_canBe 110 = .ok (.ifCond .eq 7, 3) := by decide +kernel
theorem d_Model_canBe_113 : decode c_Model_canBe 113 = .ok (.iconst 1, 1) := by decide +kernel
theorem d_Model_canBe_114 : decode c_Model_canBe 114 = .ok (.goto 4, 3) := by decide +kernel
theorem d_Model_canBe_117 : decode c_Model_canBe 117 = .ok (.iconst 0, 1) := by decide +kernel
theorem d_Model_canBe_118 : decode c_Model_canBe 118 = .ok (.ireturn, 1) := by decide +kernel
theorem d_Model_canBe_119 : decode c_Model_canBe 119 = .ok (.iload_n 1, 1) := by decide +kernel
theorem d_Model_canBe_120 : decode c_Model_canBe 120 = .ok (.iconst (-1), 1) := by decide +kernel
theorem d_Model_canBe_121 : decode c_Model_canBe 121 = .ok (.bipush 11, 2) := by decide +kernel
theorem d_Model_canBe_123 : decode c_Model_canBe 123 = .ok (.invokestatic 84, 3) := by decide +kernel
theorem d_Model_canBe_126 : decode c_Model_canBe 126 = .ok (.ifCond .eq 17, 3) := by decide +kernel
theorem d_Model_canBe_129 : decode c_Model_canBe 129 = .ok (.iload_n 2, 1) := by decide +kernel
theorem d_Model_canBe_130 : decode c_Model_canBe 130 = .ok (.iconst (-1), 1) := by decide +kernel
theorem d_Model_canBe_131 : decode c_Model_canBe 131 = .ok (.bipush 11, 2) := by decide +kernel
theorem d_Model_canBe_133 : decode c_Model_canBe 133 = .ok (.invokestatic 84, 3) := by decide +kernel
theorem d_Model_canBe_136 : decode c_Model_canBe 136 = .ok (.ifCond .eq 7, 3) := by decide +kernel
theorem d_Model_canBe_139 : decode c_Model_canBe 139 = .ok (.iconst 1, 1) := by decide +kernel
theorem d_Model_canBe_140 : decode c_Model_canBe 140 = .ok (.goto 4, 3) := by decide +kernel
theorem d_Model_canBe_143 : decode c_Model_canBe 143 = .ok (.iconst 0, 1) := by decide +kernel
theorem d_Model_canBe_144 : decode c_Model_canBe 144 = .ok (.ireturn, 1) := by decide +kernel
theorem d_Model_canBe_145 : decode c_Model_canBe 145 = .ok (.iload_n 1, 1) := by decide +kernel
theorem d_Model_canBe_146 : decode c_Model_canBe 146 = .ok (.iconst (-1), 1) := by decide +kernel
theorem d_Model_canBe_147 : decode c_Model_canBe 147 = .ok (.bipush 11, 2) := by decide +kernel
theorem d_Model_canBe_149 : decode c_Model_canBe 149 = .ok (.invokestatic 84, 3) := by decide +kernel
theorem d_Model_canBe_152 : decode c_Model_canBe 152 = .ok (.ifCond .eq 12, 3) := by decide +kernel
theorem d_Model_canBe_155 : decode c_Model_canBe 155 = .ok (.iload_n 2, 1) := by decide +kernel
theorem d_Model_canBe_156 : decode c_Model_canBe 156 = .ok (.iconst (-1), 1) := by decide +kernel
theorem d_Model_canBe_157 : decode c_Model_canBe 157 = .ok (.if_icmp .ne 7, 3) := by decide +kernel
theorem d_Model_canBe_160 : decode c_Model_canBe 160 = .ok (.iconst 1, 1) := by decide +kernel
theorem d_Model_canBe_161 : decode c_Model_canBe 161 = .ok (.goto 4, 3) := by decide +kernel
theorem d_Model_canBe_164 : decode c_Model_canBe 164 = .ok (.iconst 0, 1) := by decide +kernel
theorem d_Model_canBe_165 : decode c_Model_canBe 165 = .ok (.ireturn, 1) := by decide +kernel
theorem d_Model_canBe_166 : decode c_Model_canBe 166 = .ok (.iload_n 1, 1) := by decide +kernel
theorem d_Model_canBe_167 : decode c_Model_canBe 167 = .ok (.iconst (-1), 1) := by decide +kernel
theorem d_Model_canBe_168 : decode c_Model_canBe 168 = .ok (.bipush 7, 2) := by decide +kernel
theorem d_Model_canBe_170 : decode c_Model_canBe 170 = .ok (.invokestatic 84, 3) := by decide +kernel
theorem d_Model_canBe_173 : decode c_Model_canBe 173 = .ok (.ifCond .eq 17, 3) := by decide +kernel
theorem d_Model_canBe_176 : decode c_Model_canBe 176 = .ok (.iload_n 2, 1) := by decide +kernel
theorem d_Model_canBe_177 : decode c_Model_canBe 177 = .ok (.iconst (-1), 1) := by decide +kernel
theorem d_Model_canBe_178 : decode c_Model_canBe 178 = .ok (.bipush 7, 2) := by decide +kernel
theorem d_Model_canBe_180 : decode c_Model_canBe 180 = .ok (.invokestatic 84, 3) := by decide +kernel
theorem d_Model_canBe_183 : decode c_Model_canBe 183 = .ok (.ifCond .eq 7, 3) := by decide +kernel
theorem d_Model_canBe_186 : decode c_Model_canBe 186 = .ok (.iconst 1, 1) := by decide +kernel
theorem d_Model_canBe_187 : decode c_Model_canBe 187 = .ok (.goto 4, 3) := by decide +kernel
theorem d_Model_canBe_190 : decode c_Model_canBe 190 = .ok (.iconst 0, 1) := by decide +kernel
theorem d_Model_canBe_191 : decode c_Model_canBe 191 = .ok (.ireturn, 1) := by decide +kernel
theorem d_Model_canBe_192 : decode c_Model_canBe 192 = .ok (.iload_n 1, 1) := by decide +kernel
theorem d_Model_canBe_193 : decode c_Model_canBe 193 = .ok (.iconst 1, 1) := by decide +kernel
theorem d_Model_canBe_194 : decode c_Model_canBe 194 = .ok (.iconst 4, 1) := by decide +kernel
theorem d_Model_canBe_195 : decode c_Model_canBe 195 = .ok (.invokestatic 84, 3) := by decide +kernel
theorem d_Model_canBe_198 : decode c_Model_canBe 198 = .ok (.ifCond .eq 12, 3) := by decide +kernel
theorem d_Model_canBe_201 : decode c_Model_canBe 201 = .ok (.iload_n 2, 1) := by decide +kernel
theorem d_Model_canBe_202 : decode c_Model_canBe 202 = .ok (.iconst (-1), 1) := by decide +kernel
theorem d_Model_canBe_203 : decode c_Model_canBe 203 = .ok (.if_icmp .ne 7, 3) := by decide +kernel
theorem d_Model_canBe_206 : decode c_Model_canBe 206 = .ok (.iconst 1, 1) := by decide +kernel
theorem d_Model_canBe_207 : decode c_Model_canBe 207 = .ok (.goto 4, 3) := by decide +kernel
theorem d_Model_canBe_210 : decode c_Model_canBe 210 = .ok (.iconst 0, 1) := by decide +kernel
theorem d_Model_canBe_211 : decode c_Model_canBe 211 = .ok (.ireturn, 1) := by decide +kernel
theorem d_Model_canBe_212 : decode c_Model_canBe 212 = .ok (.iload_n 0, 1) := by decide +kernel
theorem d_Model_canBe_213 : decode c_Model_canBe 213 = .ok (.iconst 0, 1) := by decide +kernel
theorem d_Model_canBe_214 : decode c_Model_canBe 214 = .ok (.bipush 10, 2) := by decide +kernel
theorem d_Model_canBe_216 : decode c_Model_canBe 216 = .ok (.invokestatic 84, 3) := by decide +kernel
theorem d_Model_canBe_219 : decode c_Model_canBe 219 = .ok (.ifCond .eq 17, 3) := by decide +kernel
theorem d_Model_canBe_222 : decode c_Model_canBe 222 = .ok (.iload_n 1, 1) := by decide +kernel
theorem d_Model_canBe_223 : decode c_Model_canBe 223 = .ok (.iconst (-1), 1) := by decide +kernel
theorem d_Model_canBe_224 : decode c_Model_canBe 224 = .ok (.if_icmp .ne 12, 3) := by decide +kernel
theorem d_Model_canBe_227 : decode c_Model_canBe 227 = .ok (.iload_n 2, 1) := by decide +kernel
theorem d_Model_canBe_228 : decode c_Model_canBe 228 = .ok (.iconst (-1), 1) := by decide +kernel
theorem d_Model_canBe_229 : decode c_Model_canBe 229 = .ok (.if_icmp .ne 7, 3) := by decide +kernel
theorem d_Model_canBe_232 : decode c_Model_canBe 232 = .ok (.iconst 1, 1) := by decide +kernel
theorem d_Model_canBe_233 : decode c_Model_canBe 233 = .ok (.goto 4, 3) := by decide +kernel
theorem d_Model_canBe_236 : decode c_Model_canBe 236 = .ok (.iconst 0, 1) := by decide +kernel
theorem d_Model_canBe_237 : decode c_Model_canBe 237 = .ok (.ireturn, 1) := by decide +kernel
theorem d_Model_isRow_0 : decode c_Model_isRow 0 = .ok (.iload_n 0, 1) := by decide +kernel
theorem d_Model_isRow_1 : decode c_Model_isRow 1 = .ok (.iconst 0, 1) := by decide +kernel
theorem d_Model_isRow_2 : decode c_Model_isRow 2 = .ok (.iconst 4, 1) := by decide +kernel
theorem d_Model_isRow_3 : decode c_Model_isRow 3 = .ok (.invokestatic 84, 3) := by decide +kernel
theorem d_Model_isRow_6 : decode c_Model_isRow 6 = .ok (.ireturn, 1) := by decide +kernel
theorem d_Model_isLine_0 : decode c_Model_isLine 0 = .ok (.iload_n 1, 1) := by decide +kernel
theorem d_Model_isLine_1 : decode c_Model_isLine 1 = .ok (.invokestatic 92, 3) := by decide +kernel
theorem d_Model_isLine_4 : decode c_Model_isLine 4 = .ok (.ifCond .eq 23, 3) := by decide +kernel
theorem d_Model_isLine_7 : decode c_Model_isLine 7 = .ok (.iload_n 2, 1) := by decide +kernel
theorem d_Model_isLine_8 : decode c_Model_isLine 8 = .ok (.iconst 0, 1) := by decide +kernel
theorem d_Model_isLine_9 : decode c_Model_isLine 9 = .ok (.aload_n 0, 1) := by decide +kernel
theorem d_Model_isLine_10 : decode c_Model_isLine 10 = .ok (.getfield 13, 3) := by decide +kernel
theorem d_Model_isLine_13 : decode c_Model_isLine 13 = .ok (.iload_n 1, 1) := by decide +kernel
theorem d_Model_isLine_14 : decode c_Model_isLine 14 = .ok (.iaload, 1) := by decide +kernel
theorem d_Model_isLine_15 : decode c_Model_isLine 15 = .ok (.iconst 1, 1) := by decide +kernel
theorem d_Model_isLine_16 : decode c_Model_isLine 16 = .ok (.isub, 1) := by decide +kernel
theorem d_Model_isLine_17 : decode c_Model_isLine 17 = .ok (.invokestatic 84, 3) := by decide +kernel
theorem d_Model_isLine_20 : decode c_Model_isLine 20 = .ok (.ifCond .eq 7, 3) := by decide +kernel
theorem d_Model_isLine_23 : decode c_Model_isLine 23 = .ok (.iconst 1, 1) := by decide +kernel
theorem d_Model_isLine_24 : decode c_Model_isLine 24 = .ok (.goto 4, 3) := by decide +kernel
theorem d_Model_isLine_27 : decode c_Model_isLine 27 = .ok (.iconst 0, 1) := by decide +kernel
theorem d_Model_isLine_28 : decode c_Model_isLine 28 = .ok (.ireturn, 1) := by decide +kernel
theorem d_Model_at_0 : decode c_Model_at 0 = .ok (.iload_n 0, 1) := by decide +kernel
theorem d_Model_at_1 : decode c_Model_at 1 = .ok (.bipush 64, 2) := by decide +kernel
theorem d_Model_at_3 : decode c_Model_at 3 = .ok (.imul, 1) := by decide +kernel
theorem d_Model_at_4 : decode c_Model_at 4 = .ok (.iload_n 1, 1) := by decide +kernel
theorem d_Model_at_5 : decode c_Model_at 5 = .ok (.iadd, 1) := by decide +kernel
theorem d_Model_at_6 : decode c_Model_at 6 = .ok (.iconst 5, 1) := by decide +kernel
theorem d_Model_at_7 : decode c_Model_at 7 = .ok (.imul, 1) := by decide +kernel
theorem d_Model_at_8 : decode c_Model_at 8 = .ok (.ireturn, 1) := by decide +kernel
theorem d_Model_write_0 : decode c_Model_write 0 = .ok (.iload_n 1, 1) := by decide +kernel
theorem d_Model_write_1 : decode c_Model_write 1 = .ok (.iload_n 2, 1) := by decide +kernel
theorem d_Model_write_2 : decode c_Model_write 2 = .ok (.invokestatic 96, 3) := by decide +kernel
theorem d_Model_write_5 : decode c_Model_write 5 = .ok (.istore 8, 2) := by decide +kernel
theorem d_Model_write_7 : decode c_Model_write 7 = .ok (.aload_n 0, 1) := by decide +kernel
theorem d_Model_write_8 : decode c_Model_write 8 = .ok (.getfield 9, 3) := by decide +kernel
theorem d_Model_write_11 : decode c_Model_write 11 = .ok (.iload 8, 2) := by decide +kernel
theorem d_Model_write_13 : decode c_Model_write 13 = .ok (.iload_n 3, 1) := by decide +kernel
theorem d_Model_write_14 : decode c_Model_write 14 = .ok (.iastore, 1) := by decide +kernel
theorem d_Model_write_15 : decode c_Model_write 15 = .ok (.aload_n 0, 1) := by decide +kernel
theorem d_Model_write_16 : decode c_Model_write 16 = .ok (.getfield 9, 3) := by decide +kernel
theorem d_Model_write_19 : decode c_Model_write 19 = .ok (.iload 8, 2) := by decide +kernel
theorem d_Model_write_21 : decode c_Model_write 21 = .ok (.iconst 1, 1) := by decide +kernel
theorem d_Model_write_22 : decode c_Model_write 22 = .ok (.iadd, 1) := by decide +kernel
theorem d_Model_write_23 : decode c_Model_write 23 = .ok (.iload 4, 2) := by decide +kernel
theorem d_Model_write_25 : decode c_Model_write 25 = .ok (.iastore, 1) := by decide +kernel
theorem d_Model_write_26 : decode c_Model_write 26 = .ok (.aload_n 0, 1) := by decide +kernel
theorem d_Model_write_27 : decode c_Model_write 27 = .ok (.getfield 9, 3) := by decide +kernel
theorem d_Model_write_30 : decode c_Model_write 30 = .ok (.iload 8, 2) := by decide +kernel
theorem d_Model_write_32 : decode c_Model_write 32 = .ok (.iconst 2, 1) := by decide +kernel
theorem d_Model_write_33 : decode c_Model_write 33 = .ok (.iadd, 1) := by decide +kernel
theorem d_Model_write_34 : decode c_Model_write 34 = .ok (.iload 5, 2) := by decide +kernel
theorem d_Model_write_36 : decode c_Model_write 36 = .ok (.iastore, 1) := by decide +kernel
theorem d_Model_write_37 : decode c_Model_write 37 = .ok (.aload_n 0, 1) := by decide +kernel
theorem d_Model_write_38 : decode c_Model_write 38 = .ok (.getfield 9, 3) := by decide +kernel
theorem d_Model_write_41 : decode c_Model_write 41 = .ok (.iload 8, 2) := by decide +kernel
theorem d_Model_write_43 : decode c_Model_write 43 = .ok (.iconst 3, 1) := by decide +kernel
theorem d_Model_write_44 : decode c_Model_write 44 = .ok (.iadd, 1) := by decide +kernel
theorem d_Model_write_45 : decode c_Model_write 45 = .ok (.iload 6, 2) := by decide +kernel
theorem d_Model_write_47 : decode c_Model_write 47 = .ok (.iastore, 1) := by decide +kernel
theorem d_Model_write_48 : decode c_Model_write 48 = .ok (.aload_n 0, 1) := by decide +kernel
theorem d_Model_write_49 : decode c_Model_write 49 = .ok (.getfield 9, 3) := by decide +kernel
theorem d_Model_write_52 : decode c_Model_write 52 = .ok (.iload 8, 2) := by decide +kernel
theorem d_Model_write_54 : decode c_Model_write 54 = .ok (.iconst 4, 1) := by decide +kernel
theorem d_Model_write_55 : decode c_Model_write 55 = .ok (.iadd, 1) := by decide +kernel
theorem d_Model_write_56 : decode c_Model_write 56 = .ok (.iload 7, 2) := by decide +kernel
theorem d_Model_write_58 : decode c_Model_write 58 = .ok (.ifCond .eq 7, 3) := by decide +kernel
theorem d_Model_write_61 : decode c_Model_write 61 = .ok (.iconst 1, 1) := by decide +kernel
theorem d_Model_write_62 : decode c_Model_write 62 = .ok (.goto 4, 3) := by decide +kernel
theorem d_Model_write_65 : decode c_Model_write 65 = .ok (.iconst 0, 1) := by decide +kernel
theorem d_Model_write_66 : decode c_Model_write 66 = .ok (.iastore, 1) := by decide +kernel
theorem d_Model_write_67 : decode c_Model_write 67 = .ok (.return_, 1) := by decide +kernel
theorem d_Model_add_0 : decode c_Model_add 0 = .ok (.aload_n 0, 1) := by decide +kernel
theorem d_Model_add_1 : decode c_Model_add 1 = .ok (.iconst 0, 1) := by decide +kernel
theorem d_Model_add_2 : decode c_Model_add 2 = .ok (.putfield 80, 3) := by decide +kernel
theorem d_Model_add_5 : decode c_Model_add 5 = .ok (.iload_n 1, 1) := by decide +kernel
theorem d_Model_add_6 : decode c_Model_add 6 = .ok (.invokestatic 92, 3) := by decide +kernel
theorem d_Model_add_9 : decode c_Model_add 9 = .ok (.ifCond .ne 9, 3) := by decide +kernel
theorem d_Model_add_12 : decode c_Model_add 12 = .ok (.aload_n 0, 1) := by decide +kernel
theorem d_Model_add_13 : decode c_Model_add 13 = .ok (.iconst 1, 1) := by decide +kernel
theorem d_Model_add_14 : decode c_Model_add 14 = .ok (.invokevirtual 100, 3) := by decide +kernel
theorem d_Model_add_17 : decode c_Model_add 17 = .ok (.ireturn, 1) := by decide +kernel
theorem d_Model_add_18 : decode c_Model_add 18 = .ok (.iload_n 2, 1) := by decide +kernel
theorem d_Model_add_19 : decode c_Model_add 19 = .ok (.iload_n 3, 1) := by decide +kernel
theorem d_Model_add_20 : decode c_Model_add 20 = .ok (.iload 4, 2) := by decide +kernel
theorem d_Model_add_22 : decode c_Model_add 22 = .ok (.iload 5, 2) := by decide +kernel
theorem d_Model_add_24 : decode c_Model_add 24 = .ok (.iload 6, 2) := by decide +kernel
theorem d_Model_add_26 : decode c_Model_add 26 = .ok (.invokestatic 104, 3) := by decide +kernel
theorem d_Model_add_29 : decode c_Model_add 29 = .ok (.ifCond .ne 9, 3) := by decide +kernel
theorem d_Model_add_32 : decode c_Model_add 32 = .ok (.aload_n 0, 1) := by decide +kernel
theorem d_Model_add_33 : decode c_Model_add 33 = .ok (.iconst 2, 1) := by decide +kernel
theorem d_Model_add_34 : decode c_Model_add 34 = .ok (.invokevirtual 100, 3) := by decide +kernel
theorem d_Model_add_37 : decode c_Model_add 37 = .ok (.ireturn, 1) := by decide +kernel
theorem d_Model_add_38 : decode c_Model_add 38 = .ok (.aload_n 0, 1) := by decide +kernel
theorem d_Model_add_39 : decode c_Model_add 39 = .ok (.getfield 13, 3) := by decide +kernel
theorem d_Model_add_42 : decode c_Model_add 42 = .ok (.iload_n 1, 1) := by decide +kernel
theorem d_Model_add_43 : decode c_Model_add 43 = .ok (.iaload, 1) := by decide +kernel
theorem d_Model_add_44 : decode c_Model_add 44 = .ok (.iload_n 1, 1) := by decide +kernel
theorem d_Model_add_45 : decode c_Model_add 45 = .ok (.ifCond .ne 8, 3) := by decide +kernel
theorem d_Model_add_48 : decode c_Model_add 48 = .ok (.bipush 40, 2) := by decide +kernel
theorem d_Model_add_50 : decode c_Model_add 50 = .ok (.goto 5, 3) := by decide +kernel
theorem d_Model_add_53 : decode c_Model_add 53 = .ok (.bipush 10, 2) := by decide +kernel
theorem d_Model_add_55 : decode c_Model_add 55 = .ok (.if_icmp .ne 9, 3) := by decide +kernel
theorem d_Model_add_58 : decode c_Model_add 58 = .ok (.aload_n 0, 1) := by decide +kernel
theorem d_Model_add_59 : decode c_Model_add 59 = .ok (.iconst 3, 1) := by decide +kernel
theorem d_Model_add_60 : decode c_Model_add 60 = .ok (.invokevirtual 100, 3) := by decide +kernel
theorem d_Model_add_63 : decode c_Model_add 63 = .ok (.ireturn, 1) := by decide +kernel
theorem d_Model_add_64 : decode c_Model_add 64 = .ok (.aload_n 0, 1) := by decide +kernel
theorem d_Model_add_65 : decode c_Model_add 65 = .ok (.iload_n 1, 1) := by decide +kernel
theorem d_Model_add_66 : decode c_Model_add 66 = .ok (.aload_n 0, 1) := by decide +kernel
theorem d_Model_add_67 : decode c_Model_add 67 = .ok (.getfield 13, 3) := by decide +kernel
theorem d_Model_add_70 : decode c_Model_add 70 = .ok (.iload_n 1, 1) := by decide +kernel
theorem d_Model_add_71 : decode c_Model_add 71 = .ok (.iaload, 1) := by decide +kernel
theorem d_Model_add_72 : decode c_Model_add 72 = .ok (.iload_n 2, 1) := by decide +kernel
theorem d_Model_add_73 : decode c_Model_add 73 = .ok (.iload_n 3, 1) := by decide +kernel
theorem d_Model_add_74 : decode c_Model_add 74 = .ok (.iload 4, 2) := by decide +kernel
theorem d_Model_add_76 : decode c_Model_add 76 = .ok (.iload 5, 2) := by decide +kernel
theorem d_Model_add_78 : decode c_Model_add 78 = .ok (.iload 6, 2) := by decide +kernel
theorem d_Model_add_80 : decode c_Model_add 80 = .ok (.invokevirtual 108, 3) := by decide +kernel
theorem d_Model_add_83 : decode c_Model_add 83 = .ok (.aload_n 0, 1) := by decide +kernel
theorem d_Model_add_84 : decode c_Model_add 84 = .ok (.getfield 13, 3) := by decide +kernel
theorem d_Model_add_87 : decode c_Model_add 87 = .ok (.iload_n 1, 1) := by decide +kernel
theorem d_Model_add_88 : decode c_Model_add 88 = .ok (.dup2, 1) := by decide +kernel
theorem d_Model_add_89 : decode c_Model_add 89 = .ok (.iaload, 1) := by decide +kernel
theorem d_Model_add_90 : decode c_Model_add 90 = .ok (.iconst 1, 1) := by decide +kernel
theorem d_Model_add_91 : decode c_Model_add 91 = .ok (.iadd, 1) := by decide +kernel
theorem d_Model_add_92 : decode c_Model_add 92 = .ok (.iastore, 1) := by decide +kernel
theorem d_Model_add_93 : decode c_Model_add 93 = .ok (.aload_n 0, 1) := by decide +kernel
theorem d_Model_add_94 : decode c_Model_add 94 = .ok (.invokevirtual 77, 3) := by decide +kernel
theorem d_Model_add_97 : decode c_Model_add 97 = .ok (.aload_n 0, 1) := by decide +kernel
theorem d_Model_add_98 : decode c_Model_add 98 = .ok (.getfield 13, 3) := by decide +kernel
theorem d_Model_add_101 : decode c_Model_add 101 = .ok (.iload_n 1, 1) := by decide +kernel
theorem d_Model_add_102 : decode c_Model_add 102 = .ok (.iaload, 1) := by decide +kernel
theorem d_Model_add_103 : decode c_Model_add 103 = .ok (.iconst 1, 1) := by decide +kernel
theorem d_Model_add_104 : decode c_Model_add 104 = .ok (.isub, 1) := by decide +kernel
theorem d_Model_add_105 : decode c_Model_add 105 = .ok (.ireturn, 1) := by decide +kernel
theorem d_Model_put_0 : decode c_Model_put 0 = .ok (.aload_n 0, 1) := by decide +kernel
theorem d_Model_put_1 : decode c_Model_put 1 = .ok (.iconst 0, 1) := by decide +kernel
theorem d_Model_put_2 : decode c_Model_put 2 = .ok (.putfield 80, 3) := by decide +kernel
theorem d_Model_put_5 : decode c_Model_put 5 = .ok (.aload_n 0, 1) := by decide +kernel
theorem d_Model_put_6 : decode c_Model_put 6 = .ok (.iload_n 1, 1) := by decide +kernel
theorem d_Model_put_7 : decode c_Model_put 7 = .ok (.iload_n 2, 1) := by decide +kernel
theorem d_Model_put_8 : decode c_Model_put 8 = .ok (.invokevirtual 112, 3) := by decide +kernel
theorem d_Model_put_11 : decode c_Model_put 11 = .ok (.ifCond .ne 9, 3) := by decide +kernel
theorem d_Model_put_14 : decode c_Model_put 14 = .ok (.aload_n 0, 1) := by decide +kernel
theorem d_Model_put_15 : decode c_Model_put 15 = .ok (.iconst 1, 1) := by decide +kernel
theorem d_Model_put_16 : decode c_Model_put 16 = .ok (.invokevirtual 100, 3) := by decide +kernel
theorem d_Model_put_19 : decode c_Model_put 19 = .ok (.ireturn, 1) := by decide +kernel
theorem d_Model_put_20 : decode c_Model_put 20 = .ok (.iload_n 3, 1) := by decide +kernel
theorem d_Model_put_21 : decode c_Model_put 21 = .ok (.iload 4, 2) := by decide +kernel
theorem d_Model_put_23 : decode c_Model_put 23 = .ok (.iload 5, 2) := by decide +kernel
theorem d_Model_put_25 : decode c_Model_put 25 = .ok (.iload 6, 2) := by decide +kernel
theorem d_Model_put_27 : decode c_Model_put 27 = .ok (.iload 7, 2) := by decide +kernel
theorem d_Model_put_29 : decode c_Model_put 29 = .ok (.invokestatic 104, 3) := by decide +kernel
theorem d_Model_put_32 : decode c_Model_put 32 = .ok (.ifCond .ne 9, 3) := by decide +kernel
theorem d_Model_put_35 : decode c_Model_put 35 = .ok (.aload_n 0, 1) := by decide +kernel
theorem d_Model_put_36 : decode c_Model_put 36 = .ok (.iconst 2, 1) := by decide +kernel
theorem d_Model_put_37 : decode c_Model_put 37 = .ok (.invokevirtual 100, 3) := by decide +kernel
theorem d_Model_put_40 : decode c_Model_put 40 = .ok (.ireturn, 1) := by decide +kernel
theorem d_Model_put_41 : decode c_Model_put 41 = .ok (.aload_n 0, 1) := by decide +kernel
theorem d_Model_put_42 : decode c_Model_put 42 = .ok (.getfield 9, 3) := by decide +kernel
theorem d_Model_put_45 : decode c_Model_put 45 = .ok (.iload_n 1, 1) := by decide +kernel
theorem d_Model_put_46 : decode c_Model_put 46 = .ok (.iload_n 2, 1) := by decide +kernel
theorem d_Model_put_47 : decode c_Model_put 47 = .ok (.invokestatic 96, 3) := by decide +kernel
theorem d_Model_put_50 : decode c_Model_put 50 = .ok (.iaload, 1) := by decide +kernel
theorem d_Model_put_51 : decode c_Model_put 51 = .ok (.istore 8, 2) := by decide +kernel
theorem d_Model_put_53 : decode c_Model_put 53 = .ok (.aload_n 0, 1) := by decide +kernel
theorem d_Model_put_54 : decode c_Model_put 54 = .ok (.iload_n 1, 1) := by decide +kernel
theorem d_Model_put_55 : decode c_Model_put 55 = .ok (.iload_n 2, 1) := by decide +kernel
theorem d_Model_put_56 : decode c_Model_put 56 = .ok (.iload_n 3, 1) := by decide +kernel
theorem d_Model_put_57 : decode c_Model_put 57 = .ok (.iload 4, 2) := by decide +kernel
theorem d_Model_put_59 : decode c_Model_put 59 = .ok (.iload 5, 2) := by decide +kernel
theorem d_Model_put_61 : decode c_Model_put 61 = .ok (.iload 6, 2) := by decide +kernel
theorem d_Model_put_63 : decode c_Model_put 63 = .ok (.iload 7, 2) := by decide +kernel
theorem d_Model_put_65 : decode c_Model_put 65 = .ok (.invokevirtual 108, 3) := by decide +kernel
theorem d_Model_put_68 : decode c_Model_put 68 = .ok (.aload_n 0, 1) := by decide +kernel
theorem d_Model_put_69 : decode c_Model_put 69 = .ok (.invokevirtual 77, 3) := by decide +kernel
theorem d_Model_put_72 : decode c_Model_put 72 = .ok (.iload 8, 2) := by decide +kernel
theorem d_Model_put_74 : decode c_Model_put 74 = .ok (.ireturn, 1) := by decide +kernel
theorem d_Model_leaveOut_0 : decode c_Model_leaveOut 0 = .ok (.aload_n 0, 1) := by decide +kernel
theorem d_Model_leaveOut_1 : decode c_Model_leaveOut 1 = .ok (.getfield 13, 3) := by decide +kernel
theorem d_Model_leaveOut_4 : decode c_Model_leaveOut 4 = .ok (.iload_n 1, 1) := by decide +kernel
theorem d_Model_leaveOut_5 : decode c_Model_leaveOut 5 = .ok (.dup2, 1) := by decide +kernel
theorem d_Model_leaveOut_6 : decode c_Model_leaveOut 6 = .ok (.iaload, 1) := by decide +kernel
theorem d_Model_leaveOut_7 : decode c_Model_leaveOut 7 = .ok (.iconst 1, 1) := by decide +kernel
theorem d_Model_leaveOut_8 : decode c_Model_leaveOut 8 = .ok (.isub, 1) := by decide +kernel
theorem d_Model_leaveOut_9 : decode c_Model_leaveOut 9 = .ok (.iastore, 1) := by decide +kernel
theorem d_Model_leaveOut_10 : decode c_Model_leaveOut 10 = .ok (.aload_n 0, 1) := by decide +kernel
theorem d_Model_leaveOut_11 : decode c_Model_leaveOut 11 = .ok (.getfield 9, 3) := by decide +kernel
theorem d_Model_leaveOut_14 : decode c_Model_leaveOut 14 = .ok (.iload_n 1, 1) := by decide +kernel
theorem d_Model_leaveOut_15 : decode c_Model_leaveOut 15 = .ok (.iload_n 2, 1) := by decide +kernel
theorem d_Model_leaveOut_16 : decode c_Model_leaveOut 16 = .ok (.iconst 1, 1) := by decide +kernel
theorem d_Model_leaveOut_17 : decode c_Model_leaveOut 17 = .ok (.iadd, 1) := by decide +kernel
theorem d_Model_leaveOut_18 : decode c_Model_leaveOut 18 = .ok (.invokestatic 96, 3) := by decide +kernel
theorem d_Model_leaveOut_21 : decode c_Model_leaveOut 21 = .ok (.aload_n 0, 1) := by decide +kernel
theorem d_Model_leaveOut_22 : decode c_Model_leaveOut 22 = .ok (.getfield 9, 3) := by decide +kernel
theorem d_Model_leaveOut_25 : decode c_Model_leaveOut 25 = .ok (.iload_n 1, 1) := by decide +kernel
theorem d_Model_leaveOut_26 : decode c_Model_leaveOut 26 = .ok (.iload_n 2, 1) := by decide +kernel
theorem d_Model_leaveOut_27 : decode c_Model_leaveOut 27 = .ok (.invokestatic 96, 3) := by decide +kernel
theorem d_Model_leaveOut_30 : decode c_Model_leaveOut 30 = .ok (.aload_n 0, 1) := by decide +kernel
theorem d_Model_leaveOut_31 : decode c_Model_leaveOut 31 = .ok (.getfield 13, 3) := by decide +kernel
theorem d_Model_leaveOut_34 : decode c_Model_leaveOut 34 = .ok (.iload_n 1, 1) := by decide +kernel
theorem d_Model_leaveOut_35 : decode c_Model_leaveOut 35 = .ok (.iaload, 1) := by decide +kernel
theorem d_Model_leaveOut_36 : decode c_Model_leaveOut 36 = .ok (.iload_n 2, 1) := by decide +kernel
theorem d_Model_leaveOut_37 : decode c_Model_leaveOut 37 = .ok (.isub, 1) := by decide +kernel
theorem d_Model_leaveOut_38 : decode c_Model_leaveOut 38 = .ok (.iconst 5, 1) := by decide +kernel
theorem d_Model_leaveOut_39 : decode c_Model_leaveOut 39 = .ok (.imul, 1) := by decide +kernel
theorem d_Model_leaveOut_40 : decode c_Model_leaveOut 40 = .ok (.invokestatic 116, 3) := by decide +kernel
theorem d_Model_leaveOut_43 : decode c_Model_leaveOut 43 = .ok (.return_, 1) := by decide +kernel
theorem d_Model_cut_0 : decode c_Model_cut 0 = .ok (.aload_n 0, 1) := by decide +kernel
theorem d_Model_cut_1 : decode c_Model_cut 1 = .ok (.iconst 0, 1) := by decide +kernel
theorem d_Model_cut_2 : decode c_Model_cut 2 = .ok (.putfield 80, 3) := by decide +kernel
theorem d_Model_cut_5 : decode c_Model_cut 5 = .ok (.aload_n 0, 1) := by decide +kernel
theorem d_Model_cut_6 : decode c_Model_cut 6 = .ok (.iload_n 1, 1) := by decide +kernel
theorem d_Model_cut_7 : decode c_Model_cut 7 = .ok (.iload_n 2, 1) := by decide +kernel
theorem d_Model_cut_8 : decode c_Model_cut 8 = .ok (.invokevirtual 112, 3) := by decide +kernel
theorem d_Model_cut_11 : decode c_Model_cut 11 = .ok (.ifCond .ne 9, 3) := by decide +kernel
theorem d_Model_cut_14 : decode c_Model_cut 14 = .ok (.aload_n 0, 1) := by decide +kernel
theorem d_Model_cut_15 : decode c_Model_cut 15 = .ok (.iconst 1, 1) := by decide +kernel
theorem d_Model_cut_16 : decode c_Model_cut 16 = .ok (.invokevirtual 100, 3) := by decide +kernel
theorem d_Model_cut_19 : decode c_Model_cut 19 = .ok (.ireturn, 1) := by decide +kernel
theorem d_Model_cut_20 : decode c_Model_cut 20 = .ok (.aload_n 0, 1) := by decide +kernel
theorem d_Model_cut_21 : decode c_Model_cut 21 = .ok (.iload_n 1, 1) := by decide +kernel
theorem d_Model_cut_22 : decode c_Model_cut 22 = .ok (.iload_n 2, 1) := by decide +kernel
theorem d_Model_cut_23 : decode c_Model_cut 23 = .ok (.invokevirtual 122, 3) := by decide +kernel
theorem d_Model_cut_26 : decode c_Model_cut 26 = .ok (.aload_n 0, 1) := by decide +kernel
theorem d_Model_cut_27 : decode c_Model_cut 27 = .ok (.invokevirtual 77, 3) := by decide +kernel
theorem d_Model_cut_30 : decode c_Model_cut 30 = .ok (.aload_n 0, 1) := by decide +kernel
theorem d_Model_cut_31 : decode c_Model_cut 31 = .ok (.getfield 13, 3) := by decide +kernel
theorem d_Model_cut_34 : decode c_Model_cut 34 = .ok (.iload_n 1, 1) := by decide +kernel
theorem d_Model_cut_35 : decode c_Model_cut 35 = .ok (.iaload, 1) := by decide +kernel
theorem d_Model_cut_36 : decode c_Model_cut 36 = .ok (.ireturn, 1) := by decide +kernel
theorem d_Model_ofLine_0 : decode c_Model_ofLine 0 = .ok (.aload_n 0, 1) := by decide +kernel
theorem d_Model_ofLine_1 : decode c_Model_ofLine 1 = .ok (.iconst 0, 1) := by decide +kernel
theorem d_Model_ofLine_2 : decode c_Model_ofLine 2 = .ok (.putfield 80, 3) := by decide +kernel
theorem d_Model_ofLine_5 : decode c_Model_ofLine 5 = .ok (.aload_n 0, 1) := by decide +kernel
theorem d_Model_ofLine_6 : decode c_Model_ofLine 6 = .ok (.iload_n 1, 1) := by decide +kernel
theorem d_Model_ofLine_7 : decode c_Model_ofLine 7 = .ok (.iload_n 2, 1) := by decide +kernel
theorem d_Model_ofLine_8 : decode c_Model_ofLine 8 = .ok (.invokevirtual 112, 3) := by decide +kernel
theorem d_Model_ofLine_11 : decode c_Model_ofLine 11 = .ok (.ifCond .ne 9, 3) := by decide +kernel
theorem d_Model_ofLine_14 : decode c_Model_ofLine 14 = .ok (.aload_n 0, 1) := by decide +kernel
theorem d_Model_ofLine_15 : decode c_Model_ofLine 15 = .ok (.iconst 1, 1) := by decide +kernel
theorem d_Model_ofLine_16 : decode c_Model_ofLine 16 = .ok (.invokevirtual 100, 3) := by decide +kernel
theorem d_Model_ofLine_19 : decode c_Model_ofLine 19 = .ok (.ireturn, 1) := by decide +kernel
theorem d_Model_ofLine_20 : decode c_Model_ofLine 20 = .ok (.iload_n 3, 1) := by decide +kernel
theorem d_Model_ofLine_21 : decode c_Model_ofLine 21 = .ok (.iconst 0, 1) := by decide +kernel
theorem d_Model_ofLine_22 : decode c_Model_ofLine 22 = .ok (.iconst 4, 1) := by decide +kernel
theorem d_Model_ofLine_23 : decode c_Model_ofLine 23 = .ok (.invokestatic 84, 3) := by decide +kernel
theorem d_Model_ofLine_26 : decode c_Model_ofLine 26 = .ok (.ifCond .eq 18, 3) := by decide +kernel
theorem d_Model_ofLine_29 : decode c_Model_ofLine 29 = .ok (.aload_n 0, 1) := by decide +kernel
theorem d_Model_ofLine_30 : decode c_Model_ofLine 30 = .ok (.getfield 9, 3) := by decide +kernel
theorem d_Model_ofLine_33 : decode c_Model_ofLine 33 = .ok (.iload_n 1, 1) := by decide +kernel
theorem d_Model_ofLine_34 : decode c_Model_ofLine 34 = .ok (.iload_n 2, 1) := by decide +kernel
theorem d_Model_ofLine_35 : decode c_Model_ofLine 35 = .ok (.invokestatic 96, 3) := by decide +kernel
theorem d_Model_ofLine_38 : decode c_Model_ofLine 38 = .ok (.iload_n 3, 1) := by decide +kernel
theorem d_Model_ofLine_39 : decode c_Model_ofLine 39 = .ok (.iadd, 1) := by decide +kernel
theorem d_Model_ofLine_40 : decode c_Model_ofLine 40 = .ok (.iaload, 1) := by decide +kernel
theorem d_Model_ofLine_41 : decode c_Model_ofLine 41 = .ok (.goto 8, 3) := by decide +kernel
theorem d_Model_ofLine_44 : decode c_Model_ofLine 44 = .ok (.aload_n 0, 1) := by decide +kernel
theorem d_Model_ofLine_45 : decode c_Model_ofLine 45 = .ok (.iconst 2, 1) := by decide +kernel
theorem d_Model_ofLine_46 : decode c_Model_ofLine 46 = .ok (.invokevirtual 100, 3) := by decide +kernel
theorem d_Model_ofLine_49 : decode c_Model_ofLine 49 = .ok (.ireturn, 1) := by decide +kernel
theorem d_Model_stop_0 : decode c_Model_stop 0 = .ok (.aload_n 0, 1) := by decide +kernel
theorem d_Model_stop_1 : decode c_Model_stop 1 = .ok (.iload_n 1, 1) := by decide +kernel
theorem d_Model_stop_2 : decode c_Model_stop 2 = .ok (.putfield 126, 3) := by decide +kernel
theorem d_Model_stop_5 : decode c_Model_stop 5 = .ok (.aload_n 0, 1) := by decide +kernel
theorem d_Model_stop_6 : decode c_Model_stop 6 = .ok (.iload_n 2, 1) := by decide +kernel
theorem d_Model_stop_7 : decode c_Model_stop 7 = .ok (.putfield 129, 3) := by decide +kernel
theorem d_Model_stop_10 : decode c_Model_stop 10 = .ok (.return_, 1) := by decide +kernel
theorem d_Model_makes_0 : decode c_Model_makes 0 = .ok (.iload_n 0, 1) := by decide +kernel
theorem d_Model_makes_1 : decode c_Model_makes 1 = .ok (.bipush 8, 2) := by decide +kernel
theorem d_Model_makes_3 : decode c_Model_makes 3 = .ok (.if_icmp .ge 7, 3) := by decide +kernel
theorem d_Model_makes_6 : decode c_Model_makes 6 = .ok (.iconst 1, 1) := by decide +kernel
theorem d_Model_makes_7 : decode c_Model_makes 7 = .ok (.goto 4, 3) := by decide +kernel
theorem d_Model_makes_10 : decode c_Model_makes 10 = .ok (.iconst 0, 1) := by decide +kernel
theorem d_Model_makes_11 : decode c_Model_makes 11 = .ok (.ireturn, 1) := by decide +kernel
theorem d_Model_item_0 : decode c_Model_item 0 = .ok (.aload_n 0, 1) := by decide +kernel
theorem d_Model_item_1 : decode c_Model_item 1 = .ok (.getfield 16, 3) := by decide +kernel
theorem d_Model_item_4 : decode c_Model_item 4 = .ok (.aload_n 0, 1) := by decide +kernel
theorem d_Model_item_5 : decode c_Model_item 5 = .ok (.getfield 132, 3) := by decide +kernel
theorem d_Model_item_8 : decode c_Model_item 8 = .ok (.iload_n 1, 1) := by decide +kernel
theorem d_Model_item_9 : decode c_Model_item 9 = .ok (.iastore, 1) := by decide +kernel
theorem d_Model_item_10 : decode c_Model_item 10 = .ok (.aload_n 0, 1) := by decide +kernel
theorem d_Model_item_11 : decode c_Model_item 11 = .ok (.getfield 19, 3) := by decide +kernel
theorem d_Model_item_14 : decode c_Model_item 14 = .ok (.aload_n 0, 1) := by decide +kernel
theorem d_Model_item_15 : decode c_Model_item 15 = .ok (.getfield 132, 3) := by decide +kernel
theorem d_Model_item_18 : decode c_Model_item 18 = .ok (.iload_n 2, 1) := by decide +kernel
theorem d_Model_item_19 : decode c_Model_item 19 = .ok (.iastore, 1) := by decide +kernel
theorem d_Model_item_20 : decode c_Model_item 20 = .ok (.aload_n 0, 1) := by decide +kernel
theorem d_Model_item_21 : decode c_Model_item 21 = .ok (.getfield 22, 3) := by decide +kernel
theorem d_Model_item_24 : decode c_Model_item 24 = .ok (.aload_n 0, 1) := by decide +kernel
theorem d_Model_item_25 : decode c_Model_item 25 = .ok (.getfield 132, 3) := by decide +kernel
theorem d_Model_item_28 : decode c_Model_item 28 = .ok (.iload_n 3, 1) := by decide +kernel
theorem d_Model_item_29 : decode c_Model_item 29 = .ok (.iastore, 1) := by decide +kernel
theorem d_Model_item_30 : decode c_Model_item 30 = .ok (.aload_n 0, 1) := by decide +kernel
theorem d_Model_item_31 : decode c_Model_item 31 = .ok (.getfield 25, 3) := by decide +kernel
theorem d_Model_item_34 : decode c_Model_item 34 = .ok (.aload_n 0, 1) := by decide +kernel
theorem d_Model_item_35 : decode c_Model_item 35 = .ok (.getfield 132, 3) := by decide +kernel
theorem d_Model_item_38 : decode c_Model_item 38 = .ok (.iload 4, 2) := by decide +kernel
theorem d_Model_item_40 : decode c_Model_item 40 = .ok (.iastore, 1) := by decide +kernel
theorem d_Model_item_41 : decode c_Model_item 41 = .ok (.aload_n 0, 1) := by decide +kernel
theorem d_Model_item_42 : decode c_Model_item 42 = .ok (.getfield 28, 3) := by decide +kernel
theorem d_Model_item_45 : decode c_Model_item 45 = .ok (.aload_n 0, 1) := by decide +kernel
theorem d_Model_item_46 : decode c_Model_item 46 = .ok (.getfield 132, 3) := by decide +kernel
theorem d_Model_item_49 : decode c_Model_item 49 = .ok (.iload 5, 2) := by decide +kernel
theorem d_Model_item_51 : decode c_Model_item 51 = .ok (.iastore, 1) := by decide +kernel
theorem d_Model_item_52 : decode c_Model_item 52 = .ok (.aload_n 0, 1) := by decide +kernel
theorem d_Model_item_53 : decode c_Model_item 53 = .ok (.getfield 31, 3) := by decide +kernel
theorem d_Model_item_56 : decode c_Model_item 56 = .ok (.aload_n 0, 1) := by decide +kernel
theorem d_Model_item_57 : decode c_Model_item 57 = .ok (.getfield 132, 3) := by decide +kernel
theorem d_Model_item_60 : decode c_Model_item 60 = .ok (.iload 6, 2) := by decide +kernel
theorem d_Model_item_62 : decode c_Model_item 62 = .ok (.iastore, 1) := by decide +kernel
theorem d_Model_item_63 : decode c_Model_item 63 = .ok (.aload_n 0, 1) := by decide +kernel
theorem d_Model_item_64 : decode c_Model_item 64 = .ok (.dup, 1) := by decide +kernel
theorem d_Model_item_65 : decode c_Model_item 65 = .ok (.getfield 132, 3) := by decide +kernel
theorem d_Model_item_68 : decode c_Model_item 68 = .ok (.iconst 1, 1) := by decide +kernel
theorem d_Model_item_69 : decode c_Model_item 69 = .ok (.iadd, 1) := by decide +kernel
theorem d_Model_item_70 : decode c_Model_item 70 = .ok (.putfield 132, 3) := by decide +kernel
theorem d_Model_item_73 : decode c_Model_item 73 = .ok (.return_, 1) := by decide +kernel
theorem d_Model_setNow_0 : decode c_Model_setNow 0 = .ok (.iload_n 1, 1) := by decide +kernel
theorem d_Model_setNow_1 : decode c_Model_setNow 1 = .ok (.iconst (-1), 1) := by decide +kernel
theorem d_Model_setNow_2 : decode c_Model_setNow 2 = .ok (.if_icmp .ne 5, 3) := by decide +kernel
theorem d_Model_setNow_5 : decode c_Model_setNow 5 = .ok (.iconst 0, 1) := by decide +kernel
theorem d_Model_setNow_6 : decode c_Model_setNow 6 = .ok (.ireturn, 1) := by decide +kernel
theorem d_Model_setNow_7 : decode c_Model_setNow 7 = .ok (.aload_n 0, 1) := by decide +kernel
theorem d_Model_setNow_8 : decode c_Model_setNow 8 = .ok (.getfield 68, 3) := by decide +kernel
theorem d_Model_setNow_11 : decode c_Model_setNow 11 = .ok (.iload_n 1, 1) := by decide +kernel
theorem d_Model_setNow_12 : decode c_Model_setNow 12 = .ok (.iaload, 1) := by decide +kernel
theorem d_Model_setNow_13 : decode c_Model_setNow 13 = .ok (.ifCond .ne 9, 3) := by decide +kernel
theorem d_Model_setNow_16 : decode c_Model_setNow 16 = .ok (.aload_n 0, 1) := by decide +kernel
theorem d_Model_setNow_17 : decode c_Model_setNow 17 = .ok (.iconst 3, 1) := by decide +kernel
theorem d_Model_setNow_18 : decode c_Model_setNow 18 = .ok (.iload_n 2, 1) := by decide +kernel
theorem d_Model_setNow_19 : decode c_Model_setNow 19 = .ok (.invokevirtual 135, 3) := by decide +kernel
theorem d_Model_setNow_22 : decode c_Model_setNow 22 = .ok (.aload_n 0, 1) := by decide +kernel
theorem d_Model_setNow_23 : decode c_Model_setNow 23 = .ok (.getfield 68, 3) := by decide +kernel
theorem d_Model_setNow_26 : decode c_Model_setNow 26 = .ok (.iload_n 1, 1) := by decide +kernel
theorem d_Model_setNow_27 : decode c_Model_setNow 27 = .ok (.iaload, 1) := by decide +kernel
theorem d_Model_setNow_28 : decode c_Model_setNow 28 = .ok (.ifCond .ne 7, 3) := by decide +kernel
theorem d_Model_setNow_31 : decode c_Model_setNow 31 = .ok (.iconst 0, 1) := by decide +kernel
theorem d_Model_setNow_32 : decode c_Model_setNow 32 = .ok (.goto 9, 3) := by decide +kernel
theorem d_Model_setNow_35 : decode c_Model_setNow 35 = .ok (.aload_n 0, 1) := by decide +kernel
theorem d_Model_setNow_36 : decode c_Model_setNow 36 = .ok (.getfield 71, 3) := by decide +kernel
theorem d_Model_setNow_39 : decode c_Model_setNow 39 = .ok (.iload_n 1, 1) := by decide +kernel
theorem d_Model_setNow_40 : decode c_Model_setNow 40 = .ok (.iaload, 1) := by decide +kernel
theorem d_Model_setNow_41 : decode c_Model_setNow 41 = .ok (.ireturn, 1) := by decide +kernel
theorem d_Model_endOf_0 : decode c_Model_endOf 0 = .ok (.iconst 1, 1) := by decide +kernel
theorem d_Model_endOf_1 : decode c_Model_endOf 1 = .ok (.istore_n 3, 1) := by decide +kernel
theorem d_Model_endOf_2 : decode c_Model_endOf 2 = .ok (.iload_n 2, 1) := by decide +kernel
theorem d_Model_endOf_3 : decode c_Model_endOf 3 = .ok (.iconst 1, 1) := by decide +kernel
theorem d_Model_endOf_4 : decode c_Model_endOf 4 = .ok (.iadd, 1) := by decide +kernel
theorem d_Model_endOf_5 : decode c_Model_endOf 5 = .ok (.istore 4, 2) := by decide +kernel
theorem d_Model_endOf_7 : decode c_Model_endOf 7 = .ok (.iload 4, 2) := by decide +kernel
theorem d_Model_endOf_9 : decode c_Model_endOf 9 = .ok (.aload_n 0, 1) := by decide +kernel
theorem d_Model_endOf_10 : decode c_Model_endOf 10 = .ok (.getfield 13, 3) := by decide +kernel
theorem d_Model_endOf_13 : decode c_Model_endOf 13 = .ok (.iload_n 1, 1) := by decide +kernel
theorem d_Model_endOf_14 : decode c_Model_endOf 14 = .ok (.iaload, 1) := by decide +kernel
theorem d_Model_endOf_15 : decode c_Model_endOf 15 = .ok (.if_icmp .ge 60, 3) := by decide +kernel
theorem d_Model_endOf_18 : decode c_Model_endOf 18 = .ok (.iload_n 3, 1) := by decide +kernel
theorem d_Model_endOf_19 : decode c_Model_endOf 19 = .ok (.aload_n 0, 1) := by decide +kernel
theorem d_Model_endOf_20 : decode c_Model_endOf 20 = .ok (.getfield 9, 3) := by decide +kernel
theorem d_Model_endOf_23 : decode c_Model_endOf 23 = .ok (.iload_n 1, 1) := by decide +kernel
theorem d_Model_endOf_24 : decode c_Model_endOf 24 = .ok (.iload 4, 2) := by decide +kernel
theorem d_Model_endOf_26 : decode c_Model_endOf 26 = .ok (.invokestatic 96, 3) := by decide +kernel
theorem d_Model_endOf_29 : decode c_Model_endOf 29 = .ok (.iaload, 1) := by decide +kernel
theorem d_Model_endOf_30 : decode c_Model_endOf 30 = .ok (.bipush 8, 2) := by decide +kernel
theorem d_Model_endOf_32 : decode c_Model_endOf 32 = .ok (.if_icmp .ne 7, 3) := by decide +kernel
theorem d_Model_endOf_35 : decode c_Model_endOf 35 = .ok (.iconst 1, 1) := by decide +kernel
theorem d_Model_endOf_36 : decode c_Model_endOf 36 = .ok (.goto 24, 3) := by decide +kernel
theorem d_Model_endOf_39 : decode c_Model_endOf 39 = .ok (.aload_n 0, 1) := by decide +kernel
theorem d_Model_endOf_40 : decode c_Model_endOf 40 = .ok (.getfield 9, 3) := by decide +kernel
theorem d_Model_endOf_43 : decode c_Model_endOf 43 = .ok (.iload_n 1, 1) := by decide +kernel
theorem d_Model_endOf_44 : decode c_Model_endOf 44 = .ok (.iload 4, 2) := by decide +kernel
theorem d_Model_endOf_46 : decode c_Model_endOf 46 = .ok (.invokestatic 96, 3) := by decide +kernel
theorem d_Model_endOf_49 : decode c_Model_endOf 49 = .ok (.iaload, 1) := by decide +kernel
theorem d_Model_endOf_50 : decode c_Model_endOf 50 = .ok (.bipush 9, 2) := by decide +kernel
theorem d_Model_endOf_52 : decode c_Model_endOf 52 = .ok (.if_icmp .ne 7, 3) := by decide +kernel
theorem d_Model_endOf_55 : decode c_Model_endOf 55 = .ok (.iconst (-1), 1) := by decide +kernel
theorem d_Model_endOf_56 : decode c_Model_endOf 56 = .ok (.goto 4, 3) := by decide +kernel
theorem d_Model_endOf_59 : decode c_Model_endOf 59 = .ok (.iconst 0, 1) := by decide +kernel
theorem d_Model_endOf_60 : decode c_Model_endOf 60 = .ok (.iadd, 1) := by decide +kernel
theorem d_Model_endOf_61 : decode c_Model_endOf 61 = .ok (.istore_n 3, 1) := by decide +kernel
theorem d_Model_endOf_62 : decode c_Model_endOf 62 = .ok (.iload_n 3, 1) := by decide +kernel
theorem d_Model_endOf_63 : decode c_Model_endOf 63 = .ok (.ifCond .ne 6, 3) := by decide +kernel
theorem d_Model_endOf_66 : decode c_Model_endOf 66 = .ok (.iload 4, 2) := by decide +kernel
theorem d_Model_endOf_68 : decode c_Model_endOf 68 = .ok (.ireturn, 1) := by decide +kernel
theorem d_Model_endOf_69 : decode c_Model_endOf 69 = .ok (.iinc 4 1, 3) := by decide +kernel
theorem d_Model_endOf_72 : decode c_Model_endOf 72 = .ok (.goto (-65), 3) := by decide +kernel
theorem d_Model_endOf_75 : decode c_Model_endOf 75 = .ok (.iload 4, 2) := by decide +kernel
theorem d_Model_endOf_77 : decode c_Model_endOf 77 = .ok (.ireturn, 1) := by decide +kernel
theorem d_Model_expand_0 : decode c_Model_expand 0 = .ok (.bipush 6, 2) := by decide +kernel
theorem d_Model_expand_2 : decode c_Model_expand 2 = .ok (.newarray .int, 2) := by decide +kernel
theorem d_Model_expand_4 : decode c_Model_expand 4 = .ok (.astore_n 1, 1) := by decide +kernel
theorem d_Model_expand_5 : decode c_Model_expand 5 = .ok (.bipush 6, 2) := by decide +kernel
theorem d_Model_expand_7 : decode c_Model_expand 7 = .ok (.newarray .int, 2) := by decide +kernel
theorem d_Model_expand_9 : decode c_Model_expand 9 = .ok (.astore_n 2, 1) := by decide +kernel
theorem d_Model_expand_10 : decode c_Model_expand 10 = .ok (.bipush 6, 2) := by decide +kernel
theorem d_Model_expand_12 : decode c_Model_expand 12 = .ok (.newarray .int, 2) := by decide +kernel
theorem d_Model_expand_14 : decode c_Model_expand 14 = .ok (.astore_n 3, 1) := by decide +kernel
theorem d_Model_expand_15 : decode c_Model_expand 15 = .ok (.iconst 0, 1) := by decide +kernel
theorem d_Model_expand_16 : decode c_Model_expand 16 = .ok (.istore 4, 2) := by decide +kernel
theorem d_Model_expand_18 : decode c_Model_expand 18 = .ok (.iconst 0, 1) := by decide +kernel
theorem d_Model_expand_19 : decode c_Model_expand 19 = .ok (.istore 5, 2) := by decide +kernel
theorem d_Model_expand_21 : decode c_Model_expand 21 = .ok (.aload_n 0, 1) := by decide +kernel
theorem d_Model_expand_22 : decode c_Model_expand 22 = .ok (.iconst 0, 1) := by decide +kernel
theorem d_Model_expand_23 : decode c_Model_expand 23 = .ok (.putfield 132, 3) := by decide +kernel
theorem d_Model_expand_26 : decode c_Model_expand 26 = .ok (.iconst 0, 1) := by decide +kernel
theorem d_Model_expand_27 : decode c_Model_expand 27 = .ok (.istore 6, 2) := by decide +kernel
theorem d_Model_expand_29 : decode c_Model_expand 29 = .ok (.iload 6, 2) := by decide +kernel
theorem d_Model_expand_31 : decode c_Model_expand 31 = .ok (.bipush 8, 2) := by decide +kernel
theorem d_Model_expand_33 : decode c_Model_expand 33 = .ok (.if_icmp .ge 25, 3) := by decide +kernel
theorem d_Model_expand_36 : decode c_Model_expand 36 = .ok (.aload_n 0, 1) := by decide +kernel
theorem d_Model_expand_37 : decode c_Model_expand 37 = .ok (.getfield 68, 3) := by decide +kernel
theorem d_Model_expand_40 : decode c_Model_expand 40 = .ok (.iload 6, 2) := by decide +kernel
theorem d_Model_expand_42 : decode c_Model_expand 42 = .ok (.iconst 0, 1) := by decide +kernel
theorem d_Model_expand_43 : decode c_Model_expand 43 = .ok (.iastore, 1) := by decide +kernel
theorem d_Model_expand_44 : decode c_Model_expand 44 = .ok (.aload_n 0, 1) := by decide +kernel
theorem d_Model_expand_45 : decode c_Model_expand 45 = .ok (.getfield 74, 3) := by decide +kernel
theorem d_Model_expand_48 : decode c_Model_expand 48 = .ok (.iload 6, 2) := by decide +kernel
theorem d_Model_expand_50 : decode c_Model_expand 50 = .ok (.iconst (-1), 1) := by decide +kernel
theorem d_Model_expand_51 : decode c_Model_expand 51 = .ok (.iastore, 1) := by decide +kernel
theorem d_Model_expand_52 : decode c_Model_expand 52 = .ok (.iinc 6 1, 3) := by decide +kernel
theorem d_Model_expand_55 : decode c_Model_expand 55 = .ok (.goto (-26), 3) := by decide +kernel
theorem d_Model_expand_58 : decode c_Model_expand 58 = .ok (.iload 4, 2) := by decide +kernel
theorem d_Model_expand_60 : decode c_Model_expand 60 = .ok (.ifCond .lt 309, 3) := by decide +kernel
theorem d_Model_expand_63 : decode c_Model_expand 63 = .ok (.aload_n 0, 1) := by decide +kernel
theorem d_Model_expand_64 : decode c_Model_expand 64 = .ok (.getfield 126, 3) := by decide +kernel
theorem d_Model_expand_67 : decode c_Model_expand 67 = .ok (.ifCond .ne 302, 3) := by decide +kernel
theorem d_Model_expand_70 : decode c_Model_expand 70 = .ok (.aload_n 1, 1) := by decide +kernel
theorem d_Model_expand_71 : decode c_Model_expand 71 = .ok (.iload 4, 2) := by decide +kernel
theorem d_Model_expand_73 : decode c_Model_expand 73 = .ok (.iaload, 1) := by decide +kernel
theorem d_Model_expand_74 : decode c_Model_expand 74 = .ok (.istore 6, 2) := by decide +kernel
theorem d_Model_expand_76 : decode c_Model_expand 76 = .ok (.aload_n 2, 1) := by decide +kernel
theorem d_Model_expand_77 : decode c_Model_expand 77 = .ok (.iload 4, 2) := by decide +kernel
theorem d_Model_expand_79 : decode c_Model_expand 79 = .ok (.iaload, 1) := by decide +kernel
theorem d_Model_expand_80 : decode c_Model_expand 80 = .ok (.aload_n 0, 1) := by decide +kernel
theorem d_Model_expand_81 : decode c_Model_expand 81 = .ok (.getfield 13, 3) := by decide +kernel
theorem d_Model_expand_84 : decode c_Model_expand 84 = .ok (.iload 6, 2) := by decide +kernel
theorem d_Model_expand_86 : decode c_Model_expand 86 = .ok (.iaload, 1) := by decide +kernel
theorem d_Model_expand_87 : decode c_Model_expand 87 = .ok (.if_icmp .ne 9, 3) := by decide +kernel
theorem d_Model_expand_90 : decode c_Model_expand 90 = .ok (.iinc 4 (-1), 3) := by decide +kernel
theorem d_Model_expand_93 : decode c_Model_expand 93 = .ok (.goto (-35), 3) := by decide +kernel
theorem d_Model_expand_96 : decode c_Model_expand 96 = .ok (.aload_n 2, 1) := by decide +kernel
theorem d_Model_expand_97 : decode c_Model_expand 97 = .ok (.iload 4, 2) := by decide +kernel
theorem d_Model_expand_99 : decode c_Model_expand 99 = .ok (.dup2, 1) := by decide +kernel
theorem d_Model_expand_100 : decode c_Model_expand 100 = .ok (.iaload, 1) := by decide +kernel
theorem d_Model_expand_101 : decode c_Model_expand 101 = .ok (.dup_x2, 1) := by decide +kernel
theorem d_Model_expand_102 : decode c_Model_expand 102 = .ok (.iconst 1, 1) := by decide +kernel
theorem d_Model_expand_103 : decode c_Model_expand 103 = .ok (.iadd, 1) := by decide +kernel
theorem d_Model_expand_104 : decode c_Model_expand 104 = .ok (.iastore, 1) := by decide +kernel
theorem d_Model_expand_105 : decode c_Model_expand 105 = .ok (.istore 7, 2) := by decide +kernel
theorem d_Model_expand_107 : decode c_Model_expand 107 = .ok (.iload 6, 2) := by decide +kernel
theorem d_Model_expand_109 : decode c_Model_expand 109 = .ok (.iload 7, 2) := by decide +kernel
theorem d_Model_expand_111 : decode c_Model_expand 111 = .ok (.invokestatic 96, 3) := by decide +kernel
theorem d_Model_expand_114 : decode c_Model_expand 114 = .ok (.istore 8, 2) := by decide +kernel
theorem d_Model_expand_116 : decode c_Model_expand 116 = .ok (.aload_n 2, 1) := by decide +kernel
theorem d_Model_expand_117 : decode c_Model_expand 117 = .ok (.iconst 0, 1) := by decide +kernel
theorem d_Model_expand_118 : decode c_Model_expand 118 = .ok (.iaload, 1) := by decide +kernel
theorem d_Model_expand_119 : decode c_Model_expand 119 = .ok (.iconst 1, 1) := by decide +kernel
theorem d_Model_expand_120 : decode c_Model_expand 120 = .ok (.isub, 1) := by decide +kernel
theorem d_Model_expand_121 : decode c_Model_expand 121 = .ok (.istore 9, 2) := by decide +kernel
theorem d_Model_expand_123 : decode c_Model_expand 123 = .ok (.aload_n 0, 1) := by decide +kernel
theorem d_Model_expand_124 : decode c_Model_expand 124 = .ok (.getfield 9, 3) := by decide +kernel
theorem d_Model_expand_127 : decode c_Model_expand 127 = .ok (.iload 8, 2) := by decide +kernel
theorem d_Model_expand_129 : decode c_Model_expand 129 = .ok (.iaload, 1) := by decide +kernel
theorem d_Model_expand_130 : decode c_Model_expand 130 = .ok (.istore 10, 2) := by decide +kernel
theorem d_Model_expand_132 : decode c_Model_expand 132 = .ok (.aload_n 0, 1) := by decide +kernel
theorem d_Model_expand_133 : decode c_Model_expand 133 = .ok (.getfield 9, 3) := by decide +kernel
theorem d_Model_expand_136 : decode c_Model_expand 136 = .ok (.iload 8, 2) := by decide +kernel
theorem d_Model_expand_138 : decode c_Model_expand 138 = .ok (.iconst 3, 1) := by decide +kernel
theorem d_Model_expand_139 : decode c_Model_expand 139 = .ok (.iadd, 1) := by decide +kernel
theorem d_Model_expand_140 : decode c_Model_expand 140 = .ok (.iaload, 1) := by decide +kernel
theorem d_Model_expand_141 : decode c_Model_expand 141 = .ok (.aload_n 0, 1) := by decide +kernel
theorem d_Model_expand_142 : decode c_Model_expand 142 = .ok (.getfield 9, 3) := by decide +kernel
theorem d_Model_expand_145 : decode c_Model_expand 145 = .ok (.iload 8, 2) := by decide +kernel
theorem d_Model_expand_147 : decode c_Model_expand 147 = .ok (.iconst 4, 1) := by decide +kernel
theorem d_Model_expand_148 : decode c_Model_expand 148 = .ok (.iadd, 1) := by decide +kernel
theorem d_Model_expand_149 : decode c_Model_expand 149 = .ok (.iaload, 1) := by decide +kernel
theorem d_Model_expand_150 : decode c_Model_expand 150 = .ok (.iconst 1, 1) := by decide +kernel
theorem d_Model_expand_151 : decode c_Model_expand 151 = .ok (.if_icmp .ne 10, 3) := by decide +kernel
theorem d_Model_expand_154 : decode c_Model_expand 154 = .ok (.aload_n 3, 1) := by decide +kernel
theorem d_Model_expand_155 : decode c_Model_expand 155 = .ok (.iload 4, 2) := by decide +kernel
theorem d_Model_expand_157 : decode c_Model_expand 157 = .ok (.iaload, 1) := by decide +kernel
theorem d_Model_expand_158 : decode c_Model_expand 158 = .ok (.goto 4, 3) := by decide +kernel
theorem d_Model_expand_161 : decode c_Model_expand 161 = .ok (.iconst 0, 1) := by decide +kernel
theorem d_Model_expand_162 : decode c_Model_expand 162 = .ok (.iadd, 1) := by decide +kernel
theorem d_Model_expand_163 : decode c_Model_expand 163 = .ok (.istore 11, 2) := by decide +kernel
theorem d_Model_expand_165 : decode c_Model_expand 165 = .ok (.iinc 5 1, 3) := by decide +kernel
theorem d_Model_expand_168 : decode c_Model_expand 168 = .ok (.iload 5, 2) := by decide +kernel
theorem d_Model_expand_170 : decode c_Model_expand 170 = .ok (.sipush 400, 3) := by decide +kernel
theorem d_Model_expand_173 : decode c_Model_expand 173 = .ok (.if_icmp .gt 20, 3) := by decide +kernel
theorem d_Model_expand_176 : decode c_Model_expand 176 = .ok (.iload 10, 2) := by decide +kernel
theorem d_Model_expand_178 : decode c_Model_expand 178 = .ok (.invokestatic 138, 3) := by decide +kernel
theorem d_Model_expand_181 : decode c_Model_expand 181 = .ok (.ifCond .eq 22, 3) := by decide +kernel
theorem d_Model_expand_184 : decode c_Model_expand 184 = .ok (.aload_n 0, 1) := by decide +kernel
theorem d_Model_expand_185 : decode c_Model_expand 185 = .ok (.getfield 132, 3) := by decide +kernel
theorem d_Model_expand_188 : decode c_Model_expand 188 = .ok (.bipush 120, 2) := by decide +kernel
theorem d_Model_expand_190 : decode c_Model_expand 190 = .ok (.if_icmp .ne 13, 3) := by decide +kernel
theorem d_Model_expand_193 : decode c_Model_expand 193 = .ok (.aload_n 0, 1) := by decide +kernel
theorem d_Model_expand_194 : decode c_Model_expand 194 = .ok (.iconst 2, 1) := by decide +kernel
theorem d_Model_expand_195 : decode c_Model_expand 195 = .ok (.iload 9, 2) := by decide +kernel
theorem d_Model_expand_197 : decode c_Model_expand 197 = .ok (.invokevirtual 135, 3) := by decide +kernel
theorem d_Model_expand_200 : decode c_Model_expand 200 = .ok (.goto 166, 3) := by decide +kernel
theorem d_Model_expand_203 : decode c_Model_expand 203 = .ok (.iload 10, 2) := by decide +kernel
theorem d_Model_expand_205 : decode c_Model_expand 205 = .ok (.bipush 10, 2) := by decide +kernel
theorem d_Model_expand_207 : decode c_Model_expand 207 = .ok (.if_icmp .ne 52, 3) := by decide +kernel
theorem d_Model_expand_210 : decode c_Model_expand 210 = .ok (.iload 4, 2) := by decide +kernel
theorem d_Model_expand_212 : decode c_Model_expand 212 = .ok (.iconst 1, 1) := by decide +kernel
theorem d_Model_expand_213 : decode c_Model_expand 213 = .ok (.iadd, 1) := by decide +kernel
theorem d_Model_expand_214 : decode c_Model_expand 214 = .ok (.bipush 6, 2) := by decide +kernel
theorem d_Model_expand_216 : decode c_Model_expand 216 = .ok (.if_icmp .ne 13, 3) := by decide +kernel
theorem d_Model_expand_219 : decode c_Model_expand 219 = .ok (.aload_n 0, 1) := by decide +kernel
theorem d_Model_expand_220 : decode c_Model_expand 220 = .ok (.iconst 1, 1) := by decide +kernel
theorem d_Model_expand_221 : decode c_Model_expand 221 = .ok (.iload 9, 2) := by decide +kernel
theorem d_Model_expand_223 : decode c_Model_expand 223 = .ok (.invokevirtual 135, 3) := by decide +kernel
theorem d_Model_expand_226 : decode c_Model_expand 226 = .ok (.goto 140, 3) := by decide +kernel
theorem d_Model_expand_229 : decode c_Model_expand 229 = .ok (.iinc 4 1, 3) := by decide +kernel
theorem d_Model_expand_232 : decode c_Model_expand 232 = .ok (.aload_n 1, 1) := by decide +kernel
theorem d_Model_expand_233 : decode c_Model_expand 233 = .ok (.iload 4, 2) := by decide +kernel
theorem d_Model_expand_235 : decode c_Model_expand 235 = .ok (.aload_n 0, 1) := by decide +kernel
theorem d_Model_expand_236 : decode c_Model_expand 236 = .ok (.getfield 9, 3) := by decide +kernel
theorem d_Model_expand_239 : decode c_Model_expand 239 = .ok (.iload 8, 2) := by decide +kernel
theorem d_Model_expand_241 : decode c_Model_expand 241 = .ok (.iconst 1, 1) := by decide +kernel
theorem d_Model_expand_242 : decode c_Model_expand 242 = .ok (.iadd, 1) := by decide +kernel
theorem d_Model_expand_243 : decode c_Model_expand 243 = .ok (.iaload, 1) := by decide +kernel
theorem d_Model_expand_244 : decode c_Model_expand 244 = .ok (.iastore, 1) := by decide +kernel
theorem d_Model_expand_245 : decode c_Model_expand 245 = .ok (.aload_n 2, 1) := by decide +kernel
theorem d_Model_expand_246 : decode c_Model_expand 246 = .ok (.iload 4, 2) := by decide +kernel
theorem d_Model_expand_248 : decode c_Model_expand 248 = .ok (.iconst 0, 1) := by decide +kernel
theorem d_Model_expand_249 : decode c_Model_expand 249 = .ok (.iastore, 1) := by decide +kernel
theorem d_Model_expand_250 : decode c_Model_expand 250 = .ok (.aload_n 3, 1) := by decide +kernel
theorem d_Model_expand_251 : decode c_Model_expand 251 = .ok (.iload 4, 2) := by decide +kernel
theorem d_Model_expand_253 : decode c_Model_expand 253 = .ok (.iload 11, 2) := by decide +kernel
theorem d_Model_expand_255 : decode c_Model_expand 255 = .ok (.iastore, 1) := by decide +kernel
theorem d_Model_expand_256 : decode c_Model_expand 256 = .ok (.goto 110, 3) := by decide +kernel
theorem d_Model_expand_259 : decode c_Model_expand 259 = .ok (.iload 10, 2) := by decide +kernel
theorem d_Model_expand_261 : decode c_Model_expand 261 = .ok (.bipush 8, 2) := by decide +kernel
theorem d_Model_expand_263 : decode c_Model_expand 263 = .ok (.if_icmp .ne 66, 3) := by decide +kernel
theorem d_Model_expand_266 : decode c_Model_expand 266 = .ok (.iload 11, 2) := by decide +kernel
theorem d_Model_expand_268 : decode c_Model_expand 268 = .ok (.aload_n 0, 1) := by decide +kernel
theorem d_Model_expand_269 : decode c_Model_expand 269 = .ok (.aload_n 0, 1) := by decide +kernel
theorem d_Model_expand_270 : decode c_Model_expand 270 = .ok (.getfield 9, 3) := by decide +kernel
theorem d_Model_expand_273 : decode c_Model_expand 273 = .ok (.iload 8, 2) := by decide +kernel
theorem d_Model_expand_275 : decode c_Model_expand 275 = .ok (.iconst 1, 1) := by decide +kernel
theorem d_Model_expand_276 : decode c_Model_expand 276 = .ok (.iadd, 1) := by decide +kernel
theorem d_Model_expand_277 : decode c_Model_expand 277 = .ok (.iaload, 1) := by decide +kernel
theorem d_Model_expand_278 : decode c_Model_expand 278 = .ok (.iload 9, 2) := by decide +kernel
theorem d_Model_expand_280 : decode c_Model_expand 280 = .ok (.invokevirtual 141, 3) := by decide +kernel
theorem d_Model_expand_283 : decode c_Model_expand 283 = .ok (.iadd, 1) := by decide +kernel
theorem d_Model_expand_284 : decode c_Model_expand 284 = .ok (.aload_n 0, 1) := by decide +kernel
theorem d_Model_expand_285 : decode c_Model_expand 285 = .ok (.aload_n 0, 1) := by decide +kernel
theorem d_Model_expand_286 : decode c_Model_expand 286 = .ok (.getfield 9, 3) := by decide +kernel
theorem d_Model_expand_289 : decode c_Model_expand 289 = .ok (.iload 8, 2) := by decide +kernel
theorem d_Model_expand_291 : decode c_Model_expand 291 = .ok (.iconst 2, 1) := by decide +kernel
theorem d_Model_expand_292 : decode c_Model_expand 292 = .ok (.iadd, 1) := by decide +kernel
theorem d_Model_expand_293 : decode c_Model_expand 293 = .ok (.iaload, 1) := by decide +kernel
theorem d_Model_expand_294 : decode c_Model_expand 294 = .ok (.iload 9, 2) := by decide +kernel
theorem d_Model_expand_296 : decode c_Model_expand 296 = .ok (.invokevirtual 141, 3) := by decide +kernel
theorem d_Model_expand_299 : decode c_Model_expand 299 = .ok (.isub, 1) := by decide +kernel
theorem d_Model_expand_300 : decode c_Model_expand 300 = .ok (.istore 12, 2) := by decide +kernel
theorem d_Model_expand_302 : decode c_Model_expand 302 = .ok (.aload_n 0, 1) := by decide +kernel
theorem d_Model_expand_303 : decode c_Model_expand 303 = .ok (.getfield 126, 3) := by decide +kernel
theorem d_Model_expand_306 : decode c_Model_expand 306 = .ok (.ifCond .ne 20, 3) := by decide +kernel
theorem d_Model_expand_309 : decode c_Model_expand 309 = .ok (.iload 12, 2) := by decide +kernel
theorem d_Model_expand_311 : decode c_Model_expand 311 = .ok (.ifCond .gt 15, 3) := by decide +kernel
theorem d_Model_expand_314 : decode c_Model_expand 314 = .ok (.aload_n 2, 1) := by decide +kernel
theorem d_Model_expand_315 : decode c_Model_expand 315 = .ok (.iload 4, 2) := by decide +kernel
theorem d_Model_expand_317 : decode c_Model_expand 317 = .ok (.aload_n 0, 1) := by decide +kernel
theorem d_Model_expand_318 : decode c_Model_expand 318 = .ok (.iload 6, 2) := by decide +kernel
theorem d_Model_expand_320 : decode c_Model_expand 320 = .ok (.iload 7, 2) := by decide +kernel
theorem d_Model_expand_322 : decode c_Model_expand 322 = .ok (.invokevirtual 144, 3) := by decide +kernel
theorem d_Model_expand_325 : decode c_Model_expand 325 = .ok (.iastore, 1) := by decide +kernel
theorem d_Model_expand_326 : decode c_Model_expand 326 = .ok (.goto 40, 3) := by decide +kernel
theorem d_Model_expand_329 : decode c_Model_expand 329 = .ok (.iload 10, 2) := by decide +kernel
theorem d_Model_expand_331 : decode c_Model_expand 331 = .ok (.bipush 9, 2) := by decide +kernel
theorem d_Model_expand_333 : decode c_Model_expand 333 = .ok (.if_icmp .eq 33, 3) := by decide +kernel
theorem d_Model_expand_336 : decode c_Model_expand 336 = .ok (.aload_n 0, 1) := by decide +kernel
theorem d_Model_expand_337 : decode c_Model_expand 337 = .ok (.iload 10, 2) := by decide +kernel
theorem d_Model_expand_339 : decode c_Model_expand 339 = .ok (.aload_n 0, 1) := by decide +kernel
theorem d_Model_expand_340 : decode c_Model_expand 340 = .ok (.getfield 9, 3) := by decide +kernel
theorem d_Model_expand_343 : decode c_Model_expand 343 = .ok (.iload 8, 2) := by decide +kernel
theorem d_Model_expand_345 : decode c_Model_expand 345 = .ok (.iconst 1, 1) := by decide +kernel
theorem d_Model_expand_346 : decode c_Model_expand 346 = .ok (.iadd, 1) := by decide +kernel
theorem d_Model_expand_347 : decode c_Model_expand 347 = .ok (.iaload, 1) := by decide +kernel
theorem d_Model_expand_348 : decode c_Model_expand 348 = .ok (.aload_n 0, 1) := by decide +kernel
theorem d_Model_expand_349 : decode c_Model_expand 349 = .ok (.getfield 9, 3) := by decide +kernel
theorem d_Model_expand_352 : decode c_Model_expand 352 = .ok (.iload 8, 2) := by decide +kernel
theorem d_Model_expand_354 : decode c_Model_expand 354 = .ok (.iconst 2, 1) := by decide +kernel
theorem d_Model_expand_355 : decode c_Model_expand 355 = .ok (.iadd, 1) := by decide +kernel
theorem d_Model_expand_356 : decode c_Model_expand 356 = .ok (.iaload, 1) := by decide +kernel
theorem d_Model_expand_357 : decode c_Model_expand 357 = .ok (.iload 11, 2) := by decide +kernel
theorem d_Model_expand_359 : decode c_Model_expand 359 = .ok (.iload 9, 2) := by decide +kernel
theorem d_Model_expand_361 : decode c_Model_expand 361 = .ok (.iload 4, 2) := by decide +kernel
theorem d_Model_expand_363 : decode c_Model_expand 363 = .ok (.invokevirtual 147, 3) := by decide +kernel
theorem d_Model_expand_366 : decode c_Model_expand 366 = .ok (.goto (-308), 3) := by decide +kernel
theorem d_Model_expand_369 : decode c_Model_expand 369 = .ok (.aload_n 0, 1) := by decide +kernel
theorem d_Model_expand_370 : decode c_Model_expand 370 = .ok (.getfield 126, 3) := by decide +kernel
theorem d_Model_expand_373 : decode c_Model_expand 373 = .ok (.ifCond .ne 14, 3) := by decide +kernel
theorem d_Model_expand_376 : decode c_Model_expand 376 = .ok (.aload_n 0, 1) := by decide +kernel
theorem d_Model_expand_377 : decode c_Model_expand 377 = .ok (.bipush 6, 2) := by decide +kernel
theorem d_Model_expand_379 : decode c_Model_expand 379 = .ok (.iconst (-1), 1) := by decide +kernel
theorem d_Model_expand_380 : decode c_Model_expand 380 = .ok (.iconst (-1), 1) := by decide +kernel
theorem d_Model_expand_381 : decode c_Model_expand 381 = .ok (.iconst 0, 1) := by decide +kernel
theorem d_Model_expand_382 : decode c_Model_expand 382 = .ok (.iconst (-1), 1) := by decide +kernel
theorem d_Model_expand_383 : decode c_Model_expand 383 = .ok (.iconst 0, 1) := by decide +kernel
theorem d_Model_expand_384 : decode c_Model_expand 384 = .ok (.invokevirtual 151, 3) := by decide +kernel
theorem d_Model_expand_387 : decode c_Model_expand 387 = .ok (.return_, 1) := by decide +kernel
theorem d_Model_take_0 : decode c_Model_take 0 = .ok (.iload_n 1, 1) := by decide +kernel
theorem d_Model_take_1 : decode c_Model_take 1 = .ok (.iconst 1, 1) := by decide +kernel
theorem d_Model_take_2 : decode c_Model_take 2 = .ok (.if_icmp .ne 67, 3) := by decide +kernel
theorem d_Model_take_5 : decode c_Model_take 5 = .ok (.aload_n 0, 1) := by decide +kernel
theorem d_Model_take_6 : decode c_Model_take 6 = .ok (.iload_n 3, 1) := by decide +kernel
theorem d_Model_take_7 : decode c_Model_take 7 = .ok (.iload 5, 2) := by decide +kernel
theorem d_Model_take_9 : decode c_Model_take 9 = .ok (.invokevirtual 141, 3) := by decide +kernel
theorem d_Model_take_12 : decode c_Model_take 12 = .ok (.iload 4, 2) := by decide +kernel
theorem d_Model_take_14 : decode c_Model_take 14 = .ok (.iadd, 1) := by decide +kernel
theorem d_Model_take_15 : decode c_Model_take 15 = .ok (.istore 7, 2) := by decide +kernel
theorem d_Model_take_17 : decode c_Model_take 17 = .ok (.aload_n 0, 1) := by decide +kernel
theorem d_Model_take_18 : decode c_Model_take 18 = .ok (.getfield 126, 3) := by decide +kernel
theorem d_Model_take_21 : decode c_Model_take 21 = .ok (.ifCond .le 4, 3) := by decide +kernel
theorem d_Model_take_24 : decode c_Model_take 24 = .ok (.return_, 1) := by decide +kernel
theorem d_Model_take_25 : decode c_Model_take 25 = .ok (.aload_n 0, 1) := by decide +kernel
theorem d_Model_take_26 : decode c_Model_take 26 = .ok (.getfield 74, 3) := by decide +kernel
theorem d_Model_take_29 : decode c_Model_take 29 = .ok (.iload_n 2, 1) := by decide +kernel
theorem d_Model_take_30 : decode c_Model_take 30 = .ok (.iaload, 1) := by decide +kernel
theorem d_Model_take_31 : decode c_Model_take 31 = .ok (.iconst (-1), 1) := by decide +kernel
theorem d_Model_take_32 : decode c_Model_take 32 = .ok (.if_icmp .eq 11, 3) := by decide +kernel
theorem d_Model_take_35 : decode c_Model_take 35 = .ok (.aload_n 0, 1) := by decide +kernel
theorem d_Model_take_36 : decode c_Model_take 36 = .ok (.iconst 4, 1) := by decide +kernel
theorem d_Model_take_37 : decode c_Model_take 37 = .ok (.iload 5, 2) := by decide +kernel
theorem d_Model_take_39 : decode c_Model_take 39 = .ok (.invokevirtual 135, 3) := by decide +kernel
theorem d_Model_take_42 : decode c_Model_take 42 = .ok (.return_, 1) := by decide +kernel
theorem d_Model_take_43 : decode c_Model_take 43 = .ok (.aload_n 0, 1) := by decide +kernel
theorem d_Model_take_44 : decode c_Model_take 44 = .ok (.getfield 68, 3) := by decide +kernel
theorem d_Model_take_47 : decode c_Model_take 47 = .ok (.iload_n 2, 1) := by decide +kernel
theorem d_Model_take_48 : decode c_Model_take 48 = .ok (.iconst 1, 1) := by decide +kernel
theorem d_Model_take_49 : decode c_Model_take 49 = .ok (.iastore, 1) := by decide +kernel
theorem d_Model_take_50 : decode c_Model_take 50 = .ok (.aload_n 0, 1) := by decide +kernel
theorem d_Model_take_51 : decode c_Model_take 51 = .ok (.getfield 71, 3) := by decide +kernel
theorem d_Model_take_54 : decode c_Model_take 54 = .ok (.iload_n 2, 1) := by decide +kernel
theorem d_Model_take_55 : decode c_Model_take 55 = .ok (.iload 7, 2) := by decide +kernel
theorem d_Model_take_57 : decode c_Model_take 57 = .ok (.iastore, 1) := by decide +kernel
theorem d_Model_take_58 : decode c_Model_take 58 = .ok (.aload_n 0, 1) := by decide +kernel
theorem d_Model_take_59 : decode c_Model_take 59 = .ok (.getfield 58, 3) := by decide +kernel
theorem d_Model_take_62 : decode c_Model_take 62 = .ok (.aload_n 0, 1) := by decide +kernel
theorem d_Model_take_63 : decode c_Model_take 63 = .ok (.getfield 132, 3) := by decide +kernel
theorem d_Model_take_66 : decode c_Model_take 66 = .ok (.iload 7, 2) := by decide +kernel
theorem d_Model_take_68 : decode c_Model_take 68 = .ok (.iastore, 1) := by decide +kernel
theorem d_Model_take_69 : decode c_Model_take 69 = .ok (.iload_n 1, 1) := by decide +kernel
theorem d_Model_take_70 : decode c_Model_take 70 = .ok (.ifCond .ne 47, 3) := by decide +kernel
theorem d_Model_take_73 : decode c_Model_take 73 = .ok (.iload_n 2, 1) := by decide +kernel
theorem d_Model_take_74 : decode c_Model_take 74 = .ok (.bipush 8, 2) := by decide +kernel
theorem d_Model_take_76 : decode c_Model_take 76 = .ok (.if_icmp .ge 41, 3) := by decide +kernel
theorem d_Model_take_79 : decode c_Model_take 79 = .ok (.aload_n 0, 1) := by decide +kernel
theorem d_Model_take_80 : decode c_Model_take 80 = .ok (.getfield 74, 3) := by decide +kernel
theorem d_Model_take_83 : decode c_Model_take 83 = .ok (.iload_n 2, 1) := by decide +kernel
theorem d_Model_take_84 : decode c_Model_take 84 = .ok (.iaload, 1) := by decide +kernel
theorem d_Model_take_85 : decode c_Model_take 85 = .ok (.iconst (-1), 1) := by decide +kernel
theorem d_Model_take_86 : decode c_Model_take 86 = .ok (.if_icmp .ne 13, 3) := by decide +kernel
theorem d_Model_take_89 : decode c_Model_take 89 = .ok (.aload_n 0, 1) := by decide +kernel
theorem d_Model_take_90 : decode c_Model_take 90 = .ok (.getfield 68, 3) := by decide +kernel
theorem d_Model_take_93 : decode c_Model_take 93 = .ok (.iload_n 2, 1) := by decide +kernel
theorem d_Model_take_94 : decode c_Model_take 94 = .ok (.iaload, 1) := by decide +kernel
theorem d_Model_take_95 : decode c_Model_take 95 = .ok (.iconst 1, 1) := by decide +kernel
theorem d_Model_take_96 : decode c_Model_take 96 = .ok (.if_icmp .ne 11, 3) := by decide +kernel
theorem d_Model_take_99 : decode c_Model_take 99 = .ok (.aload_n 0, 1) := by decide +kernel
theorem d_Model_take_100 : decode c_Model_take 100 = .ok (.iconst 4, 1) := by decide +kernel
theorem d_Model_take_101 : decode c_Model_take 101 = .ok (.iload 5, 2) := by decide +kernel
theorem d_Model_take_103 : decode c_Model_take 103 = .ok (.invokevirtual 135, 3) := by decide +kernel
theorem d_Model_take_106 : decode c_Model_take 106 = .ok (.return_, 1) := by decide +kernel
theorem d_Model_take_107 : decode c_Model_take 107 = .ok (.aload_n 0, 1) := by decide +kernel
theorem d_Model_take_108 : decode c_Model_take 108 = .ok (.getfield 74, 3) := by decide +kernel
theorem d_Model_take_111 : decode c_Model_take 111 = .ok (.iload_n 2, 1) := by decide +kernel
theorem d_Model_take_112 : decode c_Model_take 112 = .ok (.aload_n 0, 1) := by decide +kernel
theorem d_Model_take_113 : decode c_Model_take 113 = .ok (.getfield 132, 3) := by decide +kernel
theorem d_Model_take_116 : decode c_Model_take 116 = .ok (.iastore, 1) := by decide +kernel
theorem d_Model_take_117 : decode c_Model_take 117 = .ok (.aload_n 0, 1) := by decide +kernel
theorem d_Model_take_118 : decode c_Model_take 118 = .ok (.iload_n 1, 1) := by decide +kernel
theorem d_Model_take_119 : decode c_Model_take 119 = .ok (.iload_n 2, 1) := by decide +kernel
theorem d_Model_take_120 : decode c_Model_take 120 = .ok (.iload_n 3, 1) := by decide +kernel
theorem d_Model_take_121 : decode c_Model_take 121 = .ok (.iload 4, 2) := by decide +kernel
theorem d_Model_take_123 : decode c_Model_take 123 = .ok (.iload 5, 2) := by decide +kernel
theorem d_Model_take_125 : decode c_Model_take 125 = .ok (.iload 6, 2) := by decide +kernel
theorem d_Model_take_127 : decode c_Model_take 127 = .ok (.invokevirtual 151, 3) := by decide +kernel
theorem d_Model_take_130 : decode c_Model_take 130 = .ok (.return_, 1) := by decide +kernel
theorem d_Model_meant_0 : decode c_Model_meant 0 = .ok (.iload_n 1, 1) := by decide +kernel
theorem d_Model_meant_1 : decode c_Model_meant 1 = .ok (.iconst (-1), 1) := by decide +kernel
theorem d_Model_meant_2 : decode c_Model_meant 2 = .ok (.if_icmp .ne 5, 3) := by decide +kernel
theorem d_Model_meant_5 : decode c_Model_meant 5 = .ok (.iconst (-1), 1) := by decide +kernel
theorem d_Model_meant_6 : decode c_Model_meant 6 = .ok (.ireturn, 1) := by decide +kernel
theorem d_Model_meant_7 : decode c_Model_meant 7 = .ok (.iload_n 1, 1) := by decide +kernel
theorem d_Model_meant_8 : decode c_Model_meant 8 = .ok (.bipush 8, 2) := by decide +kernel
theorem d_Model_meant_10 : decode c_Model_meant 10 = .ok (.if_icmp .ge 68, 3) := by decide +kernel
theorem d_Model_meant_13 : decode c_Model_meant 13 = .ok (.aload_n 0, 1) := by decide +kernel
theorem d_Model_meant_14 : decode c_Model_meant 14 = .ok (.getfield 74, 3) := by decide +kernel
theorem d_Model_meant_17 : decode c_Model_meant 17 = .ok (.iload_n 1, 1) := by decide +kernel
theorem d_Model_meant_18 : decode c_Model_meant 18 = .ok (.iaload, 1) := by decide +kernel
theorem d_Model_meant_19 : decode c_Model_meant 19 = .ok (.iconst (-1), 1) := by decide +kernel
theorem d_Model_meant_20 : decode c_Model_meant 20 = .ok (.if_icmp .eq 10, 3) := by decide +kernel
theorem d_Model_meant_23 : decode c_Model_meant 23 = .ok (.aload_n 0, 1) := by decide +kernel
theorem d_Model_meant_24 : decode c_Model_meant 24 = .ok (.getfield 74, 3) := by decide +kernel
theorem d_Model_meant_27 : decode c_Model_meant 27 = .ok (.iload_n 1, 1) := by decide +kernel
theorem d_Model_meant_28 : decode c_Model_meant 28 = .ok (.iaload, 1) := by decide +kernel
theorem d_Model_meant_29 : decode c_Model_meant 29 = .ok (.ireturn, 1) := by decide +kernel
theorem d_Model_meant_30 : decode c_Model_meant 30 = .ok (.iload_n 2, 1) := by decide +kernel
theorem d_Model_meant_31 : decode c_Model_meant 31 = .ok (.iconst 1, 1) := by decide +kernel
theorem d_Model_meant_32 : decode c_Model_meant 32 = .ok (.isub, 1) := by decide +kernel
theorem d_Model_meant_33 : decode c_Model_meant 33 = .ok (.istore_n 3, 1) := by decide +kernel
theorem d_Model_meant_34 : decode c_Model_meant 34 = .ok (.iload_n 3, 1) := by decide +kernel
theorem d_Model_meant_35 : decode c_Model_meant 35 = .ok (.ifCond .lt 29, 3) := by decide +kernel
theorem d_Model_meant_38 : decode c_Model_meant 38 = .ok (.aload_n 0, 1) := by decide +kernel
theorem d_Model_meant_39 : decode c_Model_meant 39 = .ok (.getfield 16, 3) := by decide +kernel
theorem d_Model_meant_42 : decode c_Model_meant 42 = .ok (.iload_n 3, 1) := by decide +kernel
theorem d_Model_meant_43 : decode c_Model_meant 43 = .ok (.iaload, 1) := by decide +kernel
theorem d_Model_meant_44 : decode c_Model_meant 44 = .ok (.iconst 1, 1) := by decide +kernel
theorem d_Model_meant_45 : decode c_Model_meant 45 = .ok (.if_icmp .ne 13, 3) := by decide +kernel
theorem d_Model_meant_48 : decode c_Model_meant 48 = .ok (.aload_n 0, 1) := by decide +kernel
theorem d_Model_meant_49 : decode c_Model_meant 49 = .ok (.getfield 19, 3) := by decide +kernel
theorem d_Model_meant_52 : decode c_Model_meant 52 = .ok (.iload_n 3, 1) := by decide +kernel
theorem d_Model_meant_53 : decode c_Model_meant 53 = .ok (.iaload, 1) := by decide +kernel
theorem d_Model_meant_54 : decode c_Model_meant 54 = .ok (.iload_n 1, 1) := by decide +kernel
theorem d_Model_meant_55 : decode c_Model_meant 55 = .ok (.if_icmp .eq 9, 3) := by decide +kernel
theorem d_Model_meant_58 : decode c_Model_meant 58 = .ok (.iinc 3 (-1), 3) := by decide +kernel
theorem d_Model_meant_61 : decode c_Model_meant 61 = .ok (.goto (-27), 3) := by decide +kernel
theorem d_Model_meant_64 : decode c_Model_meant 64 = .ok (.iload_n 3, 1) := by decide +kernel
theorem d_Model_meant_65 : decode c_Model_meant 65 = .ok (.ifCond .ge 8, 3) := by decide +kernel
theorem d_Model_meant_68 : decode c_Model_meant 68 = .ok (.bipush (-2), 2) := by decide +kernel
theorem d_Model_meant_70 : decode c_Model_meant 70 = .ok (.goto 7, 3) := by decide +kernel
theorem d_Model_meant_73 : decode c_Model_meant 73 = .ok (.bipush (-3), 2) := by decide +kernel
theorem d_Model_meant_75 : decode c_Model_meant 75 = .ok (.iload_n 3, 1) := by decide +kernel
theorem d_Model_meant_76 : decode c_Model_meant 76 = .ok (.isub, 1) := by decide +kernel
theorem d_Model_meant_77 : decode c_Model_meant 77 = .ok (.ireturn, 1) := by decide +kernel
theorem d_Model_meant_78 : decode c_Model_meant 78 = .ok (.iload_n 1, 1) := by decide +kernel
theorem d_Model_meant_79 : decode c_Model_meant 79 = .ok (.bipush 9, 2) := by decide +kernel
theorem d_Model_meant_81 : decode c_Model_meant 81 = .ok (.if_icmp .le 7, 3) := by decide +kernel
theorem d_Model_meant_84 : decode c_Model_meant 84 = .ok (.iconst 1, 1) := by decide +kernel
theorem d_Model_meant_85 : decode c_Model_meant 85 = .ok (.goto 4, 3) := by decide +kernel
theorem d_Model_meant_88 : decode c_Model_meant 88 = .ok (.iconst 0, 1) := by decide +kernel
theorem d_Model_meant_89 : decode c_Model_meant 89 = .ok (.istore_n 3, 1) := by decide +kernel
theorem d_Model_meant_90 : decode c_Model_meant 90 = .ok (.iload_n 3, 1) := by decide +kernel
theorem d_Model_meant_91 : decode c_Model_meant 91 = .ok (.ifCond .eq 9, 3) := by decide +kernel
theorem d_Model_meant_94 : decode c_Model_meant 94 = .ok (.iload_n 1, 1) := by decide +kernel
theorem d_Model_meant_95 : decode c_Model_meant 95 = .ok (.iconst 2, 1) := by decide +kernel
theorem d_Model_meant_96 : decode c_Model_meant 96 = .ok (.isub, 1) := by decide +kernel
theorem d_Model_meant_97 : decode c_Model_meant 97 = .ok (.goto 4, 3) := by decide +kernel
theorem d_Model_meant_100 : decode c_Model_meant 100 = .ok (.iload_n 1, 1) := by decide +kernel
theorem d_Model_meant_101 : decode c_Model_meant 101 = .ok (.istore 4, 2) := by decide +kernel
theorem d_Model_meant_103 : decode c_Model_meant 103 = .ok (.iload_n 2, 1) := by decide +kernel
theorem d_Model_meant_104 : decode c_Model_meant 104 = .ok (.istore 5, 2) := by decide +kernel
theorem d_Model_meant_106 : decode c_Model_meant 106 = .ok (.iload 5, 2) := by decide +kernel
theorem d_Model_meant_108 : decode c_Model_meant 108 = .ok (.iconst 0, 1) := by decide +kernel
theorem d_Model_meant_109 : decode c_Model_meant 109 = .ok (.aload_n 0, 1) := by decide +kernel
theorem d_Model_meant_110 : decode c_Model_meant 110 = .ok (.getfield 132, 3) := by decide +kernel
theorem d_Model_meant_113 : decode c_Model_meant 113 = .ok (.iconst 1, 1) := by decide +kernel
theorem d_Model_meant_114 : decode c_Model_meant 114 = .ok (.isub, 1) := by decide +kernel
theorem d_Model_meant_115 : decode c_Model_meant 115 = .ok (.invokestatic 84, 3) := by decide +kernel
theorem d_Model_meant_118 : decode c_Model_meant 118 = .ok (.ifCond .eq 42, 3) := by decide +kernel
theorem d_Model_meant_121 : decode c_Model_meant 121 = .ok (.aload_n 0, 1) := by decide +kernel
theorem d_Model_meant_122 : decode c_Model_meant 122 = .ok (.getfield 16, 3) := by decide +kernel
theorem d_Model_meant_125 : decode c_Model_meant 125 = .ok (.iload 5, 2) := by decide +kernel
theorem d_Model_meant_127 : decode c_Model_meant 127 = .ok (.iaload, 1) := by decide +kernel
theorem d_Model_meant_128 : decode c_Model_meant 128 = .ok (.ifCond .ne 15, 3) := by decide +kernel
theorem d_Model_meant_131 : decode c_Model_meant 131 = .ok (.aload_n 0, 1) := by decide +kernel
theorem d_Model_meant_132 : decode c_Model_meant 132 = .ok (.getfield 19, 3) := by decide +kernel
theorem d_Model_meant_135 : decode c_Model_meant 135 = .ok (.iload 5, 2) := by decide +kernel
theorem d_Model_meant_137 : decode c_Model_meant 137 = .ok (.iaload, 1) := by decide +kernel
theorem d_Model_meant_138 : decode c_Model_meant 138 = .ok (.iload 4, 2) := by decide +kernel
theorem d_Model_meant_140 : decode c_Model_meant 140 = .ok (.if_icmp .eq 20, 3) := by decide +kernel
theorem d_Model_meant_143 : decode c_Model_meant 143 = .ok (.iload 5, 2) := by decide +kernel
theorem d_Model_meant_145 : decode c_Model_meant 145 = .ok (.iload_n 3, 1) := by decide +kernel
theorem d_Model_meant_146 : decode c_Model_meant 146 = .ok (.ifCond .eq 7, 3) := by decide +kernel
theorem d_Model_meant_149 : decode c_Model_meant 149 = .ok (.iconst 1, 1) := by decide +kernel
theorem d_Model_meant_150 : decode c_Model_meant 150 = .ok (.goto 4, 3) := by decide +kernel
theorem d_Model_meant_153 : decode c_Model_meant 153 = .ok (.iconst (-1), 1) := by decide +kernel
theorem d_Model_meant_154 : decode c_Model_meant 154 = .ok (.iadd, 1) := by decide +kernel
theorem d_Model_meant_155 : decode c_Model_meant 155 = .ok (.istore 5, 2) := by decide +kernel
theorem d_Model_meant_157 : decode c_Model_meant 157 = .ok (.goto (-51), 3) := by decide +kernel
theorem d_Model_meant_160 : decode c_Model_meant 160 = .ok (.iload 5, 2) := by decide +kernel
theorem d_Model_meant_162 : decode c_Model_meant 162 = .ok (.iconst 0, 1) := by decide +kernel
theorem d_Model_meant_163 : decode c_Model_meant 163 = .ok (.aload_n 0, 1) := by decide +kernel
theorem d_Model_meant_164 : decode c_Model_meant 164 = .ok (.getfield 132, 3) := by decide +kernel
theorem d_Model_meant_167 : decode c_Model_meant 167 = .ok (.iconst 1, 1) := by decide +kernel
theorem d_Model_meant_168 : decode c_Model_meant 168 = .ok (.isub, 1) := by decide +kernel
theorem d_Model_meant_169 : decode c_Model_meant 169 = .ok (.invokestatic 84, 3) := by decide +kernel
theorem d_Model_meant_172 : decode c_Model_meant 172 = .ok (.ifCond .eq 8, 3) := by decide +kernel
theorem d_Model_meant_175 : decode c_Model_meant 175 = .ok (.iload 5, 2) := by decide +kernel
theorem d_Model_meant_177 : decode c_Model_meant 177 = .ok (.goto 5, 3) := by decide +kernel
theorem d_Model_meant_180 : decode c_Model_meant 180 = .ok (.bipush (-2), 2) := by decide +kernel
theorem d_Model_meant_182 : decode c_Model_meant 182 = .ok (.ireturn, 1) := by decide +kernel
theorem d_Model_refer_0 : decode c_Model_refer 0 = .ok (.iconst 0, 1) := by decide +kernel
theorem d_Model_refer_1 : decode c_Model_refer 1 = .ok (.istore_n 1, 1) := by decide +kernel
theorem d_Model_refer_2 : decode c_Model_refer 2 = .ok (.iload_n 1, 1) := by decide +kernel
theorem d_Model_refer_3 : decode c_Model_refer 3 = .ok (.aload_n 0, 1) := by decide +kernel
theorem d_Model_refer_4 : decode c_Model_refer 4 = .ok (.getfield 132, 3) := by decide +kernel
theorem d_Model_refer_7 : decode c_Model_refer 7 = .ok (.if_icmp .ge 159, 3) := by decide +kernel
theorem d_Model_refer_10 : decode c_Model_refer 10 = .ok (.aload_n 0, 1) := by decide +kernel
theorem d_Model_refer_11 : decode c_Model_refer 11 = .ok (.getfield 126, 3) := by decide +kernel
theorem d_Model_refer_14 : decode c_Model_refer 14 = .ok (.ifCond .ne 152, 3) := by decide +kernel
theorem d_Model_refer_17 : decode c_Model_refer 17 = .ok (.aload_n 0, 1) := by decide +kernel
theorem d_Model_refer_18 : decode c_Model_refer 18 = .ok (.getfield 16, 3) := by decide +kernel
theorem d_Model_refer_21 : decode c_Model_refer 21 = .ok (.iload_n 1, 1) := by decide +kernel
theorem d_Model_refer_22 : decode c_Model_refer 22 = .ok (.iaload, 1) := by decide +kernel
theorem d_Model_refer_23 : decode c_Model_refer 23 = .ok (.iconst 2, 1) := by decide +kernel
theorem d_Model_refer_24 : decode c_Model_refer 24 = .ok (.if_icmp .lt 136, 3) := by decide +kernel
theorem d_Model_refer_27 : decode c_Model_refer 27 = .ok (.aload_n 0, 1) := by decide +kernel
theorem d_Model_refer_28 : decode c_Model_refer 28 = .ok (.getfield 16, 3) := by decide +kernel
theorem d_Model_refer_31 : decode c_Model_refer 31 = .ok (.iload_n 1, 1) := by decide +kernel
theorem d_Model_refer_32 : decode c_Model_refer 32 = .ok (.iaload, 1) := by decide +kernel
theorem d_Model_refer_33 : decode c_Model_refer 33 = .ok (.iconst 4, 1) := by decide +kernel
theorem d_Model_refer_34 : decode c_Model_refer 34 = .ok (.if_icmp .le 6, 3) := by decide +kernel
theorem d_Model_refer_37 : decode c_Model_refer 37 = .ok (.goto 123, 3) := by decide +kernel
theorem d_Model_refer_40 : decode c_Model_refer 40 = .ok (.aload_n 0, 1) := by decide +kernel
theorem d_Model_refer_41 : decode c_Model_refer 41 = .ok (.aload_n 0, 1) := by decide +kernel
theorem d_Model_refer_42 : decode c_Model_refer 42 = .ok (.getfield 19, 3) := by decide +kernel
theorem d_Model_refer_45 : decode c_Model_refer 45 = .ok (.iload_n 1, 1) := by decide +kernel
theorem d_Model_refer_46 : decode c_Model_refer 46 = .ok (.iaload, 1) := by decide +kernel
theorem d_Model_refer_47 : decode c_Model_refer 47 = .ok (.iload_n 1, 1) := by decide +kernel
theorem d_Model_refer_48 : decode c_Model_refer 48 = .ok (.invokevirtual 154, 3) := by decide +kernel
theorem d_Model_refer_51 : decode c_Model_refer 51 = .ok (.istore_n 2, 1) := by decide +kernel
theorem d_Model_refer_52 : decode c_Model_refer 52 = .ok (.aload_n 0, 1) := by decide +kernel
theorem d_Model_refer_53 : decode c_Model_refer 53 = .ok (.aload_n 0, 1) := by decide +kernel
theorem d_Model_refer_54 : decode c_Model_refer 54 = .ok (.getfield 22, 3) := by decide +kernel
theorem d_Model_refer_57 : decode c_Model_refer 57 = .ok (.iload_n 1, 1) := by decide +kernel
theorem d_Model_refer_58 : decode c_Model_refer 58 = .ok (.iaload, 1) := by decide +kernel
theorem d_Model_refer_59 : decode c_Model_refer 59 = .ok (.iload_n 1, 1) := by decide +kernel
theorem d_Model_refer_60 : decode c_Model_refer 60 = .ok (.invokevirtual 154, 3) := by decide +kernel
theorem d_Model_refer_63 : decode c_Model_refer 63 = .ok (.istore_n 3, 1) := by decide +kernel
theorem d_Model_refer_64 : decode c_Model_refer 64 = .ok (.iload_n 2, 1) := by decide +kernel
theorem d_Model_refer_65 : decode c_Model_refer 65 = .ok (.bipush (-2), 2) := by decide +kernel
theorem d_Model_refer_67 : decode c_Model_refer 67 = .ok (.if_icmp .eq 9, 3) := by decide +kernel
theorem d_Model_refer_70 : decode c_Model_refer 70 = .ok (.iload_n 3, 1) := by decide +kernel
theorem d_Model_refer_71 : decode c_Model_refer 71 = .ok (.bipush (-2), 2) := by decide +kernel
theorem d_Model_refer_73 : decode c_Model_refer 73 = .ok (.if_icmp .ne 15, 3) := by decide +kernel
theorem d_Model_refer_76 : decode c_Model_refer 76 = .ok (.aload_n 0, 1) := by decide +kernel
theorem d_Model_refer_77 : decode c_Model_refer 77 = .ok (.iconst 5, 1) := by decide +kernel
theorem d_Model_refer_78 : decode c_Model_refer 78 = .ok (.aload_n 0, 1) := by decide +kernel
theorem d_Model_refer_79 : decode c_Model_refer 79 = .ok (.getfield 28, 3) := by decide +kernel
theorem d_Model_refer_82 : decode c_Model_refer 82 = .ok (.iload_n 1, 1) := by decide +kernel
theorem d_Model_refer_83 : decode c_Model_refer 83 = .ok (.iaload, 1) := by decide +kernel
theorem d_Model_refer_84 : decode c_Model_refer 84 = .ok (.invokevirtual 135, 3) := by decide +kernel
theorem d_Model_refer_87 : decode c_Model_refer 87 = .ok (.return_, 1) := by decide +kernel
theorem d_Model_refer_88 : decode c_Model_refer 88 = .ok (.aload_n 0, 1) := by decide +kernel
theorem d_Model_refer_89 : decode c_Model_refer 89 = .ok (.getfield 40, 3) := by decide +kernel
theorem d_Model_refer_92 : decode c_Model_refer 92 = .ok (.iload_n 1, 1) := by decide +kernel
theorem d_Model_refer_93 : decode c_Model_refer 93 = .ok (.iconst (-1), 1) := by decide +kernel
theorem d_Model_refer_94 : decode c_Model_refer 94 = .ok (.iload_n 2, 1) := by decide +kernel
theorem d_Model_refer_95 : decode c_Model_refer 95 = .ok (.invokestatic 157, 3) := by decide +kernel
theorem d_Model_refer_98 : decode c_Model_refer 98 = .ok (.iastore, 1) := by decide +kernel
theorem d_Model_refer_99 : decode c_Model_refer 99 = .ok (.aload_n 0, 1) := by decide +kernel
theorem d_Model_refer_100 : decode c_Model_refer 100 = .ok (.getfield 43, 3) := by decide +kernel
theorem d_Model_refer_103 : decode c_Model_refer 103 = .ok (.iload_n 1, 1) := by decide +kernel
theorem d_Model_refer_104 : decode c_Model_refer 104 = .ok (.iconst (-1), 1) := by decide +kernel
theorem d_Model_refer_105 : decode c_Model_refer 105 = .ok (.iload_n 3, 1) := by decide +kernel
theorem d_Model_refer_106 : decode c_Model_refer 106 = .ok (.invokestatic 157, 3) := by decide +kernel
theorem d_Model_refer_109 : decode c_Model_refer 109 = .ok (.iastore, 1) := by decide +kernel
theorem d_Model_refer_110 : decode c_Model_refer 110 = .ok (.aload_n 0, 1) := by decide +kernel
theorem d_Model_refer_111 : decode c_Model_refer 111 = .ok (.getfield 46, 3) := by decide +kernel
theorem d_Model_refer_114 : decode c_Model_refer 114 = .ok (.iload_n 1, 1) := by decide +kernel
theorem d_Model_refer_115 : decode c_Model_refer 115 = .ok (.iload_n 2, 1) := by decide +kernel
theorem d_Model_refer_116 : decode c_Model_refer 116 = .ok (.bipush (-2), 2) := by decide +kernel
theorem d_Model_refer_118 : decode c_Model_refer 118 = .ok (.if_icmp .ge 15, 3) := by decide +kernel
theorem d_Model_refer_121 : decode c_Model_refer 121 = .ok (.aload_n 0, 1) := by decide +kernel
theorem d_Model_refer_122 : decode c_Model_refer 122 = .ok (.getfield 58, 3) := by decide +kernel
theorem d_Model_refer_125 : decode c_Model_refer 125 = .ok (.bipush (-3), 2) := by decide +kernel
theorem d_Model_refer_127 : decode c_Model_refer 127 = .ok (.iload_n 2, 1) := by decide +kernel
theorem d_Model_refer_128 : decode c_Model_refer 128 = .ok (.isub, 1) := by decide +kernel
theorem d_Model_refer_129 : decode c_Model_refer 129 = .ok (.iaload, 1) := by decide +kernel
theorem d_Model_refer_130 : decode c_Model_refer 130 = .ok (.goto 4, 3) := by decide +kernel
theorem d_Model_refer_133 : decode c_Model_refer 133 = .ok (.iconst 0, 1) := by decide +kernel
theorem d_Model_refer_134 : decode c_Model_refer 134 = .ok (.iastore, 1) := by decide +kernel
theorem d_Model_refer_135 : decode c_Model_refer 135 = .ok (.aload_n 0, 1) := by decide +kernel
theorem d_Model_refer_136 : decode c_Model_refer 136 = .ok (.getfield 49, 3) := by decide +kernel
theorem d_Model_refer_139 : decode c_Model_refer 139 = .ok (.iload_n 1, 1) := by decide +kernel
theorem d_Model_refer_140 : decode c_Model_refer 140 = .ok (.iload_n 3, 1) := by decide +kernel
theorem d_Model_refer_141 : decode c_Model_refer 141 = .ok (.bipush (-2), 2) := by decide +kernel
theorem d_Model_refer_143 : decode c_Model_refer 143 = .ok (.if_icmp .ge 15, 3) := by decide +kernel
theorem d_Model_refer_146 : decode c_Model_refer 146 = .ok (.aload_n 0, 1) := by decide +kernel
theorem d_Model_refer_147 : decode c_Model_refer 147 = .ok (.getfield 58, 3) := by decide +kernel
theorem d_Model_refer_150 : decode c_Model_refer 150 = .ok (.bipush (-3), 2) := by decide +kernel
theorem d_Model_refer_152 : decode c_Model_refer 152 = .ok (.iload_n 3, 1) := by decide +kernel
theorem d_Model_refer_153 : decode c_Model_refer 153 = .ok (.isub, 1) := by decide +kernel
theorem d_Model_refer_154 : decode c_Model_refer 154 = .ok (.iaload, 1) := by decide +kernel
theorem d_Model_refer_155 : decode c_Model_refer 155 = .ok (.goto 4, 3) := by decide +kernel
theorem d_Model_refer_158 : decode c_Model_refer 158 = .ok (.iconst 0, 1) := by decide +kernel
theorem d_Model_refer_159 : decode c_Model_refer 159 = .ok (.iastore, 1) := by decide +kernel
theorem d_Model_refer_160 : decode c_Model_refer 160 = .ok (.iinc 1 1, 3) := by decide +kernel
theorem d_Model_refer_163 : decode c_Model_refer 163 = .ok (.goto (-161), 3) := by decide +kernel
theorem d_Model_refer_166 : decode c_Model_refer 166 = .ok (.return_, 1) := by decide +kernel
theorem d_Model_valueOf_0 : decode c_Model_valueOf 0 = .ok (.aload_n 0, 1) := by decide +kernel
theorem d_Model_valueOf_1 : decode c_Model_valueOf 1 = .ok (.getfield 25, 3) := by decide +kernel
theorem d_Model_valueOf_4 : decode c_Model_valueOf 4 = .ok (.iload_n 1, 1) := by decide +kernel
theorem d_Model_valueOf_5 : decode c_Model_valueOf 5 = .ok (.iaload, 1) := by decide +kernel
theorem d_Model_valueOf_6 : decode c_Model_valueOf 6 = .ok (.aload_n 0, 1) := by decide +kernel
theorem d_Model_valueOf_7 : decode c_Model_valueOf 7 = .ok (.getfield 40, 3) := by decide +kernel
theorem d_Model_valueOf_10 : decode c_Model_valueOf 10 = .ok (.iload_n 1, 1) := by decide +kernel
theorem d_Model_valueOf_11 : decode c_Model_valueOf 11 = .ok (.iaload, 1) := by decide +kernel
theorem d_Model_valueOf_12 : decode c_Model_valueOf 12 = .ok (.iconst (-1), 1) := by decide +kernel
theorem d_Model_valueOf_13 : decode c_Model_valueOf 13 = .ok (.if_icmp .ne 12, 3) := by decide +kernel
theorem d_Model_valueOf_16 : decode c_Model_valueOf 16 = .ok (.aload_n 0, 1) := by decide +kernel
theorem d_Model_valueOf_17 : decode c_Model_valueOf 17 = .ok (.getfield 46, 3) := by decide +kernel
theorem d_Model_valueOf_20 : decode c_Model_valueOf 20 = .ok (.iload_n 1, 1) := by decide +kernel
theorem d_Model_valueOf_21 : decode c_Model_valueOf 21 = .ok (.iaload, 1) := by decide +kernel
theorem d_Model_valueOf_22 : decode c_Model_valueOf 22 = .ok (.goto 14, 3) := by decide +kernel
theorem d_Model_valueOf_25 : decode c_Model_valueOf 25 = .ok (.aload_n 0, 1) := by decide +kernel
theorem d_Model_valueOf_26 : decode c_Model_valueOf 26 = .ok (.getfield 34, 3) := by decide +kernel
theorem d_Model_valueOf_29 : decode c_Model_valueOf 29 = .ok (.aload_n 0, 1) := by decide +kernel
theorem d_Model_valueOf_30 : decode c_Model_valueOf 30 = .ok (.getfield 40, 3) := by decide +kernel
theorem d_Model_valueOf_33 : decode c_Model_valueOf 33 = .ok (.iload_n 1, 1) := by decide +kernel
theorem d_Model_valueOf_34 : decode c_Model_valueOf 34 = .ok (.iaload, 1) := by decide +kernel
theorem d_Model_valueOf_35 : decode c_Model_valueOf 35 = .ok (.iaload, 1) := by decide +kernel
theorem d_Model_valueOf_36 : decode c_Model_valueOf 36 = .ok (.iadd, 1) := by decide +kernel
theorem d_Model_valueOf_37 : decode c_Model_valueOf 37 = .ok (.aload_n 0, 1) := by decide +kernel
theorem d_Model_valueOf_38 : decode c_Model_valueOf 38 = .ok (.getfield 43, 3) := by decide +kernel
theorem d_Model_valueOf_41 : decode c_Model_valueOf 41 = .ok (.iload_n 1, 1) := by decide +kernel
theorem d_Model_valueOf_42 : decode c_Model_valueOf 42 = .ok (.iaload, 1) := by decide +kernel
theorem d_Model_valueOf_43 : decode c_Model_valueOf 43 = .ok (.iconst (-1), 1) := by decide +kernel
theorem d_Model_valueOf_44 : decode c_Model_valueOf 44 = .ok (.if_icmp .ne 12, 3) := by decide +kernel
theorem d_Model_valueOf_47 : decode c_Model_valueOf 47 = .ok (.aload_n 0, 1) := by decide +kernel
theorem d_Model_valueOf_48 : decode c_Model_valueOf 48 = .ok (.getfield 49, 3) := by decide +kernel
theorem d_Model_valueOf_51 : decode c_Model_valueOf 51 = .ok (.iload_n 1, 1) := by decide +kernel
theorem d_Model_valueOf_52 : decode c_Model_valueOf 52 = .ok (.iaload, 1) := by decide +kernel
theorem d_Model_valueOf_53 : decode c_Model_valueOf 53 = .ok (.goto 14, 3) := by decide +kernel
theorem d_Model_valueOf_56 : decode c_Model_valueOf 56 = .ok (.aload_n 0, 1) := by decide +kernel
theorem d_Model_valueOf_57 : decode c_Model_valueOf 57 = .ok (.getfield 34, 3) := by decide +kernel
theorem d_Model_valueOf_60 : decode c_Model_valueOf 60 = .ok (.aload_n 0, 1) := by decide +kernel
theorem d_Model_valueOf_61 : decode c_Model_valueOf 61 = .ok (.getfield 43, 3) := by decide +kernel
theorem d_Model_valueOf_64 : decode c_Model_valueOf 64 = .ok (.iload_n 1, 1) := by decide +kernel
theorem d_Model_valueOf_65 : decode c_Model_valueOf 65 = .ok (.iaload, 1) := by decide +kernel
theorem d_Model_valueOf_66 : decode c_Model_valueOf 66 = .ok (.iaload, 1) := by decide +kernel
theorem d_Model_valueOf_67 : decode c_Model_valueOf 67 = .ok (.isub, 1) := by decide +kernel
theorem d_Model_valueOf_68 : decode c_Model_valueOf 68 = .ok (.ireturn, 1) := by decide +kernel
theorem d_Model_fillPools_0 : decode c_Model_fillPools 0 = .ok (.iconst 0, 1) := by decide +kernel
theorem d_Model_fillPools_1 : decode c_Model_fillPools 1 = .ok (.istore_n 1, 1) := by decide +kernel
theorem d_Model_fillPools_2 : decode c_Model_fillPools 2 = .ok (.iconst 0, 1) := by decide +kernel
theorem d_Model_fillPools_3 : decode c_Model_fillPools 3 = .ok (.istore_n 2, 1) := by decide +kernel
theorem d_Model_fillPools_4 : decode c_Model_fillPools 4 = .ok (.iload_n 2, 1) := by decide +kernel
theorem d_Model_fillPools_5 : decode c_Model_fillPools 5 = .ok (.aload_n 0, 1) := by decide +kernel
theorem d_Model_fillPools_6 : decode c_Model_fillPools 6 = .ok (.getfield 132, 3) := by decide +kernel
theorem d_Model_fillPools_9 : decode c_Model_fillPools 9 = .ok (.if_icmp .ge 158, 3) := by decide +kernel
theorem d_Model_fillPools_12 : decode c_Model_fillPools 12 = .ok (.aload_n 0, 1) := by decide +kernel
theorem d_Model_fillPools_13 : decode c_Model_fillPools 13 = .ok (.getfield 16, 3) := by decide +kernel
theorem d_Model_fillPools_16 : decode c_Model_fillPools 16 = .ok (.iload_n 2, 1) := by decide +kernel
theorem d_Model_fillPools_17 : decode c_Model_fillPools 17 = .ok (.iaload, 1) := by decide +kernel
theorem d_Model_fillPools_18 : decode c_Model_fillPools 18 = .ok (.bipush 6, 2) := by decide +kernel
theorem d_Model_fillPools_20 : decode c_Model_fillPools 20 = .ok (.if_icmp .eq 6, 3) := by decide +kernel
theorem d_Model_fillPools_23 : decode c_Model_fillPools 23 = .ok (.goto 138, 3) := by decide +kernel
theorem d_Model_fillPools_26 : decode c_Model_fillPools 26 = .ok (.iconst 0, 1) := by decide +kernel
theorem d_Model_fillPools_27 : decode c_Model_fillPools 27 = .ok (.istore_n 3, 1) := by decide +kernel
theorem d_Model_fillPools_28 : decode c_Model_fillPools 28 = .ok (.iload_n 1, 1) := by decide +kernel
theorem d_Model_fillPools_29 : decode c_Model_fillPools 29 = .ok (.istore 4, 2) := by decide +kernel
theorem d_Model_fillPools_31 : decode c_Model_fillPools 31 = .ok (.iload 4, 2) := by decide +kernel
theorem d_Model_fillPools_33 : decode c_Model_fillPools 33 = .ok (.iload_n 2, 1) := by decide +kernel
theorem d_Model_fillPools_34 : decode c_Model_fillPools 34 = .ok (.if_icmp .ge 116, 3) := by decide +kernel
theorem d_Model_fillPools_37 : decode c_Model_fillPools 37 = .ok (.aload_n 0, 1) := by decide +kernel
theorem d_Model_fillPools_38 : decode c_Model_fillPools 38 = .ok (.getfield 16, 3) := by decide +kernel
theorem d_Model_fillPools_41 : decode c_Model_fillPools 41 = .ok (.iload 4, 2) := by decide +kernel
theorem d_Model_fillPools_43 : decode c_Model_fillPools 43 = .ok (.iaload, 1) := by decide +kernel
theorem d_Model_fillPools_44 : decode c_Model_fillPools 44 = .ok (.iconst 5, 1) := by decide +kernel
theorem d_Model_fillPools_45 : decode c_Model_fillPools 45 = .ok (.if_icmp .eq 6, 3) := by decide +kernel
theorem d_Model_fillPools_48 : decode c_Model_fillPools 48 = .ok (.goto 96, 3) := by decide +kernel
theorem d_Model_fillPools_51 : decode c_Model_fillPools 51 = .ok (.aload_n 0, 1) := by decide +kernel
theorem d_Model_fillPools_52 : decode c_Model_fillPools 52 = .ok (.getfield 52, 3) := by decide +kernel
theorem d_Model_fillPools_55 : decode c_Model_fillPools 55 = .ok (.iload 4, 2) := by decide +kernel
theorem d_Model_fillPools_57 : decode c_Model_fillPools 57 = .ok (.iload_n 2, 1) := by decide +kernel
theorem d_Model_fillPools_58 : decode c_Model_fillPools 58 = .ok (.iastore, 1) := by decide +kernel
theorem d_Model_fillPools_59 : decode c_Model_fillPools 59 = .ok (.aload_n 0, 1) := by decide +kernel
theorem d_Model_fillPools_60 : decode c_Model_fillPools 60 = .ok (.getfield 55, 3) := by decide +kernel
theorem d_Model_fillPools_63 : decode c_Model_fillPools 63 = .ok (.iload 4, 2) := by decide +kernel
theorem d_Model_fillPools_65 : decode c_Model_fillPools 65 = .ok (.iload_n 3, 1) := by decide +kernel
theorem d_Model_fillPools_66 : decode c_Model_fillPools 66 = .ok (.iastore, 1) := by decide +kernel
theorem d_Model_fillPools_67 : decode c_Model_fillPools 67 = .ok (.iload_n 1, 1) := by decide +kernel
theorem d_Model_fillPools_68 : decode c_Model_fillPools 68 = .ok (.istore 5, 2) := by decide +kernel
theorem d_Model_fillPools_70 : decode c_Model_fillPools 70 = .ok (.iload 5, 2) := by decide +kernel
theorem d_Model_fillPools_72 : decode c_Model_fillPools 72 = .ok (.iload 4, 2) := by decide +kernel
theorem d_Model_fillPools_74 : decode c_Model_fillPools 74 = .ok (.if_icmp .ge 51, 3) := by decide +kernel
theorem d_Model_fillPools_77 : decode c_Model_fillPools 77 = .ok (.aload_n 0, 1) := by decide +kernel
theorem d_Model_fillPools_78 : decode c_Model_fillPools 78 = .ok (.getfield 16, 3) := by decide +kernel
theorem d_Model_fillPools_81 : decode c_Model_fillPools 81 = .ok (.iload 5, 2) := by decide +kernel
theorem d_Model_fillPools_83 : decode c_Model_fillPools 83 = .ok (.iaload, 1) := by decide +kernel
theorem d_Model_fillPools_84 : decode c_Model_fillPools 84 = .ok (.iconst 5, 1) := by decide +kernel
theorem d_Model_fillPools_85 : decode c_Model_fillPools 85 = .ok (.if_icmp .ne 34, 3) := by decide +kernel
theorem d_Model_fillPools_88 : decode c_Model_fillPools 88 = .ok (.aload_n 0, 1) := by decide +kernel
theorem d_Model_fillPools_89 : decode c_Model_fillPools 89 = .ok (.getfield 25, 3) := by decide +kernel
theorem d_Model_fillPools_92 : decode c_Model_fillPools 92 = .ok (.iload 5, 2) := by decide +kernel
theorem d_Model_fillPools_94 : decode c_Model_fillPools 94 = .ok (.iaload, 1) := by decide +kernel
theorem d_Model_fillPools_95 : decode c_Model_fillPools 95 = .ok (.aload_n 0, 1) := by decide +kernel
theorem d_Model_fillPools_96 : decode c_Model_fillPools 96 = .ok (.getfield 25, 3) := by decide +kernel
theorem d_Model_fillPools_99 : decode c_Model_fillPools 99 = .ok (.iload 4, 2) := by decide +kernel
theorem d_Model_fillPools_101 : decode c_Model_fillPools 101 = .ok (.iaload, 1) := by decide +kernel
theorem d_Model_fillPools_102 : decode c_Model_fillPools 102 = .ok (.if_icmp .ne 17, 3) := by decide +kernel
theorem d_Model_fillPools_105 : decode c_Model_fillPools 105 = .ok (.aload_n 0, 1) := by decide +kernel
theorem d_Model_fillPools_106 : decode c_Model_fillPools 106 = .ok (.getfield 55, 3) := by decide +kernel
theorem d_Model_fillPools_109 : decode c_Model_fillPools 109 = .ok (.iload 4, 2) := by decide +kernel
theorem d_Model_fillPools_111 : decode c_Model_fillPools 111 = .ok (.aload_n 0, 1) := by decide +kernel
theorem d_Model_fillPools_112 : decode c_Model_fillPools 112 = .ok (.getfield 55, 3) := by decide +kernel
theorem d_Model_fillPools_115 : decode c_Model_fillPools 115 = .ok (.iload 5, 2) := by decide +kernel
theorem d_Model_fillPools_117 : decode c_Model_fillPools 117 = .ok (.iaload, 1) := by decide +kernel
theorem d_Model_fillPools_118 : decode c_Model_fillPools 118 = .ok (.iastore, 1) := by decide +kernel
theorem d_Model_fillPools_119 : decode c_Model_fillPools 119 = .ok (.iinc 5 1, 3) := by decide +kernel
theorem d_Model_fillPools_122 : decode c_Model_fillPools 122 = .ok (.goto (-52), 3) := by decide +kernel
theorem d_Model_fillPools_125 : decode c_Model_fillPools 125 = .ok (.iload_n 3, 1) := by decide +kernel
theorem d_Model_fillPools_126 : decode c_Model_fillPools 126 = .ok (.aload_n 0, 1) := by decide +kernel
theorem d_Model_fillPools_127 : decode c_Model_fillPools 127 = .ok (.getfield 55, 3) := by decide +kernel
theorem d_Model_fillPools_130 : decode c_Model_fillPools 130 = .ok (.iload 4, 2) := by decide +kernel
theorem d_Model_fillPools_132 : decode c_Model_fillPools 132 = .ok (.iaload, 1) := by decide +kernel
theorem d_Model_fillPools_133 : decode c_Model_fillPools 133 = .ok (.iload_n 3, 1) := by decide +kernel
theorem d_Model_fillPools_134 : decode c_Model_fillPools 134 = .ok (.if_icmp .ne 7, 3) := by decide +kernel
theorem d_Model_fillPools_137 : decode c_Model_fillPools 137 = .ok (.iconst 1, 1) := by decide +kernel
theorem d_Model_fillPools_138 : decode c_Model_fillPools 138 = .ok (.goto 4, 3) := by decide +kernel
theorem d_Model_fillPools_141 : decode c_Model_fillPools 141 = .ok (.iconst 0, 1) := by decide +kernel
theorem d_Model_fillPools_142 : decode c_Model_fillPools 142 = .ok (.iadd, 1) := by decide +kernel
theorem d_Model_fillPools_143 : decode c_Model_fillPools 143 = .ok (.istore_n 3, 1) := by decide +kernel
theorem d_Model_fillPools_144 : decode c_Model_fillPools 144 = .ok (.iinc 4 1, 3) := by decide +kernel
theorem d_Model_fillPools_147 : decode c_Model_fillPools 147 = .ok (.goto (-116), 3) := by decide +kernel
theorem d_Model_fillPools_150 : decode c_Model_fillPools 150 = .ok (.aload_n 0, 1) := by decide +kernel
theorem d_Model_fillPools_151 : decode c_Model_fillPools 151 = .ok (.getfield 37, 3) := by decide +kernel
theorem d_Model_fillPools_154 : decode c_Model_fillPools 154 = .ok (.iload_n 2, 1) := by decide +kernel
theorem d_Model_fillPools_155 : decode c_Model_fillPools 155 = .ok (.iload_n 3, 1) := by decide +kernel
theorem d_Model_fillPools_156 : decode c_Model_fillPools 156 = .ok (.iastore, 1) := by decide +kernel
theorem d_Model_fillPools_157 : decode c_Model_fillPools 157 = .ok (.iload_n 2, 1) := by decide +kernel
theorem d_Model_fillPools_158 : decode c_Model_fillPools 158 = .ok (.iconst 1, 1) := by decide +kernel
theorem d_Model_fillPools_159 : decode c_Model_fillPools 159 = .ok (.iadd, 1) := by decide +kernel
theorem d_Model_fillPools_160 : decode c_Model_fillPools 160 = .ok (.istore_n 1, 1) := by decide +kernel
theorem d_Model_fillPools_161 : decode c_Model_fillPools 161 = .ok (.iinc 2 1, 3) := by decide +kernel
theorem d_Model_fillPools_164 : decode c_Model_fillPools 164 = .ok (.goto (-160), 3) := by decide +kernel
theorem d_Model_fillPools_167 : decode c_Model_fillPools 167 = .ok (.return_, 1) := by decide +kernel
theorem d_Model_sizeOf_0 : decode c_Model_sizeOf 0 = .ok (.aload_n 0, 1) := by decide +kernel
theorem d_Model_sizeOf_1 : decode c_Model_sizeOf 1 = .ok (.getfield 16, 3) := by decide +kernel
theorem d_Model_sizeOf_4 : decode c_Model_sizeOf 4 = .ok (.iload_n 1, 1) := by decide +kernel
theorem d_Model_sizeOf_5 : decode c_Model_sizeOf 5 = .ok (.iaload, 1) := by decide +kernel
theorem d_Model_sizeOf_6 : decode c_Model_sizeOf 6 = .ok (.tableswitch 108 0 7 #[46, 46, 108, 48, 63, 108, 78, 85], 46) := by decide +kernel
theorem d_Model_sizeOf_52 : decode c_Model_sizeOf 52 = .ok (.iconst 0, 1) := by decide +kernel
theorem d_Model_sizeOf_53 : decode c_Model_sizeOf 53 = .ok (.ireturn, 1) := by decide +kernel
theorem d_Model_sizeOf_54 : decode c_Model_sizeOf 54 = .ok (.aload_n 0, 1) := by decide +kernel
theorem d_Model_sizeOf_55 : decode c_Model_sizeOf 55 = .ok (.getfield 61, 3) := by decide +kernel
theorem d_Model_sizeOf_58 : decode c_Model_sizeOf 58 = .ok (.iload_n 1, 1) := by decide +kernel
theorem d_Model_sizeOf_59 : decode c_Model_sizeOf 59 = .ok (.baload, 1) := by decide +kernel
theorem d_Model_sizeOf_60 : decode c_Model_sizeOf 60 = .ok (.ifCond .eq 7, 3) := by decide +kernel
theorem d_Model_sizeOf_63 : decode c_Model_sizeOf 63 = .ok (.iconst 2, 1) := by decide +kernel
theorem d_Model_sizeOf_64 : decode c_Model_sizeOf 64 = .ok (.goto 4, 3) := by decide +kernel
theorem d_Model_sizeOf_67 : decode c_Model_sizeOf 67 = .ok (.iconst 1, 1) := by decide +kernel
theorem d_Model_sizeOf_68 : decode c_Model_sizeOf 68 = .ok (.ireturn, 1) := by decide +kernel
theorem d_Model_sizeOf_69 : decode c_Model_sizeOf 69 = .ok (.aload_n 0, 1) := by decide +kernel
theorem d_Model_sizeOf_70 : decode c_Model_sizeOf 70 = .ok (.getfield 61, 3) := by decide +kernel
theorem d_Model_sizeOf_73 : decode c_Model_sizeOf 73 = .ok (.iload_n 1, 1) := by decide +kernel
theorem d_Model_sizeOf_74 : decode c_Model_sizeOf 74 = .ok (.baload, 1) := by decide +kernel
theorem d_Model_sizeOf_75 : decode c_Model_sizeOf 75 = .ok (.ifCond .eq 7, 3) := by decide +kernel
theorem d_Model_sizeOf_78 : decode c_Model_sizeOf 78 = .ok (.iconst 3, 1) := by decide +kernel
theorem d_Model_sizeOf_79 : decode c_Model_sizeOf 79 = .ok (.goto 4, 3) := by decide +kernel
theorem d_Model_sizeOf_82 : decode c_Model_sizeOf 82 = .ok (.iconst 1, 1) := by decide +kernel
theorem d_Model_sizeOf_83 : decode c_Model_sizeOf 83 = .ok (.ireturn, 1) := by decide +kernel
theorem d_Model_sizeOf_84 : decode c_Model_sizeOf 84 = .ok (.aload_n 0, 1) := by decide +kernel
theorem d_Model_sizeOf_85 : decode c_Model_sizeOf 85 = .ok (.getfield 37, 3) := by decide +kernel
theorem d_Model_sizeOf_88 : decode c_Model_sizeOf 88 = .ok (.iload_n 1, 1) := by decide +kernel
theorem d_Model_sizeOf_89 : decode c_Model_sizeOf 89 = .ok (.iaload, 1) := by decide +kernel
theorem d_Model_sizeOf_90 : decode c_Model_sizeOf 90 = .ok (.ireturn, 1) := by decide +kernel
theorem d_Model_sizeOf_91 : decode c_Model_sizeOf 91 = .ok (.aload_n 0, 1) := by decide +kernel
theorem d_Model_sizeOf_92 : decode c_Model_sizeOf 92 = .ok (.getfield 25, 3) := by decide +kernel
theorem d_Model_sizeOf_95 : decode c_Model_sizeOf 95 = .ok (.iload_n 1, 1) := by decide +kernel
theorem d_Model_sizeOf_96 : decode c_Model_sizeOf 96 = .ok (.iaload, 1) := by decide +kernel
theorem d_Model_sizeOf_97 : decode c_Model_sizeOf 97 = .ok (.iload_n 2, 1) := by decide +kernel
theorem d_Model_sizeOf_98 : decode c_Model_sizeOf 98 = .ok (.aload_n 0, 1) := by decide +kernel
theorem d_Model_sizeOf_99 : decode c_Model_sizeOf 99 = .ok (.getfield 25, 3) := by decide +kernel
theorem d_Model_sizeOf_102 : decode c_Model_sizeOf 102 = .ok (.iload_n 1, 1) := by decide +kernel
theorem d_Model_sizeOf_103 : decode c_Model_sizeOf 103 = .ok (.iaload, 1) := by decide +kernel
theorem d_Model_sizeOf_104 : decode c_Model_sizeOf 104 = .ok (.irem, 1) := by decide +kernel
theorem d_Model_sizeOf_105 : decode c_Model_sizeOf 105 = .ok (.isub, 1) := by decide +kernel
theorem d_Model_sizeOf_106 : decode c_Model_sizeOf 106 = .ok (.aload_n 0, 1) := by decide +kernel
theorem d_Model_sizeOf_107 : decode c_Model_sizeOf 107 = .ok (.getfield 25, 3) := by decide +kernel
theorem d_Model_sizeOf_110 : decode c_Model_sizeOf 110 = .ok (.iload_n 1, 1) := by decide +kernel
theorem d_Model_sizeOf_111 : decode c_Model_sizeOf 111 = .ok (.iaload, 1) := by decide +kernel
theorem d_Model_sizeOf_112 : decode c_Model_sizeOf 112 = .ok (.irem, 1) := by decide +kernel
theorem d_Model_sizeOf_113 : decode c_Model_sizeOf 113 = .ok (.ireturn, 1) := by decide +kernel
theorem d_Model_sizeOf_114 : decode c_Model_sizeOf 114 = .ok (.iconst 1, 1) := by decide +kernel
theorem d_Model_sizeOf_115 : decode c_Model_sizeOf 115 = .ok (.ireturn, 1) := by decide +kernel
theorem d_Model_place_0 : decode c_Model_place 0 = .ok (.iconst 0, 1) := by decide +kernel
theorem d_Model_place_1 : decode c_Model_place 1 = .ok (.istore_n 1, 1) := by decide +kernel
theorem d_Model_place_2 : decode c_Model_place 2 = .ok (.iconst 0, 1) := by decide +kernel
theorem d_Model_place_3 : decode c_Model_place 3 = .ok (.istore_n 2, 1) := by decide +kernel
theorem d_Model_place_4 : decode c_Model_place 4 = .ok (.iload_n 2, 1) := by decide +kernel
theorem d_Model_place_5 : decode c_Model_place 5 = .ok (.aload_n 0, 1) := by decide +kernel
theorem d_Model_place_6 : decode c_Model_place 6 = .ok (.getfield 132, 3) := by decide +kernel
theorem d_Model_place_9 : decode c_Model_place 9 = .ok (.if_icmp .ge 37, 3) := by decide +kernel
theorem d_Model_place_12 : decode c_Model_place 12 = .ok (.aload_n 0, 1) := by decide +kernel
theorem d_Model_place_13 : decode c_Model_place 13 = .ok (.getfield 34, 3) := by decide +kernel
theorem d_Model_place_16 : decode c_Model_place 16 = .ok (.iload_n 2, 1) := by decide +kernel
theorem d_Model_place_17 : decode c_Model_place 17 = .ok (.iload_n 1, 1) := by decide +kernel
theorem d_Model_place_18 : decode c_Model_place 18 = .ok (.iastore, 1) := by decide +kernel
theorem d_Model_place_19 : decode c_Model_place 19 = .ok (.aload_n 0, 1) := by decide +kernel
theorem d_Model_place_20 : decode c_Model_place 20 = .ok (.getfield 37, 3) := by decide +kernel
theorem d_Model_place_23 : decode c_Model_place 23 = .ok (.iload_n 2, 1) := by decide +kernel
theorem d_Model_place_24 : decode c_Model_place 24 = .ok (.aload_n 0, 1) := by decide +kernel
theorem d_Model_place_25 : decode c_Model_place 25 = .ok (.iload_n 2, 1) := by decide +kernel
theorem d_Model_place_26 : decode c_Model_place 26 = .ok (.iload_n 1, 1) := by decide +kernel
theorem d_Model_place_27 : decode c_Model_place 27 = .ok (.invokevirtual 162, 3) := by decide +kernel
theorem d_Model_place_30 : decode c_Model_place 30 = .ok (.iastore, 1) := by decide +kernel
theorem d_Model_place_31 : decode c_Model_place 31 = .ok (.iload_n 1, 1) := by decide +kernel
theorem d_Model_place_32 : decode c_Model_place 32 = .ok (.aload_n 0, 1) := by decide +kernel
theorem d_Model_place_33 : decode c_Model_place 33 = .ok (.getfield 37, 3) := by decide +kernel
theorem d_Model_place_36 : decode c_Model_place 36 = .ok (.iload_n 2, 1) := by decide +kernel
theorem d_Model_place_37 : decode c_Model_place 37 = .ok (.iaload, 1) := by decide +kernel
theorem d_Model_place_38 : decode c_Model_place 38 = .ok (.iadd, 1) := by decide +kernel
theorem d_Model_place_39 : decode c_Model_place 39 = .ok (.istore_n 1, 1) := by decide +kernel
theorem d_Model_place_40 : decode c_Model_place 40 = .ok (.iinc 2 1, 3) := by decide +kernel
theorem d_Model_place_43 : decode c_Model_place 43 = .ok (.goto (-39), 3) := by decide +kernel
theorem d_Model_place_46 : decode c_Model_place 46 = .ok (.aload_n 0, 1) := by decide +kernel
theorem d_Model_place_47 : decode c_Model_place 47 = .ok (.getfield 34, 3) := by decide +kernel
theorem d_Model_place_50 : decode c_Model_place 50 = .ok (.aload_n 0, 1) := by decide +kernel
theorem d_Model_place_51 : decode c_Model_place 51 = .ok (.getfield 132, 3) := by decide +kernel
theorem d_Model_place_54 : decode c_Model_place 54 = .ok (.iload_n 1, 1) := by decide +kernel
theorem d_Model_place_55 : decode c_Model_place 55 = .ok (.iastore, 1) := by decide +kernel
theorem d_Model_place_56 : decode c_Model_place 56 = .ok (.aload_n 0, 1) := by decide +kernel
theorem d_Model_place_57 : decode c_Model_place 57 = .ok (.iload_n 1, 1) := by decide +kernel
theorem d_Model_place_58 : decode c_Model_place 58 = .ok (.putfield 165, 3) := by decide +kernel
theorem d_Model_place_61 : decode c_Model_place 61 = .ok (.return_, 1) := by decide +kernel
theorem d_Model_isBranch_0 : decode c_Model_isBranch 0 = .ok (.aload_n 0, 1) := by decide +kernel
theorem d_Model_isBranch_1 : decode c_Model_isBranch 1 = .ok (.getfield 16, 3) := by decide +kernel
theorem d_Model_isBranch_4 : decode c_Model_isBranch 4 = .ok (.iload_n 1, 1) := by decide +kernel
theorem d_Model_isBranch_5 : decode c_Model_isBranch 5 = .ok (.iaload, 1) := by decide +kernel
theorem d_Model_isBranch_6 : decode c_Model_isBranch 6 = .ok (.iconst 3, 1) := by decide +kernel
theorem d_Model_isBranch_7 : decode c_Model_isBranch 7 = .ok (.if_icmp .eq 13, 3) := by decide +kernel
theorem d_Model_isBranch_10 : decode c_Model_isBranch 10 = .ok (.aload_n 0, 1) := by decide +kernel
theorem d_Model_isBranch_11 : decode c_Model_isBranch 11 = .ok (.getfield 16, 3) := by decide +kernel
theorem d_Model_isBranch_14 : decode c_Model_isBranch 14 = .ok (.iload_n 1, 1) := by decide +kernel
theorem d_Model_isBranch_15 : decode c_Model_isBranch 15 = .ok (.iaload, 1) := by decide +kernel
theorem d_Model_isBranch_16 : decode c_Model_isBranch 16 = .ok (.iconst 4, 1) := by decide +kernel
theorem d_Model_isBranch_17 : decode c_Model_isBranch 17 = .ok (.if_icmp .ne 7, 3) := by decide +kernel
theorem d_Model_isBranch_20 : decode c_Model_isBranch 20 = .ok (.iconst 1, 1) := by decide +kernel
theorem d_Model_isBranch_21 : decode c_Model_isBranch 21 = .ok (.goto 4, 3) := by decide +kernel
theorem d_Model_isBranch_24 : decode c_Model_isBranch 24 = .ok (.iconst 0, 1) := by decide +kernel
theorem d_Model_isBranch_25 : decode c_Model_isBranch 25 = .ok (.ireturn, 1) := by decide +kernel
theorem d_Model_distanceOf_0 : decode c_Model_distanceOf 0 = .ok (.aload_n 0, 1) := by decide +kernel
theorem d_Model_distanceOf_1 : decode c_Model_distanceOf 1 = .ok (.iload_n 1, 1) := by decide +kernel
theorem d_Model_distanceOf_2 : decode c_Model_distanceOf 2 = .ok (.invokevirtual 168, 3) := by decide +kernel
theorem d_Model_distanceOf_5 : decode c_Model_distanceOf 5 = .ok (.aload_n 0, 1) := by decide +kernel
theorem d_Model_distanceOf_6 : decode c_Model_distanceOf 6 = .ok (.getfield 34, 3) := by decide +kernel
theorem d_Model_distanceOf_9 : decode c_Model_distanceOf 9 = .ok (.iload_n 1, 1) := by decide +kernel
theorem d_Model_distanceOf_10 : decode c_Model_distanceOf 10 = .ok (.iaload, 1) := by decide +kernel
theorem d_Model_distanceOf_11 : decode c_Model_distanceOf 11 = .ok (.isub, 1) := by decide +kernel
theorem d_Model_distanceOf_12 : decode c_Model_distanceOf 12 = .ok (.iconst 1, 1) := by decide +kernel
theorem d_Model_distanceOf_13 : decode c_Model_distanceOf 13 = .ok (.isub, 1) := by decide +kernel
theorem d_Model_distanceOf_14 : decode c_Model_distanceOf 14 = .ok (.ireturn, 1) := by decide +kernel
theorem d_Model_layOut_0 : decode c_Model_layOut 0 = .ok (.iconst 0, 1) := by decide +kernel
theorem d_Model_layOut_1 : decode c_Model_layOut 1 = .ok (.istore_n 1, 1) := by decide +kernel
theorem d_Model_layOut_2 : decode c_Model_layOut 2 = .ok (.iload_n 1, 1) := by decide +kernel
theorem d_Model_layOut_3 : decode c_Model_layOut 3 = .ok (.aload_n 0, 1) := by decide +kernel
theorem d_Model_layOut_4 : decode c_Model_layOut 4 = .ok (.getfield 132, 3) := by decide +kernel
theorem d_Model_layOut_7 : decode c_Model_layOut 7 = .ok (.if_icmp .ge 16, 3) := by decide +kernel
theorem d_Model_layOut_10 : decode c_Model_layOut 10 = .ok (.aload_n 0, 1) := by decide +kernel
theorem d_Model_layOut_11 : decode c_Model_layOut 11 = .ok (.getfield 61, 3) := by decide +kernel
theorem d_Model_layOut_14 : decode c_Model_layOut 14 = .ok (.iload_n 1, 1) := by decide +kernel
theorem d_Model_layOut_15 : decode c_Model_layOut 15 = .ok (.iconst 0, 1) := by decide +kernel
theorem d_Model_layOut_16 : decode c_Model_layOut 16 = .ok (.bastore, 1) := by decide +kernel
theorem d_Model_layOut_17 : decode c_Model_layOut 17 = .ok (.iinc 1 1, 3) := by decide +kernel
theorem d_Model_layOut_20 : decode c_Model_layOut 20 = .ok (.goto (-18), 3) := by decide +kernel
theorem d_Model_layOut_23 : decode c_Model_layOut 23 = .ok (.aload_n 0, 1) := by decide +kernel
theorem d_Model_layOut_24 : decode c_Model_layOut 24 = .ok (.iconst 0, 1) := by decide +kernel
theorem d_Model_layOut_25 : decode c_Model_layOut 25 = .ok (.putfield 171, 3) := by decide +kernel
theorem d_Model_layOut_28 : decode c_Model_layOut 28 = .ok (.iconst 1, 1) := by decide +kernel
theorem d_Model_layOut_29 : decode c_Model_layOut 29 = .ok (.istore_n 1, 1) := by decide +kernel
theorem d_Model_layOut_30 : decode c_Model_layOut 30 = .ok (.iload_n 1, 1) := by decide +kernel
theorem d_Model_layOut_31 : decode c_Model_layOut 31 = .ok (.ifCond .eq 82, 3) := by decide +kernel
theorem d_Model_layOut_34 : decode c_Model_layOut 34 = .ok (.aload_n 0, 1) := by decide +kernel
theorem d_Model_layOut_35 : decode c_Model_layOut 35 = .ok (.invokevirtual 174, 3) := by decide +kernel
theorem d_Model_layOut_38 : decode c_Model_layOut 38 = .ok (.aload_n 0, 1) := by decide +kernel
theorem d_Model_layOut_39 : decode c_Model_layOut 39 = .ok (.dup, 1) := by decide +kernel
theorem d_Model_layOut_40 : decode c_Model_layOut 40 = .ok (.getfield 171, 3) := by decide +kernel
theorem d_Model_layOut_43 : decode c_Model_layOut 43 = .ok (.iconst 1, 1) := by decide +kernel
theorem d_Model_layOut_44 : decode c_Model_layOut 44 = .ok (.iadd, 1) := by decide +kernel
theorem d_Model_layOut_45 : decode c_Model_layOut 45 = .ok (.putfield 171, 3) := by decide +kernel
theorem d_Model_layOut_48 : decode c_Model_layOut 48 = .ok (.iconst 0, 1) := by decide +kernel
theorem d_Model_layOut_49 : decode c_Model_layOut 49 = .ok (.istore_n 1, 1) := by decide +kernel
theorem d_Model_layOut_50 : decode c_Model_layOut 50 = .ok (.iconst 0, 1) := by decide +kernel
theorem d_Model_layOut_51 : decode c_Model_layOut 51 = .ok (.istore_n 2, 1) := by decide +kernel
theorem d_Model_layOut_52 : decode c_Model_layOut 52 = .ok (.iload_n 2, 1) := by decide +kernel
theorem d_Model_layOut_53 : decode c_Model_layOut 53 = .ok (.aload_n 0, 1) := by decide +kernel
theorem d_Model_layOut_54 : decode c_Model_layOut 54 = .ok (.getfield 132, 3) := by decide +kernel
theorem d_Model_layOut_57 : decode c_Model_layOut 57 = .ok (.if_icmp .ge 53, 3) := by decide +kernel
theorem d_Model_layOut_60 : decode c_Model_layOut 60 = .ok (.aload_n 0, 1) := by decide +kernel
theorem d_Model_layOut_61 : decode c_Model_layOut 61 = .ok (.iload_n 2, 1) := by decide +kernel
theorem d_Model_layOut_62 : decode c_Model_layOut 62 = .ok (.invokevirtual 177, 3) := by decide +kernel
theorem d_Model_layOut_65 : decode c_Model_layOut 65 = .ok (.ifCond .eq 39, 3) := by decide +kernel
theorem d_Model_layOut_68 : decode c_Model_layOut 68 = .ok (.aload_n 0, 1) := by decide +kernel
theorem d_Model_layOut_69 : decode c_Model_layOut 69 = .ok (.getfield 61, 3) := by decide +kernel
theorem d_Model_layOut_72 : decode c_Model_layOut 72 = .ok (.iload_n 2, 1) := by decide +kernel
theorem d_Model_layOut_73 : decode c_Model_layOut 73 = .ok (.baload, 1) := by decide +kernel
theorem d_Model_layOut_74 : decode c_Model_layOut 74 = .ok (.ifCond .ne 30, 3) := by decide +kernel
theorem d_Model_layOut_77 : decode c_Model_layOut 77 = .ok (.aload_n 0, 1) := by decide +kernel
theorem d_Model_layOut_78 : decode c_Model_layOut 78 = .ok (.iload_n 2, 1) := by decide +kernel
theorem d_Model_layOut_79 : decode c_Model_layOut 79 = .ok (.invokevirtual 180, 3) := by decide +kernel
theorem d_Model_layOut_82 : decode c_Model_layOut 82 = .ok (.bipush (-8), 2) := by decide +kernel
theorem d_Model_layOut_84 : decode c_Model_layOut 84 = .ok (.bipush 7, 2) := by decide +kernel
theorem d_Model_layOut_86 : decode c_Model_layOut 86 = .ok (.invokestatic 84, 3) := by decide +kernel
theorem d_Model_layOut_89 : decode c_Model_layOut 89 = .ok (.ifCond .eq 6, 3) := by decide +kernel
theorem d_Model_layOut_92 : decode c_Model_layOut 92 = .ok (.goto 12, 3) := by decide +kernel
theorem d_Model_layOut_95 : decode c_Model_layOut 95 = .ok (.aload_n 0, 1) := by decide +kernel
theorem d_Model_layOut_96 : decode c_Model_layOut 96 = .ok (.getfield 61, 3) := by decide +kernel
theorem d_Model_layOut_99 : decode c_Model_layOut 99 = .ok (.iload_n 2, 1) := by decide +kernel
theorem d_Model_layOut_100 : decode c_Model_layOut 100 = .ok (.iconst 1, 1) := by decide +kernel
theorem d_Model_layOut_101 : decode c_Model_layOut 101 = .ok (.bastore, 1) := by decide +kernel
theorem d_Model_layOut_102 : decode c_Model_layOut 102 = .ok (.iconst 1, 1) := by decide +kernel
theorem d_Model_layOut_103 : decode c_Model_layOut 103 = .ok (.istore_n 1, 1) := by decide +kernel
theorem d_Model_layOut_104 : decode c_Model_layOut 104 = .ok (.iinc 2 1, 3) := by decide +kernel
theorem d_Model_layOut_107 : decode c_Model_layOut 107 = .ok (.goto (-55), 3) := by decide +kernel
theorem d_Model_layOut_110 : decode c_Model_layOut 110 = .ok (.goto (-80), 3) := by decide +kernel
theorem d_Model_layOut_113 : decode c_Model_layOut 113 = .ok (.return_, 1) := by decide +kernel
theorem d_Model_numberAt_0 : decode c_Model_numberAt 0 = .ok (.aload_n 0, 1) := by decide +kernel
theorem d_Model_numberAt_1 : decode c_Model_numberAt 1 = .ok (.getfield 34, 3) := by decide +kernel
theorem d_Model_numberAt_4 : decode c_Model_numberAt 4 = .ok (.aload_n 0, 1) := by decide +kernel
theorem d_Model_numberAt_5 : decode c_Model_numberAt 5 = .ok (.getfield 52, 3) := by decide +kernel
theorem d_Model_numberAt_8 : decode c_Model_numberAt 8 = .ok (.iload_n 1, 1) := by decide +kernel
theorem d_Model_numberAt_9 : decode c_Model_numberAt 9 = .ok (.iaload, 1) := by decide +kernel
theorem d_Model_numberAt_10 : decode c_Model_numberAt 10 = .ok (.iaload, 1) := by decide +kernel
theorem d_Model_numberAt_11 : decode c_Model_numberAt 11 = .ok (.aload_n 0, 1) := by decide +kernel
theorem d_Model_numberAt_12 : decode c_Model_numberAt 12 = .ok (.getfield 55, 3) := by decide +kernel
theorem d_Model_numberAt_15 : decode c_Model_numberAt 15 = .ok (.iload_n 1, 1) := by decide +kernel
theorem d_Model_numberAt_16 : decode c_Model_numberAt 16 = .ok (.iaload, 1) := by decide +kernel
theorem d_Model_numberAt_17 : decode c_Model_numberAt 17 = .ok (.iadd, 1) := by decide +kernel
theorem d_Model_numberAt_18 : decode c_Model_numberAt 18 = .ok (.ireturn, 1) := by decide +kernel
theorem d_Model_assemble_0 : decode c_Model_assemble 0 = .ok (.aload_n 0, 1) := by decide +kernel
theorem d_Model_assemble_1 : decode c_Model_assemble 1 = .ok (.iconst 0, 1) := by decide +kernel
theorem d_Model_assemble_2 : decode c_Model_assemble 2 = .ok (.putfield 126, 3) := by decide +kernel
theorem d_Model_assemble_5 : decode c_Model_assemble 5 = .ok (.aload_n 0, 1) := by decide +kernel
theorem d_Model_assemble_6 : decode c_Model_assemble 6 = .ok (.iconst (-1), 1) := by decide +kernel
theorem d_Model_assemble_7 : decode c_Model_assemble 7 = .ok (.putfield 129, 3) := by decide +kernel
theorem d_Model_assemble_10 : decode c_Model_assemble 10 = .ok (.aload_n 0, 1) := by decide +kernel
theorem d_Model_assemble_11 : decode c_Model_assemble 11 = .ok (.invokevirtual 183, 3) := by decide +kernel
theorem d_Model_assemble_14 : decode c_Model_assemble 14 = .ok (.aload_n 0, 1) := by decide +kernel
theorem d_Model_assemble_15 : decode c_Model_assemble 15 = .ok (.getfield 126, 3) := by decide +kernel
theorem d_Model_assemble_18 : decode c_Model_assemble 18 = .ok (.ifCond .ne 7, 3) := by decide +kernel
theorem d_Model_assemble_21 : decode c_Model_assemble 21 = .ok (.aload_n 0, 1) := by decide +kernel
theorem d_Model_assemble_22 : decode c_Model_assemble 22 = .ok (.invokevirtual 186, 3) := by decide +kernel
theorem d_Model_assemble_25 : decode c_Model_assemble 25 = .ok (.aload_n 0, 1) := by decide +kernel
theorem d_Model_assemble_26 : decode c_Model_assemble 26 = .ok (.getfield 126, 3) := by decide +kernel
theorem d_Model_assemble_29 : decode c_Model_assemble 29 = .ok (.ifCond .le 4, 3) := by decide +kernel
theorem d_Model_assemble_32 : decode c_Model_assemble 32 = .ok (.return_, 1) := by decide +kernel
theorem d_Model_assemble_33 : decode c_Model_assemble 33 = .ok (.aload_n 0, 1) := by decide +kernel
theorem d_Model_assemble_34 : decode c_Model_assemble 34 = .ok (.invokevirtual 189, 3) := by decide +kernel
theorem d_Model_assemble_37 : decode c_Model_assemble 37 = .ok (.aload_n 0, 1) := by decide +kernel
theorem d_Model_assemble_38 : decode c_Model_assemble 38 = .ok (.invokevirtual 192, 3) := by decide +kernel
theorem d_Model_assemble_41 : decode c_Model_assemble 41 = .ok (.iconst 0, 1) := by decide +kernel
theorem d_Model_assemble_42 : decode c_Model_assemble 42 = .ok (.istore_n 1, 1) := by decide +kernel
theorem d_Model_assemble_43 : decode c_Model_assemble 43 = .ok (.iload_n 1, 1) := by decide +kernel
theorem d_Model_assemble_44 : decode c_Model_assemble 44 = .ok (.aload_n 0, 1) := by decide +kernel
theorem d_Model_assemble_45 : decode c_Model_assemble 45 = .ok (.getfield 132, 3) := by decide +kernel
theorem d_Model_assemble_48 : decode c_Model_assemble 48 = .ok (.if_icmp .ge 55, 3) := by decide +kernel
theorem d_Model_assemble_51 : decode c_Model_assemble 51 = .ok (.aload_n 0, 1) := by decide +kernel
theorem d_Model_assemble_52 : decode c_Model_assemble 52 = .ok (.getfield 126, 3) := by decide +kernel
theorem d_Model_assemble_55 : decode c_Model_assemble 55 = .ok (.ifCond .ne 48, 3) := by decide +kernel
theorem d_Model_assemble_58 : decode c_Model_assemble 58 = .ok (.aload_n 0, 1) := by decide +kernel
theorem d_Model_assemble_59 : decode c_Model_assemble 59 = .ok (.getfield 16, 3) := by decide +kernel
theorem d_Model_assemble_62 : decode c_Model_assemble 62 = .ok (.iload_n 1, 1) := by decide +kernel
theorem d_Model_assemble_63 : decode c_Model_assemble 63 = .ok (.iaload, 1) := by decide +kernel
theorem d_Model_assemble_64 : decode c_Model_assemble 64 = .ok (.iconst 5, 1) := by decide +kernel
theorem d_Model_assemble_65 : decode c_Model_assemble 65 = .ok (.if_icmp .ne 32, 3) := by decide +kernel
theorem d_Model_assemble_68 : decode c_Model_assemble 68 = .ok (.aload_n 0, 1) := by decide +kernel
theorem d_Model_assemble_69 : decode c_Model_assemble 69 = .ok (.iload_n 1, 1) := by decide +kernel
theorem d_Model_assemble_70 : decode c_Model_assemble 70 = .ok (.invokevirtual 195, 3) := by decide +kernel
theorem d_Model_assemble_73 : decode c_Model_assemble 73 = .ok (.aload_n 0, 1) := by decide +kernel
theorem d_Model_assemble_74 : decode c_Model_assemble 74 = .ok (.getfield 34, 3) := by decide +kernel
theorem d_Model_assemble_77 : decode c_Model_assemble 77 = .ok (.iload_n 1, 1) := by decide +kernel
theorem d_Model_assemble_78 : decode c_Model_assemble 78 = .ok (.iaload, 1) := by decide +kernel
theorem d_Model_assemble_79 : decode c_Model_assemble 79 = .ok (.bipush 16, 2) := by decide +kernel
theorem d_Model_assemble_81 : decode c_Model_assemble 81 = .ok (.iadd, 1) := by decide +kernel
theorem d_Model_assemble_82 : decode c_Model_assemble 82 = .ok (.if_icmp .le 15, 3) := by decide +kernel
theorem d_Model_assemble_85 : decode c_Model_assemble 85 = .ok (.aload_n 0, 1) := by decide +kernel
theorem d_Model_assemble_86 : decode c_Model_assemble 86 = .ok (.bipush 6, 2) := by decide +kernel
theorem d_Model_assemble_88 : decode c_Model_assemble 88 = .ok (.aload_n 0, 1) := by decide +kernel
theorem d_Model_assemble_89 : decode c_Model_assemble 89 = .ok (.getfield 28, 3) := by decide +kernel
theorem d_Model_assemble_92 : decode c_Model_assemble 92 = .ok (.iload_n 1, 1) := by decide +kernel
theorem d_Model_assemble_93 : decode c_Model_assemble 93 = .ok (.iaload, 1) := by decide +kernel
theorem d_Model_assemble_94 : decode c_Model_assemble 94 = .ok (.invokevirtual 135, 3) := by decide +kernel
theorem d_Model_assemble_97 : decode c_Model_assemble 97 = .ok (.iinc 1 1, 3) := by decide +kernel
theorem d_Model_assemble_100 : decode c_Model_assemble 100 = .ok (.goto (-57), 3) := by decide +kernel
theorem d_Model_assemble_103 : decode c_Model_assemble 103 = .ok (.aload_n 0, 1) := by decide +kernel
theorem d_Model_assemble_104 : decode c_Model_assemble 104 = .ok (.getfield 126, 3) := by decide +kernel
theorem d_Model_assemble_107 : decode c_Model_assemble 107 = .ok (.ifCond .ne 7, 3) := by decide +kernel
theorem d_Model_assemble_110 : decode c_Model_assemble 110 = .ok (.aload_n 0, 1) := by decide +kernel
theorem d_Model_assemble_111 : decode c_Model_assemble 111 = .ok (.invokevirtual 198, 3) := by decide +kernel
theorem d_Model_assemble_114 : decode c_Model_assemble 114 = .ok (.return_, 1) := by decide +kernel
theorem d_Model_firstAt_0 : decode c_Model_firstAt 0 = .ok (.iload_n 1, 1) := by decide +kernel
theorem d_Model_firstAt_1 : decode c_Model_firstAt 1 = .ok (.iconst 0, 1) := by decide +kernel
theorem d_Model_firstAt_2 : decode c_Model_firstAt 2 = .ok (.aload_n 0, 1) := by decide +kernel
theorem d_Model_firstAt_3 : decode c_Model_firstAt 3 = .ok (.getfield 165, 3) := by decide +kernel
theorem d_Model_firstAt_6 : decode c_Model_firstAt 6 = .ok (.iconst 1, 1) := by decide +kernel
theorem d_Model_firstAt_7 : decode c_Model_firstAt 7 = .ok (.isub, 1) := by decide +kernel
theorem d_Model_firstAt_8 : decode c_Model_firstAt 8 = .ok (.invokestatic 84, 3) := by decide +kernel
theorem d_Model_firstAt_11 : decode c_Model_firstAt 11 = .ok (.ifCond .ne 5, 3) := by decide +kernel
theorem d_Model_firstAt_14 : decode c_Model_firstAt 14 = .ok (.iconst (-1), 1) := by decide +kernel
theorem d_Model_firstAt_15 : decode c_Model_firstAt 15 = .ok (.ireturn, 1) := by decide +kernel
theorem d_Model_firstAt_16 : decode c_Model_firstAt 16 = .ok (.iconst 0, 1) := by decide +kernel
theorem d_Model_firstAt_17 : decode c_Model_firstAt 17 = .ok (.istore_n 2, 1) := by decide +kernel
theorem d_Model_firstAt_18 : decode c_Model_firstAt 18 = .ok (.aload_n 0, 1) := by decide +kernel
theorem d_Model_firstAt_19 : decode c_Model_firstAt 19 = .ok (.getfield 34, 3) := by decide +kernel
theorem d_Model_firstAt_22 : decode c_Model_firstAt 22 = .ok (.iload_n 2, 1) := by decide +kernel
theorem d_Model_firstAt_23 : decode c_Model_firstAt 23 = .ok (.iaload, 1) := by decide +kernel
theorem d_Model_firstAt_24 : decode c_Model_firstAt 24 = .ok (.iload_n 1, 1) := by decide +kernel
theorem d_Model_firstAt_25 : decode c_Model_firstAt 25 = .ok (.if_icmp .eq 16, 3) := by decide +kernel
theorem d_Model_firstAt_28 : decode c_Model_firstAt 28 = .ok (.iinc 2 1, 3) := by decide +kernel
theorem d_Model_firstAt_31 : decode c_Model_firstAt 31 = .ok (.iload_n 2, 1) := by decide +kernel
theorem d_Model_firstAt_32 : decode c_Model_firstAt 32 = .ok (.aload_n 0, 1) := by decide +kernel
theorem d_Model_firstAt_33 : decode c_Model_firstAt 33 = .ok (.getfield 132, 3) := by decide +kernel
theorem d_Model_firstAt_36 : decode c_Model_firstAt 36 = .ok (.if_icmp .ne (-18), 3) := by decide +kernel
theorem d_Model_firstAt_39 : decode c_Model_firstAt 39 = .ok (.iconst (-1), 1) := by decide +kernel
theorem d_Model_firstAt_40 : decode c_Model_firstAt 40 = .ok (.ireturn, 1) := by decide +kernel
theorem d_Model_firstAt_41 : decode c_Model_firstAt 41 = .ok (.iload_n 2, 1) := by decide +kernel
theorem d_Model_firstAt_42 : decode c_Model_firstAt 42 = .ok (.ireturn, 1) := by decide +kernel
theorem d_Model_goesOn_0 : decode c_Model_goesOn 0 = .ok (.aload_n 0, 1) := by decide +kernel
theorem d_Model_goesOn_1 : decode c_Model_goesOn 1 = .ok (.getfield 16, 3) := by decide +kernel
theorem d_Model_goesOn_4 : decode c_Model_goesOn 4 = .ok (.iload_n 1, 1) := by decide +kernel
theorem d_Model_goesOn_5 : decode c_Model_goesOn 5 = .ok (.iaload, 1) := by decide +kernel
theorem d_Model_goesOn_6 : decode c_Model_goesOn 6 = .ok (.ifCond .eq 64, 3) := by decide +kernel
theorem d_Model_goesOn_9 : decode c_Model_goesOn 9 = .ok (.aload_n 0, 1) := by decide +kernel
theorem d_Model_goesOn_10 : decode c_Model_goesOn 10 = .ok (.getfield 16, 3) := by decide +kernel
theorem d_Model_goesOn_13 : decode c_Model_goesOn 13 = .ok (.iload_n 1, 1) := by decide +kernel
theorem d_Model_goesOn_14 : decode c_Model_goesOn 14 = .ok (.iaload, 1) := by decide +kernel
theorem d_Model_goesOn_15 : decode c_Model_goesOn 15 = .ok (.iconst 1, 1) := by decide +kernel
theorem d_Model_goesOn_16 : decode c_Model_goesOn 16 = .ok (.if_icmp .eq 54, 3) := by decide +kernel
theorem d_Model_goesOn_19 : decode c_Model_goesOn 19 = .ok (.aload_n 0, 1) := by decide +kernel
theorem d_Model_goesOn_20 : decode c_Model_goesOn 20 = .ok (.getfield 16, 3) := by decide +kernel
theorem d_Model_goesOn_23 : decode c_Model_goesOn 23 = .ok (.iload_n 1, 1) := by decide +kernel
theorem d_Model_goesOn_24 : decode c_Model_goesOn 24 = .ok (.iaload, 1) := by decide +kernel
theorem d_Model_goesOn_25 : decode c_Model_goesOn 25 = .ok (.iconst 5, 1) := by decide +kernel
theorem d_Model_goesOn_26 : decode c_Model_goesOn 26 = .ok (.if_icmp .eq 44, 3) := by decide +kernel
theorem d_Model_goesOn_29 : decode c_Model_goesOn 29 = .ok (.aload_n 0, 1) := by decide +kernel
theorem d_Model_goesOn_30 : decode c_Model_goesOn 30 = .ok (.getfield 16, 3) := by decide +kernel
theorem d_Model_goesOn_33 : decode c_Model_goesOn 33 = .ok (.iload_n 1, 1) := by decide +kernel
theorem d_Model_goesOn_34 : decode c_Model_goesOn 34 = .ok (.iaload, 1) := by decide +kernel
theorem d_Model_goesOn_35 : decode c_Model_goesOn 35 = .ok (.iconst 4, 1) := by decide +kernel
theorem d_Model_goesOn_36 : decode c_Model_goesOn 36 = .ok (.if_icmp .eq 34, 3) := by decide +kernel
theorem d_Model_goesOn_39 : decode c_Model_goesOn 39 = .ok (.aload_n 0, 1) := by decide +kernel
theorem d_Model_goesOn_40 : decode c_Model_goesOn 40 = .ok (.getfield 16, 3) := by decide +kernel
theorem d_Model_goesOn_43 : decode c_Model_goesOn 43 = .ok (.iload_n 1, 1) := by decide +kernel
theorem d_Model_goesOn_44 : decode c_Model_goesOn 44 = .ok (.iaload, 1) := by decide +kernel
theorem d_Model_goesOn_45 : decode c_Model_goesOn 45 = .ok (.bipush 6, 2) := by decide +kernel
theorem d_Model_goesOn_47 : decode c_Model_goesOn 47 = .ok (.if_icmp .eq 14, 3) := by decide +kernel
theorem d_Model_goesOn_50 : decode c_Model_goesOn 50 = .ok (.aload_n 0, 1) := by decide +kernel
theorem d_Model_goesOn_51 : decode c_Model_goesOn 51 = .ok (.getfield 16, 3) := by decide +kernel
theorem d_Model_goesOn_54 : decode c_Model_goesOn 54 = .ok (.iload_n 1, 1) := by decide +kernel
theorem d_Model_goesOn_55 : decode c_Model_goesOn 55 = .ok (.iaload, 1) := by decide +kernel
theorem d_Model_goesOn_56 : decode c_Model_goesOn 56 = .ok (.bipush 7, 2) := by decide +kernel
theorem d_Model_goesOn_58 : decode c_Model_goesOn 58 = .ok (.if_icmp .ne 16, 3) := by decide +kernel
theorem d_Model_goesOn_61 : decode c_Model_goesOn 61 = .ok (.aload_n 0, 1) := by decide +kernel
theorem d_Model_goesOn_62 : decode c_Model_goesOn 62 = .ok (.getfield 37, 3) := by decide +kernel
theorem d_Model_goesOn_65 : decode c_Model_goesOn 65 = .ok (.iload_n 1, 1) := by decide +kernel
theorem d_Model_goesOn_66 : decode c_Model_goesOn 66 = .ok (.iaload, 1) := by decide +kernel
theorem d_Model_goesOn_67 : decode c_Model_goesOn 67 = .ok (.ifCond .ne 7, 3) := by decide +kernel
theorem d_Model_goesOn_70 : decode c_Model_goesOn 70 = .ok (.iconst 1, 1) := by decide +kernel
theorem d_Model_goesOn_71 : decode c_Model_goesOn 71 = .ok (.goto 4, 3) := by decide +kernel
theorem d_Model_goesOn_74 : decode c_Model_goesOn 74 = .ok (.iconst 0, 1) := by decide +kernel
theorem d_Model_goesOn_75 : decode c_Model_goesOn 75 = .ok (.ireturn, 1) := by decide +kernel
theorem d_Model_follow_0 : decode c_Model_follow 0 = .ok (.iconst 0, 1) := by decide +kernel
theorem d_Model_follow_1 : decode c_Model_follow 1 = .ok (.istore_n 1, 1) := by decide +kernel
theorem d_Model_follow_2 : decode c_Model_follow 2 = .ok (.iload_n 1, 1) := by decide +kernel
theorem d_Model_follow_3 : decode c_Model_follow 3 = .ok (.aload_n 0, 1) := by decide +kernel
theorem d_Model_follow_4 : decode c_Model_follow 4 = .ok (.getfield 132, 3) := by decide +kernel
theorem d_Model_follow_7 : decode c_Model_follow 7 = .ok (.if_icmp .ge 16, 3) := by decide +kernel
theorem d_Model_follow_10 : decode c_Model_follow 10 = .ok (.aload_n 0, 1) := by decide +kernel
theorem d_Model_follow_11 : decode c_Model_follow 11 = .ok (.getfield 65, 3) := by decide +kernel
theorem d_Model_follow_14 : decode c_Model_follow 14 = .ok (.iload_n 1, 1) := by decide +kernel
theorem d_Model_follow_15 : decode c_Model_follow 15 = .ok (.iconst 0, 1) := by decide +kernel
theorem d_Model_follow_16 : decode c_Model_follow 16 = .ok (.bastore, 1) := by decide +kernel
theorem d_Model_follow_17 : decode c_Model_follow 17 = .ok (.iinc 1 1, 3) := by decide +kernel
theorem d_Model_follow_20 : decode c_Model_follow 20 = .ok (.goto (-18), 3) := by decide +kernel
theorem d_Model_follow_23 : decode c_Model_follow 23 = .ok (.sipush 244, 3) := by decide +kernel
theorem d_Model_follow_26 : decode c_Model_follow 26 = .ok (.newarray .int, 2) := by decide +kernel
theorem d_Model_follow_28 : decode c_Model_follow 28 = .ok (.astore_n 1, 1) := by decide +kernel
theorem d_Model_follow_29 : decode c_Model_follow 29 = .ok (.iconst 0, 1) := by decide +kernel
theorem d_Model_follow_30 : decode c_Model_follow 30 = .ok (.istore_n 2, 1) := by decide +kernel
theorem d_Model_follow_31 : decode c_Model_follow 31 = .ok (.aload_n 1, 1) := by decide +kernel
theorem d_Model_follow_32 : decode c_Model_follow 32 = .ok (.iload_n 2, 1) := by decide +kernel
theorem d_Model_follow_33 : decode c_Model_follow 33 = .ok (.iinc 2 1, 3) := by decide +kernel
theorem d_Model_follow_36 : decode c_Model_follow 36 = .ok (.iconst 0, 1) := by decide +kernel
theorem d_Model_follow_37 : decode c_Model_follow 37 = .ok (.iastore, 1) := by decide +kernel
theorem d_Model_follow_38 : decode c_Model_follow 38 = .ok (.iload_n 2, 1) := by decide +kernel
theorem d_Model_follow_39 : decode c_Model_follow 39 = .ok (.ifCond .le 104, 3) := by decide +kernel
theorem d_Model_follow_42 : decode c_Model_follow 42 = .ok (.aload_n 1, 1) := by decide +kernel
theorem d_Model_follow_43 : decode c_Model_follow 43 = .ok (.iinc 2 (-1), 3) := by decide +kernel
theorem d_Model_follow_46 : decode c_Model_follow 46 = .ok (.iload_n 2, 1) := by decide +kernel
theorem d_Model_follow_47 : decode c_Model_follow 47 = .ok (.iaload, 1) := by decide +kernel
theorem d_Model_follow_48 : decode c_Model_follow 48 = .ok (.istore_n 3, 1) := by decide +kernel
theorem d_Model_follow_49 : decode c_Model_follow 49 = .ok (.iload_n 3, 1) := by decide +kernel
theorem d_Model_follow_50 : decode c_Model_follow 50 = .ok (.iconst 0, 1) := by decide +kernel
theorem d_Model_follow_51 : decode c_Model_follow 51 = .ok (.aload_n 0, 1) := by decide +kernel
theorem d_Model_follow_52 : decode c_Model_follow 52 = .ok (.getfield 132, 3) := by decide +kernel
theorem d_Model_follow_55 : decode c_Model_follow 55 = .ok (.iconst 1, 1) := by decide +kernel
theorem d_Model_follow_56 : decode c_Model_follow 56 = .ok (.isub, 1) := by decide +kernel
theorem d_Model_follow_57 : decode c_Model_follow 57 = .ok (.invokestatic 84, 3) := by decide +kernel
theorem d_Model_follow_60 : decode c_Model_follow 60 = .ok (.ifCond .eq (-22), 3) := by decide +kernel
theorem d_Model_follow_63 : decode c_Model_follow 63 = .ok (.aload_n 0, 1) := by decide +kernel
theorem d_Model_follow_64 : decode c_Model_follow 64 = .ok (.getfield 65, 3) := by decide +kernel
theorem d_Model_follow_67 : decode c_Model_follow 67 = .ok (.iload_n 3, 1) := by decide +kernel
theorem d_Model_follow_68 : decode c_Model_follow 68 = .ok (.baload, 1) := by decide +kernel
theorem d_Model_follow_69 : decode c_Model_follow 69 = .ok (.ifCond .ne (-31), 3) := by decide +kernel
theorem d_Model_follow_72 : decode c_Model_follow 72 = .ok (.aload_n 0, 1) := by decide +kernel
theorem d_Model_follow_73 : decode c_Model_follow 73 = .ok (.iload_n 3, 1) := by decide +kernel
theorem d_Model_follow_74 : decode c_Model_follow 74 = .ok (.invokevirtual 201, 3) := by decide +kernel
theorem d_Model_follow_77 : decode c_Model_follow 77 = .ok (.ifCond .ne 16, 3) := by decide +kernel
theorem d_Model_follow_80 : decode c_Model_follow 80 = .ok (.aload_n 0, 1) := by decide +kernel
theorem d_Model_follow_81 : decode c_Model_follow 81 = .ok (.getfield 16, 3) := by decide +kernel
theorem d_Model_follow_84 : decode c_Model_follow 84 = .ok (.iload_n 3, 1) := by decide +kernel
theorem d_Model_follow_85 : decode c_Model_follow 85 = .ok (.iaload, 1) := by decide +kernel
theorem d_Model_follow_86 : decode c_Model_follow 86 = .ok (.iconst 3, 1) := by decide +kernel
theorem d_Model_follow_87 : decode c_Model_follow 87 = .ok (.if_icmp .eq 6, 3) := by decide +kernel
theorem d_Model_follow_90 : decode c_Model_follow 90 = .ok (.goto (-52), 3) := by decide +kernel
theorem d_Model_follow_93 : decode c_Model_follow 93 = .ok (.aload_n 0, 1) := by decide +kernel
theorem d_Model_follow_94 : decode c_Model_follow 94 = .ok (.getfield 65, 3) := by decide +kernel
theorem d_Model_follow_97 : decode c_Model_follow 97 = .ok (.iload_n 3, 1) := by decide +kernel
theorem d_Model_follow_98 : decode c_Model_follow 98 = .ok (.iconst 1, 1) := by decide +kernel
theorem d_Model_follow_99 : decode c_Model_follow 99 = .ok (.bastore, 1) := by decide +kernel
theorem d_Model_follow_100 : decode c_Model_follow 100 = .ok (.aload_n 0, 1) := by decide +kernel
theorem d_Model_follow_101 : decode c_Model_follow 101 = .ok (.iload_n 3, 1) := by decide +kernel
theorem d_Model_follow_102 : decode c_Model_follow 102 = .ok (.invokevirtual 201, 3) := by decide +kernel
theorem d_Model_follow_105 : decode c_Model_follow 105 = .ok (.ifCond .eq 12, 3) := by decide +kernel
theorem d_Model_follow_108 : decode c_Model_follow 108 = .ok (.aload_n 1, 1) := by decide +kernel
theorem d_Model_follow_109 : decode c_Model_follow 109 = .ok (.iload_n 2, 1) := by decide +kernel
theorem d_Model_follow_110 : decode c_Model_follow 110 = .ok (.iinc 2 1, 3) := by decide +kernel
theorem d_Model_follow_113 : decode c_Model_follow 113 = .ok (.iload_n 3, 1) := by decide +kernel
theorem d_Model_follow_114 : decode c_Model_follow 114 = .ok (.iconst 1, 1) := by decide +kernel
theorem d_Model_follow_115 : decode c_Model_follow 115 = .ok (.iadd, 1) := by decide +kernel
theorem d_Model_follow_116 : decode c_Model_follow 116 = .ok (.iastore, 1) := by decide +kernel
theorem d_Model_follow_117 : decode c_Model_follow 117 = .ok (.aload_n 0, 1) := by decide +kernel
theorem d_Model_follow_118 : decode c_Model_follow 118 = .ok (.iload_n 3, 1) := by decide +kernel
theorem d_Model_follow_119 : decode c_Model_follow 119 = .ok (.invokevirtual 177, 3) := by decide +kernel
theorem d_Model_follow_122 : decode c_Model_follow 122 = .ok (.ifCond .eq 18, 3) := by decide +kernel
theorem d_Model_follow_125 : decode c_Model_follow 125 = .ok (.aload_n 1, 1) := by decide +kernel
theorem d_Model_follow_126 : decode c_Model_follow 126 = .ok (.iload_n 2, 1) := by decide +kernel
theorem d_Model_follow_127 : decode c_Model_follow 127 = .ok (.iinc 2 1, 3) := by decide +kernel
theorem d_Model_follow_130 : decode c_Model_follow 130 = .ok (.aload_n 0, 1) := by decide +kernel
theorem d_Model_follow_131 : decode c_Model_follow 131 = .ok (.aload_n 0, 1) := by decide +kernel
theorem d_Model_follow_132 : decode c_Model_follow 132 = .ok (.iload_n 3, 1) := by decide +kernel
theorem d_Model_follow_133 : decode c_Model_follow 133 = .ok (.invokevirtual 168, 3) := by decide +kernel
theorem d_Model_follow_136 : decode c_Model_follow 136 = .ok (.invokevirtual 204, 3) := by decide +kernel
theorem d_Model_follow_139 : decode c_Model_follow 139 = .ok (.iastore, 1) := by decide +kernel
theorem d_Model_follow_140 : decode c_Model_follow 140 = .ok (.goto (-102), 3) := by decide +kernel
theorem d_Model_follow_143 : decode c_Model_follow 143 = .ok (.return_, 1) := by decide +kernel
theorem d_Model_fault_0 : decode c_Model_fault 0 = .ok (.aload_n 0, 1) := by decide +kernel
theorem d_Model_fault_1 : decode c_Model_fault 1 = .ok (.iconst 0, 1) := by decide +kernel
theorem d_Model_fault_2 : decode c_Model_fault 2 = .ok (.putfield 80, 3) := by decide +kernel
theorem d_Model_fault_5 : decode c_Model_fault 5 = .ok (.aload_n 0, 1) := by decide +kernel
theorem d_Model_fault_6 : decode c_Model_fault 6 = .ok (.getfield 126, 3) := by decide +kernel
theorem d_Model_fault_9 : decode c_Model_fault 9 = .ok (.ireturn, 1) := by decide +kernel
theorem d_Model_faultAt_0 : decode c_Model_faultAt 0 = .ok (.aload_n 0, 1) := by decide +kernel
theorem d_Model_faultAt_1 : decode c_Model_faultAt 1 = .ok (.iconst 0, 1) := by decide +kernel
theorem d_Model_faultAt_2 : decode c_Model_faultAt 2 = .ok (.putfield 80, 3) := by decide +kernel
theorem d_Model_faultAt_5 : decode c_Model_faultAt 5 = .ok (.aload_n 0, 1) := by decide +kernel
theorem d_Model_faultAt_6 : decode c_Model_faultAt 6 = .ok (.getfield 129, 3) := by decide +kernel
theorem d_Model_faultAt_9 : decode c_Model_faultAt 9 = .ok (.ireturn, 1) := by decide +kernel
theorem d_Model_ofItemNow_0 : decode c_Model_ofItemNow 0 = .ok (.iload_n 2, 1) := by decide +kernel
theorem d_Model_ofItemNow_1 : decode c_Model_ofItemNow 1 = .ok (.tableswitch 100 0 6 #[43, 50, 57, 64, 71, 78, 85], 43) := by decide +kernel
theorem d_Model_ofItemNow_44 : decode c_Model_ofItemNow 44 = .ok (.aload_n 0, 1) := by decide +kernel
theorem d_Model_ofItemNow_45 : decode c_Model_ofItemNow 45 = .ok (.getfield 16, 3) := by decide +kernel
theorem d_Model_ofItemNow_48 : decode c_Model_ofItemNow 48 = .ok (.iload_n 1, 1) := by decide +kernel
theorem d_Model_ofItemNow_49 : decode c_Model_ofItemNow 49 = .ok (.iaload, 1) := by decide +kernel
theorem d_Model_ofItemNow_50 : decode c_Model_ofItemNow 50 = .ok (.ireturn, 1) := by decide +kernel
theorem d_Model_ofItemNow_51 : decode c_Model_ofItemNow 51 = .ok (.aload_n 0, 1) := by decide +kernel
theorem d_Model_ofItemNow_52 : decode c_Model_ofItemNow 52 = .ok (.getfield 34, 3) := by decide +kernel
theorem d_Model_ofItemNow_55 : decode c_Model_ofItemNow 55 = .ok (.iload_n 1, 1) := by decide +kernel
theorem d_Model_ofItemNow_56 : decode c_Model_ofItemNow 56 = .ok (.iaload, 1) := by decide +kernel
theorem d_Model_ofItemNow_57 : decode c_Model_ofItemNow 57 = .ok (.ireturn, 1) := by decide +kernel
theorem d_Model_ofItemNow_58 : decode c_Model_ofItemNow 58 = .ok (.aload_n 0, 1) := by decide +kernel
theorem d_Model_ofItemNow_59 : decode c_Model_ofItemNow 59 = .ok (.getfield 37, 3) := by decide +kernel
theorem d_Model_ofItemNow_62 : decode c_Model_ofItemNow 62 = .ok (.iload_n 1, 1) := by decide +kernel
theorem d_Model_ofItemNow_63 : decode c_Model_ofItemNow 63 = .ok (.iaload, 1) := by decide +kernel
theorem d_Model_ofItemNow_64 : decode c_Model_ofItemNow 64 = .ok (.ireturn, 1) := by decide +kernel
theorem d_Model_ofItemNow_65 : decode c_Model_ofItemNow 65 = .ok (.aload_n 0, 1) := by decide +kernel
theorem d_Model_ofItemNow_66 : decode c_Model_ofItemNow 66 = .ok (.getfield 28, 3) := by decide +kernel
theorem d_Model_ofItemNow_69 : decode c_Model_ofItemNow 69 = .ok (.iload_n 1, 1) := by decide +kernel
theorem d_Model_ofItemNow_70 : decode c_Model_ofItemNow 70 = .ok (.iaload, 1) := by decide +kernel
theorem d_Model_ofItemNow_71 : decode c_Model_ofItemNow 71 = .ok (.ireturn, 1) := by decide +kernel
theorem d_Model_ofItemNow_72 : decode c_Model_ofItemNow 72 = .ok (.aload_n 0, 1) := by decide +kernel
theorem d_Model_ofItemNow_73 : decode c_Model_ofItemNow 73 = .ok (.getfield 31, 3) := by decide +kernel
theorem d_Model_ofItemNow_76 : decode c_Model_ofItemNow 76 = .ok (.iload_n 1, 1) := by decide +kernel
theorem d_Model_ofItemNow_77 : decode c_Model_ofItemNow 77 = .ok (.iaload, 1) := by decide +kernel
theorem d_Model_ofItemNow_78 : decode c_Model_ofItemNow 78 = .ok (.ireturn, 1) := by decide +kernel
theorem d_Model_ofItemNow_79 : decode c_Model_ofItemNow 79 = .ok (.aload_n 0, 1) := by decide +kernel
theorem d_Model_ofItemNow_80 : decode c_Model_ofItemNow 80 = .ok (.getfield 25, 3) := by decide +kernel
theorem d_Model_ofItemNow_83 : decode c_Model_ofItemNow 83 = .ok (.iload_n 1, 1) := by decide +kernel
theorem d_Model_ofItemNow_84 : decode c_Model_ofItemNow 84 = .ok (.iaload, 1) := by decide +kernel
theorem d_Model_ofItemNow_85 : decode c_Model_ofItemNow 85 = .ok (.ireturn, 1) := by decide +kernel
theorem d_Model_ofItemNow_86 : decode c_Model_ofItemNow 86 = .ok (.aload_n 0, 1) := by decide +kernel
theorem d_Model_ofItemNow_87 : decode c_Model_ofItemNow 87 = .ok (.getfield 61, 3) := by decide +kernel
theorem d_Model_ofItemNow_90 : decode c_Model_ofItemNow 90 = .ok (.iload_n 1, 1) := by decide +kernel
theorem d_Model_ofItemNow_91 : decode c_Model_ofItemNow 91 = .ok (.baload, 1) := by decide +kernel
theorem d_Model_ofItemNow_92 : decode c_Model_ofItemNow 92 = .ok (.ifCond .eq 7, 3) := by decide +kernel
theorem d_Model_ofItemNow_95 : decode c_Model_ofItemNow 95 = .ok (.iconst 1, 1) := by decide +kernel
theorem d_Model_ofItemNow_96 : decode c_Model_ofItemNow 96 = .ok (.goto 4, 3) := by decide +kernel
theorem d_Model_ofItemNow_99 : decode c_Model_ofItemNow 99 = .ok (.iconst 0, 1) := by decide +kernel
theorem d_Model_ofItemNow_100 : decode c_Model_ofItemNow 100 = .ok (.ireturn, 1) := by decide +kernel
theorem d_Model_ofItemNow_101 : decode c_Model_ofItemNow 101 = .ok (.aload_n 0, 1) := by decide +kernel
theorem d_Model_ofItemNow_102 : decode c_Model_ofItemNow 102 = .ok (.getfield 65, 3) := by decide +kernel
theorem d_Model_ofItemNow_105 : decode c_Model_ofItemNow 105 = .ok (.iload_n 1, 1) := by decide +kernel
theorem d_Model_ofItemNow_106 : decode c_Model_ofItemNow 106 = .ok (.baload, 1) := by decide +kernel
theorem d_Model_ofItemNow_107 : decode c_Model_ofItemNow 107 = .ok (.ifCond .eq 7, 3) := by decide +kernel
theorem d_Model_ofItemNow_110 : decode c_Model_ofItemNow 110 = .ok (.iconst 1, 1) := by decide +kernel
theorem d_Model_ofItemNow_111 : decode c_Model_ofItemNow 111 = .ok (.goto 4, 3) := by decide +kernel
theorem d_Model_ofItemNow_114 : decode c_Model_ofItemNow 114 = .ok (.iconst 0, 1) := by decide +kernel
theorem d_Model_ofItemNow_115 : decode c_Model_ofItemNow 115 = .ok (.ireturn, 1) := by decide +kernel
theorem d_Model_isItem_0 : decode c_Model_isItem 0 = .ok (.aload_n 0, 1) := by decide +kernel
theorem d_Model_isItem_1 : decode c_Model_isItem 1 = .ok (.getfield 126, 3) := by decide +kernel
theorem d_Model_isItem_4 : decode c_Model_isItem 4 = .ok (.ifCond .ne 21, 3) := by decide +kernel
theorem d_Model_isItem_7 : decode c_Model_isItem 7 = .ok (.iload_n 1, 1) := by decide +kernel
theorem d_Model_isItem_8 : decode c_Model_isItem 8 = .ok (.iconst 0, 1) := by decide +kernel
theorem d_Model_isItem_9 : decode c_Model_isItem 9 = .ok (.aload_n 0, 1) := by decide +kernel
theorem d_Model_isItem_10 : decode c_Model_isItem 10 = .ok (.getfield 132, 3) := by decide +kernel
theorem d_Model_isItem_13 : decode c_Model_isItem 13 = .ok (.iconst 1, 1) := by decide +kernel
theorem d_Model_isItem_14 : decode c_Model_isItem 14 = .ok (.isub, 1) := by decide +kernel
theorem d_Model_isItem_15 : decode c_Model_isItem 15 = .ok (.invokestatic 84, 3) := by decide +kernel
theorem d_Model_isItem_18 : decode c_Model_isItem 18 = .ok (.ifCond .eq 7, 3) := by decide +kernel
theorem d_Model_isItem_21 : decode c_Model_isItem 21 = .ok (.iconst 1, 1) := by decide +kernel
theorem d_Model_isItem_22 : decode c_Model_isItem 22 = .ok (.goto 4, 3) := by decide +kernel
theorem d_Model_isItem_25 : decode c_Model_isItem 25 = .ok (.iconst 0, 1) := by decide +kernel
theorem d_Model_isItem_26 : decode c_Model_isItem 26 = .ok (.ireturn, 1) := by decide +kernel
theorem d_Model_ofItem_0 : decode c_Model_ofItem 0 = .ok (.aload_n 0, 1) := by decide +kernel
theorem d_Model_ofItem_1 : decode c_Model_ofItem 1 = .ok (.iconst 0, 1) := by decide +kernel
theorem d_Model_ofItem_2 : decode c_Model_ofItem 2 = .ok (.putfield 80, 3) := by decide +kernel
theorem d_Model_ofItem_5 : decode c_Model_ofItem 5 = .ok (.aload_n 0, 1) := by decide +kernel
theorem d_Model_ofItem_6 : decode c_Model_ofItem 6 = .ok (.iload_n 1, 1) := by decide +kernel
theorem d_Model_ofItem_7 : decode c_Model_ofItem 7 = .ok (.invokevirtual 207, 3) := by decide +kernel
theorem d_Model_ofItem_10 : decode c_Model_ofItem 10 = .ok (.ifCond .ne 9, 3) := by decide +kernel
theorem d_Model_ofItem_13 : decode c_Model_ofItem 13 = .ok (.aload_n 0, 1) := by decide +kernel
theorem d_Model_ofItem_14 : decode c_Model_ofItem 14 = .ok (.iconst 1, 1) := by decide +kernel
theorem d_Model_ofItem_15 : decode c_Model_ofItem 15 = .ok (.invokevirtual 100, 3) := by decide +kernel
theorem d_Model_ofItem_18 : decode c_Model_ofItem 18 = .ok (.ireturn, 1) := by decide +kernel
theorem d_Model_ofItem_19 : decode c_Model_ofItem 19 = .ok (.iload_n 2, 1) := by decide +kernel
theorem d_Model_ofItem_20 : decode c_Model_ofItem 20 = .ok (.iconst 0, 1) := by decide +kernel
theorem d_Model_ofItem_21 : decode c_Model_ofItem 21 = .ok (.bipush 7, 2) := by decide +kernel
theorem d_Model_ofItem_23 : decode c_Model_ofItem 23 = .ok (.invokestatic 84, 3) := by decide +kernel
theorem d_Model_ofItem_26 : decode c_Model_ofItem 26 = .ok (.ifCond .eq 12, 3) := by decide +kernel
theorem d_Model_ofItem_29 : decode c_Model_ofItem 29 = .ok (.aload_n 0, 1) := by decide +kernel
theorem d_Model_ofItem_30 : decode c_Model_ofItem 30 = .ok (.iload_n 1, 1) := by decide +kernel
theorem d_Model_ofItem_31 : decode c_Model_ofItem 31 = .ok (.iload_n 2, 1) := by decide +kernel
theorem d_Model_ofItem_32 : decode c_Model_ofItem 32 = .ok (.invokevirtual 210, 3) := by decide +kernel
theorem d_Model_ofItem_35 : decode c_Model_ofItem 35 = .ok (.goto 8, 3) := by decide +kernel
theorem d_Model_ofItem_38 : decode c_Model_ofItem 38 = .ok (.aload_n 0, 1) := by decide +kernel
theorem d_Model_ofItem_39 : decode c_Model_ofItem 39 = .ok (.iconst 2, 1) := by decide +kernel
theorem d_Model_ofItem_40 : decode c_Model_ofItem 40 = .ok (.invokevirtual 100, 3) := by decide +kernel
theorem d_Model_ofItem_43 : decode c_Model_ofItem 43 = .ok (.ireturn, 1) := by decide +kernel
theorem d_Model_isWord_0 : decode c_Model_isWord 0 = .ok (.aload_n 0, 1) := by decide +kernel
theorem d_Model_isWord_1 : decode c_Model_isWord 1 = .ok (.getfield 126, 3) := by decide +kernel
theorem d_Model_isWord_4 : decode c_Model_isWord 4 = .ok (.ifCond .ne 21, 3) := by decide +kernel
theorem d_Model_isWord_7 : decode c_Model_isWord 7 = .ok (.iload_n 1, 1) := by decide +kernel
theorem d_Model_isWord_8 : decode c_Model_isWord 8 = .ok (.iconst 0, 1) := by decide +kernel
theorem d_Model_isWord_9 : decode c_Model_isWord 9 = .ok (.aload_n 0, 1) := by decide +kernel
theorem d_Model_isWord_10 : decode c_Model_isWord 10 = .ok (.getfield 165, 3) := by decide +kernel
theorem d_Model_isWord_13 : decode c_Model_isWord 13 = .ok (.iconst 1, 1) := by decide +kernel
theorem d_Model_isWord_14 : decode c_Model_isWord 14 = .ok (.isub, 1) := by decide +kernel
theorem d_Model_isWord_15 : decode c_Model_isWord 15 = .ok (.invokestatic 84, 3) := by decide +kernel
theorem d_Model_isWord_18 : decode c_Model_isWord 18 = .ok (.ifCond .eq 7, 3) := by decide +kernel
theorem d_Model_isWord_21 : decode c_Model_isWord 21 = .ok (.iconst 1, 1) := by decide +kernel
theorem d_Model_isWord_22 : decode c_Model_isWord 22 = .ok (.goto 4, 3) := by decide +kernel
theorem d_Model_isWord_25 : decode c_Model_isWord 25 = .ok (.iconst 0, 1) := by decide +kernel
theorem d_Model_isWord_26 : decode c_Model_isWord 26 = .ok (.ireturn, 1) := by decide +kernel
theorem d_Model_itemAt_0 : decode c_Model_itemAt 0 = .ok (.iconst 0, 1) := by decide +kernel
theorem d_Model_itemAt_1 : decode c_Model_itemAt 1 = .ok (.istore_n 2, 1) := by decide +kernel
theorem d_Model_itemAt_2 : decode c_Model_itemAt 2 = .ok (.aload_n 0, 1) := by decide +kernel
theorem d_Model_itemAt_3 : decode c_Model_itemAt 3 = .ok (.getfield 34, 3) := by decide +kernel
theorem d_Model_itemAt_6 : decode c_Model_itemAt 6 = .ok (.iload_n 2, 1) := by decide +kernel
theorem d_Model_itemAt_7 : decode c_Model_itemAt 7 = .ok (.iaload, 1) := by decide +kernel
theorem d_Model_itemAt_8 : decode c_Model_itemAt 8 = .ok (.iload_n 1, 1) := by decide +kernel
theorem d_Model_itemAt_9 : decode c_Model_itemAt 9 = .ok (.if_icmp .gt 20, 3) := by decide +kernel
theorem d_Model_itemAt_12 : decode c_Model_itemAt 12 = .ok (.iload_n 1, 1) := by decide +kernel
theorem d_Model_itemAt_13 : decode c_Model_itemAt 13 = .ok (.aload_n 0, 1) := by decide +kernel
theorem d_Model_itemAt_14 : decode c_Model_itemAt 14 = .ok (.getfield 34, 3) := by decide +kernel
theorem d_Model_itemAt_17 : decode c_Model_itemAt 17 = .ok (.iload_n 2, 1) := by decide +kernel
theorem d_Model_itemAt_18 : decode c_Model_itemAt 18 = .ok (.iaload, 1) := by decide +kernel
theorem d_Model_itemAt_19 : decode c_Model_itemAt 19 = .ok (.aload_n 0, 1) := by decide +kernel
theorem d_Model_itemAt_20 : decode c_Model_itemAt 20 = .ok (.getfield 37, 3) := by decide +kernel
theorem d_Model_itemAt_23 : decode c_Model_itemAt 23 = .ok (.iload_n 2, 1) := by decide +kernel
theorem d_Model_itemAt_24 : decode c_Model_itemAt 24 = .ok (.iaload, 1) := by decide +kernel
theorem d_Model_itemAt_25 : decode c_Model_itemAt 25 = .ok (.iadd, 1) := by decide +kernel
theorem d_Model_itemAt_26 : decode c_Model_itemAt 26 = .ok (.if_icmp .lt 9, 3) := by decide +kernel
theorem d_Model_itemAt_29 : decode c_Model_itemAt 29 = .ok (.iinc 2 1, 3) := by decide +kernel
theorem d_Model_itemAt_32 : decode c_Model_itemAt 32 = .ok (.goto (-30), 3) := by decide +kernel
theorem d_Model_itemAt_35 : decode c_Model_itemAt 35 = .ok (.iload_n 2, 1) := by decide +kernel
theorem d_Model_itemAt_36 : decode c_Model_itemAt 36 = .ok (.ireturn, 1) := by decide +kernel
theorem d_Model_wordAt_0 : decode c_Model_wordAt 0 = .ok (.aload_n 0, 1) := by decide +kernel
theorem d_Model_wordAt_1 : decode c_Model_wordAt 1 = .ok (.iload_n 1, 1) := by decide +kernel
theorem d_Model_wordAt_2 : decode c_Model_wordAt 2 = .ok (.invokevirtual 213, 3) := by decide +kernel
theorem d_Model_wordAt_5 : decode c_Model_wordAt 5 = .ok (.istore_n 2, 1) := by decide +kernel
theorem d_Model_wordAt_6 : decode c_Model_wordAt 6 = .ok (.iload_n 1, 1) := by decide +kernel
theorem d_Model_wordAt_7 : decode c_Model_wordAt 7 = .ok (.aload_n 0, 1) := by decide +kernel
theorem d_Model_wordAt_8 : decode c_Model_wordAt 8 = .ok (.getfield 34, 3) := by decide +kernel
theorem d_Model_wordAt_11 : decode c_Model_wordAt 11 = .ok (.iload_n 2, 1) := by decide +kernel
theorem d_Model_wordAt_12 : decode c_Model_wordAt 12 = .ok (.iaload, 1) := by decide +kernel
theorem d_Model_wordAt_13 : decode c_Model_wordAt 13 = .ok (.isub, 1) := by decide +kernel
theorem d_Model_wordAt_14 : decode c_Model_wordAt 14 = .ok (.istore_n 3, 1) := by decide +kernel
theorem d_Model_wordAt_15 : decode c_Model_wordAt 15 = .ok (.aload_n 0, 1) := by decide +kernel
theorem d_Model_wordAt_16 : decode c_Model_wordAt 16 = .ok (.getfield 16, 3) := by decide +kernel
theorem d_Model_wordAt_19 : decode c_Model_wordAt 19 = .ok (.iload_n 2, 1) := by decide +kernel
theorem d_Model_wordAt_20 : decode c_Model_wordAt 20 = .ok (.iaload, 1) := by decide +kernel
theorem d_Model_wordAt_21 : decode c_Model_wordAt 21 = .ok (.tableswitch 195 2 6 #[35, 41, 78, 126, 145], 35) := by decide +kernel
theorem d_Model_wordAt_56 : decode c_Model_wordAt 56 = .ok (.aload_n 0, 1) := by decide +kernel
theorem d_Model_wordAt_57 : decode c_Model_wordAt 57 = .ok (.iload_n 2, 1) := by decide +kernel
theorem d_Model_wordAt_58 : decode c_Model_wordAt 58 = .ok (.invokevirtual 168, 3) := by decide +kernel
theorem d_Model_wordAt_61 : decode c_Model_wordAt 61 = .ok (.ireturn, 1) := by decide +kernel
theorem d_Model_wordAt_62 : decode c_Model_wordAt 62 = .ok (.aload_n 0, 1) := by decide +kernel
theorem d_Model_wordAt_63 : decode c_Model_wordAt 63 = .ok (.getfield 61, 3) := by decide +kernel
theorem d_Model_wordAt_66 : decode c_Model_wordAt 66 = .ok (.iload_n 2, 1) := by decide +kernel
theorem d_Model_wordAt_67 : decode c_Model_wordAt 67 = .ok (.baload, 1) := by decide +kernel
theorem d_Model_wordAt_68 : decode c_Model_wordAt 68 = .ok (.ifCond .ne 15, 3) := by decide +kernel
theorem d_Model_wordAt_71 : decode c_Model_wordAt 71 = .ok (.sipush 3008, 3) := by decide +kernel
theorem d_Model_wordAt_74 : decode c_Model_wordAt 74 = .ok (.aload_n 0, 1) := by decide +kernel
theorem d_Model_wordAt_75 : decode c_Model_wordAt 75 = .ok (.iload_n 2, 1) := by decide +kernel
theorem d_Model_wordAt_76 : decode c_Model_wordAt 76 = .ok (.invokevirtual 180, 3) := by decide +kernel
theorem d_Model_wordAt_79 : decode c_Model_wordAt 79 = .ok (.iadd, 1) := by decide +kernel
theorem d_Model_wordAt_80 : decode c_Model_wordAt 80 = .ok (.goto 18, 3) := by decide +kernel
theorem d_Model_wordAt_83 : decode c_Model_wordAt 83 = .ok (.iload_n 3, 1) := by decide +kernel
theorem d_Model_wordAt_84 : decode c_Model_wordAt 84 = .ok (.ifCond .ne 9, 3) := by decide +kernel
theorem d_Model_wordAt_87 : decode c_Model_wordAt 87 = .ok (.sipush 3100, 3) := by decide +kernel
theorem d_Model_wordAt_90 : decode c_Model_wordAt 90 = .ok (.goto 8, 3) := by decide +kernel
theorem d_Model_wordAt_93 : decode c_Model_wordAt 93 = .ok (.aload_n 0, 1) := by decide +kernel
theorem d_Model_wordAt_94 : decode c_Model_wordAt 94 = .ok (.iload_n 2, 1) := by decide +kernel
theorem d_Model_wordAt_95 : decode c_Model_wordAt 95 = .ok (.invokevirtual 168, 3) := by decide +kernel
theorem d_Model_wordAt_98 : decode c_Model_wordAt 98 = .ok (.ireturn, 1) := by decide +kernel
theorem d_Model_wordAt_99 : decode c_Model_wordAt 99 = .ok (.aload_n 0, 1) := by decide +kernel
theorem d_Model_wordAt_100 : decode c_Model_wordAt 100 = .ok (.getfield 61, 3) := by decide +kernel
theorem d_Model_wordAt_103 : decode c_Model_wordAt 103 = .ok (.iload_n 2, 1) := by decide +kernel
theorem d_Model_wordAt_104 : decode c_Model_wordAt 104 = .ok (.baload, 1) := by decide +kernel
theorem d_Model_wordAt_105 : decode c_Model_wordAt 105 = .ok (.ifCond .ne 15, 3) := by decide +kernel
theorem d_Model_wordAt_108 : decode c_Model_wordAt 108 = .ok (.sipush 4008, 3) := by decide +kernel
theorem d_Model_wordAt_111 : decode c_Model_wordAt 111 = .ok (.aload_n 0, 1) := by decide +kernel
theorem d_Model_wordAt_112 : decode c_Model_wordAt 112 = .ok (.iload_n 2, 1) := by decide +kernel
theorem d_Model_wordAt_113 : decode c_Model_wordAt 113 = .ok (.invokevirtual 180, 3) := by decide +kernel
theorem d_Model_wordAt_116 : decode c_Model_wordAt 116 = .ok (.iadd, 1) := by decide +kernel
theorem d_Model_wordAt_117 : decode c_Model_wordAt 117 = .ok (.goto 29, 3) := by decide +kernel
theorem d_Model_wordAt_120 : decode c_Model_wordAt 120 = .ok (.iload_n 3, 1) := by decide +kernel
theorem d_Model_wordAt_121 : decode c_Model_wordAt 121 = .ok (.ifCond .ne 9, 3) := by decide +kernel
theorem d_Model_wordAt_124 : decode c_Model_wordAt 124 = .ok (.sipush 4100, 3) := by decide +kernel
theorem d_Model_wordAt_127 : decode c_Model_wordAt 127 = .ok (.goto 19, 3) := by decide +kernel
theorem d_Model_wordAt_130 : decode c_Model_wordAt 130 = .ok (.iload_n 3, 1) := by decide +kernel
theorem d_Model_wordAt_131 : decode c_Model_wordAt 131 = .ok (.iconst 1, 1) := by decide +kernel
theorem d_Model_wordAt_132 : decode c_Model_wordAt 132 = .ok (.if_icmp .ne 9, 3) := by decide +kernel
theorem d_Model_wordAt_135 : decode c_Model_wordAt 135 = .ok (.sipush 3100, 3) := by decide +kernel
theorem d_Model_wordAt_138 : decode c_Model_wordAt 138 = .ok (.goto 8, 3) := by decide +kernel
theorem d_Model_wordAt_141 : decode c_Model_wordAt 141 = .ok (.aload_n 0, 1) := by decide +kernel
theorem d_Model_wordAt_142 : decode c_Model_wordAt 142 = .ok (.iload_n 2, 1) := by decide +kernel
theorem d_Model_wordAt_143 : decode c_Model_wordAt 143 = .ok (.invokevirtual 168, 3) := by decide +kernel
theorem d_Model_wordAt_146 : decode c_Model_wordAt 146 = .ok (.ireturn, 1) := by decide +kernel
theorem d_Model_wordAt_147 : decode c_Model_wordAt 147 = .ok (.sipush 5000, 3) := by decide +kernel
theorem d_Model_wordAt_150 : decode c_Model_wordAt 150 = .ok (.aload_n 0, 1) := by decide +kernel
theorem d_Model_wordAt_151 : decode c_Model_wordAt 151 = .ok (.iload_n 2, 1) := by decide +kernel
theorem d_Model_wordAt_152 : decode c_Model_wordAt 152 = .ok (.invokevirtual 195, 3) := by decide +kernel
theorem d_Model_wordAt_155 : decode c_Model_wordAt 155 = .ok (.iadd, 1) := by decide +kernel
theorem d_Model_wordAt_156 : decode c_Model_wordAt 156 = .ok (.aload_n 0, 1) := by decide +kernel
theorem d_Model_wordAt_157 : decode c_Model_wordAt 157 = .ok (.getfield 34, 3) := by decide +kernel
theorem d_Model_wordAt_160 : decode c_Model_wordAt 160 = .ok (.iload_n 2, 1) := by decide +kernel
theorem d_Model_wordAt_161 : decode c_Model_wordAt 161 = .ok (.iaload, 1) := by decide +kernel
theorem d_Model_wordAt_162 : decode c_Model_wordAt 162 = .ok (.isub, 1) := by decide +kernel
theorem d_Model_wordAt_163 : decode c_Model_wordAt 163 = .ok (.iconst 1, 1) := by decide +kernel
theorem d_Model_wordAt_164 : decode c_Model_wordAt 164 = .ok (.isub, 1) := by decide +kernel
theorem d_Model_wordAt_165 : decode c_Model_wordAt 165 = .ok (.ireturn, 1) := by decide +kernel
theorem d_Model_wordAt_166 : decode c_Model_wordAt 166 = .ok (.iconst 0, 1) := by decide +kernel
theorem d_Model_wordAt_167 : decode c_Model_wordAt 167 = .ok (.istore 4, 2) := by decide +kernel
theorem d_Model_wordAt_169 : decode c_Model_wordAt 169 = .ok (.aload_n 0, 1) := by decide +kernel
theorem d_Model_wordAt_170 : decode c_Model_wordAt 170 = .ok (.getfield 16, 3) := by decide +kernel
theorem d_Model_wordAt_173 : decode c_Model_wordAt 173 = .ok (.iload 4, 2) := by decide +kernel
theorem d_Model_wordAt_175 : decode c_Model_wordAt 175 = .ok (.iaload, 1) := by decide +kernel
theorem d_Model_wordAt_176 : decode c_Model_wordAt 176 = .ok (.iconst 5, 1) := by decide +kernel
theorem d_Model_wordAt_177 : decode c_Model_wordAt 177 = .ok (.if_icmp .ne 25, 3) := by decide +kernel
theorem d_Model_wordAt_180 : decode c_Model_wordAt 180 = .ok (.aload_n 0, 1) := by decide +kernel
theorem d_Model_wordAt_181 : decode c_Model_wordAt 181 = .ok (.getfield 52, 3) := by decide +kernel
theorem d_Model_wordAt_184 : decode c_Model_wordAt 184 = .ok (.iload 4, 2) := by decide +kernel
theorem d_Model_wordAt_186 : decode c_Model_wordAt 186 = .ok (.iaload, 1) := by decide +kernel
theorem d_Model_wordAt_187 : decode c_Model_wordAt 187 = .ok (.iload_n 2, 1) := by decide +kernel
theorem d_Model_wordAt_188 : decode c_Model_wordAt 188 = .ok (.if_icmp .ne 14, 3) := by decide +kernel
theorem d_Model_wordAt_191 : decode c_Model_wordAt 191 = .ok (.aload_n 0, 1) := by decide +kernel
theorem d_Model_wordAt_192 : decode c_Model_wordAt 192 = .ok (.getfield 55, 3) := by decide +kernel
theorem d_Model_wordAt_195 : decode c_Model_wordAt 195 = .ok (.iload 4, 2) := by decide +kernel
theorem d_Model_wordAt_197 : decode c_Model_wordAt 197 = .ok (.iaload, 1) := by decide +kernel
theorem d_Model_wordAt_198 : decode c_Model_wordAt 198 = .ok (.iload_n 3, 1) := by decide +kernel
theorem d_Model_wordAt_199 : decode c_Model_wordAt 199 = .ok (.if_icmp .eq 9, 3) := by decide +kernel
theorem d_Model_wordAt_202 : decode c_Model_wordAt 202 = .ok (.iinc 4 1, 3) := by decide +kernel
theorem d_Model_wordAt_205 : decode c_Model_wordAt 205 = .ok (.goto (-36), 3) := by decide +kernel
theorem d_Model_wordAt_208 : decode c_Model_wordAt 208 = .ok (.aload_n 0, 1) := by decide +kernel
theorem d_Model_wordAt_209 : decode c_Model_wordAt 209 = .ok (.getfield 25, 3) := by decide +kernel
theorem d_Model_wordAt_212 : decode c_Model_wordAt 212 = .ok (.iload 4, 2) := by decide +kernel
theorem d_Model_wordAt_214 : decode c_Model_wordAt 214 = .ok (.iaload, 1) := by decide +kernel
theorem d_Model_wordAt_215 : decode c_Model_wordAt 215 = .ok (.ireturn, 1) := by decide +kernel
theorem d_Model_wordAt_216 : decode c_Model_wordAt 216 = .ok (.iconst 0, 1) := by decide +kernel
theorem d_Model_wordAt_217 : decode c_Model_wordAt 217 = .ok (.ireturn, 1) := by decide +kernel
theorem d_Model_word_0 : decode c_Model_word 0 = .ok (.aload_n 0, 1) := by decide +kernel
theorem d_Model_word_1 : decode c_Model_word 1 = .ok (.iconst 0, 1) := by decide +kernel
theorem d_Model_word_2 : decode c_Model_word 2 = .ok (.putfield 80, 3) := by decide +kernel
theorem d_Model_word_5 : decode c_Model_word 5 = .ok (.aload_n 0, 1) := by decide +kernel
theorem d_Model_word_6 : decode c_Model_word 6 = .ok (.iload_n 1, 1) := by decide +kernel
theorem d_Model_word_7 : decode c_Model_word 7 = .ok (.invokevirtual 216, 3) := by decide +kernel
theorem d_Model_word_10 : decode c_Model_word 10 = .ok (.ifCond .eq 11, 3) := by decide +kernel
theorem d_Model_word_13 : decode c_Model_word 13 = .ok (.aload_n 0, 1) := by decide +kernel
theorem d_Model_word_14 : decode c_Model_word 14 = .ok (.iload_n 1, 1) := by decide +kernel
theorem d_Model_word_15 : decode c_Model_word 15 = .ok (.invokevirtual 219, 3) := by decide +kernel
theorem d_Model_word_18 : decode c_Model_word 18 = .ok (.goto 8, 3) := by decide +kernel
theorem d_Model_word_21 : decode c_Model_word 21 = .ok (.aload_n 0, 1) := by decide +kernel
theorem d_Model_word_22 : decode c_Model_word 22 = .ok (.iconst 1, 1) := by decide +kernel
theorem d_Model_word_23 : decode c_Model_word 23 = .ok (.invokevirtual 100, 3) := by decide +kernel
theorem d_Model_word_26 : decode c_Model_word 26 = .ok (.ireturn, 1) := by decide +kernel
theorem d_Model_itemOf_0 : decode c_Model_itemOf 0 = .ok (.aload_n 0, 1) := by decide +kernel
theorem d_Model_itemOf_1 : decode c_Model_itemOf 1 = .ok (.iconst 0, 1) := by decide +kernel
theorem d_Model_itemOf_2 : decode c_Model_itemOf 2 = .ok (.putfield 80, 3) := by decide +kernel
theorem d_Model_itemOf_5 : decode c_Model_itemOf 5 = .ok (.aload_n 0, 1) := by decide +kernel
theorem d_Model_itemOf_6 : decode c_Model_itemOf 6 = .ok (.iload_n 1, 1) := by decide +kernel
theorem d_Model_itemOf_7 : decode c_Model_itemOf 7 = .ok (.invokevirtual 216, 3) := by decide +kernel
theorem d_Model_itemOf_10 : decode c_Model_itemOf 10 = .ok (.ifCond .eq 11, 3) := by decide +kernel
theorem d_Model_itemOf_13 : decode c_Model_itemOf 13 = .ok (.aload_n 0, 1) := by decide +kernel
theorem d_Model_itemOf_14 : decode c_Model_itemOf 14 = .ok (.iload_n 1, 1) := by decide +kernel
theorem d_Model_itemOf_15 : decode c_Model_itemOf 15 = .ok (.invokevirtual 213, 3) := by decide +kernel
theorem d_Model_itemOf_18 : decode c_Model_itemOf 18 = .ok (.goto 8, 3) := by decide +kernel
theorem d_Model_itemOf_21 : decode c_Model_itemOf 21 = .ok (.aload_n 0, 1) := by decide +kernel
theorem d_Model_itemOf_22 : decode c_Model_itemOf 22 = .ok (.iconst 1, 1) := by decide +kernel
theorem d_Model_itemOf_23 : decode c_Model_itemOf 23 = .ok (.invokevirtual 100, 3) := by decide +kernel
theorem d_Model_itemOf_26 : decode c_Model_itemOf 26 = .ok (.ireturn, 1) := by decide +kernel
theorem d_Model_isCode_0 : decode c_Model_isCode 0 = .ok (.aload_n 0, 1) := by decide +kernel
theorem d_Model_isCode_1 : decode c_Model_isCode 1 = .ok (.aload_n 0, 1) := by decide +kernel
theorem d_Model_isCode_2 : decode c_Model_isCode 2 = .ok (.iload_n 1, 1) := by decide +kernel
theorem d_Model_isCode_3 : decode c_Model_isCode 3 = .ok (.invokevirtual 216, 3) := by decide +kernel
theorem d_Model_isCode_6 : decode c_Model_isCode 6 = .ok (.ifCond .eq 7, 3) := by decide +kernel
theorem d_Model_isCode_9 : decode c_Model_isCode 9 = .ok (.iconst 0, 1) := by decide +kernel
theorem d_Model_isCode_10 : decode c_Model_isCode 10 = .ok (.goto 4, 3) := by decide +kernel
theorem d_Model_isCode_13 : decode c_Model_isCode 13 = .ok (.iconst 1, 1) := by decide +kernel
theorem d_Model_isCode_14 : decode c_Model_isCode 14 = .ok (.putfield 80, 3) := by decide +kernel
theorem d_Model_isCode_17 : decode c_Model_isCode 17 = .ok (.aload_n 0, 1) := by decide +kernel
theorem d_Model_isCode_18 : decode c_Model_isCode 18 = .ok (.getfield 80, 3) := by decide +kernel
theorem d_Model_isCode_21 : decode c_Model_isCode 21 = .ok (.ifCond .ne 20, 3) := by decide +kernel
theorem d_Model_isCode_24 : decode c_Model_isCode 24 = .ok (.aload_n 0, 1) := by decide +kernel
theorem d_Model_isCode_25 : decode c_Model_isCode 25 = .ok (.getfield 65, 3) := by decide +kernel
theorem d_Model_isCode_28 : decode c_Model_isCode 28 = .ok (.aload_n 0, 1) := by decide +kernel
theorem d_Model_isCode_29 : decode c_Model_isCode 29 = .ok (.iload_n 1, 1) := by decide +kernel
theorem d_Model_isCode_30 : decode c_Model_isCode 30 = .ok (.invokevirtual 213, 3) := by decide +kernel
theorem d_Model_isCode_33 : decode c_Model_isCode 33 = .ok (.baload, 1) := by decide +kernel
theorem d_Model_isCode_34 : decode c_Model_isCode 34 = .ok (.ifCond .eq 7, 3) := by decide +kernel
theorem d_Model_isCode_37 : decode c_Model_isCode 37 = .ok (.iconst 1, 1) := by decide +kernel
theorem d_Model_isCode_38 : decode c_Model_isCode 38 = .ok (.goto 4, 3) := by decide +kernel
theorem d_Model_isCode_41 : decode c_Model_isCode 41 = .ok (.iconst 0, 1) := by decide +kernel
theorem d_Model_isCode_42 : decode c_Model_isCode 42 = .ok (.ireturn, 1) := by decide +kernel
theorem d_Model_valueNow_0 : decode c_Model_valueNow 0 = .ok (.aload_n 0, 1) := by decide +kernel
theorem d_Model_valueNow_1 : decode c_Model_valueNow 1 = .ok (.getfield 74, 3) := by decide +kernel
theorem d_Model_valueNow_4 : decode c_Model_valueNow 4 = .ok (.iload_n 1, 1) := by decide +kernel
theorem d_Model_valueNow_5 : decode c_Model_valueNow 5 = .ok (.iaload, 1) := by decide +kernel
theorem d_Model_valueNow_6 : decode c_Model_valueNow 6 = .ok (.iconst (-1), 1) := by decide +kernel
theorem d_Model_valueNow_7 : decode c_Model_valueNow 7 = .ok (.if_icmp .eq 15, 3) := by decide +kernel
theorem d_Model_valueNow_10 : decode c_Model_valueNow 10 = .ok (.aload_n 0, 1) := by decide +kernel
theorem d_Model_valueNow_11 : decode c_Model_valueNow 11 = .ok (.getfield 34, 3) := by decide +kernel
theorem d_Model_valueNow_14 : decode c_Model_valueNow 14 = .ok (.aload_n 0, 1) := by decide +kernel
theorem d_Model_valueNow_15 : decode c_Model_valueNow 15 = .ok (.getfield 74, 3) := by decide +kernel
theorem d_Model_valueNow_18 : decode c_Model_valueNow 18 = .ok (.iload_n 1, 1) := by decide +kernel
theorem d_Model_valueNow_19 : decode c_Model_valueNow 19 = .ok (.iaload, 1) := by decide +kernel
theorem d_Model_valueNow_20 : decode c_Model_valueNow 20 = .ok (.iaload, 1) := by decide +kernel
theorem d_Model_valueNow_21 : decode c_Model_valueNow 21 = .ok (.ireturn, 1) := by decide +kernel
theorem d_Model_valueNow_22 : decode c_Model_valueNow 22 = .ok (.aload_n 0, 1) := by decide +kernel
theorem d_Model_valueNow_23 : decode c_Model_valueNow 23 = .ok (.getfield 68, 3) := by decide +kernel
theorem d_Model_valueNow_26 : decode c_Model_valueNow 26 = .ok (.iload_n 1, 1) := by decide +kernel
theorem d_Model_valueNow_27 : decode c_Model_valueNow 27 = .ok (.iaload, 1) := by decide +kernel
theorem d_Model_valueNow_28 : decode c_Model_valueNow 28 = .ok (.iconst 1, 1) := by decide +kernel
theorem d_Model_valueNow_29 : decode c_Model_valueNow 29 = .ok (.if_icmp .ne 12, 3) := by decide +kernel
theorem d_Model_valueNow_32 : decode c_Model_valueNow 32 = .ok (.aload_n 0, 1) := by decide +kernel
theorem d_Model_valueNow_33 : decode c_Model_valueNow 33 = .ok (.getfield 71, 3) := by decide +kernel
theorem d_Model_valueNow_36 : decode c_Model_valueNow 36 = .ok (.iload_n 1, 1) := by decide +kernel
theorem d_Model_valueNow_37 : decode c_Model_valueNow 37 = .ok (.iaload, 1) := by decide +kernel
theorem d_Model_valueNow_38 : decode c_Model_valueNow 38 = .ok (.goto 4, 3) := by decide +kernel
theorem d_Model_valueNow_41 : decode c_Model_valueNow 41 = .ok (.iconst (-1), 1) := by decide +kernel
theorem d_Model_valueNow_42 : decode c_Model_valueNow 42 = .ok (.ireturn, 1) := by decide +kernel
theorem d_Model_value_0 : decode c_Model_value 0 = .ok (.aload_n 0, 1) := by decide +kernel
theorem d_Model_value_1 : decode c_Model_value 1 = .ok (.iconst 0, 1) := by decide +kernel
theorem d_Model_value_2 : decode c_Model_value 2 = .ok (.putfield 80, 3) := by decide +kernel
theorem d_Model_value_5 : decode c_Model_value 5 = .ok (.aload_n 0, 1) := by decide +kernel
theorem d_Model_value_6 : decode c_Model_value 6 = .ok (.getfield 126, 3) := by decide +kernel
theorem d_Model_value_9 : decode c_Model_value 9 = .ok (.ifCond .ne 21, 3) := by decide +kernel
theorem d_Model_value_12 : decode c_Model_value 12 = .ok (.iload_n 1, 1) := by decide +kernel
theorem d_Model_value_13 : decode c_Model_value 13 = .ok (.iconst 0, 1) := by decide +kernel
theorem d_Model_value_14 : decode c_Model_value 14 = .ok (.bipush 7, 2) := by decide +kernel
theorem d_Model_value_16 : decode c_Model_value 16 = .ok (.invokestatic 84, 3) := by decide +kernel
theorem d_Model_value_19 : decode c_Model_value 19 = .ok (.ifCond .eq 11, 3) := by decide +kernel
theorem d_Model_value_22 : decode c_Model_value 22 = .ok (.aload_n 0, 1) := by decide +kernel
theorem d_Model_value_23 : decode c_Model_value 23 = .ok (.iload_n 1, 1) := by decide +kernel
theorem d_Model_value_24 : decode c_Model_value 24 = .ok (.invokevirtual 222, 3) := by decide +kernel
theorem d_Model_value_27 : decode c_Model_value 27 = .ok (.goto 8, 3) := by decide +kernel
theorem d_Model_value_30 : decode c_Model_value 30 = .ok (.aload_n 0, 1) := by decide +kernel
theorem d_Model_value_31 : decode c_Model_value 31 = .ok (.iconst 1, 1) := by decide +kernel
theorem d_Model_value_32 : decode c_Model_value 32 = .ok (.invokevirtual 100, 3) := by decide +kernel
theorem d_Model_value_35 : decode c_Model_value 35 = .ok (.ireturn, 1) := by decide +kernel
theorem d_Model_sum_0 : decode c_Model_sum 0 = .ok (.iconst 0, 1) := by decide +kernel
theorem d_Model_sum_1 : decode c_Model_sum 1 = .ok (.istore_n 2, 1) := by decide +kernel
theorem d_Model_sum_2 : decode c_Model_sum 2 = .ok (.iconst 0, 1) := by decide +kernel
theorem d_Model_sum_3 : decode c_Model_sum 3 = .ok (.istore_n 3, 1) := by decide +kernel
theorem d_Model_sum_4 : decode c_Model_sum 4 = .ok (.iload_n 3, 1) := by decide +kernel
theorem d_Model_sum_5 : decode c_Model_sum 5 = .ok (.aload_n 0, 1) := by decide +kernel
theorem d_Model_sum_6 : decode c_Model_sum 6 = .ok (.getfield 132, 3) := by decide +kernel
theorem d_Model_sum_9 : decode c_Model_sum 9 = .ok (.if_icmp .ge 202, 3) := by decide +kernel
theorem d_Model_sum_12 : decode c_Model_sum 12 = .ok (.iload_n 1, 1) := by decide +kernel
theorem d_Model_sum_13 : decode c_Model_sum 13 = .ok (.tableswitch 156 4 10 #[43, 62, 156, 82, 103, 103, 131], 43) := by decide +kernel
theorem d_Model_sum_56 : decode c_Model_sum 56 = .ok (.iload_n 2, 1) := by decide +kernel
theorem d_Model_sum_57 : decode c_Model_sum 57 = .ok (.aload_n 0, 1) := by decide +kernel
theorem d_Model_sum_58 : decode c_Model_sum 58 = .ok (.iload_n 3, 1) := by decide +kernel
theorem d_Model_sum_59 : decode c_Model_sum 59 = .ok (.invokevirtual 177, 3) := by decide +kernel
theorem d_Model_sum_62 : decode c_Model_sum 62 = .ok (.ifCond .eq 7, 3) := by decide +kernel
theorem d_Model_sum_65 : decode c_Model_sum 65 = .ok (.iconst 1, 1) := by decide +kernel
theorem d_Model_sum_66 : decode c_Model_sum 66 = .ok (.goto 4, 3) := by decide +kernel
theorem d_Model_sum_69 : decode c_Model_sum 69 = .ok (.iconst 0, 1) := by decide +kernel
theorem d_Model_sum_70 : decode c_Model_sum 70 = .ok (.iadd, 1) := by decide +kernel
theorem d_Model_sum_71 : decode c_Model_sum 71 = .ok (.istore_n 2, 1) := by decide +kernel
theorem d_Model_sum_72 : decode c_Model_sum 72 = .ok (.goto 133, 3) := by decide +kernel
theorem d_Model_sum_75 : decode c_Model_sum 75 = .ok (.iload_n 2, 1) := by decide +kernel
theorem d_Model_sum_76 : decode c_Model_sum 76 = .ok (.aload_n 0, 1) := by decide +kernel
theorem d_Model_sum_77 : decode c_Model_sum 77 = .ok (.getfield 61, 3) := by decide +kernel
theorem d_Model_sum_80 : decode c_Model_sum 80 = .ok (.iload_n 3, 1) := by decide +kernel
theorem d_Model_sum_81 : decode c_Model_sum 81 = .ok (.baload, 1) := by decide +kernel
theorem d_Model_sum_82 : decode c_Model_sum 82 = .ok (.ifCond .eq 7, 3) := by decide +kernel
theorem d_Model_sum_85 : decode c_Model_sum 85 = .ok (.iconst 1, 1) := by decide +kernel
theorem d_Model_sum_86 : decode c_Model_sum 86 = .ok (.goto 4, 3) := by decide +kernel
theorem d_Model_sum_89 : decode c_Model_sum 89 = .ok (.iconst 0, 1) := by decide +kernel
theorem d_Model_sum_90 : decode c_Model_sum 90 = .ok (.iadd, 1) := by decide +kernel
theorem d_Model_sum_91 : decode c_Model_sum 91 = .ok (.istore_n 2, 1) := by decide +kernel
theorem d_Model_sum_92 : decode c_Model_sum 92 = .ok (.goto 113, 3) := by decide +kernel
theorem d_Model_sum_95 : decode c_Model_sum 95 = .ok (.iload_n 2, 1) := by decide +kernel
theorem d_Model_sum_96 : decode c_Model_sum 96 = .ok (.aload_n 0, 1) := by decide +kernel
theorem d_Model_sum_97 : decode c_Model_sum 97 = .ok (.getfield 16, 3) := by decide +kernel
theorem d_Model_sum_100 : decode c_Model_sum 100 = .ok (.iload_n 3, 1) := by decide +kernel
theorem d_Model_sum_101 : decode c_Model_sum 101 = .ok (.iaload, 1) := by decide +kernel
theorem d_Model_sum_102 : decode c_Model_sum 102 = .ok (.iconst 5, 1) := by decide +kernel
theorem d_Model_sum_103 : decode c_Model_sum 103 = .ok (.if_icmp .ne 7, 3) := by decide +kernel
theorem d_Model_sum_106 : decode c_Model_sum 106 = .ok (.iconst 1, 1) := by decide +kernel
theorem d_Model_sum_107 : decode c_Model_sum 107 = .ok (.goto 4, 3) := by decide +kernel
theorem d_Model_sum_110 : decode c_Model_sum 110 = .ok (.iconst 0, 1) := by decide +kernel
theorem d_Model_sum_111 : decode c_Model_sum 111 = .ok (.iadd, 1) := by decide +kernel
theorem d_Model_sum_112 : decode c_Model_sum 112 = .ok (.istore_n 2, 1) := by decide +kernel
theorem d_Model_sum_113 : decode c_Model_sum 113 = .ok (.goto 92, 3) := by decide +kernel
theorem d_Model_sum_116 : decode c_Model_sum 116 = .ok (.iload_n 2, 1) := by decide +kernel
theorem d_Model_sum_117 : decode c_Model_sum 117 = .ok (.aload_n 0, 1) := by decide +kernel
theorem d_Model_sum_118 : decode c_Model_sum 118 = .ok (.getfield 16, 3) := by decide +kernel
theorem d_Model_sum_121 : decode c_Model_sum 121 = .ok (.iload_n 3, 1) := by decide +kernel
theorem d_Model_sum_122 : decode c_Model_sum 122 = .ok (.iaload, 1) := by decide +kernel
theorem d_Model_sum_123 : decode c_Model_sum 123 = .ok (.iload_n 1, 1) := by decide +kernel
theorem d_Model_sum_124 : decode c_Model_sum 124 = .ok (.iconst 2, 1) := by decide +kernel
theorem d_Model_sum_125 : decode c_Model_sum 125 = .ok (.isub, 1) := by decide +kernel
theorem d_Model_sum_126 : decode c_Model_sum 126 = .ok (.if_icmp .ne 12, 3) := by decide +kernel
theorem d_Model_sum_129 : decode c_Model_sum 129 = .ok (.aload_n 0, 1) := by decide +kernel
theorem d_Model_sum_130 : decode c_Model_sum 130 = .ok (.getfield 37, 3) := by decide +kernel
theorem d_Model_sum_133 : decode c_Model_sum 133 = .ok (.iload_n 3, 1) := by decide +kernel
theorem d_Model_sum_134 : decode c_Model_sum 134 = .ok (.iaload, 1) := by decide +kernel
theorem d_Model_sum_135 : decode c_Model_sum 135 = .ok (.goto 4, 3) := by decide +kernel
theorem d_Model_sum_138 : decode c_Model_sum 138 = .ok (.iconst 0, 1) := by decide +kernel
theorem d_Model_sum_139 : decode c_Model_sum 139 = .ok (.iadd, 1) := by decide +kernel
theorem d_Model_sum_140 : decode c_Model_sum 140 = .ok (.istore_n 2, 1) := by decide +kernel
theorem d_Model_sum_141 : decode c_Model_sum 141 = .ok (.goto 64, 3) := by decide +kernel
theorem d_Model_sum_144 : decode c_Model_sum 144 = .ok (.iload_n 2, 1) := by decide +kernel
theorem d_Model_sum_145 : decode c_Model_sum 145 = .ok (.aload_n 0, 1) := by decide +kernel
theorem d_Model_sum_146 : decode c_Model_sum 146 = .ok (.getfield 65, 3) := by decide +kernel
theorem d_Model_sum_149 : decode c_Model_sum 149 = .ok (.iload_n 3, 1) := by decide +kernel
theorem d_Model_sum_150 : decode c_Model_sum 150 = .ok (.baload, 1) := by decide +kernel
theorem d_Model_sum_151 : decode c_Model_sum 151 = .ok (.ifCond .eq 12, 3) := by decide +kernel
theorem d_Model_sum_154 : decode c_Model_sum 154 = .ok (.aload_n 0, 1) := by decide +kernel
theorem d_Model_sum_155 : decode c_Model_sum 155 = .ok (.getfield 37, 3) := by decide +kernel
theorem d_Model_sum_158 : decode c_Model_sum 158 = .ok (.iload_n 3, 1) := by decide +kernel
theorem d_Model_sum_159 : decode c_Model_sum 159 = .ok (.iaload, 1) := by decide +kernel
theorem d_Model_sum_160 : decode c_Model_sum 160 = .ok (.goto 4, 3) := by decide +kernel
theorem d_Model_sum_163 : decode c_Model_sum 163 = .ok (.iconst 0, 1) := by decide +kernel
theorem d_Model_sum_164 : decode c_Model_sum 164 = .ok (.iadd, 1) := by decide +kernel
theorem d_Model_sum_165 : decode c_Model_sum 165 = .ok (.istore_n 2, 1) := by decide +kernel
theorem d_Model_sum_166 : decode c_Model_sum 166 = .ok (.goto 39, 3) := by decide +kernel
theorem d_Model_sum_169 : decode c_Model_sum 169 = .ok (.iload_n 2, 1) := by decide +kernel
theorem d_Model_sum_170 : decode c_Model_sum 170 = .ok (.aload_n 0, 1) := by decide +kernel
theorem d_Model_sum_171 : decode c_Model_sum 171 = .ok (.getfield 65, 3) := by decide +kernel
theorem d_Model_sum_174 : decode c_Model_sum 174 = .ok (.iload_n 3, 1) := by decide +kernel
theorem d_Model_sum_175 : decode c_Model_sum 175 = .ok (.baload, 1) := by decide +kernel
theorem d_Model_sum_176 : decode c_Model_sum 176 = .ok (.ifCond .ne 26, 3) := by decide +kernel
theorem d_Model_sum_179 : decode c_Model_sum 179 = .ok (.aload_n 0, 1) := by decide +kernel
theorem d_Model_sum_180 : decode c_Model_sum 180 = .ok (.getfield 16, 3) := by decide +kernel
theorem d_Model_sum_183 : decode c_Model_sum 183 = .ok (.iload_n 3, 1) := by decide +kernel
theorem d_Model_sum_184 : decode c_Model_sum 184 = .ok (.iaload, 1) := by decide +kernel
theorem d_Model_sum_185 : decode c_Model_sum 185 = .ok (.iconst 3, 1) := by decide +kernel
theorem d_Model_sum_186 : decode c_Model_sum 186 = .ok (.iconst 5, 1) := by decide +kernel
theorem d_Model_sum_187 : decode c_Model_sum 187 = .ok (.invokestatic 84, 3) := by decide +kernel
theorem d_Model_sum_190 : decode c_Model_sum 190 = .ok (.ifCond .eq 12, 3) := by decide +kernel
theorem d_Model_sum_193 : decode c_Model_sum 193 = .ok (.aload_n 0, 1) := by decide +kernel
theorem d_Model_sum_194 : decode c_Model_sum 194 = .ok (.getfield 37, 3) := by decide +kernel
theorem d_Model_sum_197 : decode c_Model_sum 197 = .ok (.iload_n 3, 1) := by decide +kernel
theorem d_Model_sum_198 : decode c_Model_sum 198 = .ok (.iaload, 1) := by decide +kernel
theorem d_Model_sum_199 : decode c_Model_sum 199 = .ok (.goto 4, 3) := by decide +kernel
theorem d_Model_sum_202 : decode c_Model_sum 202 = .ok (.iconst 0, 1) := by decide +kernel
theorem d_Model_sum_203 : decode c_Model_sum 203 = .ok (.iadd, 1) := by decide +kernel
theorem d_Model_sum_204 : decode c_Model_sum 204 = .ok (.istore_n 2, 1) := by decide +kernel
theorem d_Model_sum_205 : decode c_Model_sum 205 = .ok (.iinc 3 1, 3) := by decide +kernel
theorem d_Model_sum_208 : decode c_Model_sum 208 = .ok (.goto (-204), 3) := by decide +kernel
theorem d_Model_sum_211 : decode c_Model_sum 211 = .ok (.iload_n 2, 1) := by decide +kernel
theorem d_Model_sum_212 : decode c_Model_sum 212 = .ok (.ireturn, 1) := by decide +kernel
theorem d_Model_manyNow_0 : decode c_Model_manyNow 0 = .ok (.iload_n 1, 1) := by decide +kernel
theorem d_Model_manyNow_1 : decode c_Model_manyNow 1 = .ok (.ifCond .ne 10, 3) := by decide +kernel
theorem d_Model_manyNow_4 : decode c_Model_manyNow 4 = .ok (.aload_n 0, 1) := by decide +kernel
theorem d_Model_manyNow_5 : decode c_Model_manyNow 5 = .ok (.getfield 13, 3) := by decide +kernel
theorem d_Model_manyNow_8 : decode c_Model_manyNow 8 = .ok (.iconst 0, 1) := by decide +kernel
theorem d_Model_manyNow_9 : decode c_Model_manyNow 9 = .ok (.iaload, 1) := by decide +kernel
theorem d_Model_manyNow_10 : decode c_Model_manyNow 10 = .ok (.ireturn, 1) := by decide +kernel
theorem d_Model_manyNow_11 : decode c_Model_manyNow 11 = .ok (.iload_n 1, 1) := by decide +kernel
theorem d_Model_manyNow_12 : decode c_Model_manyNow 12 = .ok (.iconst 1, 1) := by decide +kernel
theorem d_Model_manyNow_13 : decode c_Model_manyNow 13 = .ok (.if_icmp .ne 38, 3) := by decide +kernel
theorem d_Model_manyNow_16 : decode c_Model_manyNow 16 = .ok (.aload_n 0, 1) := by decide +kernel
theorem d_Model_manyNow_17 : decode c_Model_manyNow 17 = .ok (.getfield 13, 3) := by decide +kernel
theorem d_Model_manyNow_20 : decode c_Model_manyNow 20 = .ok (.iconst 0, 1) := by decide +kernel
theorem d_Model_manyNow_21 : decode c_Model_manyNow 21 = .ok (.iaload, 1) := by decide +kernel
theorem d_Model_manyNow_22 : decode c_Model_manyNow 22 = .ok (.aload_n 0, 1) := by decide +kernel
theorem d_Model_manyNow_23 : decode c_Model_manyNow 23 = .ok (.getfield 13, 3) := by decide +kernel
theorem d_Model_manyNow_26 : decode c_Model_manyNow 26 = .ok (.iconst 1, 1) := by decide +kernel
theorem d_Model_manyNow_27 : decode c_Model_manyNow 27 = .ok (.iaload, 1) := by decide +kernel
theorem d_Model_manyNow_28 : decode c_Model_manyNow 28 = .ok (.iadd, 1) := by decide +kernel
theorem d_Model_manyNow_29 : decode c_Model_manyNow 29 = .ok (.aload_n 0, 1) := by decide +kernel
theorem d_Model_manyNow_30 : decode c_Model_manyNow 30 = .ok (.getfield 13, 3) := by decide +kernel
theorem d_Model_manyNow_33 : decode c_Model_manyNow 33 = .ok (.iconst 2, 1) := by decide +kernel
theorem d_Model_manyNow_34 : decode c_Model_manyNow 34 = .ok (.iaload, 1) := by decide +kernel
theorem d_Model_manyNow_35 : decode c_Model_manyNow 35 = .ok (.iadd, 1) := by decide +kernel
theorem d_Model_manyNow_36 : decode c_Model_manyNow 36 = .ok (.aload_n 0, 1) := by decide +kernel
theorem d_Model_manyNow_37 : decode c_Model_manyNow 37 = .ok (.getfield 13, 3) := by decide +kernel
theorem d_Model_manyNow_40 : decode c_Model_manyNow 40 = .ok (.iconst 3, 1) := by decide +kernel
theorem d_Model_manyNow_41 : decode c_Model_manyNow 41 = .ok (.iaload, 1) := by decide +kernel
theorem d_Model_manyNow_42 : decode c_Model_manyNow 42 = .ok (.iadd, 1) := by decide +kernel
theorem d_Model_manyNow_43 : decode c_Model_manyNow 43 = .ok (.aload_n 0, 1) := by decide +kernel
theorem d_Model_manyNow_44 : decode c_Model_manyNow 44 = .ok (.getfield 13, 3) := by decide +kernel
theorem d_Model_manyNow_47 : decode c_Model_manyNow 47 = .ok (.iconst 4, 1) := by decide +kernel
theorem d_Model_manyNow_48 : decode c_Model_manyNow 48 = .ok (.iaload, 1) := by decide +kernel
theorem d_Model_manyNow_49 : decode c_Model_manyNow 49 = .ok (.iadd, 1) := by decide +kernel
theorem d_Model_manyNow_50 : decode c_Model_manyNow 50 = .ok (.ireturn, 1) := by decide +kernel
theorem d_Model_manyNow_51 : decode c_Model_manyNow 51 = .ok (.aload_n 0, 1) := by decide +kernel
theorem d_Model_manyNow_52 : decode c_Model_manyNow 52 = .ok (.getfield 126, 3) := by decide +kernel
theorem d_Model_manyNow_55 : decode c_Model_manyNow 55 = .ok (.ifCond .le 5, 3) := by decide +kernel
theorem d_Model_manyNow_58 : decode c_Model_manyNow 58 = .ok (.iconst (-1), 1) := by decide +kernel
theorem d_Model_manyNow_59 : decode c_Model_manyNow 59 = .ok (.ireturn, 1) := by decide +kernel
theorem d_Model_manyNow_60 : decode c_Model_manyNow 60 = .ok (.iload_n 1, 1) := by decide +kernel
theorem d_Model_manyNow_61 : decode c_Model_manyNow 61 = .ok (.iconst 2, 1) := by decide +kernel
theorem d_Model_manyNow_62 : decode c_Model_manyNow 62 = .ok (.if_icmp .ne 10, 3) := by decide +kernel
theorem d_Model_manyNow_65 : decode c_Model_manyNow 65 = .ok (.aload_n 0, 1) := by decide +kernel
theorem d_Model_manyNow_66 : decode c_Model_manyNow 66 = .ok (.getfield 132, 3) := by decide +kernel
theorem d_Model_manyNow_69 : decode c_Model_manyNow 69 = .ok (.goto 33, 3) := by decide +kernel
theorem d_Model_manyNow_72 : decode c_Model_manyNow 72 = .ok (.iload_n 1, 1) := by decide +kernel
theorem d_Model_manyNow_73 : decode c_Model_manyNow 73 = .ok (.iconst 3, 1) := by decide +kernel
theorem d_Model_manyNow_74 : decode c_Model_manyNow 74 = .ok (.if_icmp .ne 10, 3) := by decide +kernel
theorem d_Model_manyNow_77 : decode c_Model_manyNow 77 = .ok (.aload_n 0, 1) := by decide +kernel
theorem d_Model_manyNow_78 : decode c_Model_manyNow 78 = .ok (.getfield 165, 3) := by decide +kernel
theorem d_Model_manyNow_81 : decode c_Model_manyNow 81 = .ok (.goto 21, 3) := by decide +kernel
theorem d_Model_manyNow_84 : decode c_Model_manyNow 84 = .ok (.iload_n 1, 1) := by decide +kernel
theorem d_Model_manyNow_85 : decode c_Model_manyNow 85 = .ok (.bipush 6, 2) := by decide +kernel
theorem d_Model_manyNow_87 : decode c_Model_manyNow 87 = .ok (.if_icmp .ne 10, 3) := by decide +kernel
theorem d_Model_manyNow_90 : decode c_Model_manyNow 90 = .ok (.aload_n 0, 1) := by decide +kernel
theorem d_Model_manyNow_91 : decode c_Model_manyNow 91 = .ok (.getfield 171, 3) := by decide +kernel
theorem d_Model_manyNow_94 : decode c_Model_manyNow 94 = .ok (.goto 8, 3) := by decide +kernel
theorem d_Model_manyNow_97 : decode c_Model_manyNow 97 = .ok (.aload_n 0, 1) := by decide +kernel
theorem d_Model_manyNow_98 : decode c_Model_manyNow 98 = .ok (.iload_n 1, 1) := by decide +kernel
theorem d_Model_manyNow_99 : decode c_Model_manyNow 99 = .ok (.invokevirtual 225, 3) := by decide +kernel
theorem d_Model_manyNow_102 : decode c_Model_manyNow 102 = .ok (.ireturn, 1) := by decide +kernel
theorem d_Model_many_0 : decode c_Model_many 0 = .ok (.aload_n 0, 1) := by decide +kernel
theorem d_Model_many_1 : decode c_Model_many 1 = .ok (.iconst 0, 1) := by decide +kernel
theorem d_Model_many_2 : decode c_Model_many 2 = .ok (.putfield 80, 3) := by decide +kernel
theorem d_Model_many_5 : decode c_Model_many 5 = .ok (.iload_n 1, 1) := by decide +kernel
theorem d_Model_many_6 : decode c_Model_many 6 = .ok (.iconst 0, 1) := by decide +kernel
theorem d_Model_many_7 : decode c_Model_many 7 = .ok (.bipush 11, 2) := by decide +kernel
theorem d_Model_many_9 : decode c_Model_many 9 = .ok (.invokestatic 84, 3) := by decide +kernel
theorem d_Model_many_12 : decode c_Model_many 12 = .ok (.ifCond .eq 11, 3) := by decide +kernel
theorem d_Model_many_15 : decode c_Model_many 15 = .ok (.aload_n 0, 1) := by decide +kernel
theorem d_Model_many_16 : decode c_Model_many 16 = .ok (.iload_n 1, 1) := by decide +kernel
theorem d_Model_many_17 : decode c_Model_many 17 = .ok (.invokevirtual 228, 3) := by decide +kernel
theorem d_Model_many_20 : decode c_Model_many 20 = .ok (.goto 8, 3) := by decide +kernel
theorem d_Model_many_23 : decode c_Model_many 23 = .ok (.aload_n 0, 1) := by decide +kernel
theorem d_Model_many_24 : decode c_Model_many 24 = .ok (.iconst 1, 1) := by decide +kernel
theorem d_Model_many_25 : decode c_Model_many 25 = .ok (.invokevirtual 100, 3) := by decide +kernel
theorem d_Model_many_28 : decode c_Model_many 28 = .ok (.ireturn, 1) := by decide +kernel
theorem d_Model_meanSize_0 : decode c_Model_meanSize 0 = .ok (.aload_n 0, 1) := by decide +kernel
theorem d_Model_meanSize_1 : decode c_Model_meanSize 1 = .ok (.iconst 0, 1) := by decide +kernel
theorem d_Model_meanSize_2 : decode c_Model_meanSize 2 = .ok (.putfield 80, 3) := by decide +kernel
theorem d_Model_meanSize_5 : decode c_Model_meanSize 5 = .ok (.aload_n 0, 1) := by decide +kernel
theorem d_Model_meanSize_6 : decode c_Model_meanSize 6 = .ok (.getfield 126, 3) := by decide +kernel
theorem d_Model_meanSize_9 : decode c_Model_meanSize 9 = .ok (.ifCond .le 7, 3) := by decide +kernel
theorem d_Model_meanSize_12 : decode c_Model_meanSize 12 = .ok (.dconst 0, 1) := by decide +kernel
theorem d_Model_meanSize_13 : decode c_Model_meanSize 13 = .ok (.goto 14, 3) := by decide +kernel
theorem d_Model_meanSize_16 : decode c_Model_meanSize 16 = .ok (.aload_n 0, 1) := by decide +kernel
theorem d_Model_meanSize_17 : decode c_Model_meanSize 17 = .ok (.getfield 165, 3) := by decide +kernel
theorem d_Model_meanSize_20 : decode c_Model_meanSize 20 = .ok (.i2d, 1) := by decide +kernel
theorem d_Model_meanSize_21 : decode c_Model_meanSize 21 = .ok (.aload_n 0, 1) := by decide +kernel
theorem d_Model_meanSize_22 : decode c_Model_meanSize 22 = .ok (.getfield 132, 3) := by decide +kernel
theorem d_Model_meanSize_25 : decode c_Model_meanSize 25 = .ok (.i2d, 1) := by decide +kernel
theorem d_Model_meanSize_26 : decode c_Model_meanSize 26 = .ok (.ddiv, 1) := by decide +kernel
theorem d_Model_meanSize_27 : decode c_Model_meanSize 27 = .ok (.dreturn, 1) := by decide +kernel
theorem d_Model_keep_0 : decode c_Model_keep 0 = .ok (.aload_n 0, 1) := by decide +kernel
theorem d_Model_keep_1 : decode c_Model_keep 1 = .ok (.getfield 9, 3) := by decide +kernel
theorem d_Model_keep_4 : decode c_Model_keep 4 = .ok (.arraylength, 1) := by decide +kernel
theorem d_Model_keep_5 : decode c_Model_keep 5 = .ok (.newarray .int, 2) := by decide +kernel
theorem d_Model_keep_7 : decode c_Model_keep 7 = .ok (.astore_n 1, 1) := by decide +kernel
theorem d_Model_keep_8 : decode c_Model_keep 8 = .ok (.aload_n 0, 1) := by decide +kernel
theorem d_Model_keep_9 : decode c_Model_keep 9 = .ok (.getfield 9, 3) := by decide +kernel
theorem d_Model_keep_12 : decode c_Model_keep 12 = .ok (.iconst 0, 1) := by decide +kernel
theorem d_Model_keep_13 : decode c_Model_keep 13 = .ok (.aload_n 1, 1) := by decide +kernel
theorem d_Model_keep_14 : decode c_Model_keep 14 = .ok (.iconst 0, 1) := by decide +kernel
theorem d_Model_keep_15 : decode c_Model_keep 15 = .ok (.aload_n 1, 1) := by decide +kernel
theorem d_Model_keep_16 : decode c_Model_keep 16 = .ok (.arraylength, 1) := by decide +kernel
theorem d_Model_keep_17 : decode c_Model_keep 17 = .ok (.invokestatic 116, 3) := by decide +kernel
theorem d_Model_keep_20 : decode c_Model_keep 20 = .ok (.aload_n 1, 1) := by decide +kernel
theorem d_Model_keep_21 : decode c_Model_keep 21 = .ok (.areturn, 1) := by decide +kernel
theorem d_Model_wordsThen_0 : decode c_Model_wordsThen 0 = .ok (.aload_n 0, 1) := by decide +kernel
theorem d_Model_wordsThen_1 : decode c_Model_wordsThen 1 = .ok (.invokevirtual 77, 3) := by decide +kernel
theorem d_Model_wordsThen_4 : decode c_Model_wordsThen 4 = .ok (.aload_n 0, 1) := by decide +kernel
theorem d_Model_wordsThen_5 : decode c_Model_wordsThen 5 = .ok (.getfield 126, 3) := by decide +kernel
theorem d_Model_wordsThen_8 : decode c_Model_wordsThen 8 = .ok (.ifCond .ne 10, 3) := by decide +kernel
theorem d_Model_wordsThen_11 : decode c_Model_wordsThen 11 = .ok (.aload_n 0, 1) := by decide +kernel
theorem d_Model_wordsThen_12 : decode c_Model_wordsThen 12 = .ok (.getfield 165, 3) := by decide +kernel
theorem d_Model_wordsThen_15 : decode c_Model_wordsThen 15 = .ok (.goto 10, 3) := by decide +kernel
theorem d_Model_wordsThen_18 : decode c_Model_wordsThen 18 = .ok (.bipush (-10), 2) := by decide +kernel
theorem d_Model_wordsThen_20 : decode c_Model_wordsThen 20 = .ok (.aload_n 0, 1) := by decide +kernel
theorem d_Model_wordsThen_21 : decode c_Model_wordsThen 21 = .ok (.getfield 126, 3) := by decide +kernel
theorem d_Model_wordsThen_24 : decode c_Model_wordsThen 24 = .ok (.isub, 1) := by decide +kernel
theorem d_Model_wordsThen_25 : decode c_Model_wordsThen 25 = .ok (.ireturn, 1) := by decide +kernel
theorem d_Model_back_0 : decode c_Model_back 0 = .ok (.aload_n 0, 1) := by decide +kernel
theorem d_Model_back_1 : decode c_Model_back 1 = .ok (.aload_n 1, 1) := by decide +kernel
theorem d_Model_back_2 : decode c_Model_back 2 = .ok (.putfield 9, 3) := by decide +kernel
theorem d_Model_back_5 : decode c_Model_back 5 = .ok (.aload_n 0, 1) := by decide +kernel
theorem d_Model_back_6 : decode c_Model_back 6 = .ok (.getfield 13, 3) := by decide +kernel
theorem d_Model_back_9 : decode c_Model_back 9 = .ok (.iload_n 2, 1) := by decide +kernel
theorem d_Model_back_10 : decode c_Model_back 10 = .ok (.iload_n 3, 1) := by decide +kernel
theorem d_Model_back_11 : decode c_Model_back 11 = .ok (.iastore, 1) := by decide +kernel
theorem d_Model_back_12 : decode c_Model_back 12 = .ok (.aload_n 0, 1) := by decide +kernel
theorem d_Model_back_13 : decode c_Model_back 13 = .ok (.invokevirtual 77, 3) := by decide +kernel
theorem d_Model_back_16 : decode c_Model_back 16 = .ok (.return_, 1) := by decide +kernel
theorem d_Model_withoutNow_0 : decode c_Model_withoutNow 0 = .ok (.aload_n 0, 1) := by decide +kernel
theorem d_Model_withoutNow_1 : decode c_Model_withoutNow 1 = .ok (.invokevirtual 231, 3) := by decide +kernel
theorem d_Model_withoutNow_4 : decode c_Model_withoutNow 4 = .ok (.astore_n 3, 1) := by decide +kernel
theorem d_Model_withoutNow_5 : decode c_Model_withoutNow 5 = .ok (.aload_n 0, 1) := by decide +kernel
theorem d_Model_withoutNow_6 : decode c_Model_withoutNow 6 = .ok (.getfield 13, 3) := by decide +kernel
theorem d_Model_withoutNow_9 : decode c_Model_withoutNow 9 = .ok (.iload_n 1, 1) := by decide +kernel
theorem d_Model_withoutNow_10 : decode c_Model_withoutNow 10 = .ok (.iaload, 1) := by decide +kernel
theorem d_Model_withoutNow_11 : decode c_Model_withoutNow 11 = .ok (.istore 4, 2) := by decide +kernel
theorem d_Model_withoutNow_13 : decode c_Model_withoutNow 13 = .ok (.aload_n 0, 1) := by decide +kernel
theorem d_Model_withoutNow_14 : decode c_Model_withoutNow 14 = .ok (.iload_n 1, 1) := by decide +kernel
theorem d_Model_withoutNow_15 : decode c_Model_withoutNow 15 = .ok (.iload_n 2, 1) := by decide +kernel
theorem d_Model_withoutNow_16 : decode c_Model_withoutNow 16 = .ok (.invokevirtual 122, 3) := by decide +kernel
theorem d_Model_withoutNow_19 : decode c_Model_withoutNow 19 = .ok (.aload_n 0, 1) := by decide +kernel
theorem d_Model_withoutNow_20 : decode c_Model_withoutNow 20 = .ok (.invokevirtual 235, 3) := by decide +kernel
theorem d_Model_withoutNow_23 : decode c_Model_withoutNow 23 = .ok (.istore 5, 2) := by decide +kernel
theorem d_Model_withoutNow_25 : decode c_Model_withoutNow 25 = .ok (.aload_n 0, 1) := by decide +kernel
theorem d_Model_withoutNow_26 : decode c_Model_withoutNow 26 = .ok (.aload_n 3, 1) := by decide +kernel
theorem d_Model_withoutNow_27 : decode c_Model_withoutNow 27 = .ok (.iload_n 1, 1) := by decide +kernel
theorem d_Model_withoutNow_28 : decode c_Model_withoutNow 28 = .ok (.iload 4, 2) := by decide +kernel
theorem d_Model_withoutNow_30 : decode c_Model_withoutNow 30 = .ok (.invokevirtual 239, 3) := by decide +kernel
theorem d_Model_withoutNow_33 : decode c_Model_withoutNow 33 = .ok (.iload 5, 2) := by decide +kernel
theorem d_Model_withoutNow_35 : decode c_Model_withoutNow 35 = .ok (.ireturn, 1) := by decide +kernel
theorem d_Model_wordsWithout_0 : decode c_Model_wordsWithout 0 = .ok (.aload_n 0, 1) := by decide +kernel
theorem d_Model_wordsWithout_1 : decode c_Model_wordsWithout 1 = .ok (.iconst 0, 1) := by decide +kernel
theorem d_Model_wordsWithout_2 : decode c_Model_wordsWithout 2 = .ok (.putfield 80, 3) := by decide +kernel
theorem d_Model_wordsWithout_5 : decode c_Model_wordsWithout 5 = .ok (.aload_n 0, 1) := by decide +kernel
theorem d_Model_wordsWithout_6 : decode c_Model_wordsWithout 6 = .ok (.iload_n 1, 1) := by decide +kernel
theorem d_Model_wordsWithout_7 : decode c_Model_wordsWithout 7 = .ok (.iload_n 2, 1) := by decide +kernel
theorem d_Model_wordsWithout_8 : decode c_Model_wordsWithout 8 = .ok (.invokevirtual 112, 3) := by decide +kernel
theorem d_Model_wordsWithout_11 : decode c_Model_wordsWithout 11 = .ok (.ifCond .eq 12, 3) := by decide +kernel
theorem d_Model_wordsWithout_14 : decode c_Model_wordsWithout 14 = .ok (.aload_n 0, 1) := by decide +kernel
theorem d_Model_wordsWithout_15 : decode c_Model_wordsWithout 15 = .ok (.iload_n 1, 1) := by decide +kernel
theorem d_Model_wordsWithout_16 : decode c_Model_wordsWithout 16 = .ok (.iload_n 2, 1) := by decide +kernel
theorem d_Model_wordsWithout_17 : decode c_Model_wordsWithout 17 = .ok (.invokevirtual 243, 3) := by decide +kernel
theorem d_Model_wordsWithout_20 : decode c_Model_wordsWithout 20 = .ok (.goto 8, 3) := by decide +kernel
theorem d_Model_wordsWithout_23 : decode c_Model_wordsWithout 23 = .ok (.aload_n 0, 1) := by decide +kernel
theorem d_Model_wordsWithout_24 : decode c_Model_wordsWithout 24 = .ok (.iconst 1, 1) := by decide +kernel
theorem d_Model_wordsWithout_25 : decode c_Model_wordsWithout 25 = .ok (.invokevirtual 100, 3) := by decide +kernel
theorem d_Model_wordsWithout_28 : decode c_Model_wordsWithout 28 = .ok (.ireturn, 1) := by decide +kernel
theorem d_Model_wordsWith_0 : decode c_Model_wordsWith 0 = .ok (.aload_n 0, 1) := by decide +kernel
theorem d_Model_wordsWith_1 : decode c_Model_wordsWith 1 = .ok (.iconst 0, 1) := by decide +kernel
theorem d_Model_wordsWith_2 : decode c_Model_wordsWith 2 = .ok (.putfield 80, 3) := by decide +kernel
theorem d_Model_wordsWith_5 : decode c_Model_wordsWith 5 = .ok (.aload_n 0, 1) := by decide +kernel
theorem d_Model_wordsWith_6 : decode c_Model_wordsWith 6 = .ok (.iload_n 1, 1) := by decide +kernel
theorem d_Model_wordsWith_7 : decode c_Model_wordsWith 7 = .ok (.iload_n 2, 1) := by decide +kernel
theorem d_Model_wordsWith_8 : decode c_Model_wordsWith 8 = .ok (.invokevirtual 112, 3) := by decide +kernel
theorem d_Model_wordsWith_11 : decode c_Model_wordsWith 11 = .ok (.ifCond .ne 9, 3) := by decide +kernel
theorem d_Model_wordsWith_14 : decode c_Model_wordsWith 14 = .ok (.aload_n 0, 1) := by decide +kernel
theorem d_Model_wordsWith_15 : decode c_Model_wordsWith 15 = .ok (.iconst 1, 1) := by decide +kernel
theorem d_Model_wordsWith_16 : decode c_Model_wordsWith 16 = .ok (.invokevirtual 100, 3) := by decide +kernel
theorem d_Model_wordsWith_19 : decode c_Model_wordsWith 19 = .ok (.ireturn, 1) := by decide +kernel
theorem d_Model_wordsWith_20 : decode c_Model_wordsWith 20 = .ok (.iload_n 1, 1) := by decide +kernel
theorem d_Model_wordsWith_21 : decode c_Model_wordsWith 21 = .ok (.iload_n 2, 1) := by decide +kernel
theorem d_Model_wordsWith_22 : decode c_Model_wordsWith 22 = .ok (.invokestatic 96, 3) := by decide +kernel
theorem d_Model_wordsWith_25 : decode c_Model_wordsWith 25 = .ok (.istore 4, 2) := by decide +kernel
theorem d_Model_wordsWith_27 : decode c_Model_wordsWith 27 = .ok (.aload_n 0, 1) := by decide +kernel
theorem d_Model_wordsWith_28 : decode c_Model_wordsWith 28 = .ok (.getfield 9, 3) := by decide +kernel
theorem d_Model_wordsWith_31 : decode c_Model_wordsWith 31 = .ok (.iload 4, 2) := by decide +kernel
theorem d_Model_wordsWith_33 : decode c_Model_wordsWith 33 = .ok (.iaload, 1) := by decide +kernel
theorem d_Model_wordsWith_34 : decode c_Model_wordsWith 34 = .ok (.iload_n 3, 1) := by decide +kernel
theorem d_Model_wordsWith_35 : decode c_Model_wordsWith 35 = .ok (.aload_n 0, 1) := by decide +kernel
theorem d_Model_wordsWith_36 : decode c_Model_wordsWith 36 = .ok (.getfield 9, 3) := by decide +kernel
theorem d_Model_wordsWith_39 : decode c_Model_wordsWith 39 = .ok (.iload 4, 2) := by decide +kernel
theorem d_Model_wordsWith_41 : decode c_Model_wordsWith 41 = .ok (.iconst 4, 1) := by decide +kernel
theorem d_Model_wordsWith_42 : decode c_Model_wordsWith 42 = .ok (.iadd, 1) := by decide +kernel
theorem d_Model_wordsWith_43 : decode c_Model_wordsWith 43 = .ok (.iaload, 1) := by decide +kernel
theorem d_Model_wordsWith_44 : decode c_Model_wordsWith 44 = .ok (.iconst 1, 1) := by decide +kernel
theorem d_Model_wordsWith_45 : decode c_Model_wordsWith 45 = .ok (.if_icmp .ne 7, 3) := by decide +kernel
theorem d_Model_wordsWith_48 : decode c_Model_wordsWith 48 = .ok (.iconst 1, 1) := by decide +kernel
theorem d_Model_wordsWith_49 : decode c_Model_wordsWith 49 = .ok (.goto 4, 3) := by decide +kernel
theorem d_Model_wordsWith_52 : decode c_Model_wordsWith 52 = .ok (.iconst 0, 1) := by decide +kernel
theorem d_Model_wordsWith_53 : decode c_Model_wordsWith 53 = .ok (.invokestatic 88, 3) := by decide +kernel
theorem d_Model_wordsWith_56 : decode c_Model_wordsWith 56 = .ok (.ifCond .ne 9, 3) := by decide +kernel
theorem d_Model_wordsWith_59 : decode c_Model_wordsWith 59 = .ok (.aload_n 0, 1) := by decide +kernel
theorem d_Model_wordsWith_60 : decode c_Model_wordsWith 60 = .ok (.iconst 2, 1) := by decide +kernel
theorem d_Model_wordsWith_61 : decode c_Model_wordsWith 61 = .ok (.invokevirtual 100, 3) := by decide +kernel
theorem d_Model_wordsWith_64 : decode c_Model_wordsWith 64 = .ok (.ireturn, 1) := by decide +kernel
theorem d_Model_wordsWith_65 : decode c_Model_wordsWith 65 = .ok (.aload_n 0, 1) := by decide +kernel
theorem d_Model_wordsWith_66 : decode c_Model_wordsWith 66 = .ok (.getfield 9, 3) := by decide +kernel
theorem d_Model_wordsWith_69 : decode c_Model_wordsWith 69 = .ok (.iload 4, 2) := by decide +kernel
theorem d_Model_wordsWith_71 : decode c_Model_wordsWith 71 = .ok (.iconst 3, 1) := by decide +kernel
theorem d_Model_wordsWith_72 : decode c_Model_wordsWith 72 = .ok (.iadd, 1) := by decide +kernel
theorem d_Model_wordsWith_73 : decode c_Model_wordsWith 73 = .ok (.iaload, 1) := by decide +kernel
theorem d_Model_wordsWith_74 : decode c_Model_wordsWith 74 = .ok (.istore 5, 2) := by decide +kernel
theorem d_Model_wordsWith_76 : decode c_Model_wordsWith 76 = .ok (.aload_n 0, 1) := by decide +kernel
theorem d_Model_wordsWith_77 : decode c_Model_wordsWith 77 = .ok (.getfield 9, 3) := by decide +kernel
theorem d_Model_wordsWith_80 : decode c_Model_wordsWith 80 = .ok (.iload 4, 2) := by decide +kernel
theorem d_Model_wordsWith_82 : decode c_Model_wordsWith 82 = .ok (.iconst 3, 1) := by decide +kernel
theorem d_Model_wordsWith_83 : decode c_Model_wordsWith 83 = .ok (.iadd, 1) := by decide +kernel
theorem d_Model_wordsWith_84 : decode c_Model_wordsWith 84 = .ok (.iload_n 3, 1) := by decide +kernel
theorem d_Model_wordsWith_85 : decode c_Model_wordsWith 85 = .ok (.iastore, 1) := by decide +kernel
theorem d_Model_wordsWith_86 : decode c_Model_wordsWith 86 = .ok (.aload_n 0, 1) := by decide +kernel
theorem d_Model_wordsWith_87 : decode c_Model_wordsWith 87 = .ok (.invokevirtual 235, 3) := by decide +kernel
theorem d_Model_wordsWith_90 : decode c_Model_wordsWith 90 = .ok (.istore 6, 2) := by decide +kernel
theorem d_Model_wordsWith_92 : decode c_Model_wordsWith 92 = .ok (.aload_n 0, 1) := by decide +kernel
theorem d_Model_wordsWith_93 : decode c_Model_wordsWith 93 = .ok (.getfield 9, 3) := by decide +kernel
theorem d_Model_wordsWith_96 : decode c_Model_wordsWith 96 = .ok (.iload 4, 2) := by decide +kernel
theorem d_Model_wordsWith_98 : decode c_Model_wordsWith 98 = .ok (.iconst 3, 1) := by decide +kernel
theorem d_Model_wordsWith_99 : decode c_Model_wordsWith 99 = .ok (.iadd, 1) := by decide +kernel
theorem d_Model_wordsWith_100 : decode c_Model_wordsWith 100 = .ok (.iload 5, 2) := by decide +kernel
theorem d_Model_wordsWith_102 : decode c_Model_wordsWith 102 = .ok (.iastore, 1) := by decide +kernel
theorem d_Model_wordsWith_103 : decode c_Model_wordsWith 103 = .ok (.aload_n 0, 1) := by decide +kernel
theorem d_Model_wordsWith_104 : decode c_Model_wordsWith 104 = .ok (.invokevirtual 77, 3) := by decide +kernel
theorem d_Model_wordsWith_107 : decode c_Model_wordsWith 107 = .ok (.iload 6, 2) := by decide +kernel
theorem d_Model_wordsWith_109 : decode c_Model_wordsWith 109 = .ok (.ireturn, 1) := by decide +kernel
theorem d_Model_distance_0 : decode c_Model_distance 0 = .ok (.aload_n 0, 1) := by decide +kernel
theorem d_Model_distance_1 : decode c_Model_distance 1 = .ok (.iconst 0, 1) := by decide +kernel
theorem d_Model_distance_2 : decode c_Model_distance 2 = .ok (.putfield 80, 3) := by decide +kernel
theorem d_Model_distance_5 : decode c_Model_distance 5 = .ok (.aload_n 0, 1) := by decide +kernel
theorem d_Model_distance_6 : decode c_Model_distance 6 = .ok (.iload_n 1, 1) := by decide +kernel
theorem d_Model_distance_7 : decode c_Model_distance 7 = .ok (.invokevirtual 207, 3) := by decide +kernel
theorem d_Model_distance_10 : decode c_Model_distance 10 = .ok (.ifCond .eq 19, 3) := by decide +kernel
theorem d_Model_distance_13 : decode c_Model_distance 13 = .ok (.aload_n 0, 1) := by decide +kernel
theorem d_Model_distance_14 : decode c_Model_distance 14 = .ok (.iload_n 1, 1) := by decide +kernel
theorem d_Model_distance_15 : decode c_Model_distance 15 = .ok (.invokevirtual 177, 3) := by decide +kernel
theorem d_Model_distance_18 : decode c_Model_distance 18 = .ok (.ifCond .eq 11, 3) := by decide +kernel
theorem d_Model_distance_21 : decode c_Model_distance 21 = .ok (.aload_n 0, 1) := by decide +kernel
theorem d_Model_distance_22 : decode c_Model_distance 22 = .ok (.iload_n 1, 1) := by decide +kernel
theorem d_Model_distance_23 : decode c_Model_distance 23 = .ok (.invokevirtual 180, 3) := by decide +kernel
theorem d_Model_distance_26 : decode c_Model_distance 26 = .ok (.goto 8, 3) := by decide +kernel
theorem d_Model_distance_29 : decode c_Model_distance 29 = .ok (.aload_n 0, 1) := by decide +kernel
theorem d_Model_distance_30 : decode c_Model_distance 30 = .ok (.iconst 1, 1) := by decide +kernel
theorem d_Model_distance_31 : decode c_Model_distance 31 = .ok (.invokevirtual 100, 3) := by decide +kernel
theorem d_Model_distance_34 : decode c_Model_distance 34 = .ok (.ireturn, 1) := by decide +kernel
theorem d_Model_wronglyNow_0 : decode c_Model_wronglyNow 0 = .ok (.iconst 0, 1) := by decide +kernel
theorem d_Model_wronglyNow_1 : decode c_Model_wronglyNow 1 = .ok (.istore_n 1, 1) := by decide +kernel
theorem d_Model_wronglyNow_2 : decode c_Model_wronglyNow 2 = .ok (.iconst 0, 1) := by decide +kernel
theorem d_Model_wronglyNow_3 : decode c_Model_wronglyNow 3 = .ok (.istore_n 2, 1) := by decide +kernel
theorem d_Model_wronglyNow_4 : decode c_Model_wronglyNow 4 = .ok (.iload_n 2, 1) := by decide +kernel
theorem d_Model_wronglyNow_5 : decode c_Model_wronglyNow 5 = .ok (.aload_n 0, 1) := by decide +kernel
theorem d_Model_wronglyNow_6 : decode c_Model_wronglyNow 6 = .ok (.getfield 132, 3) := by decide +kernel
theorem d_Model_wronglyNow_9 : decode c_Model_wronglyNow 9 = .ok (.if_icmp .ge 62, 3) := by decide +kernel
theorem d_Model_wronglyNow_12 : decode c_Model_wronglyNow 12 = .ok (.aload_n 0, 1) := by decide +kernel
theorem d_Model_wronglyNow_13 : decode c_Model_wronglyNow 13 = .ok (.getfield 61, 3) := by decide +kernel
theorem d_Model_wronglyNow_16 : decode c_Model_wronglyNow 16 = .ok (.iload_n 2, 1) := by decide +kernel
theorem d_Model_wronglyNow_17 : decode c_Model_wronglyNow 17 = .ok (.baload, 1) := by decide +kernel
theorem d_Model_wronglyNow_18 : decode c_Model_wronglyNow 18 = .ok (.ifCond .ne 6, 3) := by decide +kernel
theorem d_Model_wronglyNow_21 : decode c_Model_wronglyNow 21 = .ok (.goto 44, 3) := by decide +kernel
theorem d_Model_wronglyNow_24 : decode c_Model_wronglyNow 24 = .ok (.aload_n 0, 1) := by decide +kernel
theorem d_Model_wronglyNow_25 : decode c_Model_wronglyNow 25 = .ok (.getfield 61, 3) := by decide +kernel
theorem d_Model_wronglyNow_28 : decode c_Model_wronglyNow 28 = .ok (.iload_n 2, 1) := by decide +kernel
theorem d_Model_wronglyNow_29 : decode c_Model_wronglyNow 29 = .ok (.iconst 0, 1) := by decide +kernel
theorem d_Model_wronglyNow_30 : decode c_Model_wronglyNow 30 = .ok (.bastore, 1) := by decide +kernel
theorem d_Model_wronglyNow_31 : decode c_Model_wronglyNow 31 = .ok (.aload_n 0, 1) := by decide +kernel
theorem d_Model_wronglyNow_32 : decode c_Model_wronglyNow 32 = .ok (.invokevirtual 174, 3) := by decide +kernel
theorem d_Model_wronglyNow_35 : decode c_Model_wronglyNow 35 = .ok (.iload_n 1, 1) := by decide +kernel
theorem d_Model_wronglyNow_36 : decode c_Model_wronglyNow 36 = .ok (.aload_n 0, 1) := by decide +kernel
theorem d_Model_wronglyNow_37 : decode c_Model_wronglyNow 37 = .ok (.iload_n 2, 1) := by decide +kernel
theorem d_Model_wronglyNow_38 : decode c_Model_wronglyNow 38 = .ok (.invokevirtual 180, 3) := by decide +kernel
theorem d_Model_wronglyNow_41 : decode c_Model_wronglyNow 41 = .ok (.bipush (-8), 2) := by decide +kernel
theorem d_Model_wronglyNow_43 : decode c_Model_wronglyNow 43 = .ok (.bipush 7, 2) := by decide +kernel
theorem d_Model_wronglyNow_45 : decode c_Model_wronglyNow 45 = .ok (.invokestatic 84, 3) := by decide +kernel
theorem d_Model_wronglyNow_48 : decode c_Model_wronglyNow 48 = .ok (.ifCond .eq 7, 3) := by decide +kernel
theorem d_Model_wronglyNow_51 : decode c_Model_wronglyNow 51 = .ok (.iconst 1, 1) := by decide +kernel
theorem d_Model_wronglyNow_52 : decode c_Model_wronglyNow 52 = .ok (.goto 4, 3) := by decide +kernel
theorem d_Model_wronglyNow_55 : decode c_Model_wronglyNow 55 = .ok (.iconst 0, 1) := by decide +kernel
theorem d_Model_wronglyNow_56 : decode c_Model_wronglyNow 56 = .ok (.iadd, 1) := by decide +kernel
theorem d_Model_wronglyNow_57 : decode c_Model_wronglyNow 57 = .ok (.istore_n 1, 1) := by decide +kernel
theorem d_Model_wronglyNow_58 : decode c_Model_wronglyNow 58 = .ok (.aload_n 0, 1) := by decide +kernel
theorem d_Model_wronglyNow_59 : decode c_Model_wronglyNow 59 = .ok (.getfield 61, 3) := by decide +kernel
theorem d_Model_wronglyNow_62 : decode c_Model_wronglyNow 62 = .ok (.iload_n 2, 1) := by decide +kernel
theorem d_Model_wronglyNow_63 : decode c_Model_wronglyNow 63 = .ok (.iconst 1, 1) := by decide +kernel
theorem d_Model_wronglyNow_64 : decode c_Model_wronglyNow 64 = .ok (.bastore, 1) := by decide +kernel
theorem d_Model_wronglyNow_65 : decode c_Model_wronglyNow 65 = .ok (.iinc 2 1, 3) := by decide +kernel
theorem d_Model_wronglyNow_68 : decode c_Model_wronglyNow 68 = .ok (.goto (-64), 3) := by decide +kernel
theorem d_Model_wronglyNow_71 : decode c_Model_wronglyNow 71 = .ok (.aload_n 0, 1) := by decide +kernel
theorem d_Model_wronglyNow_72 : decode c_Model_wronglyNow 72 = .ok (.invokevirtual 174, 3) := by decide +kernel
theorem d_Model_wronglyNow_75 : decode c_Model_wronglyNow 75 = .ok (.iload_n 1, 1) := by decide +kernel
theorem d_Model_wronglyNow_76 : decode c_Model_wronglyNow 76 = .ok (.ireturn, 1) := by decide +kernel
theorem d_Model_wrongly_0 : decode c_Model_wrongly 0 = .ok (.aload_n 0, 1) := by decide +kernel
theorem d_Model_wrongly_1 : decode c_Model_wrongly 1 = .ok (.iconst 0, 1) := by decide +kernel
theorem d_Model_wrongly_2 : decode c_Model_wrongly 2 = .ok (.putfield 80, 3) := by decide +kernel
theorem d_Model_wrongly_5 : decode c_Model_wrongly 5 = .ok (.aload_n 0, 1) := by decide +kernel
theorem d_Model_wrongly_6 : decode c_Model_wrongly 6 = .ok (.getfield 126, 3) := by decide +kernel
theorem d_Model_wrongly_9 : decode c_Model_wrongly 9 = .ok (.ifCond .le 7, 3) := by decide +kernel
theorem d_Model_wrongly_12 : decode c_Model_wrongly 12 = .ok (.iconst 0, 1) := by decide +kernel
theorem d_Model_wrongly_13 : decode c_Model_wrongly 13 = .ok (.goto 7, 3) := by decide +kernel
theorem d_Model_wrongly_16 : decode c_Model_wrongly 16 = .ok (.aload_n 0, 1) := by decide +kernel
theorem d_Model_wrongly_17 : decode c_Model_wrongly 17 = .ok (.invokevirtual 246, 3) := by decide +kernel
theorem d_Model_wrongly_20 : decode c_Model_wrongly 20 = .ok (.ireturn, 1) := by decide +kernel
theorem d_Model_longBy_0 : decode c_Model_longBy 0 = .ok (.aload_n 0, 1) := by decide +kernel
theorem d_Model_longBy_1 : decode c_Model_longBy 1 = .ok (.iconst 0, 1) := by decide +kernel
theorem d_Model_longBy_2 : decode c_Model_longBy 2 = .ok (.putfield 80, 3) := by decide +kernel
theorem d_Model_longBy_5 : decode c_Model_longBy 5 = .ok (.iload_n 1, 1) := by decide +kernel
theorem d_Model_longBy_6 : decode c_Model_longBy 6 = .ok (.iconst 0, 1) := by decide +kernel
theorem d_Model_longBy_7 : decode c_Model_longBy 7 = .ok (.aload_n 0, 1) := by decide +kernel
theorem d_Model_longBy_8 : decode c_Model_longBy 8 = .ok (.getfield 13, 3) := by decide +kernel
theorem d_Model_longBy_11 : decode c_Model_longBy 11 = .ok (.iconst 0, 1) := by decide +kernel
theorem d_Model_longBy_12 : decode c_Model_longBy 12 = .ok (.iaload, 1) := by decide +kernel
theorem d_Model_longBy_13 : decode c_Model_longBy 13 = .ok (.invokestatic 84, 3) := by decide +kernel
theorem d_Model_longBy_16 : decode c_Model_longBy 16 = .ok (.ifCond .ne 9, 3) := by decide +kernel
theorem d_Model_longBy_19 : decode c_Model_longBy 19 = .ok (.aload_n 0, 1) := by decide +kernel
theorem d_Model_longBy_20 : decode c_Model_longBy 20 = .ok (.iconst 1, 1) := by decide +kernel
theorem d_Model_longBy_21 : decode c_Model_longBy 21 = .ok (.invokevirtual 100, 3) := by decide +kernel
theorem d_Model_longBy_24 : decode c_Model_longBy 24 = .ok (.ireturn, 1) := by decide +kernel
theorem d_Model_longBy_25 : decode c_Model_longBy 25 = .ok (.iload_n 2, 1) := by decide +kernel
theorem d_Model_longBy_26 : decode c_Model_longBy 26 = .ok (.iconst 1, 1) := by decide +kernel
theorem d_Model_longBy_27 : decode c_Model_longBy 27 = .ok (.bipush 20, 2) := by decide +kernel
theorem d_Model_longBy_29 : decode c_Model_longBy 29 = .ok (.invokestatic 84, 3) := by decide +kernel
theorem d_Model_longBy_32 : decode c_Model_longBy 32 = .ok (.ifCond .ne 9, 3) := by decide +kernel
theorem d_Model_longBy_35 : decode c_Model_longBy 35 = .ok (.aload_n 0, 1) := by decide +kernel
theorem d_Model_longBy_36 : decode c_Model_longBy 36 = .ok (.iconst 2, 1) := by decide +kernel
theorem d_Model_longBy_37 : decode c_Model_longBy 37 = .ok (.invokevirtual 100, 3) := by decide +kernel
theorem d_Model_longBy_40 : decode c_Model_longBy 40 = .ok (.ireturn, 1) := by decide +kernel
theorem d_Model_longBy_41 : decode c_Model_longBy 41 = .ok (.aload_n 0, 1) := by decide +kernel
theorem d_Model_longBy_42 : decode c_Model_longBy 42 = .ok (.getfield 126, 3) := by decide +kernel
theorem d_Model_longBy_45 : decode c_Model_longBy 45 = .ok (.ifCond .le 5, 3) := by decide +kernel
theorem d_Model_longBy_48 : decode c_Model_longBy 48 = .ok (.iconst 0, 1) := by decide +kernel
theorem d_Model_longBy_49 : decode c_Model_longBy 49 = .ok (.ireturn, 1) := by decide +kernel
theorem d_Model_longBy_50 : decode c_Model_longBy 50 = .ok (.aload_n 0, 1) := by decide +kernel
theorem d_Model_longBy_51 : decode c_Model_longBy 51 = .ok (.iconst 5, 1) := by decide +kernel
theorem d_Model_longBy_52 : decode c_Model_longBy 52 = .ok (.invokevirtual 225, 3) := by decide +kernel
theorem d_Model_longBy_55 : decode c_Model_longBy 55 = .ok (.istore_n 3, 1) := by decide +kernel
theorem d_Model_longBy_56 : decode c_Model_longBy 56 = .ok (.aload_n 0, 1) := by decide +kernel
theorem d_Model_longBy_57 : decode c_Model_longBy 57 = .ok (.invokevirtual 231, 3) := by decide +kernel
theorem d_Model_longBy_60 : decode c_Model_longBy 60 = .ok (.astore 4, 2) := by decide +kernel
theorem d_Model_longBy_62 : decode c_Model_longBy 62 = .ok (.aload_n 0, 1) := by decide +kernel
theorem d_Model_longBy_63 : decode c_Model_longBy 63 = .ok (.getfield 13, 3) := by decide +kernel
theorem d_Model_longBy_66 : decode c_Model_longBy 66 = .ok (.iconst 0, 1) := by decide +kernel
theorem d_Model_longBy_67 : decode c_Model_longBy 67 = .ok (.iaload, 1) := by decide +kernel
theorem d_Model_longBy_68 : decode c_Model_longBy 68 = .ok (.istore 5, 2) := by decide +kernel
theorem d_Model_longBy_70 : decode c_Model_longBy 70 = .ok (.aload 4, 2) := by decide +kernel
theorem d_Model_longBy_72 : decode c_Model_longBy 72 = .ok (.iconst 0, 1) := by decide +kernel
theorem d_Model_longBy_73 : decode c_Model_longBy 73 = .ok (.iload_n 1, 1) := by decide +kernel
theorem d_Model_longBy_74 : decode c_Model_longBy 74 = .ok (.invokestatic 96, 3) := by decide +kernel
theorem d_Model_longBy_77 : decode c_Model_longBy 77 = .ok (.aload_n 0, 1) := by decide +kernel
theorem d_Model_longBy_78 : decode c_Model_longBy 78 = .ok (.getfield 9, 3) := by decide +kernel
theorem d_Model_longBy_81 : decode c_Model_longBy 81 = .ok (.iconst 0, 1) := by decide +kernel
theorem d_Model_longBy_82 : decode c_Model_longBy 82 = .ok (.iload_n 1, 1) := by decide +kernel
theorem d_Model_longBy_83 : decode c_Model_longBy 83 = .ok (.iload_n 2, 1) := by decide +kernel
theorem d_Model_longBy_84 : decode c_Model_longBy 84 = .ok (.iadd, 1) := by decide +kernel
theorem d_Model_longBy_85 : decode c_Model_longBy 85 = .ok (.invokestatic 96, 3) := by decide +kernel
theorem d_Model_longBy_88 : decode c_Model_longBy 88 = .ok (.iload 5, 2) := by decide +kernel
theorem d_Model_longBy_90 : decode c_Model_longBy 90 = .ok (.iload_n 1, 1) := by decide +kernel
theorem d_Model_longBy_91 : decode c_Model_longBy 91 = .ok (.isub, 1) := by decide +kernel
theorem d_Model_longBy_92 : decode c_Model_longBy 92 = .ok (.iconst 5, 1) := by decide +kernel
theorem d_Model_longBy_93 : decode c_Model_longBy 93 = .ok (.imul, 1) := by decide +kernel
theorem d_Model_longBy_94 : decode c_Model_longBy 94 = .ok (.invokestatic 116, 3) := by decide +kernel
theorem d_Model_longBy_97 : decode c_Model_longBy 97 = .ok (.iconst 0, 1) := by decide +kernel
theorem d_Model_longBy_98 : decode c_Model_longBy 98 = .ok (.istore 6, 2) := by decide +kernel
theorem d_Model_longBy_100 : decode c_Model_longBy 100 = .ok (.iload 6, 2) := by decide +kernel
theorem d_Model_longBy_102 : decode c_Model_longBy 102 = .ok (.iload_n 2, 1) := by decide +kernel
theorem d_Model_longBy_103 : decode c_Model_longBy 103 = .ok (.if_icmp .ge 23, 3) := by decide +kernel
theorem d_Model_longBy_106 : decode c_Model_longBy 106 = .ok (.aload_n 0, 1) := by decide +kernel
theorem d_Model_longBy_107 : decode c_Model_longBy 107 = .ok (.iconst 0, 1) := by decide +kernel
theorem d_Model_longBy_108 : decode c_Model_longBy 108 = .ok (.iload_n 1, 1) := by decide +kernel
theorem d_Model_longBy_109 : decode c_Model_longBy 109 = .ok (.iload 6, 2) := by decide +kernel
theorem d_Model_longBy_111 : decode c_Model_longBy 111 = .ok (.iadd, 1) := by decide +kernel
theorem d_Model_longBy_112 : decode c_Model_longBy 112 = .ok (.iconst 2, 1) := by decide +kernel
theorem d_Model_longBy_113 : decode c_Model_longBy 113 = .ok (.iconst (-1), 1) := by decide +kernel
theorem d_Model_longBy_114 : decode c_Model_longBy 114 = .ok (.iconst (-1), 1) := by decide +kernel
theorem d_Model_longBy_115 : decode c_Model_longBy 115 = .ok (.iconst 0, 1) := by decide +kernel
theorem d_Model_longBy_116 : decode c_Model_longBy 116 = .ok (.iconst 0, 1) := by decide +kernel
theorem d_Model_longBy_117 : decode c_Model_longBy 117 = .ok (.invokevirtual 108, 3) := by decide +kernel
theorem d_Model_longBy_120 : decode c_Model_longBy 120 = .ok (.iinc 6 1, 3) := by decide +kernel
theorem d_Model_longBy_123 : decode c_Model_longBy 123 = .ok (.goto (-23), 3) := by decide +kernel
theorem d_Model_longBy_126 : decode c_Model_longBy 126 = .ok (.aload_n 0, 1) := by decide +kernel
theorem d_Model_longBy_127 : decode c_Model_longBy 127 = .ok (.getfield 13, 3) := by decide +kernel
theorem d_Model_longBy_130 : decode c_Model_longBy 130 = .ok (.iconst 0, 1) := by decide +kernel
theorem d_Model_longBy_131 : decode c_Model_longBy 131 = .ok (.iload 5, 2) := by decide +kernel
theorem d_Model_longBy_133 : decode c_Model_longBy 133 = .ok (.iload_n 2, 1) := by decide +kernel
theorem d_Model_longBy_134 : decode c_Model_longBy 134 = .ok (.iadd, 1) := by decide +kernel
theorem d_Model_longBy_135 : decode c_Model_longBy 135 = .ok (.iastore, 1) := by decide +kernel
theorem d_Model_longBy_136 : decode c_Model_longBy 136 = .ok (.aload_n 0, 1) := by decide +kernel
theorem d_Model_longBy_137 : decode c_Model_longBy 137 = .ok (.invokevirtual 77, 3) := by decide +kernel
theorem d_Model_longBy_140 : decode c_Model_longBy 140 = .ok (.aload_n 0, 1) := by decide +kernel
theorem d_Model_longBy_141 : decode c_Model_longBy 141 = .ok (.getfield 126, 3) := by decide +kernel
theorem d_Model_longBy_144 : decode c_Model_longBy 144 = .ok (.ifCond .le 14, 3) := by decide +kernel
theorem d_Model_longBy_147 : decode c_Model_longBy 147 = .ok (.sipush (-1000), 3) := by decide +kernel
theorem d_Model_longBy_150 : decode c_Model_longBy 150 = .ok (.aload_n 0, 1) := by decide +kernel
theorem d_Model_longBy_151 : decode c_Model_longBy 151 = .ok (.getfield 126, 3) := by decide +kernel
theorem d_Model_longBy_154 : decode c_Model_longBy 154 = .ok (.isub, 1) := by decide +kernel
theorem d_Model_longBy_155 : decode c_Model_longBy 155 = .ok (.goto 10, 3) := by decide +kernel
theorem d_Model_longBy_158 : decode c_Model_longBy 158 = .ok (.aload_n 0, 1) := by decide +kernel
theorem d_Model_longBy_159 : decode c_Model_longBy 159 = .ok (.iconst 5, 1) := by decide +kernel
theorem d_Model_longBy_160 : decode c_Model_longBy 160 = .ok (.invokevirtual 225, 3) := by decide +kernel
theorem d_Model_longBy_163 : decode c_Model_longBy 163 = .ok (.iload_n 3, 1) := by decide +kernel
theorem d_Model_longBy_164 : decode c_Model_longBy 164 = .ok (.isub, 1) := by decide +kernel
theorem d_Model_longBy_165 : decode c_Model_longBy 165 = .ok (.istore 6, 2) := by decide +kernel
theorem d_Model_longBy_167 : decode c_Model_longBy 167 = .ok (.aload_n 0, 1) := by decide +kernel
theorem d_Model_longBy_168 : decode c_Model_longBy 168 = .ok (.aload 4, 2) := by decide +kernel
theorem d_Model_longBy_170 : decode c_Model_longBy 170 = .ok (.iconst 0, 1) := by decide +kernel
theorem d_Model_longBy_171 : decode c_Model_longBy 171 = .ok (.iload 5, 2) := by decide +kernel
theorem d_Model_longBy_173 : decode c_Model_longBy 173 = .ok (.invokevirtual 239, 3) := by decide +kernel
theorem d_Model_longBy_176 : decode c_Model_longBy 176 = .ok (.iload 6, 2) := by decide +kernel
theorem d_Model_longBy_178 : decode c_Model_longBy 178 = .ok (.ireturn, 1) := by decide +kernel
theorem d_Model_digest_0 : decode c_Model_digest 0 = .ok (.aload_n 0, 1) := by decide +kernel
theorem d_Model_digest_1 : decode c_Model_digest 1 = .ok (.iconst 0, 1) := by decide +kernel
theorem d_Model_digest_2 : decode c_Model_digest 2 = .ok (.putfield 80, 3) := by decide +kernel
theorem d_Model_digest_5 : decode c_Model_digest 5 = .ok (.ldc2_w 249, 3) := by decide +kernel
theorem d_Model_digest_8 : decode c_Model_digest 8 = .ok (.lstore_n 1, 1) := by decide +kernel
theorem d_Model_digest_9 : decode c_Model_digest 9 = .ok (.iconst 0, 1) := by decide +kernel
theorem d_Model_digest_10 : decode c_Model_digest 10 = .ok (.istore_n 3, 1) := by decide +kernel
theorem d_Model_digest_11 : decode c_Model_digest 11 = .ok (.iload_n 3, 1) := by decide +kernel
theorem d_Model_digest_12 : decode c_Model_digest 12 = .ok (.bipush 12, 2) := by decide +kernel
theorem d_Model_digest_14 : decode c_Model_digest 14 = .ok (.if_icmp .ge 22, 3) := by decide +kernel
theorem d_Model_digest_17 : decode c_Model_digest 17 = .ok (.lload_n 1, 1) := by decide +kernel
theorem d_Model_digest_18 : decode c_Model_digest 18 = .ok (.ldc2_w 251, 3) := by decide +kernel
theorem d_Model_digest_21 : decode c_Model_digest 21 = .ok (.lmul, 1) := by decide +kernel
theorem d_Model_digest_22 : decode c_Model_digest 22 = .ok (.aload_n 0, 1) := by decide +kernel
theorem d_Model_digest_23 : decode c_Model_digest 23 = .ok (.iload_n 3, 1) := by decide +kernel
theorem d_Model_digest_24 : decode c_Model_digest 24 = .ok (.invokevirtual 228, 3) := by decide +kernel
theorem d_Model_digest_27 : decode c_Model_digest 27 = .ok (.i2l, 1) := by decide +kernel
theorem d_Model_digest_28 : decode c_Model_digest 28 = .ok (.ladd, 1) := by decide +kernel
theorem d_Model_digest_29 : decode c_Model_digest 29 = .ok (.lstore_n 1, 1) := by decide +kernel
theorem d_Model_digest_30 : decode c_Model_digest 30 = .ok (.iinc 3 1, 3) := by decide +kernel
theorem d_Model_digest_33 : decode c_Model_digest 33 = .ok (.goto (-22), 3) := by decide +kernel
theorem d_Model_digest_36 : decode c_Model_digest 36 = .ok (.lload_n 1, 1) := by decide +kernel
theorem d_Model_digest_37 : decode c_Model_digest 37 = .ok (.ldc2_w 251, 3) := by decide +kernel
theorem d_Model_digest_40 : decode c_Model_digest 40 = .ok (.lmul, 1) := by decide +kernel
theorem d_Model_digest_41 : decode c_Model_digest 41 = .ok (.aload_n 0, 1) := by decide +kernel
theorem d_Model_digest_42 : decode c_Model_digest 42 = .ok (.getfield 126, 3) := by decide +kernel
theorem d_Model_digest_45 : decode c_Model_digest 45 = .ok (.i2l, 1) := by decide +kernel
theorem d_Model_digest_46 : decode c_Model_digest 46 = .ok (.ladd, 1) := by decide +kernel
theorem d_Model_digest_47 : decode c_Model_digest 47 = .ok (.ldc2_w 251, 3) := by decide +kernel
theorem d_Model_digest_50 : decode c_Model_digest 50 = .ok (.lmul, 1) := by decide +kernel
theorem d_Model_digest_51 : decode c_Model_digest 51 = .ok (.aload_n 0, 1) := by decide +kernel
theorem d_Model_digest_52 : decode c_Model_digest 52 = .ok (.getfield 129, 3) := by decide +kernel
theorem d_Model_digest_55 : decode c_Model_digest 55 = .ok (.i2l, 1) := by decide +kernel
theorem d_Model_digest_56 : decode c_Model_digest 56 = .ok (.ladd, 1) := by decide +kernel
theorem d_Model_digest_57 : decode c_Model_digest 57 = .ok (.lstore_n 1, 1) := by decide +kernel
theorem d_Model_digest_58 : decode c_Model_digest 58 = .ok (.iconst 0, 1) := by decide +kernel
theorem d_Model_digest_59 : decode c_Model_digest 59 = .ok (.istore_n 3, 1) := by decide +kernel
theorem d_Model_digest_60 : decode c_Model_digest 60 = .ok (.iload_n 3, 1) := by decide +kernel
theorem d_Model_digest_61 : decode c_Model_digest 61 = .ok (.aload_n 0, 1) := by decide +kernel
theorem d_Model_digest_62 : decode c_Model_digest 62 = .ok (.getfield 13, 3) := by decide +kernel
theorem d_Model_digest_65 : decode c_Model_digest 65 = .ok (.iconst 0, 1) := by decide +kernel
theorem d_Model_digest_66 : decode c_Model_digest 66 = .ok (.iaload, 1) := by decide +kernel
theorem d_Model_digest_67 : decode c_Model_digest 67 = .ok (.if_icmp .ge 23, 3) := by decide +kernel
theorem d_Model_digest_70 : decode c_Model_digest 70 = .ok (.lload_n 1, 1) := by decide +kernel
theorem d_Model_digest_71 : decode c_Model_digest 71 = .ok (.ldc2_w 251, 3) := by decide +kernel
theorem d_Model_digest_74 : decode c_Model_digest 74 = .ok (.lmul, 1) := by decide +kernel
theorem d_Model_digest_75 : decode c_Model_digest 75 = .ok (.aload_n 0, 1) := by decide +kernel
theorem d_Model_digest_76 : decode c_Model_digest 76 = .ok (.iconst 0, 1) := by decide +kernel
theorem d_Model_digest_77 : decode c_Model_digest 77 = .ok (.iload_n 3, 1) := by decide +kernel
theorem d_Model_digest_78 : decode c_Model_digest 78 = .ok (.invokevirtual 243, 3) := by decide +kernel
theorem d_Model_digest_81 : decode c_Model_digest 81 = .ok (.i2l, 1) := by decide +kernel
theorem d_Model_digest_82 : decode c_Model_digest 82 = .ok (.ladd, 1) := by decide +kernel
theorem d_Model_digest_83 : decode c_Model_digest 83 = .ok (.lstore_n 1, 1) := by decide +kernel
theorem d_Model_digest_84 : decode c_Model_digest 84 = .ok (.iinc 3 1, 3) := by decide +kernel
theorem d_Model_digest_87 : decode c_Model_digest 87 = .ok (.goto (-27), 3) := by decide +kernel
theorem d_Model_digest_90 : decode c_Model_digest 90 = .ok (.aload_n 0, 1) := by decide +kernel
theorem d_Model_digest_91 : decode c_Model_digest 91 = .ok (.getfield 126, 3) := by decide +kernel
theorem d_Model_digest_94 : decode c_Model_digest 94 = .ok (.ifCond .le 5, 3) := by decide +kernel
theorem d_Model_digest_97 : decode c_Model_digest 97 = .ok (.lload_n 1, 1) := by decide +kernel
theorem d_Model_digest_98 : decode c_Model_digest 98 = .ok (.lreturn, 1) := by decide +kernel
theorem d_Model_digest_99 : decode c_Model_digest 99 = .ok (.iconst 0, 1) := by decide +kernel
theorem d_Model_digest_100 : decode c_Model_digest 100 = .ok (.istore_n 3, 1) := by decide +kernel
theorem d_Model_digest_101 : decode c_Model_digest 101 = .ok (.iload_n 3, 1) := by decide +kernel
theorem d_Model_digest_102 : decode c_Model_digest 102 = .ok (.aload_n 0, 1) := by decide +kernel
theorem d_Model_digest_103 : decode c_Model_digest 103 = .ok (.getfield 132, 3) := by decide +kernel
theorem d_Model_digest_106 : decode c_Model_digest 106 = .ok (.if_icmp .ge 40, 3) := by decide +kernel
theorem d_Model_digest_109 : decode c_Model_digest 109 = .ok (.iconst 0, 1) := by decide +kernel
theorem d_Model_digest_110 : decode c_Model_digest 110 = .ok (.istore 4, 2) := by decide +kernel
theorem d_Model_digest_112 : decode c_Model_digest 112 = .ok (.iload 4, 2) := by decide +kernel
theorem d_Model_digest_114 : decode c_Model_digest 114 = .ok (.bipush 8, 2) := by decide +kernel
theorem d_Model_digest_116 : decode c_Model_digest 116 = .ok (.if_icmp .ge 24, 3) := by decide +kernel
theorem d_Model_digest_119 : decode c_Model_digest 119 = .ok (.lload_n 1, 1) := by decide +kernel
theorem d_Model_digest_120 : decode c_Model_digest 120 = .ok (.ldc2_w 251, 3) := by decide +kernel
theorem d_Model_digest_123 : decode c_Model_digest 123 = .ok (.lmul, 1) := by decide +kernel
theorem d_Model_digest_124 : decode c_Model_digest 124 = .ok (.aload_n 0, 1) := by decide +kernel
theorem d_Model_digest_125 : decode c_Model_digest 125 = .ok (.iload_n 3, 1) := by decide +kernel
theorem d_Model_digest_126 : decode c_Model_digest 126 = .ok (.iload 4, 2) := by decide +kernel
theorem d_Model_digest_128 : decode c_Model_digest 128 = .ok (.invokevirtual 210, 3) := by decide +kernel
theorem d_Model_digest_131 : decode c_Model_digest 131 = .ok (.i2l, 1) := by decide +kernel
theorem d_Model_digest_132 : decode c_Model_digest 132 = .ok (.ladd, 1) := by decide +kernel
theorem d_Model_digest_133 : decode c_Model_digest 133 = .ok (.lstore_n 1, 1) := by decide +kernel
theorem d_Model_digest_134 : decode c_Model_digest 134 = .ok (.iinc 4 1, 3) := by decide +kernel
theorem d_Model_digest_137 : decode c_Model_digest 137 = .ok (.goto (-25), 3) := by decide +kernel
theorem d_Model_digest_140 : decode c_Model_digest 140 = .ok (.iinc 3 1, 3) := by decide +kernel
theorem d_Model_digest_143 : decode c_Model_digest 143 = .ok (.goto (-42), 3) := by decide +kernel
theorem d_Model_digest_146 : decode c_Model_digest 146 = .ok (.iconst 0, 1) := by decide +kernel
theorem d_Model_digest_147 : decode c_Model_digest 147 = .ok (.istore_n 3, 1) := by decide +kernel
theorem d_Model_digest_148 : decode c_Model_digest 148 = .ok (.iload_n 3, 1) := by decide +kernel
theorem d_Model_digest_149 : decode c_Model_digest 149 = .ok (.aload_n 0, 1) := by decide +kernel
theorem d_Model_digest_150 : decode c_Model_digest 150 = .ok (.getfield 165, 3) := by decide +kernel
theorem d_Model_digest_153 : decode c_Model_digest 153 = .ok (.if_icmp .ge 22, 3) := by decide +kernel
theorem d_Model_digest_156 : decode c_Model_digest 156 = .ok (.lload_n 1, 1) := by decide +kernel
theorem d_Model_digest_157 : decode c_Model_digest 157 = .ok (.ldc2_w 251, 3) := by decide +kernel
theorem d_Model_digest_160 : decode c_Model_digest 160 = .ok (.lmul, 1) := by decide +kernel
theorem d_Model_digest_161 : decode c_Model_digest 161 = .ok (.aload_n 0, 1) := by decide +kernel
theorem d_Model_digest_162 : decode c_Model_digest 162 = .ok (.iload_n 3, 1) := by decide +kernel
theorem d_Model_digest_163 : decode c_Model_digest 163 = .ok (.invokevirtual 219, 3) := by decide +kernel
theorem d_Model_digest_166 : decode c_Model_digest 166 = .ok (.i2l, 1) := by decide +kernel
theorem d_Model_digest_167 : decode c_Model_digest 167 = .ok (.ladd, 1) := by decide +kernel
theorem d_Model_digest_168 : decode c_Model_digest 168 = .ok (.lstore_n 1, 1) := by decide +kernel
theorem d_Model_digest_169 : decode c_Model_digest 169 = .ok (.iinc 3 1, 3) := by decide +kernel
theorem d_Model_digest_172 : decode c_Model_digest 172 = .ok (.goto (-24), 3) := by decide +kernel
theorem d_Model_digest_175 : decode c_Model_digest 175 = .ok (.iconst 0, 1) := by decide +kernel
theorem d_Model_digest_176 : decode c_Model_digest 176 = .ok (.istore_n 3, 1) := by decide +kernel
theorem d_Model_digest_177 : decode c_Model_digest 177 = .ok (.iload_n 3, 1) := by decide +kernel
theorem d_Model_digest_178 : decode c_Model_digest 178 = .ok (.bipush 8, 2) := by decide +kernel
theorem d_Model_digest_180 : decode c_Model_digest 180 = .ok (.if_icmp .ge 22, 3) := by decide +kernel
theorem d_Model_digest_183 : decode c_Model_digest 183 = .ok (.lload_n 1, 1) := by decide +kernel
theorem d_Model_digest_184 : decode c_Model_digest 184 = .ok (.ldc2_w 251, 3) := by decide +kernel
theorem d_Model_digest_187 : decode c_Model_digest 187 = .ok (.lmul, 1) := by decide +kernel
theorem d_Model_digest_188 : decode c_Model_digest 188 = .ok (.aload_n 0, 1) := by decide +kernel
theorem d_Model_digest_189 : decode c_Model_digest 189 = .ok (.iload_n 3, 1) := by decide +kernel
theorem d_Model_digest_190 : decode c_Model_digest 190 = .ok (.invokevirtual 222, 3) := by decide +kernel
theorem d_Model_digest_193 : decode c_Model_digest 193 = .ok (.i2l, 1) := by decide +kernel
theorem d_Model_digest_194 : decode c_Model_digest 194 = .ok (.ladd, 1) := by decide +kernel
theorem d_Model_digest_195 : decode c_Model_digest 195 = .ok (.lstore_n 1, 1) := by decide +kernel
theorem d_Model_digest_196 : decode c_Model_digest 196 = .ok (.iinc 3 1, 3) := by decide +kernel
theorem d_Model_digest_199 : decode c_Model_digest 199 = .ok (.goto (-22), 3) := by decide +kernel
theorem d_Model_digest_202 : decode c_Model_digest 202 = .ok (.lload_n 1, 1) := by decide +kernel
theorem d_Model_digest_203 : decode c_Model_digest 203 = .ok (.ldc2_w 251, 3) := by decide +kernel
theorem d_Model_digest_206 : decode c_Model_digest 206 = .ok (.lmul, 1) := by decide +kernel
theorem d_Model_digest_207 : decode c_Model_digest 207 = .ok (.aload_n 0, 1) := by decide +kernel
theorem d_Model_digest_208 : decode c_Model_digest 208 = .ok (.invokevirtual 246, 3) := by decide +kernel
theorem d_Model_digest_211 : decode c_Model_digest 211 = .ok (.i2l, 1) := by decide +kernel
theorem d_Model_digest_212 : decode c_Model_digest 212 = .ok (.ladd, 1) := by decide +kernel
theorem d_Model_digest_213 : decode c_Model_digest 213 = .ok (.lreturn, 1) := by decide +kernel
theorem d_Math_max_7cf53_0 : decode c_Math_max_7cf53 0 = .ok (.iload_n 0, 1) := by decide +kernel
theorem d_Math_max_7cf53_1 : decode c_Math_max_7cf53 1 = .ok (.iload_n 1, 1) := by decide +kernel
theorem d_Math_max_7cf53_2 : decode c_Math_max_7cf53 2 = .ok (.if_icmp .lt 7, 3) := by decide +kernel
theorem d_Math_max_7cf53_5 : decode c_Math_max_7cf53 5 = .ok (.iload_n 0, 1) := by decide +kernel
theorem d_Math_max_7cf53_6 : decode c_Math_max_7cf53 6 = .ok (.goto 4, 3) := by decide +kernel
theorem d_Math_max_7cf53_9 : decode c_Math_max_7cf53 9 = .ok (.iload_n 1, 1) := by decide +kernel
theorem d_Math_max_7cf53_10 : decode c_Math_max_7cf53 10 = .ok (.ireturn, 1) := by decide +kernel
theorem d_Math_min_7cf53_0 : decode c_Math_min_7cf53 0 = .ok (.iload_n 0, 1) := by decide +kernel
theorem d_Math_min_7cf53_1 : decode c_Math_min_7cf53 1 = .ok (.iload_n 1, 1) := by decide +kernel
theorem d_Math_min_7cf53_2 : decode c_Math_min_7cf53 2 = .ok (.if_icmp .gt 7, 3) := by decide +kernel
theorem d_Math_min_7cf53_5 : decode c_Math_min_7cf53 5 = .ok (.iload_n 0, 1) := by decide +kernel
theorem d_Math_min_7cf53_6 : decode c_Math_min_7cf53 6 = .ok (.goto 4, 3) := by decide +kernel
theorem d_Math_min_7cf53_9 : decode c_Math_min_7cf53 9 = .ok (.iload_n 1, 1) := by decide +kernel
theorem d_Math_min_7cf53_10 : decode c_Math_min_7cf53 10 = .ok (.ireturn, 1) := by decide +kernel
theorem d_Law_add_0 : decode c_Law_add 0 = .ok (.aload 7, 2) := by decide +kernel
theorem d_Law_add_2 : decode c_Law_add 2 = .ok (.iconst 0, 1) := by decide +kernel
theorem d_Law_add_3 : decode c_Law_add 3 = .ok (.aload_n 0, 1) := by decide +kernel
theorem d_Law_add_4 : decode c_Law_add 4 = .ok (.iload_n 1, 1) := by decide +kernel
theorem d_Law_add_5 : decode c_Law_add 5 = .ok (.iload_n 2, 1) := by decide +kernel
theorem d_Law_add_6 : decode c_Law_add 6 = .ok (.iload_n 3, 1) := by decide +kernel
theorem d_Law_add_7 : decode c_Law_add 7 = .ok (.iload 4, 2) := by decide +kernel
theorem d_Law_add_9 : decode c_Law_add 9 = .ok (.iload 5, 2) := by decide +kernel
theorem d_Law_add_11 : decode c_Law_add 11 = .ok (.iload 6, 2) := by decide +kernel
theorem d_Law_add_13 : decode c_Law_add 13 = .ok (.invokevirtual 7, 3) := by decide +kernel
theorem d_Law_add_16 : decode c_Law_add 16 = .ok (.i2l, 1) := by decide +kernel
theorem d_Law_add_17 : decode c_Law_add 17 = .ok (.lastore, 1) := by decide +kernel
theorem d_Law_add_18 : decode c_Law_add 18 = .ok (.goto 15, 3) := by decide +kernel
theorem d_Law_add_21 : decode c_Law_add 21 = .ok (.astore 8, 2) := by decide +kernel
theorem d_Law_add_23 : decode c_Law_add 23 = .ok (.iconst 1, 1) := by decide +kernel
theorem d_Law_add_24 : decode c_Law_add 24 = .ok (.ireturn, 1) := by decide +kernel
theorem d_Law_add_25 : decode c_Law_add 25 = .ok (.astore 8, 2) := by decide +kernel
theorem d_Law_add_27 : decode c_Law_add 27 = .ok (.iconst 2, 1) := by decide +kernel
theorem d_Law_add_28 : decode c_Law_add 28 = .ok (.ireturn, 1) := by decide +kernel
theorem d_Law_add_29 : decode c_Law_add 29 = .ok (.astore 8, 2) := by decide +kernel
theorem d_Law_add_31 : decode c_Law_add 31 = .ok (.iconst 3, 1) := by decide +kernel
theorem d_Law_add_32 : decode c_Law_add 32 = .ok (.ireturn, 1) := by decide +kernel
theorem d_Law_add_33 : decode c_Law_add 33 = .ok (.iconst 0, 1) := by decide +kernel
theorem d_Law_add_34 : decode c_Law_add 34 = .ok (.ireturn, 1) := by decide +kernel
theorem d_Law_put_0 : decode c_Law_put 0 = .ok (.aload 8, 2) := by decide +kernel
theorem d_Law_put_2 : decode c_Law_put 2 = .ok (.iconst 0, 1) := by decide +kernel
theorem d_Law_put_3 : decode c_Law_put 3 = .ok (.aload_n 0, 1) := by decide +kernel
theorem d_Law_put_4 : decode c_Law_put 4 = .ok (.iload_n 1, 1) := by decide +kernel
theorem d_Law_put_5 : decode c_Law_put 5 = .ok (.iload_n 2, 1) := by decide +kernel
theorem d_Law_put_6 : decode c_Law_put 6 = .ok (.iload_n 3, 1) := by decide +kernel
theorem d_Law_put_7 : decode c_Law_put 7 = .ok (.iload 4, 2) := by decide +kernel
theorem d_Law_put_9 : decode c_Law_put 9 = .ok (.iload 5, 2) := by decide +kernel
theorem d_Law_put_11 : decode c_Law_put 11 = .ok (.iload 6, 2) := by decide +kernel
theorem d_Law_put_13 : decode c_Law_put 13 = .ok (.iload 7, 2) := by decide +kernel
theorem d_Law_put_15 : decode c_Law_put 15 = .ok (.invokevirtual 19, 3) := by decide +kernel
theorem d_Law_put_18 : decode c_Law_put 18 = .ok (.i2l, 1) := by decide +kernel
theorem d_Law_put_19 : decode c_Law_put 19 = .ok (.lastore, 1) := by decide +kernel
theorem d_Law_put_20 : decode c_Law_put 20 = .ok (.goto 11, 3) := by decide +kernel
theorem d_Law_put_23 : decode c_Law_put 23 = .ok (.astore 9, 2) := by decide +kernel
theorem d_Law_put_25 : decode c_Law_put 25 = .ok (.iconst 1, 1) := by decide +kernel
theorem d_Law_put_26 : decode c_Law_put 26 = .ok (.ireturn, 1) := by decide +kernel
theorem d_Law_put_27 : decode c_Law_put 27 = .ok (.astore 9, 2) := by decide +kernel
theorem d_Law_put_29 : decode c_Law_put 29 = .ok (.iconst 2, 1) := by decide +kernel
theorem d_Law_put_30 : decode c_Law_put 30 = .ok (.ireturn, 1) := by decide +kernel
theorem d_Law_put_31 : decode c_Law_put 31 = .ok (.iconst 0, 1) := by decide +kernel
theorem d_Law_put_32 : decode c_Law_put 32 = .ok (.ireturn, 1) := by decide +kernel
theorem d_Law_cut_0 : decode c_Law_cut 0 = .ok (.aload_n 3, 1) := by decide +kernel
theorem d_Law_cut_1 : decode c_Law_cut 1 = .ok (.iconst 0, 1) := by decide +kernel
theorem d_Law_cut_2 : decode c_Law_cut 2 = .ok (.aload_n 0, 1) := by decide +kernel
theorem d_Law_cut_3 : decode c_Law_cut 3 = .ok (.iload_n 1, 1) := by decide +kernel
theorem d_Law_cut_4 : decode c_Law_cut 4 = .ok (.iload_n 2, 1) := by decide +kernel
theorem d_Law_cut_5 : decode c_Law_cut 5 = .ok (.invokevirtual 23, 3) := by decide +kernel
theorem d_Law_cut_8 : decode c_Law_cut 8 = .ok (.i2l, 1) := by decide +kernel
theorem d_Law_cut_9 : decode c_Law_cut 9 = .ok (.lastore, 1) := by decide +kernel
theorem d_Law_cut_10 : decode c_Law_cut 10 = .ok (.goto 7, 3) := by decide +kernel
theorem d_Law_cut_13 : decode c_Law_cut 13 = .ok (.astore 4, 2) := by decide +kernel
theorem d_Law_cut_15 : decode c_Law_cut 15 = .ok (.iconst 1, 1) := by decide +kernel
theorem d_Law_cut_16 : decode c_Law_cut 16 = .ok (.ireturn, 1) := by decide +kernel
theorem d_Law_cut_17 : decode c_Law_cut 17 = .ok (.iconst 0, 1) := by decide +kernel
theorem d_Law_cut_18 : decode c_Law_cut 18 = .ok (.ireturn, 1) := by decide +kernel
theorem d_Law_ofLine_0 : decode c_Law_ofLine 0 = .ok (.aload 4, 2) := by decide +kernel
theorem d_Law_ofLine_2 : decode c_Law_ofLine 2 = .ok (.iconst 0, 1) := by decide +kernel
theorem d_Law_ofLine_3 : decode c_Law_ofLine 3 = .ok (.aload_n 0, 1) := by decide +kernel
theorem d_Law_ofLine_4 : decode c_Law_ofLine 4 = .ok (.iload_n 1, 1) := by decide +kernel
theorem d_Law_ofLine_5 : decode c_Law_ofLine 5 = .ok (.iload_n 2, 1) := by decide +kernel
theorem d_Law_ofLine_6 : decode c_Law_ofLine 6 = .ok (.iload_n 3, 1) := by decide +kernel
theorem d_Law_ofLine_7 : decode c_Law_ofLine 7 = .ok (.invokevirtual 27, 3) := by decide +kernel
theorem d_Law_ofLine_10 : decode c_Law_ofLine 10 = .ok (.i2l, 1) := by decide +kernel
theorem d_Law_ofLine_11 : decode c_Law_ofLine 11 = .ok (.lastore, 1) := by decide +kernel
theorem d_Law_ofLine_12 : decode c_Law_ofLine 12 = .ok (.goto 11, 3) := by decide +kernel
theorem d_Law_ofLine_15 : decode c_Law_ofLine 15 = .ok (.astore 5, 2) := by decide +kernel
theorem d_Law_ofLine_17 : decode c_Law_ofLine 17 = .ok (.iconst 1, 1) := by decide +kernel
theorem d_Law_ofLine_18 : decode c_Law_ofLine 18 = .ok (.ireturn, 1) := by decide +kernel
theorem d_Law_ofLine_19 : decode c_Law_ofLine 19 = .ok (.astore 5, 2) := by decide +kernel
theorem d_Law_ofLine_21 : decode c_Law_ofLine 21 = .ok (.iconst 2, 1) := by decide +kernel
theorem d_Law_ofLine_22 : decode c_Law_ofLine 22 = .ok (.ireturn, 1) := by decide +kernel
theorem d_Law_ofLine_23 : decode c_Law_ofLine 23 = .ok (.iconst 0, 1) := by decide +kernel
theorem d_Law_ofLine_24 : decode c_Law_ofLine 24 = .ok (.ireturn, 1) := by decide +kernel
theorem d_Law_ofItem_0 : decode c_Law_ofItem 0 = .ok (.aload_n 3, 1) := by decide +kernel
theorem d_Law_ofItem_1 : decode c_Law_ofItem 1 = .ok (.iconst 0, 1) := by decide +kernel
theorem d_Law_ofItem_2 : decode c_Law_ofItem 2 = .ok (.aload_n 0, 1) := by decide +kernel
theorem d_Law_ofItem_3 : decode c_Law_ofItem 3 = .ok (.iload_n 1, 1) := by decide +kernel
theorem d_Law_ofItem_4 : decode c_Law_ofItem 4 = .ok (.iload_n 2, 1) := by decide +kernel
theorem d_Law_ofItem_5 : decode c_Law_ofItem 5 = .ok (.invokevirtual 31, 3) := by decide +kernel
theorem d_Law_ofItem_8 : decode c_Law_ofItem 8 = .ok (.i2l, 1) := by decide +kernel
theorem d_Law_ofItem_9 : decode c_Law_ofItem 9 = .ok (.lastore, 1) := by decide +kernel
theorem d_Law_ofItem_10 : decode c_Law_ofItem 10 = .ok (.goto 11, 3) := by decide +kernel
theorem d_Law_ofItem_13 : decode c_Law_ofItem 13 = .ok (.astore 4, 2) := by decide +kernel
theorem d_Law_ofItem_15 : decode c_Law_ofItem 15 = .ok (.iconst 1, 1) := by decide +kernel
theorem d_Law_ofItem_16 : decode c_Law_ofItem 16 = .ok (.ireturn, 1) := by decide +kernel
theorem d_Law_ofItem_17 : decode c_Law_ofItem 17 = .ok (.astore 4, 2) := by decide +kernel
theorem d_Law_ofItem_19 : decode c_Law_ofItem 19 = .ok (.iconst 2, 1) := by decide +kernel
theorem d_Law_ofItem_20 : decode c_Law_ofItem 20 = .ok (.ireturn, 1) := by decide +kernel
theorem d_Law_ofItem_21 : decode c_Law_ofItem 21 = .ok (.iconst 0, 1) := by decide +kernel
theorem d_Law_ofItem_22 : decode c_Law_ofItem 22 = .ok (.ireturn, 1) := by decide +kernel
theorem d_Law_word_0 : decode c_Law_word 0 = .ok (.aload_n 2, 1) := by decide +kernel
theorem d_Law_word_1 : decode c_Law_word 1 = .ok (.iconst 0, 1) := by decide +kernel
theorem d_Law_word_2 : decode c_Law_word 2 = .ok (.aload_n 0, 1) := by decide +kernel
theorem d_Law_word_3 : decode c_Law_word 3 = .ok (.iload_n 1, 1) := by decide +kernel
theorem d_Law_word_4 : decode c_Law_word 4 = .ok (.invokevirtual 34, 3) := by decide +kernel
theorem d_Law_word_7 : decode c_Law_word 7 = .ok (.i2l, 1) := by decide +kernel
theorem d_Law_word_8 : decode c_Law_word 8 = .ok (.lastore, 1) := by decide +kernel
theorem d_Law_word_9 : decode c_Law_word 9 = .ok (.goto 6, 3) := by decide +kernel
theorem d_Law_word_12 : decode c_Law_word 12 = .ok (.astore_n 3, 1) := by decide +kernel
theorem d_Law_word_13 : decode c_Law_word 13 = .ok (.iconst 1, 1) := by decide +kernel
theorem d_Law_word_14 : decode c_Law_word 14 = .ok (.ireturn, 1) := by decide +kernel
theorem d_Law_word_15 : decode c_Law_word 15 = .ok (.iconst 0, 1) := by decide +kernel
theorem d_Law_word_16 : decode c_Law_word 16 = .ok (.ireturn, 1) := by decide +kernel
theorem d_Law_itemOf_0 : decode c_Law_itemOf 0 = .ok (.aload_n 2, 1) := by decide +kernel
theorem d_Law_itemOf_1 : decode c_Law_itemOf 1 = .ok (.iconst 0, 1) := by decide +kernel
theorem d_Law_itemOf_2 : decode c_Law_itemOf 2 = .ok (.aload_n 0, 1) := by decide +kernel
theorem d_Law_itemOf_3 : decode c_Law_itemOf 3 = .ok (.iload_n 1, 1) := by decide +kernel
theorem d_Law_itemOf_4 : decode c_Law_itemOf 4 = .ok (.invokevirtual 38, 3) := by decide +kernel
theorem d_Law_itemOf_7 : decode c_Law_itemOf 7 = .ok (.i2l, 1) := by decide +kernel
theorem d_Law_itemOf_8 : decode c_Law_itemOf 8 = .ok (.lastore, 1) := by decide +kernel
theorem d_Law_itemOf_9 : decode c_Law_itemOf 9 = .ok (.goto 6, 3) := by decide +kernel
theorem d_Law_itemOf_12 : decode c_Law_itemOf 12 = .ok (.astore_n 3, 1) := by decide +kernel
theorem d_Law_itemOf_13 : decode c_Law_itemOf 13 = .ok (.iconst 1, 1) := by decide +kernel
theorem d_Law_itemOf_14 : decode c_Law_itemOf 14 = .ok (.ireturn, 1) := by decide +kernel
theorem d_Law_itemOf_15 : decode c_Law_itemOf 15 = .ok (.iconst 0, 1) := by decide +kernel
theorem d_Law_itemOf_16 : decode c_Law_itemOf 16 = .ok (.ireturn, 1) := by decide +kernel
theorem d_Law_isCode_0 : decode c_Law_isCode 0 = .ok (.aload_n 2, 1) := by decide +kernel
theorem d_Law_isCode_1 : decode c_Law_isCode 1 = .ok (.iconst 0, 1) := by decide +kernel
theorem d_Law_isCode_2 : decode c_Law_isCode 2 = .ok (.aload_n 0, 1) := by decide +kernel
theorem d_Law_isCode_3 : decode c_Law_isCode 3 = .ok (.iload_n 1, 1) := by decide +kernel
theorem d_Law_isCode_4 : decode c_Law_isCode 4 = .ok (.invokevirtual 41, 3) := by decide +kernel
theorem d_Law_isCode_7 : decode c_Law_isCode 7 = .ok (.ifCond .eq 7, 3) := by decide +kernel
theorem d_Law_isCode_10 : decode c_Law_isCode 10 = .ok (.lconst 1, 1) := by decide +kernel
theorem d_Law_isCode_11 : decode c_Law_isCode 11 = .ok (.goto 4, 3) := by decide +kernel
theorem d_Law_isCode_14 : decode c_Law_isCode 14 = .ok (.lconst 0, 1) := by decide +kernel
theorem d_Law_isCode_15 : decode c_Law_isCode 15 = .ok (.lastore, 1) := by decide +kernel
theorem d_Law_isCode_16 : decode c_Law_isCode 16 = .ok (.goto 6, 3) := by decide +kernel
theorem d_Law_isCode_19 : decode c_Law_isCode 19 = .ok (.astore_n 3, 1) := by decide +kernel
theorem d_Law_isCode_20 : decode c_Law_isCode 20 = .ok (.iconst 1, 1) := by decide +kernel
theorem d_Law_isCode_21 : decode c_Law_isCode 21 = .ok (.ireturn, 1) := by decide +kernel
theorem d_Law_isCode_22 : decode c_Law_isCode 22 = .ok (.iconst 0, 1) := by decide +kernel
theorem d_Law_isCode_23 : decode c_Law_isCode 23 = .ok (.ireturn, 1) := by decide +kernel
theorem d_Law_value_0 : decode c_Law_value 0 = .ok (.aload_n 2, 1) := by decide +kernel
theorem d_Law_value_1 : decode c_Law_value 1 = .ok (.iconst 0, 1) := by decide +kernel
theorem d_Law_value_2 : decode c_Law_value 2 = .ok (.aload_n 0, 1) := by decide +kernel
theorem d_Law_value_3 : decode c_Law_value 3 = .ok (.iload_n 1, 1) := by decide +kernel
theorem d_Law_value_4 : decode c_Law_value 4 = .ok (.invokevirtual 45, 3) := by decide +kernel
theorem d_Law_value_7 : decode c_Law_value 7 = .ok (.i2l, 1) := by decide +kernel
theorem d_Law_value_8 : decode c_Law_value 8 = .ok (.lastore, 1) := by decide +kernel
theorem d_Law_value_9 : decode c_Law_value 9 = .ok (.goto 6, 3) := by decide +kernel
theorem d_Law_value_12 : decode c_Law_value 12 = .ok (.astore_n 3, 1) := by decide +kernel
theorem d_Law_value_13 : decode c_Law_value 13 = .ok (.iconst 1, 1) := by decide +kernel
theorem d_Law_value_14 : decode c_Law_value 14 = .ok (.ireturn, 1) := by decide +kernel
theorem d_Law_value_15 : decode c_Law_value 15 = .ok (.iconst 0, 1) := by decide +kernel
theorem d_Law_value_16 : decode c_Law_value 16 = .ok (.ireturn, 1) := by decide +kernel
theorem d_Law_many_0 : decode c_Law_many 0 = .ok (.aload_n 2, 1) := by decide +kernel
theorem d_Law_many_1 : decode c_Law_many 1 = .ok (.iconst 0, 1) := by decide +kernel
theorem d_Law_many_2 : decode c_Law_many 2 = .ok (.aload_n 0, 1) := by decide +kernel
theorem d_Law_many_3 : decode c_Law_many 3 = .ok (.iload_n 1, 1) := by decide +kernel
theorem d_Law_many_4 : decode c_Law_many 4 = .ok (.invokevirtual 48, 3) := by decide +kernel
theorem d_Law_many_7 : decode c_Law_many 7 = .ok (.i2l, 1) := by decide +kernel
theorem d_Law_many_8 : decode c_Law_many 8 = .ok (.lastore, 1) := by decide +kernel
theorem d_Law_many_9 : decode c_Law_many 9 = .ok (.goto 6, 3) := by decide +kernel
theorem d_Law_many_12 : decode c_Law_many 12 = .ok (.astore_n 3, 1) := by decide +kernel
theorem d_Law_many_13 : decode c_Law_many 13 = .ok (.iconst 1, 1) := by decide +kernel
theorem d_Law_many_14 : decode c_Law_many 14 = .ok (.ireturn, 1) := by decide +kernel
theorem d_Law_many_15 : decode c_Law_many 15 = .ok (.iconst 0, 1) := by decide +kernel
theorem d_Law_many_16 : decode c_Law_many 16 = .ok (.ireturn, 1) := by decide +kernel
theorem d_Law_wordsWithout_0 : decode c_Law_wordsWithout 0 = .ok (.aload_n 3, 1) := by decide +kernel
theorem d_Law_wordsWithout_1 : decode c_Law_wordsWithout 1 = .ok (.iconst 0, 1) := by decide +kernel
theorem d_Law_wordsWithout_2 : decode c_Law_wordsWithout 2 = .ok (.aload_n 0, 1) := by decide +kernel
theorem d_Law_wordsWithout_3 : decode c_Law_wordsWithout 3 = .ok (.iload_n 1, 1) := by decide +kernel
theorem d_Law_wordsWithout_4 : decode c_Law_wordsWithout 4 = .ok (.iload_n 2, 1) := by decide +kernel
theorem d_Law_wordsWithout_5 : decode c_Law_wordsWithout 5 = .ok (.invokevirtual 51, 3) := by decide +kernel
theorem d_Law_wordsWithout_8 : decode c_Law_wordsWithout 8 = .ok (.i2l, 1) := by decide +kernel
theorem d_Law_wordsWithout_9 : decode c_Law_wordsWithout 9 = .ok (.lastore, 1) := by decide +kernel
theorem d_Law_wordsWithout_10 : decode c_Law_wordsWithout 10 = .ok (.goto 7, 3) := by decide +kernel
theorem d_Law_wordsWithout_13 : decode c_Law_wordsWithout 13 = .ok (.astore 4, 2) := by decide +kernel
theorem d_Law_wordsWithout_15 : decode c_Law_wordsWithout 15 = .ok (.iconst 1, 1) := by decide +kernel
theorem d_Law_wordsWithout_16 : decode c_Law_wordsWithout 16 = .ok (.ireturn, 1) := by decide +kernel
theorem d_Law_wordsWithout_17 : decode c_Law_wordsWithout 17 = .ok (.iconst 0, 1) := by decide +kernel
theorem d_Law_wordsWithout_18 : decode c_Law_wordsWithout 18 = .ok (.ireturn, 1) := by decide +kernel
theorem d_Law_wordsWith_0 : decode c_Law_wordsWith 0 = .ok (.aload 4, 2) := by decide +kernel
theorem d_Law_wordsWith_2 : decode c_Law_wordsWith 2 = .ok (.iconst 0, 1) := by decide +kernel
theorem d_Law_wordsWith_3 : decode c_Law_wordsWith 3 = .ok (.aload_n 0, 1) := by decide +kernel
theorem d_Law_wordsWith_4 : decode c_Law_wordsWith 4 = .ok (.iload_n 1, 1) := by decide +kernel
theorem d_Law_wordsWith_5 : decode c_Law_wordsWith 5 = .ok (.iload_n 2, 1) := by decide +kernel
theorem d_Law_wordsWith_6 : decode c_Law_wordsWith 6 = .ok (.iload_n 3, 1) := by decide +kernel
theorem d_Law_wordsWith_7 : decode c_Law_wordsWith 7 = .ok (.invokevirtual 54, 3) := by decide +kernel
theorem d_Law_wordsWith_10 : decode c_Law_wordsWith 10 = .ok (.i2l, 1) := by decide +kernel
theorem d_Law_wordsWith_11 : decode c_Law_wordsWith 11 = .ok (.lastore, 1) := by decide +kernel
theorem d_Law_wordsWith_12 : decode c_Law_wordsWith 12 = .ok (.goto 11, 3) := by decide +kernel
theorem d_Law_wordsWith_15 : decode c_Law_wordsWith 15 = .ok (.astore 5, 2) := by decide +kernel
theorem d_Law_wordsWith_17 : decode c_Law_wordsWith 17 = .ok (.iconst 1, 1) := by decide +kernel
theorem d_Law_wordsWith_18 : decode c_Law_wordsWith 18 = .ok (.ireturn, 1) := by decide +kernel
theorem d_Law_wordsWith_19 : decode c_Law_wordsWith 19 = .ok (.astore 5, 2) := by decide +kernel
theorem d_Law_wordsWith_21 : decode c_Law_wordsWith 21 = .ok (.iconst 2, 1) := by decide +kernel
theorem d_Law_wordsWith_22 : decode c_Law_wordsWith 22 = .ok (.ireturn, 1) := by decide +kernel
theorem d_Law_wordsWith_23 : decode c_Law_wordsWith 23 = .ok (.iconst 0, 1) := by decide +kernel
theorem d_Law_wordsWith_24 : decode c_Law_wordsWith 24 = .ok (.ireturn, 1) := by decide +kernel
theorem d_Law_distance_0 : decode c_Law_distance 0 = .ok (.aload_n 2, 1) := by decide +kernel
theorem d_Law_distance_1 : decode c_Law_distance 1 = .ok (.iconst 0, 1) := by decide +kernel
theorem d_Law_distance_2 : decode c_Law_distance 2 = .ok (.aload_n 0, 1) := by decide +kernel
theorem d_Law_distance_3 : decode c_Law_distance 3 = .ok (.iload_n 1, 1) := by decide +kernel
theorem d_Law_distance_4 : decode c_Law_distance 4 = .ok (.invokevirtual 57, 3) := by decide +kernel
theorem d_Law_distance_7 : decode c_Law_distance 7 = .ok (.i2l, 1) := by decide +kernel
theorem d_Law_distance_8 : decode c_Law_distance 8 = .ok (.lastore, 1) := by decide +kernel
theorem d_Law_distance_9 : decode c_Law_distance 9 = .ok (.goto 6, 3) := by decide +kernel
theorem d_Law_distance_12 : decode c_Law_distance 12 = .ok (.astore_n 3, 1) := by decide +kernel
theorem d_Law_distance_13 : decode c_Law_distance 13 = .ok (.iconst 1, 1) := by decide +kernel
theorem d_Law_distance_14 : decode c_Law_distance 14 = .ok (.ireturn, 1) := by decide +kernel
theorem d_Law_distance_15 : decode c_Law_distance 15 = .ok (.iconst 0, 1) := by decide +kernel
theorem d_Law_distance_16 : decode c_Law_distance 16 = .ok (.ireturn, 1) := by decide +kernel
theorem d_Law_longBy_0 : decode c_Law_longBy 0 = .ok (.aload_n 3, 1) := by decide +kernel
theorem d_Law_longBy_1 : decode c_Law_longBy 1 = .ok (.iconst 0, 1) := by decide +kernel
theorem d_Law_longBy_2 : decode c_Law_longBy 2 = .ok (.aload_n 0, 1) := by decide +kernel
theorem d_Law_longBy_3 : decode c_Law_longBy 3 = .ok (.iload_n 1, 1) := by decide +kernel
theorem d_Law_longBy_4 : decode c_Law_longBy 4 = .ok (.iload_n 2, 1) := by decide +kernel
theorem d_Law_longBy_5 : decode c_Law_longBy 5 = .ok (.invokevirtual 60, 3) := by decide +kernel
theorem d_Law_longBy_8 : decode c_Law_longBy 8 = .ok (.i2l, 1) := by decide +kernel
theorem d_Law_longBy_9 : decode c_Law_longBy 9 = .ok (.lastore, 1) := by decide +kernel
theorem d_Law_longBy_10 : decode c_Law_longBy 10 = .ok (.goto 11, 3) := by decide +kernel
theorem d_Law_longBy_13 : decode c_Law_longBy 13 = .ok (.astore 4, 2) := by decide +kernel
theorem d_Law_longBy_15 : decode c_Law_longBy 15 = .ok (.iconst 1, 1) := by decide +kernel
theorem d_Law_longBy_16 : decode c_Law_longBy 16 = .ok (.ireturn, 1) := by decide +kernel
theorem d_Law_longBy_17 : decode c_Law_longBy 17 = .ok (.astore 4, 2) := by decide +kernel
theorem d_Law_longBy_19 : decode c_Law_longBy 19 = .ok (.iconst 2, 1) := by decide +kernel
theorem d_Law_longBy_20 : decode c_Law_longBy 20 = .ok (.ireturn, 1) := by decide +kernel
theorem d_Law_longBy_21 : decode c_Law_longBy 21 = .ok (.iconst 0, 1) := by decide +kernel
theorem d_Law_longBy_22 : decode c_Law_longBy 22 = .ok (.ireturn, 1) := by decide +kernel
theorem d_Law_law_0 : decode c_Law_law 0 = .ok (.new 8, 3) := by decide +kernel
theorem d_Law_law_3 : decode c_Law_law 3 = .ok (.dup, 1) := by decide +kernel
theorem d_Law_law_4 : decode c_Law_law 4 = .ok (.invokespecial 63, 3) := by decide +kernel
theorem d_Law_law_7 : decode c_Law_law 7 = .ok (.astore_n 1, 1) := by decide +kernel
theorem d_Law_law_8 : decode c_Law_law 8 = .ok (.new 64, 3) := by decide +kernel
theorem d_Law_law_11 : decode c_Law_law 11 = .ok (.dup, 1) := by decide +kernel
theorem d_Law_law_12 : decode c_Law_law 12 = .ok (.invokespecial 66, 3) := by decide +kernel
theorem d_Law_law_15 : decode c_Law_law 15 = .ok (.astore_n 2, 1) := by decide +kernel
theorem d_Law_law_16 : decode c_Law_law 16 = .ok (.iconst 1, 1) := by decide +kernel
theorem d_Law_law_17 : decode c_Law_law 17 = .ok (.newarray .long, 2) := by decide +kernel
theorem d_Law_law_19 : decode c_Law_law 19 = .ok (.astore_n 3, 1) := by decide +kernel
theorem d_Law_law_20 : decode c_Law_law 20 = .ok (.iconst 0, 1) := by decide +kernel
theorem d_Law_law_21 : decode c_Law_law 21 = .ok (.istore 4, 2) := by decide +kernel
theorem d_Law_law_23 : decode c_Law_law 23 = .ok (.iload 4, 2) := by decide +kernel
theorem d_Law_law_25 : decode c_Law_law 25 = .ok (.aload_n 0, 1) := by decide +kernel
theorem d_Law_law_26 : decode c_Law_law 26 = .ok (.arraylength, 1) := by decide +kernel
theorem d_Law_law_27 : decode c_Law_law 27 = .ok (.bipush 8, 2) := by decide +kernel
theorem d_Law_law_29 : decode c_Law_law 29 = .ok (.isub, 1) := by decide +kernel
theorem d_Law_law_30 : decode c_Law_law 30 = .ok (.if_icmp .gt 1259, 3) := by decide +kernel
theorem d_Law_law_33 : decode c_Law_law 33 = .ok (.aload_n 0, 1) := by decide +kernel
theorem d_Law_law_34 : decode c_Law_law 34 = .ok (.iload 4, 2) := by decide +kernel
theorem d_Law_law_36 : decode c_Law_law 36 = .ok (.iaload, 1) := by decide +kernel
theorem d_Law_law_37 : decode c_Law_law 37 = .ok (.bipush 31, 2) := by decide +kernel
theorem d_Law_law_39 : decode c_Law_law 39 = .ok (.iand, 1) := by decide +kernel
theorem d_Law_law_40 : decode c_Law_law 40 = .ok (.tableswitch 1243 0 18 #[92, 226, 374, 442, 522, 535, 548, 616, 672, 728, 791, 847, 903, 944, 1012, 1092, 1148, 1161, 1229], 92) := by decide +kernel
theorem d_Law_law_132 : decode c_Law_law 132 = .ok (.aload_n 1, 1) := by decide +kernel
theorem d_Law_law_133 : decode c_Law_law 133 = .ok (.aload_n 0, 1) := by decide +kernel
theorem d_Law_law_134 : decode c_Law_law 134 = .ok (.iload 4, 2) := by decide +kernel
theorem d_Law_law_136 : decode c_Law_law 136 = .ok (.iconst 1, 1) := by decide +kernel
theorem d_Law_law_137 : decode c_Law_law 137 = .ok (.iadd, 1) := by decide +kernel
theorem d_Law_law_138 : decode c_Law_law 138 = .ok (.iaload, 1) := by decide +kernel
theorem d_Law_law_139 : decode c_Law_law 139 = .ok (.aload_n 0, 1) := by decide +kernel
theorem d_Law_law_140 : decode c_Law_law 140 = .ok (.iload 4, 2) := by decide +kernel
theorem d_Law_law_142 : decode c_Law_law 142 = .ok (.iconst 2, 1) := by decide +kernel
theorem d_Law_law_143 : decode c_Law_law 143 = .ok (.iadd, 1) := by decide +kernel
theorem d_Law_law_144 : decode c_Law_law 144 = .ok (.iaload, 1) := by decide +kernel
theorem d_Law_law_145 : decode c_Law_law 145 = .ok (.aload_n 0, 1) := by decide +kernel
theorem d_Law_law_146 : decode c_Law_law 146 = .ok (.iload 4, 2) := by decide +kernel
theorem d_Law_law_148 : decode c_Law_law 148 = .ok (.iconst 3, 1) := by decide +kernel
theorem d_Law_law_149 : decode c_Law_law 149 = .ok (.iadd, 1) := by decide +kernel
theorem d_Law_law_150 : decode c_Law_law 150 = .ok (.iaload, 1) := by decide +kernel
theorem d_Law_law_151 : decode c_Law_law 151 = .ok (.aload_n 0, 1) := by decide +kernel
theorem d_Law_law_152 : decode c_Law_law 152 = .ok (.iload 4, 2) := by decide +kernel
theorem d_Law_law_154 : decode c_Law_law 154 = .ok (.iconst 4, 1) := by decide +kernel
theorem d_Law_law_155 : decode c_Law_law 155 = .ok (.iadd, 1) := by decide +kernel
theorem d_Law_law_156 : decode c_Law_law 156 = .ok (.iaload, 1) := by decide +kernel
theorem d_Law_law_157 : decode c_Law_law 157 = .ok (.aload_n 0, 1) := by decide +kernel
theorem d_Law_law_158 : decode c_Law_law 158 = .ok (.iload 4, 2) := by decide +kernel
theorem d_Law_law_160 : decode c_Law_law 160 = .ok (.iconst 5, 1) := by decide +kernel
theorem d_Law_law_161 : decode c_Law_law 161 = .ok (.iadd, 1) := by decide +kernel
theorem d_Law_law_162 : decode c_Law_law 162 = .ok (.iaload, 1) := by decide +kernel
theorem d_Law_law_163 : decode c_Law_law 163 = .ok (.aload_n 0, 1) := by decide +kernel
theorem d_Law_law_164 : decode c_Law_law 164 = .ok (.iload 4, 2) := by decide +kernel
theorem d_Law_law_166 : decode c_Law_law 166 = .ok (.bipush 6, 2) := by decide +kernel
theorem d_Law_law_168 : decode c_Law_law 168 = .ok (.iadd, 1) := by decide +kernel
theorem d_Law_law_169 : decode c_Law_law 169 = .ok (.iaload, 1) := by decide +kernel
theorem d_Law_law_170 : decode c_Law_law 170 = .ok (.ifCond .eq 7, 3) := by decide +kernel
theorem d_Law_law_173 : decode c_Law_law 173 = .ok (.iconst 1, 1) := by decide +kernel
theorem d_Law_law_174 : decode c_Law_law 174 = .ok (.goto 4, 3) := by decide +kernel
theorem d_Law_law_177 : decode c_Law_law 177 = .ok (.iconst 0, 1) := by decide +kernel
theorem d_Law_law_178 : decode c_Law_law 178 = .ok (.aload_n 3, 1) := by decide +kernel
theorem d_Law_law_179 : decode c_Law_law 179 = .ok (.invokestatic 67, 3) := by decide +kernel
theorem d_Law_law_182 : decode c_Law_law 182 = .ok (.istore 5, 2) := by decide +kernel
theorem d_Law_law_184 : decode c_Law_law 184 = .ok (.aload_n 2, 1) := by decide +kernel
theorem d_Law_law_185 : decode c_Law_law 185 = .ok (.aload_n 0, 1) := by decide +kernel
theorem d_Law_law_186 : decode c_Law_law 186 = .ok (.iload 4, 2) := by decide +kernel
theorem d_Law_law_188 : decode c_Law_law 188 = .ok (.iconst 1, 1) := by decide +kernel
theorem d_Law_law_189 : decode c_Law_law 189 = .ok (.iadd, 1) := by decide +kernel
theorem d_Law_law_190 : decode c_Law_law 190 = .ok (.iaload, 1) := by decide +kernel
theorem d_Law_law_191 : decode c_Law_law 191 = .ok (.aload_n 0, 1) := by decide +kernel
theorem d_Law_law_192 : decode c_Law_law 192 = .ok (.iload 4, 2) := by decide +kernel
theorem d_Law_law_194 : decode c_Law_law 194 = .ok (.iconst 2, 1) := by decide +kernel
theorem d_Law_law_195 : decode c_Law_law 195 = .ok (.iadd, 1) := by decide +kernel
theorem d_Law_law_196 : decode c_Law_law 196 = .ok (.iaload, 1) := by decide +kernel
theorem d_Law_law_197 : decode c_Law_law 197 = .ok (.aload_n 0, 1) := by decide +kernel
theorem d_Law_law_198 : decode c_Law_law 198 = .ok (.iload 4, 2) := by decide +kernel
theorem d_Law_law_200 : decode c_Law_law 200 = .ok (.iconst 3, 1) := by decide +kernel
theorem d_Law_law_201 : decode c_Law_law 201 = .ok (.iadd, 1) := by decide +kernel
theorem d_Law_law_202 : decode c_Law_law 202 = .ok (.iaload, 1) := by decide +kernel
theorem d_Law_law_203 : decode c_Law_law 203 = .ok (.aload_n 0, 1) := by decide +kernel
theorem d_Law_law_204 : decode c_Law_law 204 = .ok (.iload 4, 2) := by decide +kernel
theorem d_Law_law_206 : decode c_Law_law 206 = .ok (.iconst 4, 1) := by decide +kernel
theorem d_Law_law_207 : decode c_Law_law 207 = .ok (.iadd, 1) := by decide +kernel
theorem d_Law_law_208 : decode c_Law_law 208 = .ok (.iaload, 1) := by decide +kernel
theorem d_Law_law_209 : decode c_Law_law 209 = .ok (.aload_n 0, 1) := by decide +kernel
theorem d_Law_law_210 : decode c_Law_law 210 = .ok (.iload 4, 2) := by decide +kernel
theorem d_Law_law_212 : decode c_Law_law 212 = .ok (.iconst 5, 1) := by decide +kernel
theorem d_Law_law_213 : decode c_Law_law 213 = .ok (.iadd, 1) := by decide +kernel
theorem d_Law_law_214 : decode c_Law_law 214 = .ok (.iaload, 1) := by decide +kernel
theorem d_Law_law_215 : decode c_Law_law 215 = .ok (.aload_n 0, 1) := by decide +kernel
theorem d_Law_law_216 : decode c_Law_law 216 = .ok (.iload 4, 2) := by decide +kernel
theorem d_Law_law_218 : decode c_Law_law 218 = .ok (.bipush 6, 2) := by decide +kernel
theorem d_Law_law_220 : decode c_Law_law 220 = .ok (.iadd, 1) := by decide +kernel
theorem d_Law_law_221 : decode c_Law_law 221 = .ok (.iaload, 1) := by decide +kernel
theorem d_Law_law_222 : decode c_Law_law 222 = .ok (.ifCond .eq 7, 3) := by decide +kernel
theorem d_Law_law_225 : decode c_Law_law 225 = .ok (.iconst 1, 1) := by decide +kernel
theorem d_Law_law_226 : decode c_Law_law 226 = .ok (.goto 4, 3) := by decide +kernel
theorem d_Law_law_229 : decode c_Law_law 229 = .ok (.iconst 0, 1) := by decide +kernel
theorem d_Law_law_230 : decode c_Law_law 230 = .ok (.invokevirtual 72, 3) := by decide +kernel
theorem d_Law_law_233 : decode c_Law_law 233 = .ok (.istore 6, 2) := by decide +kernel
theorem d_Law_law_235 : decode c_Law_law 235 = .ok (.aload_n 2, 1) := by decide +kernel
theorem d_Law_law_236 : decode c_Law_law 236 = .ok (.invokevirtual 73, 3) := by decide +kernel
theorem d_Law_law_239 : decode c_Law_law 239 = .ok (.iload 5, 2) := by decide +kernel
theorem d_Law_law_241 : decode c_Law_law 241 = .ok (.if_icmp .eq 5, 3) := by decide +kernel
theorem d_Law_law_244 : decode c_Law_law 244 = .ok (.iconst 0, 1) := by decide +kernel
theorem d_Law_law_245 : decode c_Law_law 245 = .ok (.ireturn, 1) := by decide +kernel
theorem d_Law_law_246 : decode c_Law_law 246 = .ok (.iload 5, 2) := by decide +kernel
theorem d_Law_law_248 : decode c_Law_law 248 = .ok (.ifCond .ne 15, 3) := by decide +kernel
theorem d_Law_law_251 : decode c_Law_law 251 = .ok (.aload_n 3, 1) := by decide +kernel
theorem d_Law_law_252 : decode c_Law_law 252 = .ok (.iconst 0, 1) := by decide +kernel
theorem d_Law_law_253 : decode c_Law_law 253 = .ok (.laload, 1) := by decide +kernel
theorem d_Law_law_254 : decode c_Law_law 254 = .ok (.iload 6, 2) := by decide +kernel
theorem d_Law_law_256 : decode c_Law_law 256 = .ok (.i2l, 1) := by decide +kernel
theorem d_Law_law_257 : decode c_Law_law 257 = .ok (.lcmp, 1) := by decide +kernel
theorem d_Law_law_258 : decode c_Law_law 258 = .ok (.ifCond .eq 5, 3) := by decide +kernel
theorem d_Law_law_261 : decode c_Law_law 261 = .ok (.iconst 0, 1) := by decide +kernel
theorem d_Law_law_262 : decode c_Law_law 262 = .ok (.ireturn, 1) := by decide +kernel
theorem d_Law_law_263 : decode c_Law_law 263 = .ok (.goto 1020, 3) := by decide +kernel
theorem d_Law_law_266 : decode c_Law_law 266 = .ok (.aload_n 1, 1) := by decide +kernel
theorem d_Law_law_267 : decode c_Law_law 267 = .ok (.aload_n 0, 1) := by decide +kernel
theorem d_Law_law_268 : decode c_Law_law 268 = .ok (.iload 4, 2) := by decide +kernel
theorem d_Law_law_270 : decode c_Law_law 270 = .ok (.iconst 1, 1) := by decide +kernel
theorem d_Law_law_271 : decode c_Law_law 271 = .ok (.iadd, 1) := by decide +kernel
theorem d_Law_law_272 : decode c_Law_law 272 = .ok (.iaload, 1) := by decide +kernel
theorem d_Law_law_273 : decode c_Law_law 273 = .ok (.aload_n 0, 1) := by decide +kernel
theorem d_Law_law_274 : decode c_Law_law 274 = .ok (.iload 4, 2) := by decide +kernel
theorem d_Law_law_276 : decode c_Law_law 276 = .ok (.iconst 2, 1) := by decide +kernel
theorem d_Law_law_277 : decode c_Law_law 277 = .ok (.iadd, 1) := by decide +kernel
theorem d_Law_law_278 : decode c_Law_law 278 = .ok (.iaload, 1) := by decide +kernel
theorem d_Law_law_279 : decode c_Law_law 279 = .ok (.aload_n 0, 1) := by decide +kernel
theorem d_Law_law_280 : decode c_Law_law 280 = .ok (.iload 4, 2) := by decide +kernel
theorem d_Law_law_282 : decode c_Law_law 282 = .ok (.iconst 3, 1) := by decide +kernel
theorem d_Law_law_283 : decode c_Law_law 283 = .ok (.iadd, 1) := by decide +kernel
theorem d_Law_law_284 : decode c_Law_law 284 = .ok (.iaload, 1) := by decide +kernel
theorem d_Law_law_285 : decode c_Law_law 285 = .ok (.aload_n 0, 1) := by decide +kernel
theorem d_Law_law_286 : decode c_Law_law 286 = .ok (.iload 4, 2) := by decide +kernel
theorem d_Law_law_288 : decode c_Law_law 288 = .ok (.iconst 4, 1) := by decide +kernel
theorem d_Law_law_289 : decode c_Law_law 289 = .ok (.iadd, 1) := by decide +kernel
theorem d_Law_law_290 : decode c_Law_law 290 = .ok (.iaload, 1) := by decide +kernel
theorem d_Law_law_291 : decode c_Law_law 291 = .ok (.aload_n 0, 1) := by decide +kernel
theorem d_Law_law_292 : decode c_Law_law 292 = .ok (.iload 4, 2) := by decide +kernel
theorem d_Law_law_294 : decode c_Law_law 294 = .ok (.iconst 5, 1) := by decide +kernel
theorem d_Law_law_295 : decode c_Law_law 295 = .ok (.iadd, 1) := by decide +kernel
theorem d_Law_law_296 : decode c_Law_law 296 = .ok (.iaload, 1) := by decide +kernel
theorem d_Law_law_297 : decode c_Law_law 297 = .ok (.aload_n 0, 1) := by decide +kernel
theorem d_Law_law_298 : decode c_Law_law 298 = .ok (.iload 4, 2) := by decide +kernel
theorem d_Law_law_300 : decode c_Law_law 300 = .ok (.bipush 6, 2) := by decide +kernel
theorem d_Law_law_302 : decode c_Law_law 302 = .ok (.iadd, 1) := by decide +kernel
theorem d_Law_law_303 : decode c_Law_law 303 = .ok (.iaload, 1) := by decide +kernel
theorem d_Law_law_304 : decode c_Law_law 304 = .ok (.aload_n 0, 1) := by decide +kernel
theorem d_Law_law_305 : decode c_Law_law 305 = .ok (.iload 4, 2) := by decide +kernel
theorem d_Law_law_307 : decode c_Law_law 307 = .ok (.bipush 7, 2) := by decide +kernel
theorem d_Law_law_309 : decode c_Law_law 309 = .ok (.iadd, 1) := by decide +kernel
theorem d_Law_law_310 : decode c_Law_law 310 = .ok (.iaload, 1) := by decide +kernel
theorem d_Law_law_311 : decode c_Law_law 311 = .ok (.ifCond .eq 7, 3) := by decide +kernel
theorem d_Law_law_314 : decode c_Law_law 314 = .ok (.iconst 1, 1) := by decide +kernel
theorem d_Law_law_315 : decode c_Law_law 315 = .ok (.goto 4, 3) := by decide +kernel
theorem d_Law_law_318 : decode c_Law_law 318 = .ok (.iconst 0, 1) := by decide +kernel
theorem d_Law_law_319 : decode c_Law_law 319 = .ok (.aload_n 3, 1) := by decide +kernel
theorem d_Law_law_320 : decode c_Law_law 320 = .ok (.invokestatic 77, 3) := by decide +kernel
theorem d_Law_law_323 : decode c_Law_law 323 = .ok (.istore 5, 2) := by decide +kernel
theorem d_Law_law_325 : decode c_Law_law 325 = .ok (.aload_n 2, 1) := by decide +kernel
theorem d_Law_law_326 : decode c_Law_law 326 = .ok (.aload_n 0, 1) := by decide +kernel
theorem d_Law_law_327 : decode c_Law_law 327 = .ok (.iload 4, 2) := by decide +kernel
theorem d_Law_law_329 : decode c_Law_law 329 = .ok (.iconst 1, 1) := by decide +kernel
theorem d_Law_law_330 : decode c_Law_law 330 = .ok (.iadd, 1) := by decide +kernel
theorem d_Law_law_331 : decode c_Law_law 331 = .ok (.iaload, 1) := by decide +kernel
theorem d_Law_law_332 : decode c_Law_law 332 = .ok (.aload_n 0, 1) := by decide +kernel
theorem d_Law_law_333 : decode c_Law_law 333 = .ok (.iload 4, 2) := by decide +kernel
theorem d_Law_law_335 : decode c_Law_law 335 = .ok (.iconst 2, 1) := by decide +kernel
theorem d_Law_law_336 : decode c_Law_law 336 = .ok (.iadd, 1) := by decide +kernel
theorem d_Law_law_337 : decode c_Law_law 337 = .ok (.iaload, 1) := by decide +kernel
theorem d_Law_law_338 : decode c_Law_law 338 = .ok (.aload_n 0, 1) := by decide +kernel
theorem d_Law_law_339 : decode c_Law_law 339 = .ok (.iload 4, 2) := by decide +kernel
theorem d_Law_law_341 : decode c_Law_law 341 = .ok (.iconst 3, 1) := by decide +kernel
theorem d_Law_law_342 : decode c_Law_law 342 = .ok (.iadd, 1) := by decide +kernel
theorem d_Law_law_343 : decode c_Law_law 343 = .ok (.iaload, 1) := by decide +kernel
theorem d_Law_law_344 : decode c_Law_law 344 = .ok (.aload_n 0, 1) := by decide +kernel
theorem d_Law_law_345 : decode c_Law_law 345 = .ok (.iload 4, 2) := by decide +kernel
theorem d_Law_law_347 : decode c_Law_law 347 = .ok (.iconst 4, 1) := by decide +kernel
theorem d_Law_law_348 : decode c_Law_law 348 = .ok (.iadd, 1) := by decide +kernel
theorem d_Law_law_349 : decode c_Law_law 349 = .ok (.iaload, 1) := by decide +kernel
theorem d_Law_law_350 : decode c_Law_law 350 = .ok (.aload_n 0, 1) := by decide +kernel
theorem d_Law_law_351 : decode c_Law_law 351 = .ok (.iload 4, 2) := by decide +kernel
theorem d_Law_law_353 : decode c_Law_law 353 = .ok (.iconst 5, 1) := by decide +kernel
theorem d_Law_law_354 : decode c_Law_law 354 = .ok (.iadd, 1) := by decide +kernel
theorem d_Law_law_355 : decode c_Law_law 355 = .ok (.iaload, 1) := by decide +kernel
theorem d_Law_law_356 : decode c_Law_law 356 = .ok (.aload_n 0, 1) := by decide +kernel
theorem d_Law_law_357 : decode c_Law_law 357 = .ok (.iload 4, 2) := by decide +kernel
theorem d_Law_law_359 : decode c_Law_law 359 = .ok (.bipush 6, 2) := by decide +kernel
theorem d_Law_law_361 : decode c_Law_law 361 = .ok (.iadd, 1) := by decide +kernel
theorem d_Law_law_362 : decode c_Law_law 362 = .ok (.iaload, 1) := by decide +kernel
theorem d_Law_law_363 : decode c_Law_law 363 = .ok (.aload_n 0, 1) := by decide +kernel
theorem d_Law_law_364 : decode c_Law_law 364 = .ok (.iload 4, 2) := by decide +kernel
theorem d_Law_law_366 : decode c_Law_law 366 = .ok (.bipush 7, 2) := by decide +kernel
theorem d_Law_law_368 : decode c_Law_law 368 = .ok (.iadd, 1) := by decide +kernel
theorem d_Law_law_369 : decode c_Law_law 369 = .ok (.iaload, 1) := by decide +kernel
theorem d_Law_law_370 : decode c_Law_law 370 = .ok (.ifCond .eq 7, 3) := by decide +kernel
theorem d_Law_law_373 : decode c_Law_law 373 = .ok (.iconst 1, 1) := by decide +kernel
theorem d_Law_law_374 : decode c_Law_law 374 = .ok (.goto 4, 3) := by decide +kernel
theorem d_Law_law_377 : decode c_Law_law 377 = .ok (.iconst 0, 1) := by decide +kernel
theorem d_Law_law_378 : decode c_Law_law 378 = .ok (.invokevirtual 80, 3) := by decide +kernel
theorem d_Law_law_381 : decode c_Law_law 381 = .ok (.istore 6, 2) := by decide +kernel
theorem d_Law_law_383 : decode c_Law_law 383 = .ok (.aload_n 2, 1) := by decide +kernel
theorem d_Law_law_384 : decode c_Law_law 384 = .ok (.invokevirtual 73, 3) := by decide +kernel
theorem d_Law_law_387 : decode c_Law_law 387 = .ok (.iload 5, 2) := by decide +kernel
theorem d_Law_law_389 : decode c_Law_law 389 = .ok (.if_icmp .eq 5, 3) := by decide +kernel
theorem d_Law_law_392 : decode c_Law_law 392 = .ok (.iconst 0, 1) := by decide +kernel
theorem d_Law_law_393 : decode c_Law_law 393 = .ok (.ireturn, 1) := by decide +kernel
theorem d_Law_law_394 : decode c_Law_law 394 = .ok (.iload 5, 2) := by decide +kernel
theorem d_Law_law_396 : decode c_Law_law 396 = .ok (.ifCond .ne 15, 3) := by decide +kernel
theorem d_Law_law_399 : decode c_Law_law 399 = .ok (.aload_n 3, 1) := by decide +kernel
theorem d_Law_law_400 : decode c_Law_law 400 = .ok (.iconst 0, 1) := by decide +kernel
theorem d_Law_law_401 : decode c_Law_law 401 = .ok (.laload, 1) := by decide +kernel
theorem d_Law_law_402 : decode c_Law_law 402 = .ok (.iload 6, 2) := by decide +kernel
theorem d_Law_law_404 : decode c_Law_law 404 = .ok (.i2l, 1) := by decide +kernel
theorem d_Law_law_405 : decode c_Law_law 405 = .ok (.lcmp, 1) := by decide +kernel
theorem d_Law_law_406 : decode c_Law_law 406 = .ok (.ifCond .eq 5, 3) := by decide +kernel
theorem d_Law_law_409 : decode c_Law_law 409 = .ok (.iconst 0, 1) := by decide +kernel
theorem d_Law_law_410 : decode c_Law_law 410 = .ok (.ireturn, 1) := by decide +kernel
theorem d_Law_law_411 : decode c_Law_law 411 = .ok (.goto 872, 3) := by decide +kernel
theorem d_Law_law_414 : decode c_Law_law 414 = .ok (.aload_n 1, 1) := by decide +kernel
theorem d_Law_law_415 : decode c_Law_law 415 = .ok (.aload_n 0, 1) := by decide +kernel
theorem d_Law_law_416 : decode c_Law_law 416 = .ok (.iload 4, 2) := by decide +kernel
theorem d_Law_law_418 : decode c_Law_law 418 = .ok (.iconst 1, 1) := by decide +kernel
theorem d_Law_law_419 : decode c_Law_law 419 = .ok (.iadd, 1) := by decide +kernel
theorem d_Law_law_420 : decode c_Law_law 420 = .ok (.iaload, 1) := by decide +kernel
theorem d_Law_law_421 : decode c_Law_law 421 = .ok (.aload_n 0, 1) := by decide +kernel
theorem d_Law_law_422 : decode c_Law_law 422 = .ok (.iload 4, 2) := by decide +kernel
theorem d_Law_law_424 : decode c_Law_law 424 = .ok (.iconst 2, 1) := by decide +kernel
theorem d_Law_law_425 : decode c_Law_law 425 = .ok (.iadd, 1) := by decide +kernel
theorem d_Law_law_426 : decode c_Law_law 426 = .ok (.iaload, 1) := by decide +kernel
theorem d_Law_law_427 : decode c_Law_law 427 = .ok (.aload_n 3, 1) := by decide +kernel
theorem d_Law_law_428 : decode c_Law_law 428 = .ok (.invokestatic 81, 3) := by decide +kernel
theorem d_Law_law_431 : decode c_Law_law 431 = .ok (.istore 5, 2) := by decide +kernel
theorem d_Law_law_433 : decode c_Law_law 433 = .ok (.aload_n 2, 1) := by decide +kernel
theorem d_Law_law_434 : decode c_Law_law 434 = .ok (.aload_n 0, 1) := by decide +kernel
theorem d_Law_law_435 : decode c_Law_law 435 = .ok (.iload 4, 2) := by decide +kernel
theorem d_Law_law_437 : decode c_Law_law 437 = .ok (.iconst 1, 1) := by decide +kernel
theorem d_Law_law_438 : decode c_Law_law 438 = .ok (.iadd, 1) := by decide +kernel
theorem d_Law_law_439 : decode c_Law_law 439 = .ok (.iaload, 1) := by decide +kernel
theorem d_Law_law_440 : decode c_Law_law 440 = .ok (.aload_n 0, 1) := by decide +kernel
theorem d_Law_law_441 : decode c_Law_law 441 = .ok (.iload 4, 2) := by decide +kernel
theorem d_Law_law_443 : decode c_Law_law 443 = .ok (.iconst 2, 1) := by decide +kernel
theorem d_Law_law_444 : decode c_Law_law 444 = .ok (.iadd, 1) := by decide +kernel
theorem d_Law_law_445 : decode c_Law_law 445 = .ok (.iaload, 1) := by decide +kernel
theorem d_Law_law_446 : decode c_Law_law 446 = .ok (.invokevirtual 84, 3) := by decide +kernel
theorem d_Law_law_449 : decode c_Law_law 449 = .ok (.istore 6, 2) := by decide +kernel
theorem d_Law_law_451 : decode c_Law_law 451 = .ok (.aload_n 2, 1) := by decide +kernel
theorem d_Law_law_452 : decode c_Law_law 452 = .ok (.invokevirtual 73, 3) := by decide +kernel
theorem d_Law_law_455 : decode c_Law_law 455 = .ok (.iload 5, 2) := by decide +kernel
theorem d_Law_law_457 : decode c_Law_law 457 = .ok (.if_icmp .eq 5, 3) := by decide +kernel
theorem d_Law_law_460 : decode c_Law_law 460 = .ok (.iconst 0, 1) := by decide +kernel
theorem d_Law_law_461 : decode c_Law_law 461 = .ok (.ireturn, 1) := by decide +kernel
theorem d_Law_law_462 : decode c_Law_law 462 = .ok (.iload 5, 2) := by decide +kernel
theorem d_Law_law_464 : decode c_Law_law 464 = .ok (.ifCond .ne 15, 3) := by decide +kernel
theorem d_Law_law_467 : decode c_Law_law 467 = .ok (.aload_n 3, 1) := by decide +kernel
theorem d_Law_law_468 : decode c_Law_law 468 = .ok (.iconst 0, 1) := by decide +kernel
theorem d_Law_law_469 : decode c_Law_law 469 = .ok (.laload, 1) := by decide +kernel
theorem d_Law_law_470 : decode c_Law_law 470 = .ok (.iload 6, 2) := by decide +kernel
theorem d_Law_law_472 : decode c_Law_law 472 = .ok (.i2l, 1) := by decide +kernel
theorem d_Law_law_473 : decode c_Law_law 473 = .ok (.lcmp, 1) := by decide +kernel
theorem d_Law_law_474 : decode c_Law_law 474 = .ok (.ifCond .eq 5, 3) := by decide +kernel
theorem d_Law_law_477 : decode c_Law_law 477 = .ok (.iconst 0, 1) := by decide +kernel
theorem d_Law_law_478 : decode c_Law_law 478 = .ok (.ireturn, 1) := by decide +kernel
theorem d_Law_law_479 : decode c_Law_law 479 = .ok (.goto 804, 3) := by decide +kernel
theorem d_Law_law_482 : decode c_Law_law 482 = .ok (.aload_n 1, 1) := by decide +kernel
theorem d_Law_law_483 : decode c_Law_law 483 = .ok (.aload_n 0, 1) := by decide +kernel
theorem d_Law_law_484 : decode c_Law_law 484 = .ok (.iload 4, 2) := by decide +kernel
theorem d_Law_law_486 : decode c_Law_law 486 = .ok (.iconst 1, 1) := by decide +kernel
theorem d_Law_law_487 : decode c_Law_law 487 = .ok (.iadd, 1) := by decide +kernel
theorem d_Law_law_488 : decode c_Law_law 488 = .ok (.iaload, 1) := by decide +kernel
theorem d_Law_law_489 : decode c_Law_law 489 = .ok (.aload_n 0, 1) := by decide +kernel
theorem d_Law_law_490 : decode c_Law_law 490 = .ok (.iload 4, 2) := by decide +kernel
theorem d_Law_law_492 : decode c_Law_law 492 = .ok (.iconst 2, 1) := by decide +kernel
theorem d_Law_law_493 : decode c_Law_law 493 = .ok (.iadd, 1) := by decide +kernel
theorem d_Law_law_494 : decode c_Law_law 494 = .ok (.iaload, 1) := by decide +kernel
theorem d_Law_law_495 : decode c_Law_law 495 = .ok (.aload_n 0, 1) := by decide +kernel
theorem d_Law_law_496 : decode c_Law_law 496 = .ok (.iload 4, 2) := by decide +kernel
theorem d_Law_law_498 : decode c_Law_law 498 = .ok (.iconst 3, 1) := by decide +kernel
theorem d_Law_law_499 : decode c_Law_law 499 = .ok (.iadd, 1) := by decide +kernel
theorem d_Law_law_500 : decode c_Law_law 500 = .ok (.iaload, 1) := by decide +kernel
theorem d_Law_law_501 : decode c_Law_law 501 = .ok (.aload_n 3, 1) := by decide +kernel
theorem d_Law_law_502 : decode c_Law_law 502 = .ok (.invokestatic 85, 3) := by decide +kernel
theorem d_Law_law_505 : decode c_Law_law 505 = .ok (.istore 5, 2) := by decide +kernel
theorem d_Law_law_507 : decode c_Law_law 507 = .ok (.aload_n 2, 1) := by decide +kernel
theorem d_Law_law_508 : decode c_Law_law 508 = .ok (.aload_n 0, 1) := by decide +kernel
theorem d_Law_law_509 : decode c_Law_law 509 = .ok (.iload 4, 2) := by decide +kernel
theorem d_Law_law_511 : decode c_Law_law 511 = .ok (.iconst 1, 1) := by decide +kernel
theorem d_Law_law_512 : decode c_Law_law 512 = .ok (.iadd, 1) := by decide +kernel
theorem d_Law_law_513 : decode c_Law_law 513 = .ok (.iaload, 1) := by decide +kernel
theorem d_Law_law_514 : decode c_Law_law 514 = .ok (.aload_n 0, 1) := by decide +kernel
theorem d_Law_law_515 : decode c_Law_law 515 = .ok (.iload 4, 2) := by decide +kernel
theorem d_Law_law_517 : decode c_Law_law 517 = .ok (.iconst 2, 1) := by decide +kernel
theorem d_Law_law_518 : decode c_Law_law 518 = .ok (.iadd, 1) := by decide +kernel
theorem d_Law_law_519 : decode c_Law_law 519 = .ok (.iaload, 1) := by decide +kernel
theorem d_Law_law_520 : decode c_Law_law 520 = .ok (.aload_n 0, 1) := by decide +kernel
theorem d_Law_law_521 : decode c_Law_law 521 = .ok (.iload 4, 2) := by decide +kernel
theorem d_Law_law_523 : decode c_Law_law 523 = .ok (.iconst 3, 1) := by decide +kernel
theorem d_Law_law_524 : decode c_Law_law 524 = .ok (.iadd, 1) := by decide +kernel
theorem d_Law_law_525 : decode c_Law_law 525 = .ok (.iaload, 1) := by decide +kernel
theorem d_Law_law_526 : decode c_Law_law 526 = .ok (.invokevirtual 88, 3) := by decide +kernel
theorem d_Law_law_529 : decode c_Law_law 529 = .ok (.istore 6, 2) := by decide +kernel
theorem d_Law_law_531 : decode c_Law_law 531 = .ok (.aload_n 2, 1) := by decide +kernel
theorem d_Law_law_532 : decode c_Law_law 532 = .ok (.invokevirtual 73, 3) := by decide +kernel
theorem d_Law_law_535 : decode c_Law_law 535 = .ok (.iload 5, 2) := by decide +kernel
theorem d_Law_law_537 : decode c_Law_law 537 = .ok (.if_icmp .eq 5, 3) := by decide +kernel
theorem d_Law_law_540 : decode c_Law_law 540 = .ok (.iconst 0, 1) := by decide +kernel
theorem d_Law_law_541 : decode c_Law_law 541 = .ok (.ireturn, 1) := by decide +kernel
theorem d_Law_law_542 : decode c_Law_law 542 = .ok (.iload 5, 2) := by decide +kernel
theorem d_Law_law_544 : decode c_Law_law 544 = .ok (.ifCond .ne 15, 3) := by decide +kernel
theorem d_Law_law_547 : decode c_Law_law 547 = .ok (.aload_n 3, 1) := by decide +kernel
theorem d_Law_law_548 : decode c_Law_law 548 = .ok (.iconst 0, 1) := by decide +kernel
theorem d_Law_law_549 : decode c_Law_law 549 = .ok (.laload, 1) := by decide +kernel
theorem d_Law_law_550 : decode c_Law_law 550 = .ok (.iload 6, 2) := by decide +kernel
theorem d_Law_law_552 : decode c_Law_law 552 = .ok (.i2l, 1) := by decide +kernel
theorem d_Law_law_553 : decode c_Law_law 553 = .ok (.lcmp, 1) := by decide +kernel
theorem d_Law_law_554 : decode c_Law_law 554 = .ok (.ifCond .eq 5, 3) := by decide +kernel
theorem d_Law_law_557 : decode c_Law_law 557 = .ok (.iconst 0, 1) := by decide +kernel
theorem d_Law_law_558 : decode c_Law_law 558 = .ok (.ireturn, 1) := by decide +kernel
theorem d_Law_law_559 : decode c_Law_law 559 = .ok (.goto 724, 3) := by decide +kernel
theorem d_Law_law_562 : decode c_Law_law 562 = .ok (.aload_n 1, 1) := by decide +kernel
theorem d_Law_law_563 : decode c_Law_law 563 = .ok (.invokevirtual 89, 3) := by decide +kernel
theorem d_Law_law_566 : decode c_Law_law 566 = .ok (.aload_n 2, 1) := by decide +kernel
theorem d_Law_law_567 : decode c_Law_law 567 = .ok (.invokevirtual 92, 3) := by decide +kernel
theorem d_Law_law_570 : decode c_Law_law 570 = .ok (.if_icmp .eq 713, 3) := by decide +kernel
theorem d_Law_law_573 : decode c_Law_law 573 = .ok (.iconst 0, 1) := by decide +kernel
theorem d_Law_law_574 : decode c_Law_law 574 = .ok (.ireturn, 1) := by decide +kernel
theorem d_Law_law_575 : decode c_Law_law 575 = .ok (.aload_n 1, 1) := by decide +kernel
theorem d_Law_law_576 : decode c_Law_law 576 = .ok (.invokevirtual 93, 3) := by decide +kernel
theorem d_Law_law_579 : decode c_Law_law 579 = .ok (.aload_n 2, 1) := by decide +kernel
theorem d_Law_law_580 : decode c_Law_law 580 = .ok (.invokevirtual 96, 3) := by decide +kernel
theorem d_Law_law_583 : decode c_Law_law 583 = .ok (.if_icmp .eq 700, 3) := by decide +kernel
theorem d_Law_law_586 : decode c_Law_law 586 = .ok (.iconst 0, 1) := by decide +kernel
theorem d_Law_law_587 : decode c_Law_law 587 = .ok (.ireturn, 1) := by decide +kernel
theorem d_Law_law_588 : decode c_Law_law 588 = .ok (.aload_n 1, 1) := by decide +kernel
theorem d_Law_law_589 : decode c_Law_law 589 = .ok (.aload_n 0, 1) := by decide +kernel
theorem d_Law_law_590 : decode c_Law_law 590 = .ok (.iload 4, 2) := by decide +kernel
theorem d_Law_law_592 : decode c_Law_law 592 = .ok (.iconst 1, 1) := by decide +kernel
theorem d_Law_law_593 : decode c_Law_law 593 = .ok (.iadd, 1) := by decide +kernel
theorem d_Law_law_594 : decode c_Law_law 594 = .ok (.iaload, 1) := by decide +kernel
theorem d_Law_law_595 : decode c_Law_law 595 = .ok (.aload_n 0, 1) := by decide +kernel
theorem d_Law_law_596 : decode c_Law_law 596 = .ok (.iload 4, 2) := by decide +kernel
theorem d_Law_law_598 : decode c_Law_law 598 = .ok (.iconst 2, 1) := by decide +kernel
theorem d_Law_law_599 : decode c_Law_law 599 = .ok (.iadd, 1) := by decide +kernel
theorem d_Law_law_600 : decode c_Law_law 600 = .ok (.iaload, 1) := by decide +kernel
theorem d_Law_law_601 : decode c_Law_law 601 = .ok (.aload_n 3, 1) := by decide +kernel
theorem d_Law_law_602 : decode c_Law_law 602 = .ok (.invokestatic 97, 3) := by decide +kernel
theorem d_Law_law_605 : decode c_Law_law 605 = .ok (.istore 5, 2) := by decide +kernel
theorem d_Law_law_607 : decode c_Law_law 607 = .ok (.aload_n 2, 1) := by decide +kernel
theorem d_Law_law_608 : decode c_Law_law 608 = .ok (.aload_n 0, 1) := by decide +kernel
theorem d_Law_law_609 : decode c_Law_law 609 = .ok (.iload 4, 2) := by decide +kernel
theorem d_Law_law_611 : decode c_Law_law 611 = .ok (.iconst 1, 1) := by decide +kernel
theorem d_Law_law_612 : decode c_Law_law 612 = .ok (.iadd, 1) := by decide +kernel
theorem d_Law_law_613 : decode c_Law_law 613 = .ok (.iaload, 1) := by decide +kernel
theorem d_Law_law_614 : decode c_Law_law 614 = .ok (.aload_n 0, 1) := by decide +kernel
theorem d_Law_law_615 : decode c_Law_law 615 = .ok (.iload 4, 2) := by decide +kernel
theorem d_Law_law_617 : decode c_Law_law 617 = .ok (.iconst 2, 1) := by decide +kernel
theorem d_Law_law_618 : decode c_Law_law 618 = .ok (.iadd, 1) := by decide +kernel
theorem d_Law_law_619 : decode c_Law_law 619 = .ok (.iaload, 1) := by decide +kernel
theorem d_Law_law_620 : decode c_Law_law 620 = .ok (.invokevirtual 99, 3) := by decide +kernel
theorem d_Law_law_623 : decode c_Law_law 623 = .ok (.istore 6, 2) := by decide +kernel
theorem d_Law_law_625 : decode c_Law_law 625 = .ok (.aload_n 2, 1) := by decide +kernel
theorem d_Law_law_626 : decode c_Law_law 626 = .ok (.invokevirtual 73, 3) := by decide +kernel
theorem d_Law_law_629 : decode c_Law_law 629 = .ok (.iload 5, 2) := by decide +kernel
theorem d_Law_law_631 : decode c_Law_law 631 = .ok (.if_icmp .eq 5, 3) := by decide +kernel
theorem d_Law_law_634 : decode c_Law_law 634 = .ok (.iconst 0, 1) := by decide +kernel
theorem d_Law_law_635 : decode c_Law_law 635 = .ok (.ireturn, 1) := by decide +kernel
theorem d_Law_law_636 : decode c_Law_law 636 = .ok (.iload 5, 2) := by decide +kernel
theorem d_Law_law_638 : decode c_Law_law 638 = .ok (.ifCond .ne 15, 3) := by decide +kernel
theorem d_Law_law_641 : decode c_Law_law 641 = .ok (.aload_n 3, 1) := by decide +kernel
theorem d_Law_law_642 : decode c_Law_law 642 = .ok (.iconst 0, 1) := by decide +kernel
theorem d_Law_law_643 : decode c_Law_law 643 = .ok (.laload, 1) := by decide +kernel
theorem d_Law_law_644 : decode c_Law_law 644 = .ok (.iload 6, 2) := by decide +kernel
theorem d_Law_law_646 : decode c_Law_law 646 = .ok (.i2l, 1) := by decide +kernel
theorem d_Law_law_647 : decode c_Law_law 647 = .ok (.lcmp, 1) := by decide +kernel
theorem d_Law_law_648 : decode c_Law_law 648 = .ok (.ifCond .eq 5, 3) := by decide +kernel
theorem d_Law_law_651 : decode c_Law_law 651 = .ok (.iconst 0, 1) := by decide +kernel
theorem d_Law_law_652 : decode c_Law_law 652 = .ok (.ireturn, 1) := by decide +kernel
theorem d_Law_law_653 : decode c_Law_law 653 = .ok (.goto 630, 3) := by decide +kernel
theorem d_Law_law_656 : decode c_Law_law 656 = .ok (.aload_n 1, 1) := by decide +kernel
theorem d_Law_law_657 : decode c_Law_law 657 = .ok (.aload_n 0, 1) := by decide +kernel
theorem d_Law_law_658 : decode c_Law_law 658 = .ok (.iload 4, 2) := by decide +kernel
theorem d_Law_law_660 : decode c_Law_law 660 = .ok (.iconst 1, 1) := by decide +kernel
theorem d_Law_law_661 : decode c_Law_law 661 = .ok (.iadd, 1) := by decide +kernel
theorem d_Law_law_662 : decode c_Law_law 662 = .ok (.iaload, 1) := by decide +kernel
theorem d_Law_law_663 : decode c_Law_law 663 = .ok (.aload_n 3, 1) := by decide +kernel
theorem d_Law_law_664 : decode c_Law_law 664 = .ok (.invokestatic 100, 3) := by decide +kernel
theorem d_Law_law_667 : decode c_Law_law 667 = .ok (.istore 5, 2) := by decide +kernel
theorem d_Law_law_669 : decode c_Law_law 669 = .ok (.aload_n 2, 1) := by decide +kernel
theorem d_Law_law_670 : decode c_Law_law 670 = .ok (.aload_n 0, 1) := by decide +kernel
theorem d_Law_law_671 : decode c_Law_law 671 = .ok (.iload 4, 2) := by decide +kernel
theorem d_Law_law_673 : decode c_Law_law 673 = .ok (.iconst 1, 1) := by decide +kernel
theorem d_Law_law_674 : decode c_Law_law 674 = .ok (.iadd, 1) := by decide +kernel
theorem d_Law_law_675 : decode c_Law_law 675 = .ok (.iaload, 1) := by decide +kernel
theorem d_Law_law_676 : decode c_Law_law 676 = .ok (.invokevirtual 103, 3) := by decide +kernel
theorem d_Law_law_679 : decode c_Law_law 679 = .ok (.istore 6, 2) := by decide +kernel
theorem d_Law_law_681 : decode c_Law_law 681 = .ok (.aload_n 2, 1) := by decide +kernel
theorem d_Law_law_682 : decode c_Law_law 682 = .ok (.invokevirtual 73, 3) := by decide +kernel
theorem d_Law_law_685 : decode c_Law_law 685 = .ok (.iload 5, 2) := by decide +kernel
theorem d_Law_law_687 : decode c_Law_law 687 = .ok (.if_icmp .eq 5, 3) := by decide +kernel
theorem d_Law_law_690 : decode c_Law_law 690 = .ok (.iconst 0, 1) := by decide +kernel
theorem d_Law_law_691 : decode c_Law_law 691 = .ok (.ireturn, 1) := by decide +kernel
theorem d_Law_law_692 : decode c_Law_law 692 = .ok (.iload 5, 2) := by decide +kernel
theorem d_Law_law_694 : decode c_Law_law 694 = .ok (.ifCond .ne 15, 3) := by decide +kernel
theorem d_Law_law_697 : decode c_Law_law 697 = .ok (.aload_n 3, 1) := by decide +kernel
theorem d_Law_law_698 : decode c_Law_law 698 = .ok (.iconst 0, 1) := by decide +kernel
theorem d_Law_law_699 : decode c_Law_law 699 = .ok (.laload, 1) := by decide +kernel
theorem d_Law_law_700 : decode c_Law_law 700 = .ok (.iload 6, 2) := by decide +kernel
theorem d_Law_law_702 : decode c_Law_law 702 = .ok (.i2l, 1) := by decide +kernel
theorem d_Law_law_703 : decode c_Law_law 703 = .ok (.lcmp, 1) := by decide +kernel
theorem d_Law_law_704 : decode c_Law_law 704 = .ok (.ifCond .eq 5, 3) := by decide +kernel
theorem d_Law_law_707 : decode c_Law_law 707 = .ok (.iconst 0, 1) := by decide +kernel
theorem d_Law_law_708 : decode c_Law_law 708 = .ok (.ireturn, 1) := by decide +kernel
theorem d_Law_law_709 : decode c_Law_law 709 = .ok (.goto 574, 3) := by decide +kernel
theorem d_Law_law_712 : decode c_Law_law 712 = .ok (.aload_n 1, 1) := by decide +kernel
theorem d_Law_law_713 : decode c_Law_law 713 = .ok (.aload_n 0, 1) := by decide +kernel
theorem d_Law_law_714 : decode c_Law_law 714 = .ok (.iload 4, 2) := by decide +kernel
theorem d_Law_law_716 : decode c_Law_law 716 = .ok (.iconst 1, 1) := by decide +kernel
theorem d_Law_law_717 : decode c_Law_law 717 = .ok (.iadd, 1) := by decide +kernel
theorem d_Law_law_718 : decode c_Law_law 718 = .ok (.iaload, 1) := by decide +kernel
theorem d_Law_law_719 : decode c_Law_law 719 = .ok (.aload_n 3, 1) := by decide +kernel
theorem d_Law_law_720 : decode c_Law_law 720 = .ok (.invokestatic 104, 3) := by decide +kernel
theorem d_Law_law_723 : decode c_Law_law 723 = .ok (.istore 5, 2) := by decide +kernel
theorem d_Law_law_725 : decode c_Law_law 725 = .ok (.aload_n 2, 1) := by decide +kernel
theorem d_Law_law_726 : decode c_Law_law 726 = .ok (.aload_n 0, 1) := by decide +kernel
theorem d_Law_law_727 : decode c_Law_law 727 = .ok (.iload 4, 2) := by decide +kernel
theorem d_Law_law_729 : decode c_Law_law 729 = .ok (.iconst 1, 1) := by decide +kernel
theorem d_Law_law_730 : decode c_Law_law 730 = .ok (.iadd, 1) := by decide +kernel
theorem d_Law_law_731 : decode c_Law_law 731 = .ok (.iaload, 1) := by decide +kernel
theorem d_Law_law_732 : decode c_Law_law 732 = .ok (.invokevirtual 106, 3) := by decide +kernel
theorem d_Law_law_735 : decode c_Law_law 735 = .ok (.istore 6, 2) := by decide +kernel
theorem d_Law_law_737 : decode c_Law_law 737 = .ok (.aload_n 2, 1) := by decide +kernel
theorem d_Law_law_738 : decode c_Law_law 738 = .ok (.invokevirtual 73, 3) := by decide +kernel
theorem d_Law_law_741 : decode c_Law_law 741 = .ok (.iload 5, 2) := by decide +kernel
theorem d_Law_law_743 : decode c_Law_law 743 = .ok (.if_icmp .eq 5, 3) := by decide +kernel
theorem d_Law_law_746 : decode c_Law_law 746 = .ok (.iconst 0, 1) := by decide +kernel
theorem d_Law_law_747 : decode c_Law_law 747 = .ok (.ireturn, 1) := by decide +kernel
theorem d_Law_law_748 : decode c_Law_law 748 = .ok (.iload 5, 2) := by decide +kernel
theorem d_Law_law_750 : decode c_Law_law 750 = .ok (.ifCond .ne 15, 3) := by decide +kernel
theorem d_Law_law_753 : decode c_Law_law 753 = .ok (.aload_n 3, 1) := by decide +kernel
theorem d_Law_law_754 : decode c_Law_law 754 = .ok (.iconst 0, 1) := by decide +kernel
theorem d_Law_law_755 : decode c_Law_law 755 = .ok (.laload, 1) := by decide +kernel
theorem d_Law_law_756 : decode c_Law_law 756 = .ok (.iload 6, 2) := by decide +kernel
theorem d_Law_law_758 : decode c_Law_law 758 = .ok (.i2l, 1) := by decide +kernel
theorem d_Law_law_759 : decode c_Law_law 759 = .ok (.lcmp, 1) := by decide +kernel
theorem d_Law_law_760 : decode c_Law_law 760 = .ok (.ifCond .eq 5, 3) := by decide +kernel
theorem d_Law_law_763 : decode c_Law_law 763 = .ok (.iconst 0, 1) := by decide +kernel
theorem d_Law_law_764 : decode c_Law_law 764 = .ok (.ireturn, 1) := by decide +kernel
theorem d_Law_law_765 : decode c_Law_law 765 = .ok (.goto 518, 3) := by decide +kernel
theorem d_Law_law_768 : decode c_Law_law 768 = .ok (.aload_n 1, 1) := by decide +kernel
theorem d_Law_law_769 : decode c_Law_law 769 = .ok (.aload_n 0, 1) := by decide +kernel
theorem d_Law_law_770 : decode c_Law_law 770 = .ok (.iload 4, 2) := by decide +kernel
theorem d_Law_law_772 : decode c_Law_law 772 = .ok (.iconst 1, 1) := by decide +kernel
theorem d_Law_law_773 : decode c_Law_law 773 = .ok (.iadd, 1) := by decide +kernel
theorem d_Law_law_774 : decode c_Law_law 774 = .ok (.iaload, 1) := by decide +kernel
theorem d_Law_law_775 : decode c_Law_law 775 = .ok (.aload_n 3, 1) := by decide +kernel
theorem d_Law_law_776 : decode c_Law_law 776 = .ok (.invokestatic 107, 3) := by decide +kernel
theorem d_Law_law_779 : decode c_Law_law 779 = .ok (.istore 5, 2) := by decide +kernel
theorem d_Law_law_781 : decode c_Law_law 781 = .ok (.aload_n 2, 1) := by decide +kernel
theorem d_Law_law_782 : decode c_Law_law 782 = .ok (.aload_n 0, 1) := by decide +kernel
theorem d_Law_law_783 : decode c_Law_law 783 = .ok (.iload 4, 2) := by decide +kernel
theorem d_Law_law_785 : decode c_Law_law 785 = .ok (.iconst 1, 1) := by decide +kernel
theorem d_Law_law_786 : decode c_Law_law 786 = .ok (.iadd, 1) := by decide +kernel
theorem d_Law_law_787 : decode c_Law_law 787 = .ok (.iaload, 1) := by decide +kernel
theorem d_Law_law_788 : decode c_Law_law 788 = .ok (.invokevirtual 109, 3) := by decide +kernel
theorem d_Law_law_791 : decode c_Law_law 791 = .ok (.istore 6, 2) := by decide +kernel
theorem d_Law_law_793 : decode c_Law_law 793 = .ok (.aload_n 2, 1) := by decide +kernel
theorem d_Law_law_794 : decode c_Law_law 794 = .ok (.invokevirtual 73, 3) := by decide +kernel
theorem d_Law_law_797 : decode c_Law_law 797 = .ok (.iload 5, 2) := by decide +kernel
theorem d_Law_law_799 : decode c_Law_law 799 = .ok (.if_icmp .eq 5, 3) := by decide +kernel
theorem d_Law_law_802 : decode c_Law_law 802 = .ok (.iconst 0, 1) := by decide +kernel
theorem d_Law_law_803 : decode c_Law_law 803 = .ok (.ireturn, 1) := by decide +kernel
theorem d_Law_law_804 : decode c_Law_law 804 = .ok (.iload 5, 2) := by decide +kernel
theorem d_Law_law_806 : decode c_Law_law 806 = .ok (.ifCond .ne 22, 3) := by decide +kernel
theorem d_Law_law_809 : decode c_Law_law 809 = .ok (.aload_n 3, 1) := by decide +kernel
theorem d_Law_law_810 : decode c_Law_law 810 = .ok (.iconst 0, 1) := by decide +kernel
theorem d_Law_law_811 : decode c_Law_law 811 = .ok (.laload, 1) := by decide +kernel
theorem d_Law_law_812 : decode c_Law_law 812 = .ok (.iload 6, 2) := by decide +kernel
theorem d_Law_law_814 : decode c_Law_law 814 = .ok (.ifCond .eq 7, 3) := by decide +kernel
theorem d_Law_law_817 : decode c_Law_law 817 = .ok (.lconst 1, 1) := by decide +kernel
theorem d_Law_law_818 : decode c_Law_law 818 = .ok (.goto 4, 3) := by decide +kernel
theorem d_Law_law_821 : decode c_Law_law 821 = .ok (.lconst 0, 1) := by decide +kernel
theorem d_Law_law_822 : decode c_Law_law 822 = .ok (.lcmp, 1) := by decide +kernel
theorem d_Law_law_823 : decode c_Law_law 823 = .ok (.ifCond .eq 5, 3) := by decide +kernel
theorem d_Law_law_826 : decode c_Law_law 826 = .ok (.iconst 0, 1) := by decide +kernel
theorem d_Law_law_827 : decode c_Law_law 827 = .ok (.ireturn, 1) := by decide +kernel
theorem d_Law_law_828 : decode c_Law_law 828 = .ok (.goto 455, 3) := by decide +kernel
theorem d_Law_law_831 : decode c_Law_law 831 = .ok (.aload_n 1, 1) := by decide +kernel
theorem d_Law_law_832 : decode c_Law_law 832 = .ok (.aload_n 0, 1) := by decide +kernel
theorem d_Law_law_833 : decode c_Law_law 833 = .ok (.iload 4, 2) := by decide +kernel
theorem d_Law_law_835 : decode c_Law_law 835 = .ok (.iconst 1, 1) := by decide +kernel
theorem d_Law_law_836 : decode c_Law_law 836 = .ok (.iadd, 1) := by decide +kernel
theorem d_Law_law_837 : decode c_Law_law 837 = .ok (.iaload, 1) := by decide +kernel
theorem d_Law_law_838 : decode c_Law_law 838 = .ok (.aload_n 3, 1) := by decide +kernel
theorem d_Law_law_839 : decode c_Law_law 839 = .ok (.invokestatic 110, 3) := by decide +kernel
theorem d_Law_law_842 : decode c_Law_law 842 = .ok (.istore 5, 2) := by decide +kernel
theorem d_Law_law_844 : decode c_Law_law 844 = .ok (.aload_n 2, 1) := by decide +kernel
theorem d_Law_law_845 : decode c_Law_law 845 = .ok (.aload_n 0, 1) := by decide +kernel
theorem d_Law_law_846 : decode c_Law_law 846 = .ok (.iload 4, 2) := by decide +kernel
theorem d_Law_law_848 : decode c_Law_law 848 = .ok (.iconst 1, 1) := by decide +kernel
theorem d_Law_law_849 : decode c_Law_law 849 = .ok (.iadd, 1) := by decide +kernel
theorem d_Law_law_850 : decode c_Law_law 850 = .ok (.iaload, 1) := by decide +kernel
theorem d_Law_law_851 : decode c_Law_law 851 = .ok (.invokevirtual 112, 3) := by decide +kernel
theorem d_Law_law_854 : decode c_Law_law 854 = .ok (.istore 6, 2) := by decide +kernel
theorem d_Law_law_856 : decode c_Law_law 856 = .ok (.aload_n 2, 1) := by decide +kernel
theorem d_Law_law_857 : decode c_Law_law 857 = .ok (.invokevirtual 73, 3) := by decide +kernel
theorem d_Law_law_860 : decode c_Law_law 860 = .ok (.iload 5, 2) := by decide +kernel
theorem d_Law_law_862 : decode c_Law_law 862 = .ok (.if_icmp .eq 5, 3) := by decide +kernel
theorem d_Law_law_865 : decode c_Law_law 865 = .ok (.iconst 0, 1) := by decide +kernel
theorem d_Law_law_866 : decode c_Law_law 866 = .ok (.ireturn, 1) := by decide +kernel
theorem d_Law_law_867 : decode c_Law_law 867 = .ok (.iload 5, 2) := by decide +kernel
theorem d_Law_law_869 : decode c_Law_law 869 = .ok (.ifCond .ne 15, 3) := by decide +kernel
theorem d_Law_law_872 : decode c_Law_law 872 = .ok (.aload_n 3, 1) := by decide +kernel
theorem d_Law_law_873 : decode c_Law_law 873 = .ok (.iconst 0, 1) := by decide +kernel
theorem d_Law_law_874 : decode c_Law_law 874 = .ok (.laload, 1) := by decide +kernel
theorem d_Law_law_875 : decode c_Law_law 875 = .ok (.iload 6, 2) := by decide +kernel
theorem d_Law_law_877 : decode c_Law_law 877 = .ok (.i2l, 1) := by decide +kernel
theorem d_Law_law_878 : decode c_Law_law 878 = .ok (.lcmp, 1) := by decide +kernel
theorem d_Law_law_879 : decode c_Law_law 879 = .ok (.ifCond .eq 5, 3) := by decide +kernel
theorem d_Law_law_882 : decode c_Law_law 882 = .ok (.iconst 0, 1) := by decide +kernel
theorem d_Law_law_883 : decode c_Law_law 883 = .ok (.ireturn, 1) := by decide +kernel
theorem d_Law_law_884 : decode c_Law_law 884 = .ok (.goto 399, 3) := by decide +kernel
theorem d_Law_law_887 : decode c_Law_law 887 = .ok (.aload_n 1, 1) := by decide +kernel
theorem d_Law_law_888 : decode c_Law_law 888 = .ok (.aload_n 0, 1) := by decide +kernel
theorem d_Law_law_889 : decode c_Law_law 889 = .ok (.iload 4, 2) := by decide +kernel
theorem d_Law_law_891 : decode c_Law_law 891 = .ok (.iconst 1, 1) := by decide +kernel
theorem d_Law_law_892 : decode c_Law_law 892 = .ok (.iadd, 1) := by decide +kernel
theorem d_Law_law_893 : decode c_Law_law 893 = .ok (.iaload, 1) := by decide +kernel
theorem d_Law_law_894 : decode c_Law_law 894 = .ok (.aload_n 3, 1) := by decide +kernel
theorem d_Law_law_895 : decode c_Law_law 895 = .ok (.invokestatic 113, 3) := by decide +kernel
theorem d_Law_law_898 : decode c_Law_law 898 = .ok (.istore 5, 2) := by decide +kernel
theorem d_Law_law_900 : decode c_Law_law 900 = .ok (.aload_n 2, 1) := by decide +kernel
theorem d_Law_law_901 : decode c_Law_law 901 = .ok (.aload_n 0, 1) := by decide +kernel
theorem d_Law_law_902 : decode c_Law_law 902 = .ok (.iload 4, 2) := by decide +kernel
theorem d_Law_law_904 : decode c_Law_law 904 = .ok (.iconst 1, 1) := by decide +kernel
theorem d_Law_law_905 : decode c_Law_law 905 = .ok (.iadd, 1) := by decide +kernel
theorem d_Law_law_906 : decode c_Law_law 906 = .ok (.iaload, 1) := by decide +kernel
theorem d_Law_law_907 : decode c_Law_law 907 = .ok (.invokevirtual 115, 3) := by decide +kernel
theorem d_Law_law_910 : decode c_Law_law 910 = .ok (.istore 6, 2) := by decide +kernel
theorem d_Law_law_912 : decode c_Law_law 912 = .ok (.aload_n 2, 1) := by decide +kernel
theorem d_Law_law_913 : decode c_Law_law 913 = .ok (.invokevirtual 73, 3) := by decide +kernel
theorem d_Law_law_916 : decode c_Law_law 916 = .ok (.iload 5, 2) := by decide +kernel
theorem d_Law_law_918 : decode c_Law_law 918 = .ok (.if_icmp .eq 5, 3) := by decide +kernel
theorem d_Law_law_921 : decode c_Law_law 921 = .ok (.iconst 0, 1) := by decide +kernel
theorem d_Law_law_922 : decode c_Law_law 922 = .ok (.ireturn, 1) := by decide +kernel
theorem d_Law_law_923 : decode c_Law_law 923 = .ok (.iload 5, 2) := by decide +kernel
theorem d_Law_law_925 : decode c_Law_law 925 = .ok (.ifCond .ne 15, 3) := by decide +kernel
theorem d_Law_law_928 : decode c_Law_law 928 = .ok (.aload_n 3, 1) := by decide +kernel
theorem d_Law_law_929 : decode c_Law_law 929 = .ok (.iconst 0, 1) := by decide +kernel
theorem d_Law_law_930 : decode c_Law_law 930 = .ok (.laload, 1) := by decide +kernel
theorem d_Law_law_931 : decode c_Law_law 931 = .ok (.iload 6, 2) := by decide +kernel
theorem d_Law_law_933 : decode c_Law_law 933 = .ok (.i2l, 1) := by decide +kernel
theorem d_Law_law_934 : decode c_Law_law 934 = .ok (.lcmp, 1) := by decide +kernel
theorem d_Law_law_935 : decode c_Law_law 935 = .ok (.ifCond .eq 5, 3) := by decide +kernel
theorem d_Law_law_938 : decode c_Law_law 938 = .ok (.iconst 0, 1) := by decide +kernel
theorem d_Law_law_939 : decode c_Law_law 939 = .ok (.ireturn, 1) := by decide +kernel
theorem d_Law_law_940 : decode c_Law_law 940 = .ok (.goto 343, 3) := by decide +kernel
theorem d_Law_law_943 : decode c_Law_law 943 = .ok (.aload_n 1, 1) := by decide +kernel
theorem d_Law_law_944 : decode c_Law_law 944 = .ok (.invokevirtual 116, 3) := by decide +kernel
theorem d_Law_law_947 : decode c_Law_law 947 = .ok (.dstore 5, 2) := by decide +kernel
theorem d_Law_law_949 : decode c_Law_law 949 = .ok (.aload_n 2, 1) := by decide +kernel
theorem d_Law_law_950 : decode c_Law_law 950 = .ok (.invokevirtual 120, 3) := by decide +kernel
theorem d_Law_law_953 : decode c_Law_law 953 = .ok (.dstore 7, 2) := by decide +kernel
theorem d_Law_law_955 : decode c_Law_law 955 = .ok (.dload 5, 2) := by decide +kernel
theorem d_Law_law_957 : decode c_Law_law 957 = .ok (.dload 7, 2) := by decide +kernel
theorem d_Law_law_959 : decode c_Law_law 959 = .ok (.dcmp .l, 1) := by decide +kernel
theorem d_Law_law_960 : decode c_Law_law 960 = .ok (.ifCond .eq 21, 3) := by decide +kernel
theorem d_Law_law_963 : decode c_Law_law 963 = .ok (.dload 5, 2) := by decide +kernel
theorem d_Law_law_965 : decode c_Law_law 965 = .ok (.dload 5, 2) := by decide +kernel
theorem d_Law_law_967 : decode c_Law_law 967 = .ok (.dcmp .l, 1) := by decide +kernel
theorem d_Law_law_968 : decode c_Law_law 968 = .ok (.ifCond .eq 11, 3) := by decide +kernel
theorem d_Law_law_971 : decode c_Law_law 971 = .ok (.dload 7, 2) := by decide +kernel
theorem d_Law_law_973 : decode c_Law_law 973 = .ok (.dload 7, 2) := by decide +kernel
theorem d_Law_law_975 : decode c_Law_law 975 = .ok (.dcmp .l, 1) := by decide +kernel
theorem d_Law_law_976 : decode c_Law_law 976 = .ok (.ifCond .ne 5, 3) := by decide +kernel
theorem d_Law_law_979 : decode c_Law_law 979 = .ok (.iconst 0, 1) := by decide +kernel
theorem d_Law_law_980 : decode c_Law_law 980 = .ok (.ireturn, 1) := by decide +kernel
theorem d_Law_law_981 : decode c_Law_law 981 = .ok (.goto 302, 3) := by decide +kernel
theorem d_Law_law_984 : decode c_Law_law 984 = .ok (.aload_n 1, 1) := by decide +kernel
theorem d_Law_law_985 : decode c_Law_law 985 = .ok (.aload_n 0, 1) := by decide +kernel
theorem d_Law_law_986 : decode c_Law_law 986 = .ok (.iload 4, 2) := by decide +kernel
theorem d_Law_law_988 : decode c_Law_law 988 = .ok (.iconst 1, 1) := by decide +kernel
theorem d_Law_law_989 : decode c_Law_law 989 = .ok (.iadd, 1) := by decide +kernel
theorem d_Law_law_990 : decode c_Law_law 990 = .ok (.iaload, 1) := by decide +kernel
theorem d_Law_law_991 : decode c_Law_law 991 = .ok (.aload_n 0, 1) := by decide +kernel
theorem d_Law_law_992 : decode c_Law_law 992 = .ok (.iload 4, 2) := by decide +kernel
theorem d_Law_law_994 : decode c_Law_law 994 = .ok (.iconst 2, 1) := by decide +kernel
theorem d_Law_law_995 : decode c_Law_law 995 = .ok (.iadd, 1) := by decide +kernel
theorem d_Law_law_996 : decode c_Law_law 996 = .ok (.iaload, 1) := by decide +kernel
theorem d_Law_law_997 : decode c_Law_law 997 = .ok (.aload_n 3, 1) := by decide +kernel
theorem d_Law_law_998 : decode c_Law_law 998 = .ok (.invokestatic 121, 3) := by decide +kernel
theorem d_Law_law_1001 : decode c_Law_law 1001 = .ok (.istore 5, 2) := by decide +kernel
theorem d_Law_law_1003 : decode c_Law_law 1003 = .ok (.aload_n 2, 1) := by decide +kernel
theorem d_Law_law_1004 : decode c_Law_law 1004 = .ok (.aload_n 0, 1) := by decide +kernel
theorem d_Law_law_1005 : decode c_Law_law 1005 = .ok (.iload 4, 2) := by decide +kernel
theorem d_Law_law_1007 : decode c_Law_law 1007 = .ok (.iconst 1, 1) := by decide +kernel
theorem d_Law_law_1008 : decode c_Law_law 1008 = .ok (.iadd, 1) := by decide +kernel
theorem d_Law_law_1009 : decode c_Law_law 1009 = .ok (.iaload, 1) := by decide +kernel
theorem d_Law_law_1010 : decode c_Law_law 1010 = .ok (.aload_n 0, 1) := by decide +kernel
theorem d_Law_law_1011 : decode c_Law_law 1011 = .ok (.iload 4, 2) := by decide +kernel
theorem d_Law_law_1013 : decode c_Law_law 1013 = .ok (.iconst 2, 1) := by decide +kernel
theorem d_Law_law_1014 : decode c_Law_law 1014 = .ok (.iadd, 1) := by decide +kernel
theorem d_Law_law_1015 : decode c_Law_law 1015 = .ok (.iaload, 1) := by decide +kernel
theorem d_Law_law_1016 : decode c_Law_law 1016 = .ok (.invokevirtual 123, 3) := by decide +kernel
theorem d_Law_law_1019 : decode c_Law_law 1019 = .ok (.istore 6, 2) := by decide +kernel
theorem d_Law_law_1021 : decode c_Law_law 1021 = .ok (.aload_n 2, 1) := by decide +kernel
theorem d_Law_law_1022 : decode c_Law_law 1022 = .ok (.invokevirtual 73, 3) := by decide +kernel
theorem d_Law_law_1025 : decode c_Law_law 1025 = .ok (.iload 5, 2) := by decide +kernel
theorem d_Law_law_1027 : decode c_Law_law 1027 = .ok (.if_icmp .eq 5, 3) := by decide +kernel
theorem d_Law_law_1030 : decode c_Law_law 1030 = .ok (.iconst 0, 1) := by decide +kernel
theorem d_Law_law_1031 : decode c_Law_law 1031 = .ok (.ireturn, 1) := by decide +kernel
theorem d_Law_law_1032 : decode c_Law_law 1032 = .ok (.iload 5, 2) := by decide +kernel
theorem d_Law_law_1034 : decode c_Law_law 1034 = .ok (.ifCond .ne 15, 3) := by decide +kernel
theorem d_Law_law_1037 : decode c_Law_law 1037 = .ok (.aload_n 3, 1) := by decide +kernel
theorem d_Law_law_1038 : decode c_Law_law 1038 = .ok (.iconst 0, 1) := by decide +kernel
theorem d_Law_law_1039 : decode c_Law_law 1039 = .ok (.laload, 1) := by decide +kernel
theorem d_Law_law_1040 : decode c_Law_law 1040 = .ok (.iload 6, 2) := by decide +kernel
theorem d_Law_law_1042 : decode c_Law_law 1042 = .ok (.i2l, 1) := by decide +kernel
theorem d_Law_law_1043 : decode c_Law_law 1043 = .ok (.lcmp, 1) := by decide +kernel
theorem d_Law_law_1044 : decode c_Law_law 1044 = .ok (.ifCond .eq 5, 3) := by decide +kernel
theorem d_Law_law_1047 : decode c_Law_law 1047 = .ok (.iconst 0, 1) := by decide +kernel
theorem d_Law_law_1048 : decode c_Law_law 1048 = .ok (.ireturn, 1) := by decide +kernel
theorem d_Law_law_1049 : decode c_Law_law 1049 = .ok (.goto 234, 3) := by decide +kernel
theorem d_Law_law_1052 : decode c_Law_law 1052 = .ok (.aload_n 1, 1) := by decide +kernel
theorem d_Law_law_1053 : decode c_Law_law 1053 = .ok (.aload_n 0, 1) := by decide +kernel
theorem d_Law_law_1054 : decode c_Law_law 1054 = .ok (.iload 4, 2) := by decide +kernel
theorem d_Law_law_1056 : decode c_Law_law 1056 = .ok (.iconst 1, 1) := by decide +kernel
theorem d_Law_law_1057 : decode c_Law_law 1057 = .ok (.iadd, 1) := by decide +kernel
theorem d_Law_law_1058 : decode c_Law_law 1058 = .ok (.iaload, 1) := by decide +kernel
theorem d_Law_law_1059 : decode c_Law_law 1059 = .ok (.aload_n 0, 1) := by decide +kernel
theorem d_Law_law_1060 : decode c_Law_law 1060 = .ok (.iload 4, 2) := by decide +kernel
theorem d_Law_law_1062 : decode c_Law_law 1062 = .ok (.iconst 2, 1) := by decide +kernel
theorem d_Law_law_1063 : decode c_Law_law 1063 = .ok (.iadd, 1) := by decide +kernel
theorem d_Law_law_1064 : decode c_Law_law 1064 = .ok (.iaload, 1) := by decide +kernel
theorem d_Law_law_1065 : decode c_Law_law 1065 = .ok (.aload_n 0, 1) := by decide +kernel
theorem d_Law_law_1066 : decode c_Law_law 1066 = .ok (.iload 4, 2) := by decide +kernel
theorem d_Law_law_1068 : decode c_Law_law 1068 = .ok (.iconst 3, 1) := by decide +kernel
theorem d_Law_law_1069 : decode c_Law_law 1069 = .ok (.iadd, 1) := by decide +kernel
theorem d_Law_law_1070 : decode c_Law_law 1070 = .ok (.iaload, 1) := by decide +kernel
theorem d_Law_law_1071 : decode c_Law_law 1071 = .ok (.aload_n 3, 1) := by decide +kernel
theorem d_Law_law_1072 : decode c_Law_law 1072 = .ok (.invokestatic 124, 3) := by decide +kernel
theorem d_Law_law_1075 : decode c_Law_law 1075 = .ok (.istore 5, 2) := by decide +kernel
theorem d_Law_law_1077 : decode c_Law_law 1077 = .ok (.aload_n 2, 1) := by decide +kernel
theorem d_Law_law_1078 : decode c_Law_law 1078 = .ok (.aload_n 0, 1) := by decide +kernel
theorem d_Law_law_1079 : decode c_Law_law 1079 = .ok (.iload 4, 2) := by decide +kernel
theorem d_Law_law_1081 : decode c_Law_law 1081 = .ok (.iconst 1, 1) := by decide +kernel
theorem d_Law_law_1082 : decode c_Law_law 1082 = .ok (.iadd, 1) := by decide +kernel
theorem d_Law_law_1083 : decode c_Law_law 1083 = .ok (.iaload, 1) := by decide +kernel
theorem d_Law_law_1084 : decode c_Law_law 1084 = .ok (.aload_n 0, 1) := by decide +kernel
theorem d_Law_law_1085 : decode c_Law_law 1085 = .ok (.iload 4, 2) := by decide +kernel
theorem d_Law_law_1087 : decode c_Law_law 1087 = .ok (.iconst 2, 1) := by decide +kernel
theorem d_Law_law_1088 : decode c_Law_law 1088 = .ok (.iadd, 1) := by decide +kernel
theorem d_Law_law_1089 : decode c_Law_law 1089 = .ok (.iaload, 1) := by decide +kernel
theorem d_Law_law_1090 : decode c_Law_law 1090 = .ok (.aload_n 0, 1) := by decide +kernel
theorem d_Law_law_1091 : decode c_Law_law 1091 = .ok (.iload 4, 2) := by decide +kernel
theorem d_Law_law_1093 : decode c_Law_law 1093 = .ok (.iconst 3, 1) := by decide +kernel
theorem d_Law_law_1094 : decode c_Law_law 1094 = .ok (.iadd, 1) := by decide +kernel
theorem d_Law_law_1095 : decode c_Law_law 1095 = .ok (.iaload, 1) := by decide +kernel
theorem d_Law_law_1096 : decode c_Law_law 1096 = .ok (.invokevirtual 126, 3) := by decide +kernel
theorem d_Law_law_1099 : decode c_Law_law 1099 = .ok (.istore 6, 2) := by decide +kernel
theorem d_Law_law_1101 : decode c_Law_law 1101 = .ok (.aload_n 2, 1) := by decide +kernel
theorem d_Law_law_1102 : decode c_Law_law 1102 = .ok (.invokevirtual 73, 3) := by decide +kernel
theorem d_Law_law_1105 : decode c_Law_law 1105 = .ok (.iload 5, 2) := by decide +kernel
theorem d_Law_law_1107 : decode c_Law_law 1107 = .ok (.if_icmp .eq 5, 3) := by decide +kernel
theorem d_Law_law_1110 : decode c_Law_law 1110 = .ok (.iconst 0, 1) := by decide +kernel
theorem d_Law_law_1111 : decode c_Law_law 1111 = .ok (.ireturn, 1) := by decide +kernel
theorem d_Law_law_1112 : decode c_Law_law 1112 = .ok (.iload 5, 2) := by decide +kernel
theorem d_Law_law_1114 : decode c_Law_law 1114 = .ok (.ifCond .ne 15, 3) := by decide +kernel
theorem d_Law_law_1117 : decode c_Law_law 1117 = .ok (.aload_n 3, 1) := by decide +kernel
theorem d_Law_law_1118 : decode c_Law_law 1118 = .ok (.iconst 0, 1) := by decide +kernel
theorem d_Law_law_1119 : decode c_Law_law 1119 = .ok (.laload, 1) := by decide +kernel
theorem d_Law_law_1120 : decode c_Law_law 1120 = .ok (.iload 6, 2) := by decide +kernel
theorem d_Law_law_1122 : decode c_Law_law 1122 = .ok (.i2l, 1) := by decide +kernel
theorem d_Law_law_1123 : decode c_Law_law 1123 = .ok (.lcmp, 1) := by decide +kernel
theorem d_Law_law_1124 : decode c_Law_law 1124 = .ok (.ifCond .eq 5, 3) := by decide +kernel
theorem d_Law_law_1127 : decode c_Law_law 1127 = .ok (.iconst 0, 1) := by decide +kernel
theorem d_Law_law_1128 : decode c_Law_law 1128 = .ok (.ireturn, 1) := by decide +kernel
theorem d_Law_law_1129 : decode c_Law_law 1129 = .ok (.goto 154, 3) := by decide +kernel
theorem d_Law_law_1132 : decode c_Law_law 1132 = .ok (.aload_n 1, 1) := by decide +kernel
theorem d_Law_law_1133 : decode c_Law_law 1133 = .ok (.aload_n 0, 1) := by decide +kernel
theorem d_Law_law_1134 : decode c_Law_law 1134 = .ok (.iload 4, 2) := by decide +kernel
theorem d_Law_law_1136 : decode c_Law_law 1136 = .ok (.iconst 1, 1) := by decide +kernel
theorem d_Law_law_1137 : decode c_Law_law 1137 = .ok (.iadd, 1) := by decide +kernel
theorem d_Law_law_1138 : decode c_Law_law 1138 = .ok (.iaload, 1) := by decide +kernel
theorem d_Law_law_1139 : decode c_Law_law 1139 = .ok (.aload_n 3, 1) := by decide +kernel
theorem d_Law_law_1140 : decode c_Law_law 1140 = .ok (.invokestatic 127, 3) := by decide +kernel
theorem d_Law_law_1143 : decode c_Law_law 1143 = .ok (.istore 5, 2) := by decide +kernel
theorem d_Law_law_1145 : decode c_Law_law 1145 = .ok (.aload_n 2, 1) := by decide +kernel
theorem d_Law_law_1146 : decode c_Law_law 1146 = .ok (.aload_n 0, 1) := by decide +kernel
theorem d_Law_law_1147 : decode c_Law_law 1147 = .ok (.iload 4, 2) := by decide +kernel
theorem d_Law_law_1149 : decode c_Law_law 1149 = .ok (.iconst 1, 1) := by decide +kernel
theorem d_Law_law_1150 : decode c_Law_law 1150 = .ok (.iadd, 1) := by decide +kernel
theorem d_Law_law_1151 : decode c_Law_law 1151 = .ok (.iaload, 1) := by decide +kernel
theorem d_Law_law_1152 : decode c_Law_law 1152 = .ok (.invokevirtual 129, 3) := by decide +kernel
theorem d_Law_law_1155 : decode c_Law_law 1155 = .ok (.istore 6, 2) := by decide +kernel
theorem d_Law_law_1157 : decode c_Law_law 1157 = .ok (.aload_n 2, 1) := by decide +kernel
theorem d_Law_law_1158 : decode c_Law_law 1158 = .ok (.invokevirtual 73, 3) := by decide +kernel
theorem d_Law_law_1161 : decode c_Law_law 1161 = .ok (.iload 5, 2) := by decide +kernel
theorem d_Law_law_1163 : decode c_Law_law 1163 = .ok (.if_icmp .eq 5, 3) := by decide +kernel
theorem d_Law_law_1166 : decode c_Law_law 1166 = .ok (.iconst 0, 1) := by decide +kernel
theorem d_Law_law_1167 : decode c_Law_law 1167 = .ok (.ireturn, 1) := by decide +kernel
theorem d_Law_law_1168 : decode c_Law_law 1168 = .ok (.iload 5, 2) := by decide +kernel
theorem d_Law_law_1170 : decode c_Law_law 1170 = .ok (.ifCond .ne 15, 3) := by decide +kernel
theorem d_Law_law_1173 : decode c_Law_law 1173 = .ok (.aload_n 3, 1) := by decide +kernel
theorem d_Law_law_1174 : decode c_Law_law 1174 = .ok (.iconst 0, 1) := by decide +kernel
theorem d_Law_law_1175 : decode c_Law_law 1175 = .ok (.laload, 1) := by decide +kernel
theorem d_Law_law_1176 : decode c_Law_law 1176 = .ok (.iload 6, 2) := by decide +kernel
theorem d_Law_law_1178 : decode c_Law_law 1178 = .ok (.i2l, 1) := by decide +kernel
theorem d_Law_law_1179 : decode c_Law_law 1179 = .ok (.lcmp, 1) := by decide +kernel
theorem d_Law_law_1180 : decode c_Law_law 1180 = .ok (.ifCond .eq 5, 3) := by decide +kernel
theorem d_Law_law_1183 : decode c_Law_law 1183 = .ok (.iconst 0, 1) := by decide +kernel
theorem d_Law_law_1184 : decode c_Law_law 1184 = .ok (.ireturn, 1) := by decide +kernel
theorem d_Law_law_1185 : decode c_Law_law 1185 = .ok (.goto 98, 3) := by decide +kernel
theorem d_Law_law_1188 : decode c_Law_law 1188 = .ok (.aload_n 1, 1) := by decide +kernel
theorem d_Law_law_1189 : decode c_Law_law 1189 = .ok (.invokevirtual 130, 3) := by decide +kernel
theorem d_Law_law_1192 : decode c_Law_law 1192 = .ok (.aload_n 2, 1) := by decide +kernel
theorem d_Law_law_1193 : decode c_Law_law 1193 = .ok (.invokevirtual 133, 3) := by decide +kernel
theorem d_Law_law_1196 : decode c_Law_law 1196 = .ok (.if_icmp .eq 87, 3) := by decide +kernel
theorem d_Law_law_1199 : decode c_Law_law 1199 = .ok (.iconst 0, 1) := by decide +kernel
theorem d_Law_law_1200 : decode c_Law_law 1200 = .ok (.ireturn, 1) := by decide +kernel
theorem d_Law_law_1201 : decode c_Law_law 1201 = .ok (.aload_n 1, 1) := by decide +kernel
theorem d_Law_law_1202 : decode c_Law_law 1202 = .ok (.aload_n 0, 1) := by decide +kernel
theorem d_Law_law_1203 : decode c_Law_law 1203 = .ok (.iload 4, 2) := by decide +kernel
theorem d_Law_law_1205 : decode c_Law_law 1205 = .ok (.iconst 1, 1) := by decide +kernel
theorem d_Law_law_1206 : decode c_Law_law 1206 = .ok (.iadd, 1) := by decide +kernel
theorem d_Law_law_1207 : decode c_Law_law 1207 = .ok (.iaload, 1) := by decide +kernel
theorem d_Law_law_1208 : decode c_Law_law 1208 = .ok (.aload_n 0, 1) := by decide +kernel
theorem d_Law_law_1209 : decode c_Law_law 1209 = .ok (.iload 4, 2) := by decide +kernel
theorem d_Law_law_1211 : decode c_Law_law 1211 = .ok (.iconst 2, 1) := by decide +kernel
theorem d_Law_law_1212 : decode c_Law_law 1212 = .ok (.iadd, 1) := by decide +kernel
theorem d_Law_law_1213 : decode c_Law_law 1213 = .ok (.iaload, 1) := by decide +kernel
theorem d_Law_law_1214 : decode c_Law_law 1214 = .ok (.aload_n 3, 1) := by decide +kernel
theorem d_Law_law_1215 : decode c_Law_law 1215 = .ok (.invokestatic 134, 3) := by decide +kernel
theorem d_Law_law_1218 : decode c_Law_law 1218 = .ok (.istore 5, 2) := by decide +kernel
theorem d_Law_law_1220 : decode c_Law_law 1220 = .ok (.aload_n 2, 1) := by decide +kernel
theorem d_Law_law_1221 : decode c_Law_law 1221 = .ok (.aload_n 0, 1) := by decide +kernel
theorem d_Law_law_1222 : decode c_Law_law 1222 = .ok (.iload 4, 2) := by decide +kernel
theorem d_Law_law_1224 : decode c_Law_law 1224 = .ok (.iconst 1, 1) := by decide +kernel
theorem d_Law_law_1225 : decode c_Law_law 1225 = .ok (.iadd, 1) := by decide +kernel
theorem d_Law_law_1226 : decode c_Law_law 1226 = .ok (.iaload, 1) := by decide +kernel
theorem d_Law_law_1227 : decode c_Law_law 1227 = .ok (.aload_n 0, 1) := by decide +kernel
theorem d_Law_law_1228 : decode c_Law_law 1228 = .ok (.iload 4, 2) := by decide +kernel
theorem d_Law_law_1230 : decode c_Law_law 1230 = .ok (.iconst 2, 1) := by decide +kernel
theorem d_Law_law_1231 : decode c_Law_law 1231 = .ok (.iadd, 1) := by decide +kernel
theorem d_Law_law_1232 : decode c_Law_law 1232 = .ok (.iaload, 1) := by decide +kernel
theorem d_Law_law_1233 : decode c_Law_law 1233 = .ok (.invokevirtual 136, 3) := by decide +kernel
theorem d_Law_law_1236 : decode c_Law_law 1236 = .ok (.istore 6, 2) := by decide +kernel
theorem d_Law_law_1238 : decode c_Law_law 1238 = .ok (.aload_n 2, 1) := by decide +kernel
theorem d_Law_law_1239 : decode c_Law_law 1239 = .ok (.invokevirtual 73, 3) := by decide +kernel
theorem d_Law_law_1242 : decode c_Law_law 1242 = .ok (.iload 5, 2) := by decide +kernel
theorem d_Law_law_1244 : decode c_Law_law 1244 = .ok (.if_icmp .eq 5, 3) := by decide +kernel
theorem d_Law_law_1247 : decode c_Law_law 1247 = .ok (.iconst 0, 1) := by decide +kernel
theorem d_Law_law_1248 : decode c_Law_law 1248 = .ok (.ireturn, 1) := by decide +kernel
theorem d_Law_law_1249 : decode c_Law_law 1249 = .ok (.iload 5, 2) := by decide +kernel
theorem d_Law_law_1251 : decode c_Law_law 1251 = .ok (.ifCond .ne 15, 3) := by decide +kernel
theorem d_Law_law_1254 : decode c_Law_law 1254 = .ok (.aload_n 3, 1) := by decide +kernel
theorem d_Law_law_1255 : decode c_Law_law 1255 = .ok (.iconst 0, 1) := by decide +kernel
theorem d_Law_law_1256 : decode c_Law_law 1256 = .ok (.laload, 1) := by decide +kernel
theorem d_Law_law_1257 : decode c_Law_law 1257 = .ok (.iload 6, 2) := by decide +kernel
theorem d_Law_law_1259 : decode c_Law_law 1259 = .ok (.i2l, 1) := by decide +kernel
theorem d_Law_law_1260 : decode c_Law_law 1260 = .ok (.lcmp, 1) := by decide +kernel
theorem d_Law_law_1261 : decode c_Law_law 1261 = .ok (.ifCond .eq 5, 3) := by decide +kernel
theorem d_Law_law_1264 : decode c_Law_law 1264 = .ok (.iconst 0, 1) := by decide +kernel
theorem d_Law_law_1265 : decode c_Law_law 1265 = .ok (.ireturn, 1) := by decide +kernel
theorem d_Law_law_1266 : decode c_Law_law 1266 = .ok (.goto 17, 3) := by decide +kernel
theorem d_Law_law_1269 : decode c_Law_law 1269 = .ok (.aload_n 1, 1) := by decide +kernel
theorem d_Law_law_1270 : decode c_Law_law 1270 = .ok (.invokevirtual 137, 3) := by decide +kernel
theorem d_Law_law_1273 : decode c_Law_law 1273 = .ok (.aload_n 2, 1) := by decide +kernel
theorem d_Law_law_1274 : decode c_Law_law 1274 = .ok (.invokevirtual 141, 3) := by decide +kernel
theorem d_Law_law_1277 : decode c_Law_law 1277 = .ok (.lcmp, 1) := by decide +kernel
theorem d_Law_law_1278 : decode c_Law_law 1278 = .ok (.ifCond .eq 5, 3) := by decide +kernel
theorem d_Law_law_1281 : decode c_Law_law 1281 = .ok (.iconst 0, 1) := by decide +kernel
theorem d_Law_law_1282 : decode c_Law_law 1282 = .ok (.ireturn, 1) := by decide +kernel
theorem d_Law_law_1283 : decode c_Law_law 1283 = .ok (.iinc 4 8, 3) := by decide +kernel
theorem d_Law_law_1286 : decode c_Law_law 1286 = .ok (.goto (-1263), 3) := by decide +kernel
theorem d_Law_law_1289 : decode c_Law_law 1289 = .ok (.iconst 1, 1) := by decide +kernel
theorem d_Law_law_1290 : decode c_Law_law 1290 = .ok (.ireturn, 1) := by decide +kernel
