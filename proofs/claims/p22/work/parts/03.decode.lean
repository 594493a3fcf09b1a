theorem d_Assembly_init_0 : decode c_Assembly_init 0 = .ok (.aload_n 0, 1) := by decide +kernel
theorem d_Assembly_init_1 : decode c_Assembly_init 1 = .ok (.invokespecial 3, 3) := by decide +kernel
theorem d_Assembly_init_4 : decode c_Assembly_init 4 = .ok (.aload_n 0, 1) := by decide +kernel
theorem d_Assembly_init_5 : decode c_Assembly_init 5 = .ok (.new 9, 3) := by decide +kernel
theorem d_Assembly_init_8 : decode c_Assembly_init 8 = .ok (.dup, 1) := by decide +kernel
theorem d_Assembly_init_9 : decode c_Assembly_init 9 = .ok (.invokespecial 11, 3) := by decide +kernel
theorem d_Assembly_init_12 : decode c_Assembly_init 12 = .ok (.putfield 12, 3) := by decide +kernel
theorem d_Assembly_init_15 : decode c_Assembly_init 15 = .ok (.aload_n 0, 1) := by decide +kernel
theorem d_Assembly_init_16 : decode c_Assembly_init 16 = .ok (.new 18, 3) := by decide +kernel
theorem d_Assembly_init_19 : decode c_Assembly_init 19 = .ok (.dup, 1) := by decide +kernel
theorem d_Assembly_init_20 : decode c_Assembly_init 20 = .ok (.aload_n 1, 1) := by decide +kernel
theorem d_Assembly_init_21 : decode c_Assembly_init 21 = .ok (.aload_n 0, 1) := by decide +kernel
theorem d_Assembly_init_22 : decode c_Assembly_init 22 = .ok (.getfield 12, 3) := by decide +kernel
theorem d_Assembly_init_25 : decode c_Assembly_init 25 = .ok (.invokespecial 20, 3) := by decide +kernel
theorem d_Assembly_init_28 : decode c_Assembly_init 28 = .ok (.putfield 23, 3) := by decide +kernel
theorem d_Assembly_init_31 : decode c_Assembly_init 31 = .ok (.aload_n 0, 1) := by decide +kernel
theorem d_Assembly_init_32 : decode c_Assembly_init 32 = .ok (.new 27, 3) := by decide +kernel
theorem d_Assembly_init_35 : decode c_Assembly_init 35 = .ok (.dup, 1) := by decide +kernel
theorem d_Assembly_init_36 : decode c_Assembly_init 36 = .ok (.bipush 6, 2) := by decide +kernel
theorem d_Assembly_init_38 : decode c_Assembly_init 38 = .ok (.iconst (-1), 1) := by decide +kernel
theorem d_Assembly_init_39 : decode c_Assembly_init 39 = .ok (.iconst (-1), 1) := by decide +kernel
theorem d_Assembly_init_40 : decode c_Assembly_init 40 = .ok (.iconst 0, 1) := by decide +kernel
theorem d_Assembly_init_41 : decode c_Assembly_init 41 = .ok (.iconst 0, 1) := by decide +kernel
theorem d_Assembly_init_42 : decode c_Assembly_init 42 = .ok (.invokespecial 29, 3) := by decide +kernel
theorem d_Assembly_init_45 : decode c_Assembly_init 45 = .ok (.putfield 32, 3) := by decide +kernel
theorem d_Assembly_init_48 : decode c_Assembly_init 48 = .ok (.aload_n 0, 1) := by decide +kernel
theorem d_Assembly_init_49 : decode c_Assembly_init 49 = .ok (.bipush 121, 2) := by decide +kernel
theorem d_Assembly_init_51 : decode c_Assembly_init 51 = .ok (.newarray .int, 2) := by decide +kernel
theorem d_Assembly_init_53 : decode c_Assembly_init 53 = .ok (.putfield 36, 3) := by decide +kernel
theorem d_Assembly_init_56 : decode c_Assembly_init 56 = .ok (.aload_n 0, 1) := by decide +kernel
theorem d_Assembly_init_57 : decode c_Assembly_init 57 = .ok (.iconst 0, 1) := by decide +kernel
theorem d_Assembly_init_58 : decode c_Assembly_init 58 = .ok (.putfield 40, 3) := by decide +kernel
theorem d_Assembly_init_61 : decode c_Assembly_init 61 = .ok (.aload_n 0, 1) := by decide +kernel
theorem d_Assembly_init_62 : decode c_Assembly_init 62 = .ok (.iconst 0, 1) := by decide +kernel
theorem d_Assembly_init_63 : decode c_Assembly_init 63 = .ok (.putfield 44, 3) := by decide +kernel
theorem d_Assembly_init_66 : decode c_Assembly_init 66 = .ok (.aload_n 0, 1) := by decide +kernel
theorem d_Assembly_init_67 : decode c_Assembly_init 67 = .ok (.iconst (-1), 1) := by decide +kernel
theorem d_Assembly_init_68 : decode c_Assembly_init 68 = .ok (.putfield 47, 3) := by decide +kernel
theorem d_Assembly_init_71 : decode c_Assembly_init 71 = .ok (.aload_n 0, 1) := by decide +kernel
theorem d_Assembly_init_72 : decode c_Assembly_init 72 = .ok (.iconst 0, 1) := by decide +kernel
theorem d_Assembly_init_73 : decode c_Assembly_init 73 = .ok (.putfield 50, 3) := by decide +kernel
theorem d_Assembly_init_76 : decode c_Assembly_init 76 = .ok (.return_, 1) := by decide +kernel
theorem d_Assembly_assemble_0 : decode c_Assembly_assemble 0 = .ok (.aload_n 0, 1) := by decide +kernel
theorem d_Assembly_assemble_1 : decode c_Assembly_assemble 1 = .ok (.iconst 0, 1) := by decide +kernel
theorem d_Assembly_assemble_2 : decode c_Assembly_assemble 2 = .ok (.putfield 44, 3) := by decide +kernel
theorem d_Assembly_assemble_5 : decode c_Assembly_assemble 5 = .ok (.aload_n 0, 1) := by decide +kernel
theorem d_Assembly_assemble_6 : decode c_Assembly_assemble 6 = .ok (.iconst (-1), 1) := by decide +kernel
theorem d_Assembly_assemble_7 : decode c_Assembly_assemble 7 = .ok (.putfield 47, 3) := by decide +kernel
theorem d_Assembly_assemble_10 : decode c_Assembly_assemble 10 = .ok (.aload_n 0, 1) := by decide +kernel
theorem d_Assembly_assemble_11 : decode c_Assembly_assemble 11 = .ok (.iconst 0, 1) := by decide +kernel
theorem d_Assembly_assemble_12 : decode c_Assembly_assemble 12 = .ok (.putfield 50, 3) := by decide +kernel
theorem d_Assembly_assemble_15 : decode c_Assembly_assemble 15 = .ok (.aload_n 0, 1) := by decide +kernel
theorem d_Assembly_assemble_16 : decode c_Assembly_assemble 16 = .ok (.getfield 23, 3) := by decide +kernel
theorem d_Assembly_assemble_19 : decode c_Assembly_assemble 19 = .ok (.invokevirtual 53, 3) := by decide +kernel
theorem d_Assembly_assemble_22 : decode c_Assembly_assemble 22 = .ok (.aload_n 0, 1) := by decide +kernel
theorem d_Assembly_assemble_23 : decode c_Assembly_assemble 23 = .ok (.getfield 23, 3) := by decide +kernel
theorem d_Assembly_assemble_26 : decode c_Assembly_assemble 26 = .ok (.iconst 0, 1) := by decide +kernel
theorem d_Assembly_assemble_27 : decode c_Assembly_assemble 27 = .ok (.iconst 0, 1) := by decide +kernel
theorem d_Assembly_assemble_28 : decode c_Assembly_assemble 28 = .ok (.iconst 0, 1) := by decide +kernel
theorem d_Assembly_assemble_29 : decode c_Assembly_assemble 29 = .ok (.invokevirtual 56, 3) := by decide +kernel
theorem d_Assembly_assemble_32 : decode c_Assembly_assemble 32 = .ok (.aload_n 0, 1) := by decide +kernel
theorem d_Assembly_assemble_33 : decode c_Assembly_assemble 33 = .ok (.getfield 23, 3) := by decide +kernel
theorem d_Assembly_assemble_36 : decode c_Assembly_assemble 36 = .ok (.getfield 60, 3) := by decide +kernel
theorem d_Assembly_assemble_39 : decode c_Assembly_assemble 39 = .ok (.ifCond .eq 22, 3) := by decide +kernel
theorem d_Assembly_assemble_42 : decode c_Assembly_assemble 42 = .ok (.aload_n 0, 1) := by decide +kernel
theorem d_Assembly_assemble_43 : decode c_Assembly_assemble 43 = .ok (.aload_n 0, 1) := by decide +kernel
theorem d_Assembly_assemble_44 : decode c_Assembly_assemble 44 = .ok (.getfield 23, 3) := by decide +kernel
theorem d_Assembly_assemble_47 : decode c_Assembly_assemble 47 = .ok (.getfield 60, 3) := by decide +kernel
theorem d_Assembly_assemble_50 : decode c_Assembly_assemble 50 = .ok (.aload_n 0, 1) := by decide +kernel
theorem d_Assembly_assemble_51 : decode c_Assembly_assemble 51 = .ok (.getfield 23, 3) := by decide +kernel
theorem d_Assembly_assemble_54 : decode c_Assembly_assemble 54 = .ok (.getfield 61, 3) := by decide +kernel
theorem d_Assembly_assemble_57 : decode c_Assembly_assemble 57 = .ok (.invokevirtual 64, 3) := by decide +kernel
theorem d_Assembly_assemble_60 : decode c_Assembly_assemble 60 = .ok (.return_, 1) := by decide +kernel
theorem d_Assembly_assemble_61 : decode c_Assembly_assemble 61 = .ok (.aload_n 0, 1) := by decide +kernel
theorem d_Assembly_assemble_62 : decode c_Assembly_assemble 62 = .ok (.getfield 12, 3) := by decide +kernel
theorem d_Assembly_assemble_65 : decode c_Assembly_assemble 65 = .ok (.aload_n 0, 1) := by decide +kernel
theorem d_Assembly_assemble_66 : decode c_Assembly_assemble 66 = .ok (.getfield 32, 3) := by decide +kernel
theorem d_Assembly_assemble_69 : decode c_Assembly_assemble 69 = .ok (.iconst 0, 1) := by decide +kernel
theorem d_Assembly_assemble_70 : decode c_Assembly_assemble 70 = .ok (.iconst 0, 1) := by decide +kernel
theorem d_Assembly_assemble_71 : decode c_Assembly_assemble 71 = .ok (.iconst (-1), 1) := by decide +kernel
theorem d_Assembly_assemble_72 : decode c_Assembly_assemble 72 = .ok (.iconst 0, 1) := by decide +kernel
theorem d_Assembly_assemble_73 : decode c_Assembly_assemble 73 = .ok (.invokevirtual 68, 3) := by decide +kernel
theorem d_Assembly_assemble_76 : decode c_Assembly_assemble 76 = .ok (.aload_n 0, 1) := by decide +kernel
theorem d_Assembly_assemble_77 : decode c_Assembly_assemble 77 = .ok (.iconst 5, 1) := by decide +kernel
theorem d_Assembly_assemble_78 : decode c_Assembly_assemble 78 = .ok (.aload_n 0, 1) := by decide +kernel
theorem d_Assembly_assemble_79 : decode c_Assembly_assemble 79 = .ok (.getfield 12, 3) := by decide +kernel
theorem d_Assembly_assemble_82 : decode c_Assembly_assemble 82 = .ok (.invokevirtual 72, 3) := by decide +kernel
theorem d_Assembly_assemble_85 : decode c_Assembly_assemble 85 = .ok (.invokevirtual 76, 3) := by decide +kernel
theorem d_Assembly_assemble_88 : decode c_Assembly_assemble 88 = .ok (.ifCond .eq 4, 3) := by decide +kernel
theorem d_Assembly_assemble_91 : decode c_Assembly_assemble 91 = .ok (.return_, 1) := by decide +kernel
theorem d_Assembly_assemble_92 : decode c_Assembly_assemble 92 = .ok (.aload_n 0, 1) := by decide +kernel
theorem d_Assembly_assemble_93 : decode c_Assembly_assemble 93 = .ok (.getfield 12, 3) := by decide +kernel
theorem d_Assembly_assemble_96 : decode c_Assembly_assemble 96 = .ok (.invokevirtual 80, 3) := by decide +kernel
theorem d_Assembly_assemble_99 : decode c_Assembly_assemble 99 = .ok (.iconst 1, 1) := by decide +kernel
theorem d_Assembly_assemble_100 : decode c_Assembly_assemble 100 = .ok (.istore_n 1, 1) := by decide +kernel
theorem d_Assembly_assemble_101 : decode c_Assembly_assemble 101 = .ok (.iload_n 1, 1) := by decide +kernel
theorem d_Assembly_assemble_102 : decode c_Assembly_assemble 102 = .ok (.ifCond .eq 40, 3) := by decide +kernel
theorem d_Assembly_assemble_105 : decode c_Assembly_assemble 105 = .ok (.aload_n 0, 1) := by decide +kernel
theorem d_Assembly_assemble_106 : decode c_Assembly_assemble 106 = .ok (.getfield 50, 3) := by decide +kernel
theorem d_Assembly_assemble_109 : decode c_Assembly_assemble 109 = .ok (.bipush 120, 2) := by decide +kernel
theorem d_Assembly_assemble_111 : decode c_Assembly_assemble 111 = .ok (.if_icmp .gt 31, 3) := by decide +kernel
theorem d_Assembly_assemble_114 : decode c_Assembly_assemble 114 = .ok (.aload_n 0, 1) := by decide +kernel
theorem d_Assembly_assemble_115 : decode c_Assembly_assemble 115 = .ok (.dup, 1) := by decide +kernel
theorem d_Assembly_assemble_116 : decode c_Assembly_assemble 116 = .ok (.getfield 50, 3) := by decide +kernel
theorem d_Assembly_assemble_119 : decode c_Assembly_assemble 119 = .ok (.iconst 1, 1) := by decide +kernel
theorem d_Assembly_assemble_120 : decode c_Assembly_assemble 120 = .ok (.iadd, 1) := by decide +kernel
theorem d_Assembly_assemble_121 : decode c_Assembly_assemble 121 = .ok (.putfield 50, 3) := by decide +kernel
theorem d_Assembly_assemble_124 : decode c_Assembly_assemble 124 = .ok (.aload_n 0, 1) := by decide +kernel
theorem d_Assembly_assemble_125 : decode c_Assembly_assemble 125 = .ok (.getfield 12, 3) := by decide +kernel
theorem d_Assembly_assemble_128 : decode c_Assembly_assemble 128 = .ok (.invokevirtual 83, 3) := by decide +kernel
theorem d_Assembly_assemble_131 : decode c_Assembly_assemble 131 = .ok (.aload_n 0, 1) := by decide +kernel
theorem d_Assembly_assemble_132 : decode c_Assembly_assemble 132 = .ok (.getfield 12, 3) := by decide +kernel
theorem d_Assembly_assemble_135 : decode c_Assembly_assemble 135 = .ok (.invokevirtual 86, 3) := by decide +kernel
theorem d_Assembly_assemble_138 : decode c_Assembly_assemble 138 = .ok (.istore_n 1, 1) := by decide +kernel
theorem d_Assembly_assemble_139 : decode c_Assembly_assemble 139 = .ok (.goto (-38), 3) := by decide +kernel
theorem d_Assembly_assemble_142 : decode c_Assembly_assemble 142 = .ok (.aload_n 0, 1) := by decide +kernel
theorem d_Assembly_assemble_143 : decode c_Assembly_assemble 143 = .ok (.bipush 6, 2) := by decide +kernel
theorem d_Assembly_assemble_145 : decode c_Assembly_assemble 145 = .ok (.aload_n 0, 1) := by decide +kernel
theorem d_Assembly_assemble_146 : decode c_Assembly_assemble 146 = .ok (.getfield 12, 3) := by decide +kernel
theorem d_Assembly_assemble_149 : decode c_Assembly_assemble 149 = .ok (.invokevirtual 90, 3) := by decide +kernel
theorem d_Assembly_assemble_152 : decode c_Assembly_assemble 152 = .ok (.invokevirtual 76, 3) := by decide +kernel
theorem d_Assembly_assemble_155 : decode c_Assembly_assemble 155 = .ok (.pop, 1) := by decide +kernel
theorem d_Assembly_assemble_156 : decode c_Assembly_assemble 156 = .ok (.return_, 1) := by decide +kernel
theorem d_Assembly_failAt_0 : decode c_Assembly_failAt 0 = .ok (.aload_n 0, 1) := by decide +kernel
theorem d_Assembly_failAt_1 : decode c_Assembly_failAt 1 = .ok (.iload_n 1, 1) := by decide +kernel
theorem d_Assembly_failAt_2 : decode c_Assembly_failAt 2 = .ok (.putfield 44, 3) := by decide +kernel
theorem d_Assembly_failAt_5 : decode c_Assembly_failAt 5 = .ok (.aload_n 0, 1) := by decide +kernel
theorem d_Assembly_failAt_6 : decode c_Assembly_failAt 6 = .ok (.iload_n 2, 1) := by decide +kernel
theorem d_Assembly_failAt_7 : decode c_Assembly_failAt 7 = .ok (.putfield 47, 3) := by decide +kernel
theorem d_Assembly_failAt_10 : decode c_Assembly_failAt 10 = .ok (.aload_n 0, 1) := by decide +kernel
theorem d_Assembly_failAt_11 : decode c_Assembly_failAt 11 = .ok (.getfield 12, 3) := by decide +kernel
theorem d_Assembly_failAt_14 : decode c_Assembly_failAt 14 = .ok (.invokevirtual 93, 3) := by decide +kernel
theorem d_Assembly_failAt_17 : decode c_Assembly_failAt 17 = .ok (.return_, 1) := by decide +kernel
theorem d_Assembly_failsAtItem_0 : decode c_Assembly_failsAtItem 0 = .ok (.aload_n 0, 1) := by decide +kernel
theorem d_Assembly_failsAtItem_1 : decode c_Assembly_failsAtItem 1 = .ok (.getfield 12, 3) := by decide +kernel
theorem d_Assembly_failsAtItem_4 : decode c_Assembly_failsAtItem 4 = .ok (.iload_n 2, 1) := by decide +kernel
theorem d_Assembly_failsAtItem_5 : decode c_Assembly_failsAtItem 5 = .ok (.invokevirtual 96, 3) := by decide +kernel
theorem d_Assembly_failsAtItem_8 : decode c_Assembly_failsAtItem 8 = .ok (.astore_n 3, 1) := by decide +kernel
theorem d_Assembly_failsAtItem_9 : decode c_Assembly_failsAtItem 9 = .ok (.aload_n 3, 1) := by decide +kernel
theorem d_Assembly_failsAtItem_10 : decode c_Assembly_failsAtItem 10 = .ok (.ifnonnull 5, 3) := by decide +kernel
theorem d_Assembly_failsAtItem_13 : decode c_Assembly_failsAtItem 13 = .ok (.iconst 0, 1) := by decide +kernel
theorem d_Assembly_failsAtItem_14 : decode c_Assembly_failsAtItem 14 = .ok (.ireturn, 1) := by decide +kernel
theorem d_Assembly_failsAtItem_15 : decode c_Assembly_failsAtItem 15 = .ok (.aload_n 0, 1) := by decide +kernel
theorem d_Assembly_failsAtItem_16 : decode c_Assembly_failsAtItem 16 = .ok (.iload_n 1, 1) := by decide +kernel
theorem d_Assembly_failsAtItem_17 : decode c_Assembly_failsAtItem 17 = .ok (.aload_n 3, 1) := by decide +kernel
theorem d_Assembly_failsAtItem_18 : decode c_Assembly_failsAtItem 18 = .ok (.getfield 100, 3) := by decide +kernel
theorem d_Assembly_failsAtItem_21 : decode c_Assembly_failsAtItem 21 = .ok (.invokevirtual 64, 3) := by decide +kernel
theorem d_Assembly_failsAtItem_24 : decode c_Assembly_failsAtItem 24 = .ok (.iconst 1, 1) := by decide +kernel
theorem d_Assembly_failsAtItem_25 : decode c_Assembly_failsAtItem 25 = .ok (.ireturn, 1) := by decide +kernel
theorem d_Assembly_wordsOrFault_0 : decode c_Assembly_wordsOrFault 0 = .ok (.aload_n 0, 1) := by decide +kernel
theorem d_Assembly_wordsOrFault_1 : decode c_Assembly_wordsOrFault 1 = .ok (.getfield 44, 3) := by decide +kernel
theorem d_Assembly_wordsOrFault_4 : decode c_Assembly_wordsOrFault 4 = .ok (.ifCond .ne 14, 3) := by decide +kernel
theorem d_Assembly_wordsOrFault_7 : decode c_Assembly_wordsOrFault 7 = .ok (.aload_n 0, 1) := by decide +kernel
theorem d_Assembly_wordsOrFault_8 : decode c_Assembly_wordsOrFault 8 = .ok (.getfield 12, 3) := by decide +kernel
theorem d_Assembly_wordsOrFault_11 : decode c_Assembly_wordsOrFault 11 = .ok (.iconst 3, 1) := by decide +kernel
theorem d_Assembly_wordsOrFault_12 : decode c_Assembly_wordsOrFault 12 = .ok (.invokevirtual 103, 3) := by decide +kernel
theorem d_Assembly_wordsOrFault_15 : decode c_Assembly_wordsOrFault 15 = .ok (.goto 10, 3) := by decide +kernel
theorem d_Assembly_wordsOrFault_18 : decode c_Assembly_wordsOrFault 18 = .ok (.bipush (-10), 2) := by decide +kernel
theorem d_Assembly_wordsOrFault_20 : decode c_Assembly_wordsOrFault 20 = .ok (.aload_n 0, 1) := by decide +kernel
theorem d_Assembly_wordsOrFault_21 : decode c_Assembly_wordsOrFault 21 = .ok (.getfield 44, 3) := by decide +kernel
theorem d_Assembly_wordsOrFault_24 : decode c_Assembly_wordsOrFault 24 = .ok (.isub, 1) := by decide +kernel
theorem d_Assembly_wordsOrFault_25 : decode c_Assembly_wordsOrFault 25 = .ok (.ireturn, 1) := by decide +kernel
theorem d_Assembly_follow_0 : decode c_Assembly_follow 0 = .ok (.aload_n 0, 1) := by decide +kernel
theorem d_Assembly_follow_1 : decode c_Assembly_follow 1 = .ok (.iconst 0, 1) := by decide +kernel
theorem d_Assembly_follow_2 : decode c_Assembly_follow 2 = .ok (.putfield 40, 3) := by decide +kernel
theorem d_Assembly_follow_5 : decode c_Assembly_follow 5 = .ok (.aload_n 0, 1) := by decide +kernel
theorem d_Assembly_follow_6 : decode c_Assembly_follow 6 = .ok (.iconst 0, 1) := by decide +kernel
theorem d_Assembly_follow_7 : decode c_Assembly_follow 7 = .ok (.invokevirtual 107, 3) := by decide +kernel
theorem d_Assembly_follow_10 : decode c_Assembly_follow 10 = .ok (.iconst 0, 1) := by decide +kernel
theorem d_Assembly_follow_11 : decode c_Assembly_follow 11 = .ok (.istore_n 1, 1) := by decide +kernel
theorem d_Assembly_follow_12 : decode c_Assembly_follow 12 = .ok (.iload_n 1, 1) := by decide +kernel
theorem d_Assembly_follow_13 : decode c_Assembly_follow 13 = .ok (.aload_n 0, 1) := by decide +kernel
theorem d_Assembly_follow_14 : decode c_Assembly_follow 14 = .ok (.getfield 40, 3) := by decide +kernel
theorem d_Assembly_follow_17 : decode c_Assembly_follow 17 = .ok (.if_icmp .ge 79, 3) := by decide +kernel
theorem d_Assembly_follow_20 : decode c_Assembly_follow 20 = .ok (.iload_n 1, 1) := by decide +kernel
theorem d_Assembly_follow_21 : decode c_Assembly_follow 21 = .ok (.aload_n 0, 1) := by decide +kernel
theorem d_Assembly_follow_22 : decode c_Assembly_follow 22 = .ok (.getfield 36, 3) := by decide +kernel
theorem d_Assembly_follow_25 : decode c_Assembly_follow 25 = .ok (.arraylength, 1) := by decide +kernel
theorem d_Assembly_follow_26 : decode c_Assembly_follow 26 = .ok (.if_icmp .ge 70, 3) := by decide +kernel
theorem d_Assembly_follow_29 : decode c_Assembly_follow 29 = .ok (.aload_n 0, 1) := by decide +kernel
theorem d_Assembly_follow_30 : decode c_Assembly_follow 30 = .ok (.getfield 12, 3) := by decide +kernel
theorem d_Assembly_follow_33 : decode c_Assembly_follow 33 = .ok (.aload_n 0, 1) := by decide +kernel
theorem d_Assembly_follow_34 : decode c_Assembly_follow 34 = .ok (.getfield 36, 3) := by decide +kernel
theorem d_Assembly_follow_37 : decode c_Assembly_follow 37 = .ok (.iload_n 1, 1) := by decide +kernel
theorem d_Assembly_follow_38 : decode c_Assembly_follow 38 = .ok (.iaload, 1) := by decide +kernel
theorem d_Assembly_follow_39 : decode c_Assembly_follow 39 = .ok (.invokevirtual 96, 3) := by decide +kernel
theorem d_Assembly_follow_42 : decode c_Assembly_follow 42 = .ok (.astore_n 2, 1) := by decide +kernel
theorem d_Assembly_follow_43 : decode c_Assembly_follow 43 = .ok (.aload_n 2, 1) := by decide +kernel
theorem d_Assembly_follow_44 : decode c_Assembly_follow 44 = .ok (.ifnonnull 4, 3) := by decide +kernel
theorem d_Assembly_follow_47 : decode c_Assembly_follow 47 = .ok (.return_, 1) := by decide +kernel
theorem d_Assembly_follow_48 : decode c_Assembly_follow 48 = .ok (.aload_n 2, 1) := by decide +kernel
theorem d_Assembly_follow_49 : decode c_Assembly_follow 49 = .ok (.getfield 111, 3) := by decide +kernel
theorem d_Assembly_follow_52 : decode c_Assembly_follow 52 = .ok (.iconst 3, 1) := by decide +kernel
theorem d_Assembly_follow_53 : decode c_Assembly_follow 53 = .ok (.if_icmp .eq 15, 3) := by decide +kernel
theorem d_Assembly_follow_56 : decode c_Assembly_follow 56 = .ok (.aload_n 0, 1) := by decide +kernel
theorem d_Assembly_follow_57 : decode c_Assembly_follow 57 = .ok (.aload_n 0, 1) := by decide +kernel
theorem d_Assembly_follow_58 : decode c_Assembly_follow 58 = .ok (.getfield 36, 3) := by decide +kernel
theorem d_Assembly_follow_61 : decode c_Assembly_follow 61 = .ok (.iload_n 1, 1) := by decide +kernel
theorem d_Assembly_follow_62 : decode c_Assembly_follow 62 = .ok (.iaload, 1) := by decide +kernel
theorem d_Assembly_follow_63 : decode c_Assembly_follow 63 = .ok (.iconst 1, 1) := by decide +kernel
theorem d_Assembly_follow_64 : decode c_Assembly_follow 64 = .ok (.iadd, 1) := by decide +kernel
theorem d_Assembly_follow_65 : decode c_Assembly_follow 65 = .ok (.invokevirtual 107, 3) := by decide +kernel
theorem d_Assembly_follow_68 : decode c_Assembly_follow 68 = .ok (.aload_n 2, 1) := by decide +kernel
theorem d_Assembly_follow_69 : decode c_Assembly_follow 69 = .ok (.invokevirtual 114, 3) := by decide +kernel
theorem d_Assembly_follow_72 : decode c_Assembly_follow 72 = .ok (.ifCond .eq 18, 3) := by decide +kernel
theorem d_Assembly_follow_75 : decode c_Assembly_follow 75 = .ok (.aload_n 0, 1) := by decide +kernel
theorem d_Assembly_follow_76 : decode c_Assembly_follow 76 = .ok (.aload_n 0, 1) := by decide +kernel
theorem d_Assembly_follow_77 : decode c_Assembly_follow 77 = .ok (.getfield 12, 3) := by decide +kernel
theorem d_Assembly_follow_80 : decode c_Assembly_follow 80 = .ok (.aload_n 2, 1) := by decide +kernel
theorem d_Assembly_follow_81 : decode c_Assembly_follow 81 = .ok (.invokevirtual 117, 3) := by decide +kernel
theorem d_Assembly_follow_84 : decode c_Assembly_follow 84 = .ok (.invokevirtual 120, 3) := by decide +kernel
theorem d_Assembly_follow_87 : decode c_Assembly_follow 87 = .ok (.invokevirtual 107, 3) := by decide +kernel
theorem d_Assembly_follow_90 : decode c_Assembly_follow 90 = .ok (.iinc 1 1, 3) := by decide +kernel
theorem d_Assembly_follow_93 : decode c_Assembly_follow 93 = .ok (.goto (-81), 3) := by decide +kernel
theorem d_Assembly_follow_96 : decode c_Assembly_follow 96 = .ok (.return_, 1) := by decide +kernel
theorem d_Assembly_reach_0 : decode c_Assembly_reach 0 = .ok (.aload_n 0, 1) := by decide +kernel
theorem d_Assembly_reach_1 : decode c_Assembly_reach 1 = .ok (.getfield 12, 3) := by decide +kernel
theorem d_Assembly_reach_4 : decode c_Assembly_reach 4 = .ok (.iload_n 1, 1) := by decide +kernel
theorem d_Assembly_reach_5 : decode c_Assembly_reach 5 = .ok (.invokevirtual 96, 3) := by decide +kernel
theorem d_Assembly_reach_8 : decode c_Assembly_reach 8 = .ok (.astore_n 2, 1) := by decide +kernel
theorem d_Assembly_reach_9 : decode c_Assembly_reach 9 = .ok (.aload_n 2, 1) := by decide +kernel
theorem d_Assembly_reach_10 : decode c_Assembly_reach 10 = .ok (.ifnull 29, 3) := by decide +kernel
theorem d_Assembly_reach_13 : decode c_Assembly_reach 13 = .ok (.aload_n 2, 1) := by decide +kernel
theorem d_Assembly_reach_14 : decode c_Assembly_reach 14 = .ok (.getfield 123, 3) := by decide +kernel
theorem d_Assembly_reach_17 : decode c_Assembly_reach 17 = .ok (.ifCond .ne 22, 3) := by decide +kernel
theorem d_Assembly_reach_20 : decode c_Assembly_reach 20 = .ok (.aload_n 2, 1) := by decide +kernel
theorem d_Assembly_reach_21 : decode c_Assembly_reach 21 = .ok (.invokevirtual 127, 3) := by decide +kernel
theorem d_Assembly_reach_24 : decode c_Assembly_reach 24 = .ok (.ifCond .eq 15, 3) := by decide +kernel
theorem d_Assembly_reach_27 : decode c_Assembly_reach 27 = .ok (.aload_n 0, 1) := by decide +kernel
theorem d_Assembly_reach_28 : decode c_Assembly_reach 28 = .ok (.getfield 40, 3) := by decide +kernel
theorem d_Assembly_reach_31 : decode c_Assembly_reach 31 = .ok (.aload_n 0, 1) := by decide +kernel
theorem d_Assembly_reach_32 : decode c_Assembly_reach 32 = .ok (.getfield 36, 3) := by decide +kernel
theorem d_Assembly_reach_35 : decode c_Assembly_reach 35 = .ok (.arraylength, 1) := by decide +kernel
theorem d_Assembly_reach_36 : decode c_Assembly_reach 36 = .ok (.if_icmp .lt 4, 3) := by decide +kernel
theorem d_Assembly_reach_39 : decode c_Assembly_reach 39 = .ok (.return_, 1) := by decide +kernel
theorem d_Assembly_reach_40 : decode c_Assembly_reach 40 = .ok (.aload_n 2, 1) := by decide +kernel
theorem d_Assembly_reach_41 : decode c_Assembly_reach 41 = .ok (.iconst 1, 1) := by decide +kernel
theorem d_Assembly_reach_42 : decode c_Assembly_reach 42 = .ok (.putfield 123, 3) := by decide +kernel
theorem d_Assembly_reach_45 : decode c_Assembly_reach 45 = .ok (.aload_n 0, 1) := by decide +kernel
theorem d_Assembly_reach_46 : decode c_Assembly_reach 46 = .ok (.getfield 36, 3) := by decide +kernel
theorem d_Assembly_reach_49 : decode c_Assembly_reach 49 = .ok (.aload_n 0, 1) := by decide +kernel
theorem d_Assembly_reach_50 : decode c_Assembly_reach 50 = .ok (.getfield 40, 3) := by decide +kernel
theorem d_Assembly_reach_53 : decode c_Assembly_reach 53 = .ok (.iload_n 1, 1) := by decide +kernel
theorem d_Assembly_reach_54 : decode c_Assembly_reach 54 = .ok (.iastore, 1) := by decide +kernel
theorem d_Assembly_reach_55 : decode c_Assembly_reach 55 = .ok (.aload_n 0, 1) := by decide +kernel
theorem d_Assembly_reach_56 : decode c_Assembly_reach 56 = .ok (.dup, 1) := by decide +kernel
theorem d_Assembly_reach_57 : decode c_Assembly_reach 57 = .ok (.getfield 40, 3) := by decide +kernel
theorem d_Assembly_reach_60 : decode c_Assembly_reach 60 = .ok (.iconst 1, 1) := by decide +kernel
theorem d_Assembly_reach_61 : decode c_Assembly_reach 61 = .ok (.iadd, 1) := by decide +kernel
theorem d_Assembly_reach_62 : decode c_Assembly_reach 62 = .ok (.putfield 40, 3) := by decide +kernel
theorem d_Assembly_reach_65 : decode c_Assembly_reach 65 = .ok (.return_, 1) := by decide +kernel
theorem d_Expander_init_0 : decode c_Expander_init 0 = .ok (.aload_n 0, 1) := by decide +kernel
theorem d_Expander_init_1 : decode c_Expander_init 1 = .ok (.invokespecial 3, 3) := by decide +kernel
theorem d_Expander_init_4 : decode c_Expander_init 4 = .ok (.aload_n 0, 1) := by decide +kernel
theorem d_Expander_init_5 : decode c_Expander_init 5 = .ok (.aload_n 1, 1) := by decide +kernel
theorem d_Expander_init_6 : decode c_Expander_init 6 = .ok (.putfield 9, 3) := by decide +kernel
theorem d_Expander_init_9 : decode c_Expander_init 9 = .ok (.aload_n 0, 1) := by decide +kernel
theorem d_Expander_init_10 : decode c_Expander_init 10 = .ok (.aload_n 2, 1) := by decide +kernel
theorem d_Expander_init_11 : decode c_Expander_init 11 = .ok (.putfield 15, 3) := by decide +kernel
theorem d_Expander_init_14 : decode c_Expander_init 14 = .ok (.aload_n 0, 1) := by decide +kernel
theorem d_Expander_init_15 : decode c_Expander_init 15 = .ok (.new 19, 3) := by decide +kernel
theorem d_Expander_init_18 : decode c_Expander_init 18 = .ok (.dup, 1) := by decide +kernel
theorem d_Expander_init_19 : decode c_Expander_init 19 = .ok (.invokespecial 21, 3) := by decide +kernel
theorem d_Expander_init_22 : decode c_Expander_init 22 = .ok (.putfield 22, 3) := by decide +kernel
theorem d_Expander_init_25 : decode c_Expander_init 25 = .ok (.aload_n 0, 1) := by decide +kernel
theorem d_Expander_init_26 : decode c_Expander_init 26 = .ok (.iconst 0, 1) := by decide +kernel
theorem d_Expander_init_27 : decode c_Expander_init 27 = .ok (.putfield 26, 3) := by decide +kernel
theorem d_Expander_init_30 : decode c_Expander_init 30 = .ok (.aload_n 0, 1) := by decide +kernel
theorem d_Expander_init_31 : decode c_Expander_init 31 = .ok (.iconst 0, 1) := by decide +kernel
theorem d_Expander_init_32 : decode c_Expander_init 32 = .ok (.putfield 30, 3) := by decide +kernel
theorem d_Expander_init_35 : decode c_Expander_init 35 = .ok (.aload_n 0, 1) := by decide +kernel
theorem d_Expander_init_36 : decode c_Expander_init 36 = .ok (.iconst 0, 1) := by decide +kernel
theorem d_Expander_init_37 : decode c_Expander_init 37 = .ok (.putfield 33, 3) := by decide +kernel
theorem d_Expander_init_40 : decode c_Expander_init 40 = .ok (.return_, 1) := by decide +kernel
theorem d_Expander_startOver_0 : decode c_Expander_startOver 0 = .ok (.aload_n 0, 1) := by decide +kernel
theorem d_Expander_startOver_1 : decode c_Expander_startOver 1 = .ok (.getfield 15, 3) := by decide +kernel
theorem d_Expander_startOver_4 : decode c_Expander_startOver 4 = .ok (.invokevirtual 36, 3) := by decide +kernel
theorem d_Expander_startOver_7 : decode c_Expander_startOver 7 = .ok (.aload_n 0, 1) := by decide +kernel
theorem d_Expander_startOver_8 : decode c_Expander_startOver 8 = .ok (.getfield 22, 3) := by decide +kernel
theorem d_Expander_startOver_11 : decode c_Expander_startOver 11 = .ok (.invokevirtual 41, 3) := by decide +kernel
theorem d_Expander_startOver_14 : decode c_Expander_startOver 14 = .ok (.aload_n 0, 1) := by decide +kernel
theorem d_Expander_startOver_15 : decode c_Expander_startOver 15 = .ok (.iconst 0, 1) := by decide +kernel
theorem d_Expander_startOver_16 : decode c_Expander_startOver 16 = .ok (.putfield 26, 3) := by decide +kernel
theorem d_Expander_startOver_19 : decode c_Expander_startOver 19 = .ok (.aload_n 0, 1) := by decide +kernel
theorem d_Expander_startOver_20 : decode c_Expander_startOver 20 = .ok (.iconst 0, 1) := by decide +kernel
theorem d_Expander_startOver_21 : decode c_Expander_startOver 21 = .ok (.putfield 30, 3) := by decide +kernel
theorem d_Expander_startOver_24 : decode c_Expander_startOver 24 = .ok (.aload_n 0, 1) := by decide +kernel
theorem d_Expander_startOver_25 : decode c_Expander_startOver 25 = .ok (.iconst 0, 1) := by decide +kernel
theorem d_Expander_startOver_26 : decode c_Expander_startOver 26 = .ok (.putfield 33, 3) := by decide +kernel
theorem d_Expander_startOver_29 : decode c_Expander_startOver 29 = .ok (.return_, 1) := by decide +kernel
theorem d_Expander_expandRow_0 : decode c_Expander_expandRow 0 = .ok (.iconst 0, 1) := by decide +kernel
theorem d_Expander_expandRow_1 : decode c_Expander_expandRow 1 = .ok (.istore 4, 2) := by decide +kernel
theorem d_Expander_expandRow_3 : decode c_Expander_expandRow 3 = .ok (.aload_n 0, 1) := by decide +kernel
theorem d_Expander_expandRow_4 : decode c_Expander_expandRow 4 = .ok (.getfield 9, 3) := by decide +kernel
theorem d_Expander_expandRow_7 : decode c_Expander_expandRow 7 = .ok (.iload_n 1, 1) := by decide +kernel
theorem d_Expander_expandRow_8 : decode c_Expander_expandRow 8 = .ok (.invokevirtual 42, 3) := by decide +kernel
theorem d_Expander_expandRow_11 : decode c_Expander_expandRow 11 = .ok (.istore 5, 2) := by decide +kernel
theorem d_Expander_expandRow_13 : decode c_Expander_expandRow 13 = .ok (.iconst 0, 1) := by decide +kernel
theorem d_Expander_expandRow_14 : decode c_Expander_expandRow 14 = .ok (.istore 6, 2) := by decide +kernel
theorem d_Expander_expandRow_16 : decode c_Expander_expandRow 16 = .ok (.iload 6, 2) := by decide +kernel
theorem d_Expander_expandRow_18 : decode c_Expander_expandRow 18 = .ok (.iload 5, 2) := by decide +kernel
theorem d_Expander_expandRow_20 : decode c_Expander_expandRow 20 = .ok (.if_icmp .ge 109, 3) := by decide +kernel
theorem d_Expander_expandRow_23 : decode c_Expander_expandRow 23 = .ok (.aload_n 0, 1) := by decide +kernel
theorem d_Expander_expandRow_24 : decode c_Expander_expandRow 24 = .ok (.getfield 30, 3) := by decide +kernel
theorem d_Expander_expandRow_27 : decode c_Expander_expandRow 27 = .ok (.ifCond .ne 102, 3) := by decide +kernel
theorem d_Expander_expandRow_30 : decode c_Expander_expandRow 30 = .ok (.aload_n 0, 1) := by decide +kernel
theorem d_Expander_expandRow_31 : decode c_Expander_expandRow 31 = .ok (.getfield 9, 3) := by decide +kernel
theorem d_Expander_expandRow_34 : decode c_Expander_expandRow 34 = .ok (.iload_n 1, 1) := by decide +kernel
theorem d_Expander_expandRow_35 : decode c_Expander_expandRow 35 = .ok (.iload 6, 2) := by decide +kernel
theorem d_Expander_expandRow_37 : decode c_Expander_expandRow 37 = .ok (.invokevirtual 48, 3) := by decide +kernel
theorem d_Expander_expandRow_40 : decode c_Expander_expandRow 40 = .ok (.astore 7, 2) := by decide +kernel
theorem d_Expander_expandRow_42 : decode c_Expander_expandRow 42 = .ok (.aload 7, 2) := by decide +kernel
theorem d_Expander_expandRow_44 : decode c_Expander_expandRow 44 = .ok (.ifnonnull 4, 3) := by decide +kernel
theorem d_Expander_expandRow_47 : decode c_Expander_expandRow 47 = .ok (.return_, 1) := by decide +kernel
theorem d_Expander_expandRow_48 : decode c_Expander_expandRow 48 = .ok (.aload_n 0, 1) := by decide +kernel
theorem d_Expander_expandRow_49 : decode c_Expander_expandRow 49 = .ok (.iload_n 3, 1) := by decide +kernel
theorem d_Expander_expandRow_50 : decode c_Expander_expandRow 50 = .ok (.ifCond .ne 8, 3) := by decide +kernel
theorem d_Expander_expandRow_53 : decode c_Expander_expandRow 53 = .ok (.iload 6, 2) := by decide +kernel
theorem d_Expander_expandRow_55 : decode c_Expander_expandRow 55 = .ok (.goto 7, 3) := by decide +kernel
theorem d_Expander_expandRow_58 : decode c_Expander_expandRow 58 = .ok (.aload_n 0, 1) := by decide +kernel
theorem d_Expander_expandRow_59 : decode c_Expander_expandRow 59 = .ok (.getfield 33, 3) := by decide +kernel
theorem d_Expander_expandRow_62 : decode c_Expander_expandRow 62 = .ok (.putfield 33, 3) := by decide +kernel
theorem d_Expander_expandRow_65 : decode c_Expander_expandRow 65 = .ok (.iload 4, 2) := by decide +kernel
theorem d_Expander_expandRow_67 : decode c_Expander_expandRow 67 = .ok (.ifCond .le 37, 3) := by decide +kernel
theorem d_Expander_expandRow_70 : decode c_Expander_expandRow 70 = .ok (.iload 4, 2) := by decide +kernel
theorem d_Expander_expandRow_72 : decode c_Expander_expandRow 72 = .ok (.aload 7, 2) := by decide +kernel
theorem d_Expander_expandRow_74 : decode c_Expander_expandRow 74 = .ok (.getfield 52, 3) := by decide +kernel
theorem d_Expander_expandRow_77 : decode c_Expander_expandRow 77 = .ok (.bipush 8, 2) := by decide +kernel
theorem d_Expander_expandRow_79 : decode c_Expander_expandRow 79 = .ok (.if_icmp .ne 7, 3) := by decide +kernel
theorem d_Expander_expandRow_82 : decode c_Expander_expandRow 82 = .ok (.iconst 1, 1) := by decide +kernel
theorem d_Expander_expandRow_83 : decode c_Expander_expandRow 83 = .ok (.goto 18, 3) := by decide +kernel
theorem d_Expander_expandRow_86 : decode c_Expander_expandRow 86 = .ok (.aload 7, 2) := by decide +kernel
theorem d_Expander_expandRow_88 : decode c_Expander_expandRow 88 = .ok (.getfield 52, 3) := by decide +kernel
theorem d_Expander_expandRow_91 : decode c_Expander_expandRow 91 = .ok (.bipush 9, 2) := by decide +kernel
theorem d_Expander_expandRow_93 : decode c_Expander_expandRow 93 = .ok (.if_icmp .ne 7, 3) := by decide +kernel
theorem d_Expander_expandRow_96 : decode c_Expander_expandRow 96 = .ok (.iconst (-1), 1) := by decide +kernel
theorem d_Expander_expandRow_97 : decode c_Expander_expandRow 97 = .ok (.goto 4, 3) := by decide +kernel
theorem d_Expander_expandRow_100 : decode c_Expander_expandRow 100 = .ok (.iconst 0, 1) := by decide +kernel
theorem d_Expander_expandRow_101 : decode c_Expander_expandRow 101 = .ok (.iadd, 1) := by decide +kernel
theorem d_Expander_expandRow_102 : decode c_Expander_expandRow 102 = .ok (.istore 4, 2) := by decide +kernel
theorem d_Expander_expandRow_104 : decode c_Expander_expandRow 104 = .ok (.iload 4, 2) := by decide +kernel
theorem d_Expander_expandRow_106 : decode c_Expander_expandRow 106 = .ok (.ifCond .ne 17, 3) := by decide +kernel
theorem d_Expander_expandRow_109 : decode c_Expander_expandRow 109 = .ok (.aload_n 0, 1) := by decide +kernel
theorem d_Expander_expandRow_110 : decode c_Expander_expandRow 110 = .ok (.aload 7, 2) := by decide +kernel
theorem d_Expander_expandRow_112 : decode c_Expander_expandRow 112 = .ok (.iload_n 2, 1) := by decide +kernel
theorem d_Expander_expandRow_113 : decode c_Expander_expandRow 113 = .ok (.iload_n 3, 1) := by decide +kernel
theorem d_Expander_expandRow_114 : decode c_Expander_expandRow 114 = .ok (.invokevirtual 57, 3) := by decide +kernel
theorem d_Expander_expandRow_117 : decode c_Expander_expandRow 117 = .ok (.ifCond .ne 6, 3) := by decide +kernel
theorem d_Expander_expandRow_120 : decode c_Expander_expandRow 120 = .ok (.iconst 1, 1) := by decide +kernel
theorem d_Expander_expandRow_121 : decode c_Expander_expandRow 121 = .ok (.istore 4, 2) := by decide +kernel
theorem d_Expander_expandRow_123 : decode c_Expander_expandRow 123 = .ok (.iinc 6 1, 3) := by decide +kernel
theorem d_Expander_expandRow_126 : decode c_Expander_expandRow 126 = .ok (.goto (-110), 3) := by decide +kernel
theorem d_Expander_expandRow_129 : decode c_Expander_expandRow 129 = .ok (.return_, 1) := by decide +kernel
theorem d_Expander_expandLine_0 : decode c_Expander_expandLine 0 = .ok (.aload_n 1, 1) := by decide +kernel
theorem d_Expander_expandLine_1 : decode c_Expander_expandLine 1 = .ok (.getfield 61, 3) := by decide +kernel
theorem d_Expander_expandLine_4 : decode c_Expander_expandLine 4 = .ok (.ifCond .eq 12, 3) := by decide +kernel
theorem d_Expander_expandLine_7 : decode c_Expander_expandLine 7 = .ok (.aload_n 1, 1) := by decide +kernel
theorem d_Expander_expandLine_8 : decode c_Expander_expandLine 8 = .ok (.getfield 65, 3) := by decide +kernel
theorem d_Expander_expandLine_11 : decode c_Expander_expandLine 11 = .ok (.iload_n 2, 1) := by decide +kernel
theorem d_Expander_expandLine_12 : decode c_Expander_expandLine 12 = .ok (.iadd, 1) := by decide +kernel
theorem d_Expander_expandLine_13 : decode c_Expander_expandLine 13 = .ok (.goto 7, 3) := by decide +kernel
theorem d_Expander_expandLine_16 : decode c_Expander_expandLine 16 = .ok (.aload_n 1, 1) := by decide +kernel
theorem d_Expander_expandLine_17 : decode c_Expander_expandLine 17 = .ok (.getfield 65, 3) := by decide +kernel
theorem d_Expander_expandLine_20 : decode c_Expander_expandLine 20 = .ok (.istore 4, 2) := by decide +kernel
theorem d_Expander_expandLine_22 : decode c_Expander_expandLine 22 = .ok (.aload_n 0, 1) := by decide +kernel
theorem d_Expander_expandLine_23 : decode c_Expander_expandLine 23 = .ok (.dup, 1) := by decide +kernel
theorem d_Expander_expandLine_24 : decode c_Expander_expandLine 24 = .ok (.getfield 26, 3) := by decide +kernel
theorem d_Expander_expandLine_27 : decode c_Expander_expandLine 27 = .ok (.iconst 1, 1) := by decide +kernel
theorem d_Expander_expandLine_28 : decode c_Expander_expandLine 28 = .ok (.iadd, 1) := by decide +kernel
theorem d_Expander_expandLine_29 : decode c_Expander_expandLine 29 = .ok (.putfield 26, 3) := by decide +kernel
theorem d_Expander_expandLine_32 : decode c_Expander_expandLine 32 = .ok (.aload_n 0, 1) := by decide +kernel
theorem d_Expander_expandLine_33 : decode c_Expander_expandLine 33 = .ok (.getfield 26, 3) := by decide +kernel
theorem d_Expander_expandLine_36 : decode c_Expander_expandLine 36 = .ok (.sipush 400, 3) := by decide +kernel
theorem d_Expander_expandLine_39 : decode c_Expander_expandLine 39 = .ok (.if_icmp .gt 22, 3) := by decide +kernel
theorem d_Expander_expandLine_42 : decode c_Expander_expandLine 42 = .ok (.aload_n 1, 1) := by decide +kernel
theorem d_Expander_expandLine_43 : decode c_Expander_expandLine 43 = .ok (.invokevirtual 68, 3) := by decide +kernel
theorem d_Expander_expandLine_46 : decode c_Expander_expandLine 46 = .ok (.ifCond .eq 22, 3) := by decide +kernel
theorem d_Expander_expandLine_49 : decode c_Expander_expandLine 49 = .ok (.aload_n 0, 1) := by decide +kernel
theorem d_Expander_expandLine_50 : decode c_Expander_expandLine 50 = .ok (.getfield 15, 3) := by decide +kernel
theorem d_Expander_expandLine_53 : decode c_Expander_expandLine 53 = .ok (.getfield 72, 3) := by decide +kernel
theorem d_Expander_expandLine_56 : decode c_Expander_expandLine 56 = .ok (.bipush 120, 2) := by decide +kernel
theorem d_Expander_expandLine_58 : decode c_Expander_expandLine 58 = .ok (.if_icmp .lt 10, 3) := by decide +kernel
theorem d_Expander_expandLine_61 : decode c_Expander_expandLine 61 = .ok (.aload_n 0, 1) := by decide +kernel
theorem d_Expander_expandLine_62 : decode c_Expander_expandLine 62 = .ok (.iconst 2, 1) := by decide +kernel
theorem d_Expander_expandLine_63 : decode c_Expander_expandLine 63 = .ok (.putfield 30, 3) := by decide +kernel
theorem d_Expander_expandLine_66 : decode c_Expander_expandLine 66 = .ok (.iconst 1, 1) := by decide +kernel
theorem d_Expander_expandLine_67 : decode c_Expander_expandLine 67 = .ok (.ireturn, 1) := by decide +kernel
theorem d_Expander_expandLine_68 : decode c_Expander_expandLine 68 = .ok (.aload_n 1, 1) := by decide +kernel
theorem d_Expander_expandLine_69 : decode c_Expander_expandLine 69 = .ok (.getfield 52, 3) := by decide +kernel
theorem d_Expander_expandLine_72 : decode c_Expander_expandLine 72 = .ok (.tableswitch 104 0 10 #[83, 94, 104, 104, 104, 104, 104, 104, 73, 81, 60], 60) := by decide +kernel
theorem d_Expander_expandLine_132 : decode c_Expander_expandLine 132 = .ok (.aload_n 0, 1) := by decide +kernel
theorem d_Expander_expandLine_133 : decode c_Expander_expandLine 133 = .ok (.aload_n 1, 1) := by decide +kernel
theorem d_Expander_expandLine_134 : decode c_Expander_expandLine 134 = .ok (.getfield 75, 3) := by decide +kernel
theorem d_Expander_expandLine_137 : decode c_Expander_expandLine 137 = .ok (.iload 4, 2) := by decide +kernel
theorem d_Expander_expandLine_139 : decode c_Expander_expandLine 139 = .ok (.iload_n 3, 1) := by decide +kernel
theorem d_Expander_expandLine_140 : decode c_Expander_expandLine 140 = .ok (.invokevirtual 78, 3) := by decide +kernel
theorem d_Expander_expandLine_143 : decode c_Expander_expandLine 143 = .ok (.iconst 1, 1) := by decide +kernel
theorem d_Expander_expandLine_144 : decode c_Expander_expandLine 144 = .ok (.ireturn, 1) := by decide +kernel
theorem d_Expander_expandLine_145 : decode c_Expander_expandLine 145 = .ok (.aload_n 0, 1) := by decide +kernel
theorem d_Expander_expandLine_146 : decode c_Expander_expandLine 146 = .ok (.aload_n 1, 1) := by decide +kernel
theorem d_Expander_expandLine_147 : decode c_Expander_expandLine 147 = .ok (.iload 4, 2) := by decide +kernel
theorem d_Expander_expandLine_149 : decode c_Expander_expandLine 149 = .ok (.invokevirtual 82, 3) := by decide +kernel
theorem d_Expander_expandLine_152 : decode c_Expander_expandLine 152 = .ok (.ireturn, 1) := by decide +kernel
theorem d_Expander_expandLine_153 : decode c_Expander_expandLine 153 = .ok (.iconst 1, 1) := by decide +kernel
theorem d_Expander_expandLine_154 : decode c_Expander_expandLine 154 = .ok (.ireturn, 1) := by decide +kernel
theorem d_Expander_expandLine_155 : decode c_Expander_expandLine 155 = .ok (.aload_n 0, 1) := by decide +kernel
theorem d_Expander_expandLine_156 : decode c_Expander_expandLine 156 = .ok (.aload_n 1, 1) := by decide +kernel
theorem d_Expander_expandLine_157 : decode c_Expander_expandLine 157 = .ok (.getfield 75, 3) := by decide +kernel
theorem d_Expander_expandLine_160 : decode c_Expander_expandLine 160 = .ok (.invokevirtual 86, 3) := by decide +kernel
theorem d_Expander_expandLine_163 : decode c_Expander_expandLine 163 = .ok (.goto 13, 3) := by decide +kernel
theorem d_Expander_expandLine_166 : decode c_Expander_expandLine 166 = .ok (.aload_n 0, 1) := by decide +kernel
theorem d_Expander_expandLine_167 : decode c_Expander_expandLine 167 = .ok (.aload_n 1, 1) := by decide +kernel
theorem d_Expander_expandLine_168 : decode c_Expander_expandLine 168 = .ok (.iload 4, 2) := by decide +kernel
theorem d_Expander_expandLine_170 : decode c_Expander_expandLine 170 = .ok (.invokevirtual 90, 3) := by decide +kernel
theorem d_Expander_expandLine_173 : decode c_Expander_expandLine 173 = .ok (.goto 3, 3) := by decide +kernel
theorem d_Expander_expandLine_176 : decode c_Expander_expandLine 176 = .ok (.aload_n 1, 1) := by decide +kernel
theorem d_Expander_expandLine_177 : decode c_Expander_expandLine 177 = .ok (.getfield 52, 3) := by decide +kernel
theorem d_Expander_expandLine_180 : decode c_Expander_expandLine 180 = .ok (.iconst 1, 1) := by decide +kernel
theorem d_Expander_expandLine_181 : decode c_Expander_expandLine 181 = .ok (.if_icmp .ne 17, 3) := by decide +kernel
theorem d_Expander_expandLine_184 : decode c_Expander_expandLine 184 = .ok (.aload_n 0, 1) := by decide +kernel
theorem d_Expander_expandLine_185 : decode c_Expander_expandLine 185 = .ok (.getfield 22, 3) := by decide +kernel
theorem d_Expander_expandLine_188 : decode c_Expander_expandLine 188 = .ok (.aload_n 1, 1) := by decide +kernel
theorem d_Expander_expandLine_189 : decode c_Expander_expandLine 189 = .ok (.getfield 75, 3) := by decide +kernel
theorem d_Expander_expandLine_192 : decode c_Expander_expandLine 192 = .ok (.invokevirtual 94, 3) := by decide +kernel
theorem d_Expander_expandLine_195 : decode c_Expander_expandLine 195 = .ok (.goto 4, 3) := by decide +kernel
theorem d_Expander_expandLine_198 : decode c_Expander_expandLine 198 = .ok (.iconst 0, 1) := by decide +kernel
theorem d_Expander_expandLine_199 : decode c_Expander_expandLine 199 = .ok (.istore 5, 2) := by decide +kernel
theorem d_Expander_expandLine_201 : decode c_Expander_expandLine 201 = .ok (.aload_n 0, 1) := by decide +kernel
theorem d_Expander_expandLine_202 : decode c_Expander_expandLine 202 = .ok (.getfield 15, 3) := by decide +kernel
theorem d_Expander_expandLine_205 : decode c_Expander_expandLine 205 = .ok (.aload_n 1, 1) := by decide +kernel
theorem d_Expander_expandLine_206 : decode c_Expander_expandLine 206 = .ok (.iload 4, 2) := by decide +kernel
theorem d_Expander_expandLine_208 : decode c_Expander_expandLine 208 = .ok (.iload 5, 2) := by decide +kernel
theorem d_Expander_expandLine_210 : decode c_Expander_expandLine 210 = .ok (.aload_n 0, 1) := by decide +kernel
theorem d_Expander_expandLine_211 : decode c_Expander_expandLine 211 = .ok (.getfield 33, 3) := by decide +kernel
theorem d_Expander_expandLine_214 : decode c_Expander_expandLine 214 = .ok (.iload_n 3, 1) := by decide +kernel
theorem d_Expander_expandLine_215 : decode c_Expander_expandLine 215 = .ok (.invokevirtual 97, 3) := by decide +kernel
theorem d_Expander_expandLine_218 : decode c_Expander_expandLine 218 = .ok (.iconst 1, 1) := by decide +kernel
theorem d_Expander_expandLine_219 : decode c_Expander_expandLine 219 = .ok (.ireturn, 1) := by decide +kernel
theorem d_Expander_expandCall_0 : decode c_Expander_expandCall 0 = .ok (.iload_n 3, 1) := by decide +kernel
theorem d_Expander_expandCall_1 : decode c_Expander_expandCall 1 = .ok (.iconst 5, 1) := by decide +kernel
theorem d_Expander_expandCall_2 : decode c_Expander_expandCall 2 = .ok (.if_icmp .lt 9, 3) := by decide +kernel
theorem d_Expander_expandCall_5 : decode c_Expander_expandCall 5 = .ok (.aload_n 0, 1) := by decide +kernel
theorem d_Expander_expandCall_6 : decode c_Expander_expandCall 6 = .ok (.iconst 1, 1) := by decide +kernel
theorem d_Expander_expandCall_7 : decode c_Expander_expandCall 7 = .ok (.putfield 30, 3) := by decide +kernel
theorem d_Expander_expandCall_10 : decode c_Expander_expandCall 10 = .ok (.return_, 1) := by decide +kernel
theorem d_Expander_expandCall_11 : decode c_Expander_expandCall 11 = .ok (.aload_n 0, 1) := by decide +kernel
theorem d_Expander_expandCall_12 : decode c_Expander_expandCall 12 = .ok (.iload_n 1, 1) := by decide +kernel
theorem d_Expander_expandCall_13 : decode c_Expander_expandCall 13 = .ok (.iload_n 2, 1) := by decide +kernel
theorem d_Expander_expandCall_14 : decode c_Expander_expandCall 14 = .ok (.iload_n 3, 1) := by decide +kernel
theorem d_Expander_expandCall_15 : decode c_Expander_expandCall 15 = .ok (.iconst 1, 1) := by decide +kernel
theorem d_Expander_expandCall_16 : decode c_Expander_expandCall 16 = .ok (.iadd, 1) := by decide +kernel
theorem d_Expander_expandCall_17 : decode c_Expander_expandCall 17 = .ok (.invokevirtual 101, 3) := by decide +kernel
theorem d_Expander_expandCall_20 : decode c_Expander_expandCall 20 = .ok (.return_, 1) := by decide +kernel
theorem d_Expander_goesOn_0 : decode c_Expander_goesOn 0 = .ok (.aload_n 0, 1) := by decide +kernel
theorem d_Expander_goesOn_1 : decode c_Expander_goesOn 1 = .ok (.getfield 22, 3) := by decide +kernel
theorem d_Expander_goesOn_4 : decode c_Expander_goesOn 4 = .ok (.aload_n 1, 1) := by decide +kernel
theorem d_Expander_goesOn_5 : decode c_Expander_goesOn 5 = .ok (.getfield 75, 3) := by decide +kernel
theorem d_Expander_goesOn_8 : decode c_Expander_goesOn 8 = .ok (.invokevirtual 104, 3) := by decide +kernel
theorem d_Expander_goesOn_11 : decode c_Expander_goesOn 11 = .ok (.ifCond .eq 17, 3) := by decide +kernel
theorem d_Expander_goesOn_14 : decode c_Expander_goesOn 14 = .ok (.aload_n 0, 1) := by decide +kernel
theorem d_Expander_goesOn_15 : decode c_Expander_goesOn 15 = .ok (.getfield 22, 3) := by decide +kernel
theorem d_Expander_goesOn_18 : decode c_Expander_goesOn 18 = .ok (.aload_n 1, 1) := by decide +kernel
theorem d_Expander_goesOn_19 : decode c_Expander_goesOn 19 = .ok (.getfield 108, 3) := by decide +kernel
theorem d_Expander_goesOn_22 : decode c_Expander_goesOn 22 = .ok (.invokevirtual 104, 3) := by decide +kernel
theorem d_Expander_goesOn_25 : decode c_Expander_goesOn 25 = .ok (.ifCond .ne 10, 3) := by decide +kernel
theorem d_Expander_goesOn_28 : decode c_Expander_goesOn 28 = .ok (.aload_n 0, 1) := by decide +kernel
theorem d_Expander_goesOn_29 : decode c_Expander_goesOn 29 = .ok (.iconst 3, 1) := by decide +kernel
theorem d_Expander_goesOn_30 : decode c_Expander_goesOn 30 = .ok (.putfield 30, 3) := by decide +kernel
theorem d_Expander_goesOn_33 : decode c_Expander_goesOn 33 = .ok (.iconst 1, 1) := by decide +kernel
theorem d_Expander_goesOn_34 : decode c_Expander_goesOn 34 = .ok (.ireturn, 1) := by decide +kernel
theorem d_Expander_goesOn_35 : decode c_Expander_goesOn 35 = .ok (.iload_n 2, 1) := by decide +kernel
theorem d_Expander_goesOn_36 : decode c_Expander_goesOn 36 = .ok (.aload_n 0, 1) := by decide +kernel
theorem d_Expander_goesOn_37 : decode c_Expander_goesOn 37 = .ok (.getfield 22, 3) := by decide +kernel
theorem d_Expander_goesOn_40 : decode c_Expander_goesOn 40 = .ok (.aload_n 1, 1) := by decide +kernel
theorem d_Expander_goesOn_41 : decode c_Expander_goesOn 41 = .ok (.getfield 75, 3) := by decide +kernel
theorem d_Expander_goesOn_44 : decode c_Expander_goesOn 44 = .ok (.invokevirtual 94, 3) := by decide +kernel
theorem d_Expander_goesOn_47 : decode c_Expander_goesOn 47 = .ok (.iadd, 1) := by decide +kernel
theorem d_Expander_goesOn_48 : decode c_Expander_goesOn 48 = .ok (.aload_n 0, 1) := by decide +kernel
theorem d_Expander_goesOn_49 : decode c_Expander_goesOn 49 = .ok (.getfield 22, 3) := by decide +kernel
theorem d_Expander_goesOn_52 : decode c_Expander_goesOn 52 = .ok (.aload_n 1, 1) := by decide +kernel
theorem d_Expander_goesOn_53 : decode c_Expander_goesOn 53 = .ok (.getfield 108, 3) := by decide +kernel
theorem d_Expander_goesOn_56 : decode c_Expander_goesOn 56 = .ok (.invokevirtual 94, 3) := by decide +kernel
theorem d_Expander_goesOn_59 : decode c_Expander_goesOn 59 = .ok (.isub, 1) := by decide +kernel
theorem d_Expander_goesOn_60 : decode c_Expander_goesOn 60 = .ok (.ifCond .le 7, 3) := by decide +kernel
theorem d_Expander_goesOn_63 : decode c_Expander_goesOn 63 = .ok (.iconst 1, 1) := by decide +kernel
theorem d_Expander_goesOn_64 : decode c_Expander_goesOn 64 = .ok (.goto 4, 3) := by decide +kernel
theorem d_Expander_goesOn_67 : decode c_Expander_goesOn 67 = .ok (.iconst 0, 1) := by decide +kernel
theorem d_Expander_goesOn_68 : decode c_Expander_goesOn 68 = .ok (.ireturn, 1) := by decide +kernel
theorem d_Expander_expandLabel_0 : decode c_Expander_expandLabel 0 = .ok (.aload_n 0, 1) := by decide +kernel
theorem d_Expander_expandLabel_1 : decode c_Expander_expandLabel 1 = .ok (.getfield 22, 3) := by decide +kernel
theorem d_Expander_expandLabel_4 : decode c_Expander_expandLabel 4 = .ok (.iload_n 1, 1) := by decide +kernel
theorem d_Expander_expandLabel_5 : decode c_Expander_expandLabel 5 = .ok (.invokevirtual 111, 3) := by decide +kernel
theorem d_Expander_expandLabel_8 : decode c_Expander_expandLabel 8 = .ok (.ifCond .ne 14, 3) := by decide +kernel
theorem d_Expander_expandLabel_11 : decode c_Expander_expandLabel 11 = .ok (.aload_n 0, 1) := by decide +kernel
theorem d_Expander_expandLabel_12 : decode c_Expander_expandLabel 12 = .ok (.getfield 22, 3) := by decide +kernel
theorem d_Expander_expandLabel_15 : decode c_Expander_expandLabel 15 = .ok (.iload_n 1, 1) := by decide +kernel
theorem d_Expander_expandLabel_16 : decode c_Expander_expandLabel 16 = .ok (.invokevirtual 114, 3) := by decide +kernel
theorem d_Expander_expandLabel_19 : decode c_Expander_expandLabel 19 = .ok (.ifCond .eq 9, 3) := by decide +kernel
theorem d_Expander_expandLabel_22 : decode c_Expander_expandLabel 22 = .ok (.aload_n 0, 1) := by decide +kernel
theorem d_Expander_expandLabel_23 : decode c_Expander_expandLabel 23 = .ok (.iconst 4, 1) := by decide +kernel
theorem d_Expander_expandLabel_24 : decode c_Expander_expandLabel 24 = .ok (.putfield 30, 3) := by decide +kernel
theorem d_Expander_expandLabel_27 : decode c_Expander_expandLabel 27 = .ok (.return_, 1) := by decide +kernel
theorem d_Expander_expandLabel_28 : decode c_Expander_expandLabel 28 = .ok (.aload_n 0, 1) := by decide +kernel
theorem d_Expander_expandLabel_29 : decode c_Expander_expandLabel 29 = .ok (.getfield 22, 3) := by decide +kernel
theorem d_Expander_expandLabel_32 : decode c_Expander_expandLabel 32 = .ok (.iload_n 1, 1) := by decide +kernel
theorem d_Expander_expandLabel_33 : decode c_Expander_expandLabel 33 = .ok (.invokevirtual 117, 3) := by decide +kernel
theorem d_Expander_expandLabel_36 : decode c_Expander_expandLabel 36 = .ok (.return_, 1) := by decide +kernel
theorem d_Expander_expandSet_0 : decode c_Expander_expandSet 0 = .ok (.aload_n 0, 1) := by decide +kernel
theorem d_Expander_expandSet_1 : decode c_Expander_expandSet 1 = .ok (.getfield 22, 3) := by decide +kernel
theorem d_Expander_expandSet_4 : decode c_Expander_expandSet 4 = .ok (.aload_n 1, 1) := by decide +kernel
theorem d_Expander_expandSet_5 : decode c_Expander_expandSet 5 = .ok (.getfield 108, 3) := by decide +kernel
theorem d_Expander_expandSet_8 : decode c_Expander_expandSet 8 = .ok (.invokevirtual 104, 3) := by decide +kernel
theorem d_Expander_expandSet_11 : decode c_Expander_expandSet 11 = .ok (.ifCond .ne 11, 3) := by decide +kernel
theorem d_Expander_expandSet_14 : decode c_Expander_expandSet 14 = .ok (.aload_n 0, 1) := by decide +kernel
theorem d_Expander_expandSet_15 : decode c_Expander_expandSet 15 = .ok (.iconst 3, 1) := by decide +kernel
theorem d_Expander_expandSet_16 : decode c_Expander_expandSet 16 = .ok (.putfield 30, 3) := by decide +kernel
theorem d_Expander_expandSet_19 : decode c_Expander_expandSet 19 = .ok (.goto 49, 3) := by decide +kernel
theorem d_Expander_expandSet_22 : decode c_Expander_expandSet 22 = .ok (.aload_n 0, 1) := by decide +kernel
theorem d_Expander_expandSet_23 : decode c_Expander_expandSet 23 = .ok (.getfield 22, 3) := by decide +kernel
theorem d_Expander_expandSet_26 : decode c_Expander_expandSet 26 = .ok (.aload_n 1, 1) := by decide +kernel
theorem d_Expander_expandSet_27 : decode c_Expander_expandSet 27 = .ok (.getfield 75, 3) := by decide +kernel
theorem d_Expander_expandSet_30 : decode c_Expander_expandSet 30 = .ok (.invokevirtual 111, 3) := by decide +kernel
theorem d_Expander_expandSet_33 : decode c_Expander_expandSet 33 = .ok (.ifCond .eq 11, 3) := by decide +kernel
theorem d_Expander_expandSet_36 : decode c_Expander_expandSet 36 = .ok (.aload_n 0, 1) := by decide +kernel
theorem d_Expander_expandSet_37 : decode c_Expander_expandSet 37 = .ok (.iconst 4, 1) := by decide +kernel
theorem d_Expander_expandSet_38 : decode c_Expander_expandSet 38 = .ok (.putfield 30, 3) := by decide +kernel
theorem d_Expander_expandSet_41 : decode c_Expander_expandSet 41 = .ok (.goto 27, 3) := by decide +kernel
theorem d_Expander_expandSet_44 : decode c_Expander_expandSet 44 = .ok (.aload_n 0, 1) := by decide +kernel
theorem d_Expander_expandSet_45 : decode c_Expander_expandSet 45 = .ok (.getfield 22, 3) := by decide +kernel
theorem d_Expander_expandSet_48 : decode c_Expander_expandSet 48 = .ok (.aload_n 1, 1) := by decide +kernel
theorem d_Expander_expandSet_49 : decode c_Expander_expandSet 49 = .ok (.getfield 75, 3) := by decide +kernel
theorem d_Expander_expandSet_52 : decode c_Expander_expandSet 52 = .ok (.aload_n 0, 1) := by decide +kernel
theorem d_Expander_expandSet_53 : decode c_Expander_expandSet 53 = .ok (.getfield 22, 3) := by decide +kernel
theorem d_Expander_expandSet_56 : decode c_Expander_expandSet 56 = .ok (.aload_n 1, 1) := by decide +kernel
theorem d_Expander_expandSet_57 : decode c_Expander_expandSet 57 = .ok (.getfield 108, 3) := by decide +kernel
theorem d_Expander_expandSet_60 : decode c_Expander_expandSet 60 = .ok (.invokevirtual 94, 3) := by decide +kernel
theorem d_Expander_expandSet_63 : decode c_Expander_expandSet 63 = .ok (.iload_n 2, 1) := by decide +kernel
theorem d_Expander_expandSet_64 : decode c_Expander_expandSet 64 = .ok (.iadd, 1) := by decide +kernel
theorem d_Expander_expandSet_65 : decode c_Expander_expandSet 65 = .ok (.invokevirtual 120, 3) := by decide +kernel
theorem d_Expander_expandSet_68 : decode c_Expander_expandSet 68 = .ok (.return_, 1) := by decide +kernel
theorem d_Item_init_0 : decode c_Item_init 0 = .ok (.aload_n 0, 1) := by decide +kernel
theorem d_Item_init_1 : decode c_Item_init 1 = .ok (.invokespecial 3, 3) := by decide +kernel
theorem d_Item_init_4 : decode c_Item_init 4 = .ok (.return_, 1) := by decide +kernel
theorem d_Item_tell_0 : decode c_Item_tell 0 = .ok (.aload_n 0, 1) := by decide +kernel
theorem d_Item_tell_1 : decode c_Item_tell 1 = .ok (.aload_n 1, 1) := by decide +kernel
theorem d_Item_tell_2 : decode c_Item_tell 2 = .ok (.getfield 9, 3) := by decide +kernel
theorem d_Item_tell_5 : decode c_Item_tell 5 = .ok (.putfield 15, 3) := by decide +kernel
theorem d_Item_tell_8 : decode c_Item_tell 8 = .ok (.aload_n 0, 1) := by decide +kernel
theorem d_Item_tell_9 : decode c_Item_tell 9 = .ok (.aload_n 1, 1) := by decide +kernel
theorem d_Item_tell_10 : decode c_Item_tell 10 = .ok (.getfield 18, 3) := by decide +kernel
theorem d_Item_tell_13 : decode c_Item_tell 13 = .ok (.putfield 21, 3) := by decide +kernel
theorem d_Item_tell_16 : decode c_Item_tell 16 = .ok (.aload_n 0, 1) := by decide +kernel
theorem d_Item_tell_17 : decode c_Item_tell 17 = .ok (.aload_n 1, 1) := by decide +kernel
theorem d_Item_tell_18 : decode c_Item_tell 18 = .ok (.getfield 22, 3) := by decide +kernel
theorem d_Item_tell_21 : decode c_Item_tell 21 = .ok (.putfield 25, 3) := by decide +kernel
theorem d_Item_tell_24 : decode c_Item_tell 24 = .ok (.aload_n 0, 1) := by decide +kernel
theorem d_Item_tell_25 : decode c_Item_tell 25 = .ok (.iload_n 2, 1) := by decide +kernel
theorem d_Item_tell_26 : decode c_Item_tell 26 = .ok (.putfield 26, 3) := by decide +kernel
theorem d_Item_tell_29 : decode c_Item_tell 29 = .ok (.aload_n 0, 1) := by decide +kernel
theorem d_Item_tell_30 : decode c_Item_tell 30 = .ok (.iload_n 3, 1) := by decide +kernel
theorem d_Item_tell_31 : decode c_Item_tell 31 = .ok (.putfield 29, 3) := by decide +kernel
theorem d_Item_tell_34 : decode c_Item_tell 34 = .ok (.aload_n 0, 1) := by decide +kernel
theorem d_Item_tell_35 : decode c_Item_tell 35 = .ok (.iload 4, 2) := by decide +kernel
theorem d_Item_tell_37 : decode c_Item_tell 37 = .ok (.putfield 32, 3) := by decide +kernel
theorem d_Item_tell_40 : decode c_Item_tell 40 = .ok (.aload_n 0, 1) := by decide +kernel
theorem d_Item_tell_41 : decode c_Item_tell 41 = .ok (.iload 5, 2) := by decide +kernel
theorem d_Item_tell_43 : decode c_Item_tell 43 = .ok (.putfield 35, 3) := by decide +kernel
theorem d_Item_tell_46 : decode c_Item_tell 46 = .ok (.aload_n 0, 1) := by decide +kernel
theorem d_Item_tell_47 : decode c_Item_tell 47 = .ok (.aconst_null, 1) := by decide +kernel
theorem d_Item_tell_48 : decode c_Item_tell 48 = .ok (.putfield 38, 3) := by decide +kernel
theorem d_Item_tell_51 : decode c_Item_tell 51 = .ok (.aload_n 0, 1) := by decide +kernel
theorem d_Item_tell_52 : decode c_Item_tell 52 = .ok (.aconst_null, 1) := by decide +kernel
theorem d_Item_tell_53 : decode c_Item_tell 53 = .ok (.putfield 42, 3) := by decide +kernel
theorem d_Item_tell_56 : decode c_Item_tell 56 = .ok (.aload_n 0, 1) := by decide +kernel
theorem d_Item_tell_57 : decode c_Item_tell 57 = .ok (.aconst_null, 1) := by decide +kernel
theorem d_Item_tell_58 : decode c_Item_tell 58 = .ok (.putfield 45, 3) := by decide +kernel
theorem d_Item_tell_61 : decode c_Item_tell 61 = .ok (.aload_n 0, 1) := by decide +kernel
theorem d_Item_tell_62 : decode c_Item_tell 62 = .ok (.iconst 0, 1) := by decide +kernel
theorem d_Item_tell_63 : decode c_Item_tell 63 = .ok (.putfield 48, 3) := by decide +kernel
theorem d_Item_tell_66 : decode c_Item_tell 66 = .ok (.aload_n 0, 1) := by decide +kernel
theorem d_Item_tell_67 : decode c_Item_tell 67 = .ok (.iconst 0, 1) := by decide +kernel
theorem d_Item_tell_68 : decode c_Item_tell 68 = .ok (.putfield 51, 3) := by decide +kernel
theorem d_Item_tell_71 : decode c_Item_tell 71 = .ok (.aload_n 0, 1) := by decide +kernel
theorem d_Item_tell_72 : decode c_Item_tell 72 = .ok (.iconst 0, 1) := by decide +kernel
theorem d_Item_tell_73 : decode c_Item_tell 73 = .ok (.putfield 54, 3) := by decide +kernel
theorem d_Item_tell_76 : decode c_Item_tell 76 = .ok (.aload_n 0, 1) := by decide +kernel
theorem d_Item_tell_77 : decode c_Item_tell 77 = .ok (.iconst 0, 1) := by decide +kernel
theorem d_Item_tell_78 : decode c_Item_tell 78 = .ok (.putfield 57, 3) := by decide +kernel
theorem d_Item_tell_81 : decode c_Item_tell 81 = .ok (.aload_n 0, 1) := by decide +kernel
theorem d_Item_tell_82 : decode c_Item_tell 82 = .ok (.iconst 0, 1) := by decide +kernel
theorem d_Item_tell_83 : decode c_Item_tell 83 = .ok (.putfield 60, 3) := by decide +kernel
theorem d_Item_tell_86 : decode c_Item_tell 86 = .ok (.aload_n 0, 1) := by decide +kernel
theorem d_Item_tell_87 : decode c_Item_tell 87 = .ok (.iconst 0, 1) := by decide +kernel
theorem d_Item_tell_88 : decode c_Item_tell 88 = .ok (.putfield 64, 3) := by decide +kernel
theorem d_Item_tell_91 : decode c_Item_tell 91 = .ok (.return_, 1) := by decide +kernel
theorem d_Item_isBranch_0 : decode c_Item_isBranch 0 = .ok (.aload_n 0, 1) := by decide +kernel
theorem d_Item_isBranch_1 : decode c_Item_isBranch 1 = .ok (.getfield 15, 3) := by decide +kernel
theorem d_Item_isBranch_4 : decode c_Item_isBranch 4 = .ok (.iconst 3, 1) := by decide +kernel
theorem d_Item_isBranch_5 : decode c_Item_isBranch 5 = .ok (.if_icmp .eq 11, 3) := by decide +kernel
theorem d_Item_isBranch_8 : decode c_Item_isBranch 8 = .ok (.aload_n 0, 1) := by decide +kernel
theorem d_Item_isBranch_9 : decode c_Item_isBranch 9 = .ok (.getfield 15, 3) := by decide +kernel
theorem d_Item_isBranch_12 : decode c_Item_isBranch 12 = .ok (.iconst 4, 1) := by decide +kernel
theorem d_Item_isBranch_13 : decode c_Item_isBranch 13 = .ok (.if_icmp .ne 7, 3) := by decide +kernel
theorem d_Item_isBranch_16 : decode c_Item_isBranch 16 = .ok (.iconst 1, 1) := by decide +kernel
theorem d_Item_isBranch_17 : decode c_Item_isBranch 17 = .ok (.goto 4, 3) := by decide +kernel
theorem d_Item_isBranch_20 : decode c_Item_isBranch 20 = .ok (.iconst 0, 1) := by decide +kernel
theorem d_Item_isBranch_21 : decode c_Item_isBranch 21 = .ok (.ireturn, 1) := by decide +kernel
theorem d_Item_hasValue_0 : decode c_Item_hasValue 0 = .ok (.aload_n 0, 1) := by decide +kernel
theorem d_Item_hasValue_1 : decode c_Item_hasValue 1 = .ok (.getfield 15, 3) := by decide +kernel
theorem d_Item_hasValue_4 : decode c_Item_hasValue 4 = .ok (.iconst 2, 1) := by decide +kernel
theorem d_Item_hasValue_5 : decode c_Item_hasValue 5 = .ok (.if_icmp .eq 10, 3) := by decide +kernel
theorem d_Item_hasValue_8 : decode c_Item_hasValue 8 = .ok (.aload_n 0, 1) := by decide +kernel
theorem d_Item_hasValue_9 : decode c_Item_hasValue 9 = .ok (.invokevirtual 67, 3) := by decide +kernel
theorem d_Item_hasValue_12 : decode c_Item_hasValue 12 = .ok (.ifCond .eq 7, 3) := by decide +kernel
theorem d_Item_hasValue_15 : decode c_Item_hasValue 15 = .ok (.iconst 1, 1) := by decide +kernel
theorem d_Item_hasValue_16 : decode c_Item_hasValue 16 = .ok (.goto 4, 3) := by decide +kernel
theorem d_Item_hasValue_19 : decode c_Item_hasValue 19 = .ok (.iconst 0, 1) := by decide +kernel
theorem d_Item_hasValue_20 : decode c_Item_hasValue 20 = .ok (.ireturn, 1) := by decide +kernel
theorem d_Item_valueHere_0 : decode c_Item_valueHere 0 = .ok (.aload_n 0, 1) := by decide +kernel
theorem d_Item_valueHere_1 : decode c_Item_valueHere 1 = .ok (.getfield 38, 3) := by decide +kernel
theorem d_Item_valueHere_4 : decode c_Item_valueHere 4 = .ok (.ifnonnull 7, 3) := by decide +kernel
theorem d_Item_valueHere_7 : decode c_Item_valueHere 7 = .ok (.iconst 0, 1) := by decide +kernel
theorem d_Item_valueHere_8 : decode c_Item_valueHere 8 = .ok (.goto 10, 3) := by decide +kernel
theorem d_Item_valueHere_11 : decode c_Item_valueHere 11 = .ok (.aload_n 0, 1) := by decide +kernel
theorem d_Item_valueHere_12 : decode c_Item_valueHere 12 = .ok (.getfield 38, 3) := by decide +kernel
theorem d_Item_valueHere_15 : decode c_Item_valueHere 15 = .ok (.getfield 29, 3) := by decide +kernel
theorem d_Item_valueHere_18 : decode c_Item_valueHere 18 = .ok (.istore_n 1, 1) := by decide +kernel
theorem d_Item_valueHere_19 : decode c_Item_valueHere 19 = .ok (.aload_n 0, 1) := by decide +kernel
theorem d_Item_valueHere_20 : decode c_Item_valueHere 20 = .ok (.getfield 42, 3) := by decide +kernel
theorem d_Item_valueHere_23 : decode c_Item_valueHere 23 = .ok (.ifnonnull 7, 3) := by decide +kernel
theorem d_Item_valueHere_26 : decode c_Item_valueHere 26 = .ok (.iconst 0, 1) := by decide +kernel
theorem d_Item_valueHere_27 : decode c_Item_valueHere 27 = .ok (.goto 10, 3) := by decide +kernel
theorem d_Item_valueHere_30 : decode c_Item_valueHere 30 = .ok (.aload_n 0, 1) := by decide +kernel
theorem d_Item_valueHere_31 : decode c_Item_valueHere 31 = .ok (.getfield 42, 3) := by decide +kernel
theorem d_Item_valueHere_34 : decode c_Item_valueHere 34 = .ok (.getfield 29, 3) := by decide +kernel
theorem d_Item_valueHere_37 : decode c_Item_valueHere 37 = .ok (.istore_n 2, 1) := by decide +kernel
theorem d_Item_valueHere_38 : decode c_Item_valueHere 38 = .ok (.aload_n 0, 1) := by decide +kernel
theorem d_Item_valueHere_39 : decode c_Item_valueHere 39 = .ok (.getfield 26, 3) := by decide +kernel
theorem d_Item_valueHere_42 : decode c_Item_valueHere 42 = .ok (.iload_n 1, 1) := by decide +kernel
theorem d_Item_valueHere_43 : decode c_Item_valueHere 43 = .ok (.iadd, 1) := by decide +kernel
theorem d_Item_valueHere_44 : decode c_Item_valueHere 44 = .ok (.iload_n 2, 1) := by decide +kernel
theorem d_Item_valueHere_45 : decode c_Item_valueHere 45 = .ok (.isub, 1) := by decide +kernel
theorem d_Item_valueHere_46 : decode c_Item_valueHere 46 = .ok (.ireturn, 1) := by decide +kernel
theorem d_Item_distanceHere_0 : decode c_Item_distanceHere 0 = .ok (.aload_n 0, 1) := by decide +kernel
theorem d_Item_distanceHere_1 : decode c_Item_distanceHere 1 = .ok (.invokevirtual 71, 3) := by decide +kernel
theorem d_Item_distanceHere_4 : decode c_Item_distanceHere 4 = .ok (.aload_n 0, 1) := by decide +kernel
theorem d_Item_distanceHere_5 : decode c_Item_distanceHere 5 = .ok (.getfield 54, 3) := by decide +kernel
theorem d_Item_distanceHere_8 : decode c_Item_distanceHere 8 = .ok (.iconst 1, 1) := by decide +kernel
theorem d_Item_distanceHere_9 : decode c_Item_distanceHere 9 = .ok (.iadd, 1) := by decide +kernel
theorem d_Item_distanceHere_10 : decode c_Item_distanceHere 10 = .ok (.isub, 1) := by decide +kernel
theorem d_Item_distanceHere_11 : decode c_Item_distanceHere 11 = .ok (.ireturn, 1) := by decide +kernel
theorem d_Item_isNear_0 : decode c_Item_isNear 0 = .ok (.aload_n 0, 1) := by decide +kernel
theorem d_Item_isNear_1 : decode c_Item_isNear 1 = .ok (.invokevirtual 75, 3) := by decide +kernel
theorem d_Item_isNear_4 : decode c_Item_isNear 4 = .ok (.istore_n 1, 1) := by decide +kernel
theorem d_Item_isNear_5 : decode c_Item_isNear 5 = .ok (.iload_n 1, 1) := by decide +kernel
theorem d_Item_isNear_6 : decode c_Item_isNear 6 = .ok (.bipush (-8), 2) := by decide +kernel
theorem d_Item_isNear_8 : decode c_Item_isNear 8 = .ok (.if_icmp .lt 13, 3) := by decide +kernel
theorem d_Item_isNear_11 : decode c_Item_isNear 11 = .ok (.iload_n 1, 1) := by decide +kernel
theorem d_Item_isNear_12 : decode c_Item_isNear 12 = .ok (.bipush 7, 2) := by decide +kernel
theorem d_Item_isNear_14 : decode c_Item_isNear 14 = .ok (.if_icmp .gt 7, 3) := by decide +kernel
theorem d_Item_isNear_17 : decode c_Item_isNear 17 = .ok (.iconst 1, 1) := by decide +kernel
theorem d_Item_isNear_18 : decode c_Item_isNear 18 = .ok (.goto 4, 3) := by decide +kernel
theorem d_Item_isNear_21 : decode c_Item_isNear 21 = .ok (.iconst 0, 1) := by decide +kernel
theorem d_Item_isNear_22 : decode c_Item_isNear 22 = .ok (.ireturn, 1) := by decide +kernel
theorem d_Item_aboveLoad_0 : decode c_Item_aboveLoad 0 = .ok (.aload_n 0, 1) := by decide +kernel
theorem d_Item_aboveLoad_1 : decode c_Item_aboveLoad 1 = .ok (.getfield 45, 3) := by decide +kernel
theorem d_Item_aboveLoad_4 : decode c_Item_aboveLoad 4 = .ok (.ifnonnull 7, 3) := by decide +kernel
theorem d_Item_aboveLoad_7 : decode c_Item_aboveLoad 7 = .ok (.iconst 0, 1) := by decide +kernel
theorem d_Item_aboveLoad_8 : decode c_Item_aboveLoad 8 = .ok (.goto 20, 3) := by decide +kernel
theorem d_Item_aboveLoad_11 : decode c_Item_aboveLoad 11 = .ok (.aload_n 0, 1) := by decide +kernel
theorem d_Item_aboveLoad_12 : decode c_Item_aboveLoad 12 = .ok (.getfield 45, 3) := by decide +kernel
theorem d_Item_aboveLoad_15 : decode c_Item_aboveLoad 15 = .ok (.getfield 54, 3) := by decide +kernel
theorem d_Item_aboveLoad_18 : decode c_Item_aboveLoad 18 = .ok (.aload_n 0, 1) := by decide +kernel
theorem d_Item_aboveLoad_19 : decode c_Item_aboveLoad 19 = .ok (.getfield 48, 3) := by decide +kernel
theorem d_Item_aboveLoad_22 : decode c_Item_aboveLoad 22 = .ok (.iadd, 1) := by decide +kernel
theorem d_Item_aboveLoad_23 : decode c_Item_aboveLoad 23 = .ok (.aload_n 0, 1) := by decide +kernel
theorem d_Item_aboveLoad_24 : decode c_Item_aboveLoad 24 = .ok (.getfield 54, 3) := by decide +kernel
theorem d_Item_aboveLoad_27 : decode c_Item_aboveLoad 27 = .ok (.isub, 1) := by decide +kernel
theorem d_Item_aboveLoad_28 : decode c_Item_aboveLoad 28 = .ok (.ireturn, 1) := by decide +kernel
theorem d_Item_canBeFollowed_0 : decode c_Item_canBeFollowed 0 = .ok (.aload_n 0, 1) := by decide +kernel
theorem d_Item_canBeFollowed_1 : decode c_Item_canBeFollowed 1 = .ok (.getfield 15, 3) := by decide +kernel
theorem d_Item_canBeFollowed_4 : decode c_Item_canBeFollowed 4 = .ok (.bipush 6, 2) := by decide +kernel
theorem d_Item_canBeFollowed_6 : decode c_Item_canBeFollowed 6 = .ok (.if_icmp .eq 12, 3) := by decide +kernel
theorem d_Item_canBeFollowed_9 : decode c_Item_canBeFollowed 9 = .ok (.aload_n 0, 1) := by decide +kernel
theorem d_Item_canBeFollowed_10 : decode c_Item_canBeFollowed 10 = .ok (.getfield 15, 3) := by decide +kernel
theorem d_Item_canBeFollowed_13 : decode c_Item_canBeFollowed 13 = .ok (.bipush 7, 2) := by decide +kernel
theorem d_Item_canBeFollowed_15 : decode c_Item_canBeFollowed 15 = .ok (.if_icmp .ne 16, 3) := by decide +kernel
theorem d_Item_canBeFollowed_18 : decode c_Item_canBeFollowed 18 = .ok (.aload_n 0, 1) := by decide +kernel
theorem d_Item_canBeFollowed_19 : decode c_Item_canBeFollowed 19 = .ok (.getfield 57, 3) := by decide +kernel
theorem d_Item_canBeFollowed_22 : decode c_Item_canBeFollowed 22 = .ok (.ifCond .ne 7, 3) := by decide +kernel
theorem d_Item_canBeFollowed_25 : decode c_Item_canBeFollowed 25 = .ok (.iconst 1, 1) := by decide +kernel
theorem d_Item_canBeFollowed_26 : decode c_Item_canBeFollowed 26 = .ok (.goto 4, 3) := by decide +kernel
theorem d_Item_canBeFollowed_29 : decode c_Item_canBeFollowed 29 = .ok (.iconst 0, 1) := by decide +kernel
theorem d_Item_canBeFollowed_30 : decode c_Item_canBeFollowed 30 = .ok (.ireturn, 1) := by decide +kernel
theorem d_Item_canBeFollowed_31 : decode c_Item_canBeFollowed 31 = .ok (.aload_n 0, 1) := by decide +kernel
theorem d_Item_canBeFollowed_32 : decode c_Item_canBeFollowed 32 = .ok (.getfield 15, 3) := by decide +kernel
theorem d_Item_canBeFollowed_35 : decode c_Item_canBeFollowed 35 = .ok (.iconst 2, 1) := by decide +kernel
theorem d_Item_canBeFollowed_36 : decode c_Item_canBeFollowed 36 = .ok (.if_icmp .eq 7, 3) := by decide +kernel
theorem d_Item_canBeFollowed_39 : decode c_Item_canBeFollowed 39 = .ok (.iconst 1, 1) := by decide +kernel
theorem d_Item_canBeFollowed_40 : decode c_Item_canBeFollowed 40 = .ok (.goto 4, 3) := by decide +kernel
theorem d_Item_canBeFollowed_43 : decode c_Item_canBeFollowed 43 = .ok (.iconst 0, 1) := by decide +kernel
theorem d_Item_canBeFollowed_44 : decode c_Item_canBeFollowed 44 = .ok (.ireturn, 1) := by decide +kernel
theorem d_Item_sizeAt_0 : decode c_Item_sizeAt 0 = .ok (.aload_n 0, 1) := by decide +kernel
theorem d_Item_sizeAt_1 : decode c_Item_sizeAt 1 = .ok (.getfield 15, 3) := by decide +kernel
theorem d_Item_sizeAt_4 : decode c_Item_sizeAt 4 = .ok (.tableswitch 101 2 7 #[40, 42, 55, 40, 68, 73], 40) := by decide +kernel
theorem d_Item_sizeAt_44 : decode c_Item_sizeAt 44 = .ok (.iconst 1, 1) := by decide +kernel
theorem d_Item_sizeAt_45 : decode c_Item_sizeAt 45 = .ok (.ireturn, 1) := by decide +kernel
theorem d_Item_sizeAt_46 : decode c_Item_sizeAt 46 = .ok (.aload_n 0, 1) := by decide +kernel
theorem d_Item_sizeAt_47 : decode c_Item_sizeAt 47 = .ok (.getfield 60, 3) := by decide +kernel
theorem d_Item_sizeAt_50 : decode c_Item_sizeAt 50 = .ok (.ifCond .eq 7, 3) := by decide +kernel
theorem d_Item_sizeAt_53 : decode c_Item_sizeAt 53 = .ok (.iconst 2, 1) := by decide +kernel
theorem d_Item_sizeAt_54 : decode c_Item_sizeAt 54 = .ok (.goto 4, 3) := by decide +kernel
theorem d_Item_sizeAt_57 : decode c_Item_sizeAt 57 = .ok (.iconst 1, 1) := by decide +kernel
theorem d_Item_sizeAt_58 : decode c_Item_sizeAt 58 = .ok (.ireturn, 1) := by decide +kernel
theorem d_Item_sizeAt_59 : decode c_Item_sizeAt 59 = .ok (.aload_n 0, 1) := by decide +kernel
theorem d_Item_sizeAt_60 : decode c_Item_sizeAt 60 = .ok (.getfield 60, 3) := by decide +kernel
theorem d_Item_sizeAt_63 : decode c_Item_sizeAt 63 = .ok (.ifCond .eq 7, 3) := by decide +kernel
theorem d_Item_sizeAt_66 : decode c_Item_sizeAt 66 = .ok (.iconst 3, 1) := by decide +kernel
theorem d_Item_sizeAt_67 : decode c_Item_sizeAt 67 = .ok (.goto 4, 3) := by decide +kernel
theorem d_Item_sizeAt_70 : decode c_Item_sizeAt 70 = .ok (.iconst 1, 1) := by decide +kernel
theorem d_Item_sizeAt_71 : decode c_Item_sizeAt 71 = .ok (.ireturn, 1) := by decide +kernel
theorem d_Item_sizeAt_72 : decode c_Item_sizeAt 72 = .ok (.aload_n 0, 1) := by decide +kernel
theorem d_Item_sizeAt_73 : decode c_Item_sizeAt 73 = .ok (.getfield 51, 3) := by decide +kernel
theorem d_Item_sizeAt_76 : decode c_Item_sizeAt 76 = .ok (.ireturn, 1) := by decide +kernel
theorem d_Item_sizeAt_77 : decode c_Item_sizeAt 77 = .ok (.aload_n 0, 1) := by decide +kernel
theorem d_Item_sizeAt_78 : decode c_Item_sizeAt 78 = .ok (.getfield 26, 3) := by decide +kernel
theorem d_Item_sizeAt_81 : decode c_Item_sizeAt 81 = .ok (.ifCond .le 22, 3) := by decide +kernel
theorem d_Item_sizeAt_84 : decode c_Item_sizeAt 84 = .ok (.aload_n 0, 1) := by decide +kernel
theorem d_Item_sizeAt_85 : decode c_Item_sizeAt 85 = .ok (.getfield 26, 3) := by decide +kernel
theorem d_Item_sizeAt_88 : decode c_Item_sizeAt 88 = .ok (.iload_n 1, 1) := by decide +kernel
theorem d_Item_sizeAt_89 : decode c_Item_sizeAt 89 = .ok (.aload_n 0, 1) := by decide +kernel
theorem d_Item_sizeAt_90 : decode c_Item_sizeAt 90 = .ok (.getfield 26, 3) := by decide +kernel
theorem d_Item_sizeAt_93 : decode c_Item_sizeAt 93 = .ok (.irem, 1) := by decide +kernel
theorem d_Item_sizeAt_94 : decode c_Item_sizeAt 94 = .ok (.isub, 1) := by decide +kernel
theorem d_Item_sizeAt_95 : decode c_Item_sizeAt 95 = .ok (.aload_n 0, 1) := by decide +kernel
theorem d_Item_sizeAt_96 : decode c_Item_sizeAt 96 = .ok (.getfield 26, 3) := by decide +kernel
theorem d_Item_sizeAt_99 : decode c_Item_sizeAt 99 = .ok (.irem, 1) := by decide +kernel
theorem d_Item_sizeAt_100 : decode c_Item_sizeAt 100 = .ok (.goto 4, 3) := by decide +kernel
theorem d_Item_sizeAt_103 : decode c_Item_sizeAt 103 = .ok (.iconst 0, 1) := by decide +kernel
theorem d_Item_sizeAt_104 : decode c_Item_sizeAt 104 = .ok (.ireturn, 1) := by decide +kernel
theorem d_Item_sizeAt_105 : decode c_Item_sizeAt 105 = .ok (.iconst 0, 1) := by decide +kernel
theorem d_Item_sizeAt_106 : decode c_Item_sizeAt 106 = .ok (.ireturn, 1) := by decide +kernel
theorem d_Item_branchWord_0 : decode c_Item_branchWord 0 = .ok (.aload_n 0, 1) := by decide +kernel
theorem d_Item_branchWord_1 : decode c_Item_branchWord 1 = .ok (.getfield 60, 3) := by decide +kernel
theorem d_Item_branchWord_4 : decode c_Item_branchWord 4 = .ok (.ifCond .ne 26, 3) := by decide +kernel
theorem d_Item_branchWord_7 : decode c_Item_branchWord 7 = .ok (.aload_n 0, 1) := by decide +kernel
theorem d_Item_branchWord_8 : decode c_Item_branchWord 8 = .ok (.getfield 15, 3) := by decide +kernel
theorem d_Item_branchWord_11 : decode c_Item_branchWord 11 = .ok (.iconst 4, 1) := by decide +kernel
theorem d_Item_branchWord_12 : decode c_Item_branchWord 12 = .ok (.if_icmp .ne 9, 3) := by decide +kernel
theorem d_Item_branchWord_15 : decode c_Item_branchWord 15 = .ok (.sipush 4008, 3) := by decide +kernel
theorem d_Item_branchWord_18 : decode c_Item_branchWord 18 = .ok (.goto 6, 3) := by decide +kernel
theorem d_Item_branchWord_21 : decode c_Item_branchWord 21 = .ok (.sipush 3008, 3) := by decide +kernel
theorem d_Item_branchWord_24 : decode c_Item_branchWord 24 = .ok (.aload_n 0, 1) := by decide +kernel
theorem d_Item_branchWord_25 : decode c_Item_branchWord 25 = .ok (.invokevirtual 75, 3) := by decide +kernel
theorem d_Item_branchWord_28 : decode c_Item_branchWord 28 = .ok (.iadd, 1) := by decide +kernel
theorem d_Item_branchWord_29 : decode c_Item_branchWord 29 = .ok (.ireturn, 1) := by decide +kernel
theorem d_Item_branchWord_30 : decode c_Item_branchWord 30 = .ok (.aload_n 0, 1) := by decide +kernel
theorem d_Item_branchWord_31 : decode c_Item_branchWord 31 = .ok (.getfield 15, 3) := by decide +kernel
theorem d_Item_branchWord_34 : decode c_Item_branchWord 34 = .ok (.iconst 4, 1) := by decide +kernel
theorem d_Item_branchWord_35 : decode c_Item_branchWord 35 = .ok (.if_icmp .ne 9, 3) := by decide +kernel
theorem d_Item_branchWord_38 : decode c_Item_branchWord 38 = .ok (.iload_n 1, 1) := by decide +kernel
theorem d_Item_branchWord_39 : decode c_Item_branchWord 39 = .ok (.iconst 1, 1) := by decide +kernel
theorem d_Item_branchWord_40 : decode c_Item_branchWord 40 = .ok (.isub, 1) := by decide +kernel
theorem d_Item_branchWord_41 : decode c_Item_branchWord 41 = .ok (.goto 4, 3) := by decide +kernel
theorem d_Item_branchWord_44 : decode c_Item_branchWord 44 = .ok (.iload_n 1, 1) := by decide +kernel
theorem d_Item_branchWord_45 : decode c_Item_branchWord 45 = .ok (.istore_n 2, 1) := by decide +kernel
theorem d_Item_branchWord_46 : decode c_Item_branchWord 46 = .ok (.iload_n 2, 1) := by decide +kernel
theorem d_Item_branchWord_47 : decode c_Item_branchWord 47 = .ok (.ifCond .ge 7, 3) := by decide +kernel
theorem d_Item_branchWord_50 : decode c_Item_branchWord 50 = .ok (.sipush 4100, 3) := by decide +kernel
theorem d_Item_branchWord_53 : decode c_Item_branchWord 53 = .ok (.ireturn, 1) := by decide +kernel
theorem d_Item_branchWord_54 : decode c_Item_branchWord 54 = .ok (.iload_n 2, 1) := by decide +kernel
theorem d_Item_branchWord_55 : decode c_Item_branchWord 55 = .ok (.ifCond .ne 9, 3) := by decide +kernel
theorem d_Item_branchWord_58 : decode c_Item_branchWord 58 = .ok (.sipush 3100, 3) := by decide +kernel
theorem d_Item_branchWord_61 : decode c_Item_branchWord 61 = .ok (.goto 7, 3) := by decide +kernel
theorem d_Item_branchWord_64 : decode c_Item_branchWord 64 = .ok (.aload_n 0, 1) := by decide +kernel
theorem d_Item_branchWord_65 : decode c_Item_branchWord 65 = .ok (.invokevirtual 71, 3) := by decide +kernel
theorem d_Item_branchWord_68 : decode c_Item_branchWord 68 = .ok (.ireturn, 1) := by decide +kernel
theorem d_Item_shareOf_0 : decode c_Item_shareOf 0 = .ok (.iload_n 1, 1) := by decide +kernel
theorem d_Item_shareOf_1 : decode c_Item_shareOf 1 = .ok (.tableswitch 185 2 11 #[55, 57, 62, 75, 185, 88, 102, 120, 138, 154], 55) := by decide +kernel
theorem d_Item_shareOf_56 : decode c_Item_shareOf 56 = .ok (.iconst 1, 1) := by decide +kernel
theorem d_Item_shareOf_57 : decode c_Item_shareOf 57 = .ok (.ireturn, 1) := by decide +kernel
theorem d_Item_shareOf_58 : decode c_Item_shareOf 58 = .ok (.aload_n 0, 1) := by decide +kernel
theorem d_Item_shareOf_59 : decode c_Item_shareOf 59 = .ok (.getfield 57, 3) := by decide +kernel
theorem d_Item_shareOf_62 : decode c_Item_shareOf 62 = .ok (.ireturn, 1) := by decide +kernel
theorem d_Item_shareOf_63 : decode c_Item_shareOf 63 = .ok (.aload_n 0, 1) := by decide +kernel
theorem d_Item_shareOf_64 : decode c_Item_shareOf 64 = .ok (.invokevirtual 67, 3) := by decide +kernel
theorem d_Item_shareOf_67 : decode c_Item_shareOf 67 = .ok (.ifCond .eq 7, 3) := by decide +kernel
theorem d_Item_shareOf_70 : decode c_Item_shareOf 70 = .ok (.iconst 1, 1) := by decide +kernel
theorem d_Item_shareOf_71 : decode c_Item_shareOf 71 = .ok (.goto 4, 3) := by decide +kernel
theorem d_Item_shareOf_74 : decode c_Item_shareOf 74 = .ok (.iconst 0, 1) := by decide +kernel
theorem d_Item_shareOf_75 : decode c_Item_shareOf 75 = .ok (.ireturn, 1) := by decide +kernel
theorem d_Item_shareOf_76 : decode c_Item_shareOf 76 = .ok (.aload_n 0, 1) := by decide +kernel
theorem d_Item_shareOf_77 : decode c_Item_shareOf 77 = .ok (.getfield 60, 3) := by decide +kernel
theorem d_Item_shareOf_80 : decode c_Item_shareOf 80 = .ok (.ifCond .eq 7, 3) := by decide +kernel
theorem d_Item_shareOf_83 : decode c_Item_shareOf 83 = .ok (.iconst 1, 1) := by decide +kernel
theorem d_Item_shareOf_84 : decode c_Item_shareOf 84 = .ok (.goto 4, 3) := by decide +kernel
theorem d_Item_shareOf_87 : decode c_Item_shareOf 87 = .ok (.iconst 0, 1) := by decide +kernel
theorem d_Item_shareOf_88 : decode c_Item_shareOf 88 = .ok (.ireturn, 1) := by decide +kernel
theorem d_Item_shareOf_89 : decode c_Item_shareOf 89 = .ok (.aload_n 0, 1) := by decide +kernel
theorem d_Item_shareOf_90 : decode c_Item_shareOf 90 = .ok (.getfield 15, 3) := by decide +kernel
theorem d_Item_shareOf_93 : decode c_Item_shareOf 93 = .ok (.iconst 5, 1) := by decide +kernel
theorem d_Item_shareOf_94 : decode c_Item_shareOf 94 = .ok (.if_icmp .ne 7, 3) := by decide +kernel
theorem d_Item_shareOf_97 : decode c_Item_shareOf 97 = .ok (.iconst 1, 1) := by decide +kernel
theorem d_Item_shareOf_98 : decode c_Item_shareOf 98 = .ok (.goto 4, 3) := by decide +kernel
theorem d_Item_shareOf_101 : decode c_Item_shareOf 101 = .ok (.iconst 0, 1) := by decide +kernel
theorem d_Item_shareOf_102 : decode c_Item_shareOf 102 = .ok (.ireturn, 1) := by decide +kernel
theorem d_Item_shareOf_103 : decode c_Item_shareOf 103 = .ok (.aload_n 0, 1) := by decide +kernel
theorem d_Item_shareOf_104 : decode c_Item_shareOf 104 = .ok (.getfield 15, 3) := by decide +kernel
theorem d_Item_shareOf_107 : decode c_Item_shareOf 107 = .ok (.bipush 6, 2) := by decide +kernel
theorem d_Item_shareOf_109 : decode c_Item_shareOf 109 = .ok (.if_icmp .ne 10, 3) := by decide +kernel
theorem d_Item_shareOf_112 : decode c_Item_shareOf 112 = .ok (.aload_n 0, 1) := by decide +kernel
theorem d_Item_shareOf_113 : decode c_Item_shareOf 113 = .ok (.getfield 57, 3) := by decide +kernel
theorem d_Item_shareOf_116 : decode c_Item_shareOf 116 = .ok (.goto 4, 3) := by decide +kernel
theorem d_Item_shareOf_119 : decode c_Item_shareOf 119 = .ok (.iconst 0, 1) := by decide +kernel
theorem d_Item_shareOf_120 : decode c_Item_shareOf 120 = .ok (.ireturn, 1) := by decide +kernel
theorem d_Item_shareOf_121 : decode c_Item_shareOf 121 = .ok (.aload_n 0, 1) := by decide +kernel
theorem d_Item_shareOf_122 : decode c_Item_shareOf 122 = .ok (.getfield 15, 3) := by decide +kernel
theorem d_Item_shareOf_125 : decode c_Item_shareOf 125 = .ok (.bipush 7, 2) := by decide +kernel
theorem d_Item_shareOf_127 : decode c_Item_shareOf 127 = .ok (.if_icmp .ne 10, 3) := by decide +kernel
theorem d_Item_shareOf_130 : decode c_Item_shareOf 130 = .ok (.aload_n 0, 1) := by decide +kernel
theorem d_Item_shareOf_131 : decode c_Item_shareOf 131 = .ok (.getfield 57, 3) := by decide +kernel
theorem d_Item_shareOf_134 : decode c_Item_shareOf 134 = .ok (.goto 4, 3) := by decide +kernel
theorem d_Item_shareOf_137 : decode c_Item_shareOf 137 = .ok (.iconst 0, 1) := by decide +kernel
theorem d_Item_shareOf_138 : decode c_Item_shareOf 138 = .ok (.ireturn, 1) := by decide +kernel
theorem d_Item_shareOf_139 : decode c_Item_shareOf 139 = .ok (.aload_n 0, 1) := by decide +kernel
theorem d_Item_shareOf_140 : decode c_Item_shareOf 140 = .ok (.getfield 64, 3) := by decide +kernel
theorem d_Item_shareOf_143 : decode c_Item_shareOf 143 = .ok (.ifCond .eq 10, 3) := by decide +kernel
theorem d_Item_shareOf_146 : decode c_Item_shareOf 146 = .ok (.aload_n 0, 1) := by decide +kernel
theorem d_Item_shareOf_147 : decode c_Item_shareOf 147 = .ok (.getfield 57, 3) := by decide +kernel
theorem d_Item_shareOf_150 : decode c_Item_shareOf 150 = .ok (.goto 4, 3) := by decide +kernel
theorem d_Item_shareOf_153 : decode c_Item_shareOf 153 = .ok (.iconst 0, 1) := by decide +kernel
theorem d_Item_shareOf_154 : decode c_Item_shareOf 154 = .ok (.ireturn, 1) := by decide +kernel
theorem d_Item_shareOf_155 : decode c_Item_shareOf 155 = .ok (.aload_n 0, 1) := by decide +kernel
theorem d_Item_shareOf_156 : decode c_Item_shareOf 156 = .ok (.getfield 64, 3) := by decide +kernel
theorem d_Item_shareOf_159 : decode c_Item_shareOf 159 = .ok (.ifCond .ne 25, 3) := by decide +kernel
theorem d_Item_shareOf_162 : decode c_Item_shareOf 162 = .ok (.aload_n 0, 1) := by decide +kernel
theorem d_Item_shareOf_163 : decode c_Item_shareOf 163 = .ok (.invokevirtual 67, 3) := by decide +kernel
theorem d_Item_shareOf_166 : decode c_Item_shareOf 166 = .ok (.ifCond .ne 11, 3) := by decide +kernel
theorem d_Item_shareOf_169 : decode c_Item_shareOf 169 = .ok (.aload_n 0, 1) := by decide +kernel
theorem d_Item_shareOf_170 : decode c_Item_shareOf 170 = .ok (.getfield 15, 3) := by decide +kernel
theorem d_Item_shareOf_173 : decode c_Item_shareOf 173 = .ok (.iconst 5, 1) := by decide +kernel
theorem d_Item_shareOf_174 : decode c_Item_shareOf 174 = .ok (.if_icmp .ne 10, 3) := by decide +kernel
theorem d_Item_shareOf_177 : decode c_Item_shareOf 177 = .ok (.aload_n 0, 1) := by decide +kernel
theorem d_Item_shareOf_178 : decode c_Item_shareOf 178 = .ok (.getfield 57, 3) := by decide +kernel
theorem d_Item_shareOf_181 : decode c_Item_shareOf 181 = .ok (.goto 4, 3) := by decide +kernel
theorem d_Item_shareOf_184 : decode c_Item_shareOf 184 = .ok (.iconst 0, 1) := by decide +kernel
theorem d_Item_shareOf_185 : decode c_Item_shareOf 185 = .ok (.ireturn, 1) := by decide +kernel
theorem d_Item_shareOf_186 : decode c_Item_shareOf 186 = .ok (.iconst 0, 1) := by decide +kernel
theorem d_Item_shareOf_187 : decode c_Item_shareOf 187 = .ok (.ireturn, 1) := by decide +kernel
theorem d_Items_init_0 : decode c_Items_init 0 = .ok (.aload_n 0, 1) := by decide +kernel
theorem d_Items_init_1 : decode c_Items_init 1 = .ok (.invokespecial 3, 3) := by decide +kernel
theorem d_Items_init_4 : decode c_Items_init 4 = .ok (.aload_n 0, 1) := by decide +kernel
theorem d_Items_init_5 : decode c_Items_init 5 = .ok (.bipush 121, 2) := by decide +kernel
theorem d_Items_init_7 : decode c_Items_init 7 = .ok (.anewarray 9, 3) := by decide +kernel
theorem d_Items_init_10 : decode c_Items_init 10 = .ok (.putfield 11, 3) := by decide +kernel
theorem d_Items_init_13 : decode c_Items_init 13 = .ok (.iconst 0, 1) := by decide +kernel
theorem d_Items_init_14 : decode c_Items_init 14 = .ok (.istore_n 1, 1) := by decide +kernel
theorem d_Items_init_15 : decode c_Items_init 15 = .ok (.iload_n 1, 1) := by decide +kernel
theorem d_Items_init_16 : decode c_Items_init 16 = .ok (.aload_n 0, 1) := by decide +kernel
theorem d_Items_init_17 : decode c_Items_init 17 = .ok (.getfield 11, 3) := by decide +kernel
theorem d_Items_init_20 : decode c_Items_init 20 = .ok (.arraylength, 1) := by decide +kernel
theorem d_Items_init_21 : decode c_Items_init 21 = .ok (.if_icmp .ge 22, 3) := by decide +kernel
theorem d_Items_init_24 : decode c_Items_init 24 = .ok (.aload_n 0, 1) := by decide +kernel
theorem d_Items_init_25 : decode c_Items_init 25 = .ok (.getfield 11, 3) := by decide +kernel
theorem d_Items_init_28 : decode c_Items_init 28 = .ok (.iload_n 1, 1) := by decide +kernel
theorem d_Items_init_29 : decode c_Items_init 29 = .ok (.new 9, 3) := by decide +kernel
theorem d_Items_init_32 : decode c_Items_init 32 = .ok (.dup, 1) := by decide +kernel
theorem d_Items_init_33 : decode c_Items_init 33 = .ok (.invokespecial 17, 3) := by decide +kernel
theorem d_Items_init_36 : decode c_Items_init 36 = .ok (.aastore, 1) := by decide +kernel
theorem d_Items_init_37 : decode c_Items_init 37 = .ok (.iinc 1 1, 3) := by decide +kernel
theorem d_Items_init_40 : decode c_Items_init 40 = .ok (.goto (-25), 3) := by decide +kernel
theorem d_Items_init_43 : decode c_Items_init 43 = .ok (.aload_n 0, 1) := by decide +kernel
theorem d_Items_init_44 : decode c_Items_init 44 = .ok (.iconst 0, 1) := by decide +kernel
theorem d_Items_init_45 : decode c_Items_init 45 = .ok (.putfield 18, 3) := by decide +kernel
theorem d_Items_init_48 : decode c_Items_init 48 = .ok (.return_, 1) := by decide +kernel
theorem d_Items_clear_0 : decode c_Items_clear 0 = .ok (.aload_n 0, 1) := by decide +kernel
theorem d_Items_clear_1 : decode c_Items_clear 1 = .ok (.iconst 0, 1) := by decide +kernel
theorem d_Items_clear_2 : decode c_Items_clear 2 = .ok (.putfield 18, 3) := by decide +kernel
theorem d_Items_clear_5 : decode c_Items_clear 5 = .ok (.return_, 1) := by decide +kernel
theorem d_Items_append_0 : decode c_Items_append 0 = .ok (.aload_n 0, 1) := by decide +kernel
theorem d_Items_append_1 : decode c_Items_append 1 = .ok (.getfield 18, 3) := by decide +kernel
theorem d_Items_append_4 : decode c_Items_append 4 = .ok (.aload_n 0, 1) := by decide +kernel
theorem d_Items_append_5 : decode c_Items_append 5 = .ok (.getfield 11, 3) := by decide +kernel
theorem d_Items_append_8 : decode c_Items_append 8 = .ok (.arraylength, 1) := by decide +kernel
theorem d_Items_append_9 : decode c_Items_append 9 = .ok (.if_icmp .ge 32, 3) := by decide +kernel
theorem d_Items_append_12 : decode c_Items_append 12 = .ok (.aload_n 0, 1) := by decide +kernel
theorem d_Items_append_13 : decode c_Items_append 13 = .ok (.getfield 11, 3) := by decide +kernel
theorem d_Items_append_16 : decode c_Items_append 16 = .ok (.aload_n 0, 1) := by decide +kernel
theorem d_Items_append_17 : decode c_Items_append 17 = .ok (.getfield 18, 3) := by decide +kernel
theorem d_Items_append_20 : decode c_Items_append 20 = .ok (.aaload, 1) := by decide +kernel
theorem d_Items_append_21 : decode c_Items_append 21 = .ok (.aload_n 1, 1) := by decide +kernel
theorem d_Items_append_22 : decode c_Items_append 22 = .ok (.iload_n 2, 1) := by decide +kernel
theorem d_Items_append_23 : decode c_Items_append 23 = .ok (.iload_n 3, 1) := by decide +kernel
theorem d_Items_append_24 : decode c_Items_append 24 = .ok (.iload 4, 2) := by decide +kernel
theorem d_Items_append_26 : decode c_Items_append 26 = .ok (.iload 5, 2) := by decide +kernel
theorem d_Items_append_28 : decode c_Items_append 28 = .ok (.invokevirtual 22, 3) := by decide +kernel
theorem d_Items_append_31 : decode c_Items_append 31 = .ok (.aload_n 0, 1) := by decide +kernel
theorem d_Items_append_32 : decode c_Items_append 32 = .ok (.dup, 1) := by decide +kernel
theorem d_Items_append_33 : decode c_Items_append 33 = .ok (.getfield 18, 3) := by decide +kernel
theorem d_Items_append_36 : decode c_Items_append 36 = .ok (.iconst 1, 1) := by decide +kernel
theorem d_Items_append_37 : decode c_Items_append 37 = .ok (.iadd, 1) := by decide +kernel
theorem d_Items_append_38 : decode c_Items_append 38 = .ok (.putfield 18, 3) := by decide +kernel
theorem d_Items_append_41 : decode c_Items_append 41 = .ok (.return_, 1) := by decide +kernel
theorem d_Items_itemAt_0 : decode c_Items_itemAt 0 = .ok (.iload_n 1, 1) := by decide +kernel
theorem d_Items_itemAt_1 : decode c_Items_itemAt 1 = .ok (.ifCond .lt 20, 3) := by decide +kernel
theorem d_Items_itemAt_4 : decode c_Items_itemAt 4 = .ok (.iload_n 1, 1) := by decide +kernel
theorem d_Items_itemAt_5 : decode c_Items_itemAt 5 = .ok (.aload_n 0, 1) := by decide +kernel
theorem d_Items_itemAt_6 : decode c_Items_itemAt 6 = .ok (.getfield 18, 3) := by decide +kernel
theorem d_Items_itemAt_9 : decode c_Items_itemAt 9 = .ok (.if_icmp .ge 12, 3) := by decide +kernel
theorem d_Items_itemAt_12 : decode c_Items_itemAt 12 = .ok (.aload_n 0, 1) := by decide +kernel
theorem d_Items_itemAt_13 : decode c_Items_itemAt 13 = .ok (.getfield 11, 3) := by decide +kernel
theorem d_Items_itemAt_16 : decode c_Items_itemAt 16 = .ok (.iload_n 1, 1) := by decide +kernel
theorem d_Items_itemAt_17 : decode c_Items_itemAt 17 = .ok (.aaload, 1) := by decide +kernel
theorem d_Items_itemAt_18 : decode c_Items_itemAt 18 = .ok (.goto 4, 3) := by decide +kernel
theorem d_Items_itemAt_21 : decode c_Items_itemAt 21 = .ok (.aconst_null, 1) := by decide +kernel
theorem d_Items_itemAt_22 : decode c_Items_itemAt 22 = .ok (.areturn, 1) := by decide +kernel
theorem d_Items_nearestAhead_0 : decode c_Items_nearestAhead 0 = .ok (.iload_n 3, 1) := by decide +kernel
theorem d_Items_nearestAhead_1 : decode c_Items_nearestAhead 1 = .ok (.aload_n 0, 1) := by decide +kernel
theorem d_Items_nearestAhead_2 : decode c_Items_nearestAhead 2 = .ok (.getfield 18, 3) := by decide +kernel
theorem d_Items_nearestAhead_5 : decode c_Items_nearestAhead 5 = .ok (.invokestatic 26, 3) := by decide +kernel
theorem d_Items_nearestAhead_8 : decode c_Items_nearestAhead 8 = .ok (.iconst 1, 1) := by decide +kernel
theorem d_Items_nearestAhead_9 : decode c_Items_nearestAhead 9 = .ok (.isub, 1) := by decide +kernel
theorem d_Items_nearestAhead_10 : decode c_Items_nearestAhead 10 = .ok (.istore 4, 2) := by decide +kernel
theorem d_Items_nearestAhead_12 : decode c_Items_nearestAhead 12 = .ok (.iload 4, 2) := by decide +kernel
theorem d_Items_nearestAhead_14 : decode c_Items_nearestAhead 14 = .ok (.ifCond .lt 45, 3) := by decide +kernel
theorem d_Items_nearestAhead_17 : decode c_Items_nearestAhead 17 = .ok (.aload_n 0, 1) := by decide +kernel
theorem d_Items_nearestAhead_18 : decode c_Items_nearestAhead 18 = .ok (.getfield 11, 3) := by decide +kernel
theorem d_Items_nearestAhead_21 : decode c_Items_nearestAhead 21 = .ok (.iload 4, 2) := by decide +kernel
theorem d_Items_nearestAhead_23 : decode c_Items_nearestAhead 23 = .ok (.aaload, 1) := by decide +kernel
theorem d_Items_nearestAhead_24 : decode c_Items_nearestAhead 24 = .ok (.getfield 32, 3) := by decide +kernel
theorem d_Items_nearestAhead_27 : decode c_Items_nearestAhead 27 = .ok (.iload_n 1, 1) := by decide +kernel
theorem d_Items_nearestAhead_28 : decode c_Items_nearestAhead 28 = .ok (.if_icmp .ne 25, 3) := by decide +kernel
theorem d_Items_nearestAhead_31 : decode c_Items_nearestAhead 31 = .ok (.aload_n 0, 1) := by decide +kernel
theorem d_Items_nearestAhead_32 : decode c_Items_nearestAhead 32 = .ok (.getfield 11, 3) := by decide +kernel
theorem d_Items_nearestAhead_35 : decode c_Items_nearestAhead 35 = .ok (.iload 4, 2) := by decide +kernel
theorem d_Items_nearestAhead_37 : decode c_Items_nearestAhead 37 = .ok (.aaload, 1) := by decide +kernel
theorem d_Items_nearestAhead_38 : decode c_Items_nearestAhead 38 = .ok (.getfield 35, 3) := by decide +kernel
theorem d_Items_nearestAhead_41 : decode c_Items_nearestAhead 41 = .ok (.iload_n 2, 1) := by decide +kernel
theorem d_Items_nearestAhead_42 : decode c_Items_nearestAhead 42 = .ok (.if_icmp .ne 11, 3) := by decide +kernel
theorem d_Items_nearestAhead_45 : decode c_Items_nearestAhead 45 = .ok (.aload_n 0, 1) := by decide +kernel
theorem d_Items_nearestAhead_46 : decode c_Items_nearestAhead 46 = .ok (.getfield 11, 3) := by decide +kernel
theorem d_Items_nearestAhead_49 : decode c_Items_nearestAhead 49 = .ok (.iload 4, 2) := by decide +kernel
theorem d_Items_nearestAhead_51 : decode c_Items_nearestAhead 51 = .ok (.aaload, 1) := by decide +kernel
theorem d_Items_nearestAhead_52 : decode c_Items_nearestAhead 52 = .ok (.areturn, 1) := by decide +kernel
theorem d_Items_nearestAhead_53 : decode c_Items_nearestAhead 53 = .ok (.iinc 4 (-1), 3) := by decide +kernel
theorem d_Items_nearestAhead_56 : decode c_Items_nearestAhead 56 = .ok (.goto (-44), 3) := by decide +kernel
theorem d_Items_nearestAhead_59 : decode c_Items_nearestAhead 59 = .ok (.aconst_null, 1) := by decide +kernel
theorem d_Items_nearestAhead_60 : decode c_Items_nearestAhead 60 = .ok (.areturn, 1) := by decide +kernel
theorem d_Items_nearestBehind_0 : decode c_Items_nearestBehind 0 = .ok (.iload_n 3, 1) := by decide +kernel
theorem d_Items_nearestBehind_1 : decode c_Items_nearestBehind 1 = .ok (.iconst (-1), 1) := by decide +kernel
theorem d_Items_nearestBehind_2 : decode c_Items_nearestBehind 2 = .ok (.invokestatic 38, 3) := by decide +kernel
theorem d_Items_nearestBehind_5 : decode c_Items_nearestBehind 5 = .ok (.iconst 1, 1) := by decide +kernel
theorem d_Items_nearestBehind_6 : decode c_Items_nearestBehind 6 = .ok (.iadd, 1) := by decide +kernel
theorem d_Items_nearestBehind_7 : decode c_Items_nearestBehind 7 = .ok (.istore 4, 2) := by decide +kernel
theorem d_Items_nearestBehind_9 : decode c_Items_nearestBehind 9 = .ok (.iload 4, 2) := by decide +kernel
theorem d_Items_nearestBehind_11 : decode c_Items_nearestBehind 11 = .ok (.aload_n 0, 1) := by decide +kernel
theorem d_Items_nearestBehind_12 : decode c_Items_nearestBehind 12 = .ok (.getfield 18, 3) := by decide +kernel
theorem d_Items_nearestBehind_15 : decode c_Items_nearestBehind 15 = .ok (.if_icmp .ge 45, 3) := by decide +kernel
theorem d_Items_nearestBehind_18 : decode c_Items_nearestBehind 18 = .ok (.aload_n 0, 1) := by decide +kernel
theorem d_Items_nearestBehind_19 : decode c_Items_nearestBehind 19 = .ok (.getfield 11, 3) := by decide +kernel
theorem d_Items_nearestBehind_22 : decode c_Items_nearestBehind 22 = .ok (.iload 4, 2) := by decide +kernel
theorem d_Items_nearestBehind_24 : decode c_Items_nearestBehind 24 = .ok (.aaload, 1) := by decide +kernel
theorem d_Items_nearestBehind_25 : decode c_Items_nearestBehind 25 = .ok (.getfield 32, 3) := by decide +kernel
theorem d_Items_nearestBehind_28 : decode c_Items_nearestBehind 28 = .ok (.iload_n 1, 1) := by decide +kernel
theorem d_Items_nearestBehind_29 : decode c_Items_nearestBehind 29 = .ok (.if_icmp .ne 25, 3) := by decide +kernel
theorem d_Items_nearestBehind_32 : decode c_Items_nearestBehind 32 = .ok (.aload_n 0, 1) := by decide +kernel
theorem d_Items_nearestBehind_33 : decode c_Items_nearestBehind 33 = .ok (.getfield 11, 3) := by decide +kernel
theorem d_Items_nearestBehind_36 : decode c_Items_nearestBehind 36 = .ok (.iload 4, 2) := by decide +kernel
theorem d_Items_nearestBehind_38 : decode c_Items_nearestBehind 38 = .ok (.aaload, 1) := by decide +kernel
theorem d_Items_nearestBehind_39 : decode c_Items_nearestBehind 39 = .ok (.getfield 35, 3) := by decide +kernel
theorem d_Items_nearestBehind_42 : decode c_Items_nearestBehind 42 = .ok (.iload_n 2, 1) := by decide +kernel
theorem d_Items_nearestBehind_43 : decode c_Items_nearestBehind 43 = .ok (.if_icmp .ne 11, 3) := by decide +kernel
theorem d_Items_nearestBehind_46 : decode c_Items_nearestBehind 46 = .ok (.aload_n 0, 1) := by decide +kernel
theorem d_Items_nearestBehind_47 : decode c_Items_nearestBehind 47 = .ok (.getfield 11, 3) := by decide +kernel
theorem d_Items_nearestBehind_50 : decode c_Items_nearestBehind 50 = .ok (.iload 4, 2) := by decide +kernel
theorem d_Items_nearestBehind_52 : decode c_Items_nearestBehind 52 = .ok (.aaload, 1) := by decide +kernel
theorem d_Items_nearestBehind_53 : decode c_Items_nearestBehind 53 = .ok (.areturn, 1) := by decide +kernel
theorem d_Items_nearestBehind_54 : decode c_Items_nearestBehind 54 = .ok (.iinc 4 1, 3) := by decide +kernel
theorem d_Items_nearestBehind_57 : decode c_Items_nearestBehind 57 = .ok (.goto (-48), 3) := by decide +kernel
theorem d_Items_nearestBehind_60 : decode c_Items_nearestBehind 60 = .ok (.aconst_null, 1) := by decide +kernel
theorem d_Items_nearestBehind_61 : decode c_Items_nearestBehind 61 = .ok (.areturn, 1) := by decide +kernel
theorem d_Items_giverOf_0 : decode c_Items_giverOf 0 = .ok (.iload_n 1, 1) := by decide +kernel
theorem d_Items_giverOf_1 : decode c_Items_giverOf 1 = .ok (.bipush 9, 2) := by decide +kernel
theorem d_Items_giverOf_3 : decode c_Items_giverOf 3 = .ok (.if_icmp .le 13, 3) := by decide +kernel
theorem d_Items_giverOf_6 : decode c_Items_giverOf 6 = .ok (.aload_n 0, 1) := by decide +kernel
theorem d_Items_giverOf_7 : decode c_Items_giverOf 7 = .ok (.iconst 0, 1) := by decide +kernel
theorem d_Items_giverOf_8 : decode c_Items_giverOf 8 = .ok (.iload_n 1, 1) := by decide +kernel
theorem d_Items_giverOf_9 : decode c_Items_giverOf 9 = .ok (.iconst 2, 1) := by decide +kernel
theorem d_Items_giverOf_10 : decode c_Items_giverOf 10 = .ok (.isub, 1) := by decide +kernel
theorem d_Items_giverOf_11 : decode c_Items_giverOf 11 = .ok (.iload_n 2, 1) := by decide +kernel
theorem d_Items_giverOf_12 : decode c_Items_giverOf 12 = .ok (.invokevirtual 41, 3) := by decide +kernel
theorem d_Items_giverOf_15 : decode c_Items_giverOf 15 = .ok (.areturn, 1) := by decide +kernel
theorem d_Items_giverOf_16 : decode c_Items_giverOf 16 = .ok (.aload_n 0, 1) := by decide +kernel
theorem d_Items_giverOf_17 : decode c_Items_giverOf 17 = .ok (.iconst 0, 1) := by decide +kernel
theorem d_Items_giverOf_18 : decode c_Items_giverOf 18 = .ok (.iload_n 1, 1) := by decide +kernel
theorem d_Items_giverOf_19 : decode c_Items_giverOf 19 = .ok (.iload_n 2, 1) := by decide +kernel
theorem d_Items_giverOf_20 : decode c_Items_giverOf 20 = .ok (.invokevirtual 45, 3) := by decide +kernel
theorem d_Items_giverOf_23 : decode c_Items_giverOf 23 = .ok (.astore_n 3, 1) := by decide +kernel
theorem d_Items_giverOf_24 : decode c_Items_giverOf 24 = .ok (.aload_n 3, 1) := by decide +kernel
theorem d_Items_giverOf_25 : decode c_Items_giverOf 25 = .ok (.ifnonnull 17, 3) := by decide +kernel
theorem d_Items_giverOf_28 : decode c_Items_giverOf 28 = .ok (.iload_n 1, 1) := by decide +kernel
theorem d_Items_giverOf_29 : decode c_Items_giverOf 29 = .ok (.bipush 8, 2) := by decide +kernel
theorem d_Items_giverOf_31 : decode c_Items_giverOf 31 = .ok (.if_icmp .ge 11, 3) := by decide +kernel
theorem d_Items_giverOf_34 : decode c_Items_giverOf 34 = .ok (.aload_n 0, 1) := by decide +kernel
theorem d_Items_giverOf_35 : decode c_Items_giverOf 35 = .ok (.iconst 0, 1) := by decide +kernel
theorem d_Items_giverOf_36 : decode c_Items_giverOf 36 = .ok (.iload_n 1, 1) := by decide +kernel
theorem d_Items_giverOf_37 : decode c_Items_giverOf 37 = .ok (.iload_n 2, 1) := by decide +kernel
theorem d_Items_giverOf_38 : decode c_Items_giverOf 38 = .ok (.invokevirtual 41, 3) := by decide +kernel
theorem d_Items_giverOf_41 : decode c_Items_giverOf 41 = .ok (.astore_n 3, 1) := by decide +kernel
theorem d_Items_giverOf_42 : decode c_Items_giverOf 42 = .ok (.aload_n 3, 1) := by decide +kernel
theorem d_Items_giverOf_43 : decode c_Items_giverOf 43 = .ok (.ifnonnull 17, 3) := by decide +kernel
theorem d_Items_giverOf_46 : decode c_Items_giverOf 46 = .ok (.iload_n 1, 1) := by decide +kernel
theorem d_Items_giverOf_47 : decode c_Items_giverOf 47 = .ok (.bipush 8, 2) := by decide +kernel
theorem d_Items_giverOf_49 : decode c_Items_giverOf 49 = .ok (.if_icmp .ge 11, 3) := by decide +kernel
theorem d_Items_giverOf_52 : decode c_Items_giverOf 52 = .ok (.aload_n 0, 1) := by decide +kernel
theorem d_Items_giverOf_53 : decode c_Items_giverOf 53 = .ok (.iconst 1, 1) := by decide +kernel
theorem d_Items_giverOf_54 : decode c_Items_giverOf 54 = .ok (.iload_n 1, 1) := by decide +kernel
theorem d_Items_giverOf_55 : decode c_Items_giverOf 55 = .ok (.iload_n 2, 1) := by decide +kernel
theorem d_Items_giverOf_56 : decode c_Items_giverOf 56 = .ok (.invokevirtual 45, 3) := by decide +kernel
theorem d_Items_giverOf_59 : decode c_Items_giverOf 59 = .ok (.astore_n 3, 1) := by decide +kernel
theorem d_Items_giverOf_60 : decode c_Items_giverOf 60 = .ok (.aload_n 3, 1) := by decide +kernel
theorem d_Items_giverOf_61 : decode c_Items_giverOf 61 = .ok (.areturn, 1) := by decide +kernel
theorem d_Items_linkValues_0 : decode c_Items_linkValues 0 = .ok (.iconst 0, 1) := by decide +kernel
theorem d_Items_linkValues_1 : decode c_Items_linkValues 1 = .ok (.istore_n 1, 1) := by decide +kernel
theorem d_Items_linkValues_2 : decode c_Items_linkValues 2 = .ok (.iload_n 1, 1) := by decide +kernel
theorem d_Items_linkValues_3 : decode c_Items_linkValues 3 = .ok (.aload_n 0, 1) := by decide +kernel
theorem d_Items_linkValues_4 : decode c_Items_linkValues 4 = .ok (.getfield 18, 3) := by decide +kernel
theorem d_Items_linkValues_7 : decode c_Items_linkValues 7 = .ok (.if_icmp .ge 108, 3) := by decide +kernel
theorem d_Items_linkValues_10 : decode c_Items_linkValues 10 = .ok (.aload_n 0, 1) := by decide +kernel
theorem d_Items_linkValues_11 : decode c_Items_linkValues 11 = .ok (.getfield 11, 3) := by decide +kernel
theorem d_Items_linkValues_14 : decode c_Items_linkValues 14 = .ok (.iload_n 1, 1) := by decide +kernel
theorem d_Items_linkValues_15 : decode c_Items_linkValues 15 = .ok (.aaload, 1) := by decide +kernel
theorem d_Items_linkValues_16 : decode c_Items_linkValues 16 = .ok (.astore_n 2, 1) := by decide +kernel
theorem d_Items_linkValues_17 : decode c_Items_linkValues 17 = .ok (.aload_n 2, 1) := by decide +kernel
theorem d_Items_linkValues_18 : decode c_Items_linkValues 18 = .ok (.invokevirtual 48, 3) := by decide +kernel
theorem d_Items_linkValues_21 : decode c_Items_linkValues 21 = .ok (.ifCond .ne 6, 3) := by decide +kernel
theorem d_Items_linkValues_24 : decode c_Items_linkValues 24 = .ok (.goto 85, 3) := by decide +kernel
theorem d_Items_linkValues_27 : decode c_Items_linkValues 27 = .ok (.aload_n 2, 1) := by decide +kernel
theorem d_Items_linkValues_28 : decode c_Items_linkValues 28 = .ok (.aload_n 2, 1) := by decide +kernel
theorem d_Items_linkValues_29 : decode c_Items_linkValues 29 = .ok (.getfield 35, 3) := by decide +kernel
theorem d_Items_linkValues_32 : decode c_Items_linkValues 32 = .ok (.iconst (-1), 1) := by decide +kernel
theorem d_Items_linkValues_33 : decode c_Items_linkValues 33 = .ok (.if_icmp .ne 7, 3) := by decide +kernel
theorem d_Items_linkValues_36 : decode c_Items_linkValues 36 = .ok (.aconst_null, 1) := by decide +kernel
theorem d_Items_linkValues_37 : decode c_Items_linkValues 37 = .ok (.goto 12, 3) := by decide +kernel
theorem d_Items_linkValues_40 : decode c_Items_linkValues 40 = .ok (.aload_n 0, 1) := by decide +kernel
theorem d_Items_linkValues_41 : decode c_Items_linkValues 41 = .ok (.aload_n 2, 1) := by decide +kernel
theorem d_Items_linkValues_42 : decode c_Items_linkValues 42 = .ok (.getfield 35, 3) := by decide +kernel
theorem d_Items_linkValues_45 : decode c_Items_linkValues 45 = .ok (.iload_n 1, 1) := by decide +kernel
theorem d_Items_linkValues_46 : decode c_Items_linkValues 46 = .ok (.invokevirtual 52, 3) := by decide +kernel
theorem d_Items_linkValues_49 : decode c_Items_linkValues 49 = .ok (.putfield 56, 3) := by decide +kernel
theorem d_Items_linkValues_52 : decode c_Items_linkValues 52 = .ok (.aload_n 2, 1) := by decide +kernel
theorem d_Items_linkValues_53 : decode c_Items_linkValues 53 = .ok (.aload_n 2, 1) := by decide +kernel
theorem d_Items_linkValues_54 : decode c_Items_linkValues 54 = .ok (.getfield 60, 3) := by decide +kernel
theorem d_Items_linkValues_57 : decode c_Items_linkValues 57 = .ok (.iconst (-1), 1) := by decide +kernel
theorem d_Items_linkValues_58 : decode c_Items_linkValues 58 = .ok (.if_icmp .ne 7, 3) := by decide +kernel
theorem d_Items_linkValues_61 : decode c_Items_linkValues 61 = .ok (.aconst_null, 1) := by decide +kernel
theorem d_Items_linkValues_62 : decode c_Items_linkValues 62 = .ok (.goto 12, 3) := by decide +kernel
theorem d_Items_linkValues_65 : decode c_Items_linkValues 65 = .ok (.aload_n 0, 1) := by decide +kernel
theorem d_Items_linkValues_66 : decode c_Items_linkValues 66 = .ok (.aload_n 2, 1) := by decide +kernel
theorem d_Items_linkValues_67 : decode c_Items_linkValues 67 = .ok (.getfield 60, 3) := by decide +kernel
theorem d_Items_linkValues_70 : decode c_Items_linkValues 70 = .ok (.iload_n 1, 1) := by decide +kernel
theorem d_Items_linkValues_71 : decode c_Items_linkValues 71 = .ok (.invokevirtual 52, 3) := by decide +kernel
theorem d_Items_linkValues_74 : decode c_Items_linkValues 74 = .ok (.putfield 63, 3) := by decide +kernel
theorem d_Items_linkValues_77 : decode c_Items_linkValues 77 = .ok (.aload_n 2, 1) := by decide +kernel
theorem d_Items_linkValues_78 : decode c_Items_linkValues 78 = .ok (.getfield 35, 3) := by decide +kernel
theorem d_Items_linkValues_81 : decode c_Items_linkValues 81 = .ok (.iconst (-1), 1) := by decide +kernel
theorem d_Items_linkValues_82 : decode c_Items_linkValues 82 = .ok (.if_icmp .eq 10, 3) := by decide +kernel
theorem d_Items_linkValues_85 : decode c_Items_linkValues 85 = .ok (.aload_n 2, 1) := by decide +kernel
theorem d_Items_linkValues_86 : decode c_Items_linkValues 86 = .ok (.getfield 56, 3) := by decide +kernel
theorem d_Items_linkValues_89 : decode c_Items_linkValues 89 = .ok (.ifnull 18, 3) := by decide +kernel
theorem d_Items_linkValues_92 : decode c_Items_linkValues 92 = .ok (.aload_n 2, 1) := by decide +kernel
theorem d_Items_linkValues_93 : decode c_Items_linkValues 93 = .ok (.getfield 60, 3) := by decide +kernel
theorem d_Items_linkValues_96 : decode c_Items_linkValues 96 = .ok (.iconst (-1), 1) := by decide +kernel
theorem d_Items_linkValues_97 : decode c_Items_linkValues 97 = .ok (.if_icmp .eq 12, 3) := by decide +kernel
theorem d_Items_linkValues_100 : decode c_Items_linkValues 100 = .ok (.aload_n 2, 1) := by decide +kernel
theorem d_Items_linkValues_101 : decode c_Items_linkValues 101 = .ok (.getfield 63, 3) := by decide +kernel
theorem d_Items_linkValues_104 : decode c_Items_linkValues 104 = .ok (.ifnonnull 5, 3) := by decide +kernel
theorem d_Items_linkValues_107 : decode c_Items_linkValues 107 = .ok (.iload_n 1, 1) := by decide +kernel
theorem d_Items_linkValues_108 : decode c_Items_linkValues 108 = .ok (.ireturn, 1) := by decide +kernel
theorem d_Items_linkValues_109 : decode c_Items_linkValues 109 = .ok (.iinc 1 1, 3) := by decide +kernel
theorem d_Items_linkValues_112 : decode c_Items_linkValues 112 = .ok (.goto (-110), 3) := by decide +kernel
theorem d_Items_linkValues_115 : decode c_Items_linkValues 115 = .ok (.iconst (-1), 1) := by decide +kernel
theorem d_Items_linkValues_116 : decode c_Items_linkValues 116 = .ok (.ireturn, 1) := by decide +kernel
theorem d_Items_linkPools_0 : decode c_Items_linkPools 0 = .ok (.iconst 0, 1) := by decide +kernel
theorem d_Items_linkPools_1 : decode c_Items_linkPools 1 = .ok (.istore_n 1, 1) := by decide +kernel
theorem d_Items_linkPools_2 : decode c_Items_linkPools 2 = .ok (.iconst 0, 1) := by decide +kernel
theorem d_Items_linkPools_3 : decode c_Items_linkPools 3 = .ok (.istore_n 2, 1) := by decide +kernel
theorem d_Items_linkPools_4 : decode c_Items_linkPools 4 = .ok (.iconst 0, 1) := by decide +kernel
theorem d_Items_linkPools_5 : decode c_Items_linkPools 5 = .ok (.istore_n 3, 1) := by decide +kernel
theorem d_Items_linkPools_6 : decode c_Items_linkPools 6 = .ok (.iload_n 3, 1) := by decide +kernel
theorem d_Items_linkPools_7 : decode c_Items_linkPools 7 = .ok (.aload_n 0, 1) := by decide +kernel
theorem d_Items_linkPools_8 : decode c_Items_linkPools 8 = .ok (.getfield 18, 3) := by decide +kernel
theorem d_Items_linkPools_11 : decode c_Items_linkPools 11 = .ok (.if_icmp .ge 105, 3) := by decide +kernel
theorem d_Items_linkPools_14 : decode c_Items_linkPools 14 = .ok (.aload_n 0, 1) := by decide +kernel
theorem d_Items_linkPools_15 : decode c_Items_linkPools 15 = .ok (.getfield 11, 3) := by decide +kernel
theorem d_Items_linkPools_18 : decode c_Items_linkPools 18 = .ok (.iload_n 3, 1) := by decide +kernel
theorem d_Items_linkPools_19 : decode c_Items_linkPools 19 = .ok (.aaload, 1) := by decide +kernel
theorem d_Items_linkPools_20 : decode c_Items_linkPools 20 = .ok (.getfield 32, 3) := by decide +kernel
theorem d_Items_linkPools_23 : decode c_Items_linkPools 23 = .ok (.iconst 5, 1) := by decide +kernel
theorem d_Items_linkPools_24 : decode c_Items_linkPools 24 = .ok (.if_icmp .ne 50, 3) := by decide +kernel
theorem d_Items_linkPools_27 : decode c_Items_linkPools 27 = .ok (.aload_n 0, 1) := by decide +kernel
theorem d_Items_linkPools_28 : decode c_Items_linkPools 28 = .ok (.iload_n 1, 1) := by decide +kernel
theorem d_Items_linkPools_29 : decode c_Items_linkPools 29 = .ok (.iload_n 3, 1) := by decide +kernel
theorem d_Items_linkPools_30 : decode c_Items_linkPools 30 = .ok (.invokevirtual 66, 3) := by decide +kernel
theorem d_Items_linkPools_33 : decode c_Items_linkPools 33 = .ok (.astore 4, 2) := by decide +kernel
theorem d_Items_linkPools_35 : decode c_Items_linkPools 35 = .ok (.aload_n 0, 1) := by decide +kernel
theorem d_Items_linkPools_36 : decode c_Items_linkPools 36 = .ok (.getfield 11, 3) := by decide +kernel
theorem d_Items_linkPools_39 : decode c_Items_linkPools 39 = .ok (.iload_n 3, 1) := by decide +kernel
theorem d_Items_linkPools_40 : decode c_Items_linkPools 40 = .ok (.aaload, 1) := by decide +kernel
theorem d_Items_linkPools_41 : decode c_Items_linkPools 41 = .ok (.aload 4, 2) := by decide +kernel
theorem d_Items_linkPools_43 : decode c_Items_linkPools 43 = .ok (.ifnonnull 7, 3) := by decide +kernel
theorem d_Items_linkPools_46 : decode c_Items_linkPools 46 = .ok (.iload_n 2, 1) := by decide +kernel
theorem d_Items_linkPools_47 : decode c_Items_linkPools 47 = .ok (.goto 8, 3) := by decide +kernel
theorem d_Items_linkPools_50 : decode c_Items_linkPools 50 = .ok (.aload 4, 2) := by decide +kernel
theorem d_Items_linkPools_52 : decode c_Items_linkPools 52 = .ok (.getfield 69, 3) := by decide +kernel
theorem d_Items_linkPools_55 : decode c_Items_linkPools 55 = .ok (.putfield 69, 3) := by decide +kernel
theorem d_Items_linkPools_58 : decode c_Items_linkPools 58 = .ok (.iload_n 2, 1) := by decide +kernel
theorem d_Items_linkPools_59 : decode c_Items_linkPools 59 = .ok (.aload 4, 2) := by decide +kernel
theorem d_Items_linkPools_61 : decode c_Items_linkPools 61 = .ok (.ifnonnull 7, 3) := by decide +kernel
theorem d_Items_linkPools_64 : decode c_Items_linkPools 64 = .ok (.iconst 1, 1) := by decide +kernel
theorem d_Items_linkPools_65 : decode c_Items_linkPools 65 = .ok (.goto 4, 3) := by decide +kernel
theorem d_Items_linkPools_68 : decode c_Items_linkPools 68 = .ok (.iconst 0, 1) := by decide +kernel
theorem d_Items_linkPools_69 : decode c_Items_linkPools 69 = .ok (.iadd, 1) := by decide +kernel
theorem d_Items_linkPools_70 : decode c_Items_linkPools 70 = .ok (.istore_n 2, 1) := by decide +kernel
theorem d_Items_linkPools_71 : decode c_Items_linkPools 71 = .ok (.goto 39, 3) := by decide +kernel
theorem d_Items_linkPools_74 : decode c_Items_linkPools 74 = .ok (.aload_n 0, 1) := by decide +kernel
theorem d_Items_linkPools_75 : decode c_Items_linkPools 75 = .ok (.getfield 11, 3) := by decide +kernel
theorem d_Items_linkPools_78 : decode c_Items_linkPools 78 = .ok (.iload_n 3, 1) := by decide +kernel
theorem d_Items_linkPools_79 : decode c_Items_linkPools 79 = .ok (.aaload, 1) := by decide +kernel
theorem d_Items_linkPools_80 : decode c_Items_linkPools 80 = .ok (.getfield 32, 3) := by decide +kernel
theorem d_Items_linkPools_83 : decode c_Items_linkPools 83 = .ok (.bipush 6, 2) := by decide +kernel
theorem d_Items_linkPools_85 : decode c_Items_linkPools 85 = .ok (.if_icmp .ne 25, 3) := by decide +kernel
theorem d_Items_linkPools_88 : decode c_Items_linkPools 88 = .ok (.aload_n 0, 1) := by decide +kernel
theorem d_Items_linkPools_89 : decode c_Items_linkPools 89 = .ok (.getfield 11, 3) := by decide +kernel
theorem d_Items_linkPools_92 : decode c_Items_linkPools 92 = .ok (.iload_n 3, 1) := by decide +kernel
theorem d_Items_linkPools_93 : decode c_Items_linkPools 93 = .ok (.aaload, 1) := by decide +kernel
theorem d_Items_linkPools_94 : decode c_Items_linkPools 94 = .ok (.iload_n 2, 1) := by decide +kernel
theorem d_Items_linkPools_95 : decode c_Items_linkPools 95 = .ok (.putfield 72, 3) := by decide +kernel
theorem d_Items_linkPools_98 : decode c_Items_linkPools 98 = .ok (.aload_n 0, 1) := by decide +kernel
theorem d_Items_linkPools_99 : decode c_Items_linkPools 99 = .ok (.iload_n 1, 1) := by decide +kernel
theorem d_Items_linkPools_100 : decode c_Items_linkPools 100 = .ok (.iload_n 3, 1) := by decide +kernel
theorem d_Items_linkPools_101 : decode c_Items_linkPools 101 = .ok (.invokevirtual 75, 3) := by decide +kernel
theorem d_Items_linkPools_104 : decode c_Items_linkPools 104 = .ok (.iload_n 3, 1) := by decide +kernel
theorem d_Items_linkPools_105 : decode c_Items_linkPools 105 = .ok (.iconst 1, 1) := by decide +kernel
theorem d_Items_linkPools_106 : decode c_Items_linkPools 106 = .ok (.iadd, 1) := by decide +kernel
theorem d_Items_linkPools_107 : decode c_Items_linkPools 107 = .ok (.istore_n 1, 1) := by decide +kernel
theorem d_Items_linkPools_108 : decode c_Items_linkPools 108 = .ok (.iconst 0, 1) := by decide +kernel
theorem d_Items_linkPools_109 : decode c_Items_linkPools 109 = .ok (.istore_n 2, 1) := by decide +kernel
theorem d_Items_linkPools_110 : decode c_Items_linkPools 110 = .ok (.iinc 3 1, 3) := by decide +kernel
theorem d_Items_linkPools_113 : decode c_Items_linkPools 113 = .ok (.goto (-107), 3) := by decide +kernel
theorem d_Items_linkPools_116 : decode c_Items_linkPools 116 = .ok (.return_, 1) := by decide +kernel
theorem d_Items_loadOfSame_0 : decode c_Items_loadOfSame 0 = .ok (.iload_n 1, 1) := by decide +kernel
theorem d_Items_loadOfSame_1 : decode c_Items_loadOfSame 1 = .ok (.istore_n 3, 1) := by decide +kernel
theorem d_Items_loadOfSame_2 : decode c_Items_loadOfSame 2 = .ok (.iload_n 3, 1) := by decide +kernel
theorem d_Items_loadOfSame_3 : decode c_Items_loadOfSame 3 = .ok (.iload_n 2, 1) := by decide +kernel
theorem d_Items_loadOfSame_4 : decode c_Items_loadOfSame 4 = .ok (.if_icmp .ge 50, 3) := by decide +kernel
theorem d_Items_loadOfSame_7 : decode c_Items_loadOfSame 7 = .ok (.aload_n 0, 1) := by decide +kernel
theorem d_Items_loadOfSame_8 : decode c_Items_loadOfSame 8 = .ok (.getfield 11, 3) := by decide +kernel
theorem d_Items_loadOfSame_11 : decode c_Items_loadOfSame 11 = .ok (.iload_n 3, 1) := by decide +kernel
theorem d_Items_loadOfSame_12 : decode c_Items_loadOfSame 12 = .ok (.aaload, 1) := by decide +kernel
theorem d_Items_loadOfSame_13 : decode c_Items_loadOfSame 13 = .ok (.getfield 32, 3) := by decide +kernel
theorem d_Items_loadOfSame_16 : decode c_Items_loadOfSame 16 = .ok (.iconst 5, 1) := by decide +kernel
theorem d_Items_loadOfSame_17 : decode c_Items_loadOfSame 17 = .ok (.if_icmp .ne 31, 3) := by decide +kernel
theorem d_Items_loadOfSame_20 : decode c_Items_loadOfSame 20 = .ok (.aload_n 0, 1) := by decide +kernel
theorem d_Items_loadOfSame_21 : decode c_Items_loadOfSame 21 = .ok (.getfield 11, 3) := by decide +kernel
theorem d_Items_loadOfSame_24 : decode c_Items_loadOfSame 24 = .ok (.iload_n 3, 1) := by decide +kernel
theorem d_Items_loadOfSame_25 : decode c_Items_loadOfSame 25 = .ok (.aaload, 1) := by decide +kernel
theorem d_Items_loadOfSame_26 : decode c_Items_loadOfSame 26 = .ok (.getfield 79, 3) := by decide +kernel
theorem d_Items_loadOfSame_29 : decode c_Items_loadOfSame 29 = .ok (.aload_n 0, 1) := by decide +kernel
theorem d_Items_loadOfSame_30 : decode c_Items_loadOfSame 30 = .ok (.getfield 11, 3) := by decide +kernel
theorem d_Items_loadOfSame_33 : decode c_Items_loadOfSame 33 = .ok (.iload_n 2, 1) := by decide +kernel
theorem d_Items_loadOfSame_34 : decode c_Items_loadOfSame 34 = .ok (.aaload, 1) := by decide +kernel
theorem d_Items_loadOfSame_35 : decode c_Items_loadOfSame 35 = .ok (.getfield 79, 3) := by decide +kernel
theorem d_Items_loadOfSame_38 : decode c_Items_loadOfSame 38 = .ok (.if_icmp .ne 10, 3) := by decide +kernel
theorem d_Items_loadOfSame_41 : decode c_Items_loadOfSame 41 = .ok (.aload_n 0, 1) := by decide +kernel
theorem d_Items_loadOfSame_42 : decode c_Items_loadOfSame 42 = .ok (.getfield 11, 3) := by decide +kernel
theorem d_Items_loadOfSame_45 : decode c_Items_loadOfSame 45 = .ok (.iload_n 3, 1) := by decide +kernel
theorem d_Items_loadOfSame_46 : decode c_Items_loadOfSame 46 = .ok (.aaload, 1) := by decide +kernel
theorem d_Items_loadOfSame_47 : decode c_Items_loadOfSame 47 = .ok (.areturn, 1) := by decide +kernel
theorem d_Items_loadOfSame_48 : decode c_Items_loadOfSame 48 = .ok (.iinc 3 1, 3) := by decide +kernel
theorem d_Items_loadOfSame_51 : decode c_Items_loadOfSame 51 = .ok (.goto (-49), 3) := by decide +kernel
theorem d_Items_loadOfSame_54 : decode c_Items_loadOfSame 54 = .ok (.aconst_null, 1) := by decide +kernel
theorem d_Items_loadOfSame_55 : decode c_Items_loadOfSame 55 = .ok (.areturn, 1) := by decide +kernel
theorem d_Items_tellPool_0 : decode c_Items_tellPool 0 = .ok (.iload_n 1, 1) := by decide +kernel
theorem d_Items_tellPool_1 : decode c_Items_tellPool 1 = .ok (.istore_n 3, 1) := by decide +kernel
theorem d_Items_tellPool_2 : decode c_Items_tellPool 2 = .ok (.iload_n 3, 1) := by decide +kernel
theorem d_Items_tellPool_3 : decode c_Items_tellPool 3 = .ok (.iload_n 2, 1) := by decide +kernel
theorem d_Items_tellPool_4 : decode c_Items_tellPool 4 = .ok (.if_icmp .ge 41, 3) := by decide +kernel
theorem d_Items_tellPool_7 : decode c_Items_tellPool 7 = .ok (.aload_n 0, 1) := by decide +kernel
theorem d_Items_tellPool_8 : decode c_Items_tellPool 8 = .ok (.getfield 11, 3) := by decide +kernel
theorem d_Items_tellPool_11 : decode c_Items_tellPool 11 = .ok (.iload_n 3, 1) := by decide +kernel
theorem d_Items_tellPool_12 : decode c_Items_tellPool 12 = .ok (.aaload, 1) := by decide +kernel
theorem d_Items_tellPool_13 : decode c_Items_tellPool 13 = .ok (.aload_n 0, 1) := by decide +kernel
theorem d_Items_tellPool_14 : decode c_Items_tellPool 14 = .ok (.getfield 11, 3) := by decide +kernel
theorem d_Items_tellPool_17 : decode c_Items_tellPool 17 = .ok (.iload_n 3, 1) := by decide +kernel
theorem d_Items_tellPool_18 : decode c_Items_tellPool 18 = .ok (.aaload, 1) := by decide +kernel
theorem d_Items_tellPool_19 : decode c_Items_tellPool 19 = .ok (.getfield 32, 3) := by decide +kernel
theorem d_Items_tellPool_22 : decode c_Items_tellPool 22 = .ok (.iconst 5, 1) := by decide +kernel
theorem d_Items_tellPool_23 : decode c_Items_tellPool 23 = .ok (.if_icmp .ne 12, 3) := by decide +kernel
theorem d_Items_tellPool_26 : decode c_Items_tellPool 26 = .ok (.aload_n 0, 1) := by decide +kernel
theorem d_Items_tellPool_27 : decode c_Items_tellPool 27 = .ok (.getfield 11, 3) := by decide +kernel
theorem d_Items_tellPool_30 : decode c_Items_tellPool 30 = .ok (.iload_n 2, 1) := by decide +kernel
theorem d_Items_tellPool_31 : decode c_Items_tellPool 31 = .ok (.aaload, 1) := by decide +kernel
theorem d_Items_tellPool_32 : decode c_Items_tellPool 32 = .ok (.goto 4, 3) := by decide +kernel
theorem d_Items_tellPool_35 : decode c_Items_tellPool 35 = .ok (.aconst_null, 1) := by decide +kernel
theorem d_Items_tellPool_36 : decode c_Items_tellPool 36 = .ok (.putfield 82, 3) := by decide +kernel
theorem d_Items_tellPool_39 : decode c_Items_tellPool 39 = .ok (.iinc 3 1, 3) := by decide +kernel
theorem d_Items_tellPool_42 : decode c_Items_tellPool 42 = .ok (.goto (-40), 3) := by decide +kernel
theorem d_Items_tellPool_45 : decode c_Items_tellPool 45 = .ok (.return_, 1) := by decide +kernel
theorem d_Items_place_0 : decode c_Items_place 0 = .ok (.iconst 0, 1) := by decide +kernel
theorem d_Items_place_1 : decode c_Items_place 1 = .ok (.istore_n 1, 1) := by decide +kernel
theorem d_Items_place_2 : decode c_Items_place 2 = .ok (.iconst 0, 1) := by decide +kernel
theorem d_Items_place_3 : decode c_Items_place 3 = .ok (.istore_n 2, 1) := by decide +kernel
theorem d_Items_place_4 : decode c_Items_place 4 = .ok (.iload_n 2, 1) := by decide +kernel
theorem d_Items_place_5 : decode c_Items_place 5 = .ok (.aload_n 0, 1) := by decide +kernel
theorem d_Items_place_6 : decode c_Items_place 6 = .ok (.getfield 18, 3) := by decide +kernel
theorem d_Items_place_9 : decode c_Items_place 9 = .ok (.if_icmp .ge 84, 3) := by decide +kernel
theorem d_Items_place_12 : decode c_Items_place 12 = .ok (.aload_n 0, 1) := by decide +kernel
theorem d_Items_place_13 : decode c_Items_place 13 = .ok (.getfield 11, 3) := by decide +kernel
theorem d_Items_place_16 : decode c_Items_place 16 = .ok (.iload_n 2, 1) := by decide +kernel
theorem d_Items_place_17 : decode c_Items_place 17 = .ok (.aaload, 1) := by decide +kernel
theorem d_Items_place_18 : decode c_Items_place 18 = .ok (.iload_n 1, 1) := by decide +kernel
theorem d_Items_place_19 : decode c_Items_place 19 = .ok (.putfield 85, 3) := by decide +kernel
theorem d_Items_place_22 : decode c_Items_place 22 = .ok (.aload_n 0, 1) := by decide +kernel
theorem d_Items_place_23 : decode c_Items_place 23 = .ok (.getfield 11, 3) := by decide +kernel
theorem d_Items_place_26 : decode c_Items_place 26 = .ok (.iload_n 2, 1) := by decide +kernel
theorem d_Items_place_27 : decode c_Items_place 27 = .ok (.aaload, 1) := by decide +kernel
theorem d_Items_place_28 : decode c_Items_place 28 = .ok (.aload_n 0, 1) := by decide +kernel
theorem d_Items_place_29 : decode c_Items_place 29 = .ok (.getfield 11, 3) := by decide +kernel
theorem d_Items_place_32 : decode c_Items_place 32 = .ok (.iload_n 2, 1) := by decide +kernel
theorem d_Items_place_33 : decode c_Items_place 33 = .ok (.aaload, 1) := by decide +kernel
theorem d_Items_place_34 : decode c_Items_place 34 = .ok (.iload_n 1, 1) := by decide +kernel
theorem d_Items_place_35 : decode c_Items_place 35 = .ok (.invokevirtual 88, 3) := by decide +kernel
theorem d_Items_place_38 : decode c_Items_place 38 = .ok (.putfield 92, 3) := by decide +kernel
theorem d_Items_place_41 : decode c_Items_place 41 = .ok (.aload_n 0, 1) := by decide +kernel
theorem d_Items_place_42 : decode c_Items_place 42 = .ok (.getfield 11, 3) := by decide +kernel
theorem d_Items_place_45 : decode c_Items_place 45 = .ok (.iload_n 2, 1) := by decide +kernel
theorem d_Items_place_46 : decode c_Items_place 46 = .ok (.aaload, 1) := by decide +kernel
theorem d_Items_place_47 : decode c_Items_place 47 = .ok (.aload_n 0, 1) := by decide +kernel
theorem d_Items_place_48 : decode c_Items_place 48 = .ok (.getfield 11, 3) := by decide +kernel
theorem d_Items_place_51 : decode c_Items_place 51 = .ok (.iload_n 2, 1) := by decide +kernel
theorem d_Items_place_52 : decode c_Items_place 52 = .ok (.aaload, 1) := by decide +kernel
theorem d_Items_place_53 : decode c_Items_place 53 = .ok (.getfield 32, 3) := by decide +kernel
theorem d_Items_place_56 : decode c_Items_place 56 = .ok (.ifCond .ne 7, 3) := by decide +kernel
theorem d_Items_place_59 : decode c_Items_place 59 = .ok (.iload_n 1, 1) := by decide +kernel
theorem d_Items_place_60 : decode c_Items_place 60 = .ok (.goto 12, 3) := by decide +kernel
theorem d_Items_place_63 : decode c_Items_place 63 = .ok (.aload_n 0, 1) := by decide +kernel
theorem d_Items_place_64 : decode c_Items_place 64 = .ok (.getfield 11, 3) := by decide +kernel
theorem d_Items_place_67 : decode c_Items_place 67 = .ok (.iload_n 2, 1) := by decide +kernel
theorem d_Items_place_68 : decode c_Items_place 68 = .ok (.aaload, 1) := by decide +kernel
theorem d_Items_place_69 : decode c_Items_place 69 = .ok (.getfield 95, 3) := by decide +kernel
theorem d_Items_place_72 : decode c_Items_place 72 = .ok (.putfield 95, 3) := by decide +kernel
theorem d_Items_place_75 : decode c_Items_place 75 = .ok (.iload_n 1, 1) := by decide +kernel
theorem d_Items_place_76 : decode c_Items_place 76 = .ok (.aload_n 0, 1) := by decide +kernel
theorem d_Items_place_77 : decode c_Items_place 77 = .ok (.getfield 11, 3) := by decide +kernel
theorem d_Items_place_80 : decode c_Items_place 80 = .ok (.iload_n 2, 1) := by decide +kernel
theorem d_Items_place_81 : decode c_Items_place 81 = .ok (.aaload, 1) := by decide +kernel
theorem d_Items_place_82 : decode c_Items_place 82 = .ok (.getfield 92, 3) := by decide +kernel
theorem d_Items_place_85 : decode c_Items_place 85 = .ok (.iadd, 1) := by decide +kernel
theorem d_Items_place_86 : decode c_Items_place 86 = .ok (.istore_n 1, 1) := by decide +kernel
theorem d_Items_place_87 : decode c_Items_place 87 = .ok (.iinc 2 1, 3) := by decide +kernel
theorem d_Items_place_90 : decode c_Items_place 90 = .ok (.goto (-86), 3) := by decide +kernel
theorem d_Items_place_93 : decode c_Items_place 93 = .ok (.return_, 1) := by decide +kernel
theorem d_Items_lengthen_0 : decode c_Items_lengthen 0 = .ok (.iconst 0, 1) := by decide +kernel
theorem d_Items_lengthen_1 : decode c_Items_lengthen 1 = .ok (.istore_n 1, 1) := by decide +kernel
theorem d_Items_lengthen_2 : decode c_Items_lengthen 2 = .ok (.iconst 0, 1) := by decide +kernel
theorem d_Items_lengthen_3 : decode c_Items_lengthen 3 = .ok (.istore_n 2, 1) := by decide +kernel
theorem d_Items_lengthen_4 : decode c_Items_lengthen 4 = .ok (.iload_n 2, 1) := by decide +kernel
theorem d_Items_lengthen_5 : decode c_Items_lengthen 5 = .ok (.aload_n 0, 1) := by decide +kernel
theorem d_Items_lengthen_6 : decode c_Items_lengthen 6 = .ok (.getfield 18, 3) := by decide +kernel
theorem d_Items_lengthen_9 : decode c_Items_lengthen 9 = .ok (.if_icmp .ge 57, 3) := by decide +kernel
theorem d_Items_lengthen_12 : decode c_Items_lengthen 12 = .ok (.aload_n 0, 1) := by decide +kernel
theorem d_Items_lengthen_13 : decode c_Items_lengthen 13 = .ok (.getfield 11, 3) := by decide +kernel
theorem d_Items_lengthen_16 : decode c_Items_lengthen 16 = .ok (.iload_n 2, 1) := by decide +kernel
theorem d_Items_lengthen_17 : decode c_Items_lengthen 17 = .ok (.aaload, 1) := by decide +kernel
theorem d_Items_lengthen_18 : decode c_Items_lengthen 18 = .ok (.invokevirtual 98, 3) := by decide +kernel
theorem d_Items_lengthen_21 : decode c_Items_lengthen 21 = .ok (.ifCond .eq 39, 3) := by decide +kernel
theorem d_Items_lengthen_24 : decode c_Items_lengthen 24 = .ok (.aload_n 0, 1) := by decide +kernel
theorem d_Items_lengthen_25 : decode c_Items_lengthen 25 = .ok (.getfield 11, 3) := by decide +kernel
theorem d_Items_lengthen_28 : decode c_Items_lengthen 28 = .ok (.iload_n 2, 1) := by decide +kernel
theorem d_Items_lengthen_29 : decode c_Items_lengthen 29 = .ok (.aaload, 1) := by decide +kernel
theorem d_Items_lengthen_30 : decode c_Items_lengthen 30 = .ok (.getfield 101, 3) := by decide +kernel
theorem d_Items_lengthen_33 : decode c_Items_lengthen 33 = .ok (.ifCond .ne 27, 3) := by decide +kernel
theorem d_Items_lengthen_36 : decode c_Items_lengthen 36 = .ok (.aload_n 0, 1) := by decide +kernel
theorem d_Items_lengthen_37 : decode c_Items_lengthen 37 = .ok (.getfield 11, 3) := by decide +kernel
theorem d_Items_lengthen_40 : decode c_Items_lengthen 40 = .ok (.iload_n 2, 1) := by decide +kernel
theorem d_Items_lengthen_41 : decode c_Items_lengthen 41 = .ok (.aaload, 1) := by decide +kernel
theorem d_Items_lengthen_42 : decode c_Items_lengthen 42 = .ok (.invokevirtual 105, 3) := by decide +kernel
theorem d_Items_lengthen_45 : decode c_Items_lengthen 45 = .ok (.ifCond .ne 15, 3) := by decide +kernel
theorem d_Items_lengthen_48 : decode c_Items_lengthen 48 = .ok (.aload_n 0, 1) := by decide +kernel
theorem d_Items_lengthen_49 : decode c_Items_lengthen 49 = .ok (.getfield 11, 3) := by decide +kernel
theorem d_Items_lengthen_52 : decode c_Items_lengthen 52 = .ok (.iload_n 2, 1) := by decide +kernel
theorem d_Items_lengthen_53 : decode c_Items_lengthen 53 = .ok (.aaload, 1) := by decide +kernel
theorem d_Items_lengthen_54 : decode c_Items_lengthen 54 = .ok (.iconst 1, 1) := by decide +kernel
theorem d_Items_lengthen_55 : decode c_Items_lengthen 55 = .ok (.putfield 101, 3) := by decide +kernel
theorem d_Items_lengthen_58 : decode c_Items_lengthen 58 = .ok (.iconst 1, 1) := by decide +kernel
theorem d_Items_lengthen_59 : decode c_Items_lengthen 59 = .ok (.istore_n 1, 1) := by decide +kernel
theorem d_Items_lengthen_60 : decode c_Items_lengthen 60 = .ok (.iinc 2 1, 3) := by decide +kernel
theorem d_Items_lengthen_63 : decode c_Items_lengthen 63 = .ok (.goto (-59), 3) := by decide +kernel
theorem d_Items_lengthen_66 : decode c_Items_lengthen 66 = .ok (.iload_n 1, 1) := by decide +kernel
theorem d_Items_lengthen_67 : decode c_Items_lengthen 67 = .ok (.ireturn, 1) := by decide +kernel
theorem d_Items_firstFarLoad_0 : decode c_Items_firstFarLoad 0 = .ok (.iconst 0, 1) := by decide +kernel
theorem d_Items_firstFarLoad_1 : decode c_Items_firstFarLoad 1 = .ok (.istore_n 1, 1) := by decide +kernel
theorem d_Items_firstFarLoad_2 : decode c_Items_firstFarLoad 2 = .ok (.iload_n 1, 1) := by decide +kernel
theorem d_Items_firstFarLoad_3 : decode c_Items_firstFarLoad 3 = .ok (.aload_n 0, 1) := by decide +kernel
theorem d_Items_firstFarLoad_4 : decode c_Items_firstFarLoad 4 = .ok (.getfield 18, 3) := by decide +kernel
theorem d_Items_firstFarLoad_7 : decode c_Items_firstFarLoad 7 = .ok (.if_icmp .ge 38, 3) := by decide +kernel
theorem d_Items_firstFarLoad_10 : decode c_Items_firstFarLoad 10 = .ok (.aload_n 0, 1) := by decide +kernel
theorem d_Items_firstFarLoad_11 : decode c_Items_firstFarLoad 11 = .ok (.getfield 11, 3) := by decide +kernel
theorem d_Items_firstFarLoad_14 : decode c_Items_firstFarLoad 14 = .ok (.iload_n 1, 1) := by decide +kernel
theorem d_Items_firstFarLoad_15 : decode c_Items_firstFarLoad 15 = .ok (.aaload, 1) := by decide +kernel
theorem d_Items_firstFarLoad_16 : decode c_Items_firstFarLoad 16 = .ok (.getfield 32, 3) := by decide +kernel
theorem d_Items_firstFarLoad_19 : decode c_Items_firstFarLoad 19 = .ok (.iconst 5, 1) := by decide +kernel
theorem d_Items_firstFarLoad_20 : decode c_Items_firstFarLoad 20 = .ok (.if_icmp .ne 19, 3) := by decide +kernel
theorem d_Items_firstFarLoad_23 : decode c_Items_firstFarLoad 23 = .ok (.aload_n 0, 1) := by decide +kernel
theorem d_Items_firstFarLoad_24 : decode c_Items_firstFarLoad 24 = .ok (.getfield 11, 3) := by decide +kernel
theorem d_Items_firstFarLoad_27 : decode c_Items_firstFarLoad 27 = .ok (.iload_n 1, 1) := by decide +kernel
theorem d_Items_firstFarLoad_28 : decode c_Items_firstFarLoad 28 = .ok (.aaload, 1) := by decide +kernel
theorem d_Items_firstFarLoad_29 : decode c_Items_firstFarLoad 29 = .ok (.invokevirtual 108, 3) := by decide +kernel
theorem d_Items_firstFarLoad_32 : decode c_Items_firstFarLoad 32 = .ok (.bipush 16, 2) := by decide +kernel
theorem d_Items_firstFarLoad_34 : decode c_Items_firstFarLoad 34 = .ok (.if_icmp .le 5, 3) := by decide +kernel
theorem d_Items_firstFarLoad_37 : decode c_Items_firstFarLoad 37 = .ok (.iload_n 1, 1) := by decide +kernel
theorem d_Items_firstFarLoad_38 : decode c_Items_firstFarLoad 38 = .ok (.ireturn, 1) := by decide +kernel
theorem d_Items_firstFarLoad_39 : decode c_Items_firstFarLoad 39 = .ok (.iinc 1 1, 3) := by decide +kernel
theorem d_Items_firstFarLoad_42 : decode c_Items_firstFarLoad 42 = .ok (.goto (-40), 3) := by decide +kernel
theorem d_Items_firstFarLoad_45 : decode c_Items_firstFarLoad 45 = .ok (.iconst (-1), 1) := by decide +kernel
theorem d_Items_firstFarLoad_46 : decode c_Items_firstFarLoad 46 = .ok (.ireturn, 1) := by decide +kernel
theorem d_Items_countNeedlesslyLong_0 : decode c_Items_countNeedlesslyLong 0 = .ok (.iconst 0, 1) := by decide +kernel
theorem d_Items_countNeedlesslyLong_1 : decode c_Items_countNeedlesslyLong 1 = .ok (.istore_n 1, 1) := by decide +kernel
theorem d_Items_countNeedlesslyLong_2 : decode c_Items_countNeedlesslyLong 2 = .ok (.iconst 0, 1) := by decide +kernel
theorem d_Items_countNeedlesslyLong_3 : decode c_Items_countNeedlesslyLong 3 = .ok (.istore_n 2, 1) := by decide +kernel
theorem d_Items_countNeedlesslyLong_4 : decode c_Items_countNeedlesslyLong 4 = .ok (.iload_n 2, 1) := by decide +kernel
theorem d_Items_countNeedlesslyLong_5 : decode c_Items_countNeedlesslyLong 5 = .ok (.aload_n 0, 1) := by decide +kernel
theorem d_Items_countNeedlesslyLong_6 : decode c_Items_countNeedlesslyLong 6 = .ok (.getfield 18, 3) := by decide +kernel
theorem d_Items_countNeedlesslyLong_9 : decode c_Items_countNeedlesslyLong 9 = .ok (.if_icmp .ge 65, 3) := by decide +kernel
theorem d_Items_countNeedlesslyLong_12 : decode c_Items_countNeedlesslyLong 12 = .ok (.aload_n 0, 1) := by decide +kernel
theorem d_Items_countNeedlesslyLong_13 : decode c_Items_countNeedlesslyLong 13 = .ok (.getfield 11, 3) := by decide +kernel
theorem d_Items_countNeedlesslyLong_16 : decode c_Items_countNeedlesslyLong 16 = .ok (.iload_n 2, 1) := by decide +kernel
theorem d_Items_countNeedlesslyLong_17 : decode c_Items_countNeedlesslyLong 17 = .ok (.aaload, 1) := by decide +kernel
theorem d_Items_countNeedlesslyLong_18 : decode c_Items_countNeedlesslyLong 18 = .ok (.getfield 101, 3) := by decide +kernel
theorem d_Items_countNeedlesslyLong_21 : decode c_Items_countNeedlesslyLong 21 = .ok (.ifCond .eq 47, 3) := by decide +kernel
theorem d_Items_countNeedlesslyLong_24 : decode c_Items_countNeedlesslyLong 24 = .ok (.aload_n 0, 1) := by decide +kernel
theorem d_Items_countNeedlesslyLong_25 : decode c_Items_countNeedlesslyLong 25 = .ok (.getfield 11, 3) := by decide +kernel
theorem d_Items_countNeedlesslyLong_28 : decode c_Items_countNeedlesslyLong 28 = .ok (.iload_n 2, 1) := by decide +kernel
theorem d_Items_countNeedlesslyLong_29 : decode c_Items_countNeedlesslyLong 29 = .ok (.aaload, 1) := by decide +kernel
theorem d_Items_countNeedlesslyLong_30 : decode c_Items_countNeedlesslyLong 30 = .ok (.iconst 0, 1) := by decide +kernel
theorem d_Items_countNeedlesslyLong_31 : decode c_Items_countNeedlesslyLong 31 = .ok (.putfield 101, 3) := by decide +kernel
theorem d_Items_countNeedlesslyLong_34 : decode c_Items_countNeedlesslyLong 34 = .ok (.aload_n 0, 1) := by decide +kernel
theorem d_Items_countNeedlesslyLong_35 : decode c_Items_countNeedlesslyLong 35 = .ok (.invokevirtual 112, 3) := by decide +kernel
theorem d_Items_countNeedlesslyLong_38 : decode c_Items_countNeedlesslyLong 38 = .ok (.iload_n 1, 1) := by decide +kernel
theorem d_Items_countNeedlesslyLong_39 : decode c_Items_countNeedlesslyLong 39 = .ok (.aload_n 0, 1) := by decide +kernel
theorem d_Items_countNeedlesslyLong_40 : decode c_Items_countNeedlesslyLong 40 = .ok (.getfield 11, 3) := by decide +kernel
theorem d_Items_countNeedlesslyLong_43 : decode c_Items_countNeedlesslyLong 43 = .ok (.iload_n 2, 1) := by decide +kernel
theorem d_Items_countNeedlesslyLong_44 : decode c_Items_countNeedlesslyLong 44 = .ok (.aaload, 1) := by decide +kernel
theorem d_Items_countNeedlesslyLong_45 : decode c_Items_countNeedlesslyLong 45 = .ok (.invokevirtual 105, 3) := by decide +kernel
theorem d_Items_countNeedlesslyLong_48 : decode c_Items_countNeedlesslyLong 48 = .ok (.ifCond .eq 7, 3) := by decide +kernel
theorem d_Items_countNeedlesslyLong_51 : decode c_Items_countNeedlesslyLong 51 = .ok (.iconst 1, 1) := by decide +kernel
theorem d_Items_countNeedlesslyLong_52 : decode c_Items_countNeedlesslyLong 52 = .ok (.goto 4, 3) := by decide +kernel
theorem d_Items_countNeedlesslyLong_55 : decode c_Items_countNeedlesslyLong 55 = .ok (.iconst 0, 1) := by decide +kernel
theorem d_Items_countNeedlesslyLong_56 : decode c_Items_countNeedlesslyLong 56 = .ok (.iadd, 1) := by decide +kernel
theorem d_Items_countNeedlesslyLong_57 : decode c_Items_countNeedlesslyLong 57 = .ok (.istore_n 1, 1) := by decide +kernel
theorem d_Items_countNeedlesslyLong_58 : decode c_Items_countNeedlesslyLong 58 = .ok (.aload_n 0, 1) := by decide +kernel
theorem d_Items_countNeedlesslyLong_59 : decode c_Items_countNeedlesslyLong 59 = .ok (.getfield 11, 3) := by decide +kernel
theorem d_Items_countNeedlesslyLong_62 : decode c_Items_countNeedlesslyLong 62 = .ok (.iload_n 2, 1) := by decide +kernel
theorem d_Items_countNeedlesslyLong_63 : decode c_Items_countNeedlesslyLong 63 = .ok (.aaload, 1) := by decide +kernel
theorem d_Items_countNeedlesslyLong_64 : decode c_Items_countNeedlesslyLong 64 = .ok (.iconst 1, 1) := by decide +kernel
theorem d_Items_countNeedlesslyLong_65 : decode c_Items_countNeedlesslyLong 65 = .ok (.putfield 101, 3) := by decide +kernel
theorem d_Items_countNeedlesslyLong_68 : decode c_Items_countNeedlesslyLong 68 = .ok (.iinc 2 1, 3) := by decide +kernel
theorem d_Items_countNeedlesslyLong_71 : decode c_Items_countNeedlesslyLong 71 = .ok (.goto (-67), 3) := by decide +kernel
theorem d_Items_countNeedlesslyLong_74 : decode c_Items_countNeedlesslyLong 74 = .ok (.aload_n 0, 1) := by decide +kernel
theorem d_Items_countNeedlesslyLong_75 : decode c_Items_countNeedlesslyLong 75 = .ok (.invokevirtual 112, 3) := by decide +kernel
theorem d_Items_countNeedlesslyLong_78 : decode c_Items_countNeedlesslyLong 78 = .ok (.iload_n 1, 1) := by decide +kernel
theorem d_Items_countNeedlesslyLong_79 : decode c_Items_countNeedlesslyLong 79 = .ok (.ireturn, 1) := by decide +kernel
theorem d_Items_tally_0 : decode c_Items_tally 0 = .ok (.iconst 0, 1) := by decide +kernel
theorem d_Items_tally_1 : decode c_Items_tally 1 = .ok (.istore_n 2, 1) := by decide +kernel
theorem d_Items_tally_2 : decode c_Items_tally 2 = .ok (.iconst 0, 1) := by decide +kernel
theorem d_Items_tally_3 : decode c_Items_tally 3 = .ok (.istore_n 3, 1) := by decide +kernel
theorem d_Items_tally_4 : decode c_Items_tally 4 = .ok (.iload_n 3, 1) := by decide +kernel
theorem d_Items_tally_5 : decode c_Items_tally 5 = .ok (.aload_n 0, 1) := by decide +kernel
theorem d_Items_tally_6 : decode c_Items_tally 6 = .ok (.getfield 18, 3) := by decide +kernel
theorem d_Items_tally_9 : decode c_Items_tally 9 = .ok (.if_icmp .ge 22, 3) := by decide +kernel
theorem d_Items_tally_12 : decode c_Items_tally 12 = .ok (.iload_n 2, 1) := by decide +kernel
theorem d_Items_tally_13 : decode c_Items_tally 13 = .ok (.aload_n 0, 1) := by decide +kernel
theorem d_Items_tally_14 : decode c_Items_tally 14 = .ok (.getfield 11, 3) := by decide +kernel
theorem d_Items_tally_17 : decode c_Items_tally 17 = .ok (.iload_n 3, 1) := by decide +kernel
theorem d_Items_tally_18 : decode c_Items_tally 18 = .ok (.aaload, 1) := by decide +kernel
theorem d_Items_tally_19 : decode c_Items_tally 19 = .ok (.iload_n 1, 1) := by decide +kernel
theorem d_Items_tally_20 : decode c_Items_tally 20 = .ok (.invokevirtual 114, 3) := by decide +kernel
theorem d_Items_tally_23 : decode c_Items_tally 23 = .ok (.iadd, 1) := by decide +kernel
theorem d_Items_tally_24 : decode c_Items_tally 24 = .ok (.istore_n 2, 1) := by decide +kernel
theorem d_Items_tally_25 : decode c_Items_tally 25 = .ok (.iinc 3 1, 3) := by decide +kernel
theorem d_Items_tally_28 : decode c_Items_tally 28 = .ok (.goto (-24), 3) := by decide +kernel
theorem d_Items_tally_31 : decode c_Items_tally 31 = .ok (.iload_n 2, 1) := by decide +kernel
theorem d_Items_tally_32 : decode c_Items_tally 32 = .ok (.ireturn, 1) := by decide +kernel
theorem d_Items_holderOf_0 : decode c_Items_holderOf 0 = .ok (.iconst 0, 1) := by decide +kernel
theorem d_Items_holderOf_1 : decode c_Items_holderOf 1 = .ok (.istore_n 2, 1) := by decide +kernel
theorem d_Items_holderOf_2 : decode c_Items_holderOf 2 = .ok (.iload_n 2, 1) := by decide +kernel
theorem d_Items_holderOf_3 : decode c_Items_holderOf 3 = .ok (.aload_n 0, 1) := by decide +kernel
theorem d_Items_holderOf_4 : decode c_Items_holderOf 4 = .ok (.getfield 18, 3) := by decide +kernel
theorem d_Items_holderOf_7 : decode c_Items_holderOf 7 = .ok (.if_icmp .ge 41, 3) := by decide +kernel
theorem d_Items_holderOf_10 : decode c_Items_holderOf 10 = .ok (.aload_n 0, 1) := by decide +kernel
theorem d_Items_holderOf_11 : decode c_Items_holderOf 11 = .ok (.getfield 11, 3) := by decide +kernel
theorem d_Items_holderOf_14 : decode c_Items_holderOf 14 = .ok (.iload_n 2, 1) := by decide +kernel
theorem d_Items_holderOf_15 : decode c_Items_holderOf 15 = .ok (.aaload, 1) := by decide +kernel
theorem d_Items_holderOf_16 : decode c_Items_holderOf 16 = .ok (.getfield 85, 3) := by decide +kernel
theorem d_Items_holderOf_19 : decode c_Items_holderOf 19 = .ok (.istore_n 3, 1) := by decide +kernel
theorem d_Items_holderOf_20 : decode c_Items_holderOf 20 = .ok (.iload_n 1, 1) := by decide +kernel
theorem d_Items_holderOf_21 : decode c_Items_holderOf 21 = .ok (.iload_n 3, 1) := by decide +kernel
theorem d_Items_holderOf_22 : decode c_Items_holderOf 22 = .ok (.if_icmp .lt 20, 3) := by decide +kernel
theorem d_Items_holderOf_25 : decode c_Items_holderOf 25 = .ok (.iload_n 1, 1) := by decide +kernel
theorem d_Items_holderOf_26 : decode c_Items_holderOf 26 = .ok (.iload_n 3, 1) := by decide +kernel
theorem d_Items_holderOf_27 : decode c_Items_holderOf 27 = .ok (.aload_n 0, 1) := by decide +kernel
theorem d_Items_holderOf_28 : decode c_Items_holderOf 28 = .ok (.getfield 11, 3) := by decide +kernel
theorem d_Items_holderOf_31 : decode c_Items_holderOf 31 = .ok (.iload_n 2, 1) := by decide +kernel
theorem d_Items_holderOf_32 : decode c_Items_holderOf 32 = .ok (.aaload, 1) := by decide +kernel
theorem d_Items_holderOf_33 : decode c_Items_holderOf 33 = .ok (.getfield 92, 3) := by decide +kernel
theorem d_Items_holderOf_36 : decode c_Items_holderOf 36 = .ok (.iadd, 1) := by decide +kernel
theorem d_Items_holderOf_37 : decode c_Items_holderOf 37 = .ok (.if_icmp .ge 5, 3) := by decide +kernel
theorem d_Items_holderOf_40 : decode c_Items_holderOf 40 = .ok (.iload_n 2, 1) := by decide +kernel
theorem d_Items_holderOf_41 : decode c_Items_holderOf 41 = .ok (.ireturn, 1) := by decide +kernel
theorem d_Items_holderOf_42 : decode c_Items_holderOf 42 = .ok (.iinc 2 1, 3) := by decide +kernel
theorem d_Items_holderOf_45 : decode c_Items_holderOf 45 = .ok (.goto (-43), 3) := by decide +kernel
theorem d_Items_holderOf_48 : decode c_Items_holderOf 48 = .ok (.iconst (-1), 1) := by decide +kernel
theorem d_Items_holderOf_49 : decode c_Items_holderOf 49 = .ok (.ireturn, 1) := by decide +kernel
theorem d_Items_firstWith_0 : decode c_Items_firstWith 0 = .ok (.aload_n 0, 1) := by decide +kernel
theorem d_Items_firstWith_1 : decode c_Items_firstWith 1 = .ok (.iload_n 1, 1) := by decide +kernel
theorem d_Items_firstWith_2 : decode c_Items_firstWith 2 = .ok (.invokevirtual 117, 3) := by decide +kernel
theorem d_Items_firstWith_5 : decode c_Items_firstWith 5 = .ok (.iconst (-1), 1) := by decide +kernel
theorem d_Items_firstWith_6 : decode c_Items_firstWith 6 = .ok (.if_icmp .ne 5, 3) := by decide +kernel
theorem d_Items_firstWith_9 : decode c_Items_firstWith 9 = .ok (.iconst (-1), 1) := by decide +kernel
theorem d_Items_firstWith_10 : decode c_Items_firstWith 10 = .ok (.ireturn, 1) := by decide +kernel
theorem d_Items_firstWith_11 : decode c_Items_firstWith 11 = .ok (.iconst 0, 1) := by decide +kernel
theorem d_Items_firstWith_12 : decode c_Items_firstWith 12 = .ok (.istore_n 2, 1) := by decide +kernel
theorem d_Items_firstWith_13 : decode c_Items_firstWith 13 = .ok (.iload_n 2, 1) := by decide +kernel
theorem d_Items_firstWith_14 : decode c_Items_firstWith 14 = .ok (.aload_n 0, 1) := by decide +kernel
theorem d_Items_firstWith_15 : decode c_Items_firstWith 15 = .ok (.getfield 18, 3) := by decide +kernel
theorem d_Items_firstWith_18 : decode c_Items_firstWith 18 = .ok (.if_icmp .ge 24, 3) := by decide +kernel
theorem d_Items_firstWith_21 : decode c_Items_firstWith 21 = .ok (.aload_n 0, 1) := by decide +kernel
theorem d_Items_firstWith_22 : decode c_Items_firstWith 22 = .ok (.getfield 11, 3) := by decide +kernel
theorem d_Items_firstWith_25 : decode c_Items_firstWith 25 = .ok (.iload_n 2, 1) := by decide +kernel
theorem d_Items_firstWith_26 : decode c_Items_firstWith 26 = .ok (.aaload, 1) := by decide +kernel
theorem d_Items_firstWith_27 : decode c_Items_firstWith 27 = .ok (.getfield 85, 3) := by decide +kernel
theorem d_Items_firstWith_30 : decode c_Items_firstWith 30 = .ok (.iload_n 1, 1) := by decide +kernel
theorem d_Items_firstWith_31 : decode c_Items_firstWith 31 = .ok (.if_icmp .ne 5, 3) := by decide +kernel
theorem d_Items_firstWith_34 : decode c_Items_firstWith 34 = .ok (.iload_n 2, 1) := by decide +kernel
theorem d_Items_firstWith_35 : decode c_Items_firstWith 35 = .ok (.ireturn, 1) := by decide +kernel
theorem d_Items_firstWith_36 : decode c_Items_firstWith 36 = .ok (.iinc 2 1, 3) := by decide +kernel
theorem d_Items_firstWith_39 : decode c_Items_firstWith 39 = .ok (.goto (-26), 3) := by decide +kernel
theorem d_Items_firstWith_42 : decode c_Items_firstWith 42 = .ok (.iconst (-1), 1) := by decide +kernel
theorem d_Items_firstWith_43 : decode c_Items_firstWith 43 = .ok (.ireturn, 1) := by decide +kernel
theorem d_Items_wordOf_0 : decode c_Items_wordOf 0 = .ok (.aload_n 1, 1) := by decide +kernel
theorem d_Items_wordOf_1 : decode c_Items_wordOf 1 = .ok (.getfield 32, 3) := by decide +kernel
theorem d_Items_wordOf_4 : decode c_Items_wordOf 4 = .ok (.tableswitch 65 2 6 #[36, 41, 41, 47, 58], 36) := by decide +kernel
theorem d_Items_wordOf_40 : decode c_Items_wordOf 40 = .ok (.aload_n 1, 1) := by decide +kernel
theorem d_Items_wordOf_41 : decode c_Items_wordOf 41 = .ok (.invokevirtual 120, 3) := by decide +kernel
theorem d_Items_wordOf_44 : decode c_Items_wordOf 44 = .ok (.ireturn, 1) := by decide +kernel
theorem d_Items_wordOf_45 : decode c_Items_wordOf 45 = .ok (.aload_n 1, 1) := by decide +kernel
theorem d_Items_wordOf_46 : decode c_Items_wordOf 46 = .ok (.iload_n 2, 1) := by decide +kernel
theorem d_Items_wordOf_47 : decode c_Items_wordOf 47 = .ok (.invokevirtual 123, 3) := by decide +kernel
theorem d_Items_wordOf_50 : decode c_Items_wordOf 50 = .ok (.ireturn, 1) := by decide +kernel
theorem d_Items_wordOf_51 : decode c_Items_wordOf 51 = .ok (.sipush 5000, 3) := by decide +kernel
theorem d_Items_wordOf_54 : decode c_Items_wordOf 54 = .ok (.aload_n 1, 1) := by decide +kernel
theorem d_Items_wordOf_55 : decode c_Items_wordOf 55 = .ok (.invokevirtual 108, 3) := by decide +kernel
theorem d_Items_wordOf_58 : decode c_Items_wordOf 58 = .ok (.iadd, 1) := by decide +kernel
theorem d_Items_wordOf_59 : decode c_Items_wordOf 59 = .ok (.iconst 1, 1) := by decide +kernel
theorem d_Items_wordOf_60 : decode c_Items_wordOf 60 = .ok (.isub, 1) := by decide +kernel
theorem d_Items_wordOf_61 : decode c_Items_wordOf 61 = .ok (.ireturn, 1) := by decide +kernel
theorem d_Items_wordOf_62 : decode c_Items_wordOf 62 = .ok (.aload_n 0, 1) := by decide +kernel
theorem d_Items_wordOf_63 : decode c_Items_wordOf 63 = .ok (.aload_n 1, 1) := by decide +kernel
theorem d_Items_wordOf_64 : decode c_Items_wordOf 64 = .ok (.iload_n 2, 1) := by decide +kernel
theorem d_Items_wordOf_65 : decode c_Items_wordOf 65 = .ok (.invokevirtual 126, 3) := by decide +kernel
theorem d_Items_wordOf_68 : decode c_Items_wordOf 68 = .ok (.ireturn, 1) := by decide +kernel
theorem d_Items_wordOf_69 : decode c_Items_wordOf 69 = .ok (.iconst 0, 1) := by decide +kernel
theorem d_Items_wordOf_70 : decode c_Items_wordOf 70 = .ok (.ireturn, 1) := by decide +kernel
theorem d_Items_wordOfPool_0 : decode c_Items_wordOfPool 0 = .ok (.iconst 0, 1) := by decide +kernel
theorem d_Items_wordOfPool_1 : decode c_Items_wordOfPool 1 = .ok (.istore_n 3, 1) := by decide +kernel
theorem d_Items_wordOfPool_2 : decode c_Items_wordOfPool 2 = .ok (.iload_n 3, 1) := by decide +kernel
theorem d_Items_wordOfPool_3 : decode c_Items_wordOfPool 3 = .ok (.aload_n 0, 1) := by decide +kernel
theorem d_Items_wordOfPool_4 : decode c_Items_wordOfPool 4 = .ok (.getfield 18, 3) := by decide +kernel
theorem d_Items_wordOfPool_7 : decode c_Items_wordOfPool 7 = .ok (.if_icmp .ge 45, 3) := by decide +kernel
theorem d_Items_wordOfPool_10 : decode c_Items_wordOfPool 10 = .ok (.aload_n 0, 1) := by decide +kernel
theorem d_Items_wordOfPool_11 : decode c_Items_wordOfPool 11 = .ok (.getfield 11, 3) := by decide +kernel
theorem d_Items_wordOfPool_14 : decode c_Items_wordOfPool 14 = .ok (.iload_n 3, 1) := by decide +kernel
theorem d_Items_wordOfPool_15 : decode c_Items_wordOfPool 15 = .ok (.aaload, 1) := by decide +kernel
theorem d_Items_wordOfPool_16 : decode c_Items_wordOfPool 16 = .ok (.getfield 82, 3) := by decide +kernel
theorem d_Items_wordOfPool_19 : decode c_Items_wordOfPool 19 = .ok (.aload_n 1, 1) := by decide +kernel
theorem d_Items_wordOfPool_20 : decode c_Items_wordOfPool 20 = .ok (.if_acmp .ne 26, 3) := by decide +kernel
theorem d_Items_wordOfPool_23 : decode c_Items_wordOfPool 23 = .ok (.aload_n 0, 1) := by decide +kernel
theorem d_Items_wordOfPool_24 : decode c_Items_wordOfPool 24 = .ok (.getfield 11, 3) := by decide +kernel
theorem d_Items_wordOfPool_27 : decode c_Items_wordOfPool 27 = .ok (.iload_n 3, 1) := by decide +kernel
theorem d_Items_wordOfPool_28 : decode c_Items_wordOfPool 28 = .ok (.aaload, 1) := by decide +kernel
theorem d_Items_wordOfPool_29 : decode c_Items_wordOfPool 29 = .ok (.getfield 69, 3) := by decide +kernel
theorem d_Items_wordOfPool_32 : decode c_Items_wordOfPool 32 = .ok (.iload_n 2, 1) := by decide +kernel
theorem d_Items_wordOfPool_33 : decode c_Items_wordOfPool 33 = .ok (.if_icmp .ne 13, 3) := by decide +kernel
theorem d_Items_wordOfPool_36 : decode c_Items_wordOfPool 36 = .ok (.aload_n 0, 1) := by decide +kernel
theorem d_Items_wordOfPool_37 : decode c_Items_wordOfPool 37 = .ok (.getfield 11, 3) := by decide +kernel
theorem d_Items_wordOfPool_40 : decode c_Items_wordOfPool 40 = .ok (.iload_n 3, 1) := by decide +kernel
theorem d_Items_wordOfPool_41 : decode c_Items_wordOfPool 41 = .ok (.aaload, 1) := by decide +kernel
theorem d_Items_wordOfPool_42 : decode c_Items_wordOfPool 42 = .ok (.getfield 79, 3) := by decide +kernel
theorem d_Items_wordOfPool_45 : decode c_Items_wordOfPool 45 = .ok (.ireturn, 1) := by decide +kernel
theorem d_Items_wordOfPool_46 : decode c_Items_wordOfPool 46 = .ok (.iinc 3 1, 3) := by decide +kernel
theorem d_Items_wordOfPool_49 : decode c_Items_wordOfPool 49 = .ok (.goto (-47), 3) := by decide +kernel
theorem d_Items_wordOfPool_52 : decode c_Items_wordOfPool 52 = .ok (.iconst 0, 1) := by decide +kernel
theorem d_Items_wordOfPool_53 : decode c_Items_wordOfPool 53 = .ok (.ireturn, 1) := by decide +kernel
theorem d_Line_init_0 : decode c_Line_init 0 = .ok (.aload_n 0, 1) := by decide +kernel
theorem d_Line_init_1 : decode c_Line_init 1 = .ok (.invokespecial 3, 3) := by decide +kernel
theorem d_Line_init_4 : decode c_Line_init 4 = .ok (.aload_n 0, 1) := by decide +kernel
theorem d_Line_init_5 : decode c_Line_init 5 = .ok (.iload_n 1, 1) := by decide +kernel
theorem d_Line_init_6 : decode c_Line_init 6 = .ok (.putfield 9, 3) := by decide +kernel
theorem d_Line_init_9 : decode c_Line_init 9 = .ok (.aload_n 0, 1) := by decide +kernel
theorem d_Line_init_10 : decode c_Line_init 10 = .ok (.iload_n 2, 1) := by decide +kernel
theorem d_Line_init_11 : decode c_Line_init 11 = .ok (.putfield 15, 3) := by decide +kernel
theorem d_Line_init_14 : decode c_Line_init 14 = .ok (.aload_n 0, 1) := by decide +kernel
theorem d_Line_init_15 : decode c_Line_init 15 = .ok (.iload_n 3, 1) := by decide +kernel
theorem d_Line_init_16 : decode c_Line_init 16 = .ok (.putfield 18, 3) := by decide +kernel
theorem d_Line_init_19 : decode c_Line_init 19 = .ok (.aload_n 0, 1) := by decide +kernel
theorem d_Line_init_20 : decode c_Line_init 20 = .ok (.iload 4, 2) := by decide +kernel
theorem d_Line_init_22 : decode c_Line_init 22 = .ok (.putfield 21, 3) := by decide +kernel
theorem d_Line_init_25 : decode c_Line_init 25 = .ok (.aload_n 0, 1) := by decide +kernel
theorem d_Line_init_26 : decode c_Line_init 26 = .ok (.iload 5, 2) := by decide +kernel
theorem d_Line_init_28 : decode c_Line_init 28 = .ok (.putfield 24, 3) := by decide +kernel
theorem d_Line_init_31 : decode c_Line_init 31 = .ok (.return_, 1) := by decide +kernel
theorem d_Line_isItem_0 : decode c_Line_isItem 0 = .ok (.aload_n 0, 1) := by decide +kernel
theorem d_Line_isItem_1 : decode c_Line_isItem 1 = .ok (.getfield 9, 3) := by decide +kernel
theorem d_Line_isItem_4 : decode c_Line_isItem 4 = .ok (.bipush 8, 2) := by decide +kernel
theorem d_Line_isItem_6 : decode c_Line_isItem 6 = .ok (.if_icmp .eq 25, 3) := by decide +kernel
theorem d_Line_isItem_9 : decode c_Line_isItem 9 = .ok (.aload_n 0, 1) := by decide +kernel
theorem d_Line_isItem_10 : decode c_Line_isItem 10 = .ok (.getfield 9, 3) := by decide +kernel
theorem d_Line_isItem_13 : decode c_Line_isItem 13 = .ok (.bipush 9, 2) := by decide +kernel
theorem d_Line_isItem_15 : decode c_Line_isItem 15 = .ok (.if_icmp .eq 16, 3) := by decide +kernel
theorem d_Line_isItem_18 : decode c_Line_isItem 18 = .ok (.aload_n 0, 1) := by decide +kernel
theorem d_Line_isItem_19 : decode c_Line_isItem 19 = .ok (.getfield 9, 3) := by decide +kernel
theorem d_Line_isItem_22 : decode c_Line_isItem 22 = .ok (.bipush 10, 2) := by decide +kernel
theorem d_Line_isItem_24 : decode c_Line_isItem 24 = .ok (.if_icmp .eq 7, 3) := by decide +kernel
theorem d_Line_isItem_27 : decode c_Line_isItem 27 = .ok (.iconst 1, 1) := by decide +kernel
theorem d_Line_isItem_28 : decode c_Line_isItem 28 = .ok (.goto 4, 3) := by decide +kernel
theorem d_Line_isItem_31 : decode c_Line_isItem 31 = .ok (.iconst 0, 1) := by decide +kernel
theorem d_Line_isItem_32 : decode c_Line_isItem 32 = .ok (.ireturn, 1) := by decide +kernel
theorem d_Line_isAllowed_0 : decode c_Line_isAllowed 0 = .ok (.iload_n 0, 1) := by decide +kernel
theorem d_Line_isAllowed_1 : decode c_Line_isAllowed 1 = .ok (.ifCond .lt 49, 3) := by decide +kernel
theorem d_Line_isAllowed_4 : decode c_Line_isAllowed 4 = .ok (.iload_n 0, 1) := by decide +kernel
theorem d_Line_isAllowed_5 : decode c_Line_isAllowed 5 = .ok (.bipush 10, 2) := by decide +kernel
theorem d_Line_isAllowed_7 : decode c_Line_isAllowed 7 = .ok (.if_icmp .gt 43, 3) := by decide +kernel
theorem d_Line_isAllowed_10 : decode c_Line_isAllowed 10 = .ok (.iload_n 0, 1) := by decide +kernel
theorem d_Line_isAllowed_11 : decode c_Line_isAllowed 11 = .ok (.iload_n 1, 1) := by decide +kernel
theorem d_Line_isAllowed_12 : decode c_Line_isAllowed 12 = .ok (.invokestatic 28, 3) := by decide +kernel
theorem d_Line_isAllowed_15 : decode c_Line_isAllowed 15 = .ok (.ifCond .eq 35, 3) := by decide +kernel
theorem d_Line_isAllowed_18 : decode c_Line_isAllowed 18 = .ok (.iload_n 0, 1) := by decide +kernel
theorem d_Line_isAllowed_19 : decode c_Line_isAllowed 19 = .ok (.iload_n 2, 1) := by decide +kernel
theorem d_Line_isAllowed_20 : decode c_Line_isAllowed 20 = .ok (.invokestatic 32, 3) := by decide +kernel
theorem d_Line_isAllowed_23 : decode c_Line_isAllowed 23 = .ok (.ifCond .eq 27, 3) := by decide +kernel
theorem d_Line_isAllowed_26 : decode c_Line_isAllowed 26 = .ok (.iload_n 0, 1) := by decide +kernel
theorem d_Line_isAllowed_27 : decode c_Line_isAllowed 27 = .ok (.iload_n 3, 1) := by decide +kernel
theorem d_Line_isAllowed_28 : decode c_Line_isAllowed 28 = .ok (.invokestatic 35, 3) := by decide +kernel
theorem d_Line_isAllowed_31 : decode c_Line_isAllowed 31 = .ok (.ifCond .eq 19, 3) := by decide +kernel
theorem d_Line_isAllowed_34 : decode c_Line_isAllowed 34 = .ok (.iload 4, 2) := by decide +kernel
theorem d_Line_isAllowed_36 : decode c_Line_isAllowed 36 = .ok (.ifCond .eq 10, 3) := by decide +kernel
theorem d_Line_isAllowed_39 : decode c_Line_isAllowed 39 = .ok (.iload_n 0, 1) := by decide +kernel
theorem d_Line_isAllowed_40 : decode c_Line_isAllowed 40 = .ok (.invokestatic 38, 3) := by decide +kernel
theorem d_Line_isAllowed_43 : decode c_Line_isAllowed 43 = .ok (.ifCond .eq 7, 3) := by decide +kernel
theorem d_Line_isAllowed_46 : decode c_Line_isAllowed 46 = .ok (.iconst 1, 1) := by decide +kernel
theorem d_Line_isAllowed_47 : decode c_Line_isAllowed 47 = .ok (.goto 4, 3) := by decide +kernel
theorem d_Line_isAllowed_50 : decode c_Line_isAllowed 50 = .ok (.iconst 0, 1) := by decide +kernel
theorem d_Line_isAllowed_51 : decode c_Line_isAllowed 51 = .ok (.ireturn, 1) := by decide +kernel
theorem d_Line_isXOf_0 : decode c_Line_isXOf 0 = .ok (.iload_n 0, 1) := by decide +kernel
theorem d_Line_isXOf_1 : decode c_Line_isXOf 1 = .ok (.tableswitch 140 0 10 #[59, 75, 91, 91, 91, 140, 140, 140, 108, 140, 125], 59) := by decide +kernel
theorem d_Line_isXOf_60 : decode c_Line_isXOf 60 = .ok (.iload_n 1, 1) := by decide +kernel
theorem d_Line_isXOf_61 : decode c_Line_isXOf 61 = .ok (.ifCond .lt 13, 3) := by decide +kernel
theorem d_Line_isXOf_64 : decode c_Line_isXOf 64 = .ok (.iload_n 1, 1) := by decide +kernel
theorem d_Line_isXOf_65 : decode c_Line_isXOf 65 = .ok (.bipush 9, 2) := by decide +kernel
theorem d_Line_isXOf_67 : decode c_Line_isXOf 67 = .ok (.if_icmp .gt 7, 3) := by decide +kernel
theorem d_Line_isXOf_70 : decode c_Line_isXOf 70 = .ok (.iconst 1, 1) := by decide +kernel
theorem d_Line_isXOf_71 : decode c_Line_isXOf 71 = .ok (.goto 4, 3) := by decide +kernel
theorem d_Line_isXOf_74 : decode c_Line_isXOf 74 = .ok (.iconst 0, 1) := by decide +kernel
theorem d_Line_isXOf_75 : decode c_Line_isXOf 75 = .ok (.ireturn, 1) := by decide +kernel
theorem d_Line_isXOf_76 : decode c_Line_isXOf 76 = .ok (.iload_n 1, 1) := by decide +kernel
theorem d_Line_isXOf_77 : decode c_Line_isXOf 77 = .ok (.ifCond .lt 13, 3) := by decide +kernel
theorem d_Line_isXOf_80 : decode c_Line_isXOf 80 = .ok (.iload_n 1, 1) := by decide +kernel
theorem d_Line_isXOf_81 : decode c_Line_isXOf 81 = .ok (.bipush 8, 2) := by decide +kernel
theorem d_Line_isXOf_83 : decode c_Line_isXOf 83 = .ok (.if_icmp .ge 7, 3) := by decide +kernel
theorem d_Line_isXOf_86 : decode c_Line_isXOf 86 = .ok (.iconst 1, 1) := by decide +kernel
theorem d_Line_isXOf_87 : decode c_Line_isXOf 87 = .ok (.goto 4, 3) := by decide +kernel
theorem d_Line_isXOf_90 : decode c_Line_isXOf 90 = .ok (.iconst 0, 1) := by decide +kernel
theorem d_Line_isXOf_91 : decode c_Line_isXOf 91 = .ok (.ireturn, 1) := by decide +kernel
theorem d_Line_isXOf_92 : decode c_Line_isXOf 92 = .ok (.iload_n 1, 1) := by decide +kernel
theorem d_Line_isXOf_93 : decode c_Line_isXOf 93 = .ok (.iconst (-1), 1) := by decide +kernel
theorem d_Line_isXOf_94 : decode c_Line_isXOf 94 = .ok (.if_icmp .lt 13, 3) := by decide +kernel
theorem d_Line_isXOf_97 : decode c_Line_isXOf 97 = .ok (.iload_n 1, 1) := by decide +kernel
theorem d_Line_isXOf_98 : decode c_Line_isXOf 98 = .ok (.bipush 11, 2) := by decide +kernel
theorem d_Line_isXOf_100 : decode c_Line_isXOf 100 = .ok (.if_icmp .gt 7, 3) := by decide +kernel
theorem d_Line_isXOf_103 : decode c_Line_isXOf 103 = .ok (.iconst 1, 1) := by decide +kernel
theorem d_Line_isXOf_104 : decode c_Line_isXOf 104 = .ok (.goto 4, 3) := by decide +kernel
theorem d_Line_isXOf_107 : decode c_Line_isXOf 107 = .ok (.iconst 0, 1) := by decide +kernel
theorem d_Line_isXOf_108 : decode c_Line_isXOf 108 = .ok (.ireturn, 1) := by decide +kernel
theorem d_Line_isXOf_109 : decode c_Line_isXOf 109 = .ok (.iload_n 1, 1) := by decide +kernel
theorem d_Line_isXOf_110 : decode c_Line_isXOf 110 = .ok (.iconst (-1), 1) := by decide +kernel
theorem d_Line_isXOf_111 : decode c_Line_isXOf 111 = .ok (.if_icmp .lt 13, 3) := by decide +kernel
theorem d_Line_isXOf_114 : decode c_Line_isXOf 114 = .ok (.iload_n 1, 1) := by decide +kernel
theorem d_Line_isXOf_115 : decode c_Line_isXOf 115 = .ok (.bipush 8, 2) := by decide +kernel
theorem d_Line_isXOf_117 : decode c_Line_isXOf 117 = .ok (.if_icmp .ge 7, 3) := by decide +kernel
theorem d_Line_isXOf_120 : decode c_Line_isXOf 120 = .ok (.iconst 1, 1) := by decide +kernel
theorem d_Line_isXOf_121 : decode c_Line_isXOf 121 = .ok (.goto 4, 3) := by decide +kernel
theorem d_Line_isXOf_124 : decode c_Line_isXOf 124 = .ok (.iconst 0, 1) := by decide +kernel
theorem d_Line_isXOf_125 : decode c_Line_isXOf 125 = .ok (.ireturn, 1) := by decide +kernel
theorem d_Line_isXOf_126 : decode c_Line_isXOf 126 = .ok (.iload_n 1, 1) := by decide +kernel
theorem d_Line_isXOf_127 : decode c_Line_isXOf 127 = .ok (.ifCond .le 12, 3) := by decide +kernel
theorem d_Line_isXOf_130 : decode c_Line_isXOf 130 = .ok (.iload_n 1, 1) := by decide +kernel
theorem d_Line_isXOf_131 : decode c_Line_isXOf 131 = .ok (.iconst 5, 1) := by decide +kernel
theorem d_Line_isXOf_132 : decode c_Line_isXOf 132 = .ok (.if_icmp .ge 7, 3) := by decide +kernel
theorem d_Line_isXOf_135 : decode c_Line_isXOf 135 = .ok (.iconst 1, 1) := by decide +kernel
theorem d_Line_isXOf_136 : decode c_Line_isXOf 136 = .ok (.goto 4, 3) := by decide +kernel
theorem d_Line_isXOf_139 : decode c_Line_isXOf 139 = .ok (.iconst 0, 1) := by decide +kernel
theorem d_Line_isXOf_140 : decode c_Line_isXOf 140 = .ok (.ireturn, 1) := by decide +kernel
theorem d_Line_isXOf_141 : decode c_Line_isXOf 141 = .ok (.iload_n 1, 1) := by decide +kernel
theorem d_Line_isXOf_142 : decode c_Line_isXOf 142 = .ok (.iconst (-1), 1) := by decide +kernel
theorem d_Line_isXOf_143 : decode c_Line_isXOf 143 = .ok (.if_icmp .ne 7, 3) := by decide +kernel
theorem d_Line_isXOf_146 : decode c_Line_isXOf 146 = .ok (.iconst 1, 1) := by decide +kernel
theorem d_Line_isXOf_147 : decode c_Line_isXOf 147 = .ok (.goto 4, 3) := by decide +kernel
theorem d_Line_isXOf_150 : decode c_Line_isXOf 150 = .ok (.iconst 0, 1) := by decide +kernel
theorem d_Line_isXOf_151 : decode c_Line_isXOf 151 = .ok (.ireturn, 1) := by decide +kernel
theorem d_Line_isYOf_0 : decode c_Line_isYOf 0 = .ok (.iload_n 0, 1) := by decide +kernel
theorem d_Line_isYOf_1 : decode c_Line_isYOf 1 = .ok (.lookupswitch 69 #[(1, 35), (2, 52), (8, 35)], 35) := by decide +kernel
theorem d_Line_isYOf_36 : decode c_Line_isYOf 36 = .ok (.iload_n 1, 1) := by decide +kernel
theorem d_Line_isYOf_37 : decode c_Line_isYOf 37 = .ok (.iconst (-1), 1) := by decide +kernel
theorem d_Line_isYOf_38 : decode c_Line_isYOf 38 = .ok (.if_icmp .lt 13, 3) := by decide +kernel
theorem d_Line_isYOf_41 : decode c_Line_isYOf 41 = .ok (.iload_n 1, 1) := by decide +kernel
theorem d_Line_isYOf_42 : decode c_Line_isYOf 42 = .ok (.bipush 8, 2) := by decide +kernel
theorem d_Line_isYOf_44 : decode c_Line_isYOf 44 = .ok (.if_icmp .ge 7, 3) := by decide +kernel
theorem d_Line_isYOf_47 : decode c_Line_isYOf 47 = .ok (.iconst 1, 1) := by decide +kernel
theorem d_Line_isYOf_48 : decode c_Line_isYOf 48 = .ok (.goto 4, 3) := by decide +kernel
theorem d_Line_isYOf_51 : decode c_Line_isYOf 51 = .ok (.iconst 0, 1) := by decide +kernel
theorem d_Line_isYOf_52 : decode c_Line_isYOf 52 = .ok (.ireturn, 1) := by decide +kernel
theorem d_Line_isYOf_53 : decode c_Line_isYOf 53 = .ok (.iload_n 1, 1) := by decide +kernel
theorem d_Line_isYOf_54 : decode c_Line_isYOf 54 = .ok (.iconst (-1), 1) := by decide +kernel
theorem d_Line_isYOf_55 : decode c_Line_isYOf 55 = .ok (.if_icmp .lt 13, 3) := by decide +kernel
theorem d_Line_isYOf_58 : decode c_Line_isYOf 58 = .ok (.iload_n 1, 1) := by decide +kernel
theorem d_Line_isYOf_59 : decode c_Line_isYOf 59 = .ok (.bipush 11, 2) := by decide +kernel
theorem d_Line_isYOf_61 : decode c_Line_isYOf 61 = .ok (.if_icmp .gt 7, 3) := by decide +kernel
theorem d_Line_isYOf_64 : decode c_Line_isYOf 64 = .ok (.iconst 1, 1) := by decide +kernel
theorem d_Line_isYOf_65 : decode c_Line_isYOf 65 = .ok (.goto 4, 3) := by decide +kernel
theorem d_Line_isYOf_68 : decode c_Line_isYOf 68 = .ok (.iconst 0, 1) := by decide +kernel
theorem d_Line_isYOf_69 : decode c_Line_isYOf 69 = .ok (.ireturn, 1) := by decide +kernel
theorem d_Line_isYOf_70 : decode c_Line_isYOf 70 = .ok (.iload_n 1, 1) := by decide +kernel
theorem d_Line_isYOf_71 : decode c_Line_isYOf 71 = .ok (.iconst (-1), 1) := by decide +kernel
theorem d_Line_isYOf_72 : decode c_Line_isYOf 72 = .ok (.if_icmp .ne 7, 3) := by decide +kernel
theorem d_Line_isYOf_75 : decode c_Line_isYOf 75 = .ok (.iconst 1, 1) := by decide +kernel
theorem d_Line_isYOf_76 : decode c_Line_isYOf 76 = .ok (.goto 4, 3) := by decide +kernel
theorem d_Line_isYOf_79 : decode c_Line_isYOf 79 = .ok (.iconst 0, 1) := by decide +kernel
theorem d_Line_isYOf_80 : decode c_Line_isYOf 80 = .ok (.ireturn, 1) := by decide +kernel
theorem d_Line_isNOf_0 : decode c_Line_isNOf 0 = .ok (.iload_n 0, 1) := by decide +kernel
theorem d_Line_isNOf_1 : decode c_Line_isNOf 1 = .ok (.tableswitch 87 0 9 #[55, 87, 87, 87, 87, 87, 55, 65, 87, 55], 55) := by decide +kernel
theorem d_Line_isNOf_56 : decode c_Line_isNOf 56 = .ok (.iload_n 1, 1) := by decide +kernel
theorem d_Line_isNOf_57 : decode c_Line_isNOf 57 = .ok (.ifCond .ne 7, 3) := by decide +kernel
theorem d_Line_isNOf_60 : decode c_Line_isNOf 60 = .ok (.iconst 1, 1) := by decide +kernel
theorem d_Line_isNOf_61 : decode c_Line_isNOf 61 = .ok (.goto 4, 3) := by decide +kernel
theorem d_Line_isNOf_64 : decode c_Line_isNOf 64 = .ok (.iconst 0, 1) := by decide +kernel
theorem d_Line_isNOf_65 : decode c_Line_isNOf 65 = .ok (.ireturn, 1) := by decide +kernel
theorem d_Line_isNOf_66 : decode c_Line_isNOf 66 = .ok (.iload_n 1, 1) := by decide +kernel
theorem d_Line_isNOf_67 : decode c_Line_isNOf 67 = .ok (.iconst 2, 1) := by decide +kernel
theorem d_Line_isNOf_68 : decode c_Line_isNOf 68 = .ok (.if_icmp .eq 14, 3) := by decide +kernel
theorem d_Line_isNOf_71 : decode c_Line_isNOf 71 = .ok (.iload_n 1, 1) := by decide +kernel
theorem d_Line_isNOf_72 : decode c_Line_isNOf 72 = .ok (.iconst 4, 1) := by decide +kernel
theorem d_Line_isNOf_73 : decode c_Line_isNOf 73 = .ok (.if_icmp .eq 9, 3) := by decide +kernel
theorem d_Line_isNOf_76 : decode c_Line_isNOf 76 = .ok (.iload_n 1, 1) := by decide +kernel
theorem d_Line_isNOf_77 : decode c_Line_isNOf 77 = .ok (.bipush 8, 2) := by decide +kernel
theorem d_Line_isNOf_79 : decode c_Line_isNOf 79 = .ok (.if_icmp .ne 7, 3) := by decide +kernel
theorem d_Line_isNOf_82 : decode c_Line_isNOf 82 = .ok (.iconst 1, 1) := by decide +kernel
theorem d_Line_isNOf_83 : decode c_Line_isNOf 83 = .ok (.goto 4, 3) := by decide +kernel
theorem d_Line_isNOf_86 : decode c_Line_isNOf 86 = .ok (.iconst 0, 1) := by decide +kernel
theorem d_Line_isNOf_87 : decode c_Line_isNOf 87 = .ok (.ireturn, 1) := by decide +kernel
theorem d_Line_isNOf_88 : decode c_Line_isNOf 88 = .ok (.iload_n 1, 1) := by decide +kernel
theorem d_Line_isNOf_89 : decode c_Line_isNOf 89 = .ok (.bipush (-99), 2) := by decide +kernel
theorem d_Line_isNOf_91 : decode c_Line_isNOf 91 = .ok (.if_icmp .lt 13, 3) := by decide +kernel
theorem d_Line_isNOf_94 : decode c_Line_isNOf 94 = .ok (.iload_n 1, 1) := by decide +kernel
theorem d_Line_isNOf_95 : decode c_Line_isNOf 95 = .ok (.bipush 99, 2) := by decide +kernel
theorem d_Line_isNOf_97 : decode c_Line_isNOf 97 = .ok (.if_icmp .gt 7, 3) := by decide +kernel
theorem d_Line_isNOf_100 : decode c_Line_isNOf 100 = .ok (.iconst 1, 1) := by decide +kernel
theorem d_Line_isNOf_101 : decode c_Line_isNOf 101 = .ok (.goto 4, 3) := by decide +kernel
theorem d_Line_isNOf_104 : decode c_Line_isNOf 104 = .ok (.iconst 0, 1) := by decide +kernel
theorem d_Line_isNOf_105 : decode c_Line_isNOf 105 = .ok (.ireturn, 1) := by decide +kernel
theorem d_Line_canBeRelative_0 : decode c_Line_canBeRelative 0 = .ok (.iload_n 0, 1) := by decide +kernel
theorem d_Line_canBeRelative_1 : decode c_Line_canBeRelative 1 = .ok (.ifCond .eq 25, 3) := by decide +kernel
theorem d_Line_canBeRelative_4 : decode c_Line_canBeRelative 4 = .ok (.iload_n 0, 1) := by decide +kernel
theorem d_Line_canBeRelative_5 : decode c_Line_canBeRelative 5 = .ok (.bipush 6, 2) := by decide +kernel
theorem d_Line_canBeRelative_7 : decode c_Line_canBeRelative 7 = .ok (.if_icmp .eq 19, 3) := by decide +kernel
theorem d_Line_canBeRelative_10 : decode c_Line_canBeRelative 10 = .ok (.iload_n 0, 1) := by decide +kernel
theorem d_Line_canBeRelative_11 : decode c_Line_canBeRelative 11 = .ok (.bipush 9, 2) := by decide +kernel
theorem d_Line_canBeRelative_13 : decode c_Line_canBeRelative 13 = .ok (.if_icmp .eq 13, 3) := by decide +kernel
theorem d_Line_canBeRelative_16 : decode c_Line_canBeRelative 16 = .ok (.iload_n 0, 1) := by decide +kernel
theorem d_Line_canBeRelative_17 : decode c_Line_canBeRelative 17 = .ok (.bipush 7, 2) := by decide +kernel
theorem d_Line_canBeRelative_19 : decode c_Line_canBeRelative 19 = .ok (.if_icmp .eq 7, 3) := by decide +kernel
theorem d_Line_canBeRelative_22 : decode c_Line_canBeRelative 22 = .ok (.iconst 1, 1) := by decide +kernel
theorem d_Line_canBeRelative_23 : decode c_Line_canBeRelative 23 = .ok (.goto 4, 3) := by decide +kernel
theorem d_Line_canBeRelative_26 : decode c_Line_canBeRelative 26 = .ok (.iconst 0, 1) := by decide +kernel
theorem d_Line_canBeRelative_27 : decode c_Line_canBeRelative 27 = .ok (.ireturn, 1) := by decide +kernel
theorem d_Names_init_0 : decode c_Names_init 0 = .ok (.aload_n 0, 1) := by decide +kernel
theorem d_Names_init_1 : decode c_Names_init 1 = .ok (.invokespecial 3, 3) := by decide +kernel
theorem d_Names_init_4 : decode c_Names_init 4 = .ok (.aload_n 0, 1) := by decide +kernel
theorem d_Names_init_5 : decode c_Names_init 5 = .ok (.bipush 8, 2) := by decide +kernel
theorem d_Names_init_7 : decode c_Names_init 7 = .ok (.newarray .boolean, 2) := by decide +kernel
theorem d_Names_init_9 : decode c_Names_init 9 = .ok (.putfield 9, 3) := by decide +kernel
theorem d_Names_init_12 : decode c_Names_init 12 = .ok (.aload_n 0, 1) := by decide +kernel
theorem d_Names_init_13 : decode c_Names_init 13 = .ok (.bipush 8, 2) := by decide +kernel
theorem d_Names_init_15 : decode c_Names_init 15 = .ok (.newarray .boolean, 2) := by decide +kernel
theorem d_Names_init_17 : decode c_Names_init 17 = .ok (.putfield 15, 3) := by decide +kernel
theorem d_Names_init_20 : decode c_Names_init 20 = .ok (.aload_n 0, 1) := by decide +kernel
theorem d_Names_init_21 : decode c_Names_init 21 = .ok (.bipush 8, 2) := by decide +kernel
theorem d_Names_init_23 : decode c_Names_init 23 = .ok (.newarray .int, 2) := by decide +kernel
theorem d_Names_init_25 : decode c_Names_init 25 = .ok (.putfield 18, 3) := by decide +kernel
theorem d_Names_init_28 : decode c_Names_init 28 = .ok (.return_, 1) := by decide +kernel
theorem d_Names_clear_0 : decode c_Names_clear 0 = .ok (.iconst 0, 1) := by decide +kernel
theorem d_Names_clear_1 : decode c_Names_clear 1 = .ok (.istore_n 1, 1) := by decide +kernel
theorem d_Names_clear_2 : decode c_Names_clear 2 = .ok (.iload_n 1, 1) := by decide +kernel
theorem d_Names_clear_3 : decode c_Names_clear 3 = .ok (.bipush 8, 2) := by decide +kernel
theorem d_Names_clear_5 : decode c_Names_clear 5 = .ok (.if_icmp .ge 30, 3) := by decide +kernel
theorem d_Names_clear_8 : decode c_Names_clear 8 = .ok (.aload_n 0, 1) := by decide +kernel
theorem d_Names_clear_9 : decode c_Names_clear 9 = .ok (.getfield 9, 3) := by decide +kernel
theorem d_Names_clear_12 : decode c_Names_clear 12 = .ok (.iload_n 1, 1) := by decide +kernel
theorem d_Names_clear_13 : decode c_Names_clear 13 = .ok (.iconst 0, 1) := by decide +kernel
theorem d_Names_clear_14 : decode c_Names_clear 14 = .ok (.bastore, 1) := by decide +kernel
theorem d_Names_clear_15 : decode c_Names_clear 15 = .ok (.aload_n 0, 1) := by decide +kernel
theorem d_Names_clear_16 : decode c_Names_clear 16 = .ok (.getfield 15, 3) := by decide +kernel
theorem d_Names_clear_19 : decode c_Names_clear 19 = .ok (.iload_n 1, 1) := by decide +kernel
theorem d_Names_clear_20 : decode c_Names_clear 20 = .ok (.iconst 0, 1) := by decide +kernel
theorem d_Names_clear_21 : decode c_Names_clear 21 = .ok (.bastore, 1) := by decide +kernel
theorem d_Names_clear_22 : decode c_Names_clear 22 = .ok (.aload_n 0, 1) := by decide +kernel
theorem d_Names_clear_23 : decode c_Names_clear 23 = .ok (.getfield 18, 3) := by decide +kernel
theorem d_Names_clear_26 : decode c_Names_clear 26 = .ok (.iload_n 1, 1) := by decide +kernel
theorem d_Names_clear_27 : decode c_Names_clear 27 = .ok (.iconst 0, 1) := by decide +kernel
theorem d_Names_clear_28 : decode c_Names_clear 28 = .ok (.iastore, 1) := by decide +kernel
theorem d_Names_clear_29 : decode c_Names_clear 29 = .ok (.iinc 1 1, 3) := by decide +kernel
theorem d_Names_clear_32 : decode c_Names_clear 32 = .ok (.goto (-30), 3) := by decide +kernel
theorem d_Names_clear_35 : decode c_Names_clear 35 = .ok (.return_, 1) := by decide +kernel
theorem d_Names_isLabel_0 : decode c_Names_isLabel 0 = .ok (.iload_n 1, 1) := by decide +kernel
theorem d_Names_isLabel_1 : decode c_Names_isLabel 1 = .ok (.ifCond .lt 22, 3) := by decide +kernel
theorem d_Names_isLabel_4 : decode c_Names_isLabel 4 = .ok (.iload_n 1, 1) := by decide +kernel
theorem d_Names_isLabel_5 : decode c_Names_isLabel 5 = .ok (.bipush 8, 2) := by decide +kernel
theorem d_Names_isLabel_7 : decode c_Names_isLabel 7 = .ok (.if_icmp .ge 16, 3) := by decide +kernel
theorem d_Names_isLabel_10 : decode c_Names_isLabel 10 = .ok (.aload_n 0, 1) := by decide +kernel
theorem d_Names_isLabel_11 : decode c_Names_isLabel 11 = .ok (.getfield 9, 3) := by decide +kernel
theorem d_Names_isLabel_14 : decode c_Names_isLabel 14 = .ok (.iload_n 1, 1) := by decide +kernel
theorem d_Names_isLabel_15 : decode c_Names_isLabel 15 = .ok (.baload, 1) := by decide +kernel
theorem d_Names_isLabel_16 : decode c_Names_isLabel 16 = .ok (.ifCond .eq 7, 3) := by decide +kernel
theorem d_Names_isLabel_19 : decode c_Names_isLabel 19 = .ok (.iconst 1, 1) := by decide +kernel
theorem d_Names_isLabel_20 : decode c_Names_isLabel 20 = .ok (.goto 4, 3) := by decide +kernel
theorem d_Names_isLabel_23 : decode c_Names_isLabel 23 = .ok (.iconst 0, 1) := by decide +kernel
theorem d_Names_isLabel_24 : decode c_Names_isLabel 24 = .ok (.ireturn, 1) := by decide +kernel
theorem d_Names_isSetSoFar_0 : decode c_Names_isSetSoFar 0 = .ok (.iload_n 1, 1) := by decide +kernel
theorem d_Names_isSetSoFar_1 : decode c_Names_isSetSoFar 1 = .ok (.ifCond .lt 22, 3) := by decide +kernel
theorem d_Names_isSetSoFar_4 : decode c_Names_isSetSoFar 4 = .ok (.iload_n 1, 1) := by decide +kernel
theorem d_Names_isSetSoFar_5 : decode c_Names_isSetSoFar 5 = .ok (.bipush 8, 2) := by decide +kernel
theorem d_Names_isSetSoFar_7 : decode c_Names_isSetSoFar 7 = .ok (.if_icmp .ge 16, 3) := by decide +kernel
theorem d_Names_isSetSoFar_10 : decode c_Names_isSetSoFar 10 = .ok (.aload_n 0, 1) := by decide +kernel
theorem d_Names_isSetSoFar_11 : decode c_Names_isSetSoFar 11 = .ok (.getfield 15, 3) := by decide +kernel
theorem d_Names_isSetSoFar_14 : decode c_Names_isSetSoFar 14 = .ok (.iload_n 1, 1) := by decide +kernel
theorem d_Names_isSetSoFar_15 : decode c_Names_isSetSoFar 15 = .ok (.baload, 1) := by decide +kernel
theorem d_Names_isSetSoFar_16 : decode c_Names_isSetSoFar 16 = .ok (.ifCond .eq 7, 3) := by decide +kernel
theorem d_Names_isSetSoFar_19 : decode c_Names_isSetSoFar 19 = .ok (.iconst 1, 1) := by decide +kernel
theorem d_Names_isSetSoFar_20 : decode c_Names_isSetSoFar 20 = .ok (.goto 4, 3) := by decide +kernel
theorem d_Names_isSetSoFar_23 : decode c_Names_isSetSoFar 23 = .ok (.iconst 0, 1) := by decide +kernel
theorem d_Names_isSetSoFar_24 : decode c_Names_isSetSoFar 24 = .ok (.ireturn, 1) := by decide +kernel
theorem d_Names_isNoneOrSet_0 : decode c_Names_isNoneOrSet 0 = .ok (.iload_n 1, 1) := by decide +kernel
theorem d_Names_isNoneOrSet_1 : decode c_Names_isNoneOrSet 1 = .ok (.iconst (-1), 1) := by decide +kernel
theorem d_Names_isNoneOrSet_2 : decode c_Names_isNoneOrSet 2 = .ok (.if_icmp .eq 22, 3) := by decide +kernel
theorem d_Names_isNoneOrSet_5 : decode c_Names_isNoneOrSet 5 = .ok (.iload_n 1, 1) := by decide +kernel
theorem d_Names_isNoneOrSet_6 : decode c_Names_isNoneOrSet 6 = .ok (.ifCond .lt 22, 3) := by decide +kernel
theorem d_Names_isNoneOrSet_9 : decode c_Names_isNoneOrSet 9 = .ok (.iload_n 1, 1) := by decide +kernel
theorem d_Names_isNoneOrSet_10 : decode c_Names_isNoneOrSet 10 = .ok (.bipush 8, 2) := by decide +kernel
theorem d_Names_isNoneOrSet_12 : decode c_Names_isNoneOrSet 12 = .ok (.if_icmp .ge 16, 3) := by decide +kernel
theorem d_Names_isNoneOrSet_15 : decode c_Names_isNoneOrSet 15 = .ok (.aload_n 0, 1) := by decide +kernel
theorem d_Names_isNoneOrSet_16 : decode c_Names_isNoneOrSet 16 = .ok (.getfield 15, 3) := by decide +kernel
theorem d_Names_isNoneOrSet_19 : decode c_Names_isNoneOrSet 19 = .ok (.iload_n 1, 1) := by decide +kernel
theorem d_Names_isNoneOrSet_20 : decode c_Names_isNoneOrSet 20 = .ok (.baload, 1) := by decide +kernel
theorem d_Names_isNoneOrSet_21 : decode c_Names_isNoneOrSet 21 = .ok (.ifCond .eq 7, 3) := by decide +kernel
theorem d_Names_isNoneOrSet_24 : decode c_Names_isNoneOrSet 24 = .ok (.iconst 1, 1) := by decide +kernel
theorem d_Names_isNoneOrSet_25 : decode c_Names_isNoneOrSet 25 = .ok (.goto 4, 3) := by decide +kernel
theorem d_Names_isNoneOrSet_28 : decode c_Names_isNoneOrSet 28 = .ok (.iconst 0, 1) := by decide +kernel
theorem d_Names_isNoneOrSet_29 : decode c_Names_isNoneOrSet 29 = .ok (.ireturn, 1) := by decide +kernel
theorem d_Names_soFar_0 : decode c_Names_soFar 0 = .ok (.iload_n 1, 1) := by decide +kernel
theorem d_Names_soFar_1 : decode c_Names_soFar 1 = .ok (.ifCond .lt 27, 3) := by decide +kernel
theorem d_Names_soFar_4 : decode c_Names_soFar 4 = .ok (.iload_n 1, 1) := by decide +kernel
theorem d_Names_soFar_5 : decode c_Names_soFar 5 = .ok (.bipush 8, 2) := by decide +kernel
theorem d_Names_soFar_7 : decode c_Names_soFar 7 = .ok (.if_icmp .ge 21, 3) := by decide +kernel
theorem d_Names_soFar_10 : decode c_Names_soFar 10 = .ok (.aload_n 0, 1) := by decide +kernel
theorem d_Names_soFar_11 : decode c_Names_soFar 11 = .ok (.getfield 15, 3) := by decide +kernel
theorem d_Names_soFar_14 : decode c_Names_soFar 14 = .ok (.iload_n 1, 1) := by decide +kernel
theorem d_Names_soFar_15 : decode c_Names_soFar 15 = .ok (.baload, 1) := by decide +kernel
theorem d_Names_soFar_16 : decode c_Names_soFar 16 = .ok (.ifCond .eq 12, 3) := by decide +kernel
theorem d_Names_soFar_19 : decode c_Names_soFar 19 = .ok (.aload_n 0, 1) := by decide +kernel
theorem d_Names_soFar_20 : decode c_Names_soFar 20 = .ok (.getfield 18, 3) := by decide +kernel
theorem d_Names_soFar_23 : decode c_Names_soFar 23 = .ok (.iload_n 1, 1) := by decide +kernel
theorem d_Names_soFar_24 : decode c_Names_soFar 24 = .ok (.iaload, 1) := by decide +kernel
theorem d_Names_soFar_25 : decode c_Names_soFar 25 = .ok (.goto 4, 3) := by decide +kernel
theorem d_Names_soFar_28 : decode c_Names_soFar 28 = .ok (.iconst 0, 1) := by decide +kernel
theorem d_Names_soFar_29 : decode c_Names_soFar 29 = .ok (.ireturn, 1) := by decide +kernel
theorem d_Names_noteLabel_0 : decode c_Names_noteLabel 0 = .ok (.iload_n 1, 1) := by decide +kernel
theorem d_Names_noteLabel_1 : decode c_Names_noteLabel 1 = .ok (.ifCond .lt 16, 3) := by decide +kernel
theorem d_Names_noteLabel_4 : decode c_Names_noteLabel 4 = .ok (.iload_n 1, 1) := by decide +kernel
theorem d_Names_noteLabel_5 : decode c_Names_noteLabel 5 = .ok (.bipush 8, 2) := by decide +kernel
theorem d_Names_noteLabel_7 : decode c_Names_noteLabel 7 = .ok (.if_icmp .ge 10, 3) := by decide +kernel
theorem d_Names_noteLabel_10 : decode c_Names_noteLabel 10 = .ok (.aload_n 0, 1) := by decide +kernel
theorem d_Names_noteLabel_11 : decode c_Names_noteLabel 11 = .ok (.getfield 9, 3) := by decide +kernel
theorem d_Names_noteLabel_14 : decode c_Names_noteLabel 14 = .ok (.iload_n 1, 1) := by decide +kernel
theorem d_Names_noteLabel_15 : decode c_Names_noteLabel 15 = .ok (.iconst 1, 1) := by decide +kernel
theorem d_Names_noteLabel_16 : decode c_Names_noteLabel 16 = .ok (.bastore, 1) := by decide +kernel
theorem d_Names_noteLabel_17 : decode c_Names_noteLabel 17 = .ok (.return_, 1) := by decide +kernel
theorem d_Names_noteSet_0 : decode c_Names_noteSet 0 = .ok (.iload_n 1, 1) := by decide +kernel
theorem d_Names_noteSet_1 : decode c_Names_noteSet 1 = .ok (.ifCond .lt 23, 3) := by decide +kernel
theorem d_Names_noteSet_4 : decode c_Names_noteSet 4 = .ok (.iload_n 1, 1) := by decide +kernel
theorem d_Names_noteSet_5 : decode c_Names_noteSet 5 = .ok (.bipush 8, 2) := by decide +kernel
theorem d_Names_noteSet_7 : decode c_Names_noteSet 7 = .ok (.if_icmp .ge 17, 3) := by decide +kernel
theorem d_Names_noteSet_10 : decode c_Names_noteSet 10 = .ok (.aload_n 0, 1) := by decide +kernel
theorem d_Names_noteSet_11 : decode c_Names_noteSet 11 = .ok (.getfield 15, 3) := by decide +kernel
theorem d_Names_noteSet_14 : decode c_Names_noteSet 14 = .ok (.iload_n 1, 1) := by decide +kernel
theorem d_Names_noteSet_15 : decode c_Names_noteSet 15 = .ok (.iconst 1, 1) := by decide +kernel
theorem d_Names_noteSet_16 : decode c_Names_noteSet 16 = .ok (.bastore, 1) := by decide +kernel
theorem d_Names_noteSet_17 : decode c_Names_noteSet 17 = .ok (.aload_n 0, 1) := by decide +kernel
theorem d_Names_noteSet_18 : decode c_Names_noteSet 18 = .ok (.getfield 18, 3) := by decide +kernel
theorem d_Names_noteSet_21 : decode c_Names_noteSet 21 = .ok (.iload_n 1, 1) := by decide +kernel
theorem d_Names_noteSet_22 : decode c_Names_noteSet 22 = .ok (.iload_n 2, 1) := by decide +kernel
theorem d_Names_noteSet_23 : decode c_Names_noteSet 23 = .ok (.iastore, 1) := by decide +kernel
theorem d_Names_noteSet_24 : decode c_Names_noteSet 24 = .ok (.return_, 1) := by decide +kernel
theorem d_Row_init_0 : decode c_Row_init 0 = .ok (.aload_n 0, 1) := by decide +kernel
theorem d_Row_init_1 : decode c_Row_init 1 = .ok (.invokespecial 1, 3) := by decide +kernel
theorem d_Row_init_4 : decode c_Row_init 4 = .ok (.aload_n 0, 1) := by decide +kernel
theorem d_Row_init_5 : decode c_Row_init 5 = .ok (.iconst 0, 1) := by decide +kernel
theorem d_Row_init_6 : decode c_Row_init 6 = .ok (.iload_n 1, 1) := by decide +kernel
theorem d_Row_init_7 : decode c_Row_init 7 = .ok (.invokestatic 7, 3) := by decide +kernel
theorem d_Row_init_10 : decode c_Row_init 10 = .ok (.anewarray 13, 3) := by decide +kernel
theorem d_Row_init_13 : decode c_Row_init 13 = .ok (.putfield 15, 3) := by decide +kernel
theorem d_Row_init_16 : decode c_Row_init 16 = .ok (.aload_n 0, 1) := by decide +kernel
theorem d_Row_init_17 : decode c_Row_init 17 = .ok (.iconst 0, 1) := by decide +kernel
theorem d_Row_init_18 : decode c_Row_init 18 = .ok (.putfield 21, 3) := by decide +kernel
theorem d_Row_init_21 : decode c_Row_init 21 = .ok (.return_, 1) := by decide +kernel
theorem d_Row_insert_0 : decode c_Row_insert 0 = .ok (.aload_n 0, 1) := by decide +kernel
theorem d_Row_insert_1 : decode c_Row_insert 1 = .ok (.getfield 21, 3) := by decide +kernel
theorem d_Row_insert_4 : decode c_Row_insert 4 = .ok (.aload_n 0, 1) := by decide +kernel
theorem d_Row_insert_5 : decode c_Row_insert 5 = .ok (.getfield 15, 3) := by decide +kernel
theorem d_Row_insert_8 : decode c_Row_insert 8 = .ok (.arraylength, 1) := by decide +kernel
theorem d_Row_insert_9 : decode c_Row_insert 9 = .ok (.if_icmp .ge 15, 3) := by decide +kernel
theorem d_Row_insert_12 : decode c_Row_insert 12 = .ok (.iload_n 1, 1) := by decide +kernel
theorem d_Row_insert_13 : decode c_Row_insert 13 = .ok (.ifCond .lt 11, 3) := by decide +kernel
theorem d_Row_insert_16 : decode c_Row_insert 16 = .ok (.iload_n 1, 1) := by decide +kernel
theorem d_Row_insert_17 : decode c_Row_insert 17 = .ok (.aload_n 0, 1) := by decide +kernel
theorem d_Row_insert_18 : decode c_Row_insert 18 = .ok (.getfield 21, 3) := by decide +kernel
theorem d_Row_insert_21 : decode c_Row_insert 21 = .ok (.if_icmp .le 4, 3) := by decide +kernel
theorem d_Row_insert_24 : decode c_Row_insert 24 = .ok (.return_, 1) := by decide +kernel
theorem d_Row_insert_25 : decode c_Row_insert 25 = .ok (.aload_n 0, 1) := by decide +kernel
theorem d_Row_insert_26 : decode c_Row_insert 26 = .ok (.getfield 21, 3) := by decide +kernel
theorem d_Row_insert_29 : decode c_Row_insert 29 = .ok (.istore_n 3, 1) := by decide +kernel
theorem d_Row_insert_30 : decode c_Row_insert 30 = .ok (.iload_n 3, 1) := by decide +kernel
theorem d_Row_insert_31 : decode c_Row_insert 31 = .ok (.iload_n 1, 1) := by decide +kernel
theorem d_Row_insert_32 : decode c_Row_insert 32 = .ok (.if_icmp .le 23, 3) := by decide +kernel
theorem d_Row_insert_35 : decode c_Row_insert 35 = .ok (.aload_n 0, 1) := by decide +kernel
theorem d_Row_insert_36 : decode c_Row_insert 36 = .ok (.getfield 15, 3) := by decide +kernel
theorem d_Row_insert_39 : decode c_Row_insert 39 = .ok (.iload_n 3, 1) := by decide +kernel
theorem d_Row_insert_40 : decode c_Row_insert 40 = .ok (.aload_n 0, 1) := by decide +kernel
theorem d_Row_insert_41 : decode c_Row_insert 41 = .ok (.getfield 15, 3) := by decide +kernel
theorem d_Row_insert_44 : decode c_Row_insert 44 = .ok (.iload_n 3, 1) := by decide +kernel
theorem d_Row_insert_45 : decode c_Row_insert 45 = .ok (.iconst 1, 1) := by decide +kernel
theorem d_Row_insert_46 : decode c_Row_insert 46 = .ok (.isub, 1) := by decide +kernel
theorem d_Row_insert_47 : decode c_Row_insert 47 = .ok (.aaload, 1) := by decide +kernel
theorem d_Row_insert_48 : decode c_Row_insert 48 = .ok (.aastore, 1) := by decide +kernel
theorem d_Row_insert_49 : decode c_Row_insert 49 = .ok (.iinc 3 (-1), 3) := by decide +kernel
theorem d_Row_insert_52 : decode c_Row_insert 52 = .ok (.goto (-22), 3) := by decide +kernel
theorem d_Row_insert_55 : decode c_Row_insert 55 = .ok (.aload_n 0, 1) := by decide +kernel
theorem d_Row_insert_56 : decode c_Row_insert 56 = .ok (.getfield 15, 3) := by decide +kernel
theorem d_Row_insert_59 : decode c_Row_insert 59 = .ok (.iload_n 1, 1) := by decide +kernel
theorem d_Row_insert_60 : decode c_Row_insert 60 = .ok (.aload_n 2, 1) := by decide +kernel
theorem d_Row_insert_61 : decode c_Row_insert 61 = .ok (.aastore, 1) := by decide +kernel
theorem d_Row_insert_62 : decode c_Row_insert 62 = .ok (.aload_n 0, 1) := by decide +kernel
theorem d_Row_insert_63 : decode c_Row_insert 63 = .ok (.dup, 1) := by decide +kernel
theorem d_Row_insert_64 : decode c_Row_insert 64 = .ok (.getfield 21, 3) := by decide +kernel
theorem d_Row_insert_67 : decode c_Row_insert 67 = .ok (.iconst 1, 1) := by decide +kernel
theorem d_Row_insert_68 : decode c_Row_insert 68 = .ok (.iadd, 1) := by decide +kernel
theorem d_Row_insert_69 : decode c_Row_insert 69 = .ok (.putfield 21, 3) := by decide +kernel
theorem d_Row_insert_72 : decode c_Row_insert 72 = .ok (.return_, 1) := by decide +kernel
theorem d_Row_remove_0 : decode c_Row_remove 0 = .ok (.iload_n 1, 1) := by decide +kernel
theorem d_Row_remove_1 : decode c_Row_remove 1 = .ok (.ifCond .lt 11, 3) := by decide +kernel
theorem d_Row_remove_4 : decode c_Row_remove 4 = .ok (.iload_n 1, 1) := by decide +kernel
theorem d_Row_remove_5 : decode c_Row_remove 5 = .ok (.aload_n 0, 1) := by decide +kernel
theorem d_Row_remove_6 : decode c_Row_remove 6 = .ok (.getfield 21, 3) := by decide +kernel
theorem d_Row_remove_9 : decode c_Row_remove 9 = .ok (.if_icmp .lt 4, 3) := by decide +kernel
theorem d_Row_remove_12 : decode c_Row_remove 12 = .ok (.return_, 1) := by decide +kernel
theorem d_Row_remove_13 : decode c_Row_remove 13 = .ok (.aload_n 0, 1) := by decide +kernel
theorem d_Row_remove_14 : decode c_Row_remove 14 = .ok (.dup, 1) := by decide +kernel
theorem d_Row_remove_15 : decode c_Row_remove 15 = .ok (.getfield 21, 3) := by decide +kernel
theorem d_Row_remove_18 : decode c_Row_remove 18 = .ok (.iconst 1, 1) := by decide +kernel
theorem d_Row_remove_19 : decode c_Row_remove 19 = .ok (.isub, 1) := by decide +kernel
theorem d_Row_remove_20 : decode c_Row_remove 20 = .ok (.putfield 21, 3) := by decide +kernel
theorem d_Row_remove_23 : decode c_Row_remove 23 = .ok (.iload_n 1, 1) := by decide +kernel
theorem d_Row_remove_24 : decode c_Row_remove 24 = .ok (.istore_n 2, 1) := by decide +kernel
theorem d_Row_remove_25 : decode c_Row_remove 25 = .ok (.iload_n 2, 1) := by decide +kernel
theorem d_Row_remove_26 : decode c_Row_remove 26 = .ok (.aload_n 0, 1) := by decide +kernel
theorem d_Row_remove_27 : decode c_Row_remove 27 = .ok (.getfield 21, 3) := by decide +kernel
theorem d_Row_remove_30 : decode c_Row_remove 30 = .ok (.if_icmp .ge 23, 3) := by decide +kernel
theorem d_Row_remove_33 : decode c_Row_remove 33 = .ok (.aload_n 0, 1) := by decide +kernel
theorem d_Row_remove_34 : decode c_Row_remove 34 = .ok (.getfield 15, 3) := by decide +kernel
theorem d_Row_remove_37 : decode c_Row_remove 37 = .ok (.iload_n 2, 1) := by decide +kernel
theorem d_Row_remove_38 : decode c_Row_remove 38 = .ok (.aload_n 0, 1) := by decide +kernel
theorem d_Row_remove_39 : decode c_Row_remove 39 = .ok (.getfield 15, 3) := by decide +kernel
theorem d_Row_remove_42 : decode c_Row_remove 42 = .ok (.iload_n 2, 1) := by decide +kernel
theorem d_Row_remove_43 : decode c_Row_remove 43 = .ok (.iconst 1, 1) := by decide +kernel
theorem d_Row_remove_44 : decode c_Row_remove 44 = .ok (.iadd, 1) := by decide +kernel
theorem d_Row_remove_45 : decode c_Row_remove 45 = .ok (.aaload, 1) := by decide +kernel
theorem d_Row_remove_46 : decode c_Row_remove 46 = .ok (.aastore, 1) := by decide +kernel
theorem d_Row_remove_47 : decode c_Row_remove 47 = .ok (.iinc 2 1, 3) := by decide +kernel
theorem d_Row_remove_50 : decode c_Row_remove 50 = .ok (.goto (-25), 3) := by decide +kernel
theorem d_Row_remove_53 : decode c_Row_remove 53 = .ok (.return_, 1) := by decide +kernel
theorem d_Row_copyFrom_0 : decode c_Row_copyFrom 0 = .ok (.aload_n 0, 1) := by decide +kernel
theorem d_Row_copyFrom_1 : decode c_Row_copyFrom 1 = .ok (.aload_n 1, 1) := by decide +kernel
theorem d_Row_copyFrom_2 : decode c_Row_copyFrom 2 = .ok (.getfield 21, 3) := by decide +kernel
theorem d_Row_copyFrom_5 : decode c_Row_copyFrom 5 = .ok (.aload_n 0, 1) := by decide +kernel
theorem d_Row_copyFrom_6 : decode c_Row_copyFrom 6 = .ok (.getfield 15, 3) := by decide +kernel
theorem d_Row_copyFrom_9 : decode c_Row_copyFrom 9 = .ok (.arraylength, 1) := by decide +kernel
theorem d_Row_copyFrom_10 : decode c_Row_copyFrom 10 = .ok (.invokestatic 25, 3) := by decide +kernel
theorem d_Row_copyFrom_13 : decode c_Row_copyFrom 13 = .ok (.putfield 21, 3) := by decide +kernel
theorem d_Row_copyFrom_16 : decode c_Row_copyFrom 16 = .ok (.iconst 0, 1) := by decide +kernel
theorem d_Row_copyFrom_17 : decode c_Row_copyFrom 17 = .ok (.istore_n 2, 1) := by decide +kernel
theorem d_Row_copyFrom_18 : decode c_Row_copyFrom 18 = .ok (.iload_n 2, 1) := by decide +kernel
theorem d_Row_copyFrom_19 : decode c_Row_copyFrom 19 = .ok (.aload_n 0, 1) := by decide +kernel
theorem d_Row_copyFrom_20 : decode c_Row_copyFrom 20 = .ok (.getfield 21, 3) := by decide +kernel
theorem d_Row_copyFrom_23 : decode c_Row_copyFrom 23 = .ok (.if_icmp .ge 21, 3) := by decide +kernel
theorem d_Row_copyFrom_26 : decode c_Row_copyFrom 26 = .ok (.aload_n 0, 1) := by decide +kernel
theorem d_Row_copyFrom_27 : decode c_Row_copyFrom 27 = .ok (.getfield 15, 3) := by decide +kernel
theorem d_Row_copyFrom_30 : decode c_Row_copyFrom 30 = .ok (.iload_n 2, 1) := by decide +kernel
theorem d_Row_copyFrom_31 : decode c_Row_copyFrom 31 = .ok (.aload_n 1, 1) := by decide +kernel
theorem d_Row_copyFrom_32 : decode c_Row_copyFrom 32 = .ok (.getfield 15, 3) := by decide +kernel
theorem d_Row_copyFrom_35 : decode c_Row_copyFrom 35 = .ok (.iload_n 2, 1) := by decide +kernel
theorem d_Row_copyFrom_36 : decode c_Row_copyFrom 36 = .ok (.aaload, 1) := by decide +kernel
theorem d_Row_copyFrom_37 : decode c_Row_copyFrom 37 = .ok (.aastore, 1) := by decide +kernel
theorem d_Row_copyFrom_38 : decode c_Row_copyFrom 38 = .ok (.iinc 2 1, 3) := by decide +kernel
theorem d_Row_copyFrom_41 : decode c_Row_copyFrom 41 = .ok (.goto (-23), 3) := by decide +kernel
theorem d_Row_copyFrom_44 : decode c_Row_copyFrom 44 = .ok (.return_, 1) := by decide +kernel
theorem d_Source_init_0 : decode c_Source_init 0 = .ok (.aload_n 0, 1) := by decide +kernel
theorem d_Source_init_1 : decode c_Source_init 1 = .ok (.invokespecial 3, 3) := by decide +kernel
theorem d_Source_init_4 : decode c_Source_init 4 = .ok (.aload_n 0, 1) := by decide +kernel
theorem d_Source_init_5 : decode c_Source_init 5 = .ok (.iconst 5, 1) := by decide +kernel
theorem d_Source_init_6 : decode c_Source_init 6 = .ok (.anewarray 9, 3) := by decide +kernel
theorem d_Source_init_9 : decode c_Source_init 9 = .ok (.putfield 11, 3) := by decide +kernel
theorem d_Source_init_12 : decode c_Source_init 12 = .ok (.iconst 0, 1) := by decide +kernel
theorem d_Source_init_13 : decode c_Source_init 13 = .ok (.istore_n 2, 1) := by decide +kernel
theorem d_Source_init_14 : decode c_Source_init 14 = .ok (.iload_n 2, 1) := by decide +kernel
theorem d_Source_init_15 : decode c_Source_init 15 = .ok (.iconst 5, 1) := by decide +kernel
theorem d_Source_init_16 : decode c_Source_init 16 = .ok (.if_icmp .ge 32, 3) := by decide +kernel
theorem d_Source_init_19 : decode c_Source_init 19 = .ok (.aload_n 0, 1) := by decide +kernel
theorem d_Source_init_20 : decode c_Source_init 20 = .ok (.getfield 11, 3) := by decide +kernel
theorem d_Source_init_23 : decode c_Source_init 23 = .ok (.iload_n 2, 1) := by decide +kernel
theorem d_Source_init_24 : decode c_Source_init 24 = .ok (.new 9, 3) := by decide +kernel
theorem d_Source_init_27 : decode c_Source_init 27 = .ok (.dup, 1) := by decide +kernel
theorem d_Source_init_28 : decode c_Source_init 28 = .ok (.iload_n 2, 1) := by decide +kernel
theorem d_Source_init_29 : decode c_Source_init 29 = .ok (.ifCond .ne 7, 3) := by decide +kernel
theorem d_Source_init_32 : decode c_Source_init 32 = .ok (.iload_n 1, 1) := by decide +kernel
theorem d_Source_init_33 : decode c_Source_init 33 = .ok (.goto 5, 3) := by decide +kernel
theorem d_Source_init_36 : decode c_Source_init 36 = .ok (.bipush 10, 2) := by decide +kernel
theorem d_Source_init_38 : decode c_Source_init 38 = .ok (.invokespecial 17, 3) := by decide +kernel
theorem d_Source_init_41 : decode c_Source_init 41 = .ok (.aastore, 1) := by decide +kernel
theorem d_Source_init_42 : decode c_Source_init 42 = .ok (.iinc 2 1, 3) := by decide +kernel
theorem d_Source_init_45 : decode c_Source_init 45 = .ok (.goto (-31), 3) := by decide +kernel
theorem d_Source_init_48 : decode c_Source_init 48 = .ok (.return_, 1) := by decide +kernel
theorem d_Source_hasRow_0 : decode c_Source_hasRow 0 = .ok (.iload_n 1, 1) := by decide +kernel
theorem d_Source_hasRow_1 : decode c_Source_hasRow 1 = .ok (.ifCond .lt 12, 3) := by decide +kernel
theorem d_Source_hasRow_4 : decode c_Source_hasRow 4 = .ok (.iload_n 1, 1) := by decide +kernel
theorem d_Source_hasRow_5 : decode c_Source_hasRow 5 = .ok (.iconst 5, 1) := by decide +kernel
theorem d_Source_hasRow_6 : decode c_Source_hasRow 6 = .ok (.if_icmp .ge 7, 3) := by decide +kernel
theorem d_Source_hasRow_9 : decode c_Source_hasRow 9 = .ok (.iconst 1, 1) := by decide +kernel
theorem d_Source_hasRow_10 : decode c_Source_hasRow 10 = .ok (.goto 4, 3) := by decide +kernel
theorem d_Source_hasRow_13 : decode c_Source_hasRow 13 = .ok (.iconst 0, 1) := by decide +kernel
theorem d_Source_hasRow_14 : decode c_Source_hasRow 14 = .ok (.ireturn, 1) := by decide +kernel
theorem d_Source_hasLine_0 : decode c_Source_hasLine 0 = .ok (.aload_n 0, 1) := by decide +kernel
theorem d_Source_hasLine_1 : decode c_Source_hasLine 1 = .ok (.iload_n 1, 1) := by decide +kernel
theorem d_Source_hasLine_2 : decode c_Source_hasLine 2 = .ok (.invokevirtual 20, 3) := by decide +kernel
theorem d_Source_hasLine_5 : decode c_Source_hasLine 5 = .ok (.ifCond .eq 24, 3) := by decide +kernel
theorem d_Source_hasLine_8 : decode c_Source_hasLine 8 = .ok (.iload_n 2, 1) := by decide +kernel
theorem d_Source_hasLine_9 : decode c_Source_hasLine 9 = .ok (.ifCond .lt 20, 3) := by decide +kernel
theorem d_Source_hasLine_12 : decode c_Source_hasLine 12 = .ok (.iload_n 2, 1) := by decide +kernel
theorem d_Source_hasLine_13 : decode c_Source_hasLine 13 = .ok (.aload_n 0, 1) := by decide +kernel
theorem d_Source_hasLine_14 : decode c_Source_hasLine 14 = .ok (.getfield 11, 3) := by decide +kernel
theorem d_Source_hasLine_17 : decode c_Source_hasLine 17 = .ok (.iload_n 1, 1) := by decide +kernel
theorem d_Source_hasLine_18 : decode c_Source_hasLine 18 = .ok (.aaload, 1) := by decide +kernel
theorem d_Source_hasLine_19 : decode c_Source_hasLine 19 = .ok (.getfield 24, 3) := by decide +kernel
theorem d_Source_hasLine_22 : decode c_Source_hasLine 22 = .ok (.if_icmp .ge 7, 3) := by decide +kernel
theorem d_Source_hasLine_25 : decode c_Source_hasLine 25 = .ok (.iconst 1, 1) := by decide +kernel
theorem d_Source_hasLine_26 : decode c_Source_hasLine 26 = .ok (.goto 4, 3) := by decide +kernel
theorem d_Source_hasLine_29 : decode c_Source_hasLine 29 = .ok (.iconst 0, 1) := by decide +kernel
theorem d_Source_hasLine_30 : decode c_Source_hasLine 30 = .ok (.ireturn, 1) := by decide +kernel
theorem d_Source_isFull_0 : decode c_Source_isFull 0 = .ok (.aload_n 0, 1) := by decide +kernel
theorem d_Source_isFull_1 : decode c_Source_isFull 1 = .ok (.iload_n 1, 1) := by decide +kernel
theorem d_Source_isFull_2 : decode c_Source_isFull 2 = .ok (.invokevirtual 20, 3) := by decide +kernel
theorem d_Source_isFull_5 : decode c_Source_isFull 5 = .ok (.ifCond .eq 29, 3) := by decide +kernel
theorem d_Source_isFull_8 : decode c_Source_isFull 8 = .ok (.aload_n 0, 1) := by decide +kernel
theorem d_Source_isFull_9 : decode c_Source_isFull 9 = .ok (.getfield 11, 3) := by decide +kernel
theorem d_Source_isFull_12 : decode c_Source_isFull 12 = .ok (.iload_n 1, 1) := by decide +kernel
theorem d_Source_isFull_13 : decode c_Source_isFull 13 = .ok (.aaload, 1) := by decide +kernel
theorem d_Source_isFull_14 : decode c_Source_isFull 14 = .ok (.getfield 24, 3) := by decide +kernel
theorem d_Source_isFull_17 : decode c_Source_isFull 17 = .ok (.aload_n 0, 1) := by decide +kernel
theorem d_Source_isFull_18 : decode c_Source_isFull 18 = .ok (.getfield 11, 3) := by decide +kernel
theorem d_Source_isFull_21 : decode c_Source_isFull 21 = .ok (.iload_n 1, 1) := by decide +kernel
theorem d_Source_isFull_22 : decode c_Source_isFull 22 = .ok (.aaload, 1) := by decide +kernel
theorem d_Source_isFull_23 : decode c_Source_isFull 23 = .ok (.getfield 28, 3) := by decide +kernel
theorem d_Source_isFull_26 : decode c_Source_isFull 26 = .ok (.arraylength, 1) := by decide +kernel
theorem d_Source_isFull_27 : decode c_Source_isFull 27 = .ok (.if_icmp .lt 7, 3) := by decide +kernel
theorem d_Source_isFull_30 : decode c_Source_isFull 30 = .ok (.iconst 1, 1) := by decide +kernel
theorem d_Source_isFull_31 : decode c_Source_isFull 31 = .ok (.goto 4, 3) := by decide +kernel
theorem d_Source_isFull_34 : decode c_Source_isFull 34 = .ok (.iconst 0, 1) := by decide +kernel
theorem d_Source_isFull_35 : decode c_Source_isFull 35 = .ok (.ireturn, 1) := by decide +kernel
theorem d_Source_countOf_0 : decode c_Source_countOf 0 = .ok (.aload_n 0, 1) := by decide +kernel
theorem d_Source_countOf_1 : decode c_Source_countOf 1 = .ok (.iload_n 1, 1) := by decide +kernel
theorem d_Source_countOf_2 : decode c_Source_countOf 2 = .ok (.invokevirtual 20, 3) := by decide +kernel
theorem d_Source_countOf_5 : decode c_Source_countOf 5 = .ok (.ifCond .eq 15, 3) := by decide +kernel
theorem d_Source_countOf_8 : decode c_Source_countOf 8 = .ok (.aload_n 0, 1) := by decide +kernel
theorem d_Source_countOf_9 : decode c_Source_countOf 9 = .ok (.getfield 11, 3) := by decide +kernel
theorem d_Source_countOf_12 : decode c_Source_countOf 12 = .ok (.iload_n 1, 1) := by decide +kernel
theorem d_Source_countOf_13 : decode c_Source_countOf 13 = .ok (.aaload, 1) := by decide +kernel
theorem d_Source_countOf_14 : decode c_Source_countOf 14 = .ok (.getfield 24, 3) := by decide +kernel
theorem d_Source_countOf_17 : decode c_Source_countOf 17 = .ok (.goto 4, 3) := by decide +kernel
theorem d_Source_countOf_20 : decode c_Source_countOf 20 = .ok (.iconst 0, 1) := by decide +kernel
theorem d_Source_countOf_21 : decode c_Source_countOf 21 = .ok (.ireturn, 1) := by decide +kernel
theorem d_Source_countOfAll_0 : decode c_Source_countOfAll 0 = .ok (.iconst 0, 1) := by decide +kernel
theorem d_Source_countOfAll_1 : decode c_Source_countOfAll 1 = .ok (.istore_n 1, 1) := by decide +kernel
theorem d_Source_countOfAll_2 : decode c_Source_countOfAll 2 = .ok (.iconst 0, 1) := by decide +kernel
theorem d_Source_countOfAll_3 : decode c_Source_countOfAll 3 = .ok (.istore_n 2, 1) := by decide +kernel
theorem d_Source_countOfAll_4 : decode c_Source_countOfAll 4 = .ok (.iload_n 2, 1) := by decide +kernel
theorem d_Source_countOfAll_5 : decode c_Source_countOfAll 5 = .ok (.iconst 5, 1) := by decide +kernel
theorem d_Source_countOfAll_6 : decode c_Source_countOfAll 6 = .ok (.if_icmp .ge 21, 3) := by decide +kernel
theorem d_Source_countOfAll_9 : decode c_Source_countOfAll 9 = .ok (.iload_n 1, 1) := by decide +kernel
theorem d_Source_countOfAll_10 : decode c_Source_countOfAll 10 = .ok (.aload_n 0, 1) := by decide +kernel
theorem d_Source_countOfAll_11 : decode c_Source_countOfAll 11 = .ok (.getfield 11, 3) := by decide +kernel
theorem d_Source_countOfAll_14 : decode c_Source_countOfAll 14 = .ok (.iload_n 2, 1) := by decide +kernel
theorem d_Source_countOfAll_15 : decode c_Source_countOfAll 15 = .ok (.aaload, 1) := by decide +kernel
theorem d_Source_countOfAll_16 : decode c_Source_countOfAll 16 = .ok (.getfield 24, 3) := by decide +kernel
theorem d_Source_countOfAll_19 : decode c_Source_countOfAll 19 = .ok (.iadd, 1) := by decide +kernel
theorem d_Source_countOfAll_20 : decode c_Source_countOfAll 20 = .ok (.istore_n 1, 1) := by decide +kernel
theorem d_Source_countOfAll_21 : decode c_Source_countOfAll 21 = .ok (.iinc 2 1, 3) := by decide +kernel
theorem d_Source_countOfAll_24 : decode c_Source_countOfAll 24 = .ok (.goto (-20), 3) := by decide +kernel
theorem d_Source_countOfAll_27 : decode c_Source_countOfAll 27 = .ok (.iload_n 1, 1) := by decide +kernel
theorem d_Source_countOfAll_28 : decode c_Source_countOfAll 28 = .ok (.ireturn, 1) := by decide +kernel
theorem d_Source_lineAt_0 : decode c_Source_lineAt 0 = .ok (.aload_n 0, 1) := by decide +kernel
theorem d_Source_lineAt_1 : decode c_Source_lineAt 1 = .ok (.iload_n 1, 1) := by decide +kernel
theorem d_Source_lineAt_2 : decode c_Source_lineAt 2 = .ok (.iload_n 2, 1) := by decide +kernel
theorem d_Source_lineAt_3 : decode c_Source_lineAt 3 = .ok (.invokevirtual 32, 3) := by decide +kernel
theorem d_Source_lineAt_6 : decode c_Source_lineAt 6 = .ok (.ifCond .eq 17, 3) := by decide +kernel
theorem d_Source_lineAt_9 : decode c_Source_lineAt 9 = .ok (.aload_n 0, 1) := by decide +kernel
theorem d_Source_lineAt_10 : decode c_Source_lineAt 10 = .ok (.getfield 11, 3) := by decide +kernel
theorem d_Source_lineAt_13 : decode c_Source_lineAt 13 = .ok (.iload_n 1, 1) := by decide +kernel
theorem d_Source_lineAt_14 : decode c_Source_lineAt 14 = .ok (.aaload, 1) := by decide +kernel
theorem d_Source_lineAt_15 : decode c_Source_lineAt 15 = .ok (.getfield 28, 3) := by decide +kernel
theorem d_Source_lineAt_18 : decode c_Source_lineAt 18 = .ok (.iload_n 2, 1) := by decide +kernel
theorem d_Source_lineAt_19 : decode c_Source_lineAt 19 = .ok (.aaload, 1) := by decide +kernel
theorem d_Source_lineAt_20 : decode c_Source_lineAt 20 = .ok (.goto 4, 3) := by decide +kernel
theorem d_Source_lineAt_23 : decode c_Source_lineAt 23 = .ok (.aconst_null, 1) := by decide +kernel
theorem d_Source_lineAt_24 : decode c_Source_lineAt 24 = .ok (.areturn, 1) := by decide +kernel
theorem d_Source_insert_0 : decode c_Source_insert 0 = .ok (.aload_n 0, 1) := by decide +kernel
theorem d_Source_insert_1 : decode c_Source_insert 1 = .ok (.iload_n 1, 1) := by decide +kernel
theorem d_Source_insert_2 : decode c_Source_insert 2 = .ok (.invokevirtual 20, 3) := by decide +kernel
theorem d_Source_insert_5 : decode c_Source_insert 5 = .ok (.ifCond .eq 14, 3) := by decide +kernel
theorem d_Source_insert_8 : decode c_Source_insert 8 = .ok (.aload_n 0, 1) := by decide +kernel
theorem d_Source_insert_9 : decode c_Source_insert 9 = .ok (.getfield 11, 3) := by decide +kernel
theorem d_Source_insert_12 : decode c_Source_insert 12 = .ok (.iload_n 1, 1) := by decide +kernel
theorem d_Source_insert_13 : decode c_Source_insert 13 = .ok (.aaload, 1) := by decide +kernel
theorem d_Source_insert_14 : decode c_Source_insert 14 = .ok (.iload_n 2, 1) := by decide +kernel
theorem d_Source_insert_15 : decode c_Source_insert 15 = .ok (.aload_n 3, 1) := by decide +kernel
theorem d_Source_insert_16 : decode c_Source_insert 16 = .ok (.invokevirtual 36, 3) := by decide +kernel
theorem d_Source_insert_19 : decode c_Source_insert 19 = .ok (.return_, 1) := by decide +kernel
theorem d_Source_replace_0 : decode c_Source_replace 0 = .ok (.aload_n 0, 1) := by decide +kernel
theorem d_Source_replace_1 : decode c_Source_replace 1 = .ok (.iload_n 1, 1) := by decide +kernel
theorem d_Source_replace_2 : decode c_Source_replace 2 = .ok (.iload_n 2, 1) := by decide +kernel
theorem d_Source_replace_3 : decode c_Source_replace 3 = .ok (.invokevirtual 32, 3) := by decide +kernel
theorem d_Source_replace_6 : decode c_Source_replace 6 = .ok (.ifCond .eq 15, 3) := by decide +kernel
theorem d_Source_replace_9 : decode c_Source_replace 9 = .ok (.aload_n 0, 1) := by decide +kernel
theorem d_Source_replace_10 : decode c_Source_replace 10 = .ok (.getfield 11, 3) := by decide +kernel
theorem d_Source_replace_13 : decode c_Source_replace 13 = .ok (.iload_n 1, 1) := by decide +kernel
theorem d_Source_replace_14 : decode c_Source_replace 14 = .ok (.aaload, 1) := by decide +kernel
theorem d_Source_replace_15 : decode c_Source_replace 15 = .ok (.getfield 28, 3) := by decide +kernel
theorem d_Source_replace_18 : decode c_Source_replace 18 = .ok (.iload_n 2, 1) := by decide +kernel
theorem d_Source_replace_19 : decode c_Source_replace 19 = .ok (.aload_n 3, 1) := by decide +kernel
theorem d_Source_replace_20 : decode c_Source_replace 20 = .ok (.aastore, 1) := by decide +kernel
theorem d_Source_replace_21 : decode c_Source_replace 21 = .ok (.return_, 1) := by decide +kernel
theorem d_Source_remove_0 : decode c_Source_remove 0 = .ok (.aload_n 0, 1) := by decide +kernel
theorem d_Source_remove_1 : decode c_Source_remove 1 = .ok (.iload_n 1, 1) := by decide +kernel
theorem d_Source_remove_2 : decode c_Source_remove 2 = .ok (.iload_n 2, 1) := by decide +kernel
theorem d_Source_remove_3 : decode c_Source_remove 3 = .ok (.invokevirtual 32, 3) := by decide +kernel
theorem d_Source_remove_6 : decode c_Source_remove 6 = .ok (.ifCond .eq 13, 3) := by decide +kernel
theorem d_Source_remove_9 : decode c_Source_remove 9 = .ok (.aload_n 0, 1) := by decide +kernel
theorem d_Source_remove_10 : decode c_Source_remove 10 = .ok (.getfield 11, 3) := by decide +kernel
theorem d_Source_remove_13 : decode c_Source_remove 13 = .ok (.iload_n 1, 1) := by decide +kernel
theorem d_Source_remove_14 : decode c_Source_remove 14 = .ok (.aaload, 1) := by decide +kernel
theorem d_Source_remove_15 : decode c_Source_remove 15 = .ok (.iload_n 2, 1) := by decide +kernel
theorem d_Source_remove_16 : decode c_Source_remove 16 = .ok (.invokevirtual 40, 3) := by decide +kernel
theorem d_Source_remove_19 : decode c_Source_remove 19 = .ok (.return_, 1) := by decide +kernel
theorem d_Source_copyFrom_0 : decode c_Source_copyFrom 0 = .ok (.iconst 0, 1) := by decide +kernel
theorem d_Source_copyFrom_1 : decode c_Source_copyFrom 1 = .ok (.istore_n 2, 1) := by decide +kernel
theorem d_Source_copyFrom_2 : decode c_Source_copyFrom 2 = .ok (.iload_n 2, 1) := by decide +kernel
theorem d_Source_copyFrom_3 : decode c_Source_copyFrom 3 = .ok (.iconst 5, 1) := by decide +kernel
theorem d_Source_copyFrom_4 : decode c_Source_copyFrom 4 = .ok (.if_icmp .ge 24, 3) := by decide +kernel
theorem d_Source_copyFrom_7 : decode c_Source_copyFrom 7 = .ok (.aload_n 0, 1) := by decide +kernel
theorem d_Source_copyFrom_8 : decode c_Source_copyFrom 8 = .ok (.getfield 11, 3) := by decide +kernel
theorem d_Source_copyFrom_11 : decode c_Source_copyFrom 11 = .ok (.iload_n 2, 1) := by decide +kernel
theorem d_Source_copyFrom_12 : decode c_Source_copyFrom 12 = .ok (.aaload, 1) := by decide +kernel
theorem d_Source_copyFrom_13 : decode c_Source_copyFrom 13 = .ok (.aload_n 1, 1) := by decide +kernel
theorem d_Source_copyFrom_14 : decode c_Source_copyFrom 14 = .ok (.getfield 11, 3) := by decide +kernel
theorem d_Source_copyFrom_17 : decode c_Source_copyFrom 17 = .ok (.iload_n 2, 1) := by decide +kernel
theorem d_Source_copyFrom_18 : decode c_Source_copyFrom 18 = .ok (.aaload, 1) := by decide +kernel
theorem d_Source_copyFrom_19 : decode c_Source_copyFrom 19 = .ok (.invokevirtual 43, 3) := by decide +kernel
theorem d_Source_copyFrom_22 : decode c_Source_copyFrom 22 = .ok (.iinc 2 1, 3) := by decide +kernel
theorem d_Source_copyFrom_25 : decode c_Source_copyFrom 25 = .ok (.goto (-23), 3) := by decide +kernel
theorem d_Source_copyFrom_28 : decode c_Source_copyFrom 28 = .ok (.return_, 1) := by decide +kernel
theorem d_BP_init_0 : decode c_BP_init 0 = .ok (.aload_n 0, 1) := by decide +kernel
theorem d_BP_init_1 : decode c_BP_init 1 = .ok (.invokespecial 1, 3) := by decide +kernel
theorem d_BP_init_4 : decode c_BP_init 4 = .ok (.aload_n 0, 1) := by decide +kernel
theorem d_BP_init_5 : decode c_BP_init 5 = .ok (.new 7, 3) := by decide +kernel
theorem d_BP_init_8 : decode c_BP_init 8 = .ok (.dup, 1) := by decide +kernel
theorem d_BP_init_9 : decode c_BP_init 9 = .ok (.bipush 40, 2) := by decide +kernel
theorem d_BP_init_11 : decode c_BP_init 11 = .ok (.invokespecial 11, 3) := by decide +kernel
theorem d_BP_init_14 : decode c_BP_init 14 = .ok (.putfield 14, 3) := by decide +kernel
theorem d_BP_init_17 : decode c_BP_init 17 = .ok (.aload_n 0, 1) := by decide +kernel
theorem d_BP_init_18 : decode c_BP_init 18 = .ok (.new 18, 3) := by decide +kernel
theorem d_BP_init_21 : decode c_BP_init 21 = .ok (.dup, 1) := by decide +kernel
theorem d_BP_init_22 : decode c_BP_init 22 = .ok (.aload_n 0, 1) := by decide +kernel
theorem d_BP_init_23 : decode c_BP_init 23 = .ok (.getfield 14, 3) := by decide +kernel
theorem d_BP_init_26 : decode c_BP_init 26 = .ok (.invokespecial 20, 3) := by decide +kernel
theorem d_BP_init_29 : decode c_BP_init 29 = .ok (.putfield 23, 3) := by decide +kernel
theorem d_BP_init_32 : decode c_BP_init 32 = .ok (.aload_n 0, 1) := by decide +kernel
theorem d_BP_init_33 : decode c_BP_init 33 = .ok (.new 7, 3) := by decide +kernel
theorem d_BP_init_36 : decode c_BP_init 36 = .ok (.dup, 1) := by decide +kernel
theorem d_BP_init_37 : decode c_BP_init 37 = .ok (.bipush 60, 2) := by decide +kernel
theorem d_BP_init_39 : decode c_BP_init 39 = .ok (.invokespecial 11, 3) := by decide +kernel
theorem d_BP_init_42 : decode c_BP_init 42 = .ok (.putfield 27, 3) := by decide +kernel
theorem d_BP_init_45 : decode c_BP_init 45 = .ok (.aload_n 0, 1) := by decide +kernel
theorem d_BP_init_46 : decode c_BP_init 46 = .ok (.new 18, 3) := by decide +kernel
theorem d_BP_init_49 : decode c_BP_init 49 = .ok (.dup, 1) := by decide +kernel
theorem d_BP_init_50 : decode c_BP_init 50 = .ok (.aload_n 0, 1) := by decide +kernel
theorem d_BP_init_51 : decode c_BP_init 51 = .ok (.getfield 27, 3) := by decide +kernel
theorem d_BP_init_54 : decode c_BP_init 54 = .ok (.invokespecial 20, 3) := by decide +kernel
theorem d_BP_init_57 : decode c_BP_init 57 = .ok (.putfield 30, 3) := by decide +kernel
theorem d_BP_init_60 : decode c_BP_init 60 = .ok (.aload_n 0, 1) := by decide +kernel
theorem d_BP_init_61 : decode c_BP_init 61 = .ok (.invokevirtual 33, 3) := by decide +kernel
theorem d_BP_init_64 : decode c_BP_init 64 = .ok (.return_, 1) := by decide +kernel
theorem d_BP_add_0 : decode c_BP_add 0 = .ok (.aload_n 0, 1) := by decide +kernel
theorem d_BP_add_1 : decode c_BP_add 1 = .ok (.getfield 14, 3) := by decide +kernel
theorem d_BP_add_4 : decode c_BP_add 4 = .ok (.iload_n 1, 1) := by decide +kernel
theorem d_BP_add_5 : decode c_BP_add 5 = .ok (.invokevirtual 36, 3) := by decide +kernel
theorem d_BP_add_8 : decode c_BP_add 8 = .ok (.ifCond .ne 13, 3) := by decide +kernel
theorem d_BP_add_11 : decode c_BP_add 11 = .ok (.new 40, 3) := by decide +kernel
theorem d_BP_add_14 : decode c_BP_add 14 = .ok (.dup, 1) := by decide +kernel
theorem d_BP_add_15 : decode c_BP_add 15 = .ok (.ldc 42, 2) := by decide +kernel
theorem d_BP_add_17 : decode c_BP_add 17 = .ok (.invokespecial 44, 3) := by decide +kernel
theorem d_BP_add_20 : decode c_BP_add 20 = .ok (.athrow, 1) := by decide +kernel
theorem d_BP_add_21 : decode c_BP_add 21 = .ok (.iload_n 2, 1) := by decide +kernel
theorem d_BP_add_22 : decode c_BP_add 22 = .ok (.iload_n 3, 1) := by decide +kernel
theorem d_BP_add_23 : decode c_BP_add 23 = .ok (.iload 4, 2) := by decide +kernel
theorem d_BP_add_25 : decode c_BP_add 25 = .ok (.iload 5, 2) := by decide +kernel
theorem d_BP_add_27 : decode c_BP_add 27 = .ok (.iload 6, 2) := by decide +kernel
theorem d_BP_add_29 : decode c_BP_add 29 = .ok (.invokestatic 47, 3) := by decide +kernel
theorem d_BP_add_32 : decode c_BP_add 32 = .ok (.ifCond .ne 13, 3) := by decide +kernel
theorem d_BP_add_35 : decode c_BP_add 35 = .ok (.new 53, 3) := by decide +kernel
theorem d_BP_add_38 : decode c_BP_add 38 = .ok (.dup, 1) := by decide +kernel
theorem d_BP_add_39 : decode c_BP_add 39 = .ok (.ldc 55, 2) := by decide +kernel
theorem d_BP_add_41 : decode c_BP_add 41 = .ok (.invokespecial 57, 3) := by decide +kernel
theorem d_BP_add_44 : decode c_BP_add 44 = .ok (.athrow, 1) := by decide +kernel
theorem d_BP_add_45 : decode c_BP_add 45 = .ok (.aload_n 0, 1) := by decide +kernel
theorem d_BP_add_46 : decode c_BP_add 46 = .ok (.getfield 14, 3) := by decide +kernel
theorem d_BP_add_49 : decode c_BP_add 49 = .ok (.iload_n 1, 1) := by decide +kernel
theorem d_BP_add_50 : decode c_BP_add 50 = .ok (.invokevirtual 58, 3) := by decide +kernel
theorem d_BP_add_53 : decode c_BP_add 53 = .ok (.ifCond .eq 13, 3) := by decide +kernel
theorem d_BP_add_56 : decode c_BP_add 56 = .ok (.new 61, 3) := by decide +kernel
theorem d_BP_add_59 : decode c_BP_add 59 = .ok (.dup, 1) := by decide +kernel
theorem d_BP_add_60 : decode c_BP_add 60 = .ok (.ldc 63, 2) := by decide +kernel
theorem d_BP_add_62 : decode c_BP_add 62 = .ok (.invokespecial 65, 3) := by decide +kernel
theorem d_BP_add_65 : decode c_BP_add 65 = .ok (.athrow, 1) := by decide +kernel
theorem d_BP_add_66 : decode c_BP_add 66 = .ok (.aload_n 0, 1) := by decide +kernel
theorem d_BP_add_67 : decode c_BP_add 67 = .ok (.getfield 14, 3) := by decide +kernel
theorem d_BP_add_70 : decode c_BP_add 70 = .ok (.iload_n 1, 1) := by decide +kernel
theorem d_BP_add_71 : decode c_BP_add 71 = .ok (.invokevirtual 66, 3) := by decide +kernel
theorem d_BP_add_74 : decode c_BP_add 74 = .ok (.istore 7, 2) := by decide +kernel
theorem d_BP_add_76 : decode c_BP_add 76 = .ok (.aload_n 0, 1) := by decide +kernel
theorem d_BP_add_77 : decode c_BP_add 77 = .ok (.getfield 14, 3) := by decide +kernel
theorem d_BP_add_80 : decode c_BP_add 80 = .ok (.iload_n 1, 1) := by decide +kernel
theorem d_BP_add_81 : decode c_BP_add 81 = .ok (.iload 7, 2) := by decide +kernel
theorem d_BP_add_83 : decode c_BP_add 83 = .ok (.new 48, 3) := by decide +kernel
theorem d_BP_add_86 : decode c_BP_add 86 = .ok (.dup, 1) := by decide +kernel
theorem d_BP_add_87 : decode c_BP_add 87 = .ok (.iload_n 2, 1) := by decide +kernel
theorem d_BP_add_88 : decode c_BP_add 88 = .ok (.iload_n 3, 1) := by decide +kernel
theorem d_BP_add_89 : decode c_BP_add 89 = .ok (.iload 4, 2) := by decide +kernel
theorem d_BP_add_91 : decode c_BP_add 91 = .ok (.iload 5, 2) := by decide +kernel
theorem d_BP_add_93 : decode c_BP_add 93 = .ok (.iload 6, 2) := by decide +kernel
theorem d_BP_add_95 : decode c_BP_add 95 = .ok (.invokespecial 70, 3) := by decide +kernel
theorem d_BP_add_98 : decode c_BP_add 98 = .ok (.invokevirtual 73, 3) := by decide +kernel
theorem d_BP_add_101 : decode c_BP_add 101 = .ok (.aload_n 0, 1) := by decide +kernel
theorem d_BP_add_102 : decode c_BP_add 102 = .ok (.invokevirtual 33, 3) := by decide +kernel
theorem d_BP_add_105 : decode c_BP_add 105 = .ok (.iload 7, 2) := by decide +kernel
theorem d_BP_add_107 : decode c_BP_add 107 = .ok (.ireturn, 1) := by decide +kernel
theorem d_BP_put_0 : decode c_BP_put 0 = .ok (.aload_n 0, 1) := by decide +kernel
theorem d_BP_put_1 : decode c_BP_put 1 = .ok (.iload_n 1, 1) := by decide +kernel
theorem d_BP_put_2 : decode c_BP_put 2 = .ok (.iload_n 2, 1) := by decide +kernel
theorem d_BP_put_3 : decode c_BP_put 3 = .ok (.invokevirtual 77, 3) := by decide +kernel
theorem d_BP_put_6 : decode c_BP_put 6 = .ok (.astore 8, 2) := by decide +kernel
theorem d_BP_put_8 : decode c_BP_put 8 = .ok (.iload_n 3, 1) := by decide +kernel
theorem d_BP_put_9 : decode c_BP_put 9 = .ok (.iload 4, 2) := by decide +kernel
theorem d_BP_put_11 : decode c_BP_put 11 = .ok (.iload 5, 2) := by decide +kernel
theorem d_BP_put_13 : decode c_BP_put 13 = .ok (.iload 6, 2) := by decide +kernel
theorem d_BP_put_15 : decode c_BP_put 15 = .ok (.iload 7, 2) := by decide +kernel
theorem d_BP_put_17 : decode c_BP_put 17 = .ok (.invokestatic 47, 3) := by decide +kernel
theorem d_BP_put_20 : decode c_BP_put 20 = .ok (.ifCond .ne 13, 3) := by decide +kernel
theorem d_BP_put_23 : decode c_BP_put 23 = .ok (.new 53, 3) := by decide +kernel
theorem d_BP_put_26 : decode c_BP_put 26 = .ok (.dup, 1) := by decide +kernel
theorem d_BP_put_27 : decode c_BP_put 27 = .ok (.ldc 55, 2) := by decide +kernel
theorem d_BP_put_29 : decode c_BP_put 29 = .ok (.invokespecial 57, 3) := by decide +kernel
theorem d_BP_put_32 : decode c_BP_put 32 = .ok (.athrow, 1) := by decide +kernel
theorem d_BP_put_33 : decode c_BP_put 33 = .ok (.aload_n 0, 1) := by decide +kernel
theorem d_BP_put_34 : decode c_BP_put 34 = .ok (.getfield 14, 3) := by decide +kernel
theorem d_BP_put_37 : decode c_BP_put 37 = .ok (.iload_n 1, 1) := by decide +kernel
theorem d_BP_put_38 : decode c_BP_put 38 = .ok (.iload_n 2, 1) := by decide +kernel
theorem d_BP_put_39 : decode c_BP_put 39 = .ok (.new 48, 3) := by decide +kernel
theorem d_BP_put_42 : decode c_BP_put 42 = .ok (.dup, 1) := by decide +kernel
theorem d_BP_put_43 : decode c_BP_put 43 = .ok (.iload_n 3, 1) := by decide +kernel
theorem d_BP_put_44 : decode c_BP_put 44 = .ok (.iload 4, 2) := by decide +kernel
theorem d_BP_put_46 : decode c_BP_put 46 = .ok (.iload 5, 2) := by decide +kernel
theorem d_BP_put_48 : decode c_BP_put 48 = .ok (.iload 6, 2) := by decide +kernel
theorem d_BP_put_50 : decode c_BP_put 50 = .ok (.iload 7, 2) := by decide +kernel
theorem d_BP_put_52 : decode c_BP_put 52 = .ok (.invokespecial 70, 3) := by decide +kernel
theorem d_BP_put_55 : decode c_BP_put 55 = .ok (.invokevirtual 81, 3) := by decide +kernel
theorem d_BP_put_58 : decode c_BP_put 58 = .ok (.aload_n 0, 1) := by decide +kernel
theorem d_BP_put_59 : decode c_BP_put 59 = .ok (.invokevirtual 33, 3) := by decide +kernel
theorem d_BP_put_62 : decode c_BP_put 62 = .ok (.aload 8, 2) := by decide +kernel
theorem d_BP_put_64 : decode c_BP_put 64 = .ok (.getfield 84, 3) := by decide +kernel
theorem d_BP_put_67 : decode c_BP_put 67 = .ok (.ireturn, 1) := by decide +kernel
theorem d_BP_cut_0 : decode c_BP_cut 0 = .ok (.aload_n 0, 1) := by decide +kernel
theorem d_BP_cut_1 : decode c_BP_cut 1 = .ok (.getfield 14, 3) := by decide +kernel
theorem d_BP_cut_4 : decode c_BP_cut 4 = .ok (.iload_n 1, 1) := by decide +kernel
theorem d_BP_cut_5 : decode c_BP_cut 5 = .ok (.iload_n 2, 1) := by decide +kernel
theorem d_BP_cut_6 : decode c_BP_cut 6 = .ok (.invokevirtual 88, 3) := by decide +kernel
theorem d_BP_cut_9 : decode c_BP_cut 9 = .ok (.ifCond .ne 13, 3) := by decide +kernel
theorem d_BP_cut_12 : decode c_BP_cut 12 = .ok (.new 40, 3) := by decide +kernel
theorem d_BP_cut_15 : decode c_BP_cut 15 = .ok (.dup, 1) := by decide +kernel
theorem d_BP_cut_16 : decode c_BP_cut 16 = .ok (.ldc 92, 2) := by decide +kernel
theorem d_BP_cut_18 : decode c_BP_cut 18 = .ok (.invokespecial 44, 3) := by decide +kernel
theorem d_BP_cut_21 : decode c_BP_cut 21 = .ok (.athrow, 1) := by decide +kernel
theorem d_BP_cut_22 : decode c_BP_cut 22 = .ok (.aload_n 0, 1) := by decide +kernel
theorem d_BP_cut_23 : decode c_BP_cut 23 = .ok (.getfield 14, 3) := by decide +kernel
theorem d_BP_cut_26 : decode c_BP_cut 26 = .ok (.iload_n 1, 1) := by decide +kernel
theorem d_BP_cut_27 : decode c_BP_cut 27 = .ok (.iload_n 2, 1) := by decide +kernel
theorem d_BP_cut_28 : decode c_BP_cut 28 = .ok (.invokevirtual 94, 3) := by decide +kernel
theorem d_BP_cut_31 : decode c_BP_cut 31 = .ok (.aload_n 0, 1) := by decide +kernel
theorem d_BP_cut_32 : decode c_BP_cut 32 = .ok (.invokevirtual 33, 3) := by decide +kernel
theorem d_BP_cut_35 : decode c_BP_cut 35 = .ok (.aload_n 0, 1) := by decide +kernel
theorem d_BP_cut_36 : decode c_BP_cut 36 = .ok (.getfield 14, 3) := by decide +kernel
theorem d_BP_cut_39 : decode c_BP_cut 39 = .ok (.iload_n 1, 1) := by decide +kernel
theorem d_BP_cut_40 : decode c_BP_cut 40 = .ok (.invokevirtual 66, 3) := by decide +kernel
theorem d_BP_cut_43 : decode c_BP_cut 43 = .ok (.ireturn, 1) := by decide +kernel
theorem d_BP_fault_0 : decode c_BP_fault 0 = .ok (.aload_n 0, 1) := by decide +kernel
theorem d_BP_fault_1 : decode c_BP_fault 1 = .ok (.getfield 23, 3) := by decide +kernel
theorem d_BP_fault_4 : decode c_BP_fault 4 = .ok (.getfield 113, 3) := by decide +kernel
theorem d_BP_fault_7 : decode c_BP_fault 7 = .ok (.ireturn, 1) := by decide +kernel
theorem d_BP_ofItem_0 : decode c_BP_ofItem 0 = .ok (.aload_n 0, 1) := by decide +kernel
theorem d_BP_ofItem_1 : decode c_BP_ofItem 1 = .ok (.iload_n 1, 1) := by decide +kernel
theorem d_BP_ofItem_2 : decode c_BP_ofItem 2 = .ok (.invokevirtual 119, 3) := by decide +kernel
theorem d_BP_ofItem_5 : decode c_BP_ofItem 5 = .ok (.astore_n 3, 1) := by decide +kernel
theorem d_BP_ofItem_6 : decode c_BP_ofItem 6 = .ok (.iload_n 2, 1) := by decide +kernel
theorem d_BP_ofItem_7 : decode c_BP_ofItem 7 = .ok (.tableswitch 101 0 7 #[45, 50, 55, 60, 65, 70, 75, 88], 45) := by decide +kernel
theorem d_BP_ofItem_52 : decode c_BP_ofItem 52 = .ok (.aload_n 3, 1) := by decide +kernel
theorem d_BP_ofItem_53 : decode c_BP_ofItem 53 = .ok (.getfield 123, 3) := by decide +kernel
theorem d_BP_ofItem_56 : decode c_BP_ofItem 56 = .ok (.ireturn, 1) := by decide +kernel
theorem d_BP_ofItem_57 : decode c_BP_ofItem 57 = .ok (.aload_n 3, 1) := by decide +kernel
theorem d_BP_ofItem_58 : decode c_BP_ofItem 58 = .ok (.getfield 126, 3) := by decide +kernel
theorem d_BP_ofItem_61 : decode c_BP_ofItem 61 = .ok (.ireturn, 1) := by decide +kernel
theorem d_BP_ofItem_62 : decode c_BP_ofItem 62 = .ok (.aload_n 3, 1) := by decide +kernel
theorem d_BP_ofItem_63 : decode c_BP_ofItem 63 = .ok (.getfield 129, 3) := by decide +kernel
theorem d_BP_ofItem_66 : decode c_BP_ofItem 66 = .ok (.ireturn, 1) := by decide +kernel
theorem d_BP_ofItem_67 : decode c_BP_ofItem 67 = .ok (.aload_n 3, 1) := by decide +kernel
theorem d_BP_ofItem_68 : decode c_BP_ofItem 68 = .ok (.getfield 132, 3) := by decide +kernel
theorem d_BP_ofItem_71 : decode c_BP_ofItem 71 = .ok (.ireturn, 1) := by decide +kernel
theorem d_BP_ofItem_72 : decode c_BP_ofItem 72 = .ok (.aload_n 3, 1) := by decide +kernel
theorem d_BP_ofItem_73 : decode c_BP_ofItem 73 = .ok (.getfield 135, 3) := by decide +kernel
theorem d_BP_ofItem_76 : decode c_BP_ofItem 76 = .ok (.ireturn, 1) := by decide +kernel
theorem d_BP_ofItem_77 : decode c_BP_ofItem 77 = .ok (.aload_n 3, 1) := by decide +kernel
theorem d_BP_ofItem_78 : decode c_BP_ofItem 78 = .ok (.getfield 138, 3) := by decide +kernel
theorem d_BP_ofItem_81 : decode c_BP_ofItem 81 = .ok (.ireturn, 1) := by decide +kernel
theorem d_BP_ofItem_82 : decode c_BP_ofItem 82 = .ok (.aload_n 3, 1) := by decide +kernel
theorem d_BP_ofItem_83 : decode c_BP_ofItem 83 = .ok (.getfield 139, 3) := by decide +kernel
theorem d_BP_ofItem_86 : decode c_BP_ofItem 86 = .ok (.ifCond .eq 7, 3) := by decide +kernel
theorem d_BP_ofItem_89 : decode c_BP_ofItem 89 = .ok (.iconst 1, 1) := by decide +kernel
theorem d_BP_ofItem_90 : decode c_BP_ofItem 90 = .ok (.goto 4, 3) := by decide +kernel
theorem d_BP_ofItem_93 : decode c_BP_ofItem 93 = .ok (.iconst 0, 1) := by decide +kernel
theorem d_BP_ofItem_94 : decode c_BP_ofItem 94 = .ok (.ireturn, 1) := by decide +kernel
theorem d_BP_ofItem_95 : decode c_BP_ofItem 95 = .ok (.aload_n 3, 1) := by decide +kernel
theorem d_BP_ofItem_96 : decode c_BP_ofItem 96 = .ok (.getfield 142, 3) := by decide +kernel
theorem d_BP_ofItem_99 : decode c_BP_ofItem 99 = .ok (.ifCond .eq 7, 3) := by decide +kernel
theorem d_BP_ofItem_102 : decode c_BP_ofItem 102 = .ok (.iconst 1, 1) := by decide +kernel
theorem d_BP_ofItem_103 : decode c_BP_ofItem 103 = .ok (.goto 4, 3) := by decide +kernel
theorem d_BP_ofItem_106 : decode c_BP_ofItem 106 = .ok (.iconst 0, 1) := by decide +kernel
theorem d_BP_ofItem_107 : decode c_BP_ofItem 107 = .ok (.ireturn, 1) := by decide +kernel
theorem d_BP_ofItem_108 : decode c_BP_ofItem 108 = .ok (.new 53, 3) := by decide +kernel
theorem d_BP_ofItem_111 : decode c_BP_ofItem 111 = .ok (.dup, 1) := by decide +kernel
theorem d_BP_ofItem_112 : decode c_BP_ofItem 112 = .ok (.ldc 145, 2) := by decide +kernel
theorem d_BP_ofItem_114 : decode c_BP_ofItem 114 = .ok (.invokespecial 57, 3) := by decide +kernel
theorem d_BP_ofItem_117 : decode c_BP_ofItem 117 = .ok (.athrow, 1) := by decide +kernel
theorem d_BP_word_0 : decode c_BP_word 0 = .ok (.aload_n 0, 1) := by decide +kernel
theorem d_BP_word_1 : decode c_BP_word 1 = .ok (.aload_n 0, 1) := by decide +kernel
theorem d_BP_word_2 : decode c_BP_word 2 = .ok (.getfield 23, 3) := by decide +kernel
theorem d_BP_word_5 : decode c_BP_word 5 = .ok (.getfield 147, 3) := by decide +kernel
theorem d_BP_word_8 : decode c_BP_word 8 = .ok (.iload_n 1, 1) := by decide +kernel
theorem d_BP_word_9 : decode c_BP_word 9 = .ok (.invokevirtual 151, 3) := by decide +kernel
theorem d_BP_word_12 : decode c_BP_word 12 = .ok (.invokevirtual 119, 3) := by decide +kernel
theorem d_BP_word_15 : decode c_BP_word 15 = .ok (.astore_n 2, 1) := by decide +kernel
theorem d_BP_word_16 : decode c_BP_word 16 = .ok (.aload_n 0, 1) := by decide +kernel
theorem d_BP_word_17 : decode c_BP_word 17 = .ok (.getfield 23, 3) := by decide +kernel
theorem d_BP_word_20 : decode c_BP_word 20 = .ok (.getfield 147, 3) := by decide +kernel
theorem d_BP_word_23 : decode c_BP_word 23 = .ok (.aload_n 2, 1) := by decide +kernel
theorem d_BP_word_24 : decode c_BP_word 24 = .ok (.iload_n 1, 1) := by decide +kernel
theorem d_BP_word_25 : decode c_BP_word 25 = .ok (.aload_n 2, 1) := by decide +kernel
theorem d_BP_word_26 : decode c_BP_word 26 = .ok (.getfield 126, 3) := by decide +kernel
theorem d_BP_word_29 : decode c_BP_word 29 = .ok (.isub, 1) := by decide +kernel
theorem d_BP_word_30 : decode c_BP_word 30 = .ok (.invokevirtual 156, 3) := by decide +kernel
theorem d_BP_word_33 : decode c_BP_word 33 = .ok (.ireturn, 1) := by decide +kernel
theorem d_BP_itemOf_0 : decode c_BP_itemOf 0 = .ok (.aload_n 0, 1) := by decide +kernel
theorem d_BP_itemOf_1 : decode c_BP_itemOf 1 = .ok (.getfield 23, 3) := by decide +kernel
theorem d_BP_itemOf_4 : decode c_BP_itemOf 4 = .ok (.getfield 147, 3) := by decide +kernel
theorem d_BP_itemOf_7 : decode c_BP_itemOf 7 = .ok (.iload_n 1, 1) := by decide +kernel
theorem d_BP_itemOf_8 : decode c_BP_itemOf 8 = .ok (.invokevirtual 151, 3) := by decide +kernel
theorem d_BP_itemOf_11 : decode c_BP_itemOf 11 = .ok (.istore_n 2, 1) := by decide +kernel
theorem d_BP_itemOf_12 : decode c_BP_itemOf 12 = .ok (.iload_n 2, 1) := by decide +kernel
theorem d_BP_itemOf_13 : decode c_BP_itemOf 13 = .ok (.iconst (-1), 1) := by decide +kernel
theorem d_BP_itemOf_14 : decode c_BP_itemOf 14 = .ok (.if_icmp .ne 13, 3) := by decide +kernel
theorem d_BP_itemOf_17 : decode c_BP_itemOf 17 = .ok (.new 40, 3) := by decide +kernel
theorem d_BP_itemOf_20 : decode c_BP_itemOf 20 = .ok (.dup, 1) := by decide +kernel
theorem d_BP_itemOf_21 : decode c_BP_itemOf 21 = .ok (.ldc 160, 2) := by decide +kernel
theorem d_BP_itemOf_23 : decode c_BP_itemOf 23 = .ok (.invokespecial 44, 3) := by decide +kernel
theorem d_BP_itemOf_26 : decode c_BP_itemOf 26 = .ok (.athrow, 1) := by decide +kernel
theorem d_BP_itemOf_27 : decode c_BP_itemOf 27 = .ok (.iload_n 2, 1) := by decide +kernel
theorem d_BP_itemOf_28 : decode c_BP_itemOf 28 = .ok (.ireturn, 1) := by decide +kernel
theorem d_BP_value_0 : decode c_BP_value 0 = .ok (.aload_n 0, 1) := by decide +kernel
theorem d_BP_value_1 : decode c_BP_value 1 = .ok (.getfield 23, 3) := by decide +kernel
theorem d_BP_value_4 : decode c_BP_value 4 = .ok (.getfield 113, 3) := by decide +kernel
theorem d_BP_value_7 : decode c_BP_value 7 = .ok (.ifCond .eq 13, 3) := by decide +kernel
theorem d_BP_value_10 : decode c_BP_value 10 = .ok (.new 40, 3) := by decide +kernel
theorem d_BP_value_13 : decode c_BP_value 13 = .ok (.dup, 1) := by decide +kernel
theorem d_BP_value_14 : decode c_BP_value 14 = .ok (.ldc 162, 2) := by decide +kernel
theorem d_BP_value_16 : decode c_BP_value 16 = .ok (.invokespecial 44, 3) := by decide +kernel
theorem d_BP_value_19 : decode c_BP_value 19 = .ok (.athrow, 1) := by decide +kernel
theorem d_BP_value_20 : decode c_BP_value 20 = .ok (.iload_n 1, 1) := by decide +kernel
theorem d_BP_value_21 : decode c_BP_value 21 = .ok (.ifCond .lt 9, 3) := by decide +kernel
theorem d_BP_value_24 : decode c_BP_value 24 = .ok (.iload_n 1, 1) := by decide +kernel
theorem d_BP_value_25 : decode c_BP_value 25 = .ok (.bipush 8, 2) := by decide +kernel
theorem d_BP_value_27 : decode c_BP_value 27 = .ok (.if_icmp .lt 13, 3) := by decide +kernel
theorem d_BP_value_30 : decode c_BP_value 30 = .ok (.new 40, 3) := by decide +kernel
theorem d_BP_value_33 : decode c_BP_value 33 = .ok (.dup, 1) := by decide +kernel
theorem d_BP_value_34 : decode c_BP_value 34 = .ok (.ldc 164, 2) := by decide +kernel
theorem d_BP_value_36 : decode c_BP_value 36 = .ok (.invokespecial 44, 3) := by decide +kernel
theorem d_BP_value_39 : decode c_BP_value 39 = .ok (.athrow, 1) := by decide +kernel
theorem d_BP_value_40 : decode c_BP_value 40 = .ok (.aload_n 0, 1) := by decide +kernel
theorem d_BP_value_41 : decode c_BP_value 41 = .ok (.getfield 23, 3) := by decide +kernel
theorem d_BP_value_44 : decode c_BP_value 44 = .ok (.getfield 147, 3) := by decide +kernel
theorem d_BP_value_47 : decode c_BP_value 47 = .ok (.iload_n 1, 1) := by decide +kernel
theorem d_BP_value_48 : decode c_BP_value 48 = .ok (.aload_n 0, 1) := by decide +kernel
theorem d_BP_value_49 : decode c_BP_value 49 = .ok (.getfield 23, 3) := by decide +kernel
theorem d_BP_value_52 : decode c_BP_value 52 = .ok (.getfield 147, 3) := by decide +kernel
theorem d_BP_value_55 : decode c_BP_value 55 = .ok (.getfield 166, 3) := by decide +kernel
theorem d_BP_value_58 : decode c_BP_value 58 = .ok (.invokevirtual 169, 3) := by decide +kernel
theorem d_BP_value_61 : decode c_BP_value 61 = .ok (.astore_n 2, 1) := by decide +kernel
theorem d_BP_value_62 : decode c_BP_value 62 = .ok (.aload_n 2, 1) := by decide +kernel
theorem d_BP_value_63 : decode c_BP_value 63 = .ok (.ifnonnull 7, 3) := by decide +kernel
theorem d_BP_value_66 : decode c_BP_value 66 = .ok (.iconst (-1), 1) := by decide +kernel
theorem d_BP_value_67 : decode c_BP_value 67 = .ok (.goto 7, 3) := by decide +kernel
theorem d_BP_value_70 : decode c_BP_value 70 = .ok (.aload_n 2, 1) := by decide +kernel
theorem d_BP_value_71 : decode c_BP_value 71 = .ok (.getfield 173, 3) := by decide +kernel
theorem d_BP_value_74 : decode c_BP_value 74 = .ok (.ireturn, 1) := by decide +kernel
theorem d_BP_many_0 : decode c_BP_many 0 = .ok (.iload_n 1, 1) := by decide +kernel
theorem d_BP_many_1 : decode c_BP_many 1 = .ok (.ifCond .lt 9, 3) := by decide +kernel
theorem d_BP_many_4 : decode c_BP_many 4 = .ok (.iload_n 1, 1) := by decide +kernel
theorem d_BP_many_5 : decode c_BP_many 5 = .ok (.bipush 11, 2) := by decide +kernel
theorem d_BP_many_7 : decode c_BP_many 7 = .ok (.if_icmp .le 13, 3) := by decide +kernel
theorem d_BP_many_10 : decode c_BP_many 10 = .ok (.new 53, 3) := by decide +kernel
theorem d_BP_many_13 : decode c_BP_many 13 = .ok (.dup, 1) := by decide +kernel
theorem d_BP_many_14 : decode c_BP_many 14 = .ok (.ldc 176, 2) := by decide +kernel
theorem d_BP_many_16 : decode c_BP_many 16 = .ok (.invokespecial 57, 3) := by decide +kernel
theorem d_BP_many_19 : decode c_BP_many 19 = .ok (.athrow, 1) := by decide +kernel
theorem d_BP_many_20 : decode c_BP_many 20 = .ok (.iload_n 1, 1) := by decide +kernel
theorem d_BP_many_21 : decode c_BP_many 21 = .ok (.ifCond .ne 12, 3) := by decide +kernel
theorem d_BP_many_24 : decode c_BP_many 24 = .ok (.aload_n 0, 1) := by decide +kernel
theorem d_BP_many_25 : decode c_BP_many 25 = .ok (.getfield 14, 3) := by decide +kernel
theorem d_BP_many_28 : decode c_BP_many 28 = .ok (.iconst 0, 1) := by decide +kernel
theorem d_BP_many_29 : decode c_BP_many 29 = .ok (.invokevirtual 66, 3) := by decide +kernel
theorem d_BP_many_32 : decode c_BP_many 32 = .ok (.ireturn, 1) := by decide +kernel
theorem d_BP_many_33 : decode c_BP_many 33 = .ok (.iload_n 1, 1) := by decide +kernel
theorem d_BP_many_34 : decode c_BP_many 34 = .ok (.iconst 1, 1) := by decide +kernel
theorem d_BP_many_35 : decode c_BP_many 35 = .ok (.if_icmp .ne 11, 3) := by decide +kernel
theorem d_BP_many_38 : decode c_BP_many 38 = .ok (.aload_n 0, 1) := by decide +kernel
theorem d_BP_many_39 : decode c_BP_many 39 = .ok (.getfield 14, 3) := by decide +kernel
theorem d_BP_many_42 : decode c_BP_many 42 = .ok (.invokevirtual 178, 3) := by decide +kernel
theorem d_BP_many_45 : decode c_BP_many 45 = .ok (.ireturn, 1) := by decide +kernel
theorem d_BP_many_46 : decode c_BP_many 46 = .ok (.aload_n 0, 1) := by decide +kernel
theorem d_BP_many_47 : decode c_BP_many 47 = .ok (.getfield 23, 3) := by decide +kernel
theorem d_BP_many_50 : decode c_BP_many 50 = .ok (.getfield 113, 3) := by decide +kernel
theorem d_BP_many_53 : decode c_BP_many 53 = .ok (.ifCond .eq 5, 3) := by decide +kernel
theorem d_BP_many_56 : decode c_BP_many 56 = .ok (.iconst (-1), 1) := by decide +kernel
theorem d_BP_many_57 : decode c_BP_many 57 = .ok (.ireturn, 1) := by decide +kernel
theorem d_BP_many_58 : decode c_BP_many 58 = .ok (.iload_n 1, 1) := by decide +kernel
theorem d_BP_many_59 : decode c_BP_many 59 = .ok (.bipush 6, 2) := by decide +kernel
theorem d_BP_many_61 : decode c_BP_many 61 = .ok (.if_icmp .ne 13, 3) := by decide +kernel
theorem d_BP_many_64 : decode c_BP_many 64 = .ok (.aload_n 0, 1) := by decide +kernel
theorem d_BP_many_65 : decode c_BP_many 65 = .ok (.getfield 23, 3) := by decide +kernel
theorem d_BP_many_68 : decode c_BP_many 68 = .ok (.getfield 182, 3) := by decide +kernel
theorem d_BP_many_71 : decode c_BP_many 71 = .ok (.goto 14, 3) := by decide +kernel
theorem d_BP_many_74 : decode c_BP_many 74 = .ok (.aload_n 0, 1) := by decide +kernel
theorem d_BP_many_75 : decode c_BP_many 75 = .ok (.getfield 23, 3) := by decide +kernel
theorem d_BP_many_78 : decode c_BP_many 78 = .ok (.getfield 147, 3) := by decide +kernel
theorem d_BP_many_81 : decode c_BP_many 81 = .ok (.iload_n 1, 1) := by decide +kernel
theorem d_BP_many_82 : decode c_BP_many 82 = .ok (.invokevirtual 185, 3) := by decide +kernel
theorem d_BP_many_85 : decode c_BP_many 85 = .ok (.ireturn, 1) := by decide +kernel
theorem d_BP_wordsWithout_0 : decode c_BP_wordsWithout 0 = .ok (.aload_n 0, 1) := by decide +kernel
theorem d_BP_wordsWithout_1 : decode c_BP_wordsWithout 1 = .ok (.getfield 14, 3) := by decide +kernel
theorem d_BP_wordsWithout_4 : decode c_BP_wordsWithout 4 = .ok (.iload_n 1, 1) := by decide +kernel
theorem d_BP_wordsWithout_5 : decode c_BP_wordsWithout 5 = .ok (.iload_n 2, 1) := by decide +kernel
theorem d_BP_wordsWithout_6 : decode c_BP_wordsWithout 6 = .ok (.invokevirtual 88, 3) := by decide +kernel
theorem d_BP_wordsWithout_9 : decode c_BP_wordsWithout 9 = .ok (.ifCond .ne 13, 3) := by decide +kernel
theorem d_BP_wordsWithout_12 : decode c_BP_wordsWithout 12 = .ok (.new 40, 3) := by decide +kernel
theorem d_BP_wordsWithout_15 : decode c_BP_wordsWithout 15 = .ok (.dup, 1) := by decide +kernel
theorem d_BP_wordsWithout_16 : decode c_BP_wordsWithout 16 = .ok (.ldc 92, 2) := by decide +kernel
theorem d_BP_wordsWithout_18 : decode c_BP_wordsWithout 18 = .ok (.invokespecial 44, 3) := by decide +kernel
theorem d_BP_wordsWithout_21 : decode c_BP_wordsWithout 21 = .ok (.athrow, 1) := by decide +kernel
theorem d_BP_wordsWithout_22 : decode c_BP_wordsWithout 22 = .ok (.aload_n 0, 1) := by decide +kernel
theorem d_BP_wordsWithout_23 : decode c_BP_wordsWithout 23 = .ok (.getfield 27, 3) := by decide +kernel
theorem d_BP_wordsWithout_26 : decode c_BP_wordsWithout 26 = .ok (.aload_n 0, 1) := by decide +kernel
theorem d_BP_wordsWithout_27 : decode c_BP_wordsWithout 27 = .ok (.getfield 14, 3) := by decide +kernel
theorem d_BP_wordsWithout_30 : decode c_BP_wordsWithout 30 = .ok (.invokevirtual 188, 3) := by decide +kernel
theorem d_BP_wordsWithout_33 : decode c_BP_wordsWithout 33 = .ok (.aload_n 0, 1) := by decide +kernel
theorem d_BP_wordsWithout_34 : decode c_BP_wordsWithout 34 = .ok (.getfield 27, 3) := by decide +kernel
theorem d_BP_wordsWithout_37 : decode c_BP_wordsWithout 37 = .ok (.iload_n 1, 1) := by decide +kernel
theorem d_BP_wordsWithout_38 : decode c_BP_wordsWithout 38 = .ok (.iload_n 2, 1) := by decide +kernel
theorem d_BP_wordsWithout_39 : decode c_BP_wordsWithout 39 = .ok (.invokevirtual 94, 3) := by decide +kernel
theorem d_BP_wordsWithout_42 : decode c_BP_wordsWithout 42 = .ok (.aload_n 0, 1) := by decide +kernel
theorem d_BP_wordsWithout_43 : decode c_BP_wordsWithout 43 = .ok (.getfield 30, 3) := by decide +kernel
theorem d_BP_wordsWithout_46 : decode c_BP_wordsWithout 46 = .ok (.invokevirtual 191, 3) := by decide +kernel
theorem d_BP_wordsWithout_49 : decode c_BP_wordsWithout 49 = .ok (.aload_n 0, 1) := by decide +kernel
theorem d_BP_wordsWithout_50 : decode c_BP_wordsWithout 50 = .ok (.getfield 30, 3) := by decide +kernel
theorem d_BP_wordsWithout_53 : decode c_BP_wordsWithout 53 = .ok (.invokevirtual 194, 3) := by decide +kernel
theorem d_BP_wordsWithout_56 : decode c_BP_wordsWithout 56 = .ok (.ireturn, 1) := by decide +kernel
theorem d_BP_wrongly_0 : decode c_BP_wrongly 0 = .ok (.aload_n 0, 1) := by decide +kernel
theorem d_BP_wrongly_1 : decode c_BP_wrongly 1 = .ok (.getfield 23, 3) := by decide +kernel
theorem d_BP_wrongly_4 : decode c_BP_wrongly 4 = .ok (.getfield 147, 3) := by decide +kernel
theorem d_BP_wrongly_7 : decode c_BP_wrongly 7 = .ok (.invokevirtual 208, 3) := by decide +kernel
theorem d_BP_wrongly_10 : decode c_BP_wrongly 10 = .ok (.ireturn, 1) := by decide +kernel
theorem d_BP_longBy_0 : decode c_BP_longBy 0 = .ok (.iload_n 1, 1) := by decide +kernel
theorem d_BP_longBy_1 : decode c_BP_longBy 1 = .ok (.ifCond .lt 15, 3) := by decide +kernel
theorem d_BP_longBy_4 : decode c_BP_longBy 4 = .ok (.iload_n 1, 1) := by decide +kernel
theorem d_BP_longBy_5 : decode c_BP_longBy 5 = .ok (.aload_n 0, 1) := by decide +kernel
theorem d_BP_longBy_6 : decode c_BP_longBy 6 = .ok (.getfield 14, 3) := by decide +kernel
theorem d_BP_longBy_9 : decode c_BP_longBy 9 = .ok (.iconst 0, 1) := by decide +kernel
theorem d_BP_longBy_10 : decode c_BP_longBy 10 = .ok (.invokevirtual 66, 3) := by decide +kernel
theorem d_BP_longBy_13 : decode c_BP_longBy 13 = .ok (.if_icmp .le 13, 3) := by decide +kernel
theorem d_BP_longBy_16 : decode c_BP_longBy 16 = .ok (.new 40, 3) := by decide +kernel
theorem d_BP_longBy_19 : decode c_BP_longBy 19 = .ok (.dup, 1) := by decide +kernel
theorem d_BP_longBy_20 : decode c_BP_longBy 20 = .ok (.ldc 92, 2) := by decide +kernel
theorem d_BP_longBy_22 : decode c_BP_longBy 22 = .ok (.invokespecial 44, 3) := by decide +kernel
theorem d_BP_longBy_25 : decode c_BP_longBy 25 = .ok (.athrow, 1) := by decide +kernel
theorem d_BP_longBy_26 : decode c_BP_longBy 26 = .ok (.iload_n 2, 1) := by decide +kernel
theorem d_BP_longBy_27 : decode c_BP_longBy 27 = .ok (.iconst 1, 1) := by decide +kernel
theorem d_BP_longBy_28 : decode c_BP_longBy 28 = .ok (.if_icmp .lt 9, 3) := by decide +kernel
theorem d_BP_longBy_31 : decode c_BP_longBy 31 = .ok (.iload_n 2, 1) := by decide +kernel
theorem d_BP_longBy_32 : decode c_BP_longBy 32 = .ok (.bipush 20, 2) := by decide +kernel
theorem d_BP_longBy_34 : decode c_BP_longBy 34 = .ok (.if_icmp .le 13, 3) := by decide +kernel
theorem d_BP_longBy_37 : decode c_BP_longBy 37 = .ok (.new 53, 3) := by decide +kernel
theorem d_BP_longBy_40 : decode c_BP_longBy 40 = .ok (.dup, 1) := by decide +kernel
theorem d_BP_longBy_41 : decode c_BP_longBy 41 = .ok (.ldc 211, 2) := by decide +kernel
theorem d_BP_longBy_43 : decode c_BP_longBy 43 = .ok (.invokespecial 57, 3) := by decide +kernel
theorem d_BP_longBy_46 : decode c_BP_longBy 46 = .ok (.athrow, 1) := by decide +kernel
theorem d_BP_longBy_47 : decode c_BP_longBy 47 = .ok (.aload_n 0, 1) := by decide +kernel
theorem d_BP_longBy_48 : decode c_BP_longBy 48 = .ok (.getfield 23, 3) := by decide +kernel
theorem d_BP_longBy_51 : decode c_BP_longBy 51 = .ok (.getfield 113, 3) := by decide +kernel
theorem d_BP_longBy_54 : decode c_BP_longBy 54 = .ok (.ifCond .eq 5, 3) := by decide +kernel
theorem d_BP_longBy_57 : decode c_BP_longBy 57 = .ok (.iconst 0, 1) := by decide +kernel
theorem d_BP_longBy_58 : decode c_BP_longBy 58 = .ok (.ireturn, 1) := by decide +kernel
theorem d_BP_longBy_59 : decode c_BP_longBy 59 = .ok (.aload_n 0, 1) := by decide +kernel
theorem d_BP_longBy_60 : decode c_BP_longBy 60 = .ok (.getfield 27, 3) := by decide +kernel
theorem d_BP_longBy_63 : decode c_BP_longBy 63 = .ok (.aload_n 0, 1) := by decide +kernel
theorem d_BP_longBy_64 : decode c_BP_longBy 64 = .ok (.getfield 14, 3) := by decide +kernel
theorem d_BP_longBy_67 : decode c_BP_longBy 67 = .ok (.invokevirtual 188, 3) := by decide +kernel
theorem d_BP_longBy_70 : decode c_BP_longBy 70 = .ok (.new 48, 3) := by decide +kernel
theorem d_BP_longBy_73 : decode c_BP_longBy 73 = .ok (.dup, 1) := by decide +kernel
theorem d_BP_longBy_74 : decode c_BP_longBy 74 = .ok (.iconst 2, 1) := by decide +kernel
theorem d_BP_longBy_75 : decode c_BP_longBy 75 = .ok (.iconst (-1), 1) := by decide +kernel
theorem d_BP_longBy_76 : decode c_BP_longBy 76 = .ok (.iconst (-1), 1) := by decide +kernel
theorem d_BP_longBy_77 : decode c_BP_longBy 77 = .ok (.iconst 0, 1) := by decide +kernel
theorem d_BP_longBy_78 : decode c_BP_longBy 78 = .ok (.iconst 0, 1) := by decide +kernel
theorem d_BP_longBy_79 : decode c_BP_longBy 79 = .ok (.invokespecial 70, 3) := by decide +kernel
theorem d_BP_longBy_82 : decode c_BP_longBy 82 = .ok (.astore_n 3, 1) := by decide +kernel
theorem d_BP_longBy_83 : decode c_BP_longBy 83 = .ok (.iconst 0, 1) := by decide +kernel
theorem d_BP_longBy_84 : decode c_BP_longBy 84 = .ok (.istore 4, 2) := by decide +kernel
theorem d_BP_longBy_86 : decode c_BP_longBy 86 = .ok (.iload 4, 2) := by decide +kernel
theorem d_BP_longBy_88 : decode c_BP_longBy 88 = .ok (.iload_n 2, 1) := by decide +kernel
theorem d_BP_longBy_89 : decode c_BP_longBy 89 = .ok (.if_icmp .ge 19, 3) := by decide +kernel
theorem d_BP_longBy_92 : decode c_BP_longBy 92 = .ok (.aload_n 0, 1) := by decide +kernel
theorem d_BP_longBy_93 : decode c_BP_longBy 93 = .ok (.getfield 27, 3) := by decide +kernel
theorem d_BP_longBy_96 : decode c_BP_longBy 96 = .ok (.iconst 0, 1) := by decide +kernel
theorem d_BP_longBy_97 : decode c_BP_longBy 97 = .ok (.iload_n 1, 1) := by decide +kernel
theorem d_BP_longBy_98 : decode c_BP_longBy 98 = .ok (.aload_n 3, 1) := by decide +kernel
theorem d_BP_longBy_99 : decode c_BP_longBy 99 = .ok (.invokevirtual 73, 3) := by decide +kernel
theorem d_BP_longBy_102 : decode c_BP_longBy 102 = .ok (.iinc 4 1, 3) := by decide +kernel
theorem d_BP_longBy_105 : decode c_BP_longBy 105 = .ok (.goto (-19), 3) := by decide +kernel
theorem d_BP_longBy_108 : decode c_BP_longBy 108 = .ok (.aload_n 0, 1) := by decide +kernel
theorem d_BP_longBy_109 : decode c_BP_longBy 109 = .ok (.getfield 30, 3) := by decide +kernel
theorem d_BP_longBy_112 : decode c_BP_longBy 112 = .ok (.invokevirtual 191, 3) := by decide +kernel
theorem d_BP_longBy_115 : decode c_BP_longBy 115 = .ok (.aload_n 0, 1) := by decide +kernel
theorem d_BP_longBy_116 : decode c_BP_longBy 116 = .ok (.getfield 30, 3) := by decide +kernel
theorem d_BP_longBy_119 : decode c_BP_longBy 119 = .ok (.getfield 113, 3) := by decide +kernel
theorem d_BP_longBy_122 : decode c_BP_longBy 122 = .ok (.ifCond .eq 15, 3) := by decide +kernel
theorem d_BP_longBy_125 : decode c_BP_longBy 125 = .ok (.sipush (-1000), 3) := by decide +kernel
theorem d_BP_longBy_128 : decode c_BP_longBy 128 = .ok (.aload_n 0, 1) := by decide +kernel
theorem d_BP_longBy_129 : decode c_BP_longBy 129 = .ok (.getfield 30, 3) := by decide +kernel
theorem d_BP_longBy_132 : decode c_BP_longBy 132 = .ok (.getfield 113, 3) := by decide +kernel
theorem d_BP_longBy_135 : decode c_BP_longBy 135 = .ok (.isub, 1) := by decide +kernel
theorem d_BP_longBy_136 : decode c_BP_longBy 136 = .ok (.ireturn, 1) := by decide +kernel
theorem d_BP_longBy_137 : decode c_BP_longBy 137 = .ok (.aload_n 0, 1) := by decide +kernel
theorem d_BP_longBy_138 : decode c_BP_longBy 138 = .ok (.getfield 30, 3) := by decide +kernel
theorem d_BP_longBy_141 : decode c_BP_longBy 141 = .ok (.getfield 147, 3) := by decide +kernel
theorem d_BP_longBy_144 : decode c_BP_longBy 144 = .ok (.iconst 5, 1) := by decide +kernel
theorem d_BP_longBy_145 : decode c_BP_longBy 145 = .ok (.invokevirtual 185, 3) := by decide +kernel
theorem d_BP_longBy_148 : decode c_BP_longBy 148 = .ok (.aload_n 0, 1) := by decide +kernel
theorem d_BP_longBy_149 : decode c_BP_longBy 149 = .ok (.getfield 23, 3) := by decide +kernel
theorem d_BP_longBy_152 : decode c_BP_longBy 152 = .ok (.getfield 147, 3) := by decide +kernel
theorem d_BP_longBy_155 : decode c_BP_longBy 155 = .ok (.iconst 5, 1) := by decide +kernel
theorem d_BP_longBy_156 : decode c_BP_longBy 156 = .ok (.invokevirtual 185, 3) := by decide +kernel
theorem d_BP_longBy_159 : decode c_BP_longBy 159 = .ok (.isub, 1) := by decide +kernel
theorem d_BP_longBy_160 : decode c_BP_longBy 160 = .ok (.ireturn, 1) := by decide +kernel
theorem d_BP_digest_0 : decode c_BP_digest 0 = .ok (.ldc2_w 213, 3) := by decide +kernel
theorem d_BP_digest_3 : decode c_BP_digest 3 = .ok (.lstore_n 1, 1) := by decide +kernel
theorem d_BP_digest_4 : decode c_BP_digest 4 = .ok (.iconst 0, 1) := by decide +kernel
theorem d_BP_digest_5 : decode c_BP_digest 5 = .ok (.istore_n 3, 1) := by decide +kernel
theorem d_BP_digest_6 : decode c_BP_digest 6 = .ok (.iload_n 3, 1) := by decide +kernel
theorem d_BP_digest_7 : decode c_BP_digest 7 = .ok (.bipush 11, 2) := by decide +kernel
theorem d_BP_digest_9 : decode c_BP_digest 9 = .ok (.if_icmp .gt 22, 3) := by decide +kernel
theorem d_BP_digest_12 : decode c_BP_digest 12 = .ok (.lload_n 1, 1) := by decide +kernel
theorem d_BP_digest_13 : decode c_BP_digest 13 = .ok (.ldc2_w 215, 3) := by decide +kernel
theorem d_BP_digest_16 : decode c_BP_digest 16 = .ok (.lmul, 1) := by decide +kernel
theorem d_BP_digest_17 : decode c_BP_digest 17 = .ok (.aload_n 0, 1) := by decide +kernel
theorem d_BP_digest_18 : decode c_BP_digest 18 = .ok (.iload_n 3, 1) := by decide +kernel
theorem d_BP_digest_19 : decode c_BP_digest 19 = .ok (.invokevirtual 217, 3) := by decide +kernel
theorem d_BP_digest_22 : decode c_BP_digest 22 = .ok (.i2l, 1) := by decide +kernel
theorem d_BP_digest_23 : decode c_BP_digest 23 = .ok (.ladd, 1) := by decide +kernel
theorem d_BP_digest_24 : decode c_BP_digest 24 = .ok (.lstore_n 1, 1) := by decide +kernel
theorem d_BP_digest_25 : decode c_BP_digest 25 = .ok (.iinc 3 1, 3) := by decide +kernel
theorem d_BP_digest_28 : decode c_BP_digest 28 = .ok (.goto (-22), 3) := by decide +kernel
theorem d_BP_digest_31 : decode c_BP_digest 31 = .ok (.lload_n 1, 1) := by decide +kernel
theorem d_BP_digest_32 : decode c_BP_digest 32 = .ok (.ldc2_w 215, 3) := by decide +kernel
theorem d_BP_digest_35 : decode c_BP_digest 35 = .ok (.lmul, 1) := by decide +kernel
theorem d_BP_digest_36 : decode c_BP_digest 36 = .ok (.aload_n 0, 1) := by decide +kernel
theorem d_BP_digest_37 : decode c_BP_digest 37 = .ok (.getfield 23, 3) := by decide +kernel
theorem d_BP_digest_40 : decode c_BP_digest 40 = .ok (.getfield 113, 3) := by decide +kernel
theorem d_BP_digest_43 : decode c_BP_digest 43 = .ok (.i2l, 1) := by decide +kernel
theorem d_BP_digest_44 : decode c_BP_digest 44 = .ok (.ladd, 1) := by decide +kernel
theorem d_BP_digest_45 : decode c_BP_digest 45 = .ok (.lstore_n 1, 1) := by decide +kernel
theorem d_BP_digest_46 : decode c_BP_digest 46 = .ok (.lload_n 1, 1) := by decide +kernel
theorem d_BP_digest_47 : decode c_BP_digest 47 = .ok (.ldc2_w 215, 3) := by decide +kernel
theorem d_BP_digest_50 : decode c_BP_digest 50 = .ok (.lmul, 1) := by decide +kernel
theorem d_BP_digest_51 : decode c_BP_digest 51 = .ok (.aload_n 0, 1) := by decide +kernel
theorem d_BP_digest_52 : decode c_BP_digest 52 = .ok (.getfield 23, 3) := by decide +kernel
theorem d_BP_digest_55 : decode c_BP_digest 55 = .ok (.getfield 116, 3) := by decide +kernel
theorem d_BP_digest_58 : decode c_BP_digest 58 = .ok (.i2l, 1) := by decide +kernel
theorem d_BP_digest_59 : decode c_BP_digest 59 = .ok (.ladd, 1) := by decide +kernel
theorem d_BP_digest_60 : decode c_BP_digest 60 = .ok (.lstore_n 1, 1) := by decide +kernel
theorem d_BP_digest_61 : decode c_BP_digest 61 = .ok (.aload_n 0, 1) := by decide +kernel
theorem d_BP_digest_62 : decode c_BP_digest 62 = .ok (.getfield 14, 3) := by decide +kernel
theorem d_BP_digest_65 : decode c_BP_digest 65 = .ok (.iconst 0, 1) := by decide +kernel
theorem d_BP_digest_66 : decode c_BP_digest 66 = .ok (.invokevirtual 66, 3) := by decide +kernel
theorem d_BP_digest_69 : decode c_BP_digest 69 = .ok (.istore_n 3, 1) := by decide +kernel
theorem d_BP_digest_70 : decode c_BP_digest 70 = .ok (.iconst 0, 1) := by decide +kernel
theorem d_BP_digest_71 : decode c_BP_digest 71 = .ok (.istore 4, 2) := by decide +kernel
theorem d_BP_digest_73 : decode c_BP_digest 73 = .ok (.iload 4, 2) := by decide +kernel
theorem d_BP_digest_75 : decode c_BP_digest 75 = .ok (.iload_n 3, 1) := by decide +kernel
theorem d_BP_digest_76 : decode c_BP_digest 76 = .ok (.if_icmp .ge 24, 3) := by decide +kernel
theorem d_BP_digest_79 : decode c_BP_digest 79 = .ok (.lload_n 1, 1) := by decide +kernel
theorem d_BP_digest_80 : decode c_BP_digest 80 = .ok (.ldc2_w 215, 3) := by decide +kernel
theorem d_BP_digest_83 : decode c_BP_digest 83 = .ok (.lmul, 1) := by decide +kernel
theorem d_BP_digest_84 : decode c_BP_digest 84 = .ok (.aload_n 0, 1) := by decide +kernel
theorem d_BP_digest_85 : decode c_BP_digest 85 = .ok (.iconst 0, 1) := by decide +kernel
theorem d_BP_digest_86 : decode c_BP_digest 86 = .ok (.iload 4, 2) := by decide +kernel
theorem d_BP_digest_88 : decode c_BP_digest 88 = .ok (.invokevirtual 220, 3) := by decide +kernel
theorem d_BP_digest_91 : decode c_BP_digest 91 = .ok (.i2l, 1) := by decide +kernel
theorem d_BP_digest_92 : decode c_BP_digest 92 = .ok (.ladd, 1) := by decide +kernel
theorem d_BP_digest_93 : decode c_BP_digest 93 = .ok (.lstore_n 1, 1) := by decide +kernel
theorem d_BP_digest_94 : decode c_BP_digest 94 = .ok (.iinc 4 1, 3) := by decide +kernel
theorem d_BP_digest_97 : decode c_BP_digest 97 = .ok (.goto (-24), 3) := by decide +kernel
theorem d_BP_digest_100 : decode c_BP_digest 100 = .ok (.aload_n 0, 1) := by decide +kernel
theorem d_BP_digest_101 : decode c_BP_digest 101 = .ok (.getfield 23, 3) := by decide +kernel
theorem d_BP_digest_104 : decode c_BP_digest 104 = .ok (.getfield 113, 3) := by decide +kernel
theorem d_BP_digest_107 : decode c_BP_digest 107 = .ok (.ifCond .ne 11, 3) := by decide +kernel
theorem d_BP_digest_110 : decode c_BP_digest 110 = .ok (.aload_n 0, 1) := by decide +kernel
theorem d_BP_digest_111 : decode c_BP_digest 111 = .ok (.lload_n 1, 1) := by decide +kernel
theorem d_BP_digest_112 : decode c_BP_digest 112 = .ok (.invokevirtual 224, 3) := by decide +kernel
theorem d_BP_digest_115 : decode c_BP_digest 115 = .ok (.goto 4, 3) := by decide +kernel
theorem d_BP_digest_118 : decode c_BP_digest 118 = .ok (.lload_n 1, 1) := by decide +kernel
theorem d_BP_digest_119 : decode c_BP_digest 119 = .ok (.lreturn, 1) := by decide +kernel
theorem d_BP_digestOfItems_0 : decode c_BP_digestOfItems 0 = .ok (.lload_n 1, 1) := by decide +kernel
theorem d_BP_digestOfItems_1 : decode c_BP_digestOfItems 1 = .ok (.lstore_n 3, 1) := by decide +kernel
theorem d_BP_digestOfItems_2 : decode c_BP_digestOfItems 2 = .ok (.iconst 0, 1) := by decide +kernel
theorem d_BP_digestOfItems_3 : decode c_BP_digestOfItems 3 = .ok (.istore 5, 2) := by decide +kernel
theorem d_BP_digestOfItems_5 : decode c_BP_digestOfItems 5 = .ok (.iload 5, 2) := by decide +kernel
theorem d_BP_digestOfItems_7 : decode c_BP_digestOfItems 7 = .ok (.aload_n 0, 1) := by decide +kernel
theorem d_BP_digestOfItems_8 : decode c_BP_digestOfItems 8 = .ok (.getfield 23, 3) := by decide +kernel
theorem d_BP_digestOfItems_11 : decode c_BP_digestOfItems 11 = .ok (.getfield 147, 3) := by decide +kernel
theorem d_BP_digestOfItems_14 : decode c_BP_digestOfItems 14 = .ok (.getfield 166, 3) := by decide +kernel
theorem d_BP_digestOfItems_17 : decode c_BP_digestOfItems 17 = .ok (.if_icmp .ge 41, 3) := by decide +kernel
theorem d_BP_digestOfItems_20 : decode c_BP_digestOfItems 20 = .ok (.iconst 0, 1) := by decide +kernel
theorem d_BP_digestOfItems_21 : decode c_BP_digestOfItems 21 = .ok (.istore 6, 2) := by decide +kernel
theorem d_BP_digestOfItems_23 : decode c_BP_digestOfItems 23 = .ok (.iload 6, 2) := by decide +kernel
theorem d_BP_digestOfItems_25 : decode c_BP_digestOfItems 25 = .ok (.bipush 7, 2) := by decide +kernel
theorem d_BP_digestOfItems_27 : decode c_BP_digestOfItems 27 = .ok (.if_icmp .gt 25, 3) := by decide +kernel
theorem d_BP_digestOfItems_30 : decode c_BP_digestOfItems 30 = .ok (.lload_n 3, 1) := by decide +kernel
theorem d_BP_digestOfItems_31 : decode c_BP_digestOfItems 31 = .ok (.ldc2_w 215, 3) := by decide +kernel
theorem d_BP_digestOfItems_34 : decode c_BP_digestOfItems 34 = .ok (.lmul, 1) := by decide +kernel
theorem d_BP_digestOfItems_35 : decode c_BP_digestOfItems 35 = .ok (.aload_n 0, 1) := by decide +kernel
theorem d_BP_digestOfItems_36 : decode c_BP_digestOfItems 36 = .ok (.iload 5, 2) := by decide +kernel
theorem d_BP_digestOfItems_38 : decode c_BP_digestOfItems 38 = .ok (.iload 6, 2) := by decide +kernel
theorem d_BP_digestOfItems_40 : decode c_BP_digestOfItems 40 = .ok (.invokevirtual 228, 3) := by decide +kernel
theorem d_BP_digestOfItems_43 : decode c_BP_digestOfItems 43 = .ok (.i2l, 1) := by decide +kernel
theorem d_BP_digestOfItems_44 : decode c_BP_digestOfItems 44 = .ok (.ladd, 1) := by decide +kernel
theorem d_BP_digestOfItems_45 : decode c_BP_digestOfItems 45 = .ok (.lstore_n 3, 1) := by decide +kernel
theorem d_BP_digestOfItems_46 : decode c_BP_digestOfItems 46 = .ok (.iinc 6 1, 3) := by decide +kernel
theorem d_BP_digestOfItems_49 : decode c_BP_digestOfItems 49 = .ok (.goto (-26), 3) := by decide +kernel
theorem d_BP_digestOfItems_52 : decode c_BP_digestOfItems 52 = .ok (.iinc 5 1, 3) := by decide +kernel
theorem d_BP_digestOfItems_55 : decode c_BP_digestOfItems 55 = .ok (.goto (-50), 3) := by decide +kernel
theorem d_BP_digestOfItems_58 : decode c_BP_digestOfItems 58 = .ok (.aload_n 0, 1) := by decide +kernel
theorem d_BP_digestOfItems_59 : decode c_BP_digestOfItems 59 = .ok (.getfield 23, 3) := by decide +kernel
theorem d_BP_digestOfItems_62 : decode c_BP_digestOfItems 62 = .ok (.getfield 147, 3) := by decide +kernel
theorem d_BP_digestOfItems_65 : decode c_BP_digestOfItems 65 = .ok (.iconst 3, 1) := by decide +kernel
theorem d_BP_digestOfItems_66 : decode c_BP_digestOfItems 66 = .ok (.invokevirtual 185, 3) := by decide +kernel
theorem d_BP_digestOfItems_69 : decode c_BP_digestOfItems 69 = .ok (.istore 5, 2) := by decide +kernel
theorem d_BP_digestOfItems_71 : decode c_BP_digestOfItems 71 = .ok (.iconst 0, 1) := by decide +kernel
theorem d_BP_digestOfItems_72 : decode c_BP_digestOfItems 72 = .ok (.istore 6, 2) := by decide +kernel
theorem d_BP_digestOfItems_74 : decode c_BP_digestOfItems 74 = .ok (.iload 6, 2) := by decide +kernel
theorem d_BP_digestOfItems_76 : decode c_BP_digestOfItems 76 = .ok (.iload 5, 2) := by decide +kernel
theorem d_BP_digestOfItems_78 : decode c_BP_digestOfItems 78 = .ok (.if_icmp .ge 23, 3) := by decide +kernel
theorem d_BP_digestOfItems_81 : decode c_BP_digestOfItems 81 = .ok (.lload_n 3, 1) := by decide +kernel
theorem d_BP_digestOfItems_82 : decode c_BP_digestOfItems 82 = .ok (.ldc2_w 215, 3) := by decide +kernel
theorem d_BP_digestOfItems_85 : decode c_BP_digestOfItems 85 = .ok (.lmul, 1) := by decide +kernel
theorem d_BP_digestOfItems_86 : decode c_BP_digestOfItems 86 = .ok (.aload_n 0, 1) := by decide +kernel
theorem d_BP_digestOfItems_87 : decode c_BP_digestOfItems 87 = .ok (.iload 6, 2) := by decide +kernel
theorem d_BP_digestOfItems_89 : decode c_BP_digestOfItems 89 = .ok (.invokevirtual 231, 3) := by decide +kernel
theorem d_BP_digestOfItems_92 : decode c_BP_digestOfItems 92 = .ok (.i2l, 1) := by decide +kernel
theorem d_BP_digestOfItems_93 : decode c_BP_digestOfItems 93 = .ok (.ladd, 1) := by decide +kernel
theorem d_BP_digestOfItems_94 : decode c_BP_digestOfItems 94 = .ok (.lstore_n 3, 1) := by decide +kernel
theorem d_BP_digestOfItems_95 : decode c_BP_digestOfItems 95 = .ok (.iinc 6 1, 3) := by decide +kernel
theorem d_BP_digestOfItems_98 : decode c_BP_digestOfItems 98 = .ok (.goto (-24), 3) := by decide +kernel
theorem d_BP_digestOfItems_101 : decode c_BP_digestOfItems 101 = .ok (.iconst 0, 1) := by decide +kernel
theorem d_BP_digestOfItems_102 : decode c_BP_digestOfItems 102 = .ok (.istore 6, 2) := by decide +kernel
theorem d_BP_digestOfItems_104 : decode c_BP_digestOfItems 104 = .ok (.iload 6, 2) := by decide +kernel
theorem d_BP_digestOfItems_106 : decode c_BP_digestOfItems 106 = .ok (.bipush 8, 2) := by decide +kernel
theorem d_BP_digestOfItems_108 : decode c_BP_digestOfItems 108 = .ok (.if_icmp .ge 23, 3) := by decide +kernel
theorem d_BP_digestOfItems_111 : decode c_BP_digestOfItems 111 = .ok (.lload_n 3, 1) := by decide +kernel
theorem d_BP_digestOfItems_112 : decode c_BP_digestOfItems 112 = .ok (.ldc2_w 215, 3) := by decide +kernel
theorem d_BP_digestOfItems_115 : decode c_BP_digestOfItems 115 = .ok (.lmul, 1) := by decide +kernel
theorem d_BP_digestOfItems_116 : decode c_BP_digestOfItems 116 = .ok (.aload_n 0, 1) := by decide +kernel
theorem d_BP_digestOfItems_117 : decode c_BP_digestOfItems 117 = .ok (.iload 6, 2) := by decide +kernel
theorem d_BP_digestOfItems_119 : decode c_BP_digestOfItems 119 = .ok (.invokevirtual 234, 3) := by decide +kernel
theorem d_BP_digestOfItems_122 : decode c_BP_digestOfItems 122 = .ok (.i2l, 1) := by decide +kernel
theorem d_BP_digestOfItems_123 : decode c_BP_digestOfItems 123 = .ok (.ladd, 1) := by decide +kernel
theorem d_BP_digestOfItems_124 : decode c_BP_digestOfItems 124 = .ok (.lstore_n 3, 1) := by decide +kernel
theorem d_BP_digestOfItems_125 : decode c_BP_digestOfItems 125 = .ok (.iinc 6 1, 3) := by decide +kernel
theorem d_BP_digestOfItems_128 : decode c_BP_digestOfItems 128 = .ok (.goto (-24), 3) := by decide +kernel
theorem d_BP_digestOfItems_131 : decode c_BP_digestOfItems 131 = .ok (.lload_n 3, 1) := by decide +kernel
theorem d_BP_digestOfItems_132 : decode c_BP_digestOfItems 132 = .ok (.ldc2_w 215, 3) := by decide +kernel
theorem d_BP_digestOfItems_135 : decode c_BP_digestOfItems 135 = .ok (.lmul, 1) := by decide +kernel
theorem d_BP_digestOfItems_136 : decode c_BP_digestOfItems 136 = .ok (.aload_n 0, 1) := by decide +kernel
theorem d_BP_digestOfItems_137 : decode c_BP_digestOfItems 137 = .ok (.invokevirtual 237, 3) := by decide +kernel
theorem d_BP_digestOfItems_140 : decode c_BP_digestOfItems 140 = .ok (.i2l, 1) := by decide +kernel
theorem d_BP_digestOfItems_141 : decode c_BP_digestOfItems 141 = .ok (.ladd, 1) := by decide +kernel
theorem d_BP_digestOfItems_142 : decode c_BP_digestOfItems 142 = .ok (.lreturn, 1) := by decide +kernel
theorem d_BP_assembleNow_0 : decode c_BP_assembleNow 0 = .ok (.aload_n 0, 1) := by decide +kernel
theorem d_BP_assembleNow_1 : decode c_BP_assembleNow 1 = .ok (.getfield 23, 3) := by decide +kernel
theorem d_BP_assembleNow_4 : decode c_BP_assembleNow 4 = .ok (.invokevirtual 191, 3) := by decide +kernel
theorem d_BP_assembleNow_7 : decode c_BP_assembleNow 7 = .ok (.aload_n 0, 1) := by decide +kernel
theorem d_BP_assembleNow_8 : decode c_BP_assembleNow 8 = .ok (.getfield 23, 3) := by decide +kernel
theorem d_BP_assembleNow_11 : decode c_BP_assembleNow 11 = .ok (.invokevirtual 240, 3) := by decide +kernel
theorem d_BP_assembleNow_14 : decode c_BP_assembleNow 14 = .ok (.return_, 1) := by decide +kernel
theorem d_BP_lineThere_0 : decode c_BP_lineThere 0 = .ok (.aload_n 0, 1) := by decide +kernel
theorem d_BP_lineThere_1 : decode c_BP_lineThere 1 = .ok (.getfield 14, 3) := by decide +kernel
theorem d_BP_lineThere_4 : decode c_BP_lineThere 4 = .ok (.iload_n 1, 1) := by decide +kernel
theorem d_BP_lineThere_5 : decode c_BP_lineThere 5 = .ok (.iload_n 2, 1) := by decide +kernel
theorem d_BP_lineThere_6 : decode c_BP_lineThere 6 = .ok (.invokevirtual 243, 3) := by decide +kernel
theorem d_BP_lineThere_9 : decode c_BP_lineThere 9 = .ok (.astore_n 3, 1) := by decide +kernel
theorem d_BP_lineThere_10 : decode c_BP_lineThere 10 = .ok (.aload_n 3, 1) := by decide +kernel
theorem d_BP_lineThere_11 : decode c_BP_lineThere 11 = .ok (.ifnonnull 13, 3) := by decide +kernel
theorem d_BP_lineThere_14 : decode c_BP_lineThere 14 = .ok (.new 40, 3) := by decide +kernel
theorem d_BP_lineThere_17 : decode c_BP_lineThere 17 = .ok (.dup, 1) := by decide +kernel
theorem d_BP_lineThere_18 : decode c_BP_lineThere 18 = .ok (.ldc 92, 2) := by decide +kernel
theorem d_BP_lineThere_20 : decode c_BP_lineThere 20 = .ok (.invokespecial 44, 3) := by decide +kernel
theorem d_BP_lineThere_23 : decode c_BP_lineThere 23 = .ok (.athrow, 1) := by decide +kernel
theorem d_BP_lineThere_24 : decode c_BP_lineThere 24 = .ok (.aload_n 3, 1) := by decide +kernel
theorem d_BP_lineThere_25 : decode c_BP_lineThere 25 = .ok (.areturn, 1) := by decide +kernel
theorem d_BP_itemThere_0 : decode c_BP_itemThere 0 = .ok (.aload_n 0, 1) := by decide +kernel
theorem d_BP_itemThere_1 : decode c_BP_itemThere 1 = .ok (.getfield 23, 3) := by decide +kernel
theorem d_BP_itemThere_4 : decode c_BP_itemThere 4 = .ok (.getfield 147, 3) := by decide +kernel
theorem d_BP_itemThere_7 : decode c_BP_itemThere 7 = .ok (.iload_n 1, 1) := by decide +kernel
theorem d_BP_itemThere_8 : decode c_BP_itemThere 8 = .ok (.invokevirtual 246, 3) := by decide +kernel
theorem d_BP_itemThere_11 : decode c_BP_itemThere 11 = .ok (.astore_n 2, 1) := by decide +kernel
theorem d_BP_itemThere_12 : decode c_BP_itemThere 12 = .ok (.aload_n 2, 1) := by decide +kernel
theorem d_BP_itemThere_13 : decode c_BP_itemThere 13 = .ok (.ifnonnull 13, 3) := by decide +kernel
theorem d_BP_itemThere_16 : decode c_BP_itemThere 16 = .ok (.new 40, 3) := by decide +kernel
theorem d_BP_itemThere_19 : decode c_BP_itemThere 19 = .ok (.dup, 1) := by decide +kernel
theorem d_BP_itemThere_20 : decode c_BP_itemThere 20 = .ok (.ldc 249, 2) := by decide +kernel
theorem d_BP_itemThere_22 : decode c_BP_itemThere 22 = .ok (.invokespecial 44, 3) := by decide +kernel
theorem d_BP_itemThere_25 : decode c_BP_itemThere 25 = .ok (.athrow, 1) := by decide +kernel
theorem d_BP_itemThere_26 : decode c_BP_itemThere 26 = .ok (.aload_n 2, 1) := by decide +kernel
theorem d_BP_itemThere_27 : decode c_BP_itemThere 27 = .ok (.areturn, 1) := by decide +kernel
theorem d_Press_init_0 : decode c_Press_init 0 = .ok (.aload_n 0, 1) := by decide +kernel
theorem d_Press_init_1 : decode c_Press_init 1 = .ok (.invokespecial 1, 3) := by decide +kernel
theorem d_Press_init_4 : decode c_Press_init 4 = .ok (.aload_n 0, 1) := by decide +kernel
theorem d_Press_init_5 : decode c_Press_init 5 = .ok (.new 7, 3) := by decide +kernel
theorem d_Press_init_8 : decode c_Press_init 8 = .ok (.dup, 1) := by decide +kernel
theorem d_Press_init_9 : decode c_Press_init 9 = .ok (.invokespecial 9, 3) := by decide +kernel
theorem d_Press_init_12 : decode c_Press_init 12 = .ok (.putfield 10, 3) := by decide +kernel
theorem d_Press_init_15 : decode c_Press_init 15 = .ok (.aload_n 0, 1) := by decide +kernel
theorem d_Press_init_16 : decode c_Press_init 16 = .ok (.iconst 5, 1) := by decide +kernel
theorem d_Press_init_17 : decode c_Press_init 17 = .ok (.iconst 0, 1) := by decide +kernel
theorem d_Press_init_18 : decode c_Press_init 18 = .ok (.multianewarray 16 2, 4) := by decide +kernel
theorem d_Press_init_22 : decode c_Press_init 22 = .ok (.putfield 18, 3) := by decide +kernel
theorem d_Press_init_25 : decode c_Press_init 25 = .ok (.aload_n 0, 1) := by decide +kernel
theorem d_Press_init_26 : decode c_Press_init 26 = .ok (.iconst 0, 1) := by decide +kernel
theorem d_Press_init_27 : decode c_Press_init 27 = .ok (.anewarray 21, 3) := by decide +kernel
theorem d_Press_init_30 : decode c_Press_init 30 = .ok (.putfield 23, 3) := by decide +kernel
theorem d_Press_init_33 : decode c_Press_init 33 = .ok (.aload_n 0, 1) := by decide +kernel
theorem d_Press_init_34 : decode c_Press_init 34 = .ok (.iconst 0, 1) := by decide +kernel
theorem d_Press_init_35 : decode c_Press_init 35 = .ok (.newarray .int, 2) := by decide +kernel
theorem d_Press_init_37 : decode c_Press_init 37 = .ok (.putfield 27, 3) := by decide +kernel
theorem d_Press_init_40 : decode c_Press_init 40 = .ok (.aload_n 0, 1) := by decide +kernel
theorem d_Press_init_41 : decode c_Press_init 41 = .ok (.iconst 0, 1) := by decide +kernel
theorem d_Press_init_42 : decode c_Press_init 42 = .ok (.newarray .boolean, 2) := by decide +kernel
theorem d_Press_init_44 : decode c_Press_init 44 = .ok (.putfield 30, 3) := by decide +kernel
theorem d_Press_init_47 : decode c_Press_init 47 = .ok (.aload_n 0, 1) := by decide +kernel
theorem d_Press_init_48 : decode c_Press_init 48 = .ok (.aload_n 1, 1) := by decide +kernel
theorem d_Press_init_49 : decode c_Press_init 49 = .ok (.putfield 34, 3) := by decide +kernel
theorem d_Press_init_52 : decode c_Press_init 52 = .ok (.aload_n 0, 1) := by decide +kernel
theorem d_Press_init_53 : decode c_Press_init 53 = .ok (.iload_n 2, 1) := by decide +kernel
theorem d_Press_init_54 : decode c_Press_init 54 = .ok (.putfield 37, 3) := by decide +kernel
theorem d_Press_init_57 : decode c_Press_init 57 = .ok (.return_, 1) := by decide +kernel
theorem d_Press_draw_0 : decode c_Press_draw 0 = .ok (.aload_n 0, 1) := by decide +kernel
theorem d_Press_draw_1 : decode c_Press_draw 1 = .ok (.getfield 34, 3) := by decide +kernel
theorem d_Press_draw_4 : decode c_Press_draw 4 = .ok (.aload_n 0, 1) := by decide +kernel
theorem d_Press_draw_5 : decode c_Press_draw 5 = .ok (.getfield 37, 3) := by decide +kernel
theorem d_Press_draw_8 : decode c_Press_draw 8 = .ok (.bipush 24, 2) := by decide +kernel
theorem d_Press_draw_10 : decode c_Press_draw 10 = .ok (.irem, 1) := by decide +kernel
theorem d_Press_draw_11 : decode c_Press_draw 11 = .ok (.invokestatic 41, 3) := by decide +kernel
theorem d_Press_draw_14 : decode c_Press_draw 14 = .ok (.aload_n 0, 1) := by decide +kernel
theorem d_Press_draw_15 : decode c_Press_draw 15 = .ok (.getfield 37, 3) := by decide +kernel
theorem d_Press_draw_18 : decode c_Press_draw 18 = .ok (.bipush 24, 2) := by decide +kernel
theorem d_Press_draw_20 : decode c_Press_draw 20 = .ok (.idiv, 1) := by decide +kernel
theorem d_Press_draw_21 : decode c_Press_draw 21 = .ok (.bipush 8, 2) := by decide +kernel
theorem d_Press_draw_23 : decode c_Press_draw 23 = .ok (.irem, 1) := by decide +kernel
theorem d_Press_draw_24 : decode c_Press_draw 24 = .ok (.ishr, 1) := by decide +kernel
theorem d_Press_draw_25 : decode c_Press_draw 25 = .ok (.sipush 227, 3) := by decide +kernel
theorem d_Press_draw_28 : decode c_Press_draw 28 = .ok (.aload_n 0, 1) := by decide +kernel
theorem d_Press_draw_29 : decode c_Press_draw 29 = .ok (.getfield 37, 3) := by decide +kernel
theorem d_Press_draw_32 : decode c_Press_draw 32 = .ok (.imul, 1) := by decide +kernel
theorem d_Press_draw_33 : decode c_Press_draw 33 = .ok (.iadd, 1) := by decide +kernel
theorem d_Press_draw_34 : decode c_Press_draw 34 = .ok (.iload_n 1, 1) := by decide +kernel
theorem d_Press_draw_35 : decode c_Press_draw 35 = .ok (.invokestatic 47, 3) := by decide +kernel
theorem d_Press_draw_38 : decode c_Press_draw 38 = .ok (.istore_n 2, 1) := by decide +kernel
theorem d_Press_draw_39 : decode c_Press_draw 39 = .ok (.aload_n 0, 1) := by decide +kernel
theorem d_Press_draw_40 : decode c_Press_draw 40 = .ok (.dup, 1) := by decide +kernel
theorem d_Press_draw_41 : decode c_Press_draw 41 = .ok (.getfield 37, 3) := by decide +kernel
theorem d_Press_draw_44 : decode c_Press_draw 44 = .ok (.iconst 1, 1) := by decide +kernel
theorem d_Press_draw_45 : decode c_Press_draw 45 = .ok (.iadd, 1) := by decide +kernel
theorem d_Press_draw_46 : decode c_Press_draw 46 = .ok (.putfield 37, 3) := by decide +kernel
theorem d_Press_draw_49 : decode c_Press_draw 49 = .ok (.iload_n 2, 1) := by decide +kernel
theorem d_Press_draw_50 : decode c_Press_draw 50 = .ok (.ireturn, 1) := by decide +kernel
theorem d_Press_with_0 : decode c_Press_with 0 = .ok (.aload_n 0, 1) := by decide +kernel
theorem d_Press_with_1 : decode c_Press_with 1 = .ok (.arraylength, 1) := by decide +kernel
theorem d_Press_with_2 : decode c_Press_with 2 = .ok (.iconst 1, 1) := by decide +kernel
theorem d_Press_with_3 : decode c_Press_with 3 = .ok (.iadd, 1) := by decide +kernel
theorem d_Press_with_4 : decode c_Press_with 4 = .ok (.anewarray 21, 3) := by decide +kernel
theorem d_Press_with_7 : decode c_Press_with 7 = .ok (.astore_n 3, 1) := by decide +kernel
theorem d_Press_with_8 : decode c_Press_with 8 = .ok (.aload_n 0, 1) := by decide +kernel
theorem d_Press_with_9 : decode c_Press_with 9 = .ok (.iconst 0, 1) := by decide +kernel
theorem d_Press_with_10 : decode c_Press_with 10 = .ok (.aload_n 3, 1) := by decide +kernel
theorem d_Press_with_11 : decode c_Press_with 11 = .ok (.iconst 0, 1) := by decide +kernel
theorem d_Press_with_12 : decode c_Press_with 12 = .ok (.iload_n 2, 1) := by decide +kernel
theorem d_Press_with_13 : decode c_Press_with 13 = .ok (.invokestatic 51, 3) := by decide +kernel
theorem d_Press_with_16 : decode c_Press_with 16 = .ok (.aload_n 3, 1) := by decide +kernel
theorem d_Press_with_17 : decode c_Press_with 17 = .ok (.iload_n 2, 1) := by decide +kernel
theorem d_Press_with_18 : decode c_Press_with 18 = .ok (.aload_n 1, 1) := by decide +kernel
theorem d_Press_with_19 : decode c_Press_with 19 = .ok (.aastore, 1) := by decide +kernel
theorem d_Press_with_20 : decode c_Press_with 20 = .ok (.aload_n 0, 1) := by decide +kernel
theorem d_Press_with_21 : decode c_Press_with 21 = .ok (.iload_n 2, 1) := by decide +kernel
theorem d_Press_with_22 : decode c_Press_with 22 = .ok (.aload_n 3, 1) := by decide +kernel
theorem d_Press_with_23 : decode c_Press_with 23 = .ok (.iload_n 2, 1) := by decide +kernel
theorem d_Press_with_24 : decode c_Press_with 24 = .ok (.iconst 1, 1) := by decide +kernel
theorem d_Press_with_25 : decode c_Press_with 25 = .ok (.iadd, 1) := by decide +kernel
theorem d_Press_with_26 : decode c_Press_with 26 = .ok (.aload_n 0, 1) := by decide +kernel
theorem d_Press_with_27 : decode c_Press_with 27 = .ok (.arraylength, 1) := by decide +kernel
theorem d_Press_with_28 : decode c_Press_with 28 = .ok (.iload_n 2, 1) := by decide +kernel
theorem d_Press_with_29 : decode c_Press_with 29 = .ok (.isub, 1) := by decide +kernel
theorem d_Press_with_30 : decode c_Press_with 30 = .ok (.invokestatic 51, 3) := by decide +kernel
theorem d_Press_with_33 : decode c_Press_with 33 = .ok (.aload_n 3, 1) := by decide +kernel
theorem d_Press_with_34 : decode c_Press_with 34 = .ok (.areturn, 1) := by decide +kernel
theorem d_Press_without_0 : decode c_Press_without 0 = .ok (.aload_n 0, 1) := by decide +kernel
theorem d_Press_without_1 : decode c_Press_without 1 = .ok (.arraylength, 1) := by decide +kernel
theorem d_Press_without_2 : decode c_Press_without 2 = .ok (.iconst 1, 1) := by decide +kernel
theorem d_Press_without_3 : decode c_Press_without 3 = .ok (.isub, 1) := by decide +kernel
theorem d_Press_without_4 : decode c_Press_without 4 = .ok (.anewarray 21, 3) := by decide +kernel
theorem d_Press_without_7 : decode c_Press_without 7 = .ok (.astore_n 2, 1) := by decide +kernel
theorem d_Press_without_8 : decode c_Press_without 8 = .ok (.aload_n 0, 1) := by decide +kernel
theorem d_Press_without_9 : decode c_Press_without 9 = .ok (.iconst 0, 1) := by decide +kernel
theorem d_Press_without_10 : decode c_Press_without 10 = .ok (.aload_n 2, 1) := by decide +kernel
theorem d_Press_without_11 : decode c_Press_without 11 = .ok (.iconst 0, 1) := by decide +kernel
theorem d_Press_without_12 : decode c_Press_without 12 = .ok (.iload_n 1, 1) := by decide +kernel
theorem d_Press_without_13 : decode c_Press_without 13 = .ok (.invokestatic 51, 3) := by decide +kernel
theorem d_Press_without_16 : decode c_Press_without 16 = .ok (.aload_n 0, 1) := by decide +kernel
theorem d_Press_without_17 : decode c_Press_without 17 = .ok (.iload_n 1, 1) := by decide +kernel
theorem d_Press_without_18 : decode c_Press_without 18 = .ok (.iconst 1, 1) := by decide +kernel
theorem d_Press_without_19 : decode c_Press_without 19 = .ok (.iadd, 1) := by decide +kernel
theorem d_Press_without_20 : decode c_Press_without 20 = .ok (.aload_n 2, 1) := by decide +kernel
theorem d_Press_without_21 : decode c_Press_without 21 = .ok (.iload_n 1, 1) := by decide +kernel
theorem d_Press_without_22 : decode c_Press_without 22 = .ok (.aload_n 2, 1) := by decide +kernel
theorem d_Press_without_23 : decode c_Press_without 23 = .ok (.arraylength, 1) := by decide +kernel
theorem d_Press_without_24 : decode c_Press_without 24 = .ok (.iload_n 1, 1) := by decide +kernel
theorem d_Press_without_25 : decode c_Press_without 25 = .ok (.isub, 1) := by decide +kernel
theorem d_Press_without_26 : decode c_Press_without 26 = .ok (.invokestatic 51, 3) := by decide +kernel
theorem d_Press_without_29 : decode c_Press_without 29 = .ok (.aload_n 2, 1) := by decide +kernel
theorem d_Press_without_30 : decode c_Press_without 30 = .ok (.areturn, 1) := by decide +kernel
theorem d_Press_line_0 : decode c_Press_line 0 = .ok (.iload_n 1, 1) := by decide +kernel
theorem d_Press_line_1 : decode c_Press_line 1 = .ok (.ifCond .le 11, 3) := by decide +kernel
theorem d_Press_line_4 : decode c_Press_line 4 = .ok (.aload_n 0, 1) := by decide +kernel
theorem d_Press_line_5 : decode c_Press_line 5 = .ok (.iconst 2, 1) := by decide +kernel
theorem d_Press_line_6 : decode c_Press_line 6 = .ok (.invokevirtual 57, 3) := by decide +kernel
theorem d_Press_line_9 : decode c_Press_line 9 = .ok (.goto 4, 3) := by decide +kernel
theorem d_Press_line_12 : decode c_Press_line 12 = .ok (.iconst 0, 1) := by decide +kernel
theorem d_Press_line_13 : decode c_Press_line 13 = .ok (.istore_n 2, 1) := by decide +kernel
theorem d_Press_line_14 : decode c_Press_line 14 = .ok (.aload_n 0, 1) := by decide +kernel
theorem d_Press_line_15 : decode c_Press_line 15 = .ok (.bipush 12, 2) := by decide +kernel
theorem d_Press_line_17 : decode c_Press_line 17 = .ok (.invokevirtual 57, 3) := by decide +kernel
theorem d_Press_line_20 : decode c_Press_line 20 = .ok (.iconst 3, 1) := by decide +kernel
theorem d_Press_line_21 : decode c_Press_line 21 = .ok (.isub, 1) := by decide +kernel
theorem d_Press_line_22 : decode c_Press_line 22 = .ok (.istore_n 3, 1) := by decide +kernel
theorem d_Press_line_23 : decode c_Press_line 23 = .ok (.aload_n 0, 1) := by decide +kernel
theorem d_Press_line_24 : decode c_Press_line 24 = .ok (.iconst 4, 1) := by decide +kernel
theorem d_Press_line_25 : decode c_Press_line 25 = .ok (.invokevirtual 57, 3) := by decide +kernel
theorem d_Press_line_28 : decode c_Press_line 28 = .ok (.istore 4, 2) := by decide +kernel
theorem d_Press_line_30 : decode c_Press_line 30 = .ok (.aload_n 0, 1) := by decide +kernel
theorem d_Press_line_31 : decode c_Press_line 31 = .ok (.bipush 8, 2) := by decide +kernel
theorem d_Press_line_33 : decode c_Press_line 33 = .ok (.invokevirtual 57, 3) := by decide +kernel
theorem d_Press_line_36 : decode c_Press_line 36 = .ok (.ifCond .ne 14, 3) := by decide +kernel
theorem d_Press_line_39 : decode c_Press_line 39 = .ok (.bipush 8, 2) := by decide +kernel
theorem d_Press_line_41 : decode c_Press_line 41 = .ok (.aload_n 0, 1) := by decide +kernel
theorem d_Press_line_42 : decode c_Press_line 42 = .ok (.iconst 4, 1) := by decide +kernel
theorem d_Press_line_43 : decode c_Press_line 43 = .ok (.invokevirtual 57, 3) := by decide +kernel
theorem d_Press_line_46 : decode c_Press_line 46 = .ok (.iadd, 1) := by decide +kernel
theorem d_Press_line_47 : decode c_Press_line 47 = .ok (.goto 10, 3) := by decide +kernel
theorem d_Press_line_50 : decode c_Press_line 50 = .ok (.aload_n 0, 1) := by decide +kernel
theorem d_Press_line_51 : decode c_Press_line 51 = .ok (.iconst 5, 1) := by decide +kernel
theorem d_Press_line_52 : decode c_Press_line 52 = .ok (.invokevirtual 57, 3) := by decide +kernel
theorem d_Press_line_55 : decode c_Press_line 55 = .ok (.iconst 1, 1) := by decide +kernel
theorem d_Press_line_56 : decode c_Press_line 56 = .ok (.isub, 1) := by decide +kernel
theorem d_Press_line_57 : decode c_Press_line 57 = .ok (.istore 5, 2) := by decide +kernel
theorem d_Press_line_59 : decode c_Press_line 59 = .ok (.iconst 5, 1) := by decide +kernel
theorem d_Press_line_60 : decode c_Press_line 60 = .ok (.newarray .int, 2) := by decide +kernel
theorem d_Press_line_62 : decode c_Press_line 62 = .ok (.dup, 1) := by decide +kernel
theorem d_Press_line_63 : decode c_Press_line 63 = .ok (.iconst 0, 1) := by decide +kernel
theorem d_Press_line_64 : decode c_Press_line 64 = .ok (.iconst 2, 1) := by decide +kernel
theorem d_Press_line_65 : decode c_Press_line 65 = .ok (.iastore, 1) := by decide +kernel
theorem d_Press_line_66 : decode c_Press_line 66 = .ok (.dup, 1) := by decide +kernel
theorem d_Press_line_67 : decode c_Press_line 67 = .ok (.iconst 1, 1) := by decide +kernel
theorem d_Press_line_68 : decode c_Press_line 68 = .ok (.iconst (-1), 1) := by decide +kernel
theorem d_Press_line_69 : decode c_Press_line 69 = .ok (.iastore, 1) := by decide +kernel
theorem d_Press_line_70 : decode c_Press_line 70 = .ok (.dup, 1) := by decide +kernel
theorem d_Press_line_71 : decode c_Press_line 71 = .ok (.iconst 2, 1) := by decide +kernel
theorem d_Press_line_72 : decode c_Press_line 72 = .ok (.iconst (-1), 1) := by decide +kernel
theorem d_Press_line_73 : decode c_Press_line 73 = .ok (.iastore, 1) := by decide +kernel
theorem d_Press_line_74 : decode c_Press_line 74 = .ok (.dup, 1) := by decide +kernel
theorem d_Press_line_75 : decode c_Press_line 75 = .ok (.iconst 3, 1) := by decide +kernel
theorem d_Press_line_76 : decode c_Press_line 76 = .ok (.iload_n 3, 1) := by decide +kernel
theorem d_Press_line_77 : decode c_Press_line 77 = .ok (.iastore, 1) := by decide +kernel
theorem d_Press_line_78 : decode c_Press_line 78 = .ok (.dup, 1) := by decide +kernel
theorem d_Press_line_79 : decode c_Press_line 79 = .ok (.iconst 4, 1) := by decide +kernel
theorem d_Press_line_80 : decode c_Press_line 80 = .ok (.iload_n 2, 1) := by decide +kernel
theorem d_Press_line_81 : decode c_Press_line 81 = .ok (.iastore, 1) := by decide +kernel
theorem d_Press_line_82 : decode c_Press_line 82 = .ok (.astore 6, 2) := by decide +kernel
theorem d_Press_line_84 : decode c_Press_line 84 = .ok (.aload_n 0, 1) := by decide +kernel
theorem d_Press_line_85 : decode c_Press_line 85 = .ok (.bipush 16, 2) := by decide +kernel
theorem d_Press_line_87 : decode c_Press_line 87 = .ok (.invokevirtual 57, 3) := by decide +kernel
theorem d_Press_line_90 : decode c_Press_line 90 = .ok (.tableswitch 368 0 12 #[66, 66, 114, 163, 163, 163, 163, 200, 200, 217, 259, 294, 331], 66) := by decide +kernel
theorem d_Press_line_156 : decode c_Press_line 156 = .ok (.iconst 5, 1) := by decide +kernel
theorem d_Press_line_157 : decode c_Press_line 157 = .ok (.newarray .int, 2) := by decide +kernel
theorem d_Press_line_159 : decode c_Press_line 159 = .ok (.dup, 1) := by decide +kernel
theorem d_Press_line_160 : decode c_Press_line 160 = .ok (.iconst 0, 1) := by decide +kernel
theorem d_Press_line_161 : decode c_Press_line 161 = .ok (.iconst 0, 1) := by decide +kernel
theorem d_Press_line_162 : decode c_Press_line 162 = .ok (.iastore, 1) := by decide +kernel
theorem d_Press_line_163 : decode c_Press_line 163 = .ok (.dup, 1) := by decide +kernel
theorem d_Press_line_164 : decode c_Press_line 164 = .ok (.iconst 1, 1) := by decide +kernel
theorem d_Press_line_165 : decode c_Press_line 165 = .ok (.aload_n 0, 1) := by decide +kernel
theorem d_Press_line_166 : decode c_Press_line 166 = .ok (.iconst 3, 1) := by decide +kernel
theorem d_Press_line_167 : decode c_Press_line 167 = .ok (.invokevirtual 57, 3) := by decide +kernel
theorem d_Press_line_170 : decode c_Press_line 170 = .ok (.ifCond .ne 14, 3) := by decide +kernel
theorem d_Press_line_173 : decode c_Press_line 173 = .ok (.bipush 8, 2) := by decide +kernel
theorem d_Press_line_175 : decode c_Press_line 175 = .ok (.aload_n 0, 1) := by decide +kernel
theorem d_Press_line_176 : decode c_Press_line 176 = .ok (.iconst 2, 1) := by decide +kernel
theorem d_Press_line_177 : decode c_Press_line 177 = .ok (.invokevirtual 57, 3) := by decide +kernel
theorem d_Press_line_180 : decode c_Press_line 180 = .ok (.iadd, 1) := by decide +kernel
theorem d_Press_line_181 : decode c_Press_line 181 = .ok (.goto 5, 3) := by decide +kernel
theorem d_Press_line_184 : decode c_Press_line 184 = .ok (.iload 4, 2) := by decide +kernel
theorem d_Press_line_186 : decode c_Press_line 186 = .ok (.iastore, 1) := by decide +kernel
theorem d_Press_line_187 : decode c_Press_line 187 = .ok (.dup, 1) := by decide +kernel
theorem d_Press_line_188 : decode c_Press_line 188 = .ok (.iconst 2, 1) := by decide +kernel
theorem d_Press_line_189 : decode c_Press_line 189 = .ok (.iconst (-1), 1) := by decide +kernel
theorem d_Press_line_190 : decode c_Press_line 190 = .ok (.iastore, 1) := by decide +kernel
theorem d_Press_line_191 : decode c_Press_line 191 = .ok (.dup, 1) := by decide +kernel
theorem d_Press_line_192 : decode c_Press_line 192 = .ok (.iconst 3, 1) := by decide +kernel
theorem d_Press_line_193 : decode c_Press_line 193 = .ok (.iconst 0, 1) := by decide +kernel
theorem d_Press_line_194 : decode c_Press_line 194 = .ok (.iastore, 1) := by decide +kernel
theorem d_Press_line_195 : decode c_Press_line 195 = .ok (.dup, 1) := by decide +kernel
theorem d_Press_line_196 : decode c_Press_line 196 = .ok (.iconst 4, 1) := by decide +kernel
theorem d_Press_line_197 : decode c_Press_line 197 = .ok (.iconst 0, 1) := by decide +kernel
theorem d_Press_line_198 : decode c_Press_line 198 = .ok (.iastore, 1) := by decide +kernel
theorem d_Press_line_199 : decode c_Press_line 199 = .ok (.astore 7, 2) := by decide +kernel
theorem d_Press_line_201 : decode c_Press_line 201 = .ok (.aload 7, 2) := by decide +kernel
theorem d_Press_line_203 : decode c_Press_line 203 = .ok (.areturn, 1) := by decide +kernel
theorem d_Press_line_204 : decode c_Press_line 204 = .ok (.iconst 5, 1) := by decide +kernel
theorem d_Press_line_205 : decode c_Press_line 205 = .ok (.newarray .int, 2) := by decide +kernel
theorem d_Press_line_207 : decode c_Press_line 207 = .ok (.dup, 1) := by decide +kernel
theorem d_Press_line_208 : decode c_Press_line 208 = .ok (.iconst 0, 1) := by decide +kernel
theorem d_Press_line_209 : decode c_Press_line 209 = .ok (.iconst 1, 1) := by decide +kernel
theorem d_Press_line_210 : decode c_Press_line 210 = .ok (.iastore, 1) := by decide +kernel
theorem d_Press_line_211 : decode c_Press_line 211 = .ok (.dup, 1) := by decide +kernel
theorem d_Press_line_212 : decode c_Press_line 212 = .ok (.iconst 1, 1) := by decide +kernel
theorem d_Press_line_213 : decode c_Press_line 213 = .ok (.iconst 5, 1) := by decide +kernel
theorem d_Press_line_214 : decode c_Press_line 214 = .ok (.aload_n 0, 1) := by decide +kernel
theorem d_Press_line_215 : decode c_Press_line 215 = .ok (.iconst 2, 1) := by decide +kernel
theorem d_Press_line_216 : decode c_Press_line 216 = .ok (.invokevirtual 57, 3) := by decide +kernel
theorem d_Press_line_219 : decode c_Press_line 219 = .ok (.iadd, 1) := by decide +kernel
theorem d_Press_line_220 : decode c_Press_line 220 = .ok (.iastore, 1) := by decide +kernel
theorem d_Press_line_221 : decode c_Press_line 221 = .ok (.dup, 1) := by decide +kernel
theorem d_Press_line_222 : decode c_Press_line 222 = .ok (.iconst 2, 1) := by decide +kernel
theorem d_Press_line_223 : decode c_Press_line 223 = .ok (.aload_n 0, 1) := by decide +kernel
theorem d_Press_line_224 : decode c_Press_line 224 = .ok (.iconst 3, 1) := by decide +kernel
theorem d_Press_line_225 : decode c_Press_line 225 = .ok (.invokevirtual 57, 3) := by decide +kernel
theorem d_Press_line_228 : decode c_Press_line 228 = .ok (.iconst 1, 1) := by decide +kernel
theorem d_Press_line_229 : decode c_Press_line 229 = .ok (.isub, 1) := by decide +kernel
theorem d_Press_line_230 : decode c_Press_line 230 = .ok (.iconst 1, 1) := by decide +kernel
theorem d_Press_line_231 : decode c_Press_line 231 = .ok (.if_icmp .ge 7, 3) := by decide +kernel
theorem d_Press_line_234 : decode c_Press_line 234 = .ok (.iconst (-1), 1) := by decide +kernel
theorem d_Press_line_235 : decode c_Press_line 235 = .ok (.goto 4, 3) := by decide +kernel
theorem d_Press_line_238 : decode c_Press_line 238 = .ok (.iconst 5, 1) := by decide +kernel
theorem d_Press_line_239 : decode c_Press_line 239 = .ok (.iastore, 1) := by decide +kernel
theorem d_Press_line_240 : decode c_Press_line 240 = .ok (.dup, 1) := by decide +kernel
theorem d_Press_line_241 : decode c_Press_line 241 = .ok (.iconst 3, 1) := by decide +kernel
theorem d_Press_line_242 : decode c_Press_line 242 = .ok (.iload_n 3, 1) := by decide +kernel
theorem d_Press_line_243 : decode c_Press_line 243 = .ok (.iastore, 1) := by decide +kernel
theorem d_Press_line_244 : decode c_Press_line 244 = .ok (.dup, 1) := by decide +kernel
theorem d_Press_line_245 : decode c_Press_line 245 = .ok (.iconst 4, 1) := by decide +kernel
theorem d_Press_line_246 : decode c_Press_line 246 = .ok (.iload_n 2, 1) := by decide +kernel
theorem d_Press_line_247 : decode c_Press_line 247 = .ok (.iastore, 1) := by decide +kernel
theorem d_Press_line_248 : decode c_Press_line 248 = .ok (.astore 8, 2) := by decide +kernel
theorem d_Press_line_250 : decode c_Press_line 250 = .ok (.aload 8, 2) := by decide +kernel
theorem d_Press_line_252 : decode c_Press_line 252 = .ok (.areturn, 1) := by decide +kernel
theorem d_Press_line_253 : decode c_Press_line 253 = .ok (.aload 6, 2) := by decide +kernel
theorem d_Press_line_255 : decode c_Press_line 255 = .ok (.iconst 0, 1) := by decide +kernel
theorem d_Press_line_256 : decode c_Press_line 256 = .ok (.iconst 3, 1) := by decide +kernel
theorem d_Press_line_257 : decode c_Press_line 257 = .ok (.aload_n 0, 1) := by decide +kernel
theorem d_Press_line_258 : decode c_Press_line 258 = .ok (.iconst 2, 1) := by decide +kernel
theorem d_Press_line_259 : decode c_Press_line 259 = .ok (.invokevirtual 57, 3) := by decide +kernel
theorem d_Press_line_262 : decode c_Press_line 262 = .ok (.iadd, 1) := by decide +kernel
theorem d_Press_line_263 : decode c_Press_line 263 = .ok (.iastore, 1) := by decide +kernel
theorem d_Press_line_264 : decode c_Press_line 264 = .ok (.aload 6, 2) := by decide +kernel
theorem d_Press_line_266 : decode c_Press_line 266 = .ok (.iconst 1, 1) := by decide +kernel
theorem d_Press_line_267 : decode c_Press_line 267 = .ok (.iload 5, 2) := by decide +kernel
theorem d_Press_line_269 : decode c_Press_line 269 = .ok (.iastore, 1) := by decide +kernel
theorem d_Press_line_270 : decode c_Press_line 270 = .ok (.aload 6, 2) := by decide +kernel
theorem d_Press_line_272 : decode c_Press_line 272 = .ok (.iconst 3, 1) := by decide +kernel
theorem d_Press_line_273 : decode c_Press_line 273 = .ok (.aload_n 0, 1) := by decide +kernel
theorem d_Press_line_274 : decode c_Press_line 274 = .ok (.iconst 3, 1) := by decide +kernel
theorem d_Press_line_275 : decode c_Press_line 275 = .ok (.invokevirtual 57, 3) := by decide +kernel
theorem d_Press_line_278 : decode c_Press_line 278 = .ok (.ifCond .ne 7, 3) := by decide +kernel
theorem d_Press_line_281 : decode c_Press_line 281 = .ok (.iload_n 3, 1) := by decide +kernel
theorem d_Press_line_282 : decode c_Press_line 282 = .ok (.goto 4, 3) := by decide +kernel
theorem d_Press_line_285 : decode c_Press_line 285 = .ok (.iconst 0, 1) := by decide +kernel
theorem d_Press_line_286 : decode c_Press_line 286 = .ok (.iastore, 1) := by decide +kernel
theorem d_Press_line_287 : decode c_Press_line 287 = .ok (.aload 6, 2) := by decide +kernel
theorem d_Press_line_289 : decode c_Press_line 289 = .ok (.areturn, 1) := by decide +kernel
theorem d_Press_line_290 : decode c_Press_line 290 = .ok (.aload 6, 2) := by decide +kernel
theorem d_Press_line_292 : decode c_Press_line 292 = .ok (.iconst 0, 1) := by decide +kernel
theorem d_Press_line_293 : decode c_Press_line 293 = .ok (.iconst 5, 1) := by decide +kernel
theorem d_Press_line_294 : decode c_Press_line 294 = .ok (.iastore, 1) := by decide +kernel
theorem d_Press_line_295 : decode c_Press_line 295 = .ok (.aload 6, 2) := by decide +kernel
theorem d_Press_line_297 : decode c_Press_line 297 = .ok (.iconst 3, 1) := by decide +kernel
theorem d_Press_line_298 : decode c_Press_line 298 = .ok (.aload_n 0, 1) := by decide +kernel
theorem d_Press_line_299 : decode c_Press_line 299 = .ok (.iconst 4, 1) := by decide +kernel
theorem d_Press_line_300 : decode c_Press_line 300 = .ok (.invokevirtual 57, 3) := by decide +kernel
theorem d_Press_line_303 : decode c_Press_line 303 = .ok (.iastore, 1) := by decide +kernel
theorem d_Press_line_304 : decode c_Press_line 304 = .ok (.aload 6, 2) := by decide +kernel
theorem d_Press_line_306 : decode c_Press_line 306 = .ok (.areturn, 1) := by decide +kernel
theorem d_Press_line_307 : decode c_Press_line 307 = .ok (.iconst 5, 1) := by decide +kernel
theorem d_Press_line_308 : decode c_Press_line 308 = .ok (.newarray .int, 2) := by decide +kernel
theorem d_Press_line_310 : decode c_Press_line 310 = .ok (.dup, 1) := by decide +kernel
theorem d_Press_line_311 : decode c_Press_line 311 = .ok (.iconst 0, 1) := by decide +kernel
theorem d_Press_line_312 : decode c_Press_line 312 = .ok (.aload_n 0, 1) := by decide +kernel
theorem d_Press_line_313 : decode c_Press_line 313 = .ok (.iconst 3, 1) := by decide +kernel
theorem d_Press_line_314 : decode c_Press_line 314 = .ok (.invokevirtual 57, 3) := by decide +kernel
theorem d_Press_line_317 : decode c_Press_line 317 = .ok (.ifCond .ne 8, 3) := by decide +kernel
theorem d_Press_line_320 : decode c_Press_line 320 = .ok (.bipush 9, 2) := by decide +kernel
theorem d_Press_line_322 : decode c_Press_line 322 = .ok (.goto 5, 3) := by decide +kernel
theorem d_Press_line_325 : decode c_Press_line 325 = .ok (.bipush 6, 2) := by decide +kernel
theorem d_Press_line_327 : decode c_Press_line 327 = .ok (.iastore, 1) := by decide +kernel
theorem d_Press_line_328 : decode c_Press_line 328 = .ok (.dup, 1) := by decide +kernel
theorem d_Press_line_329 : decode c_Press_line 329 = .ok (.iconst 1, 1) := by decide +kernel
theorem d_Press_line_330 : decode c_Press_line 330 = .ok (.iconst (-1), 1) := by decide +kernel
theorem d_Press_line_331 : decode c_Press_line 331 = .ok (.iastore, 1) := by decide +kernel
theorem d_Press_line_332 : decode c_Press_line 332 = .ok (.dup, 1) := by decide +kernel
theorem d_Press_line_333 : decode c_Press_line 333 = .ok (.iconst 2, 1) := by decide +kernel
theorem d_Press_line_334 : decode c_Press_line 334 = .ok (.iconst (-1), 1) := by decide +kernel
theorem d_Press_line_335 : decode c_Press_line 335 = .ok (.iastore, 1) := by decide +kernel
theorem d_Press_line_336 : decode c_Press_line 336 = .ok (.dup, 1) := by decide +kernel
theorem d_Press_line_337 : decode c_Press_line 337 = .ok (.iconst 3, 1) := by decide +kernel
theorem d_Press_line_338 : decode c_Press_line 338 = .ok (.iconst 0, 1) := by decide +kernel
theorem d_Press_line_339 : decode c_Press_line 339 = .ok (.iastore, 1) := by decide +kernel
theorem d_Press_line_340 : decode c_Press_line 340 = .ok (.dup, 1) := by decide +kernel
theorem d_Press_line_341 : decode c_Press_line 341 = .ok (.iconst 4, 1) := by decide +kernel
theorem d_Press_line_342 : decode c_Press_line 342 = .ok (.iconst 0, 1) := by decide +kernel
theorem d_Press_line_343 : decode c_Press_line 343 = .ok (.iastore, 1) := by decide +kernel
theorem d_Press_line_344 : decode c_Press_line 344 = .ok (.astore 9, 2) := by decide +kernel
theorem d_Press_line_346 : decode c_Press_line 346 = .ok (.aload 9, 2) := by decide +kernel
theorem d_Press_line_348 : decode c_Press_line 348 = .ok (.areturn, 1) := by decide +kernel
theorem d_Press_line_349 : decode c_Press_line 349 = .ok (.iconst 5, 1) := by decide +kernel
theorem d_Press_line_350 : decode c_Press_line 350 = .ok (.newarray .int, 2) := by decide +kernel
theorem d_Press_line_352 : decode c_Press_line 352 = .ok (.dup, 1) := by decide +kernel
theorem d_Press_line_353 : decode c_Press_line 353 = .ok (.iconst 0, 1) := by decide +kernel
theorem d_Press_line_354 : decode c_Press_line 354 = .ok (.bipush 7, 2) := by decide +kernel
theorem d_Press_line_356 : decode c_Press_line 356 = .ok (.iastore, 1) := by decide +kernel
theorem d_Press_line_357 : decode c_Press_line 357 = .ok (.dup, 1) := by decide +kernel
theorem d_Press_line_358 : decode c_Press_line 358 = .ok (.iconst 1, 1) := by decide +kernel
theorem d_Press_line_359 : decode c_Press_line 359 = .ok (.iconst (-1), 1) := by decide +kernel
theorem d_Press_line_360 : decode c_Press_line 360 = .ok (.iastore, 1) := by decide +kernel
theorem d_Press_line_361 : decode c_Press_line 361 = .ok (.dup, 1) := by decide +kernel
theorem d_Press_line_362 : decode c_Press_line 362 = .ok (.iconst 2, 1) := by decide +kernel
theorem d_Press_line_363 : decode c_Press_line 363 = .ok (.iconst (-1), 1) := by decide +kernel
theorem d_Press_line_364 : decode c_Press_line 364 = .ok (.iastore, 1) := by decide +kernel
theorem d_Press_line_365 : decode c_Press_line 365 = .ok (.dup, 1) := by decide +kernel
theorem d_Press_line_366 : decode c_Press_line 366 = .ok (.iconst 3, 1) := by decide +kernel
theorem d_Press_line_367 : decode c_Press_line 367 = .ok (.iconst 2, 1) := by decide +kernel
theorem d_Press_line_368 : decode c_Press_line 368 = .ok (.aload_n 0, 1) := by decide +kernel
theorem d_Press_line_369 : decode c_Press_line 369 = .ok (.iconst 3, 1) := by decide +kernel
theorem d_Press_line_370 : decode c_Press_line 370 = .ok (.invokevirtual 57, 3) := by decide +kernel
theorem d_Press_line_373 : decode c_Press_line 373 = .ok (.ishl, 1) := by decide +kernel
theorem d_Press_line_374 : decode c_Press_line 374 = .ok (.iastore, 1) := by decide +kernel
theorem d_Press_line_375 : decode c_Press_line 375 = .ok (.dup, 1) := by decide +kernel
theorem d_Press_line_376 : decode c_Press_line 376 = .ok (.iconst 4, 1) := by decide +kernel
theorem d_Press_line_377 : decode c_Press_line 377 = .ok (.iconst 0, 1) := by decide +kernel
theorem d_Press_line_378 : decode c_Press_line 378 = .ok (.iastore, 1) := by decide +kernel
theorem d_Press_line_379 : decode c_Press_line 379 = .ok (.astore 10, 2) := by decide +kernel
theorem d_Press_line_381 : decode c_Press_line 381 = .ok (.aload 10, 2) := by decide +kernel
theorem d_Press_line_383 : decode c_Press_line 383 = .ok (.areturn, 1) := by decide +kernel
theorem d_Press_line_384 : decode c_Press_line 384 = .ok (.aload 6, 2) := by decide +kernel
theorem d_Press_line_386 : decode c_Press_line 386 = .ok (.iconst 0, 1) := by decide +kernel
theorem d_Press_line_387 : decode c_Press_line 387 = .ok (.bipush 8, 2) := by decide +kernel
theorem d_Press_line_389 : decode c_Press_line 389 = .ok (.iastore, 1) := by decide +kernel
theorem d_Press_line_390 : decode c_Press_line 390 = .ok (.aload 6, 2) := by decide +kernel
theorem d_Press_line_392 : decode c_Press_line 392 = .ok (.iconst 1, 1) := by decide +kernel
theorem d_Press_line_393 : decode c_Press_line 393 = .ok (.aload_n 0, 1) := by decide +kernel
theorem d_Press_line_394 : decode c_Press_line 394 = .ok (.iconst 3, 1) := by decide +kernel
theorem d_Press_line_395 : decode c_Press_line 395 = .ok (.invokevirtual 57, 3) := by decide +kernel
theorem d_Press_line_398 : decode c_Press_line 398 = .ok (.ifCond .ne 7, 3) := by decide +kernel
theorem d_Press_line_401 : decode c_Press_line 401 = .ok (.iconst 5, 1) := by decide +kernel
theorem d_Press_line_402 : decode c_Press_line 402 = .ok (.goto 4, 3) := by decide +kernel
theorem d_Press_line_405 : decode c_Press_line 405 = .ok (.iconst (-1), 1) := by decide +kernel
theorem d_Press_line_406 : decode c_Press_line 406 = .ok (.iastore, 1) := by decide +kernel
theorem d_Press_line_407 : decode c_Press_line 407 = .ok (.aload 6, 2) := by decide +kernel
theorem d_Press_line_409 : decode c_Press_line 409 = .ok (.iconst 3, 1) := by decide +kernel
theorem d_Press_line_410 : decode c_Press_line 410 = .ok (.aload_n 0, 1) := by decide +kernel
theorem d_Press_line_411 : decode c_Press_line 411 = .ok (.iconst 4, 1) := by decide +kernel
theorem d_Press_line_412 : decode c_Press_line 412 = .ok (.invokevirtual 57, 3) := by decide +kernel
theorem d_Press_line_415 : decode c_Press_line 415 = .ok (.iconst 1, 1) := by decide +kernel
theorem d_Press_line_416 : decode c_Press_line 416 = .ok (.isub, 1) := by decide +kernel
theorem d_Press_line_417 : decode c_Press_line 417 = .ok (.iastore, 1) := by decide +kernel
theorem d_Press_line_418 : decode c_Press_line 418 = .ok (.aload 6, 2) := by decide +kernel
theorem d_Press_line_420 : decode c_Press_line 420 = .ok (.areturn, 1) := by decide +kernel
theorem d_Press_line_421 : decode c_Press_line 421 = .ok (.aload 6, 2) := by decide +kernel
theorem d_Press_line_423 : decode c_Press_line 423 = .ok (.iconst 0, 1) := by decide +kernel
theorem d_Press_line_424 : decode c_Press_line 424 = .ok (.bipush 10, 2) := by decide +kernel
theorem d_Press_line_426 : decode c_Press_line 426 = .ok (.iastore, 1) := by decide +kernel
theorem d_Press_line_427 : decode c_Press_line 427 = .ok (.aload 6, 2) := by decide +kernel
theorem d_Press_line_429 : decode c_Press_line 429 = .ok (.iconst 1, 1) := by decide +kernel
theorem d_Press_line_430 : decode c_Press_line 430 = .ok (.iconst 1, 1) := by decide +kernel
theorem d_Press_line_431 : decode c_Press_line 431 = .ok (.aload_n 0, 1) := by decide +kernel
theorem d_Press_line_432 : decode c_Press_line 432 = .ok (.iconst 3, 1) := by decide +kernel
theorem d_Press_line_433 : decode c_Press_line 433 = .ok (.invokevirtual 57, 3) := by decide +kernel
theorem d_Press_line_436 : decode c_Press_line 436 = .ok (.iadd, 1) := by decide +kernel
theorem d_Press_line_437 : decode c_Press_line 437 = .ok (.iastore, 1) := by decide +kernel
theorem d_Press_line_438 : decode c_Press_line 438 = .ok (.aload 6, 2) := by decide +kernel
theorem d_Press_line_440 : decode c_Press_line 440 = .ok (.iconst 3, 1) := by decide +kernel
theorem d_Press_line_441 : decode c_Press_line 441 = .ok (.iload_n 1, 1) := by decide +kernel
theorem d_Press_line_442 : decode c_Press_line 442 = .ok (.ifCond .le 7, 3) := by decide +kernel
theorem d_Press_line_445 : decode c_Press_line 445 = .ok (.iconst (-1), 1) := by decide +kernel
theorem d_Press_line_446 : decode c_Press_line 446 = .ok (.goto 8, 3) := by decide +kernel
theorem d_Press_line_449 : decode c_Press_line 449 = .ok (.aload_n 0, 1) := by decide +kernel
theorem d_Press_line_450 : decode c_Press_line 450 = .ok (.iconst 3, 1) := by decide +kernel
theorem d_Press_line_451 : decode c_Press_line 451 = .ok (.invokevirtual 57, 3) := by decide +kernel
theorem d_Press_line_454 : decode c_Press_line 454 = .ok (.iastore, 1) := by decide +kernel
theorem d_Press_line_455 : decode c_Press_line 455 = .ok (.aload 6, 2) := by decide +kernel
theorem d_Press_line_457 : decode c_Press_line 457 = .ok (.areturn, 1) := by decide +kernel
theorem d_Press_line_458 : decode c_Press_line 458 = .ok (.aload 6, 2) := by decide +kernel
theorem d_Press_line_460 : decode c_Press_line 460 = .ok (.iconst 1, 1) := by decide +kernel
theorem d_Press_line_461 : decode c_Press_line 461 = .ok (.aload_n 0, 1) := by decide +kernel
theorem d_Press_line_462 : decode c_Press_line 462 = .ok (.iconst 3, 1) := by decide +kernel
theorem d_Press_line_463 : decode c_Press_line 463 = .ok (.invokevirtual 57, 3) := by decide +kernel
theorem d_Press_line_466 : decode c_Press_line 466 = .ok (.ifCond .ne 8, 3) := by decide +kernel
theorem d_Press_line_469 : decode c_Press_line 469 = .ok (.iload 5, 2) := by decide +kernel
theorem d_Press_line_471 : decode c_Press_line 471 = .ok (.goto 4, 3) := by decide +kernel
theorem d_Press_line_474 : decode c_Press_line 474 = .ok (.iconst (-1), 1) := by decide +kernel
theorem d_Press_line_475 : decode c_Press_line 475 = .ok (.iastore, 1) := by decide +kernel
theorem d_Press_line_476 : decode c_Press_line 476 = .ok (.aload 6, 2) := by decide +kernel
theorem d_Press_line_478 : decode c_Press_line 478 = .ok (.iconst 2, 1) := by decide +kernel
theorem d_Press_line_479 : decode c_Press_line 479 = .ok (.aload_n 0, 1) := by decide +kernel
theorem d_Press_line_480 : decode c_Press_line 480 = .ok (.iconst 4, 1) := by decide +kernel
theorem d_Press_line_481 : decode c_Press_line 481 = .ok (.invokevirtual 57, 3) := by decide +kernel
theorem d_Press_line_484 : decode c_Press_line 484 = .ok (.ifCond .ne 8, 3) := by decide +kernel
theorem d_Press_line_487 : decode c_Press_line 487 = .ok (.iload 5, 2) := by decide +kernel
theorem d_Press_line_489 : decode c_Press_line 489 = .ok (.goto 4, 3) := by decide +kernel
theorem d_Press_line_492 : decode c_Press_line 492 = .ok (.iconst (-1), 1) := by decide +kernel
theorem d_Press_line_493 : decode c_Press_line 493 = .ok (.iastore, 1) := by decide +kernel
theorem d_Press_line_494 : decode c_Press_line 494 = .ok (.aload 6, 2) := by decide +kernel
theorem d_Press_line_496 : decode c_Press_line 496 = .ok (.areturn, 1) := by decide +kernel
theorem d_Press_add_0 : decode c_Press_add 0 = .ok (.aload_n 0, 1) := by decide +kernel
theorem d_Press_add_1 : decode c_Press_add 1 = .ok (.iconst 3, 1) := by decide +kernel
theorem d_Press_add_2 : decode c_Press_add 2 = .ok (.invokevirtual 57, 3) := by decide +kernel
theorem d_Press_add_5 : decode c_Press_add 5 = .ok (.ifCond .ne 13, 3) := by decide +kernel
theorem d_Press_add_8 : decode c_Press_add 8 = .ok (.iconst 1, 1) := by decide +kernel
theorem d_Press_add_9 : decode c_Press_add 9 = .ok (.aload_n 0, 1) := by decide +kernel
theorem d_Press_add_10 : decode c_Press_add 10 = .ok (.iconst 3, 1) := by decide +kernel
theorem d_Press_add_11 : decode c_Press_add 11 = .ok (.invokevirtual 57, 3) := by decide +kernel
theorem d_Press_add_14 : decode c_Press_add 14 = .ok (.iadd, 1) := by decide +kernel
theorem d_Press_add_15 : decode c_Press_add 15 = .ok (.goto 4, 3) := by decide +kernel
theorem d_Press_add_18 : decode c_Press_add 18 = .ok (.iconst 0, 1) := by decide +kernel
theorem d_Press_add_19 : decode c_Press_add 19 = .ok (.istore_n 1, 1) := by decide +kernel
theorem d_Press_add_20 : decode c_Press_add 20 = .ok (.aload_n 0, 1) := by decide +kernel
theorem d_Press_add_21 : decode c_Press_add 21 = .ok (.getfield 18, 3) := by decide +kernel
theorem d_Press_add_24 : decode c_Press_add 24 = .ok (.iload_n 1, 1) := by decide +kernel
theorem d_Press_add_25 : decode c_Press_add 25 = .ok (.aaload, 1) := by decide +kernel
theorem d_Press_add_26 : decode c_Press_add 26 = .ok (.arraylength, 1) := by decide +kernel
theorem d_Press_add_27 : decode c_Press_add 27 = .ok (.iload_n 1, 1) := by decide +kernel
theorem d_Press_add_28 : decode c_Press_add 28 = .ok (.ifCond .ne 8, 3) := by decide +kernel
theorem d_Press_add_31 : decode c_Press_add 31 = .ok (.bipush 40, 2) := by decide +kernel
theorem d_Press_add_33 : decode c_Press_add 33 = .ok (.goto 5, 3) := by decide +kernel
theorem d_Press_add_36 : decode c_Press_add 36 = .ok (.bipush 10, 2) := by decide +kernel
theorem d_Press_add_38 : decode c_Press_add 38 = .ok (.if_icmp .ne 5, 3) := by decide +kernel
theorem d_Press_add_41 : decode c_Press_add 41 = .ok (.iconst 4, 1) := by decide +kernel
theorem d_Press_add_42 : decode c_Press_add 42 = .ok (.istore_n 1, 1) := by decide +kernel
theorem d_Press_add_43 : decode c_Press_add 43 = .ok (.aload_n 0, 1) := by decide +kernel
theorem d_Press_add_44 : decode c_Press_add 44 = .ok (.getfield 18, 3) := by decide +kernel
theorem d_Press_add_47 : decode c_Press_add 47 = .ok (.iload_n 1, 1) := by decide +kernel
theorem d_Press_add_48 : decode c_Press_add 48 = .ok (.aaload, 1) := by decide +kernel
theorem d_Press_add_49 : decode c_Press_add 49 = .ok (.arraylength, 1) := by decide +kernel
theorem d_Press_add_50 : decode c_Press_add 50 = .ok (.iload_n 1, 1) := by decide +kernel
theorem d_Press_add_51 : decode c_Press_add 51 = .ok (.ifCond .ne 8, 3) := by decide +kernel
theorem d_Press_add_54 : decode c_Press_add 54 = .ok (.bipush 40, 2) := by decide +kernel
theorem d_Press_add_56 : decode c_Press_add 56 = .ok (.goto 5, 3) := by decide +kernel
theorem d_Press_add_59 : decode c_Press_add 59 = .ok (.bipush 10, 2) := by decide +kernel
theorem d_Press_add_61 : decode c_Press_add 61 = .ok (.if_icmp .ne 5, 3) := by decide +kernel
theorem d_Press_add_64 : decode c_Press_add 64 = .ok (.iconst 1, 1) := by decide +kernel
theorem d_Press_add_65 : decode c_Press_add 65 = .ok (.ireturn, 1) := by decide +kernel
theorem d_Press_add_66 : decode c_Press_add 66 = .ok (.aload_n 0, 1) := by decide +kernel
theorem d_Press_add_67 : decode c_Press_add 67 = .ok (.iload_n 1, 1) := by decide +kernel
theorem d_Press_add_68 : decode c_Press_add 68 = .ok (.invokevirtual 61, 3) := by decide +kernel
theorem d_Press_add_71 : decode c_Press_add 71 = .ok (.astore_n 2, 1) := by decide +kernel
theorem d_Press_add_72 : decode c_Press_add 72 = .ok (.aload_n 0, 1) := by decide +kernel
theorem d_Press_add_73 : decode c_Press_add 73 = .ok (.getfield 18, 3) := by decide +kernel
theorem d_Press_add_76 : decode c_Press_add 76 = .ok (.iload_n 1, 1) := by decide +kernel
theorem d_Press_add_77 : decode c_Press_add 77 = .ok (.aload_n 0, 1) := by decide +kernel
theorem d_Press_add_78 : decode c_Press_add 78 = .ok (.getfield 18, 3) := by decide +kernel
theorem d_Press_add_81 : decode c_Press_add 81 = .ok (.iload_n 1, 1) := by decide +kernel
theorem d_Press_add_82 : decode c_Press_add 82 = .ok (.aaload, 1) := by decide +kernel
theorem d_Press_add_83 : decode c_Press_add 83 = .ok (.aload_n 2, 1) := by decide +kernel
theorem d_Press_add_84 : decode c_Press_add 84 = .ok (.aload_n 0, 1) := by decide +kernel
theorem d_Press_add_85 : decode c_Press_add 85 = .ok (.getfield 18, 3) := by decide +kernel
theorem d_Press_add_88 : decode c_Press_add 88 = .ok (.iload_n 1, 1) := by decide +kernel
theorem d_Press_add_89 : decode c_Press_add 89 = .ok (.aaload, 1) := by decide +kernel
theorem d_Press_add_90 : decode c_Press_add 90 = .ok (.arraylength, 1) := by decide +kernel
theorem d_Press_add_91 : decode c_Press_add 91 = .ok (.invokestatic 65, 3) := by decide +kernel
theorem d_Press_add_94 : decode c_Press_add 94 = .ok (.aastore, 1) := by decide +kernel
theorem d_Press_add_95 : decode c_Press_add 95 = .ok (.aload_n 0, 1) := by decide +kernel
theorem d_Press_add_96 : decode c_Press_add 96 = .ok (.getfield 10, 3) := by decide +kernel
theorem d_Press_add_99 : decode c_Press_add 99 = .ok (.iload_n 1, 1) := by decide +kernel
theorem d_Press_add_100 : decode c_Press_add 100 = .ok (.aload_n 2, 1) := by decide +kernel
theorem d_Press_add_101 : decode c_Press_add 101 = .ok (.iconst 0, 1) := by decide +kernel
theorem d_Press_add_102 : decode c_Press_add 102 = .ok (.iaload, 1) := by decide +kernel
theorem d_Press_add_103 : decode c_Press_add 103 = .ok (.aload_n 2, 1) := by decide +kernel
theorem d_Press_add_104 : decode c_Press_add 104 = .ok (.iconst 1, 1) := by decide +kernel
theorem d_Press_add_105 : decode c_Press_add 105 = .ok (.iaload, 1) := by decide +kernel
theorem d_Press_add_106 : decode c_Press_add 106 = .ok (.aload_n 2, 1) := by decide +kernel
theorem d_Press_add_107 : decode c_Press_add 107 = .ok (.iconst 2, 1) := by decide +kernel
theorem d_Press_add_108 : decode c_Press_add 108 = .ok (.iaload, 1) := by decide +kernel
theorem d_Press_add_109 : decode c_Press_add 109 = .ok (.aload_n 2, 1) := by decide +kernel
theorem d_Press_add_110 : decode c_Press_add 110 = .ok (.iconst 3, 1) := by decide +kernel
theorem d_Press_add_111 : decode c_Press_add 111 = .ok (.iaload, 1) := by decide +kernel
theorem d_Press_add_112 : decode c_Press_add 112 = .ok (.aload_n 2, 1) := by decide +kernel
theorem d_Press_add_113 : decode c_Press_add 113 = .ok (.iconst 4, 1) := by decide +kernel
theorem d_Press_add_114 : decode c_Press_add 114 = .ok (.iaload, 1) := by decide +kernel
theorem d_Press_add_115 : decode c_Press_add 115 = .ok (.iconst 1, 1) := by decide +kernel
theorem d_Press_add_116 : decode c_Press_add 116 = .ok (.if_icmp .ne 7, 3) := by decide +kernel
theorem d_Press_add_119 : decode c_Press_add 119 = .ok (.iconst 1, 1) := by decide +kernel
theorem d_Press_add_120 : decode c_Press_add 120 = .ok (.goto 4, 3) := by decide +kernel
theorem d_Press_add_123 : decode c_Press_add 123 = .ok (.iconst 0, 1) := by decide +kernel
theorem d_Press_add_124 : decode c_Press_add 124 = .ok (.invokevirtual 69, 3) := by decide +kernel
theorem d_Press_add_127 : decode c_Press_add 127 = .ok (.aload_n 0, 1) := by decide +kernel
theorem d_Press_add_128 : decode c_Press_add 128 = .ok (.getfield 18, 3) := by decide +kernel
theorem d_Press_add_131 : decode c_Press_add 131 = .ok (.iload_n 1, 1) := by decide +kernel
theorem d_Press_add_132 : decode c_Press_add 132 = .ok (.aaload, 1) := by decide +kernel
theorem d_Press_add_133 : decode c_Press_add 133 = .ok (.arraylength, 1) := by decide +kernel
theorem d_Press_add_134 : decode c_Press_add 134 = .ok (.iconst 1, 1) := by decide +kernel
theorem d_Press_add_135 : decode c_Press_add 135 = .ok (.isub, 1) := by decide +kernel
theorem d_Press_add_136 : decode c_Press_add 136 = .ok (.if_icmp .ne 7, 3) := by decide +kernel
theorem d_Press_add_139 : decode c_Press_add 139 = .ok (.iconst 1, 1) := by decide +kernel
theorem d_Press_add_140 : decode c_Press_add 140 = .ok (.goto 4, 3) := by decide +kernel
theorem d_Press_add_143 : decode c_Press_add 143 = .ok (.iconst 0, 1) := by decide +kernel
theorem d_Press_add_144 : decode c_Press_add 144 = .ok (.ireturn, 1) := by decide +kernel
theorem d_Press_change_0 : decode c_Press_change 0 = .ok (.aload_n 0, 1) := by decide +kernel
theorem d_Press_change_1 : decode c_Press_change 1 = .ok (.iconst 2, 1) := by decide +kernel
theorem d_Press_change_2 : decode c_Press_change 2 = .ok (.invokevirtual 57, 3) := by decide +kernel
theorem d_Press_change_5 : decode c_Press_change 5 = .ok (.aload_n 0, 1) := by decide +kernel
theorem d_Press_change_6 : decode c_Press_change 6 = .ok (.iconst 4, 1) := by decide +kernel
theorem d_Press_change_7 : decode c_Press_change 7 = .ok (.invokevirtual 57, 3) := by decide +kernel
theorem d_Press_change_10 : decode c_Press_change 10 = .ok (.imul, 1) := by decide +kernel
theorem d_Press_change_11 : decode c_Press_change 11 = .ok (.istore_n 1, 1) := by decide +kernel
theorem d_Press_change_12 : decode c_Press_change 12 = .ok (.aload_n 0, 1) := by decide +kernel
theorem d_Press_change_13 : decode c_Press_change 13 = .ok (.getfield 18, 3) := by decide +kernel
theorem d_Press_change_16 : decode c_Press_change 16 = .ok (.iload_n 1, 1) := by decide +kernel
theorem d_Press_change_17 : decode c_Press_change 17 = .ok (.aaload, 1) := by decide +kernel
theorem d_Press_change_18 : decode c_Press_change 18 = .ok (.arraylength, 1) := by decide +kernel
theorem d_Press_change_19 : decode c_Press_change 19 = .ok (.ifCond .ne 5, 3) := by decide +kernel
theorem d_Press_change_22 : decode c_Press_change 22 = .ok (.iconst 1, 1) := by decide +kernel
theorem d_Press_change_23 : decode c_Press_change 23 = .ok (.ireturn, 1) := by decide +kernel
theorem d_Press_change_24 : decode c_Press_change 24 = .ok (.aload_n 0, 1) := by decide +kernel
theorem d_Press_change_25 : decode c_Press_change 25 = .ok (.aload_n 0, 1) := by decide +kernel
theorem d_Press_change_26 : decode c_Press_change 26 = .ok (.getfield 18, 3) := by decide +kernel
theorem d_Press_change_29 : decode c_Press_change 29 = .ok (.iload_n 1, 1) := by decide +kernel
theorem d_Press_change_30 : decode c_Press_change 30 = .ok (.aaload, 1) := by decide +kernel
theorem d_Press_change_31 : decode c_Press_change 31 = .ok (.arraylength, 1) := by decide +kernel
theorem d_Press_change_32 : decode c_Press_change 32 = .ok (.invokevirtual 57, 3) := by decide +kernel
theorem d_Press_change_35 : decode c_Press_change 35 = .ok (.istore_n 2, 1) := by decide +kernel
theorem d_Press_change_36 : decode c_Press_change 36 = .ok (.aload_n 0, 1) := by decide +kernel
theorem d_Press_change_37 : decode c_Press_change 37 = .ok (.iconst 3, 1) := by decide +kernel
theorem d_Press_change_38 : decode c_Press_change 38 = .ok (.invokevirtual 57, 3) := by decide +kernel
theorem d_Press_change_41 : decode c_Press_change 41 = .ok (.ifCond .ne 44, 3) := by decide +kernel
theorem d_Press_change_44 : decode c_Press_change 44 = .ok (.aload_n 0, 1) := by decide +kernel
theorem d_Press_change_45 : decode c_Press_change 45 = .ok (.getfield 18, 3) := by decide +kernel
theorem d_Press_change_48 : decode c_Press_change 48 = .ok (.iload_n 1, 1) := by decide +kernel
theorem d_Press_change_49 : decode c_Press_change 49 = .ok (.aload_n 0, 1) := by decide +kernel
theorem d_Press_change_50 : decode c_Press_change 50 = .ok (.getfield 18, 3) := by decide +kernel
theorem d_Press_change_53 : decode c_Press_change 53 = .ok (.iload_n 1, 1) := by decide +kernel
theorem d_Press_change_54 : decode c_Press_change 54 = .ok (.aaload, 1) := by decide +kernel
theorem d_Press_change_55 : decode c_Press_change 55 = .ok (.iload_n 2, 1) := by decide +kernel
theorem d_Press_change_56 : decode c_Press_change 56 = .ok (.invokestatic 73, 3) := by decide +kernel
theorem d_Press_change_59 : decode c_Press_change 59 = .ok (.aastore, 1) := by decide +kernel
theorem d_Press_change_60 : decode c_Press_change 60 = .ok (.aload_n 0, 1) := by decide +kernel
theorem d_Press_change_61 : decode c_Press_change 61 = .ok (.getfield 10, 3) := by decide +kernel
theorem d_Press_change_64 : decode c_Press_change 64 = .ok (.iload_n 1, 1) := by decide +kernel
theorem d_Press_change_65 : decode c_Press_change 65 = .ok (.iload_n 2, 1) := by decide +kernel
theorem d_Press_change_66 : decode c_Press_change 66 = .ok (.invokevirtual 77, 3) := by decide +kernel
theorem d_Press_change_69 : decode c_Press_change 69 = .ok (.aload_n 0, 1) := by decide +kernel
theorem d_Press_change_70 : decode c_Press_change 70 = .ok (.getfield 18, 3) := by decide +kernel
theorem d_Press_change_73 : decode c_Press_change 73 = .ok (.iload_n 1, 1) := by decide +kernel
theorem d_Press_change_74 : decode c_Press_change 74 = .ok (.aaload, 1) := by decide +kernel
theorem d_Press_change_75 : decode c_Press_change 75 = .ok (.arraylength, 1) := by decide +kernel
theorem d_Press_change_76 : decode c_Press_change 76 = .ok (.if_icmp .ne 7, 3) := by decide +kernel
theorem d_Press_change_79 : decode c_Press_change 79 = .ok (.iconst 1, 1) := by decide +kernel
theorem d_Press_change_80 : decode c_Press_change 80 = .ok (.goto 4, 3) := by decide +kernel
theorem d_Press_change_83 : decode c_Press_change 83 = .ok (.iconst 0, 1) := by decide +kernel
theorem d_Press_change_84 : decode c_Press_change 84 = .ok (.ireturn, 1) := by decide +kernel
theorem d_Press_change_85 : decode c_Press_change 85 = .ok (.aload_n 0, 1) := by decide +kernel
theorem d_Press_change_86 : decode c_Press_change 86 = .ok (.getfield 18, 3) := by decide +kernel
theorem d_Press_change_89 : decode c_Press_change 89 = .ok (.iload_n 1, 1) := by decide +kernel
theorem d_Press_change_90 : decode c_Press_change 90 = .ok (.aaload, 1) := by decide +kernel
theorem d_Press_change_91 : decode c_Press_change 91 = .ok (.iload_n 2, 1) := by decide +kernel
theorem d_Press_change_92 : decode c_Press_change 92 = .ok (.aaload, 1) := by decide +kernel
theorem d_Press_change_93 : decode c_Press_change 93 = .ok (.iconst 0, 1) := by decide +kernel
theorem d_Press_change_94 : decode c_Press_change 94 = .ok (.iaload, 1) := by decide +kernel
theorem d_Press_change_95 : decode c_Press_change 95 = .ok (.istore_n 3, 1) := by decide +kernel
theorem d_Press_change_96 : decode c_Press_change 96 = .ok (.aload_n 0, 1) := by decide +kernel
theorem d_Press_change_97 : decode c_Press_change 97 = .ok (.iload_n 1, 1) := by decide +kernel
theorem d_Press_change_98 : decode c_Press_change 98 = .ok (.invokevirtual 61, 3) := by decide +kernel
theorem d_Press_change_101 : decode c_Press_change 101 = .ok (.astore 4, 2) := by decide +kernel
theorem d_Press_change_103 : decode c_Press_change 103 = .ok (.aload_n 0, 1) := by decide +kernel
theorem d_Press_change_104 : decode c_Press_change 104 = .ok (.getfield 18, 3) := by decide +kernel
theorem d_Press_change_107 : decode c_Press_change 107 = .ok (.iload_n 1, 1) := by decide +kernel
theorem d_Press_change_108 : decode c_Press_change 108 = .ok (.aaload, 1) := by decide +kernel
theorem d_Press_change_109 : decode c_Press_change 109 = .ok (.iload_n 2, 1) := by decide +kernel
theorem d_Press_change_110 : decode c_Press_change 110 = .ok (.aload 4, 2) := by decide +kernel
theorem d_Press_change_112 : decode c_Press_change 112 = .ok (.aastore, 1) := by decide +kernel
theorem d_Press_change_113 : decode c_Press_change 113 = .ok (.aload_n 0, 1) := by decide +kernel
theorem d_Press_change_114 : decode c_Press_change 114 = .ok (.getfield 10, 3) := by decide +kernel
theorem d_Press_change_117 : decode c_Press_change 117 = .ok (.iload_n 1, 1) := by decide +kernel
theorem d_Press_change_118 : decode c_Press_change 118 = .ok (.iload_n 2, 1) := by decide +kernel
theorem d_Press_change_119 : decode c_Press_change 119 = .ok (.aload 4, 2) := by decide +kernel
theorem d_Press_change_121 : decode c_Press_change 121 = .ok (.iconst 0, 1) := by decide +kernel
theorem d_Press_change_122 : decode c_Press_change 122 = .ok (.iaload, 1) := by decide +kernel
theorem d_Press_change_123 : decode c_Press_change 123 = .ok (.aload 4, 2) := by decide +kernel
theorem d_Press_change_125 : decode c_Press_change 125 = .ok (.iconst 1, 1) := by decide +kernel
theorem d_Press_change_126 : decode c_Press_change 126 = .ok (.iaload, 1) := by decide +kernel
theorem d_Press_change_127 : decode c_Press_change 127 = .ok (.aload 4, 2) := by decide +kernel
theorem d_Press_change_129 : decode c_Press_change 129 = .ok (.iconst 2, 1) := by decide +kernel
theorem d_Press_change_130 : decode c_Press_change 130 = .ok (.iaload, 1) := by decide +kernel
theorem d_Press_change_131 : decode c_Press_change 131 = .ok (.aload 4, 2) := by decide +kernel
theorem d_Press_change_133 : decode c_Press_change 133 = .ok (.iconst 3, 1) := by decide +kernel
theorem d_Press_change_134 : decode c_Press_change 134 = .ok (.iaload, 1) := by decide +kernel
theorem d_Press_change_135 : decode c_Press_change 135 = .ok (.aload 4, 2) := by decide +kernel
theorem d_Press_change_137 : decode c_Press_change 137 = .ok (.iconst 4, 1) := by decide +kernel
theorem d_Press_change_138 : decode c_Press_change 138 = .ok (.iaload, 1) := by decide +kernel
theorem d_Press_change_139 : decode c_Press_change 139 = .ok (.iconst 1, 1) := by decide +kernel
theorem d_Press_change_140 : decode c_Press_change 140 = .ok (.if_icmp .ne 7, 3) := by decide +kernel
theorem d_Press_change_143 : decode c_Press_change 143 = .ok (.iconst 1, 1) := by decide +kernel
theorem d_Press_change_144 : decode c_Press_change 144 = .ok (.goto 4, 3) := by decide +kernel
theorem d_Press_change_147 : decode c_Press_change 147 = .ok (.iconst 0, 1) := by decide +kernel
theorem d_Press_change_148 : decode c_Press_change 148 = .ok (.invokevirtual 80, 3) := by decide +kernel
theorem d_Press_change_151 : decode c_Press_change 151 = .ok (.iload_n 3, 1) := by decide +kernel
theorem d_Press_change_152 : decode c_Press_change 152 = .ok (.if_icmp .ne 7, 3) := by decide +kernel
theorem d_Press_change_155 : decode c_Press_change 155 = .ok (.iconst 1, 1) := by decide +kernel
theorem d_Press_change_156 : decode c_Press_change 156 = .ok (.goto 4, 3) := by decide +kernel
theorem d_Press_change_159 : decode c_Press_change 159 = .ok (.iconst 0, 1) := by decide +kernel
theorem d_Press_change_160 : decode c_Press_change 160 = .ok (.ireturn, 1) := by decide +kernel
theorem d_Press_found_0 : decode c_Press_found 0 = .ok (.iconst 0, 1) := by decide +kernel
theorem d_Press_found_1 : decode c_Press_found 1 = .ok (.istore_n 1, 1) := by decide +kernel
theorem d_Press_found_2 : decode c_Press_found 2 = .ok (.iload_n 1, 1) := by decide +kernel
theorem d_Press_found_3 : decode c_Press_found 3 = .ok (.bipush 16, 2) := by decide +kernel
theorem d_Press_found_5 : decode c_Press_found 5 = .ok (.if_icmp .ge 18, 3) := by decide +kernel
theorem d_Press_found_8 : decode c_Press_found 8 = .ok (.aload_n 0, 1) := by decide +kernel
theorem d_Press_found_9 : decode c_Press_found 9 = .ok (.invokevirtual 145, 3) := by decide +kernel
theorem d_Press_found_12 : decode c_Press_found 12 = .ok (.ifCond .ne 5, 3) := by decide +kernel
theorem d_Press_found_15 : decode c_Press_found 15 = .ok (.iconst 0, 1) := by decide +kernel
theorem d_Press_found_16 : decode c_Press_found 16 = .ok (.ireturn, 1) := by decide +kernel
theorem d_Press_found_17 : decode c_Press_found 17 = .ok (.iinc 1 1, 3) := by decide +kernel
theorem d_Press_found_20 : decode c_Press_found 20 = .ok (.goto (-18), 3) := by decide +kernel
theorem d_Press_found_23 : decode c_Press_found 23 = .ok (.iconst 1, 1) := by decide +kernel
theorem d_Press_found_24 : decode c_Press_found 24 = .ok (.ireturn, 1) := by decide +kernel
theorem d_Math_max_7cf53_0 : decode c_Math_max_7cf53 0 = .ok (.iload_n 0, 1) := by decide +kernel
theorem d_Math_max_7cf53_1 : decode c_Math_max_7cf53 1 = .ok (.iload_n 1, 1) := by decide +kernel
theorem d_Math_max_7cf53_2 : decode c_Math_max_7cf53 2 = .ok (.if_icmp .lt 7, 3) := by decide +kernel
theorem d_Math_max_7cf53_5 : decode c_Math_max_7cf53 5 = .ok (.iload_n 0, 1) := by decide +kernel
theorem d_Math_max_7cf53_6 : decode c_Math_max_7cf53 6 = .ok (.goto 4, 3) := by decide +kernel
theorem d_Math_max_7cf53_9 : decode c_Math_max_7cf53 9 = .ok (.iload_n 1, 1) := by decide +kernel
theorem d_Math_max_7cf53_10 : decode c_Math_max_7cf53 10 = .ok (.ireturn, 1) := by decide +kernel
theorem d_Math_min_7cf53_0 : decode c_Math_min_7cf53 0 = .ok (.iload_n 0, 1) := by decide +kernel
theorem d_Math_min_7cf53_1 : decode c_Math_min_7cf53 1 = .ok (.iload_n 1, 1) := by decide +kernel
theorem d_Math_min_7cf53_2 : decode c_Math_min_7cf53 2 = .ok (.if_icmp .gt 7, 3) := by decide +kernel
theorem d_Math_min_7cf53_5 : decode c_Math_min_7cf53 5 = .ok (.iload_n 0, 1) := by decide +kernel
theorem d_Math_min_7cf53_6 : decode c_Math_min_7cf53 6 = .ok (.goto 4, 3) := by decide +kernel
theorem d_Math_min_7cf53_9 : decode c_Math_min_7cf53 9 = .ok (.iload_n 1, 1) := by decide +kernel
theorem d_Math_min_7cf53_10 : decode c_Math_min_7cf53 10 = .ok (.ireturn, 1) := by decide +kernel
theorem d_Law_below_0 : decode c_Law_below 0 = .ok (.iload_n 0, 1) := by decide +kernel
theorem d_Law_below_1 : decode c_Law_below 1 = .ok (.ldc 7, 2) := by decide +kernel
theorem d_Law_below_3 : decode c_Law_below 3 = .ok (.iand, 1) := by decide +kernel
theorem d_Law_below_4 : decode c_Law_below 4 = .ok (.iload_n 1, 1) := by decide +kernel
theorem d_Law_below_5 : decode c_Law_below 5 = .ok (.irem, 1) := by decide +kernel
theorem d_Law_below_6 : decode c_Law_below 6 = .ok (.ireturn, 1) := by decide +kernel
theorem d_Law_cell_0 : decode c_Law_cell 0 = .ok (.iload_n 1, 1) := by decide +kernel
theorem d_Law_cell_1 : decode c_Law_cell 1 = .ok (.aload_n 0, 1) := by decide +kernel
theorem d_Law_cell_2 : decode c_Law_cell 2 = .ok (.arraylength, 1) := by decide +kernel
theorem d_Law_cell_3 : decode c_Law_cell 3 = .ok (.if_icmp .ge 9, 3) := by decide +kernel
theorem d_Law_cell_6 : decode c_Law_cell 6 = .ok (.aload_n 0, 1) := by decide +kernel
theorem d_Law_cell_7 : decode c_Law_cell 7 = .ok (.iload_n 1, 1) := by decide +kernel
theorem d_Law_cell_8 : decode c_Law_cell 8 = .ok (.iaload, 1) := by decide +kernel
theorem d_Law_cell_9 : decode c_Law_cell 9 = .ok (.goto 9, 3) := by decide +kernel
theorem d_Law_cell_12 : decode c_Law_cell 12 = .ok (.ldc 8, 2) := by decide +kernel
theorem d_Law_cell_14 : decode c_Law_cell 14 = .ok (.iload_n 1, 1) := by decide +kernel
theorem d_Law_cell_15 : decode c_Law_cell 15 = .ok (.iconst 3, 1) := by decide +kernel
theorem d_Law_cell_16 : decode c_Law_cell 16 = .ok (.iadd, 1) := by decide +kernel
theorem d_Law_cell_17 : decode c_Law_cell 17 = .ok (.imul, 1) := by decide +kernel
theorem d_Law_cell_18 : decode c_Law_cell 18 = .ok (.ireturn, 1) := by decide +kernel
theorem d_Law_law_0 : decode c_Law_law 0 = .ok (.iconst 0, 1) := by decide +kernel
theorem d_Law_law_1 : decode c_Law_law 1 = .ok (.istore_n 1, 1) := by decide +kernel
theorem d_Law_law_2 : decode c_Law_law 2 = .ok (.iload_n 1, 1) := by decide +kernel
theorem d_Law_law_3 : decode c_Law_law 3 = .ok (.iconst 3, 1) := by decide +kernel
theorem d_Law_law_4 : decode c_Law_law 4 = .ok (.if_icmp .ge 798, 3) := by decide +kernel
theorem d_Law_law_7 : decode c_Law_law 7 = .ok (.new 9, 3) := by decide +kernel
theorem d_Law_law_10 : decode c_Law_law 10 = .ok (.dup, 1) := by decide +kernel
theorem d_Law_law_11 : decode c_Law_law 11 = .ok (.aload_n 0, 1) := by decide +kernel
theorem d_Law_law_12 : decode c_Law_law 12 = .ok (.bipush 31, 2) := by decide +kernel
theorem d_Law_law_14 : decode c_Law_law 14 = .ok (.iload_n 1, 1) := by decide +kernel
theorem d_Law_law_15 : decode c_Law_law 15 = .ok (.imul, 1) := by decide +kernel
theorem d_Law_law_16 : decode c_Law_law 16 = .ok (.bipush 7, 2) := by decide +kernel
theorem d_Law_law_18 : decode c_Law_law 18 = .ok (.iadd, 1) := by decide +kernel
theorem d_Law_law_19 : decode c_Law_law 19 = .ok (.invokespecial 11, 3) := by decide +kernel
theorem d_Law_law_22 : decode c_Law_law 22 = .ok (.astore_n 2, 1) := by decide +kernel
theorem d_Law_law_23 : decode c_Law_law 23 = .ok (.aload_n 2, 1) := by decide +kernel
theorem d_Law_law_24 : decode c_Law_law 24 = .ok (.getfield 14, 3) := by decide +kernel
theorem d_Law_law_27 : decode c_Law_law 27 = .ok (.astore_n 3, 1) := by decide +kernel
theorem d_Law_law_28 : decode c_Law_law 28 = .ok (.aload_n 2, 1) := by decide +kernel
theorem d_Law_law_29 : decode c_Law_law 29 = .ok (.invokevirtual 18, 3) := by decide +kernel
theorem d_Law_law_32 : decode c_Law_law 32 = .ok (.ifCond .ne 5, 3) := by decide +kernel
theorem d_Law_law_35 : decode c_Law_law 35 = .ok (.iconst 0, 1) := by decide +kernel
theorem d_Law_law_36 : decode c_Law_law 36 = .ok (.ireturn, 1) := by decide +kernel
theorem d_Law_law_37 : decode c_Law_law 37 = .ok (.iconst 0, 1) := by decide +kernel
theorem d_Law_law_38 : decode c_Law_law 38 = .ok (.istore 4, 2) := by decide +kernel
theorem d_Law_law_40 : decode c_Law_law 40 = .ok (.iload 4, 2) := by decide +kernel
theorem d_Law_law_42 : decode c_Law_law 42 = .ok (.iconst 4, 1) := by decide +kernel
theorem d_Law_law_43 : decode c_Law_law 43 = .ok (.if_icmp .ge 753, 3) := by decide +kernel
theorem d_Law_law_46 : decode c_Law_law 46 = .ok (.aload_n 2, 1) := by decide +kernel
theorem d_Law_law_47 : decode c_Law_law 47 = .ok (.invokevirtual 22, 3) := by decide +kernel
theorem d_Law_law_50 : decode c_Law_law 50 = .ok (.ifCond .eq 10, 3) := by decide +kernel
theorem d_Law_law_53 : decode c_Law_law 53 = .ok (.aload_n 2, 1) := by decide +kernel
theorem d_Law_law_54 : decode c_Law_law 54 = .ok (.invokevirtual 25, 3) := by decide +kernel
theorem d_Law_law_57 : decode c_Law_law 57 = .ok (.ifCond .ne 5, 3) := by decide +kernel
theorem d_Law_law_60 : decode c_Law_law 60 = .ok (.iconst 0, 1) := by decide +kernel
theorem d_Law_law_61 : decode c_Law_law 61 = .ok (.ireturn, 1) := by decide +kernel
theorem d_Law_law_62 : decode c_Law_law 62 = .ok (.aload_n 3, 1) := by decide +kernel
theorem d_Law_law_63 : decode c_Law_law 63 = .ok (.invokevirtual 28, 3) := by decide +kernel
theorem d_Law_law_66 : decode c_Law_law 66 = .ok (.lstore 5, 2) := by decide +kernel
theorem d_Law_law_68 : decode c_Law_law 68 = .ok (.aload_n 3, 1) := by decide +kernel
theorem d_Law_law_69 : decode c_Law_law 69 = .ok (.iconst 0, 1) := by decide +kernel
theorem d_Law_law_70 : decode c_Law_law 70 = .ok (.invokevirtual 34, 3) := by decide +kernel
theorem d_Law_law_73 : decode c_Law_law 73 = .ok (.istore 7, 2) := by decide +kernel
theorem d_Law_law_75 : decode c_Law_law 75 = .ok (.aload_n 3, 1) := by decide +kernel
theorem d_Law_law_76 : decode c_Law_law 76 = .ok (.iconst 3, 1) := by decide +kernel
theorem d_Law_law_77 : decode c_Law_law 77 = .ok (.invokevirtual 34, 3) := by decide +kernel
theorem d_Law_law_80 : decode c_Law_law 80 = .ok (.istore 8, 2) := by decide +kernel
theorem d_Law_law_82 : decode c_Law_law 82 = .ok (.aload_n 3, 1) := by decide +kernel
theorem d_Law_law_83 : decode c_Law_law 83 = .ok (.invokevirtual 38, 3) := by decide +kernel
theorem d_Law_law_86 : decode c_Law_law 86 = .ok (.istore 9, 2) := by decide +kernel
theorem d_Law_law_88 : decode c_Law_law 88 = .ok (.iconst 0, 1) := by decide +kernel
theorem d_Law_law_89 : decode c_Law_law 89 = .ok (.iload 8, 2) := by decide +kernel
theorem d_Law_law_91 : decode c_Law_law 91 = .ok (.invokestatic 42, 3) := by decide +kernel
theorem d_Law_law_94 : decode c_Law_law 94 = .ok (.newarray .int, 2) := by decide +kernel
theorem d_Law_law_96 : decode c_Law_law 96 = .ok (.astore 10, 2) := by decide +kernel
theorem d_Law_law_98 : decode c_Law_law 98 = .ok (.iconst 0, 1) := by decide +kernel
theorem d_Law_law_99 : decode c_Law_law 99 = .ok (.istore 11, 2) := by decide +kernel
theorem d_Law_law_101 : decode c_Law_law 101 = .ok (.iload 11, 2) := by decide +kernel
theorem d_Law_law_103 : decode c_Law_law 103 = .ok (.iload 8, 2) := by decide +kernel
theorem d_Law_law_105 : decode c_Law_law 105 = .ok (.if_icmp .ge 20, 3) := by decide +kernel
theorem d_Law_law_108 : decode c_Law_law 108 = .ok (.aload 10, 2) := by decide +kernel
theorem d_Law_law_110 : decode c_Law_law 110 = .ok (.iload 11, 2) := by decide +kernel
theorem d_Law_law_112 : decode c_Law_law 112 = .ok (.aload_n 3, 1) := by decide +kernel
theorem d_Law_law_113 : decode c_Law_law 113 = .ok (.iload 11, 2) := by decide +kernel
theorem d_Law_law_115 : decode c_Law_law 115 = .ok (.invokevirtual 48, 3) := by decide +kernel
theorem d_Law_law_118 : decode c_Law_law 118 = .ok (.iastore, 1) := by decide +kernel
theorem d_Law_law_119 : decode c_Law_law 119 = .ok (.iinc 11 1, 3) := by decide +kernel
theorem d_Law_law_122 : decode c_Law_law 122 = .ok (.goto (-21), 3) := by decide +kernel
theorem d_Law_law_125 : decode c_Law_law 125 = .ok (.aload_n 3, 1) := by decide +kernel
theorem d_Law_law_126 : decode c_Law_law 126 = .ok (.iload 7, 2) := by decide +kernel
theorem d_Law_law_128 : decode c_Law_law 128 = .ok (.iconst 1, 1) := by decide +kernel
theorem d_Law_law_129 : decode c_Law_law 129 = .ok (.invokevirtual 51, 3) := by decide +kernel
theorem d_Law_law_132 : decode c_Law_law 132 = .ok (.sipush (-1006), 3) := by decide +kernel
theorem d_Law_law_135 : decode c_Law_law 135 = .ok (.if_icmp .lt 37, 3) := by decide +kernel
theorem d_Law_law_138 : decode c_Law_law 138 = .ok (.iload 9, 2) := by decide +kernel
theorem d_Law_law_140 : decode c_Law_law 140 = .ok (.ifCond .le 7, 3) := by decide +kernel
theorem d_Law_law_143 : decode c_Law_law 143 = .ok (.iconst 1, 1) := by decide +kernel
theorem d_Law_law_144 : decode c_Law_law 144 = .ok (.goto 4, 3) := by decide +kernel
theorem d_Law_law_147 : decode c_Law_law 147 = .ok (.iconst 0, 1) := by decide +kernel
theorem d_Law_law_148 : decode c_Law_law 148 = .ok (.iload 8, 2) := by decide +kernel
theorem d_Law_law_150 : decode c_Law_law 150 = .ok (.iconst (-1), 1) := by decide +kernel
theorem d_Law_law_151 : decode c_Law_law 151 = .ok (.if_icmp .ne 7, 3) := by decide +kernel
theorem d_Law_law_154 : decode c_Law_law 154 = .ok (.iconst 1, 1) := by decide +kernel
theorem d_Law_law_155 : decode c_Law_law 155 = .ok (.goto 4, 3) := by decide +kernel
theorem d_Law_law_158 : decode c_Law_law 158 = .ok (.iconst 0, 1) := by decide +kernel
theorem d_Law_law_159 : decode c_Law_law 159 = .ok (.if_icmp .ne 13, 3) := by decide +kernel
theorem d_Law_law_162 : decode c_Law_law 162 = .ok (.aload_n 3, 1) := by decide +kernel
theorem d_Law_law_163 : decode c_Law_law 163 = .ok (.invokevirtual 28, 3) := by decide +kernel
theorem d_Law_law_166 : decode c_Law_law 166 = .ok (.lload 5, 2) := by decide +kernel
theorem d_Law_law_168 : decode c_Law_law 168 = .ok (.lcmp, 1) := by decide +kernel
theorem d_Law_law_169 : decode c_Law_law 169 = .ok (.ifCond .eq 5, 3) := by decide +kernel
theorem d_Law_law_172 : decode c_Law_law 172 = .ok (.iconst 0, 1) := by decide +kernel
theorem d_Law_law_173 : decode c_Law_law 173 = .ok (.ireturn, 1) := by decide +kernel
theorem d_Law_law_174 : decode c_Law_law 174 = .ok (.iload 7, 2) := by decide +kernel
theorem d_Law_law_176 : decode c_Law_law 176 = .ok (.bipush 40, 2) := by decide +kernel
theorem d_Law_law_178 : decode c_Law_law 178 = .ok (.if_icmp .ge 178, 3) := by decide +kernel
theorem d_Law_law_181 : decode c_Law_law 181 = .ok (.aload_n 3, 1) := by decide +kernel
theorem d_Law_law_182 : decode c_Law_law 182 = .ok (.iconst 0, 1) := by decide +kernel
theorem d_Law_law_183 : decode c_Law_law 183 = .ok (.bipush 9, 2) := by decide +kernel
theorem d_Law_law_185 : decode c_Law_law 185 = .ok (.iconst (-1), 1) := by decide +kernel
theorem d_Law_law_186 : decode c_Law_law 186 = .ok (.iconst (-1), 1) := by decide +kernel
theorem d_Law_law_187 : decode c_Law_law 187 = .ok (.iconst 0, 1) := by decide +kernel
theorem d_Law_law_188 : decode c_Law_law 188 = .ok (.iconst 0, 1) := by decide +kernel
theorem d_Law_law_189 : decode c_Law_law 189 = .ok (.invokevirtual 54, 3) := by decide +kernel
theorem d_Law_law_192 : decode c_Law_law 192 = .ok (.iload 7, 2) := by decide +kernel
theorem d_Law_law_194 : decode c_Law_law 194 = .ok (.if_icmp .ne 56, 3) := by decide +kernel
theorem d_Law_law_197 : decode c_Law_law 197 = .ok (.iload 9, 2) := by decide +kernel
theorem d_Law_law_199 : decode c_Law_law 199 = .ok (.ifCond .ne 29, 3) := by decide +kernel
theorem d_Law_law_202 : decode c_Law_law 202 = .ok (.aload_n 3, 1) := by decide +kernel
theorem d_Law_law_203 : decode c_Law_law 203 = .ok (.invokevirtual 38, 3) := by decide +kernel
theorem d_Law_law_206 : decode c_Law_law 206 = .ok (.iconst 2, 1) := by decide +kernel
theorem d_Law_law_207 : decode c_Law_law 207 = .ok (.if_icmp .eq 21, 3) := by decide +kernel
theorem d_Law_law_210 : decode c_Law_law 210 = .ok (.aload_n 3, 1) := by decide +kernel
theorem d_Law_law_211 : decode c_Law_law 211 = .ok (.invokevirtual 38, 3) := by decide +kernel
theorem d_Law_law_214 : decode c_Law_law 214 = .ok (.ifCond .ne 36, 3) := by decide +kernel
theorem d_Law_law_217 : decode c_Law_law 217 = .ok (.aload_n 3, 1) := by decide +kernel
theorem d_Law_law_218 : decode c_Law_law 218 = .ok (.aload 10, 2) := by decide +kernel
theorem d_Law_law_220 : decode c_Law_law 220 = .ok (.iload 8, 2) := by decide +kernel
theorem d_Law_law_222 : decode c_Law_law 222 = .ok (.invokestatic 57, 3) := by decide +kernel
theorem d_Law_law_225 : decode c_Law_law 225 = .ok (.ifCond .eq 25, 3) := by decide +kernel
theorem d_Law_law_228 : decode c_Law_law 228 = .ok (.aload_n 3, 1) := by decide +kernel
theorem d_Law_law_229 : decode c_Law_law 229 = .ok (.iconst 0, 1) := by decide +kernel
theorem d_Law_law_230 : decode c_Law_law 230 = .ok (.iload 7, 2) := by decide +kernel
theorem d_Law_law_232 : decode c_Law_law 232 = .ok (.invokevirtual 63, 3) := by decide +kernel
theorem d_Law_law_235 : decode c_Law_law 235 = .ok (.iload 7, 2) := by decide +kernel
theorem d_Law_law_237 : decode c_Law_law 237 = .ok (.if_icmp .ne 13, 3) := by decide +kernel
theorem d_Law_law_240 : decode c_Law_law 240 = .ok (.aload_n 3, 1) := by decide +kernel
theorem d_Law_law_241 : decode c_Law_law 241 = .ok (.invokevirtual 28, 3) := by decide +kernel
theorem d_Law_law_244 : decode c_Law_law 244 = .ok (.lload 5, 2) := by decide +kernel
theorem d_Law_law_246 : decode c_Law_law 246 = .ok (.lcmp, 1) := by decide +kernel
theorem d_Law_law_247 : decode c_Law_law 247 = .ok (.ifCond .eq 5, 3) := by decide +kernel
theorem d_Law_law_250 : decode c_Law_law 250 = .ok (.iconst 0, 1) := by decide +kernel
theorem d_Law_law_251 : decode c_Law_law 251 = .ok (.ireturn, 1) := by decide +kernel
theorem d_Law_law_252 : decode c_Law_law 252 = .ok (.aload_n 3, 1) := by decide +kernel
theorem d_Law_law_253 : decode c_Law_law 253 = .ok (.iconst 0, 1) := by decide +kernel
theorem d_Law_law_254 : decode c_Law_law 254 = .ok (.iconst 2, 1) := by decide +kernel
theorem d_Law_law_255 : decode c_Law_law 255 = .ok (.iconst (-1), 1) := by decide +kernel
theorem d_Law_law_256 : decode c_Law_law 256 = .ok (.iconst (-1), 1) := by decide +kernel
theorem d_Law_law_257 : decode c_Law_law 257 = .ok (.bipush 7, 2) := by decide +kernel
theorem d_Law_law_259 : decode c_Law_law 259 = .ok (.iconst 0, 1) := by decide +kernel
theorem d_Law_law_260 : decode c_Law_law 260 = .ok (.invokevirtual 54, 3) := by decide +kernel
theorem d_Law_law_263 : decode c_Law_law 263 = .ok (.iload 7, 2) := by decide +kernel
theorem d_Law_law_265 : decode c_Law_law 265 = .ok (.if_icmp .eq 5, 3) := by decide +kernel
theorem d_Law_law_268 : decode c_Law_law 268 = .ok (.iconst 0, 1) := by decide +kernel
theorem d_Law_law_269 : decode c_Law_law 269 = .ok (.ireturn, 1) := by decide +kernel
theorem d_Law_law_270 : decode c_Law_law 270 = .ok (.aload_n 3, 1) := by decide +kernel
theorem d_Law_law_271 : decode c_Law_law 271 = .ok (.iconst 3, 1) := by decide +kernel
theorem d_Law_law_272 : decode c_Law_law 272 = .ok (.invokevirtual 34, 3) := by decide +kernel
theorem d_Law_law_275 : decode c_Law_law 275 = .ok (.istore 11, 2) := by decide +kernel
theorem d_Law_law_277 : decode c_Law_law 277 = .ok (.iload 9, 2) := by decide +kernel
theorem d_Law_law_279 : decode c_Law_law 279 = .ok (.ifCond .ne 25, 3) := by decide +kernel
theorem d_Law_law_282 : decode c_Law_law 282 = .ok (.iload 11, 2) := by decide +kernel
theorem d_Law_law_284 : decode c_Law_law 284 = .ok (.iconst (-1), 1) := by decide +kernel
theorem d_Law_law_285 : decode c_Law_law 285 = .ok (.if_icmp .eq 19, 3) := by decide +kernel
theorem d_Law_law_288 : decode c_Law_law 288 = .ok (.iload 11, 2) := by decide +kernel
theorem d_Law_law_290 : decode c_Law_law 290 = .ok (.iload 8, 2) := by decide +kernel
theorem d_Law_law_292 : decode c_Law_law 292 = .ok (.iconst 1, 1) := by decide +kernel
theorem d_Law_law_293 : decode c_Law_law 293 = .ok (.iadd, 1) := by decide +kernel
theorem d_Law_law_294 : decode c_Law_law 294 = .ok (.if_icmp .eq 10, 3) := by decide +kernel
theorem d_Law_law_297 : decode c_Law_law 297 = .ok (.iload 11, 2) := by decide +kernel
theorem d_Law_law_299 : decode c_Law_law 299 = .ok (.iload 8, 2) := by decide +kernel
theorem d_Law_law_301 : decode c_Law_law 301 = .ok (.if_icmp .ne 53, 3) := by decide +kernel
theorem d_Law_law_304 : decode c_Law_law 304 = .ok (.iload 9, 2) := by decide +kernel
theorem d_Law_law_306 : decode c_Law_law 306 = .ok (.ifCond .ne 26, 3) := by decide +kernel
theorem d_Law_law_309 : decode c_Law_law 309 = .ok (.iload 11, 2) := by decide +kernel
theorem d_Law_law_311 : decode c_Law_law 311 = .ok (.iconst (-1), 1) := by decide +kernel
theorem d_Law_law_312 : decode c_Law_law 312 = .ok (.if_icmp .ne 20, 3) := by decide +kernel
theorem d_Law_law_315 : decode c_Law_law 315 = .ok (.aload_n 3, 1) := by decide +kernel
theorem d_Law_law_316 : decode c_Law_law 316 = .ok (.invokevirtual 38, 3) := by decide +kernel
theorem d_Law_law_319 : decode c_Law_law 319 = .ok (.iconst 2, 1) := by decide +kernel
theorem d_Law_law_320 : decode c_Law_law 320 = .ok (.if_icmp .eq 12, 3) := by decide +kernel
theorem d_Law_law_323 : decode c_Law_law 323 = .ok (.aload_n 3, 1) := by decide +kernel
theorem d_Law_law_324 : decode c_Law_law 324 = .ok (.invokevirtual 38, 3) := by decide +kernel
theorem d_Law_law_327 : decode c_Law_law 327 = .ok (.bipush 6, 2) := by decide +kernel
theorem d_Law_law_329 : decode c_Law_law 329 = .ok (.if_icmp .ne 25, 3) := by decide +kernel
theorem d_Law_law_332 : decode c_Law_law 332 = .ok (.aload_n 3, 1) := by decide +kernel
theorem d_Law_law_333 : decode c_Law_law 333 = .ok (.iconst 0, 1) := by decide +kernel
theorem d_Law_law_334 : decode c_Law_law 334 = .ok (.iload 7, 2) := by decide +kernel
theorem d_Law_law_336 : decode c_Law_law 336 = .ok (.invokevirtual 63, 3) := by decide +kernel
theorem d_Law_law_339 : decode c_Law_law 339 = .ok (.iload 7, 2) := by decide +kernel
theorem d_Law_law_341 : decode c_Law_law 341 = .ok (.if_icmp .ne 13, 3) := by decide +kernel
theorem d_Law_law_344 : decode c_Law_law 344 = .ok (.aload_n 3, 1) := by decide +kernel
theorem d_Law_law_345 : decode c_Law_law 345 = .ok (.invokevirtual 28, 3) := by decide +kernel
theorem d_Law_law_348 : decode c_Law_law 348 = .ok (.lload 5, 2) := by decide +kernel
theorem d_Law_law_350 : decode c_Law_law 350 = .ok (.lcmp, 1) := by decide +kernel
theorem d_Law_law_351 : decode c_Law_law 351 = .ok (.ifCond .eq 5, 3) := by decide +kernel
theorem d_Law_law_354 : decode c_Law_law 354 = .ok (.iconst 0, 1) := by decide +kernel
theorem d_Law_law_355 : decode c_Law_law 355 = .ok (.ireturn, 1) := by decide +kernel
theorem d_Law_law_356 : decode c_Law_law 356 = .ok (.iconst 0, 1) := by decide +kernel
theorem d_Law_law_357 : decode c_Law_law 357 = .ok (.istore 11, 2) := by decide +kernel
theorem d_Law_law_359 : decode c_Law_law 359 = .ok (.iload 11, 2) := by decide +kernel
theorem d_Law_law_361 : decode c_Law_law 361 = .ok (.iconst 4, 1) := by decide +kernel
theorem d_Law_law_362 : decode c_Law_law 362 = .ok (.if_icmp .ge 89, 3) := by decide +kernel
theorem d_Law_law_365 : decode c_Law_law 365 = .ok (.iconst 0, 1) := by decide +kernel
theorem d_Law_law_366 : decode c_Law_law 366 = .ok (.istore 12, 2) := by decide +kernel
theorem d_Law_law_368 : decode c_Law_law 368 = .ok (.iload 12, 2) := by decide +kernel
theorem d_Law_law_370 : decode c_Law_law 370 = .ok (.aload_n 2, 1) := by decide +kernel
theorem d_Law_law_371 : decode c_Law_law 371 = .ok (.getfield 66, 3) := by decide +kernel
theorem d_Law_law_374 : decode c_Law_law 374 = .ok (.iload 11, 2) := by decide +kernel
theorem d_Law_law_376 : decode c_Law_law 376 = .ok (.aaload, 1) := by decide +kernel
theorem d_Law_law_377 : decode c_Law_law 377 = .ok (.arraylength, 1) := by decide +kernel
theorem d_Law_law_378 : decode c_Law_law 378 = .ok (.if_icmp .ge 67, 3) := by decide +kernel
theorem d_Law_law_381 : decode c_Law_law 381 = .ok (.aload_n 2, 1) := by decide +kernel
theorem d_Law_law_382 : decode c_Law_law 382 = .ok (.getfield 66, 3) := by decide +kernel
theorem d_Law_law_385 : decode c_Law_law 385 = .ok (.iload 11, 2) := by decide +kernel
theorem d_Law_law_387 : decode c_Law_law 387 = .ok (.aaload, 1) := by decide +kernel
theorem d_Law_law_388 : decode c_Law_law 388 = .ok (.iload 12, 2) := by decide +kernel
theorem d_Law_law_390 : decode c_Law_law 390 = .ok (.aaload, 1) := by decide +kernel
theorem d_Law_law_391 : decode c_Law_law 391 = .ok (.astore 13, 2) := by decide +kernel
theorem d_Law_law_393 : decode c_Law_law 393 = .ok (.aload_n 3, 1) := by decide +kernel
theorem d_Law_law_394 : decode c_Law_law 394 = .ok (.iload 11, 2) := by decide +kernel
theorem d_Law_law_396 : decode c_Law_law 396 = .ok (.iload 12, 2) := by decide +kernel
theorem d_Law_law_398 : decode c_Law_law 398 = .ok (.aload 13, 2) := by decide +kernel
theorem d_Law_law_400 : decode c_Law_law 400 = .ok (.iconst 0, 1) := by decide +kernel
theorem d_Law_law_401 : decode c_Law_law 401 = .ok (.iaload, 1) := by decide +kernel
theorem d_Law_law_402 : decode c_Law_law 402 = .ok (.aload 13, 2) := by decide +kernel
theorem d_Law_law_404 : decode c_Law_law 404 = .ok (.iconst 1, 1) := by decide +kernel
theorem d_Law_law_405 : decode c_Law_law 405 = .ok (.iaload, 1) := by decide +kernel
theorem d_Law_law_406 : decode c_Law_law 406 = .ok (.aload 13, 2) := by decide +kernel
theorem d_Law_law_408 : decode c_Law_law 408 = .ok (.iconst 2, 1) := by decide +kernel
theorem d_Law_law_409 : decode c_Law_law 409 = .ok (.iaload, 1) := by decide +kernel
theorem d_Law_law_410 : decode c_Law_law 410 = .ok (.aload 13, 2) := by decide +kernel
theorem d_Law_law_412 : decode c_Law_law 412 = .ok (.iconst 3, 1) := by decide +kernel
theorem d_Law_law_413 : decode c_Law_law 413 = .ok (.iaload, 1) := by decide +kernel
theorem d_Law_law_414 : decode c_Law_law 414 = .ok (.aload 13, 2) := by decide +kernel
theorem d_Law_law_416 : decode c_Law_law 416 = .ok (.iconst 4, 1) := by decide +kernel
theorem d_Law_law_417 : decode c_Law_law 417 = .ok (.iaload, 1) := by decide +kernel
theorem d_Law_law_418 : decode c_Law_law 418 = .ok (.iconst 1, 1) := by decide +kernel
theorem d_Law_law_419 : decode c_Law_law 419 = .ok (.if_icmp .ne 7, 3) := by decide +kernel
theorem d_Law_law_422 : decode c_Law_law 422 = .ok (.iconst 1, 1) := by decide +kernel
theorem d_Law_law_423 : decode c_Law_law 423 = .ok (.goto 4, 3) := by decide +kernel
theorem d_Law_law_426 : decode c_Law_law 426 = .ok (.iconst 0, 1) := by decide +kernel
theorem d_Law_law_427 : decode c_Law_law 427 = .ok (.invokevirtual 70, 3) := by decide +kernel
theorem d_Law_law_430 : decode c_Law_law 430 = .ok (.aload 13, 2) := by decide +kernel
theorem d_Law_law_432 : decode c_Law_law 432 = .ok (.iconst 0, 1) := by decide +kernel
theorem d_Law_law_433 : decode c_Law_law 433 = .ok (.iaload, 1) := by decide +kernel
theorem d_Law_law_434 : decode c_Law_law 434 = .ok (.if_icmp .eq 5, 3) := by decide +kernel
theorem d_Law_law_437 : decode c_Law_law 437 = .ok (.iconst 0, 1) := by decide +kernel
theorem d_Law_law_438 : decode c_Law_law 438 = .ok (.ireturn, 1) := by decide +kernel
theorem d_Law_law_439 : decode c_Law_law 439 = .ok (.iinc 12 3, 3) := by decide +kernel
theorem d_Law_law_442 : decode c_Law_law 442 = .ok (.goto (-74), 3) := by decide +kernel
theorem d_Law_law_445 : decode c_Law_law 445 = .ok (.iinc 11 1, 3) := by decide +kernel
theorem d_Law_law_448 : decode c_Law_law 448 = .ok (.goto (-89), 3) := by decide +kernel
theorem d_Law_law_451 : decode c_Law_law 451 = .ok (.aload_n 3, 1) := by decide +kernel
theorem d_Law_law_452 : decode c_Law_law 452 = .ok (.invokevirtual 28, 3) := by decide +kernel
theorem d_Law_law_455 : decode c_Law_law 455 = .ok (.lload 5, 2) := by decide +kernel
theorem d_Law_law_457 : decode c_Law_law 457 = .ok (.lcmp, 1) := by decide +kernel
theorem d_Law_law_458 : decode c_Law_law 458 = .ok (.ifCond .eq 5, 3) := by decide +kernel
theorem d_Law_law_461 : decode c_Law_law 461 = .ok (.iconst 0, 1) := by decide +kernel
theorem d_Law_law_462 : decode c_Law_law 462 = .ok (.ireturn, 1) := by decide +kernel
theorem d_Law_law_463 : decode c_Law_law 463 = .ok (.iconst 0, 1) := by decide +kernel
theorem d_Law_law_464 : decode c_Law_law 464 = .ok (.istore 11, 2) := by decide +kernel
theorem d_Law_law_466 : decode c_Law_law 466 = .ok (.iload 11, 2) := by decide +kernel
theorem d_Law_law_468 : decode c_Law_law 468 = .ok (.iload 8, 2) := by decide +kernel
theorem d_Law_law_470 : decode c_Law_law 470 = .ok (.if_icmp .ge 178, 3) := by decide +kernel
theorem d_Law_law_473 : decode c_Law_law 473 = .ok (.aload_n 3, 1) := by decide +kernel
theorem d_Law_law_474 : decode c_Law_law 474 = .ok (.iload 11, 2) := by decide +kernel
theorem d_Law_law_476 : decode c_Law_law 476 = .ok (.invokevirtual 74, 3) := by decide +kernel
theorem d_Law_law_479 : decode c_Law_law 479 = .ok (.istore 12, 2) := by decide +kernel
theorem d_Law_law_481 : decode c_Law_law 481 = .ok (.aload_n 3, 1) := by decide +kernel
theorem d_Law_law_482 : decode c_Law_law 482 = .ok (.iload 12, 2) := by decide +kernel
theorem d_Law_law_484 : decode c_Law_law 484 = .ok (.iconst 0, 1) := by decide +kernel
theorem d_Law_law_485 : decode c_Law_law 485 = .ok (.invokevirtual 77, 3) := by decide +kernel
theorem d_Law_law_488 : decode c_Law_law 488 = .ok (.istore 13, 2) := by decide +kernel
theorem d_Law_law_490 : decode c_Law_law 490 = .ok (.iload 11, 2) := by decide +kernel
theorem d_Law_law_492 : decode c_Law_law 492 = .ok (.aload_n 3, 1) := by decide +kernel
theorem d_Law_law_493 : decode c_Law_law 493 = .ok (.iload 12, 2) := by decide +kernel
theorem d_Law_law_495 : decode c_Law_law 495 = .ok (.iconst 1, 1) := by decide +kernel
theorem d_Law_law_496 : decode c_Law_law 496 = .ok (.invokevirtual 77, 3) := by decide +kernel
theorem d_Law_law_499 : decode c_Law_law 499 = .ok (.if_icmp .ne 7, 3) := by decide +kernel
theorem d_Law_law_502 : decode c_Law_law 502 = .ok (.iconst 1, 1) := by decide +kernel
theorem d_Law_law_503 : decode c_Law_law 503 = .ok (.goto 4, 3) := by decide +kernel
theorem d_Law_law_506 : decode c_Law_law 506 = .ok (.iconst 0, 1) := by decide +kernel
theorem d_Law_law_507 : decode c_Law_law 507 = .ok (.istore 14, 2) := by decide +kernel
theorem d_Law_law_509 : decode c_Law_law 509 = .ok (.iload 13, 2) := by decide +kernel
theorem d_Law_law_511 : decode c_Law_law 511 = .ok (.iconst 3, 1) := by decide +kernel
theorem d_Law_law_512 : decode c_Law_law 512 = .ok (.if_icmp .ne 41, 3) := by decide +kernel
theorem d_Law_law_515 : decode c_Law_law 515 = .ok (.iload 14, 2) := by decide +kernel
theorem d_Law_law_517 : decode c_Law_law 517 = .ok (.ifCond .eq 36, 3) := by decide +kernel
theorem d_Law_law_520 : decode c_Law_law 520 = .ok (.aload 10, 2) := by decide +kernel
theorem d_Law_law_522 : decode c_Law_law 522 = .ok (.iload 11, 2) := by decide +kernel
theorem d_Law_law_524 : decode c_Law_law 524 = .ok (.iaload, 1) := by decide +kernel
theorem d_Law_law_525 : decode c_Law_law 525 = .ok (.sipush 3100, 3) := by decide +kernel
theorem d_Law_law_528 : decode c_Law_law 528 = .ok (.if_icmp .eq 25, 3) := by decide +kernel
theorem d_Law_law_531 : decode c_Law_law 531 = .ok (.aload 10, 2) := by decide +kernel
theorem d_Law_law_533 : decode c_Law_law 533 = .ok (.iload 11, 2) := by decide +kernel
theorem d_Law_law_535 : decode c_Law_law 535 = .ok (.iaload, 1) := by decide +kernel
theorem d_Law_law_536 : decode c_Law_law 536 = .ok (.sipush 3000, 3) := by decide +kernel
theorem d_Law_law_539 : decode c_Law_law 539 = .ok (.if_icmp .lt 101, 3) := by decide +kernel
theorem d_Law_law_542 : decode c_Law_law 542 = .ok (.aload 10, 2) := by decide +kernel
theorem d_Law_law_544 : decode c_Law_law 544 = .ok (.iload 11, 2) := by decide +kernel
theorem d_Law_law_546 : decode c_Law_law 546 = .ok (.iaload, 1) := by decide +kernel
theorem d_Law_law_547 : decode c_Law_law 547 = .ok (.sipush 3015, 3) := by decide +kernel
theorem d_Law_law_550 : decode c_Law_law 550 = .ok (.if_icmp .gt 90, 3) := by decide +kernel
theorem d_Law_law_553 : decode c_Law_law 553 = .ok (.iload 13, 2) := by decide +kernel
theorem d_Law_law_555 : decode c_Law_law 555 = .ok (.iconst 4, 1) := by decide +kernel
theorem d_Law_law_556 : decode c_Law_law 556 = .ok (.if_icmp .ne 41, 3) := by decide +kernel
theorem d_Law_law_559 : decode c_Law_law 559 = .ok (.iload 14, 2) := by decide +kernel
theorem d_Law_law_561 : decode c_Law_law 561 = .ok (.ifCond .eq 36, 3) := by decide +kernel
theorem d_Law_law_564 : decode c_Law_law 564 = .ok (.aload 10, 2) := by decide +kernel
theorem d_Law_law_566 : decode c_Law_law 566 = .ok (.iload 11, 2) := by decide +kernel
theorem d_Law_law_568 : decode c_Law_law 568 = .ok (.iaload, 1) := by decide +kernel
theorem d_Law_law_569 : decode c_Law_law 569 = .ok (.sipush 4100, 3) := by decide +kernel
theorem d_Law_law_572 : decode c_Law_law 572 = .ok (.if_icmp .eq 25, 3) := by decide +kernel
theorem d_Law_law_575 : decode c_Law_law 575 = .ok (.aload 10, 2) := by decide +kernel
theorem d_Law_law_577 : decode c_Law_law 577 = .ok (.iload 11, 2) := by decide +kernel
theorem d_Law_law_579 : decode c_Law_law 579 = .ok (.iaload, 1) := by decide +kernel
theorem d_Law_law_580 : decode c_Law_law 580 = .ok (.sipush 4000, 3) := by decide +kernel
theorem d_Law_law_583 : decode c_Law_law 583 = .ok (.if_icmp .lt 57, 3) := by decide +kernel
theorem d_Law_law_586 : decode c_Law_law 586 = .ok (.aload 10, 2) := by decide +kernel
theorem d_Law_law_588 : decode c_Law_law 588 = .ok (.iload 11, 2) := by decide +kernel
theorem d_Law_law_590 : decode c_Law_law 590 = .ok (.iaload, 1) := by decide +kernel
theorem d_Law_law_591 : decode c_Law_law 591 = .ok (.sipush 4015, 3) := by decide +kernel
theorem d_Law_law_594 : decode c_Law_law 594 = .ok (.if_icmp .gt 46, 3) := by decide +kernel
theorem d_Law_law_597 : decode c_Law_law 597 = .ok (.iload 13, 2) := by decide +kernel
theorem d_Law_law_599 : decode c_Law_law 599 = .ok (.iconst 5, 1) := by decide +kernel
theorem d_Law_law_600 : decode c_Law_law 600 = .ok (.if_icmp .ne 25, 3) := by decide +kernel
theorem d_Law_law_603 : decode c_Law_law 603 = .ok (.aload 10, 2) := by decide +kernel
theorem d_Law_law_605 : decode c_Law_law 605 = .ok (.iload 11, 2) := by decide +kernel
theorem d_Law_law_607 : decode c_Law_law 607 = .ok (.iaload, 1) := by decide +kernel
theorem d_Law_law_608 : decode c_Law_law 608 = .ok (.sipush 5000, 3) := by decide +kernel
theorem d_Law_law_611 : decode c_Law_law 611 = .ok (.if_icmp .lt 29, 3) := by decide +kernel
theorem d_Law_law_614 : decode c_Law_law 614 = .ok (.aload 10, 2) := by decide +kernel
theorem d_Law_law_616 : decode c_Law_law 616 = .ok (.iload 11, 2) := by decide +kernel
theorem d_Law_law_618 : decode c_Law_law 618 = .ok (.iaload, 1) := by decide +kernel
theorem d_Law_law_619 : decode c_Law_law 619 = .ok (.sipush 5015, 3) := by decide +kernel
theorem d_Law_law_622 : decode c_Law_law 622 = .ok (.if_icmp .gt 18, 3) := by decide +kernel
theorem d_Law_law_625 : decode c_Law_law 625 = .ok (.iload 13, 2) := by decide +kernel
theorem d_Law_law_627 : decode c_Law_law 627 = .ok (.bipush 7, 2) := by decide +kernel
theorem d_Law_law_629 : decode c_Law_law 629 = .ok (.if_icmp .ne 13, 3) := by decide +kernel
theorem d_Law_law_632 : decode c_Law_law 632 = .ok (.aload 10, 2) := by decide +kernel
theorem d_Law_law_634 : decode c_Law_law 634 = .ok (.iload 11, 2) := by decide +kernel
theorem d_Law_law_636 : decode c_Law_law 636 = .ok (.iaload, 1) := by decide +kernel
theorem d_Law_law_637 : decode c_Law_law 637 = .ok (.ifCond .eq 5, 3) := by decide +kernel
theorem d_Law_law_640 : decode c_Law_law 640 = .ok (.iconst 0, 1) := by decide +kernel
theorem d_Law_law_641 : decode c_Law_law 641 = .ok (.ireturn, 1) := by decide +kernel
theorem d_Law_law_642 : decode c_Law_law 642 = .ok (.iinc 11 1, 3) := by decide +kernel
theorem d_Law_law_645 : decode c_Law_law 645 = .ok (.goto (-179), 3) := by decide +kernel
theorem d_Law_law_648 : decode c_Law_law 648 = .ok (.iload 9, 2) := by decide +kernel
theorem d_Law_law_650 : decode c_Law_law 650 = .ok (.ifCond .le 7, 3) := by decide +kernel
theorem d_Law_law_653 : decode c_Law_law 653 = .ok (.iconst 0, 1) := by decide +kernel
theorem d_Law_law_654 : decode c_Law_law 654 = .ok (.goto 8, 3) := by decide +kernel
theorem d_Law_law_657 : decode c_Law_law 657 = .ok (.aload_n 3, 1) := by decide +kernel
theorem d_Law_law_658 : decode c_Law_law 658 = .ok (.iconst 2, 1) := by decide +kernel
theorem d_Law_law_659 : decode c_Law_law 659 = .ok (.invokevirtual 34, 3) := by decide +kernel
theorem d_Law_law_662 : decode c_Law_law 662 = .ok (.istore 11, 2) := by decide +kernel
theorem d_Law_law_664 : decode c_Law_law 664 = .ok (.iconst 0, 1) := by decide +kernel
theorem d_Law_law_665 : decode c_Law_law 665 = .ok (.istore 12, 2) := by decide +kernel
theorem d_Law_law_667 : decode c_Law_law 667 = .ok (.iload 12, 2) := by decide +kernel
theorem d_Law_law_669 : decode c_Law_law 669 = .ok (.iconst 1, 1) := by decide +kernel
theorem d_Law_law_670 : decode c_Law_law 670 = .ok (.iadd, 1) := by decide +kernel
theorem d_Law_law_671 : decode c_Law_law 671 = .ok (.iload 11, 2) := by decide +kernel
theorem d_Law_law_673 : decode c_Law_law 673 = .ok (.if_icmp .ge 117, 3) := by decide +kernel
theorem d_Law_law_676 : decode c_Law_law 676 = .ok (.aload_n 3, 1) := by decide +kernel
theorem d_Law_law_677 : decode c_Law_law 677 = .ok (.iload 12, 2) := by decide +kernel
theorem d_Law_law_679 : decode c_Law_law 679 = .ok (.iconst 3, 1) := by decide +kernel
theorem d_Law_law_680 : decode c_Law_law 680 = .ok (.invokevirtual 77, 3) := by decide +kernel
theorem d_Law_law_683 : decode c_Law_law 683 = .ok (.aload_n 3, 1) := by decide +kernel
theorem d_Law_law_684 : decode c_Law_law 684 = .ok (.iload 12, 2) := by decide +kernel
theorem d_Law_law_686 : decode c_Law_law 686 = .ok (.iconst 1, 1) := by decide +kernel
theorem d_Law_law_687 : decode c_Law_law 687 = .ok (.iadd, 1) := by decide +kernel
theorem d_Law_law_688 : decode c_Law_law 688 = .ok (.iconst 3, 1) := by decide +kernel
theorem d_Law_law_689 : decode c_Law_law 689 = .ok (.invokevirtual 77, 3) := by decide +kernel
theorem d_Law_law_692 : decode c_Law_law 692 = .ok (.if_icmp .le 12, 3) := by decide +kernel
theorem d_Law_law_695 : decode c_Law_law 695 = .ok (.iload 12, 2) := by decide +kernel
theorem d_Law_law_697 : decode c_Law_law 697 = .ok (.iconst 2, 1) := by decide +kernel
theorem d_Law_law_698 : decode c_Law_law 698 = .ok (.iadd, 1) := by decide +kernel
theorem d_Law_law_699 : decode c_Law_law 699 = .ok (.iload 11, 2) := by decide +kernel
theorem d_Law_law_701 : decode c_Law_law 701 = .ok (.if_icmp .lt 81, 3) := by decide +kernel
theorem d_Law_law_704 : decode c_Law_law 704 = .ok (.aload_n 3, 1) := by decide +kernel
theorem d_Law_law_705 : decode c_Law_law 705 = .ok (.iload 12, 2) := by decide +kernel
theorem d_Law_law_707 : decode c_Law_law 707 = .ok (.iconst 4, 1) := by decide +kernel
theorem d_Law_law_708 : decode c_Law_law 708 = .ok (.invokevirtual 77, 3) := by decide +kernel
theorem d_Law_law_711 : decode c_Law_law 711 = .ok (.iconst 5, 1) := by decide +kernel
theorem d_Law_law_712 : decode c_Law_law 712 = .ok (.if_icmp .gt 70, 3) := by decide +kernel
theorem d_Law_law_715 : decode c_Law_law 715 = .ok (.aload_n 3, 1) := by decide +kernel
theorem d_Law_law_716 : decode c_Law_law 716 = .ok (.iload 12, 2) := by decide +kernel
theorem d_Law_law_718 : decode c_Law_law 718 = .ok (.iconst 4, 1) := by decide +kernel
theorem d_Law_law_719 : decode c_Law_law 719 = .ok (.invokevirtual 77, 3) := by decide +kernel
theorem d_Law_law_722 : decode c_Law_law 722 = .ok (.ifCond .ne 29, 3) := by decide +kernel
theorem d_Law_law_725 : decode c_Law_law 725 = .ok (.aload_n 2, 1) := by decide +kernel
theorem d_Law_law_726 : decode c_Law_law 726 = .ok (.getfield 66, 3) := by decide +kernel
theorem d_Law_law_729 : decode c_Law_law 729 = .ok (.iconst 0, 1) := by decide +kernel
theorem d_Law_law_730 : decode c_Law_law 730 = .ok (.aaload, 1) := by decide +kernel
theorem d_Law_law_731 : decode c_Law_law 731 = .ok (.aload_n 3, 1) := by decide +kernel
theorem d_Law_law_732 : decode c_Law_law 732 = .ok (.iload 12, 2) := by decide +kernel
theorem d_Law_law_734 : decode c_Law_law 734 = .ok (.iconst 3, 1) := by decide +kernel
theorem d_Law_law_735 : decode c_Law_law 735 = .ok (.invokevirtual 77, 3) := by decide +kernel
theorem d_Law_law_738 : decode c_Law_law 738 = .ok (.aaload, 1) := by decide +kernel
theorem d_Law_law_739 : decode c_Law_law 739 = .ok (.iconst 0, 1) := by decide +kernel
theorem d_Law_law_740 : decode c_Law_law 740 = .ok (.iaload, 1) := by decide +kernel
theorem d_Law_law_741 : decode c_Law_law 741 = .ok (.aload_n 3, 1) := by decide +kernel
theorem d_Law_law_742 : decode c_Law_law 742 = .ok (.iload 12, 2) := by decide +kernel
theorem d_Law_law_744 : decode c_Law_law 744 = .ok (.iconst 0, 1) := by decide +kernel
theorem d_Law_law_745 : decode c_Law_law 745 = .ok (.invokevirtual 77, 3) := by decide +kernel
theorem d_Law_law_748 : decode c_Law_law 748 = .ok (.if_icmp .ne 34, 3) := by decide +kernel
theorem d_Law_law_751 : decode c_Law_law 751 = .ok (.aload_n 3, 1) := by decide +kernel
theorem d_Law_law_752 : decode c_Law_law 752 = .ok (.iload 12, 2) := by decide +kernel
theorem d_Law_law_754 : decode c_Law_law 754 = .ok (.iconst 4, 1) := by decide +kernel
theorem d_Law_law_755 : decode c_Law_law 755 = .ok (.invokevirtual 77, 3) := by decide +kernel
theorem d_Law_law_758 : decode c_Law_law 758 = .ok (.ifCond .le 26, 3) := by decide +kernel
theorem d_Law_law_761 : decode c_Law_law 761 = .ok (.aload_n 2, 1) := by decide +kernel
theorem d_Law_law_762 : decode c_Law_law 762 = .ok (.getfield 66, 3) := by decide +kernel
theorem d_Law_law_765 : decode c_Law_law 765 = .ok (.iconst 0, 1) := by decide +kernel
theorem d_Law_law_766 : decode c_Law_law 766 = .ok (.aaload, 1) := by decide +kernel
theorem d_Law_law_767 : decode c_Law_law 767 = .ok (.aload_n 3, 1) := by decide +kernel
theorem d_Law_law_768 : decode c_Law_law 768 = .ok (.iload 12, 2) := by decide +kernel
theorem d_Law_law_770 : decode c_Law_law 770 = .ok (.iconst 3, 1) := by decide +kernel
theorem d_Law_law_771 : decode c_Law_law 771 = .ok (.invokevirtual 77, 3) := by decide +kernel
theorem d_Law_law_774 : decode c_Law_law 774 = .ok (.aaload, 1) := by decide +kernel
theorem d_Law_law_775 : decode c_Law_law 775 = .ok (.iconst 0, 1) := by decide +kernel
theorem d_Law_law_776 : decode c_Law_law 776 = .ok (.iaload, 1) := by decide +kernel
theorem d_Law_law_777 : decode c_Law_law 777 = .ok (.bipush 10, 2) := by decide +kernel
theorem d_Law_law_779 : decode c_Law_law 779 = .ok (.if_icmp .eq 5, 3) := by decide +kernel
theorem d_Law_law_782 : decode c_Law_law 782 = .ok (.iconst 0, 1) := by decide +kernel
theorem d_Law_law_783 : decode c_Law_law 783 = .ok (.ireturn, 1) := by decide +kernel
theorem d_Law_law_784 : decode c_Law_law 784 = .ok (.iinc 12 1, 3) := by decide +kernel
theorem d_Law_law_787 : decode c_Law_law 787 = .ok (.goto (-120), 3) := by decide +kernel
theorem d_Law_law_790 : decode c_Law_law 790 = .ok (.iinc 4 1, 3) := by decide +kernel
theorem d_Law_law_793 : decode c_Law_law 793 = .ok (.goto (-753), 3) := by decide +kernel
theorem d_Law_law_796 : decode c_Law_law 796 = .ok (.iinc 1 1, 3) := by decide +kernel
theorem d_Law_law_799 : decode c_Law_law 799 = .ok (.goto (-797), 3) := by decide +kernel
theorem d_Law_law_802 : decode c_Law_law 802 = .ok (.iconst 1, 1) := by decide +kernel
theorem d_Law_law_803 : decode c_Law_law 803 = .ok (.ireturn, 1) := by decide +kernel
theorem d_Law_areWords_0 : decode c_Law_areWords 0 = .ok (.aload_n 0, 1) := by decide +kernel
theorem d_Law_areWords_1 : decode c_Law_areWords 1 = .ok (.iconst 3, 1) := by decide +kernel
theorem d_Law_areWords_2 : decode c_Law_areWords 2 = .ok (.invokevirtual 34, 3) := by decide +kernel
theorem d_Law_areWords_5 : decode c_Law_areWords 5 = .ok (.iload_n 2, 1) := by decide +kernel
theorem d_Law_areWords_6 : decode c_Law_areWords 6 = .ok (.if_icmp .eq 5, 3) := by decide +kernel
theorem d_Law_areWords_9 : decode c_Law_areWords 9 = .ok (.iconst 0, 1) := by decide +kernel
theorem d_Law_areWords_10 : decode c_Law_areWords 10 = .ok (.ireturn, 1) := by decide +kernel
theorem d_Law_areWords_11 : decode c_Law_areWords 11 = .ok (.iconst 0, 1) := by decide +kernel
theorem d_Law_areWords_12 : decode c_Law_areWords 12 = .ok (.istore_n 3, 1) := by decide +kernel
theorem d_Law_areWords_13 : decode c_Law_areWords 13 = .ok (.iload_n 3, 1) := by decide +kernel
theorem d_Law_areWords_14 : decode c_Law_areWords 14 = .ok (.iload_n 2, 1) := by decide +kernel
theorem d_Law_areWords_15 : decode c_Law_areWords 15 = .ok (.if_icmp .ge 22, 3) := by decide +kernel
theorem d_Law_areWords_18 : decode c_Law_areWords 18 = .ok (.aload_n 0, 1) := by decide +kernel
theorem d_Law_areWords_19 : decode c_Law_areWords 19 = .ok (.iload_n 3, 1) := by decide +kernel
theorem d_Law_areWords_20 : decode c_Law_areWords 20 = .ok (.invokevirtual 48, 3) := by decide +kernel
theorem d_Law_areWords_23 : decode c_Law_areWords 23 = .ok (.aload_n 1, 1) := by decide +kernel
theorem d_Law_areWords_24 : decode c_Law_areWords 24 = .ok (.iload_n 3, 1) := by decide +kernel
theorem d_Law_areWords_25 : decode c_Law_areWords 25 = .ok (.iaload, 1) := by decide +kernel
theorem d_Law_areWords_26 : decode c_Law_areWords 26 = .ok (.if_icmp .eq 5, 3) := by decide +kernel
theorem d_Law_areWords_29 : decode c_Law_areWords 29 = .ok (.iconst 0, 1) := by decide +kernel
theorem d_Law_areWords_30 : decode c_Law_areWords 30 = .ok (.ireturn, 1) := by decide +kernel
theorem d_Law_areWords_31 : decode c_Law_areWords 31 = .ok (.iinc 3 1, 3) := by decide +kernel
theorem d_Law_areWords_34 : decode c_Law_areWords 34 = .ok (.goto (-21), 3) := by decide +kernel
theorem d_Law_areWords_37 : decode c_Law_areWords 37 = .ok (.iconst 1, 1) := by decide +kernel
theorem d_Law_areWords_38 : decode c_Law_areWords 38 = .ok (.ireturn, 1) := by decide +kernel
