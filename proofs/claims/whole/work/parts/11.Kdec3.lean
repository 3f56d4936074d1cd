theorem d_K_RuleReader_readBody_0 : decode b_K_RuleReader_readBody 0 = .ok (.iload_n 1, 1) := by decide +kernel
theorem d_K_RuleReader_readBody_1 : decode b_K_RuleReader_readBody 1 = .ok (.aload_n 0, 1) := by decide +kernel
theorem d_K_RuleReader_readBody_2 : decode b_K_RuleReader_readBody 2 = .ok (.getfield 73, 3) := by decide +kernel
theorem d_K_RuleReader_readBody_5 : decode b_K_RuleReader_readBody 5 = .ok (.if_icmp .le 5, 3) := by decide +kernel
theorem d_K_RuleReader_readBody_8 : decode b_K_RuleReader_readBody 8 = .ok (.iconst 0, 1) := by decide +kernel
theorem d_K_RuleReader_readBody_9 : decode b_K_RuleReader_readBody 9 = .ok (.ireturn, 1) := by decide +kernel
theorem d_K_RuleReader_readBody_10 : decode b_K_RuleReader_readBody 10 = .ok (.aload_n 0, 1) := by decide +kernel
theorem d_K_RuleReader_readBody_11 : decode b_K_RuleReader_readBody 11 = .ok (.iload_n 1, 1) := by decide +kernel
theorem d_K_RuleReader_readBody_12 : decode b_K_RuleReader_readBody 12 = .ok (.ldc 89, 2) := by decide +kernel
theorem d_K_RuleReader_readBody_14 : decode b_K_RuleReader_readBody 14 = .ok (.invokevirtual 43, 3) := by decide +kernel
theorem d_K_RuleReader_readBody_17 : decode b_K_RuleReader_readBody 17 = .ok (.ifCond .ne 5, 3) := by decide +kernel
theorem d_K_RuleReader_readBody_20 : decode b_K_RuleReader_readBody 20 = .ok (.iload_n 1, 1) := by decide +kernel
theorem d_K_RuleReader_readBody_21 : decode b_K_RuleReader_readBody 21 = .ok (.ireturn, 1) := by decide +kernel
theorem d_K_RuleReader_readBody_22 : decode b_K_RuleReader_readBody 22 = .ok (.iload_n 1, 1) := by decide +kernel
theorem d_K_RuleReader_readBody_23 : decode b_K_RuleReader_readBody 23 = .ok (.iconst 1, 1) := by decide +kernel
theorem d_K_RuleReader_readBody_24 : decode b_K_RuleReader_readBody 24 = .ok (.iadd, 1) := by decide +kernel
theorem d_K_RuleReader_readBody_25 : decode b_K_RuleReader_readBody 25 = .ok (.istore_n 2, 1) := by decide +kernel
theorem d_K_RuleReader_readBody_26 : decode b_K_RuleReader_readBody 26 = .ok (.iload_n 2, 1) := by decide +kernel
theorem d_K_RuleReader_readBody_27 : decode b_K_RuleReader_readBody 27 = .ok (.istore_n 3, 1) := by decide +kernel
theorem d_K_RuleReader_readBody_28 : decode b_K_RuleReader_readBody 28 = .ok (.iload_n 3, 1) := by decide +kernel
theorem d_K_RuleReader_readBody_29 : decode b_K_RuleReader_readBody 29 = .ok (.aload_n 0, 1) := by decide +kernel
theorem d_K_RuleReader_readBody_30 : decode b_K_RuleReader_readBody 30 = .ok (.getfield 73, 3) := by decide +kernel
theorem d_K_RuleReader_readBody_33 : decode b_K_RuleReader_readBody 33 = .ok (.if_icmp .gt 111, 3) := by decide +kernel
theorem d_K_RuleReader_readBody_36 : decode b_K_RuleReader_readBody 36 = .ok (.iload_n 3, 1) := by decide +kernel
theorem d_K_RuleReader_readBody_37 : decode b_K_RuleReader_readBody 37 = .ok (.iload_n 2, 1) := by decide +kernel
theorem d_K_RuleReader_readBody_38 : decode b_K_RuleReader_readBody 38 = .ok (.if_icmp .le 29, 3) := by decide +kernel
theorem d_K_RuleReader_readBody_41 : decode b_K_RuleReader_readBody 41 = .ok (.aload_n 0, 1) := by decide +kernel
theorem d_K_RuleReader_readBody_42 : decode b_K_RuleReader_readBody 42 = .ok (.iload_n 3, 1) := by decide +kernel
theorem d_K_RuleReader_readBody_43 : decode b_K_RuleReader_readBody 43 = .ok (.ldc 91, 2) := by decide +kernel
theorem d_K_RuleReader_readBody_45 : decode b_K_RuleReader_readBody 45 = .ok (.invokevirtual 43, 3) := by decide +kernel
theorem d_K_RuleReader_readBody_48 : decode b_K_RuleReader_readBody 48 = .ok (.ifCond .eq 19, 3) := by decide +kernel
theorem d_K_RuleReader_readBody_51 : decode b_K_RuleReader_readBody 51 = .ok (.iload_n 3, 1) := by decide +kernel
theorem d_K_RuleReader_readBody_52 : decode b_K_RuleReader_readBody 52 = .ok (.aload_n 0, 1) := by decide +kernel
theorem d_K_RuleReader_readBody_53 : decode b_K_RuleReader_readBody 53 = .ok (.getfield 73, 3) := by decide +kernel
theorem d_K_RuleReader_readBody_56 : decode b_K_RuleReader_readBody 56 = .ok (.if_icmp .ge 9, 3) := by decide +kernel
theorem d_K_RuleReader_readBody_59 : decode b_K_RuleReader_readBody 59 = .ok (.iload_n 3, 1) := by decide +kernel
theorem d_K_RuleReader_readBody_60 : decode b_K_RuleReader_readBody 60 = .ok (.iconst 1, 1) := by decide +kernel
theorem d_K_RuleReader_readBody_61 : decode b_K_RuleReader_readBody 61 = .ok (.iadd, 1) := by decide +kernel
theorem d_K_RuleReader_readBody_62 : decode b_K_RuleReader_readBody 62 = .ok (.goto 4, 3) := by decide +kernel
theorem d_K_RuleReader_readBody_65 : decode b_K_RuleReader_readBody 65 = .ok (.iconst 0, 1) := by decide +kernel
theorem d_K_RuleReader_readBody_66 : decode b_K_RuleReader_readBody 66 = .ok (.ireturn, 1) := by decide +kernel
theorem d_K_RuleReader_readBody_67 : decode b_K_RuleReader_readBody 67 = .ok (.aload_n 0, 1) := by decide +kernel
theorem d_K_RuleReader_readBody_68 : decode b_K_RuleReader_readBody 68 = .ok (.iload_n 3, 1) := by decide +kernel
theorem d_K_RuleReader_readBody_69 : decode b_K_RuleReader_readBody 69 = .ok (.ldc 93, 2) := by decide +kernel
theorem d_K_RuleReader_readBody_71 : decode b_K_RuleReader_readBody 71 = .ok (.invokevirtual 43, 3) := by decide +kernel
theorem d_K_RuleReader_readBody_74 : decode b_K_RuleReader_readBody 74 = .ok (.ifCond .ne 25, 3) := by decide +kernel
theorem d_K_RuleReader_readBody_77 : decode b_K_RuleReader_readBody 77 = .ok (.aload_n 0, 1) := by decide +kernel
theorem d_K_RuleReader_readBody_78 : decode b_K_RuleReader_readBody 78 = .ok (.iload_n 3, 1) := by decide +kernel
theorem d_K_RuleReader_readBody_79 : decode b_K_RuleReader_readBody 79 = .ok (.ldc 95, 2) := by decide +kernel
theorem d_K_RuleReader_readBody_81 : decode b_K_RuleReader_readBody 81 = .ok (.invokevirtual 43, 3) := by decide +kernel
theorem d_K_RuleReader_readBody_84 : decode b_K_RuleReader_readBody 84 = .ok (.ifCond .ne 15, 3) := by decide +kernel
theorem d_K_RuleReader_readBody_87 : decode b_K_RuleReader_readBody 87 = .ok (.aload_n 0, 1) := by decide +kernel
theorem d_K_RuleReader_readBody_88 : decode b_K_RuleReader_readBody 88 = .ok (.iload_n 3, 1) := by decide +kernel
theorem d_K_RuleReader_readBody_89 : decode b_K_RuleReader_readBody 89 = .ok (.ldc 97, 2) := by decide +kernel
theorem d_K_RuleReader_readBody_91 : decode b_K_RuleReader_readBody 91 = .ok (.invokevirtual 43, 3) := by decide +kernel
theorem d_K_RuleReader_readBody_94 : decode b_K_RuleReader_readBody 94 = .ok (.ifCond .ne 5, 3) := by decide +kernel
theorem d_K_RuleReader_readBody_97 : decode b_K_RuleReader_readBody 97 = .ok (.iload_n 3, 1) := by decide +kernel
theorem d_K_RuleReader_readBody_98 : decode b_K_RuleReader_readBody 98 = .ok (.ireturn, 1) := by decide +kernel
theorem d_K_RuleReader_readBody_99 : decode b_K_RuleReader_readBody 99 = .ok (.aload_n 0, 1) := by decide +kernel
theorem d_K_RuleReader_readBody_100 : decode b_K_RuleReader_readBody 100 = .ok (.iload_n 3, 1) := by decide +kernel
theorem d_K_RuleReader_readBody_101 : decode b_K_RuleReader_readBody 101 = .ok (.iconst 1, 1) := by decide +kernel
theorem d_K_RuleReader_readBody_102 : decode b_K_RuleReader_readBody 102 = .ok (.iadd, 1) := by decide +kernel
theorem d_K_RuleReader_readBody_103 : decode b_K_RuleReader_readBody 103 = .ok (.invokevirtual 99, 3) := by decide +kernel
theorem d_K_RuleReader_readBody_106 : decode b_K_RuleReader_readBody 106 = .ok (.ifCond .eq 14, 3) := by decide +kernel
theorem d_K_RuleReader_readBody_109 : decode b_K_RuleReader_readBody 109 = .ok (.aload_n 0, 1) := by decide +kernel
theorem d_K_RuleReader_readBody_110 : decode b_K_RuleReader_readBody 110 = .ok (.iload_n 3, 1) := by decide +kernel
theorem d_K_RuleReader_readBody_111 : decode b_K_RuleReader_readBody 111 = .ok (.iconst 1, 1) := by decide +kernel
theorem d_K_RuleReader_readBody_112 : decode b_K_RuleReader_readBody 112 = .ok (.iadd, 1) := by decide +kernel
theorem d_K_RuleReader_readBody_113 : decode b_K_RuleReader_readBody 113 = .ok (.iconst 1, 1) := by decide +kernel
theorem d_K_RuleReader_readBody_114 : decode b_K_RuleReader_readBody 114 = .ok (.invokevirtual 47, 3) := by decide +kernel
theorem d_K_RuleReader_readBody_117 : decode b_K_RuleReader_readBody 117 = .ok (.ifCond .ne 7, 3) := by decide +kernel
theorem d_K_RuleReader_readBody_120 : decode b_K_RuleReader_readBody 120 = .ok (.iload_n 3, 1) := by decide +kernel
theorem d_K_RuleReader_readBody_121 : decode b_K_RuleReader_readBody 121 = .ok (.iconst 1, 1) := by decide +kernel
theorem d_K_RuleReader_readBody_122 : decode b_K_RuleReader_readBody 122 = .ok (.iadd, 1) := by decide +kernel
theorem d_K_RuleReader_readBody_123 : decode b_K_RuleReader_readBody 123 = .ok (.ireturn, 1) := by decide +kernel
theorem d_K_RuleReader_readBody_124 : decode b_K_RuleReader_readBody 124 = .ok (.aload_n 0, 1) := by decide +kernel
theorem d_K_RuleReader_readBody_125 : decode b_K_RuleReader_readBody 125 = .ok (.dup, 1) := by decide +kernel
theorem d_K_RuleReader_readBody_126 : decode b_K_RuleReader_readBody 126 = .ok (.getfield 66, 3) := by decide +kernel
theorem d_K_RuleReader_readBody_129 : decode b_K_RuleReader_readBody 129 = .ok (.aload_n 0, 1) := by decide +kernel
theorem d_K_RuleReader_readBody_130 : decode b_K_RuleReader_readBody 130 = .ok (.iload_n 3, 1) := by decide +kernel
theorem d_K_RuleReader_readBody_131 : decode b_K_RuleReader_readBody 131 = .ok (.invokevirtual 103, 3) := by decide +kernel
theorem d_K_RuleReader_readBody_134 : decode b_K_RuleReader_readBody 134 = .ok (.lor, 1) := by decide +kernel
theorem d_K_RuleReader_readBody_135 : decode b_K_RuleReader_readBody 135 = .ok (.putfield 66, 3) := by decide +kernel
theorem d_K_RuleReader_readBody_138 : decode b_K_RuleReader_readBody 138 = .ok (.iinc 3 2, 3) := by decide +kernel
theorem d_K_RuleReader_readBody_141 : decode b_K_RuleReader_readBody 141 = .ok (.goto (-113), 3) := by decide +kernel
theorem d_K_RuleReader_readBody_144 : decode b_K_RuleReader_readBody 144 = .ok (.aload_n 0, 1) := by decide +kernel
theorem d_K_RuleReader_readBody_145 : decode b_K_RuleReader_readBody 145 = .ok (.getfield 73, 3) := by decide +kernel
theorem d_K_RuleReader_readBody_148 : decode b_K_RuleReader_readBody 148 = .ok (.iconst 1, 1) := by decide +kernel
theorem d_K_RuleReader_readBody_149 : decode b_K_RuleReader_readBody 149 = .ok (.iadd, 1) := by decide +kernel
theorem d_K_RuleReader_readBody_150 : decode b_K_RuleReader_readBody 150 = .ok (.ireturn, 1) := by decide +kernel
theorem d_K_RuleReader_read_0 : decode b_K_RuleReader_read 0 = .ok (.aload_n 0, 1) := by decide +kernel
theorem d_K_RuleReader_read_1 : decode b_K_RuleReader_read 1 = .ok (.invokevirtual 30, 3) := by decide +kernel
theorem d_K_RuleReader_read_4 : decode b_K_RuleReader_read 4 = .ok (.aload_n 0, 1) := by decide +kernel
theorem d_K_RuleReader_read_5 : decode b_K_RuleReader_read 5 = .ok (.aload_n 0, 1) := by decide +kernel
theorem d_K_RuleReader_read_6 : decode b_K_RuleReader_read 6 = .ok (.invokevirtual 33, 3) := by decide +kernel
theorem d_K_RuleReader_read_9 : decode b_K_RuleReader_read 9 = .ok (.putfield 37, 3) := by decide +kernel
theorem d_K_RuleReader_read_12 : decode b_K_RuleReader_read 12 = .ok (.aload_n 0, 1) := by decide +kernel
theorem d_K_RuleReader_read_13 : decode b_K_RuleReader_read 13 = .ok (.getfield 37, 3) := by decide +kernel
theorem d_K_RuleReader_read_16 : decode b_K_RuleReader_read 16 = .ok (.ifCond .ne 5, 3) := by decide +kernel
theorem d_K_RuleReader_read_19 : decode b_K_RuleReader_read 19 = .ok (.iconst 1, 1) := by decide +kernel
theorem d_K_RuleReader_read_20 : decode b_K_RuleReader_read 20 = .ok (.ireturn, 1) := by decide +kernel
theorem d_K_RuleReader_read_21 : decode b_K_RuleReader_read 21 = .ok (.aload_n 0, 1) := by decide +kernel
theorem d_K_RuleReader_read_22 : decode b_K_RuleReader_read 22 = .ok (.iconst 2, 1) := by decide +kernel
theorem d_K_RuleReader_read_23 : decode b_K_RuleReader_read 23 = .ok (.ldc 41, 2) := by decide +kernel
theorem d_K_RuleReader_read_25 : decode b_K_RuleReader_read 25 = .ok (.invokevirtual 43, 3) := by decide +kernel
theorem d_K_RuleReader_read_28 : decode b_K_RuleReader_read 28 = .ok (.ifCond .ne 5, 3) := by decide +kernel
theorem d_K_RuleReader_read_31 : decode b_K_RuleReader_read 31 = .ok (.iconst 2, 1) := by decide +kernel
theorem d_K_RuleReader_read_32 : decode b_K_RuleReader_read 32 = .ok (.ireturn, 1) := by decide +kernel
theorem d_K_RuleReader_read_33 : decode b_K_RuleReader_read 33 = .ok (.aload_n 0, 1) := by decide +kernel
theorem d_K_RuleReader_read_34 : decode b_K_RuleReader_read 34 = .ok (.iconst 3, 1) := by decide +kernel
theorem d_K_RuleReader_read_35 : decode b_K_RuleReader_read 35 = .ok (.iconst 0, 1) := by decide +kernel
theorem d_K_RuleReader_read_36 : decode b_K_RuleReader_read 36 = .ok (.invokevirtual 47, 3) := by decide +kernel
theorem d_K_RuleReader_read_39 : decode b_K_RuleReader_read 39 = .ok (.ifCond .ne 5, 3) := by decide +kernel
theorem d_K_RuleReader_read_42 : decode b_K_RuleReader_read 42 = .ok (.iconst 3, 1) := by decide +kernel
theorem d_K_RuleReader_read_43 : decode b_K_RuleReader_read 43 = .ok (.ireturn, 1) := by decide +kernel
theorem d_K_RuleReader_read_44 : decode b_K_RuleReader_read 44 = .ok (.aload_n 0, 1) := by decide +kernel
theorem d_K_RuleReader_read_45 : decode b_K_RuleReader_read 45 = .ok (.iconst 4, 1) := by decide +kernel
theorem d_K_RuleReader_read_46 : decode b_K_RuleReader_read 46 = .ok (.ldc 51, 2) := by decide +kernel
theorem d_K_RuleReader_read_48 : decode b_K_RuleReader_read 48 = .ok (.invokevirtual 43, 3) := by decide +kernel
theorem d_K_RuleReader_read_51 : decode b_K_RuleReader_read 51 = .ok (.istore_n 1, 1) := by decide +kernel
theorem d_K_RuleReader_read_52 : decode b_K_RuleReader_read 52 = .ok (.iload_n 1, 1) := by decide +kernel
theorem d_K_RuleReader_read_53 : decode b_K_RuleReader_read 53 = .ok (.ifCond .eq 14, 3) := by decide +kernel
theorem d_K_RuleReader_read_56 : decode b_K_RuleReader_read 56 = .ok (.aload_n 0, 1) := by decide +kernel
theorem d_K_RuleReader_read_57 : decode b_K_RuleReader_read 57 = .ok (.iconst 5, 1) := by decide +kernel
theorem d_K_RuleReader_read_58 : decode b_K_RuleReader_read 58 = .ok (.iconst 0, 1) := by decide +kernel
theorem d_K_RuleReader_read_59 : decode b_K_RuleReader_read 59 = .ok (.invokevirtual 47, 3) := by decide +kernel
theorem d_K_RuleReader_read_62 : decode b_K_RuleReader_read 62 = .ok (.ifCond .ne 5, 3) := by decide +kernel
theorem d_K_RuleReader_read_65 : decode b_K_RuleReader_read 65 = .ok (.iconst 5, 1) := by decide +kernel
theorem d_K_RuleReader_read_66 : decode b_K_RuleReader_read 66 = .ok (.ireturn, 1) := by decide +kernel
theorem d_K_RuleReader_read_67 : decode b_K_RuleReader_read 67 = .ok (.aload_n 0, 1) := by decide +kernel
theorem d_K_RuleReader_read_68 : decode b_K_RuleReader_read 68 = .ok (.aload_n 0, 1) := by decide +kernel
theorem d_K_RuleReader_read_69 : decode b_K_RuleReader_read 69 = .ok (.iconst 3, 1) := by decide +kernel
theorem d_K_RuleReader_read_70 : decode b_K_RuleReader_read 70 = .ok (.invokevirtual 53, 3) := by decide +kernel
theorem d_K_RuleReader_read_73 : decode b_K_RuleReader_read 73 = .ok (.putfield 57, 3) := by decide +kernel
theorem d_K_RuleReader_read_76 : decode b_K_RuleReader_read 76 = .ok (.aload_n 0, 1) := by decide +kernel
theorem d_K_RuleReader_read_77 : decode b_K_RuleReader_read 77 = .ok (.iload_n 1, 1) := by decide +kernel
theorem d_K_RuleReader_read_78 : decode b_K_RuleReader_read 78 = .ok (.ifCond .eq 11, 3) := by decide +kernel
theorem d_K_RuleReader_read_81 : decode b_K_RuleReader_read 81 = .ok (.aload_n 0, 1) := by decide +kernel
theorem d_K_RuleReader_read_82 : decode b_K_RuleReader_read 82 = .ok (.iconst 5, 1) := by decide +kernel
theorem d_K_RuleReader_read_83 : decode b_K_RuleReader_read 83 = .ok (.invokevirtual 53, 3) := by decide +kernel
theorem d_K_RuleReader_read_86 : decode b_K_RuleReader_read 86 = .ok (.goto 6, 3) := by decide +kernel
theorem d_K_RuleReader_read_89 : decode b_K_RuleReader_read 89 = .ok (.ldc2_w 61, 3) := by decide +kernel
theorem d_K_RuleReader_read_92 : decode b_K_RuleReader_read 92 = .ok (.putfield 63, 3) := by decide +kernel
theorem d_K_RuleReader_read_95 : decode b_K_RuleReader_read 95 = .ok (.aload_n 0, 1) := by decide +kernel
theorem d_K_RuleReader_read_96 : decode b_K_RuleReader_read 96 = .ok (.lconst 0, 1) := by decide +kernel
theorem d_K_RuleReader_read_97 : decode b_K_RuleReader_read 97 = .ok (.putfield 66, 3) := by decide +kernel
theorem d_K_RuleReader_read_100 : decode b_K_RuleReader_read 100 = .ok (.aload_n 0, 1) := by decide +kernel
theorem d_K_RuleReader_read_101 : decode b_K_RuleReader_read 101 = .ok (.iload_n 1, 1) := by decide +kernel
theorem d_K_RuleReader_read_102 : decode b_K_RuleReader_read 102 = .ok (.ifCond .eq 8, 3) := by decide +kernel
theorem d_K_RuleReader_read_105 : decode b_K_RuleReader_read 105 = .ok (.bipush 6, 2) := by decide +kernel
theorem d_K_RuleReader_read_107 : decode b_K_RuleReader_read 107 = .ok (.goto 4, 3) := by decide +kernel
theorem d_K_RuleReader_read_110 : decode b_K_RuleReader_read 110 = .ok (.iconst 4, 1) := by decide +kernel
theorem d_K_RuleReader_read_111 : decode b_K_RuleReader_read 111 = .ok (.invokevirtual 69, 3) := by decide +kernel
theorem d_K_RuleReader_read_114 : decode b_K_RuleReader_read 114 = .ok (.ireturn, 1) := by decide +kernel
theorem d_K_Text_isSame_0 : decode b_K_Text_isSame 0 = .ok (.aload_n 0, 1) := by decide +kernel
theorem d_K_Text_isSame_1 : decode b_K_Text_isSame 1 = .ok (.getfield 15, 3) := by decide +kernel
theorem d_K_Text_isSame_4 : decode b_K_Text_isSame 4 = .ok (.aload_n 1, 1) := by decide +kernel
theorem d_K_Text_isSame_5 : decode b_K_Text_isSame 5 = .ok (.getfield 15, 3) := by decide +kernel
theorem d_K_Text_isSame_8 : decode b_K_Text_isSame 8 = .ok (.if_icmp .ne 7, 3) := by decide +kernel
theorem d_K_Text_isSame_11 : decode b_K_Text_isSame 11 = .ok (.iconst 1, 1) := by decide +kernel
theorem d_K_Text_isSame_12 : decode b_K_Text_isSame 12 = .ok (.goto 4, 3) := by decide +kernel
theorem d_K_Text_isSame_15 : decode b_K_Text_isSame 15 = .ok (.iconst 0, 1) := by decide +kernel
theorem d_K_Text_isSame_16 : decode b_K_Text_isSame 16 = .ok (.istore_n 2, 1) := by decide +kernel
theorem d_K_Text_isSame_17 : decode b_K_Text_isSame 17 = .ok (.iconst 0, 1) := by decide +kernel
theorem d_K_Text_isSame_18 : decode b_K_Text_isSame 18 = .ok (.istore_n 3, 1) := by decide +kernel
theorem d_K_Text_isSame_19 : decode b_K_Text_isSame 19 = .ok (.iload_n 2, 1) := by decide +kernel
theorem d_K_Text_isSame_20 : decode b_K_Text_isSame 20 = .ok (.ifCond .eq 38, 3) := by decide +kernel
theorem d_K_Text_isSame_23 : decode b_K_Text_isSame 23 = .ok (.iload_n 3, 1) := by decide +kernel
theorem d_K_Text_isSame_24 : decode b_K_Text_isSame 24 = .ok (.aload_n 0, 1) := by decide +kernel
theorem d_K_Text_isSame_25 : decode b_K_Text_isSame 25 = .ok (.getfield 15, 3) := by decide +kernel
theorem d_K_Text_isSame_28 : decode b_K_Text_isSame 28 = .ok (.if_icmp .ge 30, 3) := by decide +kernel
theorem d_K_Text_isSame_31 : decode b_K_Text_isSame 31 = .ok (.aload_n 0, 1) := by decide +kernel
theorem d_K_Text_isSame_32 : decode b_K_Text_isSame 32 = .ok (.getfield 9, 3) := by decide +kernel
theorem d_K_Text_isSame_35 : decode b_K_Text_isSame 35 = .ok (.iload_n 3, 1) := by decide +kernel
theorem d_K_Text_isSame_36 : decode b_K_Text_isSame 36 = .ok (.caload, 1) := by decide +kernel
theorem d_K_Text_isSame_37 : decode b_K_Text_isSame 37 = .ok (.aload_n 1, 1) := by decide +kernel
theorem d_K_Text_isSame_38 : decode b_K_Text_isSame 38 = .ok (.getfield 9, 3) := by decide +kernel
theorem d_K_Text_isSame_41 : decode b_K_Text_isSame 41 = .ok (.iload_n 3, 1) := by decide +kernel
theorem d_K_Text_isSame_42 : decode b_K_Text_isSame 42 = .ok (.caload, 1) := by decide +kernel
theorem d_K_Text_isSame_43 : decode b_K_Text_isSame 43 = .ok (.if_icmp .ne 7, 3) := by decide +kernel
theorem d_K_Text_isSame_46 : decode b_K_Text_isSame 46 = .ok (.iconst 1, 1) := by decide +kernel
theorem d_K_Text_isSame_47 : decode b_K_Text_isSame 47 = .ok (.goto 4, 3) := by decide +kernel
theorem d_K_Text_isSame_50 : decode b_K_Text_isSame 50 = .ok (.iconst 0, 1) := by decide +kernel
theorem d_K_Text_isSame_51 : decode b_K_Text_isSame 51 = .ok (.istore_n 2, 1) := by decide +kernel
theorem d_K_Text_isSame_52 : decode b_K_Text_isSame 52 = .ok (.iinc 3 1, 3) := by decide +kernel
theorem d_K_Text_isSame_55 : decode b_K_Text_isSame 55 = .ok (.goto (-36), 3) := by decide +kernel
theorem d_K_Text_isSame_58 : decode b_K_Text_isSame 58 = .ok (.iload_n 2, 1) := by decide +kernel
theorem d_K_Text_isSame_59 : decode b_K_Text_isSame 59 = .ok (.ireturn, 1) := by decide +kernel
theorem d_K_SF_within_0 : decode b_K_SF_within 0 = .ok (.iload_n 0, 1) := by decide +kernel
theorem d_K_SF_within_1 : decode b_K_SF_within 1 = .ok (.iload_n 1, 1) := by decide +kernel
theorem d_K_SF_within_2 : decode b_K_SF_within 2 = .ok (.if_icmp .lt 12, 3) := by decide +kernel
theorem d_K_SF_within_5 : decode b_K_SF_within 5 = .ok (.iload_n 0, 1) := by decide +kernel
theorem d_K_SF_within_6 : decode b_K_SF_within 6 = .ok (.iload_n 2, 1) := by decide +kernel
theorem d_K_SF_within_7 : decode b_K_SF_within 7 = .ok (.if_icmp .gt 7, 3) := by decide +kernel
theorem d_K_SF_within_10 : decode b_K_SF_within 10 = .ok (.iconst 1, 1) := by decide +kernel
theorem d_K_SF_within_11 : decode b_K_SF_within 11 = .ok (.goto 4, 3) := by decide +kernel
theorem d_K_SF_within_14 : decode b_K_SF_within 14 = .ok (.iconst 0, 1) := by decide +kernel
theorem d_K_SF_within_15 : decode b_K_SF_within 15 = .ok (.ireturn, 1) := by decide +kernel
theorem d_K_Text_answer_0 : decode b_K_Text_answer 0 = .ok (.iload_n 1, 1) := by decide +kernel
theorem d_K_Text_answer_1 : decode b_K_Text_answer 1 = .ok (.iconst (-1), 1) := by decide +kernel
theorem d_K_Text_answer_2 : decode b_K_Text_answer 2 = .ok (.if_icmp .ne 8, 3) := by decide +kernel
theorem d_K_Text_answer_5 : decode b_K_Text_answer 5 = .ok (.aload_n 0, 1) := by decide +kernel
theorem d_K_Text_answer_6 : decode b_K_Text_answer 6 = .ok (.getfield 15, 3) := by decide +kernel
theorem d_K_Text_answer_9 : decode b_K_Text_answer 9 = .ok (.ireturn, 1) := by decide +kernel
theorem d_K_Text_answer_10 : decode b_K_Text_answer 10 = .ok (.iload_n 1, 1) := by decide +kernel
theorem d_K_Text_answer_11 : decode b_K_Text_answer 11 = .ok (.iconst 0, 1) := by decide +kernel
theorem d_K_Text_answer_12 : decode b_K_Text_answer 12 = .ok (.aload_n 0, 1) := by decide +kernel
theorem d_K_Text_answer_13 : decode b_K_Text_answer 13 = .ok (.getfield 15, 3) := by decide +kernel
theorem d_K_Text_answer_16 : decode b_K_Text_answer 16 = .ok (.iconst 1, 1) := by decide +kernel
theorem d_K_Text_answer_17 : decode b_K_Text_answer 17 = .ok (.isub, 1) := by decide +kernel
theorem d_K_Text_answer_18 : decode b_K_Text_answer 18 = .ok (.invokestatic 39, 3) := by decide +kernel
theorem d_K_Text_answer_21 : decode b_K_Text_answer 21 = .ok (.ifCond .eq 12, 3) := by decide +kernel
theorem d_K_Text_answer_24 : decode b_K_Text_answer 24 = .ok (.aload_n 0, 1) := by decide +kernel
theorem d_K_Text_answer_25 : decode b_K_Text_answer 25 = .ok (.getfield 9, 3) := by decide +kernel
theorem d_K_Text_answer_28 : decode b_K_Text_answer 28 = .ok (.iload_n 1, 1) := by decide +kernel
theorem d_K_Text_answer_29 : decode b_K_Text_answer 29 = .ok (.caload, 1) := by decide +kernel
theorem d_K_Text_answer_30 : decode b_K_Text_answer 30 = .ok (.goto 5, 3) := by decide +kernel
theorem d_K_Text_answer_33 : decode b_K_Text_answer 33 = .ok (.bipush (-2), 2) := by decide +kernel
theorem d_K_Text_answer_35 : decode b_K_Text_answer 35 = .ok (.ireturn, 1) := by decide +kernel
theorem d_K_Types_relateOne_0 : decode b_K_Types_relateOne 0 = .ok (.aload_n 0, 1) := by decide +kernel
theorem d_K_Types_relateOne_1 : decode b_K_Types_relateOne 1 = .ok (.getfield 18, 3) := by decide +kernel
theorem d_K_Types_relateOne_4 : decode b_K_Types_relateOne 4 = .ok (.iload_n 1, 1) := by decide +kernel
theorem d_K_Types_relateOne_5 : decode b_K_Types_relateOne 5 = .ok (.iaload, 1) := by decide +kernel
theorem d_K_Types_relateOne_6 : decode b_K_Types_relateOne 6 = .ok (.istore_n 2, 1) := by decide +kernel
theorem d_K_Types_relateOne_7 : decode b_K_Types_relateOne 7 = .ok (.aload_n 0, 1) := by decide +kernel
theorem d_K_Types_relateOne_8 : decode b_K_Types_relateOne 8 = .ok (.iload_n 2, 1) := by decide +kernel
theorem d_K_Types_relateOne_9 : decode b_K_Types_relateOne 9 = .ok (.invokevirtual 63, 3) := by decide +kernel
theorem d_K_Types_relateOne_12 : decode b_K_Types_relateOne 12 = .ok (.ifCond .eq 29, 3) := by decide +kernel
theorem d_K_Types_relateOne_15 : decode b_K_Types_relateOne 15 = .ok (.aload_n 0, 1) := by decide +kernel
theorem d_K_Types_relateOne_16 : decode b_K_Types_relateOne 16 = .ok (.getfield 57, 3) := by decide +kernel
theorem d_K_Types_relateOne_19 : decode b_K_Types_relateOne 19 = .ok (.iload_n 2, 1) := by decide +kernel
theorem d_K_Types_relateOne_20 : decode b_K_Types_relateOne 20 = .ok (.invokestatic 53, 3) := by decide +kernel
theorem d_K_Types_relateOne_23 : decode b_K_Types_relateOne 23 = .ok (.ifCond .ne 18, 3) := by decide +kernel
theorem d_K_Types_relateOne_26 : decode b_K_Types_relateOne 26 = .ok (.aload_n 0, 1) := by decide +kernel
theorem d_K_Types_relateOne_27 : decode b_K_Types_relateOne 27 = .ok (.getfield 57, 3) := by decide +kernel
theorem d_K_Types_relateOne_30 : decode b_K_Types_relateOne 30 = .ok (.iload_n 1, 1) := by decide +kernel
theorem d_K_Types_relateOne_31 : decode b_K_Types_relateOne 31 = .ok (.invokestatic 53, 3) := by decide +kernel
theorem d_K_Types_relateOne_34 : decode b_K_Types_relateOne 34 = .ok (.ifCond .ne 7, 3) := by decide +kernel
theorem d_K_Types_relateOne_37 : decode b_K_Types_relateOne 37 = .ok (.iconst 1, 1) := by decide +kernel
theorem d_K_Types_relateOne_38 : decode b_K_Types_relateOne 38 = .ok (.goto 4, 3) := by decide +kernel
theorem d_K_Types_relateOne_41 : decode b_K_Types_relateOne 41 = .ok (.iconst 0, 1) := by decide +kernel
theorem d_K_Types_relateOne_42 : decode b_K_Types_relateOne 42 = .ok (.istore_n 3, 1) := by decide +kernel
theorem d_K_Types_relateOne_43 : decode b_K_Types_relateOne 43 = .ok (.aload_n 0, 1) := by decide +kernel
theorem d_K_Types_relateOne_44 : decode b_K_Types_relateOne 44 = .ok (.getfield 24, 3) := by decide +kernel
theorem d_K_Types_relateOne_47 : decode b_K_Types_relateOne 47 = .ok (.iload_n 1, 1) := by decide +kernel
theorem d_K_Types_relateOne_48 : decode b_K_Types_relateOne 48 = .ok (.iload_n 3, 1) := by decide +kernel
theorem d_K_Types_relateOne_49 : decode b_K_Types_relateOne 49 = .ok (.ifCond .eq 7, 3) := by decide +kernel
theorem d_K_Types_relateOne_52 : decode b_K_Types_relateOne 52 = .ok (.iload_n 2, 1) := by decide +kernel
theorem d_K_Types_relateOne_53 : decode b_K_Types_relateOne 53 = .ok (.goto 4, 3) := by decide +kernel
theorem d_K_Types_relateOne_56 : decode b_K_Types_relateOne 56 = .ok (.iconst 0, 1) := by decide +kernel
theorem d_K_Types_relateOne_57 : decode b_K_Types_relateOne 57 = .ok (.iastore, 1) := by decide +kernel
theorem d_K_Types_relateOne_58 : decode b_K_Types_relateOne 58 = .ok (.aload_n 0, 1) := by decide +kernel
theorem d_K_Types_relateOne_59 : decode b_K_Types_relateOne 59 = .ok (.getfield 27, 3) := by decide +kernel
theorem d_K_Types_relateOne_62 : decode b_K_Types_relateOne 62 = .ok (.iload_n 1, 1) := by decide +kernel
theorem d_K_Types_relateOne_63 : decode b_K_Types_relateOne 63 = .ok (.aload_n 0, 1) := by decide +kernel
theorem d_K_Types_relateOne_64 : decode b_K_Types_relateOne 64 = .ok (.getfield 21, 3) := by decide +kernel
theorem d_K_Types_relateOne_67 : decode b_K_Types_relateOne 67 = .ok (.iload_n 1, 1) := by decide +kernel
theorem d_K_Types_relateOne_68 : decode b_K_Types_relateOne 68 = .ok (.iaload, 1) := by decide +kernel
theorem d_K_Types_relateOne_69 : decode b_K_Types_relateOne 69 = .ok (.i2l, 1) := by decide +kernel
theorem d_K_Types_relateOne_70 : decode b_K_Types_relateOne 70 = .ok (.iload_n 1, 1) := by decide +kernel
theorem d_K_Types_relateOne_71 : decode b_K_Types_relateOne 71 = .ok (.invokestatic 40, 3) := by decide +kernel
theorem d_K_Types_relateOne_74 : decode b_K_Types_relateOne 74 = .ok (.lconst 1, 1) := by decide +kernel
theorem d_K_Types_relateOne_75 : decode b_K_Types_relateOne 75 = .ok (.lsub, 1) := by decide +kernel
theorem d_K_Types_relateOne_76 : decode b_K_Types_relateOne 76 = .ok (.land, 1) := by decide +kernel
theorem d_K_Types_relateOne_77 : decode b_K_Types_relateOne 77 = .ok (.aload_n 0, 1) := by decide +kernel
theorem d_K_Types_relateOne_78 : decode b_K_Types_relateOne 78 = .ok (.getfield 57, 3) := by decide +kernel
theorem d_K_Types_relateOne_81 : decode b_K_Types_relateOne 81 = .ok (.land, 1) := by decide +kernel
theorem d_K_Types_relateOne_82 : decode b_K_Types_relateOne 82 = .ok (.lastore, 1) := by decide +kernel
theorem d_K_Types_relateOne_83 : decode b_K_Types_relateOne 83 = .ok (.aload_n 0, 1) := by decide +kernel
theorem d_K_Types_relateOne_84 : decode b_K_Types_relateOne 84 = .ok (.getfield 31, 3) := by decide +kernel
theorem d_K_Types_relateOne_87 : decode b_K_Types_relateOne 87 = .ok (.iload_n 1, 1) := by decide +kernel
theorem d_K_Types_relateOne_88 : decode b_K_Types_relateOne 88 = .ok (.iload_n 1, 1) := by decide +kernel
theorem d_K_Types_relateOne_89 : decode b_K_Types_relateOne 89 = .ok (.invokestatic 40, 3) := by decide +kernel
theorem d_K_Types_relateOne_92 : decode b_K_Types_relateOne 92 = .ok (.aload_n 0, 1) := by decide +kernel
theorem d_K_Types_relateOne_93 : decode b_K_Types_relateOne 93 = .ok (.getfield 31, 3) := by decide +kernel
theorem d_K_Types_relateOne_96 : decode b_K_Types_relateOne 96 = .ok (.aload_n 0, 1) := by decide +kernel
theorem d_K_Types_relateOne_97 : decode b_K_Types_relateOne 97 = .ok (.getfield 24, 3) := by decide +kernel
theorem d_K_Types_relateOne_100 : decode b_K_Types_relateOne 100 = .ok (.iload_n 1, 1) := by decide +kernel
theorem d_K_Types_relateOne_101 : decode b_K_Types_relateOne 101 = .ok (.iaload, 1) := by decide +kernel
theorem d_K_Types_relateOne_102 : decode b_K_Types_relateOne 102 = .ok (.laload, 1) := by decide +kernel
theorem d_K_Types_relateOne_103 : decode b_K_Types_relateOne 103 = .ok (.lor, 1) := by decide +kernel
theorem d_K_Types_relateOne_104 : decode b_K_Types_relateOne 104 = .ok (.lastore, 1) := by decide +kernel
theorem d_K_Types_relateOne_105 : decode b_K_Types_relateOne 105 = .ok (.aload_n 0, 1) := by decide +kernel
theorem d_K_Types_relateOne_106 : decode b_K_Types_relateOne 106 = .ok (.getfield 34, 3) := by decide +kernel
theorem d_K_Types_relateOne_109 : decode b_K_Types_relateOne 109 = .ok (.iload_n 1, 1) := by decide +kernel
theorem d_K_Types_relateOne_110 : decode b_K_Types_relateOne 110 = .ok (.aload_n 0, 1) := by decide +kernel
theorem d_K_Types_relateOne_111 : decode b_K_Types_relateOne 111 = .ok (.getfield 24, 3) := by decide +kernel
theorem d_K_Types_relateOne_114 : decode b_K_Types_relateOne 114 = .ok (.iload_n 1, 1) := by decide +kernel
theorem d_K_Types_relateOne_115 : decode b_K_Types_relateOne 115 = .ok (.iaload, 1) := by decide +kernel
theorem d_K_Types_relateOne_116 : decode b_K_Types_relateOne 116 = .ok (.invokestatic 40, 3) := by decide +kernel
theorem d_K_Types_relateOne_119 : decode b_K_Types_relateOne 119 = .ok (.aload_n 0, 1) := by decide +kernel
theorem d_K_Types_relateOne_120 : decode b_K_Types_relateOne 120 = .ok (.getfield 34, 3) := by decide +kernel
theorem d_K_Types_relateOne_123 : decode b_K_Types_relateOne 123 = .ok (.aload_n 0, 1) := by decide +kernel
theorem d_K_Types_relateOne_124 : decode b_K_Types_relateOne 124 = .ok (.getfield 24, 3) := by decide +kernel
theorem d_K_Types_relateOne_127 : decode b_K_Types_relateOne 127 = .ok (.iload_n 1, 1) := by decide +kernel
theorem d_K_Types_relateOne_128 : decode b_K_Types_relateOne 128 = .ok (.iaload, 1) := by decide +kernel
theorem d_K_Types_relateOne_129 : decode b_K_Types_relateOne 129 = .ok (.laload, 1) := by decide +kernel
theorem d_K_Types_relateOne_130 : decode b_K_Types_relateOne 130 = .ok (.lor, 1) := by decide +kernel
theorem d_K_Types_relateOne_131 : decode b_K_Types_relateOne 131 = .ok (.aload_n 0, 1) := by decide +kernel
theorem d_K_Types_relateOne_132 : decode b_K_Types_relateOne 132 = .ok (.getfield 27, 3) := by decide +kernel
theorem d_K_Types_relateOne_135 : decode b_K_Types_relateOne 135 = .ok (.iload_n 1, 1) := by decide +kernel
theorem d_K_Types_relateOne_136 : decode b_K_Types_relateOne 136 = .ok (.laload, 1) := by decide +kernel
theorem d_K_Types_relateOne_137 : decode b_K_Types_relateOne 137 = .ok (.lor, 1) := by decide +kernel
theorem d_K_Types_relateOne_138 : decode b_K_Types_relateOne 138 = .ok (.lastore, 1) := by decide +kernel
theorem d_K_Types_relateOne_139 : decode b_K_Types_relateOne 139 = .ok (.iconst 0, 1) := by decide +kernel
theorem d_K_Types_relateOne_140 : decode b_K_Types_relateOne 140 = .ok (.istore 4, 2) := by decide +kernel
theorem d_K_Types_relateOne_142 : decode b_K_Types_relateOne 142 = .ok (.iload 4, 2) := by decide +kernel
theorem d_K_Types_relateOne_144 : decode b_K_Types_relateOne 144 = .ok (.iload_n 1, 1) := by decide +kernel
theorem d_K_Types_relateOne_145 : decode b_K_Types_relateOne 145 = .ok (.if_icmp .ge 39, 3) := by decide +kernel
theorem d_K_Types_relateOne_148 : decode b_K_Types_relateOne 148 = .ok (.aload_n 0, 1) := by decide +kernel
theorem d_K_Types_relateOne_149 : decode b_K_Types_relateOne 149 = .ok (.getfield 27, 3) := by decide +kernel
theorem d_K_Types_relateOne_152 : decode b_K_Types_relateOne 152 = .ok (.iload_n 1, 1) := by decide +kernel
theorem d_K_Types_relateOne_153 : decode b_K_Types_relateOne 153 = .ok (.laload, 1) := by decide +kernel
theorem d_K_Types_relateOne_154 : decode b_K_Types_relateOne 154 = .ok (.iload 4, 2) := by decide +kernel
theorem d_K_Types_relateOne_156 : decode b_K_Types_relateOne 156 = .ok (.invokestatic 53, 3) := by decide +kernel
theorem d_K_Types_relateOne_159 : decode b_K_Types_relateOne 159 = .ok (.ifCond .eq 19, 3) := by decide +kernel
theorem d_K_Types_relateOne_162 : decode b_K_Types_relateOne 162 = .ok (.aload_n 0, 1) := by decide +kernel
theorem d_K_Types_relateOne_163 : decode b_K_Types_relateOne 163 = .ok (.getfield 34, 3) := by decide +kernel
theorem d_K_Types_relateOne_166 : decode b_K_Types_relateOne 166 = .ok (.iload_n 1, 1) := by decide +kernel
theorem d_K_Types_relateOne_167 : decode b_K_Types_relateOne 167 = .ok (.dup2, 1) := by decide +kernel
theorem d_K_Types_relateOne_168 : decode b_K_Types_relateOne 168 = .ok (.laload, 1) := by decide +kernel
theorem d_K_Types_relateOne_169 : decode b_K_Types_relateOne 169 = .ok (.aload_n 0, 1) := by decide +kernel
theorem d_K_Types_relateOne_170 : decode b_K_Types_relateOne 170 = .ok (.getfield 34, 3) := by decide +kernel
theorem d_K_Types_relateOne_173 : decode b_K_Types_relateOne 173 = .ok (.iload 4, 2) := by decide +kernel
theorem d_K_Types_relateOne_175 : decode b_K_Types_relateOne 175 = .ok (.laload, 1) := by decide +kernel
theorem d_K_Types_relateOne_176 : decode b_K_Types_relateOne 176 = .ok (.lor, 1) := by decide +kernel
theorem d_K_Types_relateOne_177 : decode b_K_Types_relateOne 177 = .ok (.lastore, 1) := by decide +kernel
theorem d_K_Types_relateOne_178 : decode b_K_Types_relateOne 178 = .ok (.iinc 4 1, 3) := by decide +kernel
theorem d_K_Types_relateOne_181 : decode b_K_Types_relateOne 181 = .ok (.goto (-39), 3) := by decide +kernel
theorem d_K_Types_relateOne_184 : decode b_K_Types_relateOne 184 = .ok (.return_, 1) := by decide +kernel
theorem d_K_Types_relate_0 : decode b_K_Types_relate 0 = .ok (.aload_n 0, 1) := by decide +kernel
theorem d_K_Types_relate_1 : decode b_K_Types_relate 1 = .ok (.lconst 0, 1) := by decide +kernel
theorem d_K_Types_relate_2 : decode b_K_Types_relate 2 = .ok (.putfield 57, 3) := by decide +kernel
theorem d_K_Types_relate_5 : decode b_K_Types_relate 5 = .ok (.aload_n 0, 1) := by decide +kernel
theorem d_K_Types_relate_6 : decode b_K_Types_relate 6 = .ok (.lconst 0, 1) := by decide +kernel
theorem d_K_Types_relate_7 : decode b_K_Types_relate 7 = .ok (.putfield 60, 3) := by decide +kernel
theorem d_K_Types_relate_10 : decode b_K_Types_relate 10 = .ok (.aload_n 0, 1) := by decide +kernel
theorem d_K_Types_relate_11 : decode b_K_Types_relate 11 = .ok (.getfield 31, 3) := by decide +kernel
theorem d_K_Types_relate_14 : decode b_K_Types_relate 14 = .ok (.iconst 0, 1) := by decide +kernel
theorem d_K_Types_relate_15 : decode b_K_Types_relate 15 = .ok (.iconst 0, 1) := by decide +kernel
theorem d_K_Types_relate_16 : decode b_K_Types_relate 16 = .ok (.invokestatic 40, 3) := by decide +kernel
theorem d_K_Types_relate_19 : decode b_K_Types_relate 19 = .ok (.lastore, 1) := by decide +kernel
theorem d_K_Types_relate_20 : decode b_K_Types_relate 20 = .ok (.iconst 0, 1) := by decide +kernel
theorem d_K_Types_relate_21 : decode b_K_Types_relate 21 = .ok (.istore_n 1, 1) := by decide +kernel
theorem d_K_Types_relate_22 : decode b_K_Types_relate 22 = .ok (.iload_n 1, 1) := by decide +kernel
theorem d_K_Types_relate_23 : decode b_K_Types_relate 23 = .ok (.bipush 10, 2) := by decide +kernel
theorem d_K_Types_relate_25 : decode b_K_Types_relate 25 = .ok (.if_icmp .ge 72, 3) := by decide +kernel
theorem d_K_Types_relate_28 : decode b_K_Types_relate 28 = .ok (.aload_n 0, 1) := by decide +kernel
theorem d_K_Types_relate_29 : decode b_K_Types_relate 29 = .ok (.iload_n 1, 1) := by decide +kernel
theorem d_K_Types_relate_30 : decode b_K_Types_relate 30 = .ok (.invokevirtual 63, 3) := by decide +kernel
theorem d_K_Types_relate_33 : decode b_K_Types_relate 33 = .ok (.ifCond .eq 58, 3) := by decide +kernel
theorem d_K_Types_relate_36 : decode b_K_Types_relate 36 = .ok (.aload_n 0, 1) := by decide +kernel
theorem d_K_Types_relate_37 : decode b_K_Types_relate 37 = .ok (.getfield 15, 3) := by decide +kernel
theorem d_K_Types_relate_40 : decode b_K_Types_relate 40 = .ok (.iload_n 1, 1) := by decide +kernel
theorem d_K_Types_relate_41 : decode b_K_Types_relate 41 = .ok (.iaload, 1) := by decide +kernel
theorem d_K_Types_relate_42 : decode b_K_Types_relate 42 = .ok (.iconst 1, 1) := by decide +kernel
theorem d_K_Types_relate_43 : decode b_K_Types_relate 43 = .ok (.iand, 1) := by decide +kernel
theorem d_K_Types_relate_44 : decode b_K_Types_relate 44 = .ok (.ifCond .eq 16, 3) := by decide +kernel
theorem d_K_Types_relate_47 : decode b_K_Types_relate 47 = .ok (.aload_n 0, 1) := by decide +kernel
theorem d_K_Types_relate_48 : decode b_K_Types_relate 48 = .ok (.dup, 1) := by decide +kernel
theorem d_K_Types_relate_49 : decode b_K_Types_relate 49 = .ok (.getfield 57, 3) := by decide +kernel
theorem d_K_Types_relate_52 : decode b_K_Types_relate 52 = .ok (.iload_n 1, 1) := by decide +kernel
theorem d_K_Types_relate_53 : decode b_K_Types_relate 53 = .ok (.invokestatic 40, 3) := by decide +kernel
theorem d_K_Types_relate_56 : decode b_K_Types_relate 56 = .ok (.lor, 1) := by decide +kernel
theorem d_K_Types_relate_57 : decode b_K_Types_relate 57 = .ok (.putfield 57, 3) := by decide +kernel
theorem d_K_Types_relate_60 : decode b_K_Types_relate 60 = .ok (.aload_n 0, 1) := by decide +kernel
theorem d_K_Types_relate_61 : decode b_K_Types_relate 61 = .ok (.getfield 15, 3) := by decide +kernel
theorem d_K_Types_relate_64 : decode b_K_Types_relate 64 = .ok (.iload_n 1, 1) := by decide +kernel
theorem d_K_Types_relate_65 : decode b_K_Types_relate 65 = .ok (.iaload, 1) := by decide +kernel
theorem d_K_Types_relate_66 : decode b_K_Types_relate 66 = .ok (.ifCond .ne 16, 3) := by decide +kernel
theorem d_K_Types_relate_69 : decode b_K_Types_relate 69 = .ok (.aload_n 0, 1) := by decide +kernel
theorem d_K_Types_relate_70 : decode b_K_Types_relate 70 = .ok (.dup, 1) := by decide +kernel
theorem d_K_Types_relate_71 : decode b_K_Types_relate 71 = .ok (.getfield 60, 3) := by decide +kernel
theorem d_K_Types_relate_74 : decode b_K_Types_relate 74 = .ok (.iload_n 1, 1) := by decide +kernel
theorem d_K_Types_relate_75 : decode b_K_Types_relate 75 = .ok (.invokestatic 40, 3) := by decide +kernel
theorem d_K_Types_relate_78 : decode b_K_Types_relate 78 = .ok (.lor, 1) := by decide +kernel
theorem d_K_Types_relate_79 : decode b_K_Types_relate 79 = .ok (.putfield 60, 3) := by decide +kernel
theorem d_K_Types_relate_82 : decode b_K_Types_relate 82 = .ok (.iload_n 1, 1) := by decide +kernel
theorem d_K_Types_relate_83 : decode b_K_Types_relate 83 = .ok (.ifCond .le 8, 3) := by decide +kernel
theorem d_K_Types_relate_86 : decode b_K_Types_relate 86 = .ok (.aload_n 0, 1) := by decide +kernel
theorem d_K_Types_relate_87 : decode b_K_Types_relate 87 = .ok (.iload_n 1, 1) := by decide +kernel
theorem d_K_Types_relate_88 : decode b_K_Types_relate 88 = .ok (.invokevirtual 67, 3) := by decide +kernel
theorem d_K_Types_relate_91 : decode b_K_Types_relate 91 = .ok (.iinc 1 1, 3) := by decide +kernel
theorem d_K_Types_relate_94 : decode b_K_Types_relate 94 = .ok (.goto (-72), 3) := by decide +kernel
theorem d_K_Types_relate_97 : decode b_K_Types_relate 97 = .ok (.return_, 1) := by decide +kernel
theorem d_K_Types_reset_0 : decode b_K_Types_reset 0 = .ok (.aload_n 0, 1) := by decide +kernel
theorem d_K_Types_reset_1 : decode b_K_Types_reset 1 = .ok (.iconst 0, 1) := by decide +kernel
theorem d_K_Types_reset_2 : decode b_K_Types_reset 2 = .ok (.invokestatic 40, 3) := by decide +kernel
theorem d_K_Types_reset_5 : decode b_K_Types_reset 5 = .ok (.putfield 44, 3) := by decide +kernel
theorem d_K_Types_reset_8 : decode b_K_Types_reset 8 = .ok (.aload_n 0, 1) := by decide +kernel
theorem d_K_Types_reset_9 : decode b_K_Types_reset 9 = .ok (.invokevirtual 48, 3) := by decide +kernel
theorem d_K_Types_reset_12 : decode b_K_Types_reset 12 = .ok (.return_, 1) := by decide +kernel
theorem d_K_Types_declare_0 : decode b_K_Types_declare 0 = .ok (.aload_n 0, 1) := by decide +kernel
theorem d_K_Types_declare_1 : decode b_K_Types_declare 1 = .ok (.getfield 9, 3) := by decide +kernel
theorem d_K_Types_declare_4 : decode b_K_Types_declare 4 = .ok (.iload_n 1, 1) := by decide +kernel
theorem d_K_Types_declare_5 : decode b_K_Types_declare 5 = .ok (.iload_n 2, 1) := by decide +kernel
theorem d_K_Types_declare_6 : decode b_K_Types_declare 6 = .ok (.iastore, 1) := by decide +kernel
theorem d_K_Types_declare_7 : decode b_K_Types_declare 7 = .ok (.aload_n 0, 1) := by decide +kernel
theorem d_K_Types_declare_8 : decode b_K_Types_declare 8 = .ok (.getfield 15, 3) := by decide +kernel
theorem d_K_Types_declare_11 : decode b_K_Types_declare 11 = .ok (.iload_n 1, 1) := by decide +kernel
theorem d_K_Types_declare_12 : decode b_K_Types_declare 12 = .ok (.iload_n 3, 1) := by decide +kernel
theorem d_K_Types_declare_13 : decode b_K_Types_declare 13 = .ok (.iastore, 1) := by decide +kernel
theorem d_K_Types_declare_14 : decode b_K_Types_declare 14 = .ok (.aload_n 0, 1) := by decide +kernel
theorem d_K_Types_declare_15 : decode b_K_Types_declare 15 = .ok (.getfield 18, 3) := by decide +kernel
theorem d_K_Types_declare_18 : decode b_K_Types_declare 18 = .ok (.iload_n 1, 1) := by decide +kernel
theorem d_K_Types_declare_19 : decode b_K_Types_declare 19 = .ok (.iload 4, 2) := by decide +kernel
theorem d_K_Types_declare_21 : decode b_K_Types_declare 21 = .ok (.iastore, 1) := by decide +kernel
theorem d_K_Types_declare_22 : decode b_K_Types_declare 22 = .ok (.aload_n 0, 1) := by decide +kernel
theorem d_K_Types_declare_23 : decode b_K_Types_declare 23 = .ok (.getfield 21, 3) := by decide +kernel
theorem d_K_Types_declare_26 : decode b_K_Types_declare 26 = .ok (.iload_n 1, 1) := by decide +kernel
theorem d_K_Types_declare_27 : decode b_K_Types_declare 27 = .ok (.iload 5, 2) := by decide +kernel
theorem d_K_Types_declare_29 : decode b_K_Types_declare 29 = .ok (.iastore, 1) := by decide +kernel
theorem d_K_Types_declare_30 : decode b_K_Types_declare 30 = .ok (.aload_n 0, 1) := by decide +kernel
theorem d_K_Types_declare_31 : decode b_K_Types_declare 31 = .ok (.dup, 1) := by decide +kernel
theorem d_K_Types_declare_32 : decode b_K_Types_declare 32 = .ok (.getfield 44, 3) := by decide +kernel
theorem d_K_Types_declare_35 : decode b_K_Types_declare 35 = .ok (.iload_n 1, 1) := by decide +kernel
theorem d_K_Types_declare_36 : decode b_K_Types_declare 36 = .ok (.invokestatic 40, 3) := by decide +kernel
theorem d_K_Types_declare_39 : decode b_K_Types_declare 39 = .ok (.lor, 1) := by decide +kernel
theorem d_K_Types_declare_40 : decode b_K_Types_declare 40 = .ok (.putfield 44, 3) := by decide +kernel
theorem d_K_Types_declare_43 : decode b_K_Types_declare 43 = .ok (.aload_n 0, 1) := by decide +kernel
theorem d_K_Types_declare_44 : decode b_K_Types_declare 44 = .ok (.invokevirtual 48, 3) := by decide +kernel
theorem d_K_Types_declare_47 : decode b_K_Types_declare 47 = .ok (.return_, 1) := by decide +kernel
theorem d_K_Types_forget_0 : decode b_K_Types_forget 0 = .ok (.aload_n 0, 1) := by decide +kernel
theorem d_K_Types_forget_1 : decode b_K_Types_forget 1 = .ok (.dup, 1) := by decide +kernel
theorem d_K_Types_forget_2 : decode b_K_Types_forget 2 = .ok (.getfield 44, 3) := by decide +kernel
theorem d_K_Types_forget_5 : decode b_K_Types_forget 5 = .ok (.iload_n 1, 1) := by decide +kernel
theorem d_K_Types_forget_6 : decode b_K_Types_forget 6 = .ok (.invokestatic 40, 3) := by decide +kernel
theorem d_K_Types_forget_9 : decode b_K_Types_forget 9 = .ok (.ldc2_w 51, 3) := by decide +kernel
theorem d_K_Types_forget_12 : decode b_K_Types_forget 12 = .ok (.lxor, 1) := by decide +kernel
theorem d_K_Types_forget_13 : decode b_K_Types_forget 13 = .ok (.land, 1) := by decide +kernel
theorem d_K_Types_forget_14 : decode b_K_Types_forget 14 = .ok (.putfield 44, 3) := by decide +kernel
theorem d_K_Types_forget_17 : decode b_K_Types_forget 17 = .ok (.aload_n 0, 1) := by decide +kernel
theorem d_K_Types_forget_18 : decode b_K_Types_forget 18 = .ok (.invokevirtual 48, 3) := by decide +kernel
theorem d_K_Types_forget_21 : decode b_K_Types_forget 21 = .ok (.return_, 1) := by decide +kernel
theorem d_K_SF_type_0 : decode b_K_SF_type 0 = .ok (.iload_n 1, 1) := by decide +kernel
theorem d_K_SF_type_1 : decode b_K_SF_type 1 = .ok (.iconst 1, 1) := by decide +kernel
theorem d_K_SF_type_2 : decode b_K_SF_type 2 = .ok (.bipush 9, 2) := by decide +kernel
theorem d_K_SF_type_4 : decode b_K_SF_type 4 = .ok (.invokestatic 87, 3) := by decide +kernel
theorem d_K_SF_type_7 : decode b_K_SF_type 7 = .ok (.ifCond .eq 12, 3) := by decide +kernel
theorem d_K_SF_type_10 : decode b_K_SF_type 10 = .ok (.iload_n 2, 1) := by decide +kernel
theorem d_K_SF_type_11 : decode b_K_SF_type 11 = .ok (.iconst 0, 1) := by decide +kernel
theorem d_K_SF_type_12 : decode b_K_SF_type 12 = .ok (.iconst 2, 1) := by decide +kernel
theorem d_K_SF_type_13 : decode b_K_SF_type 13 = .ok (.invokestatic 87, 3) := by decide +kernel
theorem d_K_SF_type_16 : decode b_K_SF_type 16 = .ok (.ifCond .ne 5, 3) := by decide +kernel
theorem d_K_SF_type_19 : decode b_K_SF_type 19 = .ok (.iconst 0, 1) := by decide +kernel
theorem d_K_SF_type_20 : decode b_K_SF_type 20 = .ok (.ireturn, 1) := by decide +kernel
theorem d_K_SF_type_21 : decode b_K_SF_type 21 = .ok (.iload_n 3, 1) := by decide +kernel
theorem d_K_SF_type_22 : decode b_K_SF_type 22 = .ok (.iconst 0, 1) := by decide +kernel
theorem d_K_SF_type_23 : decode b_K_SF_type 23 = .ok (.iconst 3, 1) := by decide +kernel
theorem d_K_SF_type_24 : decode b_K_SF_type 24 = .ok (.invokestatic 87, 3) := by decide +kernel
theorem d_K_SF_type_27 : decode b_K_SF_type 27 = .ok (.ifCond .eq 15, 3) := by decide +kernel
theorem d_K_SF_type_30 : decode b_K_SF_type 30 = .ok (.iload 4, 2) := by decide +kernel
theorem d_K_SF_type_32 : decode b_K_SF_type 32 = .ok (.iconst 0, 1) := by decide +kernel
theorem d_K_SF_type_33 : decode b_K_SF_type 33 = .ok (.iload_n 1, 1) := by decide +kernel
theorem d_K_SF_type_34 : decode b_K_SF_type 34 = .ok (.iconst 1, 1) := by decide +kernel
theorem d_K_SF_type_35 : decode b_K_SF_type 35 = .ok (.isub, 1) := by decide +kernel
theorem d_K_SF_type_36 : decode b_K_SF_type 36 = .ok (.invokestatic 87, 3) := by decide +kernel
theorem d_K_SF_type_39 : decode b_K_SF_type 39 = .ok (.ifCond .ne 5, 3) := by decide +kernel
theorem d_K_SF_type_42 : decode b_K_SF_type 42 = .ok (.iconst 0, 1) := by decide +kernel
theorem d_K_SF_type_43 : decode b_K_SF_type 43 = .ok (.ireturn, 1) := by decide +kernel
theorem d_K_SF_type_44 : decode b_K_SF_type 44 = .ok (.iload 5, 2) := by decide +kernel
theorem d_K_SF_type_46 : decode b_K_SF_type 46 = .ok (.iconst 0, 1) := by decide +kernel
theorem d_K_SF_type_47 : decode b_K_SF_type 47 = .ok (.sipush 1023, 3) := by decide +kernel
theorem d_K_SF_type_50 : decode b_K_SF_type 50 = .ok (.invokestatic 87, 3) := by decide +kernel
theorem d_K_SF_type_53 : decode b_K_SF_type 53 = .ok (.ifCond .ne 5, 3) := by decide +kernel
theorem d_K_SF_type_56 : decode b_K_SF_type 56 = .ok (.iconst 0, 1) := by decide +kernel
theorem d_K_SF_type_57 : decode b_K_SF_type 57 = .ok (.ireturn, 1) := by decide +kernel
theorem d_K_SF_type_58 : decode b_K_SF_type 58 = .ok (.aload_n 0, 1) := by decide +kernel
theorem d_K_SF_type_59 : decode b_K_SF_type 59 = .ok (.getfield 12, 3) := by decide +kernel
theorem d_K_SF_type_62 : decode b_K_SF_type 62 = .ok (.iload_n 1, 1) := by decide +kernel
theorem d_K_SF_type_63 : decode b_K_SF_type 63 = .ok (.iload_n 2, 1) := by decide +kernel
theorem d_K_SF_type_64 : decode b_K_SF_type 64 = .ok (.iload_n 3, 1) := by decide +kernel
theorem d_K_SF_type_65 : decode b_K_SF_type 65 = .ok (.iload 4, 2) := by decide +kernel
theorem d_K_SF_type_67 : decode b_K_SF_type 67 = .ok (.iload 5, 2) := by decide +kernel
theorem d_K_SF_type_69 : decode b_K_SF_type 69 = .ok (.invokevirtual 91, 3) := by decide +kernel
theorem d_K_SF_type_72 : decode b_K_SF_type 72 = .ok (.aload_n 0, 1) := by decide +kernel
theorem d_K_SF_type_73 : decode b_K_SF_type 73 = .ok (.iconst 0, 1) := by decide +kernel
theorem d_K_SF_type_74 : decode b_K_SF_type 74 = .ok (.putfield 95, 3) := by decide +kernel
theorem d_K_SF_type_77 : decode b_K_SF_type 77 = .ok (.iconst 1, 1) := by decide +kernel
theorem d_K_SF_type_78 : decode b_K_SF_type 78 = .ok (.ireturn, 1) := by decide +kernel
theorem d_K_SF_drop_0 : decode b_K_SF_drop 0 = .ok (.iload_n 1, 1) := by decide +kernel
theorem d_K_SF_drop_1 : decode b_K_SF_drop 1 = .ok (.ifCond .eq 14, 3) := by decide +kernel
theorem d_K_SF_drop_4 : decode b_K_SF_drop 4 = .ok (.aload_n 0, 1) := by decide +kernel
theorem d_K_SF_drop_5 : decode b_K_SF_drop 5 = .ok (.getfield 12, 3) := by decide +kernel
theorem d_K_SF_drop_8 : decode b_K_SF_drop 8 = .ok (.iload_n 1, 1) := by decide +kernel
theorem d_K_SF_drop_9 : decode b_K_SF_drop 9 = .ok (.invokevirtual 99, 3) := by decide +kernel
theorem d_K_SF_drop_12 : decode b_K_SF_drop 12 = .ok (.ifCond .ne 5, 3) := by decide +kernel
theorem d_K_SF_drop_15 : decode b_K_SF_drop 15 = .ok (.iconst 0, 1) := by decide +kernel
theorem d_K_SF_drop_16 : decode b_K_SF_drop 16 = .ok (.ireturn, 1) := by decide +kernel
theorem d_K_SF_drop_17 : decode b_K_SF_drop 17 = .ok (.aload_n 0, 1) := by decide +kernel
theorem d_K_SF_drop_18 : decode b_K_SF_drop 18 = .ok (.getfield 12, 3) := by decide +kernel
theorem d_K_SF_drop_21 : decode b_K_SF_drop 21 = .ok (.iload_n 1, 1) := by decide +kernel
theorem d_K_SF_drop_22 : decode b_K_SF_drop 22 = .ok (.invokevirtual 103, 3) := by decide +kernel
theorem d_K_SF_drop_25 : decode b_K_SF_drop 25 = .ok (.aload_n 0, 1) := by decide +kernel
theorem d_K_SF_drop_26 : decode b_K_SF_drop 26 = .ok (.getfield 21, 3) := by decide +kernel
theorem d_K_SF_drop_29 : decode b_K_SF_drop 29 = .ok (.iload_n 1, 1) := by decide +kernel
theorem d_K_SF_drop_30 : decode b_K_SF_drop 30 = .ok (.invokevirtual 106, 3) := by decide +kernel
theorem d_K_SF_drop_33 : decode b_K_SF_drop 33 = .ok (.aload_n 0, 1) := by decide +kernel
theorem d_K_SF_drop_34 : decode b_K_SF_drop 34 = .ok (.iconst 0, 1) := by decide +kernel
theorem d_K_SF_drop_35 : decode b_K_SF_drop 35 = .ok (.putfield 95, 3) := by decide +kernel
theorem d_K_SF_drop_38 : decode b_K_SF_drop 38 = .ok (.iconst 1, 1) := by decide +kernel
theorem d_K_SF_drop_39 : decode b_K_SF_drop 39 = .ok (.ireturn, 1) := by decide +kernel
theorem d_K_SF_member_0 : decode b_K_SF_member 0 = .ok (.iload_n 1, 1) := by decide +kernel
theorem d_K_SF_member_1 : decode b_K_SF_member 1 = .ok (.ifCond .eq 25, 3) := by decide +kernel
theorem d_K_SF_member_4 : decode b_K_SF_member 4 = .ok (.aload_n 0, 1) := by decide +kernel
theorem d_K_SF_member_5 : decode b_K_SF_member 5 = .ok (.getfield 12, 3) := by decide +kernel
theorem d_K_SF_member_8 : decode b_K_SF_member 8 = .ok (.iload_n 1, 1) := by decide +kernel
theorem d_K_SF_member_9 : decode b_K_SF_member 9 = .ok (.invokevirtual 99, 3) := by decide +kernel
theorem d_K_SF_member_12 : decode b_K_SF_member 12 = .ok (.ifCond .eq 14, 3) := by decide +kernel
theorem d_K_SF_member_15 : decode b_K_SF_member 15 = .ok (.iload 4, 2) := by decide +kernel
theorem d_K_SF_member_17 : decode b_K_SF_member 17 = .ok (.iconst 0, 1) := by decide +kernel
theorem d_K_SF_member_18 : decode b_K_SF_member 18 = .ok (.bipush 7, 2) := by decide +kernel
theorem d_K_SF_member_20 : decode b_K_SF_member 20 = .ok (.invokestatic 87, 3) := by decide +kernel
theorem d_K_SF_member_23 : decode b_K_SF_member 23 = .ok (.ifCond .ne 5, 3) := by decide +kernel
theorem d_K_SF_member_26 : decode b_K_SF_member 26 = .ok (.iconst (-1), 1) := by decide +kernel
theorem d_K_SF_member_27 : decode b_K_SF_member 27 = .ok (.ireturn, 1) := by decide +kernel
theorem d_K_SF_member_28 : decode b_K_SF_member 28 = .ok (.iload 4, 2) := by decide +kernel
theorem d_K_SF_member_30 : decode b_K_SF_member 30 = .ok (.iconst 1, 1) := by decide +kernel
theorem d_K_SF_member_31 : decode b_K_SF_member 31 = .ok (.iand, 1) := by decide +kernel
theorem d_K_SF_member_32 : decode b_K_SF_member 32 = .ok (.ifCond .eq 7, 3) := by decide +kernel
theorem d_K_SF_member_35 : decode b_K_SF_member 35 = .ok (.iconst 1, 1) := by decide +kernel
theorem d_K_SF_member_36 : decode b_K_SF_member 36 = .ok (.goto 4, 3) := by decide +kernel
theorem d_K_SF_member_39 : decode b_K_SF_member 39 = .ok (.iconst 0, 1) := by decide +kernel
theorem d_K_SF_member_40 : decode b_K_SF_member 40 = .ok (.istore 5, 2) := by decide +kernel
theorem d_K_SF_member_42 : decode b_K_SF_member 42 = .ok (.iload_n 2, 1) := by decide +kernel
theorem d_K_SF_member_43 : decode b_K_SF_member 43 = .ok (.iconst 0, 1) := by decide +kernel
theorem d_K_SF_member_44 : decode b_K_SF_member 44 = .ok (.iload 5, 2) := by decide +kernel
theorem d_K_SF_member_46 : decode b_K_SF_member 46 = .ok (.ifCond .eq 8, 3) := by decide +kernel
theorem d_K_SF_member_49 : decode b_K_SF_member 49 = .ok (.bipush 8, 2) := by decide +kernel
theorem d_K_SF_member_51 : decode b_K_SF_member 51 = .ok (.goto 5, 3) := by decide +kernel
theorem d_K_SF_member_54 : decode b_K_SF_member 54 = .ok (.bipush 6, 2) := by decide +kernel
theorem d_K_SF_member_56 : decode b_K_SF_member 56 = .ok (.iconst 1, 1) := by decide +kernel
theorem d_K_SF_member_57 : decode b_K_SF_member 57 = .ok (.isub, 1) := by decide +kernel
theorem d_K_SF_member_58 : decode b_K_SF_member 58 = .ok (.invokestatic 87, 3) := by decide +kernel
theorem d_K_SF_member_61 : decode b_K_SF_member 61 = .ok (.ifCond .eq 12, 3) := by decide +kernel
theorem d_K_SF_member_64 : decode b_K_SF_member 64 = .ok (.iload_n 3, 1) := by decide +kernel
theorem d_K_SF_member_65 : decode b_K_SF_member 65 = .ok (.iconst 0, 1) := by decide +kernel
theorem d_K_SF_member_66 : decode b_K_SF_member 66 = .ok (.iconst 1, 1) := by decide +kernel
theorem d_K_SF_member_67 : decode b_K_SF_member 67 = .ok (.invokestatic 87, 3) := by decide +kernel
theorem d_K_SF_member_70 : decode b_K_SF_member 70 = .ok (.ifCond .ne 5, 3) := by decide +kernel
theorem d_K_SF_member_73 : decode b_K_SF_member 73 = .ok (.iconst (-1), 1) := by decide +kernel
theorem d_K_SF_member_74 : decode b_K_SF_member 74 = .ok (.ireturn, 1) := by decide +kernel
theorem d_K_SF_member_75 : decode b_K_SF_member 75 = .ok (.iload 5, 2) := by decide +kernel
theorem d_K_SF_member_77 : decode b_K_SF_member 77 = .ok (.iload_n 2, 1) := by decide +kernel
theorem d_K_SF_member_78 : decode b_K_SF_member 78 = .ok (.iload_n 3, 1) := by decide +kernel
theorem d_K_SF_member_79 : decode b_K_SF_member 79 = .ok (.invokestatic 109, 3) := by decide +kernel
theorem d_K_SF_member_82 : decode b_K_SF_member 82 = .ok (.istore 6, 2) := by decide +kernel
theorem d_K_SF_member_84 : decode b_K_SF_member 84 = .ok (.aload_n 0, 1) := by decide +kernel
theorem d_K_SF_member_85 : decode b_K_SF_member 85 = .ok (.getfield 21, 3) := by decide +kernel
theorem d_K_SF_member_88 : decode b_K_SF_member 88 = .ok (.iload_n 1, 1) := by decide +kernel
theorem d_K_SF_member_89 : decode b_K_SF_member 89 = .ok (.iload 6, 2) := by decide +kernel
theorem d_K_SF_member_91 : decode b_K_SF_member 91 = .ok (.invokevirtual 113, 3) := by decide +kernel
theorem d_K_SF_member_94 : decode b_K_SF_member 94 = .ok (.bipush (-2), 2) := by decide +kernel
theorem d_K_SF_member_96 : decode b_K_SF_member 96 = .ok (.if_icmp .eq 5, 3) := by decide +kernel
theorem d_K_SF_member_99 : decode b_K_SF_member 99 = .ok (.iconst (-1), 1) := by decide +kernel
theorem d_K_SF_member_100 : decode b_K_SF_member 100 = .ok (.ireturn, 1) := by decide +kernel
theorem d_K_SF_member_101 : decode b_K_SF_member 101 = .ok (.aload_n 0, 1) := by decide +kernel
theorem d_K_SF_member_102 : decode b_K_SF_member 102 = .ok (.iconst 0, 1) := by decide +kernel
theorem d_K_SF_member_103 : decode b_K_SF_member 103 = .ok (.putfield 95, 3) := by decide +kernel
theorem d_K_SF_member_106 : decode b_K_SF_member 106 = .ok (.aload_n 0, 1) := by decide +kernel
theorem d_K_SF_member_107 : decode b_K_SF_member 107 = .ok (.getfield 21, 3) := by decide +kernel
theorem d_K_SF_member_110 : decode b_K_SF_member 110 = .ok (.iload_n 1, 1) := by decide +kernel
theorem d_K_SF_member_111 : decode b_K_SF_member 111 = .ok (.iload 6, 2) := by decide +kernel
theorem d_K_SF_member_113 : decode b_K_SF_member 113 = .ok (.iload 4, 2) := by decide +kernel
theorem d_K_SF_member_115 : decode b_K_SF_member 115 = .ok (.invokevirtual 117, 3) := by decide +kernel
theorem d_K_SF_member_118 : decode b_K_SF_member 118 = .ok (.ireturn, 1) := by decide +kernel
theorem d_K_SF_remove_0 : decode b_K_SF_remove 0 = .ok (.iload_n 1, 1) := by decide +kernel
theorem d_K_SF_remove_1 : decode b_K_SF_remove 1 = .ok (.ifCond .eq 14, 3) := by decide +kernel
theorem d_K_SF_remove_4 : decode b_K_SF_remove 4 = .ok (.aload_n 0, 1) := by decide +kernel
theorem d_K_SF_remove_5 : decode b_K_SF_remove 5 = .ok (.getfield 21, 3) := by decide +kernel
theorem d_K_SF_remove_8 : decode b_K_SF_remove 8 = .ok (.iload_n 1, 1) := by decide +kernel
theorem d_K_SF_remove_9 : decode b_K_SF_remove 9 = .ok (.invokevirtual 121, 3) := by decide +kernel
theorem d_K_SF_remove_12 : decode b_K_SF_remove 12 = .ok (.ifCond .ne 5, 3) := by decide +kernel
theorem d_K_SF_remove_15 : decode b_K_SF_remove 15 = .ok (.iconst 0, 1) := by decide +kernel
theorem d_K_SF_remove_16 : decode b_K_SF_remove 16 = .ok (.ireturn, 1) := by decide +kernel
theorem d_K_SF_remove_17 : decode b_K_SF_remove 17 = .ok (.aload_n 0, 1) := by decide +kernel
theorem d_K_SF_remove_18 : decode b_K_SF_remove 18 = .ok (.getfield 21, 3) := by decide +kernel
theorem d_K_SF_remove_21 : decode b_K_SF_remove 21 = .ok (.iload_n 1, 1) := by decide +kernel
theorem d_K_SF_remove_22 : decode b_K_SF_remove 22 = .ok (.invokevirtual 124, 3) := by decide +kernel
theorem d_K_SF_remove_25 : decode b_K_SF_remove 25 = .ok (.aload_n 0, 1) := by decide +kernel
theorem d_K_SF_remove_26 : decode b_K_SF_remove 26 = .ok (.iconst 0, 1) := by decide +kernel
theorem d_K_SF_remove_27 : decode b_K_SF_remove 27 = .ok (.putfield 95, 3) := by decide +kernel
theorem d_K_SF_remove_30 : decode b_K_SF_remove 30 = .ok (.iconst 1, 1) := by decide +kernel
theorem d_K_SF_remove_31 : decode b_K_SF_remove 31 = .ok (.ireturn, 1) := by decide +kernel
theorem d_K_SF_isWanted_0 : decode b_K_SF_isWanted 0 = .ok (.iload_n 0, 1) := by decide +kernel
theorem d_K_SF_isWanted_1 : decode b_K_SF_isWanted 1 = .ok (.iconst 0, 1) := by decide +kernel
theorem d_K_SF_isWanted_2 : decode b_K_SF_isWanted 2 = .ok (.bipush 9, 2) := by decide +kernel
theorem d_K_SF_isWanted_4 : decode b_K_SF_isWanted 4 = .ok (.invokestatic 87, 3) := by decide +kernel
theorem d_K_SF_isWanted_7 : decode b_K_SF_isWanted 7 = .ok (.ifCond .eq 26, 3) := by decide +kernel
theorem d_K_SF_isWanted_10 : decode b_K_SF_isWanted 10 = .ok (.iload_n 1, 1) := by decide +kernel
theorem d_K_SF_isWanted_11 : decode b_K_SF_isWanted 11 = .ok (.iconst 0, 1) := by decide +kernel
theorem d_K_SF_isWanted_12 : decode b_K_SF_isWanted 12 = .ok (.bipush 7, 2) := by decide +kernel
theorem d_K_SF_isWanted_14 : decode b_K_SF_isWanted 14 = .ok (.invokestatic 87, 3) := by decide +kernel
theorem d_K_SF_isWanted_17 : decode b_K_SF_isWanted 17 = .ok (.ifCond .eq 16, 3) := by decide +kernel
theorem d_K_SF_isWanted_20 : decode b_K_SF_isWanted 20 = .ok (.iload_n 2, 1) := by decide +kernel
theorem d_K_SF_isWanted_21 : decode b_K_SF_isWanted 21 = .ok (.iconst 0, 1) := by decide +kernel
theorem d_K_SF_isWanted_22 : decode b_K_SF_isWanted 22 = .ok (.iconst 1, 1) := by decide +kernel
theorem d_K_SF_isWanted_23 : decode b_K_SF_isWanted 23 = .ok (.invokestatic 87, 3) := by decide +kernel
theorem d_K_SF_isWanted_26 : decode b_K_SF_isWanted 26 = .ok (.ifCond .eq 7, 3) := by decide +kernel
theorem d_K_SF_isWanted_29 : decode b_K_SF_isWanted 29 = .ok (.iconst 1, 1) := by decide +kernel
theorem d_K_SF_isWanted_30 : decode b_K_SF_isWanted 30 = .ok (.goto 4, 3) := by decide +kernel
theorem d_K_SF_isWanted_33 : decode b_K_SF_isWanted 33 = .ok (.iconst 0, 1) := by decide +kernel
theorem d_K_SF_isWanted_34 : decode b_K_SF_isWanted 34 = .ok (.ireturn, 1) := by decide +kernel
theorem d_K_SF_refer_0 : decode b_K_SF_refer 0 = .ok (.iload_n 1, 1) := by decide +kernel
theorem d_K_SF_refer_1 : decode b_K_SF_refer 1 = .ok (.ifCond .eq 26, 3) := by decide +kernel
theorem d_K_SF_refer_4 : decode b_K_SF_refer 4 = .ok (.aload_n 0, 1) := by decide +kernel
theorem d_K_SF_refer_5 : decode b_K_SF_refer 5 = .ok (.getfield 21, 3) := by decide +kernel
theorem d_K_SF_refer_8 : decode b_K_SF_refer 8 = .ok (.iload_n 1, 1) := by decide +kernel
theorem d_K_SF_refer_9 : decode b_K_SF_refer 9 = .ok (.invokevirtual 121, 3) := by decide +kernel
theorem d_K_SF_refer_12 : decode b_K_SF_refer 12 = .ok (.ifCond .eq 15, 3) := by decide +kernel
theorem d_K_SF_refer_15 : decode b_K_SF_refer 15 = .ok (.aload_n 0, 1) := by decide +kernel
theorem d_K_SF_refer_16 : decode b_K_SF_refer 16 = .ok (.getfield 21, 3) := by decide +kernel
theorem d_K_SF_refer_19 : decode b_K_SF_refer 19 = .ok (.iload_n 1, 1) := by decide +kernel
theorem d_K_SF_refer_20 : decode b_K_SF_refer 20 = .ok (.iconst 1, 1) := by decide +kernel
theorem d_K_SF_refer_21 : decode b_K_SF_refer 21 = .ok (.invokevirtual 127, 3) := by decide +kernel
theorem d_K_SF_refer_24 : decode b_K_SF_refer 24 = .ok (.ifCond .ne 5, 3) := by decide +kernel
theorem d_K_SF_refer_27 : decode b_K_SF_refer 27 = .ok (.iconst (-1), 1) := by decide +kernel
theorem d_K_SF_refer_28 : decode b_K_SF_refer 28 = .ok (.ireturn, 1) := by decide +kernel
theorem d_K_SF_refer_29 : decode b_K_SF_refer 29 = .ok (.iload_n 2, 1) := by decide +kernel
theorem d_K_SF_refer_30 : decode b_K_SF_refer 30 = .ok (.iconst 0, 1) := by decide +kernel
theorem d_K_SF_refer_31 : decode b_K_SF_refer 31 = .ok (.iconst 5, 1) := by decide +kernel
theorem d_K_SF_refer_32 : decode b_K_SF_refer 32 = .ok (.invokestatic 87, 3) := by decide +kernel
theorem d_K_SF_refer_35 : decode b_K_SF_refer 35 = .ok (.ifCond .eq 14, 3) := by decide +kernel
theorem d_K_SF_refer_38 : decode b_K_SF_refer 38 = .ok (.iload_n 3, 1) := by decide +kernel
theorem d_K_SF_refer_39 : decode b_K_SF_refer 39 = .ok (.iload 4, 2) := by decide +kernel
theorem d_K_SF_refer_41 : decode b_K_SF_refer 41 = .ok (.iload 5, 2) := by decide +kernel
theorem d_K_SF_refer_43 : decode b_K_SF_refer 43 = .ok (.invokestatic 131, 3) := by decide +kernel
theorem d_K_SF_refer_46 : decode b_K_SF_refer 46 = .ok (.ifCond .ne 5, 3) := by decide +kernel
theorem d_K_SF_refer_49 : decode b_K_SF_refer 49 = .ok (.iconst (-1), 1) := by decide +kernel
theorem d_K_SF_refer_50 : decode b_K_SF_refer 50 = .ok (.ireturn, 1) := by decide +kernel
theorem d_K_SF_refer_51 : decode b_K_SF_refer 51 = .ok (.aload_n 0, 1) := by decide +kernel
theorem d_K_SF_refer_52 : decode b_K_SF_refer 52 = .ok (.iconst 0, 1) := by decide +kernel
theorem d_K_SF_refer_53 : decode b_K_SF_refer 53 = .ok (.putfield 95, 3) := by decide +kernel
theorem d_K_SF_refer_56 : decode b_K_SF_refer 56 = .ok (.aload_n 0, 1) := by decide +kernel
theorem d_K_SF_refer_57 : decode b_K_SF_refer 57 = .ok (.getfield 28, 3) := by decide +kernel
theorem d_K_SF_refer_60 : decode b_K_SF_refer 60 = .ok (.iload_n 1, 1) := by decide +kernel
theorem d_K_SF_refer_61 : decode b_K_SF_refer 61 = .ok (.iload_n 2, 1) := by decide +kernel
theorem d_K_SF_refer_62 : decode b_K_SF_refer 62 = .ok (.iload_n 3, 1) := by decide +kernel
theorem d_K_SF_refer_63 : decode b_K_SF_refer 63 = .ok (.iload_n 2, 1) := by decide +kernel
theorem d_K_SF_refer_64 : decode b_K_SF_refer 64 = .ok (.iconst 2, 1) := by decide +kernel
theorem d_K_SF_refer_65 : decode b_K_SF_refer 65 = .ok (.if_icmp .eq 7, 3) := by decide +kernel
theorem d_K_SF_refer_68 : decode b_K_SF_refer 68 = .ok (.iconst 1, 1) := by decide +kernel
theorem d_K_SF_refer_69 : decode b_K_SF_refer 69 = .ok (.goto 4, 3) := by decide +kernel
theorem d_K_SF_refer_72 : decode b_K_SF_refer 72 = .ok (.iconst 0, 1) := by decide +kernel
theorem d_K_SF_refer_73 : decode b_K_SF_refer 73 = .ok (.iload 4, 2) := by decide +kernel
theorem d_K_SF_refer_75 : decode b_K_SF_refer 75 = .ok (.iload 5, 2) := by decide +kernel
theorem d_K_SF_refer_77 : decode b_K_SF_refer 77 = .ok (.invokestatic 109, 3) := by decide +kernel
theorem d_K_SF_refer_80 : decode b_K_SF_refer 80 = .ok (.invokevirtual 134, 3) := by decide +kernel
theorem d_K_SF_refer_83 : decode b_K_SF_refer 83 = .ok (.ireturn, 1) := by decide +kernel
theorem d_K_SF_letter_0 : decode b_K_SF_letter 0 = .ok (.iload_n 1, 1) := by decide +kernel
theorem d_K_SF_letter_1 : decode b_K_SF_letter 1 = .ok (.bipush 32, 2) := by decide +kernel
theorem d_K_SF_letter_3 : decode b_K_SF_letter 3 = .ok (.bipush 126, 2) := by decide +kernel
theorem d_K_SF_letter_5 : decode b_K_SF_letter 5 = .ok (.invokestatic 87, 3) := by decide +kernel
theorem d_K_SF_letter_8 : decode b_K_SF_letter 8 = .ok (.ifCond .ne 5, 3) := by decide +kernel
theorem d_K_SF_letter_11 : decode b_K_SF_letter 11 = .ok (.iconst (-1), 1) := by decide +kernel
theorem d_K_SF_letter_12 : decode b_K_SF_letter 12 = .ok (.ireturn, 1) := by decide +kernel
theorem d_K_SF_letter_13 : decode b_K_SF_letter 13 = .ok (.aload_n 0, 1) := by decide +kernel
theorem d_K_SF_letter_14 : decode b_K_SF_letter 14 = .ok (.getfield 37, 3) := by decide +kernel
theorem d_K_SF_letter_17 : decode b_K_SF_letter 17 = .ok (.iload_n 1, 1) := by decide +kernel
theorem d_K_SF_letter_18 : decode b_K_SF_letter 18 = .ok (.invokevirtual 137, 3) := by decide +kernel
theorem d_K_SF_letter_21 : decode b_K_SF_letter 21 = .ok (.ifCond .eq 13, 3) := by decide +kernel
theorem d_K_SF_letter_24 : decode b_K_SF_letter 24 = .ok (.aload_n 0, 1) := by decide +kernel
theorem d_K_SF_letter_25 : decode b_K_SF_letter 25 = .ok (.getfield 37, 3) := by decide +kernel
theorem d_K_SF_letter_28 : decode b_K_SF_letter 28 = .ok (.getfield 140, 3) := by decide +kernel
theorem d_K_SF_letter_31 : decode b_K_SF_letter 31 = .ok (.goto 5, 3) := by decide +kernel
theorem d_K_SF_letter_34 : decode b_K_SF_letter 34 = .ok (.bipush (-3), 2) := by decide +kernel
theorem d_K_SF_letter_36 : decode b_K_SF_letter 36 = .ok (.ireturn, 1) := by decide +kernel
theorem d_K_SF_rule_0 : decode b_K_SF_rule 0 = .ok (.aload_n 0, 1) := by decide +kernel
theorem d_K_SF_rule_1 : decode b_K_SF_rule 1 = .ok (.getfield 46, 3) := by decide +kernel
theorem d_K_SF_rule_4 : decode b_K_SF_rule 4 = .ok (.invokevirtual 144, 3) := by decide +kernel
theorem d_K_SF_rule_7 : decode b_K_SF_rule 7 = .ok (.istore_n 1, 1) := by decide +kernel
theorem d_K_SF_rule_8 : decode b_K_SF_rule 8 = .ok (.aload_n 0, 1) := by decide +kernel
theorem d_K_SF_rule_9 : decode b_K_SF_rule 9 = .ok (.getfield 37, 3) := by decide +kernel
theorem d_K_SF_rule_12 : decode b_K_SF_rule 12 = .ok (.invokevirtual 148, 3) := by decide +kernel
theorem d_K_SF_rule_15 : decode b_K_SF_rule 15 = .ok (.iload_n 1, 1) := by decide +kernel
theorem d_K_SF_rule_16 : decode b_K_SF_rule 16 = .ok (.ifCond .eq 8, 3) := by decide +kernel
theorem d_K_SF_rule_19 : decode b_K_SF_rule 19 = .ok (.bipush (-10), 2) := by decide +kernel
theorem d_K_SF_rule_21 : decode b_K_SF_rule 21 = .ok (.iload_n 1, 1) := by decide +kernel
theorem d_K_SF_rule_22 : decode b_K_SF_rule 22 = .ok (.isub, 1) := by decide +kernel
theorem d_K_SF_rule_23 : decode b_K_SF_rule 23 = .ok (.ireturn, 1) := by decide +kernel
theorem d_K_SF_rule_24 : decode b_K_SF_rule 24 = .ok (.aload_n 0, 1) := by decide +kernel
theorem d_K_SF_rule_25 : decode b_K_SF_rule 25 = .ok (.iconst 0, 1) := by decide +kernel
theorem d_K_SF_rule_26 : decode b_K_SF_rule 26 = .ok (.putfield 95, 3) := by decide +kernel
theorem d_K_SF_rule_29 : decode b_K_SF_rule 29 = .ok (.aload_n 0, 1) := by decide +kernel
theorem d_K_SF_rule_30 : decode b_K_SF_rule 30 = .ok (.getfield 53, 3) := by decide +kernel
theorem d_K_SF_rule_33 : decode b_K_SF_rule 33 = .ok (.aload_n 0, 1) := by decide +kernel
theorem d_K_SF_rule_34 : decode b_K_SF_rule 34 = .ok (.getfield 46, 3) := by decide +kernel
theorem d_K_SF_rule_37 : decode b_K_SF_rule 37 = .ok (.invokevirtual 151, 3) := by decide +kernel
theorem d_K_SF_rule_40 : decode b_K_SF_rule 40 = .ok (.ireturn, 1) := by decide +kernel
theorem d_K_SF_clear_0 : decode b_K_SF_clear 0 = .ok (.aload_n 0, 1) := by decide +kernel
theorem d_K_SF_clear_1 : decode b_K_SF_clear 1 = .ok (.getfield 53, 3) := by decide +kernel
theorem d_K_SF_clear_4 : decode b_K_SF_clear 4 = .ok (.getfield 154, 3) := by decide +kernel
theorem d_K_SF_clear_7 : decode b_K_SF_clear 7 = .ok (.istore_n 2, 1) := by decide +kernel
theorem d_K_SF_clear_8 : decode b_K_SF_clear 8 = .ok (.aload_n 0, 1) := by decide +kernel
theorem d_K_SF_clear_9 : decode b_K_SF_clear 9 = .ok (.getfield 53, 3) := by decide +kernel
theorem d_K_SF_clear_12 : decode b_K_SF_clear 12 = .ok (.iconst 0, 1) := by decide +kernel
theorem d_K_SF_clear_13 : decode b_K_SF_clear 13 = .ok (.putfield 154, 3) := by decide +kernel
theorem d_K_SF_clear_16 : decode b_K_SF_clear 16 = .ok (.aload_n 0, 1) := by decide +kernel
theorem d_K_SF_clear_17 : decode b_K_SF_clear 17 = .ok (.getfield 37, 3) := by decide +kernel
theorem d_K_SF_clear_20 : decode b_K_SF_clear 20 = .ok (.invokevirtual 148, 3) := by decide +kernel
theorem d_K_SF_clear_23 : decode b_K_SF_clear 23 = .ok (.iload_n 1, 1) := by decide +kernel
theorem d_K_SF_clear_24 : decode b_K_SF_clear 24 = .ok (.ifCond .eq 25, 3) := by decide +kernel
theorem d_K_SF_clear_27 : decode b_K_SF_clear 27 = .ok (.aload_n 0, 1) := by decide +kernel
theorem d_K_SF_clear_28 : decode b_K_SF_clear 28 = .ok (.getfield 12, 3) := by decide +kernel
theorem d_K_SF_clear_31 : decode b_K_SF_clear 31 = .ok (.invokevirtual 157, 3) := by decide +kernel
theorem d_K_SF_clear_34 : decode b_K_SF_clear 34 = .ok (.aload_n 0, 1) := by decide +kernel
theorem d_K_SF_clear_35 : decode b_K_SF_clear 35 = .ok (.getfield 21, 3) := by decide +kernel
theorem d_K_SF_clear_38 : decode b_K_SF_clear 38 = .ok (.invokevirtual 160, 3) := by decide +kernel
theorem d_K_SF_clear_41 : decode b_K_SF_clear 41 = .ok (.aload_n 0, 1) := by decide +kernel
theorem d_K_SF_clear_42 : decode b_K_SF_clear 42 = .ok (.getfield 28, 3) := by decide +kernel
theorem d_K_SF_clear_45 : decode b_K_SF_clear 45 = .ok (.iconst 0, 1) := by decide +kernel
theorem d_K_SF_clear_46 : decode b_K_SF_clear 46 = .ok (.putfield 161, 3) := by decide +kernel
theorem d_K_SF_clear_49 : decode b_K_SF_clear 49 = .ok (.aload_n 0, 1) := by decide +kernel
theorem d_K_SF_clear_50 : decode b_K_SF_clear 50 = .ok (.iconst 0, 1) := by decide +kernel
theorem d_K_SF_clear_51 : decode b_K_SF_clear 51 = .ok (.putfield 95, 3) := by decide +kernel
theorem d_K_SF_clear_54 : decode b_K_SF_clear 54 = .ok (.iload_n 2, 1) := by decide +kernel
theorem d_K_SF_clear_55 : decode b_K_SF_clear 55 = .ok (.ireturn, 1) := by decide +kernel
theorem d_K_SF_settle_0 : decode b_K_SF_settle 0 = .ok (.aload_n 0, 1) := by decide +kernel
theorem d_K_SF_settle_1 : decode b_K_SF_settle 1 = .ok (.getfield 95, 3) := by decide +kernel
theorem d_K_SF_settle_4 : decode b_K_SF_settle 4 = .ok (.ifCond .eq 4, 3) := by decide +kernel
theorem d_K_SF_settle_7 : decode b_K_SF_settle 7 = .ok (.return_, 1) := by decide +kernel
theorem d_K_SF_settle_8 : decode b_K_SF_settle 8 = .ok (.aload_n 0, 1) := by decide +kernel
theorem d_K_SF_settle_9 : decode b_K_SF_settle 9 = .ok (.getfield 53, 3) := by decide +kernel
theorem d_K_SF_settle_12 : decode b_K_SF_settle 12 = .ok (.aload_n 0, 1) := by decide +kernel
theorem d_K_SF_settle_13 : decode b_K_SF_settle 13 = .ok (.getfield 12, 3) := by decide +kernel
theorem d_K_SF_settle_16 : decode b_K_SF_settle 16 = .ok (.aload_n 0, 1) := by decide +kernel
theorem d_K_SF_settle_17 : decode b_K_SF_settle 17 = .ok (.getfield 21, 3) := by decide +kernel
theorem d_K_SF_settle_20 : decode b_K_SF_settle 20 = .ok (.invokevirtual 263, 3) := by decide +kernel
theorem d_K_SF_settle_23 : decode b_K_SF_settle 23 = .ok (.aload_n 0, 1) := by decide +kernel
theorem d_K_SF_settle_24 : decode b_K_SF_settle 24 = .ok (.getfield 62, 3) := by decide +kernel
theorem d_K_SF_settle_27 : decode b_K_SF_settle 27 = .ok (.invokevirtual 267, 3) := by decide +kernel
theorem d_K_SF_settle_30 : decode b_K_SF_settle 30 = .ok (.aload_n 0, 1) := by decide +kernel
theorem d_K_SF_settle_31 : decode b_K_SF_settle 31 = .ok (.getfield 71, 3) := by decide +kernel
theorem d_K_SF_settle_34 : decode b_K_SF_settle 34 = .ok (.invokevirtual 270, 3) := by decide +kernel
theorem d_K_SF_settle_37 : decode b_K_SF_settle 37 = .ok (.aload_n 0, 1) := by decide +kernel
theorem d_K_SF_settle_38 : decode b_K_SF_settle 38 = .ok (.getfield 80, 3) := by decide +kernel
theorem d_K_SF_settle_41 : decode b_K_SF_settle 41 = .ok (.iconst 1, 1) := by decide +kernel
theorem d_K_SF_settle_42 : decode b_K_SF_settle 42 = .ok (.putfield 271, 3) := by decide +kernel
theorem d_K_SF_settle_45 : decode b_K_SF_settle 45 = .ok (.aload_n 0, 1) := by decide +kernel
theorem d_K_SF_settle_46 : decode b_K_SF_settle 46 = .ok (.iconst 1, 1) := by decide +kernel
theorem d_K_SF_settle_47 : decode b_K_SF_settle 47 = .ok (.putfield 95, 3) := by decide +kernel
theorem d_K_SF_settle_50 : decode b_K_SF_settle 50 = .ok (.return_, 1) := by decide +kernel
theorem d_K_SF_needs_0 : decode b_K_SF_needs 0 = .ok (.iload_n 2, 1) := by decide +kernel
theorem d_K_SF_needs_1 : decode b_K_SF_needs 1 = .ok (.iconst 0, 1) := by decide +kernel
theorem d_K_SF_needs_2 : decode b_K_SF_needs 2 = .ok (.iconst 5, 1) := by decide +kernel
theorem d_K_SF_needs_3 : decode b_K_SF_needs 3 = .ok (.invokestatic 87, 3) := by decide +kernel
theorem d_K_SF_needs_6 : decode b_K_SF_needs 6 = .ok (.ifCond .ne 5, 3) := by decide +kernel
theorem d_K_SF_needs_9 : decode b_K_SF_needs 9 = .ok (.iconst (-1), 1) := by decide +kernel
theorem d_K_SF_needs_10 : decode b_K_SF_needs 10 = .ok (.ireturn, 1) := by decide +kernel
theorem d_K_SF_needs_11 : decode b_K_SF_needs 11 = .ok (.aload_n 0, 1) := by decide +kernel
theorem d_K_SF_needs_12 : decode b_K_SF_needs 12 = .ok (.getfield 12, 3) := by decide +kernel
theorem d_K_SF_needs_15 : decode b_K_SF_needs 15 = .ok (.iload_n 1, 1) := by decide +kernel
theorem d_K_SF_needs_16 : decode b_K_SF_needs 16 = .ok (.invokevirtual 99, 3) := by decide +kernel
theorem d_K_SF_needs_19 : decode b_K_SF_needs 19 = .ok (.ifCond .ne 6, 3) := by decide +kernel
theorem d_K_SF_needs_22 : decode b_K_SF_needs 22 = .ok (.bipush (-2), 2) := by decide +kernel
theorem d_K_SF_needs_24 : decode b_K_SF_needs 24 = .ok (.ireturn, 1) := by decide +kernel
theorem d_K_SF_needs_25 : decode b_K_SF_needs 25 = .ok (.aload_n 0, 1) := by decide +kernel
theorem d_K_SF_needs_26 : decode b_K_SF_needs 26 = .ok (.invokevirtual 162, 3) := by decide +kernel
theorem d_K_SF_needs_29 : decode b_K_SF_needs 29 = .ok (.iload_n 2, 1) := by decide +kernel
theorem d_K_SF_needs_30 : decode b_K_SF_needs 30 = .ok (.tableswitch 107 0 4 #[34, 49, 64, 79, 94], 34) := by decide +kernel
theorem d_K_SF_needs_64 : decode b_K_SF_needs 64 = .ok (.aload_n 0, 1) := by decide +kernel
theorem d_K_SF_needs_65 : decode b_K_SF_needs 65 = .ok (.getfield 62, 3) := by decide +kernel
theorem d_K_SF_needs_68 : decode b_K_SF_needs 68 = .ok (.getfield 165, 3) := by decide +kernel
theorem d_K_SF_needs_71 : decode b_K_SF_needs 71 = .ok (.iload_n 1, 1) := by decide +kernel
theorem d_K_SF_needs_72 : decode b_K_SF_needs 72 = .ok (.invokestatic 169, 3) := by decide +kernel
theorem d_K_SF_needs_75 : decode b_K_SF_needs 75 = .ok (.invokestatic 173, 3) := by decide +kernel
theorem d_K_SF_needs_78 : decode b_K_SF_needs 78 = .ok (.ireturn, 1) := by decide +kernel
theorem d_K_SF_needs_79 : decode b_K_SF_needs 79 = .ok (.aload_n 0, 1) := by decide +kernel
theorem d_K_SF_needs_80 : decode b_K_SF_needs 80 = .ok (.getfield 62, 3) := by decide +kernel
theorem d_K_SF_needs_83 : decode b_K_SF_needs 83 = .ok (.getfield 177, 3) := by decide +kernel
theorem d_K_SF_needs_86 : decode b_K_SF_needs 86 = .ok (.iload_n 1, 1) := by decide +kernel
theorem d_K_SF_needs_87 : decode b_K_SF_needs 87 = .ok (.invokestatic 169, 3) := by decide +kernel
theorem d_K_SF_needs_90 : decode b_K_SF_needs 90 = .ok (.invokestatic 173, 3) := by decide +kernel
theorem d_K_SF_needs_93 : decode b_K_SF_needs 93 = .ok (.ireturn, 1) := by decide +kernel
theorem d_K_SF_needs_94 : decode b_K_SF_needs 94 = .ok (.aload_n 0, 1) := by decide +kernel
theorem d_K_SF_needs_95 : decode b_K_SF_needs 95 = .ok (.getfield 62, 3) := by decide +kernel
theorem d_K_SF_needs_98 : decode b_K_SF_needs 98 = .ok (.getfield 180, 3) := by decide +kernel
theorem d_K_SF_needs_101 : decode b_K_SF_needs 101 = .ok (.iload_n 1, 1) := by decide +kernel
theorem d_K_SF_needs_102 : decode b_K_SF_needs 102 = .ok (.invokestatic 169, 3) := by decide +kernel
theorem d_K_SF_needs_105 : decode b_K_SF_needs 105 = .ok (.invokestatic 173, 3) := by decide +kernel
theorem d_K_SF_needs_108 : decode b_K_SF_needs 108 = .ok (.ireturn, 1) := by decide +kernel
theorem d_K_SF_needs_109 : decode b_K_SF_needs 109 = .ok (.aload_n 0, 1) := by decide +kernel
theorem d_K_SF_needs_110 : decode b_K_SF_needs 110 = .ok (.getfield 71, 3) := by decide +kernel
theorem d_K_SF_needs_113 : decode b_K_SF_needs 113 = .ok (.getfield 183, 3) := by decide +kernel
theorem d_K_SF_needs_116 : decode b_K_SF_needs 116 = .ok (.iload_n 1, 1) := by decide +kernel
theorem d_K_SF_needs_117 : decode b_K_SF_needs 117 = .ok (.invokestatic 169, 3) := by decide +kernel
theorem d_K_SF_needs_120 : decode b_K_SF_needs 120 = .ok (.invokestatic 173, 3) := by decide +kernel
theorem d_K_SF_needs_123 : decode b_K_SF_needs 123 = .ok (.ireturn, 1) := by decide +kernel
theorem d_K_SF_needs_124 : decode b_K_SF_needs 124 = .ok (.aload_n 0, 1) := by decide +kernel
theorem d_K_SF_needs_125 : decode b_K_SF_needs 125 = .ok (.getfield 12, 3) := by decide +kernel
theorem d_K_SF_needs_128 : decode b_K_SF_needs 128 = .ok (.getfield 186, 3) := by decide +kernel
theorem d_K_SF_needs_131 : decode b_K_SF_needs 131 = .ok (.iload_n 1, 1) := by decide +kernel
theorem d_K_SF_needs_132 : decode b_K_SF_needs 132 = .ok (.laload, 1) := by decide +kernel
theorem d_K_SF_needs_133 : decode b_K_SF_needs 133 = .ok (.invokestatic 190, 3) := by decide +kernel
theorem d_K_SF_needs_136 : decode b_K_SF_needs 136 = .ok (.ireturn, 1) := by decide +kernel
theorem d_K_SF_needs_137 : decode b_K_SF_needs 137 = .ok (.aload_n 0, 1) := by decide +kernel
theorem d_K_SF_needs_138 : decode b_K_SF_needs 138 = .ok (.getfield 53, 3) := by decide +kernel
theorem d_K_SF_needs_141 : decode b_K_SF_needs 141 = .ok (.iload_n 1, 1) := by decide +kernel
theorem d_K_SF_needs_142 : decode b_K_SF_needs 142 = .ok (.invokevirtual 196, 3) := by decide +kernel
theorem d_K_SF_needs_145 : decode b_K_SF_needs 145 = .ok (.ireturn, 1) := by decide +kernel
theorem d_K_SF_part_0 : decode b_K_SF_part 0 = .ok (.iload_n 2, 1) := by decide +kernel
theorem d_K_SF_part_1 : decode b_K_SF_part 1 = .ok (.iconst 0, 1) := by decide +kernel
theorem d_K_SF_part_2 : decode b_K_SF_part 2 = .ok (.iconst 5, 1) := by decide +kernel
theorem d_K_SF_part_3 : decode b_K_SF_part 3 = .ok (.invokestatic 87, 3) := by decide +kernel
theorem d_K_SF_part_6 : decode b_K_SF_part 6 = .ok (.ifCond .ne 5, 3) := by decide +kernel
theorem d_K_SF_part_9 : decode b_K_SF_part 9 = .ok (.iconst (-1), 1) := by decide +kernel
theorem d_K_SF_part_10 : decode b_K_SF_part 10 = .ok (.ireturn, 1) := by decide +kernel
theorem d_K_SF_part_11 : decode b_K_SF_part 11 = .ok (.aload_n 0, 1) := by decide +kernel
theorem d_K_SF_part_12 : decode b_K_SF_part 12 = .ok (.getfield 21, 3) := by decide +kernel
theorem d_K_SF_part_15 : decode b_K_SF_part 15 = .ok (.iload_n 1, 1) := by decide +kernel
theorem d_K_SF_part_16 : decode b_K_SF_part 16 = .ok (.invokevirtual 121, 3) := by decide +kernel
theorem d_K_SF_part_19 : decode b_K_SF_part 19 = .ok (.ifCond .ne 6, 3) := by decide +kernel
theorem d_K_SF_part_22 : decode b_K_SF_part 22 = .ok (.bipush (-2), 2) := by decide +kernel
theorem d_K_SF_part_24 : decode b_K_SF_part 24 = .ok (.ireturn, 1) := by decide +kernel
theorem d_K_SF_part_25 : decode b_K_SF_part 25 = .ok (.aload_n 0, 1) := by decide +kernel
theorem d_K_SF_part_26 : decode b_K_SF_part 26 = .ok (.invokevirtual 162, 3) := by decide +kernel
theorem d_K_SF_part_29 : decode b_K_SF_part 29 = .ok (.iload_n 2, 1) := by decide +kernel
theorem d_K_SF_part_30 : decode b_K_SF_part 30 = .ok (.tableswitch 108 0 4 #[34, 49, 72, 82, 95], 34) := by decide +kernel
theorem d_K_SF_part_64 : decode b_K_SF_part 64 = .ok (.aload_n 0, 1) := by decide +kernel
theorem d_K_SF_part_65 : decode b_K_SF_part 65 = .ok (.getfield 62, 3) := by decide +kernel
theorem d_K_SF_part_68 : decode b_K_SF_part 68 = .ok (.getfield 200, 3) := by decide +kernel
theorem d_K_SF_part_71 : decode b_K_SF_part 71 = .ok (.iload_n 1, 1) := by decide +kernel
theorem d_K_SF_part_72 : decode b_K_SF_part 72 = .ok (.invokestatic 169, 3) := by decide +kernel
theorem d_K_SF_part_75 : decode b_K_SF_part 75 = .ok (.invokestatic 173, 3) := by decide +kernel
theorem d_K_SF_part_78 : decode b_K_SF_part 78 = .ok (.ireturn, 1) := by decide +kernel
theorem d_K_SF_part_79 : decode b_K_SF_part 79 = .ok (.aload_n 0, 1) := by decide +kernel
theorem d_K_SF_part_80 : decode b_K_SF_part 80 = .ok (.getfield 71, 3) := by decide +kernel
theorem d_K_SF_part_83 : decode b_K_SF_part 83 = .ok (.getfield 202, 3) := by decide +kernel
theorem d_K_SF_part_86 : decode b_K_SF_part 86 = .ok (.aload_n 0, 1) := by decide +kernel
theorem d_K_SF_part_87 : decode b_K_SF_part 87 = .ok (.getfield 21, 3) := by decide +kernel
theorem d_K_SF_part_90 : decode b_K_SF_part 90 = .ok (.getfield 205, 3) := by decide +kernel
theorem d_K_SF_part_93 : decode b_K_SF_part 93 = .ok (.iload_n 1, 1) := by decide +kernel
theorem d_K_SF_part_94 : decode b_K_SF_part 94 = .ok (.iaload, 1) := by decide +kernel
theorem d_K_SF_part_95 : decode b_K_SF_part 95 = .ok (.invokestatic 169, 3) := by decide +kernel
theorem d_K_SF_part_98 : decode b_K_SF_part 98 = .ok (.invokestatic 173, 3) := by decide +kernel
theorem d_K_SF_part_101 : decode b_K_SF_part 101 = .ok (.ireturn, 1) := by decide +kernel
theorem d_K_SF_part_102 : decode b_K_SF_part 102 = .ok (.aload_n 0, 1) := by decide +kernel
theorem d_K_SF_part_103 : decode b_K_SF_part 103 = .ok (.getfield 21, 3) := by decide +kernel
theorem d_K_SF_part_106 : decode b_K_SF_part 106 = .ok (.getfield 209, 3) := by decide +kernel
theorem d_K_SF_part_109 : decode b_K_SF_part 109 = .ok (.iload_n 1, 1) := by decide +kernel
theorem d_K_SF_part_110 : decode b_K_SF_part 110 = .ok (.iaload, 1) := by decide +kernel
theorem d_K_SF_part_111 : decode b_K_SF_part 111 = .ok (.ireturn, 1) := by decide +kernel
theorem d_K_SF_part_112 : decode b_K_SF_part 112 = .ok (.aload_n 0, 1) := by decide +kernel
theorem d_K_SF_part_113 : decode b_K_SF_part 113 = .ok (.getfield 21, 3) := by decide +kernel
theorem d_K_SF_part_116 : decode b_K_SF_part 116 = .ok (.getfield 205, 3) := by decide +kernel
theorem d_K_SF_part_119 : decode b_K_SF_part 119 = .ok (.iload_n 1, 1) := by decide +kernel
theorem d_K_SF_part_120 : decode b_K_SF_part 120 = .ok (.iaload, 1) := by decide +kernel
theorem d_K_SF_part_121 : decode b_K_SF_part 121 = .ok (.invokestatic 212, 3) := by decide +kernel
theorem d_K_SF_part_124 : decode b_K_SF_part 124 = .ok (.ireturn, 1) := by decide +kernel
theorem d_K_SF_part_125 : decode b_K_SF_part 125 = .ok (.aload_n 0, 1) := by decide +kernel
theorem d_K_SF_part_126 : decode b_K_SF_part 126 = .ok (.getfield 21, 3) := by decide +kernel
theorem d_K_SF_part_129 : decode b_K_SF_part 129 = .ok (.getfield 205, 3) := by decide +kernel
theorem d_K_SF_part_132 : decode b_K_SF_part 132 = .ok (.iload_n 1, 1) := by decide +kernel
theorem d_K_SF_part_133 : decode b_K_SF_part 133 = .ok (.iaload, 1) := by decide +kernel
theorem d_K_SF_part_134 : decode b_K_SF_part 134 = .ok (.invokestatic 215, 3) := by decide +kernel
theorem d_K_SF_part_137 : decode b_K_SF_part 137 = .ok (.ireturn, 1) := by decide +kernel
theorem d_K_SF_part_138 : decode b_K_SF_part 138 = .ok (.aload_n 0, 1) := by decide +kernel
theorem d_K_SF_part_139 : decode b_K_SF_part 139 = .ok (.getfield 21, 3) := by decide +kernel
theorem d_K_SF_part_142 : decode b_K_SF_part 142 = .ok (.getfield 218, 3) := by decide +kernel
theorem d_K_SF_part_145 : decode b_K_SF_part 145 = .ok (.iload_n 1, 1) := by decide +kernel
theorem d_K_SF_part_146 : decode b_K_SF_part 146 = .ok (.iaload, 1) := by decide +kernel
theorem d_K_SF_part_147 : decode b_K_SF_part 147 = .ok (.ireturn, 1) := by decide +kernel
theorem d_K_SF_found_0 : decode b_K_SF_found 0 = .ok (.iload_n 1, 1) := by decide +kernel
theorem d_K_SF_found_1 : decode b_K_SF_found 1 = .ok (.iconst 2, 1) := by decide +kernel
theorem d_K_SF_found_2 : decode b_K_SF_found 2 = .ok (.iconst 5, 1) := by decide +kernel
theorem d_K_SF_found_3 : decode b_K_SF_found 3 = .ok (.invokestatic 87, 3) := by decide +kernel
theorem d_K_SF_found_6 : decode b_K_SF_found 6 = .ok (.ifCond .eq 13, 3) := by decide +kernel
theorem d_K_SF_found_9 : decode b_K_SF_found 9 = .ok (.iload_n 2, 1) := by decide +kernel
theorem d_K_SF_found_10 : decode b_K_SF_found 10 = .ok (.iload_n 3, 1) := by decide +kernel
theorem d_K_SF_found_11 : decode b_K_SF_found 11 = .ok (.iload 4, 2) := by decide +kernel
theorem d_K_SF_found_13 : decode b_K_SF_found 13 = .ok (.invokestatic 131, 3) := by decide +kernel
theorem d_K_SF_found_16 : decode b_K_SF_found 16 = .ok (.ifCond .ne 5, 3) := by decide +kernel
theorem d_K_SF_found_19 : decode b_K_SF_found 19 = .ok (.iconst (-1), 1) := by decide +kernel
theorem d_K_SF_found_20 : decode b_K_SF_found 20 = .ok (.ireturn, 1) := by decide +kernel
theorem d_K_SF_found_21 : decode b_K_SF_found 21 = .ok (.aload_n 0, 1) := by decide +kernel
theorem d_K_SF_found_22 : decode b_K_SF_found 22 = .ok (.invokevirtual 162, 3) := by decide +kernel
theorem d_K_SF_found_25 : decode b_K_SF_found 25 = .ok (.iload 5, 2) := by decide +kernel
theorem d_K_SF_found_27 : decode b_K_SF_found 27 = .ok (.ifCond .eq 13, 3) := by decide +kernel
theorem d_K_SF_found_30 : decode b_K_SF_found 30 = .ok (.aload_n 0, 1) := by decide +kernel
theorem d_K_SF_found_31 : decode b_K_SF_found 31 = .ok (.getfield 62, 3) := by decide +kernel
theorem d_K_SF_found_34 : decode b_K_SF_found 34 = .ok (.getfield 200, 3) := by decide +kernel
theorem d_K_SF_found_37 : decode b_K_SF_found 37 = .ok (.goto 10, 3) := by decide +kernel
theorem d_K_SF_found_40 : decode b_K_SF_found 40 = .ok (.aload_n 0, 1) := by decide +kernel
theorem d_K_SF_found_41 : decode b_K_SF_found 41 = .ok (.getfield 21, 3) := by decide +kernel
theorem d_K_SF_found_44 : decode b_K_SF_found 44 = .ok (.getfield 221, 3) := by decide +kernel
theorem d_K_SF_found_47 : decode b_K_SF_found 47 = .ok (.lstore 6, 2) := by decide +kernel
theorem d_K_SF_found_49 : decode b_K_SF_found 49 = .ok (.aload_n 0, 1) := by decide +kernel
theorem d_K_SF_found_50 : decode b_K_SF_found 50 = .ok (.getfield 21, 3) := by decide +kernel
theorem d_K_SF_found_53 : decode b_K_SF_found 53 = .ok (.iload_n 2, 1) := by decide +kernel
theorem d_K_SF_found_54 : decode b_K_SF_found 54 = .ok (.iload_n 1, 1) := by decide +kernel
theorem d_K_SF_found_55 : decode b_K_SF_found 55 = .ok (.iconst 2, 1) := by decide +kernel
theorem d_K_SF_found_56 : decode b_K_SF_found 56 = .ok (.if_icmp .eq 7, 3) := by decide +kernel
theorem d_K_SF_found_59 : decode b_K_SF_found 59 = .ok (.iconst 1, 1) := by decide +kernel
theorem d_K_SF_found_60 : decode b_K_SF_found 60 = .ok (.goto 4, 3) := by decide +kernel
theorem d_K_SF_found_63 : decode b_K_SF_found 63 = .ok (.iconst 0, 1) := by decide +kernel
theorem d_K_SF_found_64 : decode b_K_SF_found 64 = .ok (.iload_n 3, 1) := by decide +kernel
theorem d_K_SF_found_65 : decode b_K_SF_found 65 = .ok (.iload 4, 2) := by decide +kernel
theorem d_K_SF_found_67 : decode b_K_SF_found 67 = .ok (.invokestatic 109, 3) := by decide +kernel
theorem d_K_SF_found_70 : decode b_K_SF_found 70 = .ok (.lload 6, 2) := by decide +kernel
theorem d_K_SF_found_72 : decode b_K_SF_found 72 = .ok (.invokevirtual 224, 3) := by decide +kernel
theorem d_K_SF_found_75 : decode b_K_SF_found 75 = .ok (.ireturn, 1) := by decide +kernel
theorem d_K_SF_selected_0 : decode b_K_SF_selected 0 = .ok (.iload_n 1, 1) := by decide +kernel
theorem d_K_SF_selected_1 : decode b_K_SF_selected 1 = .ok (.iload_n 2, 1) := by decide +kernel
theorem d_K_SF_selected_2 : decode b_K_SF_selected 2 = .ok (.iload_n 3, 1) := by decide +kernel
theorem d_K_SF_selected_3 : decode b_K_SF_selected 3 = .ok (.invokestatic 131, 3) := by decide +kernel
theorem d_K_SF_selected_6 : decode b_K_SF_selected 6 = .ok (.ifCond .ne 5, 3) := by decide +kernel
theorem d_K_SF_selected_9 : decode b_K_SF_selected 9 = .ok (.iconst (-1), 1) := by decide +kernel
theorem d_K_SF_selected_10 : decode b_K_SF_selected 10 = .ok (.ireturn, 1) := by decide +kernel
theorem d_K_SF_selected_11 : decode b_K_SF_selected 11 = .ok (.aload_n 0, 1) := by decide +kernel
theorem d_K_SF_selected_12 : decode b_K_SF_selected 12 = .ok (.invokevirtual 162, 3) := by decide +kernel
theorem d_K_SF_selected_15 : decode b_K_SF_selected 15 = .ok (.iload 4, 2) := by decide +kernel
theorem d_K_SF_selected_17 : decode b_K_SF_selected 17 = .ok (.ifCond .eq 13, 3) := by decide +kernel
theorem d_K_SF_selected_20 : decode b_K_SF_selected 20 = .ok (.aload_n 0, 1) := by decide +kernel
theorem d_K_SF_selected_21 : decode b_K_SF_selected 21 = .ok (.getfield 62, 3) := by decide +kernel
theorem d_K_SF_selected_24 : decode b_K_SF_selected 24 = .ok (.getfield 200, 3) := by decide +kernel
theorem d_K_SF_selected_27 : decode b_K_SF_selected 27 = .ok (.goto 10, 3) := by decide +kernel
theorem d_K_SF_selected_30 : decode b_K_SF_selected 30 = .ok (.aload_n 0, 1) := by decide +kernel
theorem d_K_SF_selected_31 : decode b_K_SF_selected 31 = .ok (.getfield 21, 3) := by decide +kernel
theorem d_K_SF_selected_34 : decode b_K_SF_selected 34 = .ok (.getfield 221, 3) := by decide +kernel
theorem d_K_SF_selected_37 : decode b_K_SF_selected 37 = .ok (.lstore 5, 2) := by decide +kernel
theorem d_K_SF_selected_39 : decode b_K_SF_selected 39 = .ok (.aload_n 0, 1) := by decide +kernel
theorem d_K_SF_selected_40 : decode b_K_SF_selected 40 = .ok (.getfield 21, 3) := by decide +kernel
theorem d_K_SF_selected_43 : decode b_K_SF_selected 43 = .ok (.iload_n 1, 1) := by decide +kernel
theorem d_K_SF_selected_44 : decode b_K_SF_selected 44 = .ok (.iconst 1, 1) := by decide +kernel
theorem d_K_SF_selected_45 : decode b_K_SF_selected 45 = .ok (.iload_n 2, 1) := by decide +kernel
theorem d_K_SF_selected_46 : decode b_K_SF_selected 46 = .ok (.iload_n 3, 1) := by decide +kernel
theorem d_K_SF_selected_47 : decode b_K_SF_selected 47 = .ok (.invokestatic 109, 3) := by decide +kernel
theorem d_K_SF_selected_50 : decode b_K_SF_selected 50 = .ok (.lload 5, 2) := by decide +kernel
theorem d_K_SF_selected_52 : decode b_K_SF_selected 52 = .ok (.aload_n 0, 1) := by decide +kernel
theorem d_K_SF_selected_53 : decode b_K_SF_selected 53 = .ok (.getfield 21, 3) := by decide +kernel
theorem d_K_SF_selected_56 : decode b_K_SF_selected 56 = .ok (.getfield 228, 3) := by decide +kernel
theorem d_K_SF_selected_59 : decode b_K_SF_selected 59 = .ok (.land, 1) := by decide +kernel
theorem d_K_SF_selected_60 : decode b_K_SF_selected 60 = .ok (.invokevirtual 224, 3) := by decide +kernel
theorem d_K_SF_selected_63 : decode b_K_SF_selected 63 = .ok (.ireturn, 1) := by decide +kernel
theorem d_K_SF_name_0 : decode b_K_SF_name 0 = .ok (.aload_n 0, 1) := by decide +kernel
theorem d_K_SF_name_1 : decode b_K_SF_name 1 = .ok (.invokevirtual 162, 3) := by decide +kernel
theorem d_K_SF_name_4 : decode b_K_SF_name 4 = .ok (.iload_n 1, 1) := by decide +kernel
theorem d_K_SF_name_5 : decode b_K_SF_name 5 = .ok (.ifCond .eq 13, 3) := by decide +kernel
theorem d_K_SF_name_8 : decode b_K_SF_name 8 = .ok (.aload_n 0, 1) := by decide +kernel
theorem d_K_SF_name_9 : decode b_K_SF_name 9 = .ok (.getfield 62, 3) := by decide +kernel
theorem d_K_SF_name_12 : decode b_K_SF_name 12 = .ok (.getfield 200, 3) := by decide +kernel
theorem d_K_SF_name_15 : decode b_K_SF_name 15 = .ok (.goto 10, 3) := by decide +kernel
theorem d_K_SF_name_18 : decode b_K_SF_name 18 = .ok (.aload_n 0, 1) := by decide +kernel
theorem d_K_SF_name_19 : decode b_K_SF_name 19 = .ok (.getfield 62, 3) := by decide +kernel
theorem d_K_SF_name_22 : decode b_K_SF_name 22 = .ok (.getfield 165, 3) := by decide +kernel
theorem d_K_SF_name_25 : decode b_K_SF_name 25 = .ok (.iload_n 2, 1) := by decide +kernel
theorem d_K_SF_name_26 : decode b_K_SF_name 26 = .ok (.invokestatic 169, 3) := by decide +kernel
theorem d_K_SF_name_29 : decode b_K_SF_name 29 = .ok (.ifCond .ne 6, 3) := by decide +kernel
theorem d_K_SF_name_32 : decode b_K_SF_name 32 = .ok (.bipush (-2), 2) := by decide +kernel
theorem d_K_SF_name_34 : decode b_K_SF_name 34 = .ok (.ireturn, 1) := by decide +kernel
theorem d_K_SF_name_35 : decode b_K_SF_name 35 = .ok (.aload_n 0, 1) := by decide +kernel
theorem d_K_SF_name_36 : decode b_K_SF_name 36 = .ok (.getfield 84, 3) := by decide +kernel
theorem d_K_SF_name_39 : decode b_K_SF_name 39 = .ok (.invokevirtual 148, 3) := by decide +kernel
theorem d_K_SF_name_42 : decode b_K_SF_name 42 = .ok (.iload_n 1, 1) := by decide +kernel
theorem d_K_SF_name_43 : decode b_K_SF_name 43 = .ok (.ifCond .eq 26, 3) := by decide +kernel
theorem d_K_SF_name_46 : decode b_K_SF_name 46 = .ok (.aload_n 0, 1) := by decide +kernel
theorem d_K_SF_name_47 : decode b_K_SF_name 47 = .ok (.getfield 71, 3) := by decide +kernel
theorem d_K_SF_name_50 : decode b_K_SF_name 50 = .ok (.aload_n 0, 1) := by decide +kernel
theorem d_K_SF_name_51 : decode b_K_SF_name 51 = .ok (.getfield 84, 3) := by decide +kernel
theorem d_K_SF_name_54 : decode b_K_SF_name 54 = .ok (.aload_n 0, 1) := by decide +kernel
theorem d_K_SF_name_55 : decode b_K_SF_name 55 = .ok (.getfield 21, 3) := by decide +kernel
theorem d_K_SF_name_58 : decode b_K_SF_name 58 = .ok (.getfield 205, 3) := by decide +kernel
theorem d_K_SF_name_61 : decode b_K_SF_name 61 = .ok (.iload_n 2, 1) := by decide +kernel
theorem d_K_SF_name_62 : decode b_K_SF_name 62 = .ok (.iaload, 1) := by decide +kernel
theorem d_K_SF_name_63 : decode b_K_SF_name 63 = .ok (.invokevirtual 231, 3) := by decide +kernel
theorem d_K_SF_name_66 : decode b_K_SF_name 66 = .ok (.goto 15, 3) := by decide +kernel
theorem d_K_SF_name_69 : decode b_K_SF_name 69 = .ok (.aload_n 0, 1) := by decide +kernel
theorem d_K_SF_name_70 : decode b_K_SF_name 70 = .ok (.getfield 71, 3) := by decide +kernel
theorem d_K_SF_name_73 : decode b_K_SF_name 73 = .ok (.aload_n 0, 1) := by decide +kernel
theorem d_K_SF_name_74 : decode b_K_SF_name 74 = .ok (.getfield 84, 3) := by decide +kernel
theorem d_K_SF_name_77 : decode b_K_SF_name 77 = .ok (.iload_n 2, 1) := by decide +kernel
theorem d_K_SF_name_78 : decode b_K_SF_name 78 = .ok (.invokevirtual 235, 3) := by decide +kernel
theorem d_K_SF_name_81 : decode b_K_SF_name 81 = .ok (.aload_n 0, 1) := by decide +kernel
theorem d_K_SF_name_82 : decode b_K_SF_name 82 = .ok (.getfield 84, 3) := by decide +kernel
theorem d_K_SF_name_85 : decode b_K_SF_name 85 = .ok (.iload_n 3, 1) := by decide +kernel
theorem d_K_SF_name_86 : decode b_K_SF_name 86 = .ok (.invokevirtual 238, 3) := by decide +kernel
theorem d_K_SF_name_89 : decode b_K_SF_name 89 = .ok (.ireturn, 1) := by decide +kernel
theorem d_K_SF_mapping_0 : decode b_K_SF_mapping 0 = .ok (.aload_n 0, 1) := by decide +kernel
theorem d_K_SF_mapping_1 : decode b_K_SF_mapping 1 = .ok (.invokevirtual 162, 3) := by decide +kernel
theorem d_K_SF_mapping_4 : decode b_K_SF_mapping 4 = .ok (.aload_n 0, 1) := by decide +kernel
theorem d_K_SF_mapping_5 : decode b_K_SF_mapping 5 = .ok (.getfield 80, 3) := by decide +kernel
theorem d_K_SF_mapping_8 : decode b_K_SF_mapping 8 = .ok (.invokevirtual 241, 3) := by decide +kernel
theorem d_K_SF_mapping_11 : decode b_K_SF_mapping 11 = .ok (.aload_n 0, 1) := by decide +kernel
theorem d_K_SF_mapping_12 : decode b_K_SF_mapping 12 = .ok (.getfield 80, 3) := by decide +kernel
theorem d_K_SF_mapping_15 : decode b_K_SF_mapping 15 = .ok (.getfield 244, 3) := by decide +kernel
theorem d_K_SF_mapping_18 : decode b_K_SF_mapping 18 = .ok (.iload_n 1, 1) := by decide +kernel
theorem d_K_SF_mapping_19 : decode b_K_SF_mapping 19 = .ok (.invokevirtual 238, 3) := by decide +kernel
theorem d_K_SF_mapping_22 : decode b_K_SF_mapping 22 = .ok (.ireturn, 1) := by decide +kernel
theorem d_K_SF_classNamedByDraft_0 : decode b_K_SF_classNamedByDraft 0 = .ok (.iconst 0, 1) := by decide +kernel
theorem d_K_SF_classNamedByDraft_1 : decode b_K_SF_classNamedByDraft 1 = .ok (.istore_n 1, 1) := by decide +kernel
theorem d_K_SF_classNamedByDraft_2 : decode b_K_SF_classNamedByDraft 2 = .ok (.iload_n 1, 1) := by decide +kernel
theorem d_K_SF_classNamedByDraft_3 : decode b_K_SF_classNamedByDraft 3 = .ok (.bipush 10, 2) := by decide +kernel
theorem d_K_SF_classNamedByDraft_5 : decode b_K_SF_classNamedByDraft 5 = .ok (.if_icmp .ge 58, 3) := by decide +kernel
theorem d_K_SF_classNamedByDraft_8 : decode b_K_SF_classNamedByDraft 8 = .ok (.aload_n 0, 1) := by decide +kernel
theorem d_K_SF_classNamedByDraft_9 : decode b_K_SF_classNamedByDraft 9 = .ok (.getfield 62, 3) := by decide +kernel
theorem d_K_SF_classNamedByDraft_12 : decode b_K_SF_classNamedByDraft 12 = .ok (.getfield 165, 3) := by decide +kernel
theorem d_K_SF_classNamedByDraft_15 : decode b_K_SF_classNamedByDraft 15 = .ok (.iload_n 1, 1) := by decide +kernel
theorem d_K_SF_classNamedByDraft_16 : decode b_K_SF_classNamedByDraft 16 = .ok (.invokestatic 169, 3) := by decide +kernel
theorem d_K_SF_classNamedByDraft_19 : decode b_K_SF_classNamedByDraft 19 = .ok (.ifCond .eq 38, 3) := by decide +kernel
theorem d_K_SF_classNamedByDraft_22 : decode b_K_SF_classNamedByDraft 22 = .ok (.aload_n 0, 1) := by decide +kernel
theorem d_K_SF_classNamedByDraft_23 : decode b_K_SF_classNamedByDraft 23 = .ok (.getfield 84, 3) := by decide +kernel
theorem d_K_SF_classNamedByDraft_26 : decode b_K_SF_classNamedByDraft 26 = .ok (.invokevirtual 148, 3) := by decide +kernel
theorem d_K_SF_classNamedByDraft_29 : decode b_K_SF_classNamedByDraft 29 = .ok (.aload_n 0, 1) := by decide +kernel
theorem d_K_SF_classNamedByDraft_30 : decode b_K_SF_classNamedByDraft 30 = .ok (.getfield 71, 3) := by decide +kernel
theorem d_K_SF_classNamedByDraft_33 : decode b_K_SF_classNamedByDraft 33 = .ok (.aload_n 0, 1) := by decide +kernel
theorem d_K_SF_classNamedByDraft_34 : decode b_K_SF_classNamedByDraft 34 = .ok (.getfield 84, 3) := by decide +kernel
theorem d_K_SF_classNamedByDraft_37 : decode b_K_SF_classNamedByDraft 37 = .ok (.iload_n 1, 1) := by decide +kernel
theorem d_K_SF_classNamedByDraft_38 : decode b_K_SF_classNamedByDraft 38 = .ok (.invokevirtual 235, 3) := by decide +kernel
theorem d_K_SF_classNamedByDraft_41 : decode b_K_SF_classNamedByDraft 41 = .ok (.aload_n 0, 1) := by decide +kernel
theorem d_K_SF_classNamedByDraft_42 : decode b_K_SF_classNamedByDraft 42 = .ok (.getfield 84, 3) := by decide +kernel
theorem d_K_SF_classNamedByDraft_45 : decode b_K_SF_classNamedByDraft 45 = .ok (.aload_n 0, 1) := by decide +kernel
theorem d_K_SF_classNamedByDraft_46 : decode b_K_SF_classNamedByDraft 46 = .ok (.getfield 37, 3) := by decide +kernel
theorem d_K_SF_classNamedByDraft_49 : decode b_K_SF_classNamedByDraft 49 = .ok (.invokevirtual 274, 3) := by decide +kernel
theorem d_K_SF_classNamedByDraft_52 : decode b_K_SF_classNamedByDraft 52 = .ok (.ifCond .eq 5, 3) := by decide +kernel
theorem d_K_SF_classNamedByDraft_55 : decode b_K_SF_classNamedByDraft 55 = .ok (.iload_n 1, 1) := by decide +kernel
theorem d_K_SF_classNamedByDraft_56 : decode b_K_SF_classNamedByDraft 56 = .ok (.ireturn, 1) := by decide +kernel
theorem d_K_SF_classNamedByDraft_57 : decode b_K_SF_classNamedByDraft 57 = .ok (.iinc 1 1, 3) := by decide +kernel
theorem d_K_SF_classNamedByDraft_60 : decode b_K_SF_classNamedByDraft 60 = .ok (.goto (-58), 3) := by decide +kernel
theorem d_K_SF_classNamedByDraft_63 : decode b_K_SF_classNamedByDraft 63 = .ok (.bipush (-2), 2) := by decide +kernel
theorem d_K_SF_classNamedByDraft_65 : decode b_K_SF_classNamedByDraft 65 = .ok (.ireturn, 1) := by decide +kernel
theorem d_K_SF_memberWithText_0 : decode b_K_SF_memberWithText 0 = .ok (.iconst 0, 1) := by decide +kernel
theorem d_K_SF_memberWithText_1 : decode b_K_SF_memberWithText 1 = .ok (.istore 5, 2) := by decide +kernel
theorem d_K_SF_memberWithText_3 : decode b_K_SF_memberWithText 3 = .ok (.iload 5, 2) := by decide +kernel
theorem d_K_SF_memberWithText_5 : decode b_K_SF_memberWithText 5 = .ok (.bipush 8, 2) := by decide +kernel
theorem d_K_SF_memberWithText_7 : decode b_K_SF_memberWithText 7 = .ok (.if_icmp .ge 81, 3) := by decide +kernel
theorem d_K_SF_memberWithText_10 : decode b_K_SF_memberWithText 10 = .ok (.iload 4, 2) := by decide +kernel
theorem d_K_SF_memberWithText_12 : decode b_K_SF_memberWithText 12 = .ok (.iload 5, 2) := by decide +kernel
theorem d_K_SF_memberWithText_14 : decode b_K_SF_memberWithText 14 = .ok (.iload_n 3, 1) := by decide +kernel
theorem d_K_SF_memberWithText_15 : decode b_K_SF_memberWithText 15 = .ok (.invokestatic 109, 3) := by decide +kernel
theorem d_K_SF_memberWithText_18 : decode b_K_SF_memberWithText 18 = .ok (.istore 6, 2) := by decide +kernel
theorem d_K_SF_memberWithText_20 : decode b_K_SF_memberWithText 20 = .ok (.aload_n 0, 1) := by decide +kernel
theorem d_K_SF_memberWithText_21 : decode b_K_SF_memberWithText 21 = .ok (.getfield 21, 3) := by decide +kernel
theorem d_K_SF_memberWithText_24 : decode b_K_SF_memberWithText 24 = .ok (.iload_n 1, 1) := by decide +kernel
theorem d_K_SF_memberWithText_25 : decode b_K_SF_memberWithText 25 = .ok (.iload 6, 2) := by decide +kernel
theorem d_K_SF_memberWithText_27 : decode b_K_SF_memberWithText 27 = .ok (.invokevirtual 113, 3) := by decide +kernel
theorem d_K_SF_memberWithText_30 : decode b_K_SF_memberWithText 30 = .ok (.istore 7, 2) := by decide +kernel
theorem d_K_SF_memberWithText_32 : decode b_K_SF_memberWithText 32 = .ok (.aload_n 0, 1) := by decide +kernel
theorem d_K_SF_memberWithText_33 : decode b_K_SF_memberWithText 33 = .ok (.getfield 62, 3) := by decide +kernel
theorem d_K_SF_memberWithText_36 : decode b_K_SF_memberWithText 36 = .ok (.getfield 200, 3) := by decide +kernel
theorem d_K_SF_memberWithText_39 : decode b_K_SF_memberWithText 39 = .ok (.iload 7, 2) := by decide +kernel
theorem d_K_SF_memberWithText_41 : decode b_K_SF_memberWithText 41 = .ok (.invokestatic 169, 3) := by decide +kernel
theorem d_K_SF_memberWithText_44 : decode b_K_SF_memberWithText 44 = .ok (.ifCond .eq 38, 3) := by decide +kernel
theorem d_K_SF_memberWithText_47 : decode b_K_SF_memberWithText 47 = .ok (.aload_n 0, 1) := by decide +kernel
theorem d_K_SF_memberWithText_48 : decode b_K_SF_memberWithText 48 = .ok (.getfield 84, 3) := by decide +kernel
theorem d_K_SF_memberWithText_51 : decode b_K_SF_memberWithText 51 = .ok (.invokevirtual 148, 3) := by decide +kernel
theorem d_K_SF_memberWithText_54 : decode b_K_SF_memberWithText 54 = .ok (.aload_n 0, 1) := by decide +kernel
theorem d_K_SF_memberWithText_55 : decode b_K_SF_memberWithText 55 = .ok (.getfield 71, 3) := by decide +kernel
theorem d_K_SF_memberWithText_58 : decode b_K_SF_memberWithText 58 = .ok (.aload_n 0, 1) := by decide +kernel
theorem d_K_SF_memberWithText_59 : decode b_K_SF_memberWithText 59 = .ok (.getfield 84, 3) := by decide +kernel
theorem d_K_SF_memberWithText_62 : decode b_K_SF_memberWithText 62 = .ok (.iload 6, 2) := by decide +kernel
theorem d_K_SF_memberWithText_64 : decode b_K_SF_memberWithText 64 = .ok (.invokevirtual 231, 3) := by decide +kernel
theorem d_K_SF_memberWithText_67 : decode b_K_SF_memberWithText 67 = .ok (.aload_n 0, 1) := by decide +kernel
theorem d_K_SF_memberWithText_68 : decode b_K_SF_memberWithText 68 = .ok (.getfield 84, 3) := by decide +kernel
theorem d_K_SF_memberWithText_71 : decode b_K_SF_memberWithText 71 = .ok (.iconst 0, 1) := by decide +kernel
theorem d_K_SF_memberWithText_72 : decode b_K_SF_memberWithText 72 = .ok (.invokevirtual 238, 3) := by decide +kernel
theorem d_K_SF_memberWithText_75 : decode b_K_SF_memberWithText 75 = .ok (.iload_n 2, 1) := by decide +kernel
theorem d_K_SF_memberWithText_76 : decode b_K_SF_memberWithText 76 = .ok (.if_icmp .ne 6, 3) := by decide +kernel
theorem d_K_SF_memberWithText_79 : decode b_K_SF_memberWithText 79 = .ok (.iload 7, 2) := by decide +kernel
theorem d_K_SF_memberWithText_81 : decode b_K_SF_memberWithText 81 = .ok (.ireturn, 1) := by decide +kernel
theorem d_K_SF_memberWithText_82 : decode b_K_SF_memberWithText 82 = .ok (.iinc 5 1, 3) := by decide +kernel
theorem d_K_SF_memberWithText_85 : decode b_K_SF_memberWithText 85 = .ok (.goto (-82), 3) := by decide +kernel
theorem d_K_SF_memberWithText_88 : decode b_K_SF_memberWithText 88 = .ok (.bipush (-2), 2) := by decide +kernel
theorem d_K_SF_memberWithText_90 : decode b_K_SF_memberWithText 90 = .ok (.ireturn, 1) := by decide +kernel
theorem d_K_SF_trace_0 : decode b_K_SF_trace 0 = .ok (.iload_n 1, 1) := by decide +kernel
theorem d_K_SF_trace_1 : decode b_K_SF_trace 1 = .ok (.ifCond .eq 14, 3) := by decide +kernel
theorem d_K_SF_trace_4 : decode b_K_SF_trace 4 = .ok (.iload_n 1, 1) := by decide +kernel
theorem d_K_SF_trace_5 : decode b_K_SF_trace 5 = .ok (.bipush 97, 2) := by decide +kernel
theorem d_K_SF_trace_7 : decode b_K_SF_trace 7 = .ok (.bipush 122, 2) := by decide +kernel
theorem d_K_SF_trace_9 : decode b_K_SF_trace 9 = .ok (.invokestatic 87, 3) := by decide +kernel
theorem d_K_SF_trace_12 : decode b_K_SF_trace 12 = .ok (.ifCond .eq 12, 3) := by decide +kernel
theorem d_K_SF_trace_15 : decode b_K_SF_trace 15 = .ok (.iload_n 2, 1) := by decide +kernel
theorem d_K_SF_trace_16 : decode b_K_SF_trace 16 = .ok (.iconst 0, 1) := by decide +kernel
theorem d_K_SF_trace_17 : decode b_K_SF_trace 17 = .ok (.iconst 1, 1) := by decide +kernel
theorem d_K_SF_trace_18 : decode b_K_SF_trace 18 = .ok (.invokestatic 87, 3) := by decide +kernel
theorem d_K_SF_trace_21 : decode b_K_SF_trace 21 = .ok (.ifCond .ne 5, 3) := by decide +kernel
theorem d_K_SF_trace_24 : decode b_K_SF_trace 24 = .ok (.iconst (-1), 1) := by decide +kernel
theorem d_K_SF_trace_25 : decode b_K_SF_trace 25 = .ok (.ireturn, 1) := by decide +kernel
theorem d_K_SF_trace_26 : decode b_K_SF_trace 26 = .ok (.aload_n 0, 1) := by decide +kernel
theorem d_K_SF_trace_27 : decode b_K_SF_trace 27 = .ok (.invokevirtual 162, 3) := by decide +kernel
theorem d_K_SF_trace_30 : decode b_K_SF_trace 30 = .ok (.aload_n 0, 1) := by decide +kernel
theorem d_K_SF_trace_31 : decode b_K_SF_trace 31 = .ok (.invokevirtual 247, 3) := by decide +kernel
theorem d_K_SF_trace_34 : decode b_K_SF_trace 34 = .ok (.istore 4, 2) := by decide +kernel
theorem d_K_SF_trace_36 : decode b_K_SF_trace 36 = .ok (.iload 4, 2) := by decide +kernel
theorem d_K_SF_trace_38 : decode b_K_SF_trace 38 = .ok (.bipush (-2), 2) := by decide +kernel
theorem d_K_SF_trace_40 : decode b_K_SF_trace 40 = .ok (.if_icmp .eq 7, 3) := by decide +kernel
theorem d_K_SF_trace_43 : decode b_K_SF_trace 43 = .ok (.iload_n 1, 1) := by decide +kernel
theorem d_K_SF_trace_44 : decode b_K_SF_trace 44 = .ok (.ifCond .ne 6, 3) := by decide +kernel
theorem d_K_SF_trace_47 : decode b_K_SF_trace 47 = .ok (.iload 4, 2) := by decide +kernel
theorem d_K_SF_trace_49 : decode b_K_SF_trace 49 = .ok (.ireturn, 1) := by decide +kernel
theorem d_K_SF_trace_50 : decode b_K_SF_trace 50 = .ok (.aload_n 0, 1) := by decide +kernel
theorem d_K_SF_trace_51 : decode b_K_SF_trace 51 = .ok (.iload 4, 2) := by decide +kernel
theorem d_K_SF_trace_53 : decode b_K_SF_trace 53 = .ok (.iload_n 1, 1) := by decide +kernel
theorem d_K_SF_trace_54 : decode b_K_SF_trace 54 = .ok (.iload_n 2, 1) := by decide +kernel
theorem d_K_SF_trace_55 : decode b_K_SF_trace 55 = .ok (.iload_n 3, 1) := by decide +kernel
theorem d_K_SF_trace_56 : decode b_K_SF_trace 56 = .ok (.invokevirtual 250, 3) := by decide +kernel
theorem d_K_SF_trace_59 : decode b_K_SF_trace 59 = .ok (.ireturn, 1) := by decide +kernel
theorem d_K_SF_count_0 : decode b_K_SF_count 0 = .ok (.iload_n 1, 1) := by decide +kernel
theorem d_K_SF_count_1 : decode b_K_SF_count 1 = .ok (.iconst 0, 1) := by decide +kernel
theorem d_K_SF_count_2 : decode b_K_SF_count 2 = .ok (.bipush 9, 2) := by decide +kernel
theorem d_K_SF_count_4 : decode b_K_SF_count 4 = .ok (.invokestatic 87, 3) := by decide +kernel
theorem d_K_SF_count_7 : decode b_K_SF_count 7 = .ok (.ifCond .ne 5, 3) := by decide +kernel
theorem d_K_SF_count_10 : decode b_K_SF_count 10 = .ok (.iconst (-1), 1) := by decide +kernel
theorem d_K_SF_count_11 : decode b_K_SF_count 11 = .ok (.ireturn, 1) := by decide +kernel
theorem d_K_SF_count_12 : decode b_K_SF_count 12 = .ok (.aload_n 0, 1) := by decide +kernel
theorem d_K_SF_count_13 : decode b_K_SF_count 13 = .ok (.invokevirtual 162, 3) := by decide +kernel
theorem d_K_SF_count_16 : decode b_K_SF_count 16 = .ok (.iload_n 1, 1) := by decide +kernel
theorem d_K_SF_count_17 : decode b_K_SF_count 17 = .ok (.tableswitch 141 0 8 #[51, 62, 73, 81, 89, 100, 111, 122, 133], 51) := by decide +kernel
theorem d_K_SF_count_68 : decode b_K_SF_count 68 = .ok (.aload_n 0, 1) := by decide +kernel
theorem d_K_SF_count_69 : decode b_K_SF_count 69 = .ok (.getfield 12, 3) := by decide +kernel
theorem d_K_SF_count_72 : decode b_K_SF_count 72 = .ok (.getfield 254, 3) := by decide +kernel
theorem d_K_SF_count_75 : decode b_K_SF_count 75 = .ok (.invokestatic 190, 3) := by decide +kernel
theorem d_K_SF_count_78 : decode b_K_SF_count 78 = .ok (.ireturn, 1) := by decide +kernel
theorem d_K_SF_count_79 : decode b_K_SF_count 79 = .ok (.aload_n 0, 1) := by decide +kernel
theorem d_K_SF_count_80 : decode b_K_SF_count 80 = .ok (.getfield 21, 3) := by decide +kernel
theorem d_K_SF_count_83 : decode b_K_SF_count 83 = .ok (.getfield 221, 3) := by decide +kernel
theorem d_K_SF_count_86 : decode b_K_SF_count 86 = .ok (.invokestatic 190, 3) := by decide +kernel
theorem d_K_SF_count_89 : decode b_K_SF_count 89 = .ok (.ireturn, 1) := by decide +kernel
theorem d_K_SF_count_90 : decode b_K_SF_count 90 = .ok (.aload_n 0, 1) := by decide +kernel
theorem d_K_SF_count_91 : decode b_K_SF_count 91 = .ok (.getfield 28, 3) := by decide +kernel
theorem d_K_SF_count_94 : decode b_K_SF_count 94 = .ok (.getfield 161, 3) := by decide +kernel
theorem d_K_SF_count_97 : decode b_K_SF_count 97 = .ok (.ireturn, 1) := by decide +kernel
theorem d_K_SF_count_98 : decode b_K_SF_count 98 = .ok (.aload_n 0, 1) := by decide +kernel
theorem d_K_SF_count_99 : decode b_K_SF_count 99 = .ok (.getfield 53, 3) := by decide +kernel
theorem d_K_SF_count_102 : decode b_K_SF_count 102 = .ok (.getfield 154, 3) := by decide +kernel
theorem d_K_SF_count_105 : decode b_K_SF_count 105 = .ok (.ireturn, 1) := by decide +kernel
theorem d_K_SF_count_106 : decode b_K_SF_count 106 = .ok (.aload_n 0, 1) := by decide +kernel
theorem d_K_SF_count_107 : decode b_K_SF_count 107 = .ok (.getfield 62, 3) := by decide +kernel
theorem d_K_SF_count_110 : decode b_K_SF_count 110 = .ok (.getfield 165, 3) := by decide +kernel
theorem d_K_SF_count_113 : decode b_K_SF_count 113 = .ok (.invokestatic 190, 3) := by decide +kernel
theorem d_K_SF_count_116 : decode b_K_SF_count 116 = .ok (.ireturn, 1) := by decide +kernel
theorem d_K_SF_count_117 : decode b_K_SF_count 117 = .ok (.aload_n 0, 1) := by decide +kernel
theorem d_K_SF_count_118 : decode b_K_SF_count 118 = .ok (.getfield 62, 3) := by decide +kernel
theorem d_K_SF_count_121 : decode b_K_SF_count 121 = .ok (.getfield 177, 3) := by decide +kernel
theorem d_K_SF_count_124 : decode b_K_SF_count 124 = .ok (.invokestatic 190, 3) := by decide +kernel
theorem d_K_SF_count_127 : decode b_K_SF_count 127 = .ok (.ireturn, 1) := by decide +kernel
theorem d_K_SF_count_128 : decode b_K_SF_count 128 = .ok (.aload_n 0, 1) := by decide +kernel
theorem d_K_SF_count_129 : decode b_K_SF_count 129 = .ok (.getfield 62, 3) := by decide +kernel
theorem d_K_SF_count_132 : decode b_K_SF_count 132 = .ok (.getfield 180, 3) := by decide +kernel
theorem d_K_SF_count_135 : decode b_K_SF_count 135 = .ok (.invokestatic 190, 3) := by decide +kernel
theorem d_K_SF_count_138 : decode b_K_SF_count 138 = .ok (.ireturn, 1) := by decide +kernel
theorem d_K_SF_count_139 : decode b_K_SF_count 139 = .ok (.aload_n 0, 1) := by decide +kernel
theorem d_K_SF_count_140 : decode b_K_SF_count 140 = .ok (.getfield 62, 3) := by decide +kernel
theorem d_K_SF_count_143 : decode b_K_SF_count 143 = .ok (.getfield 200, 3) := by decide +kernel
theorem d_K_SF_count_146 : decode b_K_SF_count 146 = .ok (.invokestatic 190, 3) := by decide +kernel
theorem d_K_SF_count_149 : decode b_K_SF_count 149 = .ok (.ireturn, 1) := by decide +kernel
theorem d_K_SF_count_150 : decode b_K_SF_count 150 = .ok (.aload_n 0, 1) := by decide +kernel
theorem d_K_SF_count_151 : decode b_K_SF_count 151 = .ok (.getfield 62, 3) := by decide +kernel
theorem d_K_SF_count_154 : decode b_K_SF_count 154 = .ok (.invokevirtual 257, 3) := by decide +kernel
theorem d_K_SF_count_157 : decode b_K_SF_count 157 = .ok (.ireturn, 1) := by decide +kernel
theorem d_K_SF_count_158 : decode b_K_SF_count 158 = .ok (.aload_n 0, 1) := by decide +kernel
theorem d_K_SF_count_159 : decode b_K_SF_count 159 = .ok (.getfield 62, 3) := by decide +kernel
theorem d_K_SF_count_162 : decode b_K_SF_count 162 = .ok (.invokevirtual 260, 3) := by decide +kernel
theorem d_K_SF_count_165 : decode b_K_SF_count 165 = .ok (.ireturn, 1) := by decide +kernel
