theorem d_M_isUsed_0 : decode b_M_isUsed 0 = .ok (.iconst 0, 1) := by decide +kernel
theorem d_M_isUsed_1 : decode b_M_isUsed 1 = .ok (.istore 4, 2) := by decide +kernel
theorem d_M_isUsed_3 : decode b_M_isUsed 3 = .ok (.iload 4, 2) := by decide +kernel
theorem d_M_isUsed_5 : decode b_M_isUsed 5 = .ok (.aload_n 0, 1) := by decide +kernel
theorem d_M_isUsed_6 : decode b_M_isUsed 6 = .ok (.getfield 47, 3) := by decide +kernel
theorem d_M_isUsed_9 : decode b_M_isUsed 9 = .ok (.if_icmp .ge 66, 3) := by decide +kernel
theorem d_M_isUsed_12 : decode b_M_isUsed 12 = .ok (.aload_n 0, 1) := by decide +kernel
theorem d_M_isUsed_13 : decode b_M_isUsed 13 = .ok (.getfield 44, 3) := by decide +kernel
theorem d_M_isUsed_16 : decode b_M_isUsed 16 = .ok (.iload 4, 2) := by decide +kernel
theorem d_M_isUsed_18 : decode b_M_isUsed 18 = .ok (.baload, 1) := by decide +kernel
theorem d_M_isUsed_19 : decode b_M_isUsed 19 = .ok (.ifCond .ne 50, 3) := by decide +kernel
theorem d_M_isUsed_22 : decode b_M_isUsed 22 = .ok (.aload_n 0, 1) := by decide +kernel
theorem d_M_isUsed_23 : decode b_M_isUsed 23 = .ok (.getfield 126, 3) := by decide +kernel
theorem d_M_isUsed_26 : decode b_M_isUsed 26 = .ok (.iload 4, 2) := by decide +kernel
theorem d_M_isUsed_28 : decode b_M_isUsed 28 = .ok (.baload, 1) := by decide +kernel
theorem d_M_isUsed_29 : decode b_M_isUsed 29 = .ok (.ifCond .eq 40, 3) := by decide +kernel
theorem d_M_isUsed_32 : decode b_M_isUsed 32 = .ok (.aload_n 0, 1) := by decide +kernel
theorem d_M_isUsed_33 : decode b_M_isUsed 33 = .ok (.getfield 41, 3) := by decide +kernel
theorem d_M_isUsed_36 : decode b_M_isUsed 36 = .ok (.iload 4, 2) := by decide +kernel
theorem d_M_isUsed_38 : decode b_M_isUsed 38 = .ok (.iaload, 1) := by decide +kernel
theorem d_M_isUsed_39 : decode b_M_isUsed 39 = .ok (.iconst 1, 1) := by decide +kernel
theorem d_M_isUsed_40 : decode b_M_isUsed 40 = .ok (.iand, 1) := by decide +kernel
theorem d_M_isUsed_41 : decode b_M_isUsed 41 = .ok (.iload_n 1, 1) := by decide +kernel
theorem d_M_isUsed_42 : decode b_M_isUsed 42 = .ok (.if_icmp .ne 27, 3) := by decide +kernel
theorem d_M_isUsed_45 : decode b_M_isUsed 45 = .ok (.aload_n 0, 1) := by decide +kernel
theorem d_M_isUsed_46 : decode b_M_isUsed 46 = .ok (.getfield 35, 3) := by decide +kernel
theorem d_M_isUsed_49 : decode b_M_isUsed 49 = .ok (.iload 4, 2) := by decide +kernel
theorem d_M_isUsed_51 : decode b_M_isUsed 51 = .ok (.iaload, 1) := by decide +kernel
theorem d_M_isUsed_52 : decode b_M_isUsed 52 = .ok (.iload_n 2, 1) := by decide +kernel
theorem d_M_isUsed_53 : decode b_M_isUsed 53 = .ok (.if_icmp .ne 16, 3) := by decide +kernel
theorem d_M_isUsed_56 : decode b_M_isUsed 56 = .ok (.aload_n 0, 1) := by decide +kernel
theorem d_M_isUsed_57 : decode b_M_isUsed 57 = .ok (.getfield 38, 3) := by decide +kernel
theorem d_M_isUsed_60 : decode b_M_isUsed 60 = .ok (.iload 4, 2) := by decide +kernel
theorem d_M_isUsed_62 : decode b_M_isUsed 62 = .ok (.iaload, 1) := by decide +kernel
theorem d_M_isUsed_63 : decode b_M_isUsed 63 = .ok (.iload_n 3, 1) := by decide +kernel
theorem d_M_isUsed_64 : decode b_M_isUsed 64 = .ok (.if_icmp .ne 5, 3) := by decide +kernel
theorem d_M_isUsed_67 : decode b_M_isUsed 67 = .ok (.iconst 1, 1) := by decide +kernel
theorem d_M_isUsed_68 : decode b_M_isUsed 68 = .ok (.ireturn, 1) := by decide +kernel
theorem d_M_isUsed_69 : decode b_M_isUsed 69 = .ok (.iinc 4 1, 3) := by decide +kernel
theorem d_M_isUsed_72 : decode b_M_isUsed 72 = .ok (.goto (-69), 3) := by decide +kernel
theorem d_M_isUsed_75 : decode b_M_isUsed 75 = .ok (.iconst 0, 1) := by decide +kernel
theorem d_M_isUsed_76 : decode b_M_isUsed 76 = .ok (.ireturn, 1) := by decide +kernel
theorem d_M_newName_0 : decode b_M_newName 0 = .ok (.aload_n 0, 1) := by decide +kernel
theorem d_M_newName_1 : decode b_M_newName 1 = .ok (.iload_n 1, 1) := by decide +kernel
theorem d_M_newName_2 : decode b_M_newName 2 = .ok (.invokevirtual 265, 3) := by decide +kernel
theorem d_M_newName_5 : decode b_M_newName 5 = .ok (.istore_n 2, 1) := by decide +kernel
theorem d_M_newName_6 : decode b_M_newName 6 = .ok (.iload_n 2, 1) := by decide +kernel
theorem d_M_newName_7 : decode b_M_newName 7 = .ok (.ifCond .eq 9, 3) := by decide +kernel
theorem d_M_newName_10 : decode b_M_newName 10 = .ok (.aload_n 0, 1) := by decide +kernel
theorem d_M_newName_11 : decode b_M_newName 11 = .ok (.iload_n 1, 1) := by decide +kernel
theorem d_M_newName_12 : decode b_M_newName 12 = .ok (.invokevirtual 202, 3) := by decide +kernel
theorem d_M_newName_15 : decode b_M_newName 15 = .ok (.return_, 1) := by decide +kernel
theorem d_M_newName_16 : decode b_M_newName 16 = .ok (.iconst 0, 1) := by decide +kernel
theorem d_M_newName_17 : decode b_M_newName 17 = .ok (.istore_n 3, 1) := by decide +kernel
theorem d_M_newName_18 : decode b_M_newName 18 = .ok (.iconst 1, 1) := by decide +kernel
theorem d_M_newName_19 : decode b_M_newName 19 = .ok (.istore 4, 2) := by decide +kernel
theorem d_M_newName_21 : decode b_M_newName 21 = .ok (.iload 4, 2) := by decide +kernel
theorem d_M_newName_23 : decode b_M_newName 23 = .ok (.iload_n 1, 1) := by decide +kernel
theorem d_M_newName_24 : decode b_M_newName 24 = .ok (.if_icmp .ge 35, 3) := by decide +kernel
theorem d_M_newName_27 : decode b_M_newName 27 = .ok (.aload_n 0, 1) := by decide +kernel
theorem d_M_newName_28 : decode b_M_newName 28 = .ok (.iload 4, 2) := by decide +kernel
theorem d_M_newName_30 : decode b_M_newName 30 = .ok (.invokevirtual 265, 3) := by decide +kernel
theorem d_M_newName_33 : decode b_M_newName 33 = .ok (.istore 5, 2) := by decide +kernel
theorem d_M_newName_35 : decode b_M_newName 35 = .ok (.aload_n 0, 1) := by decide +kernel
theorem d_M_newName_36 : decode b_M_newName 36 = .ok (.getfield 117, 3) := by decide +kernel
theorem d_M_newName_39 : decode b_M_newName 39 = .ok (.iload 4, 2) := by decide +kernel
theorem d_M_newName_41 : decode b_M_newName 41 = .ok (.baload, 1) := by decide +kernel
theorem d_M_newName_42 : decode b_M_newName 42 = .ok (.ifCond .eq 11, 3) := by decide +kernel
theorem d_M_newName_45 : decode b_M_newName 45 = .ok (.iload 5, 2) := by decide +kernel
theorem d_M_newName_47 : decode b_M_newName 47 = .ok (.ifCond .ne 6, 3) := by decide +kernel
theorem d_M_newName_50 : decode b_M_newName 50 = .ok (.iinc 3 1, 3) := by decide +kernel
theorem d_M_newName_53 : decode b_M_newName 53 = .ok (.iinc 4 1, 3) := by decide +kernel
theorem d_M_newName_56 : decode b_M_newName 56 = .ok (.goto (-35), 3) := by decide +kernel
theorem d_M_newName_59 : decode b_M_newName 59 = .ok (.aload_n 0, 1) := by decide +kernel
theorem d_M_newName_60 : decode b_M_newName 60 = .ok (.iconst 0, 1) := by decide +kernel
theorem d_M_newName_61 : decode b_M_newName 61 = .ok (.putfield 195, 3) := by decide +kernel
theorem d_M_newName_64 : decode b_M_newName 64 = .ok (.aload_n 0, 1) := by decide +kernel
theorem d_M_newName_65 : decode b_M_newName 65 = .ok (.bipush 97, 2) := by decide +kernel
theorem d_M_newName_67 : decode b_M_newName 67 = .ok (.iload_n 3, 1) := by decide +kernel
theorem d_M_newName_68 : decode b_M_newName 68 = .ok (.iadd, 1) := by decide +kernel
theorem d_M_newName_69 : decode b_M_newName 69 = .ok (.invokevirtual 198, 3) := by decide +kernel
theorem d_M_newName_72 : decode b_M_newName 72 = .ok (.return_, 1) := by decide +kernel
theorem d_M_isKeptLetter_0 : decode b_M_isKeptLetter 0 = .ok (.iload_n 3, 1) := by decide +kernel
theorem d_M_isKeptLetter_1 : decode b_M_isKeptLetter 1 = .ok (.bipush 114, 2) := by decide +kernel
theorem d_M_isKeptLetter_3 : decode b_M_isKeptLetter 3 = .ok (.bipush 119, 2) := by decide +kernel
theorem d_M_isKeptLetter_5 : decode b_M_isKeptLetter 5 = .ok (.invokestatic 135, 3) := by decide +kernel
theorem d_M_isKeptLetter_8 : decode b_M_isKeptLetter 8 = .ok (.ifCond .eq 20, 3) := by decide +kernel
theorem d_M_isKeptLetter_11 : decode b_M_isKeptLetter 11 = .ok (.aload_n 0, 1) := by decide +kernel
theorem d_M_isKeptLetter_12 : decode b_M_isKeptLetter 12 = .ok (.iload_n 1, 1) := by decide +kernel
theorem d_M_isKeptLetter_13 : decode b_M_isKeptLetter 13 = .ok (.iload_n 3, 1) := by decide +kernel
theorem d_M_isKeptLetter_14 : decode b_M_isKeptLetter 14 = .ok (.bipush 114, 2) := by decide +kernel
theorem d_M_isKeptLetter_16 : decode b_M_isKeptLetter 16 = .ok (.isub, 1) := by decide +kernel
theorem d_M_isKeptLetter_17 : decode b_M_isKeptLetter 17 = .ok (.iload_n 2, 1) := by decide +kernel
theorem d_M_isKeptLetter_18 : decode b_M_isKeptLetter 18 = .ok (.invokevirtual 268, 3) := by decide +kernel
theorem d_M_isKeptLetter_21 : decode b_M_isKeptLetter 21 = .ok (.ifCond .eq 7, 3) := by decide +kernel
theorem d_M_isKeptLetter_24 : decode b_M_isKeptLetter 24 = .ok (.iconst 1, 1) := by decide +kernel
theorem d_M_isKeptLetter_25 : decode b_M_isKeptLetter 25 = .ok (.goto 4, 3) := by decide +kernel
theorem d_M_isKeptLetter_28 : decode b_M_isKeptLetter 28 = .ok (.iconst 0, 1) := by decide +kernel
theorem d_M_isKeptLetter_29 : decode b_M_isKeptLetter 29 = .ok (.ireturn, 1) := by decide +kernel
theorem d_M_newText_0 : decode b_M_newText 0 = .ok (.aload_n 0, 1) := by decide +kernel
theorem d_M_newText_1 : decode b_M_newText 1 = .ok (.getfield 41, 3) := by decide +kernel
theorem d_M_newText_4 : decode b_M_newText 4 = .ok (.iload_n 1, 1) := by decide +kernel
theorem d_M_newText_5 : decode b_M_newText 5 = .ok (.iaload, 1) := by decide +kernel
theorem d_M_newText_6 : decode b_M_newText 6 = .ok (.iconst 1, 1) := by decide +kernel
theorem d_M_newText_7 : decode b_M_newText 7 = .ok (.iand, 1) := by decide +kernel
theorem d_M_newText_8 : decode b_M_newText 8 = .ok (.istore_n 2, 1) := by decide +kernel
theorem d_M_newText_9 : decode b_M_newText 9 = .ok (.aload_n 0, 1) := by decide +kernel
theorem d_M_newText_10 : decode b_M_newText 10 = .ok (.getfield 38, 3) := by decide +kernel
theorem d_M_newText_13 : decode b_M_newText 13 = .ok (.iload_n 1, 1) := by decide +kernel
theorem d_M_newText_14 : decode b_M_newText 14 = .ok (.iaload, 1) := by decide +kernel
theorem d_M_newText_15 : decode b_M_newText 15 = .ok (.istore_n 3, 1) := by decide +kernel
theorem d_M_newText_16 : decode b_M_newText 16 = .ok (.bipush 97, 2) := by decide +kernel
theorem d_M_newText_18 : decode b_M_newText 18 = .ok (.istore 4, 2) := by decide +kernel
theorem d_M_newText_20 : decode b_M_newText 20 = .ok (.aload_n 0, 1) := by decide +kernel
theorem d_M_newText_21 : decode b_M_newText 21 = .ok (.iload_n 2, 1) := by decide +kernel
theorem d_M_newText_22 : decode b_M_newText 22 = .ok (.aload_n 0, 1) := by decide +kernel
theorem d_M_newText_23 : decode b_M_newText 23 = .ok (.getfield 35, 3) := by decide +kernel
theorem d_M_newText_26 : decode b_M_newText 26 = .ok (.iload_n 1, 1) := by decide +kernel
theorem d_M_newText_27 : decode b_M_newText 27 = .ok (.iaload, 1) := by decide +kernel
theorem d_M_newText_28 : decode b_M_newText 28 = .ok (.iload_n 3, 1) := by decide +kernel
theorem d_M_newText_29 : decode b_M_newText 29 = .ok (.invokevirtual 268, 3) := by decide +kernel
theorem d_M_newText_32 : decode b_M_newText 32 = .ok (.istore 5, 2) := by decide +kernel
theorem d_M_newText_34 : decode b_M_newText 34 = .ok (.iload 5, 2) := by decide +kernel
theorem d_M_newText_36 : decode b_M_newText 36 = .ok (.ifCond .eq 14, 3) := by decide +kernel
theorem d_M_newText_39 : decode b_M_newText 39 = .ok (.aload_n 0, 1) := by decide +kernel
theorem d_M_newText_40 : decode b_M_newText 40 = .ok (.aload_n 0, 1) := by decide +kernel
theorem d_M_newText_41 : decode b_M_newText 41 = .ok (.getfield 35, 3) := by decide +kernel
theorem d_M_newText_44 : decode b_M_newText 44 = .ok (.iload_n 1, 1) := by decide +kernel
theorem d_M_newText_45 : decode b_M_newText 45 = .ok (.iaload, 1) := by decide +kernel
theorem d_M_newText_46 : decode b_M_newText 46 = .ok (.invokevirtual 211, 3) := by decide +kernel
theorem d_M_newText_49 : decode b_M_newText 49 = .ok (.return_, 1) := by decide +kernel
theorem d_M_newText_50 : decode b_M_newText 50 = .ok (.iconst 0, 1) := by decide +kernel
theorem d_M_newText_51 : decode b_M_newText 51 = .ok (.istore 6, 2) := by decide +kernel
theorem d_M_newText_53 : decode b_M_newText 53 = .ok (.iload 6, 2) := by decide +kernel
theorem d_M_newText_55 : decode b_M_newText 55 = .ok (.aload_n 0, 1) := by decide +kernel
theorem d_M_newText_56 : decode b_M_newText 56 = .ok (.getfield 35, 3) := by decide +kernel
theorem d_M_newText_59 : decode b_M_newText 59 = .ok (.iload_n 1, 1) := by decide +kernel
theorem d_M_newText_60 : decode b_M_newText 60 = .ok (.iaload, 1) := by decide +kernel
theorem d_M_newText_61 : decode b_M_newText 61 = .ok (.if_icmp .gt 77, 3) := by decide +kernel
theorem d_M_newText_64 : decode b_M_newText 64 = .ok (.aload_n 0, 1) := by decide +kernel
theorem d_M_newText_65 : decode b_M_newText 65 = .ok (.iload_n 2, 1) := by decide +kernel
theorem d_M_newText_66 : decode b_M_newText 66 = .ok (.iload 6, 2) := by decide +kernel
theorem d_M_newText_68 : decode b_M_newText 68 = .ok (.iload_n 3, 1) := by decide +kernel
theorem d_M_newText_69 : decode b_M_newText 69 = .ok (.invokevirtual 271, 3) := by decide +kernel
theorem d_M_newText_72 : decode b_M_newText 72 = .ok (.ifCond .eq 18, 3) := by decide +kernel
theorem d_M_newText_75 : decode b_M_newText 75 = .ok (.aload_n 0, 1) := by decide +kernel
theorem d_M_newText_76 : decode b_M_newText 76 = .ok (.iload_n 2, 1) := by decide +kernel
theorem d_M_newText_77 : decode b_M_newText 77 = .ok (.iload 6, 2) := by decide +kernel
theorem d_M_newText_79 : decode b_M_newText 79 = .ok (.iload_n 3, 1) := by decide +kernel
theorem d_M_newText_80 : decode b_M_newText 80 = .ok (.invokevirtual 268, 3) := by decide +kernel
theorem d_M_newText_83 : decode b_M_newText 83 = .ok (.ifCond .ne 7, 3) := by decide +kernel
theorem d_M_newText_86 : decode b_M_newText 86 = .ok (.iconst 1, 1) := by decide +kernel
theorem d_M_newText_87 : decode b_M_newText 87 = .ok (.goto 4, 3) := by decide +kernel
theorem d_M_newText_90 : decode b_M_newText 90 = .ok (.iconst 0, 1) := by decide +kernel
theorem d_M_newText_91 : decode b_M_newText 91 = .ok (.istore 7, 2) := by decide +kernel
theorem d_M_newText_93 : decode b_M_newText 93 = .ok (.iload 7, 2) := by decide +kernel
theorem d_M_newText_95 : decode b_M_newText 95 = .ok (.ifCond .ne 6, 3) := by decide +kernel
theorem d_M_newText_98 : decode b_M_newText 98 = .ok (.goto 34, 3) := by decide +kernel
theorem d_M_newText_101 : decode b_M_newText 101 = .ok (.aload_n 0, 1) := by decide +kernel
theorem d_M_newText_102 : decode b_M_newText 102 = .ok (.iload_n 2, 1) := by decide +kernel
theorem d_M_newText_103 : decode b_M_newText 103 = .ok (.iload_n 3, 1) := by decide +kernel
theorem d_M_newText_104 : decode b_M_newText 104 = .ok (.iload 4, 2) := by decide +kernel
theorem d_M_newText_106 : decode b_M_newText 106 = .ok (.invokevirtual 274, 3) := by decide +kernel
theorem d_M_newText_109 : decode b_M_newText 109 = .ok (.ifCond .eq 9, 3) := by decide +kernel
theorem d_M_newText_112 : decode b_M_newText 112 = .ok (.iinc 4 1, 3) := by decide +kernel
theorem d_M_newText_115 : decode b_M_newText 115 = .ok (.goto (-14), 3) := by decide +kernel
theorem d_M_newText_118 : decode b_M_newText 118 = .ok (.iload 6, 2) := by decide +kernel
theorem d_M_newText_120 : decode b_M_newText 120 = .ok (.aload_n 0, 1) := by decide +kernel
theorem d_M_newText_121 : decode b_M_newText 121 = .ok (.getfield 35, 3) := by decide +kernel
theorem d_M_newText_124 : decode b_M_newText 124 = .ok (.iload_n 1, 1) := by decide +kernel
theorem d_M_newText_125 : decode b_M_newText 125 = .ok (.iaload, 1) := by decide +kernel
theorem d_M_newText_126 : decode b_M_newText 126 = .ok (.if_icmp .ge 6, 3) := by decide +kernel
theorem d_M_newText_129 : decode b_M_newText 129 = .ok (.iinc 4 1, 3) := by decide +kernel
theorem d_M_newText_132 : decode b_M_newText 132 = .ok (.iinc 6 1, 3) := by decide +kernel
theorem d_M_newText_135 : decode b_M_newText 135 = .ok (.goto (-82), 3) := by decide +kernel
theorem d_M_newText_138 : decode b_M_newText 138 = .ok (.aload_n 0, 1) := by decide +kernel
theorem d_M_newText_139 : decode b_M_newText 139 = .ok (.iconst 0, 1) := by decide +kernel
theorem d_M_newText_140 : decode b_M_newText 140 = .ok (.putfield 195, 3) := by decide +kernel
theorem d_M_newText_143 : decode b_M_newText 143 = .ok (.aload_n 0, 1) := by decide +kernel
theorem d_M_newText_144 : decode b_M_newText 144 = .ok (.iload 4, 2) := by decide +kernel
theorem d_M_newText_146 : decode b_M_newText 146 = .ok (.invokevirtual 198, 3) := by decide +kernel
theorem d_M_newText_149 : decode b_M_newText 149 = .ok (.return_, 1) := by decide +kernel
theorem d_M_needs_0 : decode b_M_needs 0 = .ok (.iload_n 2, 1) := by decide +kernel
theorem d_M_needs_1 : decode b_M_needs 1 = .ok (.iconst 0, 1) := by decide +kernel
theorem d_M_needs_2 : decode b_M_needs 2 = .ok (.iconst 5, 1) := by decide +kernel
theorem d_M_needs_3 : decode b_M_needs 3 = .ok (.invokestatic 135, 3) := by decide +kernel
theorem d_M_needs_6 : decode b_M_needs 6 = .ok (.ifCond .ne 5, 3) := by decide +kernel
theorem d_M_needs_9 : decode b_M_needs 9 = .ok (.iconst (-1), 1) := by decide +kernel
theorem d_M_needs_10 : decode b_M_needs 10 = .ok (.ireturn, 1) := by decide +kernel
theorem d_M_needs_11 : decode b_M_needs 11 = .ok (.iload_n 1, 1) := by decide +kernel
theorem d_M_needs_12 : decode b_M_needs 12 = .ok (.iconst 0, 1) := by decide +kernel
theorem d_M_needs_13 : decode b_M_needs 13 = .ok (.bipush 9, 2) := by decide +kernel
theorem d_M_needs_15 : decode b_M_needs 15 = .ok (.invokestatic 135, 3) := by decide +kernel
theorem d_M_needs_18 : decode b_M_needs 18 = .ok (.ifCond .eq 12, 3) := by decide +kernel
theorem d_M_needs_21 : decode b_M_needs 21 = .ok (.aload_n 0, 1) := by decide +kernel
theorem d_M_needs_22 : decode b_M_needs 22 = .ok (.getfield 7, 3) := by decide +kernel
theorem d_M_needs_25 : decode b_M_needs 25 = .ok (.iload_n 1, 1) := by decide +kernel
theorem d_M_needs_26 : decode b_M_needs 26 = .ok (.baload, 1) := by decide +kernel
theorem d_M_needs_27 : decode b_M_needs 27 = .ok (.ifCond .ne 6, 3) := by decide +kernel
theorem d_M_needs_30 : decode b_M_needs 30 = .ok (.bipush (-2), 2) := by decide +kernel
theorem d_M_needs_32 : decode b_M_needs 32 = .ok (.ireturn, 1) := by decide +kernel
theorem d_M_needs_33 : decode b_M_needs 33 = .ok (.aload_n 0, 1) := by decide +kernel
theorem d_M_needs_34 : decode b_M_needs 34 = .ok (.invokevirtual 277, 3) := by decide +kernel
theorem d_M_needs_37 : decode b_M_needs 37 = .ok (.bipush (-2), 2) := by decide +kernel
theorem d_M_needs_39 : decode b_M_needs 39 = .ok (.istore_n 3, 1) := by decide +kernel
theorem d_M_needs_40 : decode b_M_needs 40 = .ok (.iconst 0, 1) := by decide +kernel
theorem d_M_needs_41 : decode b_M_needs 41 = .ok (.istore 4, 2) := by decide +kernel
theorem d_M_needs_43 : decode b_M_needs 43 = .ok (.iconst 0, 1) := by decide +kernel
theorem d_M_needs_44 : decode b_M_needs 44 = .ok (.istore 5, 2) := by decide +kernel
theorem d_M_needs_46 : decode b_M_needs 46 = .ok (.iload 5, 2) := by decide +kernel
theorem d_M_needs_48 : decode b_M_needs 48 = .ok (.aload_n 0, 1) := by decide +kernel
theorem d_M_needs_49 : decode b_M_needs 49 = .ok (.getfield 185, 3) := by decide +kernel
theorem d_M_needs_52 : decode b_M_needs 52 = .ok (.if_icmp .ge 27, 3) := by decide +kernel
theorem d_M_needs_55 : decode b_M_needs 55 = .ok (.aload_n 0, 1) := by decide +kernel
theorem d_M_needs_56 : decode b_M_needs 56 = .ok (.getfield 129, 3) := by decide +kernel
theorem d_M_needs_59 : decode b_M_needs 59 = .ok (.bipush 10, 2) := by decide +kernel
theorem d_M_needs_61 : decode b_M_needs 61 = .ok (.iload 5, 2) := by decide +kernel
theorem d_M_needs_63 : decode b_M_needs 63 = .ok (.imul, 1) := by decide +kernel
theorem d_M_needs_64 : decode b_M_needs 64 = .ok (.iload_n 1, 1) := by decide +kernel
theorem d_M_needs_65 : decode b_M_needs 65 = .ok (.iadd, 1) := by decide +kernel
theorem d_M_needs_66 : decode b_M_needs 66 = .ok (.baload, 1) := by decide +kernel
theorem d_M_needs_67 : decode b_M_needs 67 = .ok (.ifCond .eq 6, 3) := by decide +kernel
theorem d_M_needs_70 : decode b_M_needs 70 = .ok (.iload 5, 2) := by decide +kernel
theorem d_M_needs_72 : decode b_M_needs 72 = .ok (.istore_n 3, 1) := by decide +kernel
theorem d_M_needs_73 : decode b_M_needs 73 = .ok (.iinc 5 1, 3) := by decide +kernel
theorem d_M_needs_76 : decode b_M_needs 76 = .ok (.goto (-30), 3) := by decide +kernel
theorem d_M_needs_79 : decode b_M_needs 79 = .ok (.iconst 0, 1) := by decide +kernel
theorem d_M_needs_80 : decode b_M_needs 80 = .ok (.istore 5, 2) := by decide +kernel
theorem d_M_needs_82 : decode b_M_needs 82 = .ok (.iload 5, 2) := by decide +kernel
theorem d_M_needs_84 : decode b_M_needs 84 = .ok (.bipush 10, 2) := by decide +kernel
theorem d_M_needs_86 : decode b_M_needs 86 = .ok (.if_icmp .ge 25, 3) := by decide +kernel
theorem d_M_needs_89 : decode b_M_needs 89 = .ok (.iload 4, 2) := by decide +kernel
theorem d_M_needs_91 : decode b_M_needs 91 = .ok (.aload_n 0, 1) := by decide +kernel
theorem d_M_needs_92 : decode b_M_needs 92 = .ok (.getfield 29, 3) := by decide +kernel
theorem d_M_needs_95 : decode b_M_needs 95 = .ok (.iload_n 1, 1) := by decide +kernel
theorem d_M_needs_96 : decode b_M_needs 96 = .ok (.iaload, 1) := by decide +kernel
theorem d_M_needs_97 : decode b_M_needs 97 = .ok (.iload 5, 2) := by decide +kernel
theorem d_M_needs_99 : decode b_M_needs 99 = .ok (.ishr, 1) := by decide +kernel
theorem d_M_needs_100 : decode b_M_needs 100 = .ok (.iconst 1, 1) := by decide +kernel
theorem d_M_needs_101 : decode b_M_needs 101 = .ok (.iand, 1) := by decide +kernel
theorem d_M_needs_102 : decode b_M_needs 102 = .ok (.iadd, 1) := by decide +kernel
theorem d_M_needs_103 : decode b_M_needs 103 = .ok (.istore 4, 2) := by decide +kernel
theorem d_M_needs_105 : decode b_M_needs 105 = .ok (.iinc 5 1, 3) := by decide +kernel
theorem d_M_needs_108 : decode b_M_needs 108 = .ok (.goto (-26), 3) := by decide +kernel
theorem d_M_needs_111 : decode b_M_needs 111 = .ok (.iload_n 2, 1) := by decide +kernel
theorem d_M_needs_112 : decode b_M_needs 112 = .ok (.ifCond .ne 12, 3) := by decide +kernel
theorem d_M_needs_115 : decode b_M_needs 115 = .ok (.aload_n 0, 1) := by decide +kernel
theorem d_M_needs_116 : decode b_M_needs 116 = .ok (.getfield 117, 3) := by decide +kernel
theorem d_M_needs_119 : decode b_M_needs 119 = .ok (.iload_n 1, 1) := by decide +kernel
theorem d_M_needs_120 : decode b_M_needs 120 = .ok (.baload, 1) := by decide +kernel
theorem d_M_needs_121 : decode b_M_needs 121 = .ok (.goto 36, 3) := by decide +kernel
theorem d_M_needs_124 : decode b_M_needs 124 = .ok (.iload_n 2, 1) := by decide +kernel
theorem d_M_needs_125 : decode b_M_needs 125 = .ok (.iconst 1, 1) := by decide +kernel
theorem d_M_needs_126 : decode b_M_needs 126 = .ok (.if_icmp .ne 12, 3) := by decide +kernel
theorem d_M_needs_129 : decode b_M_needs 129 = .ok (.aload_n 0, 1) := by decide +kernel
theorem d_M_needs_130 : decode b_M_needs 130 = .ok (.getfield 120, 3) := by decide +kernel
theorem d_M_needs_133 : decode b_M_needs 133 = .ok (.iload_n 1, 1) := by decide +kernel
theorem d_M_needs_134 : decode b_M_needs 134 = .ok (.baload, 1) := by decide +kernel
theorem d_M_needs_135 : decode b_M_needs 135 = .ok (.goto 22, 3) := by decide +kernel
theorem d_M_needs_138 : decode b_M_needs 138 = .ok (.iload_n 2, 1) := by decide +kernel
theorem d_M_needs_139 : decode b_M_needs 139 = .ok (.iconst 2, 1) := by decide +kernel
theorem d_M_needs_140 : decode b_M_needs 140 = .ok (.if_icmp .ne 12, 3) := by decide +kernel
theorem d_M_needs_143 : decode b_M_needs 143 = .ok (.aload_n 0, 1) := by decide +kernel
theorem d_M_needs_144 : decode b_M_needs 144 = .ok (.getfield 123, 3) := by decide +kernel
theorem d_M_needs_147 : decode b_M_needs 147 = .ok (.iload_n 1, 1) := by decide +kernel
theorem d_M_needs_148 : decode b_M_needs 148 = .ok (.baload, 1) := by decide +kernel
theorem d_M_needs_149 : decode b_M_needs 149 = .ok (.goto 8, 3) := by decide +kernel
theorem d_M_needs_152 : decode b_M_needs 152 = .ok (.aload_n 0, 1) := by decide +kernel
theorem d_M_needs_153 : decode b_M_needs 153 = .ok (.iload_n 1, 1) := by decide +kernel
theorem d_M_needs_154 : decode b_M_needs 154 = .ok (.invokevirtual 265, 3) := by decide +kernel
theorem d_M_needs_157 : decode b_M_needs 157 = .ok (.istore 5, 2) := by decide +kernel
theorem d_M_needs_159 : decode b_M_needs 159 = .ok (.iload_n 2, 1) := by decide +kernel
theorem d_M_needs_160 : decode b_M_needs 160 = .ok (.iconst 4, 1) := by decide +kernel
theorem d_M_needs_161 : decode b_M_needs 161 = .ok (.if_icmp .ne 8, 3) := by decide +kernel
theorem d_M_needs_164 : decode b_M_needs 164 = .ok (.iload 4, 2) := by decide +kernel
theorem d_M_needs_166 : decode b_M_needs 166 = .ok (.goto 22, 3) := by decide +kernel
theorem d_M_needs_169 : decode b_M_needs 169 = .ok (.iload_n 2, 1) := by decide +kernel
theorem d_M_needs_170 : decode b_M_needs 170 = .ok (.iconst 5, 1) := by decide +kernel
theorem d_M_needs_171 : decode b_M_needs 171 = .ok (.if_icmp .ne 7, 3) := by decide +kernel
theorem d_M_needs_174 : decode b_M_needs 174 = .ok (.iload_n 3, 1) := by decide +kernel
theorem d_M_needs_175 : decode b_M_needs 175 = .ok (.goto 13, 3) := by decide +kernel
theorem d_M_needs_178 : decode b_M_needs 178 = .ok (.iload 5, 2) := by decide +kernel
theorem d_M_needs_180 : decode b_M_needs 180 = .ok (.ifCond .eq 7, 3) := by decide +kernel
theorem d_M_needs_183 : decode b_M_needs 183 = .ok (.iconst 1, 1) := by decide +kernel
theorem d_M_needs_184 : decode b_M_needs 184 = .ok (.goto 4, 3) := by decide +kernel
theorem d_M_needs_187 : decode b_M_needs 187 = .ok (.iconst 0, 1) := by decide +kernel
theorem d_M_needs_188 : decode b_M_needs 188 = .ok (.ireturn, 1) := by decide +kernel
theorem d_M_isMember_0 : decode b_M_isMember 0 = .ok (.iload_n 1, 1) := by decide +kernel
theorem d_M_isMember_1 : decode b_M_isMember 1 = .ok (.iconst 0, 1) := by decide +kernel
theorem d_M_isMember_2 : decode b_M_isMember 2 = .ok (.aload_n 0, 1) := by decide +kernel
theorem d_M_isMember_3 : decode b_M_isMember 3 = .ok (.getfield 47, 3) := by decide +kernel
theorem d_M_isMember_6 : decode b_M_isMember 6 = .ok (.iconst 1, 1) := by decide +kernel
theorem d_M_isMember_7 : decode b_M_isMember 7 = .ok (.isub, 1) := by decide +kernel
theorem d_M_isMember_8 : decode b_M_isMember 8 = .ok (.invokestatic 135, 3) := by decide +kernel
theorem d_M_isMember_11 : decode b_M_isMember 11 = .ok (.ifCond .eq 16, 3) := by decide +kernel
theorem d_M_isMember_14 : decode b_M_isMember 14 = .ok (.aload_n 0, 1) := by decide +kernel
theorem d_M_isMember_15 : decode b_M_isMember 15 = .ok (.getfield 44, 3) := by decide +kernel
theorem d_M_isMember_18 : decode b_M_isMember 18 = .ok (.iload_n 1, 1) := by decide +kernel
theorem d_M_isMember_19 : decode b_M_isMember 19 = .ok (.baload, 1) := by decide +kernel
theorem d_M_isMember_20 : decode b_M_isMember 20 = .ok (.ifCond .ne 7, 3) := by decide +kernel
theorem d_M_isMember_23 : decode b_M_isMember 23 = .ok (.iconst 1, 1) := by decide +kernel
theorem d_M_isMember_24 : decode b_M_isMember 24 = .ok (.goto 4, 3) := by decide +kernel
theorem d_M_isMember_27 : decode b_M_isMember 27 = .ok (.iconst 0, 1) := by decide +kernel
theorem d_M_isMember_28 : decode b_M_isMember 28 = .ok (.ireturn, 1) := by decide +kernel
theorem d_M_part_0 : decode b_M_part 0 = .ok (.iload_n 2, 1) := by decide +kernel
theorem d_M_part_1 : decode b_M_part 1 = .ok (.iconst 0, 1) := by decide +kernel
theorem d_M_part_2 : decode b_M_part 2 = .ok (.iconst 5, 1) := by decide +kernel
theorem d_M_part_3 : decode b_M_part 3 = .ok (.invokestatic 135, 3) := by decide +kernel
theorem d_M_part_6 : decode b_M_part 6 = .ok (.ifCond .ne 5, 3) := by decide +kernel
theorem d_M_part_9 : decode b_M_part 9 = .ok (.iconst (-1), 1) := by decide +kernel
theorem d_M_part_10 : decode b_M_part 10 = .ok (.ireturn, 1) := by decide +kernel
theorem d_M_part_11 : decode b_M_part 11 = .ok (.aload_n 0, 1) := by decide +kernel
theorem d_M_part_12 : decode b_M_part 12 = .ok (.iload_n 1, 1) := by decide +kernel
theorem d_M_part_13 : decode b_M_part 13 = .ok (.invokevirtual 280, 3) := by decide +kernel
theorem d_M_part_16 : decode b_M_part 16 = .ok (.ifCond .ne 6, 3) := by decide +kernel
theorem d_M_part_19 : decode b_M_part 19 = .ok (.bipush (-2), 2) := by decide +kernel
theorem d_M_part_21 : decode b_M_part 21 = .ok (.ireturn, 1) := by decide +kernel
theorem d_M_part_22 : decode b_M_part 22 = .ok (.aload_n 0, 1) := by decide +kernel
theorem d_M_part_23 : decode b_M_part 23 = .ok (.invokevirtual 277, 3) := by decide +kernel
theorem d_M_part_26 : decode b_M_part 26 = .ok (.aload_n 0, 1) := by decide +kernel
theorem d_M_part_27 : decode b_M_part 27 = .ok (.aload_n 0, 1) := by decide +kernel
theorem d_M_part_28 : decode b_M_part 28 = .ok (.getfield 41, 3) := by decide +kernel
theorem d_M_part_31 : decode b_M_part 31 = .ok (.iload_n 1, 1) := by decide +kernel
theorem d_M_part_32 : decode b_M_part 32 = .ok (.iaload, 1) := by decide +kernel
theorem d_M_part_33 : decode b_M_part 33 = .ok (.iconst 1, 1) := by decide +kernel
theorem d_M_part_34 : decode b_M_part 34 = .ok (.iand, 1) := by decide +kernel
theorem d_M_part_35 : decode b_M_part 35 = .ok (.aload_n 0, 1) := by decide +kernel
theorem d_M_part_36 : decode b_M_part 36 = .ok (.getfield 35, 3) := by decide +kernel
theorem d_M_part_39 : decode b_M_part 39 = .ok (.iload_n 1, 1) := by decide +kernel
theorem d_M_part_40 : decode b_M_part 40 = .ok (.iaload, 1) := by decide +kernel
theorem d_M_part_41 : decode b_M_part 41 = .ok (.aload_n 0, 1) := by decide +kernel
theorem d_M_part_42 : decode b_M_part 42 = .ok (.getfield 38, 3) := by decide +kernel
theorem d_M_part_45 : decode b_M_part 45 = .ok (.iload_n 1, 1) := by decide +kernel
theorem d_M_part_46 : decode b_M_part 46 = .ok (.iaload, 1) := by decide +kernel
theorem d_M_part_47 : decode b_M_part 47 = .ok (.invokevirtual 268, 3) := by decide +kernel
theorem d_M_part_50 : decode b_M_part 50 = .ok (.istore_n 3, 1) := by decide +kernel
theorem d_M_part_51 : decode b_M_part 51 = .ok (.iload_n 2, 1) := by decide +kernel
theorem d_M_part_52 : decode b_M_part 52 = .ok (.ifCond .ne 20, 3) := by decide +kernel
theorem d_M_part_55 : decode b_M_part 55 = .ok (.aload_n 0, 1) := by decide +kernel
theorem d_M_part_56 : decode b_M_part 56 = .ok (.getfield 126, 3) := by decide +kernel
theorem d_M_part_59 : decode b_M_part 59 = .ok (.iload_n 1, 1) := by decide +kernel
theorem d_M_part_60 : decode b_M_part 60 = .ok (.baload, 1) := by decide +kernel
theorem d_M_part_61 : decode b_M_part 61 = .ok (.ifCond .eq 7, 3) := by decide +kernel
theorem d_M_part_64 : decode b_M_part 64 = .ok (.iconst 1, 1) := by decide +kernel
theorem d_M_part_65 : decode b_M_part 65 = .ok (.goto 72, 3) := by decide +kernel
theorem d_M_part_68 : decode b_M_part 68 = .ok (.iconst 0, 1) := by decide +kernel
theorem d_M_part_69 : decode b_M_part 69 = .ok (.goto 68, 3) := by decide +kernel
theorem d_M_part_72 : decode b_M_part 72 = .ok (.iload_n 2, 1) := by decide +kernel
theorem d_M_part_73 : decode b_M_part 73 = .ok (.iconst 1, 1) := by decide +kernel
theorem d_M_part_74 : decode b_M_part 74 = .ok (.if_icmp .ne 15, 3) := by decide +kernel
theorem d_M_part_77 : decode b_M_part 77 = .ok (.iload_n 3, 1) := by decide +kernel
theorem d_M_part_78 : decode b_M_part 78 = .ok (.ifCond .eq 7, 3) := by decide +kernel
theorem d_M_part_81 : decode b_M_part 81 = .ok (.iconst 1, 1) := by decide +kernel
theorem d_M_part_82 : decode b_M_part 82 = .ok (.goto 55, 3) := by decide +kernel
theorem d_M_part_85 : decode b_M_part 85 = .ok (.iconst 0, 1) := by decide +kernel
theorem d_M_part_86 : decode b_M_part 86 = .ok (.goto 51, 3) := by decide +kernel
theorem d_M_part_89 : decode b_M_part 89 = .ok (.iload_n 2, 1) := by decide +kernel
theorem d_M_part_90 : decode b_M_part 90 = .ok (.iconst 2, 1) := by decide +kernel
theorem d_M_part_91 : decode b_M_part 91 = .ok (.if_icmp .ne 12, 3) := by decide +kernel
theorem d_M_part_94 : decode b_M_part 94 = .ok (.aload_n 0, 1) := by decide +kernel
theorem d_M_part_95 : decode b_M_part 95 = .ok (.getfield 32, 3) := by decide +kernel
theorem d_M_part_98 : decode b_M_part 98 = .ok (.iload_n 1, 1) := by decide +kernel
theorem d_M_part_99 : decode b_M_part 99 = .ok (.iaload, 1) := by decide +kernel
theorem d_M_part_100 : decode b_M_part 100 = .ok (.goto 37, 3) := by decide +kernel
theorem d_M_part_103 : decode b_M_part 103 = .ok (.iload_n 2, 1) := by decide +kernel
theorem d_M_part_104 : decode b_M_part 104 = .ok (.iconst 3, 1) := by decide +kernel
theorem d_M_part_105 : decode b_M_part 105 = .ok (.if_icmp .ne 12, 3) := by decide +kernel
theorem d_M_part_108 : decode b_M_part 108 = .ok (.aload_n 0, 1) := by decide +kernel
theorem d_M_part_109 : decode b_M_part 109 = .ok (.getfield 35, 3) := by decide +kernel
theorem d_M_part_112 : decode b_M_part 112 = .ok (.iload_n 1, 1) := by decide +kernel
theorem d_M_part_113 : decode b_M_part 113 = .ok (.iaload, 1) := by decide +kernel
theorem d_M_part_114 : decode b_M_part 114 = .ok (.goto 23, 3) := by decide +kernel
theorem d_M_part_117 : decode b_M_part 117 = .ok (.iload_n 2, 1) := by decide +kernel
theorem d_M_part_118 : decode b_M_part 118 = .ok (.iconst 4, 1) := by decide +kernel
theorem d_M_part_119 : decode b_M_part 119 = .ok (.if_icmp .ne 12, 3) := by decide +kernel
theorem d_M_part_122 : decode b_M_part 122 = .ok (.aload_n 0, 1) := by decide +kernel
theorem d_M_part_123 : decode b_M_part 123 = .ok (.getfield 38, 3) := by decide +kernel
theorem d_M_part_126 : decode b_M_part 126 = .ok (.iload_n 1, 1) := by decide +kernel
theorem d_M_part_127 : decode b_M_part 127 = .ok (.iaload, 1) := by decide +kernel
theorem d_M_part_128 : decode b_M_part 128 = .ok (.goto 9, 3) := by decide +kernel
theorem d_M_part_131 : decode b_M_part 131 = .ok (.aload_n 0, 1) := by decide +kernel
theorem d_M_part_132 : decode b_M_part 132 = .ok (.getfield 41, 3) := by decide +kernel
theorem d_M_part_135 : decode b_M_part 135 = .ok (.iload_n 1, 1) := by decide +kernel
theorem d_M_part_136 : decode b_M_part 136 = .ok (.iaload, 1) := by decide +kernel
theorem d_M_part_137 : decode b_M_part 137 = .ok (.ireturn, 1) := by decide +kernel
theorem d_M_found_0 : decode b_M_found 0 = .ok (.iload_n 1, 1) := by decide +kernel
theorem d_M_found_1 : decode b_M_found 1 = .ok (.iconst 2, 1) := by decide +kernel
theorem d_M_found_2 : decode b_M_found 2 = .ok (.iconst 5, 1) := by decide +kernel
theorem d_M_found_3 : decode b_M_found 3 = .ok (.invokestatic 135, 3) := by decide +kernel
theorem d_M_found_6 : decode b_M_found 6 = .ok (.ifCond .eq 33, 3) := by decide +kernel
theorem d_M_found_9 : decode b_M_found 9 = .ok (.iload_n 2, 1) := by decide +kernel
theorem d_M_found_10 : decode b_M_found 10 = .ok (.iconst 0, 1) := by decide +kernel
theorem d_M_found_11 : decode b_M_found 11 = .ok (.bipush 9, 2) := by decide +kernel
theorem d_M_found_13 : decode b_M_found 13 = .ok (.invokestatic 135, 3) := by decide +kernel
theorem d_M_found_16 : decode b_M_found 16 = .ok (.ifCond .eq 23, 3) := by decide +kernel
theorem d_M_found_19 : decode b_M_found 19 = .ok (.iload_n 3, 1) := by decide +kernel
theorem d_M_found_20 : decode b_M_found 20 = .ok (.iconst 0, 1) := by decide +kernel
theorem d_M_found_21 : decode b_M_found 21 = .ok (.bipush 7, 2) := by decide +kernel
theorem d_M_found_23 : decode b_M_found 23 = .ok (.invokestatic 135, 3) := by decide +kernel
theorem d_M_found_26 : decode b_M_found 26 = .ok (.ifCond .eq 13, 3) := by decide +kernel
theorem d_M_found_29 : decode b_M_found 29 = .ok (.iload 4, 2) := by decide +kernel
theorem d_M_found_31 : decode b_M_found 31 = .ok (.iconst 0, 1) := by decide +kernel
theorem d_M_found_32 : decode b_M_found 32 = .ok (.iconst 1, 1) := by decide +kernel
theorem d_M_found_33 : decode b_M_found 33 = .ok (.invokestatic 135, 3) := by decide +kernel
theorem d_M_found_36 : decode b_M_found 36 = .ok (.ifCond .ne 5, 3) := by decide +kernel
theorem d_M_found_39 : decode b_M_found 39 = .ok (.iconst (-1), 1) := by decide +kernel
theorem d_M_found_40 : decode b_M_found 40 = .ok (.ireturn, 1) := by decide +kernel
theorem d_M_found_41 : decode b_M_found 41 = .ok (.aload_n 0, 1) := by decide +kernel
theorem d_M_found_42 : decode b_M_found 42 = .ok (.invokevirtual 277, 3) := by decide +kernel
theorem d_M_found_45 : decode b_M_found 45 = .ok (.aload_n 0, 1) := by decide +kernel
theorem d_M_found_46 : decode b_M_found 46 = .ok (.getfield 7, 3) := by decide +kernel
theorem d_M_found_49 : decode b_M_found 49 = .ok (.iload_n 2, 1) := by decide +kernel
theorem d_M_found_50 : decode b_M_found 50 = .ok (.baload, 1) := by decide +kernel
theorem d_M_found_51 : decode b_M_found 51 = .ok (.ifCond .eq 27, 3) := by decide +kernel
theorem d_M_found_54 : decode b_M_found 54 = .ok (.aload_n 0, 1) := by decide +kernel
theorem d_M_found_55 : decode b_M_found 55 = .ok (.iload_n 2, 1) := by decide +kernel
theorem d_M_found_56 : decode b_M_found 56 = .ok (.iload_n 1, 1) := by decide +kernel
theorem d_M_found_57 : decode b_M_found 57 = .ok (.iconst 2, 1) := by decide +kernel
theorem d_M_found_58 : decode b_M_found 58 = .ok (.if_icmp .ne 7, 3) := by decide +kernel
theorem d_M_found_61 : decode b_M_found 61 = .ok (.iconst 0, 1) := by decide +kernel
theorem d_M_found_62 : decode b_M_found 62 = .ok (.goto 4, 3) := by decide +kernel
theorem d_M_found_65 : decode b_M_found 65 = .ok (.iconst 1, 1) := by decide +kernel
theorem d_M_found_66 : decode b_M_found 66 = .ok (.iload_n 3, 1) := by decide +kernel
theorem d_M_found_67 : decode b_M_found 67 = .ok (.iload 4, 2) := by decide +kernel
theorem d_M_found_69 : decode b_M_found 69 = .ok (.iconst 0, 1) := by decide +kernel
theorem d_M_found_70 : decode b_M_found 70 = .ok (.iload 5, 2) := by decide +kernel
theorem d_M_found_72 : decode b_M_found 72 = .ok (.invokevirtual 243, 3) := by decide +kernel
theorem d_M_found_75 : decode b_M_found 75 = .ok (.goto 5, 3) := by decide +kernel
theorem d_M_found_78 : decode b_M_found 78 = .ok (.bipush (-2), 2) := by decide +kernel
theorem d_M_found_80 : decode b_M_found 80 = .ok (.ireturn, 1) := by decide +kernel
theorem d_M_selected_0 : decode b_M_selected 0 = .ok (.iload_n 1, 1) := by decide +kernel
theorem d_M_selected_1 : decode b_M_selected 1 = .ok (.iconst 0, 1) := by decide +kernel
theorem d_M_selected_2 : decode b_M_selected 2 = .ok (.bipush 9, 2) := by decide +kernel
theorem d_M_selected_4 : decode b_M_selected 4 = .ok (.invokestatic 135, 3) := by decide +kernel
theorem d_M_selected_7 : decode b_M_selected 7 = .ok (.ifCond .eq 22, 3) := by decide +kernel
theorem d_M_selected_10 : decode b_M_selected 10 = .ok (.iload_n 2, 1) := by decide +kernel
theorem d_M_selected_11 : decode b_M_selected 11 = .ok (.iconst 0, 1) := by decide +kernel
theorem d_M_selected_12 : decode b_M_selected 12 = .ok (.bipush 7, 2) := by decide +kernel
theorem d_M_selected_14 : decode b_M_selected 14 = .ok (.invokestatic 135, 3) := by decide +kernel
theorem d_M_selected_17 : decode b_M_selected 17 = .ok (.ifCond .eq 12, 3) := by decide +kernel
theorem d_M_selected_20 : decode b_M_selected 20 = .ok (.iload_n 3, 1) := by decide +kernel
theorem d_M_selected_21 : decode b_M_selected 21 = .ok (.iconst 0, 1) := by decide +kernel
theorem d_M_selected_22 : decode b_M_selected 22 = .ok (.iconst 1, 1) := by decide +kernel
theorem d_M_selected_23 : decode b_M_selected 23 = .ok (.invokestatic 135, 3) := by decide +kernel
theorem d_M_selected_26 : decode b_M_selected 26 = .ok (.ifCond .ne 5, 3) := by decide +kernel
theorem d_M_selected_29 : decode b_M_selected 29 = .ok (.iconst (-1), 1) := by decide +kernel
theorem d_M_selected_30 : decode b_M_selected 30 = .ok (.ireturn, 1) := by decide +kernel
theorem d_M_selected_31 : decode b_M_selected 31 = .ok (.aload_n 0, 1) := by decide +kernel
theorem d_M_selected_32 : decode b_M_selected 32 = .ok (.invokevirtual 277, 3) := by decide +kernel
theorem d_M_selected_35 : decode b_M_selected 35 = .ok (.aload_n 0, 1) := by decide +kernel
theorem d_M_selected_36 : decode b_M_selected 36 = .ok (.getfield 7, 3) := by decide +kernel
theorem d_M_selected_39 : decode b_M_selected 39 = .ok (.iload_n 1, 1) := by decide +kernel
theorem d_M_selected_40 : decode b_M_selected 40 = .ok (.baload, 1) := by decide +kernel
theorem d_M_selected_41 : decode b_M_selected 41 = .ok (.ifCond .eq 17, 3) := by decide +kernel
theorem d_M_selected_44 : decode b_M_selected 44 = .ok (.aload_n 0, 1) := by decide +kernel
theorem d_M_selected_45 : decode b_M_selected 45 = .ok (.iload_n 1, 1) := by decide +kernel
theorem d_M_selected_46 : decode b_M_selected 46 = .ok (.iconst 1, 1) := by decide +kernel
theorem d_M_selected_47 : decode b_M_selected 47 = .ok (.iload_n 2, 1) := by decide +kernel
theorem d_M_selected_48 : decode b_M_selected 48 = .ok (.iload_n 3, 1) := by decide +kernel
theorem d_M_selected_49 : decode b_M_selected 49 = .ok (.iconst 1, 1) := by decide +kernel
theorem d_M_selected_50 : decode b_M_selected 50 = .ok (.iload 4, 2) := by decide +kernel
theorem d_M_selected_52 : decode b_M_selected 52 = .ok (.invokevirtual 243, 3) := by decide +kernel
theorem d_M_selected_55 : decode b_M_selected 55 = .ok (.goto 5, 3) := by decide +kernel
theorem d_M_selected_58 : decode b_M_selected 58 = .ok (.bipush (-2), 2) := by decide +kernel
theorem d_M_selected_60 : decode b_M_selected 60 = .ok (.ireturn, 1) := by decide +kernel
theorem d_M_name_0 : decode b_M_name 0 = .ok (.aload_n 0, 1) := by decide +kernel
theorem d_M_name_1 : decode b_M_name 1 = .ok (.invokevirtual 277, 3) := by decide +kernel
theorem d_M_name_4 : decode b_M_name 4 = .ok (.iload_n 1, 1) := by decide +kernel
theorem d_M_name_5 : decode b_M_name 5 = .ok (.ifCond .eq 28, 3) := by decide +kernel
theorem d_M_name_8 : decode b_M_name 8 = .ok (.aload_n 0, 1) := by decide +kernel
theorem d_M_name_9 : decode b_M_name 9 = .ok (.iload_n 2, 1) := by decide +kernel
theorem d_M_name_10 : decode b_M_name 10 = .ok (.invokevirtual 280, 3) := by decide +kernel
theorem d_M_name_13 : decode b_M_name 13 = .ok (.ifCond .eq 16, 3) := by decide +kernel
theorem d_M_name_16 : decode b_M_name 16 = .ok (.aload_n 0, 1) := by decide +kernel
theorem d_M_name_17 : decode b_M_name 17 = .ok (.getfield 126, 3) := by decide +kernel
theorem d_M_name_20 : decode b_M_name 20 = .ok (.iload_n 2, 1) := by decide +kernel
theorem d_M_name_21 : decode b_M_name 21 = .ok (.baload, 1) := by decide +kernel
theorem d_M_name_22 : decode b_M_name 22 = .ok (.ifCond .eq 7, 3) := by decide +kernel
theorem d_M_name_25 : decode b_M_name 25 = .ok (.iconst 1, 1) := by decide +kernel
theorem d_M_name_26 : decode b_M_name 26 = .ok (.goto 40, 3) := by decide +kernel
theorem d_M_name_29 : decode b_M_name 29 = .ok (.iconst 0, 1) := by decide +kernel
theorem d_M_name_30 : decode b_M_name 30 = .ok (.goto 36, 3) := by decide +kernel
theorem d_M_name_33 : decode b_M_name 33 = .ok (.iload_n 2, 1) := by decide +kernel
theorem d_M_name_34 : decode b_M_name 34 = .ok (.iconst 0, 1) := by decide +kernel
theorem d_M_name_35 : decode b_M_name 35 = .ok (.bipush 9, 2) := by decide +kernel
theorem d_M_name_37 : decode b_M_name 37 = .ok (.invokestatic 135, 3) := by decide +kernel
theorem d_M_name_40 : decode b_M_name 40 = .ok (.ifCond .eq 25, 3) := by decide +kernel
theorem d_M_name_43 : decode b_M_name 43 = .ok (.aload_n 0, 1) := by decide +kernel
theorem d_M_name_44 : decode b_M_name 44 = .ok (.getfield 7, 3) := by decide +kernel
theorem d_M_name_47 : decode b_M_name 47 = .ok (.iload_n 2, 1) := by decide +kernel
theorem d_M_name_48 : decode b_M_name 48 = .ok (.baload, 1) := by decide +kernel
theorem d_M_name_49 : decode b_M_name 49 = .ok (.ifCond .eq 16, 3) := by decide +kernel
theorem d_M_name_52 : decode b_M_name 52 = .ok (.aload_n 0, 1) := by decide +kernel
theorem d_M_name_53 : decode b_M_name 53 = .ok (.getfield 117, 3) := by decide +kernel
theorem d_M_name_56 : decode b_M_name 56 = .ok (.iload_n 2, 1) := by decide +kernel
theorem d_M_name_57 : decode b_M_name 57 = .ok (.baload, 1) := by decide +kernel
theorem d_M_name_58 : decode b_M_name 58 = .ok (.ifCond .eq 7, 3) := by decide +kernel
theorem d_M_name_61 : decode b_M_name 61 = .ok (.iconst 1, 1) := by decide +kernel
theorem d_M_name_62 : decode b_M_name 62 = .ok (.goto 4, 3) := by decide +kernel
theorem d_M_name_65 : decode b_M_name 65 = .ok (.iconst 0, 1) := by decide +kernel
theorem d_M_name_66 : decode b_M_name 66 = .ok (.istore 4, 2) := by decide +kernel
theorem d_M_name_68 : decode b_M_name 68 = .ok (.iload 4, 2) := by decide +kernel
theorem d_M_name_70 : decode b_M_name 70 = .ok (.ifCond .ne 6, 3) := by decide +kernel
theorem d_M_name_73 : decode b_M_name 73 = .ok (.bipush (-2), 2) := by decide +kernel
theorem d_M_name_75 : decode b_M_name 75 = .ok (.ireturn, 1) := by decide +kernel
theorem d_M_name_76 : decode b_M_name 76 = .ok (.iload_n 1, 1) := by decide +kernel
theorem d_M_name_77 : decode b_M_name 77 = .ok (.ifCond .eq 11, 3) := by decide +kernel
theorem d_M_name_80 : decode b_M_name 80 = .ok (.aload_n 0, 1) := by decide +kernel
theorem d_M_name_81 : decode b_M_name 81 = .ok (.iload_n 2, 1) := by decide +kernel
theorem d_M_name_82 : decode b_M_name 82 = .ok (.invokevirtual 283, 3) := by decide +kernel
theorem d_M_name_85 : decode b_M_name 85 = .ok (.goto 8, 3) := by decide +kernel
theorem d_M_name_88 : decode b_M_name 88 = .ok (.aload_n 0, 1) := by decide +kernel
theorem d_M_name_89 : decode b_M_name 89 = .ok (.iload_n 2, 1) := by decide +kernel
theorem d_M_name_90 : decode b_M_name 90 = .ok (.invokevirtual 286, 3) := by decide +kernel
theorem d_M_name_93 : decode b_M_name 93 = .ok (.iload_n 3, 1) := by decide +kernel
theorem d_M_name_94 : decode b_M_name 94 = .ok (.iconst (-1), 1) := by decide +kernel
theorem d_M_name_95 : decode b_M_name 95 = .ok (.if_icmp .ne 10, 3) := by decide +kernel
theorem d_M_name_98 : decode b_M_name 98 = .ok (.aload_n 0, 1) := by decide +kernel
theorem d_M_name_99 : decode b_M_name 99 = .ok (.getfield 195, 3) := by decide +kernel
theorem d_M_name_102 : decode b_M_name 102 = .ok (.goto 28, 3) := by decide +kernel
theorem d_M_name_105 : decode b_M_name 105 = .ok (.iload_n 3, 1) := by decide +kernel
theorem d_M_name_106 : decode b_M_name 106 = .ok (.iconst 0, 1) := by decide +kernel
theorem d_M_name_107 : decode b_M_name 107 = .ok (.aload_n 0, 1) := by decide +kernel
theorem d_M_name_108 : decode b_M_name 108 = .ok (.getfield 195, 3) := by decide +kernel
theorem d_M_name_111 : decode b_M_name 111 = .ok (.iconst 1, 1) := by decide +kernel
theorem d_M_name_112 : decode b_M_name 112 = .ok (.isub, 1) := by decide +kernel
theorem d_M_name_113 : decode b_M_name 113 = .ok (.invokestatic 135, 3) := by decide +kernel
theorem d_M_name_116 : decode b_M_name 116 = .ok (.ifCond .eq 12, 3) := by decide +kernel
theorem d_M_name_119 : decode b_M_name 119 = .ok (.aload_n 0, 1) := by decide +kernel
theorem d_M_name_120 : decode b_M_name 120 = .ok (.getfield 108, 3) := by decide +kernel
theorem d_M_name_123 : decode b_M_name 123 = .ok (.iload_n 3, 1) := by decide +kernel
theorem d_M_name_124 : decode b_M_name 124 = .ok (.iaload, 1) := by decide +kernel
theorem d_M_name_125 : decode b_M_name 125 = .ok (.goto 5, 3) := by decide +kernel
theorem d_M_name_128 : decode b_M_name 128 = .ok (.bipush (-2), 2) := by decide +kernel
theorem d_M_name_130 : decode b_M_name 130 = .ok (.ireturn, 1) := by decide +kernel
theorem d_M_copy_0 : decode b_M_copy 0 = .ok (.iconst 0, 1) := by decide +kernel
theorem d_M_copy_1 : decode b_M_copy 1 = .ok (.istore_n 1, 1) := by decide +kernel
theorem d_M_copy_2 : decode b_M_copy 2 = .ok (.iload_n 1, 1) := by decide +kernel
theorem d_M_copy_3 : decode b_M_copy 3 = .ok (.aload_n 0, 1) := by decide +kernel
theorem d_M_copy_4 : decode b_M_copy 4 = .ok (.getfield 195, 3) := by decide +kernel
theorem d_M_copy_7 : decode b_M_copy 7 = .ok (.if_icmp .ge 34, 3) := by decide +kernel
theorem d_M_copy_10 : decode b_M_copy 10 = .ok (.aload_n 0, 1) := by decide +kernel
theorem d_M_copy_11 : decode b_M_copy 11 = .ok (.getfield 132, 3) := by decide +kernel
theorem d_M_copy_14 : decode b_M_copy 14 = .ok (.aload_n 0, 1) := by decide +kernel
theorem d_M_copy_15 : decode b_M_copy 15 = .ok (.getfield 289, 3) := by decide +kernel
theorem d_M_copy_18 : decode b_M_copy 18 = .ok (.aload_n 0, 1) := by decide +kernel
theorem d_M_copy_19 : decode b_M_copy 19 = .ok (.getfield 108, 3) := by decide +kernel
theorem d_M_copy_22 : decode b_M_copy 22 = .ok (.iload_n 1, 1) := by decide +kernel
theorem d_M_copy_23 : decode b_M_copy 23 = .ok (.iaload, 1) := by decide +kernel
theorem d_M_copy_24 : decode b_M_copy 24 = .ok (.iastore, 1) := by decide +kernel
theorem d_M_copy_25 : decode b_M_copy 25 = .ok (.aload_n 0, 1) := by decide +kernel
theorem d_M_copy_26 : decode b_M_copy 26 = .ok (.dup, 1) := by decide +kernel
theorem d_M_copy_27 : decode b_M_copy 27 = .ok (.getfield 289, 3) := by decide +kernel
theorem d_M_copy_30 : decode b_M_copy 30 = .ok (.iconst 1, 1) := by decide +kernel
theorem d_M_copy_31 : decode b_M_copy 31 = .ok (.iadd, 1) := by decide +kernel
theorem d_M_copy_32 : decode b_M_copy 32 = .ok (.putfield 289, 3) := by decide +kernel
theorem d_M_copy_35 : decode b_M_copy 35 = .ok (.iinc 1 1, 3) := by decide +kernel
theorem d_M_copy_38 : decode b_M_copy 38 = .ok (.goto (-36), 3) := by decide +kernel
theorem d_M_copy_41 : decode b_M_copy 41 = .ok (.return_, 1) := by decide +kernel
theorem d_M_write_0 : decode b_M_write 0 = .ok (.aload_n 0, 1) := by decide +kernel
theorem d_M_write_1 : decode b_M_write 1 = .ok (.getfield 132, 3) := by decide +kernel
theorem d_M_write_4 : decode b_M_write 4 = .ok (.aload_n 0, 1) := by decide +kernel
theorem d_M_write_5 : decode b_M_write 5 = .ok (.getfield 289, 3) := by decide +kernel
theorem d_M_write_8 : decode b_M_write 8 = .ok (.iload_n 1, 1) := by decide +kernel
theorem d_M_write_9 : decode b_M_write 9 = .ok (.iastore, 1) := by decide +kernel
theorem d_M_write_10 : decode b_M_write 10 = .ok (.aload_n 0, 1) := by decide +kernel
theorem d_M_write_11 : decode b_M_write 11 = .ok (.dup, 1) := by decide +kernel
theorem d_M_write_12 : decode b_M_write 12 = .ok (.getfield 289, 3) := by decide +kernel
theorem d_M_write_15 : decode b_M_write 15 = .ok (.iconst 1, 1) := by decide +kernel
theorem d_M_write_16 : decode b_M_write 16 = .ok (.iadd, 1) := by decide +kernel
theorem d_M_write_17 : decode b_M_write 17 = .ok (.putfield 289, 3) := by decide +kernel
theorem d_M_write_20 : decode b_M_write 20 = .ok (.return_, 1) := by decide +kernel
theorem d_M_arrow_0 : decode b_M_arrow 0 = .ok (.aload_n 0, 1) := by decide +kernel
theorem d_M_arrow_1 : decode b_M_arrow 1 = .ok (.bipush 45, 2) := by decide +kernel
theorem d_M_arrow_3 : decode b_M_arrow 3 = .ok (.invokevirtual 292, 3) := by decide +kernel
theorem d_M_arrow_6 : decode b_M_arrow 6 = .ok (.aload_n 0, 1) := by decide +kernel
theorem d_M_arrow_7 : decode b_M_arrow 7 = .ok (.bipush 62, 2) := by decide +kernel
theorem d_M_arrow_9 : decode b_M_arrow 9 = .ok (.invokevirtual 292, 3) := by decide +kernel
theorem d_M_arrow_12 : decode b_M_arrow 12 = .ok (.aload_n 0, 1) := by decide +kernel
theorem d_M_arrow_13 : decode b_M_arrow 13 = .ok (.bipush 32, 2) := by decide +kernel
theorem d_M_arrow_15 : decode b_M_arrow 15 = .ok (.invokevirtual 292, 3) := by decide +kernel
theorem d_M_arrow_18 : decode b_M_arrow 18 = .ok (.return_, 1) := by decide +kernel
theorem d_M_writeMember_0 : decode b_M_writeMember 0 = .ok (.aload_n 0, 1) := by decide +kernel
theorem d_M_writeMember_1 : decode b_M_writeMember 1 = .ok (.bipush 32, 2) := by decide +kernel
theorem d_M_writeMember_3 : decode b_M_writeMember 3 = .ok (.invokevirtual 292, 3) := by decide +kernel
theorem d_M_writeMember_6 : decode b_M_writeMember 6 = .ok (.aload_n 0, 1) := by decide +kernel
theorem d_M_writeMember_7 : decode b_M_writeMember 7 = .ok (.aload_n 0, 1) := by decide +kernel
theorem d_M_writeMember_8 : decode b_M_writeMember 8 = .ok (.getfield 35, 3) := by decide +kernel
theorem d_M_writeMember_11 : decode b_M_writeMember 11 = .ok (.iload_n 1, 1) := by decide +kernel
theorem d_M_writeMember_12 : decode b_M_writeMember 12 = .ok (.iaload, 1) := by decide +kernel
theorem d_M_writeMember_13 : decode b_M_writeMember 13 = .ok (.invokevirtual 211, 3) := by decide +kernel
theorem d_M_writeMember_16 : decode b_M_writeMember 16 = .ok (.aload_n 0, 1) := by decide +kernel
theorem d_M_writeMember_17 : decode b_M_writeMember 17 = .ok (.invokevirtual 295, 3) := by decide +kernel
theorem d_M_writeMember_20 : decode b_M_writeMember 20 = .ok (.aload_n 0, 1) := by decide +kernel
theorem d_M_writeMember_21 : decode b_M_writeMember 21 = .ok (.getfield 41, 3) := by decide +kernel
theorem d_M_writeMember_24 : decode b_M_writeMember 24 = .ok (.iload_n 1, 1) := by decide +kernel
theorem d_M_writeMember_25 : decode b_M_writeMember 25 = .ok (.iaload, 1) := by decide +kernel
theorem d_M_writeMember_26 : decode b_M_writeMember 26 = .ok (.iconst 1, 1) := by decide +kernel
theorem d_M_writeMember_27 : decode b_M_writeMember 27 = .ok (.iand, 1) := by decide +kernel
theorem d_M_writeMember_28 : decode b_M_writeMember 28 = .ok (.iconst 1, 1) := by decide +kernel
theorem d_M_writeMember_29 : decode b_M_writeMember 29 = .ok (.if_icmp .ne 28, 3) := by decide +kernel
theorem d_M_writeMember_32 : decode b_M_writeMember 32 = .ok (.aload_n 0, 1) := by decide +kernel
theorem d_M_writeMember_33 : decode b_M_writeMember 33 = .ok (.bipush 40, 2) := by decide +kernel
theorem d_M_writeMember_35 : decode b_M_writeMember 35 = .ok (.invokevirtual 292, 3) := by decide +kernel
theorem d_M_writeMember_38 : decode b_M_writeMember 38 = .ok (.aload_n 0, 1) := by decide +kernel
theorem d_M_writeMember_39 : decode b_M_writeMember 39 = .ok (.bipush 48, 2) := by decide +kernel
theorem d_M_writeMember_41 : decode b_M_writeMember 41 = .ok (.aload_n 0, 1) := by decide +kernel
theorem d_M_writeMember_42 : decode b_M_writeMember 42 = .ok (.getfield 38, 3) := by decide +kernel
theorem d_M_writeMember_45 : decode b_M_writeMember 45 = .ok (.iload_n 1, 1) := by decide +kernel
theorem d_M_writeMember_46 : decode b_M_writeMember 46 = .ok (.iaload, 1) := by decide +kernel
theorem d_M_writeMember_47 : decode b_M_writeMember 47 = .ok (.iadd, 1) := by decide +kernel
theorem d_M_writeMember_48 : decode b_M_writeMember 48 = .ok (.invokevirtual 292, 3) := by decide +kernel
theorem d_M_writeMember_51 : decode b_M_writeMember 51 = .ok (.aload_n 0, 1) := by decide +kernel
theorem d_M_writeMember_52 : decode b_M_writeMember 52 = .ok (.bipush 41, 2) := by decide +kernel
theorem d_M_writeMember_54 : decode b_M_writeMember 54 = .ok (.invokevirtual 292, 3) := by decide +kernel
theorem d_M_writeMember_57 : decode b_M_writeMember 57 = .ok (.aload_n 0, 1) := by decide +kernel
theorem d_M_writeMember_58 : decode b_M_writeMember 58 = .ok (.bipush 32, 2) := by decide +kernel
theorem d_M_writeMember_60 : decode b_M_writeMember 60 = .ok (.invokevirtual 292, 3) := by decide +kernel
theorem d_M_writeMember_63 : decode b_M_writeMember 63 = .ok (.aload_n 0, 1) := by decide +kernel
theorem d_M_writeMember_64 : decode b_M_writeMember 64 = .ok (.invokevirtual 298, 3) := by decide +kernel
theorem d_M_writeMember_67 : decode b_M_writeMember 67 = .ok (.aload_n 0, 1) := by decide +kernel
theorem d_M_writeMember_68 : decode b_M_writeMember 68 = .ok (.iload_n 1, 1) := by decide +kernel
theorem d_M_writeMember_69 : decode b_M_writeMember 69 = .ok (.invokevirtual 283, 3) := by decide +kernel
theorem d_M_writeMember_72 : decode b_M_writeMember 72 = .ok (.aload_n 0, 1) := by decide +kernel
theorem d_M_writeMember_73 : decode b_M_writeMember 73 = .ok (.invokevirtual 295, 3) := by decide +kernel
theorem d_M_writeMember_76 : decode b_M_writeMember 76 = .ok (.aload_n 0, 1) := by decide +kernel
theorem d_M_writeMember_77 : decode b_M_writeMember 77 = .ok (.bipush 10, 2) := by decide +kernel
theorem d_M_writeMember_79 : decode b_M_writeMember 79 = .ok (.invokevirtual 292, 3) := by decide +kernel
theorem d_M_writeMember_82 : decode b_M_writeMember 82 = .ok (.return_, 1) := by decide +kernel
theorem d_M_writeAll_0 : decode b_M_writeAll 0 = .ok (.aload_n 0, 1) := by decide +kernel
theorem d_M_writeAll_1 : decode b_M_writeAll 1 = .ok (.iconst 0, 1) := by decide +kernel
theorem d_M_writeAll_2 : decode b_M_writeAll 2 = .ok (.putfield 289, 3) := by decide +kernel
theorem d_M_writeAll_5 : decode b_M_writeAll 5 = .ok (.iconst 1, 1) := by decide +kernel
theorem d_M_writeAll_6 : decode b_M_writeAll 6 = .ok (.istore_n 1, 1) := by decide +kernel
theorem d_M_writeAll_7 : decode b_M_writeAll 7 = .ok (.iload_n 1, 1) := by decide +kernel
theorem d_M_writeAll_8 : decode b_M_writeAll 8 = .ok (.bipush 10, 2) := by decide +kernel
theorem d_M_writeAll_10 : decode b_M_writeAll 10 = .ok (.if_icmp .ge 119, 3) := by decide +kernel
theorem d_M_writeAll_13 : decode b_M_writeAll 13 = .ok (.aload_n 0, 1) := by decide +kernel
theorem d_M_writeAll_14 : decode b_M_writeAll 14 = .ok (.getfield 117, 3) := by decide +kernel
theorem d_M_writeAll_17 : decode b_M_writeAll 17 = .ok (.iload_n 1, 1) := by decide +kernel
theorem d_M_writeAll_18 : decode b_M_writeAll 18 = .ok (.baload, 1) := by decide +kernel
theorem d_M_writeAll_19 : decode b_M_writeAll 19 = .ok (.ifCond .eq 104, 3) := by decide +kernel
theorem d_M_writeAll_22 : decode b_M_writeAll 22 = .ok (.aload_n 0, 1) := by decide +kernel
theorem d_M_writeAll_23 : decode b_M_writeAll 23 = .ok (.getfield 7, 3) := by decide +kernel
theorem d_M_writeAll_26 : decode b_M_writeAll 26 = .ok (.iload_n 1, 1) := by decide +kernel
theorem d_M_writeAll_27 : decode b_M_writeAll 27 = .ok (.baload, 1) := by decide +kernel
theorem d_M_writeAll_28 : decode b_M_writeAll 28 = .ok (.ifCond .ne 6, 3) := by decide +kernel
theorem d_M_writeAll_31 : decode b_M_writeAll 31 = .ok (.goto 92, 3) := by decide +kernel
theorem d_M_writeAll_34 : decode b_M_writeAll 34 = .ok (.aload_n 0, 1) := by decide +kernel
theorem d_M_writeAll_35 : decode b_M_writeAll 35 = .ok (.iload_n 1, 1) := by decide +kernel
theorem d_M_writeAll_36 : decode b_M_writeAll 36 = .ok (.invokevirtual 202, 3) := by decide +kernel
theorem d_M_writeAll_39 : decode b_M_writeAll 39 = .ok (.aload_n 0, 1) := by decide +kernel
theorem d_M_writeAll_40 : decode b_M_writeAll 40 = .ok (.invokevirtual 295, 3) := by decide +kernel
theorem d_M_writeAll_43 : decode b_M_writeAll 43 = .ok (.aload_n 0, 1) := by decide +kernel
theorem d_M_writeAll_44 : decode b_M_writeAll 44 = .ok (.bipush 32, 2) := by decide +kernel
theorem d_M_writeAll_46 : decode b_M_writeAll 46 = .ok (.invokevirtual 292, 3) := by decide +kernel
theorem d_M_writeAll_49 : decode b_M_writeAll 49 = .ok (.aload_n 0, 1) := by decide +kernel
theorem d_M_writeAll_50 : decode b_M_writeAll 50 = .ok (.invokevirtual 298, 3) := by decide +kernel
theorem d_M_writeAll_53 : decode b_M_writeAll 53 = .ok (.aload_n 0, 1) := by decide +kernel
theorem d_M_writeAll_54 : decode b_M_writeAll 54 = .ok (.iload_n 1, 1) := by decide +kernel
theorem d_M_writeAll_55 : decode b_M_writeAll 55 = .ok (.invokevirtual 286, 3) := by decide +kernel
theorem d_M_writeAll_58 : decode b_M_writeAll 58 = .ok (.aload_n 0, 1) := by decide +kernel
theorem d_M_writeAll_59 : decode b_M_writeAll 59 = .ok (.invokevirtual 295, 3) := by decide +kernel
theorem d_M_writeAll_62 : decode b_M_writeAll 62 = .ok (.aload_n 0, 1) := by decide +kernel
theorem d_M_writeAll_63 : decode b_M_writeAll 63 = .ok (.bipush 58, 2) := by decide +kernel
theorem d_M_writeAll_65 : decode b_M_writeAll 65 = .ok (.invokevirtual 292, 3) := by decide +kernel
theorem d_M_writeAll_68 : decode b_M_writeAll 68 = .ok (.aload_n 0, 1) := by decide +kernel
theorem d_M_writeAll_69 : decode b_M_writeAll 69 = .ok (.bipush 10, 2) := by decide +kernel
theorem d_M_writeAll_71 : decode b_M_writeAll 71 = .ok (.invokevirtual 292, 3) := by decide +kernel
theorem d_M_writeAll_74 : decode b_M_writeAll 74 = .ok (.iconst 1, 1) := by decide +kernel
theorem d_M_writeAll_75 : decode b_M_writeAll 75 = .ok (.istore_n 2, 1) := by decide +kernel
theorem d_M_writeAll_76 : decode b_M_writeAll 76 = .ok (.iload_n 2, 1) := by decide +kernel
theorem d_M_writeAll_77 : decode b_M_writeAll 77 = .ok (.aload_n 0, 1) := by decide +kernel
theorem d_M_writeAll_78 : decode b_M_writeAll 78 = .ok (.getfield 47, 3) := by decide +kernel
theorem d_M_writeAll_81 : decode b_M_writeAll 81 = .ok (.if_icmp .ge 42, 3) := by decide +kernel
theorem d_M_writeAll_84 : decode b_M_writeAll 84 = .ok (.aload_n 0, 1) := by decide +kernel
theorem d_M_writeAll_85 : decode b_M_writeAll 85 = .ok (.getfield 32, 3) := by decide +kernel
theorem d_M_writeAll_88 : decode b_M_writeAll 88 = .ok (.iload_n 2, 1) := by decide +kernel
theorem d_M_writeAll_89 : decode b_M_writeAll 89 = .ok (.iaload, 1) := by decide +kernel
theorem d_M_writeAll_90 : decode b_M_writeAll 90 = .ok (.iload_n 1, 1) := by decide +kernel
theorem d_M_writeAll_91 : decode b_M_writeAll 91 = .ok (.if_icmp .ne 26, 3) := by decide +kernel
theorem d_M_writeAll_94 : decode b_M_writeAll 94 = .ok (.aload_n 0, 1) := by decide +kernel
theorem d_M_writeAll_95 : decode b_M_writeAll 95 = .ok (.getfield 44, 3) := by decide +kernel
theorem d_M_writeAll_98 : decode b_M_writeAll 98 = .ok (.iload_n 2, 1) := by decide +kernel
theorem d_M_writeAll_99 : decode b_M_writeAll 99 = .ok (.baload, 1) := by decide +kernel
theorem d_M_writeAll_100 : decode b_M_writeAll 100 = .ok (.ifCond .ne 17, 3) := by decide +kernel
theorem d_M_writeAll_103 : decode b_M_writeAll 103 = .ok (.aload_n 0, 1) := by decide +kernel
theorem d_M_writeAll_104 : decode b_M_writeAll 104 = .ok (.getfield 126, 3) := by decide +kernel
theorem d_M_writeAll_107 : decode b_M_writeAll 107 = .ok (.iload_n 2, 1) := by decide +kernel
theorem d_M_writeAll_108 : decode b_M_writeAll 108 = .ok (.baload, 1) := by decide +kernel
theorem d_M_writeAll_109 : decode b_M_writeAll 109 = .ok (.ifCond .eq 8, 3) := by decide +kernel
theorem d_M_writeAll_112 : decode b_M_writeAll 112 = .ok (.aload_n 0, 1) := by decide +kernel
theorem d_M_writeAll_113 : decode b_M_writeAll 113 = .ok (.iload_n 2, 1) := by decide +kernel
theorem d_M_writeAll_114 : decode b_M_writeAll 114 = .ok (.invokevirtual 301, 3) := by decide +kernel
theorem d_M_writeAll_117 : decode b_M_writeAll 117 = .ok (.iinc 2 1, 3) := by decide +kernel
theorem d_M_writeAll_120 : decode b_M_writeAll 120 = .ok (.goto (-44), 3) := by decide +kernel
theorem d_M_writeAll_123 : decode b_M_writeAll 123 = .ok (.iinc 1 1, 3) := by decide +kernel
theorem d_M_writeAll_126 : decode b_M_writeAll 126 = .ok (.goto (-119), 3) := by decide +kernel
theorem d_M_writeAll_129 : decode b_M_writeAll 129 = .ok (.return_, 1) := by decide +kernel
theorem d_M_mapping_0 : decode b_M_mapping 0 = .ok (.aload_n 0, 1) := by decide +kernel
theorem d_M_mapping_1 : decode b_M_mapping 1 = .ok (.invokevirtual 277, 3) := by decide +kernel
theorem d_M_mapping_4 : decode b_M_mapping 4 = .ok (.aload_n 0, 1) := by decide +kernel
theorem d_M_mapping_5 : decode b_M_mapping 5 = .ok (.invokevirtual 304, 3) := by decide +kernel
theorem d_M_mapping_8 : decode b_M_mapping 8 = .ok (.iload_n 1, 1) := by decide +kernel
theorem d_M_mapping_9 : decode b_M_mapping 9 = .ok (.iconst (-1), 1) := by decide +kernel
theorem d_M_mapping_10 : decode b_M_mapping 10 = .ok (.if_icmp .ne 10, 3) := by decide +kernel
theorem d_M_mapping_13 : decode b_M_mapping 13 = .ok (.aload_n 0, 1) := by decide +kernel
theorem d_M_mapping_14 : decode b_M_mapping 14 = .ok (.getfield 289, 3) := by decide +kernel
theorem d_M_mapping_17 : decode b_M_mapping 17 = .ok (.goto 28, 3) := by decide +kernel
theorem d_M_mapping_20 : decode b_M_mapping 20 = .ok (.iload_n 1, 1) := by decide +kernel
theorem d_M_mapping_21 : decode b_M_mapping 21 = .ok (.iconst 0, 1) := by decide +kernel
theorem d_M_mapping_22 : decode b_M_mapping 22 = .ok (.aload_n 0, 1) := by decide +kernel
theorem d_M_mapping_23 : decode b_M_mapping 23 = .ok (.getfield 289, 3) := by decide +kernel
theorem d_M_mapping_26 : decode b_M_mapping 26 = .ok (.iconst 1, 1) := by decide +kernel
theorem d_M_mapping_27 : decode b_M_mapping 27 = .ok (.isub, 1) := by decide +kernel
theorem d_M_mapping_28 : decode b_M_mapping 28 = .ok (.invokestatic 135, 3) := by decide +kernel
theorem d_M_mapping_31 : decode b_M_mapping 31 = .ok (.ifCond .eq 12, 3) := by decide +kernel
theorem d_M_mapping_34 : decode b_M_mapping 34 = .ok (.aload_n 0, 1) := by decide +kernel
theorem d_M_mapping_35 : decode b_M_mapping 35 = .ok (.getfield 132, 3) := by decide +kernel
theorem d_M_mapping_38 : decode b_M_mapping 38 = .ok (.iload_n 1, 1) := by decide +kernel
theorem d_M_mapping_39 : decode b_M_mapping 39 = .ok (.iaload, 1) := by decide +kernel
theorem d_M_mapping_40 : decode b_M_mapping 40 = .ok (.goto 5, 3) := by decide +kernel
theorem d_M_mapping_43 : decode b_M_mapping 43 = .ok (.bipush (-2), 2) := by decide +kernel
theorem d_M_mapping_45 : decode b_M_mapping 45 = .ok (.ireturn, 1) := by decide +kernel
theorem d_M_classNamed_0 : decode b_M_classNamed 0 = .ok (.iconst 0, 1) := by decide +kernel
theorem d_M_classNamed_1 : decode b_M_classNamed 1 = .ok (.istore_n 1, 1) := by decide +kernel
theorem d_M_classNamed_2 : decode b_M_classNamed 2 = .ok (.iload_n 1, 1) := by decide +kernel
theorem d_M_classNamed_3 : decode b_M_classNamed 3 = .ok (.bipush 10, 2) := by decide +kernel
theorem d_M_classNamed_5 : decode b_M_classNamed 5 = .ok (.if_icmp .ge 99, 3) := by decide +kernel
theorem d_M_classNamed_8 : decode b_M_classNamed 8 = .ok (.aload_n 0, 1) := by decide +kernel
theorem d_M_classNamed_9 : decode b_M_classNamed 9 = .ok (.getfield 7, 3) := by decide +kernel
theorem d_M_classNamed_12 : decode b_M_classNamed 12 = .ok (.iload_n 1, 1) := by decide +kernel
theorem d_M_classNamed_13 : decode b_M_classNamed 13 = .ok (.baload, 1) := by decide +kernel
theorem d_M_classNamed_14 : decode b_M_classNamed 14 = .ok (.ifCond .eq 84, 3) := by decide +kernel
theorem d_M_classNamed_17 : decode b_M_classNamed 17 = .ok (.aload_n 0, 1) := by decide +kernel
theorem d_M_classNamed_18 : decode b_M_classNamed 18 = .ok (.getfield 117, 3) := by decide +kernel
theorem d_M_classNamed_21 : decode b_M_classNamed 21 = .ok (.iload_n 1, 1) := by decide +kernel
theorem d_M_classNamed_22 : decode b_M_classNamed 22 = .ok (.baload, 1) := by decide +kernel
theorem d_M_classNamed_23 : decode b_M_classNamed 23 = .ok (.ifCond .ne 6, 3) := by decide +kernel
theorem d_M_classNamed_26 : decode b_M_classNamed 26 = .ok (.goto 72, 3) := by decide +kernel
theorem d_M_classNamed_29 : decode b_M_classNamed 29 = .ok (.aload_n 0, 1) := by decide +kernel
theorem d_M_classNamed_30 : decode b_M_classNamed 30 = .ok (.iload_n 1, 1) := by decide +kernel
theorem d_M_classNamed_31 : decode b_M_classNamed 31 = .ok (.invokevirtual 286, 3) := by decide +kernel
theorem d_M_classNamed_34 : decode b_M_classNamed 34 = .ok (.aload_n 0, 1) := by decide +kernel
theorem d_M_classNamed_35 : decode b_M_classNamed 35 = .ok (.getfield 195, 3) := by decide +kernel
theorem d_M_classNamed_38 : decode b_M_classNamed 38 = .ok (.aload_n 0, 1) := by decide +kernel
theorem d_M_classNamed_39 : decode b_M_classNamed 39 = .ok (.getfield 146, 3) := by decide +kernel
theorem d_M_classNamed_42 : decode b_M_classNamed 42 = .ok (.if_icmp .ne 7, 3) := by decide +kernel
theorem d_M_classNamed_45 : decode b_M_classNamed 45 = .ok (.iconst 1, 1) := by decide +kernel
theorem d_M_classNamed_46 : decode b_M_classNamed 46 = .ok (.goto 4, 3) := by decide +kernel
theorem d_M_classNamed_49 : decode b_M_classNamed 49 = .ok (.iconst 0, 1) := by decide +kernel
theorem d_M_classNamed_50 : decode b_M_classNamed 50 = .ok (.istore_n 2, 1) := by decide +kernel
theorem d_M_classNamed_51 : decode b_M_classNamed 51 = .ok (.iconst 0, 1) := by decide +kernel
theorem d_M_classNamed_52 : decode b_M_classNamed 52 = .ok (.istore_n 3, 1) := by decide +kernel
theorem d_M_classNamed_53 : decode b_M_classNamed 53 = .ok (.iload_n 3, 1) := by decide +kernel
theorem d_M_classNamed_54 : decode b_M_classNamed 54 = .ok (.aload_n 0, 1) := by decide +kernel
theorem d_M_classNamed_55 : decode b_M_classNamed 55 = .ok (.getfield 195, 3) := by decide +kernel
theorem d_M_classNamed_58 : decode b_M_classNamed 58 = .ok (.if_icmp .ge 34, 3) := by decide +kernel
theorem d_M_classNamed_61 : decode b_M_classNamed 61 = .ok (.iload_n 2, 1) := by decide +kernel
theorem d_M_classNamed_62 : decode b_M_classNamed 62 = .ok (.ifCond .eq 30, 3) := by decide +kernel
theorem d_M_classNamed_65 : decode b_M_classNamed 65 = .ok (.aload_n 0, 1) := by decide +kernel
theorem d_M_classNamed_66 : decode b_M_classNamed 66 = .ok (.getfield 108, 3) := by decide +kernel
theorem d_M_classNamed_69 : decode b_M_classNamed 69 = .ok (.iload_n 3, 1) := by decide +kernel
theorem d_M_classNamed_70 : decode b_M_classNamed 70 = .ok (.iaload, 1) := by decide +kernel
theorem d_M_classNamed_71 : decode b_M_classNamed 71 = .ok (.aload_n 0, 1) := by decide +kernel
theorem d_M_classNamed_72 : decode b_M_classNamed 72 = .ok (.getfield 66, 3) := by decide +kernel
theorem d_M_classNamed_75 : decode b_M_classNamed 75 = .ok (.iload_n 3, 1) := by decide +kernel
theorem d_M_classNamed_76 : decode b_M_classNamed 76 = .ok (.iaload, 1) := by decide +kernel
theorem d_M_classNamed_77 : decode b_M_classNamed 77 = .ok (.if_icmp .ne 7, 3) := by decide +kernel
theorem d_M_classNamed_80 : decode b_M_classNamed 80 = .ok (.iconst 1, 1) := by decide +kernel
theorem d_M_classNamed_81 : decode b_M_classNamed 81 = .ok (.goto 4, 3) := by decide +kernel
theorem d_M_classNamed_84 : decode b_M_classNamed 84 = .ok (.iconst 0, 1) := by decide +kernel
theorem d_M_classNamed_85 : decode b_M_classNamed 85 = .ok (.istore_n 2, 1) := by decide +kernel
theorem d_M_classNamed_86 : decode b_M_classNamed 86 = .ok (.iinc 3 1, 3) := by decide +kernel
theorem d_M_classNamed_89 : decode b_M_classNamed 89 = .ok (.goto (-36), 3) := by decide +kernel
theorem d_M_classNamed_92 : decode b_M_classNamed 92 = .ok (.iload_n 2, 1) := by decide +kernel
theorem d_M_classNamed_93 : decode b_M_classNamed 93 = .ok (.ifCond .eq 5, 3) := by decide +kernel
theorem d_M_classNamed_96 : decode b_M_classNamed 96 = .ok (.iload_n 1, 1) := by decide +kernel
theorem d_M_classNamed_97 : decode b_M_classNamed 97 = .ok (.ireturn, 1) := by decide +kernel
theorem d_M_classNamed_98 : decode b_M_classNamed 98 = .ok (.iinc 1 1, 3) := by decide +kernel
theorem d_M_classNamed_101 : decode b_M_classNamed 101 = .ok (.goto (-99), 3) := by decide +kernel
theorem d_M_classNamed_104 : decode b_M_classNamed 104 = .ok (.bipush (-2), 2) := by decide +kernel
theorem d_M_classNamed_106 : decode b_M_classNamed 106 = .ok (.ireturn, 1) := by decide +kernel
theorem d_M_trace_0 : decode b_M_trace 0 = .ok (.iload_n 1, 1) := by decide +kernel
theorem d_M_trace_1 : decode b_M_trace 1 = .ok (.ifCond .eq 14, 3) := by decide +kernel
theorem d_M_trace_4 : decode b_M_trace 4 = .ok (.iload_n 1, 1) := by decide +kernel
theorem d_M_trace_5 : decode b_M_trace 5 = .ok (.bipush 97, 2) := by decide +kernel
theorem d_M_trace_7 : decode b_M_trace 7 = .ok (.bipush 122, 2) := by decide +kernel
theorem d_M_trace_9 : decode b_M_trace 9 = .ok (.invokestatic 135, 3) := by decide +kernel
theorem d_M_trace_12 : decode b_M_trace 12 = .ok (.ifCond .eq 12, 3) := by decide +kernel
theorem d_M_trace_15 : decode b_M_trace 15 = .ok (.iload_n 2, 1) := by decide +kernel
theorem d_M_trace_16 : decode b_M_trace 16 = .ok (.iconst 0, 1) := by decide +kernel
theorem d_M_trace_17 : decode b_M_trace 17 = .ok (.iconst 1, 1) := by decide +kernel
theorem d_M_trace_18 : decode b_M_trace 18 = .ok (.invokestatic 135, 3) := by decide +kernel
theorem d_M_trace_21 : decode b_M_trace 21 = .ok (.ifCond .ne 5, 3) := by decide +kernel
theorem d_M_trace_24 : decode b_M_trace 24 = .ok (.iconst (-1), 1) := by decide +kernel
theorem d_M_trace_25 : decode b_M_trace 25 = .ok (.ireturn, 1) := by decide +kernel
theorem d_M_trace_26 : decode b_M_trace 26 = .ok (.aload_n 0, 1) := by decide +kernel
theorem d_M_trace_27 : decode b_M_trace 27 = .ok (.invokevirtual 277, 3) := by decide +kernel
theorem d_M_trace_30 : decode b_M_trace 30 = .ok (.aload_n 0, 1) := by decide +kernel
theorem d_M_trace_31 : decode b_M_trace 31 = .ok (.invokevirtual 307, 3) := by decide +kernel
theorem d_M_trace_34 : decode b_M_trace 34 = .ok (.istore 4, 2) := by decide +kernel
theorem d_M_trace_36 : decode b_M_trace 36 = .ok (.iload 4, 2) := by decide +kernel
theorem d_M_trace_38 : decode b_M_trace 38 = .ok (.ifCond .lt 7, 3) := by decide +kernel
theorem d_M_trace_41 : decode b_M_trace 41 = .ok (.iload_n 1, 1) := by decide +kernel
theorem d_M_trace_42 : decode b_M_trace 42 = .ok (.ifCond .ne 6, 3) := by decide +kernel
theorem d_M_trace_45 : decode b_M_trace 45 = .ok (.iload 4, 2) := by decide +kernel
theorem d_M_trace_47 : decode b_M_trace 47 = .ok (.ireturn, 1) := by decide +kernel
theorem d_M_trace_48 : decode b_M_trace 48 = .ok (.iconst 0, 1) := by decide +kernel
theorem d_M_trace_49 : decode b_M_trace 49 = .ok (.istore 5, 2) := by decide +kernel
theorem d_M_trace_51 : decode b_M_trace 51 = .ok (.iload 5, 2) := by decide +kernel
theorem d_M_trace_53 : decode b_M_trace 53 = .ok (.aload_n 0, 1) := by decide +kernel
theorem d_M_trace_54 : decode b_M_trace 54 = .ok (.getfield 47, 3) := by decide +kernel
theorem d_M_trace_57 : decode b_M_trace 57 = .ok (.if_icmp .ge 96, 3) := by decide +kernel
theorem d_M_trace_60 : decode b_M_trace 60 = .ok (.aload_n 0, 1) := by decide +kernel
theorem d_M_trace_61 : decode b_M_trace 61 = .ok (.getfield 44, 3) := by decide +kernel
theorem d_M_trace_64 : decode b_M_trace 64 = .ok (.iload 5, 2) := by decide +kernel
theorem d_M_trace_66 : decode b_M_trace 66 = .ok (.baload, 1) := by decide +kernel
theorem d_M_trace_67 : decode b_M_trace 67 = .ok (.ifCond .ne 80, 3) := by decide +kernel
theorem d_M_trace_70 : decode b_M_trace 70 = .ok (.aload_n 0, 1) := by decide +kernel
theorem d_M_trace_71 : decode b_M_trace 71 = .ok (.getfield 126, 3) := by decide +kernel
theorem d_M_trace_74 : decode b_M_trace 74 = .ok (.iload 5, 2) := by decide +kernel
theorem d_M_trace_76 : decode b_M_trace 76 = .ok (.baload, 1) := by decide +kernel
theorem d_M_trace_77 : decode b_M_trace 77 = .ok (.ifCond .eq 70, 3) := by decide +kernel
theorem d_M_trace_80 : decode b_M_trace 80 = .ok (.aload_n 0, 1) := by decide +kernel
theorem d_M_trace_81 : decode b_M_trace 81 = .ok (.getfield 32, 3) := by decide +kernel
theorem d_M_trace_84 : decode b_M_trace 84 = .ok (.iload 5, 2) := by decide +kernel
theorem d_M_trace_86 : decode b_M_trace 86 = .ok (.iaload, 1) := by decide +kernel
theorem d_M_trace_87 : decode b_M_trace 87 = .ok (.iload 4, 2) := by decide +kernel
theorem d_M_trace_89 : decode b_M_trace 89 = .ok (.if_icmp .ne 58, 3) := by decide +kernel
theorem d_M_trace_92 : decode b_M_trace 92 = .ok (.aload_n 0, 1) := by decide +kernel
theorem d_M_trace_93 : decode b_M_trace 93 = .ok (.getfield 41, 3) := by decide +kernel
theorem d_M_trace_96 : decode b_M_trace 96 = .ok (.iload 5, 2) := by decide +kernel
theorem d_M_trace_98 : decode b_M_trace 98 = .ok (.iaload, 1) := by decide +kernel
theorem d_M_trace_99 : decode b_M_trace 99 = .ok (.iconst 1, 1) := by decide +kernel
theorem d_M_trace_100 : decode b_M_trace 100 = .ok (.iand, 1) := by decide +kernel
theorem d_M_trace_101 : decode b_M_trace 101 = .ok (.iconst 1, 1) := by decide +kernel
theorem d_M_trace_102 : decode b_M_trace 102 = .ok (.if_icmp .ne 7, 3) := by decide +kernel
theorem d_M_trace_105 : decode b_M_trace 105 = .ok (.iconst 1, 1) := by decide +kernel
theorem d_M_trace_106 : decode b_M_trace 106 = .ok (.goto 4, 3) := by decide +kernel
theorem d_M_trace_109 : decode b_M_trace 109 = .ok (.iconst 0, 1) := by decide +kernel
theorem d_M_trace_110 : decode b_M_trace 110 = .ok (.iload_n 3, 1) := by decide +kernel
theorem d_M_trace_111 : decode b_M_trace 111 = .ok (.if_icmp .ne 36, 3) := by decide +kernel
theorem d_M_trace_114 : decode b_M_trace 114 = .ok (.aload_n 0, 1) := by decide +kernel
theorem d_M_trace_115 : decode b_M_trace 115 = .ok (.getfield 38, 3) := by decide +kernel
theorem d_M_trace_118 : decode b_M_trace 118 = .ok (.iload 5, 2) := by decide +kernel
theorem d_M_trace_120 : decode b_M_trace 120 = .ok (.iaload, 1) := by decide +kernel
theorem d_M_trace_121 : decode b_M_trace 121 = .ok (.iload_n 2, 1) := by decide +kernel
theorem d_M_trace_122 : decode b_M_trace 122 = .ok (.if_icmp .eq 6, 3) := by decide +kernel
theorem d_M_trace_125 : decode b_M_trace 125 = .ok (.goto 22, 3) := by decide +kernel
theorem d_M_trace_128 : decode b_M_trace 128 = .ok (.aload_n 0, 1) := by decide +kernel
theorem d_M_trace_129 : decode b_M_trace 129 = .ok (.iload 5, 2) := by decide +kernel
theorem d_M_trace_131 : decode b_M_trace 131 = .ok (.invokevirtual 283, 3) := by decide +kernel
theorem d_M_trace_134 : decode b_M_trace 134 = .ok (.aload_n 0, 1) := by decide +kernel
theorem d_M_trace_135 : decode b_M_trace 135 = .ok (.getfield 108, 3) := by decide +kernel
theorem d_M_trace_138 : decode b_M_trace 138 = .ok (.iconst 0, 1) := by decide +kernel
theorem d_M_trace_139 : decode b_M_trace 139 = .ok (.iaload, 1) := by decide +kernel
theorem d_M_trace_140 : decode b_M_trace 140 = .ok (.iload_n 1, 1) := by decide +kernel
theorem d_M_trace_141 : decode b_M_trace 141 = .ok (.if_icmp .ne 6, 3) := by decide +kernel
theorem d_M_trace_144 : decode b_M_trace 144 = .ok (.iload 5, 2) := by decide +kernel
theorem d_M_trace_146 : decode b_M_trace 146 = .ok (.ireturn, 1) := by decide +kernel
theorem d_M_trace_147 : decode b_M_trace 147 = .ok (.iinc 5 1, 3) := by decide +kernel
theorem d_M_trace_150 : decode b_M_trace 150 = .ok (.goto (-99), 3) := by decide +kernel
theorem d_M_trace_153 : decode b_M_trace 153 = .ok (.bipush (-2), 2) := by decide +kernel
theorem d_M_trace_155 : decode b_M_trace 155 = .ok (.ireturn, 1) := by decide +kernel
theorem d_M_active_0 : decode b_M_active 0 = .ok (.iconst 0, 1) := by decide +kernel
theorem d_M_active_1 : decode b_M_active 1 = .ok (.istore_n 2, 1) := by decide +kernel
theorem d_M_active_2 : decode b_M_active 2 = .ok (.iconst 0, 1) := by decide +kernel
theorem d_M_active_3 : decode b_M_active 3 = .ok (.istore_n 3, 1) := by decide +kernel
theorem d_M_active_4 : decode b_M_active 4 = .ok (.iload_n 3, 1) := by decide +kernel
theorem d_M_active_5 : decode b_M_active 5 = .ok (.aload_n 0, 1) := by decide +kernel
theorem d_M_active_6 : decode b_M_active 6 = .ok (.getfield 143, 3) := by decide +kernel
theorem d_M_active_9 : decode b_M_active 9 = .ok (.if_icmp .ge 105, 3) := by decide +kernel
theorem d_M_active_12 : decode b_M_active 12 = .ok (.aload_n 0, 1) := by decide +kernel
theorem d_M_active_13 : decode b_M_active 13 = .ok (.iload_n 3, 1) := by decide +kernel
theorem d_M_active_14 : decode b_M_active 14 = .ok (.invokevirtual 259, 3) := by decide +kernel
theorem d_M_active_17 : decode b_M_active 17 = .ok (.ifCond .ne 6, 3) := by decide +kernel
theorem d_M_active_20 : decode b_M_active 20 = .ok (.goto 88, 3) := by decide +kernel
theorem d_M_active_23 : decode b_M_active 23 = .ok (.aload_n 0, 1) := by decide +kernel
theorem d_M_active_24 : decode b_M_active 24 = .ok (.getfield 7, 3) := by decide +kernel
theorem d_M_active_27 : decode b_M_active 27 = .ok (.aload_n 0, 1) := by decide +kernel
theorem d_M_active_28 : decode b_M_active 28 = .ok (.getfield 57, 3) := by decide +kernel
theorem d_M_active_31 : decode b_M_active 31 = .ok (.iload_n 3, 1) := by decide +kernel
theorem d_M_active_32 : decode b_M_active 32 = .ok (.iaload, 1) := by decide +kernel
theorem d_M_active_33 : decode b_M_active 33 = .ok (.baload, 1) := by decide +kernel
theorem d_M_active_34 : decode b_M_active 34 = .ok (.ifCond .eq 55, 3) := by decide +kernel
theorem d_M_active_37 : decode b_M_active 37 = .ok (.aload_n 0, 1) := by decide +kernel
theorem d_M_active_38 : decode b_M_active 38 = .ok (.getfield 54, 3) := by decide +kernel
theorem d_M_active_41 : decode b_M_active 41 = .ok (.iload_n 3, 1) := by decide +kernel
theorem d_M_active_42 : decode b_M_active 42 = .ok (.iaload, 1) := by decide +kernel
theorem d_M_active_43 : decode b_M_active 43 = .ok (.iconst 1, 1) := by decide +kernel
theorem d_M_active_44 : decode b_M_active 44 = .ok (.if_icmp .le 49, 3) := by decide +kernel
theorem d_M_active_47 : decode b_M_active 47 = .ok (.aload_n 0, 1) := by decide +kernel
theorem d_M_active_48 : decode b_M_active 48 = .ok (.aload_n 0, 1) := by decide +kernel
theorem d_M_active_49 : decode b_M_active 49 = .ok (.getfield 57, 3) := by decide +kernel
theorem d_M_active_52 : decode b_M_active 52 = .ok (.iload_n 3, 1) := by decide +kernel
theorem d_M_active_53 : decode b_M_active 53 = .ok (.iaload, 1) := by decide +kernel
theorem d_M_active_54 : decode b_M_active 54 = .ok (.aload_n 0, 1) := by decide +kernel
theorem d_M_active_55 : decode b_M_active 55 = .ok (.getfield 54, 3) := by decide +kernel
theorem d_M_active_58 : decode b_M_active 58 = .ok (.iload_n 3, 1) := by decide +kernel
theorem d_M_active_59 : decode b_M_active 59 = .ok (.iaload, 1) := by decide +kernel
theorem d_M_active_60 : decode b_M_active 60 = .ok (.iconst 2, 1) := by decide +kernel
theorem d_M_active_61 : decode b_M_active 61 = .ok (.if_icmp .ne 7, 3) := by decide +kernel
theorem d_M_active_64 : decode b_M_active 64 = .ok (.iconst 0, 1) := by decide +kernel
theorem d_M_active_65 : decode b_M_active 65 = .ok (.goto 4, 3) := by decide +kernel
theorem d_M_active_68 : decode b_M_active 68 = .ok (.iconst 1, 1) := by decide +kernel
theorem d_M_active_69 : decode b_M_active 69 = .ok (.aload_n 0, 1) := by decide +kernel
theorem d_M_active_70 : decode b_M_active 70 = .ok (.getfield 60, 3) := by decide +kernel
theorem d_M_active_73 : decode b_M_active 73 = .ok (.iload_n 3, 1) := by decide +kernel
theorem d_M_active_74 : decode b_M_active 74 = .ok (.iaload, 1) := by decide +kernel
theorem d_M_active_75 : decode b_M_active 75 = .ok (.aload_n 0, 1) := by decide +kernel
theorem d_M_active_76 : decode b_M_active 76 = .ok (.getfield 63, 3) := by decide +kernel
theorem d_M_active_79 : decode b_M_active 79 = .ok (.iload_n 3, 1) := by decide +kernel
theorem d_M_active_80 : decode b_M_active 80 = .ok (.iaload, 1) := by decide +kernel
theorem d_M_active_81 : decode b_M_active 81 = .ok (.iconst 0, 1) := by decide +kernel
theorem d_M_active_82 : decode b_M_active 82 = .ok (.iconst 0, 1) := by decide +kernel
theorem d_M_active_83 : decode b_M_active 83 = .ok (.invokevirtual 243, 3) := by decide +kernel
theorem d_M_active_86 : decode b_M_active 86 = .ok (.ifCond .ge 7, 3) := by decide +kernel
theorem d_M_active_89 : decode b_M_active 89 = .ok (.iconst 1, 1) := by decide +kernel
theorem d_M_active_90 : decode b_M_active 90 = .ok (.goto 4, 3) := by decide +kernel
theorem d_M_active_93 : decode b_M_active 93 = .ok (.iconst 0, 1) := by decide +kernel
theorem d_M_active_94 : decode b_M_active 94 = .ok (.istore 4, 2) := by decide +kernel
theorem d_M_active_96 : decode b_M_active 96 = .ok (.iload_n 1, 1) := by decide +kernel
theorem d_M_active_97 : decode b_M_active 97 = .ok (.ifCond .eq 8, 3) := by decide +kernel
theorem d_M_active_100 : decode b_M_active 100 = .ok (.iload 4, 2) := by decide +kernel
theorem d_M_active_102 : decode b_M_active 102 = .ok (.ifCond .eq 6, 3) := by decide +kernel
theorem d_M_active_105 : decode b_M_active 105 = .ok (.iinc 2 1, 3) := by decide +kernel
theorem d_M_active_108 : decode b_M_active 108 = .ok (.iinc 3 1, 3) := by decide +kernel
theorem d_M_active_111 : decode b_M_active 111 = .ok (.goto (-107), 3) := by decide +kernel
theorem d_M_active_114 : decode b_M_active 114 = .ok (.iload_n 2, 1) := by decide +kernel
theorem d_M_active_115 : decode b_M_active 115 = .ok (.ireturn, 1) := by decide +kernel
theorem d_M_classes_0 : decode b_M_classes 0 = .ok (.iconst 0, 1) := by decide +kernel
theorem d_M_classes_1 : decode b_M_classes 1 = .ok (.istore_n 2, 1) := by decide +kernel
theorem d_M_classes_2 : decode b_M_classes 2 = .ok (.iconst 0, 1) := by decide +kernel
theorem d_M_classes_3 : decode b_M_classes 3 = .ok (.istore_n 3, 1) := by decide +kernel
theorem d_M_classes_4 : decode b_M_classes 4 = .ok (.iload_n 3, 1) := by decide +kernel
theorem d_M_classes_5 : decode b_M_classes 5 = .ok (.bipush 10, 2) := by decide +kernel
theorem d_M_classes_7 : decode b_M_classes 7 = .ok (.if_icmp .ge 68, 3) := by decide +kernel
theorem d_M_classes_10 : decode b_M_classes 10 = .ok (.aload_n 0, 1) := by decide +kernel
theorem d_M_classes_11 : decode b_M_classes 11 = .ok (.getfield 7, 3) := by decide +kernel
theorem d_M_classes_14 : decode b_M_classes 14 = .ok (.iload_n 3, 1) := by decide +kernel
theorem d_M_classes_15 : decode b_M_classes 15 = .ok (.baload, 1) := by decide +kernel
theorem d_M_classes_16 : decode b_M_classes 16 = .ok (.ifCond .eq 53, 3) := by decide +kernel
theorem d_M_classes_19 : decode b_M_classes 19 = .ok (.iload_n 1, 1) := by decide +kernel
theorem d_M_classes_20 : decode b_M_classes 20 = .ok (.ifCond .eq 46, 3) := by decide +kernel
theorem d_M_classes_23 : decode b_M_classes 23 = .ok (.iload_n 1, 1) := by decide +kernel
theorem d_M_classes_24 : decode b_M_classes 24 = .ok (.iconst 4, 1) := by decide +kernel
theorem d_M_classes_25 : decode b_M_classes 25 = .ok (.if_icmp .ne 12, 3) := by decide +kernel
theorem d_M_classes_28 : decode b_M_classes 28 = .ok (.aload_n 0, 1) := by decide +kernel
theorem d_M_classes_29 : decode b_M_classes 29 = .ok (.getfield 117, 3) := by decide +kernel
theorem d_M_classes_32 : decode b_M_classes 32 = .ok (.iload_n 3, 1) := by decide +kernel
theorem d_M_classes_33 : decode b_M_classes 33 = .ok (.baload, 1) := by decide +kernel
theorem d_M_classes_34 : decode b_M_classes 34 = .ok (.ifCond .ne 32, 3) := by decide +kernel
theorem d_M_classes_37 : decode b_M_classes 37 = .ok (.iload_n 1, 1) := by decide +kernel
theorem d_M_classes_38 : decode b_M_classes 38 = .ok (.iconst 5, 1) := by decide +kernel
theorem d_M_classes_39 : decode b_M_classes 39 = .ok (.if_icmp .ne 12, 3) := by decide +kernel
theorem d_M_classes_42 : decode b_M_classes 42 = .ok (.aload_n 0, 1) := by decide +kernel
theorem d_M_classes_43 : decode b_M_classes 43 = .ok (.getfield 120, 3) := by decide +kernel
theorem d_M_classes_46 : decode b_M_classes 46 = .ok (.iload_n 3, 1) := by decide +kernel
theorem d_M_classes_47 : decode b_M_classes 47 = .ok (.baload, 1) := by decide +kernel
theorem d_M_classes_48 : decode b_M_classes 48 = .ok (.ifCond .ne 18, 3) := by decide +kernel
theorem d_M_classes_51 : decode b_M_classes 51 = .ok (.iload_n 1, 1) := by decide +kernel
theorem d_M_classes_52 : decode b_M_classes 52 = .ok (.bipush 6, 2) := by decide +kernel
theorem d_M_classes_54 : decode b_M_classes 54 = .ok (.if_icmp .ne 15, 3) := by decide +kernel
theorem d_M_classes_57 : decode b_M_classes 57 = .ok (.aload_n 0, 1) := by decide +kernel
theorem d_M_classes_58 : decode b_M_classes 58 = .ok (.getfield 123, 3) := by decide +kernel
theorem d_M_classes_61 : decode b_M_classes 61 = .ok (.iload_n 3, 1) := by decide +kernel
theorem d_M_classes_62 : decode b_M_classes 62 = .ok (.baload, 1) := by decide +kernel
theorem d_M_classes_63 : decode b_M_classes 63 = .ok (.ifCond .eq 6, 3) := by decide +kernel
theorem d_M_classes_66 : decode b_M_classes 66 = .ok (.iinc 2 1, 3) := by decide +kernel
theorem d_M_classes_69 : decode b_M_classes 69 = .ok (.iinc 3 1, 3) := by decide +kernel
theorem d_M_classes_72 : decode b_M_classes 72 = .ok (.goto (-68), 3) := by decide +kernel
theorem d_M_classes_75 : decode b_M_classes 75 = .ok (.iload_n 2, 1) := by decide +kernel
theorem d_M_classes_76 : decode b_M_classes 76 = .ok (.ireturn, 1) := by decide +kernel
theorem d_M_parts_0 : decode b_M_parts 0 = .ok (.iconst 0, 1) := by decide +kernel
theorem d_M_parts_1 : decode b_M_parts 1 = .ok (.istore_n 2, 1) := by decide +kernel
theorem d_M_parts_2 : decode b_M_parts 2 = .ok (.iconst 0, 1) := by decide +kernel
theorem d_M_parts_3 : decode b_M_parts 3 = .ok (.istore_n 3, 1) := by decide +kernel
theorem d_M_parts_4 : decode b_M_parts 4 = .ok (.iload_n 3, 1) := by decide +kernel
theorem d_M_parts_5 : decode b_M_parts 5 = .ok (.aload_n 0, 1) := by decide +kernel
theorem d_M_parts_6 : decode b_M_parts 6 = .ok (.getfield 47, 3) := by decide +kernel
theorem d_M_parts_9 : decode b_M_parts 9 = .ok (.if_icmp .ge 34, 3) := by decide +kernel
theorem d_M_parts_12 : decode b_M_parts 12 = .ok (.aload_n 0, 1) := by decide +kernel
theorem d_M_parts_13 : decode b_M_parts 13 = .ok (.getfield 44, 3) := by decide +kernel
theorem d_M_parts_16 : decode b_M_parts 16 = .ok (.iload_n 3, 1) := by decide +kernel
theorem d_M_parts_17 : decode b_M_parts 17 = .ok (.baload, 1) := by decide +kernel
theorem d_M_parts_18 : decode b_M_parts 18 = .ok (.ifCond .ne 19, 3) := by decide +kernel
theorem d_M_parts_21 : decode b_M_parts 21 = .ok (.iload_n 1, 1) := by decide +kernel
theorem d_M_parts_22 : decode b_M_parts 22 = .ok (.ifCond .eq 12, 3) := by decide +kernel
theorem d_M_parts_25 : decode b_M_parts 25 = .ok (.aload_n 0, 1) := by decide +kernel
theorem d_M_parts_26 : decode b_M_parts 26 = .ok (.getfield 126, 3) := by decide +kernel
theorem d_M_parts_29 : decode b_M_parts 29 = .ok (.iload_n 3, 1) := by decide +kernel
theorem d_M_parts_30 : decode b_M_parts 30 = .ok (.baload, 1) := by decide +kernel
theorem d_M_parts_31 : decode b_M_parts 31 = .ok (.ifCond .eq 6, 3) := by decide +kernel
theorem d_M_parts_34 : decode b_M_parts 34 = .ok (.iinc 2 1, 3) := by decide +kernel
theorem d_M_parts_37 : decode b_M_parts 37 = .ok (.iinc 3 1, 3) := by decide +kernel
theorem d_M_parts_40 : decode b_M_parts 40 = .ok (.goto (-36), 3) := by decide +kernel
theorem d_M_parts_43 : decode b_M_parts 43 = .ok (.iload_n 2, 1) := by decide +kernel
theorem d_M_parts_44 : decode b_M_parts 44 = .ok (.ireturn, 1) := by decide +kernel
theorem d_M_count_0 : decode b_M_count 0 = .ok (.aload_n 0, 1) := by decide +kernel
theorem d_M_count_1 : decode b_M_count 1 = .ok (.invokevirtual 277, 3) := by decide +kernel
theorem d_M_count_4 : decode b_M_count 4 = .ok (.iload_n 1, 1) := by decide +kernel
theorem d_M_count_5 : decode b_M_count 5 = .ok (.tableswitch 95 0 9 #[55, 61, 67, 72, 55, 55, 55, 77, 83, 89], 55) := by decide +kernel
theorem d_M_count_60 : decode b_M_count 60 = .ok (.aload_n 0, 1) := by decide +kernel
theorem d_M_count_61 : decode b_M_count 61 = .ok (.iload_n 1, 1) := by decide +kernel
theorem d_M_count_62 : decode b_M_count 62 = .ok (.invokevirtual 310, 3) := by decide +kernel
theorem d_M_count_65 : decode b_M_count 65 = .ok (.ireturn, 1) := by decide +kernel
theorem d_M_count_66 : decode b_M_count 66 = .ok (.aload_n 0, 1) := by decide +kernel
theorem d_M_count_67 : decode b_M_count 67 = .ok (.iconst 0, 1) := by decide +kernel
theorem d_M_count_68 : decode b_M_count 68 = .ok (.invokevirtual 313, 3) := by decide +kernel
theorem d_M_count_71 : decode b_M_count 71 = .ok (.ireturn, 1) := by decide +kernel
theorem d_M_count_72 : decode b_M_count 72 = .ok (.aload_n 0, 1) := by decide +kernel
theorem d_M_count_73 : decode b_M_count 73 = .ok (.getfield 143, 3) := by decide +kernel
theorem d_M_count_76 : decode b_M_count 76 = .ok (.ireturn, 1) := by decide +kernel
theorem d_M_count_77 : decode b_M_count 77 = .ok (.aload_n 0, 1) := by decide +kernel
theorem d_M_count_78 : decode b_M_count 78 = .ok (.getfield 185, 3) := by decide +kernel
theorem d_M_count_81 : decode b_M_count 81 = .ok (.ireturn, 1) := by decide +kernel
theorem d_M_count_82 : decode b_M_count 82 = .ok (.aload_n 0, 1) := by decide +kernel
theorem d_M_count_83 : decode b_M_count 83 = .ok (.iconst 1, 1) := by decide +kernel
theorem d_M_count_84 : decode b_M_count 84 = .ok (.invokevirtual 313, 3) := by decide +kernel
theorem d_M_count_87 : decode b_M_count 87 = .ok (.ireturn, 1) := by decide +kernel
theorem d_M_count_88 : decode b_M_count 88 = .ok (.aload_n 0, 1) := by decide +kernel
theorem d_M_count_89 : decode b_M_count 89 = .ok (.iconst 0, 1) := by decide +kernel
theorem d_M_count_90 : decode b_M_count 90 = .ok (.invokevirtual 317, 3) := by decide +kernel
theorem d_M_count_93 : decode b_M_count 93 = .ok (.ireturn, 1) := by decide +kernel
theorem d_M_count_94 : decode b_M_count 94 = .ok (.aload_n 0, 1) := by decide +kernel
theorem d_M_count_95 : decode b_M_count 95 = .ok (.iconst 1, 1) := by decide +kernel
theorem d_M_count_96 : decode b_M_count 96 = .ok (.invokevirtual 317, 3) := by decide +kernel
theorem d_M_count_99 : decode b_M_count 99 = .ok (.ireturn, 1) := by decide +kernel
theorem d_M_count_100 : decode b_M_count 100 = .ok (.iconst (-1), 1) := by decide +kernel
theorem d_M_count_101 : decode b_M_count 101 = .ok (.ireturn, 1) := by decide +kernel
