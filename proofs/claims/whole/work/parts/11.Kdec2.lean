theorem d_K_Types_isUnder_0 : decode b_K_Types_isUnder 0 = .ok (.iload_n 1, 1) := by decide +kernel
theorem d_K_Types_isUnder_1 : decode b_K_Types_isUnder 1 = .ok (.iload_n 2, 1) := by decide +kernel
theorem d_K_Types_isUnder_2 : decode b_K_Types_isUnder 2 = .ok (.if_icmp .eq 16, 3) := by decide +kernel
theorem d_K_Types_isUnder_5 : decode b_K_Types_isUnder 5 = .ok (.aload_n 0, 1) := by decide +kernel
theorem d_K_Types_isUnder_6 : decode b_K_Types_isUnder 6 = .ok (.getfield 34, 3) := by decide +kernel
theorem d_K_Types_isUnder_9 : decode b_K_Types_isUnder 9 = .ok (.iload_n 1, 1) := by decide +kernel
theorem d_K_Types_isUnder_10 : decode b_K_Types_isUnder 10 = .ok (.laload, 1) := by decide +kernel
theorem d_K_Types_isUnder_11 : decode b_K_Types_isUnder 11 = .ok (.iload_n 2, 1) := by decide +kernel
theorem d_K_Types_isUnder_12 : decode b_K_Types_isUnder 12 = .ok (.invokestatic 53, 3) := by decide +kernel
theorem d_K_Types_isUnder_15 : decode b_K_Types_isUnder 15 = .ok (.ifCond .eq 7, 3) := by decide +kernel
theorem d_K_Types_isUnder_18 : decode b_K_Types_isUnder 18 = .ok (.iconst 1, 1) := by decide +kernel
theorem d_K_Types_isUnder_19 : decode b_K_Types_isUnder 19 = .ok (.goto 4, 3) := by decide +kernel
theorem d_K_Types_isUnder_22 : decode b_K_Types_isUnder 22 = .ok (.iconst 0, 1) := by decide +kernel
theorem d_K_Types_isUnder_23 : decode b_K_Types_isUnder 23 = .ok (.ireturn, 1) := by decide +kernel
theorem d_K_Needs_addSelected_0 : decode b_K_Needs_addSelected 0 = .ok (.iload_n 1, 1) := by decide +kernel
theorem d_K_Needs_addSelected_1 : decode b_K_Needs_addSelected 1 = .ok (.istore_n 3, 1) := by decide +kernel
theorem d_K_Needs_addSelected_2 : decode b_K_Needs_addSelected 2 = .ok (.iload_n 3, 1) := by decide +kernel
theorem d_K_Needs_addSelected_3 : decode b_K_Needs_addSelected 3 = .ok (.bipush 10, 2) := by decide +kernel
theorem d_K_Needs_addSelected_5 : decode b_K_Needs_addSelected 5 = .ok (.if_icmp .ge 71, 3) := by decide +kernel
theorem d_K_Needs_addSelected_8 : decode b_K_Needs_addSelected 8 = .ok (.aload_n 0, 1) := by decide +kernel
theorem d_K_Needs_addSelected_9 : decode b_K_Needs_addSelected 9 = .ok (.getfield 38, 3) := by decide +kernel
theorem d_K_Needs_addSelected_12 : decode b_K_Needs_addSelected 12 = .ok (.iload_n 3, 1) := by decide +kernel
theorem d_K_Needs_addSelected_13 : decode b_K_Needs_addSelected 13 = .ok (.invokestatic 77, 3) := by decide +kernel
theorem d_K_Needs_addSelected_16 : decode b_K_Needs_addSelected 16 = .ok (.ifCond .eq 54, 3) := by decide +kernel
theorem d_K_Needs_addSelected_19 : decode b_K_Needs_addSelected 19 = .ok (.aload_n 0, 1) := by decide +kernel
theorem d_K_Needs_addSelected_20 : decode b_K_Needs_addSelected 20 = .ok (.getfield 9, 3) := by decide +kernel
theorem d_K_Needs_addSelected_23 : decode b_K_Needs_addSelected 23 = .ok (.iload_n 3, 1) := by decide +kernel
theorem d_K_Needs_addSelected_24 : decode b_K_Needs_addSelected 24 = .ok (.iload_n 1, 1) := by decide +kernel
theorem d_K_Needs_addSelected_25 : decode b_K_Needs_addSelected 25 = .ok (.invokevirtual 161, 3) := by decide +kernel
theorem d_K_Needs_addSelected_28 : decode b_K_Needs_addSelected 28 = .ok (.ifCond .eq 42, 3) := by decide +kernel
theorem d_K_Needs_addSelected_31 : decode b_K_Needs_addSelected 31 = .ok (.aload_n 0, 1) := by decide +kernel
theorem d_K_Needs_addSelected_32 : decode b_K_Needs_addSelected 32 = .ok (.getfield 15, 3) := by decide +kernel
theorem d_K_Needs_addSelected_35 : decode b_K_Needs_addSelected 35 = .ok (.iload_n 3, 1) := by decide +kernel
theorem d_K_Needs_addSelected_36 : decode b_K_Needs_addSelected 36 = .ok (.iload_n 2, 1) := by decide +kernel
theorem d_K_Needs_addSelected_37 : decode b_K_Needs_addSelected 37 = .ok (.aload_n 0, 1) := by decide +kernel
theorem d_K_Needs_addSelected_38 : decode b_K_Needs_addSelected 38 = .ok (.getfield 15, 3) := by decide +kernel
theorem d_K_Needs_addSelected_41 : decode b_K_Needs_addSelected 41 = .ok (.getfield 164, 3) := by decide +kernel
theorem d_K_Needs_addSelected_44 : decode b_K_Needs_addSelected 44 = .ok (.invokevirtual 105, 3) := by decide +kernel
theorem d_K_Needs_addSelected_47 : decode b_K_Needs_addSelected 47 = .ok (.istore 4, 2) := by decide +kernel
theorem d_K_Needs_addSelected_49 : decode b_K_Needs_addSelected 49 = .ok (.iload 4, 2) := by decide +kernel
theorem d_K_Needs_addSelected_51 : decode b_K_Needs_addSelected 51 = .ok (.bipush (-2), 2) := by decide +kernel
theorem d_K_Needs_addSelected_53 : decode b_K_Needs_addSelected 53 = .ok (.if_icmp .eq 17, 3) := by decide +kernel
theorem d_K_Needs_addSelected_56 : decode b_K_Needs_addSelected 56 = .ok (.aload_n 0, 1) := by decide +kernel
theorem d_K_Needs_addSelected_57 : decode b_K_Needs_addSelected 57 = .ok (.dup, 1) := by decide +kernel
theorem d_K_Needs_addSelected_58 : decode b_K_Needs_addSelected 58 = .ok (.getfield 35, 3) := by decide +kernel
theorem d_K_Needs_addSelected_61 : decode b_K_Needs_addSelected 61 = .ok (.iload 4, 2) := by decide +kernel
theorem d_K_Needs_addSelected_63 : decode b_K_Needs_addSelected 63 = .ok (.invokestatic 27, 3) := by decide +kernel
theorem d_K_Needs_addSelected_66 : decode b_K_Needs_addSelected 66 = .ok (.lor, 1) := by decide +kernel
theorem d_K_Needs_addSelected_67 : decode b_K_Needs_addSelected 67 = .ok (.putfield 35, 3) := by decide +kernel
theorem d_K_Needs_addSelected_70 : decode b_K_Needs_addSelected 70 = .ok (.iinc 3 1, 3) := by decide +kernel
theorem d_K_Needs_addSelected_73 : decode b_K_Needs_addSelected 73 = .ok (.goto (-71), 3) := by decide +kernel
theorem d_K_Needs_addSelected_76 : decode b_K_Needs_addSelected 76 = .ok (.return_, 1) := by decide +kernel
theorem d_K_Needs_addByReferences_0 : decode b_K_Needs_addByReferences 0 = .ok (.iconst 0, 1) := by decide +kernel
theorem d_K_Needs_addByReferences_1 : decode b_K_Needs_addByReferences 1 = .ok (.istore_n 1, 1) := by decide +kernel
theorem d_K_Needs_addByReferences_2 : decode b_K_Needs_addByReferences 2 = .ok (.iload_n 1, 1) := by decide +kernel
theorem d_K_Needs_addByReferences_3 : decode b_K_Needs_addByReferences 3 = .ok (.aload_n 0, 1) := by decide +kernel
theorem d_K_Needs_addByReferences_4 : decode b_K_Needs_addByReferences 4 = .ok (.getfield 19, 3) := by decide +kernel
theorem d_K_Needs_addByReferences_7 : decode b_K_Needs_addByReferences 7 = .ok (.getfield 67, 3) := by decide +kernel
theorem d_K_Needs_addByReferences_10 : decode b_K_Needs_addByReferences 10 = .ok (.if_icmp .ge 159, 3) := by decide +kernel
theorem d_K_Needs_addByReferences_13 : decode b_K_Needs_addByReferences 13 = .ok (.aload_n 0, 1) := by decide +kernel
theorem d_K_Needs_addByReferences_14 : decode b_K_Needs_addByReferences 14 = .ok (.getfield 19, 3) := by decide +kernel
theorem d_K_Needs_addByReferences_17 : decode b_K_Needs_addByReferences 17 = .ok (.getfield 88, 3) := by decide +kernel
theorem d_K_Needs_addByReferences_20 : decode b_K_Needs_addByReferences 20 = .ok (.iload_n 1, 1) := by decide +kernel
theorem d_K_Needs_addByReferences_21 : decode b_K_Needs_addByReferences 21 = .ok (.iaload, 1) := by decide +kernel
theorem d_K_Needs_addByReferences_22 : decode b_K_Needs_addByReferences 22 = .ok (.istore_n 2, 1) := by decide +kernel
theorem d_K_Needs_addByReferences_23 : decode b_K_Needs_addByReferences 23 = .ok (.aload_n 0, 1) := by decide +kernel
theorem d_K_Needs_addByReferences_24 : decode b_K_Needs_addByReferences 24 = .ok (.getfield 35, 3) := by decide +kernel
theorem d_K_Needs_addByReferences_27 : decode b_K_Needs_addByReferences 27 = .ok (.aload_n 0, 1) := by decide +kernel
theorem d_K_Needs_addByReferences_28 : decode b_K_Needs_addByReferences 28 = .ok (.getfield 19, 3) := by decide +kernel
theorem d_K_Needs_addByReferences_31 : decode b_K_Needs_addByReferences 31 = .ok (.getfield 73, 3) := by decide +kernel
theorem d_K_Needs_addByReferences_34 : decode b_K_Needs_addByReferences 34 = .ok (.iload_n 1, 1) := by decide +kernel
theorem d_K_Needs_addByReferences_35 : decode b_K_Needs_addByReferences 35 = .ok (.iaload, 1) := by decide +kernel
theorem d_K_Needs_addByReferences_36 : decode b_K_Needs_addByReferences 36 = .ok (.invokestatic 77, 3) := by decide +kernel
theorem d_K_Needs_addByReferences_39 : decode b_K_Needs_addByReferences 39 = .ok (.ifCond .eq 124, 3) := by decide +kernel
theorem d_K_Needs_addByReferences_42 : decode b_K_Needs_addByReferences 42 = .ok (.aload_n 0, 1) := by decide +kernel
theorem d_K_Needs_addByReferences_43 : decode b_K_Needs_addByReferences 43 = .ok (.getfield 9, 3) := by decide +kernel
theorem d_K_Needs_addByReferences_46 : decode b_K_Needs_addByReferences 46 = .ok (.getfield 155, 3) := by decide +kernel
theorem d_K_Needs_addByReferences_49 : decode b_K_Needs_addByReferences 49 = .ok (.iload_n 2, 1) := by decide +kernel
theorem d_K_Needs_addByReferences_50 : decode b_K_Needs_addByReferences 50 = .ok (.invokestatic 77, 3) := by decide +kernel
theorem d_K_Needs_addByReferences_53 : decode b_K_Needs_addByReferences 53 = .ok (.ifCond .eq 110, 3) := by decide +kernel
theorem d_K_Needs_addByReferences_56 : decode b_K_Needs_addByReferences 56 = .ok (.aload_n 0, 1) := by decide +kernel
theorem d_K_Needs_addByReferences_57 : decode b_K_Needs_addByReferences 57 = .ok (.getfield 19, 3) := by decide +kernel
theorem d_K_Needs_addByReferences_60 : decode b_K_Needs_addByReferences 60 = .ok (.getfield 85, 3) := by decide +kernel
theorem d_K_Needs_addByReferences_63 : decode b_K_Needs_addByReferences 63 = .ok (.iload_n 1, 1) := by decide +kernel
theorem d_K_Needs_addByReferences_64 : decode b_K_Needs_addByReferences 64 = .ok (.iaload, 1) := by decide +kernel
theorem d_K_Needs_addByReferences_65 : decode b_K_Needs_addByReferences 65 = .ok (.istore_n 3, 1) := by decide +kernel
theorem d_K_Needs_addByReferences_66 : decode b_K_Needs_addByReferences 66 = .ok (.aload_n 0, 1) := by decide +kernel
theorem d_K_Needs_addByReferences_67 : decode b_K_Needs_addByReferences 67 = .ok (.dup, 1) := by decide +kernel
theorem d_K_Needs_addByReferences_68 : decode b_K_Needs_addByReferences 68 = .ok (.getfield 31, 3) := by decide +kernel
theorem d_K_Needs_addByReferences_71 : decode b_K_Needs_addByReferences 71 = .ok (.iload_n 2, 1) := by decide +kernel
theorem d_K_Needs_addByReferences_72 : decode b_K_Needs_addByReferences 72 = .ok (.invokestatic 27, 3) := by decide +kernel
theorem d_K_Needs_addByReferences_75 : decode b_K_Needs_addByReferences 75 = .ok (.lor, 1) := by decide +kernel
theorem d_K_Needs_addByReferences_76 : decode b_K_Needs_addByReferences 76 = .ok (.putfield 31, 3) := by decide +kernel
theorem d_K_Needs_addByReferences_79 : decode b_K_Needs_addByReferences 79 = .ok (.iload_n 3, 1) := by decide +kernel
theorem d_K_Needs_addByReferences_80 : decode b_K_Needs_addByReferences 80 = .ok (.ifCond .ne 45, 3) := by decide +kernel
theorem d_K_Needs_addByReferences_83 : decode b_K_Needs_addByReferences 83 = .ok (.aload_n 0, 1) := by decide +kernel
theorem d_K_Needs_addByReferences_84 : decode b_K_Needs_addByReferences 84 = .ok (.dup, 1) := by decide +kernel
theorem d_K_Needs_addByReferences_85 : decode b_K_Needs_addByReferences 85 = .ok (.getfield 38, 3) := by decide +kernel
theorem d_K_Needs_addByReferences_88 : decode b_K_Needs_addByReferences 88 = .ok (.iload_n 2, 1) := by decide +kernel
theorem d_K_Needs_addByReferences_89 : decode b_K_Needs_addByReferences 89 = .ok (.invokestatic 27, 3) := by decide +kernel
theorem d_K_Needs_addByReferences_92 : decode b_K_Needs_addByReferences 92 = .ok (.aload_n 0, 1) := by decide +kernel
theorem d_K_Needs_addByReferences_93 : decode b_K_Needs_addByReferences 93 = .ok (.getfield 9, 3) := by decide +kernel
theorem d_K_Needs_addByReferences_96 : decode b_K_Needs_addByReferences 96 = .ok (.getfield 125, 3) := by decide +kernel
theorem d_K_Needs_addByReferences_99 : decode b_K_Needs_addByReferences 99 = .ok (.land, 1) := by decide +kernel
theorem d_K_Needs_addByReferences_100 : decode b_K_Needs_addByReferences 100 = .ok (.lor, 1) := by decide +kernel
theorem d_K_Needs_addByReferences_101 : decode b_K_Needs_addByReferences 101 = .ok (.putfield 38, 3) := by decide +kernel
theorem d_K_Needs_addByReferences_104 : decode b_K_Needs_addByReferences 104 = .ok (.aload_n 0, 1) := by decide +kernel
theorem d_K_Needs_addByReferences_105 : decode b_K_Needs_addByReferences 105 = .ok (.dup, 1) := by decide +kernel
theorem d_K_Needs_addByReferences_106 : decode b_K_Needs_addByReferences 106 = .ok (.getfield 41, 3) := by decide +kernel
theorem d_K_Needs_addByReferences_109 : decode b_K_Needs_addByReferences 109 = .ok (.iload_n 2, 1) := by decide +kernel
theorem d_K_Needs_addByReferences_110 : decode b_K_Needs_addByReferences 110 = .ok (.invokestatic 27, 3) := by decide +kernel
theorem d_K_Needs_addByReferences_113 : decode b_K_Needs_addByReferences 113 = .ok (.aload_n 0, 1) := by decide +kernel
theorem d_K_Needs_addByReferences_114 : decode b_K_Needs_addByReferences 114 = .ok (.getfield 9, 3) := by decide +kernel
theorem d_K_Needs_addByReferences_117 : decode b_K_Needs_addByReferences 117 = .ok (.getfield 125, 3) := by decide +kernel
theorem d_K_Needs_addByReferences_120 : decode b_K_Needs_addByReferences 120 = .ok (.land, 1) := by decide +kernel
theorem d_K_Needs_addByReferences_121 : decode b_K_Needs_addByReferences 121 = .ok (.lor, 1) := by decide +kernel
theorem d_K_Needs_addByReferences_122 : decode b_K_Needs_addByReferences 122 = .ok (.putfield 41, 3) := by decide +kernel
theorem d_K_Needs_addByReferences_125 : decode b_K_Needs_addByReferences 125 = .ok (.iload_n 3, 1) := by decide +kernel
theorem d_K_Needs_addByReferences_126 : decode b_K_Needs_addByReferences 126 = .ok (.iconst 2, 1) := by decide +kernel
theorem d_K_Needs_addByReferences_127 : decode b_K_Needs_addByReferences 127 = .ok (.if_icmp .lt 17, 3) := by decide +kernel
theorem d_K_Needs_addByReferences_130 : decode b_K_Needs_addByReferences 130 = .ok (.aload_n 0, 1) := by decide +kernel
theorem d_K_Needs_addByReferences_131 : decode b_K_Needs_addByReferences 131 = .ok (.iload_n 2, 1) := by decide +kernel
theorem d_K_Needs_addByReferences_132 : decode b_K_Needs_addByReferences 132 = .ok (.aload_n 0, 1) := by decide +kernel
theorem d_K_Needs_addByReferences_133 : decode b_K_Needs_addByReferences 133 = .ok (.getfield 19, 3) := by decide +kernel
theorem d_K_Needs_addByReferences_136 : decode b_K_Needs_addByReferences 136 = .ok (.getfield 97, 3) := by decide +kernel
theorem d_K_Needs_addByReferences_139 : decode b_K_Needs_addByReferences 139 = .ok (.iload_n 1, 1) := by decide +kernel
theorem d_K_Needs_addByReferences_140 : decode b_K_Needs_addByReferences 140 = .ok (.iaload, 1) := by decide +kernel
theorem d_K_Needs_addByReferences_141 : decode b_K_Needs_addByReferences 141 = .ok (.invokevirtual 158, 3) := by decide +kernel
theorem d_K_Needs_addByReferences_144 : decode b_K_Needs_addByReferences 144 = .ok (.iload_n 3, 1) := by decide +kernel
theorem d_K_Needs_addByReferences_145 : decode b_K_Needs_addByReferences 145 = .ok (.iconst 5, 1) := by decide +kernel
theorem d_K_Needs_addByReferences_146 : decode b_K_Needs_addByReferences 146 = .ok (.if_icmp .ne 17, 3) := by decide +kernel
theorem d_K_Needs_addByReferences_149 : decode b_K_Needs_addByReferences 149 = .ok (.aload_n 0, 1) := by decide +kernel
theorem d_K_Needs_addByReferences_150 : decode b_K_Needs_addByReferences 150 = .ok (.iload_n 2, 1) := by decide +kernel
theorem d_K_Needs_addByReferences_151 : decode b_K_Needs_addByReferences 151 = .ok (.aload_n 0, 1) := by decide +kernel
theorem d_K_Needs_addByReferences_152 : decode b_K_Needs_addByReferences 152 = .ok (.getfield 19, 3) := by decide +kernel
theorem d_K_Needs_addByReferences_155 : decode b_K_Needs_addByReferences 155 = .ok (.getfield 97, 3) := by decide +kernel
theorem d_K_Needs_addByReferences_158 : decode b_K_Needs_addByReferences 158 = .ok (.iload_n 1, 1) := by decide +kernel
theorem d_K_Needs_addByReferences_159 : decode b_K_Needs_addByReferences 159 = .ok (.iaload, 1) := by decide +kernel
theorem d_K_Needs_addByReferences_160 : decode b_K_Needs_addByReferences 160 = .ok (.invokevirtual 60, 3) := by decide +kernel
theorem d_K_Needs_addByReferences_163 : decode b_K_Needs_addByReferences 163 = .ok (.iinc 1 1, 3) := by decide +kernel
theorem d_K_Needs_addByReferences_166 : decode b_K_Needs_addByReferences 166 = .ok (.goto (-164), 3) := by decide +kernel
theorem d_K_Needs_addByReferences_169 : decode b_K_Needs_addByReferences 169 = .ok (.return_, 1) := by decide +kernel
theorem d_K_Needs_addByClasses_0 : decode b_K_Needs_addByClasses 0 = .ok (.bipush 9, 2) := by decide +kernel
theorem d_K_Needs_addByClasses_2 : decode b_K_Needs_addByClasses 2 = .ok (.istore_n 1, 1) := by decide +kernel
theorem d_K_Needs_addByClasses_3 : decode b_K_Needs_addByClasses 3 = .ok (.iload_n 1, 1) := by decide +kernel
theorem d_K_Needs_addByClasses_4 : decode b_K_Needs_addByClasses 4 = .ok (.ifCond .le 125, 3) := by decide +kernel
theorem d_K_Needs_addByClasses_7 : decode b_K_Needs_addByClasses 7 = .ok (.aload_n 0, 1) := by decide +kernel
theorem d_K_Needs_addByClasses_8 : decode b_K_Needs_addByClasses 8 = .ok (.getfield 31, 3) := by decide +kernel
theorem d_K_Needs_addByClasses_11 : decode b_K_Needs_addByClasses 11 = .ok (.iload_n 1, 1) := by decide +kernel
theorem d_K_Needs_addByClasses_12 : decode b_K_Needs_addByClasses 12 = .ok (.invokestatic 77, 3) := by decide +kernel
theorem d_K_Needs_addByClasses_15 : decode b_K_Needs_addByClasses 15 = .ok (.ifCond .eq 34, 3) := by decide +kernel
theorem d_K_Needs_addByClasses_18 : decode b_K_Needs_addByClasses 18 = .ok (.aload_n 0, 1) := by decide +kernel
theorem d_K_Needs_addByClasses_19 : decode b_K_Needs_addByClasses 19 = .ok (.dup, 1) := by decide +kernel
theorem d_K_Needs_addByClasses_20 : decode b_K_Needs_addByClasses 20 = .ok (.getfield 31, 3) := by decide +kernel
theorem d_K_Needs_addByClasses_23 : decode b_K_Needs_addByClasses 23 = .ok (.aload_n 0, 1) := by decide +kernel
theorem d_K_Needs_addByClasses_24 : decode b_K_Needs_addByClasses 24 = .ok (.getfield 9, 3) := by decide +kernel
theorem d_K_Needs_addByClasses_27 : decode b_K_Needs_addByClasses 27 = .ok (.getfield 141, 3) := by decide +kernel
theorem d_K_Needs_addByClasses_30 : decode b_K_Needs_addByClasses 30 = .ok (.iload_n 1, 1) := by decide +kernel
theorem d_K_Needs_addByClasses_31 : decode b_K_Needs_addByClasses 31 = .ok (.iaload, 1) := by decide +kernel
theorem d_K_Needs_addByClasses_32 : decode b_K_Needs_addByClasses 32 = .ok (.invokestatic 27, 3) := by decide +kernel
theorem d_K_Needs_addByClasses_35 : decode b_K_Needs_addByClasses 35 = .ok (.aload_n 0, 1) := by decide +kernel
theorem d_K_Needs_addByClasses_36 : decode b_K_Needs_addByClasses 36 = .ok (.getfield 9, 3) := by decide +kernel
theorem d_K_Needs_addByClasses_39 : decode b_K_Needs_addByClasses 39 = .ok (.getfield 144, 3) := by decide +kernel
theorem d_K_Needs_addByClasses_42 : decode b_K_Needs_addByClasses 42 = .ok (.iload_n 1, 1) := by decide +kernel
theorem d_K_Needs_addByClasses_43 : decode b_K_Needs_addByClasses 43 = .ok (.laload, 1) := by decide +kernel
theorem d_K_Needs_addByClasses_44 : decode b_K_Needs_addByClasses 44 = .ok (.lor, 1) := by decide +kernel
theorem d_K_Needs_addByClasses_45 : decode b_K_Needs_addByClasses 45 = .ok (.lor, 1) := by decide +kernel
theorem d_K_Needs_addByClasses_46 : decode b_K_Needs_addByClasses 46 = .ok (.putfield 31, 3) := by decide +kernel
theorem d_K_Needs_addByClasses_49 : decode b_K_Needs_addByClasses 49 = .ok (.aload_n 0, 1) := by decide +kernel
theorem d_K_Needs_addByClasses_50 : decode b_K_Needs_addByClasses 50 = .ok (.getfield 41, 3) := by decide +kernel
theorem d_K_Needs_addByClasses_53 : decode b_K_Needs_addByClasses 53 = .ok (.iload_n 1, 1) := by decide +kernel
theorem d_K_Needs_addByClasses_54 : decode b_K_Needs_addByClasses 54 = .ok (.invokestatic 77, 3) := by decide +kernel
theorem d_K_Needs_addByClasses_57 : decode b_K_Needs_addByClasses 57 = .ok (.ifCond .eq 66, 3) := by decide +kernel
theorem d_K_Needs_addByClasses_60 : decode b_K_Needs_addByClasses 60 = .ok (.aload_n 0, 1) := by decide +kernel
theorem d_K_Needs_addByClasses_61 : decode b_K_Needs_addByClasses 61 = .ok (.dup, 1) := by decide +kernel
theorem d_K_Needs_addByClasses_62 : decode b_K_Needs_addByClasses 62 = .ok (.getfield 41, 3) := by decide +kernel
theorem d_K_Needs_addByClasses_65 : decode b_K_Needs_addByClasses 65 = .ok (.aload_n 0, 1) := by decide +kernel
theorem d_K_Needs_addByClasses_66 : decode b_K_Needs_addByClasses 66 = .ok (.getfield 9, 3) := by decide +kernel
theorem d_K_Needs_addByClasses_69 : decode b_K_Needs_addByClasses 69 = .ok (.getfield 141, 3) := by decide +kernel
theorem d_K_Needs_addByClasses_72 : decode b_K_Needs_addByClasses 72 = .ok (.iload_n 1, 1) := by decide +kernel
theorem d_K_Needs_addByClasses_73 : decode b_K_Needs_addByClasses 73 = .ok (.iaload, 1) := by decide +kernel
theorem d_K_Needs_addByClasses_74 : decode b_K_Needs_addByClasses 74 = .ok (.invokestatic 27, 3) := by decide +kernel
theorem d_K_Needs_addByClasses_77 : decode b_K_Needs_addByClasses 77 = .ok (.lor, 1) := by decide +kernel
theorem d_K_Needs_addByClasses_78 : decode b_K_Needs_addByClasses 78 = .ok (.putfield 41, 3) := by decide +kernel
theorem d_K_Needs_addByClasses_81 : decode b_K_Needs_addByClasses 81 = .ok (.aload_n 0, 1) := by decide +kernel
theorem d_K_Needs_addByClasses_82 : decode b_K_Needs_addByClasses 82 = .ok (.getfield 15, 3) := by decide +kernel
theorem d_K_Needs_addByClasses_85 : decode b_K_Needs_addByClasses 85 = .ok (.iload_n 1, 1) := by decide +kernel
theorem d_K_Needs_addByClasses_86 : decode b_K_Needs_addByClasses 86 = .ok (.bipush 30, 2) := by decide +kernel
theorem d_K_Needs_addByClasses_88 : decode b_K_Needs_addByClasses 88 = .ok (.invokevirtual 147, 3) := by decide +kernel
theorem d_K_Needs_addByClasses_91 : decode b_K_Needs_addByClasses 91 = .ok (.istore_n 2, 1) := by decide +kernel
theorem d_K_Needs_addByClasses_92 : decode b_K_Needs_addByClasses 92 = .ok (.iload_n 2, 1) := by decide +kernel
theorem d_K_Needs_addByClasses_93 : decode b_K_Needs_addByClasses 93 = .ok (.bipush (-2), 2) := by decide +kernel
theorem d_K_Needs_addByClasses_95 : decode b_K_Needs_addByClasses 95 = .ok (.if_icmp .eq 28, 3) := by decide +kernel
theorem d_K_Needs_addByClasses_98 : decode b_K_Needs_addByClasses 98 = .ok (.aload_n 0, 1) := by decide +kernel
theorem d_K_Needs_addByClasses_99 : decode b_K_Needs_addByClasses 99 = .ok (.getfield 15, 3) := by decide +kernel
theorem d_K_Needs_addByClasses_102 : decode b_K_Needs_addByClasses 102 = .ok (.iload_n 2, 1) := by decide +kernel
theorem d_K_Needs_addByClasses_103 : decode b_K_Needs_addByClasses 103 = .ok (.iconst 2, 1) := by decide +kernel
theorem d_K_Needs_addByClasses_104 : decode b_K_Needs_addByClasses 104 = .ok (.invokevirtual 151, 3) := by decide +kernel
theorem d_K_Needs_addByClasses_107 : decode b_K_Needs_addByClasses 107 = .ok (.ifCond .eq 16, 3) := by decide +kernel
theorem d_K_Needs_addByClasses_110 : decode b_K_Needs_addByClasses 110 = .ok (.aload_n 0, 1) := by decide +kernel
theorem d_K_Needs_addByClasses_111 : decode b_K_Needs_addByClasses 111 = .ok (.dup, 1) := by decide +kernel
theorem d_K_Needs_addByClasses_112 : decode b_K_Needs_addByClasses 112 = .ok (.getfield 35, 3) := by decide +kernel
theorem d_K_Needs_addByClasses_115 : decode b_K_Needs_addByClasses 115 = .ok (.iload_n 2, 1) := by decide +kernel
theorem d_K_Needs_addByClasses_116 : decode b_K_Needs_addByClasses 116 = .ok (.invokestatic 27, 3) := by decide +kernel
theorem d_K_Needs_addByClasses_119 : decode b_K_Needs_addByClasses 119 = .ok (.lor, 1) := by decide +kernel
theorem d_K_Needs_addByClasses_120 : decode b_K_Needs_addByClasses 120 = .ok (.putfield 35, 3) := by decide +kernel
theorem d_K_Needs_addByClasses_123 : decode b_K_Needs_addByClasses 123 = .ok (.iinc 1 (-1), 3) := by decide +kernel
theorem d_K_Needs_addByClasses_126 : decode b_K_Needs_addByClasses 126 = .ok (.goto (-123), 3) := by decide +kernel
theorem d_K_Needs_addByClasses_129 : decode b_K_Needs_addByClasses 129 = .ok (.return_, 1) := by decide +kernel
theorem d_K_Needs_work_0 : decode b_K_Needs_work 0 = .ok (.aload_n 0, 1) := by decide +kernel
theorem d_K_Needs_work_1 : decode b_K_Needs_work 1 = .ok (.iconst 0, 1) := by decide +kernel
theorem d_K_Needs_work_2 : decode b_K_Needs_work 2 = .ok (.invokestatic 27, 3) := by decide +kernel
theorem d_K_Needs_work_5 : decode b_K_Needs_work 5 = .ok (.putfield 31, 3) := by decide +kernel
theorem d_K_Needs_work_8 : decode b_K_Needs_work 8 = .ok (.aload_n 0, 1) := by decide +kernel
theorem d_K_Needs_work_9 : decode b_K_Needs_work 9 = .ok (.iconst 0, 1) := by decide +kernel
theorem d_K_Needs_work_10 : decode b_K_Needs_work 10 = .ok (.invokestatic 27, 3) := by decide +kernel
theorem d_K_Needs_work_13 : decode b_K_Needs_work 13 = .ok (.putfield 35, 3) := by decide +kernel
theorem d_K_Needs_work_16 : decode b_K_Needs_work 16 = .ok (.aload_n 0, 1) := by decide +kernel
theorem d_K_Needs_work_17 : decode b_K_Needs_work 17 = .ok (.lconst 0, 1) := by decide +kernel
theorem d_K_Needs_work_18 : decode b_K_Needs_work 18 = .ok (.putfield 38, 3) := by decide +kernel
theorem d_K_Needs_work_21 : decode b_K_Needs_work 21 = .ok (.aload_n 0, 1) := by decide +kernel
theorem d_K_Needs_work_22 : decode b_K_Needs_work 22 = .ok (.lconst 0, 1) := by decide +kernel
theorem d_K_Needs_work_23 : decode b_K_Needs_work 23 = .ok (.putfield 41, 3) := by decide +kernel
theorem d_K_Needs_work_26 : decode b_K_Needs_work 26 = .ok (.aload_n 0, 1) := by decide +kernel
theorem d_K_Needs_work_27 : decode b_K_Needs_work 27 = .ok (.invokevirtual 44, 3) := by decide +kernel
theorem d_K_Needs_work_30 : decode b_K_Needs_work 30 = .ok (.iconst 0, 1) := by decide +kernel
theorem d_K_Needs_work_31 : decode b_K_Needs_work 31 = .ok (.istore_n 1, 1) := by decide +kernel
theorem d_K_Needs_work_32 : decode b_K_Needs_work 32 = .ok (.iconst 0, 1) := by decide +kernel
theorem d_K_Needs_work_33 : decode b_K_Needs_work 33 = .ok (.istore_n 2, 1) := by decide +kernel
theorem d_K_Needs_work_34 : decode b_K_Needs_work 34 = .ok (.iload_n 2, 1) := by decide +kernel
theorem d_K_Needs_work_35 : decode b_K_Needs_work 35 = .ok (.bipush 71, 2) := by decide +kernel
theorem d_K_Needs_work_37 : decode b_K_Needs_work 37 = .ok (.if_icmp .ge 45, 3) := by decide +kernel
theorem d_K_Needs_work_40 : decode b_K_Needs_work 40 = .ok (.iload_n 1, 1) := by decide +kernel
theorem d_K_Needs_work_41 : decode b_K_Needs_work 41 = .ok (.aload_n 0, 1) := by decide +kernel
theorem d_K_Needs_work_42 : decode b_K_Needs_work 42 = .ok (.invokevirtual 47, 3) := by decide +kernel
theorem d_K_Needs_work_45 : decode b_K_Needs_work 45 = .ok (.if_icmp .ge 37, 3) := by decide +kernel
theorem d_K_Needs_work_48 : decode b_K_Needs_work 48 = .ok (.aload_n 0, 1) := by decide +kernel
theorem d_K_Needs_work_49 : decode b_K_Needs_work 49 = .ok (.invokevirtual 47, 3) := by decide +kernel
theorem d_K_Needs_work_52 : decode b_K_Needs_work 52 = .ok (.istore_n 1, 1) := by decide +kernel
theorem d_K_Needs_work_53 : decode b_K_Needs_work 53 = .ok (.aload_n 0, 1) := by decide +kernel
theorem d_K_Needs_work_54 : decode b_K_Needs_work 54 = .ok (.invokevirtual 51, 3) := by decide +kernel
theorem d_K_Needs_work_57 : decode b_K_Needs_work 57 = .ok (.aload_n 0, 1) := by decide +kernel
theorem d_K_Needs_work_58 : decode b_K_Needs_work 58 = .ok (.invokevirtual 54, 3) := by decide +kernel
theorem d_K_Needs_work_61 : decode b_K_Needs_work 61 = .ok (.aload_n 0, 1) := by decide +kernel
theorem d_K_Needs_work_62 : decode b_K_Needs_work 62 = .ok (.invokevirtual 57, 3) := by decide +kernel
theorem d_K_Needs_work_65 : decode b_K_Needs_work 65 = .ok (.aload_n 0, 1) := by decide +kernel
theorem d_K_Needs_work_66 : decode b_K_Needs_work 66 = .ok (.iconst 0, 1) := by decide +kernel
theorem d_K_Needs_work_67 : decode b_K_Needs_work 67 = .ok (.bipush 16, 2) := by decide +kernel
theorem d_K_Needs_work_69 : decode b_K_Needs_work 69 = .ok (.invokevirtual 60, 3) := by decide +kernel
theorem d_K_Needs_work_72 : decode b_K_Needs_work 72 = .ok (.aload_n 0, 1) := by decide +kernel
theorem d_K_Needs_work_73 : decode b_K_Needs_work 73 = .ok (.invokevirtual 64, 3) := by decide +kernel
theorem d_K_Needs_work_76 : decode b_K_Needs_work 76 = .ok (.iinc 2 1, 3) := by decide +kernel
theorem d_K_Needs_work_79 : decode b_K_Needs_work 79 = .ok (.goto (-45), 3) := by decide +kernel
theorem d_K_Needs_work_82 : decode b_K_Needs_work 82 = .ok (.return_, 1) := by decide +kernel
theorem d_K_SF_asNumber_0 : decode b_K_SF_asNumber 0 = .ok (.iload_n 0, 1) := by decide +kernel
theorem d_K_SF_asNumber_1 : decode b_K_SF_asNumber 1 = .ok (.ifCond .eq 7, 3) := by decide +kernel
theorem d_K_SF_asNumber_4 : decode b_K_SF_asNumber 4 = .ok (.iconst 1, 1) := by decide +kernel
theorem d_K_SF_asNumber_5 : decode b_K_SF_asNumber 5 = .ok (.goto 4, 3) := by decide +kernel
theorem d_K_SF_asNumber_8 : decode b_K_SF_asNumber 8 = .ok (.iconst 0, 1) := by decide +kernel
theorem d_K_SF_asNumber_9 : decode b_K_SF_asNumber 9 = .ok (.ireturn, 1) := by decide +kernel
theorem d_K_Needs_countReferences_0 : decode b_K_Needs_countReferences 0 = .ok (.iconst 0, 1) := by decide +kernel
theorem d_K_Needs_countReferences_1 : decode b_K_Needs_countReferences 1 = .ok (.istore_n 1, 1) := by decide +kernel
theorem d_K_Needs_countReferences_2 : decode b_K_Needs_countReferences 2 = .ok (.iconst 0, 1) := by decide +kernel
theorem d_K_Needs_countReferences_3 : decode b_K_Needs_countReferences 3 = .ok (.istore_n 2, 1) := by decide +kernel
theorem d_K_Needs_countReferences_4 : decode b_K_Needs_countReferences 4 = .ok (.iload_n 2, 1) := by decide +kernel
theorem d_K_Needs_countReferences_5 : decode b_K_Needs_countReferences 5 = .ok (.aload_n 0, 1) := by decide +kernel
theorem d_K_Needs_countReferences_6 : decode b_K_Needs_countReferences 6 = .ok (.getfield 19, 3) := by decide +kernel
theorem d_K_Needs_countReferences_9 : decode b_K_Needs_countReferences 9 = .ok (.getfield 67, 3) := by decide +kernel
theorem d_K_Needs_countReferences_12 : decode b_K_Needs_countReferences 12 = .ok (.if_icmp .ge 31, 3) := by decide +kernel
theorem d_K_Needs_countReferences_15 : decode b_K_Needs_countReferences 15 = .ok (.iload_n 1, 1) := by decide +kernel
theorem d_K_Needs_countReferences_16 : decode b_K_Needs_countReferences 16 = .ok (.aload_n 0, 1) := by decide +kernel
theorem d_K_Needs_countReferences_17 : decode b_K_Needs_countReferences 17 = .ok (.getfield 35, 3) := by decide +kernel
theorem d_K_Needs_countReferences_20 : decode b_K_Needs_countReferences 20 = .ok (.aload_n 0, 1) := by decide +kernel
theorem d_K_Needs_countReferences_21 : decode b_K_Needs_countReferences 21 = .ok (.getfield 19, 3) := by decide +kernel
theorem d_K_Needs_countReferences_24 : decode b_K_Needs_countReferences 24 = .ok (.getfield 73, 3) := by decide +kernel
theorem d_K_Needs_countReferences_27 : decode b_K_Needs_countReferences 27 = .ok (.iload_n 2, 1) := by decide +kernel
theorem d_K_Needs_countReferences_28 : decode b_K_Needs_countReferences 28 = .ok (.iaload, 1) := by decide +kernel
theorem d_K_Needs_countReferences_29 : decode b_K_Needs_countReferences 29 = .ok (.invokestatic 77, 3) := by decide +kernel
theorem d_K_Needs_countReferences_32 : decode b_K_Needs_countReferences 32 = .ok (.invokestatic 81, 3) := by decide +kernel
theorem d_K_Needs_countReferences_35 : decode b_K_Needs_countReferences 35 = .ok (.iadd, 1) := by decide +kernel
theorem d_K_Needs_countReferences_36 : decode b_K_Needs_countReferences 36 = .ok (.istore_n 1, 1) := by decide +kernel
theorem d_K_Needs_countReferences_37 : decode b_K_Needs_countReferences 37 = .ok (.iinc 2 1, 3) := by decide +kernel
theorem d_K_Needs_countReferences_40 : decode b_K_Needs_countReferences 40 = .ok (.goto (-36), 3) := by decide +kernel
theorem d_K_Needs_countReferences_43 : decode b_K_Needs_countReferences 43 = .ok (.iload_n 1, 1) := by decide +kernel
theorem d_K_Needs_countReferences_44 : decode b_K_Needs_countReferences 44 = .ok (.ireturn, 1) := by decide +kernel
theorem d_K_Types_isThere_0 : decode b_K_Types_isThere 0 = .ok (.aload_n 0, 1) := by decide +kernel
theorem d_K_Types_isThere_1 : decode b_K_Types_isThere 1 = .ok (.getfield 44, 3) := by decide +kernel
theorem d_K_Types_isThere_4 : decode b_K_Types_isThere 4 = .ok (.iload_n 1, 1) := by decide +kernel
theorem d_K_Types_isThere_5 : decode b_K_Types_isThere 5 = .ok (.invokestatic 53, 3) := by decide +kernel
theorem d_K_Types_isThere_8 : decode b_K_Types_isThere 8 = .ok (.ireturn, 1) := by decide +kernel
theorem d_K_Needs_countMisses_0 : decode b_K_Needs_countMisses 0 = .ok (.iconst 0, 1) := by decide +kernel
theorem d_K_Needs_countMisses_1 : decode b_K_Needs_countMisses 1 = .ok (.istore_n 1, 1) := by decide +kernel
theorem d_K_Needs_countMisses_2 : decode b_K_Needs_countMisses 2 = .ok (.iconst 0, 1) := by decide +kernel
theorem d_K_Needs_countMisses_3 : decode b_K_Needs_countMisses 3 = .ok (.istore_n 2, 1) := by decide +kernel
theorem d_K_Needs_countMisses_4 : decode b_K_Needs_countMisses 4 = .ok (.iload_n 2, 1) := by decide +kernel
theorem d_K_Needs_countMisses_5 : decode b_K_Needs_countMisses 5 = .ok (.aload_n 0, 1) := by decide +kernel
theorem d_K_Needs_countMisses_6 : decode b_K_Needs_countMisses 6 = .ok (.getfield 19, 3) := by decide +kernel
theorem d_K_Needs_countMisses_9 : decode b_K_Needs_countMisses 9 = .ok (.getfield 67, 3) := by decide +kernel
theorem d_K_Needs_countMisses_12 : decode b_K_Needs_countMisses 12 = .ok (.if_icmp .ge 118, 3) := by decide +kernel
theorem d_K_Needs_countMisses_15 : decode b_K_Needs_countMisses 15 = .ok (.aload_n 0, 1) := by decide +kernel
theorem d_K_Needs_countMisses_16 : decode b_K_Needs_countMisses 16 = .ok (.getfield 35, 3) := by decide +kernel
theorem d_K_Needs_countMisses_19 : decode b_K_Needs_countMisses 19 = .ok (.aload_n 0, 1) := by decide +kernel
theorem d_K_Needs_countMisses_20 : decode b_K_Needs_countMisses 20 = .ok (.getfield 19, 3) := by decide +kernel
theorem d_K_Needs_countMisses_23 : decode b_K_Needs_countMisses 23 = .ok (.getfield 73, 3) := by decide +kernel
theorem d_K_Needs_countMisses_26 : decode b_K_Needs_countMisses 26 = .ok (.iload_n 2, 1) := by decide +kernel
theorem d_K_Needs_countMisses_27 : decode b_K_Needs_countMisses 27 = .ok (.iaload, 1) := by decide +kernel
theorem d_K_Needs_countMisses_28 : decode b_K_Needs_countMisses 28 = .ok (.invokestatic 77, 3) := by decide +kernel
theorem d_K_Needs_countMisses_31 : decode b_K_Needs_countMisses 31 = .ok (.ifCond .eq 93, 3) := by decide +kernel
theorem d_K_Needs_countMisses_34 : decode b_K_Needs_countMisses 34 = .ok (.aload_n 0, 1) := by decide +kernel
theorem d_K_Needs_countMisses_35 : decode b_K_Needs_countMisses 35 = .ok (.getfield 19, 3) := by decide +kernel
theorem d_K_Needs_countMisses_38 : decode b_K_Needs_countMisses 38 = .ok (.getfield 85, 3) := by decide +kernel
theorem d_K_Needs_countMisses_41 : decode b_K_Needs_countMisses 41 = .ok (.iload_n 2, 1) := by decide +kernel
theorem d_K_Needs_countMisses_42 : decode b_K_Needs_countMisses 42 = .ok (.iaload, 1) := by decide +kernel
theorem d_K_Needs_countMisses_43 : decode b_K_Needs_countMisses 43 = .ok (.iconst 2, 1) := by decide +kernel
theorem d_K_Needs_countMisses_44 : decode b_K_Needs_countMisses 44 = .ok (.if_icmp .ge 22, 3) := by decide +kernel
theorem d_K_Needs_countMisses_47 : decode b_K_Needs_countMisses 47 = .ok (.aload_n 0, 1) := by decide +kernel
theorem d_K_Needs_countMisses_48 : decode b_K_Needs_countMisses 48 = .ok (.getfield 9, 3) := by decide +kernel
theorem d_K_Needs_countMisses_51 : decode b_K_Needs_countMisses 51 = .ok (.aload_n 0, 1) := by decide +kernel
theorem d_K_Needs_countMisses_52 : decode b_K_Needs_countMisses 52 = .ok (.getfield 19, 3) := by decide +kernel
theorem d_K_Needs_countMisses_55 : decode b_K_Needs_countMisses 55 = .ok (.getfield 88, 3) := by decide +kernel
theorem d_K_Needs_countMisses_58 : decode b_K_Needs_countMisses 58 = .ok (.iload_n 2, 1) := by decide +kernel
theorem d_K_Needs_countMisses_59 : decode b_K_Needs_countMisses 59 = .ok (.iaload, 1) := by decide +kernel
theorem d_K_Needs_countMisses_60 : decode b_K_Needs_countMisses 60 = .ok (.invokevirtual 91, 3) := by decide +kernel
theorem d_K_Needs_countMisses_63 : decode b_K_Needs_countMisses 63 = .ok (.goto 45, 3) := by decide +kernel
theorem d_K_Needs_countMisses_66 : decode b_K_Needs_countMisses 66 = .ok (.aload_n 0, 1) := by decide +kernel
theorem d_K_Needs_countMisses_67 : decode b_K_Needs_countMisses 67 = .ok (.getfield 15, 3) := by decide +kernel
theorem d_K_Needs_countMisses_70 : decode b_K_Needs_countMisses 70 = .ok (.aload_n 0, 1) := by decide +kernel
theorem d_K_Needs_countMisses_71 : decode b_K_Needs_countMisses 71 = .ok (.getfield 19, 3) := by decide +kernel
theorem d_K_Needs_countMisses_74 : decode b_K_Needs_countMisses 74 = .ok (.getfield 88, 3) := by decide +kernel
theorem d_K_Needs_countMisses_77 : decode b_K_Needs_countMisses 77 = .ok (.iload_n 2, 1) := by decide +kernel
theorem d_K_Needs_countMisses_78 : decode b_K_Needs_countMisses 78 = .ok (.iaload, 1) := by decide +kernel
theorem d_K_Needs_countMisses_79 : decode b_K_Needs_countMisses 79 = .ok (.aload_n 0, 1) := by decide +kernel
theorem d_K_Needs_countMisses_80 : decode b_K_Needs_countMisses 80 = .ok (.getfield 19, 3) := by decide +kernel
theorem d_K_Needs_countMisses_83 : decode b_K_Needs_countMisses 83 = .ok (.getfield 97, 3) := by decide +kernel
theorem d_K_Needs_countMisses_86 : decode b_K_Needs_countMisses 86 = .ok (.iload_n 2, 1) := by decide +kernel
theorem d_K_Needs_countMisses_87 : decode b_K_Needs_countMisses 87 = .ok (.iaload, 1) := by decide +kernel
theorem d_K_Needs_countMisses_88 : decode b_K_Needs_countMisses 88 = .ok (.aload_n 0, 1) := by decide +kernel
theorem d_K_Needs_countMisses_89 : decode b_K_Needs_countMisses 89 = .ok (.getfield 15, 3) := by decide +kernel
theorem d_K_Needs_countMisses_92 : decode b_K_Needs_countMisses 92 = .ok (.getfield 100, 3) := by decide +kernel
theorem d_K_Needs_countMisses_95 : decode b_K_Needs_countMisses 95 = .ok (.invokevirtual 105, 3) := by decide +kernel
theorem d_K_Needs_countMisses_98 : decode b_K_Needs_countMisses 98 = .ok (.bipush (-2), 2) := by decide +kernel
theorem d_K_Needs_countMisses_100 : decode b_K_Needs_countMisses 100 = .ok (.if_icmp .eq 7, 3) := by decide +kernel
theorem d_K_Needs_countMisses_103 : decode b_K_Needs_countMisses 103 = .ok (.iconst 1, 1) := by decide +kernel
theorem d_K_Needs_countMisses_104 : decode b_K_Needs_countMisses 104 = .ok (.goto 4, 3) := by decide +kernel
theorem d_K_Needs_countMisses_107 : decode b_K_Needs_countMisses 107 = .ok (.iconst 0, 1) := by decide +kernel
theorem d_K_Needs_countMisses_108 : decode b_K_Needs_countMisses 108 = .ok (.istore_n 3, 1) := by decide +kernel
theorem d_K_Needs_countMisses_109 : decode b_K_Needs_countMisses 109 = .ok (.iload_n 1, 1) := by decide +kernel
theorem d_K_Needs_countMisses_110 : decode b_K_Needs_countMisses 110 = .ok (.iload_n 3, 1) := by decide +kernel
theorem d_K_Needs_countMisses_111 : decode b_K_Needs_countMisses 111 = .ok (.ifCond .ne 7, 3) := by decide +kernel
theorem d_K_Needs_countMisses_114 : decode b_K_Needs_countMisses 114 = .ok (.iconst 1, 1) := by decide +kernel
theorem d_K_Needs_countMisses_115 : decode b_K_Needs_countMisses 115 = .ok (.goto 4, 3) := by decide +kernel
theorem d_K_Needs_countMisses_118 : decode b_K_Needs_countMisses 118 = .ok (.iconst 0, 1) := by decide +kernel
theorem d_K_Needs_countMisses_119 : decode b_K_Needs_countMisses 119 = .ok (.invokestatic 81, 3) := by decide +kernel
theorem d_K_Needs_countMisses_122 : decode b_K_Needs_countMisses 122 = .ok (.iadd, 1) := by decide +kernel
theorem d_K_Needs_countMisses_123 : decode b_K_Needs_countMisses 123 = .ok (.istore_n 1, 1) := by decide +kernel
theorem d_K_Needs_countMisses_124 : decode b_K_Needs_countMisses 124 = .ok (.iinc 2 1, 3) := by decide +kernel
theorem d_K_Needs_countMisses_127 : decode b_K_Needs_countMisses 127 = .ok (.goto (-123), 3) := by decide +kernel
theorem d_K_Needs_countMisses_130 : decode b_K_Needs_countMisses 130 = .ok (.iload_n 1, 1) := by decide +kernel
theorem d_K_Needs_countMisses_131 : decode b_K_Needs_countMisses 131 = .ok (.ireturn, 1) := by decide +kernel
theorem d_K_References_add_0 : decode b_K_References_add 0 = .ok (.aload_n 0, 1) := by decide +kernel
theorem d_K_References_add_1 : decode b_K_References_add 1 = .ok (.getfield 24, 3) := by decide +kernel
theorem d_K_References_add_4 : decode b_K_References_add 4 = .ok (.bipush 60, 2) := by decide +kernel
theorem d_K_References_add_6 : decode b_K_References_add 6 = .ok (.if_icmp .lt 6, 3) := by decide +kernel
theorem d_K_References_add_9 : decode b_K_References_add 9 = .ok (.bipush (-3), 2) := by decide +kernel
theorem d_K_References_add_11 : decode b_K_References_add 11 = .ok (.ireturn, 1) := by decide +kernel
theorem d_K_References_add_12 : decode b_K_References_add 12 = .ok (.aload_n 0, 1) := by decide +kernel
theorem d_K_References_add_13 : decode b_K_References_add 13 = .ok (.getfield 9, 3) := by decide +kernel
theorem d_K_References_add_16 : decode b_K_References_add 16 = .ok (.aload_n 0, 1) := by decide +kernel
theorem d_K_References_add_17 : decode b_K_References_add 17 = .ok (.getfield 24, 3) := by decide +kernel
theorem d_K_References_add_20 : decode b_K_References_add 20 = .ok (.iload_n 1, 1) := by decide +kernel
theorem d_K_References_add_21 : decode b_K_References_add 21 = .ok (.iastore, 1) := by decide +kernel
theorem d_K_References_add_22 : decode b_K_References_add 22 = .ok (.aload_n 0, 1) := by decide +kernel
theorem d_K_References_add_23 : decode b_K_References_add 23 = .ok (.getfield 15, 3) := by decide +kernel
theorem d_K_References_add_26 : decode b_K_References_add 26 = .ok (.aload_n 0, 1) := by decide +kernel
theorem d_K_References_add_27 : decode b_K_References_add 27 = .ok (.getfield 24, 3) := by decide +kernel
theorem d_K_References_add_30 : decode b_K_References_add 30 = .ok (.iload_n 2, 1) := by decide +kernel
theorem d_K_References_add_31 : decode b_K_References_add 31 = .ok (.iastore, 1) := by decide +kernel
theorem d_K_References_add_32 : decode b_K_References_add 32 = .ok (.aload_n 0, 1) := by decide +kernel
theorem d_K_References_add_33 : decode b_K_References_add 33 = .ok (.getfield 18, 3) := by decide +kernel
theorem d_K_References_add_36 : decode b_K_References_add 36 = .ok (.aload_n 0, 1) := by decide +kernel
theorem d_K_References_add_37 : decode b_K_References_add 37 = .ok (.getfield 24, 3) := by decide +kernel
theorem d_K_References_add_40 : decode b_K_References_add 40 = .ok (.iload_n 3, 1) := by decide +kernel
theorem d_K_References_add_41 : decode b_K_References_add 41 = .ok (.iastore, 1) := by decide +kernel
theorem d_K_References_add_42 : decode b_K_References_add 42 = .ok (.aload_n 0, 1) := by decide +kernel
theorem d_K_References_add_43 : decode b_K_References_add 43 = .ok (.getfield 21, 3) := by decide +kernel
theorem d_K_References_add_46 : decode b_K_References_add 46 = .ok (.aload_n 0, 1) := by decide +kernel
theorem d_K_References_add_47 : decode b_K_References_add 47 = .ok (.getfield 24, 3) := by decide +kernel
theorem d_K_References_add_50 : decode b_K_References_add 50 = .ok (.iload 4, 2) := by decide +kernel
theorem d_K_References_add_52 : decode b_K_References_add 52 = .ok (.iastore, 1) := by decide +kernel
theorem d_K_References_add_53 : decode b_K_References_add 53 = .ok (.aload_n 0, 1) := by decide +kernel
theorem d_K_References_add_54 : decode b_K_References_add 54 = .ok (.dup, 1) := by decide +kernel
theorem d_K_References_add_55 : decode b_K_References_add 55 = .ok (.getfield 24, 3) := by decide +kernel
theorem d_K_References_add_58 : decode b_K_References_add 58 = .ok (.iconst 1, 1) := by decide +kernel
theorem d_K_References_add_59 : decode b_K_References_add 59 = .ok (.iadd, 1) := by decide +kernel
theorem d_K_References_add_60 : decode b_K_References_add 60 = .ok (.putfield 24, 3) := by decide +kernel
theorem d_K_References_add_63 : decode b_K_References_add 63 = .ok (.aload_n 0, 1) := by decide +kernel
theorem d_K_References_add_64 : decode b_K_References_add 64 = .ok (.getfield 24, 3) := by decide +kernel
theorem d_K_References_add_67 : decode b_K_References_add 67 = .ok (.ireturn, 1) := by decide +kernel
theorem d_K_RuleBook_add_0 : decode b_K_RuleBook_add 0 = .ok (.aload_n 0, 1) := by decide +kernel
theorem d_K_RuleBook_add_1 : decode b_K_RuleBook_add 1 = .ok (.getfield 31, 3) := by decide +kernel
theorem d_K_RuleBook_add_4 : decode b_K_RuleBook_add 4 = .ok (.bipush 8, 2) := by decide +kernel
theorem d_K_RuleBook_add_6 : decode b_K_RuleBook_add 6 = .ok (.if_icmp .lt 6, 3) := by decide +kernel
theorem d_K_RuleBook_add_9 : decode b_K_RuleBook_add 9 = .ok (.bipush (-3), 2) := by decide +kernel
theorem d_K_RuleBook_add_11 : decode b_K_RuleBook_add 11 = .ok (.ireturn, 1) := by decide +kernel
theorem d_K_RuleBook_add_12 : decode b_K_RuleBook_add 12 = .ok (.aload_n 0, 1) := by decide +kernel
theorem d_K_RuleBook_add_13 : decode b_K_RuleBook_add 13 = .ok (.getfield 9, 3) := by decide +kernel
theorem d_K_RuleBook_add_16 : decode b_K_RuleBook_add 16 = .ok (.aload_n 0, 1) := by decide +kernel
theorem d_K_RuleBook_add_17 : decode b_K_RuleBook_add 17 = .ok (.getfield 31, 3) := by decide +kernel
theorem d_K_RuleBook_add_20 : decode b_K_RuleBook_add 20 = .ok (.aload_n 1, 1) := by decide +kernel
theorem d_K_RuleBook_add_21 : decode b_K_RuleBook_add 21 = .ok (.getfield 35, 3) := by decide +kernel
theorem d_K_RuleBook_add_24 : decode b_K_RuleBook_add 24 = .ok (.iastore, 1) := by decide +kernel
theorem d_K_RuleBook_add_25 : decode b_K_RuleBook_add 25 = .ok (.aload_n 0, 1) := by decide +kernel
theorem d_K_RuleBook_add_26 : decode b_K_RuleBook_add 26 = .ok (.getfield 15, 3) := by decide +kernel
theorem d_K_RuleBook_add_29 : decode b_K_RuleBook_add 29 = .ok (.aload_n 0, 1) := by decide +kernel
theorem d_K_RuleBook_add_30 : decode b_K_RuleBook_add 30 = .ok (.getfield 31, 3) := by decide +kernel
theorem d_K_RuleBook_add_33 : decode b_K_RuleBook_add 33 = .ok (.aload_n 1, 1) := by decide +kernel
theorem d_K_RuleBook_add_34 : decode b_K_RuleBook_add 34 = .ok (.getfield 40, 3) := by decide +kernel
theorem d_K_RuleBook_add_37 : decode b_K_RuleBook_add 37 = .ok (.lastore, 1) := by decide +kernel
theorem d_K_RuleBook_add_38 : decode b_K_RuleBook_add 38 = .ok (.aload_n 0, 1) := by decide +kernel
theorem d_K_RuleBook_add_39 : decode b_K_RuleBook_add 39 = .ok (.getfield 19, 3) := by decide +kernel
theorem d_K_RuleBook_add_42 : decode b_K_RuleBook_add 42 = .ok (.aload_n 0, 1) := by decide +kernel
theorem d_K_RuleBook_add_43 : decode b_K_RuleBook_add 43 = .ok (.getfield 31, 3) := by decide +kernel
theorem d_K_RuleBook_add_46 : decode b_K_RuleBook_add 46 = .ok (.aload_n 1, 1) := by decide +kernel
theorem d_K_RuleBook_add_47 : decode b_K_RuleBook_add 47 = .ok (.getfield 44, 3) := by decide +kernel
theorem d_K_RuleBook_add_50 : decode b_K_RuleBook_add 50 = .ok (.lastore, 1) := by decide +kernel
theorem d_K_RuleBook_add_51 : decode b_K_RuleBook_add 51 = .ok (.aload_n 0, 1) := by decide +kernel
theorem d_K_RuleBook_add_52 : decode b_K_RuleBook_add 52 = .ok (.getfield 22, 3) := by decide +kernel
theorem d_K_RuleBook_add_55 : decode b_K_RuleBook_add 55 = .ok (.aload_n 0, 1) := by decide +kernel
theorem d_K_RuleBook_add_56 : decode b_K_RuleBook_add 56 = .ok (.getfield 31, 3) := by decide +kernel
theorem d_K_RuleBook_add_59 : decode b_K_RuleBook_add 59 = .ok (.aload_n 1, 1) := by decide +kernel
theorem d_K_RuleBook_add_60 : decode b_K_RuleBook_add 60 = .ok (.getfield 47, 3) := by decide +kernel
theorem d_K_RuleBook_add_63 : decode b_K_RuleBook_add 63 = .ok (.lastore, 1) := by decide +kernel
theorem d_K_RuleBook_add_64 : decode b_K_RuleBook_add 64 = .ok (.aload_n 0, 1) := by decide +kernel
theorem d_K_RuleBook_add_65 : decode b_K_RuleBook_add 65 = .ok (.dup, 1) := by decide +kernel
theorem d_K_RuleBook_add_66 : decode b_K_RuleBook_add 66 = .ok (.getfield 31, 3) := by decide +kernel
theorem d_K_RuleBook_add_69 : decode b_K_RuleBook_add 69 = .ok (.iconst 1, 1) := by decide +kernel
theorem d_K_RuleBook_add_70 : decode b_K_RuleBook_add 70 = .ok (.iadd, 1) := by decide +kernel
theorem d_K_RuleBook_add_71 : decode b_K_RuleBook_add 71 = .ok (.putfield 31, 3) := by decide +kernel
theorem d_K_RuleBook_add_74 : decode b_K_RuleBook_add 74 = .ok (.aload_n 0, 1) := by decide +kernel
theorem d_K_RuleBook_add_75 : decode b_K_RuleBook_add 75 = .ok (.getfield 31, 3) := by decide +kernel
theorem d_K_RuleBook_add_78 : decode b_K_RuleBook_add 78 = .ok (.ireturn, 1) := by decide +kernel
theorem d_K_RuleBook_classesNamed_0 : decode b_K_RuleBook_classesNamed 0 = .ok (.lconst 0, 1) := by decide +kernel
theorem d_K_RuleBook_classesNamed_1 : decode b_K_RuleBook_classesNamed 1 = .ok (.lstore_n 3, 1) := by decide +kernel
theorem d_K_RuleBook_classesNamed_2 : decode b_K_RuleBook_classesNamed 2 = .ok (.iconst 0, 1) := by decide +kernel
theorem d_K_RuleBook_classesNamed_3 : decode b_K_RuleBook_classesNamed 3 = .ok (.istore 5, 2) := by decide +kernel
theorem d_K_RuleBook_classesNamed_5 : decode b_K_RuleBook_classesNamed 5 = .ok (.iload 5, 2) := by decide +kernel
theorem d_K_RuleBook_classesNamed_7 : decode b_K_RuleBook_classesNamed 7 = .ok (.bipush 10, 2) := by decide +kernel
theorem d_K_RuleBook_classesNamed_9 : decode b_K_RuleBook_classesNamed 9 = .ok (.if_icmp .ge 37, 3) := by decide +kernel
theorem d_K_RuleBook_classesNamed_12 : decode b_K_RuleBook_classesNamed 12 = .ok (.lload_n 0, 1) := by decide +kernel
theorem d_K_RuleBook_classesNamed_13 : decode b_K_RuleBook_classesNamed 13 = .ok (.aload_n 2, 1) := by decide +kernel
theorem d_K_RuleBook_classesNamed_14 : decode b_K_RuleBook_classesNamed 14 = .ok (.getfield 79, 3) := by decide +kernel
theorem d_K_RuleBook_classesNamed_17 : decode b_K_RuleBook_classesNamed 17 = .ok (.iload 5, 2) := by decide +kernel
theorem d_K_RuleBook_classesNamed_19 : decode b_K_RuleBook_classesNamed 19 = .ok (.iaload, 1) := by decide +kernel
theorem d_K_RuleBook_classesNamed_20 : decode b_K_RuleBook_classesNamed 20 = .ok (.bipush 10, 2) := by decide +kernel
theorem d_K_RuleBook_classesNamed_22 : decode b_K_RuleBook_classesNamed 22 = .ok (.imul, 1) := by decide +kernel
theorem d_K_RuleBook_classesNamed_23 : decode b_K_RuleBook_classesNamed 23 = .ok (.iload 5, 2) := by decide +kernel
theorem d_K_RuleBook_classesNamed_25 : decode b_K_RuleBook_classesNamed 25 = .ok (.iadd, 1) := by decide +kernel
theorem d_K_RuleBook_classesNamed_26 : decode b_K_RuleBook_classesNamed 26 = .ok (.invokestatic 58, 3) := by decide +kernel
theorem d_K_RuleBook_classesNamed_29 : decode b_K_RuleBook_classesNamed 29 = .ok (.ifCond .eq 11, 3) := by decide +kernel
theorem d_K_RuleBook_classesNamed_32 : decode b_K_RuleBook_classesNamed 32 = .ok (.lload_n 3, 1) := by decide +kernel
theorem d_K_RuleBook_classesNamed_33 : decode b_K_RuleBook_classesNamed 33 = .ok (.iload 5, 2) := by decide +kernel
theorem d_K_RuleBook_classesNamed_35 : decode b_K_RuleBook_classesNamed 35 = .ok (.invokestatic 75, 3) := by decide +kernel
theorem d_K_RuleBook_classesNamed_38 : decode b_K_RuleBook_classesNamed 38 = .ok (.lor, 1) := by decide +kernel
theorem d_K_RuleBook_classesNamed_39 : decode b_K_RuleBook_classesNamed 39 = .ok (.lstore_n 3, 1) := by decide +kernel
theorem d_K_RuleBook_classesNamed_40 : decode b_K_RuleBook_classesNamed 40 = .ok (.iinc 5 1, 3) := by decide +kernel
theorem d_K_RuleBook_classesNamed_43 : decode b_K_RuleBook_classesNamed 43 = .ok (.goto (-38), 3) := by decide +kernel
theorem d_K_RuleBook_classesNamed_46 : decode b_K_RuleBook_classesNamed 46 = .ok (.lload_n 3, 1) := by decide +kernel
theorem d_K_RuleBook_classesNamed_47 : decode b_K_RuleBook_classesNamed 47 = .ok (.lreturn, 1) := by decide +kernel
theorem d_K_RuleBook_classesAbout_0 : decode b_K_RuleBook_classesAbout 0 = .ok (.aload_n 0, 1) := by decide +kernel
theorem d_K_RuleBook_classesAbout_1 : decode b_K_RuleBook_classesAbout 1 = .ok (.getfield 19, 3) := by decide +kernel
theorem d_K_RuleBook_classesAbout_4 : decode b_K_RuleBook_classesAbout 4 = .ok (.iload_n 1, 1) := by decide +kernel
theorem d_K_RuleBook_classesAbout_5 : decode b_K_RuleBook_classesAbout 5 = .ok (.laload, 1) := by decide +kernel
theorem d_K_RuleBook_classesAbout_6 : decode b_K_RuleBook_classesAbout 6 = .ok (.aload_n 2, 1) := by decide +kernel
theorem d_K_RuleBook_classesAbout_7 : decode b_K_RuleBook_classesAbout 7 = .ok (.invokestatic 62, 3) := by decide +kernel
theorem d_K_RuleBook_classesAbout_10 : decode b_K_RuleBook_classesAbout 10 = .ok (.lstore_n 3, 1) := by decide +kernel
theorem d_K_RuleBook_classesAbout_11 : decode b_K_RuleBook_classesAbout 11 = .ok (.lconst 0, 1) := by decide +kernel
theorem d_K_RuleBook_classesAbout_12 : decode b_K_RuleBook_classesAbout 12 = .ok (.lstore 5, 2) := by decide +kernel
theorem d_K_RuleBook_classesAbout_14 : decode b_K_RuleBook_classesAbout 14 = .ok (.iconst 1, 1) := by decide +kernel
theorem d_K_RuleBook_classesAbout_15 : decode b_K_RuleBook_classesAbout 15 = .ok (.istore 7, 2) := by decide +kernel
theorem d_K_RuleBook_classesAbout_17 : decode b_K_RuleBook_classesAbout 17 = .ok (.iload 7, 2) := by decide +kernel
theorem d_K_RuleBook_classesAbout_19 : decode b_K_RuleBook_classesAbout 19 = .ok (.bipush 10, 2) := by decide +kernel
theorem d_K_RuleBook_classesAbout_21 : decode b_K_RuleBook_classesAbout 21 = .ok (.if_icmp .ge 42, 3) := by decide +kernel
theorem d_K_RuleBook_classesAbout_24 : decode b_K_RuleBook_classesAbout 24 = .ok (.aload_n 2, 1) := by decide +kernel
theorem d_K_RuleBook_classesAbout_25 : decode b_K_RuleBook_classesAbout 25 = .ok (.iload 7, 2) := by decide +kernel
theorem d_K_RuleBook_classesAbout_27 : decode b_K_RuleBook_classesAbout 27 = .ok (.invokevirtual 66, 3) := by decide +kernel
theorem d_K_RuleBook_classesAbout_30 : decode b_K_RuleBook_classesAbout 30 = .ok (.ifCond .eq 27, 3) := by decide +kernel
theorem d_K_RuleBook_classesAbout_33 : decode b_K_RuleBook_classesAbout 33 = .ok (.aload_n 2, 1) := by decide +kernel
theorem d_K_RuleBook_classesAbout_34 : decode b_K_RuleBook_classesAbout 34 = .ok (.getfield 72, 3) := by decide +kernel
theorem d_K_RuleBook_classesAbout_37 : decode b_K_RuleBook_classesAbout 37 = .ok (.iload 7, 2) := by decide +kernel
theorem d_K_RuleBook_classesAbout_39 : decode b_K_RuleBook_classesAbout 39 = .ok (.laload, 1) := by decide +kernel
theorem d_K_RuleBook_classesAbout_40 : decode b_K_RuleBook_classesAbout 40 = .ok (.lload_n 3, 1) := by decide +kernel
theorem d_K_RuleBook_classesAbout_41 : decode b_K_RuleBook_classesAbout 41 = .ok (.land, 1) := by decide +kernel
theorem d_K_RuleBook_classesAbout_42 : decode b_K_RuleBook_classesAbout 42 = .ok (.lconst 0, 1) := by decide +kernel
theorem d_K_RuleBook_classesAbout_43 : decode b_K_RuleBook_classesAbout 43 = .ok (.lcmp, 1) := by decide +kernel
theorem d_K_RuleBook_classesAbout_44 : decode b_K_RuleBook_classesAbout 44 = .ok (.ifCond .eq 13, 3) := by decide +kernel
theorem d_K_RuleBook_classesAbout_47 : decode b_K_RuleBook_classesAbout 47 = .ok (.lload 5, 2) := by decide +kernel
theorem d_K_RuleBook_classesAbout_49 : decode b_K_RuleBook_classesAbout 49 = .ok (.iload 7, 2) := by decide +kernel
theorem d_K_RuleBook_classesAbout_51 : decode b_K_RuleBook_classesAbout 51 = .ok (.invokestatic 75, 3) := by decide +kernel
theorem d_K_RuleBook_classesAbout_54 : decode b_K_RuleBook_classesAbout 54 = .ok (.lor, 1) := by decide +kernel
theorem d_K_RuleBook_classesAbout_55 : decode b_K_RuleBook_classesAbout 55 = .ok (.lstore 5, 2) := by decide +kernel
theorem d_K_RuleBook_classesAbout_57 : decode b_K_RuleBook_classesAbout 57 = .ok (.iinc 7 1, 3) := by decide +kernel
theorem d_K_RuleBook_classesAbout_60 : decode b_K_RuleBook_classesAbout 60 = .ok (.goto (-43), 3) := by decide +kernel
theorem d_K_RuleBook_classesAbout_63 : decode b_K_RuleBook_classesAbout 63 = .ok (.lload 5, 2) := by decide +kernel
theorem d_K_RuleBook_classesAbout_65 : decode b_K_RuleBook_classesAbout 65 = .ok (.aload_n 0, 1) := by decide +kernel
theorem d_K_RuleBook_classesAbout_66 : decode b_K_RuleBook_classesAbout 66 = .ok (.getfield 15, 3) := by decide +kernel
theorem d_K_RuleBook_classesAbout_69 : decode b_K_RuleBook_classesAbout 69 = .ok (.iload_n 1, 1) := by decide +kernel
theorem d_K_RuleBook_classesAbout_70 : decode b_K_RuleBook_classesAbout 70 = .ok (.laload, 1) := by decide +kernel
theorem d_K_RuleBook_classesAbout_71 : decode b_K_RuleBook_classesAbout 71 = .ok (.aload_n 2, 1) := by decide +kernel
theorem d_K_RuleBook_classesAbout_72 : decode b_K_RuleBook_classesAbout 72 = .ok (.invokestatic 62, 3) := by decide +kernel
theorem d_K_RuleBook_classesAbout_75 : decode b_K_RuleBook_classesAbout 75 = .ok (.land, 1) := by decide +kernel
theorem d_K_RuleBook_classesAbout_76 : decode b_K_RuleBook_classesAbout 76 = .ok (.lreturn, 1) := by decide +kernel
theorem d_K_RuleBook_membersMeant_0 : decode b_K_RuleBook_membersMeant 0 = .ok (.lconst 0, 1) := by decide +kernel
theorem d_K_RuleBook_membersMeant_1 : decode b_K_RuleBook_membersMeant 1 = .ok (.lstore_n 3, 1) := by decide +kernel
theorem d_K_RuleBook_membersMeant_2 : decode b_K_RuleBook_membersMeant 2 = .ok (.iconst 1, 1) := by decide +kernel
theorem d_K_RuleBook_membersMeant_3 : decode b_K_RuleBook_membersMeant 3 = .ok (.istore 5, 2) := by decide +kernel
theorem d_K_RuleBook_membersMeant_5 : decode b_K_RuleBook_membersMeant 5 = .ok (.iload 5, 2) := by decide +kernel
theorem d_K_RuleBook_membersMeant_7 : decode b_K_RuleBook_membersMeant 7 = .ok (.aload_n 2, 1) := by decide +kernel
theorem d_K_RuleBook_membersMeant_8 : decode b_K_RuleBook_membersMeant 8 = .ok (.getfield 82, 3) := by decide +kernel
theorem d_K_RuleBook_membersMeant_11 : decode b_K_RuleBook_membersMeant 11 = .ok (.if_icmp .ge 55, 3) := by decide +kernel
theorem d_K_RuleBook_membersMeant_14 : decode b_K_RuleBook_membersMeant 14 = .ok (.aload_n 0, 1) := by decide +kernel
theorem d_K_RuleBook_membersMeant_15 : decode b_K_RuleBook_membersMeant 15 = .ok (.getfield 25, 3) := by decide +kernel
theorem d_K_RuleBook_membersMeant_18 : decode b_K_RuleBook_membersMeant 18 = .ok (.iload_n 1, 1) := by decide +kernel
theorem d_K_RuleBook_membersMeant_19 : decode b_K_RuleBook_membersMeant 19 = .ok (.laload, 1) := by decide +kernel
theorem d_K_RuleBook_membersMeant_20 : decode b_K_RuleBook_membersMeant 20 = .ok (.aload_n 2, 1) := by decide +kernel
theorem d_K_RuleBook_membersMeant_21 : decode b_K_RuleBook_membersMeant 21 = .ok (.getfield 85, 3) := by decide +kernel
theorem d_K_RuleBook_membersMeant_24 : decode b_K_RuleBook_membersMeant 24 = .ok (.iload 5, 2) := by decide +kernel
theorem d_K_RuleBook_membersMeant_26 : decode b_K_RuleBook_membersMeant 26 = .ok (.iaload, 1) := by decide +kernel
theorem d_K_RuleBook_membersMeant_27 : decode b_K_RuleBook_membersMeant 27 = .ok (.invokestatic 58, 3) := by decide +kernel
theorem d_K_RuleBook_membersMeant_30 : decode b_K_RuleBook_membersMeant 30 = .ok (.ifCond .eq 30, 3) := by decide +kernel
theorem d_K_RuleBook_membersMeant_33 : decode b_K_RuleBook_membersMeant 33 = .ok (.aload_n 0, 1) := by decide +kernel
theorem d_K_RuleBook_membersMeant_34 : decode b_K_RuleBook_membersMeant 34 = .ok (.getfield 22, 3) := by decide +kernel
theorem d_K_RuleBook_membersMeant_37 : decode b_K_RuleBook_membersMeant 37 = .ok (.iload_n 1, 1) := by decide +kernel
theorem d_K_RuleBook_membersMeant_38 : decode b_K_RuleBook_membersMeant 38 = .ok (.laload, 1) := by decide +kernel
theorem d_K_RuleBook_membersMeant_39 : decode b_K_RuleBook_membersMeant 39 = .ok (.aload_n 2, 1) := by decide +kernel
theorem d_K_RuleBook_membersMeant_40 : decode b_K_RuleBook_membersMeant 40 = .ok (.getfield 88, 3) := by decide +kernel
theorem d_K_RuleBook_membersMeant_43 : decode b_K_RuleBook_membersMeant 43 = .ok (.iload 5, 2) := by decide +kernel
theorem d_K_RuleBook_membersMeant_45 : decode b_K_RuleBook_membersMeant 45 = .ok (.iaload, 1) := by decide +kernel
theorem d_K_RuleBook_membersMeant_46 : decode b_K_RuleBook_membersMeant 46 = .ok (.invokestatic 58, 3) := by decide +kernel
theorem d_K_RuleBook_membersMeant_49 : decode b_K_RuleBook_membersMeant 49 = .ok (.ifCond .eq 11, 3) := by decide +kernel
theorem d_K_RuleBook_membersMeant_52 : decode b_K_RuleBook_membersMeant 52 = .ok (.lload_n 3, 1) := by decide +kernel
theorem d_K_RuleBook_membersMeant_53 : decode b_K_RuleBook_membersMeant 53 = .ok (.iload 5, 2) := by decide +kernel
theorem d_K_RuleBook_membersMeant_55 : decode b_K_RuleBook_membersMeant 55 = .ok (.invokestatic 75, 3) := by decide +kernel
theorem d_K_RuleBook_membersMeant_58 : decode b_K_RuleBook_membersMeant 58 = .ok (.lor, 1) := by decide +kernel
theorem d_K_RuleBook_membersMeant_59 : decode b_K_RuleBook_membersMeant 59 = .ok (.lstore_n 3, 1) := by decide +kernel
theorem d_K_RuleBook_membersMeant_60 : decode b_K_RuleBook_membersMeant 60 = .ok (.iinc 5 1, 3) := by decide +kernel
theorem d_K_RuleBook_membersMeant_63 : decode b_K_RuleBook_membersMeant 63 = .ok (.goto (-58), 3) := by decide +kernel
theorem d_K_RuleBook_membersMeant_66 : decode b_K_RuleBook_membersMeant 66 = .ok (.lload_n 3, 1) := by decide +kernel
theorem d_K_RuleBook_membersMeant_67 : decode b_K_RuleBook_membersMeant 67 = .ok (.aload_n 2, 1) := by decide +kernel
theorem d_K_RuleBook_membersMeant_68 : decode b_K_RuleBook_membersMeant 68 = .ok (.getfield 91, 3) := by decide +kernel
theorem d_K_RuleBook_membersMeant_71 : decode b_K_RuleBook_membersMeant 71 = .ok (.land, 1) := by decide +kernel
theorem d_K_RuleBook_membersMeant_72 : decode b_K_RuleBook_membersMeant 72 = .ok (.lreturn, 1) := by decide +kernel
theorem d_K_RuleBook_look_0 : decode b_K_RuleBook_look 0 = .ok (.iconst 0, 1) := by decide +kernel
theorem d_K_RuleBook_look_1 : decode b_K_RuleBook_look 1 = .ok (.istore_n 3, 1) := by decide +kernel
theorem d_K_RuleBook_look_2 : decode b_K_RuleBook_look 2 = .ok (.iload_n 3, 1) := by decide +kernel
theorem d_K_RuleBook_look_3 : decode b_K_RuleBook_look 3 = .ok (.aload_n 0, 1) := by decide +kernel
theorem d_K_RuleBook_look_4 : decode b_K_RuleBook_look 4 = .ok (.getfield 31, 3) := by decide +kernel
theorem d_K_RuleBook_look_7 : decode b_K_RuleBook_look 7 = .ok (.if_icmp .ge 33, 3) := by decide +kernel
theorem d_K_RuleBook_look_10 : decode b_K_RuleBook_look 10 = .ok (.aload_n 0, 1) := by decide +kernel
theorem d_K_RuleBook_look_11 : decode b_K_RuleBook_look 11 = .ok (.getfield 25, 3) := by decide +kernel
theorem d_K_RuleBook_look_14 : decode b_K_RuleBook_look 14 = .ok (.iload_n 3, 1) := by decide +kernel
theorem d_K_RuleBook_look_15 : decode b_K_RuleBook_look 15 = .ok (.aload_n 0, 1) := by decide +kernel
theorem d_K_RuleBook_look_16 : decode b_K_RuleBook_look 16 = .ok (.iload_n 3, 1) := by decide +kernel
theorem d_K_RuleBook_look_17 : decode b_K_RuleBook_look 17 = .ok (.aload_n 1, 1) := by decide +kernel
theorem d_K_RuleBook_look_18 : decode b_K_RuleBook_look 18 = .ok (.invokevirtual 50, 3) := by decide +kernel
theorem d_K_RuleBook_look_21 : decode b_K_RuleBook_look 21 = .ok (.lastore, 1) := by decide +kernel
theorem d_K_RuleBook_look_22 : decode b_K_RuleBook_look 22 = .ok (.aload_n 0, 1) := by decide +kernel
theorem d_K_RuleBook_look_23 : decode b_K_RuleBook_look 23 = .ok (.getfield 28, 3) := by decide +kernel
theorem d_K_RuleBook_look_26 : decode b_K_RuleBook_look 26 = .ok (.iload_n 3, 1) := by decide +kernel
theorem d_K_RuleBook_look_27 : decode b_K_RuleBook_look 27 = .ok (.aload_n 0, 1) := by decide +kernel
theorem d_K_RuleBook_look_28 : decode b_K_RuleBook_look 28 = .ok (.iload_n 3, 1) := by decide +kernel
theorem d_K_RuleBook_look_29 : decode b_K_RuleBook_look 29 = .ok (.aload_n 2, 1) := by decide +kernel
theorem d_K_RuleBook_look_30 : decode b_K_RuleBook_look 30 = .ok (.invokevirtual 54, 3) := by decide +kernel
theorem d_K_RuleBook_look_33 : decode b_K_RuleBook_look 33 = .ok (.lastore, 1) := by decide +kernel
theorem d_K_RuleBook_look_34 : decode b_K_RuleBook_look 34 = .ok (.iinc 3 1, 3) := by decide +kernel
theorem d_K_RuleBook_look_37 : decode b_K_RuleBook_look 37 = .ok (.goto (-35), 3) := by decide +kernel
theorem d_K_RuleBook_look_40 : decode b_K_RuleBook_look 40 = .ok (.return_, 1) := by decide +kernel
theorem d_K_RuleBook_greatestAbout_0 : decode b_K_RuleBook_greatestAbout 0 = .ok (.aload_n 0, 1) := by decide +kernel
theorem d_K_RuleBook_greatestAbout_1 : decode b_K_RuleBook_greatestAbout 1 = .ok (.getfield 31, 3) := by decide +kernel
theorem d_K_RuleBook_greatestAbout_4 : decode b_K_RuleBook_greatestAbout 4 = .ok (.iconst 1, 1) := by decide +kernel
theorem d_K_RuleBook_greatestAbout_5 : decode b_K_RuleBook_greatestAbout 5 = .ok (.isub, 1) := by decide +kernel
theorem d_K_RuleBook_greatestAbout_6 : decode b_K_RuleBook_greatestAbout 6 = .ok (.istore_n 2, 1) := by decide +kernel
theorem d_K_RuleBook_greatestAbout_7 : decode b_K_RuleBook_greatestAbout 7 = .ok (.iload_n 2, 1) := by decide +kernel
theorem d_K_RuleBook_greatestAbout_8 : decode b_K_RuleBook_greatestAbout 8 = .ok (.ifCond .lt 24, 3) := by decide +kernel
theorem d_K_RuleBook_greatestAbout_11 : decode b_K_RuleBook_greatestAbout 11 = .ok (.aload_n 0, 1) := by decide +kernel
theorem d_K_RuleBook_greatestAbout_12 : decode b_K_RuleBook_greatestAbout 12 = .ok (.getfield 25, 3) := by decide +kernel
theorem d_K_RuleBook_greatestAbout_15 : decode b_K_RuleBook_greatestAbout 15 = .ok (.iload_n 2, 1) := by decide +kernel
theorem d_K_RuleBook_greatestAbout_16 : decode b_K_RuleBook_greatestAbout 16 = .ok (.laload, 1) := by decide +kernel
theorem d_K_RuleBook_greatestAbout_17 : decode b_K_RuleBook_greatestAbout 17 = .ok (.iload_n 1, 1) := by decide +kernel
theorem d_K_RuleBook_greatestAbout_18 : decode b_K_RuleBook_greatestAbout 18 = .ok (.invokestatic 58, 3) := by decide +kernel
theorem d_K_RuleBook_greatestAbout_21 : decode b_K_RuleBook_greatestAbout 21 = .ok (.ifCond .eq 5, 3) := by decide +kernel
theorem d_K_RuleBook_greatestAbout_24 : decode b_K_RuleBook_greatestAbout 24 = .ok (.iload_n 2, 1) := by decide +kernel
theorem d_K_RuleBook_greatestAbout_25 : decode b_K_RuleBook_greatestAbout 25 = .ok (.ireturn, 1) := by decide +kernel
theorem d_K_RuleBook_greatestAbout_26 : decode b_K_RuleBook_greatestAbout 26 = .ok (.iinc 2 (-1), 3) := by decide +kernel
theorem d_K_RuleBook_greatestAbout_29 : decode b_K_RuleBook_greatestAbout 29 = .ok (.goto (-22), 3) := by decide +kernel
theorem d_K_RuleBook_greatestAbout_32 : decode b_K_RuleBook_greatestAbout 32 = .ok (.bipush (-2), 2) := by decide +kernel
theorem d_K_RuleBook_greatestAbout_34 : decode b_K_RuleBook_greatestAbout 34 = .ok (.ireturn, 1) := by decide +kernel
theorem d_K_RuleReader_cut_0 : decode b_K_RuleReader_cut 0 = .ok (.aload_n 0, 1) := by decide +kernel
theorem d_K_RuleReader_cut_1 : decode b_K_RuleReader_cut 1 = .ok (.iconst 0, 1) := by decide +kernel
theorem d_K_RuleReader_cut_2 : decode b_K_RuleReader_cut 2 = .ok (.putfield 73, 3) := by decide +kernel
theorem d_K_RuleReader_cut_5 : decode b_K_RuleReader_cut 5 = .ok (.iconst 0, 1) := by decide +kernel
theorem d_K_RuleReader_cut_6 : decode b_K_RuleReader_cut 6 = .ok (.istore_n 1, 1) := by decide +kernel
theorem d_K_RuleReader_cut_7 : decode b_K_RuleReader_cut 7 = .ok (.iconst 0, 1) := by decide +kernel
theorem d_K_RuleReader_cut_8 : decode b_K_RuleReader_cut 8 = .ok (.istore_n 2, 1) := by decide +kernel
theorem d_K_RuleReader_cut_9 : decode b_K_RuleReader_cut 9 = .ok (.iload_n 2, 1) := by decide +kernel
theorem d_K_RuleReader_cut_10 : decode b_K_RuleReader_cut 10 = .ok (.aload_n 0, 1) := by decide +kernel
theorem d_K_RuleReader_cut_11 : decode b_K_RuleReader_cut 11 = .ok (.getfield 27, 3) := by decide +kernel
theorem d_K_RuleReader_cut_14 : decode b_K_RuleReader_cut 14 = .ok (.getfield 76, 3) := by decide +kernel
theorem d_K_RuleReader_cut_17 : decode b_K_RuleReader_cut 17 = .ok (.if_icmp .gt 68, 3) := by decide +kernel
theorem d_K_RuleReader_cut_20 : decode b_K_RuleReader_cut 20 = .ok (.iload_n 2, 1) := by decide +kernel
theorem d_K_RuleReader_cut_21 : decode b_K_RuleReader_cut 21 = .ok (.aload_n 0, 1) := by decide +kernel
theorem d_K_RuleReader_cut_22 : decode b_K_RuleReader_cut 22 = .ok (.getfield 27, 3) := by decide +kernel
theorem d_K_RuleReader_cut_25 : decode b_K_RuleReader_cut 25 = .ok (.getfield 76, 3) := by decide +kernel
theorem d_K_RuleReader_cut_28 : decode b_K_RuleReader_cut 28 = .ok (.if_icmp .eq 17, 3) := by decide +kernel
theorem d_K_RuleReader_cut_31 : decode b_K_RuleReader_cut 31 = .ok (.aload_n 0, 1) := by decide +kernel
theorem d_K_RuleReader_cut_32 : decode b_K_RuleReader_cut 32 = .ok (.getfield 27, 3) := by decide +kernel
theorem d_K_RuleReader_cut_35 : decode b_K_RuleReader_cut 35 = .ok (.getfield 79, 3) := by decide +kernel
theorem d_K_RuleReader_cut_38 : decode b_K_RuleReader_cut 38 = .ok (.iload_n 2, 1) := by decide +kernel
theorem d_K_RuleReader_cut_39 : decode b_K_RuleReader_cut 39 = .ok (.caload, 1) := by decide +kernel
theorem d_K_RuleReader_cut_40 : decode b_K_RuleReader_cut 40 = .ok (.bipush 32, 2) := by decide +kernel
theorem d_K_RuleReader_cut_42 : decode b_K_RuleReader_cut 42 = .ok (.if_icmp .ne 37, 3) := by decide +kernel
theorem d_K_RuleReader_cut_45 : decode b_K_RuleReader_cut 45 = .ok (.aload_n 0, 1) := by decide +kernel
theorem d_K_RuleReader_cut_46 : decode b_K_RuleReader_cut 46 = .ok (.dup, 1) := by decide +kernel
theorem d_K_RuleReader_cut_47 : decode b_K_RuleReader_cut 47 = .ok (.getfield 73, 3) := by decide +kernel
theorem d_K_RuleReader_cut_50 : decode b_K_RuleReader_cut 50 = .ok (.iconst 1, 1) := by decide +kernel
theorem d_K_RuleReader_cut_51 : decode b_K_RuleReader_cut 51 = .ok (.iadd, 1) := by decide +kernel
theorem d_K_RuleReader_cut_52 : decode b_K_RuleReader_cut 52 = .ok (.putfield 73, 3) := by decide +kernel
theorem d_K_RuleReader_cut_55 : decode b_K_RuleReader_cut 55 = .ok (.aload_n 0, 1) := by decide +kernel
theorem d_K_RuleReader_cut_56 : decode b_K_RuleReader_cut 56 = .ok (.getfield 9, 3) := by decide +kernel
theorem d_K_RuleReader_cut_59 : decode b_K_RuleReader_cut 59 = .ok (.aload_n 0, 1) := by decide +kernel
theorem d_K_RuleReader_cut_60 : decode b_K_RuleReader_cut 60 = .ok (.getfield 73, 3) := by decide +kernel
theorem d_K_RuleReader_cut_63 : decode b_K_RuleReader_cut 63 = .ok (.iload_n 1, 1) := by decide +kernel
theorem d_K_RuleReader_cut_64 : decode b_K_RuleReader_cut 64 = .ok (.iastore, 1) := by decide +kernel
theorem d_K_RuleReader_cut_65 : decode b_K_RuleReader_cut 65 = .ok (.aload_n 0, 1) := by decide +kernel
theorem d_K_RuleReader_cut_66 : decode b_K_RuleReader_cut 66 = .ok (.getfield 15, 3) := by decide +kernel
theorem d_K_RuleReader_cut_69 : decode b_K_RuleReader_cut 69 = .ok (.aload_n 0, 1) := by decide +kernel
theorem d_K_RuleReader_cut_70 : decode b_K_RuleReader_cut 70 = .ok (.getfield 73, 3) := by decide +kernel
theorem d_K_RuleReader_cut_73 : decode b_K_RuleReader_cut 73 = .ok (.iload_n 2, 1) := by decide +kernel
theorem d_K_RuleReader_cut_74 : decode b_K_RuleReader_cut 74 = .ok (.iastore, 1) := by decide +kernel
theorem d_K_RuleReader_cut_75 : decode b_K_RuleReader_cut 75 = .ok (.iload_n 2, 1) := by decide +kernel
theorem d_K_RuleReader_cut_76 : decode b_K_RuleReader_cut 76 = .ok (.iconst 1, 1) := by decide +kernel
theorem d_K_RuleReader_cut_77 : decode b_K_RuleReader_cut 77 = .ok (.iadd, 1) := by decide +kernel
theorem d_K_RuleReader_cut_78 : decode b_K_RuleReader_cut 78 = .ok (.istore_n 1, 1) := by decide +kernel
theorem d_K_RuleReader_cut_79 : decode b_K_RuleReader_cut 79 = .ok (.iinc 2 1, 3) := by decide +kernel
theorem d_K_RuleReader_cut_82 : decode b_K_RuleReader_cut 82 = .ok (.goto (-73), 3) := by decide +kernel
theorem d_K_RuleReader_cut_85 : decode b_K_RuleReader_cut 85 = .ok (.return_, 1) := by decide +kernel
theorem d_K_RuleReader_reads_0 : decode b_K_RuleReader_reads 0 = .ok (.iload_n 1, 1) := by decide +kernel
theorem d_K_RuleReader_reads_1 : decode b_K_RuleReader_reads 1 = .ok (.aload_n 0, 1) := by decide +kernel
theorem d_K_RuleReader_reads_2 : decode b_K_RuleReader_reads 2 = .ok (.getfield 73, 3) := by decide +kernel
theorem d_K_RuleReader_reads_5 : decode b_K_RuleReader_reads 5 = .ok (.if_icmp .gt 23, 3) := by decide +kernel
theorem d_K_RuleReader_reads_8 : decode b_K_RuleReader_reads 8 = .ok (.aload_n 0, 1) := by decide +kernel
theorem d_K_RuleReader_reads_9 : decode b_K_RuleReader_reads 9 = .ok (.getfield 15, 3) := by decide +kernel
theorem d_K_RuleReader_reads_12 : decode b_K_RuleReader_reads 12 = .ok (.iload_n 1, 1) := by decide +kernel
theorem d_K_RuleReader_reads_13 : decode b_K_RuleReader_reads 13 = .ok (.iaload, 1) := by decide +kernel
theorem d_K_RuleReader_reads_14 : decode b_K_RuleReader_reads 14 = .ok (.aload_n 0, 1) := by decide +kernel
theorem d_K_RuleReader_reads_15 : decode b_K_RuleReader_reads 15 = .ok (.getfield 9, 3) := by decide +kernel
theorem d_K_RuleReader_reads_18 : decode b_K_RuleReader_reads 18 = .ok (.iload_n 1, 1) := by decide +kernel
theorem d_K_RuleReader_reads_19 : decode b_K_RuleReader_reads 19 = .ok (.iaload, 1) := by decide +kernel
theorem d_K_RuleReader_reads_20 : decode b_K_RuleReader_reads 20 = .ok (.isub, 1) := by decide +kernel
theorem d_K_RuleReader_reads_21 : decode b_K_RuleReader_reads 21 = .ok (.aload_n 2, 1) := by decide +kernel
theorem d_K_RuleReader_reads_22 : decode b_K_RuleReader_reads 22 = .ok (.invokevirtual 106, 3) := by decide +kernel
theorem d_K_RuleReader_reads_25 : decode b_K_RuleReader_reads 25 = .ok (.if_icmp .eq 5, 3) := by decide +kernel
theorem d_K_RuleReader_reads_28 : decode b_K_RuleReader_reads 28 = .ok (.iconst 0, 1) := by decide +kernel
theorem d_K_RuleReader_reads_29 : decode b_K_RuleReader_reads 29 = .ok (.ireturn, 1) := by decide +kernel
theorem d_K_RuleReader_reads_30 : decode b_K_RuleReader_reads 30 = .ok (.iconst 0, 1) := by decide +kernel
theorem d_K_RuleReader_reads_31 : decode b_K_RuleReader_reads 31 = .ok (.istore_n 3, 1) := by decide +kernel
theorem d_K_RuleReader_reads_32 : decode b_K_RuleReader_reads 32 = .ok (.iload_n 3, 1) := by decide +kernel
theorem d_K_RuleReader_reads_33 : decode b_K_RuleReader_reads 33 = .ok (.aload_n 2, 1) := by decide +kernel
theorem d_K_RuleReader_reads_34 : decode b_K_RuleReader_reads 34 = .ok (.invokevirtual 106, 3) := by decide +kernel
theorem d_K_RuleReader_reads_37 : decode b_K_RuleReader_reads 37 = .ok (.if_icmp .ge 35, 3) := by decide +kernel
theorem d_K_RuleReader_reads_40 : decode b_K_RuleReader_reads 40 = .ok (.aload_n 0, 1) := by decide +kernel
theorem d_K_RuleReader_reads_41 : decode b_K_RuleReader_reads 41 = .ok (.getfield 27, 3) := by decide +kernel
theorem d_K_RuleReader_reads_44 : decode b_K_RuleReader_reads 44 = .ok (.getfield 79, 3) := by decide +kernel
theorem d_K_RuleReader_reads_47 : decode b_K_RuleReader_reads 47 = .ok (.aload_n 0, 1) := by decide +kernel
theorem d_K_RuleReader_reads_48 : decode b_K_RuleReader_reads 48 = .ok (.getfield 9, 3) := by decide +kernel
theorem d_K_RuleReader_reads_51 : decode b_K_RuleReader_reads 51 = .ok (.iload_n 1, 1) := by decide +kernel
theorem d_K_RuleReader_reads_52 : decode b_K_RuleReader_reads 52 = .ok (.iaload, 1) := by decide +kernel
theorem d_K_RuleReader_reads_53 : decode b_K_RuleReader_reads 53 = .ok (.iload_n 3, 1) := by decide +kernel
theorem d_K_RuleReader_reads_54 : decode b_K_RuleReader_reads 54 = .ok (.iadd, 1) := by decide +kernel
theorem d_K_RuleReader_reads_55 : decode b_K_RuleReader_reads 55 = .ok (.caload, 1) := by decide +kernel
theorem d_K_RuleReader_reads_56 : decode b_K_RuleReader_reads 56 = .ok (.aload_n 2, 1) := by decide +kernel
theorem d_K_RuleReader_reads_57 : decode b_K_RuleReader_reads 57 = .ok (.iload_n 3, 1) := by decide +kernel
theorem d_K_RuleReader_reads_58 : decode b_K_RuleReader_reads 58 = .ok (.invokevirtual 110, 3) := by decide +kernel
theorem d_K_RuleReader_reads_61 : decode b_K_RuleReader_reads 61 = .ok (.if_icmp .eq 5, 3) := by decide +kernel
theorem d_K_RuleReader_reads_64 : decode b_K_RuleReader_reads 64 = .ok (.iconst 0, 1) := by decide +kernel
theorem d_K_RuleReader_reads_65 : decode b_K_RuleReader_reads 65 = .ok (.ireturn, 1) := by decide +kernel
theorem d_K_RuleReader_reads_66 : decode b_K_RuleReader_reads 66 = .ok (.iinc 3 1, 3) := by decide +kernel
theorem d_K_RuleReader_reads_69 : decode b_K_RuleReader_reads 69 = .ok (.goto (-37), 3) := by decide +kernel
theorem d_K_RuleReader_reads_72 : decode b_K_RuleReader_reads 72 = .ok (.iconst 1, 1) := by decide +kernel
theorem d_K_RuleReader_reads_73 : decode b_K_RuleReader_reads 73 = .ok (.ireturn, 1) := by decide +kernel
theorem d_K_RuleReader_sortOfRule_0 : decode b_K_RuleReader_sortOfRule 0 = .ok (.aload_n 0, 1) := by decide +kernel
theorem d_K_RuleReader_sortOfRule_1 : decode b_K_RuleReader_sortOfRule 1 = .ok (.iconst 1, 1) := by decide +kernel
theorem d_K_RuleReader_sortOfRule_2 : decode b_K_RuleReader_sortOfRule 2 = .ok (.ldc 83, 2) := by decide +kernel
theorem d_K_RuleReader_sortOfRule_4 : decode b_K_RuleReader_sortOfRule 4 = .ok (.invokevirtual 43, 3) := by decide +kernel
theorem d_K_RuleReader_sortOfRule_7 : decode b_K_RuleReader_sortOfRule 7 = .ok (.ifCond .eq 5, 3) := by decide +kernel
theorem d_K_RuleReader_sortOfRule_10 : decode b_K_RuleReader_sortOfRule 10 = .ok (.iconst 1, 1) := by decide +kernel
theorem d_K_RuleReader_sortOfRule_11 : decode b_K_RuleReader_sortOfRule 11 = .ok (.ireturn, 1) := by decide +kernel
theorem d_K_RuleReader_sortOfRule_12 : decode b_K_RuleReader_sortOfRule 12 = .ok (.aload_n 0, 1) := by decide +kernel
theorem d_K_RuleReader_sortOfRule_13 : decode b_K_RuleReader_sortOfRule 13 = .ok (.iconst 1, 1) := by decide +kernel
theorem d_K_RuleReader_sortOfRule_14 : decode b_K_RuleReader_sortOfRule 14 = .ok (.ldc 85, 2) := by decide +kernel
theorem d_K_RuleReader_sortOfRule_16 : decode b_K_RuleReader_sortOfRule 16 = .ok (.invokevirtual 43, 3) := by decide +kernel
theorem d_K_RuleReader_sortOfRule_19 : decode b_K_RuleReader_sortOfRule 19 = .ok (.ifCond .eq 5, 3) := by decide +kernel
theorem d_K_RuleReader_sortOfRule_22 : decode b_K_RuleReader_sortOfRule 22 = .ok (.iconst 2, 1) := by decide +kernel
theorem d_K_RuleReader_sortOfRule_23 : decode b_K_RuleReader_sortOfRule 23 = .ok (.ireturn, 1) := by decide +kernel
theorem d_K_RuleReader_sortOfRule_24 : decode b_K_RuleReader_sortOfRule 24 = .ok (.aload_n 0, 1) := by decide +kernel
theorem d_K_RuleReader_sortOfRule_25 : decode b_K_RuleReader_sortOfRule 25 = .ok (.iconst 1, 1) := by decide +kernel
theorem d_K_RuleReader_sortOfRule_26 : decode b_K_RuleReader_sortOfRule 26 = .ok (.ldc 87, 2) := by decide +kernel
theorem d_K_RuleReader_sortOfRule_28 : decode b_K_RuleReader_sortOfRule 28 = .ok (.invokevirtual 43, 3) := by decide +kernel
theorem d_K_RuleReader_sortOfRule_31 : decode b_K_RuleReader_sortOfRule 31 = .ok (.ifCond .eq 7, 3) := by decide +kernel
theorem d_K_RuleReader_sortOfRule_34 : decode b_K_RuleReader_sortOfRule 34 = .ok (.iconst 3, 1) := by decide +kernel
theorem d_K_RuleReader_sortOfRule_35 : decode b_K_RuleReader_sortOfRule 35 = .ok (.goto 4, 3) := by decide +kernel
theorem d_K_RuleReader_sortOfRule_38 : decode b_K_RuleReader_sortOfRule 38 = .ok (.iconst 0, 1) := by decide +kernel
theorem d_K_RuleReader_sortOfRule_39 : decode b_K_RuleReader_sortOfRule 39 = .ok (.ireturn, 1) := by decide +kernel
theorem d_K_RuleReader_isPattern_0 : decode b_K_RuleReader_isPattern 0 = .ok (.iload_n 1, 1) := by decide +kernel
theorem d_K_RuleReader_isPattern_1 : decode b_K_RuleReader_isPattern 1 = .ok (.aload_n 0, 1) := by decide +kernel
theorem d_K_RuleReader_isPattern_2 : decode b_K_RuleReader_isPattern 2 = .ok (.getfield 73, 3) := by decide +kernel
theorem d_K_RuleReader_isPattern_5 : decode b_K_RuleReader_isPattern 5 = .ok (.if_icmp .gt 20, 3) := by decide +kernel
theorem d_K_RuleReader_isPattern_8 : decode b_K_RuleReader_isPattern 8 = .ok (.aload_n 0, 1) := by decide +kernel
theorem d_K_RuleReader_isPattern_9 : decode b_K_RuleReader_isPattern 9 = .ok (.getfield 15, 3) := by decide +kernel
theorem d_K_RuleReader_isPattern_12 : decode b_K_RuleReader_isPattern 12 = .ok (.iload_n 1, 1) := by decide +kernel
theorem d_K_RuleReader_isPattern_13 : decode b_K_RuleReader_isPattern 13 = .ok (.iaload, 1) := by decide +kernel
theorem d_K_RuleReader_isPattern_14 : decode b_K_RuleReader_isPattern 14 = .ok (.iload_n 2, 1) := by decide +kernel
theorem d_K_RuleReader_isPattern_15 : decode b_K_RuleReader_isPattern 15 = .ok (.isub, 1) := by decide +kernel
theorem d_K_RuleReader_isPattern_16 : decode b_K_RuleReader_isPattern 16 = .ok (.aload_n 0, 1) := by decide +kernel
theorem d_K_RuleReader_isPattern_17 : decode b_K_RuleReader_isPattern 17 = .ok (.getfield 9, 3) := by decide +kernel
theorem d_K_RuleReader_isPattern_20 : decode b_K_RuleReader_isPattern 20 = .ok (.iload_n 1, 1) := by decide +kernel
theorem d_K_RuleReader_isPattern_21 : decode b_K_RuleReader_isPattern 21 = .ok (.iaload, 1) := by decide +kernel
theorem d_K_RuleReader_isPattern_22 : decode b_K_RuleReader_isPattern 22 = .ok (.if_icmp .gt 5, 3) := by decide +kernel
theorem d_K_RuleReader_isPattern_25 : decode b_K_RuleReader_isPattern 25 = .ok (.iconst 0, 1) := by decide +kernel
theorem d_K_RuleReader_isPattern_26 : decode b_K_RuleReader_isPattern 26 = .ok (.ireturn, 1) := by decide +kernel
theorem d_K_RuleReader_isPattern_27 : decode b_K_RuleReader_isPattern 27 = .ok (.aload_n 0, 1) := by decide +kernel
theorem d_K_RuleReader_isPattern_28 : decode b_K_RuleReader_isPattern 28 = .ok (.getfield 9, 3) := by decide +kernel
theorem d_K_RuleReader_isPattern_31 : decode b_K_RuleReader_isPattern 31 = .ok (.iload_n 1, 1) := by decide +kernel
theorem d_K_RuleReader_isPattern_32 : decode b_K_RuleReader_isPattern 32 = .ok (.iaload, 1) := by decide +kernel
theorem d_K_RuleReader_isPattern_33 : decode b_K_RuleReader_isPattern 33 = .ok (.istore_n 3, 1) := by decide +kernel
theorem d_K_RuleReader_isPattern_34 : decode b_K_RuleReader_isPattern 34 = .ok (.iload_n 3, 1) := by decide +kernel
theorem d_K_RuleReader_isPattern_35 : decode b_K_RuleReader_isPattern 35 = .ok (.aload_n 0, 1) := by decide +kernel
theorem d_K_RuleReader_isPattern_36 : decode b_K_RuleReader_isPattern 36 = .ok (.getfield 15, 3) := by decide +kernel
theorem d_K_RuleReader_isPattern_39 : decode b_K_RuleReader_isPattern 39 = .ok (.iload_n 1, 1) := by decide +kernel
theorem d_K_RuleReader_isPattern_40 : decode b_K_RuleReader_isPattern 40 = .ok (.iaload, 1) := by decide +kernel
theorem d_K_RuleReader_isPattern_41 : decode b_K_RuleReader_isPattern 41 = .ok (.iload_n 2, 1) := by decide +kernel
theorem d_K_RuleReader_isPattern_42 : decode b_K_RuleReader_isPattern 42 = .ok (.isub, 1) := by decide +kernel
theorem d_K_RuleReader_isPattern_43 : decode b_K_RuleReader_isPattern 43 = .ok (.if_icmp .ge 43, 3) := by decide +kernel
theorem d_K_RuleReader_isPattern_46 : decode b_K_RuleReader_isPattern 46 = .ok (.aload_n 0, 1) := by decide +kernel
theorem d_K_RuleReader_isPattern_47 : decode b_K_RuleReader_isPattern 47 = .ok (.getfield 27, 3) := by decide +kernel
theorem d_K_RuleReader_isPattern_50 : decode b_K_RuleReader_isPattern 50 = .ok (.getfield 79, 3) := by decide +kernel
theorem d_K_RuleReader_isPattern_53 : decode b_K_RuleReader_isPattern 53 = .ok (.iload_n 3, 1) := by decide +kernel
theorem d_K_RuleReader_isPattern_54 : decode b_K_RuleReader_isPattern 54 = .ok (.caload, 1) := by decide +kernel
theorem d_K_RuleReader_isPattern_55 : decode b_K_RuleReader_isPattern 55 = .ok (.istore 4, 2) := by decide +kernel
theorem d_K_RuleReader_isPattern_57 : decode b_K_RuleReader_isPattern 57 = .ok (.iload 4, 2) := by decide +kernel
theorem d_K_RuleReader_isPattern_59 : decode b_K_RuleReader_isPattern 59 = .ok (.bipush 59, 2) := by decide +kernel
theorem d_K_RuleReader_isPattern_61 : decode b_K_RuleReader_isPattern 61 = .ok (.if_icmp .eq 17, 3) := by decide +kernel
theorem d_K_RuleReader_isPattern_64 : decode b_K_RuleReader_isPattern 64 = .ok (.iload 4, 2) := by decide +kernel
theorem d_K_RuleReader_isPattern_66 : decode b_K_RuleReader_isPattern 66 = .ok (.bipush 123, 2) := by decide +kernel
theorem d_K_RuleReader_isPattern_68 : decode b_K_RuleReader_isPattern 68 = .ok (.if_icmp .eq 10, 3) := by decide +kernel
theorem d_K_RuleReader_isPattern_71 : decode b_K_RuleReader_isPattern 71 = .ok (.iload 4, 2) := by decide +kernel
theorem d_K_RuleReader_isPattern_73 : decode b_K_RuleReader_isPattern 73 = .ok (.bipush 125, 2) := by decide +kernel
theorem d_K_RuleReader_isPattern_75 : decode b_K_RuleReader_isPattern 75 = .ok (.if_icmp .ne 5, 3) := by decide +kernel
theorem d_K_RuleReader_isPattern_78 : decode b_K_RuleReader_isPattern 78 = .ok (.iconst 0, 1) := by decide +kernel
theorem d_K_RuleReader_isPattern_79 : decode b_K_RuleReader_isPattern 79 = .ok (.ireturn, 1) := by decide +kernel
theorem d_K_RuleReader_isPattern_80 : decode b_K_RuleReader_isPattern 80 = .ok (.iinc 3 1, 3) := by decide +kernel
theorem d_K_RuleReader_isPattern_83 : decode b_K_RuleReader_isPattern 83 = .ok (.goto (-49), 3) := by decide +kernel
theorem d_K_RuleReader_isPattern_86 : decode b_K_RuleReader_isPattern 86 = .ok (.iconst 1, 1) := by decide +kernel
theorem d_K_RuleReader_isPattern_87 : decode b_K_RuleReader_isPattern 87 = .ok (.ireturn, 1) := by decide +kernel
theorem d_K_RuleReader_afterOne_0 : decode b_K_RuleReader_afterOne 0 = .ok (.iconst 0, 1) := by decide +kernel
theorem d_K_RuleReader_afterOne_1 : decode b_K_RuleReader_afterOne 1 = .ok (.istore_n 3, 1) := by decide +kernel
theorem d_K_RuleReader_afterOne_2 : decode b_K_RuleReader_afterOne 2 = .ok (.iconst 0, 1) := by decide +kernel
theorem d_K_RuleReader_afterOne_3 : decode b_K_RuleReader_afterOne 3 = .ok (.istore 4, 2) := by decide +kernel
theorem d_K_RuleReader_afterOne_5 : decode b_K_RuleReader_afterOne 5 = .ok (.iload 4, 2) := by decide +kernel
theorem d_K_RuleReader_afterOne_7 : decode b_K_RuleReader_afterOne 7 = .ok (.aload_n 0, 1) := by decide +kernel
theorem d_K_RuleReader_afterOne_8 : decode b_K_RuleReader_afterOne 8 = .ok (.getfield 23, 3) := by decide +kernel
theorem d_K_RuleReader_afterOne_11 : decode b_K_RuleReader_afterOne 11 = .ok (.getfield 76, 3) := by decide +kernel
theorem d_K_RuleReader_afterOne_14 : decode b_K_RuleReader_afterOne 14 = .ok (.if_icmp .ge 76, 3) := by decide +kernel
theorem d_K_RuleReader_afterOne_17 : decode b_K_RuleReader_afterOne 17 = .ok (.aload_n 0, 1) := by decide +kernel
theorem d_K_RuleReader_afterOne_18 : decode b_K_RuleReader_afterOne 18 = .ok (.getfield 23, 3) := by decide +kernel
theorem d_K_RuleReader_afterOne_21 : decode b_K_RuleReader_afterOne 21 = .ok (.getfield 79, 3) := by decide +kernel
theorem d_K_RuleReader_afterOne_24 : decode b_K_RuleReader_afterOne 24 = .ok (.iload 4, 2) := by decide +kernel
theorem d_K_RuleReader_afterOne_26 : decode b_K_RuleReader_afterOne 26 = .ok (.caload, 1) := by decide +kernel
theorem d_K_RuleReader_afterOne_27 : decode b_K_RuleReader_afterOne 27 = .ok (.istore 5, 2) := by decide +kernel
theorem d_K_RuleReader_afterOne_29 : decode b_K_RuleReader_afterOne 29 = .ok (.iload_n 2, 1) := by decide +kernel
theorem d_K_RuleReader_afterOne_30 : decode b_K_RuleReader_afterOne 30 = .ok (.bipush 63, 2) := by decide +kernel
theorem d_K_RuleReader_afterOne_32 : decode b_K_RuleReader_afterOne 32 = .ok (.if_icmp .ne 18, 3) := by decide +kernel
theorem d_K_RuleReader_afterOne_35 : decode b_K_RuleReader_afterOne 35 = .ok (.iload 5, 2) := by decide +kernel
theorem d_K_RuleReader_afterOne_37 : decode b_K_RuleReader_afterOne 37 = .ok (.bipush 46, 2) := by decide +kernel
theorem d_K_RuleReader_afterOne_39 : decode b_K_RuleReader_afterOne 39 = .ok (.if_icmp .eq 7, 3) := by decide +kernel
theorem d_K_RuleReader_afterOne_42 : decode b_K_RuleReader_afterOne 42 = .ok (.iconst 1, 1) := by decide +kernel
theorem d_K_RuleReader_afterOne_43 : decode b_K_RuleReader_afterOne 43 = .ok (.goto 18, 3) := by decide +kernel
theorem d_K_RuleReader_afterOne_46 : decode b_K_RuleReader_afterOne 46 = .ok (.iconst 0, 1) := by decide +kernel
theorem d_K_RuleReader_afterOne_47 : decode b_K_RuleReader_afterOne 47 = .ok (.goto 14, 3) := by decide +kernel
theorem d_K_RuleReader_afterOne_50 : decode b_K_RuleReader_afterOne 50 = .ok (.iload 5, 2) := by decide +kernel
theorem d_K_RuleReader_afterOne_52 : decode b_K_RuleReader_afterOne 52 = .ok (.iload_n 2, 1) := by decide +kernel
theorem d_K_RuleReader_afterOne_53 : decode b_K_RuleReader_afterOne 53 = .ok (.if_icmp .ne 7, 3) := by decide +kernel
theorem d_K_RuleReader_afterOne_56 : decode b_K_RuleReader_afterOne 56 = .ok (.iconst 1, 1) := by decide +kernel
theorem d_K_RuleReader_afterOne_57 : decode b_K_RuleReader_afterOne 57 = .ok (.goto 4, 3) := by decide +kernel
theorem d_K_RuleReader_afterOne_60 : decode b_K_RuleReader_afterOne 60 = .ok (.iconst 0, 1) := by decide +kernel
theorem d_K_RuleReader_afterOne_61 : decode b_K_RuleReader_afterOne 61 = .ok (.istore 6, 2) := by decide +kernel
theorem d_K_RuleReader_afterOne_63 : decode b_K_RuleReader_afterOne 63 = .ok (.iload 6, 2) := by decide +kernel
theorem d_K_RuleReader_afterOne_65 : decode b_K_RuleReader_afterOne 65 = .ok (.ifCond .eq 19, 3) := by decide +kernel
theorem d_K_RuleReader_afterOne_68 : decode b_K_RuleReader_afterOne 68 = .ok (.iload_n 1, 1) := by decide +kernel
theorem d_K_RuleReader_afterOne_69 : decode b_K_RuleReader_afterOne 69 = .ok (.iload 4, 2) := by decide +kernel
theorem d_K_RuleReader_afterOne_71 : decode b_K_RuleReader_afterOne 71 = .ok (.ishr, 1) := by decide +kernel
theorem d_K_RuleReader_afterOne_72 : decode b_K_RuleReader_afterOne 72 = .ok (.iconst 1, 1) := by decide +kernel
theorem d_K_RuleReader_afterOne_73 : decode b_K_RuleReader_afterOne 73 = .ok (.iand, 1) := by decide +kernel
theorem d_K_RuleReader_afterOne_74 : decode b_K_RuleReader_afterOne 74 = .ok (.ifCond .eq 10, 3) := by decide +kernel
theorem d_K_RuleReader_afterOne_77 : decode b_K_RuleReader_afterOne 77 = .ok (.iload_n 3, 1) := by decide +kernel
theorem d_K_RuleReader_afterOne_78 : decode b_K_RuleReader_afterOne 78 = .ok (.iconst 2, 1) := by decide +kernel
theorem d_K_RuleReader_afterOne_79 : decode b_K_RuleReader_afterOne 79 = .ok (.iload 4, 2) := by decide +kernel
theorem d_K_RuleReader_afterOne_81 : decode b_K_RuleReader_afterOne 81 = .ok (.ishl, 1) := by decide +kernel
theorem d_K_RuleReader_afterOne_82 : decode b_K_RuleReader_afterOne 82 = .ok (.ior, 1) := by decide +kernel
theorem d_K_RuleReader_afterOne_83 : decode b_K_RuleReader_afterOne 83 = .ok (.istore_n 3, 1) := by decide +kernel
theorem d_K_RuleReader_afterOne_84 : decode b_K_RuleReader_afterOne 84 = .ok (.iinc 4 1, 3) := by decide +kernel
theorem d_K_RuleReader_afterOne_87 : decode b_K_RuleReader_afterOne 87 = .ok (.goto (-82), 3) := by decide +kernel
theorem d_K_RuleReader_afterOne_90 : decode b_K_RuleReader_afterOne 90 = .ok (.iload_n 3, 1) := by decide +kernel
theorem d_K_RuleReader_afterOne_91 : decode b_K_RuleReader_afterOne 91 = .ok (.ireturn, 1) := by decide +kernel
theorem d_K_RuleReader_afterMany_0 : decode b_K_RuleReader_afterMany 0 = .ok (.iload_n 1, 1) := by decide +kernel
theorem d_K_RuleReader_afterMany_1 : decode b_K_RuleReader_afterMany 1 = .ok (.istore_n 3, 1) := by decide +kernel
theorem d_K_RuleReader_afterMany_2 : decode b_K_RuleReader_afterMany 2 = .ok (.iconst 0, 1) := by decide +kernel
theorem d_K_RuleReader_afterMany_3 : decode b_K_RuleReader_afterMany 3 = .ok (.istore 4, 2) := by decide +kernel
theorem d_K_RuleReader_afterMany_5 : decode b_K_RuleReader_afterMany 5 = .ok (.iload 4, 2) := by decide +kernel
theorem d_K_RuleReader_afterMany_7 : decode b_K_RuleReader_afterMany 7 = .ok (.aload_n 0, 1) := by decide +kernel
theorem d_K_RuleReader_afterMany_8 : decode b_K_RuleReader_afterMany 8 = .ok (.getfield 23, 3) := by decide +kernel
theorem d_K_RuleReader_afterMany_11 : decode b_K_RuleReader_afterMany 11 = .ok (.getfield 76, 3) := by decide +kernel
theorem d_K_RuleReader_afterMany_14 : decode b_K_RuleReader_afterMany 14 = .ok (.if_icmp .ge 44, 3) := by decide +kernel
theorem d_K_RuleReader_afterMany_17 : decode b_K_RuleReader_afterMany 17 = .ok (.iload_n 2, 1) := by decide +kernel
theorem d_K_RuleReader_afterMany_18 : decode b_K_RuleReader_afterMany 18 = .ok (.ifCond .ne 18, 3) := by decide +kernel
theorem d_K_RuleReader_afterMany_21 : decode b_K_RuleReader_afterMany 21 = .ok (.aload_n 0, 1) := by decide +kernel
theorem d_K_RuleReader_afterMany_22 : decode b_K_RuleReader_afterMany 22 = .ok (.getfield 23, 3) := by decide +kernel
theorem d_K_RuleReader_afterMany_25 : decode b_K_RuleReader_afterMany 25 = .ok (.getfield 79, 3) := by decide +kernel
theorem d_K_RuleReader_afterMany_28 : decode b_K_RuleReader_afterMany 28 = .ok (.iload 4, 2) := by decide +kernel
theorem d_K_RuleReader_afterMany_30 : decode b_K_RuleReader_afterMany 30 = .ok (.caload, 1) := by decide +kernel
theorem d_K_RuleReader_afterMany_31 : decode b_K_RuleReader_afterMany 31 = .ok (.bipush 46, 2) := by decide +kernel
theorem d_K_RuleReader_afterMany_33 : decode b_K_RuleReader_afterMany 33 = .ok (.if_icmp .eq 19, 3) := by decide +kernel
theorem d_K_RuleReader_afterMany_36 : decode b_K_RuleReader_afterMany 36 = .ok (.iload_n 3, 1) := by decide +kernel
theorem d_K_RuleReader_afterMany_37 : decode b_K_RuleReader_afterMany 37 = .ok (.iload 4, 2) := by decide +kernel
theorem d_K_RuleReader_afterMany_39 : decode b_K_RuleReader_afterMany 39 = .ok (.ishr, 1) := by decide +kernel
theorem d_K_RuleReader_afterMany_40 : decode b_K_RuleReader_afterMany 40 = .ok (.iconst 1, 1) := by decide +kernel
theorem d_K_RuleReader_afterMany_41 : decode b_K_RuleReader_afterMany 41 = .ok (.iand, 1) := by decide +kernel
theorem d_K_RuleReader_afterMany_42 : decode b_K_RuleReader_afterMany 42 = .ok (.ifCond .eq 10, 3) := by decide +kernel
theorem d_K_RuleReader_afterMany_45 : decode b_K_RuleReader_afterMany 45 = .ok (.iload_n 3, 1) := by decide +kernel
theorem d_K_RuleReader_afterMany_46 : decode b_K_RuleReader_afterMany 46 = .ok (.iconst 2, 1) := by decide +kernel
theorem d_K_RuleReader_afterMany_47 : decode b_K_RuleReader_afterMany 47 = .ok (.iload 4, 2) := by decide +kernel
theorem d_K_RuleReader_afterMany_49 : decode b_K_RuleReader_afterMany 49 = .ok (.ishl, 1) := by decide +kernel
theorem d_K_RuleReader_afterMany_50 : decode b_K_RuleReader_afterMany 50 = .ok (.ior, 1) := by decide +kernel
theorem d_K_RuleReader_afterMany_51 : decode b_K_RuleReader_afterMany 51 = .ok (.istore_n 3, 1) := by decide +kernel
theorem d_K_RuleReader_afterMany_52 : decode b_K_RuleReader_afterMany 52 = .ok (.iinc 4 1, 3) := by decide +kernel
theorem d_K_RuleReader_afterMany_55 : decode b_K_RuleReader_afterMany 55 = .ok (.goto (-50), 3) := by decide +kernel
theorem d_K_RuleReader_afterMany_58 : decode b_K_RuleReader_afterMany 58 = .ok (.iload_n 3, 1) := by decide +kernel
theorem d_K_RuleReader_afterMany_59 : decode b_K_RuleReader_afterMany 59 = .ok (.ireturn, 1) := by decide +kernel
theorem d_K_RuleReader_fits_0 : decode b_K_RuleReader_fits 0 = .ok (.iconst 1, 1) := by decide +kernel
theorem d_K_RuleReader_fits_1 : decode b_K_RuleReader_fits 1 = .ok (.istore_n 3, 1) := by decide +kernel
theorem d_K_RuleReader_fits_2 : decode b_K_RuleReader_fits 2 = .ok (.iload_n 1, 1) := by decide +kernel
theorem d_K_RuleReader_fits_3 : decode b_K_RuleReader_fits 3 = .ok (.istore 4, 2) := by decide +kernel
theorem d_K_RuleReader_fits_5 : decode b_K_RuleReader_fits 5 = .ok (.iload 4, 2) := by decide +kernel
theorem d_K_RuleReader_fits_7 : decode b_K_RuleReader_fits 7 = .ok (.iload_n 2, 1) := by decide +kernel
theorem d_K_RuleReader_fits_8 : decode b_K_RuleReader_fits 8 = .ok (.if_icmp .ge 88, 3) := by decide +kernel
theorem d_K_RuleReader_fits_11 : decode b_K_RuleReader_fits 11 = .ok (.aload_n 0, 1) := by decide +kernel
theorem d_K_RuleReader_fits_12 : decode b_K_RuleReader_fits 12 = .ok (.getfield 27, 3) := by decide +kernel
theorem d_K_RuleReader_fits_15 : decode b_K_RuleReader_fits 15 = .ok (.getfield 79, 3) := by decide +kernel
theorem d_K_RuleReader_fits_18 : decode b_K_RuleReader_fits 18 = .ok (.iload 4, 2) := by decide +kernel
theorem d_K_RuleReader_fits_20 : decode b_K_RuleReader_fits 20 = .ok (.caload, 1) := by decide +kernel
theorem d_K_RuleReader_fits_21 : decode b_K_RuleReader_fits 21 = .ok (.bipush 42, 2) := by decide +kernel
theorem d_K_RuleReader_fits_23 : decode b_K_RuleReader_fits 23 = .ok (.if_icmp .eq 22, 3) := by decide +kernel
theorem d_K_RuleReader_fits_26 : decode b_K_RuleReader_fits 26 = .ok (.aload_n 0, 1) := by decide +kernel
theorem d_K_RuleReader_fits_27 : decode b_K_RuleReader_fits 27 = .ok (.iload_n 3, 1) := by decide +kernel
theorem d_K_RuleReader_fits_28 : decode b_K_RuleReader_fits 28 = .ok (.aload_n 0, 1) := by decide +kernel
theorem d_K_RuleReader_fits_29 : decode b_K_RuleReader_fits 29 = .ok (.getfield 27, 3) := by decide +kernel
theorem d_K_RuleReader_fits_32 : decode b_K_RuleReader_fits 32 = .ok (.getfield 79, 3) := by decide +kernel
theorem d_K_RuleReader_fits_35 : decode b_K_RuleReader_fits 35 = .ok (.iload 4, 2) := by decide +kernel
theorem d_K_RuleReader_fits_37 : decode b_K_RuleReader_fits 37 = .ok (.caload, 1) := by decide +kernel
theorem d_K_RuleReader_fits_38 : decode b_K_RuleReader_fits 38 = .ok (.invokevirtual 136, 3) := by decide +kernel
theorem d_K_RuleReader_fits_41 : decode b_K_RuleReader_fits 41 = .ok (.istore_n 3, 1) := by decide +kernel
theorem d_K_RuleReader_fits_42 : decode b_K_RuleReader_fits 42 = .ok (.goto 48, 3) := by decide +kernel
theorem d_K_RuleReader_fits_45 : decode b_K_RuleReader_fits 45 = .ok (.iload 4, 2) := by decide +kernel
theorem d_K_RuleReader_fits_47 : decode b_K_RuleReader_fits 47 = .ok (.iconst 1, 1) := by decide +kernel
theorem d_K_RuleReader_fits_48 : decode b_K_RuleReader_fits 48 = .ok (.iadd, 1) := by decide +kernel
theorem d_K_RuleReader_fits_49 : decode b_K_RuleReader_fits 49 = .ok (.iload_n 2, 1) := by decide +kernel
theorem d_K_RuleReader_fits_50 : decode b_K_RuleReader_fits 50 = .ok (.if_icmp .ge 33, 3) := by decide +kernel
theorem d_K_RuleReader_fits_53 : decode b_K_RuleReader_fits 53 = .ok (.aload_n 0, 1) := by decide +kernel
theorem d_K_RuleReader_fits_54 : decode b_K_RuleReader_fits 54 = .ok (.getfield 27, 3) := by decide +kernel
theorem d_K_RuleReader_fits_57 : decode b_K_RuleReader_fits 57 = .ok (.getfield 79, 3) := by decide +kernel
theorem d_K_RuleReader_fits_60 : decode b_K_RuleReader_fits 60 = .ok (.iload 4, 2) := by decide +kernel
theorem d_K_RuleReader_fits_62 : decode b_K_RuleReader_fits 62 = .ok (.iconst 1, 1) := by decide +kernel
theorem d_K_RuleReader_fits_63 : decode b_K_RuleReader_fits 63 = .ok (.iadd, 1) := by decide +kernel
theorem d_K_RuleReader_fits_64 : decode b_K_RuleReader_fits 64 = .ok (.caload, 1) := by decide +kernel
theorem d_K_RuleReader_fits_65 : decode b_K_RuleReader_fits 65 = .ok (.bipush 42, 2) := by decide +kernel
theorem d_K_RuleReader_fits_67 : decode b_K_RuleReader_fits 67 = .ok (.if_icmp .ne 16, 3) := by decide +kernel
theorem d_K_RuleReader_fits_70 : decode b_K_RuleReader_fits 70 = .ok (.aload_n 0, 1) := by decide +kernel
theorem d_K_RuleReader_fits_71 : decode b_K_RuleReader_fits 71 = .ok (.iload_n 3, 1) := by decide +kernel
theorem d_K_RuleReader_fits_72 : decode b_K_RuleReader_fits 72 = .ok (.iconst 1, 1) := by decide +kernel
theorem d_K_RuleReader_fits_73 : decode b_K_RuleReader_fits 73 = .ok (.invokevirtual 140, 3) := by decide +kernel
theorem d_K_RuleReader_fits_76 : decode b_K_RuleReader_fits 76 = .ok (.istore_n 3, 1) := by decide +kernel
theorem d_K_RuleReader_fits_77 : decode b_K_RuleReader_fits 77 = .ok (.iinc 4 1, 3) := by decide +kernel
theorem d_K_RuleReader_fits_80 : decode b_K_RuleReader_fits 80 = .ok (.goto 10, 3) := by decide +kernel
theorem d_K_RuleReader_fits_83 : decode b_K_RuleReader_fits 83 = .ok (.aload_n 0, 1) := by decide +kernel
theorem d_K_RuleReader_fits_84 : decode b_K_RuleReader_fits 84 = .ok (.iload_n 3, 1) := by decide +kernel
theorem d_K_RuleReader_fits_85 : decode b_K_RuleReader_fits 85 = .ok (.iconst 0, 1) := by decide +kernel
theorem d_K_RuleReader_fits_86 : decode b_K_RuleReader_fits 86 = .ok (.invokevirtual 140, 3) := by decide +kernel
theorem d_K_RuleReader_fits_89 : decode b_K_RuleReader_fits 89 = .ok (.istore_n 3, 1) := by decide +kernel
theorem d_K_RuleReader_fits_90 : decode b_K_RuleReader_fits 90 = .ok (.iinc 4 1, 3) := by decide +kernel
theorem d_K_RuleReader_fits_93 : decode b_K_RuleReader_fits 93 = .ok (.goto (-88), 3) := by decide +kernel
theorem d_K_RuleReader_fits_96 : decode b_K_RuleReader_fits 96 = .ok (.iload_n 3, 1) := by decide +kernel
theorem d_K_RuleReader_fits_97 : decode b_K_RuleReader_fits 97 = .ok (.aload_n 0, 1) := by decide +kernel
theorem d_K_RuleReader_fits_98 : decode b_K_RuleReader_fits 98 = .ok (.getfield 23, 3) := by decide +kernel
theorem d_K_RuleReader_fits_101 : decode b_K_RuleReader_fits 101 = .ok (.getfield 76, 3) := by decide +kernel
theorem d_K_RuleReader_fits_104 : decode b_K_RuleReader_fits 104 = .ok (.ishr, 1) := by decide +kernel
theorem d_K_RuleReader_fits_105 : decode b_K_RuleReader_fits 105 = .ok (.iconst 1, 1) := by decide +kernel
theorem d_K_RuleReader_fits_106 : decode b_K_RuleReader_fits 106 = .ok (.iand, 1) := by decide +kernel
theorem d_K_RuleReader_fits_107 : decode b_K_RuleReader_fits 107 = .ok (.ifCond .eq 7, 3) := by decide +kernel
theorem d_K_RuleReader_fits_110 : decode b_K_RuleReader_fits 110 = .ok (.iconst 1, 1) := by decide +kernel
theorem d_K_RuleReader_fits_111 : decode b_K_RuleReader_fits 111 = .ok (.goto 4, 3) := by decide +kernel
theorem d_K_RuleReader_fits_114 : decode b_K_RuleReader_fits 114 = .ok (.iconst 0, 1) := by decide +kernel
theorem d_K_RuleReader_fits_115 : decode b_K_RuleReader_fits 115 = .ok (.ireturn, 1) := by decide +kernel
theorem d_K_RuleReader_namesThatFit_0 : decode b_K_RuleReader_namesThatFit 0 = .ok (.lconst 0, 1) := by decide +kernel
theorem d_K_RuleReader_namesThatFit_1 : decode b_K_RuleReader_namesThatFit 1 = .ok (.lstore_n 2, 1) := by decide +kernel
theorem d_K_RuleReader_namesThatFit_2 : decode b_K_RuleReader_namesThatFit 2 = .ok (.iconst 0, 1) := by decide +kernel
theorem d_K_RuleReader_namesThatFit_3 : decode b_K_RuleReader_namesThatFit 3 = .ok (.istore 4, 2) := by decide +kernel
theorem d_K_RuleReader_namesThatFit_5 : decode b_K_RuleReader_namesThatFit 5 = .ok (.iload 4, 2) := by decide +kernel
theorem d_K_RuleReader_namesThatFit_7 : decode b_K_RuleReader_namesThatFit 7 = .ok (.bipush 30, 2) := by decide +kernel
theorem d_K_RuleReader_namesThatFit_9 : decode b_K_RuleReader_namesThatFit 9 = .ok (.if_icmp .ge 60, 3) := by decide +kernel
theorem d_K_RuleReader_namesThatFit_12 : decode b_K_RuleReader_namesThatFit 12 = .ok (.aload_n 0, 1) := by decide +kernel
theorem d_K_RuleReader_namesThatFit_13 : decode b_K_RuleReader_namesThatFit 13 = .ok (.getfield 23, 3) := by decide +kernel
theorem d_K_RuleReader_namesThatFit_16 : decode b_K_RuleReader_namesThatFit 16 = .ok (.invokevirtual 114, 3) := by decide +kernel
theorem d_K_RuleReader_namesThatFit_19 : decode b_K_RuleReader_namesThatFit 19 = .ok (.aload_n 0, 1) := by decide +kernel
theorem d_K_RuleReader_namesThatFit_20 : decode b_K_RuleReader_namesThatFit 20 = .ok (.getfield 23, 3) := by decide +kernel
theorem d_K_RuleReader_namesThatFit_23 : decode b_K_RuleReader_namesThatFit 23 = .ok (.iload 4, 2) := by decide +kernel
theorem d_K_RuleReader_namesThatFit_25 : decode b_K_RuleReader_namesThatFit 25 = .ok (.bipush 10, 2) := by decide +kernel
theorem d_K_RuleReader_namesThatFit_27 : decode b_K_RuleReader_namesThatFit 27 = .ok (.idiv, 1) := by decide +kernel
theorem d_K_RuleReader_namesThatFit_28 : decode b_K_RuleReader_namesThatFit 28 = .ok (.iload 4, 2) := by decide +kernel
theorem d_K_RuleReader_namesThatFit_30 : decode b_K_RuleReader_namesThatFit 30 = .ok (.bipush 10, 2) := by decide +kernel
theorem d_K_RuleReader_namesThatFit_32 : decode b_K_RuleReader_namesThatFit 32 = .ok (.irem, 1) := by decide +kernel
theorem d_K_RuleReader_namesThatFit_33 : decode b_K_RuleReader_namesThatFit 33 = .ok (.invokevirtual 117, 3) := by decide +kernel
theorem d_K_RuleReader_namesThatFit_36 : decode b_K_RuleReader_namesThatFit 36 = .ok (.aload_n 0, 1) := by decide +kernel
theorem d_K_RuleReader_namesThatFit_37 : decode b_K_RuleReader_namesThatFit 37 = .ok (.aload_n 0, 1) := by decide +kernel
theorem d_K_RuleReader_namesThatFit_38 : decode b_K_RuleReader_namesThatFit 38 = .ok (.getfield 9, 3) := by decide +kernel
theorem d_K_RuleReader_namesThatFit_41 : decode b_K_RuleReader_namesThatFit 41 = .ok (.iload_n 1, 1) := by decide +kernel
theorem d_K_RuleReader_namesThatFit_42 : decode b_K_RuleReader_namesThatFit 42 = .ok (.iaload, 1) := by decide +kernel
theorem d_K_RuleReader_namesThatFit_43 : decode b_K_RuleReader_namesThatFit 43 = .ok (.aload_n 0, 1) := by decide +kernel
theorem d_K_RuleReader_namesThatFit_44 : decode b_K_RuleReader_namesThatFit 44 = .ok (.getfield 15, 3) := by decide +kernel
theorem d_K_RuleReader_namesThatFit_47 : decode b_K_RuleReader_namesThatFit 47 = .ok (.iload_n 1, 1) := by decide +kernel
theorem d_K_RuleReader_namesThatFit_48 : decode b_K_RuleReader_namesThatFit 48 = .ok (.iaload, 1) := by decide +kernel
theorem d_K_RuleReader_namesThatFit_49 : decode b_K_RuleReader_namesThatFit 49 = .ok (.invokevirtual 121, 3) := by decide +kernel
theorem d_K_RuleReader_namesThatFit_52 : decode b_K_RuleReader_namesThatFit 52 = .ok (.ifCond .eq 11, 3) := by decide +kernel
theorem d_K_RuleReader_namesThatFit_55 : decode b_K_RuleReader_namesThatFit 55 = .ok (.lload_n 2, 1) := by decide +kernel
theorem d_K_RuleReader_namesThatFit_56 : decode b_K_RuleReader_namesThatFit 56 = .ok (.iload 4, 2) := by decide +kernel
theorem d_K_RuleReader_namesThatFit_58 : decode b_K_RuleReader_namesThatFit 58 = .ok (.invokestatic 124, 3) := by decide +kernel
theorem d_K_RuleReader_namesThatFit_61 : decode b_K_RuleReader_namesThatFit 61 = .ok (.lor, 1) := by decide +kernel
theorem d_K_RuleReader_namesThatFit_62 : decode b_K_RuleReader_namesThatFit 62 = .ok (.lstore_n 2, 1) := by decide +kernel
theorem d_K_RuleReader_namesThatFit_63 : decode b_K_RuleReader_namesThatFit 63 = .ok (.iinc 4 1, 3) := by decide +kernel
theorem d_K_RuleReader_namesThatFit_66 : decode b_K_RuleReader_namesThatFit 66 = .ok (.goto (-61), 3) := by decide +kernel
theorem d_K_RuleReader_namesThatFit_69 : decode b_K_RuleReader_namesThatFit 69 = .ok (.lload_n 2, 1) := by decide +kernel
theorem d_K_RuleReader_namesThatFit_70 : decode b_K_RuleReader_namesThatFit 70 = .ok (.lreturn, 1) := by decide +kernel
theorem d_K_RuleReader_endsClause_0 : decode b_K_RuleReader_endsClause 0 = .ok (.iload_n 1, 1) := by decide +kernel
theorem d_K_RuleReader_endsClause_1 : decode b_K_RuleReader_endsClause 1 = .ok (.aload_n 0, 1) := by decide +kernel
theorem d_K_RuleReader_endsClause_2 : decode b_K_RuleReader_endsClause 2 = .ok (.getfield 73, 3) := by decide +kernel
theorem d_K_RuleReader_endsClause_5 : decode b_K_RuleReader_endsClause 5 = .ok (.if_icmp .gt 43, 3) := by decide +kernel
theorem d_K_RuleReader_endsClause_8 : decode b_K_RuleReader_endsClause 8 = .ok (.aload_n 0, 1) := by decide +kernel
theorem d_K_RuleReader_endsClause_9 : decode b_K_RuleReader_endsClause 9 = .ok (.getfield 15, 3) := by decide +kernel
theorem d_K_RuleReader_endsClause_12 : decode b_K_RuleReader_endsClause 12 = .ok (.iload_n 1, 1) := by decide +kernel
theorem d_K_RuleReader_endsClause_13 : decode b_K_RuleReader_endsClause 13 = .ok (.iaload, 1) := by decide +kernel
theorem d_K_RuleReader_endsClause_14 : decode b_K_RuleReader_endsClause 14 = .ok (.aload_n 0, 1) := by decide +kernel
theorem d_K_RuleReader_endsClause_15 : decode b_K_RuleReader_endsClause 15 = .ok (.getfield 9, 3) := by decide +kernel
theorem d_K_RuleReader_endsClause_18 : decode b_K_RuleReader_endsClause 18 = .ok (.iload_n 1, 1) := by decide +kernel
theorem d_K_RuleReader_endsClause_19 : decode b_K_RuleReader_endsClause 19 = .ok (.iaload, 1) := by decide +kernel
theorem d_K_RuleReader_endsClause_20 : decode b_K_RuleReader_endsClause 20 = .ok (.if_icmp .le 28, 3) := by decide +kernel
theorem d_K_RuleReader_endsClause_23 : decode b_K_RuleReader_endsClause 23 = .ok (.aload_n 0, 1) := by decide +kernel
theorem d_K_RuleReader_endsClause_24 : decode b_K_RuleReader_endsClause 24 = .ok (.getfield 27, 3) := by decide +kernel
theorem d_K_RuleReader_endsClause_27 : decode b_K_RuleReader_endsClause 27 = .ok (.getfield 79, 3) := by decide +kernel
theorem d_K_RuleReader_endsClause_30 : decode b_K_RuleReader_endsClause 30 = .ok (.aload_n 0, 1) := by decide +kernel
theorem d_K_RuleReader_endsClause_31 : decode b_K_RuleReader_endsClause 31 = .ok (.getfield 15, 3) := by decide +kernel
theorem d_K_RuleReader_endsClause_34 : decode b_K_RuleReader_endsClause 34 = .ok (.iload_n 1, 1) := by decide +kernel
theorem d_K_RuleReader_endsClause_35 : decode b_K_RuleReader_endsClause 35 = .ok (.iaload, 1) := by decide +kernel
theorem d_K_RuleReader_endsClause_36 : decode b_K_RuleReader_endsClause 36 = .ok (.iconst 1, 1) := by decide +kernel
theorem d_K_RuleReader_endsClause_37 : decode b_K_RuleReader_endsClause 37 = .ok (.isub, 1) := by decide +kernel
theorem d_K_RuleReader_endsClause_38 : decode b_K_RuleReader_endsClause 38 = .ok (.caload, 1) := by decide +kernel
theorem d_K_RuleReader_endsClause_39 : decode b_K_RuleReader_endsClause 39 = .ok (.bipush 59, 2) := by decide +kernel
theorem d_K_RuleReader_endsClause_41 : decode b_K_RuleReader_endsClause 41 = .ok (.if_icmp .ne 7, 3) := by decide +kernel
theorem d_K_RuleReader_endsClause_44 : decode b_K_RuleReader_endsClause 44 = .ok (.iconst 1, 1) := by decide +kernel
theorem d_K_RuleReader_endsClause_45 : decode b_K_RuleReader_endsClause 45 = .ok (.goto 4, 3) := by decide +kernel
theorem d_K_RuleReader_endsClause_48 : decode b_K_RuleReader_endsClause 48 = .ok (.iconst 0, 1) := by decide +kernel
theorem d_K_RuleReader_endsClause_49 : decode b_K_RuleReader_endsClause 49 = .ok (.ireturn, 1) := by decide +kernel
theorem d_K_RuleReader_textsThatFit_0 : decode b_K_RuleReader_textsThatFit 0 = .ok (.aload_n 0, 1) := by decide +kernel
theorem d_K_RuleReader_textsThatFit_1 : decode b_K_RuleReader_textsThatFit 1 = .ok (.getfield 27, 3) := by decide +kernel
theorem d_K_RuleReader_textsThatFit_4 : decode b_K_RuleReader_textsThatFit 4 = .ok (.getfield 79, 3) := by decide +kernel
theorem d_K_RuleReader_textsThatFit_7 : decode b_K_RuleReader_textsThatFit 7 = .ok (.aload_n 0, 1) := by decide +kernel
theorem d_K_RuleReader_textsThatFit_8 : decode b_K_RuleReader_textsThatFit 8 = .ok (.getfield 9, 3) := by decide +kernel
theorem d_K_RuleReader_textsThatFit_11 : decode b_K_RuleReader_textsThatFit 11 = .ok (.iload_n 1, 1) := by decide +kernel
theorem d_K_RuleReader_textsThatFit_12 : decode b_K_RuleReader_textsThatFit 12 = .ok (.iaload, 1) := by decide +kernel
theorem d_K_RuleReader_textsThatFit_13 : decode b_K_RuleReader_textsThatFit 13 = .ok (.caload, 1) := by decide +kernel
theorem d_K_RuleReader_textsThatFit_14 : decode b_K_RuleReader_textsThatFit 14 = .ok (.istore_n 2, 1) := by decide +kernel
theorem d_K_RuleReader_textsThatFit_15 : decode b_K_RuleReader_textsThatFit 15 = .ok (.lconst 0, 1) := by decide +kernel
theorem d_K_RuleReader_textsThatFit_16 : decode b_K_RuleReader_textsThatFit 16 = .ok (.lstore_n 3, 1) := by decide +kernel
theorem d_K_RuleReader_textsThatFit_17 : decode b_K_RuleReader_textsThatFit 17 = .ok (.iconst 0, 1) := by decide +kernel
theorem d_K_RuleReader_textsThatFit_18 : decode b_K_RuleReader_textsThatFit 18 = .ok (.istore 5, 2) := by decide +kernel
theorem d_K_RuleReader_textsThatFit_20 : decode b_K_RuleReader_textsThatFit 20 = .ok (.iload 5, 2) := by decide +kernel
theorem d_K_RuleReader_textsThatFit_22 : decode b_K_RuleReader_textsThatFit 22 = .ok (.bipush 32, 2) := by decide +kernel
theorem d_K_RuleReader_textsThatFit_24 : decode b_K_RuleReader_textsThatFit 24 = .ok (.if_icmp .ge 98, 3) := by decide +kernel
theorem d_K_RuleReader_textsThatFit_27 : decode b_K_RuleReader_textsThatFit 27 = .ok (.aload_n 0, 1) := by decide +kernel
theorem d_K_RuleReader_textsThatFit_28 : decode b_K_RuleReader_textsThatFit 28 = .ok (.getfield 23, 3) := by decide +kernel
theorem d_K_RuleReader_textsThatFit_31 : decode b_K_RuleReader_textsThatFit 31 = .ok (.invokevirtual 114, 3) := by decide +kernel
theorem d_K_RuleReader_textsThatFit_34 : decode b_K_RuleReader_textsThatFit 34 = .ok (.aload_n 0, 1) := by decide +kernel
theorem d_K_RuleReader_textsThatFit_35 : decode b_K_RuleReader_textsThatFit 35 = .ok (.getfield 23, 3) := by decide +kernel
theorem d_K_RuleReader_textsThatFit_38 : decode b_K_RuleReader_textsThatFit 38 = .ok (.iload 5, 2) := by decide +kernel
theorem d_K_RuleReader_textsThatFit_40 : decode b_K_RuleReader_textsThatFit 40 = .ok (.invokestatic 127, 3) := by decide +kernel
theorem d_K_RuleReader_textsThatFit_43 : decode b_K_RuleReader_textsThatFit 43 = .ok (.invokevirtual 130, 3) := by decide +kernel
theorem d_K_RuleReader_textsThatFit_46 : decode b_K_RuleReader_textsThatFit 46 = .ok (.iload_n 2, 1) := by decide +kernel
theorem d_K_RuleReader_textsThatFit_47 : decode b_K_RuleReader_textsThatFit 47 = .ok (.bipush 120, 2) := by decide +kernel
theorem d_K_RuleReader_textsThatFit_49 : decode b_K_RuleReader_textsThatFit 49 = .ok (.if_icmp .eq 22, 3) := by decide +kernel
theorem d_K_RuleReader_textsThatFit_52 : decode b_K_RuleReader_textsThatFit 52 = .ok (.iload_n 2, 1) := by decide +kernel
theorem d_K_RuleReader_textsThatFit_53 : decode b_K_RuleReader_textsThatFit 53 = .ok (.bipush 109, 2) := by decide +kernel
theorem d_K_RuleReader_textsThatFit_55 : decode b_K_RuleReader_textsThatFit 55 = .ok (.if_icmp .ne 7, 3) := by decide +kernel
theorem d_K_RuleReader_textsThatFit_58 : decode b_K_RuleReader_textsThatFit 58 = .ok (.iconst 1, 1) := by decide +kernel
theorem d_K_RuleReader_textsThatFit_59 : decode b_K_RuleReader_textsThatFit 59 = .ok (.goto 4, 3) := by decide +kernel
theorem d_K_RuleReader_textsThatFit_62 : decode b_K_RuleReader_textsThatFit 62 = .ok (.iconst 0, 1) := by decide +kernel
theorem d_K_RuleReader_textsThatFit_63 : decode b_K_RuleReader_textsThatFit 63 = .ok (.iload 5, 2) := by decide +kernel
theorem d_K_RuleReader_textsThatFit_65 : decode b_K_RuleReader_textsThatFit 65 = .ok (.invokestatic 133, 3) := by decide +kernel
theorem d_K_RuleReader_textsThatFit_68 : decode b_K_RuleReader_textsThatFit 68 = .ok (.if_icmp .ne 7, 3) := by decide +kernel
theorem d_K_RuleReader_textsThatFit_71 : decode b_K_RuleReader_textsThatFit 71 = .ok (.iconst 1, 1) := by decide +kernel
theorem d_K_RuleReader_textsThatFit_72 : decode b_K_RuleReader_textsThatFit 72 = .ok (.goto 4, 3) := by decide +kernel
theorem d_K_RuleReader_textsThatFit_75 : decode b_K_RuleReader_textsThatFit 75 = .ok (.iconst 0, 1) := by decide +kernel
theorem d_K_RuleReader_textsThatFit_76 : decode b_K_RuleReader_textsThatFit 76 = .ok (.istore 6, 2) := by decide +kernel
theorem d_K_RuleReader_textsThatFit_78 : decode b_K_RuleReader_textsThatFit 78 = .ok (.iload 6, 2) := by decide +kernel
theorem d_K_RuleReader_textsThatFit_80 : decode b_K_RuleReader_textsThatFit 80 = .ok (.ifCond .eq 36, 3) := by decide +kernel
theorem d_K_RuleReader_textsThatFit_83 : decode b_K_RuleReader_textsThatFit 83 = .ok (.aload_n 0, 1) := by decide +kernel
theorem d_K_RuleReader_textsThatFit_84 : decode b_K_RuleReader_textsThatFit 84 = .ok (.aload_n 0, 1) := by decide +kernel
theorem d_K_RuleReader_textsThatFit_85 : decode b_K_RuleReader_textsThatFit 85 = .ok (.getfield 9, 3) := by decide +kernel
theorem d_K_RuleReader_textsThatFit_88 : decode b_K_RuleReader_textsThatFit 88 = .ok (.iload_n 1, 1) := by decide +kernel
theorem d_K_RuleReader_textsThatFit_89 : decode b_K_RuleReader_textsThatFit 89 = .ok (.iconst 1, 1) := by decide +kernel
theorem d_K_RuleReader_textsThatFit_90 : decode b_K_RuleReader_textsThatFit 90 = .ok (.iadd, 1) := by decide +kernel
theorem d_K_RuleReader_textsThatFit_91 : decode b_K_RuleReader_textsThatFit 91 = .ok (.iaload, 1) := by decide +kernel
theorem d_K_RuleReader_textsThatFit_92 : decode b_K_RuleReader_textsThatFit 92 = .ok (.aload_n 0, 1) := by decide +kernel
theorem d_K_RuleReader_textsThatFit_93 : decode b_K_RuleReader_textsThatFit 93 = .ok (.getfield 15, 3) := by decide +kernel
theorem d_K_RuleReader_textsThatFit_96 : decode b_K_RuleReader_textsThatFit 96 = .ok (.iload_n 1, 1) := by decide +kernel
theorem d_K_RuleReader_textsThatFit_97 : decode b_K_RuleReader_textsThatFit 97 = .ok (.iconst 1, 1) := by decide +kernel
theorem d_K_RuleReader_textsThatFit_98 : decode b_K_RuleReader_textsThatFit 98 = .ok (.iadd, 1) := by decide +kernel
theorem d_K_RuleReader_textsThatFit_99 : decode b_K_RuleReader_textsThatFit 99 = .ok (.iaload, 1) := by decide +kernel
theorem d_K_RuleReader_textsThatFit_100 : decode b_K_RuleReader_textsThatFit 100 = .ok (.iconst 1, 1) := by decide +kernel
theorem d_K_RuleReader_textsThatFit_101 : decode b_K_RuleReader_textsThatFit 101 = .ok (.isub, 1) := by decide +kernel
theorem d_K_RuleReader_textsThatFit_102 : decode b_K_RuleReader_textsThatFit 102 = .ok (.invokevirtual 121, 3) := by decide +kernel
theorem d_K_RuleReader_textsThatFit_105 : decode b_K_RuleReader_textsThatFit 105 = .ok (.ifCond .eq 11, 3) := by decide +kernel
theorem d_K_RuleReader_textsThatFit_108 : decode b_K_RuleReader_textsThatFit 108 = .ok (.lload_n 3, 1) := by decide +kernel
theorem d_K_RuleReader_textsThatFit_109 : decode b_K_RuleReader_textsThatFit 109 = .ok (.iload 5, 2) := by decide +kernel
theorem d_K_RuleReader_textsThatFit_111 : decode b_K_RuleReader_textsThatFit 111 = .ok (.invokestatic 124, 3) := by decide +kernel
theorem d_K_RuleReader_textsThatFit_114 : decode b_K_RuleReader_textsThatFit 114 = .ok (.lor, 1) := by decide +kernel
theorem d_K_RuleReader_textsThatFit_115 : decode b_K_RuleReader_textsThatFit 115 = .ok (.lstore_n 3, 1) := by decide +kernel
theorem d_K_RuleReader_textsThatFit_116 : decode b_K_RuleReader_textsThatFit 116 = .ok (.iinc 5 1, 3) := by decide +kernel
theorem d_K_RuleReader_textsThatFit_119 : decode b_K_RuleReader_textsThatFit 119 = .ok (.goto (-99), 3) := by decide +kernel
theorem d_K_RuleReader_textsThatFit_122 : decode b_K_RuleReader_textsThatFit 122 = .ok (.lload_n 3, 1) := by decide +kernel
theorem d_K_RuleReader_textsThatFit_123 : decode b_K_RuleReader_textsThatFit 123 = .ok (.lreturn, 1) := by decide +kernel
