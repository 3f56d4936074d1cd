theorem d_M_in_0 : decode b_M_in 0 = .ok (.iload_n 0, 1) := by decide +kernel
theorem d_M_in_1 : decode b_M_in 1 = .ok (.iload_n 1, 1) := by decide +kernel
theorem d_M_in_2 : decode b_M_in 2 = .ok (.if_icmp .lt 12, 3) := by decide +kernel
theorem d_M_in_5 : decode b_M_in 5 = .ok (.iload_n 0, 1) := by decide +kernel
theorem d_M_in_6 : decode b_M_in 6 = .ok (.iload_n 2, 1) := by decide +kernel
theorem d_M_in_7 : decode b_M_in 7 = .ok (.if_icmp .gt 7, 3) := by decide +kernel
theorem d_M_in_10 : decode b_M_in 10 = .ok (.iconst 1, 1) := by decide +kernel
theorem d_M_in_11 : decode b_M_in 11 = .ok (.goto 4, 3) := by decide +kernel
theorem d_M_in_14 : decode b_M_in 14 = .ok (.iconst 0, 1) := by decide +kernel
theorem d_M_in_15 : decode b_M_in 15 = .ok (.ireturn, 1) := by decide +kernel
theorem d_M_type_0 : decode b_M_type 0 = .ok (.iload_n 1, 1) := by decide +kernel
theorem d_M_type_1 : decode b_M_type 1 = .ok (.iconst 1, 1) := by decide +kernel
theorem d_M_type_2 : decode b_M_type 2 = .ok (.bipush 9, 2) := by decide +kernel
theorem d_M_type_4 : decode b_M_type 4 = .ok (.invokestatic 135, 3) := by decide +kernel
theorem d_M_type_7 : decode b_M_type 7 = .ok (.ifCond .eq 45, 3) := by decide +kernel
theorem d_M_type_10 : decode b_M_type 10 = .ok (.iload_n 2, 1) := by decide +kernel
theorem d_M_type_11 : decode b_M_type 11 = .ok (.iconst 0, 1) := by decide +kernel
theorem d_M_type_12 : decode b_M_type 12 = .ok (.iconst 2, 1) := by decide +kernel
theorem d_M_type_13 : decode b_M_type 13 = .ok (.invokestatic 135, 3) := by decide +kernel
theorem d_M_type_16 : decode b_M_type 16 = .ok (.ifCond .eq 36, 3) := by decide +kernel
theorem d_M_type_19 : decode b_M_type 19 = .ok (.iload_n 3, 1) := by decide +kernel
theorem d_M_type_20 : decode b_M_type 20 = .ok (.iconst 0, 1) := by decide +kernel
theorem d_M_type_21 : decode b_M_type 21 = .ok (.iconst 3, 1) := by decide +kernel
theorem d_M_type_22 : decode b_M_type 22 = .ok (.invokestatic 135, 3) := by decide +kernel
theorem d_M_type_25 : decode b_M_type 25 = .ok (.ifCond .eq 27, 3) := by decide +kernel
theorem d_M_type_28 : decode b_M_type 28 = .ok (.iload 4, 2) := by decide +kernel
theorem d_M_type_30 : decode b_M_type 30 = .ok (.iconst 0, 1) := by decide +kernel
theorem d_M_type_31 : decode b_M_type 31 = .ok (.iload_n 1, 1) := by decide +kernel
theorem d_M_type_32 : decode b_M_type 32 = .ok (.iconst 1, 1) := by decide +kernel
theorem d_M_type_33 : decode b_M_type 33 = .ok (.isub, 1) := by decide +kernel
theorem d_M_type_34 : decode b_M_type 34 = .ok (.invokestatic 135, 3) := by decide +kernel
theorem d_M_type_37 : decode b_M_type 37 = .ok (.ifCond .eq 15, 3) := by decide +kernel
theorem d_M_type_40 : decode b_M_type 40 = .ok (.iload 5, 2) := by decide +kernel
theorem d_M_type_42 : decode b_M_type 42 = .ok (.iconst 0, 1) := by decide +kernel
theorem d_M_type_43 : decode b_M_type 43 = .ok (.sipush 1023, 3) := by decide +kernel
theorem d_M_type_46 : decode b_M_type 46 = .ok (.invokestatic 135, 3) := by decide +kernel
theorem d_M_type_49 : decode b_M_type 49 = .ok (.ifCond .ne 5, 3) := by decide +kernel
theorem d_M_type_52 : decode b_M_type 52 = .ok (.iconst 0, 1) := by decide +kernel
theorem d_M_type_53 : decode b_M_type 53 = .ok (.ireturn, 1) := by decide +kernel
theorem d_M_type_54 : decode b_M_type 54 = .ok (.aload_n 0, 1) := by decide +kernel
theorem d_M_type_55 : decode b_M_type 55 = .ok (.getfield 7, 3) := by decide +kernel
theorem d_M_type_58 : decode b_M_type 58 = .ok (.iload_n 1, 1) := by decide +kernel
theorem d_M_type_59 : decode b_M_type 59 = .ok (.iconst 1, 1) := by decide +kernel
theorem d_M_type_60 : decode b_M_type 60 = .ok (.bastore, 1) := by decide +kernel
theorem d_M_type_61 : decode b_M_type 61 = .ok (.aload_n 0, 1) := by decide +kernel
theorem d_M_type_62 : decode b_M_type 62 = .ok (.getfield 19, 3) := by decide +kernel
theorem d_M_type_65 : decode b_M_type 65 = .ok (.iload_n 1, 1) := by decide +kernel
theorem d_M_type_66 : decode b_M_type 66 = .ok (.iload_n 2, 1) := by decide +kernel
theorem d_M_type_67 : decode b_M_type 67 = .ok (.iastore, 1) := by decide +kernel
theorem d_M_type_68 : decode b_M_type 68 = .ok (.aload_n 0, 1) := by decide +kernel
theorem d_M_type_69 : decode b_M_type 69 = .ok (.getfield 13, 3) := by decide +kernel
theorem d_M_type_72 : decode b_M_type 72 = .ok (.iload_n 1, 1) := by decide +kernel
theorem d_M_type_73 : decode b_M_type 73 = .ok (.iload_n 3, 1) := by decide +kernel
theorem d_M_type_74 : decode b_M_type 74 = .ok (.iconst 1, 1) := by decide +kernel
theorem d_M_type_75 : decode b_M_type 75 = .ok (.iand, 1) := by decide +kernel
theorem d_M_type_76 : decode b_M_type 76 = .ok (.iconst 1, 1) := by decide +kernel
theorem d_M_type_77 : decode b_M_type 77 = .ok (.if_icmp .ne 7, 3) := by decide +kernel
theorem d_M_type_80 : decode b_M_type 80 = .ok (.iconst 1, 1) := by decide +kernel
theorem d_M_type_81 : decode b_M_type 81 = .ok (.goto 4, 3) := by decide +kernel
theorem d_M_type_84 : decode b_M_type 84 = .ok (.iconst 0, 1) := by decide +kernel
theorem d_M_type_85 : decode b_M_type 85 = .ok (.bastore, 1) := by decide +kernel
theorem d_M_type_86 : decode b_M_type 86 = .ok (.aload_n 0, 1) := by decide +kernel
theorem d_M_type_87 : decode b_M_type 87 = .ok (.getfield 16, 3) := by decide +kernel
theorem d_M_type_90 : decode b_M_type 90 = .ok (.iload_n 1, 1) := by decide +kernel
theorem d_M_type_91 : decode b_M_type 91 = .ok (.iload_n 3, 1) := by decide +kernel
theorem d_M_type_92 : decode b_M_type 92 = .ok (.iconst 2, 1) := by decide +kernel
theorem d_M_type_93 : decode b_M_type 93 = .ok (.iand, 1) := by decide +kernel
theorem d_M_type_94 : decode b_M_type 94 = .ok (.iconst 2, 1) := by decide +kernel
theorem d_M_type_95 : decode b_M_type 95 = .ok (.if_icmp .ne 7, 3) := by decide +kernel
theorem d_M_type_98 : decode b_M_type 98 = .ok (.iconst 1, 1) := by decide +kernel
theorem d_M_type_99 : decode b_M_type 99 = .ok (.goto 4, 3) := by decide +kernel
theorem d_M_type_102 : decode b_M_type 102 = .ok (.iconst 0, 1) := by decide +kernel
theorem d_M_type_103 : decode b_M_type 103 = .ok (.bastore, 1) := by decide +kernel
theorem d_M_type_104 : decode b_M_type 104 = .ok (.aload_n 0, 1) := by decide +kernel
theorem d_M_type_105 : decode b_M_type 105 = .ok (.getfield 23, 3) := by decide +kernel
theorem d_M_type_108 : decode b_M_type 108 = .ok (.iload_n 1, 1) := by decide +kernel
theorem d_M_type_109 : decode b_M_type 109 = .ok (.iload 4, 2) := by decide +kernel
theorem d_M_type_111 : decode b_M_type 111 = .ok (.iastore, 1) := by decide +kernel
theorem d_M_type_112 : decode b_M_type 112 = .ok (.aload_n 0, 1) := by decide +kernel
theorem d_M_type_113 : decode b_M_type 113 = .ok (.getfield 26, 3) := by decide +kernel
theorem d_M_type_116 : decode b_M_type 116 = .ok (.iload_n 1, 1) := by decide +kernel
theorem d_M_type_117 : decode b_M_type 117 = .ok (.iload 5, 2) := by decide +kernel
theorem d_M_type_119 : decode b_M_type 119 = .ok (.iconst 1, 1) := by decide +kernel
theorem d_M_type_120 : decode b_M_type 120 = .ok (.iload_n 1, 1) := by decide +kernel
theorem d_M_type_121 : decode b_M_type 121 = .ok (.ishl, 1) := by decide +kernel
theorem d_M_type_122 : decode b_M_type 122 = .ok (.iconst 1, 1) := by decide +kernel
theorem d_M_type_123 : decode b_M_type 123 = .ok (.isub, 1) := by decide +kernel
theorem d_M_type_124 : decode b_M_type 124 = .ok (.iand, 1) := by decide +kernel
theorem d_M_type_125 : decode b_M_type 125 = .ok (.iastore, 1) := by decide +kernel
theorem d_M_type_126 : decode b_M_type 126 = .ok (.iconst 1, 1) := by decide +kernel
theorem d_M_type_127 : decode b_M_type 127 = .ok (.ireturn, 1) := by decide +kernel
theorem d_M_drop_0 : decode b_M_drop 0 = .ok (.iload_n 1, 1) := by decide +kernel
theorem d_M_drop_1 : decode b_M_drop 1 = .ok (.iconst 1, 1) := by decide +kernel
theorem d_M_drop_2 : decode b_M_drop 2 = .ok (.bipush 9, 2) := by decide +kernel
theorem d_M_drop_4 : decode b_M_drop 4 = .ok (.invokestatic 135, 3) := by decide +kernel
theorem d_M_drop_7 : decode b_M_drop 7 = .ok (.ifCond .eq 12, 3) := by decide +kernel
theorem d_M_drop_10 : decode b_M_drop 10 = .ok (.aload_n 0, 1) := by decide +kernel
theorem d_M_drop_11 : decode b_M_drop 11 = .ok (.getfield 7, 3) := by decide +kernel
theorem d_M_drop_14 : decode b_M_drop 14 = .ok (.iload_n 1, 1) := by decide +kernel
theorem d_M_drop_15 : decode b_M_drop 15 = .ok (.baload, 1) := by decide +kernel
theorem d_M_drop_16 : decode b_M_drop 16 = .ok (.ifCond .ne 5, 3) := by decide +kernel
theorem d_M_drop_19 : decode b_M_drop 19 = .ok (.iconst 0, 1) := by decide +kernel
theorem d_M_drop_20 : decode b_M_drop 20 = .ok (.ireturn, 1) := by decide +kernel
theorem d_M_drop_21 : decode b_M_drop 21 = .ok (.aload_n 0, 1) := by decide +kernel
theorem d_M_drop_22 : decode b_M_drop 22 = .ok (.getfield 7, 3) := by decide +kernel
theorem d_M_drop_25 : decode b_M_drop 25 = .ok (.iload_n 1, 1) := by decide +kernel
theorem d_M_drop_26 : decode b_M_drop 26 = .ok (.iconst 0, 1) := by decide +kernel
theorem d_M_drop_27 : decode b_M_drop 27 = .ok (.bastore, 1) := by decide +kernel
theorem d_M_drop_28 : decode b_M_drop 28 = .ok (.iconst 1, 1) := by decide +kernel
theorem d_M_drop_29 : decode b_M_drop 29 = .ok (.istore_n 2, 1) := by decide +kernel
theorem d_M_drop_30 : decode b_M_drop 30 = .ok (.iload_n 2, 1) := by decide +kernel
theorem d_M_drop_31 : decode b_M_drop 31 = .ok (.aload_n 0, 1) := by decide +kernel
theorem d_M_drop_32 : decode b_M_drop 32 = .ok (.getfield 47, 3) := by decide +kernel
theorem d_M_drop_35 : decode b_M_drop 35 = .ok (.if_icmp .ge 26, 3) := by decide +kernel
theorem d_M_drop_38 : decode b_M_drop 38 = .ok (.aload_n 0, 1) := by decide +kernel
theorem d_M_drop_39 : decode b_M_drop 39 = .ok (.getfield 32, 3) := by decide +kernel
theorem d_M_drop_42 : decode b_M_drop 42 = .ok (.iload_n 2, 1) := by decide +kernel
theorem d_M_drop_43 : decode b_M_drop 43 = .ok (.iaload, 1) := by decide +kernel
theorem d_M_drop_44 : decode b_M_drop 44 = .ok (.iload_n 1, 1) := by decide +kernel
theorem d_M_drop_45 : decode b_M_drop 45 = .ok (.if_icmp .ne 10, 3) := by decide +kernel
theorem d_M_drop_48 : decode b_M_drop 48 = .ok (.aload_n 0, 1) := by decide +kernel
theorem d_M_drop_49 : decode b_M_drop 49 = .ok (.getfield 44, 3) := by decide +kernel
theorem d_M_drop_52 : decode b_M_drop 52 = .ok (.iload_n 2, 1) := by decide +kernel
theorem d_M_drop_53 : decode b_M_drop 53 = .ok (.iconst 1, 1) := by decide +kernel
theorem d_M_drop_54 : decode b_M_drop 54 = .ok (.bastore, 1) := by decide +kernel
theorem d_M_drop_55 : decode b_M_drop 55 = .ok (.iinc 2 1, 3) := by decide +kernel
theorem d_M_drop_58 : decode b_M_drop 58 = .ok (.goto (-28), 3) := by decide +kernel
theorem d_M_drop_61 : decode b_M_drop 61 = .ok (.iconst 1, 1) := by decide +kernel
theorem d_M_drop_62 : decode b_M_drop 62 = .ok (.ireturn, 1) := by decide +kernel
theorem d_M_own_0 : decode b_M_own 0 = .ok (.iconst 0, 1) := by decide +kernel
theorem d_M_own_1 : decode b_M_own 1 = .ok (.istore 5, 2) := by decide +kernel
theorem d_M_own_3 : decode b_M_own 3 = .ok (.iload 5, 2) := by decide +kernel
theorem d_M_own_5 : decode b_M_own 5 = .ok (.aload_n 0, 1) := by decide +kernel
theorem d_M_own_6 : decode b_M_own 6 = .ok (.getfield 47, 3) := by decide +kernel
theorem d_M_own_9 : decode b_M_own 9 = .ok (.if_icmp .ge 69, 3) := by decide +kernel
theorem d_M_own_12 : decode b_M_own 12 = .ok (.aload_n 0, 1) := by decide +kernel
theorem d_M_own_13 : decode b_M_own 13 = .ok (.getfield 44, 3) := by decide +kernel
theorem d_M_own_16 : decode b_M_own 16 = .ok (.iload 5, 2) := by decide +kernel
theorem d_M_own_18 : decode b_M_own 18 = .ok (.baload, 1) := by decide +kernel
theorem d_M_own_19 : decode b_M_own 19 = .ok (.ifCond .ne 53, 3) := by decide +kernel
theorem d_M_own_22 : decode b_M_own 22 = .ok (.aload_n 0, 1) := by decide +kernel
theorem d_M_own_23 : decode b_M_own 23 = .ok (.getfield 32, 3) := by decide +kernel
theorem d_M_own_26 : decode b_M_own 26 = .ok (.iload 5, 2) := by decide +kernel
theorem d_M_own_28 : decode b_M_own 28 = .ok (.iaload, 1) := by decide +kernel
theorem d_M_own_29 : decode b_M_own 29 = .ok (.iload_n 1, 1) := by decide +kernel
theorem d_M_own_30 : decode b_M_own 30 = .ok (.if_icmp .ne 42, 3) := by decide +kernel
theorem d_M_own_33 : decode b_M_own 33 = .ok (.aload_n 0, 1) := by decide +kernel
theorem d_M_own_34 : decode b_M_own 34 = .ok (.getfield 41, 3) := by decide +kernel
theorem d_M_own_37 : decode b_M_own 37 = .ok (.iload 5, 2) := by decide +kernel
theorem d_M_own_39 : decode b_M_own 39 = .ok (.iaload, 1) := by decide +kernel
theorem d_M_own_40 : decode b_M_own 40 = .ok (.iconst 1, 1) := by decide +kernel
theorem d_M_own_41 : decode b_M_own 41 = .ok (.iand, 1) := by decide +kernel
theorem d_M_own_42 : decode b_M_own 42 = .ok (.iload_n 2, 1) := by decide +kernel
theorem d_M_own_43 : decode b_M_own 43 = .ok (.if_icmp .ne 29, 3) := by decide +kernel
theorem d_M_own_46 : decode b_M_own 46 = .ok (.aload_n 0, 1) := by decide +kernel
theorem d_M_own_47 : decode b_M_own 47 = .ok (.getfield 35, 3) := by decide +kernel
theorem d_M_own_50 : decode b_M_own 50 = .ok (.iload 5, 2) := by decide +kernel
theorem d_M_own_52 : decode b_M_own 52 = .ok (.iaload, 1) := by decide +kernel
theorem d_M_own_53 : decode b_M_own 53 = .ok (.iload_n 3, 1) := by decide +kernel
theorem d_M_own_54 : decode b_M_own 54 = .ok (.if_icmp .ne 18, 3) := by decide +kernel
theorem d_M_own_57 : decode b_M_own 57 = .ok (.aload_n 0, 1) := by decide +kernel
theorem d_M_own_58 : decode b_M_own 58 = .ok (.getfield 38, 3) := by decide +kernel
theorem d_M_own_61 : decode b_M_own 61 = .ok (.iload 5, 2) := by decide +kernel
theorem d_M_own_63 : decode b_M_own 63 = .ok (.iaload, 1) := by decide +kernel
theorem d_M_own_64 : decode b_M_own 64 = .ok (.iload 4, 2) := by decide +kernel
theorem d_M_own_66 : decode b_M_own 66 = .ok (.if_icmp .ne 6, 3) := by decide +kernel
theorem d_M_own_69 : decode b_M_own 69 = .ok (.iload 5, 2) := by decide +kernel
theorem d_M_own_71 : decode b_M_own 71 = .ok (.ireturn, 1) := by decide +kernel
theorem d_M_own_72 : decode b_M_own 72 = .ok (.iinc 5 1, 3) := by decide +kernel
theorem d_M_own_75 : decode b_M_own 75 = .ok (.goto (-72), 3) := by decide +kernel
theorem d_M_own_78 : decode b_M_own 78 = .ok (.iconst (-1), 1) := by decide +kernel
theorem d_M_own_79 : decode b_M_own 79 = .ok (.ireturn, 1) := by decide +kernel
theorem d_M_member_0 : decode b_M_member 0 = .ok (.iload_n 1, 1) := by decide +kernel
theorem d_M_member_1 : decode b_M_member 1 = .ok (.iconst 1, 1) := by decide +kernel
theorem d_M_member_2 : decode b_M_member 2 = .ok (.bipush 9, 2) := by decide +kernel
theorem d_M_member_4 : decode b_M_member 4 = .ok (.invokestatic 135, 3) := by decide +kernel
theorem d_M_member_7 : decode b_M_member 7 = .ok (.ifCond .eq 68, 3) := by decide +kernel
theorem d_M_member_10 : decode b_M_member 10 = .ok (.aload_n 0, 1) := by decide +kernel
theorem d_M_member_11 : decode b_M_member 11 = .ok (.getfield 7, 3) := by decide +kernel
theorem d_M_member_14 : decode b_M_member 14 = .ok (.iload_n 1, 1) := by decide +kernel
theorem d_M_member_15 : decode b_M_member 15 = .ok (.baload, 1) := by decide +kernel
theorem d_M_member_16 : decode b_M_member 16 = .ok (.ifCond .eq 59, 3) := by decide +kernel
theorem d_M_member_19 : decode b_M_member 19 = .ok (.iload 4, 2) := by decide +kernel
theorem d_M_member_21 : decode b_M_member 21 = .ok (.iconst 0, 1) := by decide +kernel
theorem d_M_member_22 : decode b_M_member 22 = .ok (.bipush 7, 2) := by decide +kernel
theorem d_M_member_24 : decode b_M_member 24 = .ok (.invokestatic 135, 3) := by decide +kernel
theorem d_M_member_27 : decode b_M_member 27 = .ok (.ifCond .eq 48, 3) := by decide +kernel
theorem d_M_member_30 : decode b_M_member 30 = .ok (.iload_n 2, 1) := by decide +kernel
theorem d_M_member_31 : decode b_M_member 31 = .ok (.iconst 0, 1) := by decide +kernel
theorem d_M_member_32 : decode b_M_member 32 = .ok (.iload 4, 2) := by decide +kernel
theorem d_M_member_34 : decode b_M_member 34 = .ok (.iconst 1, 1) := by decide +kernel
theorem d_M_member_35 : decode b_M_member 35 = .ok (.iand, 1) := by decide +kernel
theorem d_M_member_36 : decode b_M_member 36 = .ok (.iconst 1, 1) := by decide +kernel
theorem d_M_member_37 : decode b_M_member 37 = .ok (.if_icmp .ne 8, 3) := by decide +kernel
theorem d_M_member_40 : decode b_M_member 40 = .ok (.bipush 7, 2) := by decide +kernel
theorem d_M_member_42 : decode b_M_member 42 = .ok (.goto 4, 3) := by decide +kernel
theorem d_M_member_45 : decode b_M_member 45 = .ok (.iconst 5, 1) := by decide +kernel
theorem d_M_member_46 : decode b_M_member 46 = .ok (.invokestatic 135, 3) := by decide +kernel
theorem d_M_member_49 : decode b_M_member 49 = .ok (.ifCond .eq 26, 3) := by decide +kernel
theorem d_M_member_52 : decode b_M_member 52 = .ok (.iload_n 3, 1) := by decide +kernel
theorem d_M_member_53 : decode b_M_member 53 = .ok (.iconst 0, 1) := by decide +kernel
theorem d_M_member_54 : decode b_M_member 54 = .ok (.iconst 1, 1) := by decide +kernel
theorem d_M_member_55 : decode b_M_member 55 = .ok (.invokestatic 135, 3) := by decide +kernel
theorem d_M_member_58 : decode b_M_member 58 = .ok (.ifCond .eq 17, 3) := by decide +kernel
theorem d_M_member_61 : decode b_M_member 61 = .ok (.aload_n 0, 1) := by decide +kernel
theorem d_M_member_62 : decode b_M_member 62 = .ok (.iload_n 1, 1) := by decide +kernel
theorem d_M_member_63 : decode b_M_member 63 = .ok (.iload 4, 2) := by decide +kernel
theorem d_M_member_65 : decode b_M_member 65 = .ok (.iconst 1, 1) := by decide +kernel
theorem d_M_member_66 : decode b_M_member 66 = .ok (.iand, 1) := by decide +kernel
theorem d_M_member_67 : decode b_M_member 67 = .ok (.iload_n 2, 1) := by decide +kernel
theorem d_M_member_68 : decode b_M_member 68 = .ok (.iload_n 3, 1) := by decide +kernel
theorem d_M_member_69 : decode b_M_member 69 = .ok (.invokevirtual 139, 3) := by decide +kernel
theorem d_M_member_72 : decode b_M_member 72 = .ok (.ifCond .lt 5, 3) := by decide +kernel
theorem d_M_member_75 : decode b_M_member 75 = .ok (.iconst (-1), 1) := by decide +kernel
theorem d_M_member_76 : decode b_M_member 76 = .ok (.ireturn, 1) := by decide +kernel
theorem d_M_member_77 : decode b_M_member 77 = .ok (.aload_n 0, 1) := by decide +kernel
theorem d_M_member_78 : decode b_M_member 78 = .ok (.getfield 47, 3) := by decide +kernel
theorem d_M_member_81 : decode b_M_member 81 = .ok (.bipush 40, 2) := by decide +kernel
theorem d_M_member_83 : decode b_M_member 83 = .ok (.if_icmp .ne 6, 3) := by decide +kernel
theorem d_M_member_86 : decode b_M_member 86 = .ok (.bipush (-3), 2) := by decide +kernel
theorem d_M_member_88 : decode b_M_member 88 = .ok (.ireturn, 1) := by decide +kernel
theorem d_M_member_89 : decode b_M_member 89 = .ok (.aload_n 0, 1) := by decide +kernel
theorem d_M_member_90 : decode b_M_member 90 = .ok (.getfield 32, 3) := by decide +kernel
theorem d_M_member_93 : decode b_M_member 93 = .ok (.aload_n 0, 1) := by decide +kernel
theorem d_M_member_94 : decode b_M_member 94 = .ok (.getfield 47, 3) := by decide +kernel
theorem d_M_member_97 : decode b_M_member 97 = .ok (.iload_n 1, 1) := by decide +kernel
theorem d_M_member_98 : decode b_M_member 98 = .ok (.iastore, 1) := by decide +kernel
theorem d_M_member_99 : decode b_M_member 99 = .ok (.aload_n 0, 1) := by decide +kernel
theorem d_M_member_100 : decode b_M_member 100 = .ok (.getfield 35, 3) := by decide +kernel
theorem d_M_member_103 : decode b_M_member 103 = .ok (.aload_n 0, 1) := by decide +kernel
theorem d_M_member_104 : decode b_M_member 104 = .ok (.getfield 47, 3) := by decide +kernel
theorem d_M_member_107 : decode b_M_member 107 = .ok (.iload_n 2, 1) := by decide +kernel
theorem d_M_member_108 : decode b_M_member 108 = .ok (.iastore, 1) := by decide +kernel
theorem d_M_member_109 : decode b_M_member 109 = .ok (.aload_n 0, 1) := by decide +kernel
theorem d_M_member_110 : decode b_M_member 110 = .ok (.getfield 38, 3) := by decide +kernel
theorem d_M_member_113 : decode b_M_member 113 = .ok (.aload_n 0, 1) := by decide +kernel
theorem d_M_member_114 : decode b_M_member 114 = .ok (.getfield 47, 3) := by decide +kernel
theorem d_M_member_117 : decode b_M_member 117 = .ok (.iload_n 3, 1) := by decide +kernel
theorem d_M_member_118 : decode b_M_member 118 = .ok (.iastore, 1) := by decide +kernel
theorem d_M_member_119 : decode b_M_member 119 = .ok (.aload_n 0, 1) := by decide +kernel
theorem d_M_member_120 : decode b_M_member 120 = .ok (.getfield 41, 3) := by decide +kernel
theorem d_M_member_123 : decode b_M_member 123 = .ok (.aload_n 0, 1) := by decide +kernel
theorem d_M_member_124 : decode b_M_member 124 = .ok (.getfield 47, 3) := by decide +kernel
theorem d_M_member_127 : decode b_M_member 127 = .ok (.iload 4, 2) := by decide +kernel
theorem d_M_member_129 : decode b_M_member 129 = .ok (.iastore, 1) := by decide +kernel
theorem d_M_member_130 : decode b_M_member 130 = .ok (.aload_n 0, 1) := by decide +kernel
theorem d_M_member_131 : decode b_M_member 131 = .ok (.getfield 44, 3) := by decide +kernel
theorem d_M_member_134 : decode b_M_member 134 = .ok (.aload_n 0, 1) := by decide +kernel
theorem d_M_member_135 : decode b_M_member 135 = .ok (.getfield 47, 3) := by decide +kernel
theorem d_M_member_138 : decode b_M_member 138 = .ok (.iconst 0, 1) := by decide +kernel
theorem d_M_member_139 : decode b_M_member 139 = .ok (.bastore, 1) := by decide +kernel
theorem d_M_member_140 : decode b_M_member 140 = .ok (.aload_n 0, 1) := by decide +kernel
theorem d_M_member_141 : decode b_M_member 141 = .ok (.dup, 1) := by decide +kernel
theorem d_M_member_142 : decode b_M_member 142 = .ok (.getfield 47, 3) := by decide +kernel
theorem d_M_member_145 : decode b_M_member 145 = .ok (.iconst 1, 1) := by decide +kernel
theorem d_M_member_146 : decode b_M_member 146 = .ok (.iadd, 1) := by decide +kernel
theorem d_M_member_147 : decode b_M_member 147 = .ok (.putfield 47, 3) := by decide +kernel
theorem d_M_member_150 : decode b_M_member 150 = .ok (.aload_n 0, 1) := by decide +kernel
theorem d_M_member_151 : decode b_M_member 151 = .ok (.getfield 47, 3) := by decide +kernel
theorem d_M_member_154 : decode b_M_member 154 = .ok (.iconst 1, 1) := by decide +kernel
theorem d_M_member_155 : decode b_M_member 155 = .ok (.isub, 1) := by decide +kernel
theorem d_M_member_156 : decode b_M_member 156 = .ok (.ireturn, 1) := by decide +kernel
theorem d_M_remove_0 : decode b_M_remove 0 = .ok (.iload_n 1, 1) := by decide +kernel
theorem d_M_remove_1 : decode b_M_remove 1 = .ok (.iconst 1, 1) := by decide +kernel
theorem d_M_remove_2 : decode b_M_remove 2 = .ok (.aload_n 0, 1) := by decide +kernel
theorem d_M_remove_3 : decode b_M_remove 3 = .ok (.getfield 47, 3) := by decide +kernel
theorem d_M_remove_6 : decode b_M_remove 6 = .ok (.iconst 1, 1) := by decide +kernel
theorem d_M_remove_7 : decode b_M_remove 7 = .ok (.isub, 1) := by decide +kernel
theorem d_M_remove_8 : decode b_M_remove 8 = .ok (.invokestatic 135, 3) := by decide +kernel
theorem d_M_remove_11 : decode b_M_remove 11 = .ok (.ifCond .eq 12, 3) := by decide +kernel
theorem d_M_remove_14 : decode b_M_remove 14 = .ok (.aload_n 0, 1) := by decide +kernel
theorem d_M_remove_15 : decode b_M_remove 15 = .ok (.getfield 44, 3) := by decide +kernel
theorem d_M_remove_18 : decode b_M_remove 18 = .ok (.iload_n 1, 1) := by decide +kernel
theorem d_M_remove_19 : decode b_M_remove 19 = .ok (.baload, 1) := by decide +kernel
theorem d_M_remove_20 : decode b_M_remove 20 = .ok (.ifCond .eq 5, 3) := by decide +kernel
theorem d_M_remove_23 : decode b_M_remove 23 = .ok (.iconst 0, 1) := by decide +kernel
theorem d_M_remove_24 : decode b_M_remove 24 = .ok (.ireturn, 1) := by decide +kernel
theorem d_M_remove_25 : decode b_M_remove 25 = .ok (.aload_n 0, 1) := by decide +kernel
theorem d_M_remove_26 : decode b_M_remove 26 = .ok (.getfield 44, 3) := by decide +kernel
theorem d_M_remove_29 : decode b_M_remove 29 = .ok (.iload_n 1, 1) := by decide +kernel
theorem d_M_remove_30 : decode b_M_remove 30 = .ok (.iconst 1, 1) := by decide +kernel
theorem d_M_remove_31 : decode b_M_remove 31 = .ok (.bastore, 1) := by decide +kernel
theorem d_M_remove_32 : decode b_M_remove 32 = .ok (.iconst 1, 1) := by decide +kernel
theorem d_M_remove_33 : decode b_M_remove 33 = .ok (.ireturn, 1) := by decide +kernel
theorem d_M_refer_0 : decode b_M_refer 0 = .ok (.iload_n 1, 1) := by decide +kernel
theorem d_M_refer_1 : decode b_M_refer 1 = .ok (.iconst 1, 1) := by decide +kernel
theorem d_M_refer_2 : decode b_M_refer 2 = .ok (.aload_n 0, 1) := by decide +kernel
theorem d_M_refer_3 : decode b_M_refer 3 = .ok (.getfield 47, 3) := by decide +kernel
theorem d_M_refer_6 : decode b_M_refer 6 = .ok (.iconst 1, 1) := by decide +kernel
theorem d_M_refer_7 : decode b_M_refer 7 = .ok (.isub, 1) := by decide +kernel
theorem d_M_refer_8 : decode b_M_refer 8 = .ok (.invokestatic 135, 3) := by decide +kernel
theorem d_M_refer_11 : decode b_M_refer 11 = .ok (.ifCond .eq 63, 3) := by decide +kernel
theorem d_M_refer_14 : decode b_M_refer 14 = .ok (.aload_n 0, 1) := by decide +kernel
theorem d_M_refer_15 : decode b_M_refer 15 = .ok (.getfield 44, 3) := by decide +kernel
theorem d_M_refer_18 : decode b_M_refer 18 = .ok (.iload_n 1, 1) := by decide +kernel
theorem d_M_refer_19 : decode b_M_refer 19 = .ok (.baload, 1) := by decide +kernel
theorem d_M_refer_20 : decode b_M_refer 20 = .ok (.ifCond .ne 54, 3) := by decide +kernel
theorem d_M_refer_23 : decode b_M_refer 23 = .ok (.aload_n 0, 1) := by decide +kernel
theorem d_M_refer_24 : decode b_M_refer 24 = .ok (.getfield 41, 3) := by decide +kernel
theorem d_M_refer_27 : decode b_M_refer 27 = .ok (.iload_n 1, 1) := by decide +kernel
theorem d_M_refer_28 : decode b_M_refer 28 = .ok (.iaload, 1) := by decide +kernel
theorem d_M_refer_29 : decode b_M_refer 29 = .ok (.iconst 1, 1) := by decide +kernel
theorem d_M_refer_30 : decode b_M_refer 30 = .ok (.iand, 1) := by decide +kernel
theorem d_M_refer_31 : decode b_M_refer 31 = .ok (.ifCond .eq 43, 3) := by decide +kernel
theorem d_M_refer_34 : decode b_M_refer 34 = .ok (.iload_n 2, 1) := by decide +kernel
theorem d_M_refer_35 : decode b_M_refer 35 = .ok (.iconst 0, 1) := by decide +kernel
theorem d_M_refer_36 : decode b_M_refer 36 = .ok (.iconst 5, 1) := by decide +kernel
theorem d_M_refer_37 : decode b_M_refer 37 = .ok (.invokestatic 135, 3) := by decide +kernel
theorem d_M_refer_40 : decode b_M_refer 40 = .ok (.ifCond .eq 34, 3) := by decide +kernel
theorem d_M_refer_43 : decode b_M_refer 43 = .ok (.iload_n 3, 1) := by decide +kernel
theorem d_M_refer_44 : decode b_M_refer 44 = .ok (.iconst 0, 1) := by decide +kernel
theorem d_M_refer_45 : decode b_M_refer 45 = .ok (.bipush 9, 2) := by decide +kernel
theorem d_M_refer_47 : decode b_M_refer 47 = .ok (.invokestatic 135, 3) := by decide +kernel
theorem d_M_refer_50 : decode b_M_refer 50 = .ok (.ifCond .eq 24, 3) := by decide +kernel
theorem d_M_refer_53 : decode b_M_refer 53 = .ok (.iload 4, 2) := by decide +kernel
theorem d_M_refer_55 : decode b_M_refer 55 = .ok (.iconst 0, 1) := by decide +kernel
theorem d_M_refer_56 : decode b_M_refer 56 = .ok (.bipush 7, 2) := by decide +kernel
theorem d_M_refer_58 : decode b_M_refer 58 = .ok (.invokestatic 135, 3) := by decide +kernel
theorem d_M_refer_61 : decode b_M_refer 61 = .ok (.ifCond .eq 13, 3) := by decide +kernel
theorem d_M_refer_64 : decode b_M_refer 64 = .ok (.iload 5, 2) := by decide +kernel
theorem d_M_refer_66 : decode b_M_refer 66 = .ok (.iconst 0, 1) := by decide +kernel
theorem d_M_refer_67 : decode b_M_refer 67 = .ok (.iconst 1, 1) := by decide +kernel
theorem d_M_refer_68 : decode b_M_refer 68 = .ok (.invokestatic 135, 3) := by decide +kernel
theorem d_M_refer_71 : decode b_M_refer 71 = .ok (.ifCond .ne 5, 3) := by decide +kernel
theorem d_M_refer_74 : decode b_M_refer 74 = .ok (.iconst (-1), 1) := by decide +kernel
theorem d_M_refer_75 : decode b_M_refer 75 = .ok (.ireturn, 1) := by decide +kernel
theorem d_M_refer_76 : decode b_M_refer 76 = .ok (.aload_n 0, 1) := by decide +kernel
theorem d_M_refer_77 : decode b_M_refer 77 = .ok (.getfield 143, 3) := by decide +kernel
theorem d_M_refer_80 : decode b_M_refer 80 = .ok (.bipush 60, 2) := by decide +kernel
theorem d_M_refer_82 : decode b_M_refer 82 = .ok (.if_icmp .ne 6, 3) := by decide +kernel
theorem d_M_refer_85 : decode b_M_refer 85 = .ok (.bipush (-3), 2) := by decide +kernel
theorem d_M_refer_87 : decode b_M_refer 87 = .ok (.ireturn, 1) := by decide +kernel
theorem d_M_refer_88 : decode b_M_refer 88 = .ok (.aload_n 0, 1) := by decide +kernel
theorem d_M_refer_89 : decode b_M_refer 89 = .ok (.getfield 51, 3) := by decide +kernel
theorem d_M_refer_92 : decode b_M_refer 92 = .ok (.aload_n 0, 1) := by decide +kernel
theorem d_M_refer_93 : decode b_M_refer 93 = .ok (.getfield 143, 3) := by decide +kernel
theorem d_M_refer_96 : decode b_M_refer 96 = .ok (.iload_n 1, 1) := by decide +kernel
theorem d_M_refer_97 : decode b_M_refer 97 = .ok (.iastore, 1) := by decide +kernel
theorem d_M_refer_98 : decode b_M_refer 98 = .ok (.aload_n 0, 1) := by decide +kernel
theorem d_M_refer_99 : decode b_M_refer 99 = .ok (.getfield 54, 3) := by decide +kernel
theorem d_M_refer_102 : decode b_M_refer 102 = .ok (.aload_n 0, 1) := by decide +kernel
theorem d_M_refer_103 : decode b_M_refer 103 = .ok (.getfield 143, 3) := by decide +kernel
theorem d_M_refer_106 : decode b_M_refer 106 = .ok (.iload_n 2, 1) := by decide +kernel
theorem d_M_refer_107 : decode b_M_refer 107 = .ok (.iastore, 1) := by decide +kernel
theorem d_M_refer_108 : decode b_M_refer 108 = .ok (.aload_n 0, 1) := by decide +kernel
theorem d_M_refer_109 : decode b_M_refer 109 = .ok (.getfield 57, 3) := by decide +kernel
theorem d_M_refer_112 : decode b_M_refer 112 = .ok (.aload_n 0, 1) := by decide +kernel
theorem d_M_refer_113 : decode b_M_refer 113 = .ok (.getfield 143, 3) := by decide +kernel
theorem d_M_refer_116 : decode b_M_refer 116 = .ok (.iload_n 3, 1) := by decide +kernel
theorem d_M_refer_117 : decode b_M_refer 117 = .ok (.iastore, 1) := by decide +kernel
theorem d_M_refer_118 : decode b_M_refer 118 = .ok (.aload_n 0, 1) := by decide +kernel
theorem d_M_refer_119 : decode b_M_refer 119 = .ok (.getfield 60, 3) := by decide +kernel
theorem d_M_refer_122 : decode b_M_refer 122 = .ok (.aload_n 0, 1) := by decide +kernel
theorem d_M_refer_123 : decode b_M_refer 123 = .ok (.getfield 143, 3) := by decide +kernel
theorem d_M_refer_126 : decode b_M_refer 126 = .ok (.iload 4, 2) := by decide +kernel
theorem d_M_refer_128 : decode b_M_refer 128 = .ok (.iastore, 1) := by decide +kernel
theorem d_M_refer_129 : decode b_M_refer 129 = .ok (.aload_n 0, 1) := by decide +kernel
theorem d_M_refer_130 : decode b_M_refer 130 = .ok (.getfield 63, 3) := by decide +kernel
theorem d_M_refer_133 : decode b_M_refer 133 = .ok (.aload_n 0, 1) := by decide +kernel
theorem d_M_refer_134 : decode b_M_refer 134 = .ok (.getfield 143, 3) := by decide +kernel
theorem d_M_refer_137 : decode b_M_refer 137 = .ok (.iload 5, 2) := by decide +kernel
theorem d_M_refer_139 : decode b_M_refer 139 = .ok (.iastore, 1) := by decide +kernel
theorem d_M_refer_140 : decode b_M_refer 140 = .ok (.aload_n 0, 1) := by decide +kernel
theorem d_M_refer_141 : decode b_M_refer 141 = .ok (.dup, 1) := by decide +kernel
theorem d_M_refer_142 : decode b_M_refer 142 = .ok (.getfield 143, 3) := by decide +kernel
theorem d_M_refer_145 : decode b_M_refer 145 = .ok (.iconst 1, 1) := by decide +kernel
theorem d_M_refer_146 : decode b_M_refer 146 = .ok (.iadd, 1) := by decide +kernel
theorem d_M_refer_147 : decode b_M_refer 147 = .ok (.putfield 143, 3) := by decide +kernel
theorem d_M_refer_150 : decode b_M_refer 150 = .ok (.aload_n 0, 1) := by decide +kernel
theorem d_M_refer_151 : decode b_M_refer 151 = .ok (.getfield 143, 3) := by decide +kernel
theorem d_M_refer_154 : decode b_M_refer 154 = .ok (.ireturn, 1) := by decide +kernel
theorem d_M_letter_0 : decode b_M_letter 0 = .ok (.iload_n 1, 1) := by decide +kernel
theorem d_M_letter_1 : decode b_M_letter 1 = .ok (.bipush 32, 2) := by decide +kernel
theorem d_M_letter_3 : decode b_M_letter 3 = .ok (.bipush 126, 2) := by decide +kernel
theorem d_M_letter_5 : decode b_M_letter 5 = .ok (.invokestatic 135, 3) := by decide +kernel
theorem d_M_letter_8 : decode b_M_letter 8 = .ok (.ifCond .ne 5, 3) := by decide +kernel
theorem d_M_letter_11 : decode b_M_letter 11 = .ok (.iconst (-1), 1) := by decide +kernel
theorem d_M_letter_12 : decode b_M_letter 12 = .ok (.ireturn, 1) := by decide +kernel
theorem d_M_letter_13 : decode b_M_letter 13 = .ok (.aload_n 0, 1) := by decide +kernel
theorem d_M_letter_14 : decode b_M_letter 14 = .ok (.getfield 146, 3) := by decide +kernel
theorem d_M_letter_17 : decode b_M_letter 17 = .ok (.bipush 60, 2) := by decide +kernel
theorem d_M_letter_19 : decode b_M_letter 19 = .ok (.if_icmp .ne 6, 3) := by decide +kernel
theorem d_M_letter_22 : decode b_M_letter 22 = .ok (.bipush (-3), 2) := by decide +kernel
theorem d_M_letter_24 : decode b_M_letter 24 = .ok (.ireturn, 1) := by decide +kernel
theorem d_M_letter_25 : decode b_M_letter 25 = .ok (.aload_n 0, 1) := by decide +kernel
theorem d_M_letter_26 : decode b_M_letter 26 = .ok (.getfield 66, 3) := by decide +kernel
theorem d_M_letter_29 : decode b_M_letter 29 = .ok (.aload_n 0, 1) := by decide +kernel
theorem d_M_letter_30 : decode b_M_letter 30 = .ok (.getfield 146, 3) := by decide +kernel
theorem d_M_letter_33 : decode b_M_letter 33 = .ok (.iload_n 1, 1) := by decide +kernel
theorem d_M_letter_34 : decode b_M_letter 34 = .ok (.iastore, 1) := by decide +kernel
theorem d_M_letter_35 : decode b_M_letter 35 = .ok (.aload_n 0, 1) := by decide +kernel
theorem d_M_letter_36 : decode b_M_letter 36 = .ok (.dup, 1) := by decide +kernel
theorem d_M_letter_37 : decode b_M_letter 37 = .ok (.getfield 146, 3) := by decide +kernel
theorem d_M_letter_40 : decode b_M_letter 40 = .ok (.iconst 1, 1) := by decide +kernel
theorem d_M_letter_41 : decode b_M_letter 41 = .ok (.iadd, 1) := by decide +kernel
theorem d_M_letter_42 : decode b_M_letter 42 = .ok (.putfield 146, 3) := by decide +kernel
theorem d_M_letter_45 : decode b_M_letter 45 = .ok (.aload_n 0, 1) := by decide +kernel
theorem d_M_letter_46 : decode b_M_letter 46 = .ok (.getfield 146, 3) := by decide +kernel
theorem d_M_letter_49 : decode b_M_letter 49 = .ok (.ireturn, 1) := by decide +kernel
theorem d_M_partW_0 : decode b_M_partW 0 = .ok (.aload_n 0, 1) := by decide +kernel
theorem d_M_partW_1 : decode b_M_partW 1 = .ok (.iconst 0, 1) := by decide +kernel
theorem d_M_partW_2 : decode b_M_partW 2 = .ok (.putfield 149, 3) := by decide +kernel
theorem d_M_partW_5 : decode b_M_partW 5 = .ok (.iconst 0, 1) := by decide +kernel
theorem d_M_partW_6 : decode b_M_partW 6 = .ok (.istore_n 1, 1) := by decide +kernel
theorem d_M_partW_7 : decode b_M_partW 7 = .ok (.iconst 0, 1) := by decide +kernel
theorem d_M_partW_8 : decode b_M_partW 8 = .ok (.istore_n 2, 1) := by decide +kernel
theorem d_M_partW_9 : decode b_M_partW 9 = .ok (.iload_n 2, 1) := by decide +kernel
theorem d_M_partW_10 : decode b_M_partW 10 = .ok (.aload_n 0, 1) := by decide +kernel
theorem d_M_partW_11 : decode b_M_partW 11 = .ok (.getfield 146, 3) := by decide +kernel
theorem d_M_partW_14 : decode b_M_partW 14 = .ok (.if_icmp .gt 65, 3) := by decide +kernel
theorem d_M_partW_17 : decode b_M_partW 17 = .ok (.iload_n 2, 1) := by decide +kernel
theorem d_M_partW_18 : decode b_M_partW 18 = .ok (.aload_n 0, 1) := by decide +kernel
theorem d_M_partW_19 : decode b_M_partW 19 = .ok (.getfield 146, 3) := by decide +kernel
theorem d_M_partW_22 : decode b_M_partW 22 = .ok (.if_icmp .ge 17, 3) := by decide +kernel
theorem d_M_partW_25 : decode b_M_partW 25 = .ok (.aload_n 0, 1) := by decide +kernel
theorem d_M_partW_26 : decode b_M_partW 26 = .ok (.getfield 66, 3) := by decide +kernel
theorem d_M_partW_29 : decode b_M_partW 29 = .ok (.iload_n 2, 1) := by decide +kernel
theorem d_M_partW_30 : decode b_M_partW 30 = .ok (.iaload, 1) := by decide +kernel
theorem d_M_partW_31 : decode b_M_partW 31 = .ok (.bipush 32, 2) := by decide +kernel
theorem d_M_partW_33 : decode b_M_partW 33 = .ok (.if_icmp .eq 6, 3) := by decide +kernel
theorem d_M_partW_36 : decode b_M_partW 36 = .ok (.goto 37, 3) := by decide +kernel
theorem d_M_partW_39 : decode b_M_partW 39 = .ok (.aload_n 0, 1) := by decide +kernel
theorem d_M_partW_40 : decode b_M_partW 40 = .ok (.getfield 102, 3) := by decide +kernel
theorem d_M_partW_43 : decode b_M_partW 43 = .ok (.aload_n 0, 1) := by decide +kernel
theorem d_M_partW_44 : decode b_M_partW 44 = .ok (.getfield 149, 3) := by decide +kernel
theorem d_M_partW_47 : decode b_M_partW 47 = .ok (.iload_n 1, 1) := by decide +kernel
theorem d_M_partW_48 : decode b_M_partW 48 = .ok (.iastore, 1) := by decide +kernel
theorem d_M_partW_49 : decode b_M_partW 49 = .ok (.aload_n 0, 1) := by decide +kernel
theorem d_M_partW_50 : decode b_M_partW 50 = .ok (.getfield 105, 3) := by decide +kernel
theorem d_M_partW_53 : decode b_M_partW 53 = .ok (.aload_n 0, 1) := by decide +kernel
theorem d_M_partW_54 : decode b_M_partW 54 = .ok (.getfield 149, 3) := by decide +kernel
theorem d_M_partW_57 : decode b_M_partW 57 = .ok (.iload_n 2, 1) := by decide +kernel
theorem d_M_partW_58 : decode b_M_partW 58 = .ok (.iastore, 1) := by decide +kernel
theorem d_M_partW_59 : decode b_M_partW 59 = .ok (.aload_n 0, 1) := by decide +kernel
theorem d_M_partW_60 : decode b_M_partW 60 = .ok (.dup, 1) := by decide +kernel
theorem d_M_partW_61 : decode b_M_partW 61 = .ok (.getfield 149, 3) := by decide +kernel
theorem d_M_partW_64 : decode b_M_partW 64 = .ok (.iconst 1, 1) := by decide +kernel
theorem d_M_partW_65 : decode b_M_partW 65 = .ok (.iadd, 1) := by decide +kernel
theorem d_M_partW_66 : decode b_M_partW 66 = .ok (.putfield 149, 3) := by decide +kernel
theorem d_M_partW_69 : decode b_M_partW 69 = .ok (.iload_n 2, 1) := by decide +kernel
theorem d_M_partW_70 : decode b_M_partW 70 = .ok (.iconst 1, 1) := by decide +kernel
theorem d_M_partW_71 : decode b_M_partW 71 = .ok (.iadd, 1) := by decide +kernel
theorem d_M_partW_72 : decode b_M_partW 72 = .ok (.istore_n 1, 1) := by decide +kernel
theorem d_M_partW_73 : decode b_M_partW 73 = .ok (.iinc 2 1, 3) := by decide +kernel
theorem d_M_partW_76 : decode b_M_partW 76 = .ok (.goto (-67), 3) := by decide +kernel
theorem d_M_partW_79 : decode b_M_partW 79 = .ok (.return_, 1) := by decide +kernel
theorem d_M_isWord_0 : decode b_M_isWord 0 = .ok (.lload_n 2, 1) := by decide +kernel
theorem d_M_isWord_1 : decode b_M_isWord 1 = .ok (.lstore 4, 2) := by decide +kernel
theorem d_M_isWord_3 : decode b_M_isWord 3 = .ok (.iload_n 1, 1) := by decide +kernel
theorem d_M_isWord_4 : decode b_M_isWord 4 = .ok (.aload_n 0, 1) := by decide +kernel
theorem d_M_isWord_5 : decode b_M_isWord 5 = .ok (.getfield 149, 3) := by decide +kernel
theorem d_M_isWord_8 : decode b_M_isWord 8 = .ok (.if_icmp .lt 5, 3) := by decide +kernel
theorem d_M_isWord_11 : decode b_M_isWord 11 = .ok (.iconst 0, 1) := by decide +kernel
theorem d_M_isWord_12 : decode b_M_isWord 12 = .ok (.ireturn, 1) := by decide +kernel
theorem d_M_isWord_13 : decode b_M_isWord 13 = .ok (.aload_n 0, 1) := by decide +kernel
theorem d_M_isWord_14 : decode b_M_isWord 14 = .ok (.getfield 105, 3) := by decide +kernel
theorem d_M_isWord_17 : decode b_M_isWord 17 = .ok (.iload_n 1, 1) := by decide +kernel
theorem d_M_isWord_18 : decode b_M_isWord 18 = .ok (.iaload, 1) := by decide +kernel
theorem d_M_isWord_19 : decode b_M_isWord 19 = .ok (.iconst 1, 1) := by decide +kernel
theorem d_M_isWord_20 : decode b_M_isWord 20 = .ok (.isub, 1) := by decide +kernel
theorem d_M_isWord_21 : decode b_M_isWord 21 = .ok (.istore 6, 2) := by decide +kernel
theorem d_M_isWord_23 : decode b_M_isWord 23 = .ok (.iload 6, 2) := by decide +kernel
theorem d_M_isWord_25 : decode b_M_isWord 25 = .ok (.aload_n 0, 1) := by decide +kernel
theorem d_M_isWord_26 : decode b_M_isWord 26 = .ok (.getfield 102, 3) := by decide +kernel
theorem d_M_isWord_29 : decode b_M_isWord 29 = .ok (.iload_n 1, 1) := by decide +kernel
theorem d_M_isWord_30 : decode b_M_isWord 30 = .ok (.iaload, 1) := by decide +kernel
theorem d_M_isWord_31 : decode b_M_isWord 31 = .ok (.if_icmp .lt 37, 3) := by decide +kernel
theorem d_M_isWord_34 : decode b_M_isWord 34 = .ok (.aload_n 0, 1) := by decide +kernel
theorem d_M_isWord_35 : decode b_M_isWord 35 = .ok (.getfield 66, 3) := by decide +kernel
theorem d_M_isWord_38 : decode b_M_isWord 38 = .ok (.iload 6, 2) := by decide +kernel
theorem d_M_isWord_40 : decode b_M_isWord 40 = .ok (.iaload, 1) := by decide +kernel
theorem d_M_isWord_41 : decode b_M_isWord 41 = .ok (.i2l, 1) := by decide +kernel
theorem d_M_isWord_42 : decode b_M_isWord 42 = .ok (.lload 4, 2) := by decide +kernel
theorem d_M_isWord_44 : decode b_M_isWord 44 = .ok (.ldc2_w 152, 3) := by decide +kernel
theorem d_M_isWord_47 : decode b_M_isWord 47 = .ok (.lrem, 1) := by decide +kernel
theorem d_M_isWord_48 : decode b_M_isWord 48 = .ok (.lcmp, 1) := by decide +kernel
theorem d_M_isWord_49 : decode b_M_isWord 49 = .ok (.ifCond .eq 5, 3) := by decide +kernel
theorem d_M_isWord_52 : decode b_M_isWord 52 = .ok (.iconst 0, 1) := by decide +kernel
theorem d_M_isWord_53 : decode b_M_isWord 53 = .ok (.ireturn, 1) := by decide +kernel
theorem d_M_isWord_54 : decode b_M_isWord 54 = .ok (.lload 4, 2) := by decide +kernel
theorem d_M_isWord_56 : decode b_M_isWord 56 = .ok (.ldc2_w 152, 3) := by decide +kernel
theorem d_M_isWord_59 : decode b_M_isWord 59 = .ok (.ldiv, 1) := by decide +kernel
theorem d_M_isWord_60 : decode b_M_isWord 60 = .ok (.lstore 4, 2) := by decide +kernel
theorem d_M_isWord_62 : decode b_M_isWord 62 = .ok (.iinc 6 (-1), 3) := by decide +kernel
theorem d_M_isWord_65 : decode b_M_isWord 65 = .ok (.goto (-42), 3) := by decide +kernel
theorem d_M_isWord_68 : decode b_M_isWord 68 = .ok (.lload 4, 2) := by decide +kernel
theorem d_M_isWord_70 : decode b_M_isWord 70 = .ok (.lconst 0, 1) := by decide +kernel
theorem d_M_isWord_71 : decode b_M_isWord 71 = .ok (.lcmp, 1) := by decide +kernel
theorem d_M_isWord_72 : decode b_M_isWord 72 = .ok (.ifCond .ne 22, 3) := by decide +kernel
theorem d_M_isWord_75 : decode b_M_isWord 75 = .ok (.aload_n 0, 1) := by decide +kernel
theorem d_M_isWord_76 : decode b_M_isWord 76 = .ok (.getfield 105, 3) := by decide +kernel
theorem d_M_isWord_79 : decode b_M_isWord 79 = .ok (.iload_n 1, 1) := by decide +kernel
theorem d_M_isWord_80 : decode b_M_isWord 80 = .ok (.iaload, 1) := by decide +kernel
theorem d_M_isWord_81 : decode b_M_isWord 81 = .ok (.aload_n 0, 1) := by decide +kernel
theorem d_M_isWord_82 : decode b_M_isWord 82 = .ok (.getfield 102, 3) := by decide +kernel
theorem d_M_isWord_85 : decode b_M_isWord 85 = .ok (.iload_n 1, 1) := by decide +kernel
theorem d_M_isWord_86 : decode b_M_isWord 86 = .ok (.iaload, 1) := by decide +kernel
theorem d_M_isWord_87 : decode b_M_isWord 87 = .ok (.if_icmp .le 7, 3) := by decide +kernel
theorem d_M_isWord_90 : decode b_M_isWord 90 = .ok (.iconst 1, 1) := by decide +kernel
theorem d_M_isWord_91 : decode b_M_isWord 91 = .ok (.goto 4, 3) := by decide +kernel
theorem d_M_isWord_94 : decode b_M_isWord 94 = .ok (.iconst 0, 1) := by decide +kernel
theorem d_M_isWord_95 : decode b_M_isWord 95 = .ok (.ireturn, 1) := by decide +kernel
theorem d_M_isPattern_0 : decode b_M_isPattern 0 = .ok (.iload_n 1, 1) := by decide +kernel
theorem d_M_isPattern_1 : decode b_M_isPattern 1 = .ok (.aload_n 0, 1) := by decide +kernel
theorem d_M_isPattern_2 : decode b_M_isPattern 2 = .ok (.getfield 149, 3) := by decide +kernel
theorem d_M_isPattern_5 : decode b_M_isPattern 5 = .ok (.if_icmp .ge 20, 3) := by decide +kernel
theorem d_M_isPattern_8 : decode b_M_isPattern 8 = .ok (.aload_n 0, 1) := by decide +kernel
theorem d_M_isPattern_9 : decode b_M_isPattern 9 = .ok (.getfield 105, 3) := by decide +kernel
theorem d_M_isPattern_12 : decode b_M_isPattern 12 = .ok (.iload_n 1, 1) := by decide +kernel
theorem d_M_isPattern_13 : decode b_M_isPattern 13 = .ok (.iaload, 1) := by decide +kernel
theorem d_M_isPattern_14 : decode b_M_isPattern 14 = .ok (.iload_n 2, 1) := by decide +kernel
theorem d_M_isPattern_15 : decode b_M_isPattern 15 = .ok (.isub, 1) := by decide +kernel
theorem d_M_isPattern_16 : decode b_M_isPattern 16 = .ok (.aload_n 0, 1) := by decide +kernel
theorem d_M_isPattern_17 : decode b_M_isPattern 17 = .ok (.getfield 102, 3) := by decide +kernel
theorem d_M_isPattern_20 : decode b_M_isPattern 20 = .ok (.iload_n 1, 1) := by decide +kernel
theorem d_M_isPattern_21 : decode b_M_isPattern 21 = .ok (.iaload, 1) := by decide +kernel
theorem d_M_isPattern_22 : decode b_M_isPattern 22 = .ok (.if_icmp .gt 5, 3) := by decide +kernel
theorem d_M_isPattern_25 : decode b_M_isPattern 25 = .ok (.iconst 0, 1) := by decide +kernel
theorem d_M_isPattern_26 : decode b_M_isPattern 26 = .ok (.ireturn, 1) := by decide +kernel
theorem d_M_isPattern_27 : decode b_M_isPattern 27 = .ok (.aload_n 0, 1) := by decide +kernel
theorem d_M_isPattern_28 : decode b_M_isPattern 28 = .ok (.getfield 102, 3) := by decide +kernel
theorem d_M_isPattern_31 : decode b_M_isPattern 31 = .ok (.iload_n 1, 1) := by decide +kernel
theorem d_M_isPattern_32 : decode b_M_isPattern 32 = .ok (.iaload, 1) := by decide +kernel
theorem d_M_isPattern_33 : decode b_M_isPattern 33 = .ok (.istore_n 3, 1) := by decide +kernel
theorem d_M_isPattern_34 : decode b_M_isPattern 34 = .ok (.iload_n 3, 1) := by decide +kernel
theorem d_M_isPattern_35 : decode b_M_isPattern 35 = .ok (.aload_n 0, 1) := by decide +kernel
theorem d_M_isPattern_36 : decode b_M_isPattern 36 = .ok (.getfield 105, 3) := by decide +kernel
theorem d_M_isPattern_39 : decode b_M_isPattern 39 = .ok (.iload_n 1, 1) := by decide +kernel
theorem d_M_isPattern_40 : decode b_M_isPattern 40 = .ok (.iaload, 1) := by decide +kernel
theorem d_M_isPattern_41 : decode b_M_isPattern 41 = .ok (.iload_n 2, 1) := by decide +kernel
theorem d_M_isPattern_42 : decode b_M_isPattern 42 = .ok (.isub, 1) := by decide +kernel
theorem d_M_isPattern_43 : decode b_M_isPattern 43 = .ok (.if_icmp .ge 44, 3) := by decide +kernel
theorem d_M_isPattern_46 : decode b_M_isPattern 46 = .ok (.aload_n 0, 1) := by decide +kernel
theorem d_M_isPattern_47 : decode b_M_isPattern 47 = .ok (.getfield 66, 3) := by decide +kernel
theorem d_M_isPattern_50 : decode b_M_isPattern 50 = .ok (.iload_n 3, 1) := by decide +kernel
theorem d_M_isPattern_51 : decode b_M_isPattern 51 = .ok (.iaload, 1) := by decide +kernel
theorem d_M_isPattern_52 : decode b_M_isPattern 52 = .ok (.bipush 59, 2) := by decide +kernel
theorem d_M_isPattern_54 : decode b_M_isPattern 54 = .ok (.if_icmp .eq 25, 3) := by decide +kernel
theorem d_M_isPattern_57 : decode b_M_isPattern 57 = .ok (.aload_n 0, 1) := by decide +kernel
theorem d_M_isPattern_58 : decode b_M_isPattern 58 = .ok (.getfield 66, 3) := by decide +kernel
theorem d_M_isPattern_61 : decode b_M_isPattern 61 = .ok (.iload_n 3, 1) := by decide +kernel
theorem d_M_isPattern_62 : decode b_M_isPattern 62 = .ok (.iaload, 1) := by decide +kernel
theorem d_M_isPattern_63 : decode b_M_isPattern 63 = .ok (.bipush 123, 2) := by decide +kernel
theorem d_M_isPattern_65 : decode b_M_isPattern 65 = .ok (.if_icmp .eq 14, 3) := by decide +kernel
theorem d_M_isPattern_68 : decode b_M_isPattern 68 = .ok (.aload_n 0, 1) := by decide +kernel
theorem d_M_isPattern_69 : decode b_M_isPattern 69 = .ok (.getfield 66, 3) := by decide +kernel
theorem d_M_isPattern_72 : decode b_M_isPattern 72 = .ok (.iload_n 3, 1) := by decide +kernel
theorem d_M_isPattern_73 : decode b_M_isPattern 73 = .ok (.iaload, 1) := by decide +kernel
theorem d_M_isPattern_74 : decode b_M_isPattern 74 = .ok (.bipush 125, 2) := by decide +kernel
theorem d_M_isPattern_76 : decode b_M_isPattern 76 = .ok (.if_icmp .ne 5, 3) := by decide +kernel
theorem d_M_isPattern_79 : decode b_M_isPattern 79 = .ok (.iconst 0, 1) := by decide +kernel
theorem d_M_isPattern_80 : decode b_M_isPattern 80 = .ok (.ireturn, 1) := by decide +kernel
theorem d_M_isPattern_81 : decode b_M_isPattern 81 = .ok (.iinc 3 1, 3) := by decide +kernel
theorem d_M_isPattern_84 : decode b_M_isPattern 84 = .ok (.goto (-50), 3) := by decide +kernel
theorem d_M_isPattern_87 : decode b_M_isPattern 87 = .ok (.iconst 1, 1) := by decide +kernel
theorem d_M_isPattern_88 : decode b_M_isPattern 88 = .ok (.ireturn, 1) := by decide +kernel
theorem d_M_code_0 : decode b_M_code 0 = .ok (.lload_n 0, 1) := by decide +kernel
theorem d_M_code_1 : decode b_M_code 1 = .ok (.ldc2_w 152, 3) := by decide +kernel
theorem d_M_code_4 : decode b_M_code 4 = .ok (.lmul, 1) := by decide +kernel
theorem d_M_code_5 : decode b_M_code 5 = .ok (.iload_n 2, 1) := by decide +kernel
theorem d_M_code_6 : decode b_M_code 6 = .ok (.i2l, 1) := by decide +kernel
theorem d_M_code_7 : decode b_M_code 7 = .ok (.ladd, 1) := by decide +kernel
theorem d_M_code_8 : decode b_M_code 8 = .ok (.lreturn, 1) := by decide +kernel
theorem d_M_fourOf_0 : decode b_M_fourOf 0 = .ok (.iload_n 0, 1) := by decide +kernel
theorem d_M_fourOf_1 : decode b_M_fourOf 1 = .ok (.i2l, 1) := by decide +kernel
theorem d_M_fourOf_2 : decode b_M_fourOf 2 = .ok (.iload_n 1, 1) := by decide +kernel
theorem d_M_fourOf_3 : decode b_M_fourOf 3 = .ok (.invokestatic 154, 3) := by decide +kernel
theorem d_M_fourOf_6 : decode b_M_fourOf 6 = .ok (.iload_n 2, 1) := by decide +kernel
theorem d_M_fourOf_7 : decode b_M_fourOf 7 = .ok (.invokestatic 154, 3) := by decide +kernel
theorem d_M_fourOf_10 : decode b_M_fourOf 10 = .ok (.iload_n 3, 1) := by decide +kernel
theorem d_M_fourOf_11 : decode b_M_fourOf 11 = .ok (.invokestatic 154, 3) := by decide +kernel
theorem d_M_fourOf_14 : decode b_M_fourOf 14 = .ok (.lreturn, 1) := by decide +kernel
theorem d_M_isMembers_0 : decode b_M_isMembers 0 = .ok (.aload_n 0, 1) := by decide +kernel
theorem d_M_isMembers_1 : decode b_M_isMembers 1 = .ok (.getfield 66, 3) := by decide +kernel
theorem d_M_isMembers_4 : decode b_M_isMembers 4 = .ok (.iload_n 1, 1) := by decide +kernel
theorem d_M_isMembers_5 : decode b_M_isMembers 5 = .ok (.iaload, 1) := by decide +kernel
theorem d_M_isMembers_6 : decode b_M_isMembers 6 = .ok (.bipush 109, 2) := by decide +kernel
theorem d_M_isMembers_8 : decode b_M_isMembers 8 = .ok (.if_icmp .ne 86, 3) := by decide +kernel
theorem d_M_isMembers_11 : decode b_M_isMembers 11 = .ok (.aload_n 0, 1) := by decide +kernel
theorem d_M_isMembers_12 : decode b_M_isMembers 12 = .ok (.getfield 66, 3) := by decide +kernel
theorem d_M_isMembers_15 : decode b_M_isMembers 15 = .ok (.iload_n 1, 1) := by decide +kernel
theorem d_M_isMembers_16 : decode b_M_isMembers 16 = .ok (.iconst 1, 1) := by decide +kernel
theorem d_M_isMembers_17 : decode b_M_isMembers 17 = .ok (.iadd, 1) := by decide +kernel
theorem d_M_isMembers_18 : decode b_M_isMembers 18 = .ok (.iaload, 1) := by decide +kernel
theorem d_M_isMembers_19 : decode b_M_isMembers 19 = .ok (.bipush 101, 2) := by decide +kernel
theorem d_M_isMembers_21 : decode b_M_isMembers 21 = .ok (.if_icmp .ne 73, 3) := by decide +kernel
theorem d_M_isMembers_24 : decode b_M_isMembers 24 = .ok (.aload_n 0, 1) := by decide +kernel
theorem d_M_isMembers_25 : decode b_M_isMembers 25 = .ok (.getfield 66, 3) := by decide +kernel
theorem d_M_isMembers_28 : decode b_M_isMembers 28 = .ok (.iload_n 1, 1) := by decide +kernel
theorem d_M_isMembers_29 : decode b_M_isMembers 29 = .ok (.iconst 2, 1) := by decide +kernel
theorem d_M_isMembers_30 : decode b_M_isMembers 30 = .ok (.iadd, 1) := by decide +kernel
theorem d_M_isMembers_31 : decode b_M_isMembers 31 = .ok (.iaload, 1) := by decide +kernel
theorem d_M_isMembers_32 : decode b_M_isMembers 32 = .ok (.bipush 109, 2) := by decide +kernel
theorem d_M_isMembers_34 : decode b_M_isMembers 34 = .ok (.if_icmp .ne 60, 3) := by decide +kernel
theorem d_M_isMembers_37 : decode b_M_isMembers 37 = .ok (.aload_n 0, 1) := by decide +kernel
theorem d_M_isMembers_38 : decode b_M_isMembers 38 = .ok (.getfield 66, 3) := by decide +kernel
theorem d_M_isMembers_41 : decode b_M_isMembers 41 = .ok (.iload_n 1, 1) := by decide +kernel
theorem d_M_isMembers_42 : decode b_M_isMembers 42 = .ok (.iconst 3, 1) := by decide +kernel
theorem d_M_isMembers_43 : decode b_M_isMembers 43 = .ok (.iadd, 1) := by decide +kernel
theorem d_M_isMembers_44 : decode b_M_isMembers 44 = .ok (.iaload, 1) := by decide +kernel
theorem d_M_isMembers_45 : decode b_M_isMembers 45 = .ok (.bipush 98, 2) := by decide +kernel
theorem d_M_isMembers_47 : decode b_M_isMembers 47 = .ok (.if_icmp .ne 47, 3) := by decide +kernel
theorem d_M_isMembers_50 : decode b_M_isMembers 50 = .ok (.aload_n 0, 1) := by decide +kernel
theorem d_M_isMembers_51 : decode b_M_isMembers 51 = .ok (.getfield 66, 3) := by decide +kernel
theorem d_M_isMembers_54 : decode b_M_isMembers 54 = .ok (.iload_n 1, 1) := by decide +kernel
theorem d_M_isMembers_55 : decode b_M_isMembers 55 = .ok (.iconst 4, 1) := by decide +kernel
theorem d_M_isMembers_56 : decode b_M_isMembers 56 = .ok (.iadd, 1) := by decide +kernel
theorem d_M_isMembers_57 : decode b_M_isMembers 57 = .ok (.iaload, 1) := by decide +kernel
theorem d_M_isMembers_58 : decode b_M_isMembers 58 = .ok (.bipush 101, 2) := by decide +kernel
theorem d_M_isMembers_60 : decode b_M_isMembers 60 = .ok (.if_icmp .ne 34, 3) := by decide +kernel
theorem d_M_isMembers_63 : decode b_M_isMembers 63 = .ok (.aload_n 0, 1) := by decide +kernel
theorem d_M_isMembers_64 : decode b_M_isMembers 64 = .ok (.getfield 66, 3) := by decide +kernel
theorem d_M_isMembers_67 : decode b_M_isMembers 67 = .ok (.iload_n 1, 1) := by decide +kernel
theorem d_M_isMembers_68 : decode b_M_isMembers 68 = .ok (.iconst 5, 1) := by decide +kernel
theorem d_M_isMembers_69 : decode b_M_isMembers 69 = .ok (.iadd, 1) := by decide +kernel
theorem d_M_isMembers_70 : decode b_M_isMembers 70 = .ok (.iaload, 1) := by decide +kernel
theorem d_M_isMembers_71 : decode b_M_isMembers 71 = .ok (.bipush 114, 2) := by decide +kernel
theorem d_M_isMembers_73 : decode b_M_isMembers 73 = .ok (.if_icmp .ne 21, 3) := by decide +kernel
theorem d_M_isMembers_76 : decode b_M_isMembers 76 = .ok (.aload_n 0, 1) := by decide +kernel
theorem d_M_isMembers_77 : decode b_M_isMembers 77 = .ok (.getfield 66, 3) := by decide +kernel
theorem d_M_isMembers_80 : decode b_M_isMembers 80 = .ok (.iload_n 1, 1) := by decide +kernel
theorem d_M_isMembers_81 : decode b_M_isMembers 81 = .ok (.bipush 6, 2) := by decide +kernel
theorem d_M_isMembers_83 : decode b_M_isMembers 83 = .ok (.iadd, 1) := by decide +kernel
theorem d_M_isMembers_84 : decode b_M_isMembers 84 = .ok (.iaload, 1) := by decide +kernel
theorem d_M_isMembers_85 : decode b_M_isMembers 85 = .ok (.bipush 115, 2) := by decide +kernel
theorem d_M_isMembers_87 : decode b_M_isMembers 87 = .ok (.if_icmp .ne 7, 3) := by decide +kernel
theorem d_M_isMembers_90 : decode b_M_isMembers 90 = .ok (.iconst 1, 1) := by decide +kernel
theorem d_M_isMembers_91 : decode b_M_isMembers 91 = .ok (.goto 4, 3) := by decide +kernel
theorem d_M_isMembers_94 : decode b_M_isMembers 94 = .ok (.iconst 0, 1) := by decide +kernel
theorem d_M_isMembers_95 : decode b_M_isMembers 95 = .ok (.ireturn, 1) := by decide +kernel
theorem d_M_sortOf_0 : decode b_M_sortOf 0 = .ok (.bipush 107, 2) := by decide +kernel
theorem d_M_sortOf_2 : decode b_M_sortOf 2 = .ok (.bipush 101, 2) := by decide +kernel
theorem d_M_sortOf_4 : decode b_M_sortOf 4 = .ok (.bipush 101, 2) := by decide +kernel
theorem d_M_sortOf_6 : decode b_M_sortOf 6 = .ok (.bipush 112, 2) := by decide +kernel
theorem d_M_sortOf_8 : decode b_M_sortOf 8 = .ok (.invokestatic 158, 3) := by decide +kernel
theorem d_M_sortOf_11 : decode b_M_sortOf 11 = .ok (.lstore_n 1, 1) := by decide +kernel
theorem d_M_sortOf_12 : decode b_M_sortOf 12 = .ok (.bipush 110, 2) := by decide +kernel
theorem d_M_sortOf_14 : decode b_M_sortOf 14 = .ok (.bipush 97, 2) := by decide +kernel
theorem d_M_sortOf_16 : decode b_M_sortOf 16 = .ok (.bipush 109, 2) := by decide +kernel
theorem d_M_sortOf_18 : decode b_M_sortOf 18 = .ok (.bipush 101, 2) := by decide +kernel
theorem d_M_sortOf_20 : decode b_M_sortOf 20 = .ok (.invokestatic 158, 3) := by decide +kernel
theorem d_M_sortOf_23 : decode b_M_sortOf 23 = .ok (.bipush 115, 2) := by decide +kernel
theorem d_M_sortOf_25 : decode b_M_sortOf 25 = .ok (.invokestatic 154, 3) := by decide +kernel
theorem d_M_sortOf_28 : decode b_M_sortOf 28 = .ok (.lstore_n 3, 1) := by decide +kernel
theorem d_M_sortOf_29 : decode b_M_sortOf 29 = .ok (.lload_n 1, 1) := by decide +kernel
theorem d_M_sortOf_30 : decode b_M_sortOf 30 = .ok (.lstore 5, 2) := by decide +kernel
theorem d_M_sortOf_32 : decode b_M_sortOf 32 = .ok (.aload_n 0, 1) := by decide +kernel
theorem d_M_sortOf_33 : decode b_M_sortOf 33 = .ok (.iconst 0, 1) := by decide +kernel
theorem d_M_sortOf_34 : decode b_M_sortOf 34 = .ok (.lload_n 1, 1) := by decide +kernel
theorem d_M_sortOf_35 : decode b_M_sortOf 35 = .ok (.invokevirtual 162, 3) := by decide +kernel
theorem d_M_sortOf_38 : decode b_M_sortOf 38 = .ok (.ifCond .eq 5, 3) := by decide +kernel
theorem d_M_sortOf_41 : decode b_M_sortOf 41 = .ok (.iconst 0, 1) := by decide +kernel
theorem d_M_sortOf_42 : decode b_M_sortOf 42 = .ok (.ireturn, 1) := by decide +kernel
theorem d_M_sortOf_43 : decode b_M_sortOf 43 = .ok (.aload_n 0, 1) := by decide +kernel
theorem d_M_sortOf_44 : decode b_M_sortOf 44 = .ok (.getfield 149, 3) := by decide +kernel
theorem d_M_sortOf_47 : decode b_M_sortOf 47 = .ok (.ifCond .eq 21, 3) := by decide +kernel
theorem d_M_sortOf_50 : decode b_M_sortOf 50 = .ok (.aload_n 0, 1) := by decide +kernel
theorem d_M_sortOf_51 : decode b_M_sortOf 51 = .ok (.getfield 105, 3) := by decide +kernel
theorem d_M_sortOf_54 : decode b_M_sortOf 54 = .ok (.iconst 0, 1) := by decide +kernel
theorem d_M_sortOf_55 : decode b_M_sortOf 55 = .ok (.iaload, 1) := by decide +kernel
theorem d_M_sortOf_56 : decode b_M_sortOf 56 = .ok (.aload_n 0, 1) := by decide +kernel
theorem d_M_sortOf_57 : decode b_M_sortOf 57 = .ok (.getfield 102, 3) := by decide +kernel
theorem d_M_sortOf_60 : decode b_M_sortOf 60 = .ok (.iconst 0, 1) := by decide +kernel
theorem d_M_sortOf_61 : decode b_M_sortOf 61 = .ok (.iaload, 1) := by decide +kernel
theorem d_M_sortOf_62 : decode b_M_sortOf 62 = .ok (.isub, 1) := by decide +kernel
theorem d_M_sortOf_63 : decode b_M_sortOf 63 = .ok (.bipush 9, 2) := by decide +kernel
theorem d_M_sortOf_65 : decode b_M_sortOf 65 = .ok (.if_icmp .ge 5, 3) := by decide +kernel
theorem d_M_sortOf_68 : decode b_M_sortOf 68 = .ok (.iconst (-1), 1) := by decide +kernel
theorem d_M_sortOf_69 : decode b_M_sortOf 69 = .ok (.ireturn, 1) := by decide +kernel
theorem d_M_sortOf_70 : decode b_M_sortOf 70 = .ok (.aload_n 0, 1) := by decide +kernel
theorem d_M_sortOf_71 : decode b_M_sortOf 71 = .ok (.getfield 102, 3) := by decide +kernel
theorem d_M_sortOf_74 : decode b_M_sortOf 74 = .ok (.iconst 0, 1) := by decide +kernel
theorem d_M_sortOf_75 : decode b_M_sortOf 75 = .ok (.iaload, 1) := by decide +kernel
theorem d_M_sortOf_76 : decode b_M_sortOf 76 = .ok (.istore 7, 2) := by decide +kernel
theorem d_M_sortOf_78 : decode b_M_sortOf 78 = .ok (.aload_n 0, 1) := by decide +kernel
theorem d_M_sortOf_79 : decode b_M_sortOf 79 = .ok (.getfield 105, 3) := by decide +kernel
theorem d_M_sortOf_82 : decode b_M_sortOf 82 = .ok (.iconst 0, 1) := by decide +kernel
theorem d_M_sortOf_83 : decode b_M_sortOf 83 = .ok (.iaload, 1) := by decide +kernel
theorem d_M_sortOf_84 : decode b_M_sortOf 84 = .ok (.istore 8, 2) := by decide +kernel
theorem d_M_sortOf_86 : decode b_M_sortOf 86 = .ok (.iconst 3, 1) := by decide +kernel
theorem d_M_sortOf_87 : decode b_M_sortOf 87 = .ok (.istore 9, 2) := by decide +kernel
theorem d_M_sortOf_89 : decode b_M_sortOf 89 = .ok (.iload 9, 2) := by decide +kernel
theorem d_M_sortOf_91 : decode b_M_sortOf 91 = .ok (.ifCond .lt 40, 3) := by decide +kernel
theorem d_M_sortOf_94 : decode b_M_sortOf 94 = .ok (.aload_n 0, 1) := by decide +kernel
theorem d_M_sortOf_95 : decode b_M_sortOf 95 = .ok (.getfield 66, 3) := by decide +kernel
theorem d_M_sortOf_98 : decode b_M_sortOf 98 = .ok (.iload 7, 2) := by decide +kernel
theorem d_M_sortOf_100 : decode b_M_sortOf 100 = .ok (.iload 9, 2) := by decide +kernel
theorem d_M_sortOf_102 : decode b_M_sortOf 102 = .ok (.iadd, 1) := by decide +kernel
theorem d_M_sortOf_103 : decode b_M_sortOf 103 = .ok (.iaload, 1) := by decide +kernel
theorem d_M_sortOf_104 : decode b_M_sortOf 104 = .ok (.i2l, 1) := by decide +kernel
theorem d_M_sortOf_105 : decode b_M_sortOf 105 = .ok (.lload 5, 2) := by decide +kernel
theorem d_M_sortOf_107 : decode b_M_sortOf 107 = .ok (.ldc2_w 152, 3) := by decide +kernel
theorem d_M_sortOf_110 : decode b_M_sortOf 110 = .ok (.lrem, 1) := by decide +kernel
theorem d_M_sortOf_111 : decode b_M_sortOf 111 = .ok (.lcmp, 1) := by decide +kernel
theorem d_M_sortOf_112 : decode b_M_sortOf 112 = .ok (.ifCond .eq 5, 3) := by decide +kernel
theorem d_M_sortOf_115 : decode b_M_sortOf 115 = .ok (.iconst (-1), 1) := by decide +kernel
theorem d_M_sortOf_116 : decode b_M_sortOf 116 = .ok (.ireturn, 1) := by decide +kernel
theorem d_M_sortOf_117 : decode b_M_sortOf 117 = .ok (.lload 5, 2) := by decide +kernel
theorem d_M_sortOf_119 : decode b_M_sortOf 119 = .ok (.ldc2_w 152, 3) := by decide +kernel
theorem d_M_sortOf_122 : decode b_M_sortOf 122 = .ok (.ldiv, 1) := by decide +kernel
theorem d_M_sortOf_123 : decode b_M_sortOf 123 = .ok (.lstore 5, 2) := by decide +kernel
theorem d_M_sortOf_125 : decode b_M_sortOf 125 = .ok (.iinc 9 (-1), 3) := by decide +kernel
theorem d_M_sortOf_128 : decode b_M_sortOf 128 = .ok (.goto (-39), 3) := by decide +kernel
theorem d_M_sortOf_131 : decode b_M_sortOf 131 = .ok (.aload_n 0, 1) := by decide +kernel
theorem d_M_sortOf_132 : decode b_M_sortOf 132 = .ok (.getfield 102, 3) := by decide +kernel
theorem d_M_sortOf_135 : decode b_M_sortOf 135 = .ok (.iconst 0, 1) := by decide +kernel
theorem d_M_sortOf_136 : decode b_M_sortOf 136 = .ok (.iload 7, 2) := by decide +kernel
theorem d_M_sortOf_138 : decode b_M_sortOf 138 = .ok (.iconst 4, 1) := by decide +kernel
theorem d_M_sortOf_139 : decode b_M_sortOf 139 = .ok (.iadd, 1) := by decide +kernel
theorem d_M_sortOf_140 : decode b_M_sortOf 140 = .ok (.iastore, 1) := by decide +kernel
theorem d_M_sortOf_141 : decode b_M_sortOf 141 = .ok (.aload_n 0, 1) := by decide +kernel
theorem d_M_sortOf_142 : decode b_M_sortOf 142 = .ok (.iconst 0, 1) := by decide +kernel
theorem d_M_sortOf_143 : decode b_M_sortOf 143 = .ok (.lload_n 3, 1) := by decide +kernel
theorem d_M_sortOf_144 : decode b_M_sortOf 144 = .ok (.invokevirtual 162, 3) := by decide +kernel
theorem d_M_sortOf_147 : decode b_M_sortOf 147 = .ok (.istore 9, 2) := by decide +kernel
theorem d_M_sortOf_149 : decode b_M_sortOf 149 = .ok (.iload 8, 2) := by decide +kernel
theorem d_M_sortOf_151 : decode b_M_sortOf 151 = .ok (.iload 7, 2) := by decide +kernel
theorem d_M_sortOf_153 : decode b_M_sortOf 153 = .ok (.isub, 1) := by decide +kernel
theorem d_M_sortOf_154 : decode b_M_sortOf 154 = .ok (.bipush 11, 2) := by decide +kernel
theorem d_M_sortOf_156 : decode b_M_sortOf 156 = .ok (.if_icmp .ne 18, 3) := by decide +kernel
theorem d_M_sortOf_159 : decode b_M_sortOf 159 = .ok (.aload_n 0, 1) := by decide +kernel
theorem d_M_sortOf_160 : decode b_M_sortOf 160 = .ok (.iload 7, 2) := by decide +kernel
theorem d_M_sortOf_162 : decode b_M_sortOf 162 = .ok (.iconst 4, 1) := by decide +kernel
theorem d_M_sortOf_163 : decode b_M_sortOf 163 = .ok (.iadd, 1) := by decide +kernel
theorem d_M_sortOf_164 : decode b_M_sortOf 164 = .ok (.invokevirtual 166, 3) := by decide +kernel
theorem d_M_sortOf_167 : decode b_M_sortOf 167 = .ok (.ifCond .eq 7, 3) := by decide +kernel
theorem d_M_sortOf_170 : decode b_M_sortOf 170 = .ok (.iconst 1, 1) := by decide +kernel
theorem d_M_sortOf_171 : decode b_M_sortOf 171 = .ok (.goto 4, 3) := by decide +kernel
theorem d_M_sortOf_174 : decode b_M_sortOf 174 = .ok (.iconst 0, 1) := by decide +kernel
theorem d_M_sortOf_175 : decode b_M_sortOf 175 = .ok (.istore 10, 2) := by decide +kernel
theorem d_M_sortOf_177 : decode b_M_sortOf 177 = .ok (.aload_n 0, 1) := by decide +kernel
theorem d_M_sortOf_178 : decode b_M_sortOf 178 = .ok (.getfield 102, 3) := by decide +kernel
theorem d_M_sortOf_181 : decode b_M_sortOf 181 = .ok (.iconst 0, 1) := by decide +kernel
theorem d_M_sortOf_182 : decode b_M_sortOf 182 = .ok (.iload 7, 2) := by decide +kernel
theorem d_M_sortOf_184 : decode b_M_sortOf 184 = .ok (.iastore, 1) := by decide +kernel
theorem d_M_sortOf_185 : decode b_M_sortOf 185 = .ok (.iload 9, 2) := by decide +kernel
theorem d_M_sortOf_187 : decode b_M_sortOf 187 = .ok (.ifCond .eq 7, 3) := by decide +kernel
theorem d_M_sortOf_190 : decode b_M_sortOf 190 = .ok (.iconst 1, 1) := by decide +kernel
theorem d_M_sortOf_191 : decode b_M_sortOf 191 = .ok (.goto 13, 3) := by decide +kernel
theorem d_M_sortOf_194 : decode b_M_sortOf 194 = .ok (.iload 10, 2) := by decide +kernel
theorem d_M_sortOf_196 : decode b_M_sortOf 196 = .ok (.ifCond .eq 7, 3) := by decide +kernel
theorem d_M_sortOf_199 : decode b_M_sortOf 199 = .ok (.iconst 2, 1) := by decide +kernel
theorem d_M_sortOf_200 : decode b_M_sortOf 200 = .ok (.goto 4, 3) := by decide +kernel
theorem d_M_sortOf_203 : decode b_M_sortOf 203 = .ok (.iconst (-1), 1) := by decide +kernel
theorem d_M_sortOf_204 : decode b_M_sortOf 204 = .ok (.ireturn, 1) := by decide +kernel
theorem d_M_reads_0 : decode b_M_reads 0 = .ok (.aload_n 0, 1) := by decide +kernel
theorem d_M_reads_1 : decode b_M_reads 1 = .ok (.invokevirtual 170, 3) := by decide +kernel
theorem d_M_reads_4 : decode b_M_reads 4 = .ok (.istore_n 2, 1) := by decide +kernel
theorem d_M_reads_5 : decode b_M_reads 5 = .ok (.iconst 3, 1) := by decide +kernel
theorem d_M_reads_6 : decode b_M_reads 6 = .ok (.istore_n 3, 1) := by decide +kernel
theorem d_M_reads_7 : decode b_M_reads 7 = .ok (.iload_n 2, 1) := by decide +kernel
theorem d_M_reads_8 : decode b_M_reads 8 = .ok (.ifCond .ge 5, 3) := by decide +kernel
theorem d_M_reads_11 : decode b_M_reads 11 = .ok (.iconst 1, 1) := by decide +kernel
theorem d_M_reads_12 : decode b_M_reads 12 = .ok (.ireturn, 1) := by decide +kernel
theorem d_M_reads_13 : decode b_M_reads 13 = .ok (.aload_n 0, 1) := by decide +kernel
theorem d_M_reads_14 : decode b_M_reads 14 = .ok (.iconst 1, 1) := by decide +kernel
theorem d_M_reads_15 : decode b_M_reads 15 = .ok (.bipush 99, 2) := by decide +kernel
theorem d_M_reads_17 : decode b_M_reads 17 = .ok (.bipush 108, 2) := by decide +kernel
theorem d_M_reads_19 : decode b_M_reads 19 = .ok (.bipush 97, 2) := by decide +kernel
theorem d_M_reads_21 : decode b_M_reads 21 = .ok (.bipush 115, 2) := by decide +kernel
theorem d_M_reads_23 : decode b_M_reads 23 = .ok (.invokestatic 158, 3) := by decide +kernel
theorem d_M_reads_26 : decode b_M_reads 26 = .ok (.bipush 115, 2) := by decide +kernel
theorem d_M_reads_28 : decode b_M_reads 28 = .ok (.invokestatic 154, 3) := by decide +kernel
theorem d_M_reads_31 : decode b_M_reads 31 = .ok (.invokevirtual 162, 3) := by decide +kernel
theorem d_M_reads_34 : decode b_M_reads 34 = .ok (.ifCond .ne 5, 3) := by decide +kernel
theorem d_M_reads_37 : decode b_M_reads 37 = .ok (.iconst 2, 1) := by decide +kernel
theorem d_M_reads_38 : decode b_M_reads 38 = .ok (.ireturn, 1) := by decide +kernel
theorem d_M_reads_39 : decode b_M_reads 39 = .ok (.aload_n 0, 1) := by decide +kernel
theorem d_M_reads_40 : decode b_M_reads 40 = .ok (.iconst 2, 1) := by decide +kernel
theorem d_M_reads_41 : decode b_M_reads 41 = .ok (.iconst 0, 1) := by decide +kernel
theorem d_M_reads_42 : decode b_M_reads 42 = .ok (.invokevirtual 174, 3) := by decide +kernel
theorem d_M_reads_45 : decode b_M_reads 45 = .ok (.istore 4, 2) := by decide +kernel
theorem d_M_reads_47 : decode b_M_reads 47 = .ok (.iload 4, 2) := by decide +kernel
theorem d_M_reads_49 : decode b_M_reads 49 = .ok (.ifCond .ne 5, 3) := by decide +kernel
theorem d_M_reads_52 : decode b_M_reads 52 = .ok (.iconst 3, 1) := by decide +kernel
theorem d_M_reads_53 : decode b_M_reads 53 = .ok (.ireturn, 1) := by decide +kernel
theorem d_M_reads_54 : decode b_M_reads 54 = .ok (.aload_n 0, 1) := by decide +kernel
theorem d_M_reads_55 : decode b_M_reads 55 = .ok (.getfield 72, 3) := by decide +kernel
theorem d_M_reads_58 : decode b_M_reads 58 = .ok (.iload_n 1, 1) := by decide +kernel
theorem d_M_reads_59 : decode b_M_reads 59 = .ok (.iload_n 2, 1) := by decide +kernel
theorem d_M_reads_60 : decode b_M_reads 60 = .ok (.iastore, 1) := by decide +kernel
theorem d_M_reads_61 : decode b_M_reads 61 = .ok (.aload_n 0, 1) := by decide +kernel
theorem d_M_reads_62 : decode b_M_reads 62 = .ok (.getfield 75, 3) := by decide +kernel
theorem d_M_reads_65 : decode b_M_reads 65 = .ok (.iload_n 1, 1) := by decide +kernel
theorem d_M_reads_66 : decode b_M_reads 66 = .ok (.aload_n 0, 1) := by decide +kernel
theorem d_M_reads_67 : decode b_M_reads 67 = .ok (.getfield 102, 3) := by decide +kernel
theorem d_M_reads_70 : decode b_M_reads 70 = .ok (.iconst 2, 1) := by decide +kernel
theorem d_M_reads_71 : decode b_M_reads 71 = .ok (.iaload, 1) := by decide +kernel
theorem d_M_reads_72 : decode b_M_reads 72 = .ok (.iastore, 1) := by decide +kernel
theorem d_M_reads_73 : decode b_M_reads 73 = .ok (.aload_n 0, 1) := by decide +kernel
theorem d_M_reads_74 : decode b_M_reads 74 = .ok (.getfield 78, 3) := by decide +kernel
theorem d_M_reads_77 : decode b_M_reads 77 = .ok (.iload_n 1, 1) := by decide +kernel
theorem d_M_reads_78 : decode b_M_reads 78 = .ok (.aload_n 0, 1) := by decide +kernel
theorem d_M_reads_79 : decode b_M_reads 79 = .ok (.getfield 105, 3) := by decide +kernel
theorem d_M_reads_82 : decode b_M_reads 82 = .ok (.iconst 2, 1) := by decide +kernel
theorem d_M_reads_83 : decode b_M_reads 83 = .ok (.iaload, 1) := by decide +kernel
theorem d_M_reads_84 : decode b_M_reads 84 = .ok (.iastore, 1) := by decide +kernel
theorem d_M_reads_85 : decode b_M_reads 85 = .ok (.aload_n 0, 1) := by decide +kernel
theorem d_M_reads_86 : decode b_M_reads 86 = .ok (.getfield 81, 3) := by decide +kernel
theorem d_M_reads_89 : decode b_M_reads 89 = .ok (.iload_n 1, 1) := by decide +kernel
theorem d_M_reads_90 : decode b_M_reads 90 = .ok (.iconst (-1), 1) := by decide +kernel
theorem d_M_reads_91 : decode b_M_reads 91 = .ok (.iastore, 1) := by decide +kernel
theorem d_M_reads_92 : decode b_M_reads 92 = .ok (.aload_n 0, 1) := by decide +kernel
theorem d_M_reads_93 : decode b_M_reads 93 = .ok (.getfield 87, 3) := by decide +kernel
theorem d_M_reads_96 : decode b_M_reads 96 = .ok (.iload_n 1, 1) := by decide +kernel
theorem d_M_reads_97 : decode b_M_reads 97 = .ok (.iconst 0, 1) := by decide +kernel
theorem d_M_reads_98 : decode b_M_reads 98 = .ok (.iastore, 1) := by decide +kernel
theorem d_M_reads_99 : decode b_M_reads 99 = .ok (.aload_n 0, 1) := by decide +kernel
theorem d_M_reads_100 : decode b_M_reads 100 = .ok (.iconst 3, 1) := by decide +kernel
theorem d_M_reads_101 : decode b_M_reads 101 = .ok (.bipush 101, 2) := by decide +kernel
theorem d_M_reads_103 : decode b_M_reads 103 = .ok (.bipush 120, 2) := by decide +kernel
theorem d_M_reads_105 : decode b_M_reads 105 = .ok (.bipush 116, 2) := by decide +kernel
theorem d_M_reads_107 : decode b_M_reads 107 = .ok (.bipush 101, 2) := by decide +kernel
theorem d_M_reads_109 : decode b_M_reads 109 = .ok (.invokestatic 158, 3) := by decide +kernel
theorem d_M_reads_112 : decode b_M_reads 112 = .ok (.bipush 110, 2) := by decide +kernel
theorem d_M_reads_114 : decode b_M_reads 114 = .ok (.invokestatic 154, 3) := by decide +kernel
theorem d_M_reads_117 : decode b_M_reads 117 = .ok (.bipush 100, 2) := by decide +kernel
theorem d_M_reads_119 : decode b_M_reads 119 = .ok (.invokestatic 154, 3) := by decide +kernel
theorem d_M_reads_122 : decode b_M_reads 122 = .ok (.bipush 115, 2) := by decide +kernel
theorem d_M_reads_124 : decode b_M_reads 124 = .ok (.invokestatic 154, 3) := by decide +kernel
theorem d_M_reads_127 : decode b_M_reads 127 = .ok (.invokevirtual 162, 3) := by decide +kernel
theorem d_M_reads_130 : decode b_M_reads 130 = .ok (.ifCond .eq 44, 3) := by decide +kernel
theorem d_M_reads_133 : decode b_M_reads 133 = .ok (.aload_n 0, 1) := by decide +kernel
theorem d_M_reads_134 : decode b_M_reads 134 = .ok (.iconst 4, 1) := by decide +kernel
theorem d_M_reads_135 : decode b_M_reads 135 = .ok (.iconst 0, 1) := by decide +kernel
theorem d_M_reads_136 : decode b_M_reads 136 = .ok (.invokevirtual 174, 3) := by decide +kernel
theorem d_M_reads_139 : decode b_M_reads 139 = .ok (.istore 4, 2) := by decide +kernel
theorem d_M_reads_141 : decode b_M_reads 141 = .ok (.iload 4, 2) := by decide +kernel
theorem d_M_reads_143 : decode b_M_reads 143 = .ok (.ifCond .ne 5, 3) := by decide +kernel
theorem d_M_reads_146 : decode b_M_reads 146 = .ok (.iconst 5, 1) := by decide +kernel
theorem d_M_reads_147 : decode b_M_reads 147 = .ok (.ireturn, 1) := by decide +kernel
theorem d_M_reads_148 : decode b_M_reads 148 = .ok (.aload_n 0, 1) := by decide +kernel
theorem d_M_reads_149 : decode b_M_reads 149 = .ok (.getfield 81, 3) := by decide +kernel
theorem d_M_reads_152 : decode b_M_reads 152 = .ok (.iload_n 1, 1) := by decide +kernel
theorem d_M_reads_153 : decode b_M_reads 153 = .ok (.aload_n 0, 1) := by decide +kernel
theorem d_M_reads_154 : decode b_M_reads 154 = .ok (.getfield 102, 3) := by decide +kernel
theorem d_M_reads_157 : decode b_M_reads 157 = .ok (.iconst 4, 1) := by decide +kernel
theorem d_M_reads_158 : decode b_M_reads 158 = .ok (.iaload, 1) := by decide +kernel
theorem d_M_reads_159 : decode b_M_reads 159 = .ok (.iastore, 1) := by decide +kernel
theorem d_M_reads_160 : decode b_M_reads 160 = .ok (.aload_n 0, 1) := by decide +kernel
theorem d_M_reads_161 : decode b_M_reads 161 = .ok (.getfield 84, 3) := by decide +kernel
theorem d_M_reads_164 : decode b_M_reads 164 = .ok (.iload_n 1, 1) := by decide +kernel
theorem d_M_reads_165 : decode b_M_reads 165 = .ok (.aload_n 0, 1) := by decide +kernel
theorem d_M_reads_166 : decode b_M_reads 166 = .ok (.getfield 105, 3) := by decide +kernel
theorem d_M_reads_169 : decode b_M_reads 169 = .ok (.iconst 4, 1) := by decide +kernel
theorem d_M_reads_170 : decode b_M_reads 170 = .ok (.iaload, 1) := by decide +kernel
theorem d_M_reads_171 : decode b_M_reads 171 = .ok (.iastore, 1) := by decide +kernel
theorem d_M_reads_172 : decode b_M_reads 172 = .ok (.iconst 5, 1) := by decide +kernel
theorem d_M_reads_173 : decode b_M_reads 173 = .ok (.istore_n 3, 1) := by decide +kernel
theorem d_M_reads_174 : decode b_M_reads 174 = .ok (.iload_n 3, 1) := by decide +kernel
theorem d_M_reads_175 : decode b_M_reads 175 = .ok (.aload_n 0, 1) := by decide +kernel
theorem d_M_reads_176 : decode b_M_reads 176 = .ok (.getfield 149, 3) := by decide +kernel
theorem d_M_reads_179 : decode b_M_reads 179 = .ok (.if_icmp .ne 5, 3) := by decide +kernel
theorem d_M_reads_182 : decode b_M_reads 182 = .ok (.iconst 0, 1) := by decide +kernel
theorem d_M_reads_183 : decode b_M_reads 183 = .ok (.ireturn, 1) := by decide +kernel
theorem d_M_reads_184 : decode b_M_reads 184 = .ok (.aload_n 0, 1) := by decide +kernel
theorem d_M_reads_185 : decode b_M_reads 185 = .ok (.iload_n 3, 1) := by decide +kernel
theorem d_M_reads_186 : decode b_M_reads 186 = .ok (.ldc2_w 178, 3) := by decide +kernel
theorem d_M_reads_189 : decode b_M_reads 189 = .ok (.invokevirtual 162, 3) := by decide +kernel
theorem d_M_reads_192 : decode b_M_reads 192 = .ok (.ifCond .ne 7, 3) := by decide +kernel
theorem d_M_reads_195 : decode b_M_reads 195 = .ok (.iload_n 3, 1) := by decide +kernel
theorem d_M_reads_196 : decode b_M_reads 196 = .ok (.iconst 1, 1) := by decide +kernel
theorem d_M_reads_197 : decode b_M_reads 197 = .ok (.iadd, 1) := by decide +kernel
theorem d_M_reads_198 : decode b_M_reads 198 = .ok (.ireturn, 1) := by decide +kernel
theorem d_M_reads_199 : decode b_M_reads 199 = .ok (.iinc 3 1, 3) := by decide +kernel
theorem d_M_reads_202 : decode b_M_reads 202 = .ok (.aload_n 0, 1) := by decide +kernel
theorem d_M_reads_203 : decode b_M_reads 203 = .ok (.getfield 87, 3) := by decide +kernel
theorem d_M_reads_206 : decode b_M_reads 206 = .ok (.iload_n 1, 1) := by decide +kernel
theorem d_M_reads_207 : decode b_M_reads 207 = .ok (.iaload, 1) := by decide +kernel
theorem d_M_reads_208 : decode b_M_reads 208 = .ok (.ifCond .eq 14, 3) := by decide +kernel
theorem d_M_reads_211 : decode b_M_reads 211 = .ok (.aload_n 0, 1) := by decide +kernel
theorem d_M_reads_212 : decode b_M_reads 212 = .ok (.iload_n 3, 1) := by decide +kernel
theorem d_M_reads_213 : decode b_M_reads 213 = .ok (.ldc2_w 180, 3) := by decide +kernel
theorem d_M_reads_216 : decode b_M_reads 216 = .ok (.invokevirtual 162, 3) := by decide +kernel
theorem d_M_reads_219 : decode b_M_reads 219 = .ok (.ifCond .ne 187, 3) := by decide +kernel
theorem d_M_reads_222 : decode b_M_reads 222 = .ok (.bipush 16, 2) := by decide +kernel
theorem d_M_reads_224 : decode b_M_reads 224 = .ok (.iload_n 1, 1) := by decide +kernel
theorem d_M_reads_225 : decode b_M_reads 225 = .ok (.imul, 1) := by decide +kernel
theorem d_M_reads_226 : decode b_M_reads 226 = .ok (.aload_n 0, 1) := by decide +kernel
theorem d_M_reads_227 : decode b_M_reads 227 = .ok (.getfield 87, 3) := by decide +kernel
theorem d_M_reads_230 : decode b_M_reads 230 = .ok (.iload_n 1, 1) := by decide +kernel
theorem d_M_reads_231 : decode b_M_reads 231 = .ok (.iaload, 1) := by decide +kernel
theorem d_M_reads_232 : decode b_M_reads 232 = .ok (.iadd, 1) := by decide +kernel
theorem d_M_reads_233 : decode b_M_reads 233 = .ok (.istore 5, 2) := by decide +kernel
theorem d_M_reads_235 : decode b_M_reads 235 = .ok (.iload_n 3, 1) := by decide +kernel
theorem d_M_reads_236 : decode b_M_reads 236 = .ok (.aload_n 0, 1) := by decide +kernel
theorem d_M_reads_237 : decode b_M_reads 237 = .ok (.getfield 149, 3) := by decide +kernel
theorem d_M_reads_240 : decode b_M_reads 240 = .ok (.if_icmp .ge 34, 3) := by decide +kernel
theorem d_M_reads_243 : decode b_M_reads 243 = .ok (.aload_n 0, 1) := by decide +kernel
theorem d_M_reads_244 : decode b_M_reads 244 = .ok (.getfield 105, 3) := by decide +kernel
theorem d_M_reads_247 : decode b_M_reads 247 = .ok (.iload_n 3, 1) := by decide +kernel
theorem d_M_reads_248 : decode b_M_reads 248 = .ok (.iaload, 1) := by decide +kernel
theorem d_M_reads_249 : decode b_M_reads 249 = .ok (.aload_n 0, 1) := by decide +kernel
theorem d_M_reads_250 : decode b_M_reads 250 = .ok (.getfield 102, 3) := by decide +kernel
theorem d_M_reads_253 : decode b_M_reads 253 = .ok (.iload_n 3, 1) := by decide +kernel
theorem d_M_reads_254 : decode b_M_reads 254 = .ok (.iaload, 1) := by decide +kernel
theorem d_M_reads_255 : decode b_M_reads 255 = .ok (.isub, 1) := by decide +kernel
theorem d_M_reads_256 : decode b_M_reads 256 = .ok (.iconst 1, 1) := by decide +kernel
theorem d_M_reads_257 : decode b_M_reads 257 = .ok (.if_icmp .ne 17, 3) := by decide +kernel
theorem d_M_reads_260 : decode b_M_reads 260 = .ok (.aload_n 0, 1) := by decide +kernel
theorem d_M_reads_261 : decode b_M_reads 261 = .ok (.getfield 66, 3) := by decide +kernel
theorem d_M_reads_264 : decode b_M_reads 264 = .ok (.aload_n 0, 1) := by decide +kernel
theorem d_M_reads_265 : decode b_M_reads 265 = .ok (.getfield 102, 3) := by decide +kernel
theorem d_M_reads_268 : decode b_M_reads 268 = .ok (.iload_n 3, 1) := by decide +kernel
theorem d_M_reads_269 : decode b_M_reads 269 = .ok (.iaload, 1) := by decide +kernel
theorem d_M_reads_270 : decode b_M_reads 270 = .ok (.iaload, 1) := by decide +kernel
theorem d_M_reads_271 : decode b_M_reads 271 = .ok (.goto 4, 3) := by decide +kernel
theorem d_M_reads_274 : decode b_M_reads 274 = .ok (.iconst 0, 1) := by decide +kernel
theorem d_M_reads_275 : decode b_M_reads 275 = .ok (.istore 6, 2) := by decide +kernel
theorem d_M_reads_277 : decode b_M_reads 277 = .ok (.iload 6, 2) := by decide +kernel
theorem d_M_reads_279 : decode b_M_reads 279 = .ok (.bipush 102, 2) := by decide +kernel
theorem d_M_reads_281 : decode b_M_reads 281 = .ok (.if_icmp .eq 21, 3) := by decide +kernel
theorem d_M_reads_284 : decode b_M_reads 284 = .ok (.iload 6, 2) := by decide +kernel
theorem d_M_reads_286 : decode b_M_reads 286 = .ok (.bipush 109, 2) := by decide +kernel
theorem d_M_reads_288 : decode b_M_reads 288 = .ok (.if_icmp .eq 14, 3) := by decide +kernel
theorem d_M_reads_291 : decode b_M_reads 291 = .ok (.iload 6, 2) := by decide +kernel
theorem d_M_reads_293 : decode b_M_reads 293 = .ok (.bipush 120, 2) := by decide +kernel
theorem d_M_reads_295 : decode b_M_reads 295 = .ok (.if_icmp .eq 7, 3) := by decide +kernel
theorem d_M_reads_298 : decode b_M_reads 298 = .ok (.iload_n 3, 1) := by decide +kernel
theorem d_M_reads_299 : decode b_M_reads 299 = .ok (.iconst 1, 1) := by decide +kernel
theorem d_M_reads_300 : decode b_M_reads 300 = .ok (.iadd, 1) := by decide +kernel
theorem d_M_reads_301 : decode b_M_reads 301 = .ok (.ireturn, 1) := by decide +kernel
theorem d_M_reads_302 : decode b_M_reads 302 = .ok (.aload_n 0, 1) := by decide +kernel
theorem d_M_reads_303 : decode b_M_reads 303 = .ok (.iload_n 3, 1) := by decide +kernel
theorem d_M_reads_304 : decode b_M_reads 304 = .ok (.iconst 1, 1) := by decide +kernel
theorem d_M_reads_305 : decode b_M_reads 305 = .ok (.iadd, 1) := by decide +kernel
theorem d_M_reads_306 : decode b_M_reads 306 = .ok (.iconst 1, 1) := by decide +kernel
theorem d_M_reads_307 : decode b_M_reads 307 = .ok (.invokevirtual 174, 3) := by decide +kernel
theorem d_M_reads_310 : decode b_M_reads 310 = .ok (.ifCond .eq 27, 3) := by decide +kernel
theorem d_M_reads_313 : decode b_M_reads 313 = .ok (.aload_n 0, 1) := by decide +kernel
theorem d_M_reads_314 : decode b_M_reads 314 = .ok (.getfield 66, 3) := by decide +kernel
theorem d_M_reads_317 : decode b_M_reads 317 = .ok (.aload_n 0, 1) := by decide +kernel
theorem d_M_reads_318 : decode b_M_reads 318 = .ok (.getfield 105, 3) := by decide +kernel
theorem d_M_reads_321 : decode b_M_reads 321 = .ok (.iload_n 3, 1) := by decide +kernel
theorem d_M_reads_322 : decode b_M_reads 322 = .ok (.iconst 1, 1) := by decide +kernel
theorem d_M_reads_323 : decode b_M_reads 323 = .ok (.iadd, 1) := by decide +kernel
theorem d_M_reads_324 : decode b_M_reads 324 = .ok (.iaload, 1) := by decide +kernel
theorem d_M_reads_325 : decode b_M_reads 325 = .ok (.iconst 1, 1) := by decide +kernel
theorem d_M_reads_326 : decode b_M_reads 326 = .ok (.isub, 1) := by decide +kernel
theorem d_M_reads_327 : decode b_M_reads 327 = .ok (.iaload, 1) := by decide +kernel
theorem d_M_reads_328 : decode b_M_reads 328 = .ok (.bipush 59, 2) := by decide +kernel
theorem d_M_reads_330 : decode b_M_reads 330 = .ok (.if_icmp .ne 7, 3) := by decide +kernel
theorem d_M_reads_333 : decode b_M_reads 333 = .ok (.iconst 1, 1) := by decide +kernel
theorem d_M_reads_334 : decode b_M_reads 334 = .ok (.goto 4, 3) := by decide +kernel
theorem d_M_reads_337 : decode b_M_reads 337 = .ok (.iconst 0, 1) := by decide +kernel
theorem d_M_reads_338 : decode b_M_reads 338 = .ok (.istore 4, 2) := by decide +kernel
theorem d_M_reads_340 : decode b_M_reads 340 = .ok (.iload 4, 2) := by decide +kernel
theorem d_M_reads_342 : decode b_M_reads 342 = .ok (.ifCond .ne 7, 3) := by decide +kernel
theorem d_M_reads_345 : decode b_M_reads 345 = .ok (.iload_n 3, 1) := by decide +kernel
theorem d_M_reads_346 : decode b_M_reads 346 = .ok (.iconst 2, 1) := by decide +kernel
theorem d_M_reads_347 : decode b_M_reads 347 = .ok (.iadd, 1) := by decide +kernel
theorem d_M_reads_348 : decode b_M_reads 348 = .ok (.ireturn, 1) := by decide +kernel
theorem d_M_reads_349 : decode b_M_reads 349 = .ok (.aload_n 0, 1) := by decide +kernel
theorem d_M_reads_350 : decode b_M_reads 350 = .ok (.getfield 90, 3) := by decide +kernel
theorem d_M_reads_353 : decode b_M_reads 353 = .ok (.iload 5, 2) := by decide +kernel
theorem d_M_reads_355 : decode b_M_reads 355 = .ok (.iload 6, 2) := by decide +kernel
theorem d_M_reads_357 : decode b_M_reads 357 = .ok (.iastore, 1) := by decide +kernel
theorem d_M_reads_358 : decode b_M_reads 358 = .ok (.aload_n 0, 1) := by decide +kernel
theorem d_M_reads_359 : decode b_M_reads 359 = .ok (.getfield 93, 3) := by decide +kernel
theorem d_M_reads_362 : decode b_M_reads 362 = .ok (.iload 5, 2) := by decide +kernel
theorem d_M_reads_364 : decode b_M_reads 364 = .ok (.aload_n 0, 1) := by decide +kernel
theorem d_M_reads_365 : decode b_M_reads 365 = .ok (.getfield 102, 3) := by decide +kernel
theorem d_M_reads_368 : decode b_M_reads 368 = .ok (.iload_n 3, 1) := by decide +kernel
theorem d_M_reads_369 : decode b_M_reads 369 = .ok (.iconst 1, 1) := by decide +kernel
theorem d_M_reads_370 : decode b_M_reads 370 = .ok (.iadd, 1) := by decide +kernel
theorem d_M_reads_371 : decode b_M_reads 371 = .ok (.iaload, 1) := by decide +kernel
theorem d_M_reads_372 : decode b_M_reads 372 = .ok (.iastore, 1) := by decide +kernel
theorem d_M_reads_373 : decode b_M_reads 373 = .ok (.aload_n 0, 1) := by decide +kernel
theorem d_M_reads_374 : decode b_M_reads 374 = .ok (.getfield 96, 3) := by decide +kernel
theorem d_M_reads_377 : decode b_M_reads 377 = .ok (.iload 5, 2) := by decide +kernel
theorem d_M_reads_379 : decode b_M_reads 379 = .ok (.aload_n 0, 1) := by decide +kernel
theorem d_M_reads_380 : decode b_M_reads 380 = .ok (.getfield 105, 3) := by decide +kernel
theorem d_M_reads_383 : decode b_M_reads 383 = .ok (.iload_n 3, 1) := by decide +kernel
theorem d_M_reads_384 : decode b_M_reads 384 = .ok (.iconst 1, 1) := by decide +kernel
theorem d_M_reads_385 : decode b_M_reads 385 = .ok (.iadd, 1) := by decide +kernel
theorem d_M_reads_386 : decode b_M_reads 386 = .ok (.iaload, 1) := by decide +kernel
theorem d_M_reads_387 : decode b_M_reads 387 = .ok (.iconst 1, 1) := by decide +kernel
theorem d_M_reads_388 : decode b_M_reads 388 = .ok (.isub, 1) := by decide +kernel
theorem d_M_reads_389 : decode b_M_reads 389 = .ok (.iastore, 1) := by decide +kernel
theorem d_M_reads_390 : decode b_M_reads 390 = .ok (.aload_n 0, 1) := by decide +kernel
theorem d_M_reads_391 : decode b_M_reads 391 = .ok (.getfield 87, 3) := by decide +kernel
theorem d_M_reads_394 : decode b_M_reads 394 = .ok (.iload_n 1, 1) := by decide +kernel
theorem d_M_reads_395 : decode b_M_reads 395 = .ok (.dup2, 1) := by decide +kernel
theorem d_M_reads_396 : decode b_M_reads 396 = .ok (.iaload, 1) := by decide +kernel
theorem d_M_reads_397 : decode b_M_reads 397 = .ok (.iconst 1, 1) := by decide +kernel
theorem d_M_reads_398 : decode b_M_reads 398 = .ok (.iadd, 1) := by decide +kernel
theorem d_M_reads_399 : decode b_M_reads 399 = .ok (.iastore, 1) := by decide +kernel
theorem d_M_reads_400 : decode b_M_reads 400 = .ok (.iinc 3 2, 3) := by decide +kernel
theorem d_M_reads_403 : decode b_M_reads 403 = .ok (.goto (-201), 3) := by decide +kernel
theorem d_M_reads_406 : decode b_M_reads 406 = .ok (.iload_n 3, 1) := by decide +kernel
theorem d_M_reads_407 : decode b_M_reads 407 = .ok (.iconst 1, 1) := by decide +kernel
theorem d_M_reads_408 : decode b_M_reads 408 = .ok (.iadd, 1) := by decide +kernel
theorem d_M_reads_409 : decode b_M_reads 409 = .ok (.aload_n 0, 1) := by decide +kernel
theorem d_M_reads_410 : decode b_M_reads 410 = .ok (.getfield 149, 3) := by decide +kernel
theorem d_M_reads_413 : decode b_M_reads 413 = .ok (.if_icmp .ne 7, 3) := by decide +kernel
theorem d_M_reads_416 : decode b_M_reads 416 = .ok (.iconst 0, 1) := by decide +kernel
theorem d_M_reads_417 : decode b_M_reads 417 = .ok (.goto 6, 3) := by decide +kernel
theorem d_M_reads_420 : decode b_M_reads 420 = .ok (.iload_n 3, 1) := by decide +kernel
theorem d_M_reads_421 : decode b_M_reads 421 = .ok (.iconst 2, 1) := by decide +kernel
theorem d_M_reads_422 : decode b_M_reads 422 = .ok (.iadd, 1) := by decide +kernel
theorem d_M_reads_423 : decode b_M_reads 423 = .ok (.ireturn, 1) := by decide +kernel
theorem d_M_readsFull_0 : decode b_M_readsFull 0 = .ok (.aload_n 0, 1) := by decide +kernel
theorem d_M_readsFull_1 : decode b_M_readsFull 1 = .ok (.getfield 72, 3) := by decide +kernel
theorem d_M_readsFull_4 : decode b_M_readsFull 4 = .ok (.bipush 7, 2) := by decide +kernel
theorem d_M_readsFull_6 : decode b_M_readsFull 6 = .ok (.iaload, 1) := by decide +kernel
theorem d_M_readsFull_7 : decode b_M_readsFull 7 = .ok (.istore_n 1, 1) := by decide +kernel
theorem d_M_readsFull_8 : decode b_M_readsFull 8 = .ok (.aload_n 0, 1) := by decide +kernel
theorem d_M_readsFull_9 : decode b_M_readsFull 9 = .ok (.getfield 75, 3) := by decide +kernel
theorem d_M_readsFull_12 : decode b_M_readsFull 12 = .ok (.bipush 7, 2) := by decide +kernel
theorem d_M_readsFull_14 : decode b_M_readsFull 14 = .ok (.iaload, 1) := by decide +kernel
theorem d_M_readsFull_15 : decode b_M_readsFull 15 = .ok (.istore_n 2, 1) := by decide +kernel
theorem d_M_readsFull_16 : decode b_M_readsFull 16 = .ok (.aload_n 0, 1) := by decide +kernel
theorem d_M_readsFull_17 : decode b_M_readsFull 17 = .ok (.getfield 78, 3) := by decide +kernel
theorem d_M_readsFull_20 : decode b_M_readsFull 20 = .ok (.bipush 7, 2) := by decide +kernel
theorem d_M_readsFull_22 : decode b_M_readsFull 22 = .ok (.iaload, 1) := by decide +kernel
theorem d_M_readsFull_23 : decode b_M_readsFull 23 = .ok (.istore_n 3, 1) := by decide +kernel
theorem d_M_readsFull_24 : decode b_M_readsFull 24 = .ok (.aload_n 0, 1) := by decide +kernel
theorem d_M_readsFull_25 : decode b_M_readsFull 25 = .ok (.getfield 81, 3) := by decide +kernel
theorem d_M_readsFull_28 : decode b_M_readsFull 28 = .ok (.bipush 7, 2) := by decide +kernel
theorem d_M_readsFull_30 : decode b_M_readsFull 30 = .ok (.iaload, 1) := by decide +kernel
theorem d_M_readsFull_31 : decode b_M_readsFull 31 = .ok (.istore 4, 2) := by decide +kernel
theorem d_M_readsFull_33 : decode b_M_readsFull 33 = .ok (.aload_n 0, 1) := by decide +kernel
theorem d_M_readsFull_34 : decode b_M_readsFull 34 = .ok (.getfield 84, 3) := by decide +kernel
theorem d_M_readsFull_37 : decode b_M_readsFull 37 = .ok (.bipush 7, 2) := by decide +kernel
theorem d_M_readsFull_39 : decode b_M_readsFull 39 = .ok (.iaload, 1) := by decide +kernel
theorem d_M_readsFull_40 : decode b_M_readsFull 40 = .ok (.istore 5, 2) := by decide +kernel
theorem d_M_readsFull_42 : decode b_M_readsFull 42 = .ok (.aload_n 0, 1) := by decide +kernel
theorem d_M_readsFull_43 : decode b_M_readsFull 43 = .ok (.getfield 87, 3) := by decide +kernel
theorem d_M_readsFull_46 : decode b_M_readsFull 46 = .ok (.bipush 7, 2) := by decide +kernel
theorem d_M_readsFull_48 : decode b_M_readsFull 48 = .ok (.iaload, 1) := by decide +kernel
theorem d_M_readsFull_49 : decode b_M_readsFull 49 = .ok (.istore 6, 2) := by decide +kernel
theorem d_M_readsFull_51 : decode b_M_readsFull 51 = .ok (.iconst 0, 1) := by decide +kernel
theorem d_M_readsFull_52 : decode b_M_readsFull 52 = .ok (.istore 7, 2) := by decide +kernel
theorem d_M_readsFull_54 : decode b_M_readsFull 54 = .ok (.iload 7, 2) := by decide +kernel
theorem d_M_readsFull_56 : decode b_M_readsFull 56 = .ok (.bipush 16, 2) := by decide +kernel
theorem d_M_readsFull_58 : decode b_M_readsFull 58 = .ok (.if_icmp .ge 70, 3) := by decide +kernel
theorem d_M_readsFull_61 : decode b_M_readsFull 61 = .ok (.aload_n 0, 1) := by decide +kernel
theorem d_M_readsFull_62 : decode b_M_readsFull 62 = .ok (.getfield 99, 3) := by decide +kernel
theorem d_M_readsFull_65 : decode b_M_readsFull 65 = .ok (.iconst 3, 1) := by decide +kernel
theorem d_M_readsFull_66 : decode b_M_readsFull 66 = .ok (.iload 7, 2) := by decide +kernel
theorem d_M_readsFull_68 : decode b_M_readsFull 68 = .ok (.imul, 1) := by decide +kernel
theorem d_M_readsFull_69 : decode b_M_readsFull 69 = .ok (.aload_n 0, 1) := by decide +kernel
theorem d_M_readsFull_70 : decode b_M_readsFull 70 = .ok (.getfield 90, 3) := by decide +kernel
theorem d_M_readsFull_73 : decode b_M_readsFull 73 = .ok (.bipush 112, 2) := by decide +kernel
theorem d_M_readsFull_75 : decode b_M_readsFull 75 = .ok (.iload 7, 2) := by decide +kernel
theorem d_M_readsFull_77 : decode b_M_readsFull 77 = .ok (.iadd, 1) := by decide +kernel
theorem d_M_readsFull_78 : decode b_M_readsFull 78 = .ok (.iaload, 1) := by decide +kernel
theorem d_M_readsFull_79 : decode b_M_readsFull 79 = .ok (.iastore, 1) := by decide +kernel
theorem d_M_readsFull_80 : decode b_M_readsFull 80 = .ok (.aload_n 0, 1) := by decide +kernel
theorem d_M_readsFull_81 : decode b_M_readsFull 81 = .ok (.getfield 99, 3) := by decide +kernel
theorem d_M_readsFull_84 : decode b_M_readsFull 84 = .ok (.iconst 3, 1) := by decide +kernel
theorem d_M_readsFull_85 : decode b_M_readsFull 85 = .ok (.iload 7, 2) := by decide +kernel
theorem d_M_readsFull_87 : decode b_M_readsFull 87 = .ok (.imul, 1) := by decide +kernel
theorem d_M_readsFull_88 : decode b_M_readsFull 88 = .ok (.iconst 1, 1) := by decide +kernel
theorem d_M_readsFull_89 : decode b_M_readsFull 89 = .ok (.iadd, 1) := by decide +kernel
theorem d_M_readsFull_90 : decode b_M_readsFull 90 = .ok (.aload_n 0, 1) := by decide +kernel
theorem d_M_readsFull_91 : decode b_M_readsFull 91 = .ok (.getfield 93, 3) := by decide +kernel
theorem d_M_readsFull_94 : decode b_M_readsFull 94 = .ok (.bipush 112, 2) := by decide +kernel
theorem d_M_readsFull_96 : decode b_M_readsFull 96 = .ok (.iload 7, 2) := by decide +kernel
theorem d_M_readsFull_98 : decode b_M_readsFull 98 = .ok (.iadd, 1) := by decide +kernel
theorem d_M_readsFull_99 : decode b_M_readsFull 99 = .ok (.iaload, 1) := by decide +kernel
theorem d_M_readsFull_100 : decode b_M_readsFull 100 = .ok (.iastore, 1) := by decide +kernel
theorem d_M_readsFull_101 : decode b_M_readsFull 101 = .ok (.aload_n 0, 1) := by decide +kernel
theorem d_M_readsFull_102 : decode b_M_readsFull 102 = .ok (.getfield 99, 3) := by decide +kernel
theorem d_M_readsFull_105 : decode b_M_readsFull 105 = .ok (.iconst 3, 1) := by decide +kernel
theorem d_M_readsFull_106 : decode b_M_readsFull 106 = .ok (.iload 7, 2) := by decide +kernel
theorem d_M_readsFull_108 : decode b_M_readsFull 108 = .ok (.imul, 1) := by decide +kernel
theorem d_M_readsFull_109 : decode b_M_readsFull 109 = .ok (.iconst 2, 1) := by decide +kernel
theorem d_M_readsFull_110 : decode b_M_readsFull 110 = .ok (.iadd, 1) := by decide +kernel
theorem d_M_readsFull_111 : decode b_M_readsFull 111 = .ok (.aload_n 0, 1) := by decide +kernel
theorem d_M_readsFull_112 : decode b_M_readsFull 112 = .ok (.getfield 96, 3) := by decide +kernel
theorem d_M_readsFull_115 : decode b_M_readsFull 115 = .ok (.bipush 112, 2) := by decide +kernel
theorem d_M_readsFull_117 : decode b_M_readsFull 117 = .ok (.iload 7, 2) := by decide +kernel
theorem d_M_readsFull_119 : decode b_M_readsFull 119 = .ok (.iadd, 1) := by decide +kernel
theorem d_M_readsFull_120 : decode b_M_readsFull 120 = .ok (.iaload, 1) := by decide +kernel
theorem d_M_readsFull_121 : decode b_M_readsFull 121 = .ok (.iastore, 1) := by decide +kernel
theorem d_M_readsFull_122 : decode b_M_readsFull 122 = .ok (.iinc 7 1, 3) := by decide +kernel
theorem d_M_readsFull_125 : decode b_M_readsFull 125 = .ok (.goto (-71), 3) := by decide +kernel
theorem d_M_readsFull_128 : decode b_M_readsFull 128 = .ok (.aload_n 0, 1) := by decide +kernel
theorem d_M_readsFull_129 : decode b_M_readsFull 129 = .ok (.bipush 7, 2) := by decide +kernel
theorem d_M_readsFull_131 : decode b_M_readsFull 131 = .ok (.invokevirtual 188, 3) := by decide +kernel
theorem d_M_readsFull_134 : decode b_M_readsFull 134 = .ok (.istore 7, 2) := by decide +kernel
theorem d_M_readsFull_136 : decode b_M_readsFull 136 = .ok (.aload_n 0, 1) := by decide +kernel
theorem d_M_readsFull_137 : decode b_M_readsFull 137 = .ok (.getfield 72, 3) := by decide +kernel
theorem d_M_readsFull_140 : decode b_M_readsFull 140 = .ok (.bipush 7, 2) := by decide +kernel
theorem d_M_readsFull_142 : decode b_M_readsFull 142 = .ok (.iload_n 1, 1) := by decide +kernel
theorem d_M_readsFull_143 : decode b_M_readsFull 143 = .ok (.iastore, 1) := by decide +kernel
theorem d_M_readsFull_144 : decode b_M_readsFull 144 = .ok (.aload_n 0, 1) := by decide +kernel
theorem d_M_readsFull_145 : decode b_M_readsFull 145 = .ok (.getfield 75, 3) := by decide +kernel
theorem d_M_readsFull_148 : decode b_M_readsFull 148 = .ok (.bipush 7, 2) := by decide +kernel
theorem d_M_readsFull_150 : decode b_M_readsFull 150 = .ok (.iload_n 2, 1) := by decide +kernel
theorem d_M_readsFull_151 : decode b_M_readsFull 151 = .ok (.iastore, 1) := by decide +kernel
theorem d_M_readsFull_152 : decode b_M_readsFull 152 = .ok (.aload_n 0, 1) := by decide +kernel
theorem d_M_readsFull_153 : decode b_M_readsFull 153 = .ok (.getfield 78, 3) := by decide +kernel
theorem d_M_readsFull_156 : decode b_M_readsFull 156 = .ok (.bipush 7, 2) := by decide +kernel
theorem d_M_readsFull_158 : decode b_M_readsFull 158 = .ok (.iload_n 3, 1) := by decide +kernel
theorem d_M_readsFull_159 : decode b_M_readsFull 159 = .ok (.iastore, 1) := by decide +kernel
theorem d_M_readsFull_160 : decode b_M_readsFull 160 = .ok (.aload_n 0, 1) := by decide +kernel
theorem d_M_readsFull_161 : decode b_M_readsFull 161 = .ok (.getfield 81, 3) := by decide +kernel
theorem d_M_readsFull_164 : decode b_M_readsFull 164 = .ok (.bipush 7, 2) := by decide +kernel
theorem d_M_readsFull_166 : decode b_M_readsFull 166 = .ok (.iload 4, 2) := by decide +kernel
theorem d_M_readsFull_168 : decode b_M_readsFull 168 = .ok (.iastore, 1) := by decide +kernel
theorem d_M_readsFull_169 : decode b_M_readsFull 169 = .ok (.aload_n 0, 1) := by decide +kernel
theorem d_M_readsFull_170 : decode b_M_readsFull 170 = .ok (.getfield 84, 3) := by decide +kernel
theorem d_M_readsFull_173 : decode b_M_readsFull 173 = .ok (.bipush 7, 2) := by decide +kernel
theorem d_M_readsFull_175 : decode b_M_readsFull 175 = .ok (.iload 5, 2) := by decide +kernel
theorem d_M_readsFull_177 : decode b_M_readsFull 177 = .ok (.iastore, 1) := by decide +kernel
theorem d_M_readsFull_178 : decode b_M_readsFull 178 = .ok (.aload_n 0, 1) := by decide +kernel
theorem d_M_readsFull_179 : decode b_M_readsFull 179 = .ok (.getfield 87, 3) := by decide +kernel
theorem d_M_readsFull_182 : decode b_M_readsFull 182 = .ok (.bipush 7, 2) := by decide +kernel
theorem d_M_readsFull_184 : decode b_M_readsFull 184 = .ok (.iload 6, 2) := by decide +kernel
theorem d_M_readsFull_186 : decode b_M_readsFull 186 = .ok (.iastore, 1) := by decide +kernel
theorem d_M_readsFull_187 : decode b_M_readsFull 187 = .ok (.iconst 0, 1) := by decide +kernel
theorem d_M_readsFull_188 : decode b_M_readsFull 188 = .ok (.istore 8, 2) := by decide +kernel
theorem d_M_readsFull_190 : decode b_M_readsFull 190 = .ok (.iload 8, 2) := by decide +kernel
theorem d_M_readsFull_192 : decode b_M_readsFull 192 = .ok (.bipush 16, 2) := by decide +kernel
theorem d_M_readsFull_194 : decode b_M_readsFull 194 = .ok (.if_icmp .ge 70, 3) := by decide +kernel
theorem d_M_readsFull_197 : decode b_M_readsFull 197 = .ok (.aload_n 0, 1) := by decide +kernel
theorem d_M_readsFull_198 : decode b_M_readsFull 198 = .ok (.getfield 90, 3) := by decide +kernel
theorem d_M_readsFull_201 : decode b_M_readsFull 201 = .ok (.bipush 112, 2) := by decide +kernel
theorem d_M_readsFull_203 : decode b_M_readsFull 203 = .ok (.iload 8, 2) := by decide +kernel
theorem d_M_readsFull_205 : decode b_M_readsFull 205 = .ok (.iadd, 1) := by decide +kernel
theorem d_M_readsFull_206 : decode b_M_readsFull 206 = .ok (.aload_n 0, 1) := by decide +kernel
theorem d_M_readsFull_207 : decode b_M_readsFull 207 = .ok (.getfield 99, 3) := by decide +kernel
theorem d_M_readsFull_210 : decode b_M_readsFull 210 = .ok (.iconst 3, 1) := by decide +kernel
theorem d_M_readsFull_211 : decode b_M_readsFull 211 = .ok (.iload 8, 2) := by decide +kernel
theorem d_M_readsFull_213 : decode b_M_readsFull 213 = .ok (.imul, 1) := by decide +kernel
theorem d_M_readsFull_214 : decode b_M_readsFull 214 = .ok (.iaload, 1) := by decide +kernel
theorem d_M_readsFull_215 : decode b_M_readsFull 215 = .ok (.iastore, 1) := by decide +kernel
theorem d_M_readsFull_216 : decode b_M_readsFull 216 = .ok (.aload_n 0, 1) := by decide +kernel
theorem d_M_readsFull_217 : decode b_M_readsFull 217 = .ok (.getfield 93, 3) := by decide +kernel
theorem d_M_readsFull_220 : decode b_M_readsFull 220 = .ok (.bipush 112, 2) := by decide +kernel
theorem d_M_readsFull_222 : decode b_M_readsFull 222 = .ok (.iload 8, 2) := by decide +kernel
theorem d_M_readsFull_224 : decode b_M_readsFull 224 = .ok (.iadd, 1) := by decide +kernel
theorem d_M_readsFull_225 : decode b_M_readsFull 225 = .ok (.aload_n 0, 1) := by decide +kernel
theorem d_M_readsFull_226 : decode b_M_readsFull 226 = .ok (.getfield 99, 3) := by decide +kernel
theorem d_M_readsFull_229 : decode b_M_readsFull 229 = .ok (.iconst 3, 1) := by decide +kernel
theorem d_M_readsFull_230 : decode b_M_readsFull 230 = .ok (.iload 8, 2) := by decide +kernel
theorem d_M_readsFull_232 : decode b_M_readsFull 232 = .ok (.imul, 1) := by decide +kernel
theorem d_M_readsFull_233 : decode b_M_readsFull 233 = .ok (.iconst 1, 1) := by decide +kernel
theorem d_M_readsFull_234 : decode b_M_readsFull 234 = .ok (.iadd, 1) := by decide +kernel
theorem d_M_readsFull_235 : decode b_M_readsFull 235 = .ok (.iaload, 1) := by decide +kernel
theorem d_M_readsFull_236 : decode b_M_readsFull 236 = .ok (.iastore, 1) := by decide +kernel
theorem d_M_readsFull_237 : decode b_M_readsFull 237 = .ok (.aload_n 0, 1) := by decide +kernel
theorem d_M_readsFull_238 : decode b_M_readsFull 238 = .ok (.getfield 96, 3) := by decide +kernel
theorem d_M_readsFull_241 : decode b_M_readsFull 241 = .ok (.bipush 112, 2) := by decide +kernel
theorem d_M_readsFull_243 : decode b_M_readsFull 243 = .ok (.iload 8, 2) := by decide +kernel
theorem d_M_readsFull_245 : decode b_M_readsFull 245 = .ok (.iadd, 1) := by decide +kernel
theorem d_M_readsFull_246 : decode b_M_readsFull 246 = .ok (.aload_n 0, 1) := by decide +kernel
theorem d_M_readsFull_247 : decode b_M_readsFull 247 = .ok (.getfield 99, 3) := by decide +kernel
theorem d_M_readsFull_250 : decode b_M_readsFull 250 = .ok (.iconst 3, 1) := by decide +kernel
theorem d_M_readsFull_251 : decode b_M_readsFull 251 = .ok (.iload 8, 2) := by decide +kernel
theorem d_M_readsFull_253 : decode b_M_readsFull 253 = .ok (.imul, 1) := by decide +kernel
theorem d_M_readsFull_254 : decode b_M_readsFull 254 = .ok (.iconst 2, 1) := by decide +kernel
theorem d_M_readsFull_255 : decode b_M_readsFull 255 = .ok (.iadd, 1) := by decide +kernel
theorem d_M_readsFull_256 : decode b_M_readsFull 256 = .ok (.iaload, 1) := by decide +kernel
theorem d_M_readsFull_257 : decode b_M_readsFull 257 = .ok (.iastore, 1) := by decide +kernel
theorem d_M_readsFull_258 : decode b_M_readsFull 258 = .ok (.iinc 8 1, 3) := by decide +kernel
theorem d_M_readsFull_261 : decode b_M_readsFull 261 = .ok (.goto (-71), 3) := by decide +kernel
theorem d_M_readsFull_264 : decode b_M_readsFull 264 = .ok (.iload 7, 2) := by decide +kernel
theorem d_M_readsFull_266 : decode b_M_readsFull 266 = .ok (.ireturn, 1) := by decide +kernel
theorem d_M_rule_0 : decode b_M_rule 0 = .ok (.aload_n 0, 1) := by decide +kernel
theorem d_M_rule_1 : decode b_M_rule 1 = .ok (.invokevirtual 182, 3) := by decide +kernel
theorem d_M_rule_4 : decode b_M_rule 4 = .ok (.aload_n 0, 1) := by decide +kernel
theorem d_M_rule_5 : decode b_M_rule 5 = .ok (.getfield 185, 3) := by decide +kernel
theorem d_M_rule_8 : decode b_M_rule 8 = .ok (.bipush 8, 2) := by decide +kernel
theorem d_M_rule_10 : decode b_M_rule 10 = .ok (.if_icmp .ge 10, 3) := by decide +kernel
theorem d_M_rule_13 : decode b_M_rule 13 = .ok (.aload_n 0, 1) := by decide +kernel
theorem d_M_rule_14 : decode b_M_rule 14 = .ok (.getfield 185, 3) := by decide +kernel
theorem d_M_rule_17 : decode b_M_rule 17 = .ok (.goto 5, 3) := by decide +kernel
theorem d_M_rule_20 : decode b_M_rule 20 = .ok (.bipush 7, 2) := by decide +kernel
theorem d_M_rule_22 : decode b_M_rule 22 = .ok (.istore_n 1, 1) := by decide +kernel
theorem d_M_rule_23 : decode b_M_rule 23 = .ok (.aload_n 0, 1) := by decide +kernel
theorem d_M_rule_24 : decode b_M_rule 24 = .ok (.getfield 185, 3) := by decide +kernel
theorem d_M_rule_27 : decode b_M_rule 27 = .ok (.bipush 8, 2) := by decide +kernel
theorem d_M_rule_29 : decode b_M_rule 29 = .ok (.if_icmp .ge 11, 3) := by decide +kernel
theorem d_M_rule_32 : decode b_M_rule 32 = .ok (.aload_n 0, 1) := by decide +kernel
theorem d_M_rule_33 : decode b_M_rule 33 = .ok (.iload_n 1, 1) := by decide +kernel
theorem d_M_rule_34 : decode b_M_rule 34 = .ok (.invokevirtual 188, 3) := by decide +kernel
theorem d_M_rule_37 : decode b_M_rule 37 = .ok (.goto 7, 3) := by decide +kernel
theorem d_M_rule_40 : decode b_M_rule 40 = .ok (.aload_n 0, 1) := by decide +kernel
theorem d_M_rule_41 : decode b_M_rule 41 = .ok (.invokevirtual 192, 3) := by decide +kernel
theorem d_M_rule_44 : decode b_M_rule 44 = .ok (.istore_n 2, 1) := by decide +kernel
theorem d_M_rule_45 : decode b_M_rule 45 = .ok (.aload_n 0, 1) := by decide +kernel
theorem d_M_rule_46 : decode b_M_rule 46 = .ok (.getfield 146, 3) := by decide +kernel
theorem d_M_rule_49 : decode b_M_rule 49 = .ok (.istore_n 3, 1) := by decide +kernel
theorem d_M_rule_50 : decode b_M_rule 50 = .ok (.aload_n 0, 1) := by decide +kernel
theorem d_M_rule_51 : decode b_M_rule 51 = .ok (.iconst 0, 1) := by decide +kernel
theorem d_M_rule_52 : decode b_M_rule 52 = .ok (.putfield 146, 3) := by decide +kernel
theorem d_M_rule_55 : decode b_M_rule 55 = .ok (.iload_n 2, 1) := by decide +kernel
theorem d_M_rule_56 : decode b_M_rule 56 = .ok (.ifCond .le 8, 3) := by decide +kernel
theorem d_M_rule_59 : decode b_M_rule 59 = .ok (.bipush (-10), 2) := by decide +kernel
theorem d_M_rule_61 : decode b_M_rule 61 = .ok (.iload_n 2, 1) := by decide +kernel
theorem d_M_rule_62 : decode b_M_rule 62 = .ok (.isub, 1) := by decide +kernel
theorem d_M_rule_63 : decode b_M_rule 63 = .ok (.ireturn, 1) := by decide +kernel
theorem d_M_rule_64 : decode b_M_rule 64 = .ok (.aload_n 0, 1) := by decide +kernel
theorem d_M_rule_65 : decode b_M_rule 65 = .ok (.getfield 185, 3) := by decide +kernel
theorem d_M_rule_68 : decode b_M_rule 68 = .ok (.bipush 8, 2) := by decide +kernel
theorem d_M_rule_70 : decode b_M_rule 70 = .ok (.if_icmp .ne 6, 3) := by decide +kernel
theorem d_M_rule_73 : decode b_M_rule 73 = .ok (.bipush (-3), 2) := by decide +kernel
theorem d_M_rule_75 : decode b_M_rule 75 = .ok (.ireturn, 1) := by decide +kernel
theorem d_M_rule_76 : decode b_M_rule 76 = .ok (.iconst 0, 1) := by decide +kernel
theorem d_M_rule_77 : decode b_M_rule 77 = .ok (.istore 4, 2) := by decide +kernel
theorem d_M_rule_79 : decode b_M_rule 79 = .ok (.iload 4, 2) := by decide +kernel
theorem d_M_rule_81 : decode b_M_rule 81 = .ok (.iload_n 3, 1) := by decide +kernel
theorem d_M_rule_82 : decode b_M_rule 82 = .ok (.if_icmp .ge 28, 3) := by decide +kernel
theorem d_M_rule_85 : decode b_M_rule 85 = .ok (.aload_n 0, 1) := by decide +kernel
theorem d_M_rule_86 : decode b_M_rule 86 = .ok (.getfield 69, 3) := by decide +kernel
theorem d_M_rule_89 : decode b_M_rule 89 = .ok (.bipush 60, 2) := by decide +kernel
theorem d_M_rule_91 : decode b_M_rule 91 = .ok (.iload_n 1, 1) := by decide +kernel
theorem d_M_rule_92 : decode b_M_rule 92 = .ok (.imul, 1) := by decide +kernel
theorem d_M_rule_93 : decode b_M_rule 93 = .ok (.iload 4, 2) := by decide +kernel
theorem d_M_rule_95 : decode b_M_rule 95 = .ok (.iadd, 1) := by decide +kernel
theorem d_M_rule_96 : decode b_M_rule 96 = .ok (.aload_n 0, 1) := by decide +kernel
theorem d_M_rule_97 : decode b_M_rule 97 = .ok (.getfield 66, 3) := by decide +kernel
theorem d_M_rule_100 : decode b_M_rule 100 = .ok (.iload 4, 2) := by decide +kernel
theorem d_M_rule_102 : decode b_M_rule 102 = .ok (.iaload, 1) := by decide +kernel
theorem d_M_rule_103 : decode b_M_rule 103 = .ok (.iastore, 1) := by decide +kernel
theorem d_M_rule_104 : decode b_M_rule 104 = .ok (.iinc 4 1, 3) := by decide +kernel
theorem d_M_rule_107 : decode b_M_rule 107 = .ok (.goto (-28), 3) := by decide +kernel
theorem d_M_rule_110 : decode b_M_rule 110 = .ok (.aload_n 0, 1) := by decide +kernel
theorem d_M_rule_111 : decode b_M_rule 111 = .ok (.dup, 1) := by decide +kernel
theorem d_M_rule_112 : decode b_M_rule 112 = .ok (.getfield 185, 3) := by decide +kernel
theorem d_M_rule_115 : decode b_M_rule 115 = .ok (.iconst 1, 1) := by decide +kernel
theorem d_M_rule_116 : decode b_M_rule 116 = .ok (.iadd, 1) := by decide +kernel
theorem d_M_rule_117 : decode b_M_rule 117 = .ok (.putfield 185, 3) := by decide +kernel
theorem d_M_rule_120 : decode b_M_rule 120 = .ok (.aload_n 0, 1) := by decide +kernel
theorem d_M_rule_121 : decode b_M_rule 121 = .ok (.getfield 185, 3) := by decide +kernel
theorem d_M_rule_124 : decode b_M_rule 124 = .ok (.ireturn, 1) := by decide +kernel
theorem d_M_clear_0 : decode b_M_clear 0 = .ok (.aload_n 0, 1) := by decide +kernel
theorem d_M_clear_1 : decode b_M_clear 1 = .ok (.getfield 185, 3) := by decide +kernel
theorem d_M_clear_4 : decode b_M_clear 4 = .ok (.istore_n 2, 1) := by decide +kernel
theorem d_M_clear_5 : decode b_M_clear 5 = .ok (.aload_n 0, 1) := by decide +kernel
theorem d_M_clear_6 : decode b_M_clear 6 = .ok (.iconst 0, 1) := by decide +kernel
theorem d_M_clear_7 : decode b_M_clear 7 = .ok (.putfield 185, 3) := by decide +kernel
theorem d_M_clear_10 : decode b_M_clear 10 = .ok (.aload_n 0, 1) := by decide +kernel
theorem d_M_clear_11 : decode b_M_clear 11 = .ok (.iconst 0, 1) := by decide +kernel
theorem d_M_clear_12 : decode b_M_clear 12 = .ok (.putfield 146, 3) := by decide +kernel
theorem d_M_clear_15 : decode b_M_clear 15 = .ok (.iload_n 1, 1) := by decide +kernel
theorem d_M_clear_16 : decode b_M_clear 16 = .ok (.ifCond .eq 34, 3) := by decide +kernel
theorem d_M_clear_19 : decode b_M_clear 19 = .ok (.iconst 1, 1) := by decide +kernel
theorem d_M_clear_20 : decode b_M_clear 20 = .ok (.istore_n 3, 1) := by decide +kernel
theorem d_M_clear_21 : decode b_M_clear 21 = .ok (.iload_n 3, 1) := by decide +kernel
theorem d_M_clear_22 : decode b_M_clear 22 = .ok (.bipush 10, 2) := by decide +kernel
theorem d_M_clear_24 : decode b_M_clear 24 = .ok (.if_icmp .ge 16, 3) := by decide +kernel
theorem d_M_clear_27 : decode b_M_clear 27 = .ok (.aload_n 0, 1) := by decide +kernel
theorem d_M_clear_28 : decode b_M_clear 28 = .ok (.getfield 7, 3) := by decide +kernel
theorem d_M_clear_31 : decode b_M_clear 31 = .ok (.iload_n 3, 1) := by decide +kernel
theorem d_M_clear_32 : decode b_M_clear 32 = .ok (.iconst 0, 1) := by decide +kernel
theorem d_M_clear_33 : decode b_M_clear 33 = .ok (.bastore, 1) := by decide +kernel
theorem d_M_clear_34 : decode b_M_clear 34 = .ok (.iinc 3 1, 3) := by decide +kernel
theorem d_M_clear_37 : decode b_M_clear 37 = .ok (.goto (-16), 3) := by decide +kernel
theorem d_M_clear_40 : decode b_M_clear 40 = .ok (.aload_n 0, 1) := by decide +kernel
theorem d_M_clear_41 : decode b_M_clear 41 = .ok (.iconst 1, 1) := by decide +kernel
theorem d_M_clear_42 : decode b_M_clear 42 = .ok (.putfield 47, 3) := by decide +kernel
theorem d_M_clear_45 : decode b_M_clear 45 = .ok (.aload_n 0, 1) := by decide +kernel
theorem d_M_clear_46 : decode b_M_clear 46 = .ok (.iconst 0, 1) := by decide +kernel
theorem d_M_clear_47 : decode b_M_clear 47 = .ok (.putfield 143, 3) := by decide +kernel
theorem d_M_clear_50 : decode b_M_clear 50 = .ok (.iload_n 2, 1) := by decide +kernel
theorem d_M_clear_51 : decode b_M_clear 51 = .ok (.ireturn, 1) := by decide +kernel
