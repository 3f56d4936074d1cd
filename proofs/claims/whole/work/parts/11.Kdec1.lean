theorem d_K_Text_wipe_0 : decode b_K_Text_wipe 0 = .ok (.aload_n 0, 1) := by decide +kernel
theorem d_K_Text_wipe_1 : decode b_K_Text_wipe 1 = .ok (.iconst 0, 1) := by decide +kernel
theorem d_K_Text_wipe_2 : decode b_K_Text_wipe 2 = .ok (.putfield 15, 3) := by decide +kernel
theorem d_K_Text_wipe_5 : decode b_K_Text_wipe 5 = .ok (.return_, 1) := by decide +kernel
theorem d_K_SF_has_0 : decode b_K_SF_has 0 = .ok (.iload_n 2, 1) := by decide +kernel
theorem d_K_SF_has_1 : decode b_K_SF_has 1 = .ok (.ifCond .lt 23, 3) := by decide +kernel
theorem d_K_SF_has_4 : decode b_K_SF_has 4 = .ok (.iload_n 2, 1) := by decide +kernel
theorem d_K_SF_has_5 : decode b_K_SF_has 5 = .ok (.bipush 64, 2) := by decide +kernel
theorem d_K_SF_has_7 : decode b_K_SF_has 7 = .ok (.if_icmp .ge 17, 3) := by decide +kernel
theorem d_K_SF_has_10 : decode b_K_SF_has 10 = .ok (.lload_n 0, 1) := by decide +kernel
theorem d_K_SF_has_11 : decode b_K_SF_has 11 = .ok (.iload_n 2, 1) := by decide +kernel
theorem d_K_SF_has_12 : decode b_K_SF_has 12 = .ok (.lushr, 1) := by decide +kernel
theorem d_K_SF_has_13 : decode b_K_SF_has 13 = .ok (.lconst 1, 1) := by decide +kernel
theorem d_K_SF_has_14 : decode b_K_SF_has 14 = .ok (.land, 1) := by decide +kernel
theorem d_K_SF_has_15 : decode b_K_SF_has 15 = .ok (.lconst 0, 1) := by decide +kernel
theorem d_K_SF_has_16 : decode b_K_SF_has 16 = .ok (.lcmp, 1) := by decide +kernel
theorem d_K_SF_has_17 : decode b_K_SF_has 17 = .ok (.ifCond .eq 7, 3) := by decide +kernel
theorem d_K_SF_has_20 : decode b_K_SF_has 20 = .ok (.iconst 1, 1) := by decide +kernel
theorem d_K_SF_has_21 : decode b_K_SF_has 21 = .ok (.goto 4, 3) := by decide +kernel
theorem d_K_SF_has_24 : decode b_K_SF_has 24 = .ok (.iconst 0, 1) := by decide +kernel
theorem d_K_SF_has_25 : decode b_K_SF_has 25 = .ok (.ireturn, 1) := by decide +kernel
theorem d_K_Text_put_0 : decode b_K_Text_put 0 = .ok (.aload_n 0, 1) := by decide +kernel
theorem d_K_Text_put_1 : decode b_K_Text_put 1 = .ok (.getfield 15, 3) := by decide +kernel
theorem d_K_Text_put_4 : decode b_K_Text_put 4 = .ok (.aload_n 0, 1) := by decide +kernel
theorem d_K_Text_put_5 : decode b_K_Text_put 5 = .ok (.getfield 9, 3) := by decide +kernel
theorem d_K_Text_put_8 : decode b_K_Text_put 8 = .ok (.arraylength, 1) := by decide +kernel
theorem d_K_Text_put_9 : decode b_K_Text_put 9 = .ok (.if_icmp .lt 5, 3) := by decide +kernel
theorem d_K_Text_put_12 : decode b_K_Text_put 12 = .ok (.iconst 0, 1) := by decide +kernel
theorem d_K_Text_put_13 : decode b_K_Text_put 13 = .ok (.ireturn, 1) := by decide +kernel
theorem d_K_Text_put_14 : decode b_K_Text_put 14 = .ok (.aload_n 0, 1) := by decide +kernel
theorem d_K_Text_put_15 : decode b_K_Text_put 15 = .ok (.getfield 9, 3) := by decide +kernel
theorem d_K_Text_put_18 : decode b_K_Text_put 18 = .ok (.aload_n 0, 1) := by decide +kernel
theorem d_K_Text_put_19 : decode b_K_Text_put 19 = .ok (.getfield 15, 3) := by decide +kernel
theorem d_K_Text_put_22 : decode b_K_Text_put 22 = .ok (.iload_n 1, 1) := by decide +kernel
theorem d_K_Text_put_23 : decode b_K_Text_put 23 = .ok (.i2c, 1) := by decide +kernel
theorem d_K_Text_put_24 : decode b_K_Text_put 24 = .ok (.castore, 1) := by decide +kernel
theorem d_K_Text_put_25 : decode b_K_Text_put 25 = .ok (.aload_n 0, 1) := by decide +kernel
theorem d_K_Text_put_26 : decode b_K_Text_put 26 = .ok (.dup, 1) := by decide +kernel
theorem d_K_Text_put_27 : decode b_K_Text_put 27 = .ok (.getfield 15, 3) := by decide +kernel
theorem d_K_Text_put_30 : decode b_K_Text_put 30 = .ok (.iconst 1, 1) := by decide +kernel
theorem d_K_Text_put_31 : decode b_K_Text_put 31 = .ok (.iadd, 1) := by decide +kernel
theorem d_K_Text_put_32 : decode b_K_Text_put 32 = .ok (.putfield 15, 3) := by decide +kernel
theorem d_K_Text_put_35 : decode b_K_Text_put 35 = .ok (.iconst 1, 1) := by decide +kernel
theorem d_K_Text_put_36 : decode b_K_Text_put 36 = .ok (.ireturn, 1) := by decide +kernel
theorem d_K_Text_putOldName_0 : decode b_K_Text_putOldName 0 = .ok (.aload_n 0, 1) := by decide +kernel
theorem d_K_Text_putOldName_1 : decode b_K_Text_putOldName 1 = .ok (.bipush 111, 2) := by decide +kernel
theorem d_K_Text_putOldName_3 : decode b_K_Text_putOldName 3 = .ok (.iload_n 1, 1) := by decide +kernel
theorem d_K_Text_putOldName_4 : decode b_K_Text_putOldName 4 = .ok (.iadd, 1) := by decide +kernel
theorem d_K_Text_putOldName_5 : decode b_K_Text_putOldName 5 = .ok (.invokevirtual 28, 3) := by decide +kernel
theorem d_K_Text_putOldName_8 : decode b_K_Text_putOldName 8 = .ok (.pop, 1) := by decide +kernel
theorem d_K_Text_putOldName_9 : decode b_K_Text_putOldName 9 = .ok (.aload_n 0, 1) := by decide +kernel
theorem d_K_Text_putOldName_10 : decode b_K_Text_putOldName 10 = .ok (.bipush 46, 2) := by decide +kernel
theorem d_K_Text_putOldName_12 : decode b_K_Text_putOldName 12 = .ok (.invokevirtual 28, 3) := by decide +kernel
theorem d_K_Text_putOldName_15 : decode b_K_Text_putOldName 15 = .ok (.pop, 1) := by decide +kernel
theorem d_K_Text_putOldName_16 : decode b_K_Text_putOldName 16 = .ok (.aload_n 0, 1) := by decide +kernel
theorem d_K_Text_putOldName_17 : decode b_K_Text_putOldName 17 = .ok (.bipush 65, 2) := by decide +kernel
theorem d_K_Text_putOldName_19 : decode b_K_Text_putOldName 19 = .ok (.iload_n 2, 1) := by decide +kernel
theorem d_K_Text_putOldName_20 : decode b_K_Text_putOldName 20 = .ok (.iadd, 1) := by decide +kernel
theorem d_K_Text_putOldName_21 : decode b_K_Text_putOldName 21 = .ok (.invokevirtual 28, 3) := by decide +kernel
theorem d_K_Text_putOldName_24 : decode b_K_Text_putOldName 24 = .ok (.pop, 1) := by decide +kernel
theorem d_K_Text_putOldName_25 : decode b_K_Text_putOldName 25 = .ok (.return_, 1) := by decide +kernel
theorem d_J_coder_0 : decode b_J_coder 0 = .ok (.getstatic 38, 3) := by decide +kernel
theorem d_J_coder_3 : decode b_J_coder 3 = .ok (.ifCond .eq 10, 3) := by decide +kernel
theorem d_J_coder_6 : decode b_J_coder 6 = .ok (.aload_n 0, 1) := by decide +kernel
theorem d_J_coder_7 : decode b_J_coder 7 = .ok (.getfield 15, 3) := by decide +kernel
theorem d_J_coder_10 : decode b_J_coder 10 = .ok (.goto 4, 3) := by decide +kernel
theorem d_J_coder_13 : decode b_J_coder 13 = .ok (.iconst 1, 1) := by decide +kernel
theorem d_J_coder_14 : decode b_J_coder 14 = .ok (.ireturn, 1) := by decide +kernel
theorem d_J_length_0 : decode b_J_length 0 = .ok (.aload_n 0, 1) := by decide +kernel
theorem d_J_length_1 : decode b_J_length 1 = .ok (.getfield 9, 3) := by decide +kernel
theorem d_J_length_4 : decode b_J_length 4 = .ok (.arraylength, 1) := by decide +kernel
theorem d_J_length_5 : decode b_J_length 5 = .ok (.aload_n 0, 1) := by decide +kernel
theorem d_J_length_6 : decode b_J_length 6 = .ok (.invokevirtual 335, 3) := by decide +kernel
theorem d_J_length_9 : decode b_J_length 9 = .ok (.ishr, 1) := by decide +kernel
theorem d_J_length_10 : decode b_J_length 10 = .ok (.ireturn, 1) := by decide +kernel
theorem d_J_isLatin1_0 : decode b_J_isLatin1 0 = .ok (.getstatic 38, 3) := by decide +kernel
theorem d_J_isLatin1_3 : decode b_J_isLatin1 3 = .ok (.ifCond .eq 14, 3) := by decide +kernel
theorem d_J_isLatin1_6 : decode b_J_isLatin1 6 = .ok (.aload_n 0, 1) := by decide +kernel
theorem d_J_isLatin1_7 : decode b_J_isLatin1 7 = .ok (.getfield 15, 3) := by decide +kernel
theorem d_J_isLatin1_10 : decode b_J_isLatin1 10 = .ok (.ifCond .ne 7, 3) := by decide +kernel
theorem d_J_isLatin1_13 : decode b_J_isLatin1 13 = .ok (.iconst 1, 1) := by decide +kernel
theorem d_J_isLatin1_14 : decode b_J_isLatin1 14 = .ok (.goto 4, 3) := by decide +kernel
theorem d_J_isLatin1_17 : decode b_J_isLatin1 17 = .ok (.iconst 0, 1) := by decide +kernel
theorem d_J_isLatin1_18 : decode b_J_isLatin1 18 = .ok (.ireturn, 1) := by decide +kernel
theorem d_J_pci_0 : decode b_J_pci 0 = .ok (.iload_n 0, 1) := by decide +kernel
theorem d_J_pci_1 : decode b_J_pci 1 = .ok (.ifCond .lt 8, 3) := by decide +kernel
theorem d_J_pci_4 : decode b_J_pci 4 = .ok (.iload_n 0, 1) := by decide +kernel
theorem d_J_pci_5 : decode b_J_pci 5 = .ok (.iload_n 1, 1) := by decide +kernel
theorem d_J_pci_6 : decode b_J_pci 6 = .ok (.if_icmp .lt 10, 3) := by decide +kernel
theorem d_J_pci_9 : decode b_J_pci 9 = .ok (.aload_n 2, 1) := by decide +kernel
theorem d_J_pci_10 : decode b_J_pci 10 = .ok (.iload_n 0, 1) := by decide +kernel
theorem d_J_pci_11 : decode b_J_pci 11 = .ok (.iload_n 1, 1) := by decide +kernel
theorem d_J_pci_12 : decode b_J_pci 12 = .ok (.invokestatic 95, 3) := by decide +kernel
theorem d_J_pci_15 : decode b_J_pci 15 = .ok (.athrow, 1) := by decide +kernel
theorem d_J_pci_16 : decode b_J_pci 16 = .ok (.iload_n 0, 1) := by decide +kernel
theorem d_J_pci_17 : decode b_J_pci 17 = .ok (.ireturn, 1) := by decide +kernel
theorem d_J_checkIndex_0 : decode b_J_checkIndex 0 = .ok (.iload_n 0, 1) := by decide +kernel
theorem d_J_checkIndex_1 : decode b_J_checkIndex 1 = .ok (.iload_n 1, 1) := by decide +kernel
theorem d_J_checkIndex_2 : decode b_J_checkIndex 2 = .ok (.getstatic 1053, 3) := by decide +kernel
theorem d_J_checkIndex_5 : decode b_J_checkIndex 5 = .ok (.invokestatic 1059, 3) := by decide +kernel
theorem d_J_checkIndex_8 : decode b_J_checkIndex 8 = .ok (.pop, 1) := by decide +kernel
theorem d_J_checkIndex_9 : decode b_J_checkIndex 9 = .ok (.return_, 1) := by decide +kernel
theorem d_J_lcharAt_0 : decode b_J_lcharAt 0 = .ok (.iload_n 1, 1) := by decide +kernel
theorem d_J_lcharAt_1 : decode b_J_lcharAt 1 = .ok (.aload_n 0, 1) := by decide +kernel
theorem d_J_lcharAt_2 : decode b_J_lcharAt 2 = .ok (.arraylength, 1) := by decide +kernel
theorem d_J_lcharAt_3 : decode b_J_lcharAt 3 = .ok (.invokestatic 9, 3) := by decide +kernel
theorem d_J_lcharAt_6 : decode b_J_lcharAt 6 = .ok (.aload_n 0, 1) := by decide +kernel
theorem d_J_lcharAt_7 : decode b_J_lcharAt 7 = .ok (.iload_n 1, 1) := by decide +kernel
theorem d_J_lcharAt_8 : decode b_J_lcharAt 8 = .ok (.baload, 1) := by decide +kernel
theorem d_J_lcharAt_9 : decode b_J_lcharAt 9 = .ok (.sipush 255, 3) := by decide +kernel
theorem d_J_lcharAt_12 : decode b_J_lcharAt 12 = .ok (.iand, 1) := by decide +kernel
theorem d_J_lcharAt_13 : decode b_J_lcharAt 13 = .ok (.i2c, 1) := by decide +kernel
theorem d_J_lcharAt_14 : decode b_J_lcharAt 14 = .ok (.ireturn, 1) := by decide +kernel
theorem d_J_charAt_0 : decode b_J_charAt 0 = .ok (.aload_n 0, 1) := by decide +kernel
theorem d_J_charAt_1 : decode b_J_charAt 1 = .ok (.invokevirtual 492, 3) := by decide +kernel
theorem d_J_charAt_4 : decode b_J_charAt 4 = .ok (.ifCond .eq 12, 3) := by decide +kernel
theorem d_J_charAt_7 : decode b_J_charAt 7 = .ok (.aload_n 0, 1) := by decide +kernel
theorem d_J_charAt_8 : decode b_J_charAt 8 = .ok (.getfield 9, 3) := by decide +kernel
theorem d_J_charAt_11 : decode b_J_charAt 11 = .ok (.iload_n 1, 1) := by decide +kernel
theorem d_J_charAt_12 : decode b_J_charAt 12 = .ok (.invokestatic 495, 3) := by decide +kernel
theorem d_J_charAt_15 : decode b_J_charAt 15 = .ok (.ireturn, 1) := by decide +kernel
theorem d_J_charAt_16 : decode b_J_charAt 16 = .ok (.aload_n 0, 1) := by decide +kernel
theorem d_J_charAt_17 : decode b_J_charAt 17 = .ok (.getfield 9, 3) := by decide +kernel
theorem d_J_charAt_20 : decode b_J_charAt 20 = .ok (.iload_n 1, 1) := by decide +kernel
theorem d_J_charAt_21 : decode b_J_charAt 21 = .ok (.invokestatic 498, 3) := by decide +kernel
theorem d_J_charAt_24 : decode b_J_charAt 24 = .ok (.ireturn, 1) := by decide +kernel
theorem d_K_Text_putAll_0 : decode b_K_Text_putAll 0 = .ok (.iconst 0, 1) := by decide +kernel
theorem d_K_Text_putAll_1 : decode b_K_Text_putAll 1 = .ok (.istore_n 2, 1) := by decide +kernel
theorem d_K_Text_putAll_2 : decode b_K_Text_putAll 2 = .ok (.iload_n 2, 1) := by decide +kernel
theorem d_K_Text_putAll_3 : decode b_K_Text_putAll 3 = .ok (.aload_n 1, 1) := by decide +kernel
theorem d_K_Text_putAll_4 : decode b_K_Text_putAll 4 = .ok (.invokevirtual 19, 3) := by decide +kernel
theorem d_K_Text_putAll_7 : decode b_K_Text_putAll 7 = .ok (.if_icmp .ge 19, 3) := by decide +kernel
theorem d_K_Text_putAll_10 : decode b_K_Text_putAll 10 = .ok (.aload_n 0, 1) := by decide +kernel
theorem d_K_Text_putAll_11 : decode b_K_Text_putAll 11 = .ok (.aload_n 1, 1) := by decide +kernel
theorem d_K_Text_putAll_12 : decode b_K_Text_putAll 12 = .ok (.iload_n 2, 1) := by decide +kernel
theorem d_K_Text_putAll_13 : decode b_K_Text_putAll 13 = .ok (.invokevirtual 24, 3) := by decide +kernel
theorem d_K_Text_putAll_16 : decode b_K_Text_putAll 16 = .ok (.invokevirtual 28, 3) := by decide +kernel
theorem d_K_Text_putAll_19 : decode b_K_Text_putAll 19 = .ok (.pop, 1) := by decide +kernel
theorem d_K_Text_putAll_20 : decode b_K_Text_putAll 20 = .ok (.iinc 2 1, 3) := by decide +kernel
theorem d_K_Text_putAll_23 : decode b_K_Text_putAll 23 = .ok (.goto (-21), 3) := by decide +kernel
theorem d_K_Text_putAll_26 : decode b_K_Text_putAll 26 = .ok (.return_, 1) := by decide +kernel
theorem d_K_Names_tellName_0 : decode b_K_Names_tellName 0 = .ok (.aload_n 0, 1) := by decide +kernel
theorem d_K_Names_tellName_1 : decode b_K_Names_tellName 1 = .ok (.getfield 57, 3) := by decide +kernel
theorem d_K_Names_tellName_4 : decode b_K_Names_tellName 4 = .ok (.iload_n 2, 1) := by decide +kernel
theorem d_K_Names_tellName_5 : decode b_K_Names_tellName 5 = .ok (.invokestatic 76, 3) := by decide +kernel
theorem d_K_Names_tellName_8 : decode b_K_Names_tellName 8 = .ok (.ifCond .eq 20, 3) := by decide +kernel
theorem d_K_Names_tellName_11 : decode b_K_Names_tellName 11 = .ok (.aload_n 1, 1) := by decide +kernel
theorem d_K_Names_tellName_12 : decode b_K_Names_tellName 12 = .ok (.aload_n 0, 1) := by decide +kernel
theorem d_K_Names_tellName_13 : decode b_K_Names_tellName 13 = .ok (.getfield 18, 3) := by decide +kernel
theorem d_K_Names_tellName_16 : decode b_K_Names_tellName 16 = .ok (.getfield 80, 3) := by decide +kernel
theorem d_K_Names_tellName_19 : decode b_K_Names_tellName 19 = .ok (.iload_n 2, 1) := by decide +kernel
theorem d_K_Names_tellName_20 : decode b_K_Names_tellName 20 = .ok (.iaload, 1) := by decide +kernel
theorem d_K_Names_tellName_21 : decode b_K_Names_tellName 21 = .ok (.iload_n 2, 1) := by decide +kernel
theorem d_K_Names_tellName_22 : decode b_K_Names_tellName 22 = .ok (.invokevirtual 85, 3) := by decide +kernel
theorem d_K_Names_tellName_25 : decode b_K_Names_tellName 25 = .ok (.goto 14, 3) := by decide +kernel
theorem d_K_Names_tellName_28 : decode b_K_Names_tellName 28 = .ok (.aload_n 1, 1) := by decide +kernel
theorem d_K_Names_tellName_29 : decode b_K_Names_tellName 29 = .ok (.aload_n 0, 1) := by decide +kernel
theorem d_K_Names_tellName_30 : decode b_K_Names_tellName 30 = .ok (.getfield 9, 3) := by decide +kernel
theorem d_K_Names_tellName_33 : decode b_K_Names_tellName 33 = .ok (.iload_n 2, 1) := by decide +kernel
theorem d_K_Names_tellName_34 : decode b_K_Names_tellName 34 = .ok (.caload, 1) := by decide +kernel
theorem d_K_Names_tellName_35 : decode b_K_Names_tellName 35 = .ok (.invokevirtual 91, 3) := by decide +kernel
theorem d_K_Names_tellName_38 : decode b_K_Names_tellName 38 = .ok (.pop, 1) := by decide +kernel
theorem d_K_Names_tellName_39 : decode b_K_Names_tellName 39 = .ok (.return_, 1) := by decide +kernel
theorem d_K_SF_wordOf_0 : decode b_K_SF_wordOf 0 = .ok (.iload_n 0, 1) := by decide +kernel
theorem d_K_SF_wordOf_1 : decode b_K_SF_wordOf 1 = .ok (.iconst 2, 1) := by decide +kernel
theorem d_K_SF_wordOf_2 : decode b_K_SF_wordOf 2 = .ok (.idiv, 1) := by decide +kernel
theorem d_K_SF_wordOf_3 : decode b_K_SF_wordOf 3 = .ok (.bipush 8, 2) := by decide +kernel
theorem d_K_SF_wordOf_5 : decode b_K_SF_wordOf 5 = .ok (.irem, 1) := by decide +kernel
theorem d_K_SF_wordOf_6 : decode b_K_SF_wordOf 6 = .ok (.ireturn, 1) := by decide +kernel
theorem d_K_Text_putOldText_0 : decode b_K_Text_putOldText 0 = .ok (.iload_n 1, 1) := by decide +kernel
theorem d_K_Text_putOldText_1 : decode b_K_Text_putOldText 1 = .ok (.bipush 6, 2) := by decide +kernel
theorem d_K_Text_putOldText_3 : decode b_K_Text_putOldText 3 = .ok (.if_icmp .ne 12, 3) := by decide +kernel
theorem d_K_Text_putOldText_6 : decode b_K_Text_putOldText 6 = .ok (.aload_n 0, 1) := by decide +kernel
theorem d_K_Text_putOldText_7 : decode b_K_Text_putOldText 7 = .ok (.ldc 32, 2) := by decide +kernel
theorem d_K_Text_putOldText_9 : decode b_K_Text_putOldText 9 = .ok (.invokevirtual 33, 3) := by decide +kernel
theorem d_K_Text_putOldText_12 : decode b_K_Text_putOldText 12 = .ok (.goto 27, 3) := by decide +kernel
theorem d_K_Text_putOldText_15 : decode b_K_Text_putOldText 15 = .ok (.iload_n 1, 1) := by decide +kernel
theorem d_K_Text_putOldText_16 : decode b_K_Text_putOldText 16 = .ok (.bipush 7, 2) := by decide +kernel
theorem d_K_Text_putOldText_18 : decode b_K_Text_putOldText 18 = .ok (.if_icmp .ne 12, 3) := by decide +kernel
theorem d_K_Text_putOldText_21 : decode b_K_Text_putOldText 21 = .ok (.aload_n 0, 1) := by decide +kernel
theorem d_K_Text_putOldText_22 : decode b_K_Text_putOldText 22 = .ok (.ldc 37, 2) := by decide +kernel
theorem d_K_Text_putOldText_24 : decode b_K_Text_putOldText 24 = .ok (.invokevirtual 33, 3) := by decide +kernel
theorem d_K_Text_putOldText_27 : decode b_K_Text_putOldText 27 = .ok (.goto 12, 3) := by decide +kernel
theorem d_K_Text_putOldText_30 : decode b_K_Text_putOldText 30 = .ok (.aload_n 0, 1) := by decide +kernel
theorem d_K_Text_putOldText_31 : decode b_K_Text_putOldText 31 = .ok (.bipush 114, 2) := by decide +kernel
theorem d_K_Text_putOldText_33 : decode b_K_Text_putOldText 33 = .ok (.iload_n 1, 1) := by decide +kernel
theorem d_K_Text_putOldText_34 : decode b_K_Text_putOldText 34 = .ok (.iadd, 1) := by decide +kernel
theorem d_K_Text_putOldText_35 : decode b_K_Text_putOldText 35 = .ok (.invokevirtual 28, 3) := by decide +kernel
theorem d_K_Text_putOldText_38 : decode b_K_Text_putOldText 38 = .ok (.pop, 1) := by decide +kernel
theorem d_K_Text_putOldText_39 : decode b_K_Text_putOldText 39 = .ok (.return_, 1) := by decide +kernel
theorem d_K_SF_isMethod_0 : decode b_K_SF_isMethod 0 = .ok (.iload_n 0, 1) := by decide +kernel
theorem d_K_SF_isMethod_1 : decode b_K_SF_isMethod 1 = .ok (.bipush 16, 2) := by decide +kernel
theorem d_K_SF_isMethod_3 : decode b_K_SF_isMethod 3 = .ok (.if_icmp .lt 7, 3) := by decide +kernel
theorem d_K_SF_isMethod_6 : decode b_K_SF_isMethod 6 = .ok (.iconst 1, 1) := by decide +kernel
theorem d_K_SF_isMethod_7 : decode b_K_SF_isMethod 7 = .ok (.goto 4, 3) := by decide +kernel
theorem d_K_SF_isMethod_10 : decode b_K_SF_isMethod 10 = .ok (.iconst 0, 1) := by decide +kernel
theorem d_K_SF_isMethod_11 : decode b_K_SF_isMethod 11 = .ok (.ireturn, 1) := by decide +kernel
theorem d_K_SF_shapeOf_0 : decode b_K_SF_shapeOf 0 = .ok (.iload_n 0, 1) := by decide +kernel
theorem d_K_SF_shapeOf_1 : decode b_K_SF_shapeOf 1 = .ok (.iconst 2, 1) := by decide +kernel
theorem d_K_SF_shapeOf_2 : decode b_K_SF_shapeOf 2 = .ok (.irem, 1) := by decide +kernel
theorem d_K_SF_shapeOf_3 : decode b_K_SF_shapeOf 3 = .ok (.ireturn, 1) := by decide +kernel
theorem d_K_Names_tellText_0 : decode b_K_Names_tellText 0 = .ok (.aload_n 0, 1) := by decide +kernel
theorem d_K_Names_tellText_1 : decode b_K_Names_tellText 1 = .ok (.getfield 64, 3) := by decide +kernel
theorem d_K_Names_tellText_4 : decode b_K_Names_tellText 4 = .ok (.iload_n 2, 1) := by decide +kernel
theorem d_K_Names_tellText_5 : decode b_K_Names_tellText 5 = .ok (.invokestatic 76, 3) := by decide +kernel
theorem d_K_Names_tellText_8 : decode b_K_Names_tellText 8 = .ok (.ifCond .eq 14, 3) := by decide +kernel
theorem d_K_Names_tellText_11 : decode b_K_Names_tellText 11 = .ok (.aload_n 1, 1) := by decide +kernel
theorem d_K_Names_tellText_12 : decode b_K_Names_tellText 12 = .ok (.iload_n 2, 1) := by decide +kernel
theorem d_K_Names_tellText_13 : decode b_K_Names_tellText 13 = .ok (.invokestatic 95, 3) := by decide +kernel
theorem d_K_Names_tellText_16 : decode b_K_Names_tellText 16 = .ok (.invokevirtual 99, 3) := by decide +kernel
theorem d_K_Names_tellText_19 : decode b_K_Names_tellText 19 = .ok (.goto 14, 3) := by decide +kernel
theorem d_K_Names_tellText_22 : decode b_K_Names_tellText 22 = .ok (.aload_n 1, 1) := by decide +kernel
theorem d_K_Names_tellText_23 : decode b_K_Names_tellText 23 = .ok (.aload_n 0, 1) := by decide +kernel
theorem d_K_Names_tellText_24 : decode b_K_Names_tellText 24 = .ok (.getfield 15, 3) := by decide +kernel
theorem d_K_Names_tellText_27 : decode b_K_Names_tellText 27 = .ok (.iload_n 2, 1) := by decide +kernel
theorem d_K_Names_tellText_28 : decode b_K_Names_tellText 28 = .ok (.caload, 1) := by decide +kernel
theorem d_K_Names_tellText_29 : decode b_K_Names_tellText 29 = .ok (.invokevirtual 91, 3) := by decide +kernel
theorem d_K_Names_tellText_32 : decode b_K_Names_tellText 32 = .ok (.pop, 1) := by decide +kernel
theorem d_K_Names_tellText_33 : decode b_K_Names_tellText 33 = .ok (.return_, 1) := by decide +kernel
theorem d_K_Mapping_writeMember_0 : decode b_K_Mapping_writeMember 0 = .ok (.aload_n 0, 1) := by decide +kernel
theorem d_K_Mapping_writeMember_1 : decode b_K_Mapping_writeMember 1 = .ok (.getfield 16, 3) := by decide +kernel
theorem d_K_Mapping_writeMember_4 : decode b_K_Mapping_writeMember 4 = .ok (.bipush 32, 2) := by decide +kernel
theorem d_K_Mapping_writeMember_6 : decode b_K_Mapping_writeMember 6 = .ok (.invokevirtual 98, 3) := by decide +kernel
theorem d_K_Mapping_writeMember_9 : decode b_K_Mapping_writeMember 9 = .ok (.pop, 1) := by decide +kernel
theorem d_K_Mapping_writeMember_10 : decode b_K_Mapping_writeMember 10 = .ok (.aload_n 0, 1) := by decide +kernel
theorem d_K_Mapping_writeMember_11 : decode b_K_Mapping_writeMember 11 = .ok (.getfield 16, 3) := by decide +kernel
theorem d_K_Mapping_writeMember_14 : decode b_K_Mapping_writeMember 14 = .ok (.iload_n 1, 1) := by decide +kernel
theorem d_K_Mapping_writeMember_15 : decode b_K_Mapping_writeMember 15 = .ok (.invokestatic 102, 3) := by decide +kernel
theorem d_K_Mapping_writeMember_18 : decode b_K_Mapping_writeMember 18 = .ok (.invokevirtual 106, 3) := by decide +kernel
theorem d_K_Mapping_writeMember_21 : decode b_K_Mapping_writeMember 21 = .ok (.iload_n 1, 1) := by decide +kernel
theorem d_K_Mapping_writeMember_22 : decode b_K_Mapping_writeMember 22 = .ok (.invokestatic 109, 3) := by decide +kernel
theorem d_K_Mapping_writeMember_25 : decode b_K_Mapping_writeMember 25 = .ok (.ifCond .eq 38, 3) := by decide +kernel
theorem d_K_Mapping_writeMember_28 : decode b_K_Mapping_writeMember 28 = .ok (.aload_n 0, 1) := by decide +kernel
theorem d_K_Mapping_writeMember_29 : decode b_K_Mapping_writeMember 29 = .ok (.getfield 16, 3) := by decide +kernel
theorem d_K_Mapping_writeMember_32 : decode b_K_Mapping_writeMember 32 = .ok (.bipush 40, 2) := by decide +kernel
theorem d_K_Mapping_writeMember_34 : decode b_K_Mapping_writeMember 34 = .ok (.invokevirtual 98, 3) := by decide +kernel
theorem d_K_Mapping_writeMember_37 : decode b_K_Mapping_writeMember 37 = .ok (.pop, 1) := by decide +kernel
theorem d_K_Mapping_writeMember_38 : decode b_K_Mapping_writeMember 38 = .ok (.aload_n 0, 1) := by decide +kernel
theorem d_K_Mapping_writeMember_39 : decode b_K_Mapping_writeMember 39 = .ok (.getfield 16, 3) := by decide +kernel
theorem d_K_Mapping_writeMember_42 : decode b_K_Mapping_writeMember 42 = .ok (.bipush 48, 2) := by decide +kernel
theorem d_K_Mapping_writeMember_44 : decode b_K_Mapping_writeMember 44 = .ok (.iload_n 1, 1) := by decide +kernel
theorem d_K_Mapping_writeMember_45 : decode b_K_Mapping_writeMember 45 = .ok (.invokestatic 112, 3) := by decide +kernel
theorem d_K_Mapping_writeMember_48 : decode b_K_Mapping_writeMember 48 = .ok (.iadd, 1) := by decide +kernel
theorem d_K_Mapping_writeMember_49 : decode b_K_Mapping_writeMember 49 = .ok (.invokevirtual 98, 3) := by decide +kernel
theorem d_K_Mapping_writeMember_52 : decode b_K_Mapping_writeMember 52 = .ok (.pop, 1) := by decide +kernel
theorem d_K_Mapping_writeMember_53 : decode b_K_Mapping_writeMember 53 = .ok (.aload_n 0, 1) := by decide +kernel
theorem d_K_Mapping_writeMember_54 : decode b_K_Mapping_writeMember 54 = .ok (.getfield 16, 3) := by decide +kernel
theorem d_K_Mapping_writeMember_57 : decode b_K_Mapping_writeMember 57 = .ok (.bipush 41, 2) := by decide +kernel
theorem d_K_Mapping_writeMember_59 : decode b_K_Mapping_writeMember 59 = .ok (.invokevirtual 98, 3) := by decide +kernel
theorem d_K_Mapping_writeMember_62 : decode b_K_Mapping_writeMember 62 = .ok (.pop, 1) := by decide +kernel
theorem d_K_Mapping_writeMember_63 : decode b_K_Mapping_writeMember 63 = .ok (.aload_n 0, 1) := by decide +kernel
theorem d_K_Mapping_writeMember_64 : decode b_K_Mapping_writeMember 64 = .ok (.getfield 16, 3) := by decide +kernel
theorem d_K_Mapping_writeMember_67 : decode b_K_Mapping_writeMember 67 = .ok (.ldc 66, 2) := by decide +kernel
theorem d_K_Mapping_writeMember_69 : decode b_K_Mapping_writeMember 69 = .ok (.invokevirtual 68, 3) := by decide +kernel
theorem d_K_Mapping_writeMember_72 : decode b_K_Mapping_writeMember 72 = .ok (.aload_n 0, 1) := by decide +kernel
theorem d_K_Mapping_writeMember_73 : decode b_K_Mapping_writeMember 73 = .ok (.getfield 32, 3) := by decide +kernel
theorem d_K_Mapping_writeMember_76 : decode b_K_Mapping_writeMember 76 = .ok (.aload_n 0, 1) := by decide +kernel
theorem d_K_Mapping_writeMember_77 : decode b_K_Mapping_writeMember 77 = .ok (.getfield 16, 3) := by decide +kernel
theorem d_K_Mapping_writeMember_80 : decode b_K_Mapping_writeMember 80 = .ok (.iload_n 1, 1) := by decide +kernel
theorem d_K_Mapping_writeMember_81 : decode b_K_Mapping_writeMember 81 = .ok (.invokevirtual 115, 3) := by decide +kernel
theorem d_K_Mapping_writeMember_84 : decode b_K_Mapping_writeMember 84 = .ok (.aload_n 0, 1) := by decide +kernel
theorem d_K_Mapping_writeMember_85 : decode b_K_Mapping_writeMember 85 = .ok (.getfield 16, 3) := by decide +kernel
theorem d_K_Mapping_writeMember_88 : decode b_K_Mapping_writeMember 88 = .ok (.bipush 10, 2) := by decide +kernel
theorem d_K_Mapping_writeMember_90 : decode b_K_Mapping_writeMember 90 = .ok (.invokevirtual 98, 3) := by decide +kernel
theorem d_K_Mapping_writeMember_93 : decode b_K_Mapping_writeMember 93 = .ok (.pop, 1) := by decide +kernel
theorem d_K_Mapping_writeMember_94 : decode b_K_Mapping_writeMember 94 = .ok (.return_, 1) := by decide +kernel
theorem d_K_Mapping_writeClass_0 : decode b_K_Mapping_writeClass 0 = .ok (.aload_n 0, 1) := by decide +kernel
theorem d_K_Mapping_writeClass_1 : decode b_K_Mapping_writeClass 1 = .ok (.getfield 16, 3) := by decide +kernel
theorem d_K_Mapping_writeClass_4 : decode b_K_Mapping_writeClass 4 = .ok (.aload_n 0, 1) := by decide +kernel
theorem d_K_Mapping_writeClass_5 : decode b_K_Mapping_writeClass 5 = .ok (.getfield 20, 3) := by decide +kernel
theorem d_K_Mapping_writeClass_8 : decode b_K_Mapping_writeClass 8 = .ok (.getfield 56, 3) := by decide +kernel
theorem d_K_Mapping_writeClass_11 : decode b_K_Mapping_writeClass 11 = .ok (.iload_n 1, 1) := by decide +kernel
theorem d_K_Mapping_writeClass_12 : decode b_K_Mapping_writeClass 12 = .ok (.iaload, 1) := by decide +kernel
theorem d_K_Mapping_writeClass_13 : decode b_K_Mapping_writeClass 13 = .ok (.iload_n 1, 1) := by decide +kernel
theorem d_K_Mapping_writeClass_14 : decode b_K_Mapping_writeClass 14 = .ok (.invokevirtual 62, 3) := by decide +kernel
theorem d_K_Mapping_writeClass_17 : decode b_K_Mapping_writeClass 17 = .ok (.aload_n 0, 1) := by decide +kernel
theorem d_K_Mapping_writeClass_18 : decode b_K_Mapping_writeClass 18 = .ok (.getfield 16, 3) := by decide +kernel
theorem d_K_Mapping_writeClass_21 : decode b_K_Mapping_writeClass 21 = .ok (.ldc 66, 2) := by decide +kernel
theorem d_K_Mapping_writeClass_23 : decode b_K_Mapping_writeClass 23 = .ok (.invokevirtual 68, 3) := by decide +kernel
theorem d_K_Mapping_writeClass_26 : decode b_K_Mapping_writeClass 26 = .ok (.aload_n 0, 1) := by decide +kernel
theorem d_K_Mapping_writeClass_27 : decode b_K_Mapping_writeClass 27 = .ok (.getfield 32, 3) := by decide +kernel
theorem d_K_Mapping_writeClass_30 : decode b_K_Mapping_writeClass 30 = .ok (.aload_n 0, 1) := by decide +kernel
theorem d_K_Mapping_writeClass_31 : decode b_K_Mapping_writeClass 31 = .ok (.getfield 16, 3) := by decide +kernel
theorem d_K_Mapping_writeClass_34 : decode b_K_Mapping_writeClass 34 = .ok (.iload_n 1, 1) := by decide +kernel
theorem d_K_Mapping_writeClass_35 : decode b_K_Mapping_writeClass 35 = .ok (.invokevirtual 72, 3) := by decide +kernel
theorem d_K_Mapping_writeClass_38 : decode b_K_Mapping_writeClass 38 = .ok (.aload_n 0, 1) := by decide +kernel
theorem d_K_Mapping_writeClass_39 : decode b_K_Mapping_writeClass 39 = .ok (.getfield 16, 3) := by decide +kernel
theorem d_K_Mapping_writeClass_42 : decode b_K_Mapping_writeClass 42 = .ok (.ldc 78, 2) := by decide +kernel
theorem d_K_Mapping_writeClass_44 : decode b_K_Mapping_writeClass 44 = .ok (.invokevirtual 68, 3) := by decide +kernel
theorem d_K_Mapping_writeClass_47 : decode b_K_Mapping_writeClass 47 = .ok (.iconst 1, 1) := by decide +kernel
theorem d_K_Mapping_writeClass_48 : decode b_K_Mapping_writeClass 48 = .ok (.istore_n 2, 1) := by decide +kernel
theorem d_K_Mapping_writeClass_49 : decode b_K_Mapping_writeClass 49 = .ok (.iload_n 2, 1) := by decide +kernel
theorem d_K_Mapping_writeClass_50 : decode b_K_Mapping_writeClass 50 = .ok (.aload_n 0, 1) := by decide +kernel
theorem d_K_Mapping_writeClass_51 : decode b_K_Mapping_writeClass 51 = .ok (.getfield 24, 3) := by decide +kernel
theorem d_K_Mapping_writeClass_54 : decode b_K_Mapping_writeClass 54 = .ok (.getfield 80, 3) := by decide +kernel
theorem d_K_Mapping_writeClass_57 : decode b_K_Mapping_writeClass 57 = .ok (.if_icmp .ge 49, 3) := by decide +kernel
theorem d_K_Mapping_writeClass_60 : decode b_K_Mapping_writeClass 60 = .ok (.aload_n 0, 1) := by decide +kernel
theorem d_K_Mapping_writeClass_61 : decode b_K_Mapping_writeClass 61 = .ok (.getfield 24, 3) := by decide +kernel
theorem d_K_Mapping_writeClass_64 : decode b_K_Mapping_writeClass 64 = .ok (.getfield 86, 3) := by decide +kernel
theorem d_K_Mapping_writeClass_67 : decode b_K_Mapping_writeClass 67 = .ok (.iload_n 2, 1) := by decide +kernel
theorem d_K_Mapping_writeClass_68 : decode b_K_Mapping_writeClass 68 = .ok (.iaload, 1) := by decide +kernel
theorem d_K_Mapping_writeClass_69 : decode b_K_Mapping_writeClass 69 = .ok (.iload_n 1, 1) := by decide +kernel
theorem d_K_Mapping_writeClass_70 : decode b_K_Mapping_writeClass 70 = .ok (.if_icmp .ne 30, 3) := by decide +kernel
theorem d_K_Mapping_writeClass_73 : decode b_K_Mapping_writeClass 73 = .ok (.aload_n 0, 1) := by decide +kernel
theorem d_K_Mapping_writeClass_74 : decode b_K_Mapping_writeClass 74 = .ok (.getfield 28, 3) := by decide +kernel
theorem d_K_Mapping_writeClass_77 : decode b_K_Mapping_writeClass 77 = .ok (.getfield 89, 3) := by decide +kernel
theorem d_K_Mapping_writeClass_80 : decode b_K_Mapping_writeClass 80 = .ok (.iload_n 2, 1) := by decide +kernel
theorem d_K_Mapping_writeClass_81 : decode b_K_Mapping_writeClass 81 = .ok (.invokestatic 49, 3) := by decide +kernel
theorem d_K_Mapping_writeClass_84 : decode b_K_Mapping_writeClass 84 = .ok (.ifCond .eq 16, 3) := by decide +kernel
theorem d_K_Mapping_writeClass_87 : decode b_K_Mapping_writeClass 87 = .ok (.aload_n 0, 1) := by decide +kernel
theorem d_K_Mapping_writeClass_88 : decode b_K_Mapping_writeClass 88 = .ok (.aload_n 0, 1) := by decide +kernel
theorem d_K_Mapping_writeClass_89 : decode b_K_Mapping_writeClass 89 = .ok (.getfield 24, 3) := by decide +kernel
theorem d_K_Mapping_writeClass_92 : decode b_K_Mapping_writeClass 92 = .ok (.getfield 92, 3) := by decide +kernel
theorem d_K_Mapping_writeClass_95 : decode b_K_Mapping_writeClass 95 = .ok (.iload_n 2, 1) := by decide +kernel
theorem d_K_Mapping_writeClass_96 : decode b_K_Mapping_writeClass 96 = .ok (.iaload, 1) := by decide +kernel
theorem d_K_Mapping_writeClass_97 : decode b_K_Mapping_writeClass 97 = .ok (.invokevirtual 95, 3) := by decide +kernel
theorem d_K_Mapping_writeClass_100 : decode b_K_Mapping_writeClass 100 = .ok (.iinc 2 1, 3) := by decide +kernel
theorem d_K_Mapping_writeClass_103 : decode b_K_Mapping_writeClass 103 = .ok (.goto (-54), 3) := by decide +kernel
theorem d_K_Mapping_writeClass_106 : decode b_K_Mapping_writeClass 106 = .ok (.return_, 1) := by decide +kernel
theorem d_K_Mapping_write_0 : decode b_K_Mapping_write 0 = .ok (.aload_n 0, 1) := by decide +kernel
theorem d_K_Mapping_write_1 : decode b_K_Mapping_write 1 = .ok (.getfield 36, 3) := by decide +kernel
theorem d_K_Mapping_write_4 : decode b_K_Mapping_write 4 = .ok (.ifCond .ne 4, 3) := by decide +kernel
theorem d_K_Mapping_write_7 : decode b_K_Mapping_write 7 = .ok (.return_, 1) := by decide +kernel
theorem d_K_Mapping_write_8 : decode b_K_Mapping_write 8 = .ok (.aload_n 0, 1) := by decide +kernel
theorem d_K_Mapping_write_9 : decode b_K_Mapping_write 9 = .ok (.iconst 0, 1) := by decide +kernel
theorem d_K_Mapping_write_10 : decode b_K_Mapping_write 10 = .ok (.putfield 36, 3) := by decide +kernel
theorem d_K_Mapping_write_13 : decode b_K_Mapping_write 13 = .ok (.aload_n 0, 1) := by decide +kernel
theorem d_K_Mapping_write_14 : decode b_K_Mapping_write 14 = .ok (.getfield 16, 3) := by decide +kernel
theorem d_K_Mapping_write_17 : decode b_K_Mapping_write 17 = .ok (.invokevirtual 40, 3) := by decide +kernel
theorem d_K_Mapping_write_20 : decode b_K_Mapping_write 20 = .ok (.iconst 1, 1) := by decide +kernel
theorem d_K_Mapping_write_21 : decode b_K_Mapping_write 21 = .ok (.istore_n 1, 1) := by decide +kernel
theorem d_K_Mapping_write_22 : decode b_K_Mapping_write 22 = .ok (.iload_n 1, 1) := by decide +kernel
theorem d_K_Mapping_write_23 : decode b_K_Mapping_write 23 = .ok (.bipush 10, 2) := by decide +kernel
theorem d_K_Mapping_write_25 : decode b_K_Mapping_write 25 = .ok (.if_icmp .ge 28, 3) := by decide +kernel
theorem d_K_Mapping_write_28 : decode b_K_Mapping_write 28 = .ok (.aload_n 0, 1) := by decide +kernel
theorem d_K_Mapping_write_29 : decode b_K_Mapping_write 29 = .ok (.getfield 28, 3) := by decide +kernel
theorem d_K_Mapping_write_32 : decode b_K_Mapping_write 32 = .ok (.getfield 43, 3) := by decide +kernel
theorem d_K_Mapping_write_35 : decode b_K_Mapping_write 35 = .ok (.iload_n 1, 1) := by decide +kernel
theorem d_K_Mapping_write_36 : decode b_K_Mapping_write 36 = .ok (.invokestatic 49, 3) := by decide +kernel
theorem d_K_Mapping_write_39 : decode b_K_Mapping_write 39 = .ok (.ifCond .eq 8, 3) := by decide +kernel
theorem d_K_Mapping_write_42 : decode b_K_Mapping_write 42 = .ok (.aload_n 0, 1) := by decide +kernel
theorem d_K_Mapping_write_43 : decode b_K_Mapping_write 43 = .ok (.iload_n 1, 1) := by decide +kernel
theorem d_K_Mapping_write_44 : decode b_K_Mapping_write 44 = .ok (.invokevirtual 53, 3) := by decide +kernel
theorem d_K_Mapping_write_47 : decode b_K_Mapping_write 47 = .ok (.iinc 1 1, 3) := by decide +kernel
theorem d_K_Mapping_write_50 : decode b_K_Mapping_write 50 = .ok (.goto (-28), 3) := by decide +kernel
theorem d_K_Mapping_write_53 : decode b_K_Mapping_write 53 = .ok (.return_, 1) := by decide +kernel
theorem d_J_fill_0 : decode b_J_fill 0 = .ok (.iconst 0, 1) := by decide +kernel
theorem d_J_fill_1 : decode b_J_fill 1 = .ok (.istore_n 2, 1) := by decide +kernel
theorem d_J_fill_2 : decode b_J_fill 2 = .ok (.aload_n 0, 1) := by decide +kernel
theorem d_J_fill_3 : decode b_J_fill 3 = .ok (.arraylength, 1) := by decide +kernel
theorem d_J_fill_4 : decode b_J_fill 4 = .ok (.istore_n 3, 1) := by decide +kernel
theorem d_J_fill_5 : decode b_J_fill 5 = .ok (.iload_n 2, 1) := by decide +kernel
theorem d_J_fill_6 : decode b_J_fill 6 = .ok (.iload_n 3, 1) := by decide +kernel
theorem d_J_fill_7 : decode b_J_fill 7 = .ok (.if_icmp .ge 13, 3) := by decide +kernel
theorem d_J_fill_10 : decode b_J_fill 10 = .ok (.aload_n 0, 1) := by decide +kernel
theorem d_J_fill_11 : decode b_J_fill 11 = .ok (.iload_n 2, 1) := by decide +kernel
theorem d_J_fill_12 : decode b_J_fill 12 = .ok (.iload_n 1, 1) := by decide +kernel
theorem d_J_fill_13 : decode b_J_fill 13 = .ok (.iastore, 1) := by decide +kernel
theorem d_J_fill_14 : decode b_J_fill 14 = .ok (.iinc 2 1, 3) := by decide +kernel
theorem d_J_fill_17 : decode b_J_fill 17 = .ok (.goto (-12), 3) := by decide +kernel
theorem d_J_fill_20 : decode b_J_fill 20 = .ok (.return_, 1) := by decide +kernel
theorem d_K_SF_bit_0 : decode b_K_SF_bit 0 = .ok (.lconst 1, 1) := by decide +kernel
theorem d_K_SF_bit_1 : decode b_K_SF_bit 1 = .ok (.iload_n 0, 1) := by decide +kernel
theorem d_K_SF_bit_2 : decode b_K_SF_bit 2 = .ok (.lshl, 1) := by decide +kernel
theorem d_K_SF_bit_3 : decode b_K_SF_bit 3 = .ok (.lreturn, 1) := by decide +kernel
theorem d_K_Members_add_0 : decode b_K_Members_add 0 = .ok (.aload_n 0, 1) := by decide +kernel
theorem d_K_Members_add_1 : decode b_K_Members_add 1 = .ok (.getfield 37, 3) := by decide +kernel
theorem d_K_Members_add_4 : decode b_K_Members_add 4 = .ok (.bipush 40, 2) := by decide +kernel
theorem d_K_Members_add_6 : decode b_K_Members_add 6 = .ok (.if_icmp .lt 6, 3) := by decide +kernel
theorem d_K_Members_add_9 : decode b_K_Members_add 9 = .ok (.bipush (-3), 2) := by decide +kernel
theorem d_K_Members_add_11 : decode b_K_Members_add 11 = .ok (.ireturn, 1) := by decide +kernel
theorem d_K_Members_add_12 : decode b_K_Members_add 12 = .ok (.aload_n 0, 1) := by decide +kernel
theorem d_K_Members_add_13 : decode b_K_Members_add 13 = .ok (.getfield 37, 3) := by decide +kernel
theorem d_K_Members_add_16 : decode b_K_Members_add 16 = .ok (.istore 4, 2) := by decide +kernel
theorem d_K_Members_add_18 : decode b_K_Members_add 18 = .ok (.aload_n 0, 1) := by decide +kernel
theorem d_K_Members_add_19 : decode b_K_Members_add 19 = .ok (.dup, 1) := by decide +kernel
theorem d_K_Members_add_20 : decode b_K_Members_add 20 = .ok (.getfield 37, 3) := by decide +kernel
theorem d_K_Members_add_23 : decode b_K_Members_add 23 = .ok (.iconst 1, 1) := by decide +kernel
theorem d_K_Members_add_24 : decode b_K_Members_add 24 = .ok (.iadd, 1) := by decide +kernel
theorem d_K_Members_add_25 : decode b_K_Members_add 25 = .ok (.putfield 37, 3) := by decide +kernel
theorem d_K_Members_add_28 : decode b_K_Members_add 28 = .ok (.aload_n 0, 1) := by decide +kernel
theorem d_K_Members_add_29 : decode b_K_Members_add 29 = .ok (.getfield 9, 3) := by decide +kernel
theorem d_K_Members_add_32 : decode b_K_Members_add 32 = .ok (.iload 4, 2) := by decide +kernel
theorem d_K_Members_add_34 : decode b_K_Members_add 34 = .ok (.iload_n 1, 1) := by decide +kernel
theorem d_K_Members_add_35 : decode b_K_Members_add 35 = .ok (.iastore, 1) := by decide +kernel
theorem d_K_Members_add_36 : decode b_K_Members_add 36 = .ok (.aload_n 0, 1) := by decide +kernel
theorem d_K_Members_add_37 : decode b_K_Members_add 37 = .ok (.getfield 15, 3) := by decide +kernel
theorem d_K_Members_add_40 : decode b_K_Members_add 40 = .ok (.iload 4, 2) := by decide +kernel
theorem d_K_Members_add_42 : decode b_K_Members_add 42 = .ok (.iload_n 2, 1) := by decide +kernel
theorem d_K_Members_add_43 : decode b_K_Members_add 43 = .ok (.iastore, 1) := by decide +kernel
theorem d_K_Members_add_44 : decode b_K_Members_add 44 = .ok (.aload_n 0, 1) := by decide +kernel
theorem d_K_Members_add_45 : decode b_K_Members_add 45 = .ok (.getfield 18, 3) := by decide +kernel
theorem d_K_Members_add_48 : decode b_K_Members_add 48 = .ok (.iload 4, 2) := by decide +kernel
theorem d_K_Members_add_50 : decode b_K_Members_add 50 = .ok (.iload_n 3, 1) := by decide +kernel
theorem d_K_Members_add_51 : decode b_K_Members_add 51 = .ok (.iastore, 1) := by decide +kernel
theorem d_K_Members_add_52 : decode b_K_Members_add 52 = .ok (.aload_n 0, 1) := by decide +kernel
theorem d_K_Members_add_53 : decode b_K_Members_add 53 = .ok (.getfield 21, 3) := by decide +kernel
theorem d_K_Members_add_56 : decode b_K_Members_add 56 = .ok (.iload_n 1, 1) := by decide +kernel
theorem d_K_Members_add_57 : decode b_K_Members_add 57 = .ok (.bipush 32, 2) := by decide +kernel
theorem d_K_Members_add_59 : decode b_K_Members_add 59 = .ok (.imul, 1) := by decide +kernel
theorem d_K_Members_add_60 : decode b_K_Members_add 60 = .ok (.iload_n 2, 1) := by decide +kernel
theorem d_K_Members_add_61 : decode b_K_Members_add 61 = .ok (.iadd, 1) := by decide +kernel
theorem d_K_Members_add_62 : decode b_K_Members_add 62 = .ok (.iload 4, 2) := by decide +kernel
theorem d_K_Members_add_64 : decode b_K_Members_add 64 = .ok (.iastore, 1) := by decide +kernel
theorem d_K_Members_add_65 : decode b_K_Members_add 65 = .ok (.aload_n 0, 1) := by decide +kernel
theorem d_K_Members_add_66 : decode b_K_Members_add 66 = .ok (.dup, 1) := by decide +kernel
theorem d_K_Members_add_67 : decode b_K_Members_add 67 = .ok (.getfield 41, 3) := by decide +kernel
theorem d_K_Members_add_70 : decode b_K_Members_add 70 = .ok (.iload 4, 2) := by decide +kernel
theorem d_K_Members_add_72 : decode b_K_Members_add 72 = .ok (.invokestatic 52, 3) := by decide +kernel
theorem d_K_Members_add_75 : decode b_K_Members_add 75 = .ok (.lor, 1) := by decide +kernel
theorem d_K_Members_add_76 : decode b_K_Members_add 76 = .ok (.putfield 41, 3) := by decide +kernel
theorem d_K_Members_add_79 : decode b_K_Members_add 79 = .ok (.iload_n 3, 1) := by decide +kernel
theorem d_K_Members_add_80 : decode b_K_Members_add 80 = .ok (.iconst 1, 1) := by decide +kernel
theorem d_K_Members_add_81 : decode b_K_Members_add 81 = .ok (.if_icmp .ne 17, 3) := by decide +kernel
theorem d_K_Members_add_84 : decode b_K_Members_add 84 = .ok (.aload_n 0, 1) := by decide +kernel
theorem d_K_Members_add_85 : decode b_K_Members_add 85 = .ok (.dup, 1) := by decide +kernel
theorem d_K_Members_add_86 : decode b_K_Members_add 86 = .ok (.getfield 45, 3) := by decide +kernel
theorem d_K_Members_add_89 : decode b_K_Members_add 89 = .ok (.iload 4, 2) := by decide +kernel
theorem d_K_Members_add_91 : decode b_K_Members_add 91 = .ok (.invokestatic 52, 3) := by decide +kernel
theorem d_K_Members_add_94 : decode b_K_Members_add 94 = .ok (.lor, 1) := by decide +kernel
theorem d_K_Members_add_95 : decode b_K_Members_add 95 = .ok (.putfield 45, 3) := by decide +kernel
theorem d_K_Members_add_98 : decode b_K_Members_add 98 = .ok (.iload 4, 2) := by decide +kernel
theorem d_K_Members_add_100 : decode b_K_Members_add 100 = .ok (.ireturn, 1) := by decide +kernel
theorem d_K_Members_reset_0 : decode b_K_Members_reset 0 = .ok (.aload_n 0, 1) := by decide +kernel
theorem d_K_Members_reset_1 : decode b_K_Members_reset 1 = .ok (.getfield 21, 3) := by decide +kernel
theorem d_K_Members_reset_4 : decode b_K_Members_reset 4 = .ok (.bipush (-2), 2) := by decide +kernel
theorem d_K_Members_reset_6 : decode b_K_Members_reset 6 = .ok (.invokestatic 31, 3) := by decide +kernel
theorem d_K_Members_reset_9 : decode b_K_Members_reset 9 = .ok (.aload_n 0, 1) := by decide +kernel
theorem d_K_Members_reset_10 : decode b_K_Members_reset 10 = .ok (.iconst 0, 1) := by decide +kernel
theorem d_K_Members_reset_11 : decode b_K_Members_reset 11 = .ok (.putfield 37, 3) := by decide +kernel
theorem d_K_Members_reset_14 : decode b_K_Members_reset 14 = .ok (.aload_n 0, 1) := by decide +kernel
theorem d_K_Members_reset_15 : decode b_K_Members_reset 15 = .ok (.lconst 0, 1) := by decide +kernel
theorem d_K_Members_reset_16 : decode b_K_Members_reset 16 = .ok (.putfield 41, 3) := by decide +kernel
theorem d_K_Members_reset_19 : decode b_K_Members_reset 19 = .ok (.aload_n 0, 1) := by decide +kernel
theorem d_K_Members_reset_20 : decode b_K_Members_reset 20 = .ok (.lconst 0, 1) := by decide +kernel
theorem d_K_Members_reset_21 : decode b_K_Members_reset 21 = .ok (.putfield 45, 3) := by decide +kernel
theorem d_K_Members_reset_24 : decode b_K_Members_reset 24 = .ok (.aload_n 0, 1) := by decide +kernel
theorem d_K_Members_reset_25 : decode b_K_Members_reset 25 = .ok (.iconst 0, 1) := by decide +kernel
theorem d_K_Members_reset_26 : decode b_K_Members_reset 26 = .ok (.bipush 16, 2) := by decide +kernel
theorem d_K_Members_reset_28 : decode b_K_Members_reset 28 = .ok (.iconst 1, 1) := by decide +kernel
theorem d_K_Members_reset_29 : decode b_K_Members_reset 29 = .ok (.invokevirtual 48, 3) := by decide +kernel
theorem d_K_Members_reset_32 : decode b_K_Members_reset 32 = .ok (.pop, 1) := by decide +kernel
theorem d_K_Members_reset_33 : decode b_K_Members_reset 33 = .ok (.return_, 1) := by decide +kernel
theorem d_K_Members_discard_0 : decode b_K_Members_discard 0 = .ok (.aload_n 0, 1) := by decide +kernel
theorem d_K_Members_discard_1 : decode b_K_Members_discard 1 = .ok (.getfield 21, 3) := by decide +kernel
theorem d_K_Members_discard_4 : decode b_K_Members_discard 4 = .ok (.aload_n 0, 1) := by decide +kernel
theorem d_K_Members_discard_5 : decode b_K_Members_discard 5 = .ok (.getfield 9, 3) := by decide +kernel
theorem d_K_Members_discard_8 : decode b_K_Members_discard 8 = .ok (.iload_n 1, 1) := by decide +kernel
theorem d_K_Members_discard_9 : decode b_K_Members_discard 9 = .ok (.iaload, 1) := by decide +kernel
theorem d_K_Members_discard_10 : decode b_K_Members_discard 10 = .ok (.bipush 32, 2) := by decide +kernel
theorem d_K_Members_discard_12 : decode b_K_Members_discard 12 = .ok (.imul, 1) := by decide +kernel
theorem d_K_Members_discard_13 : decode b_K_Members_discard 13 = .ok (.aload_n 0, 1) := by decide +kernel
theorem d_K_Members_discard_14 : decode b_K_Members_discard 14 = .ok (.getfield 15, 3) := by decide +kernel
theorem d_K_Members_discard_17 : decode b_K_Members_discard 17 = .ok (.iload_n 1, 1) := by decide +kernel
theorem d_K_Members_discard_18 : decode b_K_Members_discard 18 = .ok (.iaload, 1) := by decide +kernel
theorem d_K_Members_discard_19 : decode b_K_Members_discard 19 = .ok (.iadd, 1) := by decide +kernel
theorem d_K_Members_discard_20 : decode b_K_Members_discard 20 = .ok (.bipush (-2), 2) := by decide +kernel
theorem d_K_Members_discard_22 : decode b_K_Members_discard 22 = .ok (.iastore, 1) := by decide +kernel
theorem d_K_Members_discard_23 : decode b_K_Members_discard 23 = .ok (.aload_n 0, 1) := by decide +kernel
theorem d_K_Members_discard_24 : decode b_K_Members_discard 24 = .ok (.dup, 1) := by decide +kernel
theorem d_K_Members_discard_25 : decode b_K_Members_discard 25 = .ok (.getfield 41, 3) := by decide +kernel
theorem d_K_Members_discard_28 : decode b_K_Members_discard 28 = .ok (.iload_n 1, 1) := by decide +kernel
theorem d_K_Members_discard_29 : decode b_K_Members_discard 29 = .ok (.invokestatic 52, 3) := by decide +kernel
theorem d_K_Members_discard_32 : decode b_K_Members_discard 32 = .ok (.ldc2_w 56, 3) := by decide +kernel
theorem d_K_Members_discard_35 : decode b_K_Members_discard 35 = .ok (.lxor, 1) := by decide +kernel
theorem d_K_Members_discard_36 : decode b_K_Members_discard 36 = .ok (.land, 1) := by decide +kernel
theorem d_K_Members_discard_37 : decode b_K_Members_discard 37 = .ok (.putfield 41, 3) := by decide +kernel
theorem d_K_Members_discard_40 : decode b_K_Members_discard 40 = .ok (.aload_n 0, 1) := by decide +kernel
theorem d_K_Members_discard_41 : decode b_K_Members_discard 41 = .ok (.dup, 1) := by decide +kernel
theorem d_K_Members_discard_42 : decode b_K_Members_discard 42 = .ok (.getfield 45, 3) := by decide +kernel
theorem d_K_Members_discard_45 : decode b_K_Members_discard 45 = .ok (.iload_n 1, 1) := by decide +kernel
theorem d_K_Members_discard_46 : decode b_K_Members_discard 46 = .ok (.invokestatic 52, 3) := by decide +kernel
theorem d_K_Members_discard_49 : decode b_K_Members_discard 49 = .ok (.ldc2_w 56, 3) := by decide +kernel
theorem d_K_Members_discard_52 : decode b_K_Members_discard 52 = .ok (.lxor, 1) := by decide +kernel
theorem d_K_Members_discard_53 : decode b_K_Members_discard 53 = .ok (.land, 1) := by decide +kernel
theorem d_K_Members_discard_54 : decode b_K_Members_discard 54 = .ok (.putfield 45, 3) := by decide +kernel
theorem d_K_Members_discard_57 : decode b_K_Members_discard 57 = .ok (.return_, 1) := by decide +kernel
theorem d_K_Members_isAlive_0 : decode b_K_Members_isAlive 0 = .ok (.aload_n 0, 1) := by decide +kernel
theorem d_K_Members_isAlive_1 : decode b_K_Members_isAlive 1 = .ok (.getfield 41, 3) := by decide +kernel
theorem d_K_Members_isAlive_4 : decode b_K_Members_isAlive 4 = .ok (.iload_n 1, 1) := by decide +kernel
theorem d_K_Members_isAlive_5 : decode b_K_Members_isAlive 5 = .ok (.invokestatic 66, 3) := by decide +kernel
theorem d_K_Members_isAlive_8 : decode b_K_Members_isAlive 8 = .ok (.ireturn, 1) := by decide +kernel
theorem d_K_Members_discardAllOf_0 : decode b_K_Members_discardAllOf 0 = .ok (.iconst 1, 1) := by decide +kernel
theorem d_K_Members_discardAllOf_1 : decode b_K_Members_discardAllOf 1 = .ok (.istore_n 2, 1) := by decide +kernel
theorem d_K_Members_discardAllOf_2 : decode b_K_Members_discardAllOf 2 = .ok (.iload_n 2, 1) := by decide +kernel
theorem d_K_Members_discardAllOf_3 : decode b_K_Members_discardAllOf 3 = .ok (.aload_n 0, 1) := by decide +kernel
theorem d_K_Members_discardAllOf_4 : decode b_K_Members_discardAllOf 4 = .ok (.getfield 37, 3) := by decide +kernel
theorem d_K_Members_discardAllOf_7 : decode b_K_Members_discardAllOf 7 = .ok (.if_icmp .ge 32, 3) := by decide +kernel
theorem d_K_Members_discardAllOf_10 : decode b_K_Members_discardAllOf 10 = .ok (.aload_n 0, 1) := by decide +kernel
theorem d_K_Members_discardAllOf_11 : decode b_K_Members_discardAllOf 11 = .ok (.iload_n 2, 1) := by decide +kernel
theorem d_K_Members_discardAllOf_12 : decode b_K_Members_discardAllOf 12 = .ok (.invokevirtual 58, 3) := by decide +kernel
theorem d_K_Members_discardAllOf_15 : decode b_K_Members_discardAllOf 15 = .ok (.ifCond .eq 18, 3) := by decide +kernel
theorem d_K_Members_discardAllOf_18 : decode b_K_Members_discardAllOf 18 = .ok (.aload_n 0, 1) := by decide +kernel
theorem d_K_Members_discardAllOf_19 : decode b_K_Members_discardAllOf 19 = .ok (.getfield 9, 3) := by decide +kernel
theorem d_K_Members_discardAllOf_22 : decode b_K_Members_discardAllOf 22 = .ok (.iload_n 2, 1) := by decide +kernel
theorem d_K_Members_discardAllOf_23 : decode b_K_Members_discardAllOf 23 = .ok (.iaload, 1) := by decide +kernel
theorem d_K_Members_discardAllOf_24 : decode b_K_Members_discardAllOf 24 = .ok (.iload_n 1, 1) := by decide +kernel
theorem d_K_Members_discardAllOf_25 : decode b_K_Members_discardAllOf 25 = .ok (.if_icmp .ne 8, 3) := by decide +kernel
theorem d_K_Members_discardAllOf_28 : decode b_K_Members_discardAllOf 28 = .ok (.aload_n 0, 1) := by decide +kernel
theorem d_K_Members_discardAllOf_29 : decode b_K_Members_discardAllOf 29 = .ok (.iload_n 2, 1) := by decide +kernel
theorem d_K_Members_discardAllOf_30 : decode b_K_Members_discardAllOf 30 = .ok (.invokevirtual 62, 3) := by decide +kernel
theorem d_K_Members_discardAllOf_33 : decode b_K_Members_discardAllOf 33 = .ok (.iinc 2 1, 3) := by decide +kernel
theorem d_K_Members_discardAllOf_36 : decode b_K_Members_discardAllOf 36 = .ok (.goto (-34), 3) := by decide +kernel
theorem d_K_Members_discardAllOf_39 : decode b_K_Members_discardAllOf 39 = .ok (.return_, 1) := by decide +kernel
theorem d_K_Members_hasFlag_0 : decode b_K_Members_hasFlag 0 = .ok (.aload_n 0, 1) := by decide +kernel
theorem d_K_Members_hasFlag_1 : decode b_K_Members_hasFlag 1 = .ok (.getfield 18, 3) := by decide +kernel
theorem d_K_Members_hasFlag_4 : decode b_K_Members_hasFlag 4 = .ok (.iload_n 1, 1) := by decide +kernel
theorem d_K_Members_hasFlag_5 : decode b_K_Members_hasFlag 5 = .ok (.iaload, 1) := by decide +kernel
theorem d_K_Members_hasFlag_6 : decode b_K_Members_hasFlag 6 = .ok (.iload_n 2, 1) := by decide +kernel
theorem d_K_Members_hasFlag_7 : decode b_K_Members_hasFlag 7 = .ok (.iand, 1) := by decide +kernel
theorem d_K_Members_hasFlag_8 : decode b_K_Members_hasFlag 8 = .ok (.ifCond .eq 7, 3) := by decide +kernel
theorem d_K_Members_hasFlag_11 : decode b_K_Members_hasFlag 11 = .ok (.iconst 1, 1) := by decide +kernel
theorem d_K_Members_hasFlag_12 : decode b_K_Members_hasFlag 12 = .ok (.goto 4, 3) := by decide +kernel
theorem d_K_Members_hasFlag_15 : decode b_K_Members_hasFlag 15 = .ok (.iconst 0, 1) := by decide +kernel
theorem d_K_Members_hasFlag_16 : decode b_K_Members_hasFlag 16 = .ok (.ireturn, 1) := by decide +kernel
theorem d_K_Members_at_0 : decode b_K_Members_at 0 = .ok (.aload_n 0, 1) := by decide +kernel
theorem d_K_Members_at_1 : decode b_K_Members_at 1 = .ok (.getfield 21, 3) := by decide +kernel
theorem d_K_Members_at_4 : decode b_K_Members_at 4 = .ok (.iload_n 1, 1) := by decide +kernel
theorem d_K_Members_at_5 : decode b_K_Members_at 5 = .ok (.bipush 32, 2) := by decide +kernel
theorem d_K_Members_at_7 : decode b_K_Members_at 7 = .ok (.imul, 1) := by decide +kernel
theorem d_K_Members_at_8 : decode b_K_Members_at 8 = .ok (.iload_n 2, 1) := by decide +kernel
theorem d_K_Members_at_9 : decode b_K_Members_at 9 = .ok (.iadd, 1) := by decide +kernel
theorem d_K_Members_at_10 : decode b_K_Members_at 10 = .ok (.iaload, 1) := by decide +kernel
theorem d_K_Members_at_11 : decode b_K_Members_at 11 = .ok (.ireturn, 1) := by decide +kernel
theorem d_K_Members_leastOfFaces_0 : decode b_K_Members_leastOfFaces 0 = .ok (.bipush (-2), 2) := by decide +kernel
theorem d_K_Members_leastOfFaces_2 : decode b_K_Members_leastOfFaces 2 = .ok (.istore 6, 2) := by decide +kernel
theorem d_K_Members_leastOfFaces_4 : decode b_K_Members_leastOfFaces 4 = .ok (.iconst 0, 1) := by decide +kernel
theorem d_K_Members_leastOfFaces_5 : decode b_K_Members_leastOfFaces 5 = .ok (.istore 7, 2) := by decide +kernel
theorem d_K_Members_leastOfFaces_7 : decode b_K_Members_leastOfFaces 7 = .ok (.iload 7, 2) := by decide +kernel
theorem d_K_Members_leastOfFaces_9 : decode b_K_Members_leastOfFaces 9 = .ok (.bipush 10, 2) := by decide +kernel
theorem d_K_Members_leastOfFaces_11 : decode b_K_Members_leastOfFaces 11 = .ok (.if_icmp .ge 63, 3) := by decide +kernel
theorem d_K_Members_leastOfFaces_14 : decode b_K_Members_leastOfFaces 14 = .ok (.lload_n 1, 1) := by decide +kernel
theorem d_K_Members_leastOfFaces_15 : decode b_K_Members_leastOfFaces 15 = .ok (.iload 7, 2) := by decide +kernel
theorem d_K_Members_leastOfFaces_17 : decode b_K_Members_leastOfFaces 17 = .ok (.invokestatic 66, 3) := by decide +kernel
theorem d_K_Members_leastOfFaces_20 : decode b_K_Members_leastOfFaces 20 = .ok (.ifCond .eq 48, 3) := by decide +kernel
theorem d_K_Members_leastOfFaces_23 : decode b_K_Members_leastOfFaces 23 = .ok (.lload 4, 2) := by decide +kernel
theorem d_K_Members_leastOfFaces_25 : decode b_K_Members_leastOfFaces 25 = .ok (.aload_n 0, 1) := by decide +kernel
theorem d_K_Members_leastOfFaces_26 : decode b_K_Members_leastOfFaces 26 = .ok (.iload 7, 2) := by decide +kernel
theorem d_K_Members_leastOfFaces_28 : decode b_K_Members_leastOfFaces 28 = .ok (.iload_n 3, 1) := by decide +kernel
theorem d_K_Members_leastOfFaces_29 : decode b_K_Members_leastOfFaces 29 = .ok (.invokevirtual 79, 3) := by decide +kernel
theorem d_K_Members_leastOfFaces_32 : decode b_K_Members_leastOfFaces 32 = .ok (.invokestatic 66, 3) := by decide +kernel
theorem d_K_Members_leastOfFaces_35 : decode b_K_Members_leastOfFaces 35 = .ok (.ifCond .eq 33, 3) := by decide +kernel
theorem d_K_Members_leastOfFaces_38 : decode b_K_Members_leastOfFaces 38 = .ok (.aload_n 0, 1) := by decide +kernel
theorem d_K_Members_leastOfFaces_39 : decode b_K_Members_leastOfFaces 39 = .ok (.iload 7, 2) := by decide +kernel
theorem d_K_Members_leastOfFaces_41 : decode b_K_Members_leastOfFaces 41 = .ok (.iload_n 3, 1) := by decide +kernel
theorem d_K_Members_leastOfFaces_42 : decode b_K_Members_leastOfFaces 42 = .ok (.invokevirtual 79, 3) := by decide +kernel
theorem d_K_Members_leastOfFaces_45 : decode b_K_Members_leastOfFaces 45 = .ok (.istore 8, 2) := by decide +kernel
theorem d_K_Members_leastOfFaces_47 : decode b_K_Members_leastOfFaces 47 = .ok (.iload 6, 2) := by decide +kernel
theorem d_K_Members_leastOfFaces_49 : decode b_K_Members_leastOfFaces 49 = .ok (.bipush (-2), 2) := by decide +kernel
theorem d_K_Members_leastOfFaces_51 : decode b_K_Members_leastOfFaces 51 = .ok (.if_icmp .ne 8, 3) := by decide +kernel
theorem d_K_Members_leastOfFaces_54 : decode b_K_Members_leastOfFaces 54 = .ok (.iload 8, 2) := by decide +kernel
theorem d_K_Members_leastOfFaces_56 : decode b_K_Members_leastOfFaces 56 = .ok (.goto 10, 3) := by decide +kernel
theorem d_K_Members_leastOfFaces_59 : decode b_K_Members_leastOfFaces 59 = .ok (.iload 6, 2) := by decide +kernel
theorem d_K_Members_leastOfFaces_61 : decode b_K_Members_leastOfFaces 61 = .ok (.iload 8, 2) := by decide +kernel
theorem d_K_Members_leastOfFaces_63 : decode b_K_Members_leastOfFaces 63 = .ok (.invokestatic 93, 3) := by decide +kernel
theorem d_K_Members_leastOfFaces_66 : decode b_K_Members_leastOfFaces 66 = .ok (.istore 6, 2) := by decide +kernel
theorem d_K_Members_leastOfFaces_68 : decode b_K_Members_leastOfFaces 68 = .ok (.iinc 7 1, 3) := by decide +kernel
theorem d_K_Members_leastOfFaces_71 : decode b_K_Members_leastOfFaces 71 = .ok (.goto (-64), 3) := by decide +kernel
theorem d_K_Members_leastOfFaces_74 : decode b_K_Members_leastOfFaces 74 = .ok (.iload 6, 2) := by decide +kernel
theorem d_K_Members_leastOfFaces_76 : decode b_K_Members_leastOfFaces 76 = .ok (.ireturn, 1) := by decide +kernel
theorem d_K_Members_find_0 : decode b_K_Members_find 0 = .ok (.aload_n 0, 1) := by decide +kernel
theorem d_K_Members_find_1 : decode b_K_Members_find 1 = .ok (.getfield 24, 3) := by decide +kernel
theorem d_K_Members_find_4 : decode b_K_Members_find 4 = .ok (.getfield 70, 3) := by decide +kernel
theorem d_K_Members_find_7 : decode b_K_Members_find 7 = .ok (.iload_n 1, 1) := by decide +kernel
theorem d_K_Members_find_8 : decode b_K_Members_find 8 = .ok (.invokestatic 66, 3) := by decide +kernel
theorem d_K_Members_find_11 : decode b_K_Members_find 11 = .ok (.ifCond .ne 6, 3) := by decide +kernel
theorem d_K_Members_find_14 : decode b_K_Members_find 14 = .ok (.bipush (-2), 2) := by decide +kernel
theorem d_K_Members_find_16 : decode b_K_Members_find 16 = .ok (.ireturn, 1) := by decide +kernel
theorem d_K_Members_find_17 : decode b_K_Members_find 17 = .ok (.iload_n 1, 1) := by decide +kernel
theorem d_K_Members_find_18 : decode b_K_Members_find 18 = .ok (.istore 5, 2) := by decide +kernel
theorem d_K_Members_find_20 : decode b_K_Members_find 20 = .ok (.iload 5, 2) := by decide +kernel
theorem d_K_Members_find_22 : decode b_K_Members_find 22 = .ok (.ifCond .lt 48, 3) := by decide +kernel
theorem d_K_Members_find_25 : decode b_K_Members_find 25 = .ok (.aload_n 0, 1) := by decide +kernel
theorem d_K_Members_find_26 : decode b_K_Members_find 26 = .ok (.getfield 24, 3) := by decide +kernel
theorem d_K_Members_find_29 : decode b_K_Members_find 29 = .ok (.getfield 75, 3) := by decide +kernel
theorem d_K_Members_find_32 : decode b_K_Members_find 32 = .ok (.iload_n 1, 1) := by decide +kernel
theorem d_K_Members_find_33 : decode b_K_Members_find 33 = .ok (.laload, 1) := by decide +kernel
theorem d_K_Members_find_34 : decode b_K_Members_find 34 = .ok (.iload 5, 2) := by decide +kernel
theorem d_K_Members_find_36 : decode b_K_Members_find 36 = .ok (.invokestatic 66, 3) := by decide +kernel
theorem d_K_Members_find_39 : decode b_K_Members_find 39 = .ok (.ifCond .eq 25, 3) := by decide +kernel
theorem d_K_Members_find_42 : decode b_K_Members_find 42 = .ok (.lload_n 3, 1) := by decide +kernel
theorem d_K_Members_find_43 : decode b_K_Members_find 43 = .ok (.aload_n 0, 1) := by decide +kernel
theorem d_K_Members_find_44 : decode b_K_Members_find 44 = .ok (.iload 5, 2) := by decide +kernel
theorem d_K_Members_find_46 : decode b_K_Members_find 46 = .ok (.iload_n 2, 1) := by decide +kernel
theorem d_K_Members_find_47 : decode b_K_Members_find 47 = .ok (.invokevirtual 79, 3) := by decide +kernel
theorem d_K_Members_find_50 : decode b_K_Members_find 50 = .ok (.invokestatic 66, 3) := by decide +kernel
theorem d_K_Members_find_53 : decode b_K_Members_find 53 = .ok (.ifCond .eq 11, 3) := by decide +kernel
theorem d_K_Members_find_56 : decode b_K_Members_find 56 = .ok (.aload_n 0, 1) := by decide +kernel
theorem d_K_Members_find_57 : decode b_K_Members_find 57 = .ok (.iload 5, 2) := by decide +kernel
theorem d_K_Members_find_59 : decode b_K_Members_find 59 = .ok (.iload_n 2, 1) := by decide +kernel
theorem d_K_Members_find_60 : decode b_K_Members_find 60 = .ok (.invokevirtual 79, 3) := by decide +kernel
theorem d_K_Members_find_63 : decode b_K_Members_find 63 = .ok (.ireturn, 1) := by decide +kernel
theorem d_K_Members_find_64 : decode b_K_Members_find 64 = .ok (.iinc 5 (-1), 3) := by decide +kernel
theorem d_K_Members_find_67 : decode b_K_Members_find 67 = .ok (.goto (-47), 3) := by decide +kernel
theorem d_K_Members_find_70 : decode b_K_Members_find 70 = .ok (.aload_n 0, 1) := by decide +kernel
theorem d_K_Members_find_71 : decode b_K_Members_find 71 = .ok (.aload_n 0, 1) := by decide +kernel
theorem d_K_Members_find_72 : decode b_K_Members_find 72 = .ok (.getfield 24, 3) := by decide +kernel
theorem d_K_Members_find_75 : decode b_K_Members_find 75 = .ok (.getfield 83, 3) := by decide +kernel
theorem d_K_Members_find_78 : decode b_K_Members_find 78 = .ok (.iload_n 1, 1) := by decide +kernel
theorem d_K_Members_find_79 : decode b_K_Members_find 79 = .ok (.laload, 1) := by decide +kernel
theorem d_K_Members_find_80 : decode b_K_Members_find 80 = .ok (.aload_n 0, 1) := by decide +kernel
theorem d_K_Members_find_81 : decode b_K_Members_find 81 = .ok (.getfield 24, 3) := by decide +kernel
theorem d_K_Members_find_84 : decode b_K_Members_find 84 = .ok (.getfield 86, 3) := by decide +kernel
theorem d_K_Members_find_87 : decode b_K_Members_find 87 = .ok (.land, 1) := by decide +kernel
theorem d_K_Members_find_88 : decode b_K_Members_find 88 = .ok (.iload_n 2, 1) := by decide +kernel
theorem d_K_Members_find_89 : decode b_K_Members_find 89 = .ok (.lload_n 3, 1) := by decide +kernel
theorem d_K_Members_find_90 : decode b_K_Members_find 90 = .ok (.invokevirtual 89, 3) := by decide +kernel
theorem d_K_Members_find_93 : decode b_K_Members_find 93 = .ok (.ireturn, 1) := by decide +kernel
theorem d_K_SF_signature_0 : decode b_K_SF_signature 0 = .ok (.iload_n 0, 1) := by decide +kernel
theorem d_K_SF_signature_1 : decode b_K_SF_signature 1 = .ok (.ifCond .eq 8, 3) := by decide +kernel
theorem d_K_SF_signature_4 : decode b_K_SF_signature 4 = .ok (.bipush 16, 2) := by decide +kernel
theorem d_K_SF_signature_6 : decode b_K_SF_signature 6 = .ok (.goto 4, 3) := by decide +kernel
theorem d_K_SF_signature_9 : decode b_K_SF_signature 9 = .ok (.iconst 0, 1) := by decide +kernel
theorem d_K_SF_signature_10 : decode b_K_SF_signature 10 = .ok (.iload_n 1, 1) := by decide +kernel
theorem d_K_SF_signature_11 : decode b_K_SF_signature 11 = .ok (.iconst 2, 1) := by decide +kernel
theorem d_K_SF_signature_12 : decode b_K_SF_signature 12 = .ok (.imul, 1) := by decide +kernel
theorem d_K_SF_signature_13 : decode b_K_SF_signature 13 = .ok (.iadd, 1) := by decide +kernel
theorem d_K_SF_signature_14 : decode b_K_SF_signature 14 = .ok (.iload_n 2, 1) := by decide +kernel
theorem d_K_SF_signature_15 : decode b_K_SF_signature 15 = .ok (.iadd, 1) := by decide +kernel
theorem d_K_SF_signature_16 : decode b_K_SF_signature 16 = .ok (.ireturn, 1) := by decide +kernel
theorem d_K_Names_keepWhatTheLibraryKnows_0 : decode b_K_Names_keepWhatTheLibraryKnows 0 = .ok (.aload_n 0, 1) := by decide +kernel
theorem d_K_Names_keepWhatTheLibraryKnows_1 : decode b_K_Names_keepWhatTheLibraryKnows 1 = .ok (.iconst 0, 1) := by decide +kernel
theorem d_K_Names_keepWhatTheLibraryKnows_2 : decode b_K_Names_keepWhatTheLibraryKnows 2 = .ok (.invokestatic 103, 3) := by decide +kernel
theorem d_K_Names_keepWhatTheLibraryKnows_5 : decode b_K_Names_keepWhatTheLibraryKnows 5 = .ok (.putfield 57, 3) := by decide +kernel
theorem d_K_Names_keepWhatTheLibraryKnows_8 : decode b_K_Names_keepWhatTheLibraryKnows 8 = .ok (.aload_n 0, 1) := by decide +kernel
theorem d_K_Names_keepWhatTheLibraryKnows_9 : decode b_K_Names_keepWhatTheLibraryKnows 9 = .ok (.bipush 16, 2) := by decide +kernel
theorem d_K_Names_keepWhatTheLibraryKnows_11 : decode b_K_Names_keepWhatTheLibraryKnows 11 = .ok (.invokestatic 103, 3) := by decide +kernel
theorem d_K_Names_keepWhatTheLibraryKnows_14 : decode b_K_Names_keepWhatTheLibraryKnows 14 = .ok (.putfield 64, 3) := by decide +kernel
theorem d_K_Names_keepWhatTheLibraryKnows_17 : decode b_K_Names_keepWhatTheLibraryKnows 17 = .ok (.iconst 0, 1) := by decide +kernel
theorem d_K_Names_keepWhatTheLibraryKnows_18 : decode b_K_Names_keepWhatTheLibraryKnows 18 = .ok (.istore_n 1, 1) := by decide +kernel
theorem d_K_Names_keepWhatTheLibraryKnows_19 : decode b_K_Names_keepWhatTheLibraryKnows 19 = .ok (.iload_n 1, 1) := by decide +kernel
theorem d_K_Names_keepWhatTheLibraryKnows_20 : decode b_K_Names_keepWhatTheLibraryKnows 20 = .ok (.iconst 2, 1) := by decide +kernel
theorem d_K_Names_keepWhatTheLibraryKnows_21 : decode b_K_Names_keepWhatTheLibraryKnows 21 = .ok (.if_icmp .ge 47, 3) := by decide +kernel
theorem d_K_Names_keepWhatTheLibraryKnows_24 : decode b_K_Names_keepWhatTheLibraryKnows 24 = .ok (.aload_n 0, 1) := by decide +kernel
theorem d_K_Names_keepWhatTheLibraryKnows_25 : decode b_K_Names_keepWhatTheLibraryKnows 25 = .ok (.dup, 1) := by decide +kernel
theorem d_K_Names_keepWhatTheLibraryKnows_26 : decode b_K_Names_keepWhatTheLibraryKnows 26 = .ok (.getfield 64, 3) := by decide +kernel
theorem d_K_Names_keepWhatTheLibraryKnows_29 : decode b_K_Names_keepWhatTheLibraryKnows 29 = .ok (.iconst 1, 1) := by decide +kernel
theorem d_K_Names_keepWhatTheLibraryKnows_30 : decode b_K_Names_keepWhatTheLibraryKnows 30 = .ok (.bipush 6, 2) := by decide +kernel
theorem d_K_Names_keepWhatTheLibraryKnows_32 : decode b_K_Names_keepWhatTheLibraryKnows 32 = .ok (.iload_n 1, 1) := by decide +kernel
theorem d_K_Names_keepWhatTheLibraryKnows_33 : decode b_K_Names_keepWhatTheLibraryKnows 33 = .ok (.invokestatic 107, 3) := by decide +kernel
theorem d_K_Names_keepWhatTheLibraryKnows_36 : decode b_K_Names_keepWhatTheLibraryKnows 36 = .ok (.invokestatic 103, 3) := by decide +kernel
theorem d_K_Names_keepWhatTheLibraryKnows_39 : decode b_K_Names_keepWhatTheLibraryKnows 39 = .ok (.lor, 1) := by decide +kernel
theorem d_K_Names_keepWhatTheLibraryKnows_40 : decode b_K_Names_keepWhatTheLibraryKnows 40 = .ok (.putfield 64, 3) := by decide +kernel
theorem d_K_Names_keepWhatTheLibraryKnows_43 : decode b_K_Names_keepWhatTheLibraryKnows 43 = .ok (.aload_n 0, 1) := by decide +kernel
theorem d_K_Names_keepWhatTheLibraryKnows_44 : decode b_K_Names_keepWhatTheLibraryKnows 44 = .ok (.dup, 1) := by decide +kernel
theorem d_K_Names_keepWhatTheLibraryKnows_45 : decode b_K_Names_keepWhatTheLibraryKnows 45 = .ok (.getfield 64, 3) := by decide +kernel
theorem d_K_Names_keepWhatTheLibraryKnows_48 : decode b_K_Names_keepWhatTheLibraryKnows 48 = .ok (.iconst 1, 1) := by decide +kernel
theorem d_K_Names_keepWhatTheLibraryKnows_49 : decode b_K_Names_keepWhatTheLibraryKnows 49 = .ok (.bipush 7, 2) := by decide +kernel
theorem d_K_Names_keepWhatTheLibraryKnows_51 : decode b_K_Names_keepWhatTheLibraryKnows 51 = .ok (.iload_n 1, 1) := by decide +kernel
theorem d_K_Names_keepWhatTheLibraryKnows_52 : decode b_K_Names_keepWhatTheLibraryKnows 52 = .ok (.invokestatic 107, 3) := by decide +kernel
theorem d_K_Names_keepWhatTheLibraryKnows_55 : decode b_K_Names_keepWhatTheLibraryKnows 55 = .ok (.invokestatic 103, 3) := by decide +kernel
theorem d_K_Names_keepWhatTheLibraryKnows_58 : decode b_K_Names_keepWhatTheLibraryKnows 58 = .ok (.lor, 1) := by decide +kernel
theorem d_K_Names_keepWhatTheLibraryKnows_59 : decode b_K_Names_keepWhatTheLibraryKnows 59 = .ok (.putfield 64, 3) := by decide +kernel
theorem d_K_Names_keepWhatTheLibraryKnows_62 : decode b_K_Names_keepWhatTheLibraryKnows 62 = .ok (.iinc 1 1, 3) := by decide +kernel
theorem d_K_Names_keepWhatTheLibraryKnows_65 : decode b_K_Names_keepWhatTheLibraryKnows 65 = .ok (.goto (-46), 3) := by decide +kernel
theorem d_K_Names_keepWhatTheLibraryKnows_68 : decode b_K_Names_keepWhatTheLibraryKnows 68 = .ok (.return_, 1) := by decide +kernel
theorem d_K_Needs_ofNeededClasses_0 : decode b_K_Needs_ofNeededClasses 0 = .ok (.lload_n 1, 1) := by decide +kernel
theorem d_K_Needs_ofNeededClasses_1 : decode b_K_Needs_ofNeededClasses 1 = .ok (.lstore_n 3, 1) := by decide +kernel
theorem d_K_Needs_ofNeededClasses_2 : decode b_K_Needs_ofNeededClasses 2 = .ok (.iconst 0, 1) := by decide +kernel
theorem d_K_Needs_ofNeededClasses_3 : decode b_K_Needs_ofNeededClasses 3 = .ok (.istore 5, 2) := by decide +kernel
theorem d_K_Needs_ofNeededClasses_5 : decode b_K_Needs_ofNeededClasses 5 = .ok (.iload 5, 2) := by decide +kernel
theorem d_K_Needs_ofNeededClasses_7 : decode b_K_Needs_ofNeededClasses 7 = .ok (.aload_n 0, 1) := by decide +kernel
theorem d_K_Needs_ofNeededClasses_8 : decode b_K_Needs_ofNeededClasses 8 = .ok (.getfield 15, 3) := by decide +kernel
theorem d_K_Needs_ofNeededClasses_11 : decode b_K_Needs_ofNeededClasses 11 = .ok (.getfield 135, 3) := by decide +kernel
theorem d_K_Needs_ofNeededClasses_14 : decode b_K_Needs_ofNeededClasses 14 = .ok (.if_icmp .ge 41, 3) := by decide +kernel
theorem d_K_Needs_ofNeededClasses_17 : decode b_K_Needs_ofNeededClasses 17 = .ok (.aload_n 0, 1) := by decide +kernel
theorem d_K_Needs_ofNeededClasses_18 : decode b_K_Needs_ofNeededClasses 18 = .ok (.getfield 31, 3) := by decide +kernel
theorem d_K_Needs_ofNeededClasses_21 : decode b_K_Needs_ofNeededClasses 21 = .ok (.aload_n 0, 1) := by decide +kernel
theorem d_K_Needs_ofNeededClasses_22 : decode b_K_Needs_ofNeededClasses 22 = .ok (.getfield 15, 3) := by decide +kernel
theorem d_K_Needs_ofNeededClasses_25 : decode b_K_Needs_ofNeededClasses 25 = .ok (.getfield 136, 3) := by decide +kernel
theorem d_K_Needs_ofNeededClasses_28 : decode b_K_Needs_ofNeededClasses 28 = .ok (.iload 5, 2) := by decide +kernel
theorem d_K_Needs_ofNeededClasses_30 : decode b_K_Needs_ofNeededClasses 30 = .ok (.iaload, 1) := by decide +kernel
theorem d_K_Needs_ofNeededClasses_31 : decode b_K_Needs_ofNeededClasses 31 = .ok (.invokestatic 77, 3) := by decide +kernel
theorem d_K_Needs_ofNeededClasses_34 : decode b_K_Needs_ofNeededClasses 34 = .ok (.ifCond .ne 15, 3) := by decide +kernel
theorem d_K_Needs_ofNeededClasses_37 : decode b_K_Needs_ofNeededClasses 37 = .ok (.lload_n 3, 1) := by decide +kernel
theorem d_K_Needs_ofNeededClasses_38 : decode b_K_Needs_ofNeededClasses 38 = .ok (.iload 5, 2) := by decide +kernel
theorem d_K_Needs_ofNeededClasses_40 : decode b_K_Needs_ofNeededClasses 40 = .ok (.invokestatic 27, 3) := by decide +kernel
theorem d_K_Needs_ofNeededClasses_43 : decode b_K_Needs_ofNeededClasses 43 = .ok (.ldc2_w 139, 3) := by decide +kernel
theorem d_K_Needs_ofNeededClasses_46 : decode b_K_Needs_ofNeededClasses 46 = .ok (.lxor, 1) := by decide +kernel
theorem d_K_Needs_ofNeededClasses_47 : decode b_K_Needs_ofNeededClasses 47 = .ok (.land, 1) := by decide +kernel
theorem d_K_Needs_ofNeededClasses_48 : decode b_K_Needs_ofNeededClasses 48 = .ok (.lstore_n 3, 1) := by decide +kernel
theorem d_K_Needs_ofNeededClasses_49 : decode b_K_Needs_ofNeededClasses 49 = .ok (.iinc 5 1, 3) := by decide +kernel
theorem d_K_Needs_ofNeededClasses_52 : decode b_K_Needs_ofNeededClasses 52 = .ok (.goto (-47), 3) := by decide +kernel
theorem d_K_Needs_ofNeededClasses_55 : decode b_K_Needs_ofNeededClasses 55 = .ok (.lload_n 3, 1) := by decide +kernel
theorem d_K_Needs_ofNeededClasses_56 : decode b_K_Needs_ofNeededClasses 56 = .ok (.lreturn, 1) := by decide +kernel
theorem d_K_Names_signaturesOf_0 : decode b_K_Names_signaturesOf 0 = .ok (.lconst 0, 1) := by decide +kernel
theorem d_K_Names_signaturesOf_1 : decode b_K_Names_signaturesOf 1 = .ok (.lstore_n 3, 1) := by decide +kernel
theorem d_K_Names_signaturesOf_2 : decode b_K_Names_signaturesOf 2 = .ok (.iconst 0, 1) := by decide +kernel
theorem d_K_Names_signaturesOf_3 : decode b_K_Names_signaturesOf 3 = .ok (.istore 5, 2) := by decide +kernel
theorem d_K_Names_signaturesOf_5 : decode b_K_Names_signaturesOf 5 = .ok (.iload 5, 2) := by decide +kernel
theorem d_K_Names_signaturesOf_7 : decode b_K_Names_signaturesOf 7 = .ok (.aload_n 0, 1) := by decide +kernel
theorem d_K_Names_signaturesOf_8 : decode b_K_Names_signaturesOf 8 = .ok (.getfield 22, 3) := by decide +kernel
theorem d_K_Names_signaturesOf_11 : decode b_K_Names_signaturesOf 11 = .ok (.getfield 111, 3) := by decide +kernel
theorem d_K_Names_signaturesOf_14 : decode b_K_Names_signaturesOf 14 = .ok (.if_icmp .ge 34, 3) := by decide +kernel
theorem d_K_Names_signaturesOf_17 : decode b_K_Names_signaturesOf 17 = .ok (.lload_n 1, 1) := by decide +kernel
theorem d_K_Names_signaturesOf_18 : decode b_K_Names_signaturesOf 18 = .ok (.iload 5, 2) := by decide +kernel
theorem d_K_Names_signaturesOf_20 : decode b_K_Names_signaturesOf 20 = .ok (.invokestatic 76, 3) := by decide +kernel
theorem d_K_Names_signaturesOf_23 : decode b_K_Names_signaturesOf 23 = .ok (.ifCond .eq 19, 3) := by decide +kernel
theorem d_K_Names_signaturesOf_26 : decode b_K_Names_signaturesOf 26 = .ok (.lload_n 3, 1) := by decide +kernel
theorem d_K_Names_signaturesOf_27 : decode b_K_Names_signaturesOf 27 = .ok (.aload_n 0, 1) := by decide +kernel
theorem d_K_Names_signaturesOf_28 : decode b_K_Names_signaturesOf 28 = .ok (.getfield 22, 3) := by decide +kernel
theorem d_K_Names_signaturesOf_31 : decode b_K_Names_signaturesOf 31 = .ok (.getfield 114, 3) := by decide +kernel
theorem d_K_Names_signaturesOf_34 : decode b_K_Names_signaturesOf 34 = .ok (.iload 5, 2) := by decide +kernel
theorem d_K_Names_signaturesOf_36 : decode b_K_Names_signaturesOf 36 = .ok (.iaload, 1) := by decide +kernel
theorem d_K_Names_signaturesOf_37 : decode b_K_Names_signaturesOf 37 = .ok (.invokestatic 103, 3) := by decide +kernel
theorem d_K_Names_signaturesOf_40 : decode b_K_Names_signaturesOf 40 = .ok (.lor, 1) := by decide +kernel
theorem d_K_Names_signaturesOf_41 : decode b_K_Names_signaturesOf 41 = .ok (.lstore_n 3, 1) := by decide +kernel
theorem d_K_Names_signaturesOf_42 : decode b_K_Names_signaturesOf 42 = .ok (.iinc 5 1, 3) := by decide +kernel
theorem d_K_Names_signaturesOf_45 : decode b_K_Names_signaturesOf 45 = .ok (.goto (-40), 3) := by decide +kernel
theorem d_K_Names_signaturesOf_48 : decode b_K_Names_signaturesOf 48 = .ok (.lload_n 3, 1) := by decide +kernel
theorem d_K_Names_signaturesOf_49 : decode b_K_Names_signaturesOf 49 = .ok (.lreturn, 1) := by decide +kernel
theorem d_K_Names_giveNames_0 : decode b_K_Names_giveNames 0 = .ok (.bipush 97, 2) := by decide +kernel
theorem d_K_Names_giveNames_2 : decode b_K_Names_giveNames 2 = .ok (.istore_n 1, 1) := by decide +kernel
theorem d_K_Names_giveNames_3 : decode b_K_Names_giveNames 3 = .ok (.iconst 0, 1) := by decide +kernel
theorem d_K_Names_giveNames_4 : decode b_K_Names_giveNames 4 = .ok (.istore_n 2, 1) := by decide +kernel
theorem d_K_Names_giveNames_5 : decode b_K_Names_giveNames 5 = .ok (.iload_n 2, 1) := by decide +kernel
theorem d_K_Names_giveNames_6 : decode b_K_Names_giveNames 6 = .ok (.bipush 10, 2) := by decide +kernel
theorem d_K_Names_giveNames_8 : decode b_K_Names_giveNames 8 = .ok (.if_icmp .ge 43, 3) := by decide +kernel
theorem d_K_Names_giveNames_11 : decode b_K_Names_giveNames 11 = .ok (.aload_n 0, 1) := by decide +kernel
theorem d_K_Names_giveNames_12 : decode b_K_Names_giveNames 12 = .ok (.getfield 30, 3) := by decide +kernel
theorem d_K_Names_giveNames_15 : decode b_K_Names_giveNames 15 = .ok (.getfield 117, 3) := by decide +kernel
theorem d_K_Names_giveNames_18 : decode b_K_Names_giveNames 18 = .ok (.aload_n 0, 1) := by decide +kernel
theorem d_K_Names_giveNames_19 : decode b_K_Names_giveNames 19 = .ok (.getfield 57, 3) := by decide +kernel
theorem d_K_Names_giveNames_22 : decode b_K_Names_giveNames 22 = .ok (.ldc2_w 120, 3) := by decide +kernel
theorem d_K_Names_giveNames_25 : decode b_K_Names_giveNames 25 = .ok (.lxor, 1) := by decide +kernel
theorem d_K_Names_giveNames_26 : decode b_K_Names_giveNames 26 = .ok (.land, 1) := by decide +kernel
theorem d_K_Names_giveNames_27 : decode b_K_Names_giveNames 27 = .ok (.iload_n 2, 1) := by decide +kernel
theorem d_K_Names_giveNames_28 : decode b_K_Names_giveNames 28 = .ok (.invokestatic 76, 3) := by decide +kernel
theorem d_K_Names_giveNames_31 : decode b_K_Names_giveNames 31 = .ok (.ifCond .eq 14, 3) := by decide +kernel
theorem d_K_Names_giveNames_34 : decode b_K_Names_giveNames 34 = .ok (.aload_n 0, 1) := by decide +kernel
theorem d_K_Names_giveNames_35 : decode b_K_Names_giveNames 35 = .ok (.getfield 9, 3) := by decide +kernel
theorem d_K_Names_giveNames_38 : decode b_K_Names_giveNames 38 = .ok (.iload_n 2, 1) := by decide +kernel
theorem d_K_Names_giveNames_39 : decode b_K_Names_giveNames 39 = .ok (.iload_n 1, 1) := by decide +kernel
theorem d_K_Names_giveNames_40 : decode b_K_Names_giveNames 40 = .ok (.i2c, 1) := by decide +kernel
theorem d_K_Names_giveNames_41 : decode b_K_Names_giveNames 41 = .ok (.castore, 1) := by decide +kernel
theorem d_K_Names_giveNames_42 : decode b_K_Names_giveNames 42 = .ok (.iinc 1 1, 3) := by decide +kernel
theorem d_K_Names_giveNames_45 : decode b_K_Names_giveNames 45 = .ok (.iinc 2 1, 3) := by decide +kernel
theorem d_K_Names_giveNames_48 : decode b_K_Names_giveNames 48 = .ok (.goto (-43), 3) := by decide +kernel
theorem d_K_Names_giveNames_51 : decode b_K_Names_giveNames 51 = .ok (.return_, 1) := by decide +kernel
theorem d_K_Names_giveTextsOf_0 : decode b_K_Names_giveTextsOf 0 = .ok (.bipush 97, 2) := by decide +kernel
theorem d_K_Names_giveTextsOf_2 : decode b_K_Names_giveTextsOf 2 = .ok (.istore 5, 2) := by decide +kernel
theorem d_K_Names_giveTextsOf_4 : decode b_K_Names_giveTextsOf 4 = .ok (.iconst 0, 1) := by decide +kernel
theorem d_K_Names_giveTextsOf_5 : decode b_K_Names_giveTextsOf 5 = .ok (.istore 6, 2) := by decide +kernel
theorem d_K_Names_giveTextsOf_7 : decode b_K_Names_giveTextsOf 7 = .ok (.iload 6, 2) := by decide +kernel
theorem d_K_Names_giveTextsOf_9 : decode b_K_Names_giveTextsOf 9 = .ok (.bipush 6, 2) := by decide +kernel
theorem d_K_Names_giveTextsOf_11 : decode b_K_Names_giveTextsOf 11 = .ok (.if_icmp .ge 41, 3) := by decide +kernel
theorem d_K_Names_giveTextsOf_14 : decode b_K_Names_giveTextsOf 14 = .ok (.iload_n 3, 1) := by decide +kernel
theorem d_K_Names_giveTextsOf_15 : decode b_K_Names_giveTextsOf 15 = .ok (.iload 6, 2) := by decide +kernel
theorem d_K_Names_giveTextsOf_17 : decode b_K_Names_giveTextsOf 17 = .ok (.iload 4, 2) := by decide +kernel
theorem d_K_Names_giveTextsOf_19 : decode b_K_Names_giveTextsOf 19 = .ok (.invokestatic 107, 3) := by decide +kernel
theorem d_K_Names_giveTextsOf_22 : decode b_K_Names_giveTextsOf 22 = .ok (.istore 7, 2) := by decide +kernel
theorem d_K_Names_giveTextsOf_24 : decode b_K_Names_giveTextsOf 24 = .ok (.lload_n 1, 1) := by decide +kernel
theorem d_K_Names_giveTextsOf_25 : decode b_K_Names_giveTextsOf 25 = .ok (.iload 7, 2) := by decide +kernel
theorem d_K_Names_giveTextsOf_27 : decode b_K_Names_giveTextsOf 27 = .ok (.invokestatic 76, 3) := by decide +kernel
theorem d_K_Names_giveTextsOf_30 : decode b_K_Names_giveTextsOf 30 = .ok (.ifCond .eq 16, 3) := by decide +kernel
theorem d_K_Names_giveTextsOf_33 : decode b_K_Names_giveTextsOf 33 = .ok (.aload_n 0, 1) := by decide +kernel
theorem d_K_Names_giveTextsOf_34 : decode b_K_Names_giveTextsOf 34 = .ok (.getfield 15, 3) := by decide +kernel
theorem d_K_Names_giveTextsOf_37 : decode b_K_Names_giveTextsOf 37 = .ok (.iload 7, 2) := by decide +kernel
theorem d_K_Names_giveTextsOf_39 : decode b_K_Names_giveTextsOf 39 = .ok (.iload 5, 2) := by decide +kernel
theorem d_K_Names_giveTextsOf_41 : decode b_K_Names_giveTextsOf 41 = .ok (.i2c, 1) := by decide +kernel
theorem d_K_Names_giveTextsOf_42 : decode b_K_Names_giveTextsOf 42 = .ok (.castore, 1) := by decide +kernel
theorem d_K_Names_giveTextsOf_43 : decode b_K_Names_giveTextsOf 43 = .ok (.iinc 5 1, 3) := by decide +kernel
theorem d_K_Names_giveTextsOf_46 : decode b_K_Names_giveTextsOf 46 = .ok (.iinc 6 1, 3) := by decide +kernel
theorem d_K_Names_giveTextsOf_49 : decode b_K_Names_giveTextsOf 49 = .ok (.goto (-42), 3) := by decide +kernel
theorem d_K_Names_giveTextsOf_52 : decode b_K_Names_giveTextsOf 52 = .ok (.return_, 1) := by decide +kernel
theorem d_K_Names_giveTexts_0 : decode b_K_Names_giveTexts 0 = .ok (.aload_n 0, 1) := by decide +kernel
theorem d_K_Names_giveTexts_1 : decode b_K_Names_giveTexts 1 = .ok (.aload_n 0, 1) := by decide +kernel
theorem d_K_Names_giveTexts_2 : decode b_K_Names_giveTexts 2 = .ok (.getfield 30, 3) := by decide +kernel
theorem d_K_Names_giveTexts_5 : decode b_K_Names_giveTexts 5 = .ok (.getfield 122, 3) := by decide +kernel
theorem d_K_Names_giveTexts_8 : decode b_K_Names_giveTexts 8 = .ok (.invokevirtual 67, 3) := by decide +kernel
theorem d_K_Names_giveTexts_11 : decode b_K_Names_giveTexts 11 = .ok (.aload_n 0, 1) := by decide +kernel
theorem d_K_Names_giveTexts_12 : decode b_K_Names_giveTexts 12 = .ok (.getfield 64, 3) := by decide +kernel
theorem d_K_Names_giveTexts_15 : decode b_K_Names_giveTexts 15 = .ok (.ldc2_w 120, 3) := by decide +kernel
theorem d_K_Names_giveTexts_18 : decode b_K_Names_giveTexts 18 = .ok (.lxor, 1) := by decide +kernel
theorem d_K_Names_giveTexts_19 : decode b_K_Names_giveTexts 19 = .ok (.land, 1) := by decide +kernel
theorem d_K_Names_giveTexts_20 : decode b_K_Names_giveTexts 20 = .ok (.lstore_n 1, 1) := by decide +kernel
theorem d_K_Names_giveTexts_21 : decode b_K_Names_giveTexts 21 = .ok (.iconst 0, 1) := by decide +kernel
theorem d_K_Names_giveTexts_22 : decode b_K_Names_giveTexts 22 = .ok (.istore_n 3, 1) := by decide +kernel
theorem d_K_Names_giveTexts_23 : decode b_K_Names_giveTexts 23 = .ok (.iload_n 3, 1) := by decide +kernel
theorem d_K_Names_giveTexts_24 : decode b_K_Names_giveTexts 24 = .ok (.iconst 2, 1) := by decide +kernel
theorem d_K_Names_giveTexts_25 : decode b_K_Names_giveTexts 25 = .ok (.if_icmp .ge 23, 3) := by decide +kernel
theorem d_K_Names_giveTexts_28 : decode b_K_Names_giveTexts 28 = .ok (.aload_n 0, 1) := by decide +kernel
theorem d_K_Names_giveTexts_29 : decode b_K_Names_giveTexts 29 = .ok (.lload_n 1, 1) := by decide +kernel
theorem d_K_Names_giveTexts_30 : decode b_K_Names_giveTexts 30 = .ok (.iconst 0, 1) := by decide +kernel
theorem d_K_Names_giveTexts_31 : decode b_K_Names_giveTexts 31 = .ok (.iload_n 3, 1) := by decide +kernel
theorem d_K_Names_giveTexts_32 : decode b_K_Names_giveTexts 32 = .ok (.invokevirtual 125, 3) := by decide +kernel
theorem d_K_Names_giveTexts_35 : decode b_K_Names_giveTexts 35 = .ok (.aload_n 0, 1) := by decide +kernel
theorem d_K_Names_giveTexts_36 : decode b_K_Names_giveTexts 36 = .ok (.lload_n 1, 1) := by decide +kernel
theorem d_K_Names_giveTexts_37 : decode b_K_Names_giveTexts 37 = .ok (.iconst 1, 1) := by decide +kernel
theorem d_K_Names_giveTexts_38 : decode b_K_Names_giveTexts 38 = .ok (.iload_n 3, 1) := by decide +kernel
theorem d_K_Names_giveTexts_39 : decode b_K_Names_giveTexts 39 = .ok (.invokevirtual 125, 3) := by decide +kernel
theorem d_K_Names_giveTexts_42 : decode b_K_Names_giveTexts 42 = .ok (.iinc 3 1, 3) := by decide +kernel
theorem d_K_Names_giveTexts_45 : decode b_K_Names_giveTexts 45 = .ok (.goto (-22), 3) := by decide +kernel
theorem d_K_Names_giveTexts_48 : decode b_K_Names_giveTexts 48 = .ok (.return_, 1) := by decide +kernel
theorem d_K_Names_work_0 : decode b_K_Names_work 0 = .ok (.aload_n 0, 1) := by decide +kernel
theorem d_K_Names_work_1 : decode b_K_Names_work 1 = .ok (.invokevirtual 34, 3) := by decide +kernel
theorem d_K_Names_work_4 : decode b_K_Names_work 4 = .ok (.iconst 0, 1) := by decide +kernel
theorem d_K_Names_work_5 : decode b_K_Names_work 5 = .ok (.istore_n 1, 1) := by decide +kernel
theorem d_K_Names_work_6 : decode b_K_Names_work 6 = .ok (.iload_n 1, 1) := by decide +kernel
theorem d_K_Names_work_7 : decode b_K_Names_work 7 = .ok (.aload_n 0, 1) := by decide +kernel
theorem d_K_Names_work_8 : decode b_K_Names_work 8 = .ok (.getfield 26, 3) := by decide +kernel
theorem d_K_Names_work_11 : decode b_K_Names_work 11 = .ok (.getfield 37, 3) := by decide +kernel
theorem d_K_Names_work_14 : decode b_K_Names_work 14 = .ok (.if_icmp .ge 76, 3) := by decide +kernel
theorem d_K_Names_work_17 : decode b_K_Names_work 17 = .ok (.aload_n 0, 1) := by decide +kernel
theorem d_K_Names_work_18 : decode b_K_Names_work 18 = .ok (.getfield 26, 3) := by decide +kernel
theorem d_K_Names_work_21 : decode b_K_Names_work 21 = .ok (.getfield 43, 3) := by decide +kernel
theorem d_K_Names_work_24 : decode b_K_Names_work 24 = .ok (.iload_n 1, 1) := by decide +kernel
theorem d_K_Names_work_25 : decode b_K_Names_work 25 = .ok (.laload, 1) := by decide +kernel
theorem d_K_Names_work_26 : decode b_K_Names_work 26 = .ok (.lstore_n 2, 1) := by decide +kernel
theorem d_K_Names_work_27 : decode b_K_Names_work 27 = .ok (.aload_n 0, 1) := by decide +kernel
theorem d_K_Names_work_28 : decode b_K_Names_work 28 = .ok (.getfield 26, 3) := by decide +kernel
theorem d_K_Names_work_31 : decode b_K_Names_work 31 = .ok (.getfield 47, 3) := by decide +kernel
theorem d_K_Names_work_34 : decode b_K_Names_work 34 = .ok (.iload_n 1, 1) := by decide +kernel
theorem d_K_Names_work_35 : decode b_K_Names_work 35 = .ok (.iaload, 1) := by decide +kernel
theorem d_K_Names_work_36 : decode b_K_Names_work 36 = .ok (.iconst 3, 1) := by decide +kernel
theorem d_K_Names_work_37 : decode b_K_Names_work 37 = .ok (.if_icmp .ne 15, 3) := by decide +kernel
theorem d_K_Names_work_40 : decode b_K_Names_work 40 = .ok (.aload_n 0, 1) := by decide +kernel
theorem d_K_Names_work_41 : decode b_K_Names_work 41 = .ok (.getfield 30, 3) := by decide +kernel
theorem d_K_Names_work_44 : decode b_K_Names_work 44 = .ok (.lload_n 2, 1) := by decide +kernel
theorem d_K_Names_work_45 : decode b_K_Names_work 45 = .ok (.invokevirtual 51, 3) := by decide +kernel
theorem d_K_Names_work_48 : decode b_K_Names_work 48 = .ok (.lstore_n 2, 1) := by decide +kernel
theorem d_K_Names_work_49 : decode b_K_Names_work 49 = .ok (.goto 21, 3) := by decide +kernel
theorem d_K_Names_work_52 : decode b_K_Names_work 52 = .ok (.aload_n 0, 1) := by decide +kernel
theorem d_K_Names_work_53 : decode b_K_Names_work 53 = .ok (.dup, 1) := by decide +kernel
theorem d_K_Names_work_54 : decode b_K_Names_work 54 = .ok (.getfield 57, 3) := by decide +kernel
theorem d_K_Names_work_57 : decode b_K_Names_work 57 = .ok (.aload_n 0, 1) := by decide +kernel
theorem d_K_Names_work_58 : decode b_K_Names_work 58 = .ok (.getfield 26, 3) := by decide +kernel
theorem d_K_Names_work_61 : decode b_K_Names_work 61 = .ok (.getfield 61, 3) := by decide +kernel
theorem d_K_Names_work_64 : decode b_K_Names_work 64 = .ok (.iload_n 1, 1) := by decide +kernel
theorem d_K_Names_work_65 : decode b_K_Names_work 65 = .ok (.laload, 1) := by decide +kernel
theorem d_K_Names_work_66 : decode b_K_Names_work 66 = .ok (.lor, 1) := by decide +kernel
theorem d_K_Names_work_67 : decode b_K_Names_work 67 = .ok (.putfield 57, 3) := by decide +kernel
theorem d_K_Names_work_70 : decode b_K_Names_work 70 = .ok (.aload_n 0, 1) := by decide +kernel
theorem d_K_Names_work_71 : decode b_K_Names_work 71 = .ok (.dup, 1) := by decide +kernel
theorem d_K_Names_work_72 : decode b_K_Names_work 72 = .ok (.getfield 64, 3) := by decide +kernel
theorem d_K_Names_work_75 : decode b_K_Names_work 75 = .ok (.aload_n 0, 1) := by decide +kernel
theorem d_K_Names_work_76 : decode b_K_Names_work 76 = .ok (.lload_n 2, 1) := by decide +kernel
theorem d_K_Names_work_77 : decode b_K_Names_work 77 = .ok (.invokevirtual 67, 3) := by decide +kernel
theorem d_K_Names_work_80 : decode b_K_Names_work 80 = .ok (.lor, 1) := by decide +kernel
theorem d_K_Names_work_81 : decode b_K_Names_work 81 = .ok (.putfield 64, 3) := by decide +kernel
theorem d_K_Names_work_84 : decode b_K_Names_work 84 = .ok (.iinc 1 1, 3) := by decide +kernel
theorem d_K_Names_work_87 : decode b_K_Names_work 87 = .ok (.goto (-81), 3) := by decide +kernel
theorem d_K_Names_work_90 : decode b_K_Names_work 90 = .ok (.aload_n 0, 1) := by decide +kernel
theorem d_K_Names_work_91 : decode b_K_Names_work 91 = .ok (.invokevirtual 70, 3) := by decide +kernel
theorem d_K_Names_work_94 : decode b_K_Names_work 94 = .ok (.aload_n 0, 1) := by decide +kernel
theorem d_K_Names_work_95 : decode b_K_Names_work 95 = .ok (.invokevirtual 73, 3) := by decide +kernel
theorem d_K_Names_work_98 : decode b_K_Names_work 98 = .ok (.return_, 1) := by decide +kernel
theorem d_K_Needs_addKept_0 : decode b_K_Needs_addKept 0 = .ok (.iconst 0, 1) := by decide +kernel
theorem d_K_Needs_addKept_1 : decode b_K_Needs_addKept 1 = .ok (.istore_n 1, 1) := by decide +kernel
theorem d_K_Needs_addKept_2 : decode b_K_Needs_addKept 2 = .ok (.iload_n 1, 1) := by decide +kernel
theorem d_K_Needs_addKept_3 : decode b_K_Needs_addKept 3 = .ok (.aload_n 0, 1) := by decide +kernel
theorem d_K_Needs_addKept_4 : decode b_K_Needs_addKept 4 = .ok (.getfield 23, 3) := by decide +kernel
theorem d_K_Needs_addKept_7 : decode b_K_Needs_addKept 7 = .ok (.getfield 115, 3) := by decide +kernel
theorem d_K_Needs_addKept_10 : decode b_K_Needs_addKept 10 = .ok (.if_icmp .ge 102, 3) := by decide +kernel
theorem d_K_Needs_addKept_13 : decode b_K_Needs_addKept 13 = .ok (.aload_n 0, 1) := by decide +kernel
theorem d_K_Needs_addKept_14 : decode b_K_Needs_addKept 14 = .ok (.getfield 23, 3) := by decide +kernel
theorem d_K_Needs_addKept_17 : decode b_K_Needs_addKept 17 = .ok (.getfield 118, 3) := by decide +kernel
theorem d_K_Needs_addKept_20 : decode b_K_Needs_addKept 20 = .ok (.iload_n 1, 1) := by decide +kernel
theorem d_K_Needs_addKept_21 : decode b_K_Needs_addKept 21 = .ok (.iaload, 1) := by decide +kernel
theorem d_K_Needs_addKept_22 : decode b_K_Needs_addKept 22 = .ok (.iconst 1, 1) := by decide +kernel
theorem d_K_Needs_addKept_23 : decode b_K_Needs_addKept 23 = .ok (.if_icmp .ne 83, 3) := by decide +kernel
theorem d_K_Needs_addKept_26 : decode b_K_Needs_addKept 26 = .ok (.aload_n 0, 1) := by decide +kernel
theorem d_K_Needs_addKept_27 : decode b_K_Needs_addKept 27 = .ok (.dup, 1) := by decide +kernel
theorem d_K_Needs_addKept_28 : decode b_K_Needs_addKept 28 = .ok (.getfield 31, 3) := by decide +kernel
theorem d_K_Needs_addKept_31 : decode b_K_Needs_addKept 31 = .ok (.aload_n 0, 1) := by decide +kernel
theorem d_K_Needs_addKept_32 : decode b_K_Needs_addKept 32 = .ok (.getfield 23, 3) := by decide +kernel
theorem d_K_Needs_addKept_35 : decode b_K_Needs_addKept 35 = .ok (.getfield 121, 3) := by decide +kernel
theorem d_K_Needs_addKept_38 : decode b_K_Needs_addKept 38 = .ok (.iload_n 1, 1) := by decide +kernel
theorem d_K_Needs_addKept_39 : decode b_K_Needs_addKept 39 = .ok (.laload, 1) := by decide +kernel
theorem d_K_Needs_addKept_40 : decode b_K_Needs_addKept 40 = .ok (.lor, 1) := by decide +kernel
theorem d_K_Needs_addKept_41 : decode b_K_Needs_addKept 41 = .ok (.putfield 31, 3) := by decide +kernel
theorem d_K_Needs_addKept_44 : decode b_K_Needs_addKept 44 = .ok (.aload_n 0, 1) := by decide +kernel
theorem d_K_Needs_addKept_45 : decode b_K_Needs_addKept 45 = .ok (.dup, 1) := by decide +kernel
theorem d_K_Needs_addKept_46 : decode b_K_Needs_addKept 46 = .ok (.getfield 41, 3) := by decide +kernel
theorem d_K_Needs_addKept_49 : decode b_K_Needs_addKept 49 = .ok (.aload_n 0, 1) := by decide +kernel
theorem d_K_Needs_addKept_50 : decode b_K_Needs_addKept 50 = .ok (.getfield 23, 3) := by decide +kernel
theorem d_K_Needs_addKept_53 : decode b_K_Needs_addKept 53 = .ok (.getfield 121, 3) := by decide +kernel
theorem d_K_Needs_addKept_56 : decode b_K_Needs_addKept 56 = .ok (.iload_n 1, 1) := by decide +kernel
theorem d_K_Needs_addKept_57 : decode b_K_Needs_addKept 57 = .ok (.laload, 1) := by decide +kernel
theorem d_K_Needs_addKept_58 : decode b_K_Needs_addKept 58 = .ok (.lor, 1) := by decide +kernel
theorem d_K_Needs_addKept_59 : decode b_K_Needs_addKept 59 = .ok (.putfield 41, 3) := by decide +kernel
theorem d_K_Needs_addKept_62 : decode b_K_Needs_addKept 62 = .ok (.aload_n 0, 1) := by decide +kernel
theorem d_K_Needs_addKept_63 : decode b_K_Needs_addKept 63 = .ok (.dup, 1) := by decide +kernel
theorem d_K_Needs_addKept_64 : decode b_K_Needs_addKept 64 = .ok (.getfield 38, 3) := by decide +kernel
theorem d_K_Needs_addKept_67 : decode b_K_Needs_addKept 67 = .ok (.aload_n 0, 1) := by decide +kernel
theorem d_K_Needs_addKept_68 : decode b_K_Needs_addKept 68 = .ok (.getfield 23, 3) := by decide +kernel
theorem d_K_Needs_addKept_71 : decode b_K_Needs_addKept 71 = .ok (.getfield 121, 3) := by decide +kernel
theorem d_K_Needs_addKept_74 : decode b_K_Needs_addKept 74 = .ok (.iload_n 1, 1) := by decide +kernel
theorem d_K_Needs_addKept_75 : decode b_K_Needs_addKept 75 = .ok (.laload, 1) := by decide +kernel
theorem d_K_Needs_addKept_76 : decode b_K_Needs_addKept 76 = .ok (.aload_n 0, 1) := by decide +kernel
theorem d_K_Needs_addKept_77 : decode b_K_Needs_addKept 77 = .ok (.getfield 9, 3) := by decide +kernel
theorem d_K_Needs_addKept_80 : decode b_K_Needs_addKept 80 = .ok (.getfield 125, 3) := by decide +kernel
theorem d_K_Needs_addKept_83 : decode b_K_Needs_addKept 83 = .ok (.land, 1) := by decide +kernel
theorem d_K_Needs_addKept_84 : decode b_K_Needs_addKept 84 = .ok (.lor, 1) := by decide +kernel
theorem d_K_Needs_addKept_85 : decode b_K_Needs_addKept 85 = .ok (.putfield 38, 3) := by decide +kernel
theorem d_K_Needs_addKept_88 : decode b_K_Needs_addKept 88 = .ok (.aload_n 0, 1) := by decide +kernel
theorem d_K_Needs_addKept_89 : decode b_K_Needs_addKept 89 = .ok (.dup, 1) := by decide +kernel
theorem d_K_Needs_addKept_90 : decode b_K_Needs_addKept 90 = .ok (.getfield 35, 3) := by decide +kernel
theorem d_K_Needs_addKept_93 : decode b_K_Needs_addKept 93 = .ok (.aload_n 0, 1) := by decide +kernel
theorem d_K_Needs_addKept_94 : decode b_K_Needs_addKept 94 = .ok (.getfield 23, 3) := by decide +kernel
theorem d_K_Needs_addKept_97 : decode b_K_Needs_addKept 97 = .ok (.getfield 128, 3) := by decide +kernel
theorem d_K_Needs_addKept_100 : decode b_K_Needs_addKept 100 = .ok (.iload_n 1, 1) := by decide +kernel
theorem d_K_Needs_addKept_101 : decode b_K_Needs_addKept 101 = .ok (.laload, 1) := by decide +kernel
theorem d_K_Needs_addKept_102 : decode b_K_Needs_addKept 102 = .ok (.lor, 1) := by decide +kernel
theorem d_K_Needs_addKept_103 : decode b_K_Needs_addKept 103 = .ok (.putfield 35, 3) := by decide +kernel
theorem d_K_Needs_addKept_106 : decode b_K_Needs_addKept 106 = .ok (.iinc 1 1, 3) := by decide +kernel
theorem d_K_Needs_addKept_109 : decode b_K_Needs_addKept 109 = .ok (.goto (-107), 3) := by decide +kernel
theorem d_K_Needs_addKept_112 : decode b_K_Needs_addKept 112 = .ok (.return_, 1) := by decide +kernel
theorem d_J_bitCount_0 : decode b_J_bitCount 0 = .ok (.lload_n 0, 1) := by decide +kernel
theorem d_J_bitCount_1 : decode b_J_bitCount 1 = .ok (.lload_n 0, 1) := by decide +kernel
theorem d_J_bitCount_2 : decode b_J_bitCount 2 = .ok (.iconst 1, 1) := by decide +kernel
theorem d_J_bitCount_3 : decode b_J_bitCount 3 = .ok (.lushr, 1) := by decide +kernel
theorem d_J_bitCount_4 : decode b_J_bitCount 4 = .ok (.ldc2_w 314, 3) := by decide +kernel
theorem d_J_bitCount_7 : decode b_J_bitCount 7 = .ok (.land, 1) := by decide +kernel
theorem d_J_bitCount_8 : decode b_J_bitCount 8 = .ok (.lsub, 1) := by decide +kernel
theorem d_J_bitCount_9 : decode b_J_bitCount 9 = .ok (.lstore_n 0, 1) := by decide +kernel
theorem d_J_bitCount_10 : decode b_J_bitCount 10 = .ok (.lload_n 0, 1) := by decide +kernel
theorem d_J_bitCount_11 : decode b_J_bitCount 11 = .ok (.ldc2_w 316, 3) := by decide +kernel
theorem d_J_bitCount_14 : decode b_J_bitCount 14 = .ok (.land, 1) := by decide +kernel
theorem d_J_bitCount_15 : decode b_J_bitCount 15 = .ok (.lload_n 0, 1) := by decide +kernel
theorem d_J_bitCount_16 : decode b_J_bitCount 16 = .ok (.iconst 2, 1) := by decide +kernel
theorem d_J_bitCount_17 : decode b_J_bitCount 17 = .ok (.lushr, 1) := by decide +kernel
theorem d_J_bitCount_18 : decode b_J_bitCount 18 = .ok (.ldc2_w 316, 3) := by decide +kernel
theorem d_J_bitCount_21 : decode b_J_bitCount 21 = .ok (.land, 1) := by decide +kernel
theorem d_J_bitCount_22 : decode b_J_bitCount 22 = .ok (.ladd, 1) := by decide +kernel
theorem d_J_bitCount_23 : decode b_J_bitCount 23 = .ok (.lstore_n 0, 1) := by decide +kernel
theorem d_J_bitCount_24 : decode b_J_bitCount 24 = .ok (.lload_n 0, 1) := by decide +kernel
theorem d_J_bitCount_25 : decode b_J_bitCount 25 = .ok (.lload_n 0, 1) := by decide +kernel
theorem d_J_bitCount_26 : decode b_J_bitCount 26 = .ok (.iconst 4, 1) := by decide +kernel
theorem d_J_bitCount_27 : decode b_J_bitCount 27 = .ok (.lushr, 1) := by decide +kernel
theorem d_J_bitCount_28 : decode b_J_bitCount 28 = .ok (.ladd, 1) := by decide +kernel
theorem d_J_bitCount_29 : decode b_J_bitCount 29 = .ok (.ldc2_w 318, 3) := by decide +kernel
theorem d_J_bitCount_32 : decode b_J_bitCount 32 = .ok (.land, 1) := by decide +kernel
theorem d_J_bitCount_33 : decode b_J_bitCount 33 = .ok (.lstore_n 0, 1) := by decide +kernel
theorem d_J_bitCount_34 : decode b_J_bitCount 34 = .ok (.lload_n 0, 1) := by decide +kernel
theorem d_J_bitCount_35 : decode b_J_bitCount 35 = .ok (.lload_n 0, 1) := by decide +kernel
theorem d_J_bitCount_36 : decode b_J_bitCount 36 = .ok (.bipush 8, 2) := by decide +kernel
theorem d_J_bitCount_38 : decode b_J_bitCount 38 = .ok (.lushr, 1) := by decide +kernel
theorem d_J_bitCount_39 : decode b_J_bitCount 39 = .ok (.ladd, 1) := by decide +kernel
theorem d_J_bitCount_40 : decode b_J_bitCount 40 = .ok (.lstore_n 0, 1) := by decide +kernel
theorem d_J_bitCount_41 : decode b_J_bitCount 41 = .ok (.lload_n 0, 1) := by decide +kernel
theorem d_J_bitCount_42 : decode b_J_bitCount 42 = .ok (.lload_n 0, 1) := by decide +kernel
theorem d_J_bitCount_43 : decode b_J_bitCount 43 = .ok (.bipush 16, 2) := by decide +kernel
theorem d_J_bitCount_45 : decode b_J_bitCount 45 = .ok (.lushr, 1) := by decide +kernel
theorem d_J_bitCount_46 : decode b_J_bitCount 46 = .ok (.ladd, 1) := by decide +kernel
theorem d_J_bitCount_47 : decode b_J_bitCount 47 = .ok (.lstore_n 0, 1) := by decide +kernel
theorem d_J_bitCount_48 : decode b_J_bitCount 48 = .ok (.lload_n 0, 1) := by decide +kernel
theorem d_J_bitCount_49 : decode b_J_bitCount 49 = .ok (.lload_n 0, 1) := by decide +kernel
theorem d_J_bitCount_50 : decode b_J_bitCount 50 = .ok (.bipush 32, 2) := by decide +kernel
theorem d_J_bitCount_52 : decode b_J_bitCount 52 = .ok (.lushr, 1) := by decide +kernel
theorem d_J_bitCount_53 : decode b_J_bitCount 53 = .ok (.ladd, 1) := by decide +kernel
theorem d_J_bitCount_54 : decode b_J_bitCount 54 = .ok (.lstore_n 0, 1) := by decide +kernel
theorem d_J_bitCount_55 : decode b_J_bitCount 55 = .ok (.lload_n 0, 1) := by decide +kernel
theorem d_J_bitCount_56 : decode b_J_bitCount 56 = .ok (.l2i, 1) := by decide +kernel
theorem d_J_bitCount_57 : decode b_J_bitCount 57 = .ok (.bipush 127, 2) := by decide +kernel
theorem d_J_bitCount_59 : decode b_J_bitCount 59 = .ok (.iand, 1) := by decide +kernel
theorem d_J_bitCount_60 : decode b_J_bitCount 60 = .ok (.ireturn, 1) := by decide +kernel
theorem d_K_Needs_size_0 : decode b_K_Needs_size 0 = .ok (.aload_n 0, 1) := by decide +kernel
theorem d_K_Needs_size_1 : decode b_K_Needs_size 1 = .ok (.getfield 31, 3) := by decide +kernel
theorem d_K_Needs_size_4 : decode b_K_Needs_size 4 = .ok (.invokestatic 109, 3) := by decide +kernel
theorem d_K_Needs_size_7 : decode b_K_Needs_size 7 = .ok (.aload_n 0, 1) := by decide +kernel
theorem d_K_Needs_size_8 : decode b_K_Needs_size 8 = .ok (.getfield 38, 3) := by decide +kernel
theorem d_K_Needs_size_11 : decode b_K_Needs_size 11 = .ok (.invokestatic 109, 3) := by decide +kernel
theorem d_K_Needs_size_14 : decode b_K_Needs_size 14 = .ok (.iadd, 1) := by decide +kernel
theorem d_K_Needs_size_15 : decode b_K_Needs_size 15 = .ok (.aload_n 0, 1) := by decide +kernel
theorem d_K_Needs_size_16 : decode b_K_Needs_size 16 = .ok (.getfield 41, 3) := by decide +kernel
theorem d_K_Needs_size_19 : decode b_K_Needs_size 19 = .ok (.invokestatic 109, 3) := by decide +kernel
theorem d_K_Needs_size_22 : decode b_K_Needs_size 22 = .ok (.iadd, 1) := by decide +kernel
theorem d_K_Needs_size_23 : decode b_K_Needs_size 23 = .ok (.aload_n 0, 1) := by decide +kernel
theorem d_K_Needs_size_24 : decode b_K_Needs_size 24 = .ok (.getfield 35, 3) := by decide +kernel
theorem d_K_Needs_size_27 : decode b_K_Needs_size 27 = .ok (.invokestatic 109, 3) := by decide +kernel
theorem d_K_Needs_size_30 : decode b_K_Needs_size 30 = .ok (.iadd, 1) := by decide +kernel
theorem d_K_Needs_size_31 : decode b_K_Needs_size 31 = .ok (.ireturn, 1) := by decide +kernel
theorem d_K_Needs_addByKeepMembers_0 : decode b_K_Needs_addByKeepMembers 0 = .ok (.iconst 0, 1) := by decide +kernel
theorem d_K_Needs_addByKeepMembers_1 : decode b_K_Needs_addByKeepMembers 1 = .ok (.istore_n 1, 1) := by decide +kernel
theorem d_K_Needs_addByKeepMembers_2 : decode b_K_Needs_addByKeepMembers 2 = .ok (.iload_n 1, 1) := by decide +kernel
theorem d_K_Needs_addByKeepMembers_3 : decode b_K_Needs_addByKeepMembers 3 = .ok (.aload_n 0, 1) := by decide +kernel
theorem d_K_Needs_addByKeepMembers_4 : decode b_K_Needs_addByKeepMembers 4 = .ok (.getfield 23, 3) := by decide +kernel
theorem d_K_Needs_addByKeepMembers_7 : decode b_K_Needs_addByKeepMembers 7 = .ok (.getfield 115, 3) := by decide +kernel
theorem d_K_Needs_addByKeepMembers_10 : decode b_K_Needs_addByKeepMembers 10 = .ok (.if_icmp .ge 44, 3) := by decide +kernel
theorem d_K_Needs_addByKeepMembers_13 : decode b_K_Needs_addByKeepMembers 13 = .ok (.aload_n 0, 1) := by decide +kernel
theorem d_K_Needs_addByKeepMembers_14 : decode b_K_Needs_addByKeepMembers 14 = .ok (.getfield 23, 3) := by decide +kernel
theorem d_K_Needs_addByKeepMembers_17 : decode b_K_Needs_addByKeepMembers 17 = .ok (.getfield 118, 3) := by decide +kernel
theorem d_K_Needs_addByKeepMembers_20 : decode b_K_Needs_addByKeepMembers 20 = .ok (.iload_n 1, 1) := by decide +kernel
theorem d_K_Needs_addByKeepMembers_21 : decode b_K_Needs_addByKeepMembers 21 = .ok (.iaload, 1) := by decide +kernel
theorem d_K_Needs_addByKeepMembers_22 : decode b_K_Needs_addByKeepMembers 22 = .ok (.iconst 3, 1) := by decide +kernel
theorem d_K_Needs_addByKeepMembers_23 : decode b_K_Needs_addByKeepMembers 23 = .ok (.if_icmp .ne 25, 3) := by decide +kernel
theorem d_K_Needs_addByKeepMembers_26 : decode b_K_Needs_addByKeepMembers 26 = .ok (.aload_n 0, 1) := by decide +kernel
theorem d_K_Needs_addByKeepMembers_27 : decode b_K_Needs_addByKeepMembers 27 = .ok (.dup, 1) := by decide +kernel
theorem d_K_Needs_addByKeepMembers_28 : decode b_K_Needs_addByKeepMembers 28 = .ok (.getfield 35, 3) := by decide +kernel
theorem d_K_Needs_addByKeepMembers_31 : decode b_K_Needs_addByKeepMembers 31 = .ok (.aload_n 0, 1) := by decide +kernel
theorem d_K_Needs_addByKeepMembers_32 : decode b_K_Needs_addByKeepMembers 32 = .ok (.aload_n 0, 1) := by decide +kernel
theorem d_K_Needs_addByKeepMembers_33 : decode b_K_Needs_addByKeepMembers 33 = .ok (.getfield 23, 3) := by decide +kernel
theorem d_K_Needs_addByKeepMembers_36 : decode b_K_Needs_addByKeepMembers 36 = .ok (.getfield 128, 3) := by decide +kernel
theorem d_K_Needs_addByKeepMembers_39 : decode b_K_Needs_addByKeepMembers 39 = .ok (.iload_n 1, 1) := by decide +kernel
theorem d_K_Needs_addByKeepMembers_40 : decode b_K_Needs_addByKeepMembers 40 = .ok (.laload, 1) := by decide +kernel
theorem d_K_Needs_addByKeepMembers_41 : decode b_K_Needs_addByKeepMembers 41 = .ok (.invokevirtual 131, 3) := by decide +kernel
theorem d_K_Needs_addByKeepMembers_44 : decode b_K_Needs_addByKeepMembers 44 = .ok (.lor, 1) := by decide +kernel
theorem d_K_Needs_addByKeepMembers_45 : decode b_K_Needs_addByKeepMembers 45 = .ok (.putfield 35, 3) := by decide +kernel
theorem d_K_Needs_addByKeepMembers_48 : decode b_K_Needs_addByKeepMembers 48 = .ok (.iinc 1 1, 3) := by decide +kernel
theorem d_K_Needs_addByKeepMembers_51 : decode b_K_Needs_addByKeepMembers 51 = .ok (.goto (-49), 3) := by decide +kernel
theorem d_K_Needs_addByKeepMembers_54 : decode b_K_Needs_addByKeepMembers 54 = .ok (.return_, 1) := by decide +kernel
theorem d_K_Needs_addByMembers_0 : decode b_K_Needs_addByMembers 0 = .ok (.iconst 0, 1) := by decide +kernel
theorem d_K_Needs_addByMembers_1 : decode b_K_Needs_addByMembers 1 = .ok (.istore_n 1, 1) := by decide +kernel
theorem d_K_Needs_addByMembers_2 : decode b_K_Needs_addByMembers 2 = .ok (.iload_n 1, 1) := by decide +kernel
theorem d_K_Needs_addByMembers_3 : decode b_K_Needs_addByMembers 3 = .ok (.aload_n 0, 1) := by decide +kernel
theorem d_K_Needs_addByMembers_4 : decode b_K_Needs_addByMembers 4 = .ok (.getfield 15, 3) := by decide +kernel
theorem d_K_Needs_addByMembers_7 : decode b_K_Needs_addByMembers 7 = .ok (.getfield 135, 3) := by decide +kernel
theorem d_K_Needs_addByMembers_10 : decode b_K_Needs_addByMembers 10 = .ok (.if_icmp .ge 41, 3) := by decide +kernel
theorem d_K_Needs_addByMembers_13 : decode b_K_Needs_addByMembers 13 = .ok (.aload_n 0, 1) := by decide +kernel
theorem d_K_Needs_addByMembers_14 : decode b_K_Needs_addByMembers 14 = .ok (.getfield 35, 3) := by decide +kernel
theorem d_K_Needs_addByMembers_17 : decode b_K_Needs_addByMembers 17 = .ok (.iload_n 1, 1) := by decide +kernel
theorem d_K_Needs_addByMembers_18 : decode b_K_Needs_addByMembers 18 = .ok (.invokestatic 77, 3) := by decide +kernel
theorem d_K_Needs_addByMembers_21 : decode b_K_Needs_addByMembers 21 = .ok (.ifCond .eq 24, 3) := by decide +kernel
theorem d_K_Needs_addByMembers_24 : decode b_K_Needs_addByMembers 24 = .ok (.aload_n 0, 1) := by decide +kernel
theorem d_K_Needs_addByMembers_25 : decode b_K_Needs_addByMembers 25 = .ok (.dup, 1) := by decide +kernel
theorem d_K_Needs_addByMembers_26 : decode b_K_Needs_addByMembers 26 = .ok (.getfield 31, 3) := by decide +kernel
theorem d_K_Needs_addByMembers_29 : decode b_K_Needs_addByMembers 29 = .ok (.aload_n 0, 1) := by decide +kernel
theorem d_K_Needs_addByMembers_30 : decode b_K_Needs_addByMembers 30 = .ok (.getfield 15, 3) := by decide +kernel
theorem d_K_Needs_addByMembers_33 : decode b_K_Needs_addByMembers 33 = .ok (.getfield 136, 3) := by decide +kernel
theorem d_K_Needs_addByMembers_36 : decode b_K_Needs_addByMembers 36 = .ok (.iload_n 1, 1) := by decide +kernel
theorem d_K_Needs_addByMembers_37 : decode b_K_Needs_addByMembers 37 = .ok (.iaload, 1) := by decide +kernel
theorem d_K_Needs_addByMembers_38 : decode b_K_Needs_addByMembers 38 = .ok (.invokestatic 27, 3) := by decide +kernel
theorem d_K_Needs_addByMembers_41 : decode b_K_Needs_addByMembers 41 = .ok (.lor, 1) := by decide +kernel
theorem d_K_Needs_addByMembers_42 : decode b_K_Needs_addByMembers 42 = .ok (.putfield 31, 3) := by decide +kernel
theorem d_K_Needs_addByMembers_45 : decode b_K_Needs_addByMembers 45 = .ok (.iinc 1 1, 3) := by decide +kernel
theorem d_K_Needs_addByMembers_48 : decode b_K_Needs_addByMembers 48 = .ok (.goto (-46), 3) := by decide +kernel
theorem d_K_Needs_addByMembers_51 : decode b_K_Needs_addByMembers 51 = .ok (.return_, 1) := by decide +kernel
theorem d_K_Needs_addFound_0 : decode b_K_Needs_addFound 0 = .ok (.aload_n 0, 1) := by decide +kernel
theorem d_K_Needs_addFound_1 : decode b_K_Needs_addFound 1 = .ok (.getfield 15, 3) := by decide +kernel
theorem d_K_Needs_addFound_4 : decode b_K_Needs_addFound 4 = .ok (.iload_n 1, 1) := by decide +kernel
theorem d_K_Needs_addFound_5 : decode b_K_Needs_addFound 5 = .ok (.iload_n 2, 1) := by decide +kernel
theorem d_K_Needs_addFound_6 : decode b_K_Needs_addFound 6 = .ok (.aload_n 0, 1) := by decide +kernel
theorem d_K_Needs_addFound_7 : decode b_K_Needs_addFound 7 = .ok (.getfield 15, 3) := by decide +kernel
theorem d_K_Needs_addFound_10 : decode b_K_Needs_addFound 10 = .ok (.getfield 100, 3) := by decide +kernel
theorem d_K_Needs_addFound_13 : decode b_K_Needs_addFound 13 = .ok (.invokevirtual 105, 3) := by decide +kernel
theorem d_K_Needs_addFound_16 : decode b_K_Needs_addFound 16 = .ok (.istore_n 3, 1) := by decide +kernel
theorem d_K_Needs_addFound_17 : decode b_K_Needs_addFound 17 = .ok (.iload_n 3, 1) := by decide +kernel
theorem d_K_Needs_addFound_18 : decode b_K_Needs_addFound 18 = .ok (.bipush (-2), 2) := by decide +kernel
theorem d_K_Needs_addFound_20 : decode b_K_Needs_addFound 20 = .ok (.if_icmp .eq 49, 3) := by decide +kernel
theorem d_K_Needs_addFound_23 : decode b_K_Needs_addFound 23 = .ok (.aload_n 0, 1) := by decide +kernel
theorem d_K_Needs_addFound_24 : decode b_K_Needs_addFound 24 = .ok (.dup, 1) := by decide +kernel
theorem d_K_Needs_addFound_25 : decode b_K_Needs_addFound 25 = .ok (.getfield 35, 3) := by decide +kernel
theorem d_K_Needs_addFound_28 : decode b_K_Needs_addFound 28 = .ok (.iload_n 3, 1) := by decide +kernel
theorem d_K_Needs_addFound_29 : decode b_K_Needs_addFound 29 = .ok (.invokestatic 27, 3) := by decide +kernel
theorem d_K_Needs_addFound_32 : decode b_K_Needs_addFound 32 = .ok (.lor, 1) := by decide +kernel
theorem d_K_Needs_addFound_33 : decode b_K_Needs_addFound 33 = .ok (.putfield 35, 3) := by decide +kernel
theorem d_K_Needs_addFound_36 : decode b_K_Needs_addFound 36 = .ok (.aload_n 0, 1) := by decide +kernel
theorem d_K_Needs_addFound_37 : decode b_K_Needs_addFound 37 = .ok (.getfield 15, 3) := by decide +kernel
theorem d_K_Needs_addFound_40 : decode b_K_Needs_addFound 40 = .ok (.iload_n 3, 1) := by decide +kernel
theorem d_K_Needs_addFound_41 : decode b_K_Needs_addFound 41 = .ok (.iconst 2, 1) := by decide +kernel
theorem d_K_Needs_addFound_42 : decode b_K_Needs_addFound 42 = .ok (.invokevirtual 151, 3) := by decide +kernel
theorem d_K_Needs_addFound_45 : decode b_K_Needs_addFound 45 = .ok (.ifCond .eq 24, 3) := by decide +kernel
theorem d_K_Needs_addFound_48 : decode b_K_Needs_addFound 48 = .ok (.aload_n 0, 1) := by decide +kernel
theorem d_K_Needs_addFound_49 : decode b_K_Needs_addFound 49 = .ok (.dup, 1) := by decide +kernel
theorem d_K_Needs_addFound_50 : decode b_K_Needs_addFound 50 = .ok (.getfield 41, 3) := by decide +kernel
theorem d_K_Needs_addFound_53 : decode b_K_Needs_addFound 53 = .ok (.aload_n 0, 1) := by decide +kernel
theorem d_K_Needs_addFound_54 : decode b_K_Needs_addFound 54 = .ok (.getfield 15, 3) := by decide +kernel
theorem d_K_Needs_addFound_57 : decode b_K_Needs_addFound 57 = .ok (.getfield 136, 3) := by decide +kernel
theorem d_K_Needs_addFound_60 : decode b_K_Needs_addFound 60 = .ok (.iload_n 3, 1) := by decide +kernel
theorem d_K_Needs_addFound_61 : decode b_K_Needs_addFound 61 = .ok (.iaload, 1) := by decide +kernel
theorem d_K_Needs_addFound_62 : decode b_K_Needs_addFound 62 = .ok (.invokestatic 27, 3) := by decide +kernel
theorem d_K_Needs_addFound_65 : decode b_K_Needs_addFound 65 = .ok (.lor, 1) := by decide +kernel
theorem d_K_Needs_addFound_66 : decode b_K_Needs_addFound 66 = .ok (.putfield 41, 3) := by decide +kernel
theorem d_K_Needs_addFound_69 : decode b_K_Needs_addFound 69 = .ok (.return_, 1) := by decide +kernel
