theorem dX9_byteAt_8 : decode cX9_byteAt 8 = .ok (.aload_n 0, 1) := by decide +kernel
theorem dX9_byteAt_9 : decode cX9_byteAt 9 = .ok (.getfield 7, 3) := by decide +kernel
theorem dX9_byteAt_12 : decode cX9_byteAt 12 = .ok (.iload_n 1, 1) := by decide +kernel
theorem dX9_byteAt_13 : decode cX9_byteAt 13 = .ok (.iaload, 1) := by decide +kernel
theorem dX9_byteAt_14 : decode cX9_byteAt 14 = .ok (.goto 4, 3) := by decide +kernel
theorem dX9_byteAt_17 : decode cX9_byteAt 17 = .ok (.iconst (-1), 1) := by decide +kernel
theorem dX9_byteAt_18 : decode cX9_byteAt 18 = .ok (.ireturn, 1) := by decide +kernel
theorem dX9_sortOf_0 : decode cX9_sortOf 0 = .ok (.iload_n 0, 1) := by decide +kernel
theorem dX9_sortOf_1 : decode cX9_sortOf 1 = .ok (.ifCond .ge 7, 3) := by decide +kernel
theorem dX9_sortOf_4 : decode cX9_sortOf 4 = .ok (.iconst 0, 1) := by decide +kernel
theorem dX9_sortOf_5 : decode cX9_sortOf 5 = .ok (.goto 44, 3) := by decide +kernel
theorem dX9_sortOf_8 : decode cX9_sortOf 8 = .ok (.iload_n 0, 1) := by decide +kernel
theorem dX9_sortOf_9 : decode cX9_sortOf 9 = .ok (.bipush 97, 2) := by decide +kernel
theorem dX9_sortOf_11 : decode cX9_sortOf 11 = .ok (.bipush 122, 2) := by decide +kernel
theorem dX9_sortOf_13 : decode cX9_sortOf 13 = .ok (.invokestatic 55, 3) := by decide +kernel
theorem dX9_sortOf_16 : decode cX9_sortOf 16 = .ok (.ifCond .eq 7, 3) := by decide +kernel
theorem dX9_sortOf_19 : decode cX9_sortOf 19 = .ok (.iconst 1, 1) := by decide +kernel
theorem dX9_sortOf_20 : decode cX9_sortOf 20 = .ok (.goto 29, 3) := by decide +kernel
theorem dX9_sortOf_23 : decode cX9_sortOf 23 = .ok (.iload_n 0, 1) := by decide +kernel
theorem dX9_sortOf_24 : decode cX9_sortOf 24 = .ok (.bipush 48, 2) := by decide +kernel
theorem dX9_sortOf_26 : decode cX9_sortOf 26 = .ok (.bipush 57, 2) := by decide +kernel
theorem dX9_sortOf_28 : decode cX9_sortOf 28 = .ok (.invokestatic 55, 3) := by decide +kernel
theorem dX9_sortOf_31 : decode cX9_sortOf 31 = .ok (.ifCond .eq 7, 3) := by decide +kernel
theorem dX9_sortOf_34 : decode cX9_sortOf 34 = .ok (.iconst 2, 1) := by decide +kernel
theorem dX9_sortOf_35 : decode cX9_sortOf 35 = .ok (.goto 14, 3) := by decide +kernel
theorem dX9_sortOf_38 : decode cX9_sortOf 38 = .ok (.iload_n 0, 1) := by decide +kernel
theorem dX9_sortOf_39 : decode cX9_sortOf 39 = .ok (.bipush 59, 2) := by decide +kernel
theorem dX9_sortOf_41 : decode cX9_sortOf 41 = .ok (.if_icmp .ne 7, 3) := by decide +kernel
theorem dX9_sortOf_44 : decode cX9_sortOf 44 = .ok (.iconst 3, 1) := by decide +kernel
theorem dX9_sortOf_45 : decode cX9_sortOf 45 = .ok (.goto 4, 3) := by decide +kernel
theorem dX9_sortOf_48 : decode cX9_sortOf 48 = .ok (.iconst 4, 1) := by decide +kernel
theorem dX9_sortOf_49 : decode cX9_sortOf 49 = .ok (.ireturn, 1) := by decide +kernel
theorem dX9_token_0 : decode cX9_token 0 = .ok (.aload_n 0, 1) := by decide +kernel
theorem dX9_token_1 : decode cX9_token 1 = .ok (.aload_n 0, 1) := by decide +kernel
theorem dX9_token_2 : decode cX9_token 2 = .ok (.getfield 69, 3) := by decide +kernel
theorem dX9_token_5 : decode cX9_token 5 = .ok (.invokevirtual 72, 3) := by decide +kernel
theorem dX9_token_8 : decode cX9_token 8 = .ok (.bipush 32, 2) := by decide +kernel
theorem dX9_token_10 : decode cX9_token 10 = .ok (.if_icmp .ne 16, 3) := by decide +kernel
theorem dX9_token_13 : decode cX9_token 13 = .ok (.aload_n 0, 1) := by decide +kernel
theorem dX9_token_14 : decode cX9_token 14 = .ok (.dup, 1) := by decide +kernel
theorem dX9_token_15 : decode cX9_token 15 = .ok (.getfield 69, 3) := by decide +kernel
theorem dX9_token_18 : decode cX9_token 18 = .ok (.iconst 1, 1) := by decide +kernel
theorem dX9_token_19 : decode cX9_token 19 = .ok (.iadd, 1) := by decide +kernel
theorem dX9_token_20 : decode cX9_token 20 = .ok (.putfield 69, 3) := by decide +kernel
theorem dX9_token_23 : decode cX9_token 23 = .ok (.goto (-23), 3) := by decide +kernel
theorem dX9_token_26 : decode cX9_token 26 = .ok (.aload_n 0, 1) := by decide +kernel
theorem dX9_token_27 : decode cX9_token 27 = .ok (.aload_n 0, 1) := by decide +kernel
theorem dX9_token_28 : decode cX9_token 28 = .ok (.getfield 69, 3) := by decide +kernel
theorem dX9_token_31 : decode cX9_token 31 = .ok (.putfield 76, 3) := by decide +kernel
theorem dX9_token_34 : decode cX9_token 34 = .ok (.aload_n 0, 1) := by decide +kernel
theorem dX9_token_35 : decode cX9_token 35 = .ok (.aload_n 0, 1) := by decide +kernel
theorem dX9_token_36 : decode cX9_token 36 = .ok (.aload_n 0, 1) := by decide +kernel
theorem dX9_token_37 : decode cX9_token 37 = .ok (.getfield 69, 3) := by decide +kernel
theorem dX9_token_40 : decode cX9_token 40 = .ok (.invokevirtual 72, 3) := by decide +kernel
theorem dX9_token_43 : decode cX9_token 43 = .ok (.invokestatic 79, 3) := by decide +kernel
theorem dX9_token_46 : decode cX9_token 46 = .ok (.putfield 82, 3) := by decide +kernel
theorem dX9_token_49 : decode cX9_token 49 = .ok (.aload_n 0, 1) := by decide +kernel
theorem dX9_token_50 : decode cX9_token 50 = .ok (.iconst 0, 1) := by decide +kernel
theorem dX9_token_51 : decode cX9_token 51 = .ok (.putfield 85, 3) := by decide +kernel
theorem dX9_token_54 : decode cX9_token 54 = .ok (.aload_n 0, 1) := by decide +kernel
theorem dX9_token_55 : decode cX9_token 55 = .ok (.getfield 85, 3) := by decide +kernel
theorem dX9_token_58 : decode cX9_token 58 = .ok (.ifCond .ne 10, 3) := by decide +kernel
theorem dX9_token_61 : decode cX9_token 61 = .ok (.aload_n 0, 1) := by decide +kernel
theorem dX9_token_62 : decode cX9_token 62 = .ok (.getfield 82, 3) := by decide +kernel
theorem dX9_token_65 : decode cX9_token 65 = .ok (.ifCond .ne 37, 3) := by decide +kernel
theorem dX9_token_68 : decode cX9_token 68 = .ok (.aload_n 0, 1) := by decide +kernel
theorem dX9_token_69 : decode cX9_token 69 = .ok (.getfield 82, 3) := by decide +kernel
theorem dX9_token_72 : decode cX9_token 72 = .ok (.iconst 1, 1) := by decide +kernel
theorem dX9_token_73 : decode cX9_token 73 = .ok (.if_icmp .eq 11, 3) := by decide +kernel
theorem dX9_token_76 : decode cX9_token 76 = .ok (.aload_n 0, 1) := by decide +kernel
theorem dX9_token_77 : decode cX9_token 77 = .ok (.getfield 82, 3) := by decide +kernel
theorem dX9_token_80 : decode cX9_token 80 = .ok (.iconst 2, 1) := by decide +kernel
theorem dX9_token_81 : decode cX9_token 81 = .ok (.if_icmp .ne 44, 3) := by decide +kernel
theorem dX9_token_84 : decode cX9_token 84 = .ok (.aload_n 0, 1) := by decide +kernel
theorem dX9_token_85 : decode cX9_token 85 = .ok (.aload_n 0, 1) := by decide +kernel
theorem dX9_token_86 : decode cX9_token 86 = .ok (.getfield 69, 3) := by decide +kernel
theorem dX9_token_89 : decode cX9_token 89 = .ok (.invokevirtual 72, 3) := by decide +kernel
theorem dX9_token_92 : decode cX9_token 92 = .ok (.invokestatic 79, 3) := by decide +kernel
theorem dX9_token_95 : decode cX9_token 95 = .ok (.aload_n 0, 1) := by decide +kernel
theorem dX9_token_96 : decode cX9_token 96 = .ok (.getfield 82, 3) := by decide +kernel
theorem dX9_token_99 : decode cX9_token 99 = .ok (.if_icmp .ne 26, 3) := by decide +kernel
theorem dX9_token_102 : decode cX9_token 102 = .ok (.aload_n 0, 1) := by decide +kernel
theorem dX9_token_103 : decode cX9_token 103 = .ok (.dup, 1) := by decide +kernel
theorem dX9_token_104 : decode cX9_token 104 = .ok (.getfield 69, 3) := by decide +kernel
theorem dX9_token_107 : decode cX9_token 107 = .ok (.iconst 1, 1) := by decide +kernel
theorem dX9_token_108 : decode cX9_token 108 = .ok (.iadd, 1) := by decide +kernel
theorem dX9_token_109 : decode cX9_token 109 = .ok (.putfield 69, 3) := by decide +kernel
theorem dX9_token_112 : decode cX9_token 112 = .ok (.aload_n 0, 1) := by decide +kernel
theorem dX9_token_113 : decode cX9_token 113 = .ok (.dup, 1) := by decide +kernel
theorem dX9_token_114 : decode cX9_token 114 = .ok (.getfield 85, 3) := by decide +kernel
theorem dX9_token_117 : decode cX9_token 117 = .ok (.iconst 1, 1) := by decide +kernel
theorem dX9_token_118 : decode cX9_token 118 = .ok (.iadd, 1) := by decide +kernel
theorem dX9_token_119 : decode cX9_token 119 = .ok (.putfield 85, 3) := by decide +kernel
theorem dX9_token_122 : decode cX9_token 122 = .ok (.goto (-68), 3) := by decide +kernel
theorem dX9_token_125 : decode cX9_token 125 = .ok (.return_, 1) := by decide +kernel
theorem dX9_verb_0 : decode cX9_verb 0 = .ok (.lconst 0, 1) := by decide +kernel
theorem dX9_verb_1 : decode cX9_verb 1 = .ok (.lstore_n 1, 1) := by decide +kernel
theorem dX9_verb_2 : decode cX9_verb 2 = .ok (.iconst 0, 1) := by decide +kernel
theorem dX9_verb_3 : decode cX9_verb 3 = .ok (.istore_n 3, 1) := by decide +kernel
theorem dX9_verb_4 : decode cX9_verb 4 = .ok (.iload_n 3, 1) := by decide +kernel
theorem dX9_verb_5 : decode cX9_verb 5 = .ok (.aload_n 0, 1) := by decide +kernel
theorem dX9_verb_6 : decode cX9_verb 6 = .ok (.getfield 85, 3) := by decide +kernel
theorem dX9_verb_9 : decode cX9_verb 9 = .ok (.if_icmp .ge 44, 3) := by decide +kernel
theorem dX9_verb_12 : decode cX9_verb 12 = .ok (.aload_n 0, 1) := by decide +kernel
theorem dX9_verb_13 : decode cX9_verb 13 = .ok (.getfield 85, 3) := by decide +kernel
theorem dX9_verb_16 : decode cX9_verb 16 = .ok (.bipush 8, 2) := by decide +kernel
theorem dX9_verb_18 : decode cX9_verb 18 = .ok (.if_icmp .ge 35, 3) := by decide +kernel
theorem dX9_verb_21 : decode cX9_verb 21 = .ok (.aload_n 0, 1) := by decide +kernel
theorem dX9_verb_22 : decode cX9_verb 22 = .ok (.getfield 82, 3) := by decide +kernel
theorem dX9_verb_25 : decode cX9_verb 25 = .ok (.iconst 1, 1) := by decide +kernel
theorem dX9_verb_26 : decode cX9_verb 26 = .ok (.if_icmp .ne 27, 3) := by decide +kernel
theorem dX9_verb_29 : decode cX9_verb 29 = .ok (.ldc2_w 88, 3) := by decide +kernel
theorem dX9_verb_32 : decode cX9_verb 32 = .ok (.lload_n 1, 1) := by decide +kernel
theorem dX9_verb_33 : decode cX9_verb 33 = .ok (.lmul, 1) := by decide +kernel
theorem dX9_verb_34 : decode cX9_verb 34 = .ok (.aload_n 0, 1) := by decide +kernel
theorem dX9_verb_35 : decode cX9_verb 35 = .ok (.aload_n 0, 1) := by decide +kernel
theorem dX9_verb_36 : decode cX9_verb 36 = .ok (.getfield 76, 3) := by decide +kernel
theorem dX9_verb_39 : decode cX9_verb 39 = .ok (.iload_n 3, 1) := by decide +kernel
theorem dX9_verb_40 : decode cX9_verb 40 = .ok (.iadd, 1) := by decide +kernel
theorem dX9_verb_41 : decode cX9_verb 41 = .ok (.invokevirtual 72, 3) := by decide +kernel
theorem dX9_verb_44 : decode cX9_verb 44 = .ok (.i2l, 1) := by decide +kernel
theorem dX9_verb_45 : decode cX9_verb 45 = .ok (.ladd, 1) := by decide +kernel
theorem dX9_verb_46 : decode cX9_verb 46 = .ok (.lstore_n 1, 1) := by decide +kernel
theorem dX9_verb_47 : decode cX9_verb 47 = .ok (.iinc 3 1, 3) := by decide +kernel
theorem dX9_verb_50 : decode cX9_verb 50 = .ok (.goto (-46), 3) := by decide +kernel
theorem dX9_verb_53 : decode cX9_verb 53 = .ok (.lload_n 1, 1) := by decide +kernel
theorem dX9_verb_54 : decode cX9_verb 54 = .ok (.ldc2_w 90, 3) := by decide +kernel
theorem dX9_verb_57 : decode cX9_verb 57 = .ok (.lcmp, 1) := by decide +kernel
theorem dX9_verb_58 : decode cX9_verb 58 = .ok (.ifCond .ne 7, 3) := by decide +kernel
theorem dX9_verb_61 : decode cX9_verb 61 = .ok (.iconst 0, 1) := by decide +kernel
theorem dX9_verb_62 : decode cX9_verb 62 = .ok (.goto 41, 3) := by decide +kernel
theorem dX9_verb_65 : decode cX9_verb 65 = .ok (.lload_n 1, 1) := by decide +kernel
theorem dX9_verb_66 : decode cX9_verb 66 = .ok (.ldc2_w 92, 3) := by decide +kernel
theorem dX9_verb_69 : decode cX9_verb 69 = .ok (.lcmp, 1) := by decide +kernel
theorem dX9_verb_70 : decode cX9_verb 70 = .ok (.ifCond .ne 7, 3) := by decide +kernel
theorem dX9_verb_73 : decode cX9_verb 73 = .ok (.iconst 1, 1) := by decide +kernel
theorem dX9_verb_74 : decode cX9_verb 74 = .ok (.goto 29, 3) := by decide +kernel
theorem dX9_verb_77 : decode cX9_verb 77 = .ok (.lload_n 1, 1) := by decide +kernel
theorem dX9_verb_78 : decode cX9_verb 78 = .ok (.ldc2_w 94, 3) := by decide +kernel
theorem dX9_verb_81 : decode cX9_verb 81 = .ok (.lcmp, 1) := by decide +kernel
theorem dX9_verb_82 : decode cX9_verb 82 = .ok (.ifCond .ne 7, 3) := by decide +kernel
theorem dX9_verb_85 : decode cX9_verb 85 = .ok (.iconst 2, 1) := by decide +kernel
theorem dX9_verb_86 : decode cX9_verb 86 = .ok (.goto 17, 3) := by decide +kernel
theorem dX9_verb_89 : decode cX9_verb 89 = .ok (.lload_n 1, 1) := by decide +kernel
theorem dX9_verb_90 : decode cX9_verb 90 = .ok (.ldc2_w 96, 3) := by decide +kernel
theorem dX9_verb_93 : decode cX9_verb 93 = .ok (.lcmp, 1) := by decide +kernel
theorem dX9_verb_94 : decode cX9_verb 94 = .ok (.ifCond .ne 7, 3) := by decide +kernel
theorem dX9_verb_97 : decode cX9_verb 97 = .ok (.iconst 3, 1) := by decide +kernel
theorem dX9_verb_98 : decode cX9_verb 98 = .ok (.goto 5, 3) := by decide +kernel
theorem dX9_verb_101 : decode cX9_verb 101 = .ok (.bipush (-9), 2) := by decide +kernel
theorem dX9_verb_103 : decode cX9_verb 103 = .ok (.ireturn, 1) := by decide +kernel
theorem dX9_number_0 : decode cX9_number 0 = .ok (.aload_n 0, 1) := by decide +kernel
theorem dX9_number_1 : decode cX9_number 1 = .ok (.invokevirtual 98, 3) := by decide +kernel
theorem dX9_number_4 : decode cX9_number 4 = .ok (.aload_n 0, 1) := by decide +kernel
theorem dX9_number_5 : decode cX9_number 5 = .ok (.aload_n 0, 1) := by decide +kernel
theorem dX9_number_6 : decode cX9_number 6 = .ok (.getfield 76, 3) := by decide +kernel
theorem dX9_number_9 : decode cX9_number 9 = .ok (.invokevirtual 72, 3) := by decide +kernel
theorem dX9_number_12 : decode cX9_number 12 = .ok (.bipush 48, 2) := by decide +kernel
theorem dX9_number_14 : decode cX9_number 14 = .ok (.isub, 1) := by decide +kernel
theorem dX9_number_15 : decode cX9_number 15 = .ok (.istore_n 3, 1) := by decide +kernel
theorem dX9_number_16 : decode cX9_number 16 = .ok (.aload_n 0, 1) := by decide +kernel
theorem dX9_number_17 : decode cX9_number 17 = .ok (.getfield 85, 3) := by decide +kernel
theorem dX9_number_20 : decode cX9_number 20 = .ok (.iconst 2, 1) := by decide +kernel
theorem dX9_number_21 : decode cX9_number 21 = .ok (.if_icmp .ne 24, 3) := by decide +kernel
theorem dX9_number_24 : decode cX9_number 24 = .ok (.bipush 10, 2) := by decide +kernel
theorem dX9_number_26 : decode cX9_number 26 = .ok (.iload_n 3, 1) := by decide +kernel
theorem dX9_number_27 : decode cX9_number 27 = .ok (.imul, 1) := by decide +kernel
theorem dX9_number_28 : decode cX9_number 28 = .ok (.aload_n 0, 1) := by decide +kernel
theorem dX9_number_29 : decode cX9_number 29 = .ok (.aload_n 0, 1) := by decide +kernel
theorem dX9_number_30 : decode cX9_number 30 = .ok (.getfield 76, 3) := by decide +kernel
theorem dX9_number_33 : decode cX9_number 33 = .ok (.iconst 1, 1) := by decide +kernel
theorem dX9_number_34 : decode cX9_number 34 = .ok (.iadd, 1) := by decide +kernel
theorem dX9_number_35 : decode cX9_number 35 = .ok (.invokevirtual 72, 3) := by decide +kernel
theorem dX9_number_38 : decode cX9_number 38 = .ok (.iadd, 1) := by decide +kernel
theorem dX9_number_39 : decode cX9_number 39 = .ok (.bipush 48, 2) := by decide +kernel
theorem dX9_number_41 : decode cX9_number 41 = .ok (.isub, 1) := by decide +kernel
theorem dX9_number_42 : decode cX9_number 42 = .ok (.goto 4, 3) := by decide +kernel
theorem dX9_number_45 : decode cX9_number 45 = .ok (.iload_n 3, 1) := by decide +kernel
theorem dX9_number_46 : decode cX9_number 46 = .ok (.istore 4, 2) := by decide +kernel
theorem dX9_number_48 : decode cX9_number 48 = .ok (.aload_n 0, 1) := by decide +kernel
theorem dX9_number_49 : decode cX9_number 49 = .ok (.getfield 82, 3) := by decide +kernel
theorem dX9_number_52 : decode cX9_number 52 = .ok (.iconst 2, 1) := by decide +kernel
theorem dX9_number_53 : decode cX9_number 53 = .ok (.if_icmp .ne 38, 3) := by decide +kernel
theorem dX9_number_56 : decode cX9_number 56 = .ok (.aload_n 0, 1) := by decide +kernel
theorem dX9_number_57 : decode cX9_number 57 = .ok (.getfield 85, 3) := by decide +kernel
theorem dX9_number_60 : decode cX9_number 60 = .ok (.iconst 1, 1) := by decide +kernel
theorem dX9_number_61 : decode cX9_number 61 = .ok (.if_icmp .eq 15, 3) := by decide +kernel
theorem dX9_number_64 : decode cX9_number 64 = .ok (.aload_n 0, 1) := by decide +kernel
theorem dX9_number_65 : decode cX9_number 65 = .ok (.getfield 85, 3) := by decide +kernel
theorem dX9_number_68 : decode cX9_number 68 = .ok (.iconst 2, 1) := by decide +kernel
theorem dX9_number_69 : decode cX9_number 69 = .ok (.if_icmp .ne 22, 3) := by decide +kernel
theorem dX9_number_72 : decode cX9_number 72 = .ok (.iload_n 3, 1) := by decide +kernel
theorem dX9_number_73 : decode cX9_number 73 = .ok (.ifCond .le 18, 3) := by decide +kernel
theorem dX9_number_76 : decode cX9_number 76 = .ok (.iload 4, 2) := by decide +kernel
theorem dX9_number_78 : decode cX9_number 78 = .ok (.iload_n 1, 1) := by decide +kernel
theorem dX9_number_79 : decode cX9_number 79 = .ok (.iload_n 2, 1) := by decide +kernel
theorem dX9_number_80 : decode cX9_number 80 = .ok (.invokestatic 55, 3) := by decide +kernel
theorem dX9_number_83 : decode cX9_number 83 = .ok (.ifCond .eq 8, 3) := by decide +kernel
theorem dX9_number_86 : decode cX9_number 86 = .ok (.iload 4, 2) := by decide +kernel
theorem dX9_number_88 : decode cX9_number 88 = .ok (.goto 5, 3) := by decide +kernel
theorem dX9_number_91 : decode cX9_number 91 = .ok (.bipush (-9), 2) := by decide +kernel
theorem dX9_number_93 : decode cX9_number 93 = .ok (.ireturn, 1) := by decide +kernel
theorem dX9_draftCells_0 : decode cX9_draftCells 0 = .ok (.aload_n 0, 1) := by decide +kernel
theorem dX9_draftCells_1 : decode cX9_draftCells 1 = .ok (.getfield 16, 3) := by decide +kernel
theorem dX9_draftCells_4 : decode cX9_draftCells 4 = .ok (.iconst 0, 1) := by decide +kernel
theorem dX9_draftCells_5 : decode cX9_draftCells 5 = .ok (.iaload, 1) := by decide +kernel
theorem dX9_draftCells_6 : decode cX9_draftCells 6 = .ok (.aload_n 0, 1) := by decide +kernel
theorem dX9_draftCells_7 : decode cX9_draftCells 7 = .ok (.getfield 16, 3) := by decide +kernel
theorem dX9_draftCells_10 : decode cX9_draftCells 10 = .ok (.iconst 1, 1) := by decide +kernel
theorem dX9_draftCells_11 : decode cX9_draftCells 11 = .ok (.iaload, 1) := by decide +kernel
theorem dX9_draftCells_12 : decode cX9_draftCells 12 = .ok (.imul, 1) := by decide +kernel
theorem dX9_draftCells_13 : decode cX9_draftCells 13 = .ok (.ireturn, 1) := by decide +kernel
theorem dX9_readsMap_0 : decode cX9_readsMap 0 = .ok (.aload_n 0, 1) := by decide +kernel
theorem dX9_readsMap_1 : decode cX9_readsMap 1 = .ok (.getfield 16, 3) := by decide +kernel
theorem dX9_readsMap_4 : decode cX9_readsMap 4 = .ok (.iconst 4, 1) := by decide +kernel
theorem dX9_readsMap_5 : decode cX9_readsMap 5 = .ok (.iaload, 1) := by decide +kernel
theorem dX9_readsMap_6 : decode cX9_readsMap 6 = .ok (.ifCond .le 8, 3) := by decide +kernel
theorem dX9_readsMap_9 : decode cX9_readsMap 9 = .ok (.bipush (-9), 2) := by decide +kernel
theorem dX9_readsMap_11 : decode cX9_readsMap 11 = .ok (.goto 9, 3) := by decide +kernel
theorem dX9_readsMap_14 : decode cX9_readsMap 14 = .ok (.aload_n 0, 1) := by decide +kernel
theorem dX9_readsMap_15 : decode cX9_readsMap 15 = .ok (.iconst 1, 1) := by decide +kernel
theorem dX9_readsMap_16 : decode cX9_readsMap 16 = .ok (.iconst 4, 1) := by decide +kernel
theorem dX9_readsMap_17 : decode cX9_readsMap 17 = .ok (.invokevirtual 101, 3) := by decide +kernel
theorem dX9_readsMap_20 : decode cX9_readsMap 20 = .ok (.istore_n 1, 1) := by decide +kernel
theorem dX9_readsMap_21 : decode cX9_readsMap 21 = .ok (.iload_n 1, 1) := by decide +kernel
theorem dX9_readsMap_22 : decode cX9_readsMap 22 = .ok (.bipush (-9), 2) := by decide +kernel
theorem dX9_readsMap_24 : decode cX9_readsMap 24 = .ok (.if_icmp .ne 5, 3) := by decide +kernel
theorem dX9_readsMap_27 : decode cX9_readsMap 27 = .ok (.iconst 0, 1) := by decide +kernel
theorem dX9_readsMap_28 : decode cX9_readsMap 28 = .ok (.ireturn, 1) := by decide +kernel
theorem dX9_readsMap_29 : decode cX9_readsMap 29 = .ok (.aload_n 0, 1) := by decide +kernel
theorem dX9_readsMap_30 : decode cX9_readsMap 30 = .ok (.iconst 1, 1) := by decide +kernel
theorem dX9_readsMap_31 : decode cX9_readsMap 31 = .ok (.iconst 4, 1) := by decide +kernel
theorem dX9_readsMap_32 : decode cX9_readsMap 32 = .ok (.invokevirtual 101, 3) := by decide +kernel
theorem dX9_readsMap_35 : decode cX9_readsMap 35 = .ok (.istore_n 2, 1) := by decide +kernel
theorem dX9_readsMap_36 : decode cX9_readsMap 36 = .ok (.aload_n 0, 1) := by decide +kernel
theorem dX9_readsMap_37 : decode cX9_readsMap 37 = .ok (.getfield 16, 3) := by decide +kernel
theorem dX9_readsMap_40 : decode cX9_readsMap 40 = .ok (.iconst 0, 1) := by decide +kernel
theorem dX9_readsMap_41 : decode cX9_readsMap 41 = .ok (.iload_n 1, 1) := by decide +kernel
theorem dX9_readsMap_42 : decode cX9_readsMap 42 = .ok (.iastore, 1) := by decide +kernel
theorem dX9_readsMap_43 : decode cX9_readsMap 43 = .ok (.aload_n 0, 1) := by decide +kernel
theorem dX9_readsMap_44 : decode cX9_readsMap 44 = .ok (.getfield 16, 3) := by decide +kernel
theorem dX9_readsMap_47 : decode cX9_readsMap 47 = .ok (.iconst 1, 1) := by decide +kernel
theorem dX9_readsMap_48 : decode cX9_readsMap 48 = .ok (.iload_n 2, 1) := by decide +kernel
theorem dX9_readsMap_49 : decode cX9_readsMap 49 = .ok (.iastore, 1) := by decide +kernel
theorem dX9_readsMap_50 : decode cX9_readsMap 50 = .ok (.iload_n 2, 1) := by decide +kernel
theorem dX9_readsMap_51 : decode cX9_readsMap 51 = .ok (.bipush (-9), 2) := by decide +kernel
theorem dX9_readsMap_53 : decode cX9_readsMap 53 = .ok (.if_icmp .eq 7, 3) := by decide +kernel
theorem dX9_readsMap_56 : decode cX9_readsMap 56 = .ok (.iconst 1, 1) := by decide +kernel
theorem dX9_readsMap_57 : decode cX9_readsMap 57 = .ok (.goto 4, 3) := by decide +kernel
theorem dX9_readsMap_60 : decode cX9_readsMap 60 = .ok (.iconst 0, 1) := by decide +kernel
theorem dX9_readsMap_61 : decode cX9_readsMap 61 = .ok (.ireturn, 1) := by decide +kernel
theorem dX9_readsWorth_0 : decode cX9_readsWorth 0 = .ok (.aload_n 0, 1) := by decide +kernel
theorem dX9_readsWorth_1 : decode cX9_readsWorth 1 = .ok (.iconst 0, 1) := by decide +kernel
theorem dX9_readsWorth_2 : decode cX9_readsWorth 2 = .ok (.aload_n 0, 1) := by decide +kernel
theorem dX9_readsWorth_3 : decode cX9_readsWorth 3 = .ok (.invokevirtual 105, 3) := by decide +kernel
theorem dX9_readsWorth_6 : decode cX9_readsWorth 6 = .ok (.iconst 1, 1) := by decide +kernel
theorem dX9_readsWorth_7 : decode cX9_readsWorth 7 = .ok (.isub, 1) := by decide +kernel
theorem dX9_readsWorth_8 : decode cX9_readsWorth 8 = .ok (.invokevirtual 101, 3) := by decide +kernel
theorem dX9_readsWorth_11 : decode cX9_readsWorth 11 = .ok (.istore_n 1, 1) := by decide +kernel
theorem dX9_readsWorth_12 : decode cX9_readsWorth 12 = .ok (.iload_n 1, 1) := by decide +kernel
theorem dX9_readsWorth_13 : decode cX9_readsWorth 13 = .ok (.bipush (-9), 2) := by decide +kernel
theorem dX9_readsWorth_15 : decode cX9_readsWorth 15 = .ok (.if_icmp .ne 5, 3) := by decide +kernel
theorem dX9_readsWorth_18 : decode cX9_readsWorth 18 = .ok (.iconst 0, 1) := by decide +kernel
theorem dX9_readsWorth_19 : decode cX9_readsWorth 19 = .ok (.ireturn, 1) := by decide +kernel
theorem dX9_readsWorth_20 : decode cX9_readsWorth 20 = .ok (.aload_n 0, 1) := by decide +kernel
theorem dX9_readsWorth_21 : decode cX9_readsWorth 21 = .ok (.iconst 0, 1) := by decide +kernel
theorem dX9_readsWorth_22 : decode cX9_readsWorth 22 = .ok (.bipush 9, 2) := by decide +kernel
theorem dX9_readsWorth_24 : decode cX9_readsWorth 24 = .ok (.invokevirtual 101, 3) := by decide +kernel
theorem dX9_readsWorth_27 : decode cX9_readsWorth 27 = .ok (.istore_n 2, 1) := by decide +kernel
theorem dX9_readsWorth_28 : decode cX9_readsWorth 28 = .ok (.aload_n 0, 1) := by decide +kernel
theorem dX9_readsWorth_29 : decode cX9_readsWorth 29 = .ok (.getfield 16, 3) := by decide +kernel
theorem dX9_readsWorth_32 : decode cX9_readsWorth 32 = .ok (.bipush 6, 2) := by decide +kernel
theorem dX9_readsWorth_34 : decode cX9_readsWorth 34 = .ok (.iload_n 1, 1) := by decide +kernel
theorem dX9_readsWorth_35 : decode cX9_readsWorth 35 = .ok (.iadd, 1) := by decide +kernel
theorem dX9_readsWorth_36 : decode cX9_readsWorth 36 = .ok (.iload_n 2, 1) := by decide +kernel
theorem dX9_readsWorth_37 : decode cX9_readsWorth 37 = .ok (.iastore, 1) := by decide +kernel
theorem dX9_readsWorth_38 : decode cX9_readsWorth 38 = .ok (.iload_n 2, 1) := by decide +kernel
theorem dX9_readsWorth_39 : decode cX9_readsWorth 39 = .ok (.bipush (-9), 2) := by decide +kernel
theorem dX9_readsWorth_41 : decode cX9_readsWorth 41 = .ok (.if_icmp .eq 7, 3) := by decide +kernel
theorem dX9_readsWorth_44 : decode cX9_readsWorth 44 = .ok (.iconst 1, 1) := by decide +kernel
theorem dX9_readsWorth_45 : decode cX9_readsWorth 45 = .ok (.goto 4, 3) := by decide +kernel
theorem dX9_readsWorth_48 : decode cX9_readsWorth 48 = .ok (.iconst 0, 1) := by decide +kernel
theorem dX9_readsWorth_49 : decode cX9_readsWorth 49 = .ok (.ireturn, 1) := by decide +kernel
theorem dX9_readsQuarrel_0 : decode cX9_readsQuarrel 0 = .ok (.aload_n 0, 1) := by decide +kernel
theorem dX9_readsQuarrel_1 : decode cX9_readsQuarrel 1 = .ok (.getfield 16, 3) := by decide +kernel
theorem dX9_readsQuarrel_4 : decode cX9_readsQuarrel 4 = .ok (.iconst 3, 1) := by decide +kernel
theorem dX9_readsQuarrel_5 : decode cX9_readsQuarrel 5 = .ok (.iaload, 1) := by decide +kernel
theorem dX9_readsQuarrel_6 : decode cX9_readsQuarrel 6 = .ok (.istore_n 1, 1) := by decide +kernel
theorem dX9_readsQuarrel_7 : decode cX9_readsQuarrel 7 = .ok (.iload_n 1, 1) := by decide +kernel
theorem dX9_readsQuarrel_8 : decode cX9_readsQuarrel 8 = .ok (.bipush 6, 2) := by decide +kernel
theorem dX9_readsQuarrel_10 : decode cX9_readsQuarrel 10 = .ok (.if_icmp .ne 8, 3) := by decide +kernel
theorem dX9_readsQuarrel_13 : decode cX9_readsQuarrel 13 = .ok (.bipush (-9), 2) := by decide +kernel
theorem dX9_readsQuarrel_15 : decode cX9_readsQuarrel 15 = .ok (.goto 14, 3) := by decide +kernel
theorem dX9_readsQuarrel_18 : decode cX9_readsQuarrel 18 = .ok (.aload_n 0, 1) := by decide +kernel
theorem dX9_readsQuarrel_19 : decode cX9_readsQuarrel 19 = .ok (.iconst 0, 1) := by decide +kernel
theorem dX9_readsQuarrel_20 : decode cX9_readsQuarrel 20 = .ok (.aload_n 0, 1) := by decide +kernel
theorem dX9_readsQuarrel_21 : decode cX9_readsQuarrel 21 = .ok (.invokevirtual 105, 3) := by decide +kernel
theorem dX9_readsQuarrel_24 : decode cX9_readsQuarrel 24 = .ok (.iconst 1, 1) := by decide +kernel
theorem dX9_readsQuarrel_25 : decode cX9_readsQuarrel 25 = .ok (.isub, 1) := by decide +kernel
theorem dX9_readsQuarrel_26 : decode cX9_readsQuarrel 26 = .ok (.invokevirtual 101, 3) := by decide +kernel
theorem dX9_readsQuarrel_29 : decode cX9_readsQuarrel 29 = .ok (.istore_n 2, 1) := by decide +kernel
theorem dX9_readsQuarrel_30 : decode cX9_readsQuarrel 30 = .ok (.iload_n 2, 1) := by decide +kernel
theorem dX9_readsQuarrel_31 : decode cX9_readsQuarrel 31 = .ok (.bipush (-9), 2) := by decide +kernel
theorem dX9_readsQuarrel_33 : decode cX9_readsQuarrel 33 = .ok (.if_icmp .ne 5, 3) := by decide +kernel
theorem dX9_readsQuarrel_36 : decode cX9_readsQuarrel 36 = .ok (.iconst 0, 1) := by decide +kernel
theorem dX9_readsQuarrel_37 : decode cX9_readsQuarrel 37 = .ok (.ireturn, 1) := by decide +kernel
theorem dX9_readsQuarrel_38 : decode cX9_readsQuarrel 38 = .ok (.aload_n 0, 1) := by decide +kernel
theorem dX9_readsQuarrel_39 : decode cX9_readsQuarrel 39 = .ok (.iconst 0, 1) := by decide +kernel
theorem dX9_readsQuarrel_40 : decode cX9_readsQuarrel 40 = .ok (.aload_n 0, 1) := by decide +kernel
theorem dX9_readsQuarrel_41 : decode cX9_readsQuarrel 41 = .ok (.invokevirtual 105, 3) := by decide +kernel
theorem dX9_readsQuarrel_44 : decode cX9_readsQuarrel 44 = .ok (.iconst 1, 1) := by decide +kernel
theorem dX9_readsQuarrel_45 : decode cX9_readsQuarrel 45 = .ok (.isub, 1) := by decide +kernel
theorem dX9_readsQuarrel_46 : decode cX9_readsQuarrel 46 = .ok (.invokevirtual 101, 3) := by decide +kernel
theorem dX9_readsQuarrel_49 : decode cX9_readsQuarrel 49 = .ok (.istore_n 3, 1) := by decide +kernel
theorem dX9_readsQuarrel_50 : decode cX9_readsQuarrel 50 = .ok (.iload_n 3, 1) := by decide +kernel
theorem dX9_readsQuarrel_51 : decode cX9_readsQuarrel 51 = .ok (.bipush (-9), 2) := by decide +kernel
theorem dX9_readsQuarrel_53 : decode cX9_readsQuarrel 53 = .ok (.if_icmp .eq 8, 3) := by decide +kernel
theorem dX9_readsQuarrel_56 : decode cX9_readsQuarrel 56 = .ok (.iload_n 3, 1) := by decide +kernel
theorem dX9_readsQuarrel_57 : decode cX9_readsQuarrel 57 = .ok (.iload_n 2, 1) := by decide +kernel
theorem dX9_readsQuarrel_58 : decode cX9_readsQuarrel 58 = .ok (.if_icmp .ne 5, 3) := by decide +kernel
theorem dX9_readsQuarrel_61 : decode cX9_readsQuarrel 61 = .ok (.iconst 0, 1) := by decide +kernel
theorem dX9_readsQuarrel_62 : decode cX9_readsQuarrel 62 = .ok (.ireturn, 1) := by decide +kernel
theorem dX9_readsQuarrel_63 : decode cX9_readsQuarrel 63 = .ok (.aload_n 0, 1) := by decide +kernel
theorem dX9_readsQuarrel_64 : decode cX9_readsQuarrel 64 = .ok (.getfield 16, 3) := by decide +kernel
theorem dX9_readsQuarrel_67 : decode cX9_readsQuarrel 67 = .ok (.bipush 22, 2) := by decide +kernel
theorem dX9_readsQuarrel_69 : decode cX9_readsQuarrel 69 = .ok (.iload_n 1, 1) := by decide +kernel
theorem dX9_readsQuarrel_70 : decode cX9_readsQuarrel 70 = .ok (.iadd, 1) := by decide +kernel
theorem dX9_readsQuarrel_71 : decode cX9_readsQuarrel 71 = .ok (.iload_n 2, 1) := by decide +kernel
theorem dX9_readsQuarrel_72 : decode cX9_readsQuarrel 72 = .ok (.iastore, 1) := by decide +kernel
theorem dX9_readsQuarrel_73 : decode cX9_readsQuarrel 73 = .ok (.aload_n 0, 1) := by decide +kernel
theorem dX9_readsQuarrel_74 : decode cX9_readsQuarrel 74 = .ok (.getfield 16, 3) := by decide +kernel
theorem dX9_readsQuarrel_77 : decode cX9_readsQuarrel 77 = .ok (.bipush 28, 2) := by decide +kernel
theorem dX9_readsQuarrel_79 : decode cX9_readsQuarrel 79 = .ok (.iload_n 1, 1) := by decide +kernel
theorem dX9_readsQuarrel_80 : decode cX9_readsQuarrel 80 = .ok (.iadd, 1) := by decide +kernel
theorem dX9_readsQuarrel_81 : decode cX9_readsQuarrel 81 = .ok (.iload_n 3, 1) := by decide +kernel
theorem dX9_readsQuarrel_82 : decode cX9_readsQuarrel 82 = .ok (.iastore, 1) := by decide +kernel
theorem dX9_readsQuarrel_83 : decode cX9_readsQuarrel 83 = .ok (.aload_n 0, 1) := by decide +kernel
theorem dX9_readsQuarrel_84 : decode cX9_readsQuarrel 84 = .ok (.getfield 16, 3) := by decide +kernel
theorem dX9_readsQuarrel_87 : decode cX9_readsQuarrel 87 = .ok (.iconst 3, 1) := by decide +kernel
theorem dX9_readsQuarrel_88 : decode cX9_readsQuarrel 88 = .ok (.dup2, 1) := by decide +kernel
theorem dX9_readsQuarrel_89 : decode cX9_readsQuarrel 89 = .ok (.iaload, 1) := by decide +kernel
theorem dX9_readsQuarrel_90 : decode cX9_readsQuarrel 90 = .ok (.iconst 1, 1) := by decide +kernel
theorem dX9_readsQuarrel_91 : decode cX9_readsQuarrel 91 = .ok (.iadd, 1) := by decide +kernel
theorem dX9_readsQuarrel_92 : decode cX9_readsQuarrel 92 = .ok (.iastore, 1) := by decide +kernel
theorem dX9_readsQuarrel_93 : decode cX9_readsQuarrel 93 = .ok (.iconst 1, 1) := by decide +kernel
theorem dX9_readsQuarrel_94 : decode cX9_readsQuarrel 94 = .ok (.ireturn, 1) := by decide +kernel
theorem dX9_readsTear_0 : decode cX9_readsTear 0 = .ok (.aload_n 0, 1) := by decide +kernel
theorem dX9_readsTear_1 : decode cX9_readsTear 1 = .ok (.getfield 16, 3) := by decide +kernel
theorem dX9_readsTear_4 : decode cX9_readsTear 4 = .ok (.iconst 5, 1) := by decide +kernel
theorem dX9_readsTear_5 : decode cX9_readsTear 5 = .ok (.iaload, 1) := by decide +kernel
theorem dX9_readsTear_6 : decode cX9_readsTear 6 = .ok (.ifCond .le 8, 3) := by decide +kernel
theorem dX9_readsTear_9 : decode cX9_readsTear 9 = .ok (.bipush (-9), 2) := by decide +kernel
theorem dX9_readsTear_11 : decode cX9_readsTear 11 = .ok (.goto 10, 3) := by decide +kernel
theorem dX9_readsTear_14 : decode cX9_readsTear 14 = .ok (.aload_n 0, 1) := by decide +kernel
theorem dX9_readsTear_15 : decode cX9_readsTear 15 = .ok (.iconst 1, 1) := by decide +kernel
theorem dX9_readsTear_16 : decode cX9_readsTear 16 = .ok (.bipush 9, 2) := by decide +kernel
theorem dX9_readsTear_18 : decode cX9_readsTear 18 = .ok (.invokevirtual 101, 3) := by decide +kernel
theorem dX9_readsTear_21 : decode cX9_readsTear 21 = .ok (.istore_n 1, 1) := by decide +kernel
theorem dX9_readsTear_22 : decode cX9_readsTear 22 = .ok (.aload_n 0, 1) := by decide +kernel
theorem dX9_readsTear_23 : decode cX9_readsTear 23 = .ok (.getfield 16, 3) := by decide +kernel
theorem dX9_readsTear_26 : decode cX9_readsTear 26 = .ok (.iconst 5, 1) := by decide +kernel
theorem dX9_readsTear_27 : decode cX9_readsTear 27 = .ok (.iconst 1, 1) := by decide +kernel
theorem dX9_readsTear_28 : decode cX9_readsTear 28 = .ok (.iastore, 1) := by decide +kernel
theorem dX9_readsTear_29 : decode cX9_readsTear 29 = .ok (.aload_n 0, 1) := by decide +kernel
theorem dX9_readsTear_30 : decode cX9_readsTear 30 = .ok (.getfield 16, 3) := by decide +kernel
theorem dX9_readsTear_33 : decode cX9_readsTear 33 = .ok (.iconst 2, 1) := by decide +kernel
theorem dX9_readsTear_34 : decode cX9_readsTear 34 = .ok (.iload_n 1, 1) := by decide +kernel
theorem dX9_readsTear_35 : decode cX9_readsTear 35 = .ok (.iastore, 1) := by decide +kernel
theorem dX9_readsTear_36 : decode cX9_readsTear 36 = .ok (.iload_n 1, 1) := by decide +kernel
theorem dX9_readsTear_37 : decode cX9_readsTear 37 = .ok (.bipush (-9), 2) := by decide +kernel
theorem dX9_readsTear_39 : decode cX9_readsTear 39 = .ok (.if_icmp .eq 7, 3) := by decide +kernel
theorem dX9_readsTear_42 : decode cX9_readsTear 42 = .ok (.iconst 1, 1) := by decide +kernel
theorem dX9_readsTear_43 : decode cX9_readsTear 43 = .ok (.goto 4, 3) := by decide +kernel
theorem dX9_readsTear_46 : decode cX9_readsTear 46 = .ok (.iconst 0, 1) := by decide +kernel
theorem dX9_readsTear_47 : decode cX9_readsTear 47 = .ok (.ireturn, 1) := by decide +kernel
theorem dX9_readsItem_0 : decode cX9_readsItem 0 = .ok (.iload_n 1, 1) := by decide +kernel
theorem dX9_readsItem_1 : decode cX9_readsItem 1 = .ok (.ifCond .ne 10, 3) := by decide +kernel
theorem dX9_readsItem_4 : decode cX9_readsItem 4 = .ok (.aload_n 0, 1) := by decide +kernel
theorem dX9_readsItem_5 : decode cX9_readsItem 5 = .ok (.invokevirtual 108, 3) := by decide +kernel
theorem dX9_readsItem_8 : decode cX9_readsItem 8 = .ok (.goto 44, 3) := by decide +kernel
theorem dX9_readsItem_11 : decode cX9_readsItem 11 = .ok (.iload_n 1, 1) := by decide +kernel
theorem dX9_readsItem_12 : decode cX9_readsItem 12 = .ok (.iconst 1, 1) := by decide +kernel
theorem dX9_readsItem_13 : decode cX9_readsItem 13 = .ok (.if_icmp .ne 10, 3) := by decide +kernel
theorem dX9_readsItem_16 : decode cX9_readsItem 16 = .ok (.aload_n 0, 1) := by decide +kernel
theorem dX9_readsItem_17 : decode cX9_readsItem 17 = .ok (.invokevirtual 111, 3) := by decide +kernel
theorem dX9_readsItem_20 : decode cX9_readsItem 20 = .ok (.goto 32, 3) := by decide +kernel
theorem dX9_readsItem_23 : decode cX9_readsItem 23 = .ok (.iload_n 1, 1) := by decide +kernel
theorem dX9_readsItem_24 : decode cX9_readsItem 24 = .ok (.iconst 2, 1) := by decide +kernel
theorem dX9_readsItem_25 : decode cX9_readsItem 25 = .ok (.if_icmp .ne 10, 3) := by decide +kernel
theorem dX9_readsItem_28 : decode cX9_readsItem 28 = .ok (.aload_n 0, 1) := by decide +kernel
theorem dX9_readsItem_29 : decode cX9_readsItem 29 = .ok (.invokevirtual 114, 3) := by decide +kernel
theorem dX9_readsItem_32 : decode cX9_readsItem 32 = .ok (.goto 20, 3) := by decide +kernel
theorem dX9_readsItem_35 : decode cX9_readsItem 35 = .ok (.iload_n 1, 1) := by decide +kernel
theorem dX9_readsItem_36 : decode cX9_readsItem 36 = .ok (.iconst 3, 1) := by decide +kernel
theorem dX9_readsItem_37 : decode cX9_readsItem 37 = .ok (.if_icmp .ne 14, 3) := by decide +kernel
theorem dX9_readsItem_40 : decode cX9_readsItem 40 = .ok (.aload_n 0, 1) := by decide +kernel
theorem dX9_readsItem_41 : decode cX9_readsItem 41 = .ok (.invokevirtual 117, 3) := by decide +kernel
theorem dX9_readsItem_44 : decode cX9_readsItem 44 = .ok (.ifCond .eq 7, 3) := by decide +kernel
theorem dX9_readsItem_47 : decode cX9_readsItem 47 = .ok (.iconst 1, 1) := by decide +kernel
theorem dX9_readsItem_48 : decode cX9_readsItem 48 = .ok (.goto 4, 3) := by decide +kernel
theorem dX9_readsItem_51 : decode cX9_readsItem 51 = .ok (.iconst 0, 1) := by decide +kernel
theorem dX9_readsItem_52 : decode cX9_readsItem 52 = .ok (.ireturn, 1) := by decide +kernel
theorem dX9_reads_0 : decode cX9_reads 0 = .ok (.iconst 0, 1) := by decide +kernel
theorem dX9_reads_1 : decode cX9_reads 1 = .ok (.istore_n 1, 1) := by decide +kernel
theorem dX9_reads_2 : decode cX9_reads 2 = .ok (.iload_n 1, 1) := by decide +kernel
theorem dX9_reads_3 : decode cX9_reads 3 = .ok (.bipush 35, 2) := by decide +kernel
theorem dX9_reads_5 : decode cX9_reads 5 = .ok (.if_icmp .ge 31, 3) := by decide +kernel
theorem dX9_reads_8 : decode cX9_reads 8 = .ok (.aload_n 0, 1) := by decide +kernel
theorem dX9_reads_9 : decode cX9_reads 9 = .ok (.getfield 16, 3) := by decide +kernel
theorem dX9_reads_12 : decode cX9_reads 12 = .ok (.iload_n 1, 1) := by decide +kernel
theorem dX9_reads_13 : decode cX9_reads 13 = .ok (.iload_n 1, 1) := by decide +kernel
theorem dX9_reads_14 : decode cX9_reads 14 = .ok (.bipush 6, 2) := by decide +kernel
theorem dX9_reads_16 : decode cX9_reads 16 = .ok (.bipush 21, 2) := by decide +kernel
theorem dX9_reads_18 : decode cX9_reads 18 = .ok (.invokestatic 55, 3) := by decide +kernel
theorem dX9_reads_21 : decode cX9_reads 21 = .ok (.ifCond .eq 7, 3) := by decide +kernel
theorem dX9_reads_24 : decode cX9_reads 24 = .ok (.iconst 1, 1) := by decide +kernel
theorem dX9_reads_25 : decode cX9_reads 25 = .ok (.goto 4, 3) := by decide +kernel
theorem dX9_reads_28 : decode cX9_reads 28 = .ok (.iconst 0, 1) := by decide +kernel
theorem dX9_reads_29 : decode cX9_reads 29 = .ok (.iastore, 1) := by decide +kernel
theorem dX9_reads_30 : decode cX9_reads 30 = .ok (.iinc 1 1, 3) := by decide +kernel
theorem dX9_reads_33 : decode cX9_reads 33 = .ok (.goto (-31), 3) := by decide +kernel
theorem dX9_reads_36 : decode cX9_reads 36 = .ok (.aload_n 0, 1) := by decide +kernel
theorem dX9_reads_37 : decode cX9_reads 37 = .ok (.getfield 16, 3) := by decide +kernel
theorem dX9_reads_40 : decode cX9_reads 40 = .ok (.iconst 0, 1) := by decide +kernel
theorem dX9_reads_41 : decode cX9_reads 41 = .ok (.iconst 3, 1) := by decide +kernel
theorem dX9_reads_42 : decode cX9_reads 42 = .ok (.iastore, 1) := by decide +kernel
theorem dX9_reads_43 : decode cX9_reads 43 = .ok (.aload_n 0, 1) := by decide +kernel
theorem dX9_reads_44 : decode cX9_reads 44 = .ok (.getfield 16, 3) := by decide +kernel
theorem dX9_reads_47 : decode cX9_reads 47 = .ok (.iconst 1, 1) := by decide +kernel
theorem dX9_reads_48 : decode cX9_reads 48 = .ok (.iconst 2, 1) := by decide +kernel
theorem dX9_reads_49 : decode cX9_reads 49 = .ok (.iastore, 1) := by decide +kernel
theorem dX9_reads_50 : decode cX9_reads 50 = .ok (.aload_n 0, 1) := by decide +kernel
theorem dX9_reads_51 : decode cX9_reads 51 = .ok (.getfield 16, 3) := by decide +kernel
theorem dX9_reads_54 : decode cX9_reads 54 = .ok (.iconst 2, 1) := by decide +kernel
theorem dX9_reads_55 : decode cX9_reads 55 = .ok (.iconst 3, 1) := by decide +kernel
theorem dX9_reads_56 : decode cX9_reads 56 = .ok (.iastore, 1) := by decide +kernel
theorem dX9_reads_57 : decode cX9_reads 57 = .ok (.aload_n 0, 1) := by decide +kernel
theorem dX9_reads_58 : decode cX9_reads 58 = .ok (.iconst 0, 1) := by decide +kernel
theorem dX9_reads_59 : decode cX9_reads 59 = .ok (.putfield 69, 3) := by decide +kernel
theorem dX9_reads_62 : decode cX9_reads 62 = .ok (.aload_n 0, 1) := by decide +kernel
theorem dX9_reads_63 : decode cX9_reads 63 = .ok (.invokevirtual 98, 3) := by decide +kernel
theorem dX9_reads_66 : decode cX9_reads 66 = .ok (.aload_n 0, 1) := by decide +kernel
theorem dX9_reads_67 : decode cX9_reads 67 = .ok (.getfield 82, 3) := by decide +kernel
theorem dX9_reads_70 : decode cX9_reads 70 = .ok (.ifCond .eq 47, 3) := by decide +kernel
theorem dX9_reads_73 : decode cX9_reads 73 = .ok (.aload_n 0, 1) := by decide +kernel
theorem dX9_reads_74 : decode cX9_reads 74 = .ok (.aload_n 0, 1) := by decide +kernel
theorem dX9_reads_75 : decode cX9_reads 75 = .ok (.invokevirtual 120, 3) := by decide +kernel
theorem dX9_reads_78 : decode cX9_reads 78 = .ok (.invokevirtual 123, 3) := by decide +kernel
theorem dX9_reads_81 : decode cX9_reads 81 = .ok (.ifCond .ne 5, 3) := by decide +kernel
theorem dX9_reads_84 : decode cX9_reads 84 = .ok (.iconst 0, 1) := by decide +kernel
theorem dX9_reads_85 : decode cX9_reads 85 = .ok (.ireturn, 1) := by decide +kernel
theorem dX9_reads_86 : decode cX9_reads 86 = .ok (.aload_n 0, 1) := by decide +kernel
theorem dX9_reads_87 : decode cX9_reads 87 = .ok (.invokevirtual 98, 3) := by decide +kernel
theorem dX9_reads_90 : decode cX9_reads 90 = .ok (.aload_n 0, 1) := by decide +kernel
theorem dX9_reads_91 : decode cX9_reads 91 = .ok (.getfield 82, 3) := by decide +kernel
theorem dX9_reads_94 : decode cX9_reads 94 = .ok (.iconst 3, 1) := by decide +kernel
theorem dX9_reads_95 : decode cX9_reads 95 = .ok (.if_icmp .eq 5, 3) := by decide +kernel
theorem dX9_reads_98 : decode cX9_reads 98 = .ok (.iconst 0, 1) := by decide +kernel
theorem dX9_reads_99 : decode cX9_reads 99 = .ok (.ireturn, 1) := by decide +kernel
theorem dX9_reads_100 : decode cX9_reads 100 = .ok (.aload_n 0, 1) := by decide +kernel
theorem dX9_reads_101 : decode cX9_reads 101 = .ok (.getfield 16, 3) := by decide +kernel
theorem dX9_reads_104 : decode cX9_reads 104 = .ok (.iconst 4, 1) := by decide +kernel
theorem dX9_reads_105 : decode cX9_reads 105 = .ok (.dup2, 1) := by decide +kernel
theorem dX9_reads_106 : decode cX9_reads 106 = .ok (.iaload, 1) := by decide +kernel
theorem dX9_reads_107 : decode cX9_reads 107 = .ok (.iconst 1, 1) := by decide +kernel
theorem dX9_reads_108 : decode cX9_reads 108 = .ok (.iadd, 1) := by decide +kernel
theorem dX9_reads_109 : decode cX9_reads 109 = .ok (.iastore, 1) := by decide +kernel
theorem dX9_reads_110 : decode cX9_reads 110 = .ok (.aload_n 0, 1) := by decide +kernel
theorem dX9_reads_111 : decode cX9_reads 111 = .ok (.invokevirtual 98, 3) := by decide +kernel
theorem dX9_reads_114 : decode cX9_reads 114 = .ok (.goto (-48), 3) := by decide +kernel
theorem dX9_reads_117 : decode cX9_reads 117 = .ok (.iconst 1, 1) := by decide +kernel
theorem dX9_reads_118 : decode cX9_reads 118 = .ok (.ireturn, 1) := by decide +kernel
theorem dX9_map_0 : decode cX9_map 0 = .ok (.aload_n 0, 1) := by decide +kernel
theorem dX9_map_1 : decode cX9_map 1 = .ok (.invokevirtual 47, 3) := by decide +kernel
theorem dX9_map_4 : decode cX9_map 4 = .ok (.ifCond .ne 11, 3) := by decide +kernel
theorem dX9_map_7 : decode cX9_map 7 = .ok (.bipush (-10), 2) := by decide +kernel
theorem dX9_map_9 : decode cX9_map 9 = .ok (.aload_n 0, 1) := by decide +kernel
theorem dX9_map_10 : decode cX9_map 10 = .ok (.getfield 76, 3) := by decide +kernel
theorem dX9_map_13 : decode cX9_map 13 = .ok (.isub, 1) := by decide +kernel
theorem dX9_map_14 : decode cX9_map 14 = .ok (.ireturn, 1) := by decide +kernel
theorem dX9_map_15 : decode cX9_map 15 = .ok (.iconst 0, 1) := by decide +kernel
theorem dX9_map_16 : decode cX9_map 16 = .ok (.istore_n 1, 1) := by decide +kernel
theorem dX9_map_17 : decode cX9_map 17 = .ok (.iload_n 1, 1) := by decide +kernel
theorem dX9_map_18 : decode cX9_map 18 = .ok (.bipush 35, 2) := by decide +kernel
theorem dX9_map_20 : decode cX9_map 20 = .ok (.if_icmp .ge 21, 3) := by decide +kernel
theorem dX9_map_23 : decode cX9_map 23 = .ok (.aload_n 0, 1) := by decide +kernel
theorem dX9_map_24 : decode cX9_map 24 = .ok (.getfield 13, 3) := by decide +kernel
theorem dX9_map_27 : decode cX9_map 27 = .ok (.iload_n 1, 1) := by decide +kernel
theorem dX9_map_28 : decode cX9_map 28 = .ok (.aload_n 0, 1) := by decide +kernel
theorem dX9_map_29 : decode cX9_map 29 = .ok (.getfield 16, 3) := by decide +kernel
theorem dX9_map_32 : decode cX9_map 32 = .ok (.iload_n 1, 1) := by decide +kernel
theorem dX9_map_33 : decode cX9_map 33 = .ok (.iaload, 1) := by decide +kernel
theorem dX9_map_34 : decode cX9_map 34 = .ok (.iastore, 1) := by decide +kernel
theorem dX9_map_35 : decode cX9_map 35 = .ok (.iinc 1 1, 3) := by decide +kernel
theorem dX9_map_38 : decode cX9_map 38 = .ok (.goto (-21), 3) := by decide +kernel
theorem dX9_map_41 : decode cX9_map 41 = .ok (.iconst 0, 1) := by decide +kernel
theorem dX9_map_42 : decode cX9_map 42 = .ok (.istore_n 1, 1) := by decide +kernel
theorem dX9_map_43 : decode cX9_map 43 = .ok (.iload_n 1, 1) := by decide +kernel
theorem dX9_map_44 : decode cX9_map 44 = .ok (.bipush 40, 2) := by decide +kernel
theorem dX9_map_46 : decode cX9_map 46 = .ok (.if_icmp .ge 16, 3) := by decide +kernel
theorem dX9_map_49 : decode cX9_map 49 = .ok (.aload_n 0, 1) := by decide +kernel
theorem dX9_map_50 : decode cX9_map 50 = .ok (.getfield 19, 3) := by decide +kernel
theorem dX9_map_53 : decode cX9_map 53 = .ok (.iload_n 1, 1) := by decide +kernel
theorem dX9_map_54 : decode cX9_map 54 = .ok (.iconst 0, 1) := by decide +kernel
theorem dX9_map_55 : decode cX9_map 55 = .ok (.iastore, 1) := by decide +kernel
theorem dX9_map_56 : decode cX9_map 56 = .ok (.iinc 1 1, 3) := by decide +kernel
theorem dX9_map_59 : decode cX9_map 59 = .ok (.goto (-16), 3) := by decide +kernel
theorem dX9_map_62 : decode cX9_map 62 = .ok (.aload_n 0, 1) := by decide +kernel
theorem dX9_map_63 : decode cX9_map 63 = .ok (.getfield 25, 3) := by decide +kernel
theorem dX9_map_66 : decode cX9_map 66 = .ok (.iconst 0, 1) := by decide +kernel
theorem dX9_map_67 : decode cX9_map 67 = .ok (.iconst 0, 1) := by decide +kernel
theorem dX9_map_68 : decode cX9_map 68 = .ok (.bastore, 1) := by decide +kernel
theorem dX9_map_69 : decode cX9_map 69 = .ok (.aload_n 0, 1) := by decide +kernel
theorem dX9_map_70 : decode cX9_map 70 = .ok (.getfield 25, 3) := by decide +kernel
theorem dX9_map_73 : decode cX9_map 73 = .ok (.iconst 1, 1) := by decide +kernel
theorem dX9_map_74 : decode cX9_map 74 = .ok (.iconst 0, 1) := by decide +kernel
theorem dX9_map_75 : decode cX9_map 75 = .ok (.bastore, 1) := by decide +kernel
theorem dX9_map_76 : decode cX9_map 76 = .ok (.aload_n 0, 1) := by decide +kernel
theorem dX9_map_77 : decode cX9_map 77 = .ok (.iconst 0, 1) := by decide +kernel
theorem dX9_map_78 : decode cX9_map 78 = .ok (.putfield 126, 3) := by decide +kernel
theorem dX9_map_81 : decode cX9_map 81 = .ok (.aload_n 0, 1) := by decide +kernel
theorem dX9_map_82 : decode cX9_map 82 = .ok (.iconst 0, 1) := by decide +kernel
theorem dX9_map_83 : decode cX9_map 83 = .ok (.putfield 63, 3) := by decide +kernel
theorem dX9_map_86 : decode cX9_map 86 = .ok (.aload_n 0, 1) := by decide +kernel
theorem dX9_map_87 : decode cX9_map 87 = .ok (.getfield 13, 3) := by decide +kernel
theorem dX9_map_90 : decode cX9_map 90 = .ok (.iconst 4, 1) := by decide +kernel
theorem dX9_map_91 : decode cX9_map 91 = .ok (.iaload, 1) := by decide +kernel
theorem dX9_map_92 : decode cX9_map 92 = .ok (.ireturn, 1) := by decide +kernel
theorem dX9_flat_0 : decode cX9_flat 0 = .ok (.iconst 0, 1) := by decide +kernel
theorem dX9_flat_1 : decode cX9_flat 1 = .ok (.istore_n 1, 1) := by decide +kernel
theorem dX9_flat_2 : decode cX9_flat 2 = .ok (.iload_n 1, 1) := by decide +kernel
theorem dX9_flat_3 : decode cX9_flat 3 = .ok (.aload_n 0, 1) := by decide +kernel
theorem dX9_flat_4 : decode cX9_flat 4 = .ok (.invokevirtual 51, 3) := by decide +kernel
theorem dX9_flat_7 : decode cX9_flat 7 = .ok (.if_icmp .ge 60, 3) := by decide +kernel
theorem dX9_flat_10 : decode cX9_flat 10 = .ok (.aload_n 0, 1) := by decide +kernel
theorem dX9_flat_11 : decode cX9_flat 11 = .ok (.getfield 35, 3) := by decide +kernel
theorem dX9_flat_14 : decode cX9_flat 14 = .ok (.iload_n 1, 1) := by decide +kernel
theorem dX9_flat_15 : decode cX9_flat 15 = .ok (.iload_n 1, 1) := by decide +kernel
theorem dX9_flat_16 : decode cX9_flat 16 = .ok (.aload_n 0, 1) := by decide +kernel
theorem dX9_flat_17 : decode cX9_flat 17 = .ok (.getfield 13, 3) := by decide +kernel
theorem dX9_flat_20 : decode cX9_flat 20 = .ok (.iconst 0, 1) := by decide +kernel
theorem dX9_flat_21 : decode cX9_flat 21 = .ok (.iaload, 1) := by decide +kernel
theorem dX9_flat_22 : decode cX9_flat 22 = .ok (.irem, 1) := by decide +kernel
theorem dX9_flat_23 : decode cX9_flat 23 = .ok (.iastore, 1) := by decide +kernel
theorem dX9_flat_24 : decode cX9_flat 24 = .ok (.aload_n 0, 1) := by decide +kernel
theorem dX9_flat_25 : decode cX9_flat 25 = .ok (.getfield 35, 3) := by decide +kernel
theorem dX9_flat_28 : decode cX9_flat 28 = .ok (.bipush 16, 2) := by decide +kernel
theorem dX9_flat_30 : decode cX9_flat 30 = .ok (.iload_n 1, 1) := by decide +kernel
theorem dX9_flat_31 : decode cX9_flat 31 = .ok (.iadd, 1) := by decide +kernel
theorem dX9_flat_32 : decode cX9_flat 32 = .ok (.iload_n 1, 1) := by decide +kernel
theorem dX9_flat_33 : decode cX9_flat 33 = .ok (.aload_n 0, 1) := by decide +kernel
theorem dX9_flat_34 : decode cX9_flat 34 = .ok (.getfield 13, 3) := by decide +kernel
theorem dX9_flat_37 : decode cX9_flat 37 = .ok (.iconst 0, 1) := by decide +kernel
theorem dX9_flat_38 : decode cX9_flat 38 = .ok (.iaload, 1) := by decide +kernel
theorem dX9_flat_39 : decode cX9_flat 39 = .ok (.idiv, 1) := by decide +kernel
theorem dX9_flat_40 : decode cX9_flat 40 = .ok (.iastore, 1) := by decide +kernel
theorem dX9_flat_41 : decode cX9_flat 41 = .ok (.aload_n 0, 1) := by decide +kernel
theorem dX9_flat_42 : decode cX9_flat 42 = .ok (.getfield 35, 3) := by decide +kernel
theorem dX9_flat_45 : decode cX9_flat 45 = .ok (.bipush 32, 2) := by decide +kernel
theorem dX9_flat_47 : decode cX9_flat 47 = .ok (.iload_n 1, 1) := by decide +kernel
theorem dX9_flat_48 : decode cX9_flat 48 = .ok (.iadd, 1) := by decide +kernel
theorem dX9_flat_49 : decode cX9_flat 49 = .ok (.iconst 0, 1) := by decide +kernel
theorem dX9_flat_50 : decode cX9_flat 50 = .ok (.iastore, 1) := by decide +kernel
theorem dX9_flat_51 : decode cX9_flat 51 = .ok (.aload_n 0, 1) := by decide +kernel
theorem dX9_flat_52 : decode cX9_flat 52 = .ok (.getfield 35, 3) := by decide +kernel
theorem dX9_flat_55 : decode cX9_flat 55 = .ok (.bipush 48, 2) := by decide +kernel
theorem dX9_flat_57 : decode cX9_flat 57 = .ok (.iload_n 1, 1) := by decide +kernel
theorem dX9_flat_58 : decode cX9_flat 58 = .ok (.iadd, 1) := by decide +kernel
theorem dX9_flat_59 : decode cX9_flat 59 = .ok (.iconst 1, 1) := by decide +kernel
theorem dX9_flat_60 : decode cX9_flat 60 = .ok (.iastore, 1) := by decide +kernel
theorem dX9_flat_61 : decode cX9_flat 61 = .ok (.iinc 1 1, 3) := by decide +kernel
theorem dX9_flat_64 : decode cX9_flat 64 = .ok (.goto (-62), 3) := by decide +kernel
theorem dX9_flat_67 : decode cX9_flat 67 = .ok (.aload_n 0, 1) := by decide +kernel
theorem dX9_flat_68 : decode cX9_flat 68 = .ok (.getfield 38, 3) := by decide +kernel
theorem dX9_flat_71 : decode cX9_flat 71 = .ok (.iconst 0, 1) := by decide +kernel
theorem dX9_flat_72 : decode cX9_flat 72 = .ok (.aload_n 0, 1) := by decide +kernel
theorem dX9_flat_73 : decode cX9_flat 73 = .ok (.getfield 13, 3) := by decide +kernel
theorem dX9_flat_76 : decode cX9_flat 76 = .ok (.iconst 0, 1) := by decide +kernel
theorem dX9_flat_77 : decode cX9_flat 77 = .ok (.iaload, 1) := by decide +kernel
theorem dX9_flat_78 : decode cX9_flat 78 = .ok (.iastore, 1) := by decide +kernel
theorem dX9_flat_79 : decode cX9_flat 79 = .ok (.aload_n 0, 1) := by decide +kernel
theorem dX9_flat_80 : decode cX9_flat 80 = .ok (.getfield 38, 3) := by decide +kernel
theorem dX9_flat_83 : decode cX9_flat 83 = .ok (.iconst 1, 1) := by decide +kernel
theorem dX9_flat_84 : decode cX9_flat 84 = .ok (.aload_n 0, 1) := by decide +kernel
theorem dX9_flat_85 : decode cX9_flat 85 = .ok (.getfield 13, 3) := by decide +kernel
theorem dX9_flat_88 : decode cX9_flat 88 = .ok (.iconst 1, 1) := by decide +kernel
theorem dX9_flat_89 : decode cX9_flat 89 = .ok (.iaload, 1) := by decide +kernel
theorem dX9_flat_90 : decode cX9_flat 90 = .ok (.iastore, 1) := by decide +kernel
theorem dX9_flat_91 : decode cX9_flat 91 = .ok (.return_, 1) := by decide +kernel
theorem dX9_manyAt_0 : decode cX9_manyAt 0 = .ok (.iload_n 1, 1) := by decide +kernel
theorem dX9_manyAt_1 : decode cX9_manyAt 1 = .ok (.iload_n 2, 1) := by decide +kernel
theorem dX9_manyAt_2 : decode cX9_manyAt 2 = .ok (.ifCond .ne 8, 3) := by decide +kernel
theorem dX9_manyAt_5 : decode cX9_manyAt 5 = .ok (.bipush 16, 2) := by decide +kernel
theorem dX9_manyAt_7 : decode cX9_manyAt 7 = .ok (.goto 4, 3) := by decide +kernel
theorem dX9_manyAt_10 : decode cX9_manyAt 10 = .ok (.iconst 0, 1) := by decide +kernel
theorem dX9_manyAt_11 : decode cX9_manyAt 11 = .ok (.iadd, 1) := by decide +kernel
theorem dX9_manyAt_12 : decode cX9_manyAt 12 = .ok (.istore 5, 2) := by decide +kernel
theorem dX9_manyAt_14 : decode cX9_manyAt 14 = .ok (.iconst 0, 1) := by decide +kernel
theorem dX9_manyAt_15 : decode cX9_manyAt 15 = .ok (.istore 6, 2) := by decide +kernel
theorem dX9_manyAt_17 : decode cX9_manyAt 17 = .ok (.iconst 0, 1) := by decide +kernel
theorem dX9_manyAt_18 : decode cX9_manyAt 18 = .ok (.istore 7, 2) := by decide +kernel
theorem dX9_manyAt_20 : decode cX9_manyAt 20 = .ok (.iload 7, 2) := by decide +kernel
theorem dX9_manyAt_22 : decode cX9_manyAt 22 = .ok (.aload_n 0, 1) := by decide +kernel
theorem dX9_manyAt_23 : decode cX9_manyAt 23 = .ok (.invokevirtual 51, 3) := by decide +kernel
theorem dX9_manyAt_26 : decode cX9_manyAt 26 = .ok (.if_icmp .ge 69, 3) := by decide +kernel
theorem dX9_manyAt_29 : decode cX9_manyAt 29 = .ok (.iload 6, 2) := by decide +kernel
theorem dX9_manyAt_31 : decode cX9_manyAt 31 = .ok (.aload_n 0, 1) := by decide +kernel
theorem dX9_manyAt_32 : decode cX9_manyAt 32 = .ok (.getfield 41, 3) := by decide +kernel
theorem dX9_manyAt_35 : decode cX9_manyAt 35 = .ok (.iload 7, 2) := by decide +kernel
theorem dX9_manyAt_37 : decode cX9_manyAt 37 = .ok (.baload, 1) := by decide +kernel
theorem dX9_manyAt_38 : decode cX9_manyAt 38 = .ok (.iload 4, 2) := by decide +kernel
theorem dX9_manyAt_40 : decode cX9_manyAt 40 = .ok (.if_icmp .ne 45, 3) := by decide +kernel
theorem dX9_manyAt_43 : decode cX9_manyAt 43 = .ok (.aload_n 0, 1) := by decide +kernel
theorem dX9_manyAt_44 : decode cX9_manyAt 44 = .ok (.getfield 44, 3) := by decide +kernel
theorem dX9_manyAt_47 : decode cX9_manyAt 47 = .ok (.iload 7, 2) := by decide +kernel
theorem dX9_manyAt_49 : decode cX9_manyAt 49 = .ok (.iaload, 1) := by decide +kernel
theorem dX9_manyAt_50 : decode cX9_manyAt 50 = .ok (.aload_n 0, 1) := by decide +kernel
theorem dX9_manyAt_51 : decode cX9_manyAt 51 = .ok (.getfield 44, 3) := by decide +kernel
theorem dX9_manyAt_54 : decode cX9_manyAt 54 = .ok (.iload_n 3, 1) := by decide +kernel
theorem dX9_manyAt_55 : decode cX9_manyAt 55 = .ok (.iaload, 1) := by decide +kernel
theorem dX9_manyAt_56 : decode cX9_manyAt 56 = .ok (.if_icmp .ne 29, 3) := by decide +kernel
theorem dX9_manyAt_59 : decode cX9_manyAt 59 = .ok (.aload_n 0, 1) := by decide +kernel
theorem dX9_manyAt_60 : decode cX9_manyAt 60 = .ok (.getfield 35, 3) := by decide +kernel
theorem dX9_manyAt_63 : decode cX9_manyAt 63 = .ok (.iload 5, 2) := by decide +kernel
theorem dX9_manyAt_65 : decode cX9_manyAt 65 = .ok (.iload 7, 2) := by decide +kernel
theorem dX9_manyAt_67 : decode cX9_manyAt 67 = .ok (.iadd, 1) := by decide +kernel
theorem dX9_manyAt_68 : decode cX9_manyAt 68 = .ok (.iaload, 1) := by decide +kernel
theorem dX9_manyAt_69 : decode cX9_manyAt 69 = .ok (.aload_n 0, 1) := by decide +kernel
theorem dX9_manyAt_70 : decode cX9_manyAt 70 = .ok (.getfield 35, 3) := by decide +kernel
theorem dX9_manyAt_73 : decode cX9_manyAt 73 = .ok (.iload 5, 2) := by decide +kernel
theorem dX9_manyAt_75 : decode cX9_manyAt 75 = .ok (.iload_n 3, 1) := by decide +kernel
theorem dX9_manyAt_76 : decode cX9_manyAt 76 = .ok (.iadd, 1) := by decide +kernel
theorem dX9_manyAt_77 : decode cX9_manyAt 77 = .ok (.iaload, 1) := by decide +kernel
theorem dX9_manyAt_78 : decode cX9_manyAt 78 = .ok (.if_icmp .ne 7, 3) := by decide +kernel
theorem dX9_manyAt_81 : decode cX9_manyAt 81 = .ok (.iconst 1, 1) := by decide +kernel
theorem dX9_manyAt_82 : decode cX9_manyAt 82 = .ok (.goto 4, 3) := by decide +kernel
theorem dX9_manyAt_85 : decode cX9_manyAt 85 = .ok (.iconst 0, 1) := by decide +kernel
theorem dX9_manyAt_86 : decode cX9_manyAt 86 = .ok (.iadd, 1) := by decide +kernel
theorem dX9_manyAt_87 : decode cX9_manyAt 87 = .ok (.istore 6, 2) := by decide +kernel
theorem dX9_manyAt_89 : decode cX9_manyAt 89 = .ok (.iinc 7 1, 3) := by decide +kernel
theorem dX9_manyAt_92 : decode cX9_manyAt 92 = .ok (.goto (-72), 3) := by decide +kernel
theorem dX9_manyAt_95 : decode cX9_manyAt 95 = .ok (.iload 6, 2) := by decide +kernel
theorem dX9_manyAt_97 : decode cX9_manyAt 97 = .ok (.ireturn, 1) := by decide +kernel
theorem dX9_folds_0 : decode cX9_folds 0 = .ok (.iload_n 2, 1) := by decide +kernel
theorem dX9_folds_1 : decode cX9_folds 1 = .ok (.iconst 1, 1) := by decide +kernel
theorem dX9_folds_2 : decode cX9_folds 2 = .ok (.iand, 1) := by decide +kernel
theorem dX9_folds_3 : decode cX9_folds 3 = .ok (.istore_n 3, 1) := by decide +kernel
theorem dX9_folds_4 : decode cX9_folds 4 = .ok (.iload_n 2, 1) := by decide +kernel
theorem dX9_folds_5 : decode cX9_folds 5 = .ok (.bipush 8, 2) := by decide +kernel
theorem dX9_folds_7 : decode cX9_folds 7 = .ok (.idiv, 1) := by decide +kernel
theorem dX9_folds_8 : decode cX9_folds 8 = .ok (.iconst 1, 1) := by decide +kernel
theorem dX9_folds_9 : decode cX9_folds 9 = .ok (.iadd, 1) := by decide +kernel
theorem dX9_folds_10 : decode cX9_folds 10 = .ok (.istore 4, 2) := by decide +kernel
theorem dX9_folds_12 : decode cX9_folds 12 = .ok (.iload 4, 2) := by decide +kernel
theorem dX9_folds_14 : decode cX9_folds 14 = .ok (.aload_n 0, 1) := by decide +kernel
theorem dX9_folds_15 : decode cX9_folds 15 = .ok (.getfield 38, 3) := by decide +kernel
theorem dX9_folds_18 : decode cX9_folds 18 = .ok (.iconst 2, 1) := by decide +kernel
theorem dX9_folds_19 : decode cX9_folds 19 = .ok (.iload_n 1, 1) := by decide +kernel
theorem dX9_folds_20 : decode cX9_folds 20 = .ok (.imul, 1) := by decide +kernel
theorem dX9_folds_21 : decode cX9_folds 21 = .ok (.iload_n 3, 1) := by decide +kernel
theorem dX9_folds_22 : decode cX9_folds 22 = .ok (.iadd, 1) := by decide +kernel
theorem dX9_folds_23 : decode cX9_folds 23 = .ok (.iaload, 1) := by decide +kernel
theorem dX9_folds_24 : decode cX9_folds 24 = .ok (.if_icmp .lt 5, 3) := by decide +kernel
theorem dX9_folds_27 : decode cX9_folds 27 = .ok (.iconst 0, 1) := by decide +kernel
theorem dX9_folds_28 : decode cX9_folds 28 = .ok (.ireturn, 1) := by decide +kernel
theorem dX9_folds_29 : decode cX9_folds 29 = .ok (.bipush 64, 2) := by decide +kernel
theorem dX9_folds_31 : decode cX9_folds 31 = .ok (.iload_n 1, 1) := by decide +kernel
theorem dX9_folds_32 : decode cX9_folds 32 = .ok (.imul, 1) := by decide +kernel
theorem dX9_folds_33 : decode cX9_folds 33 = .ok (.istore 5, 2) := by decide +kernel
theorem dX9_folds_35 : decode cX9_folds 35 = .ok (.iload 5, 2) := by decide +kernel
theorem dX9_folds_37 : decode cX9_folds 37 = .ok (.bipush 64, 2) := by decide +kernel
theorem dX9_folds_39 : decode cX9_folds 39 = .ok (.iadd, 1) := by decide +kernel
theorem dX9_folds_40 : decode cX9_folds 40 = .ok (.istore 6, 2) := by decide +kernel
theorem dX9_folds_42 : decode cX9_folds 42 = .ok (.iload_n 3, 1) := by decide +kernel
theorem dX9_folds_43 : decode cX9_folds 43 = .ok (.ifCond .ne 7, 3) := by decide +kernel
theorem dX9_folds_46 : decode cX9_folds 46 = .ok (.iconst 0, 1) := by decide +kernel
theorem dX9_folds_47 : decode cX9_folds 47 = .ok (.goto 5, 3) := by decide +kernel
theorem dX9_folds_50 : decode cX9_folds 50 = .ok (.bipush 16, 2) := by decide +kernel
theorem dX9_folds_52 : decode cX9_folds 52 = .ok (.istore 7, 2) := by decide +kernel
theorem dX9_folds_54 : decode cX9_folds 54 = .ok (.bipush 100, 2) := by decide +kernel
theorem dX9_folds_56 : decode cX9_folds 56 = .ok (.istore 8, 2) := by decide +kernel
theorem dX9_folds_58 : decode cX9_folds 58 = .ok (.bipush (-100), 2) := by decide +kernel
theorem dX9_folds_60 : decode cX9_folds 60 = .ok (.istore 9, 2) := by decide +kernel
theorem dX9_folds_62 : decode cX9_folds 62 = .ok (.iconst 0, 1) := by decide +kernel
theorem dX9_folds_63 : decode cX9_folds 63 = .ok (.istore 10, 2) := by decide +kernel
theorem dX9_folds_65 : decode cX9_folds 65 = .ok (.iload 10, 2) := by decide +kernel
theorem dX9_folds_67 : decode cX9_folds 67 = .ok (.aload_n 0, 1) := by decide +kernel
theorem dX9_folds_68 : decode cX9_folds 68 = .ok (.invokevirtual 51, 3) := by decide +kernel
theorem dX9_folds_71 : decode cX9_folds 71 = .ok (.if_icmp .ge 149, 3) := by decide +kernel
theorem dX9_folds_74 : decode cX9_folds 74 = .ok (.aload_n 0, 1) := by decide +kernel
theorem dX9_folds_75 : decode cX9_folds 75 = .ok (.getfield 35, 3) := by decide +kernel
theorem dX9_folds_78 : decode cX9_folds 78 = .ok (.iload 5, 2) := by decide +kernel
theorem dX9_folds_80 : decode cX9_folds 80 = .ok (.iload 7, 2) := by decide +kernel
theorem dX9_folds_82 : decode cX9_folds 82 = .ok (.iadd, 1) := by decide +kernel
theorem dX9_folds_83 : decode cX9_folds 83 = .ok (.iload 10, 2) := by decide +kernel
theorem dX9_folds_85 : decode cX9_folds 85 = .ok (.iadd, 1) := by decide +kernel
theorem dX9_folds_86 : decode cX9_folds 86 = .ok (.iaload, 1) := by decide +kernel
theorem dX9_folds_87 : decode cX9_folds 87 = .ok (.istore 11, 2) := by decide +kernel
theorem dX9_folds_89 : decode cX9_folds 89 = .ok (.aload_n 0, 1) := by decide +kernel
theorem dX9_folds_90 : decode cX9_folds 90 = .ok (.getfield 41, 3) := by decide +kernel
theorem dX9_folds_93 : decode cX9_folds 93 = .ok (.iload 10, 2) := by decide +kernel
theorem dX9_folds_95 : decode cX9_folds 95 = .ok (.iload_n 2, 1) := by decide +kernel
theorem dX9_folds_96 : decode cX9_folds 96 = .ok (.iconst 1, 1) := by decide +kernel
theorem dX9_folds_97 : decode cX9_folds 97 = .ok (.ishr, 1) := by decide +kernel
theorem dX9_folds_98 : decode cX9_folds 98 = .ok (.iconst 1, 1) := by decide +kernel
theorem dX9_folds_99 : decode cX9_folds 99 = .ok (.iand, 1) := by decide +kernel
theorem dX9_folds_100 : decode cX9_folds 100 = .ok (.ifCond .ne 18, 3) := by decide +kernel
theorem dX9_folds_103 : decode cX9_folds 103 = .ok (.iload 11, 2) := by decide +kernel
theorem dX9_folds_105 : decode cX9_folds 105 = .ok (.iload 4, 2) := by decide +kernel
theorem dX9_folds_107 : decode cX9_folds 107 = .ok (.if_icmp .ge 7, 3) := by decide +kernel
theorem dX9_folds_110 : decode cX9_folds 110 = .ok (.iconst 1, 1) := by decide +kernel
theorem dX9_folds_111 : decode cX9_folds 111 = .ok (.goto 19, 3) := by decide +kernel
theorem dX9_folds_114 : decode cX9_folds 114 = .ok (.iconst 0, 1) := by decide +kernel
theorem dX9_folds_115 : decode cX9_folds 115 = .ok (.goto 15, 3) := by decide +kernel
theorem dX9_folds_118 : decode cX9_folds 118 = .ok (.iload 11, 2) := by decide +kernel
theorem dX9_folds_120 : decode cX9_folds 120 = .ok (.iload 4, 2) := by decide +kernel
theorem dX9_folds_122 : decode cX9_folds 122 = .ok (.if_icmp .lt 7, 3) := by decide +kernel
theorem dX9_folds_125 : decode cX9_folds 125 = .ok (.iconst 1, 1) := by decide +kernel
theorem dX9_folds_126 : decode cX9_folds 126 = .ok (.goto 4, 3) := by decide +kernel
theorem dX9_folds_129 : decode cX9_folds 129 = .ok (.iconst 0, 1) := by decide +kernel
theorem dX9_folds_130 : decode cX9_folds 130 = .ok (.bastore, 1) := by decide +kernel
theorem dX9_folds_131 : decode cX9_folds 131 = .ok (.aload_n 0, 1) := by decide +kernel
theorem dX9_folds_132 : decode cX9_folds 132 = .ok (.getfield 44, 3) := by decide +kernel
theorem dX9_folds_135 : decode cX9_folds 135 = .ok (.iload 10, 2) := by decide +kernel
theorem dX9_folds_137 : decode cX9_folds 137 = .ok (.aload_n 0, 1) := by decide +kernel
theorem dX9_folds_138 : decode cX9_folds 138 = .ok (.getfield 41, 3) := by decide +kernel
theorem dX9_folds_141 : decode cX9_folds 141 = .ok (.iload 10, 2) := by decide +kernel
theorem dX9_folds_143 : decode cX9_folds 143 = .ok (.baload, 1) := by decide +kernel
theorem dX9_folds_144 : decode cX9_folds 144 = .ok (.ifCond .eq 15, 3) := by decide +kernel
theorem dX9_folds_147 : decode cX9_folds 147 = .ok (.iconst 2, 1) := by decide +kernel
theorem dX9_folds_148 : decode cX9_folds 148 = .ok (.iload 4, 2) := by decide +kernel
theorem dX9_folds_150 : decode cX9_folds 150 = .ok (.imul, 1) := by decide +kernel
theorem dX9_folds_151 : decode cX9_folds 151 = .ok (.iconst 1, 1) := by decide +kernel
theorem dX9_folds_152 : decode cX9_folds 152 = .ok (.isub, 1) := by decide +kernel
theorem dX9_folds_153 : decode cX9_folds 153 = .ok (.iload 11, 2) := by decide +kernel
theorem dX9_folds_155 : decode cX9_folds 155 = .ok (.isub, 1) := by decide +kernel
theorem dX9_folds_156 : decode cX9_folds 156 = .ok (.goto 5, 3) := by decide +kernel
theorem dX9_folds_159 : decode cX9_folds 159 = .ok (.iload 11, 2) := by decide +kernel
theorem dX9_folds_161 : decode cX9_folds 161 = .ok (.iastore, 1) := by decide +kernel
theorem dX9_folds_162 : decode cX9_folds 162 = .ok (.aload_n 0, 1) := by decide +kernel
theorem dX9_folds_163 : decode cX9_folds 163 = .ok (.getfield 44, 3) := by decide +kernel
theorem dX9_folds_166 : decode cX9_folds 166 = .ok (.iload 10, 2) := by decide +kernel
theorem dX9_folds_168 : decode cX9_folds 168 = .ok (.iaload, 1) := by decide +kernel
theorem dX9_folds_169 : decode cX9_folds 169 = .ok (.iload 8, 2) := by decide +kernel
theorem dX9_folds_171 : decode cX9_folds 171 = .ok (.if_icmp .ge 13, 3) := by decide +kernel
theorem dX9_folds_174 : decode cX9_folds 174 = .ok (.aload_n 0, 1) := by decide +kernel
theorem dX9_folds_175 : decode cX9_folds 175 = .ok (.getfield 44, 3) := by decide +kernel
theorem dX9_folds_178 : decode cX9_folds 178 = .ok (.iload 10, 2) := by decide +kernel
theorem dX9_folds_180 : decode cX9_folds 180 = .ok (.iaload, 1) := by decide +kernel
theorem dX9_folds_181 : decode cX9_folds 181 = .ok (.goto 5, 3) := by decide +kernel
theorem dX9_folds_184 : decode cX9_folds 184 = .ok (.iload 8, 2) := by decide +kernel
theorem dX9_folds_186 : decode cX9_folds 186 = .ok (.istore 8, 2) := by decide +kernel
theorem dX9_folds_188 : decode cX9_folds 188 = .ok (.aload_n 0, 1) := by decide +kernel
theorem dX9_folds_189 : decode cX9_folds 189 = .ok (.getfield 44, 3) := by decide +kernel
theorem dX9_folds_192 : decode cX9_folds 192 = .ok (.iload 10, 2) := by decide +kernel
theorem dX9_folds_194 : decode cX9_folds 194 = .ok (.iaload, 1) := by decide +kernel
theorem dX9_folds_195 : decode cX9_folds 195 = .ok (.iload 9, 2) := by decide +kernel
theorem dX9_folds_197 : decode cX9_folds 197 = .ok (.if_icmp .le 13, 3) := by decide +kernel
theorem dX9_folds_200 : decode cX9_folds 200 = .ok (.aload_n 0, 1) := by decide +kernel
theorem dX9_folds_201 : decode cX9_folds 201 = .ok (.getfield 44, 3) := by decide +kernel
theorem dX9_folds_204 : decode cX9_folds 204 = .ok (.iload 10, 2) := by decide +kernel
theorem dX9_folds_206 : decode cX9_folds 206 = .ok (.iaload, 1) := by decide +kernel
theorem dX9_folds_207 : decode cX9_folds 207 = .ok (.goto 5, 3) := by decide +kernel
theorem dX9_folds_210 : decode cX9_folds 210 = .ok (.iload 9, 2) := by decide +kernel
theorem dX9_folds_212 : decode cX9_folds 212 = .ok (.istore 9, 2) := by decide +kernel
theorem dX9_folds_214 : decode cX9_folds 214 = .ok (.iinc 10 1, 3) := by decide +kernel
theorem dX9_folds_217 : decode cX9_folds 217 = .ok (.goto (-152), 3) := by decide +kernel
theorem dX9_folds_220 : decode cX9_folds 220 = .ok (.iload_n 2, 1) := by decide +kernel
theorem dX9_folds_221 : decode cX9_folds 221 = .ok (.iconst 2, 1) := by decide +kernel
theorem dX9_folds_222 : decode cX9_folds 222 = .ok (.ishr, 1) := by decide +kernel
theorem dX9_folds_223 : decode cX9_folds 223 = .ok (.iconst 1, 1) := by decide +kernel
theorem dX9_folds_224 : decode cX9_folds 224 = .ok (.iand, 1) := by decide +kernel
theorem dX9_folds_225 : decode cX9_folds 225 = .ok (.iconst 1, 1) := by decide +kernel
theorem dX9_folds_226 : decode cX9_folds 226 = .ok (.if_icmp .ne 7, 3) := by decide +kernel
theorem dX9_folds_229 : decode cX9_folds 229 = .ok (.iconst 1, 1) := by decide +kernel
theorem dX9_folds_230 : decode cX9_folds 230 = .ok (.goto 4, 3) := by decide +kernel
theorem dX9_folds_233 : decode cX9_folds 233 = .ok (.iconst 0, 1) := by decide +kernel
theorem dX9_folds_234 : decode cX9_folds 234 = .ok (.istore 10, 2) := by decide +kernel
theorem dX9_folds_236 : decode cX9_folds 236 = .ok (.iconst 0, 1) := by decide +kernel
theorem dX9_folds_237 : decode cX9_folds 237 = .ok (.istore 11, 2) := by decide +kernel
theorem dX9_folds_239 : decode cX9_folds 239 = .ok (.iload 11, 2) := by decide +kernel
theorem dX9_folds_241 : decode cX9_folds 241 = .ok (.aload_n 0, 1) := by decide +kernel
theorem dX9_folds_242 : decode cX9_folds 242 = .ok (.invokevirtual 51, 3) := by decide +kernel
theorem dX9_folds_245 : decode cX9_folds 245 = .ok (.if_icmp .ge 226, 3) := by decide +kernel
theorem dX9_folds_248 : decode cX9_folds 248 = .ok (.aload_n 0, 1) := by decide +kernel
theorem dX9_folds_249 : decode cX9_folds 249 = .ok (.getfield 35, 3) := by decide +kernel
theorem dX9_folds_252 : decode cX9_folds 252 = .ok (.iload 5, 2) := by decide +kernel
theorem dX9_folds_254 : decode cX9_folds 254 = .ok (.bipush 32, 2) := by decide +kernel
theorem dX9_folds_256 : decode cX9_folds 256 = .ok (.iadd, 1) := by decide +kernel
theorem dX9_folds_257 : decode cX9_folds 257 = .ok (.iload 11, 2) := by decide +kernel
theorem dX9_folds_259 : decode cX9_folds 259 = .ok (.iadd, 1) := by decide +kernel
theorem dX9_folds_260 : decode cX9_folds 260 = .ok (.iaload, 1) := by decide +kernel
theorem dX9_folds_261 : decode cX9_folds 261 = .ok (.istore 12, 2) := by decide +kernel
theorem dX9_folds_263 : decode cX9_folds 263 = .ok (.aload_n 0, 1) := by decide +kernel
theorem dX9_folds_264 : decode cX9_folds 264 = .ok (.iload 5, 2) := by decide +kernel
theorem dX9_folds_266 : decode cX9_folds 266 = .ok (.iload_n 3, 1) := by decide +kernel
theorem dX9_folds_267 : decode cX9_folds 267 = .ok (.iload 11, 2) := by decide +kernel
theorem dX9_folds_269 : decode cX9_folds 269 = .ok (.iconst 1, 1) := by decide +kernel
theorem dX9_folds_270 : decode cX9_folds 270 = .ok (.invokevirtual 129, 3) := by decide +kernel
theorem dX9_folds_273 : decode cX9_folds 273 = .ok (.istore 13, 2) := by decide +kernel
theorem dX9_folds_275 : decode cX9_folds 275 = .ok (.aload_n 0, 1) := by decide +kernel
theorem dX9_folds_276 : decode cX9_folds 276 = .ok (.iload 5, 2) := by decide +kernel
theorem dX9_folds_278 : decode cX9_folds 278 = .ok (.iload_n 3, 1) := by decide +kernel
theorem dX9_folds_279 : decode cX9_folds 279 = .ok (.iload 11, 2) := by decide +kernel
theorem dX9_folds_281 : decode cX9_folds 281 = .ok (.iconst 0, 1) := by decide +kernel
theorem dX9_folds_282 : decode cX9_folds 282 = .ok (.invokevirtual 129, 3) := by decide +kernel
theorem dX9_folds_285 : decode cX9_folds 285 = .ok (.istore 14, 2) := by decide +kernel
theorem dX9_folds_287 : decode cX9_folds 287 = .ok (.aload_n 0, 1) := by decide +kernel
theorem dX9_folds_288 : decode cX9_folds 288 = .ok (.getfield 35, 3) := by decide +kernel
theorem dX9_folds_291 : decode cX9_folds 291 = .ok (.iload 6, 2) := by decide +kernel
theorem dX9_folds_293 : decode cX9_folds 293 = .ok (.bipush 32, 2) := by decide +kernel
theorem dX9_folds_295 : decode cX9_folds 295 = .ok (.iadd, 1) := by decide +kernel
theorem dX9_folds_296 : decode cX9_folds 296 = .ok (.iload 11, 2) := by decide +kernel
theorem dX9_folds_298 : decode cX9_folds 298 = .ok (.iadd, 1) := by decide +kernel
theorem dX9_folds_299 : decode cX9_folds 299 = .ok (.aload_n 0, 1) := by decide +kernel
theorem dX9_folds_300 : decode cX9_folds 300 = .ok (.getfield 41, 3) := by decide +kernel
theorem dX9_folds_303 : decode cX9_folds 303 = .ok (.iload 11, 2) := by decide +kernel
theorem dX9_folds_305 : decode cX9_folds 305 = .ok (.baload, 1) := by decide +kernel
theorem dX9_folds_306 : decode cX9_folds 306 = .ok (.ifCond .eq 25, 3) := by decide +kernel
theorem dX9_folds_309 : decode cX9_folds 309 = .ok (.iload 10, 2) := by decide +kernel
theorem dX9_folds_311 : decode cX9_folds 311 = .ok (.ifCond .eq 8, 3) := by decide +kernel
theorem dX9_folds_314 : decode cX9_folds 314 = .ok (.iload 14, 2) := by decide +kernel
theorem dX9_folds_316 : decode cX9_folds 316 = .ok (.goto 4, 3) := by decide +kernel
theorem dX9_folds_319 : decode cX9_folds 319 = .ok (.iconst 0, 1) := by decide +kernel
theorem dX9_folds_320 : decode cX9_folds 320 = .ok (.iload 13, 2) := by decide +kernel
theorem dX9_folds_322 : decode cX9_folds 322 = .ok (.iadd, 1) := by decide +kernel
theorem dX9_folds_323 : decode cX9_folds 323 = .ok (.iconst 1, 1) := by decide +kernel
theorem dX9_folds_324 : decode cX9_folds 324 = .ok (.isub, 1) := by decide +kernel
theorem dX9_folds_325 : decode cX9_folds 325 = .ok (.iload 12, 2) := by decide +kernel
theorem dX9_folds_327 : decode cX9_folds 327 = .ok (.isub, 1) := by decide +kernel
theorem dX9_folds_328 : decode cX9_folds 328 = .ok (.goto 17, 3) := by decide +kernel
theorem dX9_folds_331 : decode cX9_folds 331 = .ok (.iload 12, 2) := by decide +kernel
theorem dX9_folds_333 : decode cX9_folds 333 = .ok (.iload 10, 2) := by decide +kernel
theorem dX9_folds_335 : decode cX9_folds 335 = .ok (.ifCond .eq 7, 3) := by decide +kernel
theorem dX9_folds_338 : decode cX9_folds 338 = .ok (.iconst 0, 1) := by decide +kernel
theorem dX9_folds_339 : decode cX9_folds 339 = .ok (.goto 5, 3) := by decide +kernel
theorem dX9_folds_342 : decode cX9_folds 342 = .ok (.iload 13, 2) := by decide +kernel
theorem dX9_folds_344 : decode cX9_folds 344 = .ok (.iadd, 1) := by decide +kernel
theorem dX9_folds_345 : decode cX9_folds 345 = .ok (.iastore, 1) := by decide +kernel
theorem dX9_folds_346 : decode cX9_folds 346 = .ok (.aload_n 0, 1) := by decide +kernel
theorem dX9_folds_347 : decode cX9_folds 347 = .ok (.getfield 35, 3) := by decide +kernel
theorem dX9_folds_350 : decode cX9_folds 350 = .ok (.iload 6, 2) := by decide +kernel
theorem dX9_folds_352 : decode cX9_folds 352 = .ok (.bipush 48, 2) := by decide +kernel
theorem dX9_folds_354 : decode cX9_folds 354 = .ok (.iadd, 1) := by decide +kernel
theorem dX9_folds_355 : decode cX9_folds 355 = .ok (.iload 11, 2) := by decide +kernel
theorem dX9_folds_357 : decode cX9_folds 357 = .ok (.iadd, 1) := by decide +kernel
theorem dX9_folds_358 : decode cX9_folds 358 = .ok (.aload_n 0, 1) := by decide +kernel
theorem dX9_folds_359 : decode cX9_folds 359 = .ok (.getfield 41, 3) := by decide +kernel
theorem dX9_folds_362 : decode cX9_folds 362 = .ok (.iload 11, 2) := by decide +kernel
theorem dX9_folds_364 : decode cX9_folds 364 = .ok (.baload, 1) := by decide +kernel
theorem dX9_folds_365 : decode cX9_folds 365 = .ok (.ifCond .eq 21, 3) := by decide +kernel
theorem dX9_folds_368 : decode cX9_folds 368 = .ok (.iconst 1, 1) := by decide +kernel
theorem dX9_folds_369 : decode cX9_folds 369 = .ok (.aload_n 0, 1) := by decide +kernel
theorem dX9_folds_370 : decode cX9_folds 370 = .ok (.getfield 35, 3) := by decide +kernel
theorem dX9_folds_373 : decode cX9_folds 373 = .ok (.iload 5, 2) := by decide +kernel
theorem dX9_folds_375 : decode cX9_folds 375 = .ok (.bipush 48, 2) := by decide +kernel
theorem dX9_folds_377 : decode cX9_folds 377 = .ok (.iadd, 1) := by decide +kernel
theorem dX9_folds_378 : decode cX9_folds 378 = .ok (.iload 11, 2) := by decide +kernel
theorem dX9_folds_380 : decode cX9_folds 380 = .ok (.iadd, 1) := by decide +kernel
theorem dX9_folds_381 : decode cX9_folds 381 = .ok (.iaload, 1) := by decide +kernel
theorem dX9_folds_382 : decode cX9_folds 382 = .ok (.isub, 1) := by decide +kernel
theorem dX9_folds_383 : decode cX9_folds 383 = .ok (.goto 16, 3) := by decide +kernel
theorem dX9_folds_386 : decode cX9_folds 386 = .ok (.aload_n 0, 1) := by decide +kernel
theorem dX9_folds_387 : decode cX9_folds 387 = .ok (.getfield 35, 3) := by decide +kernel
theorem dX9_folds_390 : decode cX9_folds 390 = .ok (.iload 5, 2) := by decide +kernel
theorem dX9_folds_392 : decode cX9_folds 392 = .ok (.bipush 48, 2) := by decide +kernel
theorem dX9_folds_394 : decode cX9_folds 394 = .ok (.iadd, 1) := by decide +kernel
theorem dX9_folds_395 : decode cX9_folds 395 = .ok (.iload 11, 2) := by decide +kernel
theorem dX9_folds_397 : decode cX9_folds 397 = .ok (.iadd, 1) := by decide +kernel
theorem dX9_folds_398 : decode cX9_folds 398 = .ok (.iaload, 1) := by decide +kernel
theorem dX9_folds_399 : decode cX9_folds 399 = .ok (.iastore, 1) := by decide +kernel
theorem dX9_folds_400 : decode cX9_folds 400 = .ok (.aload_n 0, 1) := by decide +kernel
theorem dX9_folds_401 : decode cX9_folds 401 = .ok (.getfield 35, 3) := by decide +kernel
theorem dX9_folds_404 : decode cX9_folds 404 = .ok (.iload 6, 2) := by decide +kernel
theorem dX9_folds_406 : decode cX9_folds 406 = .ok (.iload_n 3, 1) := by decide +kernel
theorem dX9_folds_407 : decode cX9_folds 407 = .ok (.ifCond .ne 8, 3) := by decide +kernel
theorem dX9_folds_410 : decode cX9_folds 410 = .ok (.bipush 16, 2) := by decide +kernel
theorem dX9_folds_412 : decode cX9_folds 412 = .ok (.goto 4, 3) := by decide +kernel
theorem dX9_folds_415 : decode cX9_folds 415 = .ok (.iconst 0, 1) := by decide +kernel
theorem dX9_folds_416 : decode cX9_folds 416 = .ok (.iadd, 1) := by decide +kernel
theorem dX9_folds_417 : decode cX9_folds 417 = .ok (.iload 11, 2) := by decide +kernel
theorem dX9_folds_419 : decode cX9_folds 419 = .ok (.iadd, 1) := by decide +kernel
theorem dX9_folds_420 : decode cX9_folds 420 = .ok (.aload_n 0, 1) := by decide +kernel
theorem dX9_folds_421 : decode cX9_folds 421 = .ok (.getfield 35, 3) := by decide +kernel
theorem dX9_folds_424 : decode cX9_folds 424 = .ok (.iload 5, 2) := by decide +kernel
theorem dX9_folds_426 : decode cX9_folds 426 = .ok (.iload_n 3, 1) := by decide +kernel
theorem dX9_folds_427 : decode cX9_folds 427 = .ok (.ifCond .ne 8, 3) := by decide +kernel
theorem dX9_folds_430 : decode cX9_folds 430 = .ok (.bipush 16, 2) := by decide +kernel
theorem dX9_folds_432 : decode cX9_folds 432 = .ok (.goto 4, 3) := by decide +kernel
theorem dX9_folds_435 : decode cX9_folds 435 = .ok (.iconst 0, 1) := by decide +kernel
theorem dX9_folds_436 : decode cX9_folds 436 = .ok (.iadd, 1) := by decide +kernel
theorem dX9_folds_437 : decode cX9_folds 437 = .ok (.iload 11, 2) := by decide +kernel
theorem dX9_folds_439 : decode cX9_folds 439 = .ok (.iadd, 1) := by decide +kernel
theorem dX9_folds_440 : decode cX9_folds 440 = .ok (.iaload, 1) := by decide +kernel
theorem dX9_folds_441 : decode cX9_folds 441 = .ok (.iastore, 1) := by decide +kernel
theorem dX9_folds_442 : decode cX9_folds 442 = .ok (.aload_n 0, 1) := by decide +kernel
theorem dX9_folds_443 : decode cX9_folds 443 = .ok (.getfield 35, 3) := by decide +kernel
theorem dX9_folds_446 : decode cX9_folds 446 = .ok (.iload 6, 2) := by decide +kernel
theorem dX9_folds_448 : decode cX9_folds 448 = .ok (.iload 7, 2) := by decide +kernel
theorem dX9_folds_450 : decode cX9_folds 450 = .ok (.iadd, 1) := by decide +kernel
theorem dX9_folds_451 : decode cX9_folds 451 = .ok (.iload 11, 2) := by decide +kernel
theorem dX9_folds_453 : decode cX9_folds 453 = .ok (.iadd, 1) := by decide +kernel
theorem dX9_folds_454 : decode cX9_folds 454 = .ok (.aload_n 0, 1) := by decide +kernel
theorem dX9_folds_455 : decode cX9_folds 455 = .ok (.getfield 44, 3) := by decide +kernel
theorem dX9_folds_458 : decode cX9_folds 458 = .ok (.iload 11, 2) := by decide +kernel
theorem dX9_folds_460 : decode cX9_folds 460 = .ok (.iaload, 1) := by decide +kernel
theorem dX9_folds_461 : decode cX9_folds 461 = .ok (.iload 8, 2) := by decide +kernel
theorem dX9_folds_463 : decode cX9_folds 463 = .ok (.isub, 1) := by decide +kernel
theorem dX9_folds_464 : decode cX9_folds 464 = .ok (.iastore, 1) := by decide +kernel
theorem dX9_folds_465 : decode cX9_folds 465 = .ok (.iinc 11 1, 3) := by decide +kernel
theorem dX9_folds_468 : decode cX9_folds 468 = .ok (.goto (-229), 3) := by decide +kernel
theorem dX9_folds_471 : decode cX9_folds 471 = .ok (.aload_n 0, 1) := by decide +kernel
theorem dX9_folds_472 : decode cX9_folds 472 = .ok (.getfield 38, 3) := by decide +kernel
theorem dX9_folds_475 : decode cX9_folds 475 = .ok (.iconst 2, 1) := by decide +kernel
theorem dX9_folds_476 : decode cX9_folds 476 = .ok (.iload_n 1, 1) := by decide +kernel
theorem dX9_folds_477 : decode cX9_folds 477 = .ok (.imul, 1) := by decide +kernel
theorem dX9_folds_478 : decode cX9_folds 478 = .ok (.iconst 2, 1) := by decide +kernel
theorem dX9_folds_479 : decode cX9_folds 479 = .ok (.iadd, 1) := by decide +kernel
theorem dX9_folds_480 : decode cX9_folds 480 = .ok (.iload_n 3, 1) := by decide +kernel
theorem dX9_folds_481 : decode cX9_folds 481 = .ok (.iadd, 1) := by decide +kernel
theorem dX9_folds_482 : decode cX9_folds 482 = .ok (.iload 9, 2) := by decide +kernel
theorem dX9_folds_484 : decode cX9_folds 484 = .ok (.iload 8, 2) := by decide +kernel
theorem dX9_folds_486 : decode cX9_folds 486 = .ok (.isub, 1) := by decide +kernel
theorem dX9_folds_487 : decode cX9_folds 487 = .ok (.iconst 1, 1) := by decide +kernel
theorem dX9_folds_488 : decode cX9_folds 488 = .ok (.iadd, 1) := by decide +kernel
theorem dX9_folds_489 : decode cX9_folds 489 = .ok (.iastore, 1) := by decide +kernel
theorem dX9_folds_490 : decode cX9_folds 490 = .ok (.aload_n 0, 1) := by decide +kernel
theorem dX9_folds_491 : decode cX9_folds 491 = .ok (.getfield 38, 3) := by decide +kernel
theorem dX9_folds_494 : decode cX9_folds 494 = .ok (.iconst 2, 1) := by decide +kernel
theorem dX9_folds_495 : decode cX9_folds 495 = .ok (.iload_n 1, 1) := by decide +kernel
theorem dX9_folds_496 : decode cX9_folds 496 = .ok (.imul, 1) := by decide +kernel
theorem dX9_folds_497 : decode cX9_folds 497 = .ok (.iconst 3, 1) := by decide +kernel
theorem dX9_folds_498 : decode cX9_folds 498 = .ok (.iadd, 1) := by decide +kernel
theorem dX9_folds_499 : decode cX9_folds 499 = .ok (.iload_n 3, 1) := by decide +kernel
theorem dX9_folds_500 : decode cX9_folds 500 = .ok (.isub, 1) := by decide +kernel
theorem dX9_folds_501 : decode cX9_folds 501 = .ok (.aload_n 0, 1) := by decide +kernel
theorem dX9_folds_502 : decode cX9_folds 502 = .ok (.getfield 38, 3) := by decide +kernel
theorem dX9_folds_505 : decode cX9_folds 505 = .ok (.iconst 2, 1) := by decide +kernel
theorem dX9_folds_506 : decode cX9_folds 506 = .ok (.iload_n 1, 1) := by decide +kernel
theorem dX9_folds_507 : decode cX9_folds 507 = .ok (.imul, 1) := by decide +kernel
theorem dX9_folds_508 : decode cX9_folds 508 = .ok (.iconst 1, 1) := by decide +kernel
theorem dX9_folds_509 : decode cX9_folds 509 = .ok (.iadd, 1) := by decide +kernel
theorem dX9_folds_510 : decode cX9_folds 510 = .ok (.iload_n 3, 1) := by decide +kernel
theorem dX9_folds_511 : decode cX9_folds 511 = .ok (.isub, 1) := by decide +kernel
theorem dX9_folds_512 : decode cX9_folds 512 = .ok (.iaload, 1) := by decide +kernel
theorem dX9_folds_513 : decode cX9_folds 513 = .ok (.iastore, 1) := by decide +kernel
theorem dX9_folds_514 : decode cX9_folds 514 = .ok (.iconst 1, 1) := by decide +kernel
theorem dX9_folds_515 : decode cX9_folds 515 = .ok (.ireturn, 1) := by decide +kernel
theorem dX9_falls_0 : decode cX9_falls 0 = .ok (.iconst 0, 1) := by decide +kernel
theorem dX9_falls_1 : decode cX9_falls 1 = .ok (.istore_n 2, 1) := by decide +kernel
theorem dX9_falls_2 : decode cX9_falls 2 = .ok (.iload_n 2, 1) := by decide +kernel
theorem dX9_falls_3 : decode cX9_falls 3 = .ok (.bipush 64, 2) := by decide +kernel
theorem dX9_falls_5 : decode cX9_falls 5 = .ok (.if_icmp .ge 26, 3) := by decide +kernel
theorem dX9_falls_8 : decode cX9_falls 8 = .ok (.aload_n 0, 1) := by decide +kernel
theorem dX9_falls_9 : decode cX9_falls 9 = .ok (.getfield 35, 3) := by decide +kernel
theorem dX9_falls_12 : decode cX9_falls 12 = .ok (.iload_n 2, 1) := by decide +kernel
theorem dX9_falls_13 : decode cX9_falls 13 = .ok (.aload_n 0, 1) := by decide +kernel
theorem dX9_falls_14 : decode cX9_falls 14 = .ok (.getfield 35, 3) := by decide +kernel
theorem dX9_falls_17 : decode cX9_falls 17 = .ok (.bipush 64, 2) := by decide +kernel
theorem dX9_falls_19 : decode cX9_falls 19 = .ok (.iload_n 1, 1) := by decide +kernel
theorem dX9_falls_20 : decode cX9_falls 20 = .ok (.imul, 1) := by decide +kernel
theorem dX9_falls_21 : decode cX9_falls 21 = .ok (.iload_n 2, 1) := by decide +kernel
theorem dX9_falls_22 : decode cX9_falls 22 = .ok (.iadd, 1) := by decide +kernel
theorem dX9_falls_23 : decode cX9_falls 23 = .ok (.iaload, 1) := by decide +kernel
theorem dX9_falls_24 : decode cX9_falls 24 = .ok (.iastore, 1) := by decide +kernel
theorem dX9_falls_25 : decode cX9_falls 25 = .ok (.iinc 2 1, 3) := by decide +kernel
theorem dX9_falls_28 : decode cX9_falls 28 = .ok (.goto (-26), 3) := by decide +kernel
theorem dX9_falls_31 : decode cX9_falls 31 = .ok (.aload_n 0, 1) := by decide +kernel
theorem dX9_falls_32 : decode cX9_falls 32 = .ok (.getfield 38, 3) := by decide +kernel
theorem dX9_falls_35 : decode cX9_falls 35 = .ok (.iconst 0, 1) := by decide +kernel
theorem dX9_falls_36 : decode cX9_falls 36 = .ok (.aload_n 0, 1) := by decide +kernel
theorem dX9_falls_37 : decode cX9_falls 37 = .ok (.getfield 38, 3) := by decide +kernel
theorem dX9_falls_40 : decode cX9_falls 40 = .ok (.iconst 2, 1) := by decide +kernel
theorem dX9_falls_41 : decode cX9_falls 41 = .ok (.iload_n 1, 1) := by decide +kernel
theorem dX9_falls_42 : decode cX9_falls 42 = .ok (.imul, 1) := by decide +kernel
theorem dX9_falls_43 : decode cX9_falls 43 = .ok (.iaload, 1) := by decide +kernel
theorem dX9_falls_44 : decode cX9_falls 44 = .ok (.iastore, 1) := by decide +kernel
theorem dX9_falls_45 : decode cX9_falls 45 = .ok (.aload_n 0, 1) := by decide +kernel
theorem dX9_falls_46 : decode cX9_falls 46 = .ok (.getfield 38, 3) := by decide +kernel
theorem dX9_falls_49 : decode cX9_falls 49 = .ok (.iconst 1, 1) := by decide +kernel
theorem dX9_falls_50 : decode cX9_falls 50 = .ok (.aload_n 0, 1) := by decide +kernel
theorem dX9_falls_51 : decode cX9_falls 51 = .ok (.getfield 38, 3) := by decide +kernel
theorem dX9_falls_54 : decode cX9_falls 54 = .ok (.iconst 2, 1) := by decide +kernel
theorem dX9_falls_55 : decode cX9_falls 55 = .ok (.iload_n 1, 1) := by decide +kernel
theorem dX9_falls_56 : decode cX9_falls 56 = .ok (.imul, 1) := by decide +kernel
theorem dX9_falls_57 : decode cX9_falls 57 = .ok (.iconst 1, 1) := by decide +kernel
theorem dX9_falls_58 : decode cX9_falls 58 = .ok (.iadd, 1) := by decide +kernel
theorem dX9_falls_59 : decode cX9_falls 59 = .ok (.iaload, 1) := by decide +kernel
theorem dX9_falls_60 : decode cX9_falls 60 = .ok (.iastore, 1) := by decide +kernel
theorem dX9_falls_61 : decode cX9_falls 61 = .ok (.return_, 1) := by decide +kernel
theorem dX9_now_0 : decode cX9_now 0 = .ok (.aload_n 0, 1) := by decide +kernel
theorem dX9_now_1 : decode cX9_now 1 = .ok (.invokevirtual 133, 3) := by decide +kernel
theorem dX9_now_4 : decode cX9_now 4 = .ok (.iconst 0, 1) := by decide +kernel
theorem dX9_now_5 : decode cX9_now 5 = .ok (.istore_n 2, 1) := by decide +kernel
theorem dX9_now_6 : decode cX9_now 6 = .ok (.iload_n 2, 1) := by decide +kernel
theorem dX9_now_7 : decode cX9_now 7 = .ok (.iload_n 1, 1) := by decide +kernel
theorem dX9_now_8 : decode cX9_now 8 = .ok (.if_icmp .ge 30, 3) := by decide +kernel
theorem dX9_now_11 : decode cX9_now 11 = .ok (.aload_n 0, 1) := by decide +kernel
theorem dX9_now_12 : decode cX9_now 12 = .ok (.iconst 0, 1) := by decide +kernel
theorem dX9_now_13 : decode cX9_now 13 = .ok (.aload_n 0, 1) := by decide +kernel
theorem dX9_now_14 : decode cX9_now 14 = .ok (.getfield 19, 3) := by decide +kernel
theorem dX9_now_17 : decode cX9_now 17 = .ok (.iconst 2, 1) := by decide +kernel
theorem dX9_now_18 : decode cX9_now 18 = .ok (.iload_n 2, 1) := by decide +kernel
theorem dX9_now_19 : decode cX9_now 19 = .ok (.iadd, 1) := by decide +kernel
theorem dX9_now_20 : decode cX9_now 20 = .ok (.iaload, 1) := by decide +kernel
theorem dX9_now_21 : decode cX9_now 21 = .ok (.invokevirtual 136, 3) := by decide +kernel
theorem dX9_now_24 : decode cX9_now 24 = .ok (.ifCond .eq 8, 3) := by decide +kernel
theorem dX9_now_27 : decode cX9_now 27 = .ok (.aload_n 0, 1) := by decide +kernel
theorem dX9_now_28 : decode cX9_now 28 = .ok (.iconst 1, 1) := by decide +kernel
theorem dX9_now_29 : decode cX9_now 29 = .ok (.invokevirtual 140, 3) := by decide +kernel
theorem dX9_now_32 : decode cX9_now 32 = .ok (.iinc 2 1, 3) := by decide +kernel
theorem dX9_now_35 : decode cX9_now 35 = .ok (.goto (-29), 3) := by decide +kernel
theorem dX9_now_38 : decode cX9_now 38 = .ok (.return_, 1) := by decide +kernel
theorem dX9_thick_0 : decode cX9_thick 0 = .ok (.iconst 0, 1) := by decide +kernel
theorem dX9_thick_1 : decode cX9_thick 1 = .ok (.istore_n 1, 1) := by decide +kernel
theorem dX9_thick_2 : decode cX9_thick 2 = .ok (.iconst 0, 1) := by decide +kernel
theorem dX9_thick_3 : decode cX9_thick 3 = .ok (.istore_n 2, 1) := by decide +kernel
theorem dX9_thick_4 : decode cX9_thick 4 = .ok (.iload_n 2, 1) := by decide +kernel
theorem dX9_thick_5 : decode cX9_thick 5 = .ok (.aload_n 0, 1) := by decide +kernel
theorem dX9_thick_6 : decode cX9_thick 6 = .ok (.invokevirtual 51, 3) := by decide +kernel
theorem dX9_thick_9 : decode cX9_thick 9 = .ok (.if_icmp .ge 36, 3) := by decide +kernel
theorem dX9_thick_12 : decode cX9_thick 12 = .ok (.aload_n 0, 1) := by decide +kernel
theorem dX9_thick_13 : decode cX9_thick 13 = .ok (.getfield 35, 3) := by decide +kernel
theorem dX9_thick_16 : decode cX9_thick 16 = .ok (.bipush 32, 2) := by decide +kernel
theorem dX9_thick_18 : decode cX9_thick 18 = .ok (.iload_n 2, 1) := by decide +kernel
theorem dX9_thick_19 : decode cX9_thick 19 = .ok (.iadd, 1) := by decide +kernel
theorem dX9_thick_20 : decode cX9_thick 20 = .ok (.iaload, 1) := by decide +kernel
theorem dX9_thick_21 : decode cX9_thick 21 = .ok (.iload_n 1, 1) := by decide +kernel
theorem dX9_thick_22 : decode cX9_thick 22 = .ok (.if_icmp .le 15, 3) := by decide +kernel
theorem dX9_thick_25 : decode cX9_thick 25 = .ok (.aload_n 0, 1) := by decide +kernel
theorem dX9_thick_26 : decode cX9_thick 26 = .ok (.getfield 35, 3) := by decide +kernel
theorem dX9_thick_29 : decode cX9_thick 29 = .ok (.bipush 32, 2) := by decide +kernel
theorem dX9_thick_31 : decode cX9_thick 31 = .ok (.iload_n 2, 1) := by decide +kernel
theorem dX9_thick_32 : decode cX9_thick 32 = .ok (.iadd, 1) := by decide +kernel
theorem dX9_thick_33 : decode cX9_thick 33 = .ok (.iaload, 1) := by decide +kernel
theorem dX9_thick_34 : decode cX9_thick 34 = .ok (.goto 4, 3) := by decide +kernel
theorem dX9_thick_37 : decode cX9_thick 37 = .ok (.iload_n 1, 1) := by decide +kernel
theorem dX9_thick_38 : decode cX9_thick 38 = .ok (.istore_n 1, 1) := by decide +kernel
theorem dX9_thick_39 : decode cX9_thick 39 = .ok (.iinc 2 1, 3) := by decide +kernel
theorem dX9_thick_42 : decode cX9_thick 42 = .ok (.goto (-38), 3) := by decide +kernel
theorem dX9_thick_45 : decode cX9_thick 45 = .ok (.iload_n 1, 1) := by decide +kernel
theorem dX9_thick_46 : decode cX9_thick 46 = .ok (.iconst 1, 1) := by decide +kernel
theorem dX9_thick_47 : decode cX9_thick 47 = .ok (.iadd, 1) := by decide +kernel
theorem dX9_thick_48 : decode cX9_thick 48 = .ok (.ireturn, 1) := by decide +kernel
theorem dX9_touches_0 : decode cX9_touches 0 = .ok (.bipush 64, 2) := by decide +kernel
theorem dX9_touches_2 : decode cX9_touches 2 = .ok (.iload_n 1, 1) := by decide +kernel
theorem dX9_touches_3 : decode cX9_touches 3 = .ok (.imul, 1) := by decide +kernel
theorem dX9_touches_4 : decode cX9_touches 4 = .ok (.istore 4, 2) := by decide +kernel
theorem dX9_touches_6 : decode cX9_touches 6 = .ok (.aload_n 0, 1) := by decide +kernel
theorem dX9_touches_7 : decode cX9_touches 7 = .ok (.getfield 35, 3) := by decide +kernel
theorem dX9_touches_10 : decode cX9_touches 10 = .ok (.iload 4, 2) := by decide +kernel
theorem dX9_touches_12 : decode cX9_touches 12 = .ok (.bipush 32, 2) := by decide +kernel
theorem dX9_touches_14 : decode cX9_touches 14 = .ok (.iadd, 1) := by decide +kernel
theorem dX9_touches_15 : decode cX9_touches 15 = .ok (.iload_n 3, 1) := by decide +kernel
theorem dX9_touches_16 : decode cX9_touches 16 = .ok (.iadd, 1) := by decide +kernel
theorem dX9_touches_17 : decode cX9_touches 17 = .ok (.iaload, 1) := by decide +kernel
theorem dX9_touches_18 : decode cX9_touches 18 = .ok (.aload_n 0, 1) := by decide +kernel
theorem dX9_touches_19 : decode cX9_touches 19 = .ok (.getfield 35, 3) := by decide +kernel
theorem dX9_touches_22 : decode cX9_touches 22 = .ok (.iload 4, 2) := by decide +kernel
theorem dX9_touches_24 : decode cX9_touches 24 = .ok (.bipush 32, 2) := by decide +kernel
theorem dX9_touches_26 : decode cX9_touches 26 = .ok (.iadd, 1) := by decide +kernel
theorem dX9_touches_27 : decode cX9_touches 27 = .ok (.iload_n 2, 1) := by decide +kernel
theorem dX9_touches_28 : decode cX9_touches 28 = .ok (.iadd, 1) := by decide +kernel
theorem dX9_touches_29 : decode cX9_touches 29 = .ok (.iaload, 1) := by decide +kernel
theorem dX9_touches_30 : decode cX9_touches 30 = .ok (.isub, 1) := by decide +kernel
theorem dX9_touches_31 : decode cX9_touches 31 = .ok (.istore 5, 2) := by decide +kernel
theorem dX9_touches_33 : decode cX9_touches 33 = .ok (.aload_n 0, 1) := by decide +kernel
theorem dX9_touches_34 : decode cX9_touches 34 = .ok (.getfield 35, 3) := by decide +kernel
theorem dX9_touches_37 : decode cX9_touches 37 = .ok (.iload 4, 2) := by decide +kernel
theorem dX9_touches_39 : decode cX9_touches 39 = .ok (.iload_n 2, 1) := by decide +kernel
theorem dX9_touches_40 : decode cX9_touches 40 = .ok (.iadd, 1) := by decide +kernel
theorem dX9_touches_41 : decode cX9_touches 41 = .ok (.iaload, 1) := by decide +kernel
theorem dX9_touches_42 : decode cX9_touches 42 = .ok (.aload_n 0, 1) := by decide +kernel
theorem dX9_touches_43 : decode cX9_touches 43 = .ok (.getfield 35, 3) := by decide +kernel
theorem dX9_touches_46 : decode cX9_touches 46 = .ok (.iload 4, 2) := by decide +kernel
theorem dX9_touches_48 : decode cX9_touches 48 = .ok (.iload_n 3, 1) := by decide +kernel
theorem dX9_touches_49 : decode cX9_touches 49 = .ok (.iadd, 1) := by decide +kernel
theorem dX9_touches_50 : decode cX9_touches 50 = .ok (.iaload, 1) := by decide +kernel
theorem dX9_touches_51 : decode cX9_touches 51 = .ok (.if_icmp .ne 42, 3) := by decide +kernel
theorem dX9_touches_54 : decode cX9_touches 54 = .ok (.aload_n 0, 1) := by decide +kernel
theorem dX9_touches_55 : decode cX9_touches 55 = .ok (.getfield 35, 3) := by decide +kernel
theorem dX9_touches_58 : decode cX9_touches 58 = .ok (.iload 4, 2) := by decide +kernel
theorem dX9_touches_60 : decode cX9_touches 60 = .ok (.bipush 16, 2) := by decide +kernel
theorem dX9_touches_62 : decode cX9_touches 62 = .ok (.iadd, 1) := by decide +kernel
theorem dX9_touches_63 : decode cX9_touches 63 = .ok (.iload_n 2, 1) := by decide +kernel
theorem dX9_touches_64 : decode cX9_touches 64 = .ok (.iadd, 1) := by decide +kernel
theorem dX9_touches_65 : decode cX9_touches 65 = .ok (.iaload, 1) := by decide +kernel
theorem dX9_touches_66 : decode cX9_touches 66 = .ok (.aload_n 0, 1) := by decide +kernel
theorem dX9_touches_67 : decode cX9_touches 67 = .ok (.getfield 35, 3) := by decide +kernel
theorem dX9_touches_70 : decode cX9_touches 70 = .ok (.iload 4, 2) := by decide +kernel
theorem dX9_touches_72 : decode cX9_touches 72 = .ok (.bipush 16, 2) := by decide +kernel
theorem dX9_touches_74 : decode cX9_touches 74 = .ok (.iadd, 1) := by decide +kernel
theorem dX9_touches_75 : decode cX9_touches 75 = .ok (.iload_n 3, 1) := by decide +kernel
theorem dX9_touches_76 : decode cX9_touches 76 = .ok (.iadd, 1) := by decide +kernel
theorem dX9_touches_77 : decode cX9_touches 77 = .ok (.iaload, 1) := by decide +kernel
theorem dX9_touches_78 : decode cX9_touches 78 = .ok (.if_icmp .ne 15, 3) := by decide +kernel
theorem dX9_touches_81 : decode cX9_touches 81 = .ok (.iload 5, 2) := by decide +kernel
theorem dX9_touches_83 : decode cX9_touches 83 = .ok (.iconst 1, 1) := by decide +kernel
theorem dX9_touches_84 : decode cX9_touches 84 = .ok (.if_icmp .eq 11, 3) := by decide +kernel
theorem dX9_touches_87 : decode cX9_touches 87 = .ok (.iload 5, 2) := by decide +kernel
theorem dX9_touches_89 : decode cX9_touches 89 = .ok (.iconst (-1), 1) := by decide +kernel
theorem dX9_touches_90 : decode cX9_touches 90 = .ok (.if_icmp .eq 5, 3) := by decide +kernel
theorem dX9_touches_93 : decode cX9_touches 93 = .ok (.iconst 0, 1) := by decide +kernel
theorem dX9_touches_94 : decode cX9_touches 94 = .ok (.ireturn, 1) := by decide +kernel
theorem dX9_touches_95 : decode cX9_touches 95 = .ok (.iload 5, 2) := by decide +kernel
theorem dX9_touches_97 : decode cX9_touches 97 = .ok (.iconst 1, 1) := by decide +kernel
theorem dX9_touches_98 : decode cX9_touches 98 = .ok (.if_icmp .ne 7, 3) := by decide +kernel
theorem dX9_touches_101 : decode cX9_touches 101 = .ok (.iload_n 2, 1) := by decide +kernel
theorem dX9_touches_102 : decode cX9_touches 102 = .ok (.goto 4, 3) := by decide +kernel
theorem dX9_touches_105 : decode cX9_touches 105 = .ok (.iload_n 3, 1) := by decide +kernel
theorem dX9_touches_106 : decode cX9_touches 106 = .ok (.istore 6, 2) := by decide +kernel
theorem dX9_touches_108 : decode cX9_touches 108 = .ok (.iload 5, 2) := by decide +kernel
theorem dX9_touches_110 : decode cX9_touches 110 = .ok (.iconst 1, 1) := by decide +kernel
theorem dX9_touches_111 : decode cX9_touches 111 = .ok (.if_icmp .ne 7, 3) := by decide +kernel
theorem dX9_touches_114 : decode cX9_touches 114 = .ok (.iload_n 3, 1) := by decide +kernel
theorem dX9_touches_115 : decode cX9_touches 115 = .ok (.goto 4, 3) := by decide +kernel
theorem dX9_touches_118 : decode cX9_touches 118 = .ok (.iload_n 2, 1) := by decide +kernel
theorem dX9_touches_119 : decode cX9_touches 119 = .ok (.istore 7, 2) := by decide +kernel
theorem dX9_touches_121 : decode cX9_touches 121 = .ok (.aload_n 0, 1) := by decide +kernel
theorem dX9_touches_122 : decode cX9_touches 122 = .ok (.getfield 35, 3) := by decide +kernel
theorem dX9_touches_125 : decode cX9_touches 125 = .ok (.iload 4, 2) := by decide +kernel
theorem dX9_touches_127 : decode cX9_touches 127 = .ok (.bipush 48, 2) := by decide +kernel
theorem dX9_touches_129 : decode cX9_touches 129 = .ok (.iadd, 1) := by decide +kernel
theorem dX9_touches_130 : decode cX9_touches 130 = .ok (.iload 6, 2) := by decide +kernel
theorem dX9_touches_132 : decode cX9_touches 132 = .ok (.iadd, 1) := by decide +kernel
theorem dX9_touches_133 : decode cX9_touches 133 = .ok (.iaload, 1) := by decide +kernel
theorem dX9_touches_134 : decode cX9_touches 134 = .ok (.iconst 1, 1) := by decide +kernel
theorem dX9_touches_135 : decode cX9_touches 135 = .ok (.if_icmp .ne 7, 3) := by decide +kernel
theorem dX9_touches_138 : decode cX9_touches 138 = .ok (.iconst 1, 1) := by decide +kernel
theorem dX9_touches_139 : decode cX9_touches 139 = .ok (.goto 4, 3) := by decide +kernel
theorem dX9_touches_142 : decode cX9_touches 142 = .ok (.iconst 0, 1) := by decide +kernel
theorem dX9_touches_143 : decode cX9_touches 143 = .ok (.istore 8, 2) := by decide +kernel
theorem dX9_touches_145 : decode cX9_touches 145 = .ok (.aload_n 0, 1) := by decide +kernel
theorem dX9_touches_146 : decode cX9_touches 146 = .ok (.getfield 35, 3) := by decide +kernel
theorem dX9_touches_149 : decode cX9_touches 149 = .ok (.iload 4, 2) := by decide +kernel
theorem dX9_touches_151 : decode cX9_touches 151 = .ok (.bipush 48, 2) := by decide +kernel
theorem dX9_touches_153 : decode cX9_touches 153 = .ok (.iadd, 1) := by decide +kernel
theorem dX9_touches_154 : decode cX9_touches 154 = .ok (.iload 7, 2) := by decide +kernel
theorem dX9_touches_156 : decode cX9_touches 156 = .ok (.iadd, 1) := by decide +kernel
theorem dX9_touches_157 : decode cX9_touches 157 = .ok (.iaload, 1) := by decide +kernel
theorem dX9_touches_158 : decode cX9_touches 158 = .ok (.ifCond .ne 7, 3) := by decide +kernel
theorem dX9_touches_161 : decode cX9_touches 161 = .ok (.iconst 1, 1) := by decide +kernel
theorem dX9_touches_162 : decode cX9_touches 162 = .ok (.goto 4, 3) := by decide +kernel
theorem dX9_touches_165 : decode cX9_touches 165 = .ok (.iconst 0, 1) := by decide +kernel
theorem dX9_touches_166 : decode cX9_touches 166 = .ok (.istore 9, 2) := by decide +kernel
theorem dX9_touches_168 : decode cX9_touches 168 = .ok (.iload 8, 2) := by decide +kernel
theorem dX9_touches_170 : decode cX9_touches 170 = .ok (.ifCond .eq 12, 3) := by decide +kernel
theorem dX9_touches_173 : decode cX9_touches 173 = .ok (.iload 9, 2) := by decide +kernel
theorem dX9_touches_175 : decode cX9_touches 175 = .ok (.ifCond .eq 7, 3) := by decide +kernel
theorem dX9_touches_178 : decode cX9_touches 178 = .ok (.iconst 1, 1) := by decide +kernel
theorem dX9_touches_179 : decode cX9_touches 179 = .ok (.goto 18, 3) := by decide +kernel
theorem dX9_touches_182 : decode cX9_touches 182 = .ok (.iload 8, 2) := by decide +kernel
theorem dX9_touches_184 : decode cX9_touches 184 = .ok (.ifCond .ne 12, 3) := by decide +kernel
theorem dX9_touches_187 : decode cX9_touches 187 = .ok (.iload 9, 2) := by decide +kernel
theorem dX9_touches_189 : decode cX9_touches 189 = .ok (.ifCond .ne 7, 3) := by decide +kernel
theorem dX9_touches_192 : decode cX9_touches 192 = .ok (.iconst 2, 1) := by decide +kernel
theorem dX9_touches_193 : decode cX9_touches 193 = .ok (.goto 4, 3) := by decide +kernel
theorem dX9_touches_196 : decode cX9_touches 196 = .ok (.iconst 3, 1) := by decide +kernel
theorem dX9_touches_197 : decode cX9_touches 197 = .ok (.ireturn, 1) := by decide +kernel
theorem dX9_gain_0 : decode cX9_gain 0 = .ok (.iconst 0, 1) := by decide +kernel
theorem dX9_gain_1 : decode cX9_gain 1 = .ok (.istore_n 3, 1) := by decide +kernel
theorem dX9_gain_2 : decode cX9_gain 2 = .ok (.iconst 0, 1) := by decide +kernel
theorem dX9_gain_3 : decode cX9_gain 3 = .ok (.istore 4, 2) := by decide +kernel
theorem dX9_gain_5 : decode cX9_gain 5 = .ok (.iload 4, 2) := by decide +kernel
theorem dX9_gain_7 : decode cX9_gain 7 = .ok (.aload_n 0, 1) := by decide +kernel
theorem dX9_gain_8 : decode cX9_gain 8 = .ok (.invokevirtual 51, 3) := by decide +kernel
theorem dX9_gain_11 : decode cX9_gain 11 = .ok (.if_icmp .ge 44, 3) := by decide +kernel
theorem dX9_gain_14 : decode cX9_gain 14 = .ok (.iload_n 3, 1) := by decide +kernel
theorem dX9_gain_15 : decode cX9_gain 15 = .ok (.iload 4, 2) := by decide +kernel
theorem dX9_gain_17 : decode cX9_gain 17 = .ok (.iload_n 2, 1) := by decide +kernel
theorem dX9_gain_18 : decode cX9_gain 18 = .ok (.if_icmp .eq 28, 3) := by decide +kernel
theorem dX9_gain_21 : decode cX9_gain 21 = .ok (.aload_n 0, 1) := by decide +kernel
theorem dX9_gain_22 : decode cX9_gain 22 = .ok (.iload_n 1, 1) := by decide +kernel
theorem dX9_gain_23 : decode cX9_gain 23 = .ok (.iload_n 2, 1) := by decide +kernel
theorem dX9_gain_24 : decode cX9_gain 24 = .ok (.iload 4, 2) := by decide +kernel
theorem dX9_gain_26 : decode cX9_gain 26 = .ok (.invokevirtual 144, 3) := by decide +kernel
theorem dX9_gain_29 : decode cX9_gain 29 = .ok (.iconst 1, 1) := by decide +kernel
theorem dX9_gain_30 : decode cX9_gain 30 = .ok (.if_icmp .ne 16, 3) := by decide +kernel
theorem dX9_gain_33 : decode cX9_gain 33 = .ok (.aload_n 0, 1) := by decide +kernel
theorem dX9_gain_34 : decode cX9_gain 34 = .ok (.getfield 13, 3) := by decide +kernel
theorem dX9_gain_37 : decode cX9_gain 37 = .ok (.bipush 6, 2) := by decide +kernel
theorem dX9_gain_39 : decode cX9_gain 39 = .ok (.iload 4, 2) := by decide +kernel
theorem dX9_gain_41 : decode cX9_gain 41 = .ok (.iadd, 1) := by decide +kernel
theorem dX9_gain_42 : decode cX9_gain 42 = .ok (.iaload, 1) := by decide +kernel
theorem dX9_gain_43 : decode cX9_gain 43 = .ok (.goto 4, 3) := by decide +kernel
theorem dX9_gain_46 : decode cX9_gain 46 = .ok (.iconst 0, 1) := by decide +kernel
theorem dX9_gain_47 : decode cX9_gain 47 = .ok (.iadd, 1) := by decide +kernel
theorem dX9_gain_48 : decode cX9_gain 48 = .ok (.istore_n 3, 1) := by decide +kernel
theorem dX9_gain_49 : decode cX9_gain 49 = .ok (.iinc 4 1, 3) := by decide +kernel
theorem dX9_gain_52 : decode cX9_gain 52 = .ok (.goto (-47), 3) := by decide +kernel
theorem dX9_gain_55 : decode cX9_gain 55 = .ok (.iload_n 3, 1) := by decide +kernel
theorem dX9_gain_56 : decode cX9_gain 56 = .ok (.ireturn, 1) := by decide +kernel
theorem dX9_cell_0 : decode cX9_cell 0 = .ok (.aload_n 0, 1) := by decide +kernel
theorem dX9_cell_1 : decode cX9_cell 1 = .ok (.iload_n 1, 1) := by decide +kernel
theorem dX9_cell_2 : decode cX9_cell 2 = .ok (.invokevirtual 59, 3) := by decide +kernel
theorem dX9_cell_5 : decode cX9_cell 5 = .ok (.ifCond .eq 12, 3) := by decide +kernel
theorem dX9_cell_8 : decode cX9_cell 8 = .ok (.iload_n 2, 1) := by decide +kernel
theorem dX9_cell_9 : decode cX9_cell 9 = .ok (.iconst 0, 1) := by decide +kernel
theorem dX9_cell_10 : decode cX9_cell 10 = .ok (.iconst 5, 1) := by decide +kernel
theorem dX9_cell_11 : decode cX9_cell 11 = .ok (.invokestatic 55, 3) := by decide +kernel
theorem dX9_cell_14 : decode cX9_cell 14 = .ok (.ifCond .ne 5, 3) := by decide +kernel
theorem dX9_cell_17 : decode cX9_cell 17 = .ok (.iconst (-1), 1) := by decide +kernel
theorem dX9_cell_18 : decode cX9_cell 18 = .ok (.ireturn, 1) := by decide +kernel
theorem dX9_cell_19 : decode cX9_cell 19 = .ok (.aload_n 0, 1) := by decide +kernel
theorem dX9_cell_20 : decode cX9_cell 20 = .ok (.aload_n 0, 1) := by decide +kernel
theorem dX9_cell_21 : decode cX9_cell 21 = .ok (.getfield 19, 3) := by decide +kernel
theorem dX9_cell_24 : decode cX9_cell 24 = .ok (.iconst 1, 1) := by decide +kernel
theorem dX9_cell_25 : decode cX9_cell 25 = .ok (.iaload, 1) := by decide +kernel
theorem dX9_cell_26 : decode cX9_cell 26 = .ok (.invokevirtual 148, 3) := by decide +kernel
theorem dX9_cell_29 : decode cX9_cell 29 = .ok (.iload_n 2, 1) := by decide +kernel
theorem dX9_cell_30 : decode cX9_cell 30 = .ok (.iconst 4, 1) := by decide +kernel
theorem dX9_cell_31 : decode cX9_cell 31 = .ok (.if_icmp .ge 17, 3) := by decide +kernel
theorem dX9_cell_34 : decode cX9_cell 34 = .ok (.aload_n 0, 1) := by decide +kernel
theorem dX9_cell_35 : decode cX9_cell 35 = .ok (.getfield 35, 3) := by decide +kernel
theorem dX9_cell_38 : decode cX9_cell 38 = .ok (.bipush 16, 2) := by decide +kernel
theorem dX9_cell_40 : decode cX9_cell 40 = .ok (.iload_n 2, 1) := by decide +kernel
theorem dX9_cell_41 : decode cX9_cell 41 = .ok (.imul, 1) := by decide +kernel
theorem dX9_cell_42 : decode cX9_cell 42 = .ok (.iload_n 1, 1) := by decide +kernel
theorem dX9_cell_43 : decode cX9_cell 43 = .ok (.iadd, 1) := by decide +kernel
theorem dX9_cell_44 : decode cX9_cell 44 = .ok (.iaload, 1) := by decide +kernel
theorem dX9_cell_45 : decode cX9_cell 45 = .ok (.goto 26, 3) := by decide +kernel
theorem dX9_cell_48 : decode cX9_cell 48 = .ok (.iload_n 2, 1) := by decide +kernel
theorem dX9_cell_49 : decode cX9_cell 49 = .ok (.iconst 4, 1) := by decide +kernel
theorem dX9_cell_50 : decode cX9_cell 50 = .ok (.if_icmp .ne 15, 3) := by decide +kernel
theorem dX9_cell_53 : decode cX9_cell 53 = .ok (.aload_n 0, 1) := by decide +kernel
theorem dX9_cell_54 : decode cX9_cell 54 = .ok (.getfield 13, 3) := by decide +kernel
theorem dX9_cell_57 : decode cX9_cell 57 = .ok (.bipush 6, 2) := by decide +kernel
theorem dX9_cell_59 : decode cX9_cell 59 = .ok (.iload_n 1, 1) := by decide +kernel
theorem dX9_cell_60 : decode cX9_cell 60 = .ok (.iadd, 1) := by decide +kernel
theorem dX9_cell_61 : decode cX9_cell 61 = .ok (.iaload, 1) := by decide +kernel
theorem dX9_cell_62 : decode cX9_cell 62 = .ok (.goto 9, 3) := by decide +kernel
theorem dX9_cell_65 : decode cX9_cell 65 = .ok (.aload_n 0, 1) := by decide +kernel
theorem dX9_cell_66 : decode cX9_cell 66 = .ok (.iconst 0, 1) := by decide +kernel
theorem dX9_cell_67 : decode cX9_cell 67 = .ok (.iload_n 1, 1) := by decide +kernel
theorem dX9_cell_68 : decode cX9_cell 68 = .ok (.invokevirtual 151, 3) := by decide +kernel
theorem dX9_cell_71 : decode cX9_cell 71 = .ok (.ireturn, 1) := by decide +kernel
theorem dX9_at_0 : decode cX9_at 0 = .ok (.iload_n 1, 1) := by decide +kernel
theorem dX9_at_1 : decode cX9_at 1 = .ok (.ifCond .lt 11, 3) := by decide +kernel
theorem dX9_at_4 : decode cX9_at 4 = .ok (.iload_n 2, 1) := by decide +kernel
theorem dX9_at_5 : decode cX9_at 5 = .ok (.ifCond .lt 7, 3) := by decide +kernel
theorem dX9_at_8 : decode cX9_at 8 = .ok (.iload_n 3, 1) := by decide +kernel
theorem dX9_at_9 : decode cX9_at 9 = .ok (.ifCond .ge 5, 3) := by decide +kernel
theorem dX9_at_12 : decode cX9_at 12 = .ok (.iconst (-1), 1) := by decide +kernel
theorem dX9_at_13 : decode cX9_at 13 = .ok (.ireturn, 1) := by decide +kernel
theorem dX9_at_14 : decode cX9_at 14 = .ok (.aload_n 0, 1) := by decide +kernel
theorem dX9_at_15 : decode cX9_at 15 = .ok (.aload_n 0, 1) := by decide +kernel
theorem dX9_at_16 : decode cX9_at 16 = .ok (.getfield 19, 3) := by decide +kernel
theorem dX9_at_19 : decode cX9_at 19 = .ok (.iconst 1, 1) := by decide +kernel
theorem dX9_at_20 : decode cX9_at 20 = .ok (.iaload, 1) := by decide +kernel
theorem dX9_at_21 : decode cX9_at 21 = .ok (.invokevirtual 148, 3) := by decide +kernel
theorem dX9_at_24 : decode cX9_at 24 = .ok (.bipush (-9), 2) := by decide +kernel
theorem dX9_at_26 : decode cX9_at 26 = .ok (.istore 4, 2) := by decide +kernel
theorem dX9_at_28 : decode cX9_at 28 = .ok (.iconst 0, 1) := by decide +kernel
theorem dX9_at_29 : decode cX9_at 29 = .ok (.istore 5, 2) := by decide +kernel
theorem dX9_at_31 : decode cX9_at 31 = .ok (.iload 5, 2) := by decide +kernel
theorem dX9_at_33 : decode cX9_at 33 = .ok (.aload_n 0, 1) := by decide +kernel
theorem dX9_at_34 : decode cX9_at 34 = .ok (.invokevirtual 51, 3) := by decide +kernel
theorem dX9_at_37 : decode cX9_at 37 = .ok (.if_icmp .ge 57, 3) := by decide +kernel
theorem dX9_at_40 : decode cX9_at 40 = .ok (.aload_n 0, 1) := by decide +kernel
theorem dX9_at_41 : decode cX9_at 41 = .ok (.getfield 35, 3) := by decide +kernel
theorem dX9_at_44 : decode cX9_at 44 = .ok (.iload 5, 2) := by decide +kernel
theorem dX9_at_46 : decode cX9_at 46 = .ok (.iaload, 1) := by decide +kernel
theorem dX9_at_47 : decode cX9_at 47 = .ok (.iload_n 1, 1) := by decide +kernel
theorem dX9_at_48 : decode cX9_at 48 = .ok (.if_icmp .ne 36, 3) := by decide +kernel
theorem dX9_at_51 : decode cX9_at 51 = .ok (.aload_n 0, 1) := by decide +kernel
theorem dX9_at_52 : decode cX9_at 52 = .ok (.getfield 35, 3) := by decide +kernel
theorem dX9_at_55 : decode cX9_at 55 = .ok (.bipush 16, 2) := by decide +kernel
theorem dX9_at_57 : decode cX9_at 57 = .ok (.iload 5, 2) := by decide +kernel
theorem dX9_at_59 : decode cX9_at 59 = .ok (.iadd, 1) := by decide +kernel
theorem dX9_at_60 : decode cX9_at 60 = .ok (.iaload, 1) := by decide +kernel
theorem dX9_at_61 : decode cX9_at 61 = .ok (.iload_n 2, 1) := by decide +kernel
theorem dX9_at_62 : decode cX9_at 62 = .ok (.if_icmp .ne 22, 3) := by decide +kernel
theorem dX9_at_65 : decode cX9_at 65 = .ok (.aload_n 0, 1) := by decide +kernel
theorem dX9_at_66 : decode cX9_at 66 = .ok (.getfield 35, 3) := by decide +kernel
theorem dX9_at_69 : decode cX9_at 69 = .ok (.bipush 32, 2) := by decide +kernel
theorem dX9_at_71 : decode cX9_at 71 = .ok (.iload 5, 2) := by decide +kernel
theorem dX9_at_73 : decode cX9_at 73 = .ok (.iadd, 1) := by decide +kernel
theorem dX9_at_74 : decode cX9_at 74 = .ok (.iaload, 1) := by decide +kernel
theorem dX9_at_75 : decode cX9_at 75 = .ok (.iload_n 3, 1) := by decide +kernel
theorem dX9_at_76 : decode cX9_at 76 = .ok (.if_icmp .ne 8, 3) := by decide +kernel
theorem dX9_at_79 : decode cX9_at 79 = .ok (.iload 5, 2) := by decide +kernel
theorem dX9_at_81 : decode cX9_at 81 = .ok (.goto 5, 3) := by decide +kernel
theorem dX9_at_84 : decode cX9_at 84 = .ok (.iload 4, 2) := by decide +kernel
theorem dX9_at_86 : decode cX9_at 86 = .ok (.istore 4, 2) := by decide +kernel
theorem dX9_at_88 : decode cX9_at 88 = .ok (.iinc 5 1, 3) := by decide +kernel
theorem dX9_at_91 : decode cX9_at 91 = .ok (.goto (-60), 3) := by decide +kernel
theorem dX9_at_94 : decode cX9_at 94 = .ok (.iload 4, 2) := by decide +kernel
theorem dX9_at_96 : decode cX9_at 96 = .ok (.ireturn, 1) := by decide +kernel
theorem dX9_bends_0 : decode cX9_bends 0 = .ok (.iload_n 1, 1) := by decide +kernel
theorem dX9_bends_1 : decode cX9_bends 1 = .ok (.ifCond .ne 7, 3) := by decide +kernel
theorem dX9_bends_4 : decode cX9_bends 4 = .ok (.iconst 0, 1) := by decide +kernel
theorem dX9_bends_5 : decode cX9_bends 5 = .ok (.goto 5, 3) := by decide +kernel
theorem dX9_bends_8 : decode cX9_bends 8 = .ok (.bipush 16, 2) := by decide +kernel
theorem dX9_bends_10 : decode cX9_bends 10 = .ok (.istore 5, 2) := by decide +kernel
theorem dX9_bends_12 : decode cX9_bends 12 = .ok (.iload_n 1, 1) := by decide +kernel
theorem dX9_bends_13 : decode cX9_bends 13 = .ok (.ifCond .ne 8, 3) := by decide +kernel
theorem dX9_bends_16 : decode cX9_bends 16 = .ok (.bipush 16, 2) := by decide +kernel
theorem dX9_bends_18 : decode cX9_bends 18 = .ok (.goto 4, 3) := by decide +kernel
theorem dX9_bends_21 : decode cX9_bends 21 = .ok (.iconst 0, 1) := by decide +kernel
theorem dX9_bends_22 : decode cX9_bends 22 = .ok (.istore 6, 2) := by decide +kernel
theorem dX9_bends_24 : decode cX9_bends 24 = .ok (.aload_n 0, 1) := by decide +kernel
theorem dX9_bends_25 : decode cX9_bends 25 = .ok (.getfield 35, 3) := by decide +kernel
theorem dX9_bends_28 : decode cX9_bends 28 = .ok (.iload 5, 2) := by decide +kernel
theorem dX9_bends_30 : decode cX9_bends 30 = .ok (.iload_n 3, 1) := by decide +kernel
theorem dX9_bends_31 : decode cX9_bends 31 = .ok (.iadd, 1) := by decide +kernel
theorem dX9_bends_32 : decode cX9_bends 32 = .ok (.iaload, 1) := by decide +kernel
theorem dX9_bends_33 : decode cX9_bends 33 = .ok (.istore 7, 2) := by decide +kernel
theorem dX9_bends_35 : decode cX9_bends 35 = .ok (.aload_n 0, 1) := by decide +kernel
theorem dX9_bends_36 : decode cX9_bends 36 = .ok (.getfield 35, 3) := by decide +kernel
theorem dX9_bends_39 : decode cX9_bends 39 = .ok (.iload 5, 2) := by decide +kernel
theorem dX9_bends_41 : decode cX9_bends 41 = .ok (.iload 4, 2) := by decide +kernel
theorem dX9_bends_43 : decode cX9_bends 43 = .ok (.iadd, 1) := by decide +kernel
theorem dX9_bends_44 : decode cX9_bends 44 = .ok (.iaload, 1) := by decide +kernel
theorem dX9_bends_45 : decode cX9_bends 45 = .ok (.istore 8, 2) := by decide +kernel
theorem dX9_bends_47 : decode cX9_bends 47 = .ok (.aload_n 0, 1) := by decide +kernel
theorem dX9_bends_48 : decode cX9_bends 48 = .ok (.getfield 35, 3) := by decide +kernel
theorem dX9_bends_51 : decode cX9_bends 51 = .ok (.iload 6, 2) := by decide +kernel
theorem dX9_bends_53 : decode cX9_bends 53 = .ok (.iload_n 3, 1) := by decide +kernel
theorem dX9_bends_54 : decode cX9_bends 54 = .ok (.iadd, 1) := by decide +kernel
theorem dX9_bends_55 : decode cX9_bends 55 = .ok (.iaload, 1) := by decide +kernel
theorem dX9_bends_56 : decode cX9_bends 56 = .ok (.aload_n 0, 1) := by decide +kernel
theorem dX9_bends_57 : decode cX9_bends 57 = .ok (.getfield 35, 3) := by decide +kernel
theorem dX9_bends_60 : decode cX9_bends 60 = .ok (.iload 6, 2) := by decide +kernel
theorem dX9_bends_62 : decode cX9_bends 62 = .ok (.iload 4, 2) := by decide +kernel
theorem dX9_bends_64 : decode cX9_bends 64 = .ok (.iadd, 1) := by decide +kernel
theorem dX9_bends_65 : decode cX9_bends 65 = .ok (.iaload, 1) := by decide +kernel
theorem dX9_bends_66 : decode cX9_bends 66 = .ok (.if_icmp .ne 35, 3) := by decide +kernel
theorem dX9_bends_69 : decode cX9_bends 69 = .ok (.iload 7, 2) := by decide +kernel
theorem dX9_bends_71 : decode cX9_bends 71 = .ok (.iload_n 2, 1) := by decide +kernel
theorem dX9_bends_72 : decode cX9_bends 72 = .ok (.iconst 1, 1) := by decide +kernel
theorem dX9_bends_73 : decode cX9_bends 73 = .ok (.isub, 1) := by decide +kernel
theorem dX9_bends_74 : decode cX9_bends 74 = .ok (.if_icmp .ne 9, 3) := by decide +kernel
theorem dX9_bends_77 : decode cX9_bends 77 = .ok (.iload 8, 2) := by decide +kernel
theorem dX9_bends_79 : decode cX9_bends 79 = .ok (.iload_n 2, 1) := by decide +kernel
theorem dX9_bends_80 : decode cX9_bends 80 = .ok (.if_icmp .eq 17, 3) := by decide +kernel
theorem dX9_bends_83 : decode cX9_bends 83 = .ok (.iload 7, 2) := by decide +kernel
theorem dX9_bends_85 : decode cX9_bends 85 = .ok (.iload_n 2, 1) := by decide +kernel
theorem dX9_bends_86 : decode cX9_bends 86 = .ok (.if_icmp .ne 15, 3) := by decide +kernel
theorem dX9_bends_89 : decode cX9_bends 89 = .ok (.iload 8, 2) := by decide +kernel
theorem dX9_bends_91 : decode cX9_bends 91 = .ok (.iload_n 2, 1) := by decide +kernel
theorem dX9_bends_92 : decode cX9_bends 92 = .ok (.iconst 1, 1) := by decide +kernel
theorem dX9_bends_93 : decode cX9_bends 93 = .ok (.isub, 1) := by decide +kernel
theorem dX9_bends_94 : decode cX9_bends 94 = .ok (.if_icmp .ne 7, 3) := by decide +kernel
theorem dX9_bends_97 : decode cX9_bends 97 = .ok (.iconst 1, 1) := by decide +kernel
theorem dX9_bends_98 : decode cX9_bends 98 = .ok (.goto 4, 3) := by decide +kernel
theorem dX9_bends_101 : decode cX9_bends 101 = .ok (.iconst 0, 1) := by decide +kernel
theorem dX9_bends_102 : decode cX9_bends 102 = .ok (.ireturn, 1) := by decide +kernel
theorem dX9_neighbour_0 : decode cX9_neighbour 0 = .ok (.aload_n 0, 1) := by decide +kernel
theorem dX9_neighbour_1 : decode cX9_neighbour 1 = .ok (.getfield 13, 3) := by decide +kernel
theorem dX9_neighbour_4 : decode cX9_neighbour 4 = .ok (.iconst 0, 1) := by decide +kernel
theorem dX9_neighbour_5 : decode cX9_neighbour 5 = .ok (.iaload, 1) := by decide +kernel
theorem dX9_neighbour_6 : decode cX9_neighbour 6 = .ok (.istore_n 3, 1) := by decide +kernel
theorem dX9_neighbour_7 : decode cX9_neighbour 7 = .ok (.iload_n 2, 1) := by decide +kernel
theorem dX9_neighbour_8 : decode cX9_neighbour 8 = .ok (.ifCond .ne 21, 3) := by decide +kernel
theorem dX9_neighbour_11 : decode cX9_neighbour 11 = .ok (.iload_n 1, 1) := by decide +kernel
theorem dX9_neighbour_12 : decode cX9_neighbour 12 = .ok (.iload_n 3, 1) := by decide +kernel
theorem dX9_neighbour_13 : decode cX9_neighbour 13 = .ok (.irem, 1) := by decide +kernel
theorem dX9_neighbour_14 : decode cX9_neighbour 14 = .ok (.iload_n 3, 1) := by decide +kernel
theorem dX9_neighbour_15 : decode cX9_neighbour 15 = .ok (.iconst 1, 1) := by decide +kernel
theorem dX9_neighbour_16 : decode cX9_neighbour 16 = .ok (.isub, 1) := by decide +kernel
theorem dX9_neighbour_17 : decode cX9_neighbour 17 = .ok (.if_icmp .ge 9, 3) := by decide +kernel
theorem dX9_neighbour_20 : decode cX9_neighbour 20 = .ok (.iload_n 1, 1) := by decide +kernel
theorem dX9_neighbour_21 : decode cX9_neighbour 21 = .ok (.iconst 1, 1) := by decide +kernel
theorem dX9_neighbour_22 : decode cX9_neighbour 22 = .ok (.iadd, 1) := by decide +kernel
theorem dX9_neighbour_23 : decode cX9_neighbour 23 = .ok (.goto 5, 3) := by decide +kernel
theorem dX9_neighbour_26 : decode cX9_neighbour 26 = .ok (.bipush (-9), 2) := by decide +kernel
theorem dX9_neighbour_28 : decode cX9_neighbour 28 = .ok (.ireturn, 1) := by decide +kernel
theorem dX9_neighbour_29 : decode cX9_neighbour 29 = .ok (.iload_n 1, 1) := by decide +kernel
theorem dX9_neighbour_30 : decode cX9_neighbour 30 = .ok (.iload_n 3, 1) := by decide +kernel
theorem dX9_neighbour_31 : decode cX9_neighbour 31 = .ok (.iadd, 1) := by decide +kernel
theorem dX9_neighbour_32 : decode cX9_neighbour 32 = .ok (.aload_n 0, 1) := by decide +kernel
theorem dX9_neighbour_33 : decode cX9_neighbour 33 = .ok (.invokevirtual 51, 3) := by decide +kernel
theorem dX9_neighbour_36 : decode cX9_neighbour 36 = .ok (.if_icmp .ge 9, 3) := by decide +kernel
theorem dX9_neighbour_39 : decode cX9_neighbour 39 = .ok (.iload_n 1, 1) := by decide +kernel
theorem dX9_neighbour_40 : decode cX9_neighbour 40 = .ok (.iload_n 3, 1) := by decide +kernel
theorem dX9_neighbour_41 : decode cX9_neighbour 41 = .ok (.iadd, 1) := by decide +kernel
theorem dX9_neighbour_42 : decode cX9_neighbour 42 = .ok (.goto 5, 3) := by decide +kernel
theorem dX9_neighbour_45 : decode cX9_neighbour 45 = .ok (.bipush (-9), 2) := by decide +kernel
theorem dX9_neighbour_47 : decode cX9_neighbour 47 = .ok (.ireturn, 1) := by decide +kernel
theorem dX9_bendsAll_0 : decode cX9_bendsAll 0 = .ok (.iconst 0, 1) := by decide +kernel
theorem dX9_bendsAll_1 : decode cX9_bendsAll 1 = .ok (.istore_n 3, 1) := by decide +kernel
theorem dX9_bendsAll_2 : decode cX9_bendsAll 2 = .ok (.iconst 0, 1) := by decide +kernel
theorem dX9_bendsAll_3 : decode cX9_bendsAll 3 = .ok (.istore 4, 2) := by decide +kernel
theorem dX9_bendsAll_5 : decode cX9_bendsAll 5 = .ok (.iload 4, 2) := by decide +kernel
theorem dX9_bendsAll_7 : decode cX9_bendsAll 7 = .ok (.aload_n 0, 1) := by decide +kernel
theorem dX9_bendsAll_8 : decode cX9_bendsAll 8 = .ok (.invokevirtual 51, 3) := by decide +kernel
theorem dX9_bendsAll_11 : decode cX9_bendsAll 11 = .ok (.if_icmp .ge 112, 3) := by decide +kernel
theorem dX9_bendsAll_14 : decode cX9_bendsAll 14 = .ok (.iconst 0, 1) := by decide +kernel
theorem dX9_bendsAll_15 : decode cX9_bendsAll 15 = .ok (.istore 5, 2) := by decide +kernel
theorem dX9_bendsAll_17 : decode cX9_bendsAll 17 = .ok (.iload 5, 2) := by decide +kernel
theorem dX9_bendsAll_19 : decode cX9_bendsAll 19 = .ok (.iconst 2, 1) := by decide +kernel
theorem dX9_bendsAll_20 : decode cX9_bendsAll 20 = .ok (.if_icmp .ge 97, 3) := by decide +kernel
theorem dX9_bendsAll_23 : decode cX9_bendsAll 23 = .ok (.aload_n 0, 1) := by decide +kernel
theorem dX9_bendsAll_24 : decode cX9_bendsAll 24 = .ok (.iload 4, 2) := by decide +kernel
theorem dX9_bendsAll_26 : decode cX9_bendsAll 26 = .ok (.iload 5, 2) := by decide +kernel
theorem dX9_bendsAll_28 : decode cX9_bendsAll 28 = .ok (.invokevirtual 154, 3) := by decide +kernel
theorem dX9_bendsAll_31 : decode cX9_bendsAll 31 = .ok (.istore 6, 2) := by decide +kernel
theorem dX9_bendsAll_33 : decode cX9_bendsAll 33 = .ok (.iload 5, 2) := by decide +kernel
theorem dX9_bendsAll_35 : decode cX9_bendsAll 35 = .ok (.ifCond .ne 8, 3) := by decide +kernel
theorem dX9_bendsAll_38 : decode cX9_bendsAll 38 = .ok (.bipush 8, 2) := by decide +kernel
theorem dX9_bendsAll_40 : decode cX9_bendsAll 40 = .ok (.goto 5, 3) := by decide +kernel
theorem dX9_bendsAll_43 : decode cX9_bendsAll 43 = .ok (.bipush 24, 2) := by decide +kernel
theorem dX9_bendsAll_45 : decode cX9_bendsAll 45 = .ok (.iload 4, 2) := by decide +kernel
theorem dX9_bendsAll_47 : decode cX9_bendsAll 47 = .ok (.iadd, 1) := by decide +kernel
theorem dX9_bendsAll_48 : decode cX9_bendsAll 48 = .ok (.istore 7, 2) := by decide +kernel
theorem dX9_bendsAll_50 : decode cX9_bendsAll 50 = .ok (.iload 6, 2) := by decide +kernel
theorem dX9_bendsAll_52 : decode cX9_bendsAll 52 = .ok (.bipush (-9), 2) := by decide +kernel
theorem dX9_bendsAll_54 : decode cX9_bendsAll 54 = .ok (.if_icmp .eq 57, 3) := by decide +kernel
theorem dX9_bendsAll_57 : decode cX9_bendsAll 57 = .ok (.aload_n 0, 1) := by decide +kernel
theorem dX9_bendsAll_58 : decode cX9_bendsAll 58 = .ok (.iload_n 1, 1) := by decide +kernel
theorem dX9_bendsAll_59 : decode cX9_bendsAll 59 = .ok (.iconst 1, 1) := by decide +kernel
theorem dX9_bendsAll_60 : decode cX9_bendsAll 60 = .ok (.iand, 1) := by decide +kernel
theorem dX9_bendsAll_61 : decode cX9_bendsAll 61 = .ok (.iload_n 1, 1) := by decide +kernel
theorem dX9_bendsAll_62 : decode cX9_bendsAll 62 = .ok (.bipush 8, 2) := by decide +kernel
theorem dX9_bendsAll_64 : decode cX9_bendsAll 64 = .ok (.idiv, 1) := by decide +kernel
theorem dX9_bendsAll_65 : decode cX9_bendsAll 65 = .ok (.iconst 1, 1) := by decide +kernel
theorem dX9_bendsAll_66 : decode cX9_bendsAll 66 = .ok (.iadd, 1) := by decide +kernel
theorem dX9_bendsAll_67 : decode cX9_bendsAll 67 = .ok (.iload 4, 2) := by decide +kernel
theorem dX9_bendsAll_69 : decode cX9_bendsAll 69 = .ok (.iload 6, 2) := by decide +kernel
theorem dX9_bendsAll_71 : decode cX9_bendsAll 71 = .ok (.invokevirtual 157, 3) := by decide +kernel
theorem dX9_bendsAll_74 : decode cX9_bendsAll 74 = .ok (.ifCond .eq 37, 3) := by decide +kernel
theorem dX9_bendsAll_77 : decode cX9_bendsAll 77 = .ok (.aload_n 0, 1) := by decide +kernel
theorem dX9_bendsAll_78 : decode cX9_bendsAll 78 = .ok (.getfield 19, 3) := by decide +kernel
theorem dX9_bendsAll_81 : decode cX9_bendsAll 81 = .ok (.iload 7, 2) := by decide +kernel
theorem dX9_bendsAll_83 : decode cX9_bendsAll 83 = .ok (.dup2, 1) := by decide +kernel
theorem dX9_bendsAll_84 : decode cX9_bendsAll 84 = .ok (.iaload, 1) := by decide +kernel
theorem dX9_bendsAll_85 : decode cX9_bendsAll 85 = .ok (.iload_n 2, 1) := by decide +kernel
theorem dX9_bendsAll_86 : decode cX9_bendsAll 86 = .ok (.iadd, 1) := by decide +kernel
theorem dX9_bendsAll_87 : decode cX9_bendsAll 87 = .ok (.iastore, 1) := by decide +kernel
theorem dX9_bendsAll_88 : decode cX9_bendsAll 88 = .ok (.aload_n 0, 1) := by decide +kernel
theorem dX9_bendsAll_89 : decode cX9_bendsAll 89 = .ok (.getfield 19, 3) := by decide +kernel
theorem dX9_bendsAll_92 : decode cX9_bendsAll 92 = .ok (.iload 7, 2) := by decide +kernel
theorem dX9_bendsAll_94 : decode cX9_bendsAll 94 = .ok (.iaload, 1) := by decide +kernel
theorem dX9_bendsAll_95 : decode cX9_bendsAll 95 = .ok (.iload_n 3, 1) := by decide +kernel
theorem dX9_bendsAll_96 : decode cX9_bendsAll 96 = .ok (.if_icmp .le 13, 3) := by decide +kernel
theorem dX9_bendsAll_99 : decode cX9_bendsAll 99 = .ok (.aload_n 0, 1) := by decide +kernel
theorem dX9_bendsAll_100 : decode cX9_bendsAll 100 = .ok (.getfield 19, 3) := by decide +kernel
theorem dX9_bendsAll_103 : decode cX9_bendsAll 103 = .ok (.iload 7, 2) := by decide +kernel
theorem dX9_bendsAll_105 : decode cX9_bendsAll 105 = .ok (.iaload, 1) := by decide +kernel
theorem dX9_bendsAll_106 : decode cX9_bendsAll 106 = .ok (.goto 4, 3) := by decide +kernel
theorem dX9_bendsAll_109 : decode cX9_bendsAll 109 = .ok (.iload_n 3, 1) := by decide +kernel
theorem dX9_bendsAll_110 : decode cX9_bendsAll 110 = .ok (.istore_n 3, 1) := by decide +kernel
theorem dX9_bendsAll_111 : decode cX9_bendsAll 111 = .ok (.iinc 5 1, 3) := by decide +kernel
theorem dX9_bendsAll_114 : decode cX9_bendsAll 114 = .ok (.goto (-97), 3) := by decide +kernel
theorem dX9_bendsAll_117 : decode cX9_bendsAll 117 = .ok (.iinc 4 1, 3) := by decide +kernel
theorem dX9_bendsAll_120 : decode cX9_bendsAll 120 = .ok (.goto (-115), 3) := by decide +kernel
theorem dX9_bendsAll_123 : decode cX9_bendsAll 123 = .ok (.iload_n 3, 1) := by decide +kernel
theorem dX9_bendsAll_124 : decode cX9_bendsAll 124 = .ok (.ireturn, 1) := by decide +kernel
theorem dX9_fold_0 : decode cX9_fold 0 = .ok (.iload_n 1, 1) := by decide +kernel
theorem dX9_fold_1 : decode cX9_fold 1 = .ok (.iconst 0, 1) := by decide +kernel
theorem dX9_fold_2 : decode cX9_fold 2 = .ok (.iconst 1, 1) := by decide +kernel
theorem dX9_fold_3 : decode cX9_fold 3 = .ok (.invokestatic 55, 3) := by decide +kernel
theorem dX9_fold_6 : decode cX9_fold 6 = .ok (.ifCond .eq 31, 3) := by decide +kernel
theorem dX9_fold_9 : decode cX9_fold 9 = .ok (.iload_n 2, 1) := by decide +kernel
theorem dX9_fold_10 : decode cX9_fold 10 = .ok (.iconst 1, 1) := by decide +kernel
theorem dX9_fold_11 : decode cX9_fold 11 = .ok (.iconst 3, 1) := by decide +kernel
theorem dX9_fold_12 : decode cX9_fold 12 = .ok (.invokestatic 55, 3) := by decide +kernel
theorem dX9_fold_15 : decode cX9_fold 15 = .ok (.ifCond .eq 22, 3) := by decide +kernel
theorem dX9_fold_18 : decode cX9_fold 18 = .ok (.iload_n 3, 1) := by decide +kernel
theorem dX9_fold_19 : decode cX9_fold 19 = .ok (.iconst 0, 1) := by decide +kernel
theorem dX9_fold_20 : decode cX9_fold 20 = .ok (.iconst 1, 1) := by decide +kernel
theorem dX9_fold_21 : decode cX9_fold 21 = .ok (.invokestatic 55, 3) := by decide +kernel
theorem dX9_fold_24 : decode cX9_fold 24 = .ok (.ifCond .eq 13, 3) := by decide +kernel
theorem dX9_fold_27 : decode cX9_fold 27 = .ok (.iload 4, 2) := by decide +kernel
theorem dX9_fold_29 : decode cX9_fold 29 = .ok (.iconst 0, 1) := by decide +kernel
theorem dX9_fold_30 : decode cX9_fold 30 = .ok (.iconst 1, 1) := by decide +kernel
theorem dX9_fold_31 : decode cX9_fold 31 = .ok (.invokestatic 55, 3) := by decide +kernel
theorem dX9_fold_34 : decode cX9_fold 34 = .ok (.ifCond .ne 5, 3) := by decide +kernel
theorem dX9_fold_37 : decode cX9_fold 37 = .ok (.iconst (-1), 1) := by decide +kernel
theorem dX9_fold_38 : decode cX9_fold 38 = .ok (.ireturn, 1) := by decide +kernel
theorem dX9_fold_39 : decode cX9_fold 39 = .ok (.iload_n 1, 1) := by decide +kernel
theorem dX9_fold_40 : decode cX9_fold 40 = .ok (.iconst 2, 1) := by decide +kernel
theorem dX9_fold_41 : decode cX9_fold 41 = .ok (.iload_n 3, 1) := by decide +kernel
theorem dX9_fold_42 : decode cX9_fold 42 = .ok (.imul, 1) := by decide +kernel
theorem dX9_fold_43 : decode cX9_fold 43 = .ok (.iadd, 1) := by decide +kernel
theorem dX9_fold_44 : decode cX9_fold 44 = .ok (.iconst 4, 1) := by decide +kernel
theorem dX9_fold_45 : decode cX9_fold 45 = .ok (.iload 4, 2) := by decide +kernel
theorem dX9_fold_47 : decode cX9_fold 47 = .ok (.imul, 1) := by decide +kernel
theorem dX9_fold_48 : decode cX9_fold 48 = .ok (.iadd, 1) := by decide +kernel
theorem dX9_fold_49 : decode cX9_fold 49 = .ok (.bipush 8, 2) := by decide +kernel
theorem dX9_fold_51 : decode cX9_fold 51 = .ok (.iload_n 2, 1) := by decide +kernel
theorem dX9_fold_52 : decode cX9_fold 52 = .ok (.iconst 1, 1) := by decide +kernel
theorem dX9_fold_53 : decode cX9_fold 53 = .ok (.isub, 1) := by decide +kernel
theorem dX9_fold_54 : decode cX9_fold 54 = .ok (.imul, 1) := by decide +kernel
theorem dX9_fold_55 : decode cX9_fold 55 = .ok (.iadd, 1) := by decide +kernel
theorem dX9_fold_56 : decode cX9_fold 56 = .ok (.istore 5, 2) := by decide +kernel
theorem dX9_fold_58 : decode cX9_fold 58 = .ok (.aload_n 0, 1) := by decide +kernel
theorem dX9_fold_59 : decode cX9_fold 59 = .ok (.aload_n 0, 1) := by decide +kernel
theorem dX9_fold_60 : decode cX9_fold 60 = .ok (.getfield 19, 3) := by decide +kernel
theorem dX9_fold_63 : decode cX9_fold 63 = .ok (.iconst 1, 1) := by decide +kernel
theorem dX9_fold_64 : decode cX9_fold 64 = .ok (.iaload, 1) := by decide +kernel
theorem dX9_fold_65 : decode cX9_fold 65 = .ok (.invokevirtual 148, 3) := by decide +kernel
theorem dX9_fold_68 : decode cX9_fold 68 = .ok (.iload_n 2, 1) := by decide +kernel
theorem dX9_fold_69 : decode cX9_fold 69 = .ok (.aload_n 0, 1) := by decide +kernel
theorem dX9_fold_70 : decode cX9_fold 70 = .ok (.getfield 38, 3) := by decide +kernel
theorem dX9_fold_73 : decode cX9_fold 73 = .ok (.iload_n 1, 1) := by decide +kernel
theorem dX9_fold_74 : decode cX9_fold 74 = .ok (.iaload, 1) := by decide +kernel
theorem dX9_fold_75 : decode cX9_fold 75 = .ok (.if_icmp .lt 6, 3) := by decide +kernel
theorem dX9_fold_78 : decode cX9_fold 78 = .ok (.bipush (-2), 2) := by decide +kernel
theorem dX9_fold_80 : decode cX9_fold 80 = .ok (.ireturn, 1) := by decide +kernel
theorem dX9_fold_81 : decode cX9_fold 81 = .ok (.aload_n 0, 1) := by decide +kernel
theorem dX9_fold_82 : decode cX9_fold 82 = .ok (.iload 5, 2) := by decide +kernel
theorem dX9_fold_84 : decode cX9_fold 84 = .ok (.iconst 1, 1) := by decide +kernel
theorem dX9_fold_85 : decode cX9_fold 85 = .ok (.invokevirtual 161, 3) := by decide +kernel
theorem dX9_fold_88 : decode cX9_fold 88 = .ok (.aload_n 0, 1) := by decide +kernel
theorem dX9_fold_89 : decode cX9_fold 89 = .ok (.getfield 13, 3) := by decide +kernel
theorem dX9_fold_92 : decode cX9_fold 92 = .ok (.iconst 2, 1) := by decide +kernel
theorem dX9_fold_93 : decode cX9_fold 93 = .ok (.iaload, 1) := by decide +kernel
theorem dX9_fold_94 : decode cX9_fold 94 = .ok (.if_icmp .le 14, 3) := by decide +kernel
theorem dX9_fold_97 : decode cX9_fold 97 = .ok (.aload_n 0, 1) := by decide +kernel
theorem dX9_fold_98 : decode cX9_fold 98 = .ok (.iload 5, 2) := by decide +kernel
theorem dX9_fold_100 : decode cX9_fold 100 = .ok (.iconst (-1), 1) := by decide +kernel
theorem dX9_fold_101 : decode cX9_fold 101 = .ok (.invokevirtual 161, 3) := by decide +kernel
theorem dX9_fold_104 : decode cX9_fold 104 = .ok (.pop, 1) := by decide +kernel
theorem dX9_fold_105 : decode cX9_fold 105 = .ok (.bipush (-2), 2) := by decide +kernel
theorem dX9_fold_107 : decode cX9_fold 107 = .ok (.ireturn, 1) := by decide +kernel
theorem dX9_fold_108 : decode cX9_fold 108 = .ok (.aload_n 0, 1) := by decide +kernel
theorem dX9_fold_109 : decode cX9_fold 109 = .ok (.getfield 19, 3) := by decide +kernel
theorem dX9_fold_112 : decode cX9_fold 112 = .ok (.iconst 2, 1) := by decide +kernel
theorem dX9_fold_113 : decode cX9_fold 113 = .ok (.aload_n 0, 1) := by decide +kernel
theorem dX9_fold_114 : decode cX9_fold 114 = .ok (.getfield 19, 3) := by decide +kernel
theorem dX9_fold_117 : decode cX9_fold 117 = .ok (.iconst 1, 1) := by decide +kernel
theorem dX9_fold_118 : decode cX9_fold 118 = .ok (.iaload, 1) := by decide +kernel
theorem dX9_fold_119 : decode cX9_fold 119 = .ok (.iadd, 1) := by decide +kernel
theorem dX9_fold_120 : decode cX9_fold 120 = .ok (.iload 5, 2) := by decide +kernel
theorem dX9_fold_122 : decode cX9_fold 122 = .ok (.iastore, 1) := by decide +kernel
theorem dX9_fold_123 : decode cX9_fold 123 = .ok (.aload_n 0, 1) := by decide +kernel
theorem dX9_fold_124 : decode cX9_fold 124 = .ok (.getfield 19, 3) := by decide +kernel
theorem dX9_fold_127 : decode cX9_fold 127 = .ok (.iconst 1, 1) := by decide +kernel
theorem dX9_fold_128 : decode cX9_fold 128 = .ok (.dup2, 1) := by decide +kernel
theorem dX9_fold_129 : decode cX9_fold 129 = .ok (.iaload, 1) := by decide +kernel
theorem dX9_fold_130 : decode cX9_fold 130 = .ok (.iconst 1, 1) := by decide +kernel
theorem dX9_fold_131 : decode cX9_fold 131 = .ok (.iadd, 1) := by decide +kernel
theorem dX9_fold_132 : decode cX9_fold 132 = .ok (.iastore, 1) := by decide +kernel
theorem dX9_fold_133 : decode cX9_fold 133 = .ok (.aload_n 0, 1) := by decide +kernel
theorem dX9_fold_134 : decode cX9_fold 134 = .ok (.aload_n 0, 1) := by decide +kernel
theorem dX9_fold_135 : decode cX9_fold 135 = .ok (.getfield 19, 3) := by decide +kernel
theorem dX9_fold_138 : decode cX9_fold 138 = .ok (.iconst 1, 1) := by decide +kernel
theorem dX9_fold_139 : decode cX9_fold 139 = .ok (.iaload, 1) := by decide +kernel
theorem dX9_fold_140 : decode cX9_fold 140 = .ok (.invokevirtual 148, 3) := by decide +kernel
theorem dX9_fold_143 : decode cX9_fold 143 = .ok (.aload_n 0, 1) := by decide +kernel
theorem dX9_fold_144 : decode cX9_fold 144 = .ok (.invokevirtual 164, 3) := by decide +kernel
theorem dX9_fold_147 : decode cX9_fold 147 = .ok (.ireturn, 1) := by decide +kernel
theorem dX9_undo_0 : decode cX9_undo 0 = .ok (.aload_n 0, 1) := by decide +kernel
theorem dX9_undo_1 : decode cX9_undo 1 = .ok (.getfield 19, 3) := by decide +kernel
theorem dX9_undo_4 : decode cX9_undo 4 = .ok (.iconst 1, 1) := by decide +kernel
theorem dX9_undo_5 : decode cX9_undo 5 = .ok (.iaload, 1) := by decide +kernel
theorem dX9_undo_6 : decode cX9_undo 6 = .ok (.ifCond .ne 6, 3) := by decide +kernel
theorem dX9_undo_9 : decode cX9_undo 9 = .ok (.bipush (-2), 2) := by decide +kernel
theorem dX9_undo_11 : decode cX9_undo 11 = .ok (.ireturn, 1) := by decide +kernel
theorem dX9_undo_12 : decode cX9_undo 12 = .ok (.aload_n 0, 1) := by decide +kernel
theorem dX9_undo_13 : decode cX9_undo 13 = .ok (.getfield 19, 3) := by decide +kernel
theorem dX9_undo_16 : decode cX9_undo 16 = .ok (.iconst 1, 1) := by decide +kernel
theorem dX9_undo_17 : decode cX9_undo 17 = .ok (.dup2, 1) := by decide +kernel
theorem dX9_undo_18 : decode cX9_undo 18 = .ok (.iaload, 1) := by decide +kernel
theorem dX9_undo_19 : decode cX9_undo 19 = .ok (.iconst 1, 1) := by decide +kernel
theorem dX9_undo_20 : decode cX9_undo 20 = .ok (.isub, 1) := by decide +kernel
theorem dX9_undo_21 : decode cX9_undo 21 = .ok (.iastore, 1) := by decide +kernel
theorem dX9_undo_22 : decode cX9_undo 22 = .ok (.aload_n 0, 1) := by decide +kernel
theorem dX9_undo_23 : decode cX9_undo 23 = .ok (.aload_n 0, 1) := by decide +kernel
theorem dX9_undo_24 : decode cX9_undo 24 = .ok (.getfield 19, 3) := by decide +kernel
theorem dX9_undo_27 : decode cX9_undo 27 = .ok (.iconst 1, 1) := by decide +kernel
theorem dX9_undo_28 : decode cX9_undo 28 = .ok (.iaload, 1) := by decide +kernel
theorem dX9_undo_29 : decode cX9_undo 29 = .ok (.invokevirtual 148, 3) := by decide +kernel
theorem dX9_undo_32 : decode cX9_undo 32 = .ok (.aload_n 0, 1) := by decide +kernel
theorem dX9_undo_33 : decode cX9_undo 33 = .ok (.aload_n 0, 1) := by decide +kernel
theorem dX9_undo_34 : decode cX9_undo 34 = .ok (.getfield 19, 3) := by decide +kernel
theorem dX9_undo_37 : decode cX9_undo 37 = .ok (.iconst 2, 1) := by decide +kernel
theorem dX9_undo_38 : decode cX9_undo 38 = .ok (.aload_n 0, 1) := by decide +kernel
theorem dX9_undo_39 : decode cX9_undo 39 = .ok (.getfield 19, 3) := by decide +kernel
theorem dX9_undo_42 : decode cX9_undo 42 = .ok (.iconst 1, 1) := by decide +kernel
theorem dX9_undo_43 : decode cX9_undo 43 = .ok (.iaload, 1) := by decide +kernel
theorem dX9_undo_44 : decode cX9_undo 44 = .ok (.iadd, 1) := by decide +kernel
theorem dX9_undo_45 : decode cX9_undo 45 = .ok (.iaload, 1) := by decide +kernel
theorem dX9_undo_46 : decode cX9_undo 46 = .ok (.iconst (-1), 1) := by decide +kernel
theorem dX9_undo_47 : decode cX9_undo 47 = .ok (.invokevirtual 161, 3) := by decide +kernel
theorem dX9_undo_50 : decode cX9_undo 50 = .ok (.pop, 1) := by decide +kernel
theorem dX9_undo_51 : decode cX9_undo 51 = .ok (.aload_n 0, 1) := by decide +kernel
theorem dX9_undo_52 : decode cX9_undo 52 = .ok (.getfield 19, 3) := by decide +kernel
theorem dX9_undo_55 : decode cX9_undo 55 = .ok (.iconst 1, 1) := by decide +kernel
theorem dX9_undo_56 : decode cX9_undo 56 = .ok (.iaload, 1) := by decide +kernel
theorem dX9_undo_57 : decode cX9_undo 57 = .ok (.ireturn, 1) := by decide +kernel
theorem dX9_day_0 : decode cX9_day 0 = .ok (.aload_n 0, 1) := by decide +kernel
theorem dX9_day_1 : decode cX9_day 1 = .ok (.getfield 19, 3) := by decide +kernel
theorem dX9_day_4 : decode cX9_day 4 = .ok (.iconst 1, 1) := by decide +kernel
theorem dX9_day_5 : decode cX9_day 5 = .ok (.iconst 0, 1) := by decide +kernel
theorem dX9_day_6 : decode cX9_day 6 = .ok (.iastore, 1) := by decide +kernel
theorem dX9_day_7 : decode cX9_day 7 = .ok (.aload_n 0, 1) := by decide +kernel
theorem dX9_day_8 : decode cX9_day 8 = .ok (.getfield 19, 3) := by decide +kernel
theorem dX9_day_11 : decode cX9_day 11 = .ok (.iconst 0, 1) := by decide +kernel
theorem dX9_day_12 : decode cX9_day 12 = .ok (.dup2, 1) := by decide +kernel
theorem dX9_day_13 : decode cX9_day 13 = .ok (.iaload, 1) := by decide +kernel
theorem dX9_day_14 : decode cX9_day 14 = .ok (.iconst 1, 1) := by decide +kernel
theorem dX9_day_15 : decode cX9_day 15 = .ok (.iadd, 1) := by decide +kernel
theorem dX9_day_16 : decode cX9_day 16 = .ok (.iastore, 1) := by decide +kernel
theorem dX9_day_17 : decode cX9_day 17 = .ok (.aload_n 0, 1) := by decide +kernel
theorem dX9_day_18 : decode cX9_day 18 = .ok (.getfield 19, 3) := by decide +kernel
theorem dX9_day_21 : decode cX9_day 21 = .ok (.iconst 0, 1) := by decide +kernel
theorem dX9_day_22 : decode cX9_day 22 = .ok (.iaload, 1) := by decide +kernel
theorem dX9_day_23 : decode cX9_day 23 = .ok (.ireturn, 1) := by decide +kernel
