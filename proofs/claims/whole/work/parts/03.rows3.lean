theorem dX9_bent_0 : decode cX9_bent 0 = .ok (.aload_n 0, 1) := by decide +kernel
theorem dX9_bent_1 : decode cX9_bent 1 = .ok (.iload_n 1, 1) := by decide +kernel
theorem dX9_bent_2 : decode cX9_bent 2 = .ok (.iload_n 2, 1) := by decide +kernel
theorem dX9_bent_3 : decode cX9_bent 3 = .ok (.invokevirtual 167, 3) := by decide +kernel
theorem dX9_bent_6 : decode cX9_bent 6 = .ok (.ifCond .ne 5, 3) := by decide +kernel
theorem dX9_bent_9 : decode cX9_bent 9 = .ok (.iconst (-1), 1) := by decide +kernel
theorem dX9_bent_10 : decode cX9_bent 10 = .ok (.ireturn, 1) := by decide +kernel
theorem dX9_bent_11 : decode cX9_bent 11 = .ok (.iload_n 1, 1) := by decide +kernel
theorem dX9_bent_12 : decode cX9_bent 12 = .ok (.iload_n 2, 1) := by decide +kernel
theorem dX9_bent_13 : decode cX9_bent 13 = .ok (.if_icmp .ge 7, 3) := by decide +kernel
theorem dX9_bent_16 : decode cX9_bent 16 = .ok (.iload_n 1, 1) := by decide +kernel
theorem dX9_bent_17 : decode cX9_bent 17 = .ok (.goto 4, 3) := by decide +kernel
theorem dX9_bent_20 : decode cX9_bent 20 = .ok (.iload_n 2, 1) := by decide +kernel
theorem dX9_bent_21 : decode cX9_bent 21 = .ok (.istore_n 3, 1) := by decide +kernel
theorem dX9_bent_22 : decode cX9_bent 22 = .ok (.iload_n 1, 1) := by decide +kernel
theorem dX9_bent_23 : decode cX9_bent 23 = .ok (.iload_n 2, 1) := by decide +kernel
theorem dX9_bent_24 : decode cX9_bent 24 = .ok (.if_icmp .ge 7, 3) := by decide +kernel
theorem dX9_bent_27 : decode cX9_bent 27 = .ok (.iload_n 2, 1) := by decide +kernel
theorem dX9_bent_28 : decode cX9_bent 28 = .ok (.goto 4, 3) := by decide +kernel
theorem dX9_bent_31 : decode cX9_bent 31 = .ok (.iload_n 1, 1) := by decide +kernel
theorem dX9_bent_32 : decode cX9_bent 32 = .ok (.istore 4, 2) := by decide +kernel
theorem dX9_bent_34 : decode cX9_bent 34 = .ok (.aload_n 0, 1) := by decide +kernel
theorem dX9_bent_35 : decode cX9_bent 35 = .ok (.iload_n 3, 1) := by decide +kernel
theorem dX9_bent_36 : decode cX9_bent 36 = .ok (.iconst 0, 1) := by decide +kernel
theorem dX9_bent_37 : decode cX9_bent 37 = .ok (.invokevirtual 154, 3) := by decide +kernel
theorem dX9_bent_40 : decode cX9_bent 40 = .ok (.iload 4, 2) := by decide +kernel
theorem dX9_bent_42 : decode cX9_bent 42 = .ok (.if_icmp .ne 15, 3) := by decide +kernel
theorem dX9_bent_45 : decode cX9_bent 45 = .ok (.aload_n 0, 1) := by decide +kernel
theorem dX9_bent_46 : decode cX9_bent 46 = .ok (.getfield 19, 3) := by decide +kernel
theorem dX9_bent_49 : decode cX9_bent 49 = .ok (.bipush 8, 2) := by decide +kernel
theorem dX9_bent_51 : decode cX9_bent 51 = .ok (.iload_n 3, 1) := by decide +kernel
theorem dX9_bent_52 : decode cX9_bent 52 = .ok (.iadd, 1) := by decide +kernel
theorem dX9_bent_53 : decode cX9_bent 53 = .ok (.iaload, 1) := by decide +kernel
theorem dX9_bent_54 : decode cX9_bent 54 = .ok (.goto 27, 3) := by decide +kernel
theorem dX9_bent_57 : decode cX9_bent 57 = .ok (.aload_n 0, 1) := by decide +kernel
theorem dX9_bent_58 : decode cX9_bent 58 = .ok (.iload_n 3, 1) := by decide +kernel
theorem dX9_bent_59 : decode cX9_bent 59 = .ok (.iconst 1, 1) := by decide +kernel
theorem dX9_bent_60 : decode cX9_bent 60 = .ok (.invokevirtual 154, 3) := by decide +kernel
theorem dX9_bent_63 : decode cX9_bent 63 = .ok (.iload 4, 2) := by decide +kernel
theorem dX9_bent_65 : decode cX9_bent 65 = .ok (.if_icmp .ne 15, 3) := by decide +kernel
theorem dX9_bent_68 : decode cX9_bent 68 = .ok (.aload_n 0, 1) := by decide +kernel
theorem dX9_bent_69 : decode cX9_bent 69 = .ok (.getfield 19, 3) := by decide +kernel
theorem dX9_bent_72 : decode cX9_bent 72 = .ok (.bipush 24, 2) := by decide +kernel
theorem dX9_bent_74 : decode cX9_bent 74 = .ok (.iload_n 3, 1) := by decide +kernel
theorem dX9_bent_75 : decode cX9_bent 75 = .ok (.iadd, 1) := by decide +kernel
theorem dX9_bent_76 : decode cX9_bent 76 = .ok (.iaload, 1) := by decide +kernel
theorem dX9_bent_77 : decode cX9_bent 77 = .ok (.goto 4, 3) := by decide +kernel
theorem dX9_bent_80 : decode cX9_bent 80 = .ok (.iconst (-1), 1) := by decide +kernel
theorem dX9_bent_81 : decode cX9_bent 81 = .ok (.ireturn, 1) := by decide +kernel
theorem dX9_touch_0 : decode cX9_touch 0 = .ok (.aload_n 0, 1) := by decide +kernel
theorem dX9_touch_1 : decode cX9_touch 1 = .ok (.iload_n 1, 1) := by decide +kernel
theorem dX9_touch_2 : decode cX9_touch 2 = .ok (.iload_n 2, 1) := by decide +kernel
theorem dX9_touch_3 : decode cX9_touch 3 = .ok (.invokevirtual 167, 3) := by decide +kernel
theorem dX9_touch_6 : decode cX9_touch 6 = .ok (.ifCond .ne 5, 3) := by decide +kernel
theorem dX9_touch_9 : decode cX9_touch 9 = .ok (.iconst (-1), 1) := by decide +kernel
theorem dX9_touch_10 : decode cX9_touch 10 = .ok (.ireturn, 1) := by decide +kernel
theorem dX9_touch_11 : decode cX9_touch 11 = .ok (.aload_n 0, 1) := by decide +kernel
theorem dX9_touch_12 : decode cX9_touch 12 = .ok (.aload_n 0, 1) := by decide +kernel
theorem dX9_touch_13 : decode cX9_touch 13 = .ok (.getfield 19, 3) := by decide +kernel
theorem dX9_touch_16 : decode cX9_touch 16 = .ok (.iconst 1, 1) := by decide +kernel
theorem dX9_touch_17 : decode cX9_touch 17 = .ok (.iaload, 1) := by decide +kernel
theorem dX9_touch_18 : decode cX9_touch 18 = .ok (.invokevirtual 148, 3) := by decide +kernel
theorem dX9_touch_21 : decode cX9_touch 21 = .ok (.aload_n 0, 1) := by decide +kernel
theorem dX9_touch_22 : decode cX9_touch 22 = .ok (.iconst 0, 1) := by decide +kernel
theorem dX9_touch_23 : decode cX9_touch 23 = .ok (.iload_n 1, 1) := by decide +kernel
theorem dX9_touch_24 : decode cX9_touch 24 = .ok (.iload_n 2, 1) := by decide +kernel
theorem dX9_touch_25 : decode cX9_touch 25 = .ok (.invokevirtual 144, 3) := by decide +kernel
theorem dX9_touch_28 : decode cX9_touch 28 = .ok (.ireturn, 1) := by decide +kernel
theorem dX9_packet_0 : decode cX9_packet 0 = .ok (.iload_n 1, 1) := by decide +kernel
theorem dX9_packet_1 : decode cX9_packet 1 = .ok (.iconst 0, 1) := by decide +kernel
theorem dX9_packet_2 : decode cX9_packet 2 = .ok (.iconst 4, 1) := by decide +kernel
theorem dX9_packet_3 : decode cX9_packet 3 = .ok (.invokestatic 55, 3) := by decide +kernel
theorem dX9_packet_6 : decode cX9_packet 6 = .ok (.ifCond .ne 5, 3) := by decide +kernel
theorem dX9_packet_9 : decode cX9_packet 9 = .ok (.iconst (-1), 1) := by decide +kernel
theorem dX9_packet_10 : decode cX9_packet 10 = .ok (.ireturn, 1) := by decide +kernel
theorem dX9_packet_11 : decode cX9_packet 11 = .ok (.aload_n 0, 1) := by decide +kernel
theorem dX9_packet_12 : decode cX9_packet 12 = .ok (.aload_n 0, 1) := by decide +kernel
theorem dX9_packet_13 : decode cX9_packet 13 = .ok (.getfield 19, 3) := by decide +kernel
theorem dX9_packet_16 : decode cX9_packet 16 = .ok (.iconst 1, 1) := by decide +kernel
theorem dX9_packet_17 : decode cX9_packet 17 = .ok (.iaload, 1) := by decide +kernel
theorem dX9_packet_18 : decode cX9_packet 18 = .ok (.invokevirtual 148, 3) := by decide +kernel
theorem dX9_packet_21 : decode cX9_packet 21 = .ok (.iconst 0, 1) := by decide +kernel
theorem dX9_packet_22 : decode cX9_packet 22 = .ok (.istore_n 2, 1) := by decide +kernel
theorem dX9_packet_23 : decode cX9_packet 23 = .ok (.iconst 0, 1) := by decide +kernel
theorem dX9_packet_24 : decode cX9_packet 24 = .ok (.istore_n 3, 1) := by decide +kernel
theorem dX9_packet_25 : decode cX9_packet 25 = .ok (.iload_n 3, 1) := by decide +kernel
theorem dX9_packet_26 : decode cX9_packet 26 = .ok (.aload_n 0, 1) := by decide +kernel
theorem dX9_packet_27 : decode cX9_packet 27 = .ok (.getfield 13, 3) := by decide +kernel
theorem dX9_packet_30 : decode cX9_packet 30 = .ok (.iconst 3, 1) := by decide +kernel
theorem dX9_packet_31 : decode cX9_packet 31 = .ok (.iaload, 1) := by decide +kernel
theorem dX9_packet_32 : decode cX9_packet 32 = .ok (.if_icmp .ge 44, 3) := by decide +kernel
theorem dX9_packet_35 : decode cX9_packet 35 = .ok (.iload_n 2, 1) := by decide +kernel
theorem dX9_packet_36 : decode cX9_packet 36 = .ok (.aload_n 0, 1) := by decide +kernel
theorem dX9_packet_37 : decode cX9_packet 37 = .ok (.iconst 0, 1) := by decide +kernel
theorem dX9_packet_38 : decode cX9_packet 38 = .ok (.aload_n 0, 1) := by decide +kernel
theorem dX9_packet_39 : decode cX9_packet 39 = .ok (.getfield 13, 3) := by decide +kernel
theorem dX9_packet_42 : decode cX9_packet 42 = .ok (.bipush 22, 2) := by decide +kernel
theorem dX9_packet_44 : decode cX9_packet 44 = .ok (.iload_n 3, 1) := by decide +kernel
theorem dX9_packet_45 : decode cX9_packet 45 = .ok (.iadd, 1) := by decide +kernel
theorem dX9_packet_46 : decode cX9_packet 46 = .ok (.iaload, 1) := by decide +kernel
theorem dX9_packet_47 : decode cX9_packet 47 = .ok (.aload_n 0, 1) := by decide +kernel
theorem dX9_packet_48 : decode cX9_packet 48 = .ok (.getfield 13, 3) := by decide +kernel
theorem dX9_packet_51 : decode cX9_packet 51 = .ok (.bipush 28, 2) := by decide +kernel
theorem dX9_packet_53 : decode cX9_packet 53 = .ok (.iload_n 3, 1) := by decide +kernel
theorem dX9_packet_54 : decode cX9_packet 54 = .ok (.iadd, 1) := by decide +kernel
theorem dX9_packet_55 : decode cX9_packet 55 = .ok (.iaload, 1) := by decide +kernel
theorem dX9_packet_56 : decode cX9_packet 56 = .ok (.invokevirtual 144, 3) := by decide +kernel
theorem dX9_packet_59 : decode cX9_packet 59 = .ok (.iconst 1, 1) := by decide +kernel
theorem dX9_packet_60 : decode cX9_packet 60 = .ok (.if_icmp .ne 7, 3) := by decide +kernel
theorem dX9_packet_63 : decode cX9_packet 63 = .ok (.iconst 1, 1) := by decide +kernel
theorem dX9_packet_64 : decode cX9_packet 64 = .ok (.goto 4, 3) := by decide +kernel
theorem dX9_packet_67 : decode cX9_packet 67 = .ok (.iconst 0, 1) := by decide +kernel
theorem dX9_packet_68 : decode cX9_packet 68 = .ok (.iadd, 1) := by decide +kernel
theorem dX9_packet_69 : decode cX9_packet 69 = .ok (.istore_n 2, 1) := by decide +kernel
theorem dX9_packet_70 : decode cX9_packet 70 = .ok (.iinc 3 1, 3) := by decide +kernel
theorem dX9_packet_73 : decode cX9_packet 73 = .ok (.goto (-48), 3) := by decide +kernel
theorem dX9_packet_76 : decode cX9_packet 76 = .ok (.iconst 0, 1) := by decide +kernel
theorem dX9_packet_77 : decode cX9_packet 77 = .ok (.istore_n 3, 1) := by decide +kernel
theorem dX9_packet_78 : decode cX9_packet 78 = .ok (.iconst 0, 1) := by decide +kernel
theorem dX9_packet_79 : decode cX9_packet 79 = .ok (.istore 4, 2) := by decide +kernel
theorem dX9_packet_81 : decode cX9_packet 81 = .ok (.iload 4, 2) := by decide +kernel
theorem dX9_packet_83 : decode cX9_packet 83 = .ok (.aload_n 0, 1) := by decide +kernel
theorem dX9_packet_84 : decode cX9_packet 84 = .ok (.invokevirtual 51, 3) := by decide +kernel
theorem dX9_packet_87 : decode cX9_packet 87 = .ok (.if_icmp .ge 46, 3) := by decide +kernel
theorem dX9_packet_90 : decode cX9_packet 90 = .ok (.iconst 0, 1) := by decide +kernel
theorem dX9_packet_91 : decode cX9_packet 91 = .ok (.istore 5, 2) := by decide +kernel
theorem dX9_packet_93 : decode cX9_packet 93 = .ok (.iload 5, 2) := by decide +kernel
theorem dX9_packet_95 : decode cX9_packet 95 = .ok (.iload 4, 2) := by decide +kernel
theorem dX9_packet_97 : decode cX9_packet 97 = .ok (.if_icmp .ge 30, 3) := by decide +kernel
theorem dX9_packet_100 : decode cX9_packet 100 = .ok (.iload_n 3, 1) := by decide +kernel
theorem dX9_packet_101 : decode cX9_packet 101 = .ok (.aload_n 0, 1) := by decide +kernel
theorem dX9_packet_102 : decode cX9_packet 102 = .ok (.iconst 0, 1) := by decide +kernel
theorem dX9_packet_103 : decode cX9_packet 103 = .ok (.iload 4, 2) := by decide +kernel
theorem dX9_packet_105 : decode cX9_packet 105 = .ok (.iload 5, 2) := by decide +kernel
theorem dX9_packet_107 : decode cX9_packet 107 = .ok (.invokevirtual 144, 3) := by decide +kernel
theorem dX9_packet_110 : decode cX9_packet 110 = .ok (.iconst 1, 1) := by decide +kernel
theorem dX9_packet_111 : decode cX9_packet 111 = .ok (.if_icmp .ne 7, 3) := by decide +kernel
theorem dX9_packet_114 : decode cX9_packet 114 = .ok (.iconst 1, 1) := by decide +kernel
theorem dX9_packet_115 : decode cX9_packet 115 = .ok (.goto 4, 3) := by decide +kernel
theorem dX9_packet_118 : decode cX9_packet 118 = .ok (.iconst 0, 1) := by decide +kernel
theorem dX9_packet_119 : decode cX9_packet 119 = .ok (.iadd, 1) := by decide +kernel
theorem dX9_packet_120 : decode cX9_packet 120 = .ok (.istore_n 3, 1) := by decide +kernel
theorem dX9_packet_121 : decode cX9_packet 121 = .ok (.iinc 5 1, 3) := by decide +kernel
theorem dX9_packet_124 : decode cX9_packet 124 = .ok (.goto (-31), 3) := by decide +kernel
theorem dX9_packet_127 : decode cX9_packet 127 = .ok (.iinc 4 1, 3) := by decide +kernel
theorem dX9_packet_130 : decode cX9_packet 130 = .ok (.goto (-49), 3) := by decide +kernel
theorem dX9_packet_133 : decode cX9_packet 133 = .ok (.iload_n 1, 1) := by decide +kernel
theorem dX9_packet_134 : decode cX9_packet 134 = .ok (.iconst 2, 1) := by decide +kernel
theorem dX9_packet_135 : decode cX9_packet 135 = .ok (.if_icmp .ge 12, 3) := by decide +kernel
theorem dX9_packet_138 : decode cX9_packet 138 = .ok (.aload_n 0, 1) := by decide +kernel
theorem dX9_packet_139 : decode cX9_packet 139 = .ok (.getfield 38, 3) := by decide +kernel
theorem dX9_packet_142 : decode cX9_packet 142 = .ok (.iload_n 1, 1) := by decide +kernel
theorem dX9_packet_143 : decode cX9_packet 143 = .ok (.iaload, 1) := by decide +kernel
theorem dX9_packet_144 : decode cX9_packet 144 = .ok (.goto 25, 3) := by decide +kernel
theorem dX9_packet_147 : decode cX9_packet 147 = .ok (.iload_n 1, 1) := by decide +kernel
theorem dX9_packet_148 : decode cX9_packet 148 = .ok (.iconst 2, 1) := by decide +kernel
theorem dX9_packet_149 : decode cX9_packet 149 = .ok (.if_icmp .ne 10, 3) := by decide +kernel
theorem dX9_packet_152 : decode cX9_packet 152 = .ok (.aload_n 0, 1) := by decide +kernel
theorem dX9_packet_153 : decode cX9_packet 153 = .ok (.invokevirtual 164, 3) := by decide +kernel
theorem dX9_packet_156 : decode cX9_packet 156 = .ok (.goto 13, 3) := by decide +kernel
theorem dX9_packet_159 : decode cX9_packet 159 = .ok (.iload_n 1, 1) := by decide +kernel
theorem dX9_packet_160 : decode cX9_packet 160 = .ok (.iconst 3, 1) := by decide +kernel
theorem dX9_packet_161 : decode cX9_packet 161 = .ok (.if_icmp .ne 7, 3) := by decide +kernel
theorem dX9_packet_164 : decode cX9_packet 164 = .ok (.iload_n 2, 1) := by decide +kernel
theorem dX9_packet_165 : decode cX9_packet 165 = .ok (.goto 4, 3) := by decide +kernel
theorem dX9_packet_168 : decode cX9_packet 168 = .ok (.iload_n 3, 1) := by decide +kernel
theorem dX9_packet_169 : decode cX9_packet 169 = .ok (.ireturn, 1) := by decide +kernel
theorem dX9_reaches_0 : decode cX9_reaches 0 = .ok (.iload_n 3, 1) := by decide +kernel
theorem dX9_reaches_1 : decode cX9_reaches 1 = .ok (.ifCond .ne 21, 3) := by decide +kernel
theorem dX9_reaches_4 : decode cX9_reaches 4 = .ok (.aload_n 0, 1) := by decide +kernel
theorem dX9_reaches_5 : decode cX9_reaches 5 = .ok (.iconst 0, 1) := by decide +kernel
theorem dX9_reaches_6 : decode cX9_reaches 6 = .ok (.iload_n 1, 1) := by decide +kernel
theorem dX9_reaches_7 : decode cX9_reaches 7 = .ok (.iload_n 2, 1) := by decide +kernel
theorem dX9_reaches_8 : decode cX9_reaches 8 = .ok (.invokevirtual 144, 3) := by decide +kernel
theorem dX9_reaches_11 : decode cX9_reaches 11 = .ok (.iconst 1, 1) := by decide +kernel
theorem dX9_reaches_12 : decode cX9_reaches 12 = .ok (.if_icmp .ne 7, 3) := by decide +kernel
theorem dX9_reaches_15 : decode cX9_reaches 15 = .ok (.iconst 0, 1) := by decide +kernel
theorem dX9_reaches_16 : decode cX9_reaches 16 = .ok (.goto 5, 3) := by decide +kernel
theorem dX9_reaches_19 : decode cX9_reaches 19 = .ok (.bipush (-9), 2) := by decide +kernel
theorem dX9_reaches_21 : decode cX9_reaches 21 = .ok (.ireturn, 1) := by decide +kernel
theorem dX9_reaches_22 : decode cX9_reaches 22 = .ok (.iconst 0, 1) := by decide +kernel
theorem dX9_reaches_23 : decode cX9_reaches 23 = .ok (.istore 4, 2) := by decide +kernel
theorem dX9_reaches_25 : decode cX9_reaches 25 = .ok (.iload 4, 2) := by decide +kernel
theorem dX9_reaches_27 : decode cX9_reaches 27 = .ok (.bipush 24, 2) := by decide +kernel
theorem dX9_reaches_29 : decode cX9_reaches 29 = .ok (.if_icmp .ge 45, 3) := by decide +kernel
theorem dX9_reaches_32 : decode cX9_reaches 32 = .ok (.aload_n 0, 1) := by decide +kernel
theorem dX9_reaches_33 : decode cX9_reaches 33 = .ok (.iconst 0, 1) := by decide +kernel
theorem dX9_reaches_34 : decode cX9_reaches 34 = .ok (.iload 4, 2) := by decide +kernel
theorem dX9_reaches_36 : decode cX9_reaches 36 = .ok (.invokevirtual 136, 3) := by decide +kernel
theorem dX9_reaches_39 : decode cX9_reaches 39 = .ok (.ifCond .eq 15, 3) := by decide +kernel
theorem dX9_reaches_42 : decode cX9_reaches 42 = .ok (.aload_n 0, 1) := by decide +kernel
theorem dX9_reaches_43 : decode cX9_reaches 43 = .ok (.iload_n 1, 1) := by decide +kernel
theorem dX9_reaches_44 : decode cX9_reaches 44 = .ok (.iload_n 2, 1) := by decide +kernel
theorem dX9_reaches_45 : decode cX9_reaches 45 = .ok (.iload_n 3, 1) := by decide +kernel
theorem dX9_reaches_46 : decode cX9_reaches 46 = .ok (.iload 4, 2) := by decide +kernel
theorem dX9_reaches_48 : decode cX9_reaches 48 = .ok (.invokevirtual 170, 3) := by decide +kernel
theorem dX9_reaches_51 : decode cX9_reaches 51 = .ok (.goto 5, 3) := by decide +kernel
theorem dX9_reaches_54 : decode cX9_reaches 54 = .ok (.bipush (-9), 2) := by decide +kernel
theorem dX9_reaches_56 : decode cX9_reaches 56 = .ok (.istore 5, 2) := by decide +kernel
theorem dX9_reaches_58 : decode cX9_reaches 58 = .ok (.iload 5, 2) := by decide +kernel
theorem dX9_reaches_60 : decode cX9_reaches 60 = .ok (.bipush (-9), 2) := by decide +kernel
theorem dX9_reaches_62 : decode cX9_reaches 62 = .ok (.if_icmp .eq 6, 3) := by decide +kernel
theorem dX9_reaches_65 : decode cX9_reaches 65 = .ok (.iload 5, 2) := by decide +kernel
theorem dX9_reaches_67 : decode cX9_reaches 67 = .ok (.ireturn, 1) := by decide +kernel
theorem dX9_reaches_68 : decode cX9_reaches 68 = .ok (.iinc 4 1, 3) := by decide +kernel
theorem dX9_reaches_71 : decode cX9_reaches 71 = .ok (.goto (-46), 3) := by decide +kernel
theorem dX9_reaches_74 : decode cX9_reaches 74 = .ok (.bipush (-9), 2) := by decide +kernel
theorem dX9_reaches_76 : decode cX9_reaches 76 = .ok (.ireturn, 1) := by decide +kernel
theorem dX9_reachesOn_0 : decode cX9_reachesOn 0 = .ok (.iload_n 3, 1) := by decide +kernel
theorem dX9_reachesOn_1 : decode cX9_reachesOn 1 = .ok (.iconst 1, 1) := by decide +kernel
theorem dX9_reachesOn_2 : decode cX9_reachesOn 2 = .ok (.if_icmp .ne 22, 3) := by decide +kernel
theorem dX9_reachesOn_5 : decode cX9_reachesOn 5 = .ok (.aload_n 0, 1) := by decide +kernel
theorem dX9_reachesOn_6 : decode cX9_reachesOn 6 = .ok (.iconst 1, 1) := by decide +kernel
theorem dX9_reachesOn_7 : decode cX9_reachesOn 7 = .ok (.iload_n 1, 1) := by decide +kernel
theorem dX9_reachesOn_8 : decode cX9_reachesOn 8 = .ok (.iload_n 2, 1) := by decide +kernel
theorem dX9_reachesOn_9 : decode cX9_reachesOn 9 = .ok (.invokevirtual 144, 3) := by decide +kernel
theorem dX9_reachesOn_12 : decode cX9_reachesOn 12 = .ok (.iconst 1, 1) := by decide +kernel
theorem dX9_reachesOn_13 : decode cX9_reachesOn 13 = .ok (.if_icmp .ne 8, 3) := by decide +kernel
theorem dX9_reachesOn_16 : decode cX9_reachesOn 16 = .ok (.iload 4, 2) := by decide +kernel
theorem dX9_reachesOn_18 : decode cX9_reachesOn 18 = .ok (.goto 5, 3) := by decide +kernel
theorem dX9_reachesOn_21 : decode cX9_reachesOn 21 = .ok (.bipush (-9), 2) := by decide +kernel
theorem dX9_reachesOn_23 : decode cX9_reachesOn 23 = .ok (.ireturn, 1) := by decide +kernel
theorem dX9_reachesOn_24 : decode cX9_reachesOn 24 = .ok (.iconst 0, 1) := by decide +kernel
theorem dX9_reachesOn_25 : decode cX9_reachesOn 25 = .ok (.istore 5, 2) := by decide +kernel
theorem dX9_reachesOn_27 : decode cX9_reachesOn 27 = .ok (.iload 5, 2) := by decide +kernel
theorem dX9_reachesOn_29 : decode cX9_reachesOn 29 = .ok (.bipush 24, 2) := by decide +kernel
theorem dX9_reachesOn_31 : decode cX9_reachesOn 31 = .ok (.if_icmp .ge 110, 3) := by decide +kernel
theorem dX9_reachesOn_34 : decode cX9_reachesOn 34 = .ok (.aload_n 0, 1) := by decide +kernel
theorem dX9_reachesOn_35 : decode cX9_reachesOn 35 = .ok (.iconst 1, 1) := by decide +kernel
theorem dX9_reachesOn_36 : decode cX9_reachesOn 36 = .ok (.iload 5, 2) := by decide +kernel
theorem dX9_reachesOn_38 : decode cX9_reachesOn 38 = .ok (.invokevirtual 136, 3) := by decide +kernel
theorem dX9_reachesOn_41 : decode cX9_reachesOn 41 = .ok (.istore 6, 2) := by decide +kernel
theorem dX9_reachesOn_43 : decode cX9_reachesOn 43 = .ok (.iload 6, 2) := by decide +kernel
theorem dX9_reachesOn_45 : decode cX9_reachesOn 45 = .ok (.ifCond .eq 28, 3) := by decide +kernel
theorem dX9_reachesOn_48 : decode cX9_reachesOn 48 = .ok (.iload_n 3, 1) := by decide +kernel
theorem dX9_reachesOn_49 : decode cX9_reachesOn 49 = .ok (.iconst 2, 1) := by decide +kernel
theorem dX9_reachesOn_50 : decode cX9_reachesOn 50 = .ok (.if_icmp .ne 23, 3) := by decide +kernel
theorem dX9_reachesOn_53 : decode cX9_reachesOn 53 = .ok (.aload_n 0, 1) := by decide +kernel
theorem dX9_reachesOn_54 : decode cX9_reachesOn 54 = .ok (.iconst 2, 1) := by decide +kernel
theorem dX9_reachesOn_55 : decode cX9_reachesOn 55 = .ok (.iload_n 1, 1) := by decide +kernel
theorem dX9_reachesOn_56 : decode cX9_reachesOn 56 = .ok (.iload_n 2, 1) := by decide +kernel
theorem dX9_reachesOn_57 : decode cX9_reachesOn 57 = .ok (.invokevirtual 144, 3) := by decide +kernel
theorem dX9_reachesOn_60 : decode cX9_reachesOn 60 = .ok (.iconst 1, 1) := by decide +kernel
theorem dX9_reachesOn_61 : decode cX9_reachesOn 61 = .ok (.if_icmp .ne 12, 3) := by decide +kernel
theorem dX9_reachesOn_64 : decode cX9_reachesOn 64 = .ok (.bipush 32, 2) := by decide +kernel
theorem dX9_reachesOn_66 : decode cX9_reachesOn 66 = .ok (.iload 4, 2) := by decide +kernel
theorem dX9_reachesOn_68 : decode cX9_reachesOn 68 = .ok (.imul, 1) := by decide +kernel
theorem dX9_reachesOn_69 : decode cX9_reachesOn 69 = .ok (.iload 5, 2) := by decide +kernel
theorem dX9_reachesOn_71 : decode cX9_reachesOn 71 = .ok (.iadd, 1) := by decide +kernel
theorem dX9_reachesOn_72 : decode cX9_reachesOn 72 = .ok (.ireturn, 1) := by decide +kernel
theorem dX9_reachesOn_73 : decode cX9_reachesOn 73 = .ok (.iconst 0, 1) := by decide +kernel
theorem dX9_reachesOn_74 : decode cX9_reachesOn 74 = .ok (.istore 7, 2) := by decide +kernel
theorem dX9_reachesOn_76 : decode cX9_reachesOn 76 = .ok (.iload 7, 2) := by decide +kernel
theorem dX9_reachesOn_78 : decode cX9_reachesOn 78 = .ok (.bipush 24, 2) := by decide +kernel
theorem dX9_reachesOn_80 : decode cX9_reachesOn 80 = .ok (.if_icmp .ge 55, 3) := by decide +kernel
theorem dX9_reachesOn_83 : decode cX9_reachesOn 83 = .ok (.iload 6, 2) := by decide +kernel
theorem dX9_reachesOn_85 : decode cX9_reachesOn 85 = .ok (.ifCond .eq 50, 3) := by decide +kernel
theorem dX9_reachesOn_88 : decode cX9_reachesOn 88 = .ok (.iload_n 3, 1) := by decide +kernel
theorem dX9_reachesOn_89 : decode cX9_reachesOn 89 = .ok (.iconst 3, 1) := by decide +kernel
theorem dX9_reachesOn_90 : decode cX9_reachesOn 90 = .ok (.if_icmp .ne 45, 3) := by decide +kernel
theorem dX9_reachesOn_93 : decode cX9_reachesOn 93 = .ok (.aload_n 0, 1) := by decide +kernel
theorem dX9_reachesOn_94 : decode cX9_reachesOn 94 = .ok (.iconst 2, 1) := by decide +kernel
theorem dX9_reachesOn_95 : decode cX9_reachesOn 95 = .ok (.iload 7, 2) := by decide +kernel
theorem dX9_reachesOn_97 : decode cX9_reachesOn 97 = .ok (.invokevirtual 136, 3) := by decide +kernel
theorem dX9_reachesOn_100 : decode cX9_reachesOn 100 = .ok (.ifCond .eq 29, 3) := by decide +kernel
theorem dX9_reachesOn_103 : decode cX9_reachesOn 103 = .ok (.aload_n 0, 1) := by decide +kernel
theorem dX9_reachesOn_104 : decode cX9_reachesOn 104 = .ok (.iconst 3, 1) := by decide +kernel
theorem dX9_reachesOn_105 : decode cX9_reachesOn 105 = .ok (.iload_n 1, 1) := by decide +kernel
theorem dX9_reachesOn_106 : decode cX9_reachesOn 106 = .ok (.iload_n 2, 1) := by decide +kernel
theorem dX9_reachesOn_107 : decode cX9_reachesOn 107 = .ok (.invokevirtual 144, 3) := by decide +kernel
theorem dX9_reachesOn_110 : decode cX9_reachesOn 110 = .ok (.iconst 1, 1) := by decide +kernel
theorem dX9_reachesOn_111 : decode cX9_reachesOn 111 = .ok (.if_icmp .ne 18, 3) := by decide +kernel
theorem dX9_reachesOn_114 : decode cX9_reachesOn 114 = .ok (.bipush 32, 2) := by decide +kernel
theorem dX9_reachesOn_116 : decode cX9_reachesOn 116 = .ok (.bipush 32, 2) := by decide +kernel
theorem dX9_reachesOn_118 : decode cX9_reachesOn 118 = .ok (.iload 4, 2) := by decide +kernel
theorem dX9_reachesOn_120 : decode cX9_reachesOn 120 = .ok (.imul, 1) := by decide +kernel
theorem dX9_reachesOn_121 : decode cX9_reachesOn 121 = .ok (.iload 5, 2) := by decide +kernel
theorem dX9_reachesOn_123 : decode cX9_reachesOn 123 = .ok (.iadd, 1) := by decide +kernel
theorem dX9_reachesOn_124 : decode cX9_reachesOn 124 = .ok (.imul, 1) := by decide +kernel
theorem dX9_reachesOn_125 : decode cX9_reachesOn 125 = .ok (.iload 7, 2) := by decide +kernel
theorem dX9_reachesOn_127 : decode cX9_reachesOn 127 = .ok (.iadd, 1) := by decide +kernel
theorem dX9_reachesOn_128 : decode cX9_reachesOn 128 = .ok (.ireturn, 1) := by decide +kernel
theorem dX9_reachesOn_129 : decode cX9_reachesOn 129 = .ok (.iinc 7 1, 3) := by decide +kernel
theorem dX9_reachesOn_132 : decode cX9_reachesOn 132 = .ok (.goto (-56), 3) := by decide +kernel
theorem dX9_reachesOn_135 : decode cX9_reachesOn 135 = .ok (.iinc 5 1, 3) := by decide +kernel
theorem dX9_reachesOn_138 : decode cX9_reachesOn 138 = .ok (.goto (-111), 3) := by decide +kernel
theorem dX9_reachesOn_141 : decode cX9_reachesOn 141 = .ok (.bipush (-9), 2) := by decide +kernel
theorem dX9_reachesOn_143 : decode cX9_reachesOn 143 = .ok (.ireturn, 1) := by decide +kernel
theorem dX9_member_0 : decode cX9_member 0 = .ok (.iload_n 0, 1) := by decide +kernel
theorem dX9_member_1 : decode cX9_member 1 = .ok (.istore_n 3, 1) := by decide +kernel
theorem dX9_member_2 : decode cX9_member 2 = .ok (.iload_n 1, 1) := by decide +kernel
theorem dX9_member_3 : decode cX9_member 3 = .ok (.iconst 1, 1) := by decide +kernel
theorem dX9_member_4 : decode cX9_member 4 = .ok (.isub, 1) := by decide +kernel
theorem dX9_member_5 : decode cX9_member 5 = .ok (.istore 4, 2) := by decide +kernel
theorem dX9_member_7 : decode cX9_member 7 = .ok (.iload 4, 2) := by decide +kernel
theorem dX9_member_9 : decode cX9_member 9 = .ok (.iload_n 2, 1) := by decide +kernel
theorem dX9_member_10 : decode cX9_member 10 = .ok (.if_icmp .le 14, 3) := by decide +kernel
theorem dX9_member_13 : decode cX9_member 13 = .ok (.iload_n 3, 1) := by decide +kernel
theorem dX9_member_14 : decode cX9_member 14 = .ok (.bipush 32, 2) := by decide +kernel
theorem dX9_member_16 : decode cX9_member 16 = .ok (.idiv, 1) := by decide +kernel
theorem dX9_member_17 : decode cX9_member 17 = .ok (.istore_n 3, 1) := by decide +kernel
theorem dX9_member_18 : decode cX9_member 18 = .ok (.iinc 4 (-1), 3) := by decide +kernel
theorem dX9_member_21 : decode cX9_member 21 = .ok (.goto (-14), 3) := by decide +kernel
theorem dX9_member_24 : decode cX9_member 24 = .ok (.iload_n 2, 1) := by decide +kernel
theorem dX9_member_25 : decode cX9_member 25 = .ok (.iload_n 1, 1) := by decide +kernel
theorem dX9_member_26 : decode cX9_member 26 = .ok (.if_icmp .ge 10, 3) := by decide +kernel
theorem dX9_member_29 : decode cX9_member 29 = .ok (.iload_n 3, 1) := by decide +kernel
theorem dX9_member_30 : decode cX9_member 30 = .ok (.bipush 32, 2) := by decide +kernel
theorem dX9_member_32 : decode cX9_member 32 = .ok (.irem, 1) := by decide +kernel
theorem dX9_member_33 : decode cX9_member 33 = .ok (.goto 5, 3) := by decide +kernel
theorem dX9_member_36 : decode cX9_member 36 = .ok (.bipush (-5), 2) := by decide +kernel
theorem dX9_member_38 : decode cX9_member 38 = .ok (.ireturn, 1) := by decide +kernel
theorem dX9_reach_0 : decode cX9_reach 0 = .ok (.aload_n 0, 1) := by decide +kernel
theorem dX9_reach_1 : decode cX9_reach 1 = .ok (.iload_n 1, 1) := by decide +kernel
theorem dX9_reach_2 : decode cX9_reach 2 = .ok (.iload_n 2, 1) := by decide +kernel
theorem dX9_reach_3 : decode cX9_reach 3 = .ok (.invokevirtual 167, 3) := by decide +kernel
theorem dX9_reach_6 : decode cX9_reach 6 = .ok (.ifCond .eq 8, 3) := by decide +kernel
theorem dX9_reach_9 : decode cX9_reach 9 = .ok (.iload_n 3, 1) := by decide +kernel
theorem dX9_reach_10 : decode cX9_reach 10 = .ok (.iconst (-1), 1) := by decide +kernel
theorem dX9_reach_11 : decode cX9_reach 11 = .ok (.if_icmp .ge 5, 3) := by decide +kernel
theorem dX9_reach_14 : decode cX9_reach 14 = .ok (.iconst (-1), 1) := by decide +kernel
theorem dX9_reach_15 : decode cX9_reach 15 = .ok (.ireturn, 1) := by decide +kernel
theorem dX9_reach_16 : decode cX9_reach 16 = .ok (.aload_n 0, 1) := by decide +kernel
theorem dX9_reach_17 : decode cX9_reach 17 = .ok (.aload_n 0, 1) := by decide +kernel
theorem dX9_reach_18 : decode cX9_reach 18 = .ok (.getfield 19, 3) := by decide +kernel
theorem dX9_reach_21 : decode cX9_reach 21 = .ok (.iconst 1, 1) := by decide +kernel
theorem dX9_reach_22 : decode cX9_reach 22 = .ok (.iaload, 1) := by decide +kernel
theorem dX9_reach_23 : decode cX9_reach 23 = .ok (.invokevirtual 148, 3) := by decide +kernel
theorem dX9_reach_26 : decode cX9_reach 26 = .ok (.iconst 0, 1) := by decide +kernel
theorem dX9_reach_27 : decode cX9_reach 27 = .ok (.istore 4, 2) := by decide +kernel
theorem dX9_reach_29 : decode cX9_reach 29 = .ok (.iload 4, 2) := by decide +kernel
theorem dX9_reach_31 : decode cX9_reach 31 = .ok (.iconst 4, 1) := by decide +kernel
theorem dX9_reach_32 : decode cX9_reach 32 = .ok (.if_icmp .ge 45, 3) := by decide +kernel
theorem dX9_reach_35 : decode cX9_reach 35 = .ok (.aload_n 0, 1) := by decide +kernel
theorem dX9_reach_36 : decode cX9_reach 36 = .ok (.iload_n 1, 1) := by decide +kernel
theorem dX9_reach_37 : decode cX9_reach 37 = .ok (.iload_n 2, 1) := by decide +kernel
theorem dX9_reach_38 : decode cX9_reach 38 = .ok (.iload 4, 2) := by decide +kernel
theorem dX9_reach_40 : decode cX9_reach 40 = .ok (.invokevirtual 174, 3) := by decide +kernel
theorem dX9_reach_43 : decode cX9_reach 43 = .ok (.istore 5, 2) := by decide +kernel
theorem dX9_reach_45 : decode cX9_reach 45 = .ok (.iload 5, 2) := by decide +kernel
theorem dX9_reach_47 : decode cX9_reach 47 = .ok (.bipush (-9), 2) := by decide +kernel
theorem dX9_reach_49 : decode cX9_reach 49 = .ok (.if_icmp .eq 22, 3) := by decide +kernel
theorem dX9_reach_52 : decode cX9_reach 52 = .ok (.iload_n 3, 1) := by decide +kernel
theorem dX9_reach_53 : decode cX9_reach 53 = .ok (.iconst (-1), 1) := by decide +kernel
theorem dX9_reach_54 : decode cX9_reach 54 = .ok (.if_icmp .ne 8, 3) := by decide +kernel
theorem dX9_reach_57 : decode cX9_reach 57 = .ok (.iload 4, 2) := by decide +kernel
theorem dX9_reach_59 : decode cX9_reach 59 = .ok (.goto 11, 3) := by decide +kernel
theorem dX9_reach_62 : decode cX9_reach 62 = .ok (.iload 5, 2) := by decide +kernel
theorem dX9_reach_64 : decode cX9_reach 64 = .ok (.iload 4, 2) := by decide +kernel
theorem dX9_reach_66 : decode cX9_reach 66 = .ok (.iload_n 3, 1) := by decide +kernel
theorem dX9_reach_67 : decode cX9_reach 67 = .ok (.invokestatic 177, 3) := by decide +kernel
theorem dX9_reach_70 : decode cX9_reach 70 = .ok (.ireturn, 1) := by decide +kernel
theorem dX9_reach_71 : decode cX9_reach 71 = .ok (.iinc 4 1, 3) := by decide +kernel
theorem dX9_reach_74 : decode cX9_reach 74 = .ok (.goto (-45), 3) := by decide +kernel
theorem dX9_reach_77 : decode cX9_reach 77 = .ok (.bipush (-9), 2) := by decide +kernel
theorem dX9_reach_79 : decode cX9_reach 79 = .ok (.ireturn, 1) := by decide +kernel
theorem dX9_tries_0 : decode cX9_tries 0 = .ok (.aload_n 0, 1) := by decide +kernel
theorem dX9_tries_1 : decode cX9_tries 1 = .ok (.iload_n 1, 1) := by decide +kernel
theorem dX9_tries_2 : decode cX9_tries 2 = .ok (.iload_n 2, 1) := by decide +kernel
theorem dX9_tries_3 : decode cX9_tries 3 = .ok (.invokevirtual 151, 3) := by decide +kernel
theorem dX9_tries_6 : decode cX9_tries 6 = .ok (.istore 4, 2) := by decide +kernel
theorem dX9_tries_8 : decode cX9_tries 8 = .ok (.iload 4, 2) := by decide +kernel
theorem dX9_tries_10 : decode cX9_tries 10 = .ok (.aload_n 0, 1) := by decide +kernel
theorem dX9_tries_11 : decode cX9_tries 11 = .ok (.getfield 180, 3) := by decide +kernel
theorem dX9_tries_14 : decode cX9_tries 14 = .ok (.if_icmp .gt 20, 3) := by decide +kernel
theorem dX9_tries_17 : decode cX9_tries 17 = .ok (.iload 4, 2) := by decide +kernel
theorem dX9_tries_19 : decode cX9_tries 19 = .ok (.aload_n 0, 1) := by decide +kernel
theorem dX9_tries_20 : decode cX9_tries 20 = .ok (.getfield 180, 3) := by decide +kernel
theorem dX9_tries_23 : decode cX9_tries 23 = .ok (.if_icmp .ne 27, 3) := by decide +kernel
theorem dX9_tries_26 : decode cX9_tries 26 = .ok (.iload_n 1, 1) := by decide +kernel
theorem dX9_tries_27 : decode cX9_tries 27 = .ok (.aload_n 0, 1) := by decide +kernel
theorem dX9_tries_28 : decode cX9_tries 28 = .ok (.getfield 183, 3) := by decide +kernel
theorem dX9_tries_31 : decode cX9_tries 31 = .ok (.if_icmp .ge 19, 3) := by decide +kernel
theorem dX9_tries_34 : decode cX9_tries 34 = .ok (.aload_n 0, 1) := by decide +kernel
theorem dX9_tries_35 : decode cX9_tries 35 = .ok (.iload 4, 2) := by decide +kernel
theorem dX9_tries_37 : decode cX9_tries 37 = .ok (.putfield 180, 3) := by decide +kernel
theorem dX9_tries_40 : decode cX9_tries 40 = .ok (.aload_n 0, 1) := by decide +kernel
theorem dX9_tries_41 : decode cX9_tries 41 = .ok (.iload_n 1, 1) := by decide +kernel
theorem dX9_tries_42 : decode cX9_tries 42 = .ok (.putfield 183, 3) := by decide +kernel
theorem dX9_tries_45 : decode cX9_tries 45 = .ok (.aload_n 0, 1) := by decide +kernel
theorem dX9_tries_46 : decode cX9_tries 46 = .ok (.iload_n 3, 1) := by decide +kernel
theorem dX9_tries_47 : decode cX9_tries 47 = .ok (.putfield 186, 3) := by decide +kernel
theorem dX9_tries_50 : decode cX9_tries 50 = .ok (.return_, 1) := by decide +kernel
theorem dX9_serves_0 : decode cX9_serves 0 = .ok (.aload_n 0, 1) := by decide +kernel
theorem dX9_serves_1 : decode cX9_serves 1 = .ok (.iload_n 1, 1) := by decide +kernel
theorem dX9_serves_2 : decode cX9_serves 2 = .ok (.invokevirtual 59, 3) := by decide +kernel
theorem dX9_serves_5 : decode cX9_serves 5 = .ok (.ifCond .eq 8, 3) := by decide +kernel
theorem dX9_serves_8 : decode cX9_serves 8 = .ok (.iload_n 2, 1) := by decide +kernel
theorem dX9_serves_9 : decode cX9_serves 9 = .ok (.iconst (-1), 1) := by decide +kernel
theorem dX9_serves_10 : decode cX9_serves 10 = .ok (.if_icmp .ge 5, 3) := by decide +kernel
theorem dX9_serves_13 : decode cX9_serves 13 = .ok (.iconst (-1), 1) := by decide +kernel
theorem dX9_serves_14 : decode cX9_serves 14 = .ok (.ireturn, 1) := by decide +kernel
theorem dX9_serves_15 : decode cX9_serves 15 = .ok (.aload_n 0, 1) := by decide +kernel
theorem dX9_serves_16 : decode cX9_serves 16 = .ok (.aload_n 0, 1) := by decide +kernel
theorem dX9_serves_17 : decode cX9_serves 17 = .ok (.getfield 19, 3) := by decide +kernel
theorem dX9_serves_20 : decode cX9_serves 20 = .ok (.iconst 1, 1) := by decide +kernel
theorem dX9_serves_21 : decode cX9_serves 21 = .ok (.iaload, 1) := by decide +kernel
theorem dX9_serves_22 : decode cX9_serves 22 = .ok (.invokevirtual 148, 3) := by decide +kernel
theorem dX9_serves_25 : decode cX9_serves 25 = .ok (.aload_n 0, 1) := by decide +kernel
theorem dX9_serves_26 : decode cX9_serves 26 = .ok (.iconst (-1), 1) := by decide +kernel
theorem dX9_serves_27 : decode cX9_serves 27 = .ok (.putfield 180, 3) := by decide +kernel
theorem dX9_serves_30 : decode cX9_serves 30 = .ok (.aload_n 0, 1) := by decide +kernel
theorem dX9_serves_31 : decode cX9_serves 31 = .ok (.iconst 0, 1) := by decide +kernel
theorem dX9_serves_32 : decode cX9_serves 32 = .ok (.iload_n 1, 1) := by decide +kernel
theorem dX9_serves_33 : decode cX9_serves 33 = .ok (.iconst 0, 1) := by decide +kernel
theorem dX9_serves_34 : decode cX9_serves 34 = .ok (.invokevirtual 189, 3) := by decide +kernel
theorem dX9_serves_37 : decode cX9_serves 37 = .ok (.iconst 0, 1) := by decide +kernel
theorem dX9_serves_38 : decode cX9_serves 38 = .ok (.istore_n 3, 1) := by decide +kernel
theorem dX9_serves_39 : decode cX9_serves 39 = .ok (.iload_n 3, 1) := by decide +kernel
theorem dX9_serves_40 : decode cX9_serves 40 = .ok (.bipush 24, 2) := by decide +kernel
theorem dX9_serves_42 : decode cX9_serves 42 = .ok (.if_icmp .ge 64, 3) := by decide +kernel
theorem dX9_serves_45 : decode cX9_serves 45 = .ok (.aload_n 0, 1) := by decide +kernel
theorem dX9_serves_46 : decode cX9_serves 46 = .ok (.iconst 0, 1) := by decide +kernel
theorem dX9_serves_47 : decode cX9_serves 47 = .ok (.iload_n 3, 1) := by decide +kernel
theorem dX9_serves_48 : decode cX9_serves 48 = .ok (.invokevirtual 136, 3) := by decide +kernel
theorem dX9_serves_51 : decode cX9_serves 51 = .ok (.ifCond .eq 49, 3) := by decide +kernel
theorem dX9_serves_54 : decode cX9_serves 54 = .ok (.aload_n 0, 1) := by decide +kernel
theorem dX9_serves_55 : decode cX9_serves 55 = .ok (.iconst 1, 1) := by decide +kernel
theorem dX9_serves_56 : decode cX9_serves 56 = .ok (.iload_n 1, 1) := by decide +kernel
theorem dX9_serves_57 : decode cX9_serves 57 = .ok (.iload_n 3, 1) := by decide +kernel
theorem dX9_serves_58 : decode cX9_serves 58 = .ok (.invokevirtual 189, 3) := by decide +kernel
theorem dX9_serves_61 : decode cX9_serves 61 = .ok (.iconst 0, 1) := by decide +kernel
theorem dX9_serves_62 : decode cX9_serves 62 = .ok (.istore 4, 2) := by decide +kernel
theorem dX9_serves_64 : decode cX9_serves 64 = .ok (.iload 4, 2) := by decide +kernel
theorem dX9_serves_66 : decode cX9_serves 66 = .ok (.bipush 24, 2) := by decide +kernel
theorem dX9_serves_68 : decode cX9_serves 68 = .ok (.if_icmp .ge 32, 3) := by decide +kernel
theorem dX9_serves_71 : decode cX9_serves 71 = .ok (.aload_n 0, 1) := by decide +kernel
theorem dX9_serves_72 : decode cX9_serves 72 = .ok (.iconst 1, 1) := by decide +kernel
theorem dX9_serves_73 : decode cX9_serves 73 = .ok (.iload 4, 2) := by decide +kernel
theorem dX9_serves_75 : decode cX9_serves 75 = .ok (.invokevirtual 136, 3) := by decide +kernel
theorem dX9_serves_78 : decode cX9_serves 78 = .ok (.ifCond .eq 16, 3) := by decide +kernel
theorem dX9_serves_81 : decode cX9_serves 81 = .ok (.aload_n 0, 1) := by decide +kernel
theorem dX9_serves_82 : decode cX9_serves 82 = .ok (.iconst 2, 1) := by decide +kernel
theorem dX9_serves_83 : decode cX9_serves 83 = .ok (.iload_n 1, 1) := by decide +kernel
theorem dX9_serves_84 : decode cX9_serves 84 = .ok (.bipush 32, 2) := by decide +kernel
theorem dX9_serves_86 : decode cX9_serves 86 = .ok (.iload_n 3, 1) := by decide +kernel
theorem dX9_serves_87 : decode cX9_serves 87 = .ok (.imul, 1) := by decide +kernel
theorem dX9_serves_88 : decode cX9_serves 88 = .ok (.iload 4, 2) := by decide +kernel
theorem dX9_serves_90 : decode cX9_serves 90 = .ok (.iadd, 1) := by decide +kernel
theorem dX9_serves_91 : decode cX9_serves 91 = .ok (.invokevirtual 189, 3) := by decide +kernel
theorem dX9_serves_94 : decode cX9_serves 94 = .ok (.iinc 4 1, 3) := by decide +kernel
theorem dX9_serves_97 : decode cX9_serves 97 = .ok (.goto (-33), 3) := by decide +kernel
theorem dX9_serves_100 : decode cX9_serves 100 = .ok (.iinc 3 1, 3) := by decide +kernel
theorem dX9_serves_103 : decode cX9_serves 103 = .ok (.goto (-64), 3) := by decide +kernel
theorem dX9_serves_106 : decode cX9_serves 106 = .ok (.iload_n 2, 1) := by decide +kernel
theorem dX9_serves_107 : decode cX9_serves 107 = .ok (.iconst (-1), 1) := by decide +kernel
theorem dX9_serves_108 : decode cX9_serves 108 = .ok (.if_icmp .ne 10, 3) := by decide +kernel
theorem dX9_serves_111 : decode cX9_serves 111 = .ok (.aload_n 0, 1) := by decide +kernel
theorem dX9_serves_112 : decode cX9_serves 112 = .ok (.getfield 180, 3) := by decide +kernel
theorem dX9_serves_115 : decode cX9_serves 115 = .ok (.goto 15, 3) := by decide +kernel
theorem dX9_serves_118 : decode cX9_serves 118 = .ok (.aload_n 0, 1) := by decide +kernel
theorem dX9_serves_119 : decode cX9_serves 119 = .ok (.getfield 186, 3) := by decide +kernel
theorem dX9_serves_122 : decode cX9_serves 122 = .ok (.aload_n 0, 1) := by decide +kernel
theorem dX9_serves_123 : decode cX9_serves 123 = .ok (.getfield 183, 3) := by decide +kernel
theorem dX9_serves_126 : decode cX9_serves 126 = .ok (.iload_n 2, 1) := by decide +kernel
theorem dX9_serves_127 : decode cX9_serves 127 = .ok (.invokestatic 177, 3) := by decide +kernel
theorem dX9_serves_130 : decode cX9_serves 130 = .ok (.ireturn, 1) := by decide +kernel
theorem dX9_saw_0 : decode cX9_saw 0 = .ok (.aload_n 0, 1) := by decide +kernel
theorem dX9_saw_1 : decode cX9_saw 1 = .ok (.iload_n 1, 1) := by decide +kernel
theorem dX9_saw_2 : decode cX9_saw 2 = .ok (.iload_n 2, 1) := by decide +kernel
theorem dX9_saw_3 : decode cX9_saw 3 = .ok (.invokevirtual 167, 3) := by decide +kernel
theorem dX9_saw_6 : decode cX9_saw 6 = .ok (.ifCond .ne 5, 3) := by decide +kernel
theorem dX9_saw_9 : decode cX9_saw 9 = .ok (.iconst (-1), 1) := by decide +kernel
theorem dX9_saw_10 : decode cX9_saw 10 = .ok (.ireturn, 1) := by decide +kernel
theorem dX9_saw_11 : decode cX9_saw 11 = .ok (.aload_n 0, 1) := by decide +kernel
theorem dX9_saw_12 : decode cX9_saw 12 = .ok (.getfield 126, 3) := by decide +kernel
theorem dX9_saw_15 : decode cX9_saw 15 = .ok (.bipush 6, 2) := by decide +kernel
theorem dX9_saw_17 : decode cX9_saw 17 = .ok (.if_icmp .ne 6, 3) := by decide +kernel
theorem dX9_saw_20 : decode cX9_saw 20 = .ok (.bipush (-3), 2) := by decide +kernel
theorem dX9_saw_22 : decode cX9_saw 22 = .ok (.ireturn, 1) := by decide +kernel
theorem dX9_saw_23 : decode cX9_saw 23 = .ok (.aload_n 0, 1) := by decide +kernel
theorem dX9_saw_24 : decode cX9_saw 24 = .ok (.getfield 29, 3) := by decide +kernel
theorem dX9_saw_27 : decode cX9_saw 27 = .ok (.aload_n 0, 1) := by decide +kernel
theorem dX9_saw_28 : decode cX9_saw 28 = .ok (.getfield 126, 3) := by decide +kernel
theorem dX9_saw_31 : decode cX9_saw 31 = .ok (.iload_n 1, 1) := by decide +kernel
theorem dX9_saw_32 : decode cX9_saw 32 = .ok (.iastore, 1) := by decide +kernel
theorem dX9_saw_33 : decode cX9_saw 33 = .ok (.aload_n 0, 1) := by decide +kernel
theorem dX9_saw_34 : decode cX9_saw 34 = .ok (.getfield 32, 3) := by decide +kernel
theorem dX9_saw_37 : decode cX9_saw 37 = .ok (.aload_n 0, 1) := by decide +kernel
theorem dX9_saw_38 : decode cX9_saw 38 = .ok (.getfield 126, 3) := by decide +kernel
theorem dX9_saw_41 : decode cX9_saw 41 = .ok (.iload_n 2, 1) := by decide +kernel
theorem dX9_saw_42 : decode cX9_saw 42 = .ok (.iastore, 1) := by decide +kernel
theorem dX9_saw_43 : decode cX9_saw 43 = .ok (.aload_n 0, 1) := by decide +kernel
theorem dX9_saw_44 : decode cX9_saw 44 = .ok (.dup, 1) := by decide +kernel
theorem dX9_saw_45 : decode cX9_saw 45 = .ok (.getfield 126, 3) := by decide +kernel
theorem dX9_saw_48 : decode cX9_saw 48 = .ok (.iconst 1, 1) := by decide +kernel
theorem dX9_saw_49 : decode cX9_saw 49 = .ok (.iadd, 1) := by decide +kernel
theorem dX9_saw_50 : decode cX9_saw 50 = .ok (.putfield 126, 3) := by decide +kernel
theorem dX9_saw_53 : decode cX9_saw 53 = .ok (.aload_n 0, 1) := by decide +kernel
theorem dX9_saw_54 : decode cX9_saw 54 = .ok (.getfield 126, 3) := by decide +kernel
theorem dX9_saw_57 : decode cX9_saw 57 = .ok (.ireturn, 1) := by decide +kernel
theorem dX9_forget_0 : decode cX9_forget 0 = .ok (.aload_n 0, 1) := by decide +kernel
theorem dX9_forget_1 : decode cX9_forget 1 = .ok (.getfield 126, 3) := by decide +kernel
theorem dX9_forget_4 : decode cX9_forget 4 = .ok (.istore_n 1, 1) := by decide +kernel
theorem dX9_forget_5 : decode cX9_forget 5 = .ok (.aload_n 0, 1) := by decide +kernel
theorem dX9_forget_6 : decode cX9_forget 6 = .ok (.iconst 0, 1) := by decide +kernel
theorem dX9_forget_7 : decode cX9_forget 7 = .ok (.putfield 126, 3) := by decide +kernel
theorem dX9_forget_10 : decode cX9_forget 10 = .ok (.iload_n 1, 1) := by decide +kernel
theorem dX9_forget_11 : decode cX9_forget 11 = .ok (.ireturn, 1) := by decide +kernel
theorem dX9_fitsAt_0 : decode cX9_fitsAt 0 = .ok (.iconst 1, 1) := by decide +kernel
theorem dX9_fitsAt_1 : decode cX9_fitsAt 1 = .ok (.istore_n 2, 1) := by decide +kernel
theorem dX9_fitsAt_2 : decode cX9_fitsAt 2 = .ok (.iconst 0, 1) := by decide +kernel
theorem dX9_fitsAt_3 : decode cX9_fitsAt 3 = .ok (.istore_n 3, 1) := by decide +kernel
theorem dX9_fitsAt_4 : decode cX9_fitsAt 4 = .ok (.iload_n 3, 1) := by decide +kernel
theorem dX9_fitsAt_5 : decode cX9_fitsAt 5 = .ok (.aload_n 0, 1) := by decide +kernel
theorem dX9_fitsAt_6 : decode cX9_fitsAt 6 = .ok (.getfield 126, 3) := by decide +kernel
theorem dX9_fitsAt_9 : decode cX9_fitsAt 9 = .ok (.if_icmp .ge 39, 3) := by decide +kernel
theorem dX9_fitsAt_12 : decode cX9_fitsAt 12 = .ok (.iload_n 2, 1) := by decide +kernel
theorem dX9_fitsAt_13 : decode cX9_fitsAt 13 = .ok (.ifCond .eq 27, 3) := by decide +kernel
theorem dX9_fitsAt_16 : decode cX9_fitsAt 16 = .ok (.aload_n 0, 1) := by decide +kernel
theorem dX9_fitsAt_17 : decode cX9_fitsAt 17 = .ok (.iload_n 1, 1) := by decide +kernel
theorem dX9_fitsAt_18 : decode cX9_fitsAt 18 = .ok (.aload_n 0, 1) := by decide +kernel
theorem dX9_fitsAt_19 : decode cX9_fitsAt 19 = .ok (.getfield 29, 3) := by decide +kernel
theorem dX9_fitsAt_22 : decode cX9_fitsAt 22 = .ok (.iload_n 3, 1) := by decide +kernel
theorem dX9_fitsAt_23 : decode cX9_fitsAt 23 = .ok (.iaload, 1) := by decide +kernel
theorem dX9_fitsAt_24 : decode cX9_fitsAt 24 = .ok (.aload_n 0, 1) := by decide +kernel
theorem dX9_fitsAt_25 : decode cX9_fitsAt 25 = .ok (.getfield 32, 3) := by decide +kernel
theorem dX9_fitsAt_28 : decode cX9_fitsAt 28 = .ok (.iload_n 3, 1) := by decide +kernel
theorem dX9_fitsAt_29 : decode cX9_fitsAt 29 = .ok (.iaload, 1) := by decide +kernel
theorem dX9_fitsAt_30 : decode cX9_fitsAt 30 = .ok (.invokevirtual 144, 3) := by decide +kernel
theorem dX9_fitsAt_33 : decode cX9_fitsAt 33 = .ok (.ifCond .le 7, 3) := by decide +kernel
theorem dX9_fitsAt_36 : decode cX9_fitsAt 36 = .ok (.iconst 1, 1) := by decide +kernel
theorem dX9_fitsAt_37 : decode cX9_fitsAt 37 = .ok (.goto 4, 3) := by decide +kernel
theorem dX9_fitsAt_40 : decode cX9_fitsAt 40 = .ok (.iconst 0, 1) := by decide +kernel
theorem dX9_fitsAt_41 : decode cX9_fitsAt 41 = .ok (.istore_n 2, 1) := by decide +kernel
theorem dX9_fitsAt_42 : decode cX9_fitsAt 42 = .ok (.iinc 3 1, 3) := by decide +kernel
theorem dX9_fitsAt_45 : decode cX9_fitsAt 45 = .ok (.goto (-41), 3) := by decide +kernel
theorem dX9_fitsAt_48 : decode cX9_fitsAt 48 = .ok (.iload_n 2, 1) := by decide +kernel
theorem dX9_fitsAt_49 : decode cX9_fitsAt 49 = .ok (.ifCond .eq 7, 3) := by decide +kernel
theorem dX9_fitsAt_52 : decode cX9_fitsAt 52 = .ok (.iconst 1, 1) := by decide +kernel
theorem dX9_fitsAt_53 : decode cX9_fitsAt 53 = .ok (.goto 4, 3) := by decide +kernel
theorem dX9_fitsAt_56 : decode cX9_fitsAt 56 = .ok (.iconst 0, 1) := by decide +kernel
theorem dX9_fitsAt_57 : decode cX9_fitsAt 57 = .ok (.ireturn, 1) := by decide +kernel
theorem dX9_fits_0 : decode cX9_fits 0 = .ok (.iload_n 1, 1) := by decide +kernel
theorem dX9_fits_1 : decode cX9_fits 1 = .ok (.iconst 0, 1) := by decide +kernel
theorem dX9_fits_2 : decode cX9_fits 2 = .ok (.iconst 2, 1) := by decide +kernel
theorem dX9_fits_3 : decode cX9_fits 3 = .ok (.invokestatic 55, 3) := by decide +kernel
theorem dX9_fits_6 : decode cX9_fits 6 = .ok (.ifCond .ne 5, 3) := by decide +kernel
theorem dX9_fits_9 : decode cX9_fits 9 = .ok (.iconst (-1), 1) := by decide +kernel
theorem dX9_fits_10 : decode cX9_fits 10 = .ok (.ireturn, 1) := by decide +kernel
theorem dX9_fits_11 : decode cX9_fits 11 = .ok (.aload_n 0, 1) := by decide +kernel
theorem dX9_fits_12 : decode cX9_fits 12 = .ok (.invokevirtual 133, 3) := by decide +kernel
theorem dX9_fits_15 : decode cX9_fits 15 = .ok (.iload_n 1, 1) := by decide +kernel
theorem dX9_fits_16 : decode cX9_fits 16 = .ok (.ifCond .ne 11, 3) := by decide +kernel
theorem dX9_fits_19 : decode cX9_fits 19 = .ok (.aload_n 0, 1) := by decide +kernel
theorem dX9_fits_20 : decode cX9_fits 20 = .ok (.iconst 0, 1) := by decide +kernel
theorem dX9_fits_21 : decode cX9_fits 21 = .ok (.invokevirtual 193, 3) := by decide +kernel
theorem dX9_fits_24 : decode cX9_fits 24 = .ok (.goto 4, 3) := by decide +kernel
theorem dX9_fits_27 : decode cX9_fits 27 = .ok (.iconst 0, 1) := by decide +kernel
theorem dX9_fits_28 : decode cX9_fits 28 = .ok (.istore_n 2, 1) := by decide +kernel
theorem dX9_fits_29 : decode cX9_fits 29 = .ok (.iconst 0, 1) := by decide +kernel
theorem dX9_fits_30 : decode cX9_fits 30 = .ok (.istore_n 3, 1) := by decide +kernel
theorem dX9_fits_31 : decode cX9_fits 31 = .ok (.iload_n 3, 1) := by decide +kernel
theorem dX9_fits_32 : decode cX9_fits 32 = .ok (.bipush 24, 2) := by decide +kernel
theorem dX9_fits_34 : decode cX9_fits 34 = .ok (.if_icmp .ge 91, 3) := by decide +kernel
theorem dX9_fits_37 : decode cX9_fits 37 = .ok (.iload_n 1, 1) := by decide +kernel
theorem dX9_fits_38 : decode cX9_fits 38 = .ok (.ifCond .le 87, 3) := by decide +kernel
theorem dX9_fits_41 : decode cX9_fits 41 = .ok (.aload_n 0, 1) := by decide +kernel
theorem dX9_fits_42 : decode cX9_fits 42 = .ok (.iconst 0, 1) := by decide +kernel
theorem dX9_fits_43 : decode cX9_fits 43 = .ok (.iload_n 3, 1) := by decide +kernel
theorem dX9_fits_44 : decode cX9_fits 44 = .ok (.invokevirtual 136, 3) := by decide +kernel
theorem dX9_fits_47 : decode cX9_fits 47 = .ok (.istore 4, 2) := by decide +kernel
theorem dX9_fits_49 : decode cX9_fits 49 = .ok (.iload_n 2, 1) := by decide +kernel
theorem dX9_fits_50 : decode cX9_fits 50 = .ok (.iload 4, 2) := by decide +kernel
theorem dX9_fits_52 : decode cX9_fits 52 = .ok (.ifCond .eq 16, 3) := by decide +kernel
theorem dX9_fits_55 : decode cX9_fits 55 = .ok (.iload_n 1, 1) := by decide +kernel
theorem dX9_fits_56 : decode cX9_fits 56 = .ok (.iconst 1, 1) := by decide +kernel
theorem dX9_fits_57 : decode cX9_fits 57 = .ok (.if_icmp .ne 11, 3) := by decide +kernel
theorem dX9_fits_60 : decode cX9_fits 60 = .ok (.aload_n 0, 1) := by decide +kernel
theorem dX9_fits_61 : decode cX9_fits 61 = .ok (.iconst 1, 1) := by decide +kernel
theorem dX9_fits_62 : decode cX9_fits 62 = .ok (.invokevirtual 193, 3) := by decide +kernel
theorem dX9_fits_65 : decode cX9_fits 65 = .ok (.goto 4, 3) := by decide +kernel
theorem dX9_fits_68 : decode cX9_fits 68 = .ok (.iconst 0, 1) := by decide +kernel
theorem dX9_fits_69 : decode cX9_fits 69 = .ok (.iadd, 1) := by decide +kernel
theorem dX9_fits_70 : decode cX9_fits 70 = .ok (.istore_n 2, 1) := by decide +kernel
theorem dX9_fits_71 : decode cX9_fits 71 = .ok (.iconst 0, 1) := by decide +kernel
theorem dX9_fits_72 : decode cX9_fits 72 = .ok (.istore 5, 2) := by decide +kernel
theorem dX9_fits_74 : decode cX9_fits 74 = .ok (.iload 5, 2) := by decide +kernel
theorem dX9_fits_76 : decode cX9_fits 76 = .ok (.bipush 24, 2) := by decide +kernel
theorem dX9_fits_78 : decode cX9_fits 78 = .ok (.if_icmp .ge 41, 3) := by decide +kernel
theorem dX9_fits_81 : decode cX9_fits 81 = .ok (.iload 4, 2) := by decide +kernel
theorem dX9_fits_83 : decode cX9_fits 83 = .ok (.ifCond .eq 36, 3) := by decide +kernel
theorem dX9_fits_86 : decode cX9_fits 86 = .ok (.iload_n 1, 1) := by decide +kernel
theorem dX9_fits_87 : decode cX9_fits 87 = .ok (.iconst 2, 1) := by decide +kernel
theorem dX9_fits_88 : decode cX9_fits 88 = .ok (.if_icmp .ne 31, 3) := by decide +kernel
theorem dX9_fits_91 : decode cX9_fits 91 = .ok (.iload_n 2, 1) := by decide +kernel
theorem dX9_fits_92 : decode cX9_fits 92 = .ok (.aload_n 0, 1) := by decide +kernel
theorem dX9_fits_93 : decode cX9_fits 93 = .ok (.iconst 1, 1) := by decide +kernel
theorem dX9_fits_94 : decode cX9_fits 94 = .ok (.iload 5, 2) := by decide +kernel
theorem dX9_fits_96 : decode cX9_fits 96 = .ok (.invokevirtual 136, 3) := by decide +kernel
theorem dX9_fits_99 : decode cX9_fits 99 = .ok (.ifCond .eq 11, 3) := by decide +kernel
theorem dX9_fits_102 : decode cX9_fits 102 = .ok (.aload_n 0, 1) := by decide +kernel
theorem dX9_fits_103 : decode cX9_fits 103 = .ok (.iconst 2, 1) := by decide +kernel
theorem dX9_fits_104 : decode cX9_fits 104 = .ok (.invokevirtual 193, 3) := by decide +kernel
theorem dX9_fits_107 : decode cX9_fits 107 = .ok (.goto 4, 3) := by decide +kernel
theorem dX9_fits_110 : decode cX9_fits 110 = .ok (.iconst 0, 1) := by decide +kernel
theorem dX9_fits_111 : decode cX9_fits 111 = .ok (.iadd, 1) := by decide +kernel
theorem dX9_fits_112 : decode cX9_fits 112 = .ok (.istore_n 2, 1) := by decide +kernel
theorem dX9_fits_113 : decode cX9_fits 113 = .ok (.iinc 5 1, 3) := by decide +kernel
theorem dX9_fits_116 : decode cX9_fits 116 = .ok (.goto (-42), 3) := by decide +kernel
theorem dX9_fits_119 : decode cX9_fits 119 = .ok (.iinc 3 1, 3) := by decide +kernel
theorem dX9_fits_122 : decode cX9_fits 122 = .ok (.goto (-91), 3) := by decide +kernel
theorem dX9_fits_125 : decode cX9_fits 125 = .ok (.iload_n 2, 1) := by decide +kernel
theorem dX9_fits_126 : decode cX9_fits 126 = .ok (.ireturn, 1) := by decide +kernel
theorem dX9_rate_0 : decode cX9_rate 0 = .ok (.iload_n 1, 1) := by decide +kernel
theorem dX9_rate_1 : decode cX9_rate 1 = .ok (.iconst 0, 1) := by decide +kernel
theorem dX9_rate_2 : decode cX9_rate 2 = .ok (.iconst 5, 1) := by decide +kernel
theorem dX9_rate_3 : decode cX9_rate 3 = .ok (.invokestatic 55, 3) := by decide +kernel
theorem dX9_rate_6 : decode cX9_rate 6 = .ok (.ifCond .eq 11, 3) := by decide +kernel
theorem dX9_rate_9 : decode cX9_rate 9 = .ok (.aload_n 0, 1) := by decide +kernel
theorem dX9_rate_10 : decode cX9_rate 10 = .ok (.iload_n 2, 1) := by decide +kernel
theorem dX9_rate_11 : decode cX9_rate 11 = .ok (.invokevirtual 59, 3) := by decide +kernel
theorem dX9_rate_14 : decode cX9_rate 14 = .ok (.ifCond .ne 6, 3) := by decide +kernel
theorem dX9_rate_17 : decode cX9_rate 17 = .ok (.ldc 196, 2) := by decide +kernel
theorem dX9_rate_19 : decode cX9_rate 19 = .ok (.ireturn, 1) := by decide +kernel
theorem dX9_rate_20 : decode cX9_rate 20 = .ok (.aload_n 0, 1) := by decide +kernel
theorem dX9_rate_21 : decode cX9_rate 21 = .ok (.dup, 1) := by decide +kernel
theorem dX9_rate_22 : decode cX9_rate 22 = .ok (.getfield 197, 3) := by decide +kernel
theorem dX9_rate_25 : decode cX9_rate 25 = .ok (.iload_n 1, 1) := by decide +kernel
theorem dX9_rate_26 : decode cX9_rate 26 = .ok (.ifCond .ne 7, 3) := by decide +kernel
theorem dX9_rate_29 : decode cX9_rate 29 = .ok (.lconst 1, 1) := by decide +kernel
theorem dX9_rate_30 : decode cX9_rate 30 = .ok (.goto 50, 3) := by decide +kernel
theorem dX9_rate_33 : decode cX9_rate 33 = .ok (.iload_n 1, 1) := by decide +kernel
theorem dX9_rate_34 : decode cX9_rate 34 = .ok (.iconst 1, 1) := by decide +kernel
theorem dX9_rate_35 : decode cX9_rate 35 = .ok (.if_icmp .ne 9, 3) := by decide +kernel
theorem dX9_rate_38 : decode cX9_rate 38 = .ok (.ldc2_w 201, 3) := by decide +kernel
theorem dX9_rate_41 : decode cX9_rate 41 = .ok (.goto 39, 3) := by decide +kernel
theorem dX9_rate_44 : decode cX9_rate 44 = .ok (.iload_n 1, 1) := by decide +kernel
theorem dX9_rate_45 : decode cX9_rate 45 = .ok (.iconst 2, 1) := by decide +kernel
theorem dX9_rate_46 : decode cX9_rate 46 = .ok (.if_icmp .ne 9, 3) := by decide +kernel
theorem dX9_rate_49 : decode cX9_rate 49 = .ok (.ldc2_w 203, 3) := by decide +kernel
theorem dX9_rate_52 : decode cX9_rate 52 = .ok (.goto 28, 3) := by decide +kernel
theorem dX9_rate_55 : decode cX9_rate 55 = .ok (.iload_n 1, 1) := by decide +kernel
theorem dX9_rate_56 : decode cX9_rate 56 = .ok (.iconst 3, 1) := by decide +kernel
theorem dX9_rate_57 : decode cX9_rate 57 = .ok (.if_icmp .ne 9, 3) := by decide +kernel
theorem dX9_rate_60 : decode cX9_rate 60 = .ok (.ldc2_w 205, 3) := by decide +kernel
theorem dX9_rate_63 : decode cX9_rate 63 = .ok (.goto 17, 3) := by decide +kernel
theorem dX9_rate_66 : decode cX9_rate 66 = .ok (.iload_n 1, 1) := by decide +kernel
theorem dX9_rate_67 : decode cX9_rate 67 = .ok (.iconst 4, 1) := by decide +kernel
theorem dX9_rate_68 : decode cX9_rate 68 = .ok (.if_icmp .ne 9, 3) := by decide +kernel
theorem dX9_rate_71 : decode cX9_rate 71 = .ok (.ldc2_w 207, 3) := by decide +kernel
theorem dX9_rate_74 : decode cX9_rate 74 = .ok (.goto 6, 3) := by decide +kernel
theorem dX9_rate_77 : decode cX9_rate 77 = .ok (.ldc2_w 209, 3) := by decide +kernel
theorem dX9_rate_80 : decode cX9_rate 80 = .ok (.ladd, 1) := by decide +kernel
theorem dX9_rate_81 : decode cX9_rate 81 = .ok (.putfield 197, 3) := by decide +kernel
theorem dX9_rate_84 : decode cX9_rate 84 = .ok (.aload_n 0, 1) := by decide +kernel
theorem dX9_rate_85 : decode cX9_rate 85 = .ok (.aload_n 0, 1) := by decide +kernel
theorem dX9_rate_86 : decode cX9_rate 86 = .ok (.getfield 19, 3) := by decide +kernel
theorem dX9_rate_89 : decode cX9_rate 89 = .ok (.iconst 1, 1) := by decide +kernel
theorem dX9_rate_90 : decode cX9_rate 90 = .ok (.iaload, 1) := by decide +kernel
theorem dX9_rate_91 : decode cX9_rate 91 = .ok (.invokevirtual 148, 3) := by decide +kernel
theorem dX9_rate_94 : decode cX9_rate 94 = .ok (.aload_n 0, 1) := by decide +kernel
theorem dX9_rate_95 : decode cX9_rate 95 = .ok (.getfield 13, 3) := by decide +kernel
theorem dX9_rate_98 : decode cX9_rate 98 = .ok (.bipush 6, 2) := by decide +kernel
theorem dX9_rate_100 : decode cX9_rate 100 = .ok (.iload_n 2, 1) := by decide +kernel
theorem dX9_rate_101 : decode cX9_rate 101 = .ok (.iadd, 1) := by decide +kernel
theorem dX9_rate_102 : decode cX9_rate 102 = .ok (.iaload, 1) := by decide +kernel
theorem dX9_rate_103 : decode cX9_rate 103 = .ok (.istore_n 3, 1) := by decide +kernel
theorem dX9_rate_104 : decode cX9_rate 104 = .ok (.iload_n 3, 1) := by decide +kernel
theorem dX9_rate_105 : decode cX9_rate 105 = .ok (.aload_n 0, 1) := by decide +kernel
theorem dX9_rate_106 : decode cX9_rate 106 = .ok (.iconst 0, 1) := by decide +kernel
theorem dX9_rate_107 : decode cX9_rate 107 = .ok (.iload_n 2, 1) := by decide +kernel
theorem dX9_rate_108 : decode cX9_rate 108 = .ok (.invokevirtual 151, 3) := by decide +kernel
theorem dX9_rate_111 : decode cX9_rate 111 = .ok (.iadd, 1) := by decide +kernel
theorem dX9_rate_112 : decode cX9_rate 112 = .ok (.istore 4, 2) := by decide +kernel
theorem dX9_rate_114 : decode cX9_rate 114 = .ok (.iload_n 3, 1) := by decide +kernel
theorem dX9_rate_115 : decode cX9_rate 115 = .ok (.aload_n 0, 1) := by decide +kernel
theorem dX9_rate_116 : decode cX9_rate 116 = .ok (.getfield 35, 3) := by decide +kernel
theorem dX9_rate_119 : decode cX9_rate 119 = .ok (.bipush 32, 2) := by decide +kernel
theorem dX9_rate_121 : decode cX9_rate 121 = .ok (.iload_n 2, 1) := by decide +kernel
theorem dX9_rate_122 : decode cX9_rate 122 = .ok (.iadd, 1) := by decide +kernel
theorem dX9_rate_123 : decode cX9_rate 123 = .ok (.iaload, 1) := by decide +kernel
theorem dX9_rate_124 : decode cX9_rate 124 = .ok (.isub, 1) := by decide +kernel
theorem dX9_rate_125 : decode cX9_rate 125 = .ok (.istore 5, 2) := by decide +kernel
theorem dX9_rate_127 : decode cX9_rate 127 = .ok (.iload_n 1, 1) := by decide +kernel
theorem dX9_rate_128 : decode cX9_rate 128 = .ok (.ifCond .ne 7, 3) := by decide +kernel
theorem dX9_rate_131 : decode cX9_rate 131 = .ok (.iload_n 3, 1) := by decide +kernel
theorem dX9_rate_132 : decode cX9_rate 132 = .ok (.goto 60, 3) := by decide +kernel
theorem dX9_rate_135 : decode cX9_rate 135 = .ok (.iload_n 1, 1) := by decide +kernel
theorem dX9_rate_136 : decode cX9_rate 136 = .ok (.iconst 1, 1) := by decide +kernel
theorem dX9_rate_137 : decode cX9_rate 137 = .ok (.if_icmp .ne 8, 3) := by decide +kernel
theorem dX9_rate_140 : decode cX9_rate 140 = .ok (.iload 4, 2) := by decide +kernel
theorem dX9_rate_142 : decode cX9_rate 142 = .ok (.goto 50, 3) := by decide +kernel
theorem dX9_rate_145 : decode cX9_rate 145 = .ok (.iload_n 1, 1) := by decide +kernel
theorem dX9_rate_146 : decode cX9_rate 146 = .ok (.iconst 2, 1) := by decide +kernel
theorem dX9_rate_147 : decode cX9_rate 147 = .ok (.if_icmp .ne 8, 3) := by decide +kernel
theorem dX9_rate_150 : decode cX9_rate 150 = .ok (.iload 5, 2) := by decide +kernel
theorem dX9_rate_152 : decode cX9_rate 152 = .ok (.goto 40, 3) := by decide +kernel
theorem dX9_rate_155 : decode cX9_rate 155 = .ok (.iload_n 1, 1) := by decide +kernel
theorem dX9_rate_156 : decode cX9_rate 156 = .ok (.iconst 3, 1) := by decide +kernel
theorem dX9_rate_157 : decode cX9_rate 157 = .ok (.if_icmp .ne 10, 3) := by decide +kernel
theorem dX9_rate_160 : decode cX9_rate 160 = .ok (.iconst 2, 1) := by decide +kernel
theorem dX9_rate_161 : decode cX9_rate 161 = .ok (.iload 4, 2) := by decide +kernel
theorem dX9_rate_163 : decode cX9_rate 163 = .ok (.imul, 1) := by decide +kernel
theorem dX9_rate_164 : decode cX9_rate 164 = .ok (.goto 28, 3) := by decide +kernel
theorem dX9_rate_167 : decode cX9_rate 167 = .ok (.iload_n 1, 1) := by decide +kernel
theorem dX9_rate_168 : decode cX9_rate 168 = .ok (.iconst 4, 1) := by decide +kernel
theorem dX9_rate_169 : decode cX9_rate 169 = .ok (.if_icmp .ne 15, 3) := by decide +kernel
theorem dX9_rate_172 : decode cX9_rate 172 = .ok (.iload 5, 2) := by decide +kernel
theorem dX9_rate_174 : decode cX9_rate 174 = .ok (.aload_n 0, 1) := by decide +kernel
theorem dX9_rate_175 : decode cX9_rate 175 = .ok (.getfield 19, 3) := by decide +kernel
theorem dX9_rate_178 : decode cX9_rate 178 = .ok (.iconst 1, 1) := by decide +kernel
theorem dX9_rate_179 : decode cX9_rate 179 = .ok (.iaload, 1) := by decide +kernel
theorem dX9_rate_180 : decode cX9_rate 180 = .ok (.iadd, 1) := by decide +kernel
theorem dX9_rate_181 : decode cX9_rate 181 = .ok (.goto 11, 3) := by decide +kernel
theorem dX9_rate_184 : decode cX9_rate 184 = .ok (.iload_n 3, 1) := by decide +kernel
theorem dX9_rate_185 : decode cX9_rate 185 = .ok (.aload_n 0, 1) := by decide +kernel
theorem dX9_rate_186 : decode cX9_rate 186 = .ok (.getfield 19, 3) := by decide +kernel
theorem dX9_rate_189 : decode cX9_rate 189 = .ok (.iconst 0, 1) := by decide +kernel
theorem dX9_rate_190 : decode cX9_rate 190 = .ok (.iaload, 1) := by decide +kernel
theorem dX9_rate_191 : decode cX9_rate 191 = .ok (.iadd, 1) := by decide +kernel
theorem dX9_rate_192 : decode cX9_rate 192 = .ok (.ireturn, 1) := by decide +kernel
theorem dX9_keep_0 : decode cX9_keep 0 = .ok (.iload_n 1, 1) := by decide +kernel
theorem dX9_keep_1 : decode cX9_keep 1 = .ok (.iconst 0, 1) := by decide +kernel
theorem dX9_keep_2 : decode cX9_keep 2 = .ok (.iconst 1, 1) := by decide +kernel
theorem dX9_keep_3 : decode cX9_keep 3 = .ok (.invokestatic 55, 3) := by decide +kernel
theorem dX9_keep_6 : decode cX9_keep 6 = .ok (.ifCond .ne 5, 3) := by decide +kernel
theorem dX9_keep_9 : decode cX9_keep 9 = .ok (.iconst (-1), 1) := by decide +kernel
theorem dX9_keep_10 : decode cX9_keep 10 = .ok (.ireturn, 1) := by decide +kernel
theorem dX9_keep_11 : decode cX9_keep 11 = .ok (.iconst 0, 1) := by decide +kernel
theorem dX9_keep_12 : decode cX9_keep 12 = .ok (.istore_n 2, 1) := by decide +kernel
theorem dX9_keep_13 : decode cX9_keep 13 = .ok (.iload_n 2, 1) := by decide +kernel
theorem dX9_keep_14 : decode cX9_keep 14 = .ok (.bipush 40, 2) := by decide +kernel
theorem dX9_keep_16 : decode cX9_keep 16 = .ok (.if_icmp .ge 26, 3) := by decide +kernel
theorem dX9_keep_19 : decode cX9_keep 19 = .ok (.aload_n 0, 1) := by decide +kernel
theorem dX9_keep_20 : decode cX9_keep 20 = .ok (.getfield 22, 3) := by decide +kernel
theorem dX9_keep_23 : decode cX9_keep 23 = .ok (.bipush 40, 2) := by decide +kernel
theorem dX9_keep_25 : decode cX9_keep 25 = .ok (.iload_n 1, 1) := by decide +kernel
theorem dX9_keep_26 : decode cX9_keep 26 = .ok (.imul, 1) := by decide +kernel
theorem dX9_keep_27 : decode cX9_keep 27 = .ok (.iload_n 2, 1) := by decide +kernel
theorem dX9_keep_28 : decode cX9_keep 28 = .ok (.iadd, 1) := by decide +kernel
theorem dX9_keep_29 : decode cX9_keep 29 = .ok (.aload_n 0, 1) := by decide +kernel
theorem dX9_keep_30 : decode cX9_keep 30 = .ok (.getfield 19, 3) := by decide +kernel
theorem dX9_keep_33 : decode cX9_keep 33 = .ok (.iload_n 2, 1) := by decide +kernel
theorem dX9_keep_34 : decode cX9_keep 34 = .ok (.iaload, 1) := by decide +kernel
theorem dX9_keep_35 : decode cX9_keep 35 = .ok (.iastore, 1) := by decide +kernel
theorem dX9_keep_36 : decode cX9_keep 36 = .ok (.iinc 2 1, 3) := by decide +kernel
theorem dX9_keep_39 : decode cX9_keep 39 = .ok (.goto (-26), 3) := by decide +kernel
theorem dX9_keep_42 : decode cX9_keep 42 = .ok (.aload_n 0, 1) := by decide +kernel
theorem dX9_keep_43 : decode cX9_keep 43 = .ok (.getfield 25, 3) := by decide +kernel
theorem dX9_keep_46 : decode cX9_keep 46 = .ok (.iload_n 1, 1) := by decide +kernel
theorem dX9_keep_47 : decode cX9_keep 47 = .ok (.iconst 1, 1) := by decide +kernel
theorem dX9_keep_48 : decode cX9_keep 48 = .ok (.bastore, 1) := by decide +kernel
theorem dX9_keep_49 : decode cX9_keep 49 = .ok (.aload_n 0, 1) := by decide +kernel
theorem dX9_keep_50 : decode cX9_keep 50 = .ok (.getfield 19, 3) := by decide +kernel
theorem dX9_keep_53 : decode cX9_keep 53 = .ok (.iconst 0, 1) := by decide +kernel
theorem dX9_keep_54 : decode cX9_keep 54 = .ok (.iaload, 1) := by decide +kernel
theorem dX9_keep_55 : decode cX9_keep 55 = .ok (.ireturn, 1) := by decide +kernel
theorem dX9_back_0 : decode cX9_back 0 = .ok (.iload_n 1, 1) := by decide +kernel
theorem dX9_back_1 : decode cX9_back 1 = .ok (.iconst 0, 1) := by decide +kernel
theorem dX9_back_2 : decode cX9_back 2 = .ok (.iconst 1, 1) := by decide +kernel
theorem dX9_back_3 : decode cX9_back 3 = .ok (.invokestatic 55, 3) := by decide +kernel
theorem dX9_back_6 : decode cX9_back 6 = .ok (.ifCond .ne 5, 3) := by decide +kernel
theorem dX9_back_9 : decode cX9_back 9 = .ok (.iconst (-1), 1) := by decide +kernel
theorem dX9_back_10 : decode cX9_back 10 = .ok (.ireturn, 1) := by decide +kernel
theorem dX9_back_11 : decode cX9_back 11 = .ok (.aload_n 0, 1) := by decide +kernel
theorem dX9_back_12 : decode cX9_back 12 = .ok (.getfield 25, 3) := by decide +kernel
theorem dX9_back_15 : decode cX9_back 15 = .ok (.iload_n 1, 1) := by decide +kernel
theorem dX9_back_16 : decode cX9_back 16 = .ok (.baload, 1) := by decide +kernel
theorem dX9_back_17 : decode cX9_back 17 = .ok (.ifCond .ne 6, 3) := by decide +kernel
theorem dX9_back_20 : decode cX9_back 20 = .ok (.bipush (-2), 2) := by decide +kernel
theorem dX9_back_22 : decode cX9_back 22 = .ok (.ireturn, 1) := by decide +kernel
theorem dX9_back_23 : decode cX9_back 23 = .ok (.iconst 0, 1) := by decide +kernel
theorem dX9_back_24 : decode cX9_back 24 = .ok (.istore_n 2, 1) := by decide +kernel
theorem dX9_back_25 : decode cX9_back 25 = .ok (.iload_n 2, 1) := by decide +kernel
theorem dX9_back_26 : decode cX9_back 26 = .ok (.bipush 40, 2) := by decide +kernel
theorem dX9_back_28 : decode cX9_back 28 = .ok (.if_icmp .ge 26, 3) := by decide +kernel
theorem dX9_back_31 : decode cX9_back 31 = .ok (.aload_n 0, 1) := by decide +kernel
theorem dX9_back_32 : decode cX9_back 32 = .ok (.getfield 19, 3) := by decide +kernel
theorem dX9_back_35 : decode cX9_back 35 = .ok (.iload_n 2, 1) := by decide +kernel
theorem dX9_back_36 : decode cX9_back 36 = .ok (.aload_n 0, 1) := by decide +kernel
theorem dX9_back_37 : decode cX9_back 37 = .ok (.getfield 22, 3) := by decide +kernel
theorem dX9_back_40 : decode cX9_back 40 = .ok (.bipush 40, 2) := by decide +kernel
theorem dX9_back_42 : decode cX9_back 42 = .ok (.iload_n 1, 1) := by decide +kernel
theorem dX9_back_43 : decode cX9_back 43 = .ok (.imul, 1) := by decide +kernel
theorem dX9_back_44 : decode cX9_back 44 = .ok (.iload_n 2, 1) := by decide +kernel
theorem dX9_back_45 : decode cX9_back 45 = .ok (.iadd, 1) := by decide +kernel
theorem dX9_back_46 : decode cX9_back 46 = .ok (.iaload, 1) := by decide +kernel
theorem dX9_back_47 : decode cX9_back 47 = .ok (.iastore, 1) := by decide +kernel
theorem dX9_back_48 : decode cX9_back 48 = .ok (.iinc 2 1, 3) := by decide +kernel
theorem dX9_back_51 : decode cX9_back 51 = .ok (.goto (-26), 3) := by decide +kernel
theorem dX9_back_54 : decode cX9_back 54 = .ok (.aload_n 0, 1) := by decide +kernel
theorem dX9_back_55 : decode cX9_back 55 = .ok (.getfield 19, 3) := by decide +kernel
theorem dX9_back_58 : decode cX9_back 58 = .ok (.iconst 0, 1) := by decide +kernel
theorem dX9_back_59 : decode cX9_back 59 = .ok (.iaload, 1) := by decide +kernel
theorem dX9_back_60 : decode cX9_back 60 = .ok (.ireturn, 1) := by decide +kernel
theorem dX9_count_0 : decode cX9_count 0 = .ok (.iload_n 1, 1) := by decide +kernel
theorem dX9_count_1 : decode cX9_count 1 = .ok (.iconst 0, 1) := by decide +kernel
theorem dX9_count_2 : decode cX9_count 2 = .ok (.bipush 7, 2) := by decide +kernel
theorem dX9_count_4 : decode cX9_count 4 = .ok (.invokestatic 55, 3) := by decide +kernel
theorem dX9_count_7 : decode cX9_count 7 = .ok (.ifCond .ne 5, 3) := by decide +kernel
theorem dX9_count_10 : decode cX9_count 10 = .ok (.iconst (-1), 1) := by decide +kernel
theorem dX9_count_11 : decode cX9_count 11 = .ok (.ireturn, 1) := by decide +kernel
theorem dX9_count_12 : decode cX9_count 12 = .ok (.iload_n 1, 1) := by decide +kernel
theorem dX9_count_13 : decode cX9_count 13 = .ok (.ifCond .ne 12, 3) := by decide +kernel
theorem dX9_count_16 : decode cX9_count 16 = .ok (.aload_n 0, 1) := by decide +kernel
theorem dX9_count_17 : decode cX9_count 17 = .ok (.getfield 13, 3) := by decide +kernel
theorem dX9_count_20 : decode cX9_count 20 = .ok (.iconst 0, 1) := by decide +kernel
theorem dX9_count_21 : decode cX9_count 21 = .ok (.iaload, 1) := by decide +kernel
theorem dX9_count_22 : decode cX9_count 22 = .ok (.goto 37, 3) := by decide +kernel
theorem dX9_count_25 : decode cX9_count 25 = .ok (.iload_n 1, 1) := by decide +kernel
theorem dX9_count_26 : decode cX9_count 26 = .ok (.iconst 1, 1) := by decide +kernel
theorem dX9_count_27 : decode cX9_count 27 = .ok (.if_icmp .ne 12, 3) := by decide +kernel
theorem dX9_count_30 : decode cX9_count 30 = .ok (.aload_n 0, 1) := by decide +kernel
theorem dX9_count_31 : decode cX9_count 31 = .ok (.getfield 13, 3) := by decide +kernel
theorem dX9_count_34 : decode cX9_count 34 = .ok (.iconst 1, 1) := by decide +kernel
theorem dX9_count_35 : decode cX9_count 35 = .ok (.iaload, 1) := by decide +kernel
theorem dX9_count_36 : decode cX9_count 36 = .ok (.goto 23, 3) := by decide +kernel
theorem dX9_count_39 : decode cX9_count 39 = .ok (.iload_n 1, 1) := by decide +kernel
theorem dX9_count_40 : decode cX9_count 40 = .ok (.iconst 2, 1) := by decide +kernel
theorem dX9_count_41 : decode cX9_count 41 = .ok (.if_icmp .ne 12, 3) := by decide +kernel
theorem dX9_count_44 : decode cX9_count 44 = .ok (.aload_n 0, 1) := by decide +kernel
theorem dX9_count_45 : decode cX9_count 45 = .ok (.getfield 13, 3) := by decide +kernel
theorem dX9_count_48 : decode cX9_count 48 = .ok (.iconst 3, 1) := by decide +kernel
theorem dX9_count_49 : decode cX9_count 49 = .ok (.iaload, 1) := by decide +kernel
theorem dX9_count_50 : decode cX9_count 50 = .ok (.goto 9, 3) := by decide +kernel
theorem dX9_count_53 : decode cX9_count 53 = .ok (.aload_n 0, 1) := by decide +kernel
theorem dX9_count_54 : decode cX9_count 54 = .ok (.getfield 13, 3) := by decide +kernel
theorem dX9_count_57 : decode cX9_count 57 = .ok (.iconst 2, 1) := by decide +kernel
theorem dX9_count_58 : decode cX9_count 58 = .ok (.iaload, 1) := by decide +kernel
theorem dX9_count_59 : decode cX9_count 59 = .ok (.istore_n 2, 1) := by decide +kernel
theorem dX9_count_60 : decode cX9_count 60 = .ok (.iload_n 1, 1) := by decide +kernel
theorem dX9_count_61 : decode cX9_count 61 = .ok (.iconst 4, 1) := by decide +kernel
theorem dX9_count_62 : decode cX9_count 62 = .ok (.if_icmp .ge 7, 3) := by decide +kernel
theorem dX9_count_65 : decode cX9_count 65 = .ok (.iload_n 2, 1) := by decide +kernel
theorem dX9_count_66 : decode cX9_count 66 = .ok (.goto 48, 3) := by decide +kernel
theorem dX9_count_69 : decode cX9_count 69 = .ok (.iload_n 1, 1) := by decide +kernel
theorem dX9_count_70 : decode cX9_count 70 = .ok (.iconst 4, 1) := by decide +kernel
theorem dX9_count_71 : decode cX9_count 71 = .ok (.if_icmp .ne 10, 3) := by decide +kernel
theorem dX9_count_74 : decode cX9_count 74 = .ok (.aload_n 0, 1) := by decide +kernel
theorem dX9_count_75 : decode cX9_count 75 = .ok (.getfield 126, 3) := by decide +kernel
theorem dX9_count_78 : decode cX9_count 78 = .ok (.goto 36, 3) := by decide +kernel
theorem dX9_count_81 : decode cX9_count 81 = .ok (.iload_n 1, 1) := by decide +kernel
theorem dX9_count_82 : decode cX9_count 82 = .ok (.iconst 5, 1) := by decide +kernel
theorem dX9_count_83 : decode cX9_count 83 = .ok (.if_icmp .ne 12, 3) := by decide +kernel
theorem dX9_count_86 : decode cX9_count 86 = .ok (.aload_n 0, 1) := by decide +kernel
theorem dX9_count_87 : decode cX9_count 87 = .ok (.getfield 19, 3) := by decide +kernel
theorem dX9_count_90 : decode cX9_count 90 = .ok (.iconst 0, 1) := by decide +kernel
theorem dX9_count_91 : decode cX9_count 91 = .ok (.iaload, 1) := by decide +kernel
theorem dX9_count_92 : decode cX9_count 92 = .ok (.goto 22, 3) := by decide +kernel
theorem dX9_count_95 : decode cX9_count 95 = .ok (.iload_n 1, 1) := by decide +kernel
theorem dX9_count_96 : decode cX9_count 96 = .ok (.bipush 6, 2) := by decide +kernel
theorem dX9_count_98 : decode cX9_count 98 = .ok (.if_icmp .ne 12, 3) := by decide +kernel
theorem dX9_count_101 : decode cX9_count 101 = .ok (.aload_n 0, 1) := by decide +kernel
theorem dX9_count_102 : decode cX9_count 102 = .ok (.getfield 19, 3) := by decide +kernel
theorem dX9_count_105 : decode cX9_count 105 = .ok (.iconst 1, 1) := by decide +kernel
theorem dX9_count_106 : decode cX9_count 106 = .ok (.iaload, 1) := by decide +kernel
theorem dX9_count_107 : decode cX9_count 107 = .ok (.goto 7, 3) := by decide +kernel
theorem dX9_count_110 : decode cX9_count 110 = .ok (.aload_n 0, 1) := by decide +kernel
theorem dX9_count_111 : decode cX9_count 111 = .ok (.getfield 63, 3) := by decide +kernel
theorem dX9_count_114 : decode cX9_count 114 = .ok (.ireturn, 1) := by decide +kernel
theorem dX9_trace_0 : decode cX9_trace 0 = .ok (.aload_n 0, 1) := by decide +kernel
theorem dX9_trace_1 : decode cX9_trace 1 = .ok (.getfield 197, 3) := by decide +kernel
theorem dX9_trace_4 : decode cX9_trace 4 = .ok (.lreturn, 1) := by decide +kernel
theorem dJ9_abs_0f7a4_0 : decode cJ9_abs_0f7a4 0 = .ok (.iload_n 0, 1) := by decide +kernel
theorem dJ9_abs_0f7a4_1 : decode cJ9_abs_0f7a4 1 = .ok (.ifCond .ge 8, 3) := by decide +kernel
theorem dJ9_abs_0f7a4_4 : decode cJ9_abs_0f7a4 4 = .ok (.iload_n 0, 1) := by decide +kernel
theorem dJ9_abs_0f7a4_5 : decode cJ9_abs_0f7a4 5 = .ok (.ineg, 1) := by decide +kernel
theorem dJ9_abs_0f7a4_6 : decode cJ9_abs_0f7a4 6 = .ok (.goto 4, 3) := by decide +kernel
theorem dJ9_abs_0f7a4_9 : decode cJ9_abs_0f7a4 9 = .ok (.iload_n 0, 1) := by decide +kernel
theorem dJ9_abs_0f7a4_10 : decode cJ9_abs_0f7a4 10 = .ok (.ireturn, 1) := by decide +kernel
theorem dJ9_max_7cf53_0 : decode cJ9_max_7cf53 0 = .ok (.iload_n 0, 1) := by decide +kernel
theorem dJ9_max_7cf53_1 : decode cJ9_max_7cf53 1 = .ok (.iload_n 1, 1) := by decide +kernel
theorem dJ9_max_7cf53_2 : decode cJ9_max_7cf53 2 = .ok (.if_icmp .lt 7, 3) := by decide +kernel
theorem dJ9_max_7cf53_5 : decode cJ9_max_7cf53 5 = .ok (.iload_n 0, 1) := by decide +kernel
theorem dJ9_max_7cf53_6 : decode cJ9_max_7cf53 6 = .ok (.goto 4, 3) := by decide +kernel
theorem dJ9_max_7cf53_9 : decode cJ9_max_7cf53 9 = .ok (.iload_n 1, 1) := by decide +kernel
theorem dJ9_max_7cf53_10 : decode cJ9_max_7cf53 10 = .ok (.ireturn, 1) := by decide +kernel
theorem dJ9_min_7cf53_0 : decode cJ9_min_7cf53 0 = .ok (.iload_n 0, 1) := by decide +kernel
theorem dJ9_min_7cf53_1 : decode cJ9_min_7cf53 1 = .ok (.iload_n 1, 1) := by decide +kernel
theorem dJ9_min_7cf53_2 : decode cJ9_min_7cf53 2 = .ok (.if_icmp .gt 7, 3) := by decide +kernel
theorem dJ9_min_7cf53_5 : decode cJ9_min_7cf53 5 = .ok (.iload_n 0, 1) := by decide +kernel
theorem dJ9_min_7cf53_6 : decode cJ9_min_7cf53 6 = .ok (.goto 4, 3) := by decide +kernel
theorem dJ9_min_7cf53_9 : decode cJ9_min_7cf53 9 = .ok (.iload_n 1, 1) := by decide +kernel
theorem dJ9_min_7cf53_10 : decode cJ9_min_7cf53 10 = .ok (.ireturn, 1) := by decide +kernel
theorem dJ0_length_8abf5_0 : decode cJ0_length_8abf5 0 = .ok (.aload_n 0, 1) := by decide +kernel
theorem dJ0_length_8abf5_1 : decode cJ0_length_8abf5 1 = .ok (.getfield 9, 3) := by decide +kernel
theorem dJ0_length_8abf5_4 : decode cJ0_length_8abf5 4 = .ok (.arraylength, 1) := by decide +kernel
theorem dJ0_length_8abf5_5 : decode cJ0_length_8abf5 5 = .ok (.aload_n 0, 1) := by decide +kernel
theorem dJ0_length_8abf5_6 : decode cJ0_length_8abf5 6 = .ok (.invokevirtual 335, 3) := by decide +kernel
theorem dJ0_length_8abf5_9 : decode cJ0_length_8abf5 9 = .ok (.ishr, 1) := by decide +kernel
theorem dJ0_length_8abf5_10 : decode cJ0_length_8abf5 10 = .ok (.ireturn, 1) := by decide +kernel
theorem dJ0_charAt_5068e_0 : decode cJ0_charAt_5068e 0 = .ok (.aload_n 0, 1) := by decide +kernel
theorem dJ0_charAt_5068e_1 : decode cJ0_charAt_5068e 1 = .ok (.invokevirtual 492, 3) := by decide +kernel
theorem dJ0_charAt_5068e_4 : decode cJ0_charAt_5068e 4 = .ok (.ifCond .eq 12, 3) := by decide +kernel
theorem dJ0_charAt_5068e_7 : decode cJ0_charAt_5068e 7 = .ok (.aload_n 0, 1) := by decide +kernel
theorem dJ0_charAt_5068e_8 : decode cJ0_charAt_5068e 8 = .ok (.getfield 9, 3) := by decide +kernel
theorem dJ0_charAt_5068e_11 : decode cJ0_charAt_5068e 11 = .ok (.iload_n 1, 1) := by decide +kernel
theorem dJ0_charAt_5068e_12 : decode cJ0_charAt_5068e 12 = .ok (.invokestatic 495, 3) := by decide +kernel
theorem dJ0_charAt_5068e_15 : decode cJ0_charAt_5068e 15 = .ok (.ireturn, 1) := by decide +kernel
theorem dJ0_charAt_5068e_16 : decode cJ0_charAt_5068e 16 = .ok (.aload_n 0, 1) := by decide +kernel
theorem dJ0_charAt_5068e_17 : decode cJ0_charAt_5068e 17 = .ok (.getfield 9, 3) := by decide +kernel
theorem dJ0_charAt_5068e_20 : decode cJ0_charAt_5068e 20 = .ok (.iload_n 1, 1) := by decide +kernel
theorem dJ0_charAt_5068e_21 : decode cJ0_charAt_5068e 21 = .ok (.invokestatic 498, 3) := by decide +kernel
theorem dJ0_charAt_5068e_24 : decode cJ0_charAt_5068e 24 = .ok (.ireturn, 1) := by decide +kernel
theorem dJ0_coder_7d493_0 : decode cJ0_coder_7d493 0 = .ok (.getstatic 38, 3) := by decide +kernel
theorem dJ0_coder_7d493_3 : decode cJ0_coder_7d493 3 = .ok (.ifCond .eq 10, 3) := by decide +kernel
theorem dJ0_coder_7d493_6 : decode cJ0_coder_7d493 6 = .ok (.aload_n 0, 1) := by decide +kernel
theorem dJ0_coder_7d493_7 : decode cJ0_coder_7d493 7 = .ok (.getfield 15, 3) := by decide +kernel
theorem dJ0_coder_7d493_10 : decode cJ0_coder_7d493 10 = .ok (.goto 4, 3) := by decide +kernel
theorem dJ0_coder_7d493_13 : decode cJ0_coder_7d493 13 = .ok (.iconst 1, 1) := by decide +kernel
theorem dJ0_coder_7d493_14 : decode cJ0_coder_7d493 14 = .ok (.ireturn, 1) := by decide +kernel
theorem dJ0_isLatin1_aae02_0 : decode cJ0_isLatin1_aae02 0 = .ok (.getstatic 38, 3) := by decide +kernel
theorem dJ0_isLatin1_aae02_3 : decode cJ0_isLatin1_aae02 3 = .ok (.ifCond .eq 14, 3) := by decide +kernel
theorem dJ0_isLatin1_aae02_6 : decode cJ0_isLatin1_aae02 6 = .ok (.aload_n 0, 1) := by decide +kernel
theorem dJ0_isLatin1_aae02_7 : decode cJ0_isLatin1_aae02 7 = .ok (.getfield 15, 3) := by decide +kernel
theorem dJ0_isLatin1_aae02_10 : decode cJ0_isLatin1_aae02 10 = .ok (.ifCond .ne 7, 3) := by decide +kernel
theorem dJ0_isLatin1_aae02_13 : decode cJ0_isLatin1_aae02 13 = .ok (.iconst 1, 1) := by decide +kernel
theorem dJ0_isLatin1_aae02_14 : decode cJ0_isLatin1_aae02 14 = .ok (.goto 4, 3) := by decide +kernel
theorem dJ0_isLatin1_aae02_17 : decode cJ0_isLatin1_aae02 17 = .ok (.iconst 0, 1) := by decide +kernel
theorem dJ0_isLatin1_aae02_18 : decode cJ0_isLatin1_aae02 18 = .ok (.ireturn, 1) := by decide +kernel
theorem dJ0_checkIndex_df160_0 : decode cJ0_checkIndex_df160 0 = .ok (.iload_n 0, 1) := by decide +kernel
theorem dJ0_checkIndex_df160_1 : decode cJ0_checkIndex_df160 1 = .ok (.iload_n 1, 1) := by decide +kernel
theorem dJ0_checkIndex_df160_2 : decode cJ0_checkIndex_df160 2 = .ok (.getstatic 1053, 3) := by decide +kernel
theorem dJ0_checkIndex_df160_5 : decode cJ0_checkIndex_df160 5 = .ok (.invokestatic 1059, 3) := by decide +kernel
theorem dJ0_checkIndex_df160_8 : decode cJ0_checkIndex_df160 8 = .ok (.pop, 1) := by decide +kernel
theorem dJ0_checkIndex_df160_9 : decode cJ0_checkIndex_df160 9 = .ok (.return_, 1) := by decide +kernel
theorem dJ1_charAt_3b067_0 : decode cJ1_charAt_3b067 0 = .ok (.iload_n 1, 1) := by decide +kernel
theorem dJ1_charAt_3b067_1 : decode cJ1_charAt_3b067 1 = .ok (.aload_n 0, 1) := by decide +kernel
theorem dJ1_charAt_3b067_2 : decode cJ1_charAt_3b067 2 = .ok (.arraylength, 1) := by decide +kernel
theorem dJ1_charAt_3b067_3 : decode cJ1_charAt_3b067 3 = .ok (.invokestatic 9, 3) := by decide +kernel
theorem dJ1_charAt_3b067_6 : decode cJ1_charAt_3b067 6 = .ok (.aload_n 0, 1) := by decide +kernel
theorem dJ1_charAt_3b067_7 : decode cJ1_charAt_3b067 7 = .ok (.iload_n 1, 1) := by decide +kernel
theorem dJ1_charAt_3b067_8 : decode cJ1_charAt_3b067 8 = .ok (.baload, 1) := by decide +kernel
theorem dJ1_charAt_3b067_9 : decode cJ1_charAt_3b067 9 = .ok (.sipush 255, 3) := by decide +kernel
theorem dJ1_charAt_3b067_12 : decode cJ1_charAt_3b067 12 = .ok (.iand, 1) := by decide +kernel
theorem dJ1_charAt_3b067_13 : decode cJ1_charAt_3b067 13 = .ok (.i2c, 1) := by decide +kernel
theorem dJ1_charAt_3b067_14 : decode cJ1_charAt_3b067 14 = .ok (.ireturn, 1) := by decide +kernel
theorem dJ2_getChar_3b067_0 : decode cJ2_getChar_3b067 0 = .ok (.getstatic 44, 3) := by decide +kernel
theorem dJ2_getChar_3b067_3 : decode cJ2_getChar_3b067 3 = .ok (.ifCond .ne 25, 3) := by decide +kernel
theorem dJ2_getChar_3b067_6 : decode cJ2_getChar_3b067 6 = .ok (.iload_n 1, 1) := by decide +kernel
theorem dJ2_getChar_3b067_7 : decode cJ2_getChar_3b067 7 = .ok (.ifCond .lt 11, 3) := by decide +kernel
theorem dJ2_getChar_3b067_10 : decode cJ2_getChar_3b067 10 = .ok (.iload_n 1, 1) := by decide +kernel
theorem dJ2_getChar_3b067_11 : decode cJ2_getChar_3b067 11 = .ok (.aload_n 0, 1) := by decide +kernel
theorem dJ2_getChar_3b067_12 : decode cJ2_getChar_3b067 12 = .ok (.invokestatic 48, 3) := by decide +kernel
theorem dJ2_getChar_3b067_15 : decode cJ2_getChar_3b067 15 = .ok (.if_icmp .lt 13, 3) := by decide +kernel
theorem dJ2_getChar_3b067_18 : decode cJ2_getChar_3b067 18 = .ok (.new 52, 3) := by decide +kernel
theorem dJ2_getChar_3b067_21 : decode cJ2_getChar_3b067 21 = .ok (.dup, 1) := by decide +kernel
theorem dJ2_getChar_3b067_22 : decode cJ2_getChar_3b067 22 = .ok (.ldc 54, 2) := by decide +kernel
theorem dJ2_getChar_3b067_24 : decode cJ2_getChar_3b067 24 = .ok (.invokespecial 56, 3) := by decide +kernel
theorem dJ2_getChar_3b067_27 : decode cJ2_getChar_3b067 27 = .ok (.athrow, 1) := by decide +kernel
theorem dJ2_getChar_3b067_28 : decode cJ2_getChar_3b067 28 = .ok (.iload_n 1, 1) := by decide +kernel
theorem dJ2_getChar_3b067_29 : decode cJ2_getChar_3b067 29 = .ok (.iconst 1, 1) := by decide +kernel
theorem dJ2_getChar_3b067_30 : decode cJ2_getChar_3b067 30 = .ok (.ishl, 1) := by decide +kernel
theorem dJ2_getChar_3b067_31 : decode cJ2_getChar_3b067 31 = .ok (.istore_n 1, 1) := by decide +kernel
theorem dJ2_getChar_3b067_32 : decode cJ2_getChar_3b067 32 = .ok (.aload_n 0, 1) := by decide +kernel
theorem dJ2_getChar_3b067_33 : decode cJ2_getChar_3b067 33 = .ok (.iload_n 1, 1) := by decide +kernel
theorem dJ2_getChar_3b067_34 : decode cJ2_getChar_3b067 34 = .ok (.iinc 1 1, 3) := by decide +kernel
theorem dJ2_getChar_3b067_37 : decode cJ2_getChar_3b067 37 = .ok (.baload, 1) := by decide +kernel
theorem dJ2_getChar_3b067_38 : decode cJ2_getChar_3b067 38 = .ok (.sipush 255, 3) := by decide +kernel
theorem dJ2_getChar_3b067_41 : decode cJ2_getChar_3b067 41 = .ok (.iand, 1) := by decide +kernel
theorem dJ2_getChar_3b067_42 : decode cJ2_getChar_3b067 42 = .ok (.getstatic 59, 3) := by decide +kernel
theorem dJ2_getChar_3b067_45 : decode cJ2_getChar_3b067 45 = .ok (.ishl, 1) := by decide +kernel
theorem dJ2_getChar_3b067_46 : decode cJ2_getChar_3b067 46 = .ok (.aload_n 0, 1) := by decide +kernel
theorem dJ2_getChar_3b067_47 : decode cJ2_getChar_3b067 47 = .ok (.iload_n 1, 1) := by decide +kernel
theorem dJ2_getChar_3b067_48 : decode cJ2_getChar_3b067 48 = .ok (.baload, 1) := by decide +kernel
theorem dJ2_getChar_3b067_49 : decode cJ2_getChar_3b067 49 = .ok (.sipush 255, 3) := by decide +kernel
theorem dJ2_getChar_3b067_52 : decode cJ2_getChar_3b067 52 = .ok (.iand, 1) := by decide +kernel
theorem dJ2_getChar_3b067_53 : decode cJ2_getChar_3b067 53 = .ok (.getstatic 63, 3) := by decide +kernel
theorem dJ2_getChar_3b067_56 : decode cJ2_getChar_3b067 56 = .ok (.ishl, 1) := by decide +kernel
theorem dJ2_getChar_3b067_57 : decode cJ2_getChar_3b067 57 = .ok (.ior, 1) := by decide +kernel
theorem dJ2_getChar_3b067_58 : decode cJ2_getChar_3b067 58 = .ok (.i2c, 1) := by decide +kernel
theorem dJ2_getChar_3b067_59 : decode cJ2_getChar_3b067 59 = .ok (.ireturn, 1) := by decide +kernel
theorem dJ2_length_9d52b_0 : decode cJ2_length_9d52b 0 = .ok (.aload_n 0, 1) := by decide +kernel
theorem dJ2_length_9d52b_1 : decode cJ2_length_9d52b 1 = .ok (.arraylength, 1) := by decide +kernel
theorem dJ2_length_9d52b_2 : decode cJ2_length_9d52b 2 = .ok (.iconst 1, 1) := by decide +kernel
theorem dJ2_length_9d52b_3 : decode cJ2_length_9d52b 3 = .ok (.ishr, 1) := by decide +kernel
theorem dJ2_length_9d52b_4 : decode cJ2_length_9d52b 4 = .ok (.ireturn, 1) := by decide +kernel
theorem dJ2_charAt_3b067_0 : decode cJ2_charAt_3b067 0 = .ok (.iload_n 1, 1) := by decide +kernel
theorem dJ2_charAt_3b067_1 : decode cJ2_charAt_3b067 1 = .ok (.aload_n 0, 1) := by decide +kernel
theorem dJ2_charAt_3b067_2 : decode cJ2_charAt_3b067 2 = .ok (.invokestatic 67, 3) := by decide +kernel
theorem dJ2_charAt_3b067_5 : decode cJ2_charAt_3b067 5 = .ok (.aload_n 0, 1) := by decide +kernel
theorem dJ2_charAt_3b067_6 : decode cJ2_charAt_3b067 6 = .ok (.iload_n 1, 1) := by decide +kernel
theorem dJ2_charAt_3b067_7 : decode cJ2_charAt_3b067 7 = .ok (.invokestatic 71, 3) := by decide +kernel
theorem dJ2_charAt_3b067_10 : decode cJ2_charAt_3b067 10 = .ok (.ireturn, 1) := by decide +kernel
theorem dJ2_checkIndex_2214a_0 : decode cJ2_checkIndex_2214a 0 = .ok (.iload_n 0, 1) := by decide +kernel
theorem dJ2_checkIndex_2214a_1 : decode cJ2_checkIndex_2214a 1 = .ok (.aload_n 1, 1) := by decide +kernel
theorem dJ2_checkIndex_2214a_2 : decode cJ2_checkIndex_2214a 2 = .ok (.invokestatic 48, 3) := by decide +kernel
theorem dJ2_checkIndex_2214a_5 : decode cJ2_checkIndex_2214a 5 = .ok (.invokestatic 414, 3) := by decide +kernel
theorem dJ2_checkIndex_2214a_8 : decode cJ2_checkIndex_2214a 8 = .ok (.return_, 1) := by decide +kernel
theorem dJ3_checkIndex_8e157_0 : decode cJ3_checkIndex_8e157 0 = .ok (.iload_n 0, 1) := by decide +kernel
theorem dJ3_checkIndex_8e157_1 : decode cJ3_checkIndex_8e157 1 = .ok (.ifCond .lt 8, 3) := by decide +kernel
theorem dJ3_checkIndex_8e157_4 : decode cJ3_checkIndex_8e157 4 = .ok (.iload_n 0, 1) := by decide +kernel
theorem dJ3_checkIndex_8e157_5 : decode cJ3_checkIndex_8e157 5 = .ok (.iload_n 1, 1) := by decide +kernel
theorem dJ3_checkIndex_8e157_6 : decode cJ3_checkIndex_8e157 6 = .ok (.if_icmp .lt 10, 3) := by decide +kernel
theorem dJ3_checkIndex_8e157_9 : decode cJ3_checkIndex_8e157 9 = .ok (.aload_n 2, 1) := by decide +kernel
theorem dJ3_checkIndex_8e157_10 : decode cJ3_checkIndex_8e157 10 = .ok (.iload_n 0, 1) := by decide +kernel
theorem dJ3_checkIndex_8e157_11 : decode cJ3_checkIndex_8e157 11 = .ok (.iload_n 1, 1) := by decide +kernel
theorem dJ3_checkIndex_8e157_12 : decode cJ3_checkIndex_8e157 12 = .ok (.invokestatic 95, 3) := by decide +kernel
theorem dJ3_checkIndex_8e157_15 : decode cJ3_checkIndex_8e157 15 = .ok (.athrow, 1) := by decide +kernel
theorem dJ3_checkIndex_8e157_16 : decode cJ3_checkIndex_8e157 16 = .ok (.iload_n 0, 1) := by decide +kernel
theorem dJ3_checkIndex_8e157_17 : decode cJ3_checkIndex_8e157 17 = .ok (.ireturn, 1) := by decide +kernel
theorem dL_law_0 : decode cL_law 0 = .ok (.new 7, 3) := by decide +kernel
theorem dL_law_3 : decode cL_law 3 = .ok (.dup, 1) := by decide +kernel
theorem dL_law_4 : decode cL_law 4 = .ok (.invokespecial 9, 3) := by decide +kernel
theorem dL_law_7 : decode cL_law 7 = .ok (.astore_n 1, 1) := by decide +kernel
theorem dL_law_8 : decode cL_law 8 = .ok (.new 10, 3) := by decide +kernel
theorem dL_law_11 : decode cL_law 11 = .ok (.dup, 1) := by decide +kernel
theorem dL_law_12 : decode cL_law 12 = .ok (.invokespecial 12, 3) := by decide +kernel
theorem dL_law_15 : decode cL_law 15 = .ok (.astore_n 2, 1) := by decide +kernel
theorem dL_law_16 : decode cL_law 16 = .ok (.iconst 0, 1) := by decide +kernel
theorem dL_law_17 : decode cL_law 17 = .ok (.istore_n 3, 1) := by decide +kernel
theorem dL_law_18 : decode cL_law 18 = .ok (.iload_n 3, 1) := by decide +kernel
theorem dL_law_19 : decode cL_law 19 = .ok (.aload_n 0, 1) := by decide +kernel
theorem dL_law_20 : decode cL_law 20 = .ok (.arraylength, 1) := by decide +kernel
theorem dL_law_21 : decode cL_law 21 = .ok (.iconst 5, 1) := by decide +kernel
theorem dL_law_22 : decode cL_law 22 = .ok (.isub, 1) := by decide +kernel
theorem dL_law_23 : decode cL_law 23 = .ok (.if_icmp .gt 709, 3) := by decide +kernel
theorem dL_law_26 : decode cL_law 26 = .ok (.aload_n 0, 1) := by decide +kernel
theorem dL_law_27 : decode cL_law 27 = .ok (.iload_n 3, 1) := by decide +kernel
theorem dL_law_28 : decode cL_law 28 = .ok (.iaload, 1) := by decide +kernel
theorem dL_law_29 : decode cL_law 29 = .ok (.bipush 31, 2) := by decide +kernel
theorem dL_law_31 : decode cL_law 31 = .ok (.iand, 1) := by decide +kernel
theorem dL_law_32 : decode cL_law 32 = .ok (.tableswitch 694 0 20 #[100, 163, 176, 189, 222, 265, 318, 331, 344, 377, 410, 433, 476, 509, 542, 555, 578, 611, 634, 657, 680], 100) := by decide +kernel
theorem dL_law_132 : decode cL_law 132 = .ok (.aload_n 1, 1) := by decide +kernel
theorem dL_law_133 : decode cL_law 133 = .ok (.aload_n 0, 1) := by decide +kernel
theorem dL_law_134 : decode cL_law 134 = .ok (.iload_n 3, 1) := by decide +kernel
theorem dL_law_135 : decode cL_law 135 = .ok (.iconst 1, 1) := by decide +kernel
theorem dL_law_136 : decode cL_law 136 = .ok (.iadd, 1) := by decide +kernel
theorem dL_law_137 : decode cL_law 137 = .ok (.iaload, 1) := by decide +kernel
theorem dL_law_138 : decode cL_law 138 = .ok (.i2l, 1) := by decide +kernel
theorem dL_law_139 : decode cL_law 139 = .ok (.bipush 32, 2) := by decide +kernel
theorem dL_law_141 : decode cL_law 141 = .ok (.lshl, 1) := by decide +kernel
theorem dL_law_142 : decode cL_law 142 = .ok (.aload_n 0, 1) := by decide +kernel
theorem dL_law_143 : decode cL_law 143 = .ok (.iload_n 3, 1) := by decide +kernel
theorem dL_law_144 : decode cL_law 144 = .ok (.iconst 2, 1) := by decide +kernel
theorem dL_law_145 : decode cL_law 145 = .ok (.iadd, 1) := by decide +kernel
theorem dL_law_146 : decode cL_law 146 = .ok (.iaload, 1) := by decide +kernel
theorem dL_law_147 : decode cL_law 147 = .ok (.i2l, 1) := by decide +kernel
theorem dL_law_148 : decode cL_law 148 = .ok (.ldc2_w 13, 3) := by decide +kernel
theorem dL_law_151 : decode cL_law 151 = .ok (.land, 1) := by decide +kernel
theorem dL_law_152 : decode cL_law 152 = .ok (.lor, 1) := by decide +kernel
theorem dL_law_153 : decode cL_law 153 = .ok (.aload_n 0, 1) := by decide +kernel
theorem dL_law_154 : decode cL_law 154 = .ok (.iload_n 3, 1) := by decide +kernel
theorem dL_law_155 : decode cL_law 155 = .ok (.iconst 3, 1) := by decide +kernel
theorem dL_law_156 : decode cL_law 156 = .ok (.iadd, 1) := by decide +kernel
theorem dL_law_157 : decode cL_law 157 = .ok (.iaload, 1) := by decide +kernel
theorem dL_law_158 : decode cL_law 158 = .ok (.invokevirtual 15, 3) := by decide +kernel
theorem dL_law_161 : decode cL_law 161 = .ok (.aload_n 2, 1) := by decide +kernel
theorem dL_law_162 : decode cL_law 162 = .ok (.aload_n 0, 1) := by decide +kernel
theorem dL_law_163 : decode cL_law 163 = .ok (.iload_n 3, 1) := by decide +kernel
theorem dL_law_164 : decode cL_law 164 = .ok (.iconst 1, 1) := by decide +kernel
theorem dL_law_165 : decode cL_law 165 = .ok (.iadd, 1) := by decide +kernel
theorem dL_law_166 : decode cL_law 166 = .ok (.iaload, 1) := by decide +kernel
theorem dL_law_167 : decode cL_law 167 = .ok (.i2l, 1) := by decide +kernel
theorem dL_law_168 : decode cL_law 168 = .ok (.bipush 32, 2) := by decide +kernel
theorem dL_law_170 : decode cL_law 170 = .ok (.lshl, 1) := by decide +kernel
theorem dL_law_171 : decode cL_law 171 = .ok (.aload_n 0, 1) := by decide +kernel
theorem dL_law_172 : decode cL_law 172 = .ok (.iload_n 3, 1) := by decide +kernel
theorem dL_law_173 : decode cL_law 173 = .ok (.iconst 2, 1) := by decide +kernel
theorem dL_law_174 : decode cL_law 174 = .ok (.iadd, 1) := by decide +kernel
theorem dL_law_175 : decode cL_law 175 = .ok (.iaload, 1) := by decide +kernel
theorem dL_law_176 : decode cL_law 176 = .ok (.i2l, 1) := by decide +kernel
theorem dL_law_177 : decode cL_law 177 = .ok (.ldc2_w 13, 3) := by decide +kernel
theorem dL_law_180 : decode cL_law 180 = .ok (.land, 1) := by decide +kernel
theorem dL_law_181 : decode cL_law 181 = .ok (.lor, 1) := by decide +kernel
theorem dL_law_182 : decode cL_law 182 = .ok (.aload_n 0, 1) := by decide +kernel
theorem dL_law_183 : decode cL_law 183 = .ok (.iload_n 3, 1) := by decide +kernel
theorem dL_law_184 : decode cL_law 184 = .ok (.iconst 3, 1) := by decide +kernel
theorem dL_law_185 : decode cL_law 185 = .ok (.iadd, 1) := by decide +kernel
theorem dL_law_186 : decode cL_law 186 = .ok (.iaload, 1) := by decide +kernel
theorem dL_law_187 : decode cL_law 187 = .ok (.invokevirtual 19, 3) := by decide +kernel
theorem dL_law_190 : decode cL_law 190 = .ok (.if_icmp .eq 536, 3) := by decide +kernel
theorem dL_law_193 : decode cL_law 193 = .ok (.iconst 0, 1) := by decide +kernel
theorem dL_law_194 : decode cL_law 194 = .ok (.ireturn, 1) := by decide +kernel
theorem dL_law_195 : decode cL_law 195 = .ok (.aload_n 1, 1) := by decide +kernel
theorem dL_law_196 : decode cL_law 196 = .ok (.invokevirtual 20, 3) := by decide +kernel
theorem dL_law_199 : decode cL_law 199 = .ok (.aload_n 2, 1) := by decide +kernel
theorem dL_law_200 : decode cL_law 200 = .ok (.invokevirtual 24, 3) := by decide +kernel
theorem dL_law_203 : decode cL_law 203 = .ok (.if_icmp .eq 523, 3) := by decide +kernel
theorem dL_law_206 : decode cL_law 206 = .ok (.iconst 0, 1) := by decide +kernel
theorem dL_law_207 : decode cL_law 207 = .ok (.ireturn, 1) := by decide +kernel
theorem dL_law_208 : decode cL_law 208 = .ok (.aload_n 1, 1) := by decide +kernel
theorem dL_law_209 : decode cL_law 209 = .ok (.invokevirtual 25, 3) := by decide +kernel
theorem dL_law_212 : decode cL_law 212 = .ok (.aload_n 2, 1) := by decide +kernel
theorem dL_law_213 : decode cL_law 213 = .ok (.invokevirtual 28, 3) := by decide +kernel
theorem dL_law_216 : decode cL_law 216 = .ok (.if_icmp .eq 510, 3) := by decide +kernel
theorem dL_law_219 : decode cL_law 219 = .ok (.iconst 0, 1) := by decide +kernel
theorem dL_law_220 : decode cL_law 220 = .ok (.ireturn, 1) := by decide +kernel
theorem dL_law_221 : decode cL_law 221 = .ok (.aload_n 1, 1) := by decide +kernel
theorem dL_law_222 : decode cL_law 222 = .ok (.aload_n 0, 1) := by decide +kernel
theorem dL_law_223 : decode cL_law 223 = .ok (.iload_n 3, 1) := by decide +kernel
theorem dL_law_224 : decode cL_law 224 = .ok (.iconst 1, 1) := by decide +kernel
theorem dL_law_225 : decode cL_law 225 = .ok (.iadd, 1) := by decide +kernel
theorem dL_law_226 : decode cL_law 226 = .ok (.iaload, 1) := by decide +kernel
theorem dL_law_227 : decode cL_law 227 = .ok (.aload_n 0, 1) := by decide +kernel
theorem dL_law_228 : decode cL_law 228 = .ok (.iload_n 3, 1) := by decide +kernel
theorem dL_law_229 : decode cL_law 229 = .ok (.iconst 2, 1) := by decide +kernel
theorem dL_law_230 : decode cL_law 230 = .ok (.iadd, 1) := by decide +kernel
theorem dL_law_231 : decode cL_law 231 = .ok (.iaload, 1) := by decide +kernel
theorem dL_law_232 : decode cL_law 232 = .ok (.invokevirtual 29, 3) := by decide +kernel
theorem dL_law_235 : decode cL_law 235 = .ok (.aload_n 2, 1) := by decide +kernel
theorem dL_law_236 : decode cL_law 236 = .ok (.aload_n 0, 1) := by decide +kernel
theorem dL_law_237 : decode cL_law 237 = .ok (.iload_n 3, 1) := by decide +kernel
theorem dL_law_238 : decode cL_law 238 = .ok (.iconst 1, 1) := by decide +kernel
theorem dL_law_239 : decode cL_law 239 = .ok (.iadd, 1) := by decide +kernel
theorem dL_law_240 : decode cL_law 240 = .ok (.iaload, 1) := by decide +kernel
theorem dL_law_241 : decode cL_law 241 = .ok (.aload_n 0, 1) := by decide +kernel
theorem dL_law_242 : decode cL_law 242 = .ok (.iload_n 3, 1) := by decide +kernel
theorem dL_law_243 : decode cL_law 243 = .ok (.iconst 2, 1) := by decide +kernel
theorem dL_law_244 : decode cL_law 244 = .ok (.iadd, 1) := by decide +kernel
theorem dL_law_245 : decode cL_law 245 = .ok (.iaload, 1) := by decide +kernel
theorem dL_law_246 : decode cL_law 246 = .ok (.invokevirtual 33, 3) := by decide +kernel
theorem dL_law_249 : decode cL_law 249 = .ok (.if_icmp .eq 477, 3) := by decide +kernel
theorem dL_law_252 : decode cL_law 252 = .ok (.iconst 0, 1) := by decide +kernel
theorem dL_law_253 : decode cL_law 253 = .ok (.ireturn, 1) := by decide +kernel
theorem dL_law_254 : decode cL_law 254 = .ok (.aload_n 1, 1) := by decide +kernel
theorem dL_law_255 : decode cL_law 255 = .ok (.aload_n 0, 1) := by decide +kernel
theorem dL_law_256 : decode cL_law 256 = .ok (.iload_n 3, 1) := by decide +kernel
theorem dL_law_257 : decode cL_law 257 = .ok (.iconst 1, 1) := by decide +kernel
theorem dL_law_258 : decode cL_law 258 = .ok (.iadd, 1) := by decide +kernel
theorem dL_law_259 : decode cL_law 259 = .ok (.iaload, 1) := by decide +kernel
theorem dL_law_260 : decode cL_law 260 = .ok (.aload_n 0, 1) := by decide +kernel
theorem dL_law_261 : decode cL_law 261 = .ok (.iload_n 3, 1) := by decide +kernel
theorem dL_law_262 : decode cL_law 262 = .ok (.iconst 2, 1) := by decide +kernel
theorem dL_law_263 : decode cL_law 263 = .ok (.iadd, 1) := by decide +kernel
theorem dL_law_264 : decode cL_law 264 = .ok (.iaload, 1) := by decide +kernel
theorem dL_law_265 : decode cL_law 265 = .ok (.aload_n 0, 1) := by decide +kernel
theorem dL_law_266 : decode cL_law 266 = .ok (.iload_n 3, 1) := by decide +kernel
theorem dL_law_267 : decode cL_law 267 = .ok (.iconst 3, 1) := by decide +kernel
theorem dL_law_268 : decode cL_law 268 = .ok (.iadd, 1) := by decide +kernel
theorem dL_law_269 : decode cL_law 269 = .ok (.iaload, 1) := by decide +kernel
theorem dL_law_270 : decode cL_law 270 = .ok (.invokevirtual 34, 3) := by decide +kernel
theorem dL_law_273 : decode cL_law 273 = .ok (.aload_n 2, 1) := by decide +kernel
theorem dL_law_274 : decode cL_law 274 = .ok (.aload_n 0, 1) := by decide +kernel
theorem dL_law_275 : decode cL_law 275 = .ok (.iload_n 3, 1) := by decide +kernel
theorem dL_law_276 : decode cL_law 276 = .ok (.iconst 1, 1) := by decide +kernel
theorem dL_law_277 : decode cL_law 277 = .ok (.iadd, 1) := by decide +kernel
theorem dL_law_278 : decode cL_law 278 = .ok (.iaload, 1) := by decide +kernel
theorem dL_law_279 : decode cL_law 279 = .ok (.aload_n 0, 1) := by decide +kernel
theorem dL_law_280 : decode cL_law 280 = .ok (.iload_n 3, 1) := by decide +kernel
theorem dL_law_281 : decode cL_law 281 = .ok (.iconst 2, 1) := by decide +kernel
theorem dL_law_282 : decode cL_law 282 = .ok (.iadd, 1) := by decide +kernel
theorem dL_law_283 : decode cL_law 283 = .ok (.iaload, 1) := by decide +kernel
theorem dL_law_284 : decode cL_law 284 = .ok (.aload_n 0, 1) := by decide +kernel
theorem dL_law_285 : decode cL_law 285 = .ok (.iload_n 3, 1) := by decide +kernel
theorem dL_law_286 : decode cL_law 286 = .ok (.iconst 3, 1) := by decide +kernel
theorem dL_law_287 : decode cL_law 287 = .ok (.iadd, 1) := by decide +kernel
theorem dL_law_288 : decode cL_law 288 = .ok (.iaload, 1) := by decide +kernel
theorem dL_law_289 : decode cL_law 289 = .ok (.invokevirtual 38, 3) := by decide +kernel
theorem dL_law_292 : decode cL_law 292 = .ok (.if_icmp .eq 434, 3) := by decide +kernel
theorem dL_law_295 : decode cL_law 295 = .ok (.iconst 0, 1) := by decide +kernel
theorem dL_law_296 : decode cL_law 296 = .ok (.ireturn, 1) := by decide +kernel
theorem dL_law_297 : decode cL_law 297 = .ok (.aload_n 1, 1) := by decide +kernel
theorem dL_law_298 : decode cL_law 298 = .ok (.aload_n 0, 1) := by decide +kernel
theorem dL_law_299 : decode cL_law 299 = .ok (.iload_n 3, 1) := by decide +kernel
theorem dL_law_300 : decode cL_law 300 = .ok (.iconst 1, 1) := by decide +kernel
theorem dL_law_301 : decode cL_law 301 = .ok (.iadd, 1) := by decide +kernel
theorem dL_law_302 : decode cL_law 302 = .ok (.iaload, 1) := by decide +kernel
theorem dL_law_303 : decode cL_law 303 = .ok (.aload_n 0, 1) := by decide +kernel
theorem dL_law_304 : decode cL_law 304 = .ok (.iload_n 3, 1) := by decide +kernel
theorem dL_law_305 : decode cL_law 305 = .ok (.iconst 2, 1) := by decide +kernel
theorem dL_law_306 : decode cL_law 306 = .ok (.iadd, 1) := by decide +kernel
theorem dL_law_307 : decode cL_law 307 = .ok (.iaload, 1) := by decide +kernel
theorem dL_law_308 : decode cL_law 308 = .ok (.aload_n 0, 1) := by decide +kernel
theorem dL_law_309 : decode cL_law 309 = .ok (.iload_n 3, 1) := by decide +kernel
theorem dL_law_310 : decode cL_law 310 = .ok (.iconst 3, 1) := by decide +kernel
theorem dL_law_311 : decode cL_law 311 = .ok (.iadd, 1) := by decide +kernel
theorem dL_law_312 : decode cL_law 312 = .ok (.iaload, 1) := by decide +kernel
theorem dL_law_313 : decode cL_law 313 = .ok (.aload_n 0, 1) := by decide +kernel
theorem dL_law_314 : decode cL_law 314 = .ok (.iload_n 3, 1) := by decide +kernel
theorem dL_law_315 : decode cL_law 315 = .ok (.iconst 4, 1) := by decide +kernel
theorem dL_law_316 : decode cL_law 316 = .ok (.iadd, 1) := by decide +kernel
theorem dL_law_317 : decode cL_law 317 = .ok (.iaload, 1) := by decide +kernel
theorem dL_law_318 : decode cL_law 318 = .ok (.invokevirtual 39, 3) := by decide +kernel
theorem dL_law_321 : decode cL_law 321 = .ok (.aload_n 2, 1) := by decide +kernel
theorem dL_law_322 : decode cL_law 322 = .ok (.aload_n 0, 1) := by decide +kernel
theorem dL_law_323 : decode cL_law 323 = .ok (.iload_n 3, 1) := by decide +kernel
theorem dL_law_324 : decode cL_law 324 = .ok (.iconst 1, 1) := by decide +kernel
theorem dL_law_325 : decode cL_law 325 = .ok (.iadd, 1) := by decide +kernel
theorem dL_law_326 : decode cL_law 326 = .ok (.iaload, 1) := by decide +kernel
theorem dL_law_327 : decode cL_law 327 = .ok (.aload_n 0, 1) := by decide +kernel
theorem dL_law_328 : decode cL_law 328 = .ok (.iload_n 3, 1) := by decide +kernel
theorem dL_law_329 : decode cL_law 329 = .ok (.iconst 2, 1) := by decide +kernel
theorem dL_law_330 : decode cL_law 330 = .ok (.iadd, 1) := by decide +kernel
theorem dL_law_331 : decode cL_law 331 = .ok (.iaload, 1) := by decide +kernel
theorem dL_law_332 : decode cL_law 332 = .ok (.aload_n 0, 1) := by decide +kernel
theorem dL_law_333 : decode cL_law 333 = .ok (.iload_n 3, 1) := by decide +kernel
theorem dL_law_334 : decode cL_law 334 = .ok (.iconst 3, 1) := by decide +kernel
theorem dL_law_335 : decode cL_law 335 = .ok (.iadd, 1) := by decide +kernel
theorem dL_law_336 : decode cL_law 336 = .ok (.iaload, 1) := by decide +kernel
theorem dL_law_337 : decode cL_law 337 = .ok (.aload_n 0, 1) := by decide +kernel
theorem dL_law_338 : decode cL_law 338 = .ok (.iload_n 3, 1) := by decide +kernel
theorem dL_law_339 : decode cL_law 339 = .ok (.iconst 4, 1) := by decide +kernel
theorem dL_law_340 : decode cL_law 340 = .ok (.iadd, 1) := by decide +kernel
theorem dL_law_341 : decode cL_law 341 = .ok (.iaload, 1) := by decide +kernel
theorem dL_law_342 : decode cL_law 342 = .ok (.invokevirtual 43, 3) := by decide +kernel
theorem dL_law_345 : decode cL_law 345 = .ok (.if_icmp .eq 381, 3) := by decide +kernel
theorem dL_law_348 : decode cL_law 348 = .ok (.iconst 0, 1) := by decide +kernel
theorem dL_law_349 : decode cL_law 349 = .ok (.ireturn, 1) := by decide +kernel
theorem dL_law_350 : decode cL_law 350 = .ok (.aload_n 1, 1) := by decide +kernel
theorem dL_law_351 : decode cL_law 351 = .ok (.invokevirtual 44, 3) := by decide +kernel
theorem dL_law_354 : decode cL_law 354 = .ok (.aload_n 2, 1) := by decide +kernel
theorem dL_law_355 : decode cL_law 355 = .ok (.invokevirtual 47, 3) := by decide +kernel
theorem dL_law_358 : decode cL_law 358 = .ok (.if_icmp .eq 368, 3) := by decide +kernel
theorem dL_law_361 : decode cL_law 361 = .ok (.iconst 0, 1) := by decide +kernel
theorem dL_law_362 : decode cL_law 362 = .ok (.ireturn, 1) := by decide +kernel
theorem dL_law_363 : decode cL_law 363 = .ok (.aload_n 1, 1) := by decide +kernel
theorem dL_law_364 : decode cL_law 364 = .ok (.invokevirtual 48, 3) := by decide +kernel
theorem dL_law_367 : decode cL_law 367 = .ok (.aload_n 2, 1) := by decide +kernel
theorem dL_law_368 : decode cL_law 368 = .ok (.invokevirtual 51, 3) := by decide +kernel
theorem dL_law_371 : decode cL_law 371 = .ok (.if_icmp .eq 355, 3) := by decide +kernel
theorem dL_law_374 : decode cL_law 374 = .ok (.iconst 0, 1) := by decide +kernel
theorem dL_law_375 : decode cL_law 375 = .ok (.ireturn, 1) := by decide +kernel
theorem dL_law_376 : decode cL_law 376 = .ok (.aload_n 1, 1) := by decide +kernel
theorem dL_law_377 : decode cL_law 377 = .ok (.aload_n 0, 1) := by decide +kernel
theorem dL_law_378 : decode cL_law 378 = .ok (.iload_n 3, 1) := by decide +kernel
theorem dL_law_379 : decode cL_law 379 = .ok (.iconst 1, 1) := by decide +kernel
theorem dL_law_380 : decode cL_law 380 = .ok (.iadd, 1) := by decide +kernel
theorem dL_law_381 : decode cL_law 381 = .ok (.iaload, 1) := by decide +kernel
theorem dL_law_382 : decode cL_law 382 = .ok (.aload_n 0, 1) := by decide +kernel
theorem dL_law_383 : decode cL_law 383 = .ok (.iload_n 3, 1) := by decide +kernel
theorem dL_law_384 : decode cL_law 384 = .ok (.iconst 2, 1) := by decide +kernel
theorem dL_law_385 : decode cL_law 385 = .ok (.iadd, 1) := by decide +kernel
theorem dL_law_386 : decode cL_law 386 = .ok (.iaload, 1) := by decide +kernel
theorem dL_law_387 : decode cL_law 387 = .ok (.invokevirtual 52, 3) := by decide +kernel
theorem dL_law_390 : decode cL_law 390 = .ok (.aload_n 2, 1) := by decide +kernel
theorem dL_law_391 : decode cL_law 391 = .ok (.aload_n 0, 1) := by decide +kernel
theorem dL_law_392 : decode cL_law 392 = .ok (.iload_n 3, 1) := by decide +kernel
theorem dL_law_393 : decode cL_law 393 = .ok (.iconst 1, 1) := by decide +kernel
theorem dL_law_394 : decode cL_law 394 = .ok (.iadd, 1) := by decide +kernel
theorem dL_law_395 : decode cL_law 395 = .ok (.iaload, 1) := by decide +kernel
theorem dL_law_396 : decode cL_law 396 = .ok (.aload_n 0, 1) := by decide +kernel
theorem dL_law_397 : decode cL_law 397 = .ok (.iload_n 3, 1) := by decide +kernel
theorem dL_law_398 : decode cL_law 398 = .ok (.iconst 2, 1) := by decide +kernel
theorem dL_law_399 : decode cL_law 399 = .ok (.iadd, 1) := by decide +kernel
theorem dL_law_400 : decode cL_law 400 = .ok (.iaload, 1) := by decide +kernel
theorem dL_law_401 : decode cL_law 401 = .ok (.invokevirtual 55, 3) := by decide +kernel
theorem dL_law_404 : decode cL_law 404 = .ok (.if_icmp .eq 322, 3) := by decide +kernel
theorem dL_law_407 : decode cL_law 407 = .ok (.iconst 0, 1) := by decide +kernel
theorem dL_law_408 : decode cL_law 408 = .ok (.ireturn, 1) := by decide +kernel
theorem dL_law_409 : decode cL_law 409 = .ok (.aload_n 1, 1) := by decide +kernel
theorem dL_law_410 : decode cL_law 410 = .ok (.aload_n 0, 1) := by decide +kernel
theorem dL_law_411 : decode cL_law 411 = .ok (.iload_n 3, 1) := by decide +kernel
theorem dL_law_412 : decode cL_law 412 = .ok (.iconst 1, 1) := by decide +kernel
theorem dL_law_413 : decode cL_law 413 = .ok (.iadd, 1) := by decide +kernel
theorem dL_law_414 : decode cL_law 414 = .ok (.iaload, 1) := by decide +kernel
theorem dL_law_415 : decode cL_law 415 = .ok (.aload_n 0, 1) := by decide +kernel
theorem dL_law_416 : decode cL_law 416 = .ok (.iload_n 3, 1) := by decide +kernel
theorem dL_law_417 : decode cL_law 417 = .ok (.iconst 2, 1) := by decide +kernel
theorem dL_law_418 : decode cL_law 418 = .ok (.iadd, 1) := by decide +kernel
theorem dL_law_419 : decode cL_law 419 = .ok (.iaload, 1) := by decide +kernel
theorem dL_law_420 : decode cL_law 420 = .ok (.invokevirtual 56, 3) := by decide +kernel
theorem dL_law_423 : decode cL_law 423 = .ok (.aload_n 2, 1) := by decide +kernel
theorem dL_law_424 : decode cL_law 424 = .ok (.aload_n 0, 1) := by decide +kernel
theorem dL_law_425 : decode cL_law 425 = .ok (.iload_n 3, 1) := by decide +kernel
theorem dL_law_426 : decode cL_law 426 = .ok (.iconst 1, 1) := by decide +kernel
theorem dL_law_427 : decode cL_law 427 = .ok (.iadd, 1) := by decide +kernel
theorem dL_law_428 : decode cL_law 428 = .ok (.iaload, 1) := by decide +kernel
theorem dL_law_429 : decode cL_law 429 = .ok (.aload_n 0, 1) := by decide +kernel
theorem dL_law_430 : decode cL_law 430 = .ok (.iload_n 3, 1) := by decide +kernel
theorem dL_law_431 : decode cL_law 431 = .ok (.iconst 2, 1) := by decide +kernel
theorem dL_law_432 : decode cL_law 432 = .ok (.iadd, 1) := by decide +kernel
theorem dL_law_433 : decode cL_law 433 = .ok (.iaload, 1) := by decide +kernel
theorem dL_law_434 : decode cL_law 434 = .ok (.invokevirtual 59, 3) := by decide +kernel
theorem dL_law_437 : decode cL_law 437 = .ok (.if_icmp .eq 289, 3) := by decide +kernel
theorem dL_law_440 : decode cL_law 440 = .ok (.iconst 0, 1) := by decide +kernel
theorem dL_law_441 : decode cL_law 441 = .ok (.ireturn, 1) := by decide +kernel
theorem dL_law_442 : decode cL_law 442 = .ok (.aload_n 1, 1) := by decide +kernel
theorem dL_law_443 : decode cL_law 443 = .ok (.aload_n 0, 1) := by decide +kernel
theorem dL_law_444 : decode cL_law 444 = .ok (.iload_n 3, 1) := by decide +kernel
theorem dL_law_445 : decode cL_law 445 = .ok (.iconst 1, 1) := by decide +kernel
theorem dL_law_446 : decode cL_law 446 = .ok (.iadd, 1) := by decide +kernel
theorem dL_law_447 : decode cL_law 447 = .ok (.iaload, 1) := by decide +kernel
theorem dL_law_448 : decode cL_law 448 = .ok (.invokevirtual 60, 3) := by decide +kernel
theorem dL_law_451 : decode cL_law 451 = .ok (.aload_n 2, 1) := by decide +kernel
theorem dL_law_452 : decode cL_law 452 = .ok (.aload_n 0, 1) := by decide +kernel
theorem dL_law_453 : decode cL_law 453 = .ok (.iload_n 3, 1) := by decide +kernel
theorem dL_law_454 : decode cL_law 454 = .ok (.iconst 1, 1) := by decide +kernel
theorem dL_law_455 : decode cL_law 455 = .ok (.iadd, 1) := by decide +kernel
theorem dL_law_456 : decode cL_law 456 = .ok (.iaload, 1) := by decide +kernel
theorem dL_law_457 : decode cL_law 457 = .ok (.invokevirtual 64, 3) := by decide +kernel
theorem dL_law_460 : decode cL_law 460 = .ok (.if_icmp .eq 266, 3) := by decide +kernel
theorem dL_law_463 : decode cL_law 463 = .ok (.iconst 0, 1) := by decide +kernel
theorem dL_law_464 : decode cL_law 464 = .ok (.ireturn, 1) := by decide +kernel
theorem dL_law_465 : decode cL_law 465 = .ok (.aload_n 1, 1) := by decide +kernel
theorem dL_law_466 : decode cL_law 466 = .ok (.aload_n 0, 1) := by decide +kernel
theorem dL_law_467 : decode cL_law 467 = .ok (.iload_n 3, 1) := by decide +kernel
theorem dL_law_468 : decode cL_law 468 = .ok (.iconst 1, 1) := by decide +kernel
theorem dL_law_469 : decode cL_law 469 = .ok (.iadd, 1) := by decide +kernel
theorem dL_law_470 : decode cL_law 470 = .ok (.iaload, 1) := by decide +kernel
theorem dL_law_471 : decode cL_law 471 = .ok (.aload_n 0, 1) := by decide +kernel
theorem dL_law_472 : decode cL_law 472 = .ok (.iload_n 3, 1) := by decide +kernel
theorem dL_law_473 : decode cL_law 473 = .ok (.iconst 2, 1) := by decide +kernel
theorem dL_law_474 : decode cL_law 474 = .ok (.iadd, 1) := by decide +kernel
theorem dL_law_475 : decode cL_law 475 = .ok (.iaload, 1) := by decide +kernel
theorem dL_law_476 : decode cL_law 476 = .ok (.aload_n 0, 1) := by decide +kernel
theorem dL_law_477 : decode cL_law 477 = .ok (.iload_n 3, 1) := by decide +kernel
theorem dL_law_478 : decode cL_law 478 = .ok (.iconst 3, 1) := by decide +kernel
theorem dL_law_479 : decode cL_law 479 = .ok (.iadd, 1) := by decide +kernel
theorem dL_law_480 : decode cL_law 480 = .ok (.iaload, 1) := by decide +kernel
theorem dL_law_481 : decode cL_law 481 = .ok (.invokevirtual 65, 3) := by decide +kernel
theorem dL_law_484 : decode cL_law 484 = .ok (.aload_n 2, 1) := by decide +kernel
theorem dL_law_485 : decode cL_law 485 = .ok (.aload_n 0, 1) := by decide +kernel
theorem dL_law_486 : decode cL_law 486 = .ok (.iload_n 3, 1) := by decide +kernel
theorem dL_law_487 : decode cL_law 487 = .ok (.iconst 1, 1) := by decide +kernel
theorem dL_law_488 : decode cL_law 488 = .ok (.iadd, 1) := by decide +kernel
theorem dL_law_489 : decode cL_law 489 = .ok (.iaload, 1) := by decide +kernel
theorem dL_law_490 : decode cL_law 490 = .ok (.aload_n 0, 1) := by decide +kernel
theorem dL_law_491 : decode cL_law 491 = .ok (.iload_n 3, 1) := by decide +kernel
theorem dL_law_492 : decode cL_law 492 = .ok (.iconst 2, 1) := by decide +kernel
theorem dL_law_493 : decode cL_law 493 = .ok (.iadd, 1) := by decide +kernel
theorem dL_law_494 : decode cL_law 494 = .ok (.iaload, 1) := by decide +kernel
theorem dL_law_495 : decode cL_law 495 = .ok (.aload_n 0, 1) := by decide +kernel
theorem dL_law_496 : decode cL_law 496 = .ok (.iload_n 3, 1) := by decide +kernel
theorem dL_law_497 : decode cL_law 497 = .ok (.iconst 3, 1) := by decide +kernel
theorem dL_law_498 : decode cL_law 498 = .ok (.iadd, 1) := by decide +kernel
theorem dL_law_499 : decode cL_law 499 = .ok (.iaload, 1) := by decide +kernel
theorem dL_law_500 : decode cL_law 500 = .ok (.invokevirtual 68, 3) := by decide +kernel
theorem dL_law_503 : decode cL_law 503 = .ok (.if_icmp .eq 223, 3) := by decide +kernel
theorem dL_law_506 : decode cL_law 506 = .ok (.iconst 0, 1) := by decide +kernel
theorem dL_law_507 : decode cL_law 507 = .ok (.ireturn, 1) := by decide +kernel
theorem dL_law_508 : decode cL_law 508 = .ok (.aload_n 1, 1) := by decide +kernel
theorem dL_law_509 : decode cL_law 509 = .ok (.aload_n 0, 1) := by decide +kernel
theorem dL_law_510 : decode cL_law 510 = .ok (.iload_n 3, 1) := by decide +kernel
theorem dL_law_511 : decode cL_law 511 = .ok (.iconst 1, 1) := by decide +kernel
theorem dL_law_512 : decode cL_law 512 = .ok (.iadd, 1) := by decide +kernel
theorem dL_law_513 : decode cL_law 513 = .ok (.iaload, 1) := by decide +kernel
theorem dL_law_514 : decode cL_law 514 = .ok (.aload_n 0, 1) := by decide +kernel
theorem dL_law_515 : decode cL_law 515 = .ok (.iload_n 3, 1) := by decide +kernel
theorem dL_law_516 : decode cL_law 516 = .ok (.iconst 2, 1) := by decide +kernel
theorem dL_law_517 : decode cL_law 517 = .ok (.iadd, 1) := by decide +kernel
theorem dL_law_518 : decode cL_law 518 = .ok (.iaload, 1) := by decide +kernel
theorem dL_law_519 : decode cL_law 519 = .ok (.invokevirtual 69, 3) := by decide +kernel
theorem dL_law_522 : decode cL_law 522 = .ok (.aload_n 2, 1) := by decide +kernel
theorem dL_law_523 : decode cL_law 523 = .ok (.aload_n 0, 1) := by decide +kernel
theorem dL_law_524 : decode cL_law 524 = .ok (.iload_n 3, 1) := by decide +kernel
theorem dL_law_525 : decode cL_law 525 = .ok (.iconst 1, 1) := by decide +kernel
theorem dL_law_526 : decode cL_law 526 = .ok (.iadd, 1) := by decide +kernel
theorem dL_law_527 : decode cL_law 527 = .ok (.iaload, 1) := by decide +kernel
theorem dL_law_528 : decode cL_law 528 = .ok (.aload_n 0, 1) := by decide +kernel
theorem dL_law_529 : decode cL_law 529 = .ok (.iload_n 3, 1) := by decide +kernel
theorem dL_law_530 : decode cL_law 530 = .ok (.iconst 2, 1) := by decide +kernel
theorem dL_law_531 : decode cL_law 531 = .ok (.iadd, 1) := by decide +kernel
theorem dL_law_532 : decode cL_law 532 = .ok (.iaload, 1) := by decide +kernel
theorem dL_law_533 : decode cL_law 533 = .ok (.invokevirtual 72, 3) := by decide +kernel
theorem dL_law_536 : decode cL_law 536 = .ok (.if_icmp .eq 190, 3) := by decide +kernel
theorem dL_law_539 : decode cL_law 539 = .ok (.iconst 0, 1) := by decide +kernel
theorem dL_law_540 : decode cL_law 540 = .ok (.ireturn, 1) := by decide +kernel
theorem dL_law_541 : decode cL_law 541 = .ok (.aload_n 1, 1) := by decide +kernel
theorem dL_law_542 : decode cL_law 542 = .ok (.aload_n 0, 1) := by decide +kernel
theorem dL_law_543 : decode cL_law 543 = .ok (.iload_n 3, 1) := by decide +kernel
theorem dL_law_544 : decode cL_law 544 = .ok (.iconst 1, 1) := by decide +kernel
theorem dL_law_545 : decode cL_law 545 = .ok (.iadd, 1) := by decide +kernel
theorem dL_law_546 : decode cL_law 546 = .ok (.iaload, 1) := by decide +kernel
theorem dL_law_547 : decode cL_law 547 = .ok (.aload_n 0, 1) := by decide +kernel
theorem dL_law_548 : decode cL_law 548 = .ok (.iload_n 3, 1) := by decide +kernel
theorem dL_law_549 : decode cL_law 549 = .ok (.iconst 2, 1) := by decide +kernel
theorem dL_law_550 : decode cL_law 550 = .ok (.iadd, 1) := by decide +kernel
theorem dL_law_551 : decode cL_law 551 = .ok (.iaload, 1) := by decide +kernel
theorem dL_law_552 : decode cL_law 552 = .ok (.invokevirtual 73, 3) := by decide +kernel
theorem dL_law_555 : decode cL_law 555 = .ok (.aload_n 2, 1) := by decide +kernel
theorem dL_law_556 : decode cL_law 556 = .ok (.aload_n 0, 1) := by decide +kernel
theorem dL_law_557 : decode cL_law 557 = .ok (.iload_n 3, 1) := by decide +kernel
theorem dL_law_558 : decode cL_law 558 = .ok (.iconst 1, 1) := by decide +kernel
theorem dL_law_559 : decode cL_law 559 = .ok (.iadd, 1) := by decide +kernel
theorem dL_law_560 : decode cL_law 560 = .ok (.iaload, 1) := by decide +kernel
theorem dL_law_561 : decode cL_law 561 = .ok (.aload_n 0, 1) := by decide +kernel
theorem dL_law_562 : decode cL_law 562 = .ok (.iload_n 3, 1) := by decide +kernel
theorem dL_law_563 : decode cL_law 563 = .ok (.iconst 2, 1) := by decide +kernel
theorem dL_law_564 : decode cL_law 564 = .ok (.iadd, 1) := by decide +kernel
theorem dL_law_565 : decode cL_law 565 = .ok (.iaload, 1) := by decide +kernel
theorem dL_law_566 : decode cL_law 566 = .ok (.invokevirtual 76, 3) := by decide +kernel
theorem dL_law_569 : decode cL_law 569 = .ok (.if_icmp .eq 157, 3) := by decide +kernel
theorem dL_law_572 : decode cL_law 572 = .ok (.iconst 0, 1) := by decide +kernel
theorem dL_law_573 : decode cL_law 573 = .ok (.ireturn, 1) := by decide +kernel
theorem dL_law_574 : decode cL_law 574 = .ok (.aload_n 1, 1) := by decide +kernel
theorem dL_law_575 : decode cL_law 575 = .ok (.invokevirtual 77, 3) := by decide +kernel
theorem dL_law_578 : decode cL_law 578 = .ok (.aload_n 2, 1) := by decide +kernel
theorem dL_law_579 : decode cL_law 579 = .ok (.invokevirtual 80, 3) := by decide +kernel
theorem dL_law_582 : decode cL_law 582 = .ok (.if_icmp .eq 144, 3) := by decide +kernel
theorem dL_law_585 : decode cL_law 585 = .ok (.iconst 0, 1) := by decide +kernel
theorem dL_law_586 : decode cL_law 586 = .ok (.ireturn, 1) := by decide +kernel
theorem dL_law_587 : decode cL_law 587 = .ok (.aload_n 1, 1) := by decide +kernel
theorem dL_law_588 : decode cL_law 588 = .ok (.aload_n 0, 1) := by decide +kernel
theorem dL_law_589 : decode cL_law 589 = .ok (.iload_n 3, 1) := by decide +kernel
theorem dL_law_590 : decode cL_law 590 = .ok (.iconst 1, 1) := by decide +kernel
theorem dL_law_591 : decode cL_law 591 = .ok (.iadd, 1) := by decide +kernel
theorem dL_law_592 : decode cL_law 592 = .ok (.iaload, 1) := by decide +kernel
theorem dL_law_593 : decode cL_law 593 = .ok (.invokevirtual 81, 3) := by decide +kernel
theorem dL_law_596 : decode cL_law 596 = .ok (.aload_n 2, 1) := by decide +kernel
theorem dL_law_597 : decode cL_law 597 = .ok (.aload_n 0, 1) := by decide +kernel
theorem dL_law_598 : decode cL_law 598 = .ok (.iload_n 3, 1) := by decide +kernel
theorem dL_law_599 : decode cL_law 599 = .ok (.iconst 1, 1) := by decide +kernel
theorem dL_law_600 : decode cL_law 600 = .ok (.iadd, 1) := by decide +kernel
theorem dL_law_601 : decode cL_law 601 = .ok (.iaload, 1) := by decide +kernel
theorem dL_law_602 : decode cL_law 602 = .ok (.invokevirtual 84, 3) := by decide +kernel
theorem dL_law_605 : decode cL_law 605 = .ok (.if_icmp .eq 121, 3) := by decide +kernel
theorem dL_law_608 : decode cL_law 608 = .ok (.iconst 0, 1) := by decide +kernel
theorem dL_law_609 : decode cL_law 609 = .ok (.ireturn, 1) := by decide +kernel
theorem dL_law_610 : decode cL_law 610 = .ok (.aload_n 1, 1) := by decide +kernel
theorem dL_law_611 : decode cL_law 611 = .ok (.aload_n 0, 1) := by decide +kernel
theorem dL_law_612 : decode cL_law 612 = .ok (.iload_n 3, 1) := by decide +kernel
theorem dL_law_613 : decode cL_law 613 = .ok (.iconst 1, 1) := by decide +kernel
theorem dL_law_614 : decode cL_law 614 = .ok (.iadd, 1) := by decide +kernel
theorem dL_law_615 : decode cL_law 615 = .ok (.iaload, 1) := by decide +kernel
theorem dL_law_616 : decode cL_law 616 = .ok (.aload_n 0, 1) := by decide +kernel
theorem dL_law_617 : decode cL_law 617 = .ok (.iload_n 3, 1) := by decide +kernel
theorem dL_law_618 : decode cL_law 618 = .ok (.iconst 2, 1) := by decide +kernel
theorem dL_law_619 : decode cL_law 619 = .ok (.iadd, 1) := by decide +kernel
theorem dL_law_620 : decode cL_law 620 = .ok (.iaload, 1) := by decide +kernel
theorem dL_law_621 : decode cL_law 621 = .ok (.invokevirtual 85, 3) := by decide +kernel
theorem dL_law_624 : decode cL_law 624 = .ok (.aload_n 2, 1) := by decide +kernel
theorem dL_law_625 : decode cL_law 625 = .ok (.aload_n 0, 1) := by decide +kernel
theorem dL_law_626 : decode cL_law 626 = .ok (.iload_n 3, 1) := by decide +kernel
theorem dL_law_627 : decode cL_law 627 = .ok (.iconst 1, 1) := by decide +kernel
theorem dL_law_628 : decode cL_law 628 = .ok (.iadd, 1) := by decide +kernel
theorem dL_law_629 : decode cL_law 629 = .ok (.iaload, 1) := by decide +kernel
theorem dL_law_630 : decode cL_law 630 = .ok (.aload_n 0, 1) := by decide +kernel
theorem dL_law_631 : decode cL_law 631 = .ok (.iload_n 3, 1) := by decide +kernel
theorem dL_law_632 : decode cL_law 632 = .ok (.iconst 2, 1) := by decide +kernel
theorem dL_law_633 : decode cL_law 633 = .ok (.iadd, 1) := by decide +kernel
theorem dL_law_634 : decode cL_law 634 = .ok (.iaload, 1) := by decide +kernel
theorem dL_law_635 : decode cL_law 635 = .ok (.invokevirtual 88, 3) := by decide +kernel
theorem dL_law_638 : decode cL_law 638 = .ok (.if_icmp .eq 88, 3) := by decide +kernel
theorem dL_law_641 : decode cL_law 641 = .ok (.iconst 0, 1) := by decide +kernel
theorem dL_law_642 : decode cL_law 642 = .ok (.ireturn, 1) := by decide +kernel
theorem dL_law_643 : decode cL_law 643 = .ok (.aload_n 1, 1) := by decide +kernel
theorem dL_law_644 : decode cL_law 644 = .ok (.aload_n 0, 1) := by decide +kernel
theorem dL_law_645 : decode cL_law 645 = .ok (.iload_n 3, 1) := by decide +kernel
theorem dL_law_646 : decode cL_law 646 = .ok (.iconst 1, 1) := by decide +kernel
theorem dL_law_647 : decode cL_law 647 = .ok (.iadd, 1) := by decide +kernel
theorem dL_law_648 : decode cL_law 648 = .ok (.iaload, 1) := by decide +kernel
theorem dL_law_649 : decode cL_law 649 = .ok (.invokevirtual 89, 3) := by decide +kernel
theorem dL_law_652 : decode cL_law 652 = .ok (.aload_n 2, 1) := by decide +kernel
theorem dL_law_653 : decode cL_law 653 = .ok (.aload_n 0, 1) := by decide +kernel
theorem dL_law_654 : decode cL_law 654 = .ok (.iload_n 3, 1) := by decide +kernel
theorem dL_law_655 : decode cL_law 655 = .ok (.iconst 1, 1) := by decide +kernel
theorem dL_law_656 : decode cL_law 656 = .ok (.iadd, 1) := by decide +kernel
theorem dL_law_657 : decode cL_law 657 = .ok (.iaload, 1) := by decide +kernel
theorem dL_law_658 : decode cL_law 658 = .ok (.invokevirtual 92, 3) := by decide +kernel
theorem dL_law_661 : decode cL_law 661 = .ok (.if_icmp .eq 65, 3) := by decide +kernel
theorem dL_law_664 : decode cL_law 664 = .ok (.iconst 0, 1) := by decide +kernel
theorem dL_law_665 : decode cL_law 665 = .ok (.ireturn, 1) := by decide +kernel
theorem dL_law_666 : decode cL_law 666 = .ok (.aload_n 1, 1) := by decide +kernel
theorem dL_law_667 : decode cL_law 667 = .ok (.aload_n 0, 1) := by decide +kernel
theorem dL_law_668 : decode cL_law 668 = .ok (.iload_n 3, 1) := by decide +kernel
theorem dL_law_669 : decode cL_law 669 = .ok (.iconst 1, 1) := by decide +kernel
theorem dL_law_670 : decode cL_law 670 = .ok (.iadd, 1) := by decide +kernel
theorem dL_law_671 : decode cL_law 671 = .ok (.iaload, 1) := by decide +kernel
theorem dL_law_672 : decode cL_law 672 = .ok (.invokevirtual 93, 3) := by decide +kernel
theorem dL_law_675 : decode cL_law 675 = .ok (.aload_n 2, 1) := by decide +kernel
theorem dL_law_676 : decode cL_law 676 = .ok (.aload_n 0, 1) := by decide +kernel
theorem dL_law_677 : decode cL_law 677 = .ok (.iload_n 3, 1) := by decide +kernel
theorem dL_law_678 : decode cL_law 678 = .ok (.iconst 1, 1) := by decide +kernel
theorem dL_law_679 : decode cL_law 679 = .ok (.iadd, 1) := by decide +kernel
theorem dL_law_680 : decode cL_law 680 = .ok (.iaload, 1) := by decide +kernel
theorem dL_law_681 : decode cL_law 681 = .ok (.invokevirtual 96, 3) := by decide +kernel
theorem dL_law_684 : decode cL_law 684 = .ok (.if_icmp .eq 42, 3) := by decide +kernel
theorem dL_law_687 : decode cL_law 687 = .ok (.iconst 0, 1) := by decide +kernel
theorem dL_law_688 : decode cL_law 688 = .ok (.ireturn, 1) := by decide +kernel
theorem dL_law_689 : decode cL_law 689 = .ok (.aload_n 1, 1) := by decide +kernel
theorem dL_law_690 : decode cL_law 690 = .ok (.aload_n 0, 1) := by decide +kernel
theorem dL_law_691 : decode cL_law 691 = .ok (.iload_n 3, 1) := by decide +kernel
theorem dL_law_692 : decode cL_law 692 = .ok (.iconst 1, 1) := by decide +kernel
theorem dL_law_693 : decode cL_law 693 = .ok (.iadd, 1) := by decide +kernel
theorem dL_law_694 : decode cL_law 694 = .ok (.iaload, 1) := by decide +kernel
theorem dL_law_695 : decode cL_law 695 = .ok (.invokevirtual 97, 3) := by decide +kernel
theorem dL_law_698 : decode cL_law 698 = .ok (.aload_n 2, 1) := by decide +kernel
theorem dL_law_699 : decode cL_law 699 = .ok (.aload_n 0, 1) := by decide +kernel
theorem dL_law_700 : decode cL_law 700 = .ok (.iload_n 3, 1) := by decide +kernel
theorem dL_law_701 : decode cL_law 701 = .ok (.iconst 1, 1) := by decide +kernel
theorem dL_law_702 : decode cL_law 702 = .ok (.iadd, 1) := by decide +kernel
theorem dL_law_703 : decode cL_law 703 = .ok (.iaload, 1) := by decide +kernel
theorem dL_law_704 : decode cL_law 704 = .ok (.invokevirtual 100, 3) := by decide +kernel
theorem dL_law_707 : decode cL_law 707 = .ok (.if_icmp .eq 19, 3) := by decide +kernel
theorem dL_law_710 : decode cL_law 710 = .ok (.iconst 0, 1) := by decide +kernel
theorem dL_law_711 : decode cL_law 711 = .ok (.ireturn, 1) := by decide +kernel
theorem dL_law_712 : decode cL_law 712 = .ok (.aload_n 1, 1) := by decide +kernel
theorem dL_law_713 : decode cL_law 713 = .ok (.invokevirtual 101, 3) := by decide +kernel
theorem dL_law_716 : decode cL_law 716 = .ok (.aload_n 2, 1) := by decide +kernel
theorem dL_law_717 : decode cL_law 717 = .ok (.invokevirtual 105, 3) := by decide +kernel
theorem dL_law_720 : decode cL_law 720 = .ok (.lcmp, 1) := by decide +kernel
theorem dL_law_721 : decode cL_law 721 = .ok (.ifCond .eq 5, 3) := by decide +kernel
theorem dL_law_724 : decode cL_law 724 = .ok (.iconst 0, 1) := by decide +kernel
theorem dL_law_725 : decode cL_law 725 = .ok (.ireturn, 1) := by decide +kernel
theorem dL_law_726 : decode cL_law 726 = .ok (.iinc 3 5, 3) := by decide +kernel
theorem dL_law_729 : decode cL_law 729 = .ok (.goto (-711), 3) := by decide +kernel
theorem dL_law_732 : decode cL_law 732 = .ok (.iconst 1, 1) := by decide +kernel
theorem dL_law_733 : decode cL_law 733 = .ok (.ireturn, 1) := by decide +kernel
