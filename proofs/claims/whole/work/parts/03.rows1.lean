theorem dX6_init_42 : decode cX6_init 42 = .ok (.iconst 0, 1) := by decide +kernel
theorem dX6_init_43 : decode cX6_init 43 = .ok (.putfield 35, 3) := by decide +kernel
theorem dX6_init_46 : decode cX6_init 46 = .ok (.aload_n 0, 1) := by decide +kernel
theorem dX6_init_47 : decode cX6_init 47 = .ok (.iconst 0, 1) := by decide +kernel
theorem dX6_init_48 : decode cX6_init 48 = .ok (.putfield 38, 3) := by decide +kernel
theorem dX6_init_51 : decode cX6_init 51 = .ok (.aload_n 0, 1) := by decide +kernel
theorem dX6_init_52 : decode cX6_init 52 = .ok (.iconst 0, 1) := by decide +kernel
theorem dX6_init_53 : decode cX6_init 53 = .ok (.putfield 41, 3) := by decide +kernel
theorem dX6_init_56 : decode cX6_init 56 = .ok (.return_, 1) := by decide +kernel
theorem dX6_readAll_0 : decode cX6_readAll 0 = .ok (.aload_n 0, 1) := by decide +kernel
theorem dX6_readAll_1 : decode cX6_readAll 1 = .ok (.getfield 21, 3) := by decide +kernel
theorem dX6_readAll_4 : decode cX6_readAll 4 = .ok (.invokevirtual 45, 3) := by decide +kernel
theorem dX6_readAll_7 : decode cX6_readAll 7 = .ok (.aload_n 0, 1) := by decide +kernel
theorem dX6_readAll_8 : decode cX6_readAll 8 = .ok (.iconst 0, 1) := by decide +kernel
theorem dX6_readAll_9 : decode cX6_readAll 9 = .ok (.putfield 25, 3) := by decide +kernel
theorem dX6_readAll_12 : decode cX6_readAll 12 = .ok (.aload_n 0, 1) := by decide +kernel
theorem dX6_readAll_13 : decode cX6_readAll 13 = .ok (.iconst 0, 1) := by decide +kernel
theorem dX6_readAll_14 : decode cX6_readAll 14 = .ok (.putfield 29, 3) := by decide +kernel
theorem dX6_readAll_17 : decode cX6_readAll 17 = .ok (.aload_n 0, 1) := by decide +kernel
theorem dX6_readAll_18 : decode cX6_readAll 18 = .ok (.iconst 0, 1) := by decide +kernel
theorem dX6_readAll_19 : decode cX6_readAll 19 = .ok (.putfield 41, 3) := by decide +kernel
theorem dX6_readAll_22 : decode cX6_readAll 22 = .ok (.aload_n 0, 1) := by decide +kernel
theorem dX6_readAll_23 : decode cX6_readAll 23 = .ok (.getfield 12, 3) := by decide +kernel
theorem dX6_readAll_26 : decode cX6_readAll 26 = .ok (.invokevirtual 48, 3) := by decide +kernel
theorem dX6_readAll_29 : decode cX6_readAll 29 = .ok (.iconst 0, 1) := by decide +kernel
theorem dX6_readAll_30 : decode cX6_readAll 30 = .ok (.istore_n 1, 1) := by decide +kernel
theorem dX6_readAll_31 : decode cX6_readAll 31 = .ok (.iload_n 1, 1) := by decide +kernel
theorem dX6_readAll_32 : decode cX6_readAll 32 = .ok (.sipush 200, 3) := by decide +kernel
theorem dX6_readAll_35 : decode cX6_readAll 35 = .ok (.if_icmp .gt 48, 3) := by decide +kernel
theorem dX6_readAll_38 : decode cX6_readAll 38 = .ok (.aload_n 0, 1) := by decide +kernel
theorem dX6_readAll_39 : decode cX6_readAll 39 = .ok (.getfield 12, 3) := by decide +kernel
theorem dX6_readAll_42 : decode cX6_readAll 42 = .ok (.invokevirtual 51, 3) := by decide +kernel
theorem dX6_readAll_45 : decode cX6_readAll 45 = .ok (.aload_n 0, 1) := by decide +kernel
theorem dX6_readAll_46 : decode cX6_readAll 46 = .ok (.getfield 12, 3) := by decide +kernel
theorem dX6_readAll_49 : decode cX6_readAll 49 = .ok (.getfield 54, 3) := by decide +kernel
theorem dX6_readAll_52 : decode cX6_readAll 52 = .ok (.ifCond .ne 16, 3) := by decide +kernel
theorem dX6_readAll_55 : decode cX6_readAll 55 = .ok (.aload_n 0, 1) := by decide +kernel
theorem dX6_readAll_56 : decode cX6_readAll 56 = .ok (.getfield 29, 3) := by decide +kernel
theorem dX6_readAll_59 : decode cX6_readAll 59 = .ok (.ifCond .ne 7, 3) := by decide +kernel
theorem dX6_readAll_62 : decode cX6_readAll 62 = .ok (.iconst 1, 1) := by decide +kernel
theorem dX6_readAll_63 : decode cX6_readAll 63 = .ok (.goto 4, 3) := by decide +kernel
theorem dX6_readAll_66 : decode cX6_readAll 66 = .ok (.iconst 0, 1) := by decide +kernel
theorem dX6_readAll_67 : decode cX6_readAll 67 = .ok (.ireturn, 1) := by decide +kernel
theorem dX6_readAll_68 : decode cX6_readAll 68 = .ok (.aload_n 0, 1) := by decide +kernel
theorem dX6_readAll_69 : decode cX6_readAll 69 = .ok (.invokevirtual 57, 3) := by decide +kernel
theorem dX6_readAll_72 : decode cX6_readAll 72 = .ok (.ifCond .ne 5, 3) := by decide +kernel
theorem dX6_readAll_75 : decode cX6_readAll 75 = .ok (.iconst 0, 1) := by decide +kernel
theorem dX6_readAll_76 : decode cX6_readAll 76 = .ok (.ireturn, 1) := by decide +kernel
theorem dX6_readAll_77 : decode cX6_readAll 77 = .ok (.iinc 1 1, 3) := by decide +kernel
theorem dX6_readAll_80 : decode cX6_readAll 80 = .ok (.goto (-49), 3) := by decide +kernel
theorem dX6_readAll_83 : decode cX6_readAll 83 = .ok (.iconst 0, 1) := by decide +kernel
theorem dX6_readAll_84 : decode cX6_readAll 84 = .ok (.ireturn, 1) := by decide +kernel
theorem dX6_takesToken_0 : decode cX6_takesToken 0 = .ok (.aload_n 0, 1) := by decide +kernel
theorem dX6_takesToken_1 : decode cX6_takesToken 1 = .ok (.getfield 29, 3) := by decide +kernel
theorem dX6_takesToken_4 : decode cX6_takesToken 4 = .ok (.ifCond .ne 8, 3) := by decide +kernel
theorem dX6_takesToken_7 : decode cX6_takesToken 7 = .ok (.aload_n 0, 1) := by decide +kernel
theorem dX6_takesToken_8 : decode cX6_takesToken 8 = .ok (.invokevirtual 61, 3) := by decide +kernel
theorem dX6_takesToken_11 : decode cX6_takesToken 11 = .ok (.ireturn, 1) := by decide +kernel
theorem dX6_takesToken_12 : decode cX6_takesToken 12 = .ok (.aload_n 0, 1) := by decide +kernel
theorem dX6_takesToken_13 : decode cX6_takesToken 13 = .ok (.getfield 29, 3) := by decide +kernel
theorem dX6_takesToken_16 : decode cX6_takesToken 16 = .ok (.bipush 7, 2) := by decide +kernel
theorem dX6_takesToken_18 : decode cX6_takesToken 18 = .ok (.if_icmp .ne 7, 3) := by decide +kernel
theorem dX6_takesToken_21 : decode cX6_takesToken 21 = .ok (.iconst 1, 1) := by decide +kernel
theorem dX6_takesToken_22 : decode cX6_takesToken 22 = .ok (.goto 4, 3) := by decide +kernel
theorem dX6_takesToken_25 : decode cX6_takesToken 25 = .ok (.iconst 2, 1) := by decide +kernel
theorem dX6_takesToken_26 : decode cX6_takesToken 26 = .ok (.istore_n 1, 1) := by decide +kernel
theorem dX6_takesToken_27 : decode cX6_takesToken 27 = .ok (.aload_n 0, 1) := by decide +kernel
theorem dX6_takesToken_28 : decode cX6_takesToken 28 = .ok (.getfield 32, 3) := by decide +kernel
theorem dX6_takesToken_31 : decode cX6_takesToken 31 = .ok (.iload_n 1, 1) := by decide +kernel
theorem dX6_takesToken_32 : decode cX6_takesToken 32 = .ok (.if_icmp .ge 10, 3) := by decide +kernel
theorem dX6_takesToken_35 : decode cX6_takesToken 35 = .ok (.aload_n 0, 1) := by decide +kernel
theorem dX6_takesToken_36 : decode cX6_takesToken 36 = .ok (.invokevirtual 64, 3) := by decide +kernel
theorem dX6_takesToken_39 : decode cX6_takesToken 39 = .ok (.goto 7, 3) := by decide +kernel
theorem dX6_takesToken_42 : decode cX6_takesToken 42 = .ok (.aload_n 0, 1) := by decide +kernel
theorem dX6_takesToken_43 : decode cX6_takesToken 43 = .ok (.invokevirtual 67, 3) := by decide +kernel
theorem dX6_takesToken_46 : decode cX6_takesToken 46 = .ok (.ireturn, 1) := by decide +kernel
theorem dX6_takesWord_0 : decode cX6_takesWord 0 = .ok (.aload_n 0, 1) := by decide +kernel
theorem dX6_takesWord_1 : decode cX6_takesWord 1 = .ok (.aload_n 0, 1) := by decide +kernel
theorem dX6_takesWord_2 : decode cX6_takesWord 2 = .ok (.getfield 12, 3) := by decide +kernel
theorem dX6_takesWord_5 : decode cX6_takesWord 5 = .ok (.getfield 54, 3) := by decide +kernel
theorem dX6_takesWord_8 : decode cX6_takesWord 8 = .ok (.invokevirtual 70, 3) := by decide +kernel
theorem dX6_takesWord_11 : decode cX6_takesWord 11 = .ok (.ifCond .ne 5, 3) := by decide +kernel
theorem dX6_takesWord_14 : decode cX6_takesWord 14 = .ok (.iconst 0, 1) := by decide +kernel
theorem dX6_takesWord_15 : decode cX6_takesWord 15 = .ok (.ireturn, 1) := by decide +kernel
theorem dX6_takesWord_16 : decode cX6_takesWord 16 = .ok (.aload_n 0, 1) := by decide +kernel
theorem dX6_takesWord_17 : decode cX6_takesWord 17 = .ok (.aload_n 0, 1) := by decide +kernel
theorem dX6_takesWord_18 : decode cX6_takesWord 18 = .ok (.getfield 12, 3) := by decide +kernel
theorem dX6_takesWord_21 : decode cX6_takesWord 21 = .ok (.getfield 54, 3) := by decide +kernel
theorem dX6_takesWord_24 : decode cX6_takesWord 24 = .ok (.putfield 29, 3) := by decide +kernel
theorem dX6_takesWord_27 : decode cX6_takesWord 27 = .ok (.aload_n 0, 1) := by decide +kernel
theorem dX6_takesWord_28 : decode cX6_takesWord 28 = .ok (.iconst 0, 1) := by decide +kernel
theorem dX6_takesWord_29 : decode cX6_takesWord 29 = .ok (.putfield 32, 3) := by decide +kernel
theorem dX6_takesWord_32 : decode cX6_takesWord 32 = .ok (.iconst 1, 1) := by decide +kernel
theorem dX6_takesWord_33 : decode cX6_takesWord 33 = .ok (.ireturn, 1) := by decide +kernel
theorem dX6_mayBegin_0 : decode cX6_mayBegin 0 = .ok (.iload_n 1, 1) := by decide +kernel
theorem dX6_mayBegin_1 : decode cX6_mayBegin 1 = .ok (.tableswitch 78 4 7 #[31, 44, 46, 65], 31) := by decide +kernel
theorem dX6_mayBegin_32 : decode cX6_mayBegin 32 = .ok (.aload_n 0, 1) := by decide +kernel
theorem dX6_mayBegin_33 : decode cX6_mayBegin 33 = .ok (.getfield 25, 3) := by decide +kernel
theorem dX6_mayBegin_36 : decode cX6_mayBegin 36 = .ok (.ifCond .ne 7, 3) := by decide +kernel
theorem dX6_mayBegin_39 : decode cX6_mayBegin 39 = .ok (.iconst 1, 1) := by decide +kernel
theorem dX6_mayBegin_40 : decode cX6_mayBegin 40 = .ok (.goto 4, 3) := by decide +kernel
theorem dX6_mayBegin_43 : decode cX6_mayBegin 43 = .ok (.iconst 0, 1) := by decide +kernel
theorem dX6_mayBegin_44 : decode cX6_mayBegin 44 = .ok (.ireturn, 1) := by decide +kernel
theorem dX6_mayBegin_45 : decode cX6_mayBegin 45 = .ok (.iconst 1, 1) := by decide +kernel
theorem dX6_mayBegin_46 : decode cX6_mayBegin 46 = .ok (.ireturn, 1) := by decide +kernel
theorem dX6_mayBegin_47 : decode cX6_mayBegin 47 = .ok (.aload_n 0, 1) := by decide +kernel
theorem dX6_mayBegin_48 : decode cX6_mayBegin 48 = .ok (.getfield 21, 3) := by decide +kernel
theorem dX6_mayBegin_51 : decode cX6_mayBegin 51 = .ok (.getfield 74, 3) := by decide +kernel
theorem dX6_mayBegin_54 : decode cX6_mayBegin 54 = .ok (.invokevirtual 78, 3) := by decide +kernel
theorem dX6_mayBegin_57 : decode cX6_mayBegin 57 = .ok (.ifCond .ne 7, 3) := by decide +kernel
theorem dX6_mayBegin_60 : decode cX6_mayBegin 60 = .ok (.iconst 1, 1) := by decide +kernel
theorem dX6_mayBegin_61 : decode cX6_mayBegin 61 = .ok (.goto 4, 3) := by decide +kernel
theorem dX6_mayBegin_64 : decode cX6_mayBegin 64 = .ok (.iconst 0, 1) := by decide +kernel
theorem dX6_mayBegin_65 : decode cX6_mayBegin 65 = .ok (.ireturn, 1) := by decide +kernel
theorem dX6_mayBegin_66 : decode cX6_mayBegin 66 = .ok (.aload_n 0, 1) := by decide +kernel
theorem dX6_mayBegin_67 : decode cX6_mayBegin 67 = .ok (.getfield 41, 3) := by decide +kernel
theorem dX6_mayBegin_70 : decode cX6_mayBegin 70 = .ok (.ifCond .ne 7, 3) := by decide +kernel
theorem dX6_mayBegin_73 : decode cX6_mayBegin 73 = .ok (.iconst 1, 1) := by decide +kernel
theorem dX6_mayBegin_74 : decode cX6_mayBegin 74 = .ok (.goto 4, 3) := by decide +kernel
theorem dX6_mayBegin_77 : decode cX6_mayBegin 77 = .ok (.iconst 0, 1) := by decide +kernel
theorem dX6_mayBegin_78 : decode cX6_mayBegin 78 = .ok (.ireturn, 1) := by decide +kernel
theorem dX6_mayBegin_79 : decode cX6_mayBegin 79 = .ok (.iconst 0, 1) := by decide +kernel
theorem dX6_mayBegin_80 : decode cX6_mayBegin 80 = .ok (.ireturn, 1) := by decide +kernel
theorem dX6_takesNumber_0 : decode cX6_takesNumber 0 = .ok (.aload_n 0, 1) := by decide +kernel
theorem dX6_takesNumber_1 : decode cX6_takesNumber 1 = .ok (.getfield 29, 3) := by decide +kernel
theorem dX6_takesNumber_4 : decode cX6_takesNumber 4 = .ok (.iconst 4, 1) := by decide +kernel
theorem dX6_takesNumber_5 : decode cX6_takesNumber 5 = .ok (.if_icmp .eq 12, 3) := by decide +kernel
theorem dX6_takesNumber_8 : decode cX6_takesNumber 8 = .ok (.aload_n 0, 1) := by decide +kernel
theorem dX6_takesNumber_9 : decode cX6_takesNumber 9 = .ok (.getfield 29, 3) := by decide +kernel
theorem dX6_takesNumber_12 : decode cX6_takesNumber 12 = .ok (.bipush 7, 2) := by decide +kernel
theorem dX6_takesNumber_14 : decode cX6_takesNumber 14 = .ok (.if_icmp .ne 7, 3) := by decide +kernel
theorem dX6_takesNumber_17 : decode cX6_takesNumber 17 = .ok (.iconst 1, 1) := by decide +kernel
theorem dX6_takesNumber_18 : decode cX6_takesNumber 18 = .ok (.goto 4, 3) := by decide +kernel
theorem dX6_takesNumber_21 : decode cX6_takesNumber 21 = .ok (.iconst 0, 1) := by decide +kernel
theorem dX6_takesNumber_22 : decode cX6_takesNumber 22 = .ok (.istore_n 1, 1) := by decide +kernel
theorem dX6_takesNumber_23 : decode cX6_takesNumber 23 = .ok (.aload_n 0, 1) := by decide +kernel
theorem dX6_takesNumber_24 : decode cX6_takesNumber 24 = .ok (.getfield 12, 3) := by decide +kernel
theorem dX6_takesNumber_27 : decode cX6_takesNumber 27 = .ok (.getfield 54, 3) := by decide +kernel
theorem dX6_takesNumber_30 : decode cX6_takesNumber 30 = .ok (.iconst 2, 1) := by decide +kernel
theorem dX6_takesNumber_31 : decode cX6_takesNumber 31 = .ok (.if_icmp .ne 28, 3) := by decide +kernel
theorem dX6_takesNumber_34 : decode cX6_takesNumber 34 = .ok (.aload_n 0, 1) := by decide +kernel
theorem dX6_takesNumber_35 : decode cX6_takesNumber 35 = .ok (.getfield 12, 3) := by decide +kernel
theorem dX6_takesNumber_38 : decode cX6_takesNumber 38 = .ok (.getfield 83, 3) := by decide +kernel
theorem dX6_takesNumber_41 : decode cX6_takesNumber 41 = .ok (.iload_n 1, 1) := by decide +kernel
theorem dX6_takesNumber_42 : decode cX6_takesNumber 42 = .ok (.if_icmp .lt 17, 3) := by decide +kernel
theorem dX6_takesNumber_45 : decode cX6_takesNumber 45 = .ok (.aload_n 0, 1) := by decide +kernel
theorem dX6_takesNumber_46 : decode cX6_takesNumber 46 = .ok (.getfield 12, 3) := by decide +kernel
theorem dX6_takesNumber_49 : decode cX6_takesNumber 49 = .ok (.getfield 83, 3) := by decide +kernel
theorem dX6_takesNumber_52 : decode cX6_takesNumber 52 = .ok (.aload_n 0, 1) := by decide +kernel
theorem dX6_takesNumber_53 : decode cX6_takesNumber 53 = .ok (.invokevirtual 86, 3) := by decide +kernel
theorem dX6_takesNumber_56 : decode cX6_takesNumber 56 = .ok (.if_icmp .le 5, 3) := by decide +kernel
theorem dX6_takesNumber_59 : decode cX6_takesNumber 59 = .ok (.iconst 0, 1) := by decide +kernel
theorem dX6_takesNumber_60 : decode cX6_takesNumber 60 = .ok (.ireturn, 1) := by decide +kernel
theorem dX6_takesNumber_61 : decode cX6_takesNumber 61 = .ok (.aload_n 0, 1) := by decide +kernel
theorem dX6_takesNumber_62 : decode cX6_takesNumber 62 = .ok (.getfield 32, 3) := by decide +kernel
theorem dX6_takesNumber_65 : decode cX6_takesNumber 65 = .ok (.ifCond .ne 17, 3) := by decide +kernel
theorem dX6_takesNumber_68 : decode cX6_takesNumber 68 = .ok (.aload_n 0, 1) := by decide +kernel
theorem dX6_takesNumber_69 : decode cX6_takesNumber 69 = .ok (.aload_n 0, 1) := by decide +kernel
theorem dX6_takesNumber_70 : decode cX6_takesNumber 70 = .ok (.getfield 12, 3) := by decide +kernel
theorem dX6_takesNumber_73 : decode cX6_takesNumber 73 = .ok (.getfield 83, 3) := by decide +kernel
theorem dX6_takesNumber_76 : decode cX6_takesNumber 76 = .ok (.putfield 35, 3) := by decide +kernel
theorem dX6_takesNumber_79 : decode cX6_takesNumber 79 = .ok (.goto 39, 3) := by decide +kernel
theorem dX6_takesNumber_82 : decode cX6_takesNumber 82 = .ok (.aload_n 0, 1) := by decide +kernel
theorem dX6_takesNumber_83 : decode cX6_takesNumber 83 = .ok (.getfield 29, 3) := by decide +kernel
theorem dX6_takesNumber_86 : decode cX6_takesNumber 86 = .ok (.bipush 6, 2) := by decide +kernel
theorem dX6_takesNumber_88 : decode cX6_takesNumber 88 = .ok (.if_icmp .ne 19, 3) := by decide +kernel
theorem dX6_takesNumber_91 : decode cX6_takesNumber 91 = .ok (.aload_n 0, 1) := by decide +kernel
theorem dX6_takesNumber_92 : decode cX6_takesNumber 92 = .ok (.getfield 12, 3) := by decide +kernel
theorem dX6_takesNumber_95 : decode cX6_takesNumber 95 = .ok (.getfield 83, 3) := by decide +kernel
theorem dX6_takesNumber_98 : decode cX6_takesNumber 98 = .ok (.aload_n 0, 1) := by decide +kernel
theorem dX6_takesNumber_99 : decode cX6_takesNumber 99 = .ok (.getfield 35, 3) := by decide +kernel
theorem dX6_takesNumber_102 : decode cX6_takesNumber 102 = .ok (.if_icmp .ne 5, 3) := by decide +kernel
theorem dX6_takesNumber_105 : decode cX6_takesNumber 105 = .ok (.iconst 0, 1) := by decide +kernel
theorem dX6_takesNumber_106 : decode cX6_takesNumber 106 = .ok (.ireturn, 1) := by decide +kernel
theorem dX6_takesNumber_107 : decode cX6_takesNumber 107 = .ok (.aload_n 0, 1) := by decide +kernel
theorem dX6_takesNumber_108 : decode cX6_takesNumber 108 = .ok (.aload_n 0, 1) := by decide +kernel
theorem dX6_takesNumber_109 : decode cX6_takesNumber 109 = .ok (.getfield 12, 3) := by decide +kernel
theorem dX6_takesNumber_112 : decode cX6_takesNumber 112 = .ok (.getfield 83, 3) := by decide +kernel
theorem dX6_takesNumber_115 : decode cX6_takesNumber 115 = .ok (.putfield 38, 3) := by decide +kernel
theorem dX6_takesNumber_118 : decode cX6_takesNumber 118 = .ok (.aload_n 0, 1) := by decide +kernel
theorem dX6_takesNumber_119 : decode cX6_takesNumber 119 = .ok (.dup, 1) := by decide +kernel
theorem dX6_takesNumber_120 : decode cX6_takesNumber 120 = .ok (.getfield 32, 3) := by decide +kernel
theorem dX6_takesNumber_123 : decode cX6_takesNumber 123 = .ok (.iconst 1, 1) := by decide +kernel
theorem dX6_takesNumber_124 : decode cX6_takesNumber 124 = .ok (.iadd, 1) := by decide +kernel
theorem dX6_takesNumber_125 : decode cX6_takesNumber 125 = .ok (.putfield 32, 3) := by decide +kernel
theorem dX6_takesNumber_128 : decode cX6_takesNumber 128 = .ok (.iconst 1, 1) := by decide +kernel
theorem dX6_takesNumber_129 : decode cX6_takesNumber 129 = .ok (.ireturn, 1) := by decide +kernel
theorem dX6_mostNumber_0 : decode cX6_mostNumber 0 = .ok (.aload_n 0, 1) := by decide +kernel
theorem dX6_mostNumber_1 : decode cX6_mostNumber 1 = .ok (.getfield 29, 3) := by decide +kernel
theorem dX6_mostNumber_4 : decode cX6_mostNumber 4 = .ok (.iconst 4, 1) := by decide +kernel
theorem dX6_mostNumber_5 : decode cX6_mostNumber 5 = .ok (.if_icmp .ne 5, 3) := by decide +kernel
theorem dX6_mostNumber_8 : decode cX6_mostNumber 8 = .ok (.iconst 4, 1) := by decide +kernel
theorem dX6_mostNumber_9 : decode cX6_mostNumber 9 = .ok (.ireturn, 1) := by decide +kernel
theorem dX6_mostNumber_10 : decode cX6_mostNumber 10 = .ok (.aload_n 0, 1) := by decide +kernel
theorem dX6_mostNumber_11 : decode cX6_mostNumber 11 = .ok (.getfield 29, 3) := by decide +kernel
theorem dX6_mostNumber_14 : decode cX6_mostNumber 14 = .ok (.bipush 6, 2) := by decide +kernel
theorem dX6_mostNumber_16 : decode cX6_mostNumber 16 = .ok (.if_icmp .eq 18, 3) := by decide +kernel
theorem dX6_mostNumber_19 : decode cX6_mostNumber 19 = .ok (.aload_n 0, 1) := by decide +kernel
theorem dX6_mostNumber_20 : decode cX6_mostNumber 20 = .ok (.getfield 29, 3) := by decide +kernel
theorem dX6_mostNumber_23 : decode cX6_mostNumber 23 = .ok (.iconst 5, 1) := by decide +kernel
theorem dX6_mostNumber_24 : decode cX6_mostNumber 24 = .ok (.if_icmp .ne 14, 3) := by decide +kernel
theorem dX6_mostNumber_27 : decode cX6_mostNumber 27 = .ok (.aload_n 0, 1) := by decide +kernel
theorem dX6_mostNumber_28 : decode cX6_mostNumber 28 = .ok (.getfield 32, 3) := by decide +kernel
theorem dX6_mostNumber_31 : decode cX6_mostNumber 31 = .ok (.ifCond .ne 7, 3) := by decide +kernel
theorem dX6_mostNumber_34 : decode cX6_mostNumber 34 = .ok (.iconst 1, 1) := by decide +kernel
theorem dX6_mostNumber_35 : decode cX6_mostNumber 35 = .ok (.goto 4, 3) := by decide +kernel
theorem dX6_mostNumber_38 : decode cX6_mostNumber 38 = .ok (.iconst 0, 1) := by decide +kernel
theorem dX6_mostNumber_39 : decode cX6_mostNumber 39 = .ok (.istore_n 1, 1) := by decide +kernel
theorem dX6_mostNumber_40 : decode cX6_mostNumber 40 = .ok (.iload_n 1, 1) := by decide +kernel
theorem dX6_mostNumber_41 : decode cX6_mostNumber 41 = .ok (.ifCond .eq 23, 3) := by decide +kernel
theorem dX6_mostNumber_44 : decode cX6_mostNumber 44 = .ok (.aload_n 0, 1) := by decide +kernel
theorem dX6_mostNumber_45 : decode cX6_mostNumber 45 = .ok (.getfield 21, 3) := by decide +kernel
theorem dX6_mostNumber_48 : decode cX6_mostNumber 48 = .ok (.getfield 90, 3) := by decide +kernel
theorem dX6_mostNumber_51 : decode cX6_mostNumber 51 = .ok (.aload_n 0, 1) := by decide +kernel
theorem dX6_mostNumber_52 : decode cX6_mostNumber 52 = .ok (.getfield 21, 3) := by decide +kernel
theorem dX6_mostNumber_55 : decode cX6_mostNumber 55 = .ok (.getfield 93, 3) := by decide +kernel
theorem dX6_mostNumber_58 : decode cX6_mostNumber 58 = .ok (.imul, 1) := by decide +kernel
theorem dX6_mostNumber_59 : decode cX6_mostNumber 59 = .ok (.iconst 1, 1) := by decide +kernel
theorem dX6_mostNumber_60 : decode cX6_mostNumber 60 = .ok (.isub, 1) := by decide +kernel
theorem dX6_mostNumber_61 : decode cX6_mostNumber 61 = .ok (.goto 5, 3) := by decide +kernel
theorem dX6_mostNumber_64 : decode cX6_mostNumber 64 = .ok (.bipush 9, 2) := by decide +kernel
theorem dX6_mostNumber_66 : decode cX6_mostNumber 66 = .ok (.ireturn, 1) := by decide +kernel
theorem dX6_takesEnd_0 : decode cX6_takesEnd 0 = .ok (.aload_n 0, 1) := by decide +kernel
theorem dX6_takesEnd_1 : decode cX6_takesEnd 1 = .ok (.getfield 12, 3) := by decide +kernel
theorem dX6_takesEnd_4 : decode cX6_takesEnd 4 = .ok (.getfield 54, 3) := by decide +kernel
theorem dX6_takesEnd_7 : decode cX6_takesEnd 7 = .ok (.iconst 3, 1) := by decide +kernel
theorem dX6_takesEnd_8 : decode cX6_takesEnd 8 = .ok (.if_icmp .eq 5, 3) := by decide +kernel
theorem dX6_takesEnd_11 : decode cX6_takesEnd 11 = .ok (.iconst 0, 1) := by decide +kernel
theorem dX6_takesEnd_12 : decode cX6_takesEnd 12 = .ok (.ireturn, 1) := by decide +kernel
theorem dX6_takesEnd_13 : decode cX6_takesEnd 13 = .ok (.aload_n 0, 1) := by decide +kernel
theorem dX6_takesEnd_14 : decode cX6_takesEnd 14 = .ok (.getfield 29, 3) := by decide +kernel
theorem dX6_takesEnd_17 : decode cX6_takesEnd 17 = .ok (.iconst 4, 1) := by decide +kernel
theorem dX6_takesEnd_18 : decode cX6_takesEnd 18 = .ok (.if_icmp .ne 28, 3) := by decide +kernel
theorem dX6_takesEnd_21 : decode cX6_takesEnd 21 = .ok (.aload_n 0, 1) := by decide +kernel
theorem dX6_takesEnd_22 : decode cX6_takesEnd 22 = .ok (.getfield 21, 3) := by decide +kernel
theorem dX6_takesEnd_25 : decode cX6_takesEnd 25 = .ok (.aload_n 0, 1) := by decide +kernel
theorem dX6_takesEnd_26 : decode cX6_takesEnd 26 = .ok (.getfield 35, 3) := by decide +kernel
theorem dX6_takesEnd_29 : decode cX6_takesEnd 29 = .ok (.putfield 90, 3) := by decide +kernel
theorem dX6_takesEnd_32 : decode cX6_takesEnd 32 = .ok (.aload_n 0, 1) := by decide +kernel
theorem dX6_takesEnd_33 : decode cX6_takesEnd 33 = .ok (.getfield 21, 3) := by decide +kernel
theorem dX6_takesEnd_36 : decode cX6_takesEnd 36 = .ok (.aload_n 0, 1) := by decide +kernel
theorem dX6_takesEnd_37 : decode cX6_takesEnd 37 = .ok (.getfield 38, 3) := by decide +kernel
theorem dX6_takesEnd_40 : decode cX6_takesEnd 40 = .ok (.putfield 93, 3) := by decide +kernel
theorem dX6_takesEnd_43 : decode cX6_takesEnd 43 = .ok (.goto 75, 3) := by decide +kernel
theorem dX6_takesEnd_46 : decode cX6_takesEnd 46 = .ok (.aload_n 0, 1) := by decide +kernel
theorem dX6_takesEnd_47 : decode cX6_takesEnd 47 = .ok (.getfield 29, 3) := by decide +kernel
theorem dX6_takesEnd_50 : decode cX6_takesEnd 50 = .ok (.iconst 5, 1) := by decide +kernel
theorem dX6_takesEnd_51 : decode cX6_takesEnd 51 = .ok (.if_icmp .ne 21, 3) := by decide +kernel
theorem dX6_takesEnd_54 : decode cX6_takesEnd 54 = .ok (.aload_n 0, 1) := by decide +kernel
theorem dX6_takesEnd_55 : decode cX6_takesEnd 55 = .ok (.getfield 21, 3) := by decide +kernel
theorem dX6_takesEnd_58 : decode cX6_takesEnd 58 = .ok (.aload_n 0, 1) := by decide +kernel
theorem dX6_takesEnd_59 : decode cX6_takesEnd 59 = .ok (.getfield 35, 3) := by decide +kernel
theorem dX6_takesEnd_62 : decode cX6_takesEnd 62 = .ok (.aload_n 0, 1) := by decide +kernel
theorem dX6_takesEnd_63 : decode cX6_takesEnd 63 = .ok (.getfield 38, 3) := by decide +kernel
theorem dX6_takesEnd_66 : decode cX6_takesEnd 66 = .ok (.invokevirtual 96, 3) := by decide +kernel
theorem dX6_takesEnd_69 : decode cX6_takesEnd 69 = .ok (.goto 49, 3) := by decide +kernel
theorem dX6_takesEnd_72 : decode cX6_takesEnd 72 = .ok (.aload_n 0, 1) := by decide +kernel
theorem dX6_takesEnd_73 : decode cX6_takesEnd 73 = .ok (.getfield 29, 3) := by decide +kernel
theorem dX6_takesEnd_76 : decode cX6_takesEnd 76 = .ok (.bipush 6, 2) := by decide +kernel
theorem dX6_takesEnd_78 : decode cX6_takesEnd 78 = .ok (.if_icmp .ne 24, 3) := by decide +kernel
theorem dX6_takesEnd_81 : decode cX6_takesEnd 81 = .ok (.aload_n 0, 1) := by decide +kernel
theorem dX6_takesEnd_82 : decode cX6_takesEnd 82 = .ok (.getfield 21, 3) := by decide +kernel
theorem dX6_takesEnd_85 : decode cX6_takesEnd 85 = .ok (.getfield 74, 3) := by decide +kernel
theorem dX6_takesEnd_88 : decode cX6_takesEnd 88 = .ok (.aload_n 0, 1) := by decide +kernel
theorem dX6_takesEnd_89 : decode cX6_takesEnd 89 = .ok (.getfield 35, 3) := by decide +kernel
theorem dX6_takesEnd_92 : decode cX6_takesEnd 92 = .ok (.aload_n 0, 1) := by decide +kernel
theorem dX6_takesEnd_93 : decode cX6_takesEnd 93 = .ok (.getfield 38, 3) := by decide +kernel
theorem dX6_takesEnd_96 : decode cX6_takesEnd 96 = .ok (.invokevirtual 100, 3) := by decide +kernel
theorem dX6_takesEnd_99 : decode cX6_takesEnd 99 = .ok (.goto 19, 3) := by decide +kernel
theorem dX6_takesEnd_102 : decode cX6_takesEnd 102 = .ok (.aload_n 0, 1) := by decide +kernel
theorem dX6_takesEnd_103 : decode cX6_takesEnd 103 = .ok (.getfield 21, 3) := by decide +kernel
theorem dX6_takesEnd_106 : decode cX6_takesEnd 106 = .ok (.aload_n 0, 1) := by decide +kernel
theorem dX6_takesEnd_107 : decode cX6_takesEnd 107 = .ok (.getfield 35, 3) := by decide +kernel
theorem dX6_takesEnd_110 : decode cX6_takesEnd 110 = .ok (.putfield 103, 3) := by decide +kernel
theorem dX6_takesEnd_113 : decode cX6_takesEnd 113 = .ok (.aload_n 0, 1) := by decide +kernel
theorem dX6_takesEnd_114 : decode cX6_takesEnd 114 = .ok (.iconst 1, 1) := by decide +kernel
theorem dX6_takesEnd_115 : decode cX6_takesEnd 115 = .ok (.putfield 41, 3) := by decide +kernel
theorem dX6_takesEnd_118 : decode cX6_takesEnd 118 = .ok (.aload_n 0, 1) := by decide +kernel
theorem dX6_takesEnd_119 : decode cX6_takesEnd 119 = .ok (.iconst 0, 1) := by decide +kernel
theorem dX6_takesEnd_120 : decode cX6_takesEnd 120 = .ok (.putfield 29, 3) := by decide +kernel
theorem dX6_takesEnd_123 : decode cX6_takesEnd 123 = .ok (.aload_n 0, 1) := by decide +kernel
theorem dX6_takesEnd_124 : decode cX6_takesEnd 124 = .ok (.dup, 1) := by decide +kernel
theorem dX6_takesEnd_125 : decode cX6_takesEnd 125 = .ok (.getfield 25, 3) := by decide +kernel
theorem dX6_takesEnd_128 : decode cX6_takesEnd 128 = .ok (.iconst 1, 1) := by decide +kernel
theorem dX6_takesEnd_129 : decode cX6_takesEnd 129 = .ok (.iadd, 1) := by decide +kernel
theorem dX6_takesEnd_130 : decode cX6_takesEnd 130 = .ok (.putfield 25, 3) := by decide +kernel
theorem dX6_takesEnd_133 : decode cX6_takesEnd 133 = .ok (.iconst 1, 1) := by decide +kernel
theorem dX6_takesEnd_134 : decode cX6_takesEnd 134 = .ok (.ireturn, 1) := by decide +kernel
theorem dX7_init_0 : decode cX7_init 0 = .ok (.aload_n 0, 1) := by decide +kernel
theorem dX7_init_1 : decode cX7_init 1 = .ok (.invokespecial 3, 3) := by decide +kernel
theorem dX7_init_4 : decode cX7_init 4 = .ok (.aload_n 0, 1) := by decide +kernel
theorem dX7_init_5 : decode cX7_init 5 = .ok (.iconst 0, 1) := by decide +kernel
theorem dX7_init_6 : decode cX7_init 6 = .ok (.putfield 9, 3) := by decide +kernel
theorem dX7_init_9 : decode cX7_init 9 = .ok (.aload_n 0, 1) := by decide +kernel
theorem dX7_init_10 : decode cX7_init 10 = .ok (.sipush 200, 3) := by decide +kernel
theorem dX7_init_13 : decode cX7_init 13 = .ok (.newarray .int, 2) := by decide +kernel
theorem dX7_init_15 : decode cX7_init 15 = .ok (.putfield 15, 3) := by decide +kernel
theorem dX7_init_18 : decode cX7_init 18 = .ok (.aload_n 0, 1) := by decide +kernel
theorem dX7_init_19 : decode cX7_init 19 = .ok (.iconst 0, 1) := by decide +kernel
theorem dX7_init_20 : decode cX7_init 20 = .ok (.putfield 19, 3) := by decide +kernel
theorem dX7_init_23 : decode cX7_init 23 = .ok (.aload_n 0, 1) := by decide +kernel
theorem dX7_init_24 : decode cX7_init 24 = .ok (.iconst 0, 1) := by decide +kernel
theorem dX7_init_25 : decode cX7_init 25 = .ok (.putfield 22, 3) := by decide +kernel
theorem dX7_init_28 : decode cX7_init 28 = .ok (.aload_n 0, 1) := by decide +kernel
theorem dX7_init_29 : decode cX7_init 29 = .ok (.iconst 0, 1) := by decide +kernel
theorem dX7_init_30 : decode cX7_init 30 = .ok (.putfield 25, 3) := by decide +kernel
theorem dX7_init_33 : decode cX7_init 33 = .ok (.aload_n 0, 1) := by decide +kernel
theorem dX7_init_34 : decode cX7_init 34 = .ok (.iconst 0, 1) := by decide +kernel
theorem dX7_init_35 : decode cX7_init 35 = .ok (.putfield 28, 3) := by decide +kernel
theorem dX7_init_38 : decode cX7_init 38 = .ok (.return_, 1) := by decide +kernel
theorem dX7_append_0 : decode cX7_append 0 = .ok (.aload_n 0, 1) := by decide +kernel
theorem dX7_append_1 : decode cX7_append 1 = .ok (.getfield 9, 3) := by decide +kernel
theorem dX7_append_4 : decode cX7_append 4 = .ok (.sipush 200, 3) := by decide +kernel
theorem dX7_append_7 : decode cX7_append 7 = .ok (.if_icmp .ge 23, 3) := by decide +kernel
theorem dX7_append_10 : decode cX7_append 10 = .ok (.aload_n 0, 1) := by decide +kernel
theorem dX7_append_11 : decode cX7_append 11 = .ok (.getfield 15, 3) := by decide +kernel
theorem dX7_append_14 : decode cX7_append 14 = .ok (.aload_n 0, 1) := by decide +kernel
theorem dX7_append_15 : decode cX7_append 15 = .ok (.getfield 9, 3) := by decide +kernel
theorem dX7_append_18 : decode cX7_append 18 = .ok (.iload_n 1, 1) := by decide +kernel
theorem dX7_append_19 : decode cX7_append 19 = .ok (.iastore, 1) := by decide +kernel
theorem dX7_append_20 : decode cX7_append 20 = .ok (.aload_n 0, 1) := by decide +kernel
theorem dX7_append_21 : decode cX7_append 21 = .ok (.dup, 1) := by decide +kernel
theorem dX7_append_22 : decode cX7_append 22 = .ok (.getfield 9, 3) := by decide +kernel
theorem dX7_append_25 : decode cX7_append 25 = .ok (.iconst 1, 1) := by decide +kernel
theorem dX7_append_26 : decode cX7_append 26 = .ok (.iadd, 1) := by decide +kernel
theorem dX7_append_27 : decode cX7_append 27 = .ok (.putfield 9, 3) := by decide +kernel
theorem dX7_append_30 : decode cX7_append 30 = .ok (.return_, 1) := by decide +kernel
theorem dX7_rewind_0 : decode cX7_rewind 0 = .ok (.aload_n 0, 1) := by decide +kernel
theorem dX7_rewind_1 : decode cX7_rewind 1 = .ok (.iconst 0, 1) := by decide +kernel
theorem dX7_rewind_2 : decode cX7_rewind 2 = .ok (.putfield 19, 3) := by decide +kernel
theorem dX7_rewind_5 : decode cX7_rewind 5 = .ok (.aload_n 0, 1) := by decide +kernel
theorem dX7_rewind_6 : decode cX7_rewind 6 = .ok (.iconst 0, 1) := by decide +kernel
theorem dX7_rewind_7 : decode cX7_rewind 7 = .ok (.putfield 22, 3) := by decide +kernel
theorem dX7_rewind_10 : decode cX7_rewind 10 = .ok (.aload_n 0, 1) := by decide +kernel
theorem dX7_rewind_11 : decode cX7_rewind 11 = .ok (.iconst 0, 1) := by decide +kernel
theorem dX7_rewind_12 : decode cX7_rewind 12 = .ok (.putfield 25, 3) := by decide +kernel
theorem dX7_rewind_15 : decode cX7_rewind 15 = .ok (.aload_n 0, 1) := by decide +kernel
theorem dX7_rewind_16 : decode cX7_rewind 16 = .ok (.iconst 0, 1) := by decide +kernel
theorem dX7_rewind_17 : decode cX7_rewind 17 = .ok (.putfield 28, 3) := by decide +kernel
theorem dX7_rewind_20 : decode cX7_rewind 20 = .ok (.return_, 1) := by decide +kernel
theorem dX7_readToken_0 : decode cX7_readToken 0 = .ok (.aload_n 0, 1) := by decide +kernel
theorem dX7_readToken_1 : decode cX7_readToken 1 = .ok (.getfield 22, 3) := by decide +kernel
theorem dX7_readToken_4 : decode cX7_readToken 4 = .ok (.aload_n 0, 1) := by decide +kernel
theorem dX7_readToken_5 : decode cX7_readToken 5 = .ok (.getfield 9, 3) := by decide +kernel
theorem dX7_readToken_8 : decode cX7_readToken 8 = .ok (.if_icmp .ge 29, 3) := by decide +kernel
theorem dX7_readToken_11 : decode cX7_readToken 11 = .ok (.aload_n 0, 1) := by decide +kernel
theorem dX7_readToken_12 : decode cX7_readToken 12 = .ok (.aload_n 0, 1) := by decide +kernel
theorem dX7_readToken_13 : decode cX7_readToken 13 = .ok (.getfield 22, 3) := by decide +kernel
theorem dX7_readToken_16 : decode cX7_readToken 16 = .ok (.invokevirtual 31, 3) := by decide +kernel
theorem dX7_readToken_19 : decode cX7_readToken 19 = .ok (.bipush 32, 2) := by decide +kernel
theorem dX7_readToken_21 : decode cX7_readToken 21 = .ok (.if_icmp .ne 16, 3) := by decide +kernel
theorem dX7_readToken_24 : decode cX7_readToken 24 = .ok (.aload_n 0, 1) := by decide +kernel
theorem dX7_readToken_25 : decode cX7_readToken 25 = .ok (.dup, 1) := by decide +kernel
theorem dX7_readToken_26 : decode cX7_readToken 26 = .ok (.getfield 22, 3) := by decide +kernel
theorem dX7_readToken_29 : decode cX7_readToken 29 = .ok (.iconst 1, 1) := by decide +kernel
theorem dX7_readToken_30 : decode cX7_readToken 30 = .ok (.iadd, 1) := by decide +kernel
theorem dX7_readToken_31 : decode cX7_readToken 31 = .ok (.putfield 22, 3) := by decide +kernel
theorem dX7_readToken_34 : decode cX7_readToken 34 = .ok (.goto (-34), 3) := by decide +kernel
theorem dX7_readToken_37 : decode cX7_readToken 37 = .ok (.aload_n 0, 1) := by decide +kernel
theorem dX7_readToken_38 : decode cX7_readToken 38 = .ok (.aload_n 0, 1) := by decide +kernel
theorem dX7_readToken_39 : decode cX7_readToken 39 = .ok (.getfield 22, 3) := by decide +kernel
theorem dX7_readToken_42 : decode cX7_readToken 42 = .ok (.putfield 19, 3) := by decide +kernel
theorem dX7_readToken_45 : decode cX7_readToken 45 = .ok (.aload_n 0, 1) := by decide +kernel
theorem dX7_readToken_46 : decode cX7_readToken 46 = .ok (.aload_n 0, 1) := by decide +kernel
theorem dX7_readToken_47 : decode cX7_readToken 47 = .ok (.getfield 19, 3) := by decide +kernel
theorem dX7_readToken_50 : decode cX7_readToken 50 = .ok (.invokevirtual 31, 3) := by decide +kernel
theorem dX7_readToken_53 : decode cX7_readToken 53 = .ok (.istore_n 1, 1) := by decide +kernel
theorem dX7_readToken_54 : decode cX7_readToken 54 = .ok (.iload_n 1, 1) := by decide +kernel
theorem dX7_readToken_55 : decode cX7_readToken 55 = .ok (.ifCond .ge 11, 3) := by decide +kernel
theorem dX7_readToken_58 : decode cX7_readToken 58 = .ok (.aload_n 0, 1) := by decide +kernel
theorem dX7_readToken_59 : decode cX7_readToken 59 = .ok (.iconst 0, 1) := by decide +kernel
theorem dX7_readToken_60 : decode cX7_readToken 60 = .ok (.putfield 25, 3) := by decide +kernel
theorem dX7_readToken_63 : decode cX7_readToken 63 = .ok (.goto 56, 3) := by decide +kernel
theorem dX7_readToken_66 : decode cX7_readToken 66 = .ok (.iload_n 1, 1) := by decide +kernel
theorem dX7_readToken_67 : decode cX7_readToken 67 = .ok (.invokestatic 35, 3) := by decide +kernel
theorem dX7_readToken_70 : decode cX7_readToken 70 = .ok (.ifCond .eq 10, 3) := by decide +kernel
theorem dX7_readToken_73 : decode cX7_readToken 73 = .ok (.aload_n 0, 1) := by decide +kernel
theorem dX7_readToken_74 : decode cX7_readToken 74 = .ok (.invokevirtual 39, 3) := by decide +kernel
theorem dX7_readToken_77 : decode cX7_readToken 77 = .ok (.goto 42, 3) := by decide +kernel
theorem dX7_readToken_80 : decode cX7_readToken 80 = .ok (.iload_n 1, 1) := by decide +kernel
theorem dX7_readToken_81 : decode cX7_readToken 81 = .ok (.invokestatic 42, 3) := by decide +kernel
theorem dX7_readToken_84 : decode cX7_readToken 84 = .ok (.ifCond .eq 10, 3) := by decide +kernel
theorem dX7_readToken_87 : decode cX7_readToken 87 = .ok (.aload_n 0, 1) := by decide +kernel
theorem dX7_readToken_88 : decode cX7_readToken 88 = .ok (.invokevirtual 45, 3) := by decide +kernel
theorem dX7_readToken_91 : decode cX7_readToken 91 = .ok (.goto 28, 3) := by decide +kernel
theorem dX7_readToken_94 : decode cX7_readToken 94 = .ok (.aload_n 0, 1) := by decide +kernel
theorem dX7_readToken_95 : decode cX7_readToken 95 = .ok (.iload_n 1, 1) := by decide +kernel
theorem dX7_readToken_96 : decode cX7_readToken 96 = .ok (.bipush 59, 2) := by decide +kernel
theorem dX7_readToken_98 : decode cX7_readToken 98 = .ok (.if_icmp .ne 7, 3) := by decide +kernel
theorem dX7_readToken_101 : decode cX7_readToken 101 = .ok (.iconst 3, 1) := by decide +kernel
theorem dX7_readToken_102 : decode cX7_readToken 102 = .ok (.goto 4, 3) := by decide +kernel
theorem dX7_readToken_105 : decode cX7_readToken 105 = .ok (.iconst 1, 1) := by decide +kernel
theorem dX7_readToken_106 : decode cX7_readToken 106 = .ok (.putfield 25, 3) := by decide +kernel
theorem dX7_readToken_109 : decode cX7_readToken 109 = .ok (.aload_n 0, 1) := by decide +kernel
theorem dX7_readToken_110 : decode cX7_readToken 110 = .ok (.dup, 1) := by decide +kernel
theorem dX7_readToken_111 : decode cX7_readToken 111 = .ok (.getfield 22, 3) := by decide +kernel
theorem dX7_readToken_114 : decode cX7_readToken 114 = .ok (.iconst 1, 1) := by decide +kernel
theorem dX7_readToken_115 : decode cX7_readToken 115 = .ok (.iadd, 1) := by decide +kernel
theorem dX7_readToken_116 : decode cX7_readToken 116 = .ok (.putfield 22, 3) := by decide +kernel
theorem dX7_readToken_119 : decode cX7_readToken 119 = .ok (.return_, 1) := by decide +kernel
theorem dX7_readWord_0 : decode cX7_readWord 0 = .ok (.aload_n 0, 1) := by decide +kernel
theorem dX7_readWord_1 : decode cX7_readWord 1 = .ok (.getfield 22, 3) := by decide +kernel
theorem dX7_readWord_4 : decode cX7_readWord 4 = .ok (.aload_n 0, 1) := by decide +kernel
theorem dX7_readWord_5 : decode cX7_readWord 5 = .ok (.getfield 9, 3) := by decide +kernel
theorem dX7_readWord_8 : decode cX7_readWord 8 = .ok (.if_icmp .ge 30, 3) := by decide +kernel
theorem dX7_readWord_11 : decode cX7_readWord 11 = .ok (.aload_n 0, 1) := by decide +kernel
theorem dX7_readWord_12 : decode cX7_readWord 12 = .ok (.aload_n 0, 1) := by decide +kernel
theorem dX7_readWord_13 : decode cX7_readWord 13 = .ok (.getfield 22, 3) := by decide +kernel
theorem dX7_readWord_16 : decode cX7_readWord 16 = .ok (.invokevirtual 31, 3) := by decide +kernel
theorem dX7_readWord_19 : decode cX7_readWord 19 = .ok (.invokestatic 35, 3) := by decide +kernel
theorem dX7_readWord_22 : decode cX7_readWord 22 = .ok (.ifCond .eq 16, 3) := by decide +kernel
theorem dX7_readWord_25 : decode cX7_readWord 25 = .ok (.aload_n 0, 1) := by decide +kernel
theorem dX7_readWord_26 : decode cX7_readWord 26 = .ok (.dup, 1) := by decide +kernel
theorem dX7_readWord_27 : decode cX7_readWord 27 = .ok (.getfield 22, 3) := by decide +kernel
theorem dX7_readWord_30 : decode cX7_readWord 30 = .ok (.iconst 1, 1) := by decide +kernel
theorem dX7_readWord_31 : decode cX7_readWord 31 = .ok (.iadd, 1) := by decide +kernel
theorem dX7_readWord_32 : decode cX7_readWord 32 = .ok (.putfield 22, 3) := by decide +kernel
theorem dX7_readWord_35 : decode cX7_readWord 35 = .ok (.goto (-35), 3) := by decide +kernel
theorem dX7_readWord_38 : decode cX7_readWord 38 = .ok (.aload_n 0, 1) := by decide +kernel
theorem dX7_readWord_39 : decode cX7_readWord 39 = .ok (.ldc 48, 2) := by decide +kernel
theorem dX7_readWord_41 : decode cX7_readWord 41 = .ok (.invokevirtual 50, 3) := by decide +kernel
theorem dX7_readWord_44 : decode cX7_readWord 44 = .ok (.ifCond .eq 11, 3) := by decide +kernel
theorem dX7_readWord_47 : decode cX7_readWord 47 = .ok (.aload_n 0, 1) := by decide +kernel
theorem dX7_readWord_48 : decode cX7_readWord 48 = .ok (.iconst 4, 1) := by decide +kernel
theorem dX7_readWord_49 : decode cX7_readWord 49 = .ok (.putfield 25, 3) := by decide +kernel
theorem dX7_readWord_52 : decode cX7_readWord 52 = .ok (.goto 61, 3) := by decide +kernel
theorem dX7_readWord_55 : decode cX7_readWord 55 = .ok (.aload_n 0, 1) := by decide +kernel
theorem dX7_readWord_56 : decode cX7_readWord 56 = .ok (.ldc 54, 2) := by decide +kernel
theorem dX7_readWord_58 : decode cX7_readWord 58 = .ok (.invokevirtual 50, 3) := by decide +kernel
theorem dX7_readWord_61 : decode cX7_readWord 61 = .ok (.ifCond .eq 11, 3) := by decide +kernel
theorem dX7_readWord_64 : decode cX7_readWord 64 = .ok (.aload_n 0, 1) := by decide +kernel
theorem dX7_readWord_65 : decode cX7_readWord 65 = .ok (.iconst 5, 1) := by decide +kernel
theorem dX7_readWord_66 : decode cX7_readWord 66 = .ok (.putfield 25, 3) := by decide +kernel
theorem dX7_readWord_69 : decode cX7_readWord 69 = .ok (.goto 44, 3) := by decide +kernel
theorem dX7_readWord_72 : decode cX7_readWord 72 = .ok (.aload_n 0, 1) := by decide +kernel
theorem dX7_readWord_73 : decode cX7_readWord 73 = .ok (.ldc 56, 2) := by decide +kernel
theorem dX7_readWord_75 : decode cX7_readWord 75 = .ok (.invokevirtual 50, 3) := by decide +kernel
theorem dX7_readWord_78 : decode cX7_readWord 78 = .ok (.ifCond .eq 12, 3) := by decide +kernel
theorem dX7_readWord_81 : decode cX7_readWord 81 = .ok (.aload_n 0, 1) := by decide +kernel
theorem dX7_readWord_82 : decode cX7_readWord 82 = .ok (.bipush 6, 2) := by decide +kernel
theorem dX7_readWord_84 : decode cX7_readWord 84 = .ok (.putfield 25, 3) := by decide +kernel
theorem dX7_readWord_87 : decode cX7_readWord 87 = .ok (.goto 26, 3) := by decide +kernel
theorem dX7_readWord_90 : decode cX7_readWord 90 = .ok (.aload_n 0, 1) := by decide +kernel
theorem dX7_readWord_91 : decode cX7_readWord 91 = .ok (.ldc 58, 2) := by decide +kernel
theorem dX7_readWord_93 : decode cX7_readWord 93 = .ok (.invokevirtual 50, 3) := by decide +kernel
theorem dX7_readWord_96 : decode cX7_readWord 96 = .ok (.ifCond .eq 12, 3) := by decide +kernel
theorem dX7_readWord_99 : decode cX7_readWord 99 = .ok (.aload_n 0, 1) := by decide +kernel
theorem dX7_readWord_100 : decode cX7_readWord 100 = .ok (.bipush 7, 2) := by decide +kernel
theorem dX7_readWord_102 : decode cX7_readWord 102 = .ok (.putfield 25, 3) := by decide +kernel
theorem dX7_readWord_105 : decode cX7_readWord 105 = .ok (.goto 8, 3) := by decide +kernel
theorem dX7_readWord_108 : decode cX7_readWord 108 = .ok (.aload_n 0, 1) := by decide +kernel
theorem dX7_readWord_109 : decode cX7_readWord 109 = .ok (.iconst 1, 1) := by decide +kernel
theorem dX7_readWord_110 : decode cX7_readWord 110 = .ok (.putfield 25, 3) := by decide +kernel
theorem dX7_readWord_113 : decode cX7_readWord 113 = .ok (.return_, 1) := by decide +kernel
theorem dX7_isWord_0 : decode cX7_isWord 0 = .ok (.aload_n 0, 1) := by decide +kernel
theorem dX7_isWord_1 : decode cX7_isWord 1 = .ok (.getfield 22, 3) := by decide +kernel
theorem dX7_isWord_4 : decode cX7_isWord 4 = .ok (.aload_n 0, 1) := by decide +kernel
theorem dX7_isWord_5 : decode cX7_isWord 5 = .ok (.getfield 19, 3) := by decide +kernel
theorem dX7_isWord_8 : decode cX7_isWord 8 = .ok (.isub, 1) := by decide +kernel
theorem dX7_isWord_9 : decode cX7_isWord 9 = .ok (.aload_n 1, 1) := by decide +kernel
theorem dX7_isWord_10 : decode cX7_isWord 10 = .ok (.invokevirtual 60, 3) := by decide +kernel
theorem dX7_isWord_13 : decode cX7_isWord 13 = .ok (.if_icmp .eq 5, 3) := by decide +kernel
theorem dX7_isWord_16 : decode cX7_isWord 16 = .ok (.iconst 0, 1) := by decide +kernel
theorem dX7_isWord_17 : decode cX7_isWord 17 = .ok (.ireturn, 1) := by decide +kernel
theorem dX7_isWord_18 : decode cX7_isWord 18 = .ok (.iconst 0, 1) := by decide +kernel
theorem dX7_isWord_19 : decode cX7_isWord 19 = .ok (.istore_n 2, 1) := by decide +kernel
theorem dX7_isWord_20 : decode cX7_isWord 20 = .ok (.iload_n 2, 1) := by decide +kernel
theorem dX7_isWord_21 : decode cX7_isWord 21 = .ok (.aload_n 1, 1) := by decide +kernel
theorem dX7_isWord_22 : decode cX7_isWord 22 = .ok (.invokevirtual 60, 3) := by decide +kernel
theorem dX7_isWord_25 : decode cX7_isWord 25 = .ok (.if_icmp .ge 29, 3) := by decide +kernel
theorem dX7_isWord_28 : decode cX7_isWord 28 = .ok (.aload_n 0, 1) := by decide +kernel
theorem dX7_isWord_29 : decode cX7_isWord 29 = .ok (.aload_n 0, 1) := by decide +kernel
theorem dX7_isWord_30 : decode cX7_isWord 30 = .ok (.getfield 19, 3) := by decide +kernel
theorem dX7_isWord_33 : decode cX7_isWord 33 = .ok (.iload_n 2, 1) := by decide +kernel
theorem dX7_isWord_34 : decode cX7_isWord 34 = .ok (.iadd, 1) := by decide +kernel
theorem dX7_isWord_35 : decode cX7_isWord 35 = .ok (.invokevirtual 31, 3) := by decide +kernel
theorem dX7_isWord_38 : decode cX7_isWord 38 = .ok (.aload_n 1, 1) := by decide +kernel
theorem dX7_isWord_39 : decode cX7_isWord 39 = .ok (.iload_n 2, 1) := by decide +kernel
theorem dX7_isWord_40 : decode cX7_isWord 40 = .ok (.invokevirtual 65, 3) := by decide +kernel
theorem dX7_isWord_43 : decode cX7_isWord 43 = .ok (.if_icmp .eq 5, 3) := by decide +kernel
theorem dX7_isWord_46 : decode cX7_isWord 46 = .ok (.iconst 0, 1) := by decide +kernel
theorem dX7_isWord_47 : decode cX7_isWord 47 = .ok (.ireturn, 1) := by decide +kernel
theorem dX7_isWord_48 : decode cX7_isWord 48 = .ok (.iinc 2 1, 3) := by decide +kernel
theorem dX7_isWord_51 : decode cX7_isWord 51 = .ok (.goto (-31), 3) := by decide +kernel
theorem dX7_isWord_54 : decode cX7_isWord 54 = .ok (.iconst 1, 1) := by decide +kernel
theorem dX7_isWord_55 : decode cX7_isWord 55 = .ok (.ireturn, 1) := by decide +kernel
theorem dX7_readNumber_0 : decode cX7_readNumber 0 = .ok (.aload_n 0, 1) := by decide +kernel
theorem dX7_readNumber_1 : decode cX7_readNumber 1 = .ok (.iconst 0, 1) := by decide +kernel
theorem dX7_readNumber_2 : decode cX7_readNumber 2 = .ok (.putfield 28, 3) := by decide +kernel
theorem dX7_readNumber_5 : decode cX7_readNumber 5 = .ok (.aload_n 0, 1) := by decide +kernel
theorem dX7_readNumber_6 : decode cX7_readNumber 6 = .ok (.getfield 22, 3) := by decide +kernel
theorem dX7_readNumber_9 : decode cX7_readNumber 9 = .ok (.aload_n 0, 1) := by decide +kernel
theorem dX7_readNumber_10 : decode cX7_readNumber 10 = .ok (.getfield 9, 3) := by decide +kernel
theorem dX7_readNumber_13 : decode cX7_readNumber 13 = .ok (.if_icmp .ge 66, 3) := by decide +kernel
theorem dX7_readNumber_16 : decode cX7_readNumber 16 = .ok (.aload_n 0, 1) := by decide +kernel
theorem dX7_readNumber_17 : decode cX7_readNumber 17 = .ok (.aload_n 0, 1) := by decide +kernel
theorem dX7_readNumber_18 : decode cX7_readNumber 18 = .ok (.getfield 22, 3) := by decide +kernel
theorem dX7_readNumber_21 : decode cX7_readNumber 21 = .ok (.invokevirtual 31, 3) := by decide +kernel
theorem dX7_readNumber_24 : decode cX7_readNumber 24 = .ok (.invokestatic 42, 3) := by decide +kernel
theorem dX7_readNumber_27 : decode cX7_readNumber 27 = .ok (.ifCond .eq 52, 3) := by decide +kernel
theorem dX7_readNumber_30 : decode cX7_readNumber 30 = .ok (.aload_n 0, 1) := by decide +kernel
theorem dX7_readNumber_31 : decode cX7_readNumber 31 = .ok (.getfield 22, 3) := by decide +kernel
theorem dX7_readNumber_34 : decode cX7_readNumber 34 = .ok (.aload_n 0, 1) := by decide +kernel
theorem dX7_readNumber_35 : decode cX7_readNumber 35 = .ok (.getfield 19, 3) := by decide +kernel
theorem dX7_readNumber_38 : decode cX7_readNumber 38 = .ok (.isub, 1) := by decide +kernel
theorem dX7_readNumber_39 : decode cX7_readNumber 39 = .ok (.iconst 2, 1) := by decide +kernel
theorem dX7_readNumber_40 : decode cX7_readNumber 40 = .ok (.if_icmp .ge 26, 3) := by decide +kernel
theorem dX7_readNumber_43 : decode cX7_readNumber 43 = .ok (.aload_n 0, 1) := by decide +kernel
theorem dX7_readNumber_44 : decode cX7_readNumber 44 = .ok (.bipush 10, 2) := by decide +kernel
theorem dX7_readNumber_46 : decode cX7_readNumber 46 = .ok (.aload_n 0, 1) := by decide +kernel
theorem dX7_readNumber_47 : decode cX7_readNumber 47 = .ok (.getfield 28, 3) := by decide +kernel
theorem dX7_readNumber_50 : decode cX7_readNumber 50 = .ok (.imul, 1) := by decide +kernel
theorem dX7_readNumber_51 : decode cX7_readNumber 51 = .ok (.aload_n 0, 1) := by decide +kernel
theorem dX7_readNumber_52 : decode cX7_readNumber 52 = .ok (.aload_n 0, 1) := by decide +kernel
theorem dX7_readNumber_53 : decode cX7_readNumber 53 = .ok (.getfield 22, 3) := by decide +kernel
theorem dX7_readNumber_56 : decode cX7_readNumber 56 = .ok (.invokevirtual 31, 3) := by decide +kernel
theorem dX7_readNumber_59 : decode cX7_readNumber 59 = .ok (.iadd, 1) := by decide +kernel
theorem dX7_readNumber_60 : decode cX7_readNumber 60 = .ok (.bipush 48, 2) := by decide +kernel
theorem dX7_readNumber_62 : decode cX7_readNumber 62 = .ok (.isub, 1) := by decide +kernel
theorem dX7_readNumber_63 : decode cX7_readNumber 63 = .ok (.putfield 28, 3) := by decide +kernel
theorem dX7_readNumber_66 : decode cX7_readNumber 66 = .ok (.aload_n 0, 1) := by decide +kernel
theorem dX7_readNumber_67 : decode cX7_readNumber 67 = .ok (.dup, 1) := by decide +kernel
theorem dX7_readNumber_68 : decode cX7_readNumber 68 = .ok (.getfield 22, 3) := by decide +kernel
theorem dX7_readNumber_71 : decode cX7_readNumber 71 = .ok (.iconst 1, 1) := by decide +kernel
theorem dX7_readNumber_72 : decode cX7_readNumber 72 = .ok (.iadd, 1) := by decide +kernel
theorem dX7_readNumber_73 : decode cX7_readNumber 73 = .ok (.putfield 22, 3) := by decide +kernel
theorem dX7_readNumber_76 : decode cX7_readNumber 76 = .ok (.goto (-71), 3) := by decide +kernel
theorem dX7_readNumber_79 : decode cX7_readNumber 79 = .ok (.aload_n 0, 1) := by decide +kernel
theorem dX7_readNumber_80 : decode cX7_readNumber 80 = .ok (.getfield 22, 3) := by decide +kernel
theorem dX7_readNumber_83 : decode cX7_readNumber 83 = .ok (.aload_n 0, 1) := by decide +kernel
theorem dX7_readNumber_84 : decode cX7_readNumber 84 = .ok (.getfield 19, 3) := by decide +kernel
theorem dX7_readNumber_87 : decode cX7_readNumber 87 = .ok (.isub, 1) := by decide +kernel
theorem dX7_readNumber_88 : decode cX7_readNumber 88 = .ok (.istore_n 1, 1) := by decide +kernel
theorem dX7_readNumber_89 : decode cX7_readNumber 89 = .ok (.iload_n 1, 1) := by decide +kernel
theorem dX7_readNumber_90 : decode cX7_readNumber 90 = .ok (.iconst 1, 1) := by decide +kernel
theorem dX7_readNumber_91 : decode cX7_readNumber 91 = .ok (.if_icmp .le 20, 3) := by decide +kernel
theorem dX7_readNumber_94 : decode cX7_readNumber 94 = .ok (.aload_n 0, 1) := by decide +kernel
theorem dX7_readNumber_95 : decode cX7_readNumber 95 = .ok (.aload_n 0, 1) := by decide +kernel
theorem dX7_readNumber_96 : decode cX7_readNumber 96 = .ok (.getfield 19, 3) := by decide +kernel
theorem dX7_readNumber_99 : decode cX7_readNumber 99 = .ok (.invokevirtual 31, 3) := by decide +kernel
theorem dX7_readNumber_102 : decode cX7_readNumber 102 = .ok (.bipush 48, 2) := by decide +kernel
theorem dX7_readNumber_104 : decode cX7_readNumber 104 = .ok (.if_icmp .ne 7, 3) := by decide +kernel
theorem dX7_readNumber_107 : decode cX7_readNumber 107 = .ok (.iconst 1, 1) := by decide +kernel
theorem dX7_readNumber_108 : decode cX7_readNumber 108 = .ok (.goto 4, 3) := by decide +kernel
theorem dX7_readNumber_111 : decode cX7_readNumber 111 = .ok (.iconst 0, 1) := by decide +kernel
theorem dX7_readNumber_112 : decode cX7_readNumber 112 = .ok (.istore_n 2, 1) := by decide +kernel
theorem dX7_readNumber_113 : decode cX7_readNumber 113 = .ok (.aload_n 0, 1) := by decide +kernel
theorem dX7_readNumber_114 : decode cX7_readNumber 114 = .ok (.iload_n 1, 1) := by decide +kernel
theorem dX7_readNumber_115 : decode cX7_readNumber 115 = .ok (.iconst 2, 1) := by decide +kernel
theorem dX7_readNumber_116 : decode cX7_readNumber 116 = .ok (.if_icmp .gt 7, 3) := by decide +kernel
theorem dX7_readNumber_119 : decode cX7_readNumber 119 = .ok (.iload_n 2, 1) := by decide +kernel
theorem dX7_readNumber_120 : decode cX7_readNumber 120 = .ok (.ifCond .eq 7, 3) := by decide +kernel
theorem dX7_readNumber_123 : decode cX7_readNumber 123 = .ok (.iconst 1, 1) := by decide +kernel
theorem dX7_readNumber_124 : decode cX7_readNumber 124 = .ok (.goto 4, 3) := by decide +kernel
theorem dX7_readNumber_127 : decode cX7_readNumber 127 = .ok (.iconst 2, 1) := by decide +kernel
theorem dX7_readNumber_128 : decode cX7_readNumber 128 = .ok (.putfield 25, 3) := by decide +kernel
theorem dX7_readNumber_131 : decode cX7_readNumber 131 = .ok (.return_, 1) := by decide +kernel
theorem dX7_byteAt_0 : decode cX7_byteAt 0 = .ok (.iload_n 1, 1) := by decide +kernel
theorem dX7_byteAt_1 : decode cX7_byteAt 1 = .ok (.ifCond .lt 27, 3) := by decide +kernel
theorem dX7_byteAt_4 : decode cX7_byteAt 4 = .ok (.iload_n 1, 1) := by decide +kernel
theorem dX7_byteAt_5 : decode cX7_byteAt 5 = .ok (.aload_n 0, 1) := by decide +kernel
theorem dX7_byteAt_6 : decode cX7_byteAt 6 = .ok (.getfield 9, 3) := by decide +kernel
theorem dX7_byteAt_9 : decode cX7_byteAt 9 = .ok (.if_icmp .ge 19, 3) := by decide +kernel
theorem dX7_byteAt_12 : decode cX7_byteAt 12 = .ok (.iload_n 1, 1) := by decide +kernel
theorem dX7_byteAt_13 : decode cX7_byteAt 13 = .ok (.sipush 200, 3) := by decide +kernel
theorem dX7_byteAt_16 : decode cX7_byteAt 16 = .ok (.if_icmp .ge 12, 3) := by decide +kernel
theorem dX7_byteAt_19 : decode cX7_byteAt 19 = .ok (.aload_n 0, 1) := by decide +kernel
theorem dX7_byteAt_20 : decode cX7_byteAt 20 = .ok (.getfield 15, 3) := by decide +kernel
theorem dX7_byteAt_23 : decode cX7_byteAt 23 = .ok (.iload_n 1, 1) := by decide +kernel
theorem dX7_byteAt_24 : decode cX7_byteAt 24 = .ok (.iaload, 1) := by decide +kernel
theorem dX7_byteAt_25 : decode cX7_byteAt 25 = .ok (.goto 4, 3) := by decide +kernel
theorem dX7_byteAt_28 : decode cX7_byteAt 28 = .ok (.iconst (-1), 1) := by decide +kernel
theorem dX7_byteAt_29 : decode cX7_byteAt 29 = .ok (.ireturn, 1) := by decide +kernel
theorem dX7_isLetter_0 : decode cX7_isLetter 0 = .ok (.iload_n 0, 1) := by decide +kernel
theorem dX7_isLetter_1 : decode cX7_isLetter 1 = .ok (.bipush 97, 2) := by decide +kernel
theorem dX7_isLetter_3 : decode cX7_isLetter 3 = .ok (.if_icmp .lt 13, 3) := by decide +kernel
theorem dX7_isLetter_6 : decode cX7_isLetter 6 = .ok (.iload_n 0, 1) := by decide +kernel
theorem dX7_isLetter_7 : decode cX7_isLetter 7 = .ok (.bipush 122, 2) := by decide +kernel
theorem dX7_isLetter_9 : decode cX7_isLetter 9 = .ok (.if_icmp .gt 7, 3) := by decide +kernel
theorem dX7_isLetter_12 : decode cX7_isLetter 12 = .ok (.iconst 1, 1) := by decide +kernel
theorem dX7_isLetter_13 : decode cX7_isLetter 13 = .ok (.goto 4, 3) := by decide +kernel
theorem dX7_isLetter_16 : decode cX7_isLetter 16 = .ok (.iconst 0, 1) := by decide +kernel
theorem dX7_isLetter_17 : decode cX7_isLetter 17 = .ok (.ireturn, 1) := by decide +kernel
theorem dX7_isDigit_0 : decode cX7_isDigit 0 = .ok (.iload_n 0, 1) := by decide +kernel
theorem dX7_isDigit_1 : decode cX7_isDigit 1 = .ok (.bipush 48, 2) := by decide +kernel
theorem dX7_isDigit_3 : decode cX7_isDigit 3 = .ok (.if_icmp .lt 13, 3) := by decide +kernel
theorem dX7_isDigit_6 : decode cX7_isDigit 6 = .ok (.iload_n 0, 1) := by decide +kernel
theorem dX7_isDigit_7 : decode cX7_isDigit 7 = .ok (.bipush 57, 2) := by decide +kernel
theorem dX7_isDigit_9 : decode cX7_isDigit 9 = .ok (.if_icmp .gt 7, 3) := by decide +kernel
theorem dX7_isDigit_12 : decode cX7_isDigit 12 = .ok (.iconst 1, 1) := by decide +kernel
theorem dX7_isDigit_13 : decode cX7_isDigit 13 = .ok (.goto 4, 3) := by decide +kernel
theorem dX7_isDigit_16 : decode cX7_isDigit 16 = .ok (.iconst 0, 1) := by decide +kernel
theorem dX7_isDigit_17 : decode cX7_isDigit 17 = .ok (.ireturn, 1) := by decide +kernel
theorem dX8_init_0 : decode cX8_init 0 = .ok (.aload_n 0, 1) := by decide +kernel
theorem dX8_init_1 : decode cX8_init 1 = .ok (.invokespecial 1, 3) := by decide +kernel
theorem dX8_init_4 : decode cX8_init 4 = .ok (.aload_n 0, 1) := by decide +kernel
theorem dX8_init_5 : decode cX8_init 5 = .ok (.new 7, 3) := by decide +kernel
theorem dX8_init_8 : decode cX8_init 8 = .ok (.dup, 1) := by decide +kernel
theorem dX8_init_9 : decode cX8_init 9 = .ok (.invokespecial 9, 3) := by decide +kernel
theorem dX8_init_12 : decode cX8_init 12 = .ok (.putfield 10, 3) := by decide +kernel
theorem dX8_init_15 : decode cX8_init 15 = .ok (.aload_n 0, 1) := by decide +kernel
theorem dX8_init_16 : decode cX8_init 16 = .ok (.aload_n 0, 1) := by decide +kernel
theorem dX8_init_17 : decode cX8_init 17 = .ok (.getfield 10, 3) := by decide +kernel
theorem dX8_init_20 : decode cX8_init 20 = .ok (.getfield 16, 3) := by decide +kernel
theorem dX8_init_23 : decode cX8_init 23 = .ok (.putfield 20, 3) := by decide +kernel
theorem dX8_init_26 : decode cX8_init 26 = .ok (.aload_n 0, 1) := by decide +kernel
theorem dX8_init_27 : decode cX8_init 27 = .ok (.new 21, 3) := by decide +kernel
theorem dX8_init_30 : decode cX8_init 30 = .ok (.dup, 1) := by decide +kernel
theorem dX8_init_31 : decode cX8_init 31 = .ok (.invokespecial 23, 3) := by decide +kernel
theorem dX8_init_34 : decode cX8_init 34 = .ok (.putfield 24, 3) := by decide +kernel
theorem dX8_init_37 : decode cX8_init 37 = .ok (.aload_n 0, 1) := by decide +kernel
theorem dX8_init_38 : decode cX8_init 38 = .ok (.new 28, 3) := by decide +kernel
theorem dX8_init_41 : decode cX8_init 41 = .ok (.dup, 1) := by decide +kernel
theorem dX8_init_42 : decode cX8_init 42 = .ok (.invokespecial 30, 3) := by decide +kernel
theorem dX8_init_45 : decode cX8_init 45 = .ok (.putfield 31, 3) := by decide +kernel
theorem dX8_init_48 : decode cX8_init 48 = .ok (.aload_n 0, 1) := by decide +kernel
theorem dX8_init_49 : decode cX8_init 49 = .ok (.new 28, 3) := by decide +kernel
theorem dX8_init_52 : decode cX8_init 52 = .ok (.dup, 1) := by decide +kernel
theorem dX8_init_53 : decode cX8_init 53 = .ok (.invokespecial 30, 3) := by decide +kernel
theorem dX8_init_56 : decode cX8_init 56 = .ok (.putfield 35, 3) := by decide +kernel
theorem dX8_init_59 : decode cX8_init 59 = .ok (.aload_n 0, 1) := by decide +kernel
theorem dX8_init_60 : decode cX8_init 60 = .ok (.new 38, 3) := by decide +kernel
theorem dX8_init_63 : decode cX8_init 63 = .ok (.dup, 1) := by decide +kernel
theorem dX8_init_64 : decode cX8_init 64 = .ok (.invokespecial 40, 3) := by decide +kernel
theorem dX8_init_67 : decode cX8_init 67 = .ok (.putfield 41, 3) := by decide +kernel
theorem dX8_init_70 : decode cX8_init 70 = .ok (.aload_n 0, 1) := by decide +kernel
theorem dX8_init_71 : decode cX8_init 71 = .ok (.new 45, 3) := by decide +kernel
theorem dX8_init_74 : decode cX8_init 74 = .ok (.dup, 1) := by decide +kernel
theorem dX8_init_75 : decode cX8_init 75 = .ok (.invokespecial 47, 3) := by decide +kernel
theorem dX8_init_78 : decode cX8_init 78 = .ok (.putfield 48, 3) := by decide +kernel
theorem dX8_init_81 : decode cX8_init 81 = .ok (.aload_n 0, 1) := by decide +kernel
theorem dX8_init_82 : decode cX8_init 82 = .ok (.iconst 2, 1) := by decide +kernel
theorem dX8_init_83 : decode cX8_init 83 = .ok (.anewarray 45, 3) := by decide +kernel
theorem dX8_init_86 : decode cX8_init 86 = .ok (.putfield 52, 3) := by decide +kernel
theorem dX8_init_89 : decode cX8_init 89 = .ok (.aload_n 0, 1) := by decide +kernel
theorem dX8_init_90 : decode cX8_init 90 = .ok (.new 56, 3) := by decide +kernel
theorem dX8_init_93 : decode cX8_init 93 = .ok (.dup, 1) := by decide +kernel
theorem dX8_init_94 : decode cX8_init 94 = .ok (.invokespecial 58, 3) := by decide +kernel
theorem dX8_init_97 : decode cX8_init 97 = .ok (.putfield 59, 3) := by decide +kernel
theorem dX8_init_100 : decode cX8_init 100 = .ok (.aload_n 0, 1) := by decide +kernel
theorem dX8_init_101 : decode cX8_init 101 = .ok (.new 63, 3) := by decide +kernel
theorem dX8_init_104 : decode cX8_init 104 = .ok (.dup, 1) := by decide +kernel
theorem dX8_init_105 : decode cX8_init 105 = .ok (.invokespecial 65, 3) := by decide +kernel
theorem dX8_init_108 : decode cX8_init 108 = .ok (.putfield 66, 3) := by decide +kernel
theorem dX8_init_111 : decode cX8_init 111 = .ok (.aload_n 0, 1) := by decide +kernel
theorem dX8_init_112 : decode cX8_init 112 = .ok (.lconst 0, 1) := by decide +kernel
theorem dX8_init_113 : decode cX8_init 113 = .ok (.putfield 70, 3) := by decide +kernel
theorem dX8_init_116 : decode cX8_init 116 = .ok (.iconst 0, 1) := by decide +kernel
theorem dX8_init_117 : decode cX8_init 117 = .ok (.istore_n 1, 1) := by decide +kernel
theorem dX8_init_118 : decode cX8_init 118 = .ok (.iload_n 1, 1) := by decide +kernel
theorem dX8_init_119 : decode cX8_init 119 = .ok (.iconst 2, 1) := by decide +kernel
theorem dX8_init_120 : decode cX8_init 120 = .ok (.if_icmp .ge 22, 3) := by decide +kernel
theorem dX8_init_123 : decode cX8_init 123 = .ok (.aload_n 0, 1) := by decide +kernel
theorem dX8_init_124 : decode cX8_init 124 = .ok (.getfield 52, 3) := by decide +kernel
theorem dX8_init_127 : decode cX8_init 127 = .ok (.iload_n 1, 1) := by decide +kernel
theorem dX8_init_128 : decode cX8_init 128 = .ok (.new 45, 3) := by decide +kernel
theorem dX8_init_131 : decode cX8_init 131 = .ok (.dup, 1) := by decide +kernel
theorem dX8_init_132 : decode cX8_init 132 = .ok (.invokespecial 47, 3) := by decide +kernel
theorem dX8_init_135 : decode cX8_init 135 = .ok (.aastore, 1) := by decide +kernel
theorem dX8_init_136 : decode cX8_init 136 = .ok (.iinc 1 1, 3) := by decide +kernel
theorem dX8_init_139 : decode cX8_init 139 = .ok (.goto (-21), 3) := by decide +kernel
theorem dX8_init_142 : decode cX8_init 142 = .ok (.aload_n 0, 1) := by decide +kernel
theorem dX8_init_143 : decode cX8_init 143 = .ok (.invokevirtual 74, 3) := by decide +kernel
theorem dX8_init_146 : decode cX8_init 146 = .ok (.return_, 1) := by decide +kernel
theorem dX8_type_0 : decode cX8_type 0 = .ok (.iload_n 3, 1) := by decide +kernel
theorem dX8_type_1 : decode cX8_type 1 = .ok (.iconst 1, 1) := by decide +kernel
theorem dX8_type_2 : decode cX8_type 2 = .ok (.if_icmp .lt 9, 3) := by decide +kernel
theorem dX8_type_5 : decode cX8_type 5 = .ok (.iload_n 3, 1) := by decide +kernel
theorem dX8_type_6 : decode cX8_type 6 = .ok (.bipush 8, 2) := by decide +kernel
theorem dX8_type_8 : decode cX8_type 8 = .ok (.if_icmp .le 5, 3) := by decide +kernel
theorem dX8_type_11 : decode cX8_type 11 = .ok (.iconst (-1), 1) := by decide +kernel
theorem dX8_type_12 : decode cX8_type 12 = .ok (.ireturn, 1) := by decide +kernel
theorem dX8_type_13 : decode cX8_type 13 = .ok (.aload_n 0, 1) := by decide +kernel
theorem dX8_type_14 : decode cX8_type 14 = .ok (.getfield 20, 3) := by decide +kernel
theorem dX8_type_17 : decode cX8_type 17 = .ok (.getfield 77, 3) := by decide +kernel
theorem dX8_type_20 : decode cX8_type 20 = .ok (.iload_n 3, 1) := by decide +kernel
theorem dX8_type_21 : decode cX8_type 21 = .ok (.iadd, 1) := by decide +kernel
theorem dX8_type_22 : decode cX8_type 22 = .ok (.sipush 200, 3) := by decide +kernel
theorem dX8_type_25 : decode cX8_type 25 = .ok (.if_icmp .le 6, 3) := by decide +kernel
theorem dX8_type_28 : decode cX8_type 28 = .ok (.bipush (-3), 2) := by decide +kernel
theorem dX8_type_30 : decode cX8_type 30 = .ok (.ireturn, 1) := by decide +kernel
theorem dX8_type_31 : decode cX8_type 31 = .ok (.iload_n 3, 1) := by decide +kernel
theorem dX8_type_32 : decode cX8_type 32 = .ok (.iconst 1, 1) := by decide +kernel
theorem dX8_type_33 : decode cX8_type 33 = .ok (.isub, 1) := by decide +kernel
theorem dX8_type_34 : decode cX8_type 34 = .ok (.istore 4, 2) := by decide +kernel
theorem dX8_type_36 : decode cX8_type 36 = .ok (.iload 4, 2) := by decide +kernel
theorem dX8_type_38 : decode cX8_type 38 = .ok (.ifCond .lt 28, 3) := by decide +kernel
theorem dX8_type_41 : decode cX8_type 41 = .ok (.aload_n 0, 1) := by decide +kernel
theorem dX8_type_42 : decode cX8_type 42 = .ok (.getfield 20, 3) := by decide +kernel
theorem dX8_type_45 : decode cX8_type 45 = .ok (.lload_n 1, 1) := by decide +kernel
theorem dX8_type_46 : decode cX8_type 46 = .ok (.bipush 8, 2) := by decide +kernel
theorem dX8_type_48 : decode cX8_type 48 = .ok (.iload 4, 2) := by decide +kernel
theorem dX8_type_50 : decode cX8_type 50 = .ok (.imul, 1) := by decide +kernel
theorem dX8_type_51 : decode cX8_type 51 = .ok (.lushr, 1) := by decide +kernel
theorem dX8_type_52 : decode cX8_type 52 = .ok (.l2i, 1) := by decide +kernel
theorem dX8_type_53 : decode cX8_type 53 = .ok (.sipush 255, 3) := by decide +kernel
theorem dX8_type_56 : decode cX8_type 56 = .ok (.iand, 1) := by decide +kernel
theorem dX8_type_57 : decode cX8_type 57 = .ok (.invokevirtual 83, 3) := by decide +kernel
theorem dX8_type_60 : decode cX8_type 60 = .ok (.iinc 4 (-1), 3) := by decide +kernel
theorem dX8_type_63 : decode cX8_type 63 = .ok (.goto (-27), 3) := by decide +kernel
theorem dX8_type_66 : decode cX8_type 66 = .ok (.aload_n 0, 1) := by decide +kernel
theorem dX8_type_67 : decode cX8_type 67 = .ok (.getfield 20, 3) := by decide +kernel
theorem dX8_type_70 : decode cX8_type 70 = .ok (.getfield 77, 3) := by decide +kernel
theorem dX8_type_73 : decode cX8_type 73 = .ok (.ireturn, 1) := by decide +kernel
theorem dX8_clear_0 : decode cX8_clear 0 = .ok (.aload_n 0, 1) := by decide +kernel
theorem dX8_clear_1 : decode cX8_clear 1 = .ok (.getfield 20, 3) := by decide +kernel
theorem dX8_clear_4 : decode cX8_clear 4 = .ok (.getfield 77, 3) := by decide +kernel
theorem dX8_clear_7 : decode cX8_clear 7 = .ok (.istore_n 1, 1) := by decide +kernel
theorem dX8_clear_8 : decode cX8_clear 8 = .ok (.aload_n 0, 1) := by decide +kernel
theorem dX8_clear_9 : decode cX8_clear 9 = .ok (.getfield 20, 3) := by decide +kernel
theorem dX8_clear_12 : decode cX8_clear 12 = .ok (.iconst 0, 1) := by decide +kernel
theorem dX8_clear_13 : decode cX8_clear 13 = .ok (.putfield 77, 3) := by decide +kernel
theorem dX8_clear_16 : decode cX8_clear 16 = .ok (.iload_n 1, 1) := by decide +kernel
theorem dX8_clear_17 : decode cX8_clear 17 = .ok (.ireturn, 1) := by decide +kernel
theorem dX8_map_0 : decode cX8_map 0 = .ok (.aload_n 0, 1) := by decide +kernel
theorem dX8_map_1 : decode cX8_map 1 = .ok (.getfield 10, 3) := by decide +kernel
theorem dX8_map_4 : decode cX8_map 4 = .ok (.invokevirtual 87, 3) := by decide +kernel
theorem dX8_map_7 : decode cX8_map 7 = .ok (.ifCond .ne 14, 3) := by decide +kernel
theorem dX8_map_10 : decode cX8_map 10 = .ok (.bipush (-10), 2) := by decide +kernel
theorem dX8_map_12 : decode cX8_map 12 = .ok (.aload_n 0, 1) := by decide +kernel
theorem dX8_map_13 : decode cX8_map 13 = .ok (.getfield 20, 3) := by decide +kernel
theorem dX8_map_16 : decode cX8_map 16 = .ok (.getfield 91, 3) := by decide +kernel
theorem dX8_map_19 : decode cX8_map 19 = .ok (.isub, 1) := by decide +kernel
theorem dX8_map_20 : decode cX8_map 20 = .ok (.ireturn, 1) := by decide +kernel
theorem dX8_map_21 : decode cX8_map 21 = .ok (.aload_n 0, 1) := by decide +kernel
theorem dX8_map_22 : decode cX8_map 22 = .ok (.getfield 24, 3) := by decide +kernel
theorem dX8_map_25 : decode cX8_map 25 = .ok (.aload_n 0, 1) := by decide +kernel
theorem dX8_map_26 : decode cX8_map 26 = .ok (.getfield 10, 3) := by decide +kernel
theorem dX8_map_29 : decode cX8_map 29 = .ok (.getfield 94, 3) := by decide +kernel
theorem dX8_map_32 : decode cX8_map 32 = .ok (.invokevirtual 97, 3) := by decide +kernel
theorem dX8_map_35 : decode cX8_map 35 = .ok (.aload_n 0, 1) := by decide +kernel
theorem dX8_map_36 : decode cX8_map 36 = .ok (.getfield 20, 3) := by decide +kernel
theorem dX8_map_39 : decode cX8_map 39 = .ok (.iconst 0, 1) := by decide +kernel
theorem dX8_map_40 : decode cX8_map 40 = .ok (.putfield 77, 3) := by decide +kernel
theorem dX8_map_43 : decode cX8_map 43 = .ok (.aload_n 0, 1) := by decide +kernel
theorem dX8_map_44 : decode cX8_map 44 = .ok (.invokevirtual 74, 3) := by decide +kernel
theorem dX8_map_47 : decode cX8_map 47 = .ok (.aload_n 0, 1) := by decide +kernel
theorem dX8_map_48 : decode cX8_map 48 = .ok (.getfield 10, 3) := by decide +kernel
theorem dX8_map_51 : decode cX8_map 51 = .ok (.getfield 101, 3) := by decide +kernel
theorem dX8_map_54 : decode cX8_map 54 = .ok (.ireturn, 1) := by decide +kernel
theorem dX8_cell_0 : decode cX8_cell 0 = .ok (.aload_n 0, 1) := by decide +kernel
theorem dX8_cell_1 : decode cX8_cell 1 = .ok (.iload_n 1, 1) := by decide +kernel
theorem dX8_cell_2 : decode cX8_cell 2 = .ok (.invokevirtual 104, 3) := by decide +kernel
theorem dX8_cell_5 : decode cX8_cell 5 = .ok (.ifCond .ne 5, 3) := by decide +kernel
theorem dX8_cell_8 : decode cX8_cell 8 = .ok (.iconst (-1), 1) := by decide +kernel
theorem dX8_cell_9 : decode cX8_cell 9 = .ok (.ireturn, 1) := by decide +kernel
theorem dX8_cell_10 : decode cX8_cell 10 = .ok (.iload_n 2, 1) := by decide +kernel
theorem dX8_cell_11 : decode cX8_cell 11 = .ok (.tableswitch 103 0 5 #[37, 47, 57, 67, 77, 87], 37) := by decide +kernel
theorem dX8_cell_48 : decode cX8_cell 48 = .ok (.aload_n 0, 1) := by decide +kernel
theorem dX8_cell_49 : decode cX8_cell 49 = .ok (.getfield 35, 3) := by decide +kernel
theorem dX8_cell_52 : decode cX8_cell 52 = .ok (.getfield 108, 3) := by decide +kernel
theorem dX8_cell_55 : decode cX8_cell 55 = .ok (.iload_n 1, 1) := by decide +kernel
theorem dX8_cell_56 : decode cX8_cell 56 = .ok (.iaload, 1) := by decide +kernel
theorem dX8_cell_57 : decode cX8_cell 57 = .ok (.ireturn, 1) := by decide +kernel
theorem dX8_cell_58 : decode cX8_cell 58 = .ok (.aload_n 0, 1) := by decide +kernel
theorem dX8_cell_59 : decode cX8_cell 59 = .ok (.getfield 35, 3) := by decide +kernel
theorem dX8_cell_62 : decode cX8_cell 62 = .ok (.getfield 112, 3) := by decide +kernel
theorem dX8_cell_65 : decode cX8_cell 65 = .ok (.iload_n 1, 1) := by decide +kernel
theorem dX8_cell_66 : decode cX8_cell 66 = .ok (.iaload, 1) := by decide +kernel
theorem dX8_cell_67 : decode cX8_cell 67 = .ok (.ireturn, 1) := by decide +kernel
theorem dX8_cell_68 : decode cX8_cell 68 = .ok (.aload_n 0, 1) := by decide +kernel
theorem dX8_cell_69 : decode cX8_cell 69 = .ok (.getfield 35, 3) := by decide +kernel
theorem dX8_cell_72 : decode cX8_cell 72 = .ok (.getfield 115, 3) := by decide +kernel
theorem dX8_cell_75 : decode cX8_cell 75 = .ok (.iload_n 1, 1) := by decide +kernel
theorem dX8_cell_76 : decode cX8_cell 76 = .ok (.iaload, 1) := by decide +kernel
theorem dX8_cell_77 : decode cX8_cell 77 = .ok (.ireturn, 1) := by decide +kernel
theorem dX8_cell_78 : decode cX8_cell 78 = .ok (.aload_n 0, 1) := by decide +kernel
theorem dX8_cell_79 : decode cX8_cell 79 = .ok (.getfield 35, 3) := by decide +kernel
theorem dX8_cell_82 : decode cX8_cell 82 = .ok (.getfield 118, 3) := by decide +kernel
theorem dX8_cell_85 : decode cX8_cell 85 = .ok (.iload_n 1, 1) := by decide +kernel
theorem dX8_cell_86 : decode cX8_cell 86 = .ok (.iaload, 1) := by decide +kernel
theorem dX8_cell_87 : decode cX8_cell 87 = .ok (.ireturn, 1) := by decide +kernel
theorem dX8_cell_88 : decode cX8_cell 88 = .ok (.aload_n 0, 1) := by decide +kernel
theorem dX8_cell_89 : decode cX8_cell 89 = .ok (.getfield 24, 3) := by decide +kernel
theorem dX8_cell_92 : decode cX8_cell 92 = .ok (.getfield 121, 3) := by decide +kernel
theorem dX8_cell_95 : decode cX8_cell 95 = .ok (.iload_n 1, 1) := by decide +kernel
theorem dX8_cell_96 : decode cX8_cell 96 = .ok (.iaload, 1) := by decide +kernel
theorem dX8_cell_97 : decode cX8_cell 97 = .ok (.ireturn, 1) := by decide +kernel
theorem dX8_cell_98 : decode cX8_cell 98 = .ok (.aload_n 0, 1) := by decide +kernel
theorem dX8_cell_99 : decode cX8_cell 99 = .ok (.getfield 35, 3) := by decide +kernel
theorem dX8_cell_102 : decode cX8_cell 102 = .ok (.iload_n 1, 1) := by decide +kernel
theorem dX8_cell_103 : decode cX8_cell 103 = .ok (.aload_n 0, 1) := by decide +kernel
theorem dX8_cell_104 : decode cX8_cell 104 = .ok (.getfield 24, 3) := by decide +kernel
theorem dX8_cell_107 : decode cX8_cell 107 = .ok (.getfield 121, 3) := by decide +kernel
theorem dX8_cell_110 : decode cX8_cell 110 = .ok (.invokevirtual 124, 3) := by decide +kernel
theorem dX8_cell_113 : decode cX8_cell 113 = .ok (.ireturn, 1) := by decide +kernel
theorem dX8_cell_114 : decode cX8_cell 114 = .ok (.iconst (-1), 1) := by decide +kernel
theorem dX8_cell_115 : decode cX8_cell 115 = .ok (.ireturn, 1) := by decide +kernel
theorem dX8_at_0 : decode cX8_at 0 = .ok (.iload_n 1, 1) := by decide +kernel
theorem dX8_at_1 : decode cX8_at 1 = .ok (.ifCond .lt 11, 3) := by decide +kernel
theorem dX8_at_4 : decode cX8_at 4 = .ok (.iload_n 2, 1) := by decide +kernel
theorem dX8_at_5 : decode cX8_at 5 = .ok (.ifCond .lt 7, 3) := by decide +kernel
theorem dX8_at_8 : decode cX8_at 8 = .ok (.iload_n 3, 1) := by decide +kernel
theorem dX8_at_9 : decode cX8_at 9 = .ok (.ifCond .ge 5, 3) := by decide +kernel
theorem dX8_at_12 : decode cX8_at 12 = .ok (.iconst (-1), 1) := by decide +kernel
theorem dX8_at_13 : decode cX8_at 13 = .ok (.ireturn, 1) := by decide +kernel
theorem dX8_at_14 : decode cX8_at 14 = .ok (.iconst 0, 1) := by decide +kernel
theorem dX8_at_15 : decode cX8_at 15 = .ok (.istore 4, 2) := by decide +kernel
theorem dX8_at_17 : decode cX8_at 17 = .ok (.iload 4, 2) := by decide +kernel
theorem dX8_at_19 : decode cX8_at 19 = .ok (.aload_n 0, 1) := by decide +kernel
theorem dX8_at_20 : decode cX8_at 20 = .ok (.getfield 35, 3) := by decide +kernel
theorem dX8_at_23 : decode cX8_at 23 = .ok (.getfield 128, 3) := by decide +kernel
theorem dX8_at_26 : decode cX8_at 26 = .ok (.if_icmp .ge 54, 3) := by decide +kernel
theorem dX8_at_29 : decode cX8_at 29 = .ok (.aload_n 0, 1) := by decide +kernel
theorem dX8_at_30 : decode cX8_at 30 = .ok (.getfield 35, 3) := by decide +kernel
theorem dX8_at_33 : decode cX8_at 33 = .ok (.getfield 108, 3) := by decide +kernel
theorem dX8_at_36 : decode cX8_at 36 = .ok (.iload 4, 2) := by decide +kernel
theorem dX8_at_38 : decode cX8_at 38 = .ok (.iaload, 1) := by decide +kernel
theorem dX8_at_39 : decode cX8_at 39 = .ok (.iload_n 1, 1) := by decide +kernel
theorem dX8_at_40 : decode cX8_at 40 = .ok (.if_icmp .ne 34, 3) := by decide +kernel
theorem dX8_at_43 : decode cX8_at 43 = .ok (.aload_n 0, 1) := by decide +kernel
theorem dX8_at_44 : decode cX8_at 44 = .ok (.getfield 35, 3) := by decide +kernel
theorem dX8_at_47 : decode cX8_at 47 = .ok (.getfield 112, 3) := by decide +kernel
theorem dX8_at_50 : decode cX8_at 50 = .ok (.iload 4, 2) := by decide +kernel
theorem dX8_at_52 : decode cX8_at 52 = .ok (.iaload, 1) := by decide +kernel
theorem dX8_at_53 : decode cX8_at 53 = .ok (.iload_n 2, 1) := by decide +kernel
theorem dX8_at_54 : decode cX8_at 54 = .ok (.if_icmp .ne 20, 3) := by decide +kernel
theorem dX8_at_57 : decode cX8_at 57 = .ok (.aload_n 0, 1) := by decide +kernel
theorem dX8_at_58 : decode cX8_at 58 = .ok (.getfield 35, 3) := by decide +kernel
theorem dX8_at_61 : decode cX8_at 61 = .ok (.getfield 115, 3) := by decide +kernel
theorem dX8_at_64 : decode cX8_at 64 = .ok (.iload 4, 2) := by decide +kernel
theorem dX8_at_66 : decode cX8_at 66 = .ok (.iaload, 1) := by decide +kernel
theorem dX8_at_67 : decode cX8_at 67 = .ok (.iload_n 3, 1) := by decide +kernel
theorem dX8_at_68 : decode cX8_at 68 = .ok (.if_icmp .ne 6, 3) := by decide +kernel
theorem dX8_at_71 : decode cX8_at 71 = .ok (.iload 4, 2) := by decide +kernel
theorem dX8_at_73 : decode cX8_at 73 = .ok (.ireturn, 1) := by decide +kernel
theorem dX8_at_74 : decode cX8_at 74 = .ok (.iinc 4 1, 3) := by decide +kernel
theorem dX8_at_77 : decode cX8_at 77 = .ok (.goto (-60), 3) := by decide +kernel
theorem dX8_at_80 : decode cX8_at 80 = .ok (.bipush (-9), 2) := by decide +kernel
theorem dX8_at_82 : decode cX8_at 82 = .ok (.ireturn, 1) := by decide +kernel
theorem dX8_fold_0 : decode cX8_fold 0 = .ok (.iload_n 1, 1) := by decide +kernel
theorem dX8_fold_1 : decode cX8_fold 1 = .ok (.invokestatic 131, 3) := by decide +kernel
theorem dX8_fold_4 : decode cX8_fold 4 = .ok (.ifCond .eq 28, 3) := by decide +kernel
theorem dX8_fold_7 : decode cX8_fold 7 = .ok (.iload_n 3, 1) := by decide +kernel
theorem dX8_fold_8 : decode cX8_fold 8 = .ok (.invokestatic 131, 3) := by decide +kernel
theorem dX8_fold_11 : decode cX8_fold 11 = .ok (.ifCond .eq 21, 3) := by decide +kernel
theorem dX8_fold_14 : decode cX8_fold 14 = .ok (.iload 4, 2) := by decide +kernel
theorem dX8_fold_16 : decode cX8_fold 16 = .ok (.invokestatic 131, 3) := by decide +kernel
theorem dX8_fold_19 : decode cX8_fold 19 = .ok (.ifCond .eq 13, 3) := by decide +kernel
theorem dX8_fold_22 : decode cX8_fold 22 = .ok (.iload_n 2, 1) := by decide +kernel
theorem dX8_fold_23 : decode cX8_fold 23 = .ok (.iconst 1, 1) := by decide +kernel
theorem dX8_fold_24 : decode cX8_fold 24 = .ok (.if_icmp .lt 8, 3) := by decide +kernel
theorem dX8_fold_27 : decode cX8_fold 27 = .ok (.iload_n 2, 1) := by decide +kernel
theorem dX8_fold_28 : decode cX8_fold 28 = .ok (.iconst 4, 1) := by decide +kernel
theorem dX8_fold_29 : decode cX8_fold 29 = .ok (.if_icmp .lt 5, 3) := by decide +kernel
theorem dX8_fold_32 : decode cX8_fold 32 = .ok (.iconst (-1), 1) := by decide +kernel
theorem dX8_fold_33 : decode cX8_fold 33 = .ok (.ireturn, 1) := by decide +kernel
theorem dX8_fold_34 : decode cX8_fold 34 = .ok (.iload_n 1, 1) := by decide +kernel
theorem dX8_fold_35 : decode cX8_fold 35 = .ok (.iconst 2, 1) := by decide +kernel
theorem dX8_fold_36 : decode cX8_fold 36 = .ok (.iload_n 3, 1) := by decide +kernel
theorem dX8_fold_37 : decode cX8_fold 37 = .ok (.imul, 1) := by decide +kernel
theorem dX8_fold_38 : decode cX8_fold 38 = .ok (.iadd, 1) := by decide +kernel
theorem dX8_fold_39 : decode cX8_fold 39 = .ok (.iconst 4, 1) := by decide +kernel
theorem dX8_fold_40 : decode cX8_fold 40 = .ok (.iload 4, 2) := by decide +kernel
theorem dX8_fold_42 : decode cX8_fold 42 = .ok (.imul, 1) := by decide +kernel
theorem dX8_fold_43 : decode cX8_fold 43 = .ok (.iadd, 1) := by decide +kernel
theorem dX8_fold_44 : decode cX8_fold 44 = .ok (.bipush 8, 2) := by decide +kernel
theorem dX8_fold_46 : decode cX8_fold 46 = .ok (.iload_n 2, 1) := by decide +kernel
theorem dX8_fold_47 : decode cX8_fold 47 = .ok (.iconst 1, 1) := by decide +kernel
theorem dX8_fold_48 : decode cX8_fold 48 = .ok (.isub, 1) := by decide +kernel
theorem dX8_fold_49 : decode cX8_fold 49 = .ok (.imul, 1) := by decide +kernel
theorem dX8_fold_50 : decode cX8_fold 50 = .ok (.iadd, 1) := by decide +kernel
theorem dX8_fold_51 : decode cX8_fold 51 = .ok (.istore 5, 2) := by decide +kernel
theorem dX8_fold_53 : decode cX8_fold 53 = .ok (.aload_n 0, 1) := by decide +kernel
theorem dX8_fold_54 : decode cX8_fold 54 = .ok (.getfield 35, 3) := by decide +kernel
theorem dX8_fold_57 : decode cX8_fold 57 = .ok (.iload 5, 2) := by decide +kernel
theorem dX8_fold_59 : decode cX8_fold 59 = .ok (.invokevirtual 134, 3) := by decide +kernel
theorem dX8_fold_62 : decode cX8_fold 62 = .ok (.ifCond .eq 26, 3) := by decide +kernel
theorem dX8_fold_65 : decode cX8_fold 65 = .ok (.aload_n 0, 1) := by decide +kernel
theorem dX8_fold_66 : decode cX8_fold 66 = .ok (.getfield 41, 3) := by decide +kernel
theorem dX8_fold_69 : decode cX8_fold 69 = .ok (.aload_n 0, 1) := by decide +kernel
theorem dX8_fold_70 : decode cX8_fold 70 = .ok (.getfield 35, 3) := by decide +kernel
theorem dX8_fold_73 : decode cX8_fold 73 = .ok (.iload 5, 2) := by decide +kernel
theorem dX8_fold_75 : decode cX8_fold 75 = .ok (.aload_n 0, 1) := by decide +kernel
theorem dX8_fold_76 : decode cX8_fold 76 = .ok (.getfield 24, 3) := by decide +kernel
theorem dX8_fold_79 : decode cX8_fold 79 = .ok (.getfield 137, 3) := by decide +kernel
theorem dX8_fold_82 : decode cX8_fold 82 = .ok (.invokevirtual 140, 3) := by decide +kernel
theorem dX8_fold_85 : decode cX8_fold 85 = .ok (.ifCond .eq 6, 3) := by decide +kernel
theorem dX8_fold_88 : decode cX8_fold 88 = .ok (.bipush (-2), 2) := by decide +kernel
theorem dX8_fold_90 : decode cX8_fold 90 = .ok (.ireturn, 1) := by decide +kernel
theorem dX8_fold_91 : decode cX8_fold 91 = .ok (.aload_n 0, 1) := by decide +kernel
theorem dX8_fold_92 : decode cX8_fold 92 = .ok (.getfield 48, 3) := by decide +kernel
theorem dX8_fold_95 : decode cX8_fold 95 = .ok (.iload 5, 2) := by decide +kernel
theorem dX8_fold_97 : decode cX8_fold 97 = .ok (.invokevirtual 144, 3) := by decide +kernel
theorem dX8_fold_100 : decode cX8_fold 100 = .ok (.aload_n 0, 1) := by decide +kernel
theorem dX8_fold_101 : decode cX8_fold 101 = .ok (.iload 5, 2) := by decide +kernel
theorem dX8_fold_103 : decode cX8_fold 103 = .ok (.invokevirtual 147, 3) := by decide +kernel
theorem dX8_fold_106 : decode cX8_fold 106 = .ok (.aload_n 0, 1) := by decide +kernel
theorem dX8_fold_107 : decode cX8_fold 107 = .ok (.getfield 35, 3) := by decide +kernel
theorem dX8_fold_110 : decode cX8_fold 110 = .ok (.invokevirtual 150, 3) := by decide +kernel
theorem dX8_fold_113 : decode cX8_fold 113 = .ok (.ireturn, 1) := by decide +kernel
theorem dX8_undo_0 : decode cX8_undo 0 = .ok (.aload_n 0, 1) := by decide +kernel
theorem dX8_undo_1 : decode cX8_undo 1 = .ok (.getfield 48, 3) := by decide +kernel
theorem dX8_undo_4 : decode cX8_undo 4 = .ok (.getfield 154, 3) := by decide +kernel
theorem dX8_undo_7 : decode cX8_undo 7 = .ok (.ifCond .ne 6, 3) := by decide +kernel
theorem dX8_undo_10 : decode cX8_undo 10 = .ok (.bipush (-2), 2) := by decide +kernel
theorem dX8_undo_12 : decode cX8_undo 12 = .ok (.ireturn, 1) := by decide +kernel
theorem dX8_undo_13 : decode cX8_undo 13 = .ok (.aload_n 0, 1) := by decide +kernel
theorem dX8_undo_14 : decode cX8_undo 14 = .ok (.getfield 48, 3) := by decide +kernel
theorem dX8_undo_17 : decode cX8_undo 17 = .ok (.dup, 1) := by decide +kernel
theorem dX8_undo_18 : decode cX8_undo 18 = .ok (.getfield 154, 3) := by decide +kernel
theorem dX8_undo_21 : decode cX8_undo 21 = .ok (.iconst 1, 1) := by decide +kernel
theorem dX8_undo_22 : decode cX8_undo 22 = .ok (.isub, 1) := by decide +kernel
theorem dX8_undo_23 : decode cX8_undo 23 = .ok (.putfield 154, 3) := by decide +kernel
theorem dX8_undo_26 : decode cX8_undo 26 = .ok (.aload_n 0, 1) := by decide +kernel
theorem dX8_undo_27 : decode cX8_undo 27 = .ok (.invokevirtual 157, 3) := by decide +kernel
theorem dX8_undo_30 : decode cX8_undo 30 = .ok (.aload_n 0, 1) := by decide +kernel
theorem dX8_undo_31 : decode cX8_undo 31 = .ok (.getfield 48, 3) := by decide +kernel
theorem dX8_undo_34 : decode cX8_undo 34 = .ok (.getfield 154, 3) := by decide +kernel
theorem dX8_undo_37 : decode cX8_undo 37 = .ok (.ireturn, 1) := by decide +kernel
theorem dX8_day_0 : decode cX8_day 0 = .ok (.aload_n 0, 1) := by decide +kernel
theorem dX8_day_1 : decode cX8_day 1 = .ok (.getfield 48, 3) := by decide +kernel
theorem dX8_day_4 : decode cX8_day 4 = .ok (.aload_n 0, 1) := by decide +kernel
theorem dX8_day_5 : decode cX8_day 5 = .ok (.getfield 41, 3) := by decide +kernel
theorem dX8_day_8 : decode cX8_day 8 = .ok (.invokevirtual 160, 3) := by decide +kernel
theorem dX8_day_11 : decode cX8_day 11 = .ok (.aload_n 0, 1) := by decide +kernel
theorem dX8_day_12 : decode cX8_day 12 = .ok (.invokevirtual 157, 3) := by decide +kernel
theorem dX8_day_15 : decode cX8_day 15 = .ok (.aload_n 0, 1) := by decide +kernel
theorem dX8_day_16 : decode cX8_day 16 = .ok (.getfield 48, 3) := by decide +kernel
theorem dX8_day_19 : decode cX8_day 19 = .ok (.getfield 164, 3) := by decide +kernel
theorem dX8_day_22 : decode cX8_day 22 = .ok (.ireturn, 1) := by decide +kernel
theorem dX8_bent_0 : decode cX8_bent 0 = .ok (.aload_n 0, 1) := by decide +kernel
theorem dX8_bent_1 : decode cX8_bent 1 = .ok (.getfield 41, 3) := by decide +kernel
theorem dX8_bent_4 : decode cX8_bent 4 = .ok (.iload_n 1, 1) := by decide +kernel
theorem dX8_bent_5 : decode cX8_bent 5 = .ok (.iload_n 2, 1) := by decide +kernel
theorem dX8_bent_6 : decode cX8_bent 6 = .ok (.invokevirtual 167, 3) := by decide +kernel
theorem dX8_bent_9 : decode cX8_bent 9 = .ok (.istore_n 3, 1) := by decide +kernel
theorem dX8_bent_10 : decode cX8_bent 10 = .ok (.iload_n 3, 1) := by decide +kernel
theorem dX8_bent_11 : decode cX8_bent 11 = .ok (.bipush (-9), 2) := by decide +kernel
theorem dX8_bent_13 : decode cX8_bent 13 = .ok (.if_icmp .ne 7, 3) := by decide +kernel
theorem dX8_bent_16 : decode cX8_bent 16 = .ok (.iconst (-1), 1) := by decide +kernel
theorem dX8_bent_17 : decode cX8_bent 17 = .ok (.goto 12, 3) := by decide +kernel
theorem dX8_bent_20 : decode cX8_bent 20 = .ok (.aload_n 0, 1) := by decide +kernel
theorem dX8_bent_21 : decode cX8_bent 21 = .ok (.getfield 41, 3) := by decide +kernel
theorem dX8_bent_24 : decode cX8_bent 24 = .ok (.getfield 171, 3) := by decide +kernel
theorem dX8_bent_27 : decode cX8_bent 27 = .ok (.iload_n 3, 1) := by decide +kernel
theorem dX8_bent_28 : decode cX8_bent 28 = .ok (.iaload, 1) := by decide +kernel
theorem dX8_bent_29 : decode cX8_bent 29 = .ok (.ireturn, 1) := by decide +kernel
theorem dX8_touch_0 : decode cX8_touch 0 = .ok (.aload_n 0, 1) := by decide +kernel
theorem dX8_touch_1 : decode cX8_touch 1 = .ok (.iload_n 1, 1) := by decide +kernel
theorem dX8_touch_2 : decode cX8_touch 2 = .ok (.iload_n 2, 1) := by decide +kernel
theorem dX8_touch_3 : decode cX8_touch 3 = .ok (.invokevirtual 174, 3) := by decide +kernel
theorem dX8_touch_6 : decode cX8_touch 6 = .ok (.ifCond .eq 15, 3) := by decide +kernel
theorem dX8_touch_9 : decode cX8_touch 9 = .ok (.aload_n 0, 1) := by decide +kernel
theorem dX8_touch_10 : decode cX8_touch 10 = .ok (.getfield 35, 3) := by decide +kernel
theorem dX8_touch_13 : decode cX8_touch 13 = .ok (.iload_n 1, 1) := by decide +kernel
theorem dX8_touch_14 : decode cX8_touch 14 = .ok (.iload_n 2, 1) := by decide +kernel
theorem dX8_touch_15 : decode cX8_touch 15 = .ok (.invokevirtual 178, 3) := by decide +kernel
theorem dX8_touch_18 : decode cX8_touch 18 = .ok (.goto 4, 3) := by decide +kernel
theorem dX8_touch_21 : decode cX8_touch 21 = .ok (.iconst (-1), 1) := by decide +kernel
theorem dX8_touch_22 : decode cX8_touch 22 = .ok (.ireturn, 1) := by decide +kernel
theorem dX8_packet_0 : decode cX8_packet 0 = .ok (.iload_n 1, 1) := by decide +kernel
theorem dX8_packet_1 : decode cX8_packet 1 = .ok (.tableswitch 82 0 4 #[35, 43, 51, 59, 74], 35) := by decide +kernel
theorem dX8_packet_36 : decode cX8_packet 36 = .ok (.aload_n 0, 1) := by decide +kernel
theorem dX8_packet_37 : decode cX8_packet 37 = .ok (.getfield 35, 3) := by decide +kernel
theorem dX8_packet_40 : decode cX8_packet 40 = .ok (.getfield 181, 3) := by decide +kernel
theorem dX8_packet_43 : decode cX8_packet 43 = .ok (.ireturn, 1) := by decide +kernel
theorem dX8_packet_44 : decode cX8_packet 44 = .ok (.aload_n 0, 1) := by decide +kernel
theorem dX8_packet_45 : decode cX8_packet 45 = .ok (.getfield 35, 3) := by decide +kernel
theorem dX8_packet_48 : decode cX8_packet 48 = .ok (.getfield 184, 3) := by decide +kernel
theorem dX8_packet_51 : decode cX8_packet 51 = .ok (.ireturn, 1) := by decide +kernel
theorem dX8_packet_52 : decode cX8_packet 52 = .ok (.aload_n 0, 1) := by decide +kernel
theorem dX8_packet_53 : decode cX8_packet 53 = .ok (.getfield 35, 3) := by decide +kernel
theorem dX8_packet_56 : decode cX8_packet 56 = .ok (.invokevirtual 150, 3) := by decide +kernel
theorem dX8_packet_59 : decode cX8_packet 59 = .ok (.ireturn, 1) := by decide +kernel
theorem dX8_packet_60 : decode cX8_packet 60 = .ok (.aload_n 0, 1) := by decide +kernel
theorem dX8_packet_61 : decode cX8_packet 61 = .ok (.getfield 35, 3) := by decide +kernel
theorem dX8_packet_64 : decode cX8_packet 64 = .ok (.aload_n 0, 1) := by decide +kernel
theorem dX8_packet_65 : decode cX8_packet 65 = .ok (.getfield 24, 3) := by decide +kernel
theorem dX8_packet_68 : decode cX8_packet 68 = .ok (.getfield 187, 3) := by decide +kernel
theorem dX8_packet_71 : decode cX8_packet 71 = .ok (.invokevirtual 190, 3) := by decide +kernel
theorem dX8_packet_74 : decode cX8_packet 74 = .ok (.ireturn, 1) := by decide +kernel
theorem dX8_packet_75 : decode cX8_packet 75 = .ok (.aload_n 0, 1) := by decide +kernel
theorem dX8_packet_76 : decode cX8_packet 76 = .ok (.getfield 35, 3) := by decide +kernel
theorem dX8_packet_79 : decode cX8_packet 79 = .ok (.invokevirtual 194, 3) := by decide +kernel
theorem dX8_packet_82 : decode cX8_packet 82 = .ok (.ireturn, 1) := by decide +kernel
theorem dX8_packet_83 : decode cX8_packet 83 = .ok (.iconst (-1), 1) := by decide +kernel
theorem dX8_packet_84 : decode cX8_packet 84 = .ok (.ireturn, 1) := by decide +kernel
theorem dX8_reach_0 : decode cX8_reach 0 = .ok (.aload_n 0, 1) := by decide +kernel
theorem dX8_reach_1 : decode cX8_reach 1 = .ok (.iload_n 1, 1) := by decide +kernel
theorem dX8_reach_2 : decode cX8_reach 2 = .ok (.iload_n 2, 1) := by decide +kernel
theorem dX8_reach_3 : decode cX8_reach 3 = .ok (.invokevirtual 174, 3) := by decide +kernel
theorem dX8_reach_6 : decode cX8_reach 6 = .ok (.ifCond .eq 8, 3) := by decide +kernel
theorem dX8_reach_9 : decode cX8_reach 9 = .ok (.iload_n 3, 1) := by decide +kernel
theorem dX8_reach_10 : decode cX8_reach 10 = .ok (.iconst (-1), 1) := by decide +kernel
theorem dX8_reach_11 : decode cX8_reach 11 = .ok (.if_icmp .ge 5, 3) := by decide +kernel
theorem dX8_reach_14 : decode cX8_reach 14 = .ok (.iconst (-1), 1) := by decide +kernel
theorem dX8_reach_15 : decode cX8_reach 15 = .ok (.ireturn, 1) := by decide +kernel
theorem dX8_reach_16 : decode cX8_reach 16 = .ok (.aload_n 0, 1) := by decide +kernel
theorem dX8_reach_17 : decode cX8_reach 17 = .ok (.getfield 66, 3) := by decide +kernel
theorem dX8_reach_20 : decode cX8_reach 20 = .ok (.aload_n 0, 1) := by decide +kernel
theorem dX8_reach_21 : decode cX8_reach 21 = .ok (.getfield 35, 3) := by decide +kernel
theorem dX8_reach_24 : decode cX8_reach 24 = .ok (.invokevirtual 197, 3) := by decide +kernel
theorem dX8_reach_27 : decode cX8_reach 27 = .ok (.aload_n 0, 1) := by decide +kernel
theorem dX8_reach_28 : decode cX8_reach 28 = .ok (.getfield 66, 3) := by decide +kernel
theorem dX8_reach_31 : decode cX8_reach 31 = .ok (.iload_n 1, 1) := by decide +kernel
theorem dX8_reach_32 : decode cX8_reach 32 = .ok (.iload_n 2, 1) := by decide +kernel
theorem dX8_reach_33 : decode cX8_reach 33 = .ok (.invokevirtual 201, 3) := by decide +kernel
theorem dX8_reach_36 : decode cX8_reach 36 = .ok (.ifCond .ne 6, 3) := by decide +kernel
theorem dX8_reach_39 : decode cX8_reach 39 = .ok (.bipush (-9), 2) := by decide +kernel
theorem dX8_reach_41 : decode cX8_reach 41 = .ok (.ireturn, 1) := by decide +kernel
theorem dX8_reach_42 : decode cX8_reach 42 = .ok (.iload_n 3, 1) := by decide +kernel
theorem dX8_reach_43 : decode cX8_reach 43 = .ok (.iconst (-1), 1) := by decide +kernel
theorem dX8_reach_44 : decode cX8_reach 44 = .ok (.if_icmp .ne 13, 3) := by decide +kernel
theorem dX8_reach_47 : decode cX8_reach 47 = .ok (.aload_n 0, 1) := by decide +kernel
theorem dX8_reach_48 : decode cX8_reach 48 = .ok (.getfield 66, 3) := by decide +kernel
theorem dX8_reach_51 : decode cX8_reach 51 = .ok (.getfield 204, 3) := by decide +kernel
theorem dX8_reach_54 : decode cX8_reach 54 = .ok (.goto 11, 3) := by decide +kernel
theorem dX8_reach_57 : decode cX8_reach 57 = .ok (.aload_n 0, 1) := by decide +kernel
theorem dX8_reach_58 : decode cX8_reach 58 = .ok (.getfield 66, 3) := by decide +kernel
theorem dX8_reach_61 : decode cX8_reach 61 = .ok (.iload_n 3, 1) := by decide +kernel
theorem dX8_reach_62 : decode cX8_reach 62 = .ok (.invokevirtual 207, 3) := by decide +kernel
theorem dX8_reach_65 : decode cX8_reach 65 = .ok (.ireturn, 1) := by decide +kernel
theorem dX8_serves_0 : decode cX8_serves 0 = .ok (.aload_n 0, 1) := by decide +kernel
theorem dX8_serves_1 : decode cX8_serves 1 = .ok (.iload_n 1, 1) := by decide +kernel
theorem dX8_serves_2 : decode cX8_serves 2 = .ok (.invokevirtual 104, 3) := by decide +kernel
theorem dX8_serves_5 : decode cX8_serves 5 = .ok (.ifCond .eq 8, 3) := by decide +kernel
theorem dX8_serves_8 : decode cX8_serves 8 = .ok (.iload_n 2, 1) := by decide +kernel
theorem dX8_serves_9 : decode cX8_serves 9 = .ok (.iconst (-1), 1) := by decide +kernel
theorem dX8_serves_10 : decode cX8_serves 10 = .ok (.if_icmp .ge 5, 3) := by decide +kernel
theorem dX8_serves_13 : decode cX8_serves 13 = .ok (.iconst (-1), 1) := by decide +kernel
theorem dX8_serves_14 : decode cX8_serves 14 = .ok (.ireturn, 1) := by decide +kernel
theorem dX8_serves_15 : decode cX8_serves 15 = .ok (.aload_n 0, 1) := by decide +kernel
theorem dX8_serves_16 : decode cX8_serves 16 = .ok (.getfield 66, 3) := by decide +kernel
theorem dX8_serves_19 : decode cX8_serves 19 = .ok (.aload_n 0, 1) := by decide +kernel
theorem dX8_serves_20 : decode cX8_serves 20 = .ok (.getfield 35, 3) := by decide +kernel
theorem dX8_serves_23 : decode cX8_serves 23 = .ok (.invokevirtual 197, 3) := by decide +kernel
theorem dX8_serves_26 : decode cX8_serves 26 = .ok (.aload_n 0, 1) := by decide +kernel
theorem dX8_serves_27 : decode cX8_serves 27 = .ok (.getfield 66, 3) := by decide +kernel
theorem dX8_serves_30 : decode cX8_serves 30 = .ok (.iload_n 1, 1) := by decide +kernel
theorem dX8_serves_31 : decode cX8_serves 31 = .ok (.aload_n 0, 1) := by decide +kernel
theorem dX8_serves_32 : decode cX8_serves 32 = .ok (.getfield 24, 3) := by decide +kernel
theorem dX8_serves_35 : decode cX8_serves 35 = .ok (.getfield 121, 3) := by decide +kernel
theorem dX8_serves_38 : decode cX8_serves 38 = .ok (.invokevirtual 211, 3) := by decide +kernel
theorem dX8_serves_41 : decode cX8_serves 41 = .ok (.istore_n 3, 1) := by decide +kernel
theorem dX8_serves_42 : decode cX8_serves 42 = .ok (.iload_n 2, 1) := by decide +kernel
theorem dX8_serves_43 : decode cX8_serves 43 = .ok (.iconst (-1), 1) := by decide +kernel
theorem dX8_serves_44 : decode cX8_serves 44 = .ok (.if_icmp .ne 7, 3) := by decide +kernel
theorem dX8_serves_47 : decode cX8_serves 47 = .ok (.iload_n 3, 1) := by decide +kernel
theorem dX8_serves_48 : decode cX8_serves 48 = .ok (.goto 11, 3) := by decide +kernel
theorem dX8_serves_51 : decode cX8_serves 51 = .ok (.aload_n 0, 1) := by decide +kernel
theorem dX8_serves_52 : decode cX8_serves 52 = .ok (.getfield 66, 3) := by decide +kernel
theorem dX8_serves_55 : decode cX8_serves 55 = .ok (.iload_n 2, 1) := by decide +kernel
theorem dX8_serves_56 : decode cX8_serves 56 = .ok (.invokevirtual 207, 3) := by decide +kernel
theorem dX8_serves_59 : decode cX8_serves 59 = .ok (.ireturn, 1) := by decide +kernel
theorem dX8_saw_0 : decode cX8_saw 0 = .ok (.aload_n 0, 1) := by decide +kernel
theorem dX8_saw_1 : decode cX8_saw 1 = .ok (.iload_n 1, 1) := by decide +kernel
theorem dX8_saw_2 : decode cX8_saw 2 = .ok (.iload_n 2, 1) := by decide +kernel
theorem dX8_saw_3 : decode cX8_saw 3 = .ok (.invokevirtual 174, 3) := by decide +kernel
theorem dX8_saw_6 : decode cX8_saw 6 = .ok (.ifCond .ne 5, 3) := by decide +kernel
theorem dX8_saw_9 : decode cX8_saw 9 = .ok (.iconst (-1), 1) := by decide +kernel
theorem dX8_saw_10 : decode cX8_saw 10 = .ok (.ireturn, 1) := by decide +kernel
theorem dX8_saw_11 : decode cX8_saw 11 = .ok (.aload_n 0, 1) := by decide +kernel
theorem dX8_saw_12 : decode cX8_saw 12 = .ok (.getfield 59, 3) := by decide +kernel
theorem dX8_saw_15 : decode cX8_saw 15 = .ok (.invokevirtual 214, 3) := by decide +kernel
theorem dX8_saw_18 : decode cX8_saw 18 = .ok (.ifCond .eq 6, 3) := by decide +kernel
theorem dX8_saw_21 : decode cX8_saw 21 = .ok (.bipush (-3), 2) := by decide +kernel
theorem dX8_saw_23 : decode cX8_saw 23 = .ok (.ireturn, 1) := by decide +kernel
theorem dX8_saw_24 : decode cX8_saw 24 = .ok (.aload_n 0, 1) := by decide +kernel
theorem dX8_saw_25 : decode cX8_saw 25 = .ok (.getfield 59, 3) := by decide +kernel
theorem dX8_saw_28 : decode cX8_saw 28 = .ok (.iload_n 1, 1) := by decide +kernel
theorem dX8_saw_29 : decode cX8_saw 29 = .ok (.iload_n 2, 1) := by decide +kernel
theorem dX8_saw_30 : decode cX8_saw 30 = .ok (.invokevirtual 217, 3) := by decide +kernel
theorem dX8_saw_33 : decode cX8_saw 33 = .ok (.aload_n 0, 1) := by decide +kernel
theorem dX8_saw_34 : decode cX8_saw 34 = .ok (.getfield 59, 3) := by decide +kernel
theorem dX8_saw_37 : decode cX8_saw 37 = .ok (.getfield 221, 3) := by decide +kernel
theorem dX8_saw_40 : decode cX8_saw 40 = .ok (.ireturn, 1) := by decide +kernel
theorem dX8_forget_0 : decode cX8_forget 0 = .ok (.aload_n 0, 1) := by decide +kernel
theorem dX8_forget_1 : decode cX8_forget 1 = .ok (.getfield 59, 3) := by decide +kernel
theorem dX8_forget_4 : decode cX8_forget 4 = .ok (.getfield 221, 3) := by decide +kernel
theorem dX8_forget_7 : decode cX8_forget 7 = .ok (.istore_n 1, 1) := by decide +kernel
theorem dX8_forget_8 : decode cX8_forget 8 = .ok (.aload_n 0, 1) := by decide +kernel
theorem dX8_forget_9 : decode cX8_forget 9 = .ok (.getfield 59, 3) := by decide +kernel
theorem dX8_forget_12 : decode cX8_forget 12 = .ok (.iconst 0, 1) := by decide +kernel
theorem dX8_forget_13 : decode cX8_forget 13 = .ok (.putfield 221, 3) := by decide +kernel
theorem dX8_forget_16 : decode cX8_forget 16 = .ok (.iload_n 1, 1) := by decide +kernel
theorem dX8_forget_17 : decode cX8_forget 17 = .ok (.ireturn, 1) := by decide +kernel
theorem dX8_fits_0 : decode cX8_fits 0 = .ok (.iload_n 1, 1) := by decide +kernel
theorem dX8_fits_1 : decode cX8_fits 1 = .ok (.ifCond .lt 8, 3) := by decide +kernel
theorem dX8_fits_4 : decode cX8_fits 4 = .ok (.iload_n 1, 1) := by decide +kernel
theorem dX8_fits_5 : decode cX8_fits 5 = .ok (.iconst 2, 1) := by decide +kernel
theorem dX8_fits_6 : decode cX8_fits 6 = .ok (.if_icmp .le 5, 3) := by decide +kernel
theorem dX8_fits_9 : decode cX8_fits 9 = .ok (.iconst (-1), 1) := by decide +kernel
theorem dX8_fits_10 : decode cX8_fits 10 = .ok (.ireturn, 1) := by decide +kernel
theorem dX8_fits_11 : decode cX8_fits 11 = .ok (.aload_n 0, 1) := by decide +kernel
theorem dX8_fits_12 : decode cX8_fits 12 = .ok (.getfield 66, 3) := by decide +kernel
theorem dX8_fits_15 : decode cX8_fits 15 = .ok (.aload_n 0, 1) := by decide +kernel
theorem dX8_fits_16 : decode cX8_fits 16 = .ok (.getfield 31, 3) := by decide +kernel
theorem dX8_fits_19 : decode cX8_fits 19 = .ok (.invokevirtual 197, 3) := by decide +kernel
theorem dX8_fits_22 : decode cX8_fits 22 = .ok (.aload_n 0, 1) := by decide +kernel
theorem dX8_fits_23 : decode cX8_fits 23 = .ok (.getfield 66, 3) := by decide +kernel
theorem dX8_fits_26 : decode cX8_fits 26 = .ok (.iload_n 1, 1) := by decide +kernel
theorem dX8_fits_27 : decode cX8_fits 27 = .ok (.aload_n 0, 1) := by decide +kernel
theorem dX8_fits_28 : decode cX8_fits 28 = .ok (.getfield 59, 3) := by decide +kernel
theorem dX8_fits_31 : decode cX8_fits 31 = .ok (.invokevirtual 224, 3) := by decide +kernel
theorem dX8_fits_34 : decode cX8_fits 34 = .ok (.ireturn, 1) := by decide +kernel
theorem dX8_rate_0 : decode cX8_rate 0 = .ok (.iload_n 1, 1) := by decide +kernel
theorem dX8_rate_1 : decode cX8_rate 1 = .ok (.ifCond .lt 17, 3) := by decide +kernel
theorem dX8_rate_4 : decode cX8_rate 4 = .ok (.iload_n 1, 1) := by decide +kernel
theorem dX8_rate_5 : decode cX8_rate 5 = .ok (.bipush 6, 2) := by decide +kernel
theorem dX8_rate_7 : decode cX8_rate 7 = .ok (.if_icmp .ge 11, 3) := by decide +kernel
theorem dX8_rate_10 : decode cX8_rate 10 = .ok (.aload_n 0, 1) := by decide +kernel
theorem dX8_rate_11 : decode cX8_rate 11 = .ok (.iload_n 2, 1) := by decide +kernel
theorem dX8_rate_12 : decode cX8_rate 12 = .ok (.invokevirtual 104, 3) := by decide +kernel
theorem dX8_rate_15 : decode cX8_rate 15 = .ok (.ifCond .ne 6, 3) := by decide +kernel
theorem dX8_rate_18 : decode cX8_rate 18 = .ok (.ldc 228, 2) := by decide +kernel
theorem dX8_rate_20 : decode cX8_rate 20 = .ok (.ireturn, 1) := by decide +kernel
theorem dX8_rate_21 : decode cX8_rate 21 = .ok (.iload_n 1, 1) := by decide +kernel
theorem dX8_rate_22 : decode cX8_rate 22 = .ok (.tableswitch 64 1 5 #[34, 40, 46, 52, 58], 34) := by decide +kernel
theorem dX8_rate_56 : decode cX8_rate 56 = .ok (.aload_n 0, 1) := by decide +kernel
theorem dX8_rate_57 : decode cX8_rate 57 = .ok (.iload_n 2, 1) := by decide +kernel
theorem dX8_rate_58 : decode cX8_rate 58 = .ok (.invokevirtual 229, 3) := by decide +kernel
theorem dX8_rate_61 : decode cX8_rate 61 = .ok (.ireturn, 1) := by decide +kernel
theorem dX8_rate_62 : decode cX8_rate 62 = .ok (.aload_n 0, 1) := by decide +kernel
theorem dX8_rate_63 : decode cX8_rate 63 = .ok (.iload_n 2, 1) := by decide +kernel
theorem dX8_rate_64 : decode cX8_rate 64 = .ok (.invokevirtual 232, 3) := by decide +kernel
theorem dX8_rate_67 : decode cX8_rate 67 = .ok (.ireturn, 1) := by decide +kernel
theorem dX8_rate_68 : decode cX8_rate 68 = .ok (.aload_n 0, 1) := by decide +kernel
theorem dX8_rate_69 : decode cX8_rate 69 = .ok (.iload_n 2, 1) := by decide +kernel
theorem dX8_rate_70 : decode cX8_rate 70 = .ok (.invokevirtual 235, 3) := by decide +kernel
theorem dX8_rate_73 : decode cX8_rate 73 = .ok (.ireturn, 1) := by decide +kernel
theorem dX8_rate_74 : decode cX8_rate 74 = .ok (.aload_n 0, 1) := by decide +kernel
theorem dX8_rate_75 : decode cX8_rate 75 = .ok (.iload_n 2, 1) := by decide +kernel
theorem dX8_rate_76 : decode cX8_rate 76 = .ok (.invokevirtual 238, 3) := by decide +kernel
theorem dX8_rate_79 : decode cX8_rate 79 = .ok (.ireturn, 1) := by decide +kernel
theorem dX8_rate_80 : decode cX8_rate 80 = .ok (.aload_n 0, 1) := by decide +kernel
theorem dX8_rate_81 : decode cX8_rate 81 = .ok (.iload_n 2, 1) := by decide +kernel
theorem dX8_rate_82 : decode cX8_rate 82 = .ok (.invokevirtual 241, 3) := by decide +kernel
theorem dX8_rate_85 : decode cX8_rate 85 = .ok (.ireturn, 1) := by decide +kernel
theorem dX8_rate_86 : decode cX8_rate 86 = .ok (.aload_n 0, 1) := by decide +kernel
theorem dX8_rate_87 : decode cX8_rate 87 = .ok (.iload_n 2, 1) := by decide +kernel
theorem dX8_rate_88 : decode cX8_rate 88 = .ok (.invokevirtual 244, 3) := by decide +kernel
theorem dX8_rate_91 : decode cX8_rate 91 = .ok (.ireturn, 1) := by decide +kernel
theorem dX8_keep_0 : decode cX8_keep 0 = .ok (.iload_n 1, 1) := by decide +kernel
theorem dX8_keep_1 : decode cX8_keep 1 = .ok (.invokestatic 247, 3) := by decide +kernel
theorem dX8_keep_4 : decode cX8_keep 4 = .ok (.ifCond .ne 5, 3) := by decide +kernel
theorem dX8_keep_7 : decode cX8_keep 7 = .ok (.iconst (-1), 1) := by decide +kernel
theorem dX8_keep_8 : decode cX8_keep 8 = .ok (.ireturn, 1) := by decide +kernel
theorem dX8_keep_9 : decode cX8_keep 9 = .ok (.aload_n 0, 1) := by decide +kernel
theorem dX8_keep_10 : decode cX8_keep 10 = .ok (.getfield 52, 3) := by decide +kernel
theorem dX8_keep_13 : decode cX8_keep 13 = .ok (.iload_n 1, 1) := by decide +kernel
theorem dX8_keep_14 : decode cX8_keep 14 = .ok (.aaload, 1) := by decide +kernel
theorem dX8_keep_15 : decode cX8_keep 15 = .ok (.aload_n 0, 1) := by decide +kernel
theorem dX8_keep_16 : decode cX8_keep 16 = .ok (.getfield 48, 3) := by decide +kernel
theorem dX8_keep_19 : decode cX8_keep 19 = .ok (.invokevirtual 250, 3) := by decide +kernel
theorem dX8_keep_22 : decode cX8_keep 22 = .ok (.aload_n 0, 1) := by decide +kernel
theorem dX8_keep_23 : decode cX8_keep 23 = .ok (.getfield 52, 3) := by decide +kernel
theorem dX8_keep_26 : decode cX8_keep 26 = .ok (.iload_n 1, 1) := by decide +kernel
theorem dX8_keep_27 : decode cX8_keep 27 = .ok (.aaload, 1) := by decide +kernel
theorem dX8_keep_28 : decode cX8_keep 28 = .ok (.iconst 1, 1) := by decide +kernel
theorem dX8_keep_29 : decode cX8_keep 29 = .ok (.putfield 253, 3) := by decide +kernel
theorem dX8_keep_32 : decode cX8_keep 32 = .ok (.aload_n 0, 1) := by decide +kernel
theorem dX8_keep_33 : decode cX8_keep 33 = .ok (.getfield 48, 3) := by decide +kernel
theorem dX8_keep_36 : decode cX8_keep 36 = .ok (.getfield 164, 3) := by decide +kernel
theorem dX8_keep_39 : decode cX8_keep 39 = .ok (.ireturn, 1) := by decide +kernel
theorem dX8_back_0 : decode cX8_back 0 = .ok (.iload_n 1, 1) := by decide +kernel
theorem dX8_back_1 : decode cX8_back 1 = .ok (.invokestatic 247, 3) := by decide +kernel
theorem dX8_back_4 : decode cX8_back 4 = .ok (.ifCond .ne 5, 3) := by decide +kernel
theorem dX8_back_7 : decode cX8_back 7 = .ok (.iconst (-1), 1) := by decide +kernel
theorem dX8_back_8 : decode cX8_back 8 = .ok (.ireturn, 1) := by decide +kernel
theorem dX8_back_9 : decode cX8_back 9 = .ok (.aload_n 0, 1) := by decide +kernel
theorem dX8_back_10 : decode cX8_back 10 = .ok (.getfield 52, 3) := by decide +kernel
theorem dX8_back_13 : decode cX8_back 13 = .ok (.iload_n 1, 1) := by decide +kernel
theorem dX8_back_14 : decode cX8_back 14 = .ok (.aaload, 1) := by decide +kernel
theorem dX8_back_15 : decode cX8_back 15 = .ok (.getfield 253, 3) := by decide +kernel
theorem dX8_back_18 : decode cX8_back 18 = .ok (.ifCond .ne 6, 3) := by decide +kernel
theorem dX8_back_21 : decode cX8_back 21 = .ok (.bipush (-2), 2) := by decide +kernel
theorem dX8_back_23 : decode cX8_back 23 = .ok (.ireturn, 1) := by decide +kernel
theorem dX8_back_24 : decode cX8_back 24 = .ok (.aload_n 0, 1) := by decide +kernel
theorem dX8_back_25 : decode cX8_back 25 = .ok (.getfield 48, 3) := by decide +kernel
theorem dX8_back_28 : decode cX8_back 28 = .ok (.aload_n 0, 1) := by decide +kernel
theorem dX8_back_29 : decode cX8_back 29 = .ok (.getfield 52, 3) := by decide +kernel
theorem dX8_back_32 : decode cX8_back 32 = .ok (.iload_n 1, 1) := by decide +kernel
theorem dX8_back_33 : decode cX8_back 33 = .ok (.aaload, 1) := by decide +kernel
theorem dX8_back_34 : decode cX8_back 34 = .ok (.invokevirtual 250, 3) := by decide +kernel
theorem dX8_back_37 : decode cX8_back 37 = .ok (.aload_n 0, 1) := by decide +kernel
theorem dX8_back_38 : decode cX8_back 38 = .ok (.invokevirtual 157, 3) := by decide +kernel
theorem dX8_back_41 : decode cX8_back 41 = .ok (.aload_n 0, 1) := by decide +kernel
theorem dX8_back_42 : decode cX8_back 42 = .ok (.getfield 48, 3) := by decide +kernel
theorem dX8_back_45 : decode cX8_back 45 = .ok (.getfield 164, 3) := by decide +kernel
theorem dX8_back_48 : decode cX8_back 48 = .ok (.ireturn, 1) := by decide +kernel
theorem dX8_count_0 : decode cX8_count 0 = .ok (.iload_n 1, 1) := by decide +kernel
theorem dX8_count_1 : decode cX8_count 1 = .ok (.tableswitch 114 0 7 #[47, 55, 63, 74, 82, 90, 98, 106], 47) := by decide +kernel
theorem dX8_count_48 : decode cX8_count 48 = .ok (.aload_n 0, 1) := by decide +kernel
theorem dX8_count_49 : decode cX8_count 49 = .ok (.getfield 24, 3) := by decide +kernel
theorem dX8_count_52 : decode cX8_count 52 = .ok (.getfield 257, 3) := by decide +kernel
theorem dX8_count_55 : decode cX8_count 55 = .ok (.ireturn, 1) := by decide +kernel
theorem dX8_count_56 : decode cX8_count 56 = .ok (.aload_n 0, 1) := by decide +kernel
theorem dX8_count_57 : decode cX8_count 57 = .ok (.getfield 24, 3) := by decide +kernel
theorem dX8_count_60 : decode cX8_count 60 = .ok (.getfield 258, 3) := by decide +kernel
theorem dX8_count_63 : decode cX8_count 63 = .ok (.ireturn, 1) := by decide +kernel
theorem dX8_count_64 : decode cX8_count 64 = .ok (.aload_n 0, 1) := by decide +kernel
theorem dX8_count_65 : decode cX8_count 65 = .ok (.getfield 24, 3) := by decide +kernel
theorem dX8_count_68 : decode cX8_count 68 = .ok (.getfield 187, 3) := by decide +kernel
theorem dX8_count_71 : decode cX8_count 71 = .ok (.getfield 221, 3) := by decide +kernel
theorem dX8_count_74 : decode cX8_count 74 = .ok (.ireturn, 1) := by decide +kernel
theorem dX8_count_75 : decode cX8_count 75 = .ok (.aload_n 0, 1) := by decide +kernel
theorem dX8_count_76 : decode cX8_count 76 = .ok (.getfield 24, 3) := by decide +kernel
theorem dX8_count_79 : decode cX8_count 79 = .ok (.getfield 137, 3) := by decide +kernel
theorem dX8_count_82 : decode cX8_count 82 = .ok (.ireturn, 1) := by decide +kernel
theorem dX8_count_83 : decode cX8_count 83 = .ok (.aload_n 0, 1) := by decide +kernel
theorem dX8_count_84 : decode cX8_count 84 = .ok (.getfield 59, 3) := by decide +kernel
theorem dX8_count_87 : decode cX8_count 87 = .ok (.getfield 221, 3) := by decide +kernel
theorem dX8_count_90 : decode cX8_count 90 = .ok (.ireturn, 1) := by decide +kernel
theorem dX8_count_91 : decode cX8_count 91 = .ok (.aload_n 0, 1) := by decide +kernel
theorem dX8_count_92 : decode cX8_count 92 = .ok (.getfield 48, 3) := by decide +kernel
theorem dX8_count_95 : decode cX8_count 95 = .ok (.getfield 164, 3) := by decide +kernel
theorem dX8_count_98 : decode cX8_count 98 = .ok (.ireturn, 1) := by decide +kernel
theorem dX8_count_99 : decode cX8_count 99 = .ok (.aload_n 0, 1) := by decide +kernel
theorem dX8_count_100 : decode cX8_count 100 = .ok (.getfield 48, 3) := by decide +kernel
theorem dX8_count_103 : decode cX8_count 103 = .ok (.getfield 154, 3) := by decide +kernel
theorem dX8_count_106 : decode cX8_count 106 = .ok (.ireturn, 1) := by decide +kernel
theorem dX8_count_107 : decode cX8_count 107 = .ok (.aload_n 0, 1) := by decide +kernel
theorem dX8_count_108 : decode cX8_count 108 = .ok (.getfield 20, 3) := by decide +kernel
theorem dX8_count_111 : decode cX8_count 111 = .ok (.getfield 77, 3) := by decide +kernel
theorem dX8_count_114 : decode cX8_count 114 = .ok (.ireturn, 1) := by decide +kernel
theorem dX8_count_115 : decode cX8_count 115 = .ok (.iconst (-1), 1) := by decide +kernel
theorem dX8_count_116 : decode cX8_count 116 = .ok (.ireturn, 1) := by decide +kernel
theorem dX8_trace_0 : decode cX8_trace 0 = .ok (.aload_n 0, 1) := by decide +kernel
theorem dX8_trace_1 : decode cX8_trace 1 = .ok (.getfield 70, 3) := by decide +kernel
theorem dX8_trace_4 : decode cX8_trace 4 = .ok (.lreturn, 1) := by decide +kernel
theorem dX8_isBit_0 : decode cX8_isBit 0 = .ok (.iload_n 0, 1) := by decide +kernel
theorem dX8_isBit_1 : decode cX8_isBit 1 = .ok (.ifCond .eq 8, 3) := by decide +kernel
theorem dX8_isBit_4 : decode cX8_isBit 4 = .ok (.iload_n 0, 1) := by decide +kernel
theorem dX8_isBit_5 : decode cX8_isBit 5 = .ok (.iconst 1, 1) := by decide +kernel
theorem dX8_isBit_6 : decode cX8_isBit 6 = .ok (.if_icmp .ne 7, 3) := by decide +kernel
theorem dX8_isBit_9 : decode cX8_isBit 9 = .ok (.iconst 1, 1) := by decide +kernel
theorem dX8_isBit_10 : decode cX8_isBit 10 = .ok (.goto 4, 3) := by decide +kernel
theorem dX8_isBit_13 : decode cX8_isBit 13 = .ok (.iconst 0, 1) := by decide +kernel
theorem dX8_isBit_14 : decode cX8_isBit 14 = .ok (.ireturn, 1) := by decide +kernel
theorem dX8_isImage_0 : decode cX8_isImage 0 = .ok (.iload_n 0, 1) := by decide +kernel
theorem dX8_isImage_1 : decode cX8_isImage 1 = .ok (.ifCond .lt 12, 3) := by decide +kernel
theorem dX8_isImage_4 : decode cX8_isImage 4 = .ok (.iload_n 0, 1) := by decide +kernel
theorem dX8_isImage_5 : decode cX8_isImage 5 = .ok (.iconst 2, 1) := by decide +kernel
theorem dX8_isImage_6 : decode cX8_isImage 6 = .ok (.if_icmp .ge 7, 3) := by decide +kernel
theorem dX8_isImage_9 : decode cX8_isImage 9 = .ok (.iconst 1, 1) := by decide +kernel
theorem dX8_isImage_10 : decode cX8_isImage 10 = .ok (.goto 4, 3) := by decide +kernel
theorem dX8_isImage_13 : decode cX8_isImage 13 = .ok (.iconst 0, 1) := by decide +kernel
theorem dX8_isImage_14 : decode cX8_isImage 14 = .ok (.ireturn, 1) := by decide +kernel
theorem dX8_isCell_0 : decode cX8_isCell 0 = .ok (.iload_n 1, 1) := by decide +kernel
theorem dX8_isCell_1 : decode cX8_isCell 1 = .ok (.ifCond .lt 18, 3) := by decide +kernel
theorem dX8_isCell_4 : decode cX8_isCell 4 = .ok (.iload_n 1, 1) := by decide +kernel
theorem dX8_isCell_5 : decode cX8_isCell 5 = .ok (.aload_n 0, 1) := by decide +kernel
theorem dX8_isCell_6 : decode cX8_isCell 6 = .ok (.getfield 35, 3) := by decide +kernel
theorem dX8_isCell_9 : decode cX8_isCell 9 = .ok (.getfield 128, 3) := by decide +kernel
theorem dX8_isCell_12 : decode cX8_isCell 12 = .ok (.if_icmp .ge 7, 3) := by decide +kernel
theorem dX8_isCell_15 : decode cX8_isCell 15 = .ok (.iconst 1, 1) := by decide +kernel
theorem dX8_isCell_16 : decode cX8_isCell 16 = .ok (.goto 4, 3) := by decide +kernel
theorem dX8_isCell_19 : decode cX8_isCell 19 = .ok (.iconst 0, 1) := by decide +kernel
theorem dX8_isCell_20 : decode cX8_isCell 20 = .ok (.ireturn, 1) := by decide +kernel
theorem dX8_areTwoCells_0 : decode cX8_areTwoCells 0 = .ok (.aload_n 0, 1) := by decide +kernel
theorem dX8_areTwoCells_1 : decode cX8_areTwoCells 1 = .ok (.iload_n 1, 1) := by decide +kernel
theorem dX8_areTwoCells_2 : decode cX8_areTwoCells 2 = .ok (.invokevirtual 104, 3) := by decide +kernel
theorem dX8_areTwoCells_5 : decode cX8_areTwoCells 5 = .ok (.ifCond .eq 20, 3) := by decide +kernel
theorem dX8_areTwoCells_8 : decode cX8_areTwoCells 8 = .ok (.aload_n 0, 1) := by decide +kernel
theorem dX8_areTwoCells_9 : decode cX8_areTwoCells 9 = .ok (.iload_n 2, 1) := by decide +kernel
theorem dX8_areTwoCells_10 : decode cX8_areTwoCells 10 = .ok (.invokevirtual 104, 3) := by decide +kernel
theorem dX8_areTwoCells_13 : decode cX8_areTwoCells 13 = .ok (.ifCond .eq 12, 3) := by decide +kernel
theorem dX8_areTwoCells_16 : decode cX8_areTwoCells 16 = .ok (.iload_n 1, 1) := by decide +kernel
theorem dX8_areTwoCells_17 : decode cX8_areTwoCells 17 = .ok (.iload_n 2, 1) := by decide +kernel
theorem dX8_areTwoCells_18 : decode cX8_areTwoCells 18 = .ok (.if_icmp .eq 7, 3) := by decide +kernel
theorem dX8_areTwoCells_21 : decode cX8_areTwoCells 21 = .ok (.iconst 1, 1) := by decide +kernel
theorem dX8_areTwoCells_22 : decode cX8_areTwoCells 22 = .ok (.goto 4, 3) := by decide +kernel
theorem dX8_areTwoCells_25 : decode cX8_areTwoCells 25 = .ok (.iconst 0, 1) := by decide +kernel
theorem dX8_areTwoCells_26 : decode cX8_areTwoCells 26 = .ok (.ireturn, 1) := by decide +kernel
theorem dX8_beginAnew_0 : decode cX8_beginAnew 0 = .ok (.aload_n 0, 1) := by decide +kernel
theorem dX8_beginAnew_1 : decode cX8_beginAnew 1 = .ok (.getfield 31, 3) := by decide +kernel
theorem dX8_beginAnew_4 : decode cX8_beginAnew 4 = .ok (.aload_n 0, 1) := by decide +kernel
theorem dX8_beginAnew_5 : decode cX8_beginAnew 5 = .ok (.getfield 24, 3) := by decide +kernel
theorem dX8_beginAnew_8 : decode cX8_beginAnew 8 = .ok (.getfield 257, 3) := by decide +kernel
theorem dX8_beginAnew_11 : decode cX8_beginAnew 11 = .ok (.aload_n 0, 1) := by decide +kernel
theorem dX8_beginAnew_12 : decode cX8_beginAnew 12 = .ok (.getfield 24, 3) := by decide +kernel
theorem dX8_beginAnew_15 : decode cX8_beginAnew 15 = .ok (.getfield 258, 3) := by decide +kernel
theorem dX8_beginAnew_18 : decode cX8_beginAnew 18 = .ok (.invokevirtual 259, 3) := by decide +kernel
theorem dX8_beginAnew_21 : decode cX8_beginAnew 21 = .ok (.aload_n 0, 1) := by decide +kernel
theorem dX8_beginAnew_22 : decode cX8_beginAnew 22 = .ok (.getfield 41, 3) := by decide +kernel
theorem dX8_beginAnew_25 : decode cX8_beginAnew 25 = .ok (.aload_n 0, 1) := by decide +kernel
theorem dX8_beginAnew_26 : decode cX8_beginAnew 26 = .ok (.getfield 31, 3) := by decide +kernel
theorem dX8_beginAnew_29 : decode cX8_beginAnew 29 = .ok (.invokevirtual 262, 3) := by decide +kernel
theorem dX8_beginAnew_32 : decode cX8_beginAnew 32 = .ok (.aload_n 0, 1) := by decide +kernel
theorem dX8_beginAnew_33 : decode cX8_beginAnew 33 = .ok (.getfield 48, 3) := by decide +kernel
theorem dX8_beginAnew_36 : decode cX8_beginAnew 36 = .ok (.invokevirtual 265, 3) := by decide +kernel
theorem dX8_beginAnew_39 : decode cX8_beginAnew 39 = .ok (.iconst 0, 1) := by decide +kernel
theorem dX8_beginAnew_40 : decode cX8_beginAnew 40 = .ok (.istore_n 1, 1) := by decide +kernel
theorem dX8_beginAnew_41 : decode cX8_beginAnew 41 = .ok (.iload_n 1, 1) := by decide +kernel
theorem dX8_beginAnew_42 : decode cX8_beginAnew 42 = .ok (.iconst 2, 1) := by decide +kernel
theorem dX8_beginAnew_43 : decode cX8_beginAnew 43 = .ok (.if_icmp .ge 19, 3) := by decide +kernel
theorem dX8_beginAnew_46 : decode cX8_beginAnew 46 = .ok (.aload_n 0, 1) := by decide +kernel
theorem dX8_beginAnew_47 : decode cX8_beginAnew 47 = .ok (.getfield 52, 3) := by decide +kernel
theorem dX8_beginAnew_50 : decode cX8_beginAnew 50 = .ok (.iload_n 1, 1) := by decide +kernel
theorem dX8_beginAnew_51 : decode cX8_beginAnew 51 = .ok (.aaload, 1) := by decide +kernel
theorem dX8_beginAnew_52 : decode cX8_beginAnew 52 = .ok (.iconst 0, 1) := by decide +kernel
theorem dX8_beginAnew_53 : decode cX8_beginAnew 53 = .ok (.putfield 253, 3) := by decide +kernel
theorem dX8_beginAnew_56 : decode cX8_beginAnew 56 = .ok (.iinc 1 1, 3) := by decide +kernel
theorem dX8_beginAnew_59 : decode cX8_beginAnew 59 = .ok (.goto (-18), 3) := by decide +kernel
theorem dX8_beginAnew_62 : decode cX8_beginAnew 62 = .ok (.aload_n 0, 1) := by decide +kernel
theorem dX8_beginAnew_63 : decode cX8_beginAnew 63 = .ok (.getfield 59, 3) := by decide +kernel
theorem dX8_beginAnew_66 : decode cX8_beginAnew 66 = .ok (.iconst 0, 1) := by decide +kernel
theorem dX8_beginAnew_67 : decode cX8_beginAnew 67 = .ok (.putfield 221, 3) := by decide +kernel
theorem dX8_beginAnew_70 : decode cX8_beginAnew 70 = .ok (.aload_n 0, 1) := by decide +kernel
theorem dX8_beginAnew_71 : decode cX8_beginAnew 71 = .ok (.invokevirtual 157, 3) := by decide +kernel
theorem dX8_beginAnew_74 : decode cX8_beginAnew 74 = .ok (.return_, 1) := by decide +kernel
theorem dX8_foldAsNowTells_0 : decode cX8_foldAsNowTells 0 = .ok (.aload_n 0, 1) := by decide +kernel
theorem dX8_foldAsNowTells_1 : decode cX8_foldAsNowTells 1 = .ok (.getfield 35, 3) := by decide +kernel
theorem dX8_foldAsNowTells_4 : decode cX8_foldAsNowTells 4 = .ok (.aload_n 0, 1) := by decide +kernel
theorem dX8_foldAsNowTells_5 : decode cX8_foldAsNowTells 5 = .ok (.getfield 31, 3) := by decide +kernel
theorem dX8_foldAsNowTells_8 : decode cX8_foldAsNowTells 8 = .ok (.invokevirtual 268, 3) := by decide +kernel
theorem dX8_foldAsNowTells_11 : decode cX8_foldAsNowTells 11 = .ok (.aload_n 0, 1) := by decide +kernel
theorem dX8_foldAsNowTells_12 : decode cX8_foldAsNowTells 12 = .ok (.getfield 48, 3) := by decide +kernel
theorem dX8_foldAsNowTells_15 : decode cX8_foldAsNowTells 15 = .ok (.getfield 270, 3) := by decide +kernel
theorem dX8_foldAsNowTells_18 : decode cX8_foldAsNowTells 18 = .ok (.iconst 0, 1) := by decide +kernel
theorem dX8_foldAsNowTells_19 : decode cX8_foldAsNowTells 19 = .ok (.aload_n 0, 1) := by decide +kernel
theorem dX8_foldAsNowTells_20 : decode cX8_foldAsNowTells 20 = .ok (.getfield 41, 3) := by decide +kernel
theorem dX8_foldAsNowTells_23 : decode cX8_foldAsNowTells 23 = .ok (.getfield 171, 3) := by decide +kernel
theorem dX8_foldAsNowTells_26 : decode cX8_foldAsNowTells 26 = .ok (.iconst 0, 1) := by decide +kernel
theorem dX8_foldAsNowTells_27 : decode cX8_foldAsNowTells 27 = .ok (.bipush 24, 2) := by decide +kernel
theorem dX8_foldAsNowTells_29 : decode cX8_foldAsNowTells 29 = .ok (.invokestatic 273, 3) := by decide +kernel
theorem dX8_foldAsNowTells_32 : decode cX8_foldAsNowTells 32 = .ok (.iconst 0, 1) := by decide +kernel
theorem dX8_foldAsNowTells_33 : decode cX8_foldAsNowTells 33 = .ok (.istore_n 1, 1) := by decide +kernel
theorem dX8_foldAsNowTells_34 : decode cX8_foldAsNowTells 34 = .ok (.iload_n 1, 1) := by decide +kernel
theorem dX8_foldAsNowTells_35 : decode cX8_foldAsNowTells 35 = .ok (.aload_n 0, 1) := by decide +kernel
theorem dX8_foldAsNowTells_36 : decode cX8_foldAsNowTells 36 = .ok (.getfield 48, 3) := by decide +kernel
theorem dX8_foldAsNowTells_39 : decode cX8_foldAsNowTells 39 = .ok (.getfield 154, 3) := by decide +kernel
theorem dX8_foldAsNowTells_42 : decode cX8_foldAsNowTells 42 = .ok (.if_icmp .ge 22, 3) := by decide +kernel
theorem dX8_foldAsNowTells_45 : decode cX8_foldAsNowTells 45 = .ok (.aload_n 0, 1) := by decide +kernel
theorem dX8_foldAsNowTells_46 : decode cX8_foldAsNowTells 46 = .ok (.aload_n 0, 1) := by decide +kernel
theorem dX8_foldAsNowTells_47 : decode cX8_foldAsNowTells 47 = .ok (.getfield 48, 3) := by decide +kernel
theorem dX8_foldAsNowTells_50 : decode cX8_foldAsNowTells 50 = .ok (.getfield 279, 3) := by decide +kernel
theorem dX8_foldAsNowTells_53 : decode cX8_foldAsNowTells 53 = .ok (.iload_n 1, 1) := by decide +kernel
theorem dX8_foldAsNowTells_54 : decode cX8_foldAsNowTells 54 = .ok (.iaload, 1) := by decide +kernel
theorem dX8_foldAsNowTells_55 : decode cX8_foldAsNowTells 55 = .ok (.invokevirtual 147, 3) := by decide +kernel
theorem dX8_foldAsNowTells_58 : decode cX8_foldAsNowTells 58 = .ok (.iinc 1 1, 3) := by decide +kernel
theorem dX8_foldAsNowTells_61 : decode cX8_foldAsNowTells 61 = .ok (.goto (-27), 3) := by decide +kernel
theorem dX8_foldAsNowTells_64 : decode cX8_foldAsNowTells 64 = .ok (.return_, 1) := by decide +kernel
theorem dX8_bendBy_0 : decode cX8_bendBy 0 = .ok (.aload_n 0, 1) := by decide +kernel
theorem dX8_bendBy_1 : decode cX8_bendBy 1 = .ok (.getfield 41, 3) := by decide +kernel
theorem dX8_bendBy_4 : decode cX8_bendBy 4 = .ok (.aload_n 0, 1) := by decide +kernel
theorem dX8_bendBy_5 : decode cX8_bendBy 5 = .ok (.getfield 35, 3) := by decide +kernel
theorem dX8_bendBy_8 : decode cX8_bendBy 8 = .ok (.iload_n 1, 1) := by decide +kernel
theorem dX8_bendBy_9 : decode cX8_bendBy 9 = .ok (.invokevirtual 282, 3) := by decide +kernel
theorem dX8_bendBy_12 : decode cX8_bendBy 12 = .ok (.aload_n 0, 1) := by decide +kernel
theorem dX8_bendBy_13 : decode cX8_bendBy 13 = .ok (.getfield 35, 3) := by decide +kernel
theorem dX8_bendBy_16 : decode cX8_bendBy 16 = .ok (.iload_n 1, 1) := by decide +kernel
theorem dX8_bendBy_17 : decode cX8_bendBy 17 = .ok (.invokevirtual 286, 3) := by decide +kernel
theorem dX8_bendBy_20 : decode cX8_bendBy 20 = .ok (.return_, 1) := by decide +kernel
theorem dX8_rateAsCell_0 : decode cX8_rateAsCell 0 = .ok (.aload_n 0, 1) := by decide +kernel
theorem dX8_rateAsCell_1 : decode cX8_rateAsCell 1 = .ok (.dup, 1) := by decide +kernel
theorem dX8_rateAsCell_2 : decode cX8_rateAsCell 2 = .ok (.getfield 70, 3) := by decide +kernel
theorem dX8_rateAsCell_5 : decode cX8_rateAsCell 5 = .ok (.lconst 1, 1) := by decide +kernel
theorem dX8_rateAsCell_6 : decode cX8_rateAsCell 6 = .ok (.ladd, 1) := by decide +kernel
theorem dX8_rateAsCell_7 : decode cX8_rateAsCell 7 = .ok (.putfield 70, 3) := by decide +kernel
theorem dX8_rateAsCell_10 : decode cX8_rateAsCell 10 = .ok (.aload_n 0, 1) := by decide +kernel
theorem dX8_rateAsCell_11 : decode cX8_rateAsCell 11 = .ok (.getfield 24, 3) := by decide +kernel
theorem dX8_rateAsCell_14 : decode cX8_rateAsCell 14 = .ok (.getfield 121, 3) := by decide +kernel
theorem dX8_rateAsCell_17 : decode cX8_rateAsCell 17 = .ok (.iload_n 1, 1) := by decide +kernel
theorem dX8_rateAsCell_18 : decode cX8_rateAsCell 18 = .ok (.iaload, 1) := by decide +kernel
theorem dX8_rateAsCell_19 : decode cX8_rateAsCell 19 = .ok (.ireturn, 1) := by decide +kernel
theorem dX8_rateAsWell_0 : decode cX8_rateAsWell 0 = .ok (.aload_n 0, 1) := by decide +kernel
theorem dX8_rateAsWell_1 : decode cX8_rateAsWell 1 = .ok (.dup, 1) := by decide +kernel
theorem dX8_rateAsWell_2 : decode cX8_rateAsWell 2 = .ok (.getfield 70, 3) := by decide +kernel
theorem dX8_rateAsWell_5 : decode cX8_rateAsWell 5 = .ok (.ldc2_w 288, 3) := by decide +kernel
theorem dX8_rateAsWell_8 : decode cX8_rateAsWell 8 = .ok (.ladd, 1) := by decide +kernel
theorem dX8_rateAsWell_9 : decode cX8_rateAsWell 9 = .ok (.putfield 70, 3) := by decide +kernel
theorem dX8_rateAsWell_12 : decode cX8_rateAsWell 12 = .ok (.aload_n 0, 1) := by decide +kernel
theorem dX8_rateAsWell_13 : decode cX8_rateAsWell 13 = .ok (.iload_n 1, 1) := by decide +kernel
theorem dX8_rateAsWell_14 : decode cX8_rateAsWell 14 = .ok (.invokevirtual 244, 3) := by decide +kernel
theorem dX8_rateAsWell_17 : decode cX8_rateAsWell 17 = .ok (.aload_n 0, 1) := by decide +kernel
theorem dX8_rateAsWell_18 : decode cX8_rateAsWell 18 = .ok (.getfield 35, 3) := by decide +kernel
theorem dX8_rateAsWell_21 : decode cX8_rateAsWell 21 = .ok (.iload_n 1, 1) := by decide +kernel
theorem dX8_rateAsWell_22 : decode cX8_rateAsWell 22 = .ok (.aload_n 0, 1) := by decide +kernel
theorem dX8_rateAsWell_23 : decode cX8_rateAsWell 23 = .ok (.getfield 24, 3) := by decide +kernel
theorem dX8_rateAsWell_26 : decode cX8_rateAsWell 26 = .ok (.getfield 121, 3) := by decide +kernel
theorem dX8_rateAsWell_29 : decode cX8_rateAsWell 29 = .ok (.invokevirtual 124, 3) := by decide +kernel
theorem dX8_rateAsWell_32 : decode cX8_rateAsWell 32 = .ok (.iadd, 1) := by decide +kernel
theorem dX8_rateAsWell_33 : decode cX8_rateAsWell 33 = .ok (.ireturn, 1) := by decide +kernel
theorem dX8_rateAsHermit_0 : decode cX8_rateAsHermit 0 = .ok (.aload_n 0, 1) := by decide +kernel
theorem dX8_rateAsHermit_1 : decode cX8_rateAsHermit 1 = .ok (.dup, 1) := by decide +kernel
theorem dX8_rateAsHermit_2 : decode cX8_rateAsHermit 2 = .ok (.getfield 70, 3) := by decide +kernel
theorem dX8_rateAsHermit_5 : decode cX8_rateAsHermit 5 = .ok (.ldc2_w 290, 3) := by decide +kernel
theorem dX8_rateAsHermit_8 : decode cX8_rateAsHermit 8 = .ok (.ladd, 1) := by decide +kernel
theorem dX8_rateAsHermit_9 : decode cX8_rateAsHermit 9 = .ok (.putfield 70, 3) := by decide +kernel
theorem dX8_rateAsHermit_12 : decode cX8_rateAsHermit 12 = .ok (.aload_n 0, 1) := by decide +kernel
theorem dX8_rateAsHermit_13 : decode cX8_rateAsHermit 13 = .ok (.iload_n 1, 1) := by decide +kernel
theorem dX8_rateAsHermit_14 : decode cX8_rateAsHermit 14 = .ok (.invokevirtual 244, 3) := by decide +kernel
theorem dX8_rateAsHermit_17 : decode cX8_rateAsHermit 17 = .ok (.aload_n 0, 1) := by decide +kernel
theorem dX8_rateAsHermit_18 : decode cX8_rateAsHermit 18 = .ok (.getfield 35, 3) := by decide +kernel
theorem dX8_rateAsHermit_21 : decode cX8_rateAsHermit 21 = .ok (.getfield 115, 3) := by decide +kernel
theorem dX8_rateAsHermit_24 : decode cX8_rateAsHermit 24 = .ok (.iload_n 1, 1) := by decide +kernel
theorem dX8_rateAsHermit_25 : decode cX8_rateAsHermit 25 = .ok (.iaload, 1) := by decide +kernel
theorem dX8_rateAsHermit_26 : decode cX8_rateAsHermit 26 = .ok (.isub, 1) := by decide +kernel
theorem dX8_rateAsHermit_27 : decode cX8_rateAsHermit 27 = .ok (.ireturn, 1) := by decide +kernel
theorem dX8_rateAsLight_0 : decode cX8_rateAsLight 0 = .ok (.aload_n 0, 1) := by decide +kernel
theorem dX8_rateAsLight_1 : decode cX8_rateAsLight 1 = .ok (.dup, 1) := by decide +kernel
theorem dX8_rateAsLight_2 : decode cX8_rateAsLight 2 = .ok (.getfield 70, 3) := by decide +kernel
theorem dX8_rateAsLight_5 : decode cX8_rateAsLight 5 = .ok (.ldc2_w 292, 3) := by decide +kernel
theorem dX8_rateAsLight_8 : decode cX8_rateAsLight 8 = .ok (.ladd, 1) := by decide +kernel
theorem dX8_rateAsLight_9 : decode cX8_rateAsLight 9 = .ok (.putfield 70, 3) := by decide +kernel
theorem dX8_rateAsLight_12 : decode cX8_rateAsLight 12 = .ok (.iconst 2, 1) := by decide +kernel
theorem dX8_rateAsLight_13 : decode cX8_rateAsLight 13 = .ok (.aload_n 0, 1) := by decide +kernel
theorem dX8_rateAsLight_14 : decode cX8_rateAsLight 14 = .ok (.iload_n 1, 1) := by decide +kernel
theorem dX8_rateAsLight_15 : decode cX8_rateAsLight 15 = .ok (.invokevirtual 229, 3) := by decide +kernel
theorem dX8_rateAsLight_18 : decode cX8_rateAsLight 18 = .ok (.imul, 1) := by decide +kernel
theorem dX8_rateAsLight_19 : decode cX8_rateAsLight 19 = .ok (.ireturn, 1) := by decide +kernel
theorem dX8_rateAsFolder_0 : decode cX8_rateAsFolder 0 = .ok (.aload_n 0, 1) := by decide +kernel
theorem dX8_rateAsFolder_1 : decode cX8_rateAsFolder 1 = .ok (.dup, 1) := by decide +kernel
theorem dX8_rateAsFolder_2 : decode cX8_rateAsFolder 2 = .ok (.getfield 70, 3) := by decide +kernel
theorem dX8_rateAsFolder_5 : decode cX8_rateAsFolder 5 = .ok (.ldc2_w 294, 3) := by decide +kernel
theorem dX8_rateAsFolder_8 : decode cX8_rateAsFolder 8 = .ok (.ladd, 1) := by decide +kernel
theorem dX8_rateAsFolder_9 : decode cX8_rateAsFolder 9 = .ok (.putfield 70, 3) := by decide +kernel
theorem dX8_rateAsFolder_12 : decode cX8_rateAsFolder 12 = .ok (.aload_n 0, 1) := by decide +kernel
theorem dX8_rateAsFolder_13 : decode cX8_rateAsFolder 13 = .ok (.iload_n 1, 1) := by decide +kernel
theorem dX8_rateAsFolder_14 : decode cX8_rateAsFolder 14 = .ok (.invokevirtual 232, 3) := by decide +kernel
theorem dX8_rateAsFolder_17 : decode cX8_rateAsFolder 17 = .ok (.aload_n 0, 1) := by decide +kernel
theorem dX8_rateAsFolder_18 : decode cX8_rateAsFolder 18 = .ok (.getfield 48, 3) := by decide +kernel
theorem dX8_rateAsFolder_21 : decode cX8_rateAsFolder 21 = .ok (.getfield 154, 3) := by decide +kernel
theorem dX8_rateAsFolder_24 : decode cX8_rateAsFolder 24 = .ok (.iadd, 1) := by decide +kernel
theorem dX8_rateAsFolder_25 : decode cX8_rateAsFolder 25 = .ok (.ireturn, 1) := by decide +kernel
theorem dX8_rateAsDuke_0 : decode cX8_rateAsDuke 0 = .ok (.aload_n 0, 1) := by decide +kernel
theorem dX8_rateAsDuke_1 : decode cX8_rateAsDuke 1 = .ok (.dup, 1) := by decide +kernel
theorem dX8_rateAsDuke_2 : decode cX8_rateAsDuke 2 = .ok (.getfield 70, 3) := by decide +kernel
theorem dX8_rateAsDuke_5 : decode cX8_rateAsDuke 5 = .ok (.ldc2_w 296, 3) := by decide +kernel
theorem dX8_rateAsDuke_8 : decode cX8_rateAsDuke 8 = .ok (.ladd, 1) := by decide +kernel
theorem dX8_rateAsDuke_9 : decode cX8_rateAsDuke 9 = .ok (.putfield 70, 3) := by decide +kernel
theorem dX8_rateAsDuke_12 : decode cX8_rateAsDuke 12 = .ok (.aload_n 0, 1) := by decide +kernel
theorem dX8_rateAsDuke_13 : decode cX8_rateAsDuke 13 = .ok (.iload_n 1, 1) := by decide +kernel
theorem dX8_rateAsDuke_14 : decode cX8_rateAsDuke 14 = .ok (.invokevirtual 244, 3) := by decide +kernel
theorem dX8_rateAsDuke_17 : decode cX8_rateAsDuke 17 = .ok (.aload_n 0, 1) := by decide +kernel
theorem dX8_rateAsDuke_18 : decode cX8_rateAsDuke 18 = .ok (.getfield 48, 3) := by decide +kernel
theorem dX8_rateAsDuke_21 : decode cX8_rateAsDuke 21 = .ok (.getfield 164, 3) := by decide +kernel
theorem dX8_rateAsDuke_24 : decode cX8_rateAsDuke 24 = .ok (.iadd, 1) := by decide +kernel
theorem dX8_rateAsDuke_25 : decode cX8_rateAsDuke 25 = .ok (.ireturn, 1) := by decide +kernel
theorem dX9_init_0 : decode cX9_init 0 = .ok (.aload_n 0, 1) := by decide +kernel
theorem dX9_init_1 : decode cX9_init 1 = .ok (.invokespecial 1, 3) := by decide +kernel
theorem dX9_init_4 : decode cX9_init 4 = .ok (.aload_n 0, 1) := by decide +kernel
theorem dX9_init_5 : decode cX9_init 5 = .ok (.sipush 200, 3) := by decide +kernel
theorem dX9_init_8 : decode cX9_init 8 = .ok (.newarray .int, 2) := by decide +kernel
theorem dX9_init_10 : decode cX9_init 10 = .ok (.putfield 7, 3) := by decide +kernel
theorem dX9_init_13 : decode cX9_init 13 = .ok (.aload_n 0, 1) := by decide +kernel
theorem dX9_init_14 : decode cX9_init 14 = .ok (.bipush 35, 2) := by decide +kernel
theorem dX9_init_16 : decode cX9_init 16 = .ok (.newarray .int, 2) := by decide +kernel
theorem dX9_init_18 : decode cX9_init 18 = .ok (.putfield 13, 3) := by decide +kernel
theorem dX9_init_21 : decode cX9_init 21 = .ok (.aload_n 0, 1) := by decide +kernel
theorem dX9_init_22 : decode cX9_init 22 = .ok (.bipush 35, 2) := by decide +kernel
theorem dX9_init_24 : decode cX9_init 24 = .ok (.newarray .int, 2) := by decide +kernel
theorem dX9_init_26 : decode cX9_init 26 = .ok (.putfield 16, 3) := by decide +kernel
theorem dX9_init_29 : decode cX9_init 29 = .ok (.aload_n 0, 1) := by decide +kernel
theorem dX9_init_30 : decode cX9_init 30 = .ok (.bipush 40, 2) := by decide +kernel
theorem dX9_init_32 : decode cX9_init 32 = .ok (.newarray .int, 2) := by decide +kernel
theorem dX9_init_34 : decode cX9_init 34 = .ok (.putfield 19, 3) := by decide +kernel
theorem dX9_init_37 : decode cX9_init 37 = .ok (.aload_n 0, 1) := by decide +kernel
theorem dX9_init_38 : decode cX9_init 38 = .ok (.bipush 80, 2) := by decide +kernel
theorem dX9_init_40 : decode cX9_init 40 = .ok (.newarray .int, 2) := by decide +kernel
theorem dX9_init_42 : decode cX9_init 42 = .ok (.putfield 22, 3) := by decide +kernel
theorem dX9_init_45 : decode cX9_init 45 = .ok (.aload_n 0, 1) := by decide +kernel
theorem dX9_init_46 : decode cX9_init 46 = .ok (.iconst 2, 1) := by decide +kernel
theorem dX9_init_47 : decode cX9_init 47 = .ok (.newarray .boolean, 2) := by decide +kernel
theorem dX9_init_49 : decode cX9_init 49 = .ok (.putfield 25, 3) := by decide +kernel
theorem dX9_init_52 : decode cX9_init 52 = .ok (.aload_n 0, 1) := by decide +kernel
theorem dX9_init_53 : decode cX9_init 53 = .ok (.bipush 6, 2) := by decide +kernel
theorem dX9_init_55 : decode cX9_init 55 = .ok (.newarray .int, 2) := by decide +kernel
theorem dX9_init_57 : decode cX9_init 57 = .ok (.putfield 29, 3) := by decide +kernel
theorem dX9_init_60 : decode cX9_init 60 = .ok (.aload_n 0, 1) := by decide +kernel
theorem dX9_init_61 : decode cX9_init 61 = .ok (.bipush 6, 2) := by decide +kernel
theorem dX9_init_63 : decode cX9_init 63 = .ok (.newarray .int, 2) := by decide +kernel
theorem dX9_init_65 : decode cX9_init 65 = .ok (.putfield 32, 3) := by decide +kernel
theorem dX9_init_68 : decode cX9_init 68 = .ok (.aload_n 0, 1) := by decide +kernel
theorem dX9_init_69 : decode cX9_init 69 = .ok (.sipush 256, 3) := by decide +kernel
theorem dX9_init_72 : decode cX9_init 72 = .ok (.newarray .int, 2) := by decide +kernel
theorem dX9_init_74 : decode cX9_init 74 = .ok (.putfield 35, 3) := by decide +kernel
theorem dX9_init_77 : decode cX9_init 77 = .ok (.aload_n 0, 1) := by decide +kernel
theorem dX9_init_78 : decode cX9_init 78 = .ok (.bipush 8, 2) := by decide +kernel
theorem dX9_init_80 : decode cX9_init 80 = .ok (.newarray .int, 2) := by decide +kernel
theorem dX9_init_82 : decode cX9_init 82 = .ok (.putfield 38, 3) := by decide +kernel
theorem dX9_init_85 : decode cX9_init 85 = .ok (.aload_n 0, 1) := by decide +kernel
theorem dX9_init_86 : decode cX9_init 86 = .ok (.bipush 16, 2) := by decide +kernel
theorem dX9_init_88 : decode cX9_init 88 = .ok (.newarray .boolean, 2) := by decide +kernel
theorem dX9_init_90 : decode cX9_init 90 = .ok (.putfield 41, 3) := by decide +kernel
theorem dX9_init_93 : decode cX9_init 93 = .ok (.aload_n 0, 1) := by decide +kernel
theorem dX9_init_94 : decode cX9_init 94 = .ok (.bipush 16, 2) := by decide +kernel
theorem dX9_init_96 : decode cX9_init 96 = .ok (.newarray .int, 2) := by decide +kernel
theorem dX9_init_98 : decode cX9_init 98 = .ok (.putfield 44, 3) := by decide +kernel
theorem dX9_init_101 : decode cX9_init 101 = .ok (.aload_n 0, 1) := by decide +kernel
theorem dX9_init_102 : decode cX9_init 102 = .ok (.invokevirtual 47, 3) := by decide +kernel
theorem dX9_init_105 : decode cX9_init 105 = .ok (.pop, 1) := by decide +kernel
theorem dX9_init_106 : decode cX9_init 106 = .ok (.iconst 0, 1) := by decide +kernel
theorem dX9_init_107 : decode cX9_init 107 = .ok (.istore_n 1, 1) := by decide +kernel
theorem dX9_init_108 : decode cX9_init 108 = .ok (.iload_n 1, 1) := by decide +kernel
theorem dX9_init_109 : decode cX9_init 109 = .ok (.bipush 35, 2) := by decide +kernel
theorem dX9_init_111 : decode cX9_init 111 = .ok (.if_icmp .ge 21, 3) := by decide +kernel
theorem dX9_init_114 : decode cX9_init 114 = .ok (.aload_n 0, 1) := by decide +kernel
theorem dX9_init_115 : decode cX9_init 115 = .ok (.getfield 13, 3) := by decide +kernel
theorem dX9_init_118 : decode cX9_init 118 = .ok (.iload_n 1, 1) := by decide +kernel
theorem dX9_init_119 : decode cX9_init 119 = .ok (.aload_n 0, 1) := by decide +kernel
theorem dX9_init_120 : decode cX9_init 120 = .ok (.getfield 16, 3) := by decide +kernel
theorem dX9_init_123 : decode cX9_init 123 = .ok (.iload_n 1, 1) := by decide +kernel
theorem dX9_init_124 : decode cX9_init 124 = .ok (.iaload, 1) := by decide +kernel
theorem dX9_init_125 : decode cX9_init 125 = .ok (.iastore, 1) := by decide +kernel
theorem dX9_init_126 : decode cX9_init 126 = .ok (.iinc 1 1, 3) := by decide +kernel
theorem dX9_init_129 : decode cX9_init 129 = .ok (.goto (-21), 3) := by decide +kernel
theorem dX9_init_132 : decode cX9_init 132 = .ok (.return_, 1) := by decide +kernel
theorem dX9_in_0 : decode cX9_in 0 = .ok (.iload_n 0, 1) := by decide +kernel
theorem dX9_in_1 : decode cX9_in 1 = .ok (.iload_n 1, 1) := by decide +kernel
theorem dX9_in_2 : decode cX9_in 2 = .ok (.if_icmp .lt 12, 3) := by decide +kernel
theorem dX9_in_5 : decode cX9_in 5 = .ok (.iload_n 0, 1) := by decide +kernel
theorem dX9_in_6 : decode cX9_in 6 = .ok (.iload_n 2, 1) := by decide +kernel
theorem dX9_in_7 : decode cX9_in 7 = .ok (.if_icmp .gt 7, 3) := by decide +kernel
theorem dX9_in_10 : decode cX9_in 10 = .ok (.iconst 1, 1) := by decide +kernel
theorem dX9_in_11 : decode cX9_in 11 = .ok (.goto 4, 3) := by decide +kernel
theorem dX9_in_14 : decode cX9_in 14 = .ok (.iconst 0, 1) := by decide +kernel
theorem dX9_in_15 : decode cX9_in 15 = .ok (.ireturn, 1) := by decide +kernel
theorem dX9_cells_0 : decode cX9_cells 0 = .ok (.aload_n 0, 1) := by decide +kernel
theorem dX9_cells_1 : decode cX9_cells 1 = .ok (.getfield 13, 3) := by decide +kernel
theorem dX9_cells_4 : decode cX9_cells 4 = .ok (.iconst 0, 1) := by decide +kernel
theorem dX9_cells_5 : decode cX9_cells 5 = .ok (.iaload, 1) := by decide +kernel
theorem dX9_cells_6 : decode cX9_cells 6 = .ok (.aload_n 0, 1) := by decide +kernel
theorem dX9_cells_7 : decode cX9_cells 7 = .ok (.getfield 13, 3) := by decide +kernel
theorem dX9_cells_10 : decode cX9_cells 10 = .ok (.iconst 1, 1) := by decide +kernel
theorem dX9_cells_11 : decode cX9_cells 11 = .ok (.iaload, 1) := by decide +kernel
theorem dX9_cells_12 : decode cX9_cells 12 = .ok (.imul, 1) := by decide +kernel
theorem dX9_cells_13 : decode cX9_cells 13 = .ok (.ireturn, 1) := by decide +kernel
theorem dX9_isCell_0 : decode cX9_isCell 0 = .ok (.iload_n 1, 1) := by decide +kernel
theorem dX9_isCell_1 : decode cX9_isCell 1 = .ok (.iconst 0, 1) := by decide +kernel
theorem dX9_isCell_2 : decode cX9_isCell 2 = .ok (.aload_n 0, 1) := by decide +kernel
theorem dX9_isCell_3 : decode cX9_isCell 3 = .ok (.invokevirtual 51, 3) := by decide +kernel
theorem dX9_isCell_6 : decode cX9_isCell 6 = .ok (.iconst 1, 1) := by decide +kernel
theorem dX9_isCell_7 : decode cX9_isCell 7 = .ok (.isub, 1) := by decide +kernel
theorem dX9_isCell_8 : decode cX9_isCell 8 = .ok (.invokestatic 55, 3) := by decide +kernel
theorem dX9_isCell_11 : decode cX9_isCell 11 = .ok (.ireturn, 1) := by decide +kernel
theorem dX9_areTwo_0 : decode cX9_areTwo 0 = .ok (.aload_n 0, 1) := by decide +kernel
theorem dX9_areTwo_1 : decode cX9_areTwo 1 = .ok (.iload_n 1, 1) := by decide +kernel
theorem dX9_areTwo_2 : decode cX9_areTwo 2 = .ok (.invokevirtual 59, 3) := by decide +kernel
theorem dX9_areTwo_5 : decode cX9_areTwo 5 = .ok (.ifCond .eq 20, 3) := by decide +kernel
theorem dX9_areTwo_8 : decode cX9_areTwo 8 = .ok (.aload_n 0, 1) := by decide +kernel
theorem dX9_areTwo_9 : decode cX9_areTwo 9 = .ok (.iload_n 2, 1) := by decide +kernel
theorem dX9_areTwo_10 : decode cX9_areTwo 10 = .ok (.invokevirtual 59, 3) := by decide +kernel
theorem dX9_areTwo_13 : decode cX9_areTwo 13 = .ok (.ifCond .eq 12, 3) := by decide +kernel
theorem dX9_areTwo_16 : decode cX9_areTwo 16 = .ok (.iload_n 1, 1) := by decide +kernel
theorem dX9_areTwo_17 : decode cX9_areTwo 17 = .ok (.iload_n 2, 1) := by decide +kernel
theorem dX9_areTwo_18 : decode cX9_areTwo 18 = .ok (.if_icmp .eq 7, 3) := by decide +kernel
theorem dX9_areTwo_21 : decode cX9_areTwo 21 = .ok (.iconst 1, 1) := by decide +kernel
theorem dX9_areTwo_22 : decode cX9_areTwo 22 = .ok (.goto 4, 3) := by decide +kernel
theorem dX9_areTwo_25 : decode cX9_areTwo 25 = .ok (.iconst 0, 1) := by decide +kernel
theorem dX9_areTwo_26 : decode cX9_areTwo 26 = .ok (.ireturn, 1) := by decide +kernel
theorem dX9_type_0 : decode cX9_type 0 = .ok (.iload_n 3, 1) := by decide +kernel
theorem dX9_type_1 : decode cX9_type 1 = .ok (.iconst 1, 1) := by decide +kernel
theorem dX9_type_2 : decode cX9_type 2 = .ok (.bipush 8, 2) := by decide +kernel
theorem dX9_type_4 : decode cX9_type 4 = .ok (.invokestatic 55, 3) := by decide +kernel
theorem dX9_type_7 : decode cX9_type 7 = .ok (.ifCond .ne 5, 3) := by decide +kernel
theorem dX9_type_10 : decode cX9_type 10 = .ok (.iconst (-1), 1) := by decide +kernel
theorem dX9_type_11 : decode cX9_type 11 = .ok (.ireturn, 1) := by decide +kernel
theorem dX9_type_12 : decode cX9_type 12 = .ok (.aload_n 0, 1) := by decide +kernel
theorem dX9_type_13 : decode cX9_type 13 = .ok (.getfield 63, 3) := by decide +kernel
theorem dX9_type_16 : decode cX9_type 16 = .ok (.iload_n 3, 1) := by decide +kernel
theorem dX9_type_17 : decode cX9_type 17 = .ok (.iadd, 1) := by decide +kernel
theorem dX9_type_18 : decode cX9_type 18 = .ok (.sipush 200, 3) := by decide +kernel
theorem dX9_type_21 : decode cX9_type 21 = .ok (.if_icmp .le 6, 3) := by decide +kernel
theorem dX9_type_24 : decode cX9_type 24 = .ok (.bipush (-3), 2) := by decide +kernel
theorem dX9_type_26 : decode cX9_type 26 = .ok (.ireturn, 1) := by decide +kernel
theorem dX9_type_27 : decode cX9_type 27 = .ok (.iload_n 3, 1) := by decide +kernel
theorem dX9_type_28 : decode cX9_type 28 = .ok (.iconst 1, 1) := by decide +kernel
theorem dX9_type_29 : decode cX9_type 29 = .ok (.isub, 1) := by decide +kernel
theorem dX9_type_30 : decode cX9_type 30 = .ok (.istore 4, 2) := by decide +kernel
theorem dX9_type_32 : decode cX9_type 32 = .ok (.iload 4, 2) := by decide +kernel
theorem dX9_type_34 : decode cX9_type 34 = .ok (.ifCond .lt 40, 3) := by decide +kernel
theorem dX9_type_37 : decode cX9_type 37 = .ok (.aload_n 0, 1) := by decide +kernel
theorem dX9_type_38 : decode cX9_type 38 = .ok (.getfield 7, 3) := by decide +kernel
theorem dX9_type_41 : decode cX9_type 41 = .ok (.aload_n 0, 1) := by decide +kernel
theorem dX9_type_42 : decode cX9_type 42 = .ok (.getfield 63, 3) := by decide +kernel
theorem dX9_type_45 : decode cX9_type 45 = .ok (.lload_n 1, 1) := by decide +kernel
theorem dX9_type_46 : decode cX9_type 46 = .ok (.bipush 8, 2) := by decide +kernel
theorem dX9_type_48 : decode cX9_type 48 = .ok (.iload 4, 2) := by decide +kernel
theorem dX9_type_50 : decode cX9_type 50 = .ok (.imul, 1) := by decide +kernel
theorem dX9_type_51 : decode cX9_type 51 = .ok (.lshr, 1) := by decide +kernel
theorem dX9_type_52 : decode cX9_type 52 = .ok (.ldc2_w 67, 3) := by decide +kernel
theorem dX9_type_55 : decode cX9_type 55 = .ok (.land, 1) := by decide +kernel
theorem dX9_type_56 : decode cX9_type 56 = .ok (.l2i, 1) := by decide +kernel
theorem dX9_type_57 : decode cX9_type 57 = .ok (.iastore, 1) := by decide +kernel
theorem dX9_type_58 : decode cX9_type 58 = .ok (.aload_n 0, 1) := by decide +kernel
theorem dX9_type_59 : decode cX9_type 59 = .ok (.dup, 1) := by decide +kernel
theorem dX9_type_60 : decode cX9_type 60 = .ok (.getfield 63, 3) := by decide +kernel
theorem dX9_type_63 : decode cX9_type 63 = .ok (.iconst 1, 1) := by decide +kernel
theorem dX9_type_64 : decode cX9_type 64 = .ok (.iadd, 1) := by decide +kernel
theorem dX9_type_65 : decode cX9_type 65 = .ok (.putfield 63, 3) := by decide +kernel
theorem dX9_type_68 : decode cX9_type 68 = .ok (.iinc 4 (-1), 3) := by decide +kernel
theorem dX9_type_71 : decode cX9_type 71 = .ok (.goto (-39), 3) := by decide +kernel
theorem dX9_type_74 : decode cX9_type 74 = .ok (.aload_n 0, 1) := by decide +kernel
theorem dX9_type_75 : decode cX9_type 75 = .ok (.getfield 63, 3) := by decide +kernel
theorem dX9_type_78 : decode cX9_type 78 = .ok (.ireturn, 1) := by decide +kernel
theorem dX9_clear_0 : decode cX9_clear 0 = .ok (.aload_n 0, 1) := by decide +kernel
theorem dX9_clear_1 : decode cX9_clear 1 = .ok (.getfield 63, 3) := by decide +kernel
theorem dX9_clear_4 : decode cX9_clear 4 = .ok (.istore_n 1, 1) := by decide +kernel
theorem dX9_clear_5 : decode cX9_clear 5 = .ok (.aload_n 0, 1) := by decide +kernel
theorem dX9_clear_6 : decode cX9_clear 6 = .ok (.iconst 0, 1) := by decide +kernel
theorem dX9_clear_7 : decode cX9_clear 7 = .ok (.putfield 63, 3) := by decide +kernel
theorem dX9_clear_10 : decode cX9_clear 10 = .ok (.iload_n 1, 1) := by decide +kernel
theorem dX9_clear_11 : decode cX9_clear 11 = .ok (.ireturn, 1) := by decide +kernel
theorem dX9_byteAt_0 : decode cX9_byteAt 0 = .ok (.iload_n 1, 1) := by decide +kernel
theorem dX9_byteAt_1 : decode cX9_byteAt 1 = .ok (.aload_n 0, 1) := by decide +kernel
theorem dX9_byteAt_2 : decode cX9_byteAt 2 = .ok (.getfield 63, 3) := by decide +kernel
theorem dX9_byteAt_5 : decode cX9_byteAt 5 = .ok (.if_icmp .ge 12, 3) := by decide +kernel
