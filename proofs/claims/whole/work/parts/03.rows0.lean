theorem dX0_init_0 : decode cX0_init 0 = .ok (.aload_n 0, 1) := by decide +kernel
theorem dX0_init_1 : decode cX0_init 1 = .ok (.invokespecial 3, 3) := by decide +kernel
theorem dX0_init_4 : decode cX0_init 4 = .ok (.aload_n 0, 1) := by decide +kernel
theorem dX0_init_5 : decode cX0_init 5 = .ok (.iconst 0, 1) := by decide +kernel
theorem dX0_init_6 : decode cX0_init 6 = .ok (.putfield 9, 3) := by decide +kernel
theorem dX0_init_9 : decode cX0_init 9 = .ok (.aload_n 0, 1) := by decide +kernel
theorem dX0_init_10 : decode cX0_init 10 = .ok (.bipush 24, 2) := by decide +kernel
theorem dX0_init_12 : decode cX0_init 12 = .ok (.newarray .int, 2) := by decide +kernel
theorem dX0_init_14 : decode cX0_init 14 = .ok (.putfield 15, 3) := by decide +kernel
theorem dX0_init_17 : decode cX0_init 17 = .ok (.aload_n 0, 1) := by decide +kernel
theorem dX0_init_18 : decode cX0_init 18 = .ok (.bipush 24, 2) := by decide +kernel
theorem dX0_init_20 : decode cX0_init 20 = .ok (.newarray .int, 2) := by decide +kernel
theorem dX0_init_22 : decode cX0_init 22 = .ok (.putfield 19, 3) := by decide +kernel
theorem dX0_init_25 : decode cX0_init 25 = .ok (.aload_n 0, 1) := by decide +kernel
theorem dX0_init_26 : decode cX0_init 26 = .ok (.bipush 24, 2) := by decide +kernel
theorem dX0_init_28 : decode cX0_init 28 = .ok (.newarray .int, 2) := by decide +kernel
theorem dX0_init_30 : decode cX0_init 30 = .ok (.putfield 22, 3) := by decide +kernel
theorem dX0_init_33 : decode cX0_init 33 = .ok (.return_, 1) := by decide +kernel
theorem dX0_layOut_0 : decode cX0_layOut 0 = .ok (.aload_n 0, 1) := by decide +kernel
theorem dX0_layOut_1 : decode cX0_layOut 1 = .ok (.iconst 0, 1) := by decide +kernel
theorem dX0_layOut_2 : decode cX0_layOut 2 = .ok (.putfield 9, 3) := by decide +kernel
theorem dX0_layOut_5 : decode cX0_layOut 5 = .ok (.iconst 0, 1) := by decide +kernel
theorem dX0_layOut_6 : decode cX0_layOut 6 = .ok (.istore_n 2, 1) := by decide +kernel
theorem dX0_layOut_7 : decode cX0_layOut 7 = .ok (.iload_n 2, 1) := by decide +kernel
theorem dX0_layOut_8 : decode cX0_layOut 8 = .ok (.aload_n 1, 1) := by decide +kernel
theorem dX0_layOut_9 : decode cX0_layOut 9 = .ok (.getfield 25, 3) := by decide +kernel
theorem dX0_layOut_12 : decode cX0_layOut 12 = .ok (.if_icmp .ge 107, 3) := by decide +kernel
theorem dX0_layOut_15 : decode cX0_layOut 15 = .ok (.iload_n 2, 1) := by decide +kernel
theorem dX0_layOut_16 : decode cX0_layOut 16 = .ok (.iconst 1, 1) := by decide +kernel
theorem dX0_layOut_17 : decode cX0_layOut 17 = .ok (.iadd, 1) := by decide +kernel
theorem dX0_layOut_18 : decode cX0_layOut 18 = .ok (.istore_n 3, 1) := by decide +kernel
theorem dX0_layOut_19 : decode cX0_layOut 19 = .ok (.iload_n 3, 1) := by decide +kernel
theorem dX0_layOut_20 : decode cX0_layOut 20 = .ok (.aload_n 1, 1) := by decide +kernel
theorem dX0_layOut_21 : decode cX0_layOut 21 = .ok (.getfield 25, 3) := by decide +kernel
theorem dX0_layOut_24 : decode cX0_layOut 24 = .ok (.if_icmp .ge 89, 3) := by decide +kernel
theorem dX0_layOut_27 : decode cX0_layOut 27 = .ok (.aload_n 1, 1) := by decide +kernel
theorem dX0_layOut_28 : decode cX0_layOut 28 = .ok (.getfield 30, 3) := by decide +kernel
theorem dX0_layOut_31 : decode cX0_layOut 31 = .ok (.iload_n 2, 1) := by decide +kernel
theorem dX0_layOut_32 : decode cX0_layOut 32 = .ok (.iaload, 1) := by decide +kernel
theorem dX0_layOut_33 : decode cX0_layOut 33 = .ok (.aload_n 1, 1) := by decide +kernel
theorem dX0_layOut_34 : decode cX0_layOut 34 = .ok (.getfield 30, 3) := by decide +kernel
theorem dX0_layOut_37 : decode cX0_layOut 37 = .ok (.iload_n 3, 1) := by decide +kernel
theorem dX0_layOut_38 : decode cX0_layOut 38 = .ok (.iaload, 1) := by decide +kernel
theorem dX0_layOut_39 : decode cX0_layOut 39 = .ok (.isub, 1) := by decide +kernel
theorem dX0_layOut_40 : decode cX0_layOut 40 = .ok (.invokestatic 33, 3) := by decide +kernel
theorem dX0_layOut_43 : decode cX0_layOut 43 = .ok (.aload_n 1, 1) := by decide +kernel
theorem dX0_layOut_44 : decode cX0_layOut 44 = .ok (.getfield 39, 3) := by decide +kernel
theorem dX0_layOut_47 : decode cX0_layOut 47 = .ok (.iload_n 2, 1) := by decide +kernel
theorem dX0_layOut_48 : decode cX0_layOut 48 = .ok (.iaload, 1) := by decide +kernel
theorem dX0_layOut_49 : decode cX0_layOut 49 = .ok (.aload_n 1, 1) := by decide +kernel
theorem dX0_layOut_50 : decode cX0_layOut 50 = .ok (.getfield 39, 3) := by decide +kernel
theorem dX0_layOut_53 : decode cX0_layOut 53 = .ok (.iload_n 3, 1) := by decide +kernel
theorem dX0_layOut_54 : decode cX0_layOut 54 = .ok (.iaload, 1) := by decide +kernel
theorem dX0_layOut_55 : decode cX0_layOut 55 = .ok (.isub, 1) := by decide +kernel
theorem dX0_layOut_56 : decode cX0_layOut 56 = .ok (.invokestatic 33, 3) := by decide +kernel
theorem dX0_layOut_59 : decode cX0_layOut 59 = .ok (.iadd, 1) := by decide +kernel
theorem dX0_layOut_60 : decode cX0_layOut 60 = .ok (.istore 4, 2) := by decide +kernel
theorem dX0_layOut_62 : decode cX0_layOut 62 = .ok (.iload 4, 2) := by decide +kernel
theorem dX0_layOut_64 : decode cX0_layOut 64 = .ok (.iconst 1, 1) := by decide +kernel
theorem dX0_layOut_65 : decode cX0_layOut 65 = .ok (.if_icmp .ne 42, 3) := by decide +kernel
theorem dX0_layOut_68 : decode cX0_layOut 68 = .ok (.aload_n 0, 1) := by decide +kernel
theorem dX0_layOut_69 : decode cX0_layOut 69 = .ok (.getfield 9, 3) := by decide +kernel
theorem dX0_layOut_72 : decode cX0_layOut 72 = .ok (.bipush 24, 2) := by decide +kernel
theorem dX0_layOut_74 : decode cX0_layOut 74 = .ok (.if_icmp .ge 33, 3) := by decide +kernel
theorem dX0_layOut_77 : decode cX0_layOut 77 = .ok (.aload_n 0, 1) := by decide +kernel
theorem dX0_layOut_78 : decode cX0_layOut 78 = .ok (.getfield 15, 3) := by decide +kernel
theorem dX0_layOut_81 : decode cX0_layOut 81 = .ok (.aload_n 0, 1) := by decide +kernel
theorem dX0_layOut_82 : decode cX0_layOut 82 = .ok (.getfield 9, 3) := by decide +kernel
theorem dX0_layOut_85 : decode cX0_layOut 85 = .ok (.iload_n 2, 1) := by decide +kernel
theorem dX0_layOut_86 : decode cX0_layOut 86 = .ok (.iastore, 1) := by decide +kernel
theorem dX0_layOut_87 : decode cX0_layOut 87 = .ok (.aload_n 0, 1) := by decide +kernel
theorem dX0_layOut_88 : decode cX0_layOut 88 = .ok (.getfield 19, 3) := by decide +kernel
theorem dX0_layOut_91 : decode cX0_layOut 91 = .ok (.aload_n 0, 1) := by decide +kernel
theorem dX0_layOut_92 : decode cX0_layOut 92 = .ok (.getfield 9, 3) := by decide +kernel
theorem dX0_layOut_95 : decode cX0_layOut 95 = .ok (.iload_n 3, 1) := by decide +kernel
theorem dX0_layOut_96 : decode cX0_layOut 96 = .ok (.iastore, 1) := by decide +kernel
theorem dX0_layOut_97 : decode cX0_layOut 97 = .ok (.aload_n 0, 1) := by decide +kernel
theorem dX0_layOut_98 : decode cX0_layOut 98 = .ok (.dup, 1) := by decide +kernel
theorem dX0_layOut_99 : decode cX0_layOut 99 = .ok (.getfield 9, 3) := by decide +kernel
theorem dX0_layOut_102 : decode cX0_layOut 102 = .ok (.iconst 1, 1) := by decide +kernel
theorem dX0_layOut_103 : decode cX0_layOut 103 = .ok (.iadd, 1) := by decide +kernel
theorem dX0_layOut_104 : decode cX0_layOut 104 = .ok (.putfield 9, 3) := by decide +kernel
theorem dX0_layOut_107 : decode cX0_layOut 107 = .ok (.iinc 3 1, 3) := by decide +kernel
theorem dX0_layOut_110 : decode cX0_layOut 110 = .ok (.goto (-91), 3) := by decide +kernel
theorem dX0_layOut_113 : decode cX0_layOut 113 = .ok (.iinc 2 1, 3) := by decide +kernel
theorem dX0_layOut_116 : decode cX0_layOut 116 = .ok (.goto (-109), 3) := by decide +kernel
theorem dX0_layOut_119 : decode cX0_layOut 119 = .ok (.return_, 1) := by decide +kernel
theorem dX0_find_0 : decode cX0_find 0 = .ok (.iload_n 1, 1) := by decide +kernel
theorem dX0_find_1 : decode cX0_find 1 = .ok (.iload_n 2, 1) := by decide +kernel
theorem dX0_find_2 : decode cX0_find 2 = .ok (.invokestatic 42, 3) := by decide +kernel
theorem dX0_find_5 : decode cX0_find 5 = .ok (.istore_n 3, 1) := by decide +kernel
theorem dX0_find_6 : decode cX0_find 6 = .ok (.iload_n 1, 1) := by decide +kernel
theorem dX0_find_7 : decode cX0_find 7 = .ok (.iload_n 2, 1) := by decide +kernel
theorem dX0_find_8 : decode cX0_find 8 = .ok (.invokestatic 46, 3) := by decide +kernel
theorem dX0_find_11 : decode cX0_find 11 = .ok (.istore 4, 2) := by decide +kernel
theorem dX0_find_13 : decode cX0_find 13 = .ok (.iconst 0, 1) := by decide +kernel
theorem dX0_find_14 : decode cX0_find 14 = .ok (.istore 5, 2) := by decide +kernel
theorem dX0_find_16 : decode cX0_find 16 = .ok (.iload 5, 2) := by decide +kernel
theorem dX0_find_18 : decode cX0_find 18 = .ok (.aload_n 0, 1) := by decide +kernel
theorem dX0_find_19 : decode cX0_find 19 = .ok (.getfield 9, 3) := by decide +kernel
theorem dX0_find_22 : decode cX0_find 22 = .ok (.if_icmp .ge 35, 3) := by decide +kernel
theorem dX0_find_25 : decode cX0_find 25 = .ok (.aload_n 0, 1) := by decide +kernel
theorem dX0_find_26 : decode cX0_find 26 = .ok (.getfield 15, 3) := by decide +kernel
theorem dX0_find_29 : decode cX0_find 29 = .ok (.iload 5, 2) := by decide +kernel
theorem dX0_find_31 : decode cX0_find 31 = .ok (.iaload, 1) := by decide +kernel
theorem dX0_find_32 : decode cX0_find 32 = .ok (.iload_n 3, 1) := by decide +kernel
theorem dX0_find_33 : decode cX0_find 33 = .ok (.if_icmp .ne 18, 3) := by decide +kernel
theorem dX0_find_36 : decode cX0_find 36 = .ok (.aload_n 0, 1) := by decide +kernel
theorem dX0_find_37 : decode cX0_find 37 = .ok (.getfield 19, 3) := by decide +kernel
theorem dX0_find_40 : decode cX0_find 40 = .ok (.iload 5, 2) := by decide +kernel
theorem dX0_find_42 : decode cX0_find 42 = .ok (.iaload, 1) := by decide +kernel
theorem dX0_find_43 : decode cX0_find 43 = .ok (.iload 4, 2) := by decide +kernel
theorem dX0_find_45 : decode cX0_find 45 = .ok (.if_icmp .ne 6, 3) := by decide +kernel
theorem dX0_find_48 : decode cX0_find 48 = .ok (.iload 5, 2) := by decide +kernel
theorem dX0_find_50 : decode cX0_find 50 = .ok (.ireturn, 1) := by decide +kernel
theorem dX0_find_51 : decode cX0_find 51 = .ok (.iinc 5 1, 3) := by decide +kernel
theorem dX0_find_54 : decode cX0_find 54 = .ok (.goto (-38), 3) := by decide +kernel
theorem dX0_find_57 : decode cX0_find 57 = .ok (.bipush (-9), 2) := by decide +kernel
theorem dX0_find_59 : decode cX0_find 59 = .ok (.ireturn, 1) := by decide +kernel
theorem dX0_wouldTear_0 : decode cX0_wouldTear 0 = .ok (.iconst 0, 1) := by decide +kernel
theorem dX0_wouldTear_1 : decode cX0_wouldTear 1 = .ok (.istore 4, 2) := by decide +kernel
theorem dX0_wouldTear_3 : decode cX0_wouldTear 3 = .ok (.iload 4, 2) := by decide +kernel
theorem dX0_wouldTear_5 : decode cX0_wouldTear 5 = .ok (.aload_n 0, 1) := by decide +kernel
theorem dX0_wouldTear_6 : decode cX0_wouldTear 6 = .ok (.getfield 9, 3) := by decide +kernel
theorem dX0_wouldTear_9 : decode cX0_wouldTear 9 = .ok (.if_icmp .ge 44, 3) := by decide +kernel
theorem dX0_wouldTear_12 : decode cX0_wouldTear 12 = .ok (.aload_n 0, 1) := by decide +kernel
theorem dX0_wouldTear_13 : decode cX0_wouldTear 13 = .ok (.getfield 22, 3) := by decide +kernel
theorem dX0_wouldTear_16 : decode cX0_wouldTear 16 = .ok (.iload 4, 2) := by decide +kernel
theorem dX0_wouldTear_18 : decode cX0_wouldTear 18 = .ok (.iaload, 1) := by decide +kernel
theorem dX0_wouldTear_19 : decode cX0_wouldTear 19 = .ok (.iload_n 3, 1) := by decide +kernel
theorem dX0_wouldTear_20 : decode cX0_wouldTear 20 = .ok (.if_icmp .lt 27, 3) := by decide +kernel
theorem dX0_wouldTear_23 : decode cX0_wouldTear 23 = .ok (.aload_n 1, 1) := by decide +kernel
theorem dX0_wouldTear_24 : decode cX0_wouldTear 24 = .ok (.aload_n 0, 1) := by decide +kernel
theorem dX0_wouldTear_25 : decode cX0_wouldTear 25 = .ok (.getfield 15, 3) := by decide +kernel
theorem dX0_wouldTear_28 : decode cX0_wouldTear 28 = .ok (.iload 4, 2) := by decide +kernel
theorem dX0_wouldTear_30 : decode cX0_wouldTear 30 = .ok (.iaload, 1) := by decide +kernel
theorem dX0_wouldTear_31 : decode cX0_wouldTear 31 = .ok (.aload_n 0, 1) := by decide +kernel
theorem dX0_wouldTear_32 : decode cX0_wouldTear 32 = .ok (.getfield 19, 3) := by decide +kernel
theorem dX0_wouldTear_35 : decode cX0_wouldTear 35 = .ok (.iload 4, 2) := by decide +kernel
theorem dX0_wouldTear_37 : decode cX0_wouldTear 37 = .ok (.iaload, 1) := by decide +kernel
theorem dX0_wouldTear_38 : decode cX0_wouldTear 38 = .ok (.iload_n 2, 1) := by decide +kernel
theorem dX0_wouldTear_39 : decode cX0_wouldTear 39 = .ok (.invokevirtual 49, 3) := by decide +kernel
theorem dX0_wouldTear_42 : decode cX0_wouldTear 42 = .ok (.ifCond .eq 5, 3) := by decide +kernel
theorem dX0_wouldTear_45 : decode cX0_wouldTear 45 = .ok (.iconst 1, 1) := by decide +kernel
theorem dX0_wouldTear_46 : decode cX0_wouldTear 46 = .ok (.ireturn, 1) := by decide +kernel
theorem dX0_wouldTear_47 : decode cX0_wouldTear 47 = .ok (.iinc 4 1, 3) := by decide +kernel
theorem dX0_wouldTear_50 : decode cX0_wouldTear 50 = .ok (.goto (-47), 3) := by decide +kernel
theorem dX0_wouldTear_53 : decode cX0_wouldTear 53 = .ok (.iconst 0, 1) := by decide +kernel
theorem dX0_wouldTear_54 : decode cX0_wouldTear 54 = .ok (.ireturn, 1) := by decide +kernel
theorem dX0_bend_0 : decode cX0_bend 0 = .ok (.iconst 0, 1) := by decide +kernel
theorem dX0_bend_1 : decode cX0_bend 1 = .ok (.istore_n 3, 1) := by decide +kernel
theorem dX0_bend_2 : decode cX0_bend 2 = .ok (.iload_n 3, 1) := by decide +kernel
theorem dX0_bend_3 : decode cX0_bend 3 = .ok (.aload_n 0, 1) := by decide +kernel
theorem dX0_bend_4 : decode cX0_bend 4 = .ok (.getfield 9, 3) := by decide +kernel
theorem dX0_bend_7 : decode cX0_bend 7 = .ok (.if_icmp .ge 39, 3) := by decide +kernel
theorem dX0_bend_10 : decode cX0_bend 10 = .ok (.aload_n 1, 1) := by decide +kernel
theorem dX0_bend_11 : decode cX0_bend 11 = .ok (.aload_n 0, 1) := by decide +kernel
theorem dX0_bend_12 : decode cX0_bend 12 = .ok (.getfield 15, 3) := by decide +kernel
theorem dX0_bend_15 : decode cX0_bend 15 = .ok (.iload_n 3, 1) := by decide +kernel
theorem dX0_bend_16 : decode cX0_bend 16 = .ok (.iaload, 1) := by decide +kernel
theorem dX0_bend_17 : decode cX0_bend 17 = .ok (.aload_n 0, 1) := by decide +kernel
theorem dX0_bend_18 : decode cX0_bend 18 = .ok (.getfield 19, 3) := by decide +kernel
theorem dX0_bend_21 : decode cX0_bend 21 = .ok (.iload_n 3, 1) := by decide +kernel
theorem dX0_bend_22 : decode cX0_bend 22 = .ok (.iaload, 1) := by decide +kernel
theorem dX0_bend_23 : decode cX0_bend 23 = .ok (.iload_n 2, 1) := by decide +kernel
theorem dX0_bend_24 : decode cX0_bend 24 = .ok (.invokevirtual 49, 3) := by decide +kernel
theorem dX0_bend_27 : decode cX0_bend 27 = .ok (.ifCond .eq 13, 3) := by decide +kernel
theorem dX0_bend_30 : decode cX0_bend 30 = .ok (.aload_n 0, 1) := by decide +kernel
theorem dX0_bend_31 : decode cX0_bend 31 = .ok (.getfield 22, 3) := by decide +kernel
theorem dX0_bend_34 : decode cX0_bend 34 = .ok (.iload_n 3, 1) := by decide +kernel
theorem dX0_bend_35 : decode cX0_bend 35 = .ok (.dup2, 1) := by decide +kernel
theorem dX0_bend_36 : decode cX0_bend 36 = .ok (.iaload, 1) := by decide +kernel
theorem dX0_bend_37 : decode cX0_bend 37 = .ok (.iconst 1, 1) := by decide +kernel
theorem dX0_bend_38 : decode cX0_bend 38 = .ok (.iadd, 1) := by decide +kernel
theorem dX0_bend_39 : decode cX0_bend 39 = .ok (.iastore, 1) := by decide +kernel
theorem dX0_bend_40 : decode cX0_bend 40 = .ok (.iinc 3 1, 3) := by decide +kernel
theorem dX0_bend_43 : decode cX0_bend 43 = .ok (.goto (-41), 3) := by decide +kernel
theorem dX0_bend_46 : decode cX0_bend 46 = .ok (.return_, 1) := by decide +kernel
theorem dX1_init_0 : decode cX1_init 0 = .ok (.aload_n 0, 1) := by decide +kernel
theorem dX1_init_1 : decode cX1_init 1 = .ok (.invokespecial 3, 3) := by decide +kernel
theorem dX1_init_4 : decode cX1_init 4 = .ok (.aload_n 0, 1) := by decide +kernel
theorem dX1_init_5 : decode cX1_init 5 = .ok (.bipush 16, 2) := by decide +kernel
theorem dX1_init_7 : decode cX1_init 7 = .ok (.newarray .int, 2) := by decide +kernel
theorem dX1_init_9 : decode cX1_init 9 = .ok (.putfield 9, 3) := by decide +kernel
theorem dX1_init_12 : decode cX1_init 12 = .ok (.aload_n 0, 1) := by decide +kernel
theorem dX1_init_13 : decode cX1_init 13 = .ok (.new 15, 3) := by decide +kernel
theorem dX1_init_16 : decode cX1_init 16 = .ok (.dup, 1) := by decide +kernel
theorem dX1_init_17 : decode cX1_init 17 = .ok (.invokespecial 17, 3) := by decide +kernel
theorem dX1_init_20 : decode cX1_init 20 = .ok (.putfield 18, 3) := by decide +kernel
theorem dX1_init_23 : decode cX1_init 23 = .ok (.aload_n 0, 1) := by decide +kernel
theorem dX1_init_24 : decode cX1_init 24 = .ok (.invokevirtual 22, 3) := by decide +kernel
theorem dX1_init_27 : decode cX1_init 27 = .ok (.return_, 1) := by decide +kernel
theorem dX1_becomeAsAtFirst_0 : decode cX1_becomeAsAtFirst 0 = .ok (.aload_n 0, 1) := by decide +kernel
theorem dX1_becomeAsAtFirst_1 : decode cX1_becomeAsAtFirst 1 = .ok (.iconst 3, 1) := by decide +kernel
theorem dX1_becomeAsAtFirst_2 : decode cX1_becomeAsAtFirst 2 = .ok (.putfield 25, 3) := by decide +kernel
theorem dX1_becomeAsAtFirst_5 : decode cX1_becomeAsAtFirst 5 = .ok (.aload_n 0, 1) := by decide +kernel
theorem dX1_becomeAsAtFirst_6 : decode cX1_becomeAsAtFirst 6 = .ok (.iconst 2, 1) := by decide +kernel
theorem dX1_becomeAsAtFirst_7 : decode cX1_becomeAsAtFirst 7 = .ok (.putfield 29, 3) := by decide +kernel
theorem dX1_becomeAsAtFirst_10 : decode cX1_becomeAsAtFirst 10 = .ok (.aload_n 0, 1) := by decide +kernel
theorem dX1_becomeAsAtFirst_11 : decode cX1_becomeAsAtFirst 11 = .ok (.iconst 3, 1) := by decide +kernel
theorem dX1_becomeAsAtFirst_12 : decode cX1_becomeAsAtFirst 12 = .ok (.putfield 32, 3) := by decide +kernel
theorem dX1_becomeAsAtFirst_15 : decode cX1_becomeAsAtFirst 15 = .ok (.iconst 0, 1) := by decide +kernel
theorem dX1_becomeAsAtFirst_16 : decode cX1_becomeAsAtFirst 16 = .ok (.istore_n 1, 1) := by decide +kernel
theorem dX1_becomeAsAtFirst_17 : decode cX1_becomeAsAtFirst 17 = .ok (.iload_n 1, 1) := by decide +kernel
theorem dX1_becomeAsAtFirst_18 : decode cX1_becomeAsAtFirst 18 = .ok (.bipush 16, 2) := by decide +kernel
theorem dX1_becomeAsAtFirst_20 : decode cX1_becomeAsAtFirst 20 = .ok (.if_icmp .ge 16, 3) := by decide +kernel
theorem dX1_becomeAsAtFirst_23 : decode cX1_becomeAsAtFirst 23 = .ok (.aload_n 0, 1) := by decide +kernel
theorem dX1_becomeAsAtFirst_24 : decode cX1_becomeAsAtFirst 24 = .ok (.getfield 9, 3) := by decide +kernel
theorem dX1_becomeAsAtFirst_27 : decode cX1_becomeAsAtFirst 27 = .ok (.iload_n 1, 1) := by decide +kernel
theorem dX1_becomeAsAtFirst_28 : decode cX1_becomeAsAtFirst 28 = .ok (.iconst 1, 1) := by decide +kernel
theorem dX1_becomeAsAtFirst_29 : decode cX1_becomeAsAtFirst 29 = .ok (.iastore, 1) := by decide +kernel
theorem dX1_becomeAsAtFirst_30 : decode cX1_becomeAsAtFirst 30 = .ok (.iinc 1 1, 3) := by decide +kernel
theorem dX1_becomeAsAtFirst_33 : decode cX1_becomeAsAtFirst 33 = .ok (.goto (-16), 3) := by decide +kernel
theorem dX1_becomeAsAtFirst_36 : decode cX1_becomeAsAtFirst 36 = .ok (.aload_n 0, 1) := by decide +kernel
theorem dX1_becomeAsAtFirst_37 : decode cX1_becomeAsAtFirst 37 = .ok (.getfield 18, 3) := by decide +kernel
theorem dX1_becomeAsAtFirst_40 : decode cX1_becomeAsAtFirst 40 = .ok (.iconst 0, 1) := by decide +kernel
theorem dX1_becomeAsAtFirst_41 : decode cX1_becomeAsAtFirst 41 = .ok (.putfield 35, 3) := by decide +kernel
theorem dX1_becomeAsAtFirst_44 : decode cX1_becomeAsAtFirst 44 = .ok (.return_, 1) := by decide +kernel
theorem dX1_setWorth_0 : decode cX1_setWorth 0 = .ok (.iload_n 1, 1) := by decide +kernel
theorem dX1_setWorth_1 : decode cX1_setWorth 1 = .ok (.ifCond .lt 16, 3) := by decide +kernel
theorem dX1_setWorth_4 : decode cX1_setWorth 4 = .ok (.iload_n 1, 1) := by decide +kernel
theorem dX1_setWorth_5 : decode cX1_setWorth 5 = .ok (.bipush 16, 2) := by decide +kernel
theorem dX1_setWorth_7 : decode cX1_setWorth 7 = .ok (.if_icmp .ge 10, 3) := by decide +kernel
theorem dX1_setWorth_10 : decode cX1_setWorth 10 = .ok (.aload_n 0, 1) := by decide +kernel
theorem dX1_setWorth_11 : decode cX1_setWorth 11 = .ok (.getfield 9, 3) := by decide +kernel
theorem dX1_setWorth_14 : decode cX1_setWorth 14 = .ok (.iload_n 1, 1) := by decide +kernel
theorem dX1_setWorth_15 : decode cX1_setWorth 15 = .ok (.iload_n 2, 1) := by decide +kernel
theorem dX1_setWorth_16 : decode cX1_setWorth 16 = .ok (.iastore, 1) := by decide +kernel
theorem dX1_setWorth_17 : decode cX1_setWorth 17 = .ok (.return_, 1) := by decide +kernel
theorem dX1_copyFrom_0 : decode cX1_copyFrom 0 = .ok (.aload_n 0, 1) := by decide +kernel
theorem dX1_copyFrom_1 : decode cX1_copyFrom 1 = .ok (.aload_n 1, 1) := by decide +kernel
theorem dX1_copyFrom_2 : decode cX1_copyFrom 2 = .ok (.getfield 25, 3) := by decide +kernel
theorem dX1_copyFrom_5 : decode cX1_copyFrom 5 = .ok (.putfield 25, 3) := by decide +kernel
theorem dX1_copyFrom_8 : decode cX1_copyFrom 8 = .ok (.aload_n 0, 1) := by decide +kernel
theorem dX1_copyFrom_9 : decode cX1_copyFrom 9 = .ok (.aload_n 1, 1) := by decide +kernel
theorem dX1_copyFrom_10 : decode cX1_copyFrom 10 = .ok (.getfield 29, 3) := by decide +kernel
theorem dX1_copyFrom_13 : decode cX1_copyFrom 13 = .ok (.putfield 29, 3) := by decide +kernel
theorem dX1_copyFrom_16 : decode cX1_copyFrom 16 = .ok (.aload_n 0, 1) := by decide +kernel
theorem dX1_copyFrom_17 : decode cX1_copyFrom 17 = .ok (.aload_n 1, 1) := by decide +kernel
theorem dX1_copyFrom_18 : decode cX1_copyFrom 18 = .ok (.getfield 32, 3) := by decide +kernel
theorem dX1_copyFrom_21 : decode cX1_copyFrom 21 = .ok (.putfield 32, 3) := by decide +kernel
theorem dX1_copyFrom_24 : decode cX1_copyFrom 24 = .ok (.aload_n 1, 1) := by decide +kernel
theorem dX1_copyFrom_25 : decode cX1_copyFrom 25 = .ok (.getfield 9, 3) := by decide +kernel
theorem dX1_copyFrom_28 : decode cX1_copyFrom 28 = .ok (.iconst 0, 1) := by decide +kernel
theorem dX1_copyFrom_29 : decode cX1_copyFrom 29 = .ok (.aload_n 0, 1) := by decide +kernel
theorem dX1_copyFrom_30 : decode cX1_copyFrom 30 = .ok (.getfield 9, 3) := by decide +kernel
theorem dX1_copyFrom_33 : decode cX1_copyFrom 33 = .ok (.iconst 0, 1) := by decide +kernel
theorem dX1_copyFrom_34 : decode cX1_copyFrom 34 = .ok (.bipush 16, 2) := by decide +kernel
theorem dX1_copyFrom_36 : decode cX1_copyFrom 36 = .ok (.invokestatic 38, 3) := by decide +kernel
theorem dX1_copyFrom_39 : decode cX1_copyFrom 39 = .ok (.aload_n 0, 1) := by decide +kernel
theorem dX1_copyFrom_40 : decode cX1_copyFrom 40 = .ok (.getfield 18, 3) := by decide +kernel
theorem dX1_copyFrom_43 : decode cX1_copyFrom 43 = .ok (.aload_n 1, 1) := by decide +kernel
theorem dX1_copyFrom_44 : decode cX1_copyFrom 44 = .ok (.getfield 18, 3) := by decide +kernel
theorem dX1_copyFrom_47 : decode cX1_copyFrom 47 = .ok (.invokevirtual 44, 3) := by decide +kernel
theorem dX1_copyFrom_50 : decode cX1_copyFrom 50 = .ok (.return_, 1) := by decide +kernel
theorem dX2_init_0 : decode cX2_init 0 = .ok (.aload_n 0, 1) := by decide +kernel
theorem dX2_init_1 : decode cX2_init 1 = .ok (.invokespecial 3, 3) := by decide +kernel
theorem dX2_init_4 : decode cX2_init 4 = .ok (.aload_n 0, 1) := by decide +kernel
theorem dX2_init_5 : decode cX2_init 5 = .ok (.iconst 0, 1) := by decide +kernel
theorem dX2_init_6 : decode cX2_init 6 = .ok (.putfield 9, 3) := by decide +kernel
theorem dX2_init_9 : decode cX2_init 9 = .ok (.aload_n 0, 1) := by decide +kernel
theorem dX2_init_10 : decode cX2_init 10 = .ok (.iconst 0, 1) := by decide +kernel
theorem dX2_init_11 : decode cX2_init 11 = .ok (.putfield 15, 3) := by decide +kernel
theorem dX2_init_14 : decode cX2_init 14 = .ok (.aload_n 0, 1) := by decide +kernel
theorem dX2_init_15 : decode cX2_init 15 = .ok (.iconst 0, 1) := by decide +kernel
theorem dX2_init_16 : decode cX2_init 16 = .ok (.putfield 19, 3) := by decide +kernel
theorem dX2_init_19 : decode cX2_init 19 = .ok (.aload_n 0, 1) := by decide +kernel
theorem dX2_init_20 : decode cX2_init 20 = .ok (.bipush 6, 2) := by decide +kernel
theorem dX2_init_22 : decode cX2_init 22 = .ok (.newarray .int, 2) := by decide +kernel
theorem dX2_init_24 : decode cX2_init 24 = .ok (.putfield 22, 3) := by decide +kernel
theorem dX2_init_27 : decode cX2_init 27 = .ok (.aload_n 0, 1) := by decide +kernel
theorem dX2_init_28 : decode cX2_init 28 = .ok (.bipush 24, 2) := by decide +kernel
theorem dX2_init_30 : decode cX2_init 30 = .ok (.newarray .int, 2) := by decide +kernel
theorem dX2_init_32 : decode cX2_init 32 = .ok (.putfield 26, 3) := by decide +kernel
theorem dX2_init_35 : decode cX2_init 35 = .ok (.return_, 1) := by decide +kernel
theorem dX2_begin_0 : decode cX2_begin 0 = .ok (.aload_n 0, 1) := by decide +kernel
theorem dX2_begin_1 : decode cX2_begin 1 = .ok (.iconst 0, 1) := by decide +kernel
theorem dX2_begin_2 : decode cX2_begin 2 = .ok (.putfield 15, 3) := by decide +kernel
theorem dX2_begin_5 : decode cX2_begin 5 = .ok (.aload_n 0, 1) := by decide +kernel
theorem dX2_begin_6 : decode cX2_begin 6 = .ok (.iconst 0, 1) := by decide +kernel
theorem dX2_begin_7 : decode cX2_begin 7 = .ok (.putfield 19, 3) := by decide +kernel
theorem dX2_begin_10 : decode cX2_begin 10 = .ok (.iconst 0, 1) := by decide +kernel
theorem dX2_begin_11 : decode cX2_begin 11 = .ok (.istore_n 1, 1) := by decide +kernel
theorem dX2_begin_12 : decode cX2_begin 12 = .ok (.iload_n 1, 1) := by decide +kernel
theorem dX2_begin_13 : decode cX2_begin 13 = .ok (.bipush 24, 2) := by decide +kernel
theorem dX2_begin_15 : decode cX2_begin 15 = .ok (.if_icmp .ge 16, 3) := by decide +kernel
theorem dX2_begin_18 : decode cX2_begin 18 = .ok (.aload_n 0, 1) := by decide +kernel
theorem dX2_begin_19 : decode cX2_begin 19 = .ok (.getfield 26, 3) := by decide +kernel
theorem dX2_begin_22 : decode cX2_begin 22 = .ok (.iload_n 1, 1) := by decide +kernel
theorem dX2_begin_23 : decode cX2_begin 23 = .ok (.iconst 0, 1) := by decide +kernel
theorem dX2_begin_24 : decode cX2_begin 24 = .ok (.iastore, 1) := by decide +kernel
theorem dX2_begin_25 : decode cX2_begin 25 = .ok (.iinc 1 1, 3) := by decide +kernel
theorem dX2_begin_28 : decode cX2_begin 28 = .ok (.goto (-16), 3) := by decide +kernel
theorem dX2_begin_31 : decode cX2_begin 31 = .ok (.return_, 1) := by decide +kernel
theorem dX2_addFold_0 : decode cX2_addFold 0 = .ok (.aload_n 0, 1) := by decide +kernel
theorem dX2_addFold_1 : decode cX2_addFold 1 = .ok (.getfield 19, 3) := by decide +kernel
theorem dX2_addFold_4 : decode cX2_addFold 4 = .ok (.bipush 6, 2) := by decide +kernel
theorem dX2_addFold_6 : decode cX2_addFold 6 = .ok (.if_icmp .ge 23, 3) := by decide +kernel
theorem dX2_addFold_9 : decode cX2_addFold 9 = .ok (.aload_n 0, 1) := by decide +kernel
theorem dX2_addFold_10 : decode cX2_addFold 10 = .ok (.getfield 22, 3) := by decide +kernel
theorem dX2_addFold_13 : decode cX2_addFold 13 = .ok (.aload_n 0, 1) := by decide +kernel
theorem dX2_addFold_14 : decode cX2_addFold 14 = .ok (.getfield 19, 3) := by decide +kernel
theorem dX2_addFold_17 : decode cX2_addFold 17 = .ok (.iload_n 1, 1) := by decide +kernel
theorem dX2_addFold_18 : decode cX2_addFold 18 = .ok (.iastore, 1) := by decide +kernel
theorem dX2_addFold_19 : decode cX2_addFold 19 = .ok (.aload_n 0, 1) := by decide +kernel
theorem dX2_addFold_20 : decode cX2_addFold 20 = .ok (.dup, 1) := by decide +kernel
theorem dX2_addFold_21 : decode cX2_addFold 21 = .ok (.getfield 19, 3) := by decide +kernel
theorem dX2_addFold_24 : decode cX2_addFold 24 = .ok (.iconst 1, 1) := by decide +kernel
theorem dX2_addFold_25 : decode cX2_addFold 25 = .ok (.iadd, 1) := by decide +kernel
theorem dX2_addFold_26 : decode cX2_addFold 26 = .ok (.putfield 19, 3) := by decide +kernel
theorem dX2_addFold_29 : decode cX2_addFold 29 = .ok (.return_, 1) := by decide +kernel
theorem dX2_nextDay_0 : decode cX2_nextDay 0 = .ok (.aload_n 0, 1) := by decide +kernel
theorem dX2_nextDay_1 : decode cX2_nextDay 1 = .ok (.dup, 1) := by decide +kernel
theorem dX2_nextDay_2 : decode cX2_nextDay 2 = .ok (.getfield 15, 3) := by decide +kernel
theorem dX2_nextDay_5 : decode cX2_nextDay 5 = .ok (.iconst 1, 1) := by decide +kernel
theorem dX2_nextDay_6 : decode cX2_nextDay 6 = .ok (.iadd, 1) := by decide +kernel
theorem dX2_nextDay_7 : decode cX2_nextDay 7 = .ok (.putfield 15, 3) := by decide +kernel
theorem dX2_nextDay_10 : decode cX2_nextDay 10 = .ok (.aload_n 0, 1) := by decide +kernel
theorem dX2_nextDay_11 : decode cX2_nextDay 11 = .ok (.iconst 0, 1) := by decide +kernel
theorem dX2_nextDay_12 : decode cX2_nextDay 12 = .ok (.putfield 19, 3) := by decide +kernel
theorem dX2_nextDay_15 : decode cX2_nextDay 15 = .ok (.aload_n 1, 1) := by decide +kernel
theorem dX2_nextDay_16 : decode cX2_nextDay 16 = .ok (.getfield 29, 3) := by decide +kernel
theorem dX2_nextDay_19 : decode cX2_nextDay 19 = .ok (.iconst 0, 1) := by decide +kernel
theorem dX2_nextDay_20 : decode cX2_nextDay 20 = .ok (.aload_n 0, 1) := by decide +kernel
theorem dX2_nextDay_21 : decode cX2_nextDay 21 = .ok (.getfield 26, 3) := by decide +kernel
theorem dX2_nextDay_24 : decode cX2_nextDay 24 = .ok (.iconst 0, 1) := by decide +kernel
theorem dX2_nextDay_25 : decode cX2_nextDay 25 = .ok (.bipush 24, 2) := by decide +kernel
theorem dX2_nextDay_27 : decode cX2_nextDay 27 = .ok (.invokestatic 34, 3) := by decide +kernel
theorem dX2_nextDay_30 : decode cX2_nextDay 30 = .ok (.return_, 1) := by decide +kernel
theorem dX2_copyFrom_0 : decode cX2_copyFrom 0 = .ok (.aload_n 0, 1) := by decide +kernel
theorem dX2_copyFrom_1 : decode cX2_copyFrom 1 = .ok (.aload_n 1, 1) := by decide +kernel
theorem dX2_copyFrom_2 : decode cX2_copyFrom 2 = .ok (.getfield 15, 3) := by decide +kernel
theorem dX2_copyFrom_5 : decode cX2_copyFrom 5 = .ok (.putfield 15, 3) := by decide +kernel
theorem dX2_copyFrom_8 : decode cX2_copyFrom 8 = .ok (.aload_n 0, 1) := by decide +kernel
theorem dX2_copyFrom_9 : decode cX2_copyFrom 9 = .ok (.aload_n 1, 1) := by decide +kernel
theorem dX2_copyFrom_10 : decode cX2_copyFrom 10 = .ok (.getfield 19, 3) := by decide +kernel
theorem dX2_copyFrom_13 : decode cX2_copyFrom 13 = .ok (.putfield 19, 3) := by decide +kernel
theorem dX2_copyFrom_16 : decode cX2_copyFrom 16 = .ok (.aload_n 1, 1) := by decide +kernel
theorem dX2_copyFrom_17 : decode cX2_copyFrom 17 = .ok (.getfield 22, 3) := by decide +kernel
theorem dX2_copyFrom_20 : decode cX2_copyFrom 20 = .ok (.iconst 0, 1) := by decide +kernel
theorem dX2_copyFrom_21 : decode cX2_copyFrom 21 = .ok (.aload_n 0, 1) := by decide +kernel
theorem dX2_copyFrom_22 : decode cX2_copyFrom 22 = .ok (.getfield 22, 3) := by decide +kernel
theorem dX2_copyFrom_25 : decode cX2_copyFrom 25 = .ok (.iconst 0, 1) := by decide +kernel
theorem dX2_copyFrom_26 : decode cX2_copyFrom 26 = .ok (.bipush 6, 2) := by decide +kernel
theorem dX2_copyFrom_28 : decode cX2_copyFrom 28 = .ok (.invokestatic 34, 3) := by decide +kernel
theorem dX2_copyFrom_31 : decode cX2_copyFrom 31 = .ok (.aload_n 1, 1) := by decide +kernel
theorem dX2_copyFrom_32 : decode cX2_copyFrom 32 = .ok (.getfield 26, 3) := by decide +kernel
theorem dX2_copyFrom_35 : decode cX2_copyFrom 35 = .ok (.iconst 0, 1) := by decide +kernel
theorem dX2_copyFrom_36 : decode cX2_copyFrom 36 = .ok (.aload_n 0, 1) := by decide +kernel
theorem dX2_copyFrom_37 : decode cX2_copyFrom 37 = .ok (.getfield 26, 3) := by decide +kernel
theorem dX2_copyFrom_40 : decode cX2_copyFrom 40 = .ok (.iconst 0, 1) := by decide +kernel
theorem dX2_copyFrom_41 : decode cX2_copyFrom 41 = .ok (.bipush 24, 2) := by decide +kernel
theorem dX2_copyFrom_43 : decode cX2_copyFrom 43 = .ok (.invokestatic 34, 3) := by decide +kernel
theorem dX2_copyFrom_46 : decode cX2_copyFrom 46 = .ok (.return_, 1) := by decide +kernel
theorem dX3_init_0 : decode cX3_init 0 = .ok (.aload_n 0, 1) := by decide +kernel
theorem dX3_init_1 : decode cX3_init 1 = .ok (.invokespecial 3, 3) := by decide +kernel
theorem dX3_init_4 : decode cX3_init 4 = .ok (.aload_n 0, 1) := by decide +kernel
theorem dX3_init_5 : decode cX3_init 5 = .ok (.iconst 0, 1) := by decide +kernel
theorem dX3_init_6 : decode cX3_init 6 = .ok (.putfield 9, 3) := by decide +kernel
theorem dX3_init_9 : decode cX3_init 9 = .ok (.aload_n 0, 1) := by decide +kernel
theorem dX3_init_10 : decode cX3_init 10 = .ok (.iconst 0, 1) := by decide +kernel
theorem dX3_init_11 : decode cX3_init 11 = .ok (.putfield 15, 3) := by decide +kernel
theorem dX3_init_14 : decode cX3_init 14 = .ok (.aload_n 0, 1) := by decide +kernel
theorem dX3_init_15 : decode cX3_init 15 = .ok (.iconst 0, 1) := by decide +kernel
theorem dX3_init_16 : decode cX3_init 16 = .ok (.putfield 18, 3) := by decide +kernel
theorem dX3_init_19 : decode cX3_init 19 = .ok (.aload_n 0, 1) := by decide +kernel
theorem dX3_init_20 : decode cX3_init 20 = .ok (.bipush 16, 2) := by decide +kernel
theorem dX3_init_22 : decode cX3_init 22 = .ok (.newarray .int, 2) := by decide +kernel
theorem dX3_init_24 : decode cX3_init 24 = .ok (.putfield 21, 3) := by decide +kernel
theorem dX3_init_27 : decode cX3_init 27 = .ok (.aload_n 0, 1) := by decide +kernel
theorem dX3_init_28 : decode cX3_init 28 = .ok (.bipush 16, 2) := by decide +kernel
theorem dX3_init_30 : decode cX3_init 30 = .ok (.newarray .int, 2) := by decide +kernel
theorem dX3_init_32 : decode cX3_init 32 = .ok (.putfield 25, 3) := by decide +kernel
theorem dX3_init_35 : decode cX3_init 35 = .ok (.aload_n 0, 1) := by decide +kernel
theorem dX3_init_36 : decode cX3_init 36 = .ok (.bipush 16, 2) := by decide +kernel
theorem dX3_init_38 : decode cX3_init 38 = .ok (.newarray .int, 2) := by decide +kernel
theorem dX3_init_40 : decode cX3_init 40 = .ok (.putfield 28, 3) := by decide +kernel
theorem dX3_init_43 : decode cX3_init 43 = .ok (.aload_n 0, 1) := by decide +kernel
theorem dX3_init_44 : decode cX3_init 44 = .ok (.bipush 16, 2) := by decide +kernel
theorem dX3_init_46 : decode cX3_init 46 = .ok (.newarray .int, 2) := by decide +kernel
theorem dX3_init_48 : decode cX3_init 48 = .ok (.putfield 31, 3) := by decide +kernel
theorem dX3_init_51 : decode cX3_init 51 = .ok (.aload_n 0, 1) := by decide +kernel
theorem dX3_init_52 : decode cX3_init 52 = .ok (.bipush 16, 2) := by decide +kernel
theorem dX3_init_54 : decode cX3_init 54 = .ok (.newarray .int, 2) := by decide +kernel
theorem dX3_init_56 : decode cX3_init 56 = .ok (.putfield 34, 3) := by decide +kernel
theorem dX3_init_59 : decode cX3_init 59 = .ok (.return_, 1) := by decide +kernel
theorem dX3_axisOf_0 : decode cX3_axisOf 0 = .ok (.iload_n 0, 1) := by decide +kernel
theorem dX3_axisOf_1 : decode cX3_axisOf 1 = .ok (.iconst 1, 1) := by decide +kernel
theorem dX3_axisOf_2 : decode cX3_axisOf 2 = .ok (.iand, 1) := by decide +kernel
theorem dX3_axisOf_3 : decode cX3_axisOf 3 = .ok (.ireturn, 1) := by decide +kernel
theorem dX3_partOf_0 : decode cX3_partOf 0 = .ok (.iload_n 0, 1) := by decide +kernel
theorem dX3_partOf_1 : decode cX3_partOf 1 = .ok (.iconst 1, 1) := by decide +kernel
theorem dX3_partOf_2 : decode cX3_partOf 2 = .ok (.ishr, 1) := by decide +kernel
theorem dX3_partOf_3 : decode cX3_partOf 3 = .ok (.iconst 1, 1) := by decide +kernel
theorem dX3_partOf_4 : decode cX3_partOf 4 = .ok (.iand, 1) := by decide +kernel
theorem dX3_partOf_5 : decode cX3_partOf 5 = .ok (.ireturn, 1) := by decide +kernel
theorem dX3_overOf_0 : decode cX3_overOf 0 = .ok (.iload_n 0, 1) := by decide +kernel
theorem dX3_overOf_1 : decode cX3_overOf 1 = .ok (.iconst 2, 1) := by decide +kernel
theorem dX3_overOf_2 : decode cX3_overOf 2 = .ok (.ishr, 1) := by decide +kernel
theorem dX3_overOf_3 : decode cX3_overOf 3 = .ok (.iconst 1, 1) := by decide +kernel
theorem dX3_overOf_4 : decode cX3_overOf 4 = .ok (.iand, 1) := by decide +kernel
theorem dX3_overOf_5 : decode cX3_overOf 5 = .ok (.ireturn, 1) := by decide +kernel
theorem dX3_lineOf_0 : decode cX3_lineOf 0 = .ok (.iload_n 0, 1) := by decide +kernel
theorem dX3_lineOf_1 : decode cX3_lineOf 1 = .ok (.iconst 3, 1) := by decide +kernel
theorem dX3_lineOf_2 : decode cX3_lineOf 2 = .ok (.ishr, 1) := by decide +kernel
theorem dX3_lineOf_3 : decode cX3_lineOf 3 = .ok (.iconst 1, 1) := by decide +kernel
theorem dX3_lineOf_4 : decode cX3_lineOf 4 = .ok (.iadd, 1) := by decide +kernel
theorem dX3_lineOf_5 : decode cX3_lineOf 5 = .ok (.ireturn, 1) := by decide +kernel
theorem dX3_layFlat_0 : decode cX3_layFlat 0 = .ok (.aload_n 0, 1) := by decide +kernel
theorem dX3_layFlat_1 : decode cX3_layFlat 1 = .ok (.iload_n 1, 1) := by decide +kernel
theorem dX3_layFlat_2 : decode cX3_layFlat 2 = .ok (.iconst 4, 1) := by decide +kernel
theorem dX3_layFlat_3 : decode cX3_layFlat 3 = .ok (.invokestatic 37, 3) := by decide +kernel
theorem dX3_layFlat_6 : decode cX3_layFlat 6 = .ok (.putfield 15, 3) := by decide +kernel
theorem dX3_layFlat_9 : decode cX3_layFlat 9 = .ok (.aload_n 0, 1) := by decide +kernel
theorem dX3_layFlat_10 : decode cX3_layFlat 10 = .ok (.iload_n 2, 1) := by decide +kernel
theorem dX3_layFlat_11 : decode cX3_layFlat 11 = .ok (.iconst 4, 1) := by decide +kernel
theorem dX3_layFlat_12 : decode cX3_layFlat 12 = .ok (.invokestatic 37, 3) := by decide +kernel
theorem dX3_layFlat_15 : decode cX3_layFlat 15 = .ok (.putfield 18, 3) := by decide +kernel
theorem dX3_layFlat_18 : decode cX3_layFlat 18 = .ok (.aload_n 0, 1) := by decide +kernel
theorem dX3_layFlat_19 : decode cX3_layFlat 19 = .ok (.iconst 0, 1) := by decide +kernel
theorem dX3_layFlat_20 : decode cX3_layFlat 20 = .ok (.putfield 9, 3) := by decide +kernel
theorem dX3_layFlat_23 : decode cX3_layFlat 23 = .ok (.iconst 0, 1) := by decide +kernel
theorem dX3_layFlat_24 : decode cX3_layFlat 24 = .ok (.istore_n 3, 1) := by decide +kernel
theorem dX3_layFlat_25 : decode cX3_layFlat 25 = .ok (.iload_n 3, 1) := by decide +kernel
theorem dX3_layFlat_26 : decode cX3_layFlat 26 = .ok (.aload_n 0, 1) := by decide +kernel
theorem dX3_layFlat_27 : decode cX3_layFlat 27 = .ok (.getfield 18, 3) := by decide +kernel
theorem dX3_layFlat_30 : decode cX3_layFlat 30 = .ok (.if_icmp .ge 78, 3) := by decide +kernel
theorem dX3_layFlat_33 : decode cX3_layFlat 33 = .ok (.iconst 0, 1) := by decide +kernel
theorem dX3_layFlat_34 : decode cX3_layFlat 34 = .ok (.istore 4, 2) := by decide +kernel
theorem dX3_layFlat_36 : decode cX3_layFlat 36 = .ok (.iload 4, 2) := by decide +kernel
theorem dX3_layFlat_38 : decode cX3_layFlat 38 = .ok (.aload_n 0, 1) := by decide +kernel
theorem dX3_layFlat_39 : decode cX3_layFlat 39 = .ok (.getfield 15, 3) := by decide +kernel
theorem dX3_layFlat_42 : decode cX3_layFlat 42 = .ok (.if_icmp .ge 60, 3) := by decide +kernel
theorem dX3_layFlat_45 : decode cX3_layFlat 45 = .ok (.aload_n 0, 1) := by decide +kernel
theorem dX3_layFlat_46 : decode cX3_layFlat 46 = .ok (.getfield 21, 3) := by decide +kernel
theorem dX3_layFlat_49 : decode cX3_layFlat 49 = .ok (.aload_n 0, 1) := by decide +kernel
theorem dX3_layFlat_50 : decode cX3_layFlat 50 = .ok (.getfield 9, 3) := by decide +kernel
theorem dX3_layFlat_53 : decode cX3_layFlat 53 = .ok (.iload 4, 2) := by decide +kernel
theorem dX3_layFlat_55 : decode cX3_layFlat 55 = .ok (.iastore, 1) := by decide +kernel
theorem dX3_layFlat_56 : decode cX3_layFlat 56 = .ok (.aload_n 0, 1) := by decide +kernel
theorem dX3_layFlat_57 : decode cX3_layFlat 57 = .ok (.getfield 25, 3) := by decide +kernel
theorem dX3_layFlat_60 : decode cX3_layFlat 60 = .ok (.aload_n 0, 1) := by decide +kernel
theorem dX3_layFlat_61 : decode cX3_layFlat 61 = .ok (.getfield 9, 3) := by decide +kernel
theorem dX3_layFlat_64 : decode cX3_layFlat 64 = .ok (.iload_n 3, 1) := by decide +kernel
theorem dX3_layFlat_65 : decode cX3_layFlat 65 = .ok (.iastore, 1) := by decide +kernel
theorem dX3_layFlat_66 : decode cX3_layFlat 66 = .ok (.aload_n 0, 1) := by decide +kernel
theorem dX3_layFlat_67 : decode cX3_layFlat 67 = .ok (.getfield 28, 3) := by decide +kernel
theorem dX3_layFlat_70 : decode cX3_layFlat 70 = .ok (.aload_n 0, 1) := by decide +kernel
theorem dX3_layFlat_71 : decode cX3_layFlat 71 = .ok (.getfield 9, 3) := by decide +kernel
theorem dX3_layFlat_74 : decode cX3_layFlat 74 = .ok (.iconst 0, 1) := by decide +kernel
theorem dX3_layFlat_75 : decode cX3_layFlat 75 = .ok (.iastore, 1) := by decide +kernel
theorem dX3_layFlat_76 : decode cX3_layFlat 76 = .ok (.aload_n 0, 1) := by decide +kernel
theorem dX3_layFlat_77 : decode cX3_layFlat 77 = .ok (.getfield 31, 3) := by decide +kernel
theorem dX3_layFlat_80 : decode cX3_layFlat 80 = .ok (.aload_n 0, 1) := by decide +kernel
theorem dX3_layFlat_81 : decode cX3_layFlat 81 = .ok (.getfield 9, 3) := by decide +kernel
theorem dX3_layFlat_84 : decode cX3_layFlat 84 = .ok (.iconst 1, 1) := by decide +kernel
theorem dX3_layFlat_85 : decode cX3_layFlat 85 = .ok (.iastore, 1) := by decide +kernel
theorem dX3_layFlat_86 : decode cX3_layFlat 86 = .ok (.aload_n 0, 1) := by decide +kernel
theorem dX3_layFlat_87 : decode cX3_layFlat 87 = .ok (.dup, 1) := by decide +kernel
theorem dX3_layFlat_88 : decode cX3_layFlat 88 = .ok (.getfield 9, 3) := by decide +kernel
theorem dX3_layFlat_91 : decode cX3_layFlat 91 = .ok (.iconst 1, 1) := by decide +kernel
theorem dX3_layFlat_92 : decode cX3_layFlat 92 = .ok (.iadd, 1) := by decide +kernel
theorem dX3_layFlat_93 : decode cX3_layFlat 93 = .ok (.putfield 9, 3) := by decide +kernel
theorem dX3_layFlat_96 : decode cX3_layFlat 96 = .ok (.iinc 4 1, 3) := by decide +kernel
theorem dX3_layFlat_99 : decode cX3_layFlat 99 = .ok (.goto (-63), 3) := by decide +kernel
theorem dX3_layFlat_102 : decode cX3_layFlat 102 = .ok (.iinc 3 1, 3) := by decide +kernel
theorem dX3_layFlat_105 : decode cX3_layFlat 105 = .ok (.goto (-80), 3) := by decide +kernel
theorem dX3_layFlat_108 : decode cX3_layFlat 108 = .ok (.return_, 1) := by decide +kernel
theorem dX3_copyFrom_0 : decode cX3_copyFrom 0 = .ok (.aload_n 0, 1) := by decide +kernel
theorem dX3_copyFrom_1 : decode cX3_copyFrom 1 = .ok (.aload_n 1, 1) := by decide +kernel
theorem dX3_copyFrom_2 : decode cX3_copyFrom 2 = .ok (.getfield 9, 3) := by decide +kernel
theorem dX3_copyFrom_5 : decode cX3_copyFrom 5 = .ok (.putfield 9, 3) := by decide +kernel
theorem dX3_copyFrom_8 : decode cX3_copyFrom 8 = .ok (.aload_n 0, 1) := by decide +kernel
theorem dX3_copyFrom_9 : decode cX3_copyFrom 9 = .ok (.aload_n 1, 1) := by decide +kernel
theorem dX3_copyFrom_10 : decode cX3_copyFrom 10 = .ok (.getfield 15, 3) := by decide +kernel
theorem dX3_copyFrom_13 : decode cX3_copyFrom 13 = .ok (.putfield 15, 3) := by decide +kernel
theorem dX3_copyFrom_16 : decode cX3_copyFrom 16 = .ok (.aload_n 0, 1) := by decide +kernel
theorem dX3_copyFrom_17 : decode cX3_copyFrom 17 = .ok (.aload_n 1, 1) := by decide +kernel
theorem dX3_copyFrom_18 : decode cX3_copyFrom 18 = .ok (.getfield 18, 3) := by decide +kernel
theorem dX3_copyFrom_21 : decode cX3_copyFrom 21 = .ok (.putfield 18, 3) := by decide +kernel
theorem dX3_copyFrom_24 : decode cX3_copyFrom 24 = .ok (.aload_n 1, 1) := by decide +kernel
theorem dX3_copyFrom_25 : decode cX3_copyFrom 25 = .ok (.getfield 21, 3) := by decide +kernel
theorem dX3_copyFrom_28 : decode cX3_copyFrom 28 = .ok (.iconst 0, 1) := by decide +kernel
theorem dX3_copyFrom_29 : decode cX3_copyFrom 29 = .ok (.aload_n 0, 1) := by decide +kernel
theorem dX3_copyFrom_30 : decode cX3_copyFrom 30 = .ok (.getfield 21, 3) := by decide +kernel
theorem dX3_copyFrom_33 : decode cX3_copyFrom 33 = .ok (.iconst 0, 1) := by decide +kernel
theorem dX3_copyFrom_34 : decode cX3_copyFrom 34 = .ok (.aload_n 0, 1) := by decide +kernel
theorem dX3_copyFrom_35 : decode cX3_copyFrom 35 = .ok (.getfield 9, 3) := by decide +kernel
theorem dX3_copyFrom_38 : decode cX3_copyFrom 38 = .ok (.invokestatic 43, 3) := by decide +kernel
theorem dX3_copyFrom_41 : decode cX3_copyFrom 41 = .ok (.aload_n 1, 1) := by decide +kernel
theorem dX3_copyFrom_42 : decode cX3_copyFrom 42 = .ok (.getfield 25, 3) := by decide +kernel
theorem dX3_copyFrom_45 : decode cX3_copyFrom 45 = .ok (.iconst 0, 1) := by decide +kernel
theorem dX3_copyFrom_46 : decode cX3_copyFrom 46 = .ok (.aload_n 0, 1) := by decide +kernel
theorem dX3_copyFrom_47 : decode cX3_copyFrom 47 = .ok (.getfield 25, 3) := by decide +kernel
theorem dX3_copyFrom_50 : decode cX3_copyFrom 50 = .ok (.iconst 0, 1) := by decide +kernel
theorem dX3_copyFrom_51 : decode cX3_copyFrom 51 = .ok (.aload_n 0, 1) := by decide +kernel
theorem dX3_copyFrom_52 : decode cX3_copyFrom 52 = .ok (.getfield 9, 3) := by decide +kernel
theorem dX3_copyFrom_55 : decode cX3_copyFrom 55 = .ok (.invokestatic 43, 3) := by decide +kernel
theorem dX3_copyFrom_58 : decode cX3_copyFrom 58 = .ok (.aload_n 1, 1) := by decide +kernel
theorem dX3_copyFrom_59 : decode cX3_copyFrom 59 = .ok (.getfield 28, 3) := by decide +kernel
theorem dX3_copyFrom_62 : decode cX3_copyFrom 62 = .ok (.iconst 0, 1) := by decide +kernel
theorem dX3_copyFrom_63 : decode cX3_copyFrom 63 = .ok (.aload_n 0, 1) := by decide +kernel
theorem dX3_copyFrom_64 : decode cX3_copyFrom 64 = .ok (.getfield 28, 3) := by decide +kernel
theorem dX3_copyFrom_67 : decode cX3_copyFrom 67 = .ok (.iconst 0, 1) := by decide +kernel
theorem dX3_copyFrom_68 : decode cX3_copyFrom 68 = .ok (.aload_n 0, 1) := by decide +kernel
theorem dX3_copyFrom_69 : decode cX3_copyFrom 69 = .ok (.getfield 9, 3) := by decide +kernel
theorem dX3_copyFrom_72 : decode cX3_copyFrom 72 = .ok (.invokestatic 43, 3) := by decide +kernel
theorem dX3_copyFrom_75 : decode cX3_copyFrom 75 = .ok (.aload_n 1, 1) := by decide +kernel
theorem dX3_copyFrom_76 : decode cX3_copyFrom 76 = .ok (.getfield 31, 3) := by decide +kernel
theorem dX3_copyFrom_79 : decode cX3_copyFrom 79 = .ok (.iconst 0, 1) := by decide +kernel
theorem dX3_copyFrom_80 : decode cX3_copyFrom 80 = .ok (.aload_n 0, 1) := by decide +kernel
theorem dX3_copyFrom_81 : decode cX3_copyFrom 81 = .ok (.getfield 31, 3) := by decide +kernel
theorem dX3_copyFrom_84 : decode cX3_copyFrom 84 = .ok (.iconst 0, 1) := by decide +kernel
theorem dX3_copyFrom_85 : decode cX3_copyFrom 85 = .ok (.aload_n 0, 1) := by decide +kernel
theorem dX3_copyFrom_86 : decode cX3_copyFrom 86 = .ok (.getfield 9, 3) := by decide +kernel
theorem dX3_copyFrom_89 : decode cX3_copyFrom 89 = .ok (.invokestatic 43, 3) := by decide +kernel
theorem dX3_copyFrom_92 : decode cX3_copyFrom 92 = .ok (.return_, 1) := by decide +kernel
theorem dX3_canBend_0 : decode cX3_canBend 0 = .ok (.iload_n 1, 1) := by decide +kernel
theorem dX3_canBend_1 : decode cX3_canBend 1 = .ok (.invokestatic 49, 3) := by decide +kernel
theorem dX3_canBend_4 : decode cX3_canBend 4 = .ok (.ifCond .ne 10, 3) := by decide +kernel
theorem dX3_canBend_7 : decode cX3_canBend 7 = .ok (.aload_n 0, 1) := by decide +kernel
theorem dX3_canBend_8 : decode cX3_canBend 8 = .ok (.getfield 15, 3) := by decide +kernel
theorem dX3_canBend_11 : decode cX3_canBend 11 = .ok (.goto 7, 3) := by decide +kernel
theorem dX3_canBend_14 : decode cX3_canBend 14 = .ok (.aload_n 0, 1) := by decide +kernel
theorem dX3_canBend_15 : decode cX3_canBend 15 = .ok (.getfield 18, 3) := by decide +kernel
theorem dX3_canBend_18 : decode cX3_canBend 18 = .ok (.istore_n 2, 1) := by decide +kernel
theorem dX3_canBend_19 : decode cX3_canBend 19 = .ok (.iload_n 1, 1) := by decide +kernel
theorem dX3_canBend_20 : decode cX3_canBend 20 = .ok (.ifCond .lt 15, 3) := by decide +kernel
theorem dX3_canBend_23 : decode cX3_canBend 23 = .ok (.iload_n 1, 1) := by decide +kernel
theorem dX3_canBend_24 : decode cX3_canBend 24 = .ok (.invokestatic 53, 3) := by decide +kernel
theorem dX3_canBend_27 : decode cX3_canBend 27 = .ok (.iload_n 2, 1) := by decide +kernel
theorem dX3_canBend_28 : decode cX3_canBend 28 = .ok (.if_icmp .ge 7, 3) := by decide +kernel
theorem dX3_canBend_31 : decode cX3_canBend 31 = .ok (.iconst 1, 1) := by decide +kernel
theorem dX3_canBend_32 : decode cX3_canBend 32 = .ok (.goto 4, 3) := by decide +kernel
theorem dX3_canBend_35 : decode cX3_canBend 35 = .ok (.iconst 0, 1) := by decide +kernel
theorem dX3_canBend_36 : decode cX3_canBend 36 = .ok (.ireturn, 1) := by decide +kernel
theorem dX3_bend_0 : decode cX3_bend 0 = .ok (.aload_n 0, 1) := by decide +kernel
theorem dX3_bend_1 : decode cX3_bend 1 = .ok (.invokevirtual 56, 3) := by decide +kernel
theorem dX3_bend_4 : decode cX3_bend 4 = .ok (.iload_n 1, 1) := by decide +kernel
theorem dX3_bend_5 : decode cX3_bend 5 = .ok (.invokestatic 49, 3) := by decide +kernel
theorem dX3_bend_8 : decode cX3_bend 8 = .ok (.istore_n 2, 1) := by decide +kernel
theorem dX3_bend_9 : decode cX3_bend 9 = .ok (.iload_n 1, 1) := by decide +kernel
theorem dX3_bend_10 : decode cX3_bend 10 = .ok (.invokestatic 53, 3) := by decide +kernel
theorem dX3_bend_13 : decode cX3_bend 13 = .ok (.istore_n 3, 1) := by decide +kernel
theorem dX3_bend_14 : decode cX3_bend 14 = .ok (.iload_n 1, 1) := by decide +kernel
theorem dX3_bend_15 : decode cX3_bend 15 = .ok (.invokestatic 59, 3) := by decide +kernel
theorem dX3_bend_18 : decode cX3_bend 18 = .ok (.iconst 1, 1) := by decide +kernel
theorem dX3_bend_19 : decode cX3_bend 19 = .ok (.if_icmp .ne 7, 3) := by decide +kernel
theorem dX3_bend_22 : decode cX3_bend 22 = .ok (.iconst 1, 1) := by decide +kernel
theorem dX3_bend_23 : decode cX3_bend 23 = .ok (.goto 4, 3) := by decide +kernel
theorem dX3_bend_26 : decode cX3_bend 26 = .ok (.iconst 0, 1) := by decide +kernel
theorem dX3_bend_27 : decode cX3_bend 27 = .ok (.istore 4, 2) := by decide +kernel
theorem dX3_bend_29 : decode cX3_bend 29 = .ok (.iload_n 2, 1) := by decide +kernel
theorem dX3_bend_30 : decode cX3_bend 30 = .ok (.ifCond .ne 10, 3) := by decide +kernel
theorem dX3_bend_33 : decode cX3_bend 33 = .ok (.aload_n 0, 1) := by decide +kernel
theorem dX3_bend_34 : decode cX3_bend 34 = .ok (.getfield 21, 3) := by decide +kernel
theorem dX3_bend_37 : decode cX3_bend 37 = .ok (.goto 7, 3) := by decide +kernel
theorem dX3_bend_40 : decode cX3_bend 40 = .ok (.aload_n 0, 1) := by decide +kernel
theorem dX3_bend_41 : decode cX3_bend 41 = .ok (.getfield 25, 3) := by decide +kernel
theorem dX3_bend_44 : decode cX3_bend 44 = .ok (.astore 5, 2) := by decide +kernel
theorem dX3_bend_46 : decode cX3_bend 46 = .ok (.aload_n 0, 1) := by decide +kernel
theorem dX3_bend_47 : decode cX3_bend 47 = .ok (.iload_n 1, 1) := by decide +kernel
theorem dX3_bend_48 : decode cX3_bend 48 = .ok (.invokevirtual 62, 3) := by decide +kernel
theorem dX3_bend_51 : decode cX3_bend 51 = .ok (.istore 6, 2) := by decide +kernel
theorem dX3_bend_53 : decode cX3_bend 53 = .ok (.iconst 0, 1) := by decide +kernel
theorem dX3_bend_54 : decode cX3_bend 54 = .ok (.istore 7, 2) := by decide +kernel
theorem dX3_bend_56 : decode cX3_bend 56 = .ok (.iload 7, 2) := by decide +kernel
theorem dX3_bend_58 : decode cX3_bend 58 = .ok (.aload_n 0, 1) := by decide +kernel
theorem dX3_bend_59 : decode cX3_bend 59 = .ok (.getfield 9, 3) := by decide +kernel
theorem dX3_bend_62 : decode cX3_bend 62 = .ok (.if_icmp .ge 195, 3) := by decide +kernel
theorem dX3_bend_65 : decode cX3_bend 65 = .ok (.aload 5, 2) := by decide +kernel
theorem dX3_bend_67 : decode cX3_bend 67 = .ok (.iload 7, 2) := by decide +kernel
theorem dX3_bend_69 : decode cX3_bend 69 = .ok (.iaload, 1) := by decide +kernel
theorem dX3_bend_70 : decode cX3_bend 70 = .ok (.istore 8, 2) := by decide +kernel
theorem dX3_bend_72 : decode cX3_bend 72 = .ok (.iconst 2, 1) := by decide +kernel
theorem dX3_bend_73 : decode cX3_bend 73 = .ok (.iload_n 3, 1) := by decide +kernel
theorem dX3_bend_74 : decode cX3_bend 74 = .ok (.imul, 1) := by decide +kernel
theorem dX3_bend_75 : decode cX3_bend 75 = .ok (.iconst 1, 1) := by decide +kernel
theorem dX3_bend_76 : decode cX3_bend 76 = .ok (.isub, 1) := by decide +kernel
theorem dX3_bend_77 : decode cX3_bend 77 = .ok (.iload 8, 2) := by decide +kernel
theorem dX3_bend_79 : decode cX3_bend 79 = .ok (.isub, 1) := by decide +kernel
theorem dX3_bend_80 : decode cX3_bend 80 = .ok (.istore 9, 2) := by decide +kernel
theorem dX3_bend_82 : decode cX3_bend 82 = .ok (.iload_n 2, 1) := by decide +kernel
theorem dX3_bend_83 : decode cX3_bend 83 = .ok (.ifCond .ne 19, 3) := by decide +kernel
theorem dX3_bend_86 : decode cX3_bend 86 = .ok (.aload_n 0, 1) := by decide +kernel
theorem dX3_bend_87 : decode cX3_bend 87 = .ok (.iload 9, 2) := by decide +kernel
theorem dX3_bend_89 : decode cX3_bend 89 = .ok (.aload_n 0, 1) := by decide +kernel
theorem dX3_bend_90 : decode cX3_bend 90 = .ok (.getfield 25, 3) := by decide +kernel
theorem dX3_bend_93 : decode cX3_bend 93 = .ok (.iload 7, 2) := by decide +kernel
theorem dX3_bend_95 : decode cX3_bend 95 = .ok (.iaload, 1) := by decide +kernel
theorem dX3_bend_96 : decode cX3_bend 96 = .ok (.invokevirtual 65, 3) := by decide +kernel
theorem dX3_bend_99 : decode cX3_bend 99 = .ok (.goto 16, 3) := by decide +kernel
theorem dX3_bend_102 : decode cX3_bend 102 = .ok (.aload_n 0, 1) := by decide +kernel
theorem dX3_bend_103 : decode cX3_bend 103 = .ok (.aload_n 0, 1) := by decide +kernel
theorem dX3_bend_104 : decode cX3_bend 104 = .ok (.getfield 21, 3) := by decide +kernel
theorem dX3_bend_107 : decode cX3_bend 107 = .ok (.iload 7, 2) := by decide +kernel
theorem dX3_bend_109 : decode cX3_bend 109 = .ok (.iaload, 1) := by decide +kernel
theorem dX3_bend_110 : decode cX3_bend 110 = .ok (.iload 9, 2) := by decide +kernel
theorem dX3_bend_112 : decode cX3_bend 112 = .ok (.invokevirtual 65, 3) := by decide +kernel
theorem dX3_bend_115 : decode cX3_bend 115 = .ok (.istore 10, 2) := by decide +kernel
theorem dX3_bend_117 : decode cX3_bend 117 = .ok (.iload_n 1, 1) := by decide +kernel
theorem dX3_bend_118 : decode cX3_bend 118 = .ok (.invokestatic 68, 3) := by decide +kernel
theorem dX3_bend_121 : decode cX3_bend 121 = .ok (.ifCond .ne 12, 3) := by decide +kernel
theorem dX3_bend_124 : decode cX3_bend 124 = .ok (.iload 8, 2) := by decide +kernel
theorem dX3_bend_126 : decode cX3_bend 126 = .ok (.iload_n 3, 1) := by decide +kernel
theorem dX3_bend_127 : decode cX3_bend 127 = .ok (.if_icmp .ge 93, 3) := by decide +kernel
theorem dX3_bend_130 : decode cX3_bend 130 = .ok (.goto 9, 3) := by decide +kernel
theorem dX3_bend_133 : decode cX3_bend 133 = .ok (.iload 8, 2) := by decide +kernel
theorem dX3_bend_135 : decode cX3_bend 135 = .ok (.iload_n 3, 1) := by decide +kernel
theorem dX3_bend_136 : decode cX3_bend 136 = .ok (.if_icmp .lt 84, 3) := by decide +kernel
theorem dX3_bend_139 : decode cX3_bend 139 = .ok (.aload_n 0, 1) := by decide +kernel
theorem dX3_bend_140 : decode cX3_bend 140 = .ok (.aload_n 0, 1) := by decide +kernel
theorem dX3_bend_141 : decode cX3_bend 141 = .ok (.getfield 21, 3) := by decide +kernel
theorem dX3_bend_144 : decode cX3_bend 144 = .ok (.iload 7, 2) := by decide +kernel
theorem dX3_bend_146 : decode cX3_bend 146 = .ok (.iaload, 1) := by decide +kernel
theorem dX3_bend_147 : decode cX3_bend 147 = .ok (.aload_n 0, 1) := by decide +kernel
theorem dX3_bend_148 : decode cX3_bend 148 = .ok (.getfield 25, 3) := by decide +kernel
theorem dX3_bend_151 : decode cX3_bend 151 = .ok (.iload 7, 2) := by decide +kernel
theorem dX3_bend_153 : decode cX3_bend 153 = .ok (.iaload, 1) := by decide +kernel
theorem dX3_bend_154 : decode cX3_bend 154 = .ok (.invokevirtual 65, 3) := by decide +kernel
theorem dX3_bend_157 : decode cX3_bend 157 = .ok (.iconst 1, 1) := by decide +kernel
theorem dX3_bend_158 : decode cX3_bend 158 = .ok (.isub, 1) := by decide +kernel
theorem dX3_bend_159 : decode cX3_bend 159 = .ok (.aload_n 0, 1) := by decide +kernel
theorem dX3_bend_160 : decode cX3_bend 160 = .ok (.getfield 28, 3) := by decide +kernel
theorem dX3_bend_163 : decode cX3_bend 163 = .ok (.iload 7, 2) := by decide +kernel
theorem dX3_bend_165 : decode cX3_bend 165 = .ok (.iaload, 1) := by decide +kernel
theorem dX3_bend_166 : decode cX3_bend 166 = .ok (.isub, 1) := by decide +kernel
theorem dX3_bend_167 : decode cX3_bend 167 = .ok (.istore 11, 2) := by decide +kernel
theorem dX3_bend_169 : decode cX3_bend 169 = .ok (.aload_n 0, 1) := by decide +kernel
theorem dX3_bend_170 : decode cX3_bend 170 = .ok (.getfield 28, 3) := by decide +kernel
theorem dX3_bend_173 : decode cX3_bend 173 = .ok (.iload 7, 2) := by decide +kernel
theorem dX3_bend_175 : decode cX3_bend 175 = .ok (.iload 4, 2) := by decide +kernel
theorem dX3_bend_177 : decode cX3_bend 177 = .ok (.ifCond .eq 11, 3) := by decide +kernel
theorem dX3_bend_180 : decode cX3_bend 180 = .ok (.iload 10, 2) := by decide +kernel
theorem dX3_bend_182 : decode cX3_bend 182 = .ok (.iload 11, 2) := by decide +kernel
theorem dX3_bend_184 : decode cX3_bend 184 = .ok (.iadd, 1) := by decide +kernel
theorem dX3_bend_185 : decode cX3_bend 185 = .ok (.goto 5, 3) := by decide +kernel
theorem dX3_bend_188 : decode cX3_bend 188 = .ok (.iload 11, 2) := by decide +kernel
theorem dX3_bend_190 : decode cX3_bend 190 = .ok (.iastore, 1) := by decide +kernel
theorem dX3_bend_191 : decode cX3_bend 191 = .ok (.aload_n 0, 1) := by decide +kernel
theorem dX3_bend_192 : decode cX3_bend 192 = .ok (.getfield 31, 3) := by decide +kernel
theorem dX3_bend_195 : decode cX3_bend 195 = .ok (.iload 7, 2) := by decide +kernel
theorem dX3_bend_197 : decode cX3_bend 197 = .ok (.iconst 1, 1) := by decide +kernel
theorem dX3_bend_198 : decode cX3_bend 198 = .ok (.aload_n 0, 1) := by decide +kernel
theorem dX3_bend_199 : decode cX3_bend 199 = .ok (.getfield 31, 3) := by decide +kernel
theorem dX3_bend_202 : decode cX3_bend 202 = .ok (.iload 7, 2) := by decide +kernel
theorem dX3_bend_204 : decode cX3_bend 204 = .ok (.iaload, 1) := by decide +kernel
theorem dX3_bend_205 : decode cX3_bend 205 = .ok (.isub, 1) := by decide +kernel
theorem dX3_bend_206 : decode cX3_bend 206 = .ok (.iastore, 1) := by decide +kernel
theorem dX3_bend_207 : decode cX3_bend 207 = .ok (.aload 5, 2) := by decide +kernel
theorem dX3_bend_209 : decode cX3_bend 209 = .ok (.iload 7, 2) := by decide +kernel
theorem dX3_bend_211 : decode cX3_bend 211 = .ok (.iload 9, 2) := by decide +kernel
theorem dX3_bend_213 : decode cX3_bend 213 = .ok (.iload 6, 2) := by decide +kernel
theorem dX3_bend_215 : decode cX3_bend 215 = .ok (.iadd, 1) := by decide +kernel
theorem dX3_bend_216 : decode cX3_bend 216 = .ok (.iastore, 1) := by decide +kernel
theorem dX3_bend_217 : decode cX3_bend 217 = .ok (.goto 34, 3) := by decide +kernel
theorem dX3_bend_220 : decode cX3_bend 220 = .ok (.aload_n 0, 1) := by decide +kernel
theorem dX3_bend_221 : decode cX3_bend 221 = .ok (.getfield 28, 3) := by decide +kernel
theorem dX3_bend_224 : decode cX3_bend 224 = .ok (.iload 7, 2) := by decide +kernel
theorem dX3_bend_226 : decode cX3_bend 226 = .ok (.dup2, 1) := by decide +kernel
theorem dX3_bend_227 : decode cX3_bend 227 = .ok (.iaload, 1) := by decide +kernel
theorem dX3_bend_228 : decode cX3_bend 228 = .ok (.iload 4, 2) := by decide +kernel
theorem dX3_bend_230 : decode cX3_bend 230 = .ok (.ifCond .eq 7, 3) := by decide +kernel
theorem dX3_bend_233 : decode cX3_bend 233 = .ok (.iconst 0, 1) := by decide +kernel
theorem dX3_bend_234 : decode cX3_bend 234 = .ok (.goto 5, 3) := by decide +kernel
theorem dX3_bend_237 : decode cX3_bend 237 = .ok (.iload 10, 2) := by decide +kernel
theorem dX3_bend_239 : decode cX3_bend 239 = .ok (.iadd, 1) := by decide +kernel
theorem dX3_bend_240 : decode cX3_bend 240 = .ok (.iastore, 1) := by decide +kernel
theorem dX3_bend_241 : decode cX3_bend 241 = .ok (.aload 5, 2) := by decide +kernel
theorem dX3_bend_243 : decode cX3_bend 243 = .ok (.iload 7, 2) := by decide +kernel
theorem dX3_bend_245 : decode cX3_bend 245 = .ok (.iload 8, 2) := by decide +kernel
theorem dX3_bend_247 : decode cX3_bend 247 = .ok (.iload 6, 2) := by decide +kernel
theorem dX3_bend_249 : decode cX3_bend 249 = .ok (.iadd, 1) := by decide +kernel
theorem dX3_bend_250 : decode cX3_bend 250 = .ok (.iastore, 1) := by decide +kernel
theorem dX3_bend_251 : decode cX3_bend 251 = .ok (.iinc 7 1, 3) := by decide +kernel
theorem dX3_bend_254 : decode cX3_bend 254 = .ok (.goto (-198), 3) := by decide +kernel
theorem dX3_bend_257 : decode cX3_bend 257 = .ok (.aload_n 0, 1) := by decide +kernel
theorem dX3_bend_258 : decode cX3_bend 258 = .ok (.iload_n 2, 1) := by decide +kernel
theorem dX3_bend_259 : decode cX3_bend 259 = .ok (.iload_n 3, 1) := by decide +kernel
theorem dX3_bend_260 : decode cX3_bend 260 = .ok (.invokevirtual 71, 3) := by decide +kernel
theorem dX3_bend_263 : decode cX3_bend 263 = .ok (.return_, 1) := by decide +kernel
theorem dX3_shiftOf_0 : decode cX3_shiftOf 0 = .ok (.iload_n 1, 1) := by decide +kernel
theorem dX3_shiftOf_1 : decode cX3_shiftOf 1 = .ok (.invokestatic 53, 3) := by decide +kernel
theorem dX3_shiftOf_4 : decode cX3_shiftOf 4 = .ok (.istore_n 2, 1) := by decide +kernel
theorem dX3_shiftOf_5 : decode cX3_shiftOf 5 = .ok (.iload_n 1, 1) := by decide +kernel
theorem dX3_shiftOf_6 : decode cX3_shiftOf 6 = .ok (.invokestatic 49, 3) := by decide +kernel
theorem dX3_shiftOf_9 : decode cX3_shiftOf 9 = .ok (.ifCond .ne 10, 3) := by decide +kernel
theorem dX3_shiftOf_12 : decode cX3_shiftOf 12 = .ok (.aload_n 0, 1) := by decide +kernel
theorem dX3_shiftOf_13 : decode cX3_shiftOf 13 = .ok (.getfield 15, 3) := by decide +kernel
theorem dX3_shiftOf_16 : decode cX3_shiftOf 16 = .ok (.goto 7, 3) := by decide +kernel
theorem dX3_shiftOf_19 : decode cX3_shiftOf 19 = .ok (.aload_n 0, 1) := by decide +kernel
theorem dX3_shiftOf_20 : decode cX3_shiftOf 20 = .ok (.getfield 18, 3) := by decide +kernel
theorem dX3_shiftOf_23 : decode cX3_shiftOf 23 = .ok (.istore_n 3, 1) := by decide +kernel
theorem dX3_shiftOf_24 : decode cX3_shiftOf 24 = .ok (.iload_n 1, 1) := by decide +kernel
theorem dX3_shiftOf_25 : decode cX3_shiftOf 25 = .ok (.invokestatic 68, 3) := by decide +kernel
theorem dX3_shiftOf_28 : decode cX3_shiftOf 28 = .ok (.ifCond .ne 8, 3) := by decide +kernel
theorem dX3_shiftOf_31 : decode cX3_shiftOf 31 = .ok (.iload_n 2, 1) := by decide +kernel
theorem dX3_shiftOf_32 : decode cX3_shiftOf 32 = .ok (.ineg, 1) := by decide +kernel
theorem dX3_shiftOf_33 : decode cX3_shiftOf 33 = .ok (.goto 12, 3) := by decide +kernel
theorem dX3_shiftOf_36 : decode cX3_shiftOf 36 = .ok (.iconst 0, 1) := by decide +kernel
theorem dX3_shiftOf_37 : decode cX3_shiftOf 37 = .ok (.iload_n 3, 1) := by decide +kernel
theorem dX3_shiftOf_38 : decode cX3_shiftOf 38 = .ok (.iconst 2, 1) := by decide +kernel
theorem dX3_shiftOf_39 : decode cX3_shiftOf 39 = .ok (.iload_n 2, 1) := by decide +kernel
theorem dX3_shiftOf_40 : decode cX3_shiftOf 40 = .ok (.imul, 1) := by decide +kernel
theorem dX3_shiftOf_41 : decode cX3_shiftOf 41 = .ok (.isub, 1) := by decide +kernel
theorem dX3_shiftOf_42 : decode cX3_shiftOf 42 = .ok (.invokestatic 75, 3) := by decide +kernel
theorem dX3_shiftOf_45 : decode cX3_shiftOf 45 = .ok (.ireturn, 1) := by decide +kernel
theorem dX3_shrink_0 : decode cX3_shrink 0 = .ok (.iload_n 1, 1) := by decide +kernel
theorem dX3_shrink_1 : decode cX3_shrink 1 = .ok (.ifCond .ne 20, 3) := by decide +kernel
theorem dX3_shrink_4 : decode cX3_shrink 4 = .ok (.aload_n 0, 1) := by decide +kernel
theorem dX3_shrink_5 : decode cX3_shrink 5 = .ok (.iload_n 2, 1) := by decide +kernel
theorem dX3_shrink_6 : decode cX3_shrink 6 = .ok (.aload_n 0, 1) := by decide +kernel
theorem dX3_shrink_7 : decode cX3_shrink 7 = .ok (.getfield 15, 3) := by decide +kernel
theorem dX3_shrink_10 : decode cX3_shrink 10 = .ok (.iload_n 2, 1) := by decide +kernel
theorem dX3_shrink_11 : decode cX3_shrink 11 = .ok (.isub, 1) := by decide +kernel
theorem dX3_shrink_12 : decode cX3_shrink 12 = .ok (.invokestatic 75, 3) := by decide +kernel
theorem dX3_shrink_15 : decode cX3_shrink 15 = .ok (.putfield 15, 3) := by decide +kernel
theorem dX3_shrink_18 : decode cX3_shrink 18 = .ok (.goto 17, 3) := by decide +kernel
theorem dX3_shrink_21 : decode cX3_shrink 21 = .ok (.aload_n 0, 1) := by decide +kernel
theorem dX3_shrink_22 : decode cX3_shrink 22 = .ok (.iload_n 2, 1) := by decide +kernel
theorem dX3_shrink_23 : decode cX3_shrink 23 = .ok (.aload_n 0, 1) := by decide +kernel
theorem dX3_shrink_24 : decode cX3_shrink 24 = .ok (.getfield 18, 3) := by decide +kernel
theorem dX3_shrink_27 : decode cX3_shrink 27 = .ok (.iload_n 2, 1) := by decide +kernel
theorem dX3_shrink_28 : decode cX3_shrink 28 = .ok (.isub, 1) := by decide +kernel
theorem dX3_shrink_29 : decode cX3_shrink 29 = .ok (.invokestatic 75, 3) := by decide +kernel
theorem dX3_shrink_32 : decode cX3_shrink 32 = .ok (.putfield 18, 3) := by decide +kernel
theorem dX3_shrink_35 : decode cX3_shrink 35 = .ok (.return_, 1) := by decide +kernel
theorem dX3_countHeights_0 : decode cX3_countHeights 0 = .ok (.iconst 0, 1) := by decide +kernel
theorem dX3_countHeights_1 : decode cX3_countHeights 1 = .ok (.istore_n 1, 1) := by decide +kernel
theorem dX3_countHeights_2 : decode cX3_countHeights 2 = .ok (.iload_n 1, 1) := by decide +kernel
theorem dX3_countHeights_3 : decode cX3_countHeights 3 = .ok (.bipush 16, 2) := by decide +kernel
theorem dX3_countHeights_5 : decode cX3_countHeights 5 = .ok (.if_icmp .ge 16, 3) := by decide +kernel
theorem dX3_countHeights_8 : decode cX3_countHeights 8 = .ok (.aload_n 0, 1) := by decide +kernel
theorem dX3_countHeights_9 : decode cX3_countHeights 9 = .ok (.getfield 34, 3) := by decide +kernel
theorem dX3_countHeights_12 : decode cX3_countHeights 12 = .ok (.iload_n 1, 1) := by decide +kernel
theorem dX3_countHeights_13 : decode cX3_countHeights 13 = .ok (.iconst 0, 1) := by decide +kernel
theorem dX3_countHeights_14 : decode cX3_countHeights 14 = .ok (.iastore, 1) := by decide +kernel
theorem dX3_countHeights_15 : decode cX3_countHeights 15 = .ok (.iinc 1 1, 3) := by decide +kernel
theorem dX3_countHeights_18 : decode cX3_countHeights 18 = .ok (.goto (-16), 3) := by decide +kernel
theorem dX3_countHeights_21 : decode cX3_countHeights 21 = .ok (.iconst 0, 1) := by decide +kernel
theorem dX3_countHeights_22 : decode cX3_countHeights 22 = .ok (.istore_n 1, 1) := by decide +kernel
theorem dX3_countHeights_23 : decode cX3_countHeights 23 = .ok (.iload_n 1, 1) := by decide +kernel
theorem dX3_countHeights_24 : decode cX3_countHeights 24 = .ok (.aload_n 0, 1) := by decide +kernel
theorem dX3_countHeights_25 : decode cX3_countHeights 25 = .ok (.getfield 9, 3) := by decide +kernel
theorem dX3_countHeights_28 : decode cX3_countHeights 28 = .ok (.if_icmp .ge 51, 3) := by decide +kernel
theorem dX3_countHeights_31 : decode cX3_countHeights 31 = .ok (.aload_n 0, 1) := by decide +kernel
theorem dX3_countHeights_32 : decode cX3_countHeights 32 = .ok (.getfield 21, 3) := by decide +kernel
theorem dX3_countHeights_35 : decode cX3_countHeights 35 = .ok (.iload_n 1, 1) := by decide +kernel
theorem dX3_countHeights_36 : decode cX3_countHeights 36 = .ok (.iaload, 1) := by decide +kernel
theorem dX3_countHeights_37 : decode cX3_countHeights 37 = .ok (.aload_n 0, 1) := by decide +kernel
theorem dX3_countHeights_38 : decode cX3_countHeights 38 = .ok (.getfield 25, 3) := by decide +kernel
theorem dX3_countHeights_41 : decode cX3_countHeights 41 = .ok (.iload_n 1, 1) := by decide +kernel
theorem dX3_countHeights_42 : decode cX3_countHeights 42 = .ok (.iaload, 1) := by decide +kernel
theorem dX3_countHeights_43 : decode cX3_countHeights 43 = .ok (.invokestatic 78, 3) := by decide +kernel
theorem dX3_countHeights_46 : decode cX3_countHeights 46 = .ok (.ifCond .eq 27, 3) := by decide +kernel
theorem dX3_countHeights_49 : decode cX3_countHeights 49 = .ok (.aload_n 0, 1) := by decide +kernel
theorem dX3_countHeights_50 : decode cX3_countHeights 50 = .ok (.getfield 34, 3) := by decide +kernel
theorem dX3_countHeights_53 : decode cX3_countHeights 53 = .ok (.iconst 4, 1) := by decide +kernel
theorem dX3_countHeights_54 : decode cX3_countHeights 54 = .ok (.aload_n 0, 1) := by decide +kernel
theorem dX3_countHeights_55 : decode cX3_countHeights 55 = .ok (.getfield 25, 3) := by decide +kernel
theorem dX3_countHeights_58 : decode cX3_countHeights 58 = .ok (.iload_n 1, 1) := by decide +kernel
theorem dX3_countHeights_59 : decode cX3_countHeights 59 = .ok (.iaload, 1) := by decide +kernel
theorem dX3_countHeights_60 : decode cX3_countHeights 60 = .ok (.imul, 1) := by decide +kernel
theorem dX3_countHeights_61 : decode cX3_countHeights 61 = .ok (.aload_n 0, 1) := by decide +kernel
theorem dX3_countHeights_62 : decode cX3_countHeights 62 = .ok (.getfield 21, 3) := by decide +kernel
theorem dX3_countHeights_65 : decode cX3_countHeights 65 = .ok (.iload_n 1, 1) := by decide +kernel
theorem dX3_countHeights_66 : decode cX3_countHeights 66 = .ok (.iaload, 1) := by decide +kernel
theorem dX3_countHeights_67 : decode cX3_countHeights 67 = .ok (.iadd, 1) := by decide +kernel
theorem dX3_countHeights_68 : decode cX3_countHeights 68 = .ok (.dup2, 1) := by decide +kernel
theorem dX3_countHeights_69 : decode cX3_countHeights 69 = .ok (.iaload, 1) := by decide +kernel
theorem dX3_countHeights_70 : decode cX3_countHeights 70 = .ok (.iconst 1, 1) := by decide +kernel
theorem dX3_countHeights_71 : decode cX3_countHeights 71 = .ok (.iadd, 1) := by decide +kernel
theorem dX3_countHeights_72 : decode cX3_countHeights 72 = .ok (.iastore, 1) := by decide +kernel
theorem dX3_countHeights_73 : decode cX3_countHeights 73 = .ok (.iinc 1 1, 3) := by decide +kernel
theorem dX3_countHeights_76 : decode cX3_countHeights 76 = .ok (.goto (-53), 3) := by decide +kernel
theorem dX3_countHeights_79 : decode cX3_countHeights 79 = .ok (.return_, 1) := by decide +kernel
theorem dX3_heightAt_0 : decode cX3_heightAt 0 = .ok (.iload_n 1, 1) := by decide +kernel
theorem dX3_heightAt_1 : decode cX3_heightAt 1 = .ok (.iload_n 2, 1) := by decide +kernel
theorem dX3_heightAt_2 : decode cX3_heightAt 2 = .ok (.invokestatic 78, 3) := by decide +kernel
theorem dX3_heightAt_5 : decode cX3_heightAt 5 = .ok (.ifCond .eq 16, 3) := by decide +kernel
theorem dX3_heightAt_8 : decode cX3_heightAt 8 = .ok (.aload_n 0, 1) := by decide +kernel
theorem dX3_heightAt_9 : decode cX3_heightAt 9 = .ok (.getfield 34, 3) := by decide +kernel
theorem dX3_heightAt_12 : decode cX3_heightAt 12 = .ok (.iconst 4, 1) := by decide +kernel
theorem dX3_heightAt_13 : decode cX3_heightAt 13 = .ok (.iload_n 2, 1) := by decide +kernel
theorem dX3_heightAt_14 : decode cX3_heightAt 14 = .ok (.imul, 1) := by decide +kernel
theorem dX3_heightAt_15 : decode cX3_heightAt 15 = .ok (.iload_n 1, 1) := by decide +kernel
theorem dX3_heightAt_16 : decode cX3_heightAt 16 = .ok (.iadd, 1) := by decide +kernel
theorem dX3_heightAt_17 : decode cX3_heightAt 17 = .ok (.iaload, 1) := by decide +kernel
theorem dX3_heightAt_18 : decode cX3_heightAt 18 = .ok (.goto 4, 3) := by decide +kernel
theorem dX3_heightAt_21 : decode cX3_heightAt 21 = .ok (.iconst 0, 1) := by decide +kernel
theorem dX3_heightAt_22 : decode cX3_heightAt 22 = .ok (.ireturn, 1) := by decide +kernel
theorem dX3_isPlace_0 : decode cX3_isPlace 0 = .ok (.iload_n 0, 1) := by decide +kernel
theorem dX3_isPlace_1 : decode cX3_isPlace 1 = .ok (.ifCond .lt 21, 3) := by decide +kernel
theorem dX3_isPlace_4 : decode cX3_isPlace 4 = .ok (.iload_n 0, 1) := by decide +kernel
theorem dX3_isPlace_5 : decode cX3_isPlace 5 = .ok (.iconst 4, 1) := by decide +kernel
theorem dX3_isPlace_6 : decode cX3_isPlace 6 = .ok (.if_icmp .ge 16, 3) := by decide +kernel
theorem dX3_isPlace_9 : decode cX3_isPlace 9 = .ok (.iload_n 1, 1) := by decide +kernel
theorem dX3_isPlace_10 : decode cX3_isPlace 10 = .ok (.ifCond .lt 12, 3) := by decide +kernel
theorem dX3_isPlace_13 : decode cX3_isPlace 13 = .ok (.iload_n 1, 1) := by decide +kernel
theorem dX3_isPlace_14 : decode cX3_isPlace 14 = .ok (.iconst 4, 1) := by decide +kernel
theorem dX3_isPlace_15 : decode cX3_isPlace 15 = .ok (.if_icmp .ge 7, 3) := by decide +kernel
theorem dX3_isPlace_18 : decode cX3_isPlace 18 = .ok (.iconst 1, 1) := by decide +kernel
theorem dX3_isPlace_19 : decode cX3_isPlace 19 = .ok (.goto 4, 3) := by decide +kernel
theorem dX3_isPlace_22 : decode cX3_isPlace 22 = .ok (.iconst 0, 1) := by decide +kernel
theorem dX3_isPlace_23 : decode cX3_isPlace 23 = .ok (.ireturn, 1) := by decide +kernel
theorem dX3_isParted_0 : decode cX3_isParted 0 = .ok (.iload_n 3, 1) := by decide +kernel
theorem dX3_isParted_1 : decode cX3_isParted 1 = .ok (.invokestatic 49, 3) := by decide +kernel
theorem dX3_isParted_4 : decode cX3_isParted 4 = .ok (.ifCond .ne 10, 3) := by decide +kernel
theorem dX3_isParted_7 : decode cX3_isParted 7 = .ok (.aload_n 0, 1) := by decide +kernel
theorem dX3_isParted_8 : decode cX3_isParted 8 = .ok (.getfield 21, 3) := by decide +kernel
theorem dX3_isParted_11 : decode cX3_isParted 11 = .ok (.goto 7, 3) := by decide +kernel
theorem dX3_isParted_14 : decode cX3_isParted 14 = .ok (.aload_n 0, 1) := by decide +kernel
theorem dX3_isParted_15 : decode cX3_isParted 15 = .ok (.getfield 25, 3) := by decide +kernel
theorem dX3_isParted_18 : decode cX3_isParted 18 = .ok (.astore 4, 2) := by decide +kernel
theorem dX3_isParted_20 : decode cX3_isParted 20 = .ok (.iload_n 3, 1) := by decide +kernel
theorem dX3_isParted_21 : decode cX3_isParted 21 = .ok (.invokestatic 49, 3) := by decide +kernel
theorem dX3_isParted_24 : decode cX3_isParted 24 = .ok (.ifCond .ne 10, 3) := by decide +kernel
theorem dX3_isParted_27 : decode cX3_isParted 27 = .ok (.aload_n 0, 1) := by decide +kernel
theorem dX3_isParted_28 : decode cX3_isParted 28 = .ok (.getfield 25, 3) := by decide +kernel
theorem dX3_isParted_31 : decode cX3_isParted 31 = .ok (.goto 7, 3) := by decide +kernel
theorem dX3_isParted_34 : decode cX3_isParted 34 = .ok (.aload_n 0, 1) := by decide +kernel
theorem dX3_isParted_35 : decode cX3_isParted 35 = .ok (.getfield 21, 3) := by decide +kernel
theorem dX3_isParted_38 : decode cX3_isParted 38 = .ok (.astore 5, 2) := by decide +kernel
theorem dX3_isParted_40 : decode cX3_isParted 40 = .ok (.iload_n 3, 1) := by decide +kernel
theorem dX3_isParted_41 : decode cX3_isParted 41 = .ok (.invokestatic 53, 3) := by decide +kernel
theorem dX3_isParted_44 : decode cX3_isParted 44 = .ok (.istore 6, 2) := by decide +kernel
theorem dX3_isParted_46 : decode cX3_isParted 46 = .ok (.aload 5, 2) := by decide +kernel
theorem dX3_isParted_48 : decode cX3_isParted 48 = .ok (.iload_n 1, 1) := by decide +kernel
theorem dX3_isParted_49 : decode cX3_isParted 49 = .ok (.iaload, 1) := by decide +kernel
theorem dX3_isParted_50 : decode cX3_isParted 50 = .ok (.aload 5, 2) := by decide +kernel
theorem dX3_isParted_52 : decode cX3_isParted 52 = .ok (.iload_n 2, 1) := by decide +kernel
theorem dX3_isParted_53 : decode cX3_isParted 53 = .ok (.iaload, 1) := by decide +kernel
theorem dX3_isParted_54 : decode cX3_isParted 54 = .ok (.if_icmp .ne 41, 3) := by decide +kernel
theorem dX3_isParted_57 : decode cX3_isParted 57 = .ok (.aload 4, 2) := by decide +kernel
theorem dX3_isParted_59 : decode cX3_isParted 59 = .ok (.iload_n 1, 1) := by decide +kernel
theorem dX3_isParted_60 : decode cX3_isParted 60 = .ok (.iaload, 1) := by decide +kernel
theorem dX3_isParted_61 : decode cX3_isParted 61 = .ok (.aload 4, 2) := by decide +kernel
theorem dX3_isParted_63 : decode cX3_isParted 63 = .ok (.iload_n 2, 1) := by decide +kernel
theorem dX3_isParted_64 : decode cX3_isParted 64 = .ok (.iaload, 1) := by decide +kernel
theorem dX3_isParted_65 : decode cX3_isParted 65 = .ok (.invokestatic 37, 3) := by decide +kernel
theorem dX3_isParted_68 : decode cX3_isParted 68 = .ok (.iload 6, 2) := by decide +kernel
theorem dX3_isParted_70 : decode cX3_isParted 70 = .ok (.iconst 1, 1) := by decide +kernel
theorem dX3_isParted_71 : decode cX3_isParted 71 = .ok (.isub, 1) := by decide +kernel
theorem dX3_isParted_72 : decode cX3_isParted 72 = .ok (.if_icmp .ne 23, 3) := by decide +kernel
theorem dX3_isParted_75 : decode cX3_isParted 75 = .ok (.aload 4, 2) := by decide +kernel
theorem dX3_isParted_77 : decode cX3_isParted 77 = .ok (.iload_n 1, 1) := by decide +kernel
theorem dX3_isParted_78 : decode cX3_isParted 78 = .ok (.iaload, 1) := by decide +kernel
theorem dX3_isParted_79 : decode cX3_isParted 79 = .ok (.aload 4, 2) := by decide +kernel
theorem dX3_isParted_81 : decode cX3_isParted 81 = .ok (.iload_n 2, 1) := by decide +kernel
theorem dX3_isParted_82 : decode cX3_isParted 82 = .ok (.iaload, 1) := by decide +kernel
theorem dX3_isParted_83 : decode cX3_isParted 83 = .ok (.invokestatic 75, 3) := by decide +kernel
theorem dX3_isParted_86 : decode cX3_isParted 86 = .ok (.iload 6, 2) := by decide +kernel
theorem dX3_isParted_88 : decode cX3_isParted 88 = .ok (.if_icmp .ne 7, 3) := by decide +kernel
theorem dX3_isParted_91 : decode cX3_isParted 91 = .ok (.iconst 1, 1) := by decide +kernel
theorem dX3_isParted_92 : decode cX3_isParted 92 = .ok (.goto 4, 3) := by decide +kernel
theorem dX3_isParted_95 : decode cX3_isParted 95 = .ok (.iconst 0, 1) := by decide +kernel
theorem dX3_isParted_96 : decode cX3_isParted 96 = .ok (.ireturn, 1) := by decide +kernel
theorem dX3_thickest_0 : decode cX3_thickest 0 = .ok (.iconst 0, 1) := by decide +kernel
theorem dX3_thickest_1 : decode cX3_thickest 1 = .ok (.istore_n 1, 1) := by decide +kernel
theorem dX3_thickest_2 : decode cX3_thickest 2 = .ok (.iconst 0, 1) := by decide +kernel
theorem dX3_thickest_3 : decode cX3_thickest 3 = .ok (.istore_n 2, 1) := by decide +kernel
theorem dX3_thickest_4 : decode cX3_thickest 4 = .ok (.iload_n 2, 1) := by decide +kernel
theorem dX3_thickest_5 : decode cX3_thickest 5 = .ok (.aload_n 0, 1) := by decide +kernel
theorem dX3_thickest_6 : decode cX3_thickest 6 = .ok (.getfield 9, 3) := by decide +kernel
theorem dX3_thickest_9 : decode cX3_thickest 9 = .ok (.if_icmp .ge 22, 3) := by decide +kernel
theorem dX3_thickest_12 : decode cX3_thickest 12 = .ok (.iload_n 1, 1) := by decide +kernel
theorem dX3_thickest_13 : decode cX3_thickest 13 = .ok (.aload_n 0, 1) := by decide +kernel
theorem dX3_thickest_14 : decode cX3_thickest 14 = .ok (.getfield 28, 3) := by decide +kernel
theorem dX3_thickest_17 : decode cX3_thickest 17 = .ok (.iload_n 2, 1) := by decide +kernel
theorem dX3_thickest_18 : decode cX3_thickest 18 = .ok (.iaload, 1) := by decide +kernel
theorem dX3_thickest_19 : decode cX3_thickest 19 = .ok (.iconst 1, 1) := by decide +kernel
theorem dX3_thickest_20 : decode cX3_thickest 20 = .ok (.iadd, 1) := by decide +kernel
theorem dX3_thickest_21 : decode cX3_thickest 21 = .ok (.invokestatic 75, 3) := by decide +kernel
theorem dX3_thickest_24 : decode cX3_thickest 24 = .ok (.istore_n 1, 1) := by decide +kernel
theorem dX3_thickest_25 : decode cX3_thickest 25 = .ok (.iinc 2 1, 3) := by decide +kernel
theorem dX3_thickest_28 : decode cX3_thickest 28 = .ok (.goto (-24), 3) := by decide +kernel
theorem dX3_thickest_31 : decode cX3_thickest 31 = .ok (.iload_n 1, 1) := by decide +kernel
theorem dX3_thickest_32 : decode cX3_thickest 32 = .ok (.ireturn, 1) := by decide +kernel
theorem dX3_touching_0 : decode cX3_touching 0 = .ok (.aload_n 0, 1) := by decide +kernel
theorem dX3_touching_1 : decode cX3_touching 1 = .ok (.getfield 21, 3) := by decide +kernel
theorem dX3_touching_4 : decode cX3_touching 4 = .ok (.iload_n 1, 1) := by decide +kernel
theorem dX3_touching_5 : decode cX3_touching 5 = .ok (.iaload, 1) := by decide +kernel
theorem dX3_touching_6 : decode cX3_touching 6 = .ok (.aload_n 0, 1) := by decide +kernel
theorem dX3_touching_7 : decode cX3_touching 7 = .ok (.getfield 21, 3) := by decide +kernel
theorem dX3_touching_10 : decode cX3_touching 10 = .ok (.iload_n 2, 1) := by decide +kernel
theorem dX3_touching_11 : decode cX3_touching 11 = .ok (.iaload, 1) := by decide +kernel
theorem dX3_touching_12 : decode cX3_touching 12 = .ok (.if_icmp .ne 38, 3) := by decide +kernel
theorem dX3_touching_15 : decode cX3_touching 15 = .ok (.aload_n 0, 1) := by decide +kernel
theorem dX3_touching_16 : decode cX3_touching 16 = .ok (.getfield 25, 3) := by decide +kernel
theorem dX3_touching_19 : decode cX3_touching 19 = .ok (.iload_n 1, 1) := by decide +kernel
theorem dX3_touching_20 : decode cX3_touching 20 = .ok (.iaload, 1) := by decide +kernel
theorem dX3_touching_21 : decode cX3_touching 21 = .ok (.aload_n 0, 1) := by decide +kernel
theorem dX3_touching_22 : decode cX3_touching 22 = .ok (.getfield 25, 3) := by decide +kernel
theorem dX3_touching_25 : decode cX3_touching 25 = .ok (.iload_n 2, 1) := by decide +kernel
theorem dX3_touching_26 : decode cX3_touching 26 = .ok (.iaload, 1) := by decide +kernel
theorem dX3_touching_27 : decode cX3_touching 27 = .ok (.if_icmp .ne 23, 3) := by decide +kernel
theorem dX3_touching_30 : decode cX3_touching 30 = .ok (.aload_n 0, 1) := by decide +kernel
theorem dX3_touching_31 : decode cX3_touching 31 = .ok (.getfield 28, 3) := by decide +kernel
theorem dX3_touching_34 : decode cX3_touching 34 = .ok (.iload_n 1, 1) := by decide +kernel
theorem dX3_touching_35 : decode cX3_touching 35 = .ok (.iaload, 1) := by decide +kernel
theorem dX3_touching_36 : decode cX3_touching 36 = .ok (.aload_n 0, 1) := by decide +kernel
theorem dX3_touching_37 : decode cX3_touching 37 = .ok (.getfield 28, 3) := by decide +kernel
theorem dX3_touching_40 : decode cX3_touching 40 = .ok (.iload_n 2, 1) := by decide +kernel
theorem dX3_touching_41 : decode cX3_touching 41 = .ok (.iaload, 1) := by decide +kernel
theorem dX3_touching_42 : decode cX3_touching 42 = .ok (.isub, 1) := by decide +kernel
theorem dX3_touching_43 : decode cX3_touching 43 = .ok (.invokestatic 82, 3) := by decide +kernel
theorem dX3_touching_46 : decode cX3_touching 46 = .ok (.iconst 1, 1) := by decide +kernel
theorem dX3_touching_47 : decode cX3_touching 47 = .ok (.if_icmp .eq 5, 3) := by decide +kernel
theorem dX3_touching_50 : decode cX3_touching 50 = .ok (.iconst 0, 1) := by decide +kernel
theorem dX3_touching_51 : decode cX3_touching 51 = .ok (.ireturn, 1) := by decide +kernel
theorem dX3_touching_52 : decode cX3_touching 52 = .ok (.aload_n 0, 1) := by decide +kernel
theorem dX3_touching_53 : decode cX3_touching 53 = .ok (.getfield 31, 3) := by decide +kernel
theorem dX3_touching_56 : decode cX3_touching 56 = .ok (.iload_n 1, 1) := by decide +kernel
theorem dX3_touching_57 : decode cX3_touching 57 = .ok (.iaload, 1) := by decide +kernel
theorem dX3_touching_58 : decode cX3_touching 58 = .ok (.aload_n 0, 1) := by decide +kernel
theorem dX3_touching_59 : decode cX3_touching 59 = .ok (.getfield 31, 3) := by decide +kernel
theorem dX3_touching_62 : decode cX3_touching 62 = .ok (.iload_n 2, 1) := by decide +kernel
theorem dX3_touching_63 : decode cX3_touching 63 = .ok (.iaload, 1) := by decide +kernel
theorem dX3_touching_64 : decode cX3_touching 64 = .ok (.if_icmp .ne 5, 3) := by decide +kernel
theorem dX3_touching_67 : decode cX3_touching 67 = .ok (.iconst 3, 1) := by decide +kernel
theorem dX3_touching_68 : decode cX3_touching 68 = .ok (.ireturn, 1) := by decide +kernel
theorem dX3_touching_69 : decode cX3_touching 69 = .ok (.aload_n 0, 1) := by decide +kernel
theorem dX3_touching_70 : decode cX3_touching 70 = .ok (.getfield 28, 3) := by decide +kernel
theorem dX3_touching_73 : decode cX3_touching 73 = .ok (.iload_n 1, 1) := by decide +kernel
theorem dX3_touching_74 : decode cX3_touching 74 = .ok (.iaload, 1) := by decide +kernel
theorem dX3_touching_75 : decode cX3_touching 75 = .ok (.aload_n 0, 1) := by decide +kernel
theorem dX3_touching_76 : decode cX3_touching 76 = .ok (.getfield 28, 3) := by decide +kernel
theorem dX3_touching_79 : decode cX3_touching 79 = .ok (.iload_n 2, 1) := by decide +kernel
theorem dX3_touching_80 : decode cX3_touching 80 = .ok (.iaload, 1) := by decide +kernel
theorem dX3_touching_81 : decode cX3_touching 81 = .ok (.if_icmp .ge 7, 3) := by decide +kernel
theorem dX3_touching_84 : decode cX3_touching 84 = .ok (.iload_n 1, 1) := by decide +kernel
theorem dX3_touching_85 : decode cX3_touching 85 = .ok (.goto 4, 3) := by decide +kernel
theorem dX3_touching_88 : decode cX3_touching 88 = .ok (.iload_n 2, 1) := by decide +kernel
theorem dX3_touching_89 : decode cX3_touching 89 = .ok (.istore_n 3, 1) := by decide +kernel
theorem dX3_touching_90 : decode cX3_touching 90 = .ok (.aload_n 0, 1) := by decide +kernel
theorem dX3_touching_91 : decode cX3_touching 91 = .ok (.getfield 31, 3) := by decide +kernel
theorem dX3_touching_94 : decode cX3_touching 94 = .ok (.iload_n 3, 1) := by decide +kernel
theorem dX3_touching_95 : decode cX3_touching 95 = .ok (.iaload, 1) := by decide +kernel
theorem dX3_touching_96 : decode cX3_touching 96 = .ok (.iconst 1, 1) := by decide +kernel
theorem dX3_touching_97 : decode cX3_touching 97 = .ok (.if_icmp .ne 7, 3) := by decide +kernel
theorem dX3_touching_100 : decode cX3_touching 100 = .ok (.iconst 1, 1) := by decide +kernel
theorem dX3_touching_101 : decode cX3_touching 101 = .ok (.goto 4, 3) := by decide +kernel
theorem dX3_touching_104 : decode cX3_touching 104 = .ok (.iconst 2, 1) := by decide +kernel
theorem dX3_touching_105 : decode cX3_touching 105 = .ok (.ireturn, 1) := by decide +kernel
theorem dX3_gainOf_0 : decode cX3_gainOf 0 = .ok (.iconst 0, 1) := by decide +kernel
theorem dX3_gainOf_1 : decode cX3_gainOf 1 = .ok (.istore_n 3, 1) := by decide +kernel
theorem dX3_gainOf_2 : decode cX3_gainOf 2 = .ok (.iconst 0, 1) := by decide +kernel
theorem dX3_gainOf_3 : decode cX3_gainOf 3 = .ok (.istore 4, 2) := by decide +kernel
theorem dX3_gainOf_5 : decode cX3_gainOf 5 = .ok (.iload 4, 2) := by decide +kernel
theorem dX3_gainOf_7 : decode cX3_gainOf 7 = .ok (.aload_n 0, 1) := by decide +kernel
theorem dX3_gainOf_8 : decode cX3_gainOf 8 = .ok (.getfield 9, 3) := by decide +kernel
theorem dX3_gainOf_11 : decode cX3_gainOf 11 = .ok (.if_icmp .ge 33, 3) := by decide +kernel
theorem dX3_gainOf_14 : decode cX3_gainOf 14 = .ok (.iload 4, 2) := by decide +kernel
theorem dX3_gainOf_16 : decode cX3_gainOf 16 = .ok (.iload_n 1, 1) := by decide +kernel
theorem dX3_gainOf_17 : decode cX3_gainOf 17 = .ok (.if_icmp .eq 21, 3) := by decide +kernel
theorem dX3_gainOf_20 : decode cX3_gainOf 20 = .ok (.aload_n 0, 1) := by decide +kernel
theorem dX3_gainOf_21 : decode cX3_gainOf 21 = .ok (.iload_n 1, 1) := by decide +kernel
theorem dX3_gainOf_22 : decode cX3_gainOf 22 = .ok (.iload 4, 2) := by decide +kernel
theorem dX3_gainOf_24 : decode cX3_gainOf 24 = .ok (.invokevirtual 85, 3) := by decide +kernel
theorem dX3_gainOf_27 : decode cX3_gainOf 27 = .ok (.iconst 1, 1) := by decide +kernel
theorem dX3_gainOf_28 : decode cX3_gainOf 28 = .ok (.if_icmp .ne 10, 3) := by decide +kernel
theorem dX3_gainOf_31 : decode cX3_gainOf 31 = .ok (.iload_n 3, 1) := by decide +kernel
theorem dX3_gainOf_32 : decode cX3_gainOf 32 = .ok (.aload_n 2, 1) := by decide +kernel
theorem dX3_gainOf_33 : decode cX3_gainOf 33 = .ok (.iload 4, 2) := by decide +kernel
theorem dX3_gainOf_35 : decode cX3_gainOf 35 = .ok (.iaload, 1) := by decide +kernel
theorem dX3_gainOf_36 : decode cX3_gainOf 36 = .ok (.iadd, 1) := by decide +kernel
theorem dX3_gainOf_37 : decode cX3_gainOf 37 = .ok (.istore_n 3, 1) := by decide +kernel
theorem dX3_gainOf_38 : decode cX3_gainOf 38 = .ok (.iinc 4 1, 3) := by decide +kernel
theorem dX3_gainOf_41 : decode cX3_gainOf 41 = .ok (.goto (-36), 3) := by decide +kernel
theorem dX3_gainOf_44 : decode cX3_gainOf 44 = .ok (.iload_n 3, 1) := by decide +kernel
theorem dX3_gainOf_45 : decode cX3_gainOf 45 = .ok (.ireturn, 1) := by decide +kernel
theorem dX3_countFought_0 : decode cX3_countFought 0 = .ok (.iconst 0, 1) := by decide +kernel
theorem dX3_countFought_1 : decode cX3_countFought 1 = .ok (.istore_n 2, 1) := by decide +kernel
theorem dX3_countFought_2 : decode cX3_countFought 2 = .ok (.iconst 0, 1) := by decide +kernel
theorem dX3_countFought_3 : decode cX3_countFought 3 = .ok (.istore_n 3, 1) := by decide +kernel
theorem dX3_countFought_4 : decode cX3_countFought 4 = .ok (.iload_n 3, 1) := by decide +kernel
theorem dX3_countFought_5 : decode cX3_countFought 5 = .ok (.aload_n 1, 1) := by decide +kernel
theorem dX3_countFought_6 : decode cX3_countFought 6 = .ok (.getfield 88, 3) := by decide +kernel
theorem dX3_countFought_9 : decode cX3_countFought 9 = .ok (.if_icmp .ge 32, 3) := by decide +kernel
theorem dX3_countFought_12 : decode cX3_countFought 12 = .ok (.aload_n 0, 1) := by decide +kernel
theorem dX3_countFought_13 : decode cX3_countFought 13 = .ok (.aload_n 1, 1) := by decide +kernel
theorem dX3_countFought_14 : decode cX3_countFought 14 = .ok (.getfield 93, 3) := by decide +kernel
theorem dX3_countFought_17 : decode cX3_countFought 17 = .ok (.iload_n 3, 1) := by decide +kernel
theorem dX3_countFought_18 : decode cX3_countFought 18 = .ok (.iaload, 1) := by decide +kernel
theorem dX3_countFought_19 : decode cX3_countFought 19 = .ok (.aload_n 1, 1) := by decide +kernel
theorem dX3_countFought_20 : decode cX3_countFought 20 = .ok (.getfield 96, 3) := by decide +kernel
theorem dX3_countFought_23 : decode cX3_countFought 23 = .ok (.iload_n 3, 1) := by decide +kernel
theorem dX3_countFought_24 : decode cX3_countFought 24 = .ok (.iaload, 1) := by decide +kernel
theorem dX3_countFought_25 : decode cX3_countFought 25 = .ok (.invokevirtual 85, 3) := by decide +kernel
theorem dX3_countFought_28 : decode cX3_countFought 28 = .ok (.iconst 1, 1) := by decide +kernel
theorem dX3_countFought_29 : decode cX3_countFought 29 = .ok (.if_icmp .ne 6, 3) := by decide +kernel
theorem dX3_countFought_32 : decode cX3_countFought 32 = .ok (.iinc 2 1, 3) := by decide +kernel
theorem dX3_countFought_35 : decode cX3_countFought 35 = .ok (.iinc 3 1, 3) := by decide +kernel
theorem dX3_countFought_38 : decode cX3_countFought 38 = .ok (.goto (-34), 3) := by decide +kernel
theorem dX3_countFought_41 : decode cX3_countFought 41 = .ok (.iload_n 2, 1) := by decide +kernel
theorem dX3_countFought_42 : decode cX3_countFought 42 = .ok (.ireturn, 1) := by decide +kernel
theorem dX3_countFrontPairs_0 : decode cX3_countFrontPairs 0 = .ok (.iconst 0, 1) := by decide +kernel
theorem dX3_countFrontPairs_1 : decode cX3_countFrontPairs 1 = .ok (.istore_n 1, 1) := by decide +kernel
theorem dX3_countFrontPairs_2 : decode cX3_countFrontPairs 2 = .ok (.iconst 0, 1) := by decide +kernel
theorem dX3_countFrontPairs_3 : decode cX3_countFrontPairs 3 = .ok (.istore_n 2, 1) := by decide +kernel
theorem dX3_countFrontPairs_4 : decode cX3_countFrontPairs 4 = .ok (.iload_n 2, 1) := by decide +kernel
theorem dX3_countFrontPairs_5 : decode cX3_countFrontPairs 5 = .ok (.aload_n 0, 1) := by decide +kernel
theorem dX3_countFrontPairs_6 : decode cX3_countFrontPairs 6 = .ok (.getfield 9, 3) := by decide +kernel
theorem dX3_countFrontPairs_9 : decode cX3_countFrontPairs 9 = .ok (.if_icmp .ge 40, 3) := by decide +kernel
theorem dX3_countFrontPairs_12 : decode cX3_countFrontPairs 12 = .ok (.iload_n 2, 1) := by decide +kernel
theorem dX3_countFrontPairs_13 : decode cX3_countFrontPairs 13 = .ok (.iconst 1, 1) := by decide +kernel
theorem dX3_countFrontPairs_14 : decode cX3_countFrontPairs 14 = .ok (.iadd, 1) := by decide +kernel
theorem dX3_countFrontPairs_15 : decode cX3_countFrontPairs 15 = .ok (.istore_n 3, 1) := by decide +kernel
theorem dX3_countFrontPairs_16 : decode cX3_countFrontPairs 16 = .ok (.iload_n 3, 1) := by decide +kernel
theorem dX3_countFrontPairs_17 : decode cX3_countFrontPairs 17 = .ok (.aload_n 0, 1) := by decide +kernel
theorem dX3_countFrontPairs_18 : decode cX3_countFrontPairs 18 = .ok (.getfield 9, 3) := by decide +kernel
theorem dX3_countFrontPairs_21 : decode cX3_countFrontPairs 21 = .ok (.if_icmp .ge 22, 3) := by decide +kernel
theorem dX3_countFrontPairs_24 : decode cX3_countFrontPairs 24 = .ok (.aload_n 0, 1) := by decide +kernel
theorem dX3_countFrontPairs_25 : decode cX3_countFrontPairs 25 = .ok (.iload_n 2, 1) := by decide +kernel
theorem dX3_countFrontPairs_26 : decode cX3_countFrontPairs 26 = .ok (.iload_n 3, 1) := by decide +kernel
theorem dX3_countFrontPairs_27 : decode cX3_countFrontPairs 27 = .ok (.invokevirtual 85, 3) := by decide +kernel
theorem dX3_countFrontPairs_30 : decode cX3_countFrontPairs 30 = .ok (.iconst 1, 1) := by decide +kernel
theorem dX3_countFrontPairs_31 : decode cX3_countFrontPairs 31 = .ok (.if_icmp .ne 6, 3) := by decide +kernel
theorem dX3_countFrontPairs_34 : decode cX3_countFrontPairs 34 = .ok (.iinc 1 1, 3) := by decide +kernel
theorem dX3_countFrontPairs_37 : decode cX3_countFrontPairs 37 = .ok (.iinc 3 1, 3) := by decide +kernel
theorem dX3_countFrontPairs_40 : decode cX3_countFrontPairs 40 = .ok (.goto (-24), 3) := by decide +kernel
theorem dX3_countFrontPairs_43 : decode cX3_countFrontPairs 43 = .ok (.iinc 2 1, 3) := by decide +kernel
theorem dX3_countFrontPairs_46 : decode cX3_countFrontPairs 46 = .ok (.goto (-42), 3) := by decide +kernel
theorem dX3_countFrontPairs_49 : decode cX3_countFrontPairs 49 = .ok (.iload_n 1, 1) := by decide +kernel
theorem dX3_countFrontPairs_50 : decode cX3_countFrontPairs 50 = .ok (.ireturn, 1) := by decide +kernel
theorem dX3_allTouch_0 : decode cX3_allTouch 0 = .ok (.iconst 0, 1) := by decide +kernel
theorem dX3_allTouch_1 : decode cX3_allTouch 1 = .ok (.istore_n 2, 1) := by decide +kernel
theorem dX3_allTouch_2 : decode cX3_allTouch 2 = .ok (.iload_n 2, 1) := by decide +kernel
theorem dX3_allTouch_3 : decode cX3_allTouch 3 = .ok (.aload_n 1, 1) := by decide +kernel
theorem dX3_allTouch_4 : decode cX3_allTouch 4 = .ok (.getfield 88, 3) := by decide +kernel
theorem dX3_allTouch_7 : decode cX3_allTouch 7 = .ok (.if_icmp .ge 30, 3) := by decide +kernel
theorem dX3_allTouch_10 : decode cX3_allTouch 10 = .ok (.aload_n 0, 1) := by decide +kernel
theorem dX3_allTouch_11 : decode cX3_allTouch 11 = .ok (.aload_n 1, 1) := by decide +kernel
theorem dX3_allTouch_12 : decode cX3_allTouch 12 = .ok (.getfield 93, 3) := by decide +kernel
theorem dX3_allTouch_15 : decode cX3_allTouch 15 = .ok (.iload_n 2, 1) := by decide +kernel
theorem dX3_allTouch_16 : decode cX3_allTouch 16 = .ok (.iaload, 1) := by decide +kernel
theorem dX3_allTouch_17 : decode cX3_allTouch 17 = .ok (.aload_n 1, 1) := by decide +kernel
theorem dX3_allTouch_18 : decode cX3_allTouch 18 = .ok (.getfield 96, 3) := by decide +kernel
theorem dX3_allTouch_21 : decode cX3_allTouch 21 = .ok (.iload_n 2, 1) := by decide +kernel
theorem dX3_allTouch_22 : decode cX3_allTouch 22 = .ok (.iaload, 1) := by decide +kernel
theorem dX3_allTouch_23 : decode cX3_allTouch 23 = .ok (.invokevirtual 85, 3) := by decide +kernel
theorem dX3_allTouch_26 : decode cX3_allTouch 26 = .ok (.ifCond .ne 5, 3) := by decide +kernel
theorem dX3_allTouch_29 : decode cX3_allTouch 29 = .ok (.iconst 0, 1) := by decide +kernel
theorem dX3_allTouch_30 : decode cX3_allTouch 30 = .ok (.ireturn, 1) := by decide +kernel
theorem dX3_allTouch_31 : decode cX3_allTouch 31 = .ok (.iinc 2 1, 3) := by decide +kernel
theorem dX3_allTouch_34 : decode cX3_allTouch 34 = .ok (.goto (-32), 3) := by decide +kernel
theorem dX3_allTouch_37 : decode cX3_allTouch 37 = .ok (.iconst 1, 1) := by decide +kernel
theorem dX3_allTouch_38 : decode cX3_allTouch 38 = .ok (.ireturn, 1) := by decide +kernel
theorem dX3_meetingFold_0 : decode cX3_meetingFold 0 = .ok (.aload_n 0, 1) := by decide +kernel
theorem dX3_meetingFold_1 : decode cX3_meetingFold 1 = .ok (.getfield 21, 3) := by decide +kernel
theorem dX3_meetingFold_4 : decode cX3_meetingFold 4 = .ok (.iload_n 1, 1) := by decide +kernel
theorem dX3_meetingFold_5 : decode cX3_meetingFold 5 = .ok (.iaload, 1) := by decide +kernel
theorem dX3_meetingFold_6 : decode cX3_meetingFold 6 = .ok (.aload_n 0, 1) := by decide +kernel
theorem dX3_meetingFold_7 : decode cX3_meetingFold 7 = .ok (.getfield 21, 3) := by decide +kernel
theorem dX3_meetingFold_10 : decode cX3_meetingFold 10 = .ok (.iload_n 2, 1) := by decide +kernel
theorem dX3_meetingFold_11 : decode cX3_meetingFold 11 = .ok (.iaload, 1) := by decide +kernel
theorem dX3_meetingFold_12 : decode cX3_meetingFold 12 = .ok (.if_icmp .ne 7, 3) := by decide +kernel
theorem dX3_meetingFold_15 : decode cX3_meetingFold 15 = .ok (.iconst 1, 1) := by decide +kernel
theorem dX3_meetingFold_16 : decode cX3_meetingFold 16 = .ok (.goto 4, 3) := by decide +kernel
theorem dX3_meetingFold_19 : decode cX3_meetingFold 19 = .ok (.iconst 0, 1) := by decide +kernel
theorem dX3_meetingFold_20 : decode cX3_meetingFold 20 = .ok (.istore_n 3, 1) := by decide +kernel
theorem dX3_meetingFold_21 : decode cX3_meetingFold 21 = .ok (.aload_n 0, 1) := by decide +kernel
theorem dX3_meetingFold_22 : decode cX3_meetingFold 22 = .ok (.getfield 25, 3) := by decide +kernel
theorem dX3_meetingFold_25 : decode cX3_meetingFold 25 = .ok (.iload_n 1, 1) := by decide +kernel
theorem dX3_meetingFold_26 : decode cX3_meetingFold 26 = .ok (.iaload, 1) := by decide +kernel
theorem dX3_meetingFold_27 : decode cX3_meetingFold 27 = .ok (.aload_n 0, 1) := by decide +kernel
theorem dX3_meetingFold_28 : decode cX3_meetingFold 28 = .ok (.getfield 25, 3) := by decide +kernel
theorem dX3_meetingFold_31 : decode cX3_meetingFold 31 = .ok (.iload_n 2, 1) := by decide +kernel
theorem dX3_meetingFold_32 : decode cX3_meetingFold 32 = .ok (.iaload, 1) := by decide +kernel
theorem dX3_meetingFold_33 : decode cX3_meetingFold 33 = .ok (.if_icmp .ne 7, 3) := by decide +kernel
theorem dX3_meetingFold_36 : decode cX3_meetingFold 36 = .ok (.iconst 1, 1) := by decide +kernel
theorem dX3_meetingFold_37 : decode cX3_meetingFold 37 = .ok (.goto 4, 3) := by decide +kernel
theorem dX3_meetingFold_40 : decode cX3_meetingFold 40 = .ok (.iconst 0, 1) := by decide +kernel
theorem dX3_meetingFold_41 : decode cX3_meetingFold 41 = .ok (.istore 4, 2) := by decide +kernel
theorem dX3_meetingFold_43 : decode cX3_meetingFold 43 = .ok (.iload_n 3, 1) := by decide +kernel
theorem dX3_meetingFold_44 : decode cX3_meetingFold 44 = .ok (.iload 4, 2) := by decide +kernel
theorem dX3_meetingFold_46 : decode cX3_meetingFold 46 = .ok (.if_icmp .eq 18, 3) := by decide +kernel
theorem dX3_meetingFold_49 : decode cX3_meetingFold 49 = .ok (.aload_n 0, 1) := by decide +kernel
theorem dX3_meetingFold_50 : decode cX3_meetingFold 50 = .ok (.getfield 31, 3) := by decide +kernel
theorem dX3_meetingFold_53 : decode cX3_meetingFold 53 = .ok (.iload_n 1, 1) := by decide +kernel
theorem dX3_meetingFold_54 : decode cX3_meetingFold 54 = .ok (.iaload, 1) := by decide +kernel
theorem dX3_meetingFold_55 : decode cX3_meetingFold 55 = .ok (.aload_n 0, 1) := by decide +kernel
theorem dX3_meetingFold_56 : decode cX3_meetingFold 56 = .ok (.getfield 31, 3) := by decide +kernel
theorem dX3_meetingFold_59 : decode cX3_meetingFold 59 = .ok (.iload_n 2, 1) := by decide +kernel
theorem dX3_meetingFold_60 : decode cX3_meetingFold 60 = .ok (.iaload, 1) := by decide +kernel
theorem dX3_meetingFold_61 : decode cX3_meetingFold 61 = .ok (.if_icmp .eq 6, 3) := by decide +kernel
theorem dX3_meetingFold_64 : decode cX3_meetingFold 64 = .ok (.bipush (-9), 2) := by decide +kernel
theorem dX3_meetingFold_66 : decode cX3_meetingFold 66 = .ok (.ireturn, 1) := by decide +kernel
theorem dX3_meetingFold_67 : decode cX3_meetingFold 67 = .ok (.iload 4, 2) := by decide +kernel
theorem dX3_meetingFold_69 : decode cX3_meetingFold 69 = .ok (.ifCond .eq 7, 3) := by decide +kernel
theorem dX3_meetingFold_72 : decode cX3_meetingFold 72 = .ok (.iconst 0, 1) := by decide +kernel
theorem dX3_meetingFold_73 : decode cX3_meetingFold 73 = .ok (.goto 4, 3) := by decide +kernel
theorem dX3_meetingFold_76 : decode cX3_meetingFold 76 = .ok (.iconst 1, 1) := by decide +kernel
theorem dX3_meetingFold_77 : decode cX3_meetingFold 77 = .ok (.istore 5, 2) := by decide +kernel
theorem dX3_meetingFold_79 : decode cX3_meetingFold 79 = .ok (.iload 4, 2) := by decide +kernel
theorem dX3_meetingFold_81 : decode cX3_meetingFold 81 = .ok (.ifCond .eq 19, 3) := by decide +kernel
theorem dX3_meetingFold_84 : decode cX3_meetingFold 84 = .ok (.aload_n 0, 1) := by decide +kernel
theorem dX3_meetingFold_85 : decode cX3_meetingFold 85 = .ok (.getfield 21, 3) := by decide +kernel
theorem dX3_meetingFold_88 : decode cX3_meetingFold 88 = .ok (.iload_n 1, 1) := by decide +kernel
theorem dX3_meetingFold_89 : decode cX3_meetingFold 89 = .ok (.iaload, 1) := by decide +kernel
theorem dX3_meetingFold_90 : decode cX3_meetingFold 90 = .ok (.aload_n 0, 1) := by decide +kernel
theorem dX3_meetingFold_91 : decode cX3_meetingFold 91 = .ok (.getfield 21, 3) := by decide +kernel
theorem dX3_meetingFold_94 : decode cX3_meetingFold 94 = .ok (.iload_n 2, 1) := by decide +kernel
theorem dX3_meetingFold_95 : decode cX3_meetingFold 95 = .ok (.iaload, 1) := by decide +kernel
theorem dX3_meetingFold_96 : decode cX3_meetingFold 96 = .ok (.iadd, 1) := by decide +kernel
theorem dX3_meetingFold_97 : decode cX3_meetingFold 97 = .ok (.goto 16, 3) := by decide +kernel
theorem dX3_meetingFold_100 : decode cX3_meetingFold 100 = .ok (.aload_n 0, 1) := by decide +kernel
theorem dX3_meetingFold_101 : decode cX3_meetingFold 101 = .ok (.getfield 25, 3) := by decide +kernel
theorem dX3_meetingFold_104 : decode cX3_meetingFold 104 = .ok (.iload_n 1, 1) := by decide +kernel
theorem dX3_meetingFold_105 : decode cX3_meetingFold 105 = .ok (.iaload, 1) := by decide +kernel
theorem dX3_meetingFold_106 : decode cX3_meetingFold 106 = .ok (.aload_n 0, 1) := by decide +kernel
theorem dX3_meetingFold_107 : decode cX3_meetingFold 107 = .ok (.getfield 25, 3) := by decide +kernel
theorem dX3_meetingFold_110 : decode cX3_meetingFold 110 = .ok (.iload_n 2, 1) := by decide +kernel
theorem dX3_meetingFold_111 : decode cX3_meetingFold 111 = .ok (.iaload, 1) := by decide +kernel
theorem dX3_meetingFold_112 : decode cX3_meetingFold 112 = .ok (.iadd, 1) := by decide +kernel
theorem dX3_meetingFold_113 : decode cX3_meetingFold 113 = .ok (.istore 6, 2) := by decide +kernel
theorem dX3_meetingFold_115 : decode cX3_meetingFold 115 = .ok (.aload_n 0, 1) := by decide +kernel
theorem dX3_meetingFold_116 : decode cX3_meetingFold 116 = .ok (.getfield 31, 3) := by decide +kernel
theorem dX3_meetingFold_119 : decode cX3_meetingFold 119 = .ok (.iload_n 1, 1) := by decide +kernel
theorem dX3_meetingFold_120 : decode cX3_meetingFold 120 = .ok (.iaload, 1) := by decide +kernel
theorem dX3_meetingFold_121 : decode cX3_meetingFold 121 = .ok (.istore 7, 2) := by decide +kernel
theorem dX3_meetingFold_123 : decode cX3_meetingFold 123 = .ok (.iload 6, 2) := by decide +kernel
theorem dX3_meetingFold_125 : decode cX3_meetingFold 125 = .ok (.iconst 2, 1) := by decide +kernel
theorem dX3_meetingFold_126 : decode cX3_meetingFold 126 = .ok (.irem, 1) := by decide +kernel
theorem dX3_meetingFold_127 : decode cX3_meetingFold 127 = .ok (.ifCond .eq 23, 3) := by decide +kernel
theorem dX3_meetingFold_130 : decode cX3_meetingFold 130 = .ok (.aload_n 0, 1) := by decide +kernel
theorem dX3_meetingFold_131 : decode cX3_meetingFold 131 = .ok (.iload_n 1, 1) := by decide +kernel
theorem dX3_meetingFold_132 : decode cX3_meetingFold 132 = .ok (.iload 7, 2) := by decide +kernel
theorem dX3_meetingFold_134 : decode cX3_meetingFold 134 = .ok (.invokevirtual 99, 3) := by decide +kernel
theorem dX3_meetingFold_137 : decode cX3_meetingFold 137 = .ok (.ifCond .eq 13, 3) := by decide +kernel
theorem dX3_meetingFold_140 : decode cX3_meetingFold 140 = .ok (.aload_n 0, 1) := by decide +kernel
theorem dX3_meetingFold_141 : decode cX3_meetingFold 141 = .ok (.iload_n 2, 1) := by decide +kernel
theorem dX3_meetingFold_142 : decode cX3_meetingFold 142 = .ok (.iload 7, 2) := by decide +kernel
theorem dX3_meetingFold_144 : decode cX3_meetingFold 144 = .ok (.invokevirtual 99, 3) := by decide +kernel
theorem dX3_meetingFold_147 : decode cX3_meetingFold 147 = .ok (.ifCond .ne 6, 3) := by decide +kernel
theorem dX3_meetingFold_150 : decode cX3_meetingFold 150 = .ok (.bipush (-9), 2) := by decide +kernel
theorem dX3_meetingFold_152 : decode cX3_meetingFold 152 = .ok (.ireturn, 1) := by decide +kernel
theorem dX3_meetingFold_153 : decode cX3_meetingFold 153 = .ok (.iload 6, 2) := by decide +kernel
theorem dX3_meetingFold_155 : decode cX3_meetingFold 155 = .ok (.iconst 1, 1) := by decide +kernel
theorem dX3_meetingFold_156 : decode cX3_meetingFold 156 = .ok (.iadd, 1) := by decide +kernel
theorem dX3_meetingFold_157 : decode cX3_meetingFold 157 = .ok (.iconst 2, 1) := by decide +kernel
theorem dX3_meetingFold_158 : decode cX3_meetingFold 158 = .ok (.idiv, 1) := by decide +kernel
theorem dX3_meetingFold_159 : decode cX3_meetingFold 159 = .ok (.istore 8, 2) := by decide +kernel
theorem dX3_meetingFold_161 : decode cX3_meetingFold 161 = .ok (.iload 5, 2) := by decide +kernel
theorem dX3_meetingFold_163 : decode cX3_meetingFold 163 = .ok (.iconst 4, 1) := by decide +kernel
theorem dX3_meetingFold_164 : decode cX3_meetingFold 164 = .ok (.iload 7, 2) := by decide +kernel
theorem dX3_meetingFold_166 : decode cX3_meetingFold 166 = .ok (.imul, 1) := by decide +kernel
theorem dX3_meetingFold_167 : decode cX3_meetingFold 167 = .ok (.iadd, 1) := by decide +kernel
theorem dX3_meetingFold_168 : decode cX3_meetingFold 168 = .ok (.bipush 8, 2) := by decide +kernel
theorem dX3_meetingFold_170 : decode cX3_meetingFold 170 = .ok (.iload 8, 2) := by decide +kernel
theorem dX3_meetingFold_172 : decode cX3_meetingFold 172 = .ok (.iconst 1, 1) := by decide +kernel
theorem dX3_meetingFold_173 : decode cX3_meetingFold 173 = .ok (.isub, 1) := by decide +kernel
theorem dX3_meetingFold_174 : decode cX3_meetingFold 174 = .ok (.imul, 1) := by decide +kernel
theorem dX3_meetingFold_175 : decode cX3_meetingFold 175 = .ok (.iadd, 1) := by decide +kernel
theorem dX3_meetingFold_176 : decode cX3_meetingFold 176 = .ok (.ireturn, 1) := by decide +kernel
theorem dX3_isOutermost_0 : decode cX3_isOutermost 0 = .ok (.iload_n 2, 1) := by decide +kernel
theorem dX3_isOutermost_1 : decode cX3_isOutermost 1 = .ok (.ifCond .ne 18, 3) := by decide +kernel
theorem dX3_isOutermost_4 : decode cX3_isOutermost 4 = .ok (.aload_n 0, 1) := by decide +kernel
theorem dX3_isOutermost_5 : decode cX3_isOutermost 5 = .ok (.getfield 28, 3) := by decide +kernel
theorem dX3_isOutermost_8 : decode cX3_isOutermost 8 = .ok (.iload_n 1, 1) := by decide +kernel
theorem dX3_isOutermost_9 : decode cX3_isOutermost 9 = .ok (.iaload, 1) := by decide +kernel
theorem dX3_isOutermost_10 : decode cX3_isOutermost 10 = .ok (.ifCond .ne 7, 3) := by decide +kernel
theorem dX3_isOutermost_13 : decode cX3_isOutermost 13 = .ok (.iconst 1, 1) := by decide +kernel
theorem dX3_isOutermost_14 : decode cX3_isOutermost 14 = .ok (.goto 4, 3) := by decide +kernel
theorem dX3_isOutermost_17 : decode cX3_isOutermost 17 = .ok (.iconst 0, 1) := by decide +kernel
theorem dX3_isOutermost_18 : decode cX3_isOutermost 18 = .ok (.ireturn, 1) := by decide +kernel
theorem dX3_isOutermost_19 : decode cX3_isOutermost 19 = .ok (.iconst 0, 1) := by decide +kernel
theorem dX3_isOutermost_20 : decode cX3_isOutermost 20 = .ok (.istore_n 3, 1) := by decide +kernel
theorem dX3_isOutermost_21 : decode cX3_isOutermost 21 = .ok (.iload_n 3, 1) := by decide +kernel
theorem dX3_isOutermost_22 : decode cX3_isOutermost 22 = .ok (.aload_n 0, 1) := by decide +kernel
theorem dX3_isOutermost_23 : decode cX3_isOutermost 23 = .ok (.getfield 9, 3) := by decide +kernel
theorem dX3_isOutermost_26 : decode cX3_isOutermost 26 = .ok (.if_icmp .ge 56, 3) := by decide +kernel
theorem dX3_isOutermost_29 : decode cX3_isOutermost 29 = .ok (.aload_n 0, 1) := by decide +kernel
theorem dX3_isOutermost_30 : decode cX3_isOutermost 30 = .ok (.getfield 21, 3) := by decide +kernel
theorem dX3_isOutermost_33 : decode cX3_isOutermost 33 = .ok (.iload_n 3, 1) := by decide +kernel
theorem dX3_isOutermost_34 : decode cX3_isOutermost 34 = .ok (.iaload, 1) := by decide +kernel
theorem dX3_isOutermost_35 : decode cX3_isOutermost 35 = .ok (.aload_n 0, 1) := by decide +kernel
theorem dX3_isOutermost_36 : decode cX3_isOutermost 36 = .ok (.getfield 21, 3) := by decide +kernel
theorem dX3_isOutermost_39 : decode cX3_isOutermost 39 = .ok (.iload_n 1, 1) := by decide +kernel
theorem dX3_isOutermost_40 : decode cX3_isOutermost 40 = .ok (.iaload, 1) := by decide +kernel
theorem dX3_isOutermost_41 : decode cX3_isOutermost 41 = .ok (.if_icmp .ne 35, 3) := by decide +kernel
theorem dX3_isOutermost_44 : decode cX3_isOutermost 44 = .ok (.aload_n 0, 1) := by decide +kernel
theorem dX3_isOutermost_45 : decode cX3_isOutermost 45 = .ok (.getfield 25, 3) := by decide +kernel
theorem dX3_isOutermost_48 : decode cX3_isOutermost 48 = .ok (.iload_n 3, 1) := by decide +kernel
theorem dX3_isOutermost_49 : decode cX3_isOutermost 49 = .ok (.iaload, 1) := by decide +kernel
theorem dX3_isOutermost_50 : decode cX3_isOutermost 50 = .ok (.aload_n 0, 1) := by decide +kernel
theorem dX3_isOutermost_51 : decode cX3_isOutermost 51 = .ok (.getfield 25, 3) := by decide +kernel
theorem dX3_isOutermost_54 : decode cX3_isOutermost 54 = .ok (.iload_n 1, 1) := by decide +kernel
theorem dX3_isOutermost_55 : decode cX3_isOutermost 55 = .ok (.iaload, 1) := by decide +kernel
theorem dX3_isOutermost_56 : decode cX3_isOutermost 56 = .ok (.if_icmp .ne 20, 3) := by decide +kernel
theorem dX3_isOutermost_59 : decode cX3_isOutermost 59 = .ok (.aload_n 0, 1) := by decide +kernel
theorem dX3_isOutermost_60 : decode cX3_isOutermost 60 = .ok (.getfield 28, 3) := by decide +kernel
theorem dX3_isOutermost_63 : decode cX3_isOutermost 63 = .ok (.iload_n 3, 1) := by decide +kernel
theorem dX3_isOutermost_64 : decode cX3_isOutermost 64 = .ok (.iaload, 1) := by decide +kernel
theorem dX3_isOutermost_65 : decode cX3_isOutermost 65 = .ok (.aload_n 0, 1) := by decide +kernel
theorem dX3_isOutermost_66 : decode cX3_isOutermost 66 = .ok (.getfield 28, 3) := by decide +kernel
theorem dX3_isOutermost_69 : decode cX3_isOutermost 69 = .ok (.iload_n 1, 1) := by decide +kernel
theorem dX3_isOutermost_70 : decode cX3_isOutermost 70 = .ok (.iaload, 1) := by decide +kernel
theorem dX3_isOutermost_71 : decode cX3_isOutermost 71 = .ok (.if_icmp .le 5, 3) := by decide +kernel
theorem dX3_isOutermost_74 : decode cX3_isOutermost 74 = .ok (.iconst 0, 1) := by decide +kernel
theorem dX3_isOutermost_75 : decode cX3_isOutermost 75 = .ok (.ireturn, 1) := by decide +kernel
theorem dX3_isOutermost_76 : decode cX3_isOutermost 76 = .ok (.iinc 3 1, 3) := by decide +kernel
theorem dX3_isOutermost_79 : decode cX3_isOutermost 79 = .ok (.goto (-58), 3) := by decide +kernel
theorem dX3_isOutermost_82 : decode cX3_isOutermost 82 = .ok (.iconst 1, 1) := by decide +kernel
theorem dX3_isOutermost_83 : decode cX3_isOutermost 83 = .ok (.ireturn, 1) := by decide +kernel
theorem dX4_init_0 : decode cX4_init 0 = .ok (.aload_n 0, 1) := by decide +kernel
theorem dX4_init_1 : decode cX4_init 1 = .ok (.invokespecial 3, 3) := by decide +kernel
theorem dX4_init_4 : decode cX4_init 4 = .ok (.aload_n 0, 1) := by decide +kernel
theorem dX4_init_5 : decode cX4_init 5 = .ok (.iconst 0, 1) := by decide +kernel
theorem dX4_init_6 : decode cX4_init 6 = .ok (.putfield 9, 3) := by decide +kernel
theorem dX4_init_9 : decode cX4_init 9 = .ok (.aload_n 0, 1) := by decide +kernel
theorem dX4_init_10 : decode cX4_init 10 = .ok (.bipush 6, 2) := by decide +kernel
theorem dX4_init_12 : decode cX4_init 12 = .ok (.newarray .int, 2) := by decide +kernel
theorem dX4_init_14 : decode cX4_init 14 = .ok (.putfield 15, 3) := by decide +kernel
theorem dX4_init_17 : decode cX4_init 17 = .ok (.aload_n 0, 1) := by decide +kernel
theorem dX4_init_18 : decode cX4_init 18 = .ok (.bipush 6, 2) := by decide +kernel
theorem dX4_init_20 : decode cX4_init 20 = .ok (.newarray .int, 2) := by decide +kernel
theorem dX4_init_22 : decode cX4_init 22 = .ok (.putfield 19, 3) := by decide +kernel
theorem dX4_init_25 : decode cX4_init 25 = .ok (.return_, 1) := by decide +kernel
theorem dX4_isFull_0 : decode cX4_isFull 0 = .ok (.aload_n 0, 1) := by decide +kernel
theorem dX4_isFull_1 : decode cX4_isFull 1 = .ok (.getfield 9, 3) := by decide +kernel
theorem dX4_isFull_4 : decode cX4_isFull 4 = .ok (.bipush 6, 2) := by decide +kernel
theorem dX4_isFull_6 : decode cX4_isFull 6 = .ok (.if_icmp .lt 7, 3) := by decide +kernel
theorem dX4_isFull_9 : decode cX4_isFull 9 = .ok (.iconst 1, 1) := by decide +kernel
theorem dX4_isFull_10 : decode cX4_isFull 10 = .ok (.goto 4, 3) := by decide +kernel
theorem dX4_isFull_13 : decode cX4_isFull 13 = .ok (.iconst 0, 1) := by decide +kernel
theorem dX4_isFull_14 : decode cX4_isFull 14 = .ok (.ireturn, 1) := by decide +kernel
theorem dX4_add_0 : decode cX4_add 0 = .ok (.aload_n 0, 1) := by decide +kernel
theorem dX4_add_1 : decode cX4_add 1 = .ok (.invokevirtual 22, 3) := by decide +kernel
theorem dX4_add_4 : decode cX4_add 4 = .ok (.ifCond .ne 33, 3) := by decide +kernel
theorem dX4_add_7 : decode cX4_add 7 = .ok (.aload_n 0, 1) := by decide +kernel
theorem dX4_add_8 : decode cX4_add 8 = .ok (.getfield 15, 3) := by decide +kernel
theorem dX4_add_11 : decode cX4_add 11 = .ok (.aload_n 0, 1) := by decide +kernel
theorem dX4_add_12 : decode cX4_add 12 = .ok (.getfield 9, 3) := by decide +kernel
theorem dX4_add_15 : decode cX4_add 15 = .ok (.iload_n 1, 1) := by decide +kernel
theorem dX4_add_16 : decode cX4_add 16 = .ok (.iastore, 1) := by decide +kernel
theorem dX4_add_17 : decode cX4_add 17 = .ok (.aload_n 0, 1) := by decide +kernel
theorem dX4_add_18 : decode cX4_add 18 = .ok (.getfield 19, 3) := by decide +kernel
theorem dX4_add_21 : decode cX4_add 21 = .ok (.aload_n 0, 1) := by decide +kernel
theorem dX4_add_22 : decode cX4_add 22 = .ok (.getfield 9, 3) := by decide +kernel
theorem dX4_add_25 : decode cX4_add 25 = .ok (.iload_n 2, 1) := by decide +kernel
theorem dX4_add_26 : decode cX4_add 26 = .ok (.iastore, 1) := by decide +kernel
theorem dX4_add_27 : decode cX4_add 27 = .ok (.aload_n 0, 1) := by decide +kernel
theorem dX4_add_28 : decode cX4_add 28 = .ok (.dup, 1) := by decide +kernel
theorem dX4_add_29 : decode cX4_add 29 = .ok (.getfield 9, 3) := by decide +kernel
theorem dX4_add_32 : decode cX4_add 32 = .ok (.iconst 1, 1) := by decide +kernel
theorem dX4_add_33 : decode cX4_add 33 = .ok (.iadd, 1) := by decide +kernel
theorem dX4_add_34 : decode cX4_add 34 = .ok (.putfield 9, 3) := by decide +kernel
theorem dX4_add_37 : decode cX4_add 37 = .ok (.return_, 1) := by decide +kernel
theorem dX4_copyFrom_0 : decode cX4_copyFrom 0 = .ok (.aload_n 0, 1) := by decide +kernel
theorem dX4_copyFrom_1 : decode cX4_copyFrom 1 = .ok (.aload_n 1, 1) := by decide +kernel
theorem dX4_copyFrom_2 : decode cX4_copyFrom 2 = .ok (.getfield 9, 3) := by decide +kernel
theorem dX4_copyFrom_5 : decode cX4_copyFrom 5 = .ok (.putfield 9, 3) := by decide +kernel
theorem dX4_copyFrom_8 : decode cX4_copyFrom 8 = .ok (.aload_n 1, 1) := by decide +kernel
theorem dX4_copyFrom_9 : decode cX4_copyFrom 9 = .ok (.getfield 15, 3) := by decide +kernel
theorem dX4_copyFrom_12 : decode cX4_copyFrom 12 = .ok (.iconst 0, 1) := by decide +kernel
theorem dX4_copyFrom_13 : decode cX4_copyFrom 13 = .ok (.aload_n 0, 1) := by decide +kernel
theorem dX4_copyFrom_14 : decode cX4_copyFrom 14 = .ok (.getfield 15, 3) := by decide +kernel
theorem dX4_copyFrom_17 : decode cX4_copyFrom 17 = .ok (.iconst 0, 1) := by decide +kernel
theorem dX4_copyFrom_18 : decode cX4_copyFrom 18 = .ok (.bipush 6, 2) := by decide +kernel
theorem dX4_copyFrom_20 : decode cX4_copyFrom 20 = .ok (.invokestatic 26, 3) := by decide +kernel
theorem dX4_copyFrom_23 : decode cX4_copyFrom 23 = .ok (.aload_n 1, 1) := by decide +kernel
theorem dX4_copyFrom_24 : decode cX4_copyFrom 24 = .ok (.getfield 19, 3) := by decide +kernel
theorem dX4_copyFrom_27 : decode cX4_copyFrom 27 = .ok (.iconst 0, 1) := by decide +kernel
theorem dX4_copyFrom_28 : decode cX4_copyFrom 28 = .ok (.aload_n 0, 1) := by decide +kernel
theorem dX4_copyFrom_29 : decode cX4_copyFrom 29 = .ok (.getfield 19, 3) := by decide +kernel
theorem dX4_copyFrom_32 : decode cX4_copyFrom 32 = .ok (.iconst 0, 1) := by decide +kernel
theorem dX4_copyFrom_33 : decode cX4_copyFrom 33 = .ok (.bipush 6, 2) := by decide +kernel
theorem dX4_copyFrom_35 : decode cX4_copyFrom 35 = .ok (.invokestatic 26, 3) := by decide +kernel
theorem dX4_copyFrom_38 : decode cX4_copyFrom 38 = .ok (.return_, 1) := by decide +kernel
theorem dX5_init_0 : decode cX5_init 0 = .ok (.aload_n 0, 1) := by decide +kernel
theorem dX5_init_1 : decode cX5_init 1 = .ok (.invokespecial 3, 3) := by decide +kernel
theorem dX5_init_4 : decode cX5_init 4 = .ok (.aload_n 0, 1) := by decide +kernel
theorem dX5_init_5 : decode cX5_init 5 = .ok (.iconst 0, 1) := by decide +kernel
theorem dX5_init_6 : decode cX5_init 6 = .ok (.putfield 9, 3) := by decide +kernel
theorem dX5_init_9 : decode cX5_init 9 = .ok (.aload_n 0, 1) := by decide +kernel
theorem dX5_init_10 : decode cX5_init 10 = .ok (.iconst 3, 1) := by decide +kernel
theorem dX5_init_11 : decode cX5_init 11 = .ok (.newarray .int, 2) := by decide +kernel
theorem dX5_init_13 : decode cX5_init 13 = .ok (.putfield 15, 3) := by decide +kernel
theorem dX5_init_16 : decode cX5_init 16 = .ok (.aload_n 0, 1) := by decide +kernel
theorem dX5_init_17 : decode cX5_init 17 = .ok (.iconst 2, 1) := by decide +kernel
theorem dX5_init_18 : decode cX5_init 18 = .ok (.newarray .int, 2) := by decide +kernel
theorem dX5_init_20 : decode cX5_init 20 = .ok (.putfield 19, 3) := by decide +kernel
theorem dX5_init_23 : decode cX5_init 23 = .ok (.aload_n 0, 1) := by decide +kernel
theorem dX5_init_24 : decode cX5_init 24 = .ok (.iconst 3, 1) := by decide +kernel
theorem dX5_init_25 : decode cX5_init 25 = .ok (.anewarray 22, 3) := by decide +kernel
theorem dX5_init_28 : decode cX5_init 28 = .ok (.putfield 24, 3) := by decide +kernel
theorem dX5_init_31 : decode cX5_init 31 = .ok (.aload_n 0, 1) := by decide +kernel
theorem dX5_init_32 : decode cX5_init 32 = .ok (.iconst 0, 1) := by decide +kernel
theorem dX5_init_33 : decode cX5_init 33 = .ok (.putfield 28, 3) := by decide +kernel
theorem dX5_init_36 : decode cX5_init 36 = .ok (.iconst 0, 1) := by decide +kernel
theorem dX5_init_37 : decode cX5_init 37 = .ok (.istore_n 1, 1) := by decide +kernel
theorem dX5_init_38 : decode cX5_init 38 = .ok (.iload_n 1, 1) := by decide +kernel
theorem dX5_init_39 : decode cX5_init 39 = .ok (.iconst 2, 1) := by decide +kernel
theorem dX5_init_40 : decode cX5_init 40 = .ok (.if_icmp .gt 22, 3) := by decide +kernel
theorem dX5_init_43 : decode cX5_init 43 = .ok (.aload_n 0, 1) := by decide +kernel
theorem dX5_init_44 : decode cX5_init 44 = .ok (.getfield 24, 3) := by decide +kernel
theorem dX5_init_47 : decode cX5_init 47 = .ok (.iload_n 1, 1) := by decide +kernel
theorem dX5_init_48 : decode cX5_init 48 = .ok (.new 22, 3) := by decide +kernel
theorem dX5_init_51 : decode cX5_init 51 = .ok (.dup, 1) := by decide +kernel
theorem dX5_init_52 : decode cX5_init 52 = .ok (.invokespecial 32, 3) := by decide +kernel
theorem dX5_init_55 : decode cX5_init 55 = .ok (.aastore, 1) := by decide +kernel
theorem dX5_init_56 : decode cX5_init 56 = .ok (.iinc 1 1, 3) := by decide +kernel
theorem dX5_init_59 : decode cX5_init 59 = .ok (.goto (-21), 3) := by decide +kernel
theorem dX5_init_62 : decode cX5_init 62 = .ok (.return_, 1) := by decide +kernel
theorem dX5_startFrom_0 : decode cX5_startFrom 0 = .ok (.aload_n 0, 1) := by decide +kernel
theorem dX5_startFrom_1 : decode cX5_startFrom 1 = .ok (.getfield 24, 3) := by decide +kernel
theorem dX5_startFrom_4 : decode cX5_startFrom 4 = .ok (.iconst 0, 1) := by decide +kernel
theorem dX5_startFrom_5 : decode cX5_startFrom 5 = .ok (.aaload, 1) := by decide +kernel
theorem dX5_startFrom_6 : decode cX5_startFrom 6 = .ok (.aload_n 1, 1) := by decide +kernel
theorem dX5_startFrom_7 : decode cX5_startFrom 7 = .ok (.invokevirtual 33, 3) := by decide +kernel
theorem dX5_startFrom_10 : decode cX5_startFrom 10 = .ok (.aload_n 0, 1) := by decide +kernel
theorem dX5_startFrom_11 : decode cX5_startFrom 11 = .ok (.iconst 0, 1) := by decide +kernel
theorem dX5_startFrom_12 : decode cX5_startFrom 12 = .ok (.putfield 9, 3) := by decide +kernel
theorem dX5_startFrom_15 : decode cX5_startFrom 15 = .ok (.return_, 1) := by decide +kernel
theorem dX5_foundFold_0 : decode cX5_foundFold 0 = .ok (.iload_n 1, 1) := by decide +kernel
theorem dX5_foundFold_1 : decode cX5_foundFold 1 = .ok (.ifCond .lt 25, 3) := by decide +kernel
theorem dX5_foundFold_4 : decode cX5_foundFold 4 = .ok (.iload_n 1, 1) := by decide +kernel
theorem dX5_foundFold_5 : decode cX5_foundFold 5 = .ok (.aload_n 0, 1) := by decide +kernel
theorem dX5_foundFold_6 : decode cX5_foundFold 6 = .ok (.getfield 9, 3) := by decide +kernel
theorem dX5_foundFold_9 : decode cX5_foundFold 9 = .ok (.if_icmp .ge 17, 3) := by decide +kernel
theorem dX5_foundFold_12 : decode cX5_foundFold 12 = .ok (.iload_n 1, 1) := by decide +kernel
theorem dX5_foundFold_13 : decode cX5_foundFold 13 = .ok (.iconst 2, 1) := by decide +kernel
theorem dX5_foundFold_14 : decode cX5_foundFold 14 = .ok (.if_icmp .gt 12, 3) := by decide +kernel
theorem dX5_foundFold_17 : decode cX5_foundFold 17 = .ok (.aload_n 0, 1) := by decide +kernel
theorem dX5_foundFold_18 : decode cX5_foundFold 18 = .ok (.getfield 15, 3) := by decide +kernel
theorem dX5_foundFold_21 : decode cX5_foundFold 21 = .ok (.iload_n 1, 1) := by decide +kernel
theorem dX5_foundFold_22 : decode cX5_foundFold 22 = .ok (.iaload, 1) := by decide +kernel
theorem dX5_foundFold_23 : decode cX5_foundFold 23 = .ok (.goto 5, 3) := by decide +kernel
theorem dX5_foundFold_26 : decode cX5_foundFold 26 = .ok (.bipush (-5), 2) := by decide +kernel
theorem dX5_foundFold_28 : decode cX5_foundFold 28 = .ok (.ireturn, 1) := by decide +kernel
theorem dX5_findMeeting_0 : decode cX5_findMeeting 0 = .ok (.aload_n 0, 1) := by decide +kernel
theorem dX5_findMeeting_1 : decode cX5_findMeeting 1 = .ok (.getfield 24, 3) := by decide +kernel
theorem dX5_findMeeting_4 : decode cX5_findMeeting 4 = .ok (.iconst 0, 1) := by decide +kernel
theorem dX5_findMeeting_5 : decode cX5_findMeeting 5 = .ok (.aaload, 1) := by decide +kernel
theorem dX5_findMeeting_6 : decode cX5_findMeeting 6 = .ok (.iload_n 1, 1) := by decide +kernel
theorem dX5_findMeeting_7 : decode cX5_findMeeting 7 = .ok (.iload_n 2, 1) := by decide +kernel
theorem dX5_findMeeting_8 : decode cX5_findMeeting 8 = .ok (.invokevirtual 37, 3) := by decide +kernel
theorem dX5_findMeeting_11 : decode cX5_findMeeting 11 = .ok (.iconst 1, 1) := by decide +kernel
theorem dX5_findMeeting_12 : decode cX5_findMeeting 12 = .ok (.if_icmp .ne 5, 3) := by decide +kernel
theorem dX5_findMeeting_15 : decode cX5_findMeeting 15 = .ok (.iconst 1, 1) := by decide +kernel
theorem dX5_findMeeting_16 : decode cX5_findMeeting 16 = .ok (.ireturn, 1) := by decide +kernel
theorem dX5_findMeeting_17 : decode cX5_findMeeting 17 = .ok (.iconst 0, 1) := by decide +kernel
theorem dX5_findMeeting_18 : decode cX5_findMeeting 18 = .ok (.istore_n 3, 1) := by decide +kernel
theorem dX5_findMeeting_19 : decode cX5_findMeeting 19 = .ok (.iload_n 3, 1) := by decide +kernel
theorem dX5_findMeeting_20 : decode cX5_findMeeting 20 = .ok (.iconst 2, 1) := by decide +kernel
theorem dX5_findMeeting_21 : decode cX5_findMeeting 21 = .ok (.if_icmp .gt 85, 3) := by decide +kernel
theorem dX5_findMeeting_24 : decode cX5_findMeeting 24 = .ok (.iconst 0, 1) := by decide +kernel
theorem dX5_findMeeting_25 : decode cX5_findMeeting 25 = .ok (.istore 4, 2) := by decide +kernel
theorem dX5_findMeeting_27 : decode cX5_findMeeting 27 = .ok (.iload 4, 2) := by decide +kernel
theorem dX5_findMeeting_29 : decode cX5_findMeeting 29 = .ok (.getstatic 41, 3) := by decide +kernel
theorem dX5_findMeeting_32 : decode cX5_findMeeting 32 = .ok (.iload_n 3, 1) := by decide +kernel
theorem dX5_findMeeting_33 : decode cX5_findMeeting 33 = .ok (.iaload, 1) := by decide +kernel
theorem dX5_findMeeting_34 : decode cX5_findMeeting 34 = .ok (.if_icmp .ge 66, 3) := by decide +kernel
theorem dX5_findMeeting_37 : decode cX5_findMeeting 37 = .ok (.aload_n 0, 1) := by decide +kernel
theorem dX5_findMeeting_38 : decode cX5_findMeeting 38 = .ok (.iload_n 3, 1) := by decide +kernel
theorem dX5_findMeeting_39 : decode cX5_findMeeting 39 = .ok (.iload 4, 2) := by decide +kernel
theorem dX5_findMeeting_41 : decode cX5_findMeeting 41 = .ok (.invokevirtual 44, 3) := by decide +kernel
theorem dX5_findMeeting_44 : decode cX5_findMeeting 44 = .ok (.ifCond .eq 17, 3) := by decide +kernel
theorem dX5_findMeeting_47 : decode cX5_findMeeting 47 = .ok (.aload_n 0, 1) := by decide +kernel
theorem dX5_findMeeting_48 : decode cX5_findMeeting 48 = .ok (.getfield 24, 3) := by decide +kernel
theorem dX5_findMeeting_51 : decode cX5_findMeeting 51 = .ok (.iload_n 3, 1) := by decide +kernel
theorem dX5_findMeeting_52 : decode cX5_findMeeting 52 = .ok (.aaload, 1) := by decide +kernel
theorem dX5_findMeeting_53 : decode cX5_findMeeting 53 = .ok (.iload_n 1, 1) := by decide +kernel
theorem dX5_findMeeting_54 : decode cX5_findMeeting 54 = .ok (.iload_n 2, 1) := by decide +kernel
theorem dX5_findMeeting_55 : decode cX5_findMeeting 55 = .ok (.invokevirtual 48, 3) := by decide +kernel
theorem dX5_findMeeting_58 : decode cX5_findMeeting 58 = .ok (.goto 5, 3) := by decide +kernel
theorem dX5_findMeeting_61 : decode cX5_findMeeting 61 = .ok (.bipush (-9), 2) := by decide +kernel
theorem dX5_findMeeting_63 : decode cX5_findMeeting 63 = .ok (.istore 5, 2) := by decide +kernel
theorem dX5_findMeeting_65 : decode cX5_findMeeting 65 = .ok (.iload 5, 2) := by decide +kernel
theorem dX5_findMeeting_67 : decode cX5_findMeeting 67 = .ok (.bipush (-9), 2) := by decide +kernel
theorem dX5_findMeeting_69 : decode cX5_findMeeting 69 = .ok (.if_icmp .eq 25, 3) := by decide +kernel
theorem dX5_findMeeting_72 : decode cX5_findMeeting 72 = .ok (.aload_n 0, 1) := by decide +kernel
theorem dX5_findMeeting_73 : decode cX5_findMeeting 73 = .ok (.iload_n 3, 1) := by decide +kernel
theorem dX5_findMeeting_74 : decode cX5_findMeeting 74 = .ok (.invokevirtual 51, 3) := by decide +kernel
theorem dX5_findMeeting_77 : decode cX5_findMeeting 77 = .ok (.aload_n 0, 1) := by decide +kernel
theorem dX5_findMeeting_78 : decode cX5_findMeeting 78 = .ok (.getfield 15, 3) := by decide +kernel
theorem dX5_findMeeting_81 : decode cX5_findMeeting 81 = .ok (.iload_n 3, 1) := by decide +kernel
theorem dX5_findMeeting_82 : decode cX5_findMeeting 82 = .ok (.iload 5, 2) := by decide +kernel
theorem dX5_findMeeting_84 : decode cX5_findMeeting 84 = .ok (.iastore, 1) := by decide +kernel
theorem dX5_findMeeting_85 : decode cX5_findMeeting 85 = .ok (.aload_n 0, 1) := by decide +kernel
theorem dX5_findMeeting_86 : decode cX5_findMeeting 86 = .ok (.iload_n 3, 1) := by decide +kernel
theorem dX5_findMeeting_87 : decode cX5_findMeeting 87 = .ok (.iconst 1, 1) := by decide +kernel
theorem dX5_findMeeting_88 : decode cX5_findMeeting 88 = .ok (.iadd, 1) := by decide +kernel
theorem dX5_findMeeting_89 : decode cX5_findMeeting 89 = .ok (.putfield 9, 3) := by decide +kernel
theorem dX5_findMeeting_92 : decode cX5_findMeeting 92 = .ok (.iconst 1, 1) := by decide +kernel
theorem dX5_findMeeting_93 : decode cX5_findMeeting 93 = .ok (.ireturn, 1) := by decide +kernel
theorem dX5_findMeeting_94 : decode cX5_findMeeting 94 = .ok (.iinc 4 1, 3) := by decide +kernel
theorem dX5_findMeeting_97 : decode cX5_findMeeting 97 = .ok (.goto (-70), 3) := by decide +kernel
theorem dX5_findMeeting_100 : decode cX5_findMeeting 100 = .ok (.iinc 3 1, 3) := by decide +kernel
theorem dX5_findMeeting_103 : decode cX5_findMeeting 103 = .ok (.goto (-84), 3) := by decide +kernel
theorem dX5_findMeeting_106 : decode cX5_findMeeting 106 = .ok (.iconst 0, 1) := by decide +kernel
theorem dX5_findMeeting_107 : decode cX5_findMeeting 107 = .ok (.ireturn, 1) := by decide +kernel
theorem dX5_findBestGain_0 : decode cX5_findBestGain 0 = .ok (.aload_n 0, 1) := by decide +kernel
theorem dX5_findBestGain_1 : decode cX5_findBestGain 1 = .ok (.getfield 24, 3) := by decide +kernel
theorem dX5_findBestGain_4 : decode cX5_findBestGain 4 = .ok (.iconst 0, 1) := by decide +kernel
theorem dX5_findBestGain_5 : decode cX5_findBestGain 5 = .ok (.aaload, 1) := by decide +kernel
theorem dX5_findBestGain_6 : decode cX5_findBestGain 6 = .ok (.iload_n 1, 1) := by decide +kernel
theorem dX5_findBestGain_7 : decode cX5_findBestGain 7 = .ok (.aload_n 2, 1) := by decide +kernel
theorem dX5_findBestGain_8 : decode cX5_findBestGain 8 = .ok (.invokevirtual 55, 3) := by decide +kernel
theorem dX5_findBestGain_11 : decode cX5_findBestGain 11 = .ok (.istore_n 3, 1) := by decide +kernel
theorem dX5_findBestGain_12 : decode cX5_findBestGain 12 = .ok (.iconst 1, 1) := by decide +kernel
theorem dX5_findBestGain_13 : decode cX5_findBestGain 13 = .ok (.istore 4, 2) := by decide +kernel
theorem dX5_findBestGain_15 : decode cX5_findBestGain 15 = .ok (.iload 4, 2) := by decide +kernel
theorem dX5_findBestGain_17 : decode cX5_findBestGain 17 = .ok (.iconst 2, 1) := by decide +kernel
theorem dX5_findBestGain_18 : decode cX5_findBestGain 18 = .ok (.if_icmp .gt 73, 3) := by decide +kernel
theorem dX5_findBestGain_21 : decode cX5_findBestGain 21 = .ok (.iconst 0, 1) := by decide +kernel
theorem dX5_findBestGain_22 : decode cX5_findBestGain 22 = .ok (.istore 5, 2) := by decide +kernel
theorem dX5_findBestGain_24 : decode cX5_findBestGain 24 = .ok (.iload 5, 2) := by decide +kernel
theorem dX5_findBestGain_26 : decode cX5_findBestGain 26 = .ok (.getstatic 41, 3) := by decide +kernel
theorem dX5_findBestGain_29 : decode cX5_findBestGain 29 = .ok (.iload 4, 2) := by decide +kernel
theorem dX5_findBestGain_31 : decode cX5_findBestGain 31 = .ok (.iaload, 1) := by decide +kernel
theorem dX5_findBestGain_32 : decode cX5_findBestGain 32 = .ok (.if_icmp .ge 53, 3) := by decide +kernel
theorem dX5_findBestGain_35 : decode cX5_findBestGain 35 = .ok (.aload_n 0, 1) := by decide +kernel
theorem dX5_findBestGain_36 : decode cX5_findBestGain 36 = .ok (.iload 4, 2) := by decide +kernel
theorem dX5_findBestGain_38 : decode cX5_findBestGain 38 = .ok (.iload 5, 2) := by decide +kernel
theorem dX5_findBestGain_40 : decode cX5_findBestGain 40 = .ok (.invokevirtual 44, 3) := by decide +kernel
theorem dX5_findBestGain_43 : decode cX5_findBestGain 43 = .ok (.ifCond .eq 18, 3) := by decide +kernel
theorem dX5_findBestGain_46 : decode cX5_findBestGain 46 = .ok (.aload_n 0, 1) := by decide +kernel
theorem dX5_findBestGain_47 : decode cX5_findBestGain 47 = .ok (.getfield 24, 3) := by decide +kernel
theorem dX5_findBestGain_50 : decode cX5_findBestGain 50 = .ok (.iload 4, 2) := by decide +kernel
theorem dX5_findBestGain_52 : decode cX5_findBestGain 52 = .ok (.aaload, 1) := by decide +kernel
theorem dX5_findBestGain_53 : decode cX5_findBestGain 53 = .ok (.iload_n 1, 1) := by decide +kernel
theorem dX5_findBestGain_54 : decode cX5_findBestGain 54 = .ok (.aload_n 2, 1) := by decide +kernel
theorem dX5_findBestGain_55 : decode cX5_findBestGain 55 = .ok (.invokevirtual 55, 3) := by decide +kernel
theorem dX5_findBestGain_58 : decode cX5_findBestGain 58 = .ok (.goto 4, 3) := by decide +kernel
theorem dX5_findBestGain_61 : decode cX5_findBestGain 61 = .ok (.iconst 0, 1) := by decide +kernel
theorem dX5_findBestGain_62 : decode cX5_findBestGain 62 = .ok (.istore 6, 2) := by decide +kernel
theorem dX5_findBestGain_64 : decode cX5_findBestGain 64 = .ok (.iload 6, 2) := by decide +kernel
theorem dX5_findBestGain_66 : decode cX5_findBestGain 66 = .ok (.iload_n 3, 1) := by decide +kernel
theorem dX5_findBestGain_67 : decode cX5_findBestGain 67 = .ok (.if_icmp .le 12, 3) := by decide +kernel
theorem dX5_findBestGain_70 : decode cX5_findBestGain 70 = .ok (.iload 6, 2) := by decide +kernel
theorem dX5_findBestGain_72 : decode cX5_findBestGain 72 = .ok (.istore_n 3, 1) := by decide +kernel
theorem dX5_findBestGain_73 : decode cX5_findBestGain 73 = .ok (.aload_n 0, 1) := by decide +kernel
theorem dX5_findBestGain_74 : decode cX5_findBestGain 74 = .ok (.iload 4, 2) := by decide +kernel
theorem dX5_findBestGain_76 : decode cX5_findBestGain 76 = .ok (.invokevirtual 51, 3) := by decide +kernel
theorem dX5_findBestGain_79 : decode cX5_findBestGain 79 = .ok (.iinc 5 1, 3) := by decide +kernel
theorem dX5_findBestGain_82 : decode cX5_findBestGain 82 = .ok (.goto (-58), 3) := by decide +kernel
theorem dX5_findBestGain_85 : decode cX5_findBestGain 85 = .ok (.iinc 4 1, 3) := by decide +kernel
theorem dX5_findBestGain_88 : decode cX5_findBestGain 88 = .ok (.goto (-73), 3) := by decide +kernel
theorem dX5_findBestGain_91 : decode cX5_findBestGain 91 = .ok (.iload_n 3, 1) := by decide +kernel
theorem dX5_findBestGain_92 : decode cX5_findBestGain 92 = .ok (.ireturn, 1) := by decide +kernel
theorem dX5_countFitting_0 : decode cX5_countFitting 0 = .ok (.iload_n 1, 1) := by decide +kernel
theorem dX5_countFitting_1 : decode cX5_countFitting 1 = .ok (.ifCond .lt 8, 3) := by decide +kernel
theorem dX5_countFitting_4 : decode cX5_countFitting 4 = .ok (.iload_n 1, 1) := by decide +kernel
theorem dX5_countFitting_5 : decode cX5_countFitting 5 = .ok (.iconst 2, 1) := by decide +kernel
theorem dX5_countFitting_6 : decode cX5_countFitting 6 = .ok (.if_icmp .le 5, 3) := by decide +kernel
theorem dX5_countFitting_9 : decode cX5_countFitting 9 = .ok (.iconst 0, 1) := by decide +kernel
theorem dX5_countFitting_10 : decode cX5_countFitting 10 = .ok (.ireturn, 1) := by decide +kernel
theorem dX5_countFitting_11 : decode cX5_countFitting 11 = .ok (.iconst 0, 1) := by decide +kernel
theorem dX5_countFitting_12 : decode cX5_countFitting 12 = .ok (.istore_n 3, 1) := by decide +kernel
theorem dX5_countFitting_13 : decode cX5_countFitting 13 = .ok (.iconst 0, 1) := by decide +kernel
theorem dX5_countFitting_14 : decode cX5_countFitting 14 = .ok (.istore 4, 2) := by decide +kernel
theorem dX5_countFitting_16 : decode cX5_countFitting 16 = .ok (.iload 4, 2) := by decide +kernel
theorem dX5_countFitting_18 : decode cX5_countFitting 18 = .ok (.getstatic 41, 3) := by decide +kernel
theorem dX5_countFitting_21 : decode cX5_countFitting 21 = .ok (.iload_n 1, 1) := by decide +kernel
theorem dX5_countFitting_22 : decode cX5_countFitting 22 = .ok (.iaload, 1) := by decide +kernel
theorem dX5_countFitting_23 : decode cX5_countFitting 23 = .ok (.if_icmp .ge 35, 3) := by decide +kernel
theorem dX5_countFitting_26 : decode cX5_countFitting 26 = .ok (.aload_n 0, 1) := by decide +kernel
theorem dX5_countFitting_27 : decode cX5_countFitting 27 = .ok (.iload_n 1, 1) := by decide +kernel
theorem dX5_countFitting_28 : decode cX5_countFitting 28 = .ok (.iload 4, 2) := by decide +kernel
theorem dX5_countFitting_30 : decode cX5_countFitting 30 = .ok (.invokevirtual 44, 3) := by decide +kernel
theorem dX5_countFitting_33 : decode cX5_countFitting 33 = .ok (.ifCond .eq 19, 3) := by decide +kernel
theorem dX5_countFitting_36 : decode cX5_countFitting 36 = .ok (.aload_n 0, 1) := by decide +kernel
theorem dX5_countFitting_37 : decode cX5_countFitting 37 = .ok (.getfield 24, 3) := by decide +kernel
theorem dX5_countFitting_40 : decode cX5_countFitting 40 = .ok (.iload_n 1, 1) := by decide +kernel
theorem dX5_countFitting_41 : decode cX5_countFitting 41 = .ok (.aaload, 1) := by decide +kernel
theorem dX5_countFitting_42 : decode cX5_countFitting 42 = .ok (.aload_n 2, 1) := by decide +kernel
theorem dX5_countFitting_43 : decode cX5_countFitting 43 = .ok (.invokevirtual 59, 3) := by decide +kernel
theorem dX5_countFitting_46 : decode cX5_countFitting 46 = .ok (.ifCond .eq 6, 3) := by decide +kernel
theorem dX5_countFitting_49 : decode cX5_countFitting 49 = .ok (.iinc 3 1, 3) := by decide +kernel
theorem dX5_countFitting_52 : decode cX5_countFitting 52 = .ok (.iinc 4 1, 3) := by decide +kernel
theorem dX5_countFitting_55 : decode cX5_countFitting 55 = .ok (.goto (-39), 3) := by decide +kernel
theorem dX5_countFitting_58 : decode cX5_countFitting 58 = .ok (.iload_n 3, 1) := by decide +kernel
theorem dX5_countFitting_59 : decode cX5_countFitting 59 = .ok (.iload_n 1, 1) := by decide +kernel
theorem dX5_countFitting_60 : decode cX5_countFitting 60 = .ok (.ishl, 1) := by decide +kernel
theorem dX5_countFitting_61 : decode cX5_countFitting 61 = .ok (.ireturn, 1) := by decide +kernel
theorem dX5_noteFound_0 : decode cX5_noteFound 0 = .ok (.aload_n 0, 1) := by decide +kernel
theorem dX5_noteFound_1 : decode cX5_noteFound 1 = .ok (.getfield 19, 3) := by decide +kernel
theorem dX5_noteFound_4 : decode cX5_noteFound 4 = .ok (.iconst 0, 1) := by decide +kernel
theorem dX5_noteFound_5 : decode cX5_noteFound 5 = .ok (.aload_n 0, 1) := by decide +kernel
theorem dX5_noteFound_6 : decode cX5_noteFound 6 = .ok (.getfield 15, 3) := by decide +kernel
theorem dX5_noteFound_9 : decode cX5_noteFound 9 = .ok (.iconst 0, 1) := by decide +kernel
theorem dX5_noteFound_10 : decode cX5_noteFound 10 = .ok (.iload_n 1, 1) := by decide +kernel
theorem dX5_noteFound_11 : decode cX5_noteFound 11 = .ok (.invokestatic 63, 3) := by decide +kernel
theorem dX5_noteFound_14 : decode cX5_noteFound 14 = .ok (.aload_n 0, 1) := by decide +kernel
theorem dX5_noteFound_15 : decode cX5_noteFound 15 = .ok (.iload_n 1, 1) := by decide +kernel
theorem dX5_noteFound_16 : decode cX5_noteFound 16 = .ok (.putfield 9, 3) := by decide +kernel
theorem dX5_noteFound_19 : decode cX5_noteFound 19 = .ok (.return_, 1) := by decide +kernel
theorem dX5_lay_0 : decode cX5_lay 0 = .ok (.iload_n 1, 1) := by decide +kernel
theorem dX5_lay_1 : decode cX5_lay 1 = .ok (.ifCond .ne 5, 3) := by decide +kernel
theorem dX5_lay_4 : decode cX5_lay 4 = .ok (.iconst 1, 1) := by decide +kernel
theorem dX5_lay_5 : decode cX5_lay 5 = .ok (.ireturn, 1) := by decide +kernel
theorem dX5_lay_6 : decode cX5_lay 6 = .ok (.iload_n 1, 1) := by decide +kernel
theorem dX5_lay_7 : decode cX5_lay 7 = .ok (.iconst 1, 1) := by decide +kernel
theorem dX5_lay_8 : decode cX5_lay 8 = .ok (.if_icmp .ne 10, 3) := by decide +kernel
theorem dX5_lay_11 : decode cX5_lay 11 = .ok (.aload_n 0, 1) := by decide +kernel
theorem dX5_lay_12 : decode cX5_lay 12 = .ok (.iconst 0, 1) := by decide +kernel
theorem dX5_lay_13 : decode cX5_lay 13 = .ok (.iload_n 2, 1) := by decide +kernel
theorem dX5_lay_14 : decode cX5_lay 14 = .ok (.invokevirtual 69, 3) := by decide +kernel
theorem dX5_lay_17 : decode cX5_lay 17 = .ok (.ireturn, 1) := by decide +kernel
theorem dX5_lay_18 : decode cX5_lay 18 = .ok (.iload_n 2, 1) := by decide +kernel
theorem dX5_lay_19 : decode cX5_lay 19 = .ok (.bipush 12, 2) := by decide +kernel
theorem dX5_lay_21 : decode cX5_lay 21 = .ok (.irem, 1) := by decide +kernel
theorem dX5_lay_22 : decode cX5_lay 22 = .ok (.istore_n 3, 1) := by decide +kernel
theorem dX5_lay_23 : decode cX5_lay 23 = .ok (.iload_n 3, 1) := by decide +kernel
theorem dX5_lay_24 : decode cX5_lay 24 = .ok (.ifCond .ne 16, 3) := by decide +kernel
theorem dX5_lay_27 : decode cX5_lay 27 = .ok (.aload_n 0, 1) := by decide +kernel
theorem dX5_lay_28 : decode cX5_lay 28 = .ok (.aload_n 0, 1) := by decide +kernel
theorem dX5_lay_29 : decode cX5_lay 29 = .ok (.iconst 0, 1) := by decide +kernel
theorem dX5_lay_30 : decode cX5_lay 30 = .ok (.iload_n 2, 1) := by decide +kernel
theorem dX5_lay_31 : decode cX5_lay 31 = .ok (.bipush 12, 2) := by decide +kernel
theorem dX5_lay_33 : decode cX5_lay 33 = .ok (.idiv, 1) := by decide +kernel
theorem dX5_lay_34 : decode cX5_lay 34 = .ok (.invokevirtual 69, 3) := by decide +kernel
theorem dX5_lay_37 : decode cX5_lay 37 = .ok (.putfield 28, 3) := by decide +kernel
theorem dX5_lay_40 : decode cX5_lay 40 = .ok (.aload_n 0, 1) := by decide +kernel
theorem dX5_lay_41 : decode cX5_lay 41 = .ok (.getfield 28, 3) := by decide +kernel
theorem dX5_lay_44 : decode cX5_lay 44 = .ok (.ifCond .eq 16, 3) := by decide +kernel
theorem dX5_lay_47 : decode cX5_lay 47 = .ok (.aload_n 0, 1) := by decide +kernel
theorem dX5_lay_48 : decode cX5_lay 48 = .ok (.iconst 1, 1) := by decide +kernel
theorem dX5_lay_49 : decode cX5_lay 49 = .ok (.iload_n 3, 1) := by decide +kernel
theorem dX5_lay_50 : decode cX5_lay 50 = .ok (.invokevirtual 69, 3) := by decide +kernel
theorem dX5_lay_53 : decode cX5_lay 53 = .ok (.ifCond .eq 7, 3) := by decide +kernel
theorem dX5_lay_56 : decode cX5_lay 56 = .ok (.iconst 1, 1) := by decide +kernel
theorem dX5_lay_57 : decode cX5_lay 57 = .ok (.goto 4, 3) := by decide +kernel
theorem dX5_lay_60 : decode cX5_lay 60 = .ok (.iconst 0, 1) := by decide +kernel
theorem dX5_lay_61 : decode cX5_lay 61 = .ok (.ireturn, 1) := by decide +kernel
theorem dX5_layFold_0 : decode cX5_layFold 0 = .ok (.iload_n 1, 1) := by decide +kernel
theorem dX5_layFold_1 : decode cX5_layFold 1 = .ok (.ifCond .lt 18, 3) := by decide +kernel
theorem dX5_layFold_4 : decode cX5_layFold 4 = .ok (.iload_n 1, 1) := by decide +kernel
theorem dX5_layFold_5 : decode cX5_layFold 5 = .ok (.iconst 2, 1) := by decide +kernel
theorem dX5_layFold_6 : decode cX5_layFold 6 = .ok (.if_icmp .ge 13, 3) := by decide +kernel
theorem dX5_layFold_9 : decode cX5_layFold 9 = .ok (.iload_n 2, 1) := by decide +kernel
theorem dX5_layFold_10 : decode cX5_layFold 10 = .ok (.ifCond .lt 9, 3) := by decide +kernel
theorem dX5_layFold_13 : decode cX5_layFold 13 = .ok (.iload_n 2, 1) := by decide +kernel
theorem dX5_layFold_14 : decode cX5_layFold 14 = .ok (.bipush 12, 2) := by decide +kernel
theorem dX5_layFold_16 : decode cX5_layFold 16 = .ok (.if_icmp .lt 5, 3) := by decide +kernel
theorem dX5_layFold_19 : decode cX5_layFold 19 = .ok (.iconst 0, 1) := by decide +kernel
theorem dX5_layFold_20 : decode cX5_layFold 20 = .ok (.ireturn, 1) := by decide +kernel
theorem dX5_layFold_21 : decode cX5_layFold 21 = .ok (.getstatic 72, 3) := by decide +kernel
theorem dX5_layFold_24 : decode cX5_layFold 24 = .ok (.iload_n 2, 1) := by decide +kernel
theorem dX5_layFold_25 : decode cX5_layFold 25 = .ok (.iaload, 1) := by decide +kernel
theorem dX5_layFold_26 : decode cX5_layFold 26 = .ok (.istore_n 3, 1) := by decide +kernel
theorem dX5_layFold_27 : decode cX5_layFold 27 = .ok (.aload_n 0, 1) := by decide +kernel
theorem dX5_layFold_28 : decode cX5_layFold 28 = .ok (.getfield 24, 3) := by decide +kernel
theorem dX5_layFold_31 : decode cX5_layFold 31 = .ok (.iload_n 1, 1) := by decide +kernel
theorem dX5_layFold_32 : decode cX5_layFold 32 = .ok (.aaload, 1) := by decide +kernel
theorem dX5_layFold_33 : decode cX5_layFold 33 = .ok (.iload_n 3, 1) := by decide +kernel
theorem dX5_layFold_34 : decode cX5_layFold 34 = .ok (.invokevirtual 75, 3) := by decide +kernel
theorem dX5_layFold_37 : decode cX5_layFold 37 = .ok (.ifCond .ne 5, 3) := by decide +kernel
theorem dX5_layFold_40 : decode cX5_layFold 40 = .ok (.iconst 0, 1) := by decide +kernel
theorem dX5_layFold_41 : decode cX5_layFold 41 = .ok (.ireturn, 1) := by decide +kernel
theorem dX5_layFold_42 : decode cX5_layFold 42 = .ok (.aload_n 0, 1) := by decide +kernel
theorem dX5_layFold_43 : decode cX5_layFold 43 = .ok (.getfield 19, 3) := by decide +kernel
theorem dX5_layFold_46 : decode cX5_layFold 46 = .ok (.iload_n 1, 1) := by decide +kernel
theorem dX5_layFold_47 : decode cX5_layFold 47 = .ok (.iload_n 3, 1) := by decide +kernel
theorem dX5_layFold_48 : decode cX5_layFold 48 = .ok (.iastore, 1) := by decide +kernel
theorem dX5_layFold_49 : decode cX5_layFold 49 = .ok (.aload_n 0, 1) := by decide +kernel
theorem dX5_layFold_50 : decode cX5_layFold 50 = .ok (.getfield 24, 3) := by decide +kernel
theorem dX5_layFold_53 : decode cX5_layFold 53 = .ok (.iload_n 1, 1) := by decide +kernel
theorem dX5_layFold_54 : decode cX5_layFold 54 = .ok (.iconst 1, 1) := by decide +kernel
theorem dX5_layFold_55 : decode cX5_layFold 55 = .ok (.iadd, 1) := by decide +kernel
theorem dX5_layFold_56 : decode cX5_layFold 56 = .ok (.aaload, 1) := by decide +kernel
theorem dX5_layFold_57 : decode cX5_layFold 57 = .ok (.aload_n 0, 1) := by decide +kernel
theorem dX5_layFold_58 : decode cX5_layFold 58 = .ok (.getfield 24, 3) := by decide +kernel
theorem dX5_layFold_61 : decode cX5_layFold 61 = .ok (.iload_n 1, 1) := by decide +kernel
theorem dX5_layFold_62 : decode cX5_layFold 62 = .ok (.aaload, 1) := by decide +kernel
theorem dX5_layFold_63 : decode cX5_layFold 63 = .ok (.invokevirtual 33, 3) := by decide +kernel
theorem dX5_layFold_66 : decode cX5_layFold 66 = .ok (.aload_n 0, 1) := by decide +kernel
theorem dX5_layFold_67 : decode cX5_layFold 67 = .ok (.getfield 24, 3) := by decide +kernel
theorem dX5_layFold_70 : decode cX5_layFold 70 = .ok (.iload_n 1, 1) := by decide +kernel
theorem dX5_layFold_71 : decode cX5_layFold 71 = .ok (.iconst 1, 1) := by decide +kernel
theorem dX5_layFold_72 : decode cX5_layFold 72 = .ok (.iadd, 1) := by decide +kernel
theorem dX5_layFold_73 : decode cX5_layFold 73 = .ok (.aaload, 1) := by decide +kernel
theorem dX5_layFold_74 : decode cX5_layFold 74 = .ok (.iload_n 3, 1) := by decide +kernel
theorem dX5_layFold_75 : decode cX5_layFold 75 = .ok (.invokevirtual 79, 3) := by decide +kernel
theorem dX5_layFold_78 : decode cX5_layFold 78 = .ok (.iconst 1, 1) := by decide +kernel
theorem dX5_layFold_79 : decode cX5_layFold 79 = .ok (.ireturn, 1) := by decide +kernel
theorem dX6_init_0 : decode cX6_init 0 = .ok (.aload_n 0, 1) := by decide +kernel
theorem dX6_init_1 : decode cX6_init 1 = .ok (.invokespecial 3, 3) := by decide +kernel
theorem dX6_init_4 : decode cX6_init 4 = .ok (.aload_n 0, 1) := by decide +kernel
theorem dX6_init_5 : decode cX6_init 5 = .ok (.new 9, 3) := by decide +kernel
theorem dX6_init_8 : decode cX6_init 8 = .ok (.dup, 1) := by decide +kernel
theorem dX6_init_9 : decode cX6_init 9 = .ok (.invokespecial 11, 3) := by decide +kernel
theorem dX6_init_12 : decode cX6_init 12 = .ok (.putfield 12, 3) := by decide +kernel
theorem dX6_init_15 : decode cX6_init 15 = .ok (.aload_n 0, 1) := by decide +kernel
theorem dX6_init_16 : decode cX6_init 16 = .ok (.new 18, 3) := by decide +kernel
theorem dX6_init_19 : decode cX6_init 19 = .ok (.dup, 1) := by decide +kernel
theorem dX6_init_20 : decode cX6_init 20 = .ok (.invokespecial 20, 3) := by decide +kernel
theorem dX6_init_23 : decode cX6_init 23 = .ok (.putfield 21, 3) := by decide +kernel
theorem dX6_init_26 : decode cX6_init 26 = .ok (.aload_n 0, 1) := by decide +kernel
theorem dX6_init_27 : decode cX6_init 27 = .ok (.iconst 0, 1) := by decide +kernel
theorem dX6_init_28 : decode cX6_init 28 = .ok (.putfield 25, 3) := by decide +kernel
theorem dX6_init_31 : decode cX6_init 31 = .ok (.aload_n 0, 1) := by decide +kernel
theorem dX6_init_32 : decode cX6_init 32 = .ok (.iconst 0, 1) := by decide +kernel
theorem dX6_init_33 : decode cX6_init 33 = .ok (.putfield 29, 3) := by decide +kernel
theorem dX6_init_36 : decode cX6_init 36 = .ok (.aload_n 0, 1) := by decide +kernel
theorem dX6_init_37 : decode cX6_init 37 = .ok (.iconst 0, 1) := by decide +kernel
theorem dX6_init_38 : decode cX6_init 38 = .ok (.putfield 32, 3) := by decide +kernel
theorem dX6_init_41 : decode cX6_init 41 = .ok (.aload_n 0, 1) := by decide +kernel
