theorem dX0_init_0 : decode cX0_init 0 = .ok (.aload_n 0, 1) := by decide +kernel
theorem dX0_init_1 : decode cX0_init 1 = .ok (.invokespecial 3, 3) := by decide +kernel
theorem dX0_init_4 : decode cX0_init 4 = .ok (.aload_n 0, 1) := by decide +kernel
theorem dX0_init_5 : decode cX0_init 5 = .ok (.bipush 13, 2) := by decide +kernel
theorem dX0_init_7 : decode cX0_init 7 = .ok (.bipush 13, 2) := by decide +kernel
theorem dX0_init_9 : decode cX0_init 9 = .ok (.multianewarray 9 2, 4) := by decide +kernel
theorem dX0_init_13 : decode cX0_init 13 = .ok (.putfield 11, 3) := by decide +kernel
theorem dX0_init_16 : decode cX0_init 16 = .ok (.aload_n 0, 1) := by decide +kernel
theorem dX0_init_17 : decode cX0_init 17 = .ok (.bipush 108, 2) := by decide +kernel
theorem dX0_init_19 : decode cX0_init 19 = .ok (.newarray .int, 2) := by decide +kernel
theorem dX0_init_21 : decode cX0_init 21 = .ok (.putfield 16, 3) := by decide +kernel
theorem dX0_init_24 : decode cX0_init 24 = .ok (.return_, 1) := by decide +kernel
theorem dX0_fill_0 : decode cX0_fill 0 = .ok (.iload_n 2, 1) := by decide +kernel
theorem dX0_fill_1 : decode cX0_fill 1 = .ok (.iconst (-1), 1) := by decide +kernel
theorem dX0_fill_2 : decode cX0_fill 2 = .ok (.if_icmp .ne 10, 3) := by decide +kernel
theorem dX0_fill_5 : decode cX0_fill 5 = .ok (.aload_n 1, 1) := by decide +kernel
theorem dX0_fill_6 : decode cX0_fill 6 = .ok (.getfield 20, 3) := by decide +kernel
theorem dX0_fill_9 : decode cX0_fill 9 = .ok (.goto 9, 3) := by decide +kernel
theorem dX0_fill_12 : decode cX0_fill 12 = .ok (.aload_n 1, 1) := by decide +kernel
theorem dX0_fill_13 : decode cX0_fill 13 = .ok (.getfield 20, 3) := by decide +kernel
theorem dX0_fill_16 : decode cX0_fill 16 = .ok (.iconst 1, 1) := by decide +kernel
theorem dX0_fill_17 : decode cX0_fill 17 = .ok (.isub, 1) := by decide +kernel
theorem dX0_fill_18 : decode cX0_fill 18 = .ok (.istore 5, 2) := by decide +kernel
theorem dX0_fill_20 : decode cX0_fill 20 = .ok (.iconst 0, 1) := by decide +kernel
theorem dX0_fill_21 : decode cX0_fill 21 = .ok (.istore 6, 2) := by decide +kernel
theorem dX0_fill_23 : decode cX0_fill 23 = .ok (.iload 6, 2) := by decide +kernel
theorem dX0_fill_25 : decode cX0_fill 25 = .ok (.iload 5, 2) := by decide +kernel
theorem dX0_fill_27 : decode cX0_fill 27 = .ok (.if_icmp .ge 79, 3) := by decide +kernel
theorem dX0_fill_30 : decode cX0_fill 30 = .ok (.aload_n 0, 1) := by decide +kernel
theorem dX0_fill_31 : decode cX0_fill 31 = .ok (.aload_n 1, 1) := by decide +kernel
theorem dX0_fill_32 : decode cX0_fill 32 = .ok (.getfield 26, 3) := by decide +kernel
theorem dX0_fill_35 : decode cX0_fill 35 = .ok (.invokevirtual 29, 3) := by decide +kernel
theorem dX0_fill_38 : decode cX0_fill 38 = .ok (.iload 6, 2) := by decide +kernel
theorem dX0_fill_40 : decode cX0_fill 40 = .ok (.istore 7, 2) := by decide +kernel
theorem dX0_fill_42 : decode cX0_fill 42 = .ok (.iload 7, 2) := by decide +kernel
theorem dX0_fill_44 : decode cX0_fill 44 = .ok (.iload 5, 2) := by decide +kernel
theorem dX0_fill_46 : decode cX0_fill 46 = .ok (.if_icmp .ge 54, 3) := by decide +kernel
theorem dX0_fill_49 : decode cX0_fill 49 = .ok (.aload_n 0, 1) := by decide +kernel
theorem dX0_fill_50 : decode cX0_fill 50 = .ok (.aload_n 1, 1) := by decide +kernel
theorem dX0_fill_51 : decode cX0_fill 51 = .ok (.iload_n 2, 1) := by decide +kernel
theorem dX0_fill_52 : decode cX0_fill 52 = .ok (.iconst (-1), 1) := by decide +kernel
theorem dX0_fill_53 : decode cX0_fill 53 = .ok (.if_icmp .eq 9, 3) := by decide +kernel
theorem dX0_fill_56 : decode cX0_fill 56 = .ok (.iload 7, 2) := by decide +kernel
theorem dX0_fill_58 : decode cX0_fill 58 = .ok (.iload_n 2, 1) := by decide +kernel
theorem dX0_fill_59 : decode cX0_fill 59 = .ok (.if_icmp .ge 8, 3) := by decide +kernel
theorem dX0_fill_62 : decode cX0_fill 62 = .ok (.iload 7, 2) := by decide +kernel
theorem dX0_fill_64 : decode cX0_fill 64 = .ok (.goto 7, 3) := by decide +kernel
theorem dX0_fill_67 : decode cX0_fill 67 = .ok (.iload 7, 2) := by decide +kernel
theorem dX0_fill_69 : decode cX0_fill 69 = .ok (.iconst 1, 1) := by decide +kernel
theorem dX0_fill_70 : decode cX0_fill 70 = .ok (.iadd, 1) := by decide +kernel
theorem dX0_fill_71 : decode cX0_fill 71 = .ok (.invokevirtual 33, 3) := by decide +kernel
theorem dX0_fill_74 : decode cX0_fill 74 = .ok (.aload_n 0, 1) := by decide +kernel
theorem dX0_fill_75 : decode cX0_fill 75 = .ok (.getfield 11, 3) := by decide +kernel
theorem dX0_fill_78 : decode cX0_fill 78 = .ok (.iload 6, 2) := by decide +kernel
theorem dX0_fill_80 : decode cX0_fill 80 = .ok (.aaload, 1) := by decide +kernel
theorem dX0_fill_81 : decode cX0_fill 81 = .ok (.iload 7, 2) := by decide +kernel
theorem dX0_fill_83 : decode cX0_fill 83 = .ok (.iconst 1, 1) := by decide +kernel
theorem dX0_fill_84 : decode cX0_fill 84 = .ok (.iadd, 1) := by decide +kernel
theorem dX0_fill_85 : decode cX0_fill 85 = .ok (.aload_n 0, 1) := by decide +kernel
theorem dX0_fill_86 : decode cX0_fill 86 = .ok (.iload_n 3, 1) := by decide +kernel
theorem dX0_fill_87 : decode cX0_fill 87 = .ok (.invokevirtual 37, 3) := by decide +kernel
theorem dX0_fill_90 : decode cX0_fill 90 = .ok (.iload 4, 2) := by decide +kernel
theorem dX0_fill_92 : decode cX0_fill 92 = .ok (.iadd, 1) := by decide +kernel
theorem dX0_fill_93 : decode cX0_fill 93 = .ok (.iastore, 1) := by decide +kernel
theorem dX0_fill_94 : decode cX0_fill 94 = .ok (.iinc 7 1, 3) := by decide +kernel
theorem dX0_fill_97 : decode cX0_fill 97 = .ok (.goto (-55), 3) := by decide +kernel
theorem dX0_fill_100 : decode cX0_fill 100 = .ok (.iinc 6 1, 3) := by decide +kernel
theorem dX0_fill_103 : decode cX0_fill 103 = .ok (.goto (-80), 3) := by decide +kernel
theorem dX0_fill_106 : decode cX0_fill 106 = .ok (.return_, 1) := by decide +kernel
theorem dX0_startBlock_0 : decode cX0_startBlock 0 = .ok (.aload_n 0, 1) := by decide +kernel
theorem dX0_startBlock_1 : decode cX0_startBlock 1 = .ok (.iconst 0, 1) := by decide +kernel
theorem dX0_startBlock_2 : decode cX0_startBlock 2 = .ok (.putfield 41, 3) := by decide +kernel
theorem dX0_startBlock_5 : decode cX0_startBlock 5 = .ok (.aload_n 0, 1) := by decide +kernel
theorem dX0_startBlock_6 : decode cX0_startBlock 6 = .ok (.iconst 0, 1) := by decide +kernel
theorem dX0_startBlock_7 : decode cX0_startBlock 7 = .ok (.putfield 44, 3) := by decide +kernel
theorem dX0_startBlock_10 : decode cX0_startBlock 10 = .ok (.aload_n 0, 1) := by decide +kernel
theorem dX0_startBlock_11 : decode cX0_startBlock 11 = .ok (.iconst 0, 1) := by decide +kernel
theorem dX0_startBlock_12 : decode cX0_startBlock 12 = .ok (.putfield 47, 3) := by decide +kernel
theorem dX0_startBlock_15 : decode cX0_startBlock 15 = .ok (.iconst 0, 1) := by decide +kernel
theorem dX0_startBlock_16 : decode cX0_startBlock 16 = .ok (.istore_n 2, 1) := by decide +kernel
theorem dX0_startBlock_17 : decode cX0_startBlock 17 = .ok (.iload_n 2, 1) := by decide +kernel
theorem dX0_startBlock_18 : decode cX0_startBlock 18 = .ok (.iload_n 1, 1) := by decide +kernel
theorem dX0_startBlock_19 : decode cX0_startBlock 19 = .ok (.if_icmp .ge 16, 3) := by decide +kernel
theorem dX0_startBlock_22 : decode cX0_startBlock 22 = .ok (.aload_n 0, 1) := by decide +kernel
theorem dX0_startBlock_23 : decode cX0_startBlock 23 = .ok (.getfield 16, 3) := by decide +kernel
theorem dX0_startBlock_26 : decode cX0_startBlock 26 = .ok (.iload_n 2, 1) := by decide +kernel
theorem dX0_startBlock_27 : decode cX0_startBlock 27 = .ok (.iconst 0, 1) := by decide +kernel
theorem dX0_startBlock_28 : decode cX0_startBlock 28 = .ok (.iastore, 1) := by decide +kernel
theorem dX0_startBlock_29 : decode cX0_startBlock 29 = .ok (.iinc 2 1, 3) := by decide +kernel
theorem dX0_startBlock_32 : decode cX0_startBlock 32 = .ok (.goto (-15), 3) := by decide +kernel
theorem dX0_startBlock_35 : decode cX0_startBlock 35 = .ok (.return_, 1) := by decide +kernel
theorem dX0_addSentence_0 : decode cX0_addSentence 0 = .ok (.iconst 0, 1) := by decide +kernel
theorem dX0_addSentence_1 : decode cX0_addSentence 1 = .ok (.istore_n 3, 1) := by decide +kernel
theorem dX0_addSentence_2 : decode cX0_addSentence 2 = .ok (.iload_n 3, 1) := by decide +kernel
theorem dX0_addSentence_3 : decode cX0_addSentence 3 = .ok (.aload_n 1, 1) := by decide +kernel
theorem dX0_addSentence_4 : decode cX0_addSentence 4 = .ok (.getfield 50, 3) := by decide +kernel
theorem dX0_addSentence_7 : decode cX0_addSentence 7 = .ok (.iload_n 2, 1) := by decide +kernel
theorem dX0_addSentence_8 : decode cX0_addSentence 8 = .ok (.iaload, 1) := by decide +kernel
theorem dX0_addSentence_9 : decode cX0_addSentence 9 = .ok (.if_icmp .ge 95, 3) := by decide +kernel
theorem dX0_addSentence_12 : decode cX0_addSentence 12 = .ok (.aload_n 1, 1) := by decide +kernel
theorem dX0_addSentence_13 : decode cX0_addSentence 13 = .ok (.getfield 53, 3) := by decide +kernel
theorem dX0_addSentence_16 : decode cX0_addSentence 16 = .ok (.iload_n 2, 1) := by decide +kernel
theorem dX0_addSentence_17 : decode cX0_addSentence 17 = .ok (.aaload, 1) := by decide +kernel
theorem dX0_addSentence_18 : decode cX0_addSentence 18 = .ok (.iload_n 3, 1) := by decide +kernel
theorem dX0_addSentence_19 : decode cX0_addSentence 19 = .ok (.iaload, 1) := by decide +kernel
theorem dX0_addSentence_20 : decode cX0_addSentence 20 = .ok (.istore 4, 2) := by decide +kernel
theorem dX0_addSentence_22 : decode cX0_addSentence 22 = .ok (.aload_n 0, 1) := by decide +kernel
theorem dX0_addSentence_23 : decode cX0_addSentence 23 = .ok (.dup, 1) := by decide +kernel
theorem dX0_addSentence_24 : decode cX0_addSentence 24 = .ok (.getfield 41, 3) := by decide +kernel
theorem dX0_addSentence_27 : decode cX0_addSentence 27 = .ok (.iconst 1, 1) := by decide +kernel
theorem dX0_addSentence_28 : decode cX0_addSentence 28 = .ok (.iadd, 1) := by decide +kernel
theorem dX0_addSentence_29 : decode cX0_addSentence 29 = .ok (.putfield 41, 3) := by decide +kernel
theorem dX0_addSentence_32 : decode cX0_addSentence 32 = .ok (.aload_n 0, 1) := by decide +kernel
theorem dX0_addSentence_33 : decode cX0_addSentence 33 = .ok (.getfield 16, 3) := by decide +kernel
theorem dX0_addSentence_36 : decode cX0_addSentence 36 = .ok (.iload 4, 2) := by decide +kernel
theorem dX0_addSentence_38 : decode cX0_addSentence 38 = .ok (.dup2, 1) := by decide +kernel
theorem dX0_addSentence_39 : decode cX0_addSentence 39 = .ok (.iaload, 1) := by decide +kernel
theorem dX0_addSentence_40 : decode cX0_addSentence 40 = .ok (.iconst 1, 1) := by decide +kernel
theorem dX0_addSentence_41 : decode cX0_addSentence 41 = .ok (.iadd, 1) := by decide +kernel
theorem dX0_addSentence_42 : decode cX0_addSentence 42 = .ok (.iastore, 1) := by decide +kernel
theorem dX0_addSentence_43 : decode cX0_addSentence 43 = .ok (.aload_n 0, 1) := by decide +kernel
theorem dX0_addSentence_44 : decode cX0_addSentence 44 = .ok (.getfield 16, 3) := by decide +kernel
theorem dX0_addSentence_47 : decode cX0_addSentence 47 = .ok (.iload 4, 2) := by decide +kernel
theorem dX0_addSentence_49 : decode cX0_addSentence 49 = .ok (.iaload, 1) := by decide +kernel
theorem dX0_addSentence_50 : decode cX0_addSentence 50 = .ok (.iconst 1, 1) := by decide +kernel
theorem dX0_addSentence_51 : decode cX0_addSentence 51 = .ok (.if_icmp .ne 26, 3) := by decide +kernel
theorem dX0_addSentence_54 : decode cX0_addSentence 54 = .ok (.aload_n 0, 1) := by decide +kernel
theorem dX0_addSentence_55 : decode cX0_addSentence 55 = .ok (.dup, 1) := by decide +kernel
theorem dX0_addSentence_56 : decode cX0_addSentence 56 = .ok (.getfield 44, 3) := by decide +kernel
theorem dX0_addSentence_59 : decode cX0_addSentence 59 = .ok (.iconst 1, 1) := by decide +kernel
theorem dX0_addSentence_60 : decode cX0_addSentence 60 = .ok (.iadd, 1) := by decide +kernel
theorem dX0_addSentence_61 : decode cX0_addSentence 61 = .ok (.putfield 44, 3) := by decide +kernel
theorem dX0_addSentence_64 : decode cX0_addSentence 64 = .ok (.aload_n 0, 1) := by decide +kernel
theorem dX0_addSentence_65 : decode cX0_addSentence 65 = .ok (.dup, 1) := by decide +kernel
theorem dX0_addSentence_66 : decode cX0_addSentence 66 = .ok (.getfield 47, 3) := by decide +kernel
theorem dX0_addSentence_69 : decode cX0_addSentence 69 = .ok (.iconst 1, 1) := by decide +kernel
theorem dX0_addSentence_70 : decode cX0_addSentence 70 = .ok (.iadd, 1) := by decide +kernel
theorem dX0_addSentence_71 : decode cX0_addSentence 71 = .ok (.putfield 47, 3) := by decide +kernel
theorem dX0_addSentence_74 : decode cX0_addSentence 74 = .ok (.goto 24, 3) := by decide +kernel
theorem dX0_addSentence_77 : decode cX0_addSentence 77 = .ok (.aload_n 0, 1) := by decide +kernel
theorem dX0_addSentence_78 : decode cX0_addSentence 78 = .ok (.getfield 16, 3) := by decide +kernel
theorem dX0_addSentence_81 : decode cX0_addSentence 81 = .ok (.iload 4, 2) := by decide +kernel
theorem dX0_addSentence_83 : decode cX0_addSentence 83 = .ok (.iaload, 1) := by decide +kernel
theorem dX0_addSentence_84 : decode cX0_addSentence 84 = .ok (.iconst 2, 1) := by decide +kernel
theorem dX0_addSentence_85 : decode cX0_addSentence 85 = .ok (.if_icmp .ne 13, 3) := by decide +kernel
theorem dX0_addSentence_88 : decode cX0_addSentence 88 = .ok (.aload_n 0, 1) := by decide +kernel
theorem dX0_addSentence_89 : decode cX0_addSentence 89 = .ok (.dup, 1) := by decide +kernel
theorem dX0_addSentence_90 : decode cX0_addSentence 90 = .ok (.getfield 47, 3) := by decide +kernel
theorem dX0_addSentence_93 : decode cX0_addSentence 93 = .ok (.iconst 1, 1) := by decide +kernel
theorem dX0_addSentence_94 : decode cX0_addSentence 94 = .ok (.isub, 1) := by decide +kernel
theorem dX0_addSentence_95 : decode cX0_addSentence 95 = .ok (.putfield 47, 3) := by decide +kernel
theorem dX0_addSentence_98 : decode cX0_addSentence 98 = .ok (.iinc 3 1, 3) := by decide +kernel
theorem dX0_addSentence_101 : decode cX0_addSentence 101 = .ok (.goto (-99), 3) := by decide +kernel
theorem dX0_addSentence_104 : decode cX0_addSentence 104 = .ok (.return_, 1) := by decide +kernel
theorem dX0_price_0 : decode cX0_price 0 = .ok (.iload_n 1, 1) := by decide +kernel
theorem dX0_price_1 : decode cX0_price 1 = .ok (.ifCond .ne 10, 3) := by decide +kernel
theorem dX0_price_4 : decode cX0_price 4 = .ok (.iconst 2, 1) := by decide +kernel
theorem dX0_price_5 : decode cX0_price 5 = .ok (.aload_n 0, 1) := by decide +kernel
theorem dX0_price_6 : decode cX0_price 6 = .ok (.getfield 44, 3) := by decide +kernel
theorem dX0_price_9 : decode cX0_price 9 = .ok (.imul, 1) := by decide +kernel
theorem dX0_price_10 : decode cX0_price 10 = .ok (.ireturn, 1) := by decide +kernel
theorem dX0_price_11 : decode cX0_price 11 = .ok (.iload_n 1, 1) := by decide +kernel
theorem dX0_price_12 : decode cX0_price 12 = .ok (.iconst 1, 1) := by decide +kernel
theorem dX0_price_13 : decode cX0_price 13 = .ok (.if_icmp .ne 13, 3) := by decide +kernel
theorem dX0_price_16 : decode cX0_price 16 = .ok (.aload_n 0, 1) := by decide +kernel
theorem dX0_price_17 : decode cX0_price 17 = .ok (.getfield 44, 3) := by decide +kernel
theorem dX0_price_20 : decode cX0_price 20 = .ok (.aload_n 0, 1) := by decide +kernel
theorem dX0_price_21 : decode cX0_price 21 = .ok (.getfield 44, 3) := by decide +kernel
theorem dX0_price_24 : decode cX0_price 24 = .ok (.imul, 1) := by decide +kernel
theorem dX0_price_25 : decode cX0_price 25 = .ok (.ireturn, 1) := by decide +kernel
theorem dX0_price_26 : decode cX0_price 26 = .ok (.iload_n 1, 1) := by decide +kernel
theorem dX0_price_27 : decode cX0_price 27 = .ok (.iconst 2, 1) := by decide +kernel
theorem dX0_price_28 : decode cX0_price 28 = .ok (.if_icmp .ne 15, 3) := by decide +kernel
theorem dX0_price_31 : decode cX0_price 31 = .ok (.aload_n 0, 1) := by decide +kernel
theorem dX0_price_32 : decode cX0_price 32 = .ok (.getfield 41, 3) := by decide +kernel
theorem dX0_price_35 : decode cX0_price 35 = .ok (.iconst 3, 1) := by decide +kernel
theorem dX0_price_36 : decode cX0_price 36 = .ok (.aload_n 0, 1) := by decide +kernel
theorem dX0_price_37 : decode cX0_price 37 = .ok (.getfield 47, 3) := by decide +kernel
theorem dX0_price_40 : decode cX0_price 40 = .ok (.imul, 1) := by decide +kernel
theorem dX0_price_41 : decode cX0_price 41 = .ok (.iadd, 1) := by decide +kernel
theorem dX0_price_42 : decode cX0_price 42 = .ok (.ireturn, 1) := by decide +kernel
theorem dX0_price_43 : decode cX0_price 43 = .ok (.aload_n 0, 1) := by decide +kernel
theorem dX0_price_44 : decode cX0_price 44 = .ok (.getfield 41, 3) := by decide +kernel
theorem dX0_price_47 : decode cX0_price 47 = .ok (.aload_n 0, 1) := by decide +kernel
theorem dX0_price_48 : decode cX0_price 48 = .ok (.getfield 44, 3) := by decide +kernel
theorem dX0_price_51 : decode cX0_price 51 = .ok (.isub, 1) := by decide +kernel
theorem dX0_price_52 : decode cX0_price 52 = .ok (.istore_n 2, 1) := by decide +kernel
theorem dX0_price_53 : decode cX0_price 53 = .ok (.iload_n 2, 1) := by decide +kernel
theorem dX0_price_54 : decode cX0_price 54 = .ok (.iconst 4, 1) := by decide +kernel
theorem dX0_price_55 : decode cX0_price 55 = .ok (.aload_n 0, 1) := by decide +kernel
theorem dX0_price_56 : decode cX0_price 56 = .ok (.getfield 44, 3) := by decide +kernel
theorem dX0_price_59 : decode cX0_price 59 = .ok (.imul, 1) := by decide +kernel
theorem dX0_price_60 : decode cX0_price 60 = .ok (.if_icmp .ge 14, 3) := by decide +kernel
theorem dX0_price_63 : decode cX0_price 63 = .ok (.iconst 4, 1) := by decide +kernel
theorem dX0_price_64 : decode cX0_price 64 = .ok (.aload_n 0, 1) := by decide +kernel
theorem dX0_price_65 : decode cX0_price 65 = .ok (.getfield 44, 3) := by decide +kernel
theorem dX0_price_68 : decode cX0_price 68 = .ok (.imul, 1) := by decide +kernel
theorem dX0_price_69 : decode cX0_price 69 = .ok (.iload_n 2, 1) := by decide +kernel
theorem dX0_price_70 : decode cX0_price 70 = .ok (.isub, 1) := by decide +kernel
theorem dX0_price_71 : decode cX0_price 71 = .ok (.goto 4, 3) := by decide +kernel
theorem dX0_price_74 : decode cX0_price 74 = .ok (.iconst 0, 1) := by decide +kernel
theorem dX0_price_75 : decode cX0_price 75 = .ok (.ireturn, 1) := by decide +kernel
theorem dX1_init_0 : decode cX1_init 0 = .ok (.aload_n 0, 1) := by decide +kernel
theorem dX1_init_1 : decode cX1_init 1 = .ok (.invokespecial 3, 3) := by decide +kernel
theorem dX1_init_4 : decode cX1_init 4 = .ok (.aload_n 0, 1) := by decide +kernel
theorem dX1_init_5 : decode cX1_init 5 = .ok (.iconst 0, 1) := by decide +kernel
theorem dX1_init_6 : decode cX1_init 6 = .ok (.putfield 9, 3) := by decide +kernel
theorem dX1_init_9 : decode cX1_init 9 = .ok (.aload_n 0, 1) := by decide +kernel
theorem dX1_init_10 : decode cX1_init 10 = .ok (.bipush 100, 2) := by decide +kernel
theorem dX1_init_12 : decode cX1_init 12 = .ok (.newarray .int, 2) := by decide +kernel
theorem dX1_init_14 : decode cX1_init 14 = .ok (.putfield 15, 3) := by decide +kernel
theorem dX1_init_17 : decode cX1_init 17 = .ok (.aload_n 0, 1) := by decide +kernel
theorem dX1_init_18 : decode cX1_init 18 = .ok (.bipush 100, 2) := by decide +kernel
theorem dX1_init_20 : decode cX1_init 20 = .ok (.newarray .int, 2) := by decide +kernel
theorem dX1_init_22 : decode cX1_init 22 = .ok (.putfield 19, 3) := by decide +kernel
theorem dX1_init_25 : decode cX1_init 25 = .ok (.aload_n 0, 1) := by decide +kernel
theorem dX1_init_26 : decode cX1_init 26 = .ok (.bipush 100, 2) := by decide +kernel
theorem dX1_init_28 : decode cX1_init 28 = .ok (.newarray .int, 2) := by decide +kernel
theorem dX1_init_30 : decode cX1_init 30 = .ok (.putfield 22, 3) := by decide +kernel
theorem dX1_init_33 : decode cX1_init 33 = .ok (.aload_n 0, 1) := by decide +kernel
theorem dX1_init_34 : decode cX1_init 34 = .ok (.bipush 100, 2) := by decide +kernel
theorem dX1_init_36 : decode cX1_init 36 = .ok (.newarray .int, 2) := by decide +kernel
theorem dX1_init_38 : decode cX1_init 38 = .ok (.putfield 25, 3) := by decide +kernel
theorem dX1_init_41 : decode cX1_init 41 = .ok (.return_, 1) := by decide +kernel
theorem dX1_fill_0 : decode cX1_fill 0 = .ok (.aload_n 0, 1) := by decide +kernel
theorem dX1_fill_1 : decode cX1_fill 1 = .ok (.iconst 0, 1) := by decide +kernel
theorem dX1_fill_2 : decode cX1_fill 2 = .ok (.putfield 9, 3) := by decide +kernel
theorem dX1_fill_5 : decode cX1_fill 5 = .ok (.iconst 0, 1) := by decide +kernel
theorem dX1_fill_6 : decode cX1_fill 6 = .ok (.istore_n 3, 1) := by decide +kernel
theorem dX1_fill_7 : decode cX1_fill 7 = .ok (.iload_n 3, 1) := by decide +kernel
theorem dX1_fill_8 : decode cX1_fill 8 = .ok (.aload_n 1, 1) := by decide +kernel
theorem dX1_fill_9 : decode cX1_fill 9 = .ok (.getfield 28, 3) := by decide +kernel
theorem dX1_fill_12 : decode cX1_fill 12 = .ok (.if_icmp .ge 16, 3) := by decide +kernel
theorem dX1_fill_15 : decode cX1_fill 15 = .ok (.aload_n 0, 1) := by decide +kernel
theorem dX1_fill_16 : decode cX1_fill 16 = .ok (.aload_n 1, 1) := by decide +kernel
theorem dX1_fill_17 : decode cX1_fill 17 = .ok (.iload_n 3, 1) := by decide +kernel
theorem dX1_fill_18 : decode cX1_fill 18 = .ok (.iload_n 2, 1) := by decide +kernel
theorem dX1_fill_19 : decode cX1_fill 19 = .ok (.invokevirtual 33, 3) := by decide +kernel
theorem dX1_fill_22 : decode cX1_fill 22 = .ok (.iinc 3 1, 3) := by decide +kernel
theorem dX1_fill_25 : decode cX1_fill 25 = .ok (.goto (-18), 3) := by decide +kernel
theorem dX1_fill_28 : decode cX1_fill 28 = .ok (.return_, 1) := by decide +kernel
theorem dX1_linkStem_0 : decode cX1_linkStem 0 = .ok (.aload_n 1, 1) := by decide +kernel
theorem dX1_linkStem_1 : decode cX1_linkStem 1 = .ok (.getfield 37, 3) := by decide +kernel
theorem dX1_linkStem_4 : decode cX1_linkStem 4 = .ok (.iload_n 2, 1) := by decide +kernel
theorem dX1_linkStem_5 : decode cX1_linkStem 5 = .ok (.iaload, 1) := by decide +kernel
theorem dX1_linkStem_6 : decode cX1_linkStem 6 = .ok (.istore 4, 2) := by decide +kernel
theorem dX1_linkStem_8 : decode cX1_linkStem 8 = .ok (.iload 4, 2) := by decide +kernel
theorem dX1_linkStem_10 : decode cX1_linkStem 10 = .ok (.istore 5, 2) := by decide +kernel
theorem dX1_linkStem_12 : decode cX1_linkStem 12 = .ok (.iconst 0, 1) := by decide +kernel
theorem dX1_linkStem_13 : decode cX1_linkStem 13 = .ok (.istore 6, 2) := by decide +kernel
theorem dX1_linkStem_15 : decode cX1_linkStem 15 = .ok (.iload 4, 2) := by decide +kernel
theorem dX1_linkStem_17 : decode cX1_linkStem 17 = .ok (.istore 7, 2) := by decide +kernel
theorem dX1_linkStem_19 : decode cX1_linkStem 19 = .ok (.iload 7, 2) := by decide +kernel
theorem dX1_linkStem_21 : decode cX1_linkStem 21 = .ok (.aload_n 1, 1) := by decide +kernel
theorem dX1_linkStem_22 : decode cX1_linkStem 22 = .ok (.getfield 38, 3) := by decide +kernel
theorem dX1_linkStem_25 : decode cX1_linkStem 25 = .ok (.iload_n 2, 1) := by decide +kernel
theorem dX1_linkStem_26 : decode cX1_linkStem 26 = .ok (.iaload, 1) := by decide +kernel
theorem dX1_linkStem_27 : decode cX1_linkStem 27 = .ok (.if_icmp .gt 66, 3) := by decide +kernel
theorem dX1_linkStem_30 : decode cX1_linkStem 30 = .ok (.aload_n 1, 1) := by decide +kernel
theorem dX1_linkStem_31 : decode cX1_linkStem 31 = .ok (.getfield 39, 3) := by decide +kernel
theorem dX1_linkStem_34 : decode cX1_linkStem 34 = .ok (.iload 7, 2) := by decide +kernel
theorem dX1_linkStem_36 : decode cX1_linkStem 36 = .ok (.aaload, 1) := by decide +kernel
theorem dX1_linkStem_37 : decode cX1_linkStem 37 = .ok (.iload_n 2, 1) := by decide +kernel
theorem dX1_linkStem_38 : decode cX1_linkStem 38 = .ok (.iaload, 1) := by decide +kernel
theorem dX1_linkStem_39 : decode cX1_linkStem 39 = .ok (.istore 8, 2) := by decide +kernel
theorem dX1_linkStem_41 : decode cX1_linkStem 41 = .ok (.iload 8, 2) := by decide +kernel
theorem dX1_linkStem_43 : decode cX1_linkStem 43 = .ok (.ifCond .ne 6, 3) := by decide +kernel
theorem dX1_linkStem_46 : decode cX1_linkStem 46 = .ok (.goto 41, 3) := by decide +kernel
theorem dX1_linkStem_49 : decode cX1_linkStem 49 = .ok (.iload 7, 2) := by decide +kernel
theorem dX1_linkStem_51 : decode cX1_linkStem 51 = .ok (.iload 5, 2) := by decide +kernel
theorem dX1_linkStem_53 : decode cX1_linkStem 53 = .ok (.isub, 1) := by decide +kernel
theorem dX1_linkStem_54 : decode cX1_linkStem 54 = .ok (.iload_n 3, 1) := by decide +kernel
theorem dX1_linkStem_55 : decode cX1_linkStem 55 = .ok (.if_icmp .le 21, 3) := by decide +kernel
theorem dX1_linkStem_58 : decode cX1_linkStem 58 = .ok (.aload_n 0, 1) := by decide +kernel
theorem dX1_linkStem_59 : decode cX1_linkStem 59 = .ok (.iload_n 2, 1) := by decide +kernel
theorem dX1_linkStem_60 : decode cX1_linkStem 60 = .ok (.iload 4, 2) := by decide +kernel
theorem dX1_linkStem_62 : decode cX1_linkStem 62 = .ok (.iload 5, 2) := by decide +kernel
theorem dX1_linkStem_64 : decode cX1_linkStem 64 = .ok (.iload 6, 2) := by decide +kernel
theorem dX1_linkStem_66 : decode cX1_linkStem 66 = .ok (.invokevirtual 43, 3) := by decide +kernel
theorem dX1_linkStem_69 : decode cX1_linkStem 69 = .ok (.iload 7, 2) := by decide +kernel
theorem dX1_linkStem_71 : decode cX1_linkStem 71 = .ok (.istore 4, 2) := by decide +kernel
theorem dX1_linkStem_73 : decode cX1_linkStem 73 = .ok (.iconst 0, 1) := by decide +kernel
theorem dX1_linkStem_74 : decode cX1_linkStem 74 = .ok (.istore 6, 2) := by decide +kernel
theorem dX1_linkStem_76 : decode cX1_linkStem 76 = .ok (.iload 7, 2) := by decide +kernel
theorem dX1_linkStem_78 : decode cX1_linkStem 78 = .ok (.istore 5, 2) := by decide +kernel
theorem dX1_linkStem_80 : decode cX1_linkStem 80 = .ok (.iload 6, 2) := by decide +kernel
theorem dX1_linkStem_82 : decode cX1_linkStem 82 = .ok (.iload 8, 2) := by decide +kernel
theorem dX1_linkStem_84 : decode cX1_linkStem 84 = .ok (.iadd, 1) := by decide +kernel
theorem dX1_linkStem_85 : decode cX1_linkStem 85 = .ok (.istore 6, 2) := by decide +kernel
theorem dX1_linkStem_87 : decode cX1_linkStem 87 = .ok (.iinc 7 1, 3) := by decide +kernel
theorem dX1_linkStem_90 : decode cX1_linkStem 90 = .ok (.goto (-71), 3) := by decide +kernel
theorem dX1_linkStem_93 : decode cX1_linkStem 93 = .ok (.aload_n 0, 1) := by decide +kernel
theorem dX1_linkStem_94 : decode cX1_linkStem 94 = .ok (.iload_n 2, 1) := by decide +kernel
theorem dX1_linkStem_95 : decode cX1_linkStem 95 = .ok (.iload 4, 2) := by decide +kernel
theorem dX1_linkStem_97 : decode cX1_linkStem 97 = .ok (.iload 5, 2) := by decide +kernel
theorem dX1_linkStem_99 : decode cX1_linkStem 99 = .ok (.iload 6, 2) := by decide +kernel
theorem dX1_linkStem_101 : decode cX1_linkStem 101 = .ok (.invokevirtual 43, 3) := by decide +kernel
theorem dX1_linkStem_104 : decode cX1_linkStem 104 = .ok (.return_, 1) := by decide +kernel
theorem dX1_keep_0 : decode cX1_keep 0 = .ok (.iload 4, 2) := by decide +kernel
theorem dX1_keep_2 : decode cX1_keep 2 = .ok (.iconst 2, 1) := by decide +kernel
theorem dX1_keep_3 : decode cX1_keep 3 = .ok (.if_icmp .lt 12, 3) := by decide +kernel
theorem dX1_keep_6 : decode cX1_keep 6 = .ok (.aload_n 0, 1) := by decide +kernel
theorem dX1_keep_7 : decode cX1_keep 7 = .ok (.getfield 9, 3) := by decide +kernel
theorem dX1_keep_10 : decode cX1_keep 10 = .ok (.bipush 100, 2) := by decide +kernel
theorem dX1_keep_12 : decode cX1_keep 12 = .ok (.if_icmp .lt 4, 3) := by decide +kernel
theorem dX1_keep_15 : decode cX1_keep 15 = .ok (.return_, 1) := by decide +kernel
theorem dX1_keep_16 : decode cX1_keep 16 = .ok (.aload_n 0, 1) := by decide +kernel
theorem dX1_keep_17 : decode cX1_keep 17 = .ok (.getfield 15, 3) := by decide +kernel
theorem dX1_keep_20 : decode cX1_keep 20 = .ok (.aload_n 0, 1) := by decide +kernel
theorem dX1_keep_21 : decode cX1_keep 21 = .ok (.getfield 9, 3) := by decide +kernel
theorem dX1_keep_24 : decode cX1_keep 24 = .ok (.iload_n 1, 1) := by decide +kernel
theorem dX1_keep_25 : decode cX1_keep 25 = .ok (.iastore, 1) := by decide +kernel
theorem dX1_keep_26 : decode cX1_keep 26 = .ok (.aload_n 0, 1) := by decide +kernel
theorem dX1_keep_27 : decode cX1_keep 27 = .ok (.getfield 19, 3) := by decide +kernel
theorem dX1_keep_30 : decode cX1_keep 30 = .ok (.aload_n 0, 1) := by decide +kernel
theorem dX1_keep_31 : decode cX1_keep 31 = .ok (.getfield 9, 3) := by decide +kernel
theorem dX1_keep_34 : decode cX1_keep 34 = .ok (.iload_n 2, 1) := by decide +kernel
theorem dX1_keep_35 : decode cX1_keep 35 = .ok (.iastore, 1) := by decide +kernel
theorem dX1_keep_36 : decode cX1_keep 36 = .ok (.aload_n 0, 1) := by decide +kernel
theorem dX1_keep_37 : decode cX1_keep 37 = .ok (.getfield 22, 3) := by decide +kernel
theorem dX1_keep_40 : decode cX1_keep 40 = .ok (.aload_n 0, 1) := by decide +kernel
theorem dX1_keep_41 : decode cX1_keep 41 = .ok (.getfield 9, 3) := by decide +kernel
theorem dX1_keep_44 : decode cX1_keep 44 = .ok (.iload_n 3, 1) := by decide +kernel
theorem dX1_keep_45 : decode cX1_keep 45 = .ok (.iastore, 1) := by decide +kernel
theorem dX1_keep_46 : decode cX1_keep 46 = .ok (.aload_n 0, 1) := by decide +kernel
theorem dX1_keep_47 : decode cX1_keep 47 = .ok (.getfield 25, 3) := by decide +kernel
theorem dX1_keep_50 : decode cX1_keep 50 = .ok (.aload_n 0, 1) := by decide +kernel
theorem dX1_keep_51 : decode cX1_keep 51 = .ok (.getfield 9, 3) := by decide +kernel
theorem dX1_keep_54 : decode cX1_keep 54 = .ok (.iload 4, 2) := by decide +kernel
theorem dX1_keep_56 : decode cX1_keep 56 = .ok (.iastore, 1) := by decide +kernel
theorem dX1_keep_57 : decode cX1_keep 57 = .ok (.aload_n 0, 1) := by decide +kernel
theorem dX1_keep_58 : decode cX1_keep 58 = .ok (.dup, 1) := by decide +kernel
theorem dX1_keep_59 : decode cX1_keep 59 = .ok (.getfield 9, 3) := by decide +kernel
theorem dX1_keep_62 : decode cX1_keep 62 = .ok (.iconst 1, 1) := by decide +kernel
theorem dX1_keep_63 : decode cX1_keep 63 = .ok (.iadd, 1) := by decide +kernel
theorem dX1_keep_64 : decode cX1_keep 64 = .ok (.putfield 9, 3) := by decide +kernel
theorem dX1_keep_67 : decode cX1_keep 67 = .ok (.return_, 1) := by decide +kernel
theorem dX1_weightOf_0 : decode cX1_weightOf 0 = .ok (.aload_n 0, 1) := by decide +kernel
theorem dX1_weightOf_1 : decode cX1_weightOf 1 = .ok (.getfield 25, 3) := by decide +kernel
theorem dX1_weightOf_4 : decode cX1_weightOf 4 = .ok (.iload_n 1, 1) := by decide +kernel
theorem dX1_weightOf_5 : decode cX1_weightOf 5 = .ok (.iaload, 1) := by decide +kernel
theorem dX1_weightOf_6 : decode cX1_weightOf 6 = .ok (.aload_n 0, 1) := by decide +kernel
theorem dX1_weightOf_7 : decode cX1_weightOf 7 = .ok (.getfield 22, 3) := by decide +kernel
theorem dX1_weightOf_10 : decode cX1_weightOf 10 = .ok (.iload_n 1, 1) := by decide +kernel
theorem dX1_weightOf_11 : decode cX1_weightOf 11 = .ok (.iaload, 1) := by decide +kernel
theorem dX1_weightOf_12 : decode cX1_weightOf 12 = .ok (.aload_n 0, 1) := by decide +kernel
theorem dX1_weightOf_13 : decode cX1_weightOf 13 = .ok (.getfield 19, 3) := by decide +kernel
theorem dX1_weightOf_16 : decode cX1_weightOf 16 = .ok (.iload_n 1, 1) := by decide +kernel
theorem dX1_weightOf_17 : decode cX1_weightOf 17 = .ok (.iaload, 1) := by decide +kernel
theorem dX1_weightOf_18 : decode cX1_weightOf 18 = .ok (.isub, 1) := by decide +kernel
theorem dX1_weightOf_19 : decode cX1_weightOf 19 = .ok (.iconst 1, 1) := by decide +kernel
theorem dX1_weightOf_20 : decode cX1_weightOf 20 = .ok (.iadd, 1) := by decide +kernel
theorem dX1_weightOf_21 : decode cX1_weightOf 21 = .ok (.imul, 1) := by decide +kernel
theorem dX1_weightOf_22 : decode cX1_weightOf 22 = .ok (.ireturn, 1) := by decide +kernel
theorem dX1_goesOver_0 : decode cX1_goesOver 0 = .ok (.aload_n 0, 1) := by decide +kernel
theorem dX1_goesOver_1 : decode cX1_goesOver 1 = .ok (.getfield 19, 3) := by decide +kernel
theorem dX1_goesOver_4 : decode cX1_goesOver 4 = .ok (.iload_n 1, 1) := by decide +kernel
theorem dX1_goesOver_5 : decode cX1_goesOver 5 = .ok (.iaload, 1) := by decide +kernel
theorem dX1_goesOver_6 : decode cX1_goesOver 6 = .ok (.iload_n 2, 1) := by decide +kernel
theorem dX1_goesOver_7 : decode cX1_goesOver 7 = .ok (.if_icmp .ge 17, 3) := by decide +kernel
theorem dX1_goesOver_10 : decode cX1_goesOver 10 = .ok (.aload_n 0, 1) := by decide +kernel
theorem dX1_goesOver_11 : decode cX1_goesOver 11 = .ok (.getfield 22, 3) := by decide +kernel
theorem dX1_goesOver_14 : decode cX1_goesOver 14 = .ok (.iload_n 1, 1) := by decide +kernel
theorem dX1_goesOver_15 : decode cX1_goesOver 15 = .ok (.iaload, 1) := by decide +kernel
theorem dX1_goesOver_16 : decode cX1_goesOver 16 = .ok (.iload_n 2, 1) := by decide +kernel
theorem dX1_goesOver_17 : decode cX1_goesOver 17 = .ok (.if_icmp .lt 7, 3) := by decide +kernel
theorem dX1_goesOver_20 : decode cX1_goesOver 20 = .ok (.iconst 1, 1) := by decide +kernel
theorem dX1_goesOver_21 : decode cX1_goesOver 21 = .ok (.goto 4, 3) := by decide +kernel
theorem dX1_goesOver_24 : decode cX1_goesOver 24 = .ok (.iconst 0, 1) := by decide +kernel
theorem dX1_goesOver_25 : decode cX1_goesOver 25 = .ok (.ireturn, 1) := by decide +kernel
theorem dX1_numberOver_0 : decode cX1_numberOver 0 = .ok (.iconst 0, 1) := by decide +kernel
theorem dX1_numberOver_1 : decode cX1_numberOver 1 = .ok (.istore_n 2, 1) := by decide +kernel
theorem dX1_numberOver_2 : decode cX1_numberOver 2 = .ok (.iconst 0, 1) := by decide +kernel
theorem dX1_numberOver_3 : decode cX1_numberOver 3 = .ok (.istore_n 3, 1) := by decide +kernel
theorem dX1_numberOver_4 : decode cX1_numberOver 4 = .ok (.iload_n 3, 1) := by decide +kernel
theorem dX1_numberOver_5 : decode cX1_numberOver 5 = .ok (.aload_n 0, 1) := by decide +kernel
theorem dX1_numberOver_6 : decode cX1_numberOver 6 = .ok (.getfield 9, 3) := by decide +kernel
theorem dX1_numberOver_9 : decode cX1_numberOver 9 = .ok (.if_icmp .ge 21, 3) := by decide +kernel
theorem dX1_numberOver_12 : decode cX1_numberOver 12 = .ok (.aload_n 0, 1) := by decide +kernel
theorem dX1_numberOver_13 : decode cX1_numberOver 13 = .ok (.iload_n 3, 1) := by decide +kernel
theorem dX1_numberOver_14 : decode cX1_numberOver 14 = .ok (.iload_n 1, 1) := by decide +kernel
theorem dX1_numberOver_15 : decode cX1_numberOver 15 = .ok (.invokevirtual 47, 3) := by decide +kernel
theorem dX1_numberOver_18 : decode cX1_numberOver 18 = .ok (.ifCond .eq 6, 3) := by decide +kernel
theorem dX1_numberOver_21 : decode cX1_numberOver 21 = .ok (.iinc 2 1, 3) := by decide +kernel
theorem dX1_numberOver_24 : decode cX1_numberOver 24 = .ok (.iinc 3 1, 3) := by decide +kernel
theorem dX1_numberOver_27 : decode cX1_numberOver 27 = .ok (.goto (-23), 3) := by decide +kernel
theorem dX1_numberOver_30 : decode cX1_numberOver 30 = .ok (.iload_n 2, 1) := by decide +kernel
theorem dX1_numberOver_31 : decode cX1_numberOver 31 = .ok (.ireturn, 1) := by decide +kernel
theorem dX1_weightOver_0 : decode cX1_weightOver 0 = .ok (.iconst 0, 1) := by decide +kernel
theorem dX1_weightOver_1 : decode cX1_weightOver 1 = .ok (.istore_n 2, 1) := by decide +kernel
theorem dX1_weightOver_2 : decode cX1_weightOver 2 = .ok (.iconst 0, 1) := by decide +kernel
theorem dX1_weightOver_3 : decode cX1_weightOver 3 = .ok (.istore_n 3, 1) := by decide +kernel
theorem dX1_weightOver_4 : decode cX1_weightOver 4 = .ok (.iload_n 3, 1) := by decide +kernel
theorem dX1_weightOver_5 : decode cX1_weightOver 5 = .ok (.aload_n 0, 1) := by decide +kernel
theorem dX1_weightOver_6 : decode cX1_weightOver 6 = .ok (.getfield 9, 3) := by decide +kernel
theorem dX1_weightOver_9 : decode cX1_weightOver 9 = .ok (.if_icmp .ge 26, 3) := by decide +kernel
theorem dX1_weightOver_12 : decode cX1_weightOver 12 = .ok (.aload_n 0, 1) := by decide +kernel
theorem dX1_weightOver_13 : decode cX1_weightOver 13 = .ok (.iload_n 3, 1) := by decide +kernel
theorem dX1_weightOver_14 : decode cX1_weightOver 14 = .ok (.iload_n 1, 1) := by decide +kernel
theorem dX1_weightOver_15 : decode cX1_weightOver 15 = .ok (.invokevirtual 47, 3) := by decide +kernel
theorem dX1_weightOver_18 : decode cX1_weightOver 18 = .ok (.ifCond .eq 11, 3) := by decide +kernel
theorem dX1_weightOver_21 : decode cX1_weightOver 21 = .ok (.iload_n 2, 1) := by decide +kernel
theorem dX1_weightOver_22 : decode cX1_weightOver 22 = .ok (.aload_n 0, 1) := by decide +kernel
theorem dX1_weightOver_23 : decode cX1_weightOver 23 = .ok (.iload_n 3, 1) := by decide +kernel
theorem dX1_weightOver_24 : decode cX1_weightOver 24 = .ok (.invokevirtual 51, 3) := by decide +kernel
theorem dX1_weightOver_27 : decode cX1_weightOver 27 = .ok (.iadd, 1) := by decide +kernel
theorem dX1_weightOver_28 : decode cX1_weightOver 28 = .ok (.istore_n 2, 1) := by decide +kernel
theorem dX1_weightOver_29 : decode cX1_weightOver 29 = .ok (.iinc 3 1, 3) := by decide +kernel
theorem dX1_weightOver_32 : decode cX1_weightOver 32 = .ok (.goto (-28), 3) := by decide +kernel
theorem dX1_weightOver_35 : decode cX1_weightOver 35 = .ok (.iload_n 2, 1) := by decide +kernel
theorem dX1_weightOver_36 : decode cX1_weightOver 36 = .ok (.ireturn, 1) := by decide +kernel
theorem dX2_init_0 : decode cX2_init 0 = .ok (.aload_n 0, 1) := by decide +kernel
theorem dX2_init_1 : decode cX2_init 1 = .ok (.invokespecial 3, 3) := by decide +kernel
theorem dX2_init_4 : decode cX2_init 4 = .ok (.aload_n 0, 1) := by decide +kernel
theorem dX2_init_5 : decode cX2_init 5 = .ok (.bipush 9, 2) := by decide +kernel
theorem dX2_init_7 : decode cX2_init 7 = .ok (.newarray .int, 2) := by decide +kernel
theorem dX2_init_9 : decode cX2_init 9 = .ok (.putfield 9, 3) := by decide +kernel
theorem dX2_init_12 : decode cX2_init 12 = .ok (.aload_n 0, 1) := by decide +kernel
theorem dX2_init_13 : decode cX2_init 13 = .ok (.bipush 9, 2) := by decide +kernel
theorem dX2_init_15 : decode cX2_init 15 = .ok (.newarray .int, 2) := by decide +kernel
theorem dX2_init_17 : decode cX2_init 17 = .ok (.putfield 15, 3) := by decide +kernel
theorem dX2_init_20 : decode cX2_init 20 = .ok (.aload_n 0, 1) := by decide +kernel
theorem dX2_init_21 : decode cX2_init 21 = .ok (.new 18, 3) := by decide +kernel
theorem dX2_init_24 : decode cX2_init 24 = .ok (.dup, 1) := by decide +kernel
theorem dX2_init_25 : decode cX2_init 25 = .ok (.invokespecial 20, 3) := by decide +kernel
theorem dX2_init_28 : decode cX2_init 28 = .ok (.putfield 21, 3) := by decide +kernel
theorem dX2_init_31 : decode cX2_init 31 = .ok (.aload_n 0, 1) := by decide +kernel
theorem dX2_init_32 : decode cX2_init 32 = .ok (.new 25, 3) := by decide +kernel
theorem dX2_init_35 : decode cX2_init 35 = .ok (.dup, 1) := by decide +kernel
theorem dX2_init_36 : decode cX2_init 36 = .ok (.invokespecial 27, 3) := by decide +kernel
theorem dX2_init_39 : decode cX2_init 39 = .ok (.putfield 28, 3) := by decide +kernel
theorem dX2_init_42 : decode cX2_init 42 = .ok (.return_, 1) := by decide +kernel
theorem dX2_fill_0 : decode cX2_fill 0 = .ok (.iconst 0, 1) := by decide +kernel
theorem dX2_fill_1 : decode cX2_fill 1 = .ok (.istore 4, 2) := by decide +kernel
theorem dX2_fill_3 : decode cX2_fill 3 = .ok (.iload 4, 2) := by decide +kernel
theorem dX2_fill_5 : decode cX2_fill 5 = .ok (.bipush 8, 2) := by decide +kernel
theorem dX2_fill_7 : decode cX2_fill 7 = .ok (.if_icmp .gt 25, 3) := by decide +kernel
theorem dX2_fill_10 : decode cX2_fill 10 = .ok (.aload_n 0, 1) := by decide +kernel
theorem dX2_fill_11 : decode cX2_fill 11 = .ok (.getfield 9, 3) := by decide +kernel
theorem dX2_fill_14 : decode cX2_fill 14 = .ok (.iload 4, 2) := by decide +kernel
theorem dX2_fill_16 : decode cX2_fill 16 = .ok (.iconst (-1), 1) := by decide +kernel
theorem dX2_fill_17 : decode cX2_fill 17 = .ok (.iastore, 1) := by decide +kernel
theorem dX2_fill_18 : decode cX2_fill 18 = .ok (.aload_n 0, 1) := by decide +kernel
theorem dX2_fill_19 : decode cX2_fill 19 = .ok (.getfield 15, 3) := by decide +kernel
theorem dX2_fill_22 : decode cX2_fill 22 = .ok (.iload 4, 2) := by decide +kernel
theorem dX2_fill_24 : decode cX2_fill 24 = .ok (.iconst (-1), 1) := by decide +kernel
theorem dX2_fill_25 : decode cX2_fill 25 = .ok (.iastore, 1) := by decide +kernel
theorem dX2_fill_26 : decode cX2_fill 26 = .ok (.iinc 4 1, 3) := by decide +kernel
theorem dX2_fill_29 : decode cX2_fill 29 = .ok (.goto (-26), 3) := by decide +kernel
theorem dX2_fill_32 : decode cX2_fill 32 = .ok (.aload_n 1, 1) := by decide +kernel
theorem dX2_fill_33 : decode cX2_fill 33 = .ok (.getfield 32, 3) := by decide +kernel
theorem dX2_fill_36 : decode cX2_fill 36 = .ok (.iconst 1, 1) := by decide +kernel
theorem dX2_fill_37 : decode cX2_fill 37 = .ok (.isub, 1) := by decide +kernel
theorem dX2_fill_38 : decode cX2_fill 38 = .ok (.istore 4, 2) := by decide +kernel
theorem dX2_fill_40 : decode cX2_fill 40 = .ok (.iconst 0, 1) := by decide +kernel
theorem dX2_fill_41 : decode cX2_fill 41 = .ok (.istore 5, 2) := by decide +kernel
theorem dX2_fill_43 : decode cX2_fill 43 = .ok (.iload 5, 2) := by decide +kernel
theorem dX2_fill_45 : decode cX2_fill 45 = .ok (.aload_n 1, 1) := by decide +kernel
theorem dX2_fill_46 : decode cX2_fill 46 = .ok (.getfield 32, 3) := by decide +kernel
theorem dX2_fill_49 : decode cX2_fill 49 = .ok (.if_icmp .ge 79, 3) := by decide +kernel
theorem dX2_fill_52 : decode cX2_fill 52 = .ok (.aload_n 0, 1) := by decide +kernel
theorem dX2_fill_53 : decode cX2_fill 53 = .ok (.getfield 21, 3) := by decide +kernel
theorem dX2_fill_56 : decode cX2_fill 56 = .ok (.aload_n 1, 1) := by decide +kernel
theorem dX2_fill_57 : decode cX2_fill 57 = .ok (.iload 5, 2) := by decide +kernel
theorem dX2_fill_59 : decode cX2_fill 59 = .ok (.iload_n 2, 1) := by decide +kernel
theorem dX2_fill_60 : decode cX2_fill 60 = .ok (.iload_n 3, 1) := by decide +kernel
theorem dX2_fill_61 : decode cX2_fill 61 = .ok (.invokevirtual 38, 3) := by decide +kernel
theorem dX2_fill_64 : decode cX2_fill 64 = .ok (.aload_n 0, 1) := by decide +kernel
theorem dX2_fill_65 : decode cX2_fill 65 = .ok (.getfield 28, 3) := by decide +kernel
theorem dX2_fill_68 : decode cX2_fill 68 = .ok (.aload_n 0, 1) := by decide +kernel
theorem dX2_fill_69 : decode cX2_fill 69 = .ok (.getfield 21, 3) := by decide +kernel
theorem dX2_fill_72 : decode cX2_fill 72 = .ok (.getfield 42, 3) := by decide +kernel
theorem dX2_fill_75 : decode cX2_fill 75 = .ok (.iload 4, 2) := by decide +kernel
theorem dX2_fill_77 : decode cX2_fill 77 = .ok (.invokevirtual 46, 3) := by decide +kernel
theorem dX2_fill_80 : decode cX2_fill 80 = .ok (.iconst 1, 1) := by decide +kernel
theorem dX2_fill_81 : decode cX2_fill 81 = .ok (.istore 6, 2) := by decide +kernel
theorem dX2_fill_83 : decode cX2_fill 83 = .ok (.iload 6, 2) := by decide +kernel
theorem dX2_fill_85 : decode cX2_fill 85 = .ok (.bipush 8, 2) := by decide +kernel
theorem dX2_fill_87 : decode cX2_fill 87 = .ok (.if_icmp .gt 35, 3) := by decide +kernel
theorem dX2_fill_90 : decode cX2_fill 90 = .ok (.iload 6, 2) := by decide +kernel
theorem dX2_fill_92 : decode cX2_fill 92 = .ok (.iload 4, 2) := by decide +kernel
theorem dX2_fill_94 : decode cX2_fill 94 = .ok (.if_icmp .gt 28, 3) := by decide +kernel
theorem dX2_fill_97 : decode cX2_fill 97 = .ok (.aload_n 0, 1) := by decide +kernel
theorem dX2_fill_98 : decode cX2_fill 98 = .ok (.iload 6, 2) := by decide +kernel
theorem dX2_fill_100 : decode cX2_fill 100 = .ok (.iload 5, 2) := by decide +kernel
theorem dX2_fill_102 : decode cX2_fill 102 = .ok (.aload_n 0, 1) := by decide +kernel
theorem dX2_fill_103 : decode cX2_fill 103 = .ok (.getfield 28, 3) := by decide +kernel
theorem dX2_fill_106 : decode cX2_fill 106 = .ok (.iload 6, 2) := by decide +kernel
theorem dX2_fill_108 : decode cX2_fill 108 = .ok (.iload 4, 2) := by decide +kernel
theorem dX2_fill_110 : decode cX2_fill 110 = .ok (.invokevirtual 49, 3) := by decide +kernel
theorem dX2_fill_113 : decode cX2_fill 113 = .ok (.invokevirtual 53, 3) := by decide +kernel
theorem dX2_fill_116 : decode cX2_fill 116 = .ok (.iinc 6 1, 3) := by decide +kernel
theorem dX2_fill_119 : decode cX2_fill 119 = .ok (.goto (-36), 3) := by decide +kernel
theorem dX2_fill_122 : decode cX2_fill 122 = .ok (.iinc 5 1, 3) := by decide +kernel
theorem dX2_fill_125 : decode cX2_fill 125 = .ok (.goto (-82), 3) := by decide +kernel
theorem dX2_fill_128 : decode cX2_fill 128 = .ok (.return_, 1) := by decide +kernel
theorem dX2_weigh_0 : decode cX2_weigh 0 = .ok (.aload_n 0, 1) := by decide +kernel
theorem dX2_weigh_1 : decode cX2_weigh 1 = .ok (.getfield 9, 3) := by decide +kernel
theorem dX2_weigh_4 : decode cX2_weigh 4 = .ok (.iload_n 1, 1) := by decide +kernel
theorem dX2_weigh_5 : decode cX2_weigh 5 = .ok (.iaload, 1) := by decide +kernel
theorem dX2_weigh_6 : decode cX2_weigh 6 = .ok (.iconst (-1), 1) := by decide +kernel
theorem dX2_weigh_7 : decode cX2_weigh 7 = .ok (.if_icmp .eq 14, 3) := by decide +kernel
theorem dX2_weigh_10 : decode cX2_weigh 10 = .ok (.iload_n 3, 1) := by decide +kernel
theorem dX2_weigh_11 : decode cX2_weigh 11 = .ok (.aload_n 0, 1) := by decide +kernel
theorem dX2_weigh_12 : decode cX2_weigh 12 = .ok (.getfield 15, 3) := by decide +kernel
theorem dX2_weigh_15 : decode cX2_weigh 15 = .ok (.iload_n 1, 1) := by decide +kernel
theorem dX2_weigh_16 : decode cX2_weigh 16 = .ok (.iaload, 1) := by decide +kernel
theorem dX2_weigh_17 : decode cX2_weigh 17 = .ok (.if_icmp .lt 4, 3) := by decide +kernel
theorem dX2_weigh_20 : decode cX2_weigh 20 = .ok (.return_, 1) := by decide +kernel
theorem dX2_weigh_21 : decode cX2_weigh 21 = .ok (.aload_n 0, 1) := by decide +kernel
theorem dX2_weigh_22 : decode cX2_weigh 22 = .ok (.getfield 9, 3) := by decide +kernel
theorem dX2_weigh_25 : decode cX2_weigh 25 = .ok (.iload_n 1, 1) := by decide +kernel
theorem dX2_weigh_26 : decode cX2_weigh 26 = .ok (.iload_n 2, 1) := by decide +kernel
theorem dX2_weigh_27 : decode cX2_weigh 27 = .ok (.iastore, 1) := by decide +kernel
theorem dX2_weigh_28 : decode cX2_weigh 28 = .ok (.aload_n 0, 1) := by decide +kernel
theorem dX2_weigh_29 : decode cX2_weigh 29 = .ok (.getfield 15, 3) := by decide +kernel
theorem dX2_weigh_32 : decode cX2_weigh 32 = .ok (.iload_n 1, 1) := by decide +kernel
theorem dX2_weigh_33 : decode cX2_weigh 33 = .ok (.iload_n 3, 1) := by decide +kernel
theorem dX2_weigh_34 : decode cX2_weigh 34 = .ok (.iastore, 1) := by decide +kernel
theorem dX2_weigh_35 : decode cX2_weigh 35 = .ok (.return_, 1) := by decide +kernel
theorem dX3_init_0 : decode cX3_init 0 = .ok (.aload_n 0, 1) := by decide +kernel
theorem dX3_init_1 : decode cX3_init 1 = .ok (.invokespecial 3, 3) := by decide +kernel
theorem dX3_init_4 : decode cX3_init 4 = .ok (.aload_n 0, 1) := by decide +kernel
theorem dX3_init_5 : decode cX3_init 5 = .ok (.iconst (-1), 1) := by decide +kernel
theorem dX3_init_6 : decode cX3_init 6 = .ok (.putfield 9, 3) := by decide +kernel
theorem dX3_init_9 : decode cX3_init 9 = .ok (.aload_n 0, 1) := by decide +kernel
theorem dX3_init_10 : decode cX3_init 10 = .ok (.iconst (-1), 1) := by decide +kernel
theorem dX3_init_11 : decode cX3_init 11 = .ok (.putfield 15, 3) := by decide +kernel
theorem dX3_init_14 : decode cX3_init 14 = .ok (.aload_n 0, 1) := by decide +kernel
theorem dX3_init_15 : decode cX3_init 15 = .ok (.iconst (-1), 1) := by decide +kernel
theorem dX3_init_16 : decode cX3_init 16 = .ok (.putfield 18, 3) := by decide +kernel
theorem dX3_init_19 : decode cX3_init 19 = .ok (.return_, 1) := by decide +kernel
theorem dX3_seek_0 : decode cX3_seek 0 = .ok (.aload_n 0, 1) := by decide +kernel
theorem dX3_seek_1 : decode cX3_seek 1 = .ok (.iconst 0, 1) := by decide +kernel
theorem dX3_seek_2 : decode cX3_seek 2 = .ok (.putfield 21, 3) := by decide +kernel
theorem dX3_seek_5 : decode cX3_seek 5 = .ok (.aload_n 0, 1) := by decide +kernel
theorem dX3_seek_6 : decode cX3_seek 6 = .ok (.iconst 0, 1) := by decide +kernel
theorem dX3_seek_7 : decode cX3_seek 7 = .ok (.putfield 24, 3) := by decide +kernel
theorem dX3_seek_10 : decode cX3_seek 10 = .ok (.aload_n 0, 1) := by decide +kernel
theorem dX3_seek_11 : decode cX3_seek 11 = .ok (.iconst 0, 1) := by decide +kernel
theorem dX3_seek_12 : decode cX3_seek 12 = .ok (.putfield 27, 3) := by decide +kernel
theorem dX3_seek_15 : decode cX3_seek 15 = .ok (.aload_n 0, 1) := by decide +kernel
theorem dX3_seek_16 : decode cX3_seek 16 = .ok (.iconst 0, 1) := by decide +kernel
theorem dX3_seek_17 : decode cX3_seek 17 = .ok (.putfield 30, 3) := by decide +kernel
theorem dX3_seek_20 : decode cX3_seek 20 = .ok (.iconst 0, 1) := by decide +kernel
theorem dX3_seek_21 : decode cX3_seek 21 = .ok (.istore_n 2, 1) := by decide +kernel
theorem dX3_seek_22 : decode cX3_seek 22 = .ok (.iload_n 2, 1) := by decide +kernel
theorem dX3_seek_23 : decode cX3_seek 23 = .ok (.aload_n 1, 1) := by decide +kernel
theorem dX3_seek_24 : decode cX3_seek 24 = .ok (.getfield 34, 3) := by decide +kernel
theorem dX3_seek_27 : decode cX3_seek 27 = .ok (.if_icmp .ge 46, 3) := by decide +kernel
theorem dX3_seek_30 : decode cX3_seek 30 = .ok (.aload_n 0, 1) := by decide +kernel
theorem dX3_seek_31 : decode cX3_seek 31 = .ok (.aload_n 1, 1) := by decide +kernel
theorem dX3_seek_32 : decode cX3_seek 32 = .ok (.getfield 39, 3) := by decide +kernel
theorem dX3_seek_35 : decode cX3_seek 35 = .ok (.iload_n 2, 1) := by decide +kernel
theorem dX3_seek_36 : decode cX3_seek 36 = .ok (.iaload, 1) := by decide +kernel
theorem dX3_seek_37 : decode cX3_seek 37 = .ok (.invokevirtual 43, 3) := by decide +kernel
theorem dX3_seek_40 : decode cX3_seek 40 = .ok (.istore_n 3, 1) := by decide +kernel
theorem dX3_seek_41 : decode cX3_seek 41 = .ok (.iload_n 3, 1) := by decide +kernel
theorem dX3_seek_42 : decode cX3_seek 42 = .ok (.iconst (-1), 1) := by decide +kernel
theorem dX3_seek_43 : decode cX3_seek 43 = .ok (.if_icmp .eq 14, 3) := by decide +kernel
theorem dX3_seek_46 : decode cX3_seek 46 = .ok (.aload_n 0, 1) := by decide +kernel
theorem dX3_seek_47 : decode cX3_seek 47 = .ok (.iload_n 2, 1) := by decide +kernel
theorem dX3_seek_48 : decode cX3_seek 48 = .ok (.iload_n 3, 1) := by decide +kernel
theorem dX3_seek_49 : decode cX3_seek 49 = .ok (.aload_n 0, 1) := by decide +kernel
theorem dX3_seek_50 : decode cX3_seek 50 = .ok (.getfield 27, 3) := by decide +kernel
theorem dX3_seek_53 : decode cX3_seek 53 = .ok (.invokevirtual 47, 3) := by decide +kernel
theorem dX3_seek_56 : decode cX3_seek 56 = .ok (.return_, 1) := by decide +kernel
theorem dX3_seek_57 : decode cX3_seek 57 = .ok (.aload_n 0, 1) := by decide +kernel
theorem dX3_seek_58 : decode cX3_seek 58 = .ok (.aload_n 1, 1) := by decide +kernel
theorem dX3_seek_59 : decode cX3_seek 59 = .ok (.getfield 39, 3) := by decide +kernel
theorem dX3_seek_62 : decode cX3_seek 62 = .ok (.iload_n 2, 1) := by decide +kernel
theorem dX3_seek_63 : decode cX3_seek 63 = .ok (.iaload, 1) := by decide +kernel
theorem dX3_seek_64 : decode cX3_seek 64 = .ok (.invokevirtual 51, 3) := by decide +kernel
theorem dX3_seek_67 : decode cX3_seek 67 = .ok (.iinc 2 1, 3) := by decide +kernel
theorem dX3_seek_70 : decode cX3_seek 70 = .ok (.goto (-48), 3) := by decide +kernel
theorem dX3_seek_73 : decode cX3_seek 73 = .ok (.aload_n 0, 1) := by decide +kernel
theorem dX3_seek_74 : decode cX3_seek 74 = .ok (.getfield 24, 3) := by decide +kernel
theorem dX3_seek_77 : decode cX3_seek 77 = .ok (.ifCond .le 19, 3) := by decide +kernel
theorem dX3_seek_80 : decode cX3_seek 80 = .ok (.aload_n 0, 1) := by decide +kernel
theorem dX3_seek_81 : decode cX3_seek 81 = .ok (.aload_n 1, 1) := by decide +kernel
theorem dX3_seek_82 : decode cX3_seek 82 = .ok (.getfield 34, 3) := by decide +kernel
theorem dX3_seek_85 : decode cX3_seek 85 = .ok (.iconst 5, 1) := by decide +kernel
theorem dX3_seek_86 : decode cX3_seek 86 = .ok (.aload_n 0, 1) := by decide +kernel
theorem dX3_seek_87 : decode cX3_seek 87 = .ok (.getfield 27, 3) := by decide +kernel
theorem dX3_seek_90 : decode cX3_seek 90 = .ok (.invokevirtual 47, 3) := by decide +kernel
theorem dX3_seek_93 : decode cX3_seek 93 = .ok (.goto 10, 3) := by decide +kernel
theorem dX3_seek_96 : decode cX3_seek 96 = .ok (.aload_n 0, 1) := by decide +kernel
theorem dX3_seek_97 : decode cX3_seek 97 = .ok (.iconst (-1), 1) := by decide +kernel
theorem dX3_seek_98 : decode cX3_seek 98 = .ok (.iconst (-1), 1) := by decide +kernel
theorem dX3_seek_99 : decode cX3_seek 99 = .ok (.iconst (-1), 1) := by decide +kernel
theorem dX3_seek_100 : decode cX3_seek 100 = .ok (.invokevirtual 47, 3) := by decide +kernel
theorem dX3_seek_103 : decode cX3_seek 103 = .ok (.return_, 1) := by decide +kernel
theorem dX3_keep_0 : decode cX3_keep 0 = .ok (.aload_n 0, 1) := by decide +kernel
theorem dX3_keep_1 : decode cX3_keep 1 = .ok (.iload_n 1, 1) := by decide +kernel
theorem dX3_keep_2 : decode cX3_keep 2 = .ok (.putfield 9, 3) := by decide +kernel
theorem dX3_keep_5 : decode cX3_keep 5 = .ok (.aload_n 0, 1) := by decide +kernel
theorem dX3_keep_6 : decode cX3_keep 6 = .ok (.iload_n 2, 1) := by decide +kernel
theorem dX3_keep_7 : decode cX3_keep 7 = .ok (.putfield 15, 3) := by decide +kernel
theorem dX3_keep_10 : decode cX3_keep 10 = .ok (.aload_n 0, 1) := by decide +kernel
theorem dX3_keep_11 : decode cX3_keep 11 = .ok (.iload_n 3, 1) := by decide +kernel
theorem dX3_keep_12 : decode cX3_keep 12 = .ok (.putfield 18, 3) := by decide +kernel
theorem dX3_keep_15 : decode cX3_keep 15 = .ok (.return_, 1) := by decide +kernel
theorem dX3_reasonAgainst_0 : decode cX3_reasonAgainst 0 = .ok (.iload_n 1, 1) := by decide +kernel
theorem dX3_reasonAgainst_1 : decode cX3_reasonAgainst 1 = .ok (.invokestatic 55, 3) := by decide +kernel
theorem dX3_reasonAgainst_4 : decode cX3_reasonAgainst 4 = .ok (.ifCond .eq 38, 3) := by decide +kernel
theorem dX3_reasonAgainst_7 : decode cX3_reasonAgainst 7 = .ok (.aload_n 0, 1) := by decide +kernel
theorem dX3_reasonAgainst_8 : decode cX3_reasonAgainst 8 = .ok (.getfield 21, 3) := by decide +kernel
theorem dX3_reasonAgainst_11 : decode cX3_reasonAgainst 11 = .ok (.ifCond .ne 16, 3) := by decide +kernel
theorem dX3_reasonAgainst_14 : decode cX3_reasonAgainst 14 = .ok (.aload_n 0, 1) := by decide +kernel
theorem dX3_reasonAgainst_15 : decode cX3_reasonAgainst 15 = .ok (.invokevirtual 59, 3) := by decide +kernel
theorem dX3_reasonAgainst_18 : decode cX3_reasonAgainst 18 = .ok (.ifCond .eq 7, 3) := by decide +kernel
theorem dX3_reasonAgainst_21 : decode cX3_reasonAgainst 21 = .ok (.iconst (-1), 1) := by decide +kernel
theorem dX3_reasonAgainst_22 : decode cX3_reasonAgainst 22 = .ok (.goto 4, 3) := by decide +kernel
theorem dX3_reasonAgainst_25 : decode cX3_reasonAgainst 25 = .ok (.iconst 4, 1) := by decide +kernel
theorem dX3_reasonAgainst_26 : decode cX3_reasonAgainst 26 = .ok (.ireturn, 1) := by decide +kernel
theorem dX3_reasonAgainst_27 : decode cX3_reasonAgainst 27 = .ok (.aload_n 0, 1) := by decide +kernel
theorem dX3_reasonAgainst_28 : decode cX3_reasonAgainst 28 = .ok (.getfield 21, 3) := by decide +kernel
theorem dX3_reasonAgainst_31 : decode cX3_reasonAgainst 31 = .ok (.bipush 10, 2) := by decide +kernel
theorem dX3_reasonAgainst_33 : decode cX3_reasonAgainst 33 = .ok (.if_icmp .ge 7, 3) := by decide +kernel
theorem dX3_reasonAgainst_36 : decode cX3_reasonAgainst 36 = .ok (.iconst (-1), 1) := by decide +kernel
theorem dX3_reasonAgainst_37 : decode cX3_reasonAgainst 37 = .ok (.goto 4, 3) := by decide +kernel
theorem dX3_reasonAgainst_40 : decode cX3_reasonAgainst 40 = .ok (.iconst 2, 1) := by decide +kernel
theorem dX3_reasonAgainst_41 : decode cX3_reasonAgainst 41 = .ok (.ireturn, 1) := by decide +kernel
theorem dX3_reasonAgainst_42 : decode cX3_reasonAgainst 42 = .ok (.iload_n 1, 1) := by decide +kernel
theorem dX3_reasonAgainst_43 : decode cX3_reasonAgainst 43 = .ok (.bipush 32, 2) := by decide +kernel
theorem dX3_reasonAgainst_45 : decode cX3_reasonAgainst 45 = .ok (.if_icmp .eq 11, 3) := by decide +kernel
theorem dX3_reasonAgainst_48 : decode cX3_reasonAgainst 48 = .ok (.iload_n 1, 1) := by decide +kernel
theorem dX3_reasonAgainst_49 : decode cX3_reasonAgainst 49 = .ok (.bipush 46, 2) := by decide +kernel
theorem dX3_reasonAgainst_51 : decode cX3_reasonAgainst 51 = .ok (.if_icmp .eq 5, 3) := by decide +kernel
theorem dX3_reasonAgainst_54 : decode cX3_reasonAgainst 54 = .ok (.iconst 1, 1) := by decide +kernel
theorem dX3_reasonAgainst_55 : decode cX3_reasonAgainst 55 = .ok (.ireturn, 1) := by decide +kernel
theorem dX3_reasonAgainst_56 : decode cX3_reasonAgainst 56 = .ok (.aload_n 0, 1) := by decide +kernel
theorem dX3_reasonAgainst_57 : decode cX3_reasonAgainst 57 = .ok (.getfield 21, 3) := by decide +kernel
theorem dX3_reasonAgainst_60 : decode cX3_reasonAgainst 60 = .ok (.ifCond .le 5, 3) := by decide +kernel
theorem dX3_reasonAgainst_63 : decode cX3_reasonAgainst 63 = .ok (.iconst (-1), 1) := by decide +kernel
theorem dX3_reasonAgainst_64 : decode cX3_reasonAgainst 64 = .ok (.ireturn, 1) := by decide +kernel
theorem dX3_reasonAgainst_65 : decode cX3_reasonAgainst 65 = .ok (.iload_n 1, 1) := by decide +kernel
theorem dX3_reasonAgainst_66 : decode cX3_reasonAgainst 66 = .ok (.bipush 32, 2) := by decide +kernel
theorem dX3_reasonAgainst_68 : decode cX3_reasonAgainst 68 = .ok (.if_icmp .ne 14, 3) := by decide +kernel
theorem dX3_reasonAgainst_71 : decode cX3_reasonAgainst 71 = .ok (.aload_n 0, 1) := by decide +kernel
theorem dX3_reasonAgainst_72 : decode cX3_reasonAgainst 72 = .ok (.getfield 30, 3) := by decide +kernel
theorem dX3_reasonAgainst_75 : decode cX3_reasonAgainst 75 = .ok (.ifCond .eq 7, 3) := by decide +kernel
theorem dX3_reasonAgainst_78 : decode cX3_reasonAgainst 78 = .ok (.iconst (-1), 1) := by decide +kernel
theorem dX3_reasonAgainst_79 : decode cX3_reasonAgainst 79 = .ok (.goto 4, 3) := by decide +kernel
theorem dX3_reasonAgainst_82 : decode cX3_reasonAgainst 82 = .ok (.iconst 3, 1) := by decide +kernel
theorem dX3_reasonAgainst_83 : decode cX3_reasonAgainst 83 = .ok (.ireturn, 1) := by decide +kernel
theorem dX3_mayBegin_0 : decode cX3_mayBegin 0 = .ok (.aload_n 0, 1) := by decide +kernel
theorem dX3_mayBegin_1 : decode cX3_mayBegin 1 = .ok (.getfield 27, 3) := by decide +kernel
theorem dX3_mayBegin_4 : decode cX3_mayBegin 4 = .ok (.bipush 12, 2) := by decide +kernel
theorem dX3_mayBegin_6 : decode cX3_mayBegin 6 = .ok (.if_icmp .ge 16, 3) := by decide +kernel
theorem dX3_mayBegin_9 : decode cX3_mayBegin 9 = .ok (.aload_n 0, 1) := by decide +kernel
theorem dX3_mayBegin_10 : decode cX3_mayBegin 10 = .ok (.getfield 24, 3) := by decide +kernel
theorem dX3_mayBegin_13 : decode cX3_mayBegin 13 = .ok (.bipush 9, 2) := by decide +kernel
theorem dX3_mayBegin_15 : decode cX3_mayBegin 15 = .ok (.if_icmp .ge 7, 3) := by decide +kernel
theorem dX3_mayBegin_18 : decode cX3_mayBegin 18 = .ok (.iconst 1, 1) := by decide +kernel
theorem dX3_mayBegin_19 : decode cX3_mayBegin 19 = .ok (.goto 4, 3) := by decide +kernel
theorem dX3_mayBegin_22 : decode cX3_mayBegin 22 = .ok (.iconst 0, 1) := by decide +kernel
theorem dX3_mayBegin_23 : decode cX3_mayBegin 23 = .ok (.ireturn, 1) := by decide +kernel
theorem dX3_take_0 : decode cX3_take 0 = .ok (.aload_n 0, 1) := by decide +kernel
theorem dX3_take_1 : decode cX3_take 1 = .ok (.iload_n 1, 1) := by decide +kernel
theorem dX3_take_2 : decode cX3_take 2 = .ok (.bipush 46, 2) := by decide +kernel
theorem dX3_take_4 : decode cX3_take 4 = .ok (.if_icmp .ne 7, 3) := by decide +kernel
theorem dX3_take_7 : decode cX3_take 7 = .ok (.iconst 1, 1) := by decide +kernel
theorem dX3_take_8 : decode cX3_take 8 = .ok (.goto 4, 3) := by decide +kernel
theorem dX3_take_11 : decode cX3_take 11 = .ok (.iconst 0, 1) := by decide +kernel
theorem dX3_take_12 : decode cX3_take 12 = .ok (.putfield 30, 3) := by decide +kernel
theorem dX3_take_15 : decode cX3_take 15 = .ok (.iload_n 1, 1) := by decide +kernel
theorem dX3_take_16 : decode cX3_take 16 = .ok (.invokestatic 55, 3) := by decide +kernel
theorem dX3_take_19 : decode cX3_take 19 = .ok (.ifCond .eq 31, 3) := by decide +kernel
theorem dX3_take_22 : decode cX3_take 22 = .ok (.aload_n 0, 1) := by decide +kernel
theorem dX3_take_23 : decode cX3_take 23 = .ok (.getfield 21, 3) := by decide +kernel
theorem dX3_take_26 : decode cX3_take 26 = .ok (.ifCond .ne 13, 3) := by decide +kernel
theorem dX3_take_29 : decode cX3_take 29 = .ok (.aload_n 0, 1) := by decide +kernel
theorem dX3_take_30 : decode cX3_take 30 = .ok (.dup, 1) := by decide +kernel
theorem dX3_take_31 : decode cX3_take 31 = .ok (.getfield 24, 3) := by decide +kernel
theorem dX3_take_34 : decode cX3_take 34 = .ok (.iconst 1, 1) := by decide +kernel
theorem dX3_take_35 : decode cX3_take 35 = .ok (.iadd, 1) := by decide +kernel
theorem dX3_take_36 : decode cX3_take 36 = .ok (.putfield 24, 3) := by decide +kernel
theorem dX3_take_39 : decode cX3_take 39 = .ok (.aload_n 0, 1) := by decide +kernel
theorem dX3_take_40 : decode cX3_take 40 = .ok (.dup, 1) := by decide +kernel
theorem dX3_take_41 : decode cX3_take 41 = .ok (.getfield 21, 3) := by decide +kernel
theorem dX3_take_44 : decode cX3_take 44 = .ok (.iconst 1, 1) := by decide +kernel
theorem dX3_take_45 : decode cX3_take 45 = .ok (.iadd, 1) := by decide +kernel
theorem dX3_take_46 : decode cX3_take 46 = .ok (.putfield 21, 3) := by decide +kernel
theorem dX3_take_49 : decode cX3_take 49 = .ok (.return_, 1) := by decide +kernel
theorem dX3_take_50 : decode cX3_take 50 = .ok (.aload_n 0, 1) := by decide +kernel
theorem dX3_take_51 : decode cX3_take 51 = .ok (.iconst 0, 1) := by decide +kernel
theorem dX3_take_52 : decode cX3_take 52 = .ok (.putfield 21, 3) := by decide +kernel
theorem dX3_take_55 : decode cX3_take 55 = .ok (.iload_n 1, 1) := by decide +kernel
theorem dX3_take_56 : decode cX3_take 56 = .ok (.bipush 46, 2) := by decide +kernel
theorem dX3_take_58 : decode cX3_take 58 = .ok (.if_icmp .ne 18, 3) := by decide +kernel
theorem dX3_take_61 : decode cX3_take 61 = .ok (.aload_n 0, 1) := by decide +kernel
theorem dX3_take_62 : decode cX3_take 62 = .ok (.iconst 0, 1) := by decide +kernel
theorem dX3_take_63 : decode cX3_take 63 = .ok (.putfield 24, 3) := by decide +kernel
theorem dX3_take_66 : decode cX3_take 66 = .ok (.aload_n 0, 1) := by decide +kernel
theorem dX3_take_67 : decode cX3_take 67 = .ok (.dup, 1) := by decide +kernel
theorem dX3_take_68 : decode cX3_take 68 = .ok (.getfield 27, 3) := by decide +kernel
theorem dX3_take_71 : decode cX3_take 71 = .ok (.iconst 1, 1) := by decide +kernel
theorem dX3_take_72 : decode cX3_take 72 = .ok (.iadd, 1) := by decide +kernel
theorem dX3_take_73 : decode cX3_take 73 = .ok (.putfield 27, 3) := by decide +kernel
theorem dX3_take_76 : decode cX3_take 76 = .ok (.return_, 1) := by decide +kernel
theorem dX4_init_0 : decode cX4_init 0 = .ok (.aload_n 0, 1) := by decide +kernel
theorem dX4_init_1 : decode cX4_init 1 = .ok (.invokespecial 3, 3) := by decide +kernel
theorem dX4_init_4 : decode cX4_init 4 = .ok (.aload_n 0, 1) := by decide +kernel
theorem dX4_init_5 : decode cX4_init 5 = .ok (.bipush 12, 2) := by decide +kernel
theorem dX4_init_7 : decode cX4_init 7 = .ok (.newarray .int, 2) := by decide +kernel
theorem dX4_init_9 : decode cX4_init 9 = .ok (.putfield 9, 3) := by decide +kernel
theorem dX4_init_12 : decode cX4_init 12 = .ok (.aload_n 0, 1) := by decide +kernel
theorem dX4_init_13 : decode cX4_init 13 = .ok (.bipush 12, 2) := by decide +kernel
theorem dX4_init_15 : decode cX4_init 15 = .ok (.newarray .int, 2) := by decide +kernel
theorem dX4_init_17 : decode cX4_init 17 = .ok (.putfield 15, 3) := by decide +kernel
theorem dX4_init_20 : decode cX4_init 20 = .ok (.aload_n 0, 1) := by decide +kernel
theorem dX4_init_21 : decode cX4_init 21 = .ok (.bipush 11, 2) := by decide +kernel
theorem dX4_init_23 : decode cX4_init 23 = .ok (.newarray .int, 2) := by decide +kernel
theorem dX4_init_25 : decode cX4_init 25 = .ok (.putfield 18, 3) := by decide +kernel
theorem dX4_init_28 : decode cX4_init 28 = .ok (.return_, 1) := by decide +kernel
theorem dX4_fill_0 : decode cX4_fill 0 = .ok (.aload_n 1, 1) := by decide +kernel
theorem dX4_fill_1 : decode cX4_fill 1 = .ok (.getfield 21, 3) := by decide +kernel
theorem dX4_fill_4 : decode cX4_fill 4 = .ok (.istore_n 3, 1) := by decide +kernel
theorem dX4_fill_5 : decode cX4_fill 5 = .ok (.iconst 1, 1) := by decide +kernel
theorem dX4_fill_6 : decode cX4_fill 6 = .ok (.istore 4, 2) := by decide +kernel
theorem dX4_fill_8 : decode cX4_fill 8 = .ok (.iload 4, 2) := by decide +kernel
theorem dX4_fill_10 : decode cX4_fill 10 = .ok (.iload_n 3, 1) := by decide +kernel
theorem dX4_fill_11 : decode cX4_fill 11 = .ok (.if_icmp .ge 23, 3) := by decide +kernel
theorem dX4_fill_14 : decode cX4_fill 14 = .ok (.aload_n 0, 1) := by decide +kernel
theorem dX4_fill_15 : decode cX4_fill 15 = .ok (.getfield 9, 3) := by decide +kernel
theorem dX4_fill_18 : decode cX4_fill 18 = .ok (.iload 4, 2) := by decide +kernel
theorem dX4_fill_20 : decode cX4_fill 20 = .ok (.aload_n 1, 1) := by decide +kernel
theorem dX4_fill_21 : decode cX4_fill 21 = .ok (.iload 4, 2) := by decide +kernel
theorem dX4_fill_23 : decode cX4_fill 23 = .ok (.iload_n 2, 1) := by decide +kernel
theorem dX4_fill_24 : decode cX4_fill 24 = .ok (.invokestatic 27, 3) := by decide +kernel
theorem dX4_fill_27 : decode cX4_fill 27 = .ok (.iastore, 1) := by decide +kernel
theorem dX4_fill_28 : decode cX4_fill 28 = .ok (.iinc 4 1, 3) := by decide +kernel
theorem dX4_fill_31 : decode cX4_fill 31 = .ok (.goto (-23), 3) := by decide +kernel
theorem dX4_fill_34 : decode cX4_fill 34 = .ok (.iconst 1, 1) := by decide +kernel
theorem dX4_fill_35 : decode cX4_fill 35 = .ok (.istore 4, 2) := by decide +kernel
theorem dX4_fill_37 : decode cX4_fill 37 = .ok (.iload 4, 2) := by decide +kernel
theorem dX4_fill_39 : decode cX4_fill 39 = .ok (.iload_n 3, 1) := by decide +kernel
theorem dX4_fill_40 : decode cX4_fill 40 = .ok (.if_icmp .ge 40, 3) := by decide +kernel
theorem dX4_fill_43 : decode cX4_fill 43 = .ok (.aload_n 0, 1) := by decide +kernel
theorem dX4_fill_44 : decode cX4_fill 44 = .ok (.getfield 15, 3) := by decide +kernel
theorem dX4_fill_47 : decode cX4_fill 47 = .ok (.iload 4, 2) := by decide +kernel
theorem dX4_fill_49 : decode cX4_fill 49 = .ok (.aload_n 0, 1) := by decide +kernel
theorem dX4_fill_50 : decode cX4_fill 50 = .ok (.iload 4, 2) := by decide +kernel
theorem dX4_fill_52 : decode cX4_fill 52 = .ok (.invokevirtual 31, 3) := by decide +kernel
theorem dX4_fill_55 : decode cX4_fill 55 = .ok (.aload_n 0, 1) := by decide +kernel
theorem dX4_fill_56 : decode cX4_fill 56 = .ok (.iload 4, 2) := by decide +kernel
theorem dX4_fill_58 : decode cX4_fill 58 = .ok (.iload_n 3, 1) := by decide +kernel
theorem dX4_fill_59 : decode cX4_fill 59 = .ok (.invokevirtual 35, 3) := by decide +kernel
theorem dX4_fill_62 : decode cX4_fill 62 = .ok (.iadd, 1) := by decide +kernel
theorem dX4_fill_63 : decode cX4_fill 63 = .ok (.iconst 2, 1) := by decide +kernel
theorem dX4_fill_64 : decode cX4_fill 64 = .ok (.aload_n 0, 1) := by decide +kernel
theorem dX4_fill_65 : decode cX4_fill 65 = .ok (.getfield 9, 3) := by decide +kernel
theorem dX4_fill_68 : decode cX4_fill 68 = .ok (.iload 4, 2) := by decide +kernel
theorem dX4_fill_70 : decode cX4_fill 70 = .ok (.iaload, 1) := by decide +kernel
theorem dX4_fill_71 : decode cX4_fill 71 = .ok (.imul, 1) := by decide +kernel
theorem dX4_fill_72 : decode cX4_fill 72 = .ok (.isub, 1) := by decide +kernel
theorem dX4_fill_73 : decode cX4_fill 73 = .ok (.iastore, 1) := by decide +kernel
theorem dX4_fill_74 : decode cX4_fill 74 = .ok (.iinc 4 1, 3) := by decide +kernel
theorem dX4_fill_77 : decode cX4_fill 77 = .ok (.goto (-40), 3) := by decide +kernel
theorem dX4_fill_80 : decode cX4_fill 80 = .ok (.iconst 1, 1) := by decide +kernel
theorem dX4_fill_81 : decode cX4_fill 81 = .ok (.istore 4, 2) := by decide +kernel
theorem dX4_fill_83 : decode cX4_fill 83 = .ok (.iload 4, 2) := by decide +kernel
theorem dX4_fill_85 : decode cX4_fill 85 = .ok (.iload_n 3, 1) := by decide +kernel
theorem dX4_fill_86 : decode cX4_fill 86 = .ok (.if_icmp .ge 15, 3) := by decide +kernel
theorem dX4_fill_89 : decode cX4_fill 89 = .ok (.aload_n 0, 1) := by decide +kernel
theorem dX4_fill_90 : decode cX4_fill 90 = .ok (.iload 4, 2) := by decide +kernel
theorem dX4_fill_92 : decode cX4_fill 92 = .ok (.invokevirtual 39, 3) := by decide +kernel
theorem dX4_fill_95 : decode cX4_fill 95 = .ok (.iinc 4 1, 3) := by decide +kernel
theorem dX4_fill_98 : decode cX4_fill 98 = .ok (.goto (-15), 3) := by decide +kernel
theorem dX4_fill_101 : decode cX4_fill 101 = .ok (.return_, 1) := by decide +kernel
theorem dX4_likeness_0 : decode cX4_likeness 0 = .ok (.iconst 0, 1) := by decide +kernel
theorem dX4_likeness_1 : decode cX4_likeness 1 = .ok (.iload_n 1, 1) := by decide +kernel
theorem dX4_likeness_2 : decode cX4_likeness 2 = .ok (.iload_n 2, 1) := by decide +kernel
theorem dX4_likeness_3 : decode cX4_likeness 3 = .ok (.isub, 1) := by decide +kernel
theorem dX4_likeness_4 : decode cX4_likeness 4 = .ok (.invokestatic 43, 3) := by decide +kernel
theorem dX4_likeness_7 : decode cX4_likeness 7 = .ok (.istore_n 3, 1) := by decide +kernel
theorem dX4_likeness_8 : decode cX4_likeness 8 = .ok (.aload_n 0, 1) := by decide +kernel
theorem dX4_likeness_9 : decode cX4_likeness 9 = .ok (.getfield 21, 3) := by decide +kernel
theorem dX4_likeness_12 : decode cX4_likeness 12 = .ok (.iload_n 1, 1) := by decide +kernel
theorem dX4_likeness_13 : decode cX4_likeness 13 = .ok (.iload_n 2, 1) := by decide +kernel
theorem dX4_likeness_14 : decode cX4_likeness 14 = .ok (.iadd, 1) := by decide +kernel
theorem dX4_likeness_15 : decode cX4_likeness 15 = .ok (.invokestatic 48, 3) := by decide +kernel
theorem dX4_likeness_18 : decode cX4_likeness 18 = .ok (.istore 4, 2) := by decide +kernel
theorem dX4_likeness_20 : decode cX4_likeness 20 = .ok (.iconst 0, 1) := by decide +kernel
theorem dX4_likeness_21 : decode cX4_likeness 21 = .ok (.istore 5, 2) := by decide +kernel
theorem dX4_likeness_23 : decode cX4_likeness 23 = .ok (.iconst 0, 1) := by decide +kernel
theorem dX4_likeness_24 : decode cX4_likeness 24 = .ok (.istore 6, 2) := by decide +kernel
theorem dX4_likeness_26 : decode cX4_likeness 26 = .ok (.iload 6, 2) := by decide +kernel
theorem dX4_likeness_28 : decode cX4_likeness 28 = .ok (.aload_n 0, 1) := by decide +kernel
theorem dX4_likeness_29 : decode cX4_likeness 29 = .ok (.getfield 51, 3) := by decide +kernel
theorem dX4_likeness_32 : decode cX4_likeness 32 = .ok (.if_icmp .ge 34, 3) := by decide +kernel
theorem dX4_likeness_35 : decode cX4_likeness 35 = .ok (.iload 5, 2) := by decide +kernel
theorem dX4_likeness_37 : decode cX4_likeness 37 = .ok (.aload_n 0, 1) := by decide +kernel
theorem dX4_likeness_38 : decode cX4_likeness 38 = .ok (.iload 6, 2) := by decide +kernel
theorem dX4_likeness_40 : decode cX4_likeness 40 = .ok (.iload_n 3, 1) := by decide +kernel
theorem dX4_likeness_41 : decode cX4_likeness 41 = .ok (.iload_n 1, 1) := by decide +kernel
theorem dX4_likeness_42 : decode cX4_likeness 42 = .ok (.invokestatic 54, 3) := by decide +kernel
theorem dX4_likeness_45 : decode cX4_likeness 45 = .ok (.aload_n 0, 1) := by decide +kernel
theorem dX4_likeness_46 : decode cX4_likeness 46 = .ok (.iload 6, 2) := by decide +kernel
theorem dX4_likeness_48 : decode cX4_likeness 48 = .ok (.iload_n 1, 1) := by decide +kernel
theorem dX4_likeness_49 : decode cX4_likeness 49 = .ok (.iload 4, 2) := by decide +kernel
theorem dX4_likeness_51 : decode cX4_likeness 51 = .ok (.invokestatic 54, 3) := by decide +kernel
theorem dX4_likeness_54 : decode cX4_likeness 54 = .ok (.invokestatic 48, 3) := by decide +kernel
theorem dX4_likeness_57 : decode cX4_likeness 57 = .ok (.iadd, 1) := by decide +kernel
theorem dX4_likeness_58 : decode cX4_likeness 58 = .ok (.istore 5, 2) := by decide +kernel
theorem dX4_likeness_60 : decode cX4_likeness 60 = .ok (.iinc 6 1, 3) := by decide +kernel
theorem dX4_likeness_63 : decode cX4_likeness 63 = .ok (.goto (-37), 3) := by decide +kernel
theorem dX4_likeness_66 : decode cX4_likeness 66 = .ok (.iload 5, 2) := by decide +kernel
theorem dX4_likeness_68 : decode cX4_likeness 68 = .ok (.ireturn, 1) := by decide +kernel
theorem dX4_wordsWithin_0 : decode cX4_wordsWithin 0 = .ok (.iconst 0, 1) := by decide +kernel
theorem dX4_wordsWithin_1 : decode cX4_wordsWithin 1 = .ok (.istore 4, 2) := by decide +kernel
theorem dX4_wordsWithin_3 : decode cX4_wordsWithin 3 = .ok (.iload_n 2, 1) := by decide +kernel
theorem dX4_wordsWithin_4 : decode cX4_wordsWithin 4 = .ok (.istore 5, 2) := by decide +kernel
theorem dX4_wordsWithin_6 : decode cX4_wordsWithin 6 = .ok (.iload 5, 2) := by decide +kernel
theorem dX4_wordsWithin_8 : decode cX4_wordsWithin 8 = .ok (.iload_n 3, 1) := by decide +kernel
theorem dX4_wordsWithin_9 : decode cX4_wordsWithin 9 = .ok (.if_icmp .ge 23, 3) := by decide +kernel
theorem dX4_wordsWithin_12 : decode cX4_wordsWithin 12 = .ok (.iload 4, 2) := by decide +kernel
theorem dX4_wordsWithin_14 : decode cX4_wordsWithin 14 = .ok (.aload_n 0, 1) := by decide +kernel
theorem dX4_wordsWithin_15 : decode cX4_wordsWithin 15 = .ok (.getfield 58, 3) := by decide +kernel
theorem dX4_wordsWithin_18 : decode cX4_wordsWithin 18 = .ok (.iload 5, 2) := by decide +kernel
theorem dX4_wordsWithin_20 : decode cX4_wordsWithin 20 = .ok (.aaload, 1) := by decide +kernel
theorem dX4_wordsWithin_21 : decode cX4_wordsWithin 21 = .ok (.iload_n 1, 1) := by decide +kernel
theorem dX4_wordsWithin_22 : decode cX4_wordsWithin 22 = .ok (.iaload, 1) := by decide +kernel
theorem dX4_wordsWithin_23 : decode cX4_wordsWithin 23 = .ok (.iadd, 1) := by decide +kernel
theorem dX4_wordsWithin_24 : decode cX4_wordsWithin 24 = .ok (.istore 4, 2) := by decide +kernel
theorem dX4_wordsWithin_26 : decode cX4_wordsWithin 26 = .ok (.iinc 5 1, 3) := by decide +kernel
theorem dX4_wordsWithin_29 : decode cX4_wordsWithin 29 = .ok (.goto (-23), 3) := by decide +kernel
theorem dX4_wordsWithin_32 : decode cX4_wordsWithin 32 = .ok (.iload 4, 2) := by decide +kernel
theorem dX4_wordsWithin_34 : decode cX4_wordsWithin 34 = .ok (.ireturn, 1) := by decide +kernel
theorem dX4_leftHill_0 : decode cX4_leftHill 0 = .ok (.aload_n 0, 1) := by decide +kernel
theorem dX4_leftHill_1 : decode cX4_leftHill 1 = .ok (.getfield 9, 3) := by decide +kernel
theorem dX4_leftHill_4 : decode cX4_leftHill 4 = .ok (.iload_n 1, 1) := by decide +kernel
theorem dX4_leftHill_5 : decode cX4_leftHill 5 = .ok (.iaload, 1) := by decide +kernel
theorem dX4_leftHill_6 : decode cX4_leftHill 6 = .ok (.istore_n 2, 1) := by decide +kernel
theorem dX4_leftHill_7 : decode cX4_leftHill 7 = .ok (.iload_n 1, 1) := by decide +kernel
theorem dX4_leftHill_8 : decode cX4_leftHill 8 = .ok (.iconst 1, 1) := by decide +kernel
theorem dX4_leftHill_9 : decode cX4_leftHill 9 = .ok (.isub, 1) := by decide +kernel
theorem dX4_leftHill_10 : decode cX4_leftHill 10 = .ok (.istore_n 3, 1) := by decide +kernel
theorem dX4_leftHill_11 : decode cX4_leftHill 11 = .ok (.iload_n 3, 1) := by decide +kernel
theorem dX4_leftHill_12 : decode cX4_leftHill 12 = .ok (.iconst 1, 1) := by decide +kernel
theorem dX4_leftHill_13 : decode cX4_leftHill 13 = .ok (.if_icmp .lt 26, 3) := by decide +kernel
theorem dX4_leftHill_16 : decode cX4_leftHill 16 = .ok (.aload_n 0, 1) := by decide +kernel
theorem dX4_leftHill_17 : decode cX4_leftHill 17 = .ok (.getfield 9, 3) := by decide +kernel
theorem dX4_leftHill_20 : decode cX4_leftHill 20 = .ok (.iload_n 3, 1) := by decide +kernel
theorem dX4_leftHill_21 : decode cX4_leftHill 21 = .ok (.iaload, 1) := by decide +kernel
theorem dX4_leftHill_22 : decode cX4_leftHill 22 = .ok (.iload_n 2, 1) := by decide +kernel
theorem dX4_leftHill_23 : decode cX4_leftHill 23 = .ok (.if_icmp .lt 16, 3) := by decide +kernel
theorem dX4_leftHill_26 : decode cX4_leftHill 26 = .ok (.aload_n 0, 1) := by decide +kernel
theorem dX4_leftHill_27 : decode cX4_leftHill 27 = .ok (.getfield 9, 3) := by decide +kernel
theorem dX4_leftHill_30 : decode cX4_leftHill 30 = .ok (.iload_n 3, 1) := by decide +kernel
theorem dX4_leftHill_31 : decode cX4_leftHill 31 = .ok (.iaload, 1) := by decide +kernel
theorem dX4_leftHill_32 : decode cX4_leftHill 32 = .ok (.istore_n 2, 1) := by decide +kernel
theorem dX4_leftHill_33 : decode cX4_leftHill 33 = .ok (.iinc 3 (-1), 3) := by decide +kernel
theorem dX4_leftHill_36 : decode cX4_leftHill 36 = .ok (.goto (-25), 3) := by decide +kernel
theorem dX4_leftHill_39 : decode cX4_leftHill 39 = .ok (.iload_n 2, 1) := by decide +kernel
theorem dX4_leftHill_40 : decode cX4_leftHill 40 = .ok (.ireturn, 1) := by decide +kernel
theorem dX4_rightHill_0 : decode cX4_rightHill 0 = .ok (.aload_n 0, 1) := by decide +kernel
theorem dX4_rightHill_1 : decode cX4_rightHill 1 = .ok (.getfield 9, 3) := by decide +kernel
theorem dX4_rightHill_4 : decode cX4_rightHill 4 = .ok (.iload_n 1, 1) := by decide +kernel
theorem dX4_rightHill_5 : decode cX4_rightHill 5 = .ok (.iaload, 1) := by decide +kernel
theorem dX4_rightHill_6 : decode cX4_rightHill 6 = .ok (.istore_n 3, 1) := by decide +kernel
theorem dX4_rightHill_7 : decode cX4_rightHill 7 = .ok (.iload_n 1, 1) := by decide +kernel
theorem dX4_rightHill_8 : decode cX4_rightHill 8 = .ok (.iconst 1, 1) := by decide +kernel
theorem dX4_rightHill_9 : decode cX4_rightHill 9 = .ok (.iadd, 1) := by decide +kernel
theorem dX4_rightHill_10 : decode cX4_rightHill 10 = .ok (.istore 4, 2) := by decide +kernel
theorem dX4_rightHill_12 : decode cX4_rightHill 12 = .ok (.iload 4, 2) := by decide +kernel
theorem dX4_rightHill_14 : decode cX4_rightHill 14 = .ok (.iload_n 2, 1) := by decide +kernel
theorem dX4_rightHill_15 : decode cX4_rightHill 15 = .ok (.if_icmp .ge 28, 3) := by decide +kernel
theorem dX4_rightHill_18 : decode cX4_rightHill 18 = .ok (.aload_n 0, 1) := by decide +kernel
theorem dX4_rightHill_19 : decode cX4_rightHill 19 = .ok (.getfield 9, 3) := by decide +kernel
theorem dX4_rightHill_22 : decode cX4_rightHill 22 = .ok (.iload 4, 2) := by decide +kernel
theorem dX4_rightHill_24 : decode cX4_rightHill 24 = .ok (.iaload, 1) := by decide +kernel
theorem dX4_rightHill_25 : decode cX4_rightHill 25 = .ok (.iload_n 3, 1) := by decide +kernel
theorem dX4_rightHill_26 : decode cX4_rightHill 26 = .ok (.if_icmp .lt 17, 3) := by decide +kernel
theorem dX4_rightHill_29 : decode cX4_rightHill 29 = .ok (.aload_n 0, 1) := by decide +kernel
theorem dX4_rightHill_30 : decode cX4_rightHill 30 = .ok (.getfield 9, 3) := by decide +kernel
theorem dX4_rightHill_33 : decode cX4_rightHill 33 = .ok (.iload 4, 2) := by decide +kernel
theorem dX4_rightHill_35 : decode cX4_rightHill 35 = .ok (.iaload, 1) := by decide +kernel
theorem dX4_rightHill_36 : decode cX4_rightHill 36 = .ok (.istore_n 3, 1) := by decide +kernel
theorem dX4_rightHill_37 : decode cX4_rightHill 37 = .ok (.iinc 4 1, 3) := by decide +kernel
theorem dX4_rightHill_40 : decode cX4_rightHill 40 = .ok (.goto (-28), 3) := by decide +kernel
theorem dX4_rightHill_43 : decode cX4_rightHill 43 = .ok (.iload_n 3, 1) := by decide +kernel
theorem dX4_rightHill_44 : decode cX4_rightHill 44 = .ok (.ireturn, 1) := by decide +kernel
theorem dX4_insert_0 : decode cX4_insert 0 = .ok (.iload_n 1, 1) := by decide +kernel
theorem dX4_insert_1 : decode cX4_insert 1 = .ok (.iconst 1, 1) := by decide +kernel
theorem dX4_insert_2 : decode cX4_insert 2 = .ok (.isub, 1) := by decide +kernel
theorem dX4_insert_3 : decode cX4_insert 3 = .ok (.istore_n 2, 1) := by decide +kernel
theorem dX4_insert_4 : decode cX4_insert 4 = .ok (.iload_n 2, 1) := by decide +kernel
theorem dX4_insert_5 : decode cX4_insert 5 = .ok (.ifCond .le 45, 3) := by decide +kernel
theorem dX4_insert_8 : decode cX4_insert 8 = .ok (.aload_n 0, 1) := by decide +kernel
theorem dX4_insert_9 : decode cX4_insert 9 = .ok (.getfield 15, 3) := by decide +kernel
theorem dX4_insert_12 : decode cX4_insert 12 = .ok (.aload_n 0, 1) := by decide +kernel
theorem dX4_insert_13 : decode cX4_insert 13 = .ok (.getfield 18, 3) := by decide +kernel
theorem dX4_insert_16 : decode cX4_insert 16 = .ok (.iload_n 2, 1) := by decide +kernel
theorem dX4_insert_17 : decode cX4_insert 17 = .ok (.iconst 1, 1) := by decide +kernel
theorem dX4_insert_18 : decode cX4_insert 18 = .ok (.isub, 1) := by decide +kernel
theorem dX4_insert_19 : decode cX4_insert 19 = .ok (.iaload, 1) := by decide +kernel
theorem dX4_insert_20 : decode cX4_insert 20 = .ok (.iaload, 1) := by decide +kernel
theorem dX4_insert_21 : decode cX4_insert 21 = .ok (.aload_n 0, 1) := by decide +kernel
theorem dX4_insert_22 : decode cX4_insert 22 = .ok (.getfield 15, 3) := by decide +kernel
theorem dX4_insert_25 : decode cX4_insert 25 = .ok (.iload_n 1, 1) := by decide +kernel
theorem dX4_insert_26 : decode cX4_insert 26 = .ok (.iaload, 1) := by decide +kernel
theorem dX4_insert_27 : decode cX4_insert 27 = .ok (.if_icmp .ge 23, 3) := by decide +kernel
theorem dX4_insert_30 : decode cX4_insert 30 = .ok (.aload_n 0, 1) := by decide +kernel
theorem dX4_insert_31 : decode cX4_insert 31 = .ok (.getfield 18, 3) := by decide +kernel
theorem dX4_insert_34 : decode cX4_insert 34 = .ok (.iload_n 2, 1) := by decide +kernel
theorem dX4_insert_35 : decode cX4_insert 35 = .ok (.aload_n 0, 1) := by decide +kernel
theorem dX4_insert_36 : decode cX4_insert 36 = .ok (.getfield 18, 3) := by decide +kernel
theorem dX4_insert_39 : decode cX4_insert 39 = .ok (.iload_n 2, 1) := by decide +kernel
theorem dX4_insert_40 : decode cX4_insert 40 = .ok (.iconst 1, 1) := by decide +kernel
theorem dX4_insert_41 : decode cX4_insert 41 = .ok (.isub, 1) := by decide +kernel
theorem dX4_insert_42 : decode cX4_insert 42 = .ok (.iaload, 1) := by decide +kernel
theorem dX4_insert_43 : decode cX4_insert 43 = .ok (.iastore, 1) := by decide +kernel
theorem dX4_insert_44 : decode cX4_insert 44 = .ok (.iinc 2 (-1), 3) := by decide +kernel
theorem dX4_insert_47 : decode cX4_insert 47 = .ok (.goto (-43), 3) := by decide +kernel
theorem dX4_insert_50 : decode cX4_insert 50 = .ok (.aload_n 0, 1) := by decide +kernel
theorem dX4_insert_51 : decode cX4_insert 51 = .ok (.getfield 18, 3) := by decide +kernel
theorem dX4_insert_54 : decode cX4_insert 54 = .ok (.iload_n 2, 1) := by decide +kernel
theorem dX4_insert_55 : decode cX4_insert 55 = .ok (.iload_n 1, 1) := by decide +kernel
theorem dX4_insert_56 : decode cX4_insert 56 = .ok (.iastore, 1) := by decide +kernel
theorem dX4_insert_57 : decode cX4_insert 57 = .ok (.return_, 1) := by decide +kernel
theorem dX5_init_0 : decode cX5_init 0 = .ok (.aload_n 0, 1) := by decide +kernel
theorem dX5_init_1 : decode cX5_init 1 = .ok (.invokespecial 3, 3) := by decide +kernel
theorem dX5_init_4 : decode cX5_init 4 = .ok (.aload_n 0, 1) := by decide +kernel
theorem dX5_init_5 : decode cX5_init 5 = .ok (.bipush 9, 2) := by decide +kernel
theorem dX5_init_7 : decode cX5_init 7 = .ok (.bipush 13, 2) := by decide +kernel
theorem dX5_init_9 : decode cX5_init 9 = .ok (.multianewarray 9 2, 4) := by decide +kernel
theorem dX5_init_13 : decode cX5_init 13 = .ok (.putfield 11, 3) := by decide +kernel
theorem dX5_init_16 : decode cX5_init 16 = .ok (.aload_n 0, 1) := by decide +kernel
theorem dX5_init_17 : decode cX5_init 17 = .ok (.bipush 9, 2) := by decide +kernel
theorem dX5_init_19 : decode cX5_init 19 = .ok (.bipush 13, 2) := by decide +kernel
theorem dX5_init_21 : decode cX5_init 21 = .ok (.multianewarray 9 2, 4) := by decide +kernel
theorem dX5_init_25 : decode cX5_init 25 = .ok (.putfield 16, 3) := by decide +kernel
theorem dX5_init_28 : decode cX5_init 28 = .ok (.return_, 1) := by decide +kernel
theorem dX5_fill_0 : decode cX5_fill 0 = .ok (.iconst 1, 1) := by decide +kernel
theorem dX5_fill_1 : decode cX5_fill 1 = .ok (.istore_n 3, 1) := by decide +kernel
theorem dX5_fill_2 : decode cX5_fill 2 = .ok (.iload_n 3, 1) := by decide +kernel
theorem dX5_fill_3 : decode cX5_fill 3 = .ok (.iload_n 2, 1) := by decide +kernel
theorem dX5_fill_4 : decode cX5_fill 4 = .ok (.if_icmp .gt 31, 3) := by decide +kernel
theorem dX5_fill_7 : decode cX5_fill 7 = .ok (.aload_n 0, 1) := by decide +kernel
theorem dX5_fill_8 : decode cX5_fill 8 = .ok (.getfield 11, 3) := by decide +kernel
theorem dX5_fill_11 : decode cX5_fill 11 = .ok (.iconst 1, 1) := by decide +kernel
theorem dX5_fill_12 : decode cX5_fill 12 = .ok (.aaload, 1) := by decide +kernel
theorem dX5_fill_13 : decode cX5_fill 13 = .ok (.iload_n 3, 1) := by decide +kernel
theorem dX5_fill_14 : decode cX5_fill 14 = .ok (.aload_n 1, 1) := by decide +kernel
theorem dX5_fill_15 : decode cX5_fill 15 = .ok (.iconst 0, 1) := by decide +kernel
theorem dX5_fill_16 : decode cX5_fill 16 = .ok (.aaload, 1) := by decide +kernel
theorem dX5_fill_17 : decode cX5_fill 17 = .ok (.iload_n 3, 1) := by decide +kernel
theorem dX5_fill_18 : decode cX5_fill 18 = .ok (.iaload, 1) := by decide +kernel
theorem dX5_fill_19 : decode cX5_fill 19 = .ok (.iastore, 1) := by decide +kernel
theorem dX5_fill_20 : decode cX5_fill 20 = .ok (.aload_n 0, 1) := by decide +kernel
theorem dX5_fill_21 : decode cX5_fill 21 = .ok (.getfield 16, 3) := by decide +kernel
theorem dX5_fill_24 : decode cX5_fill 24 = .ok (.iconst 1, 1) := by decide +kernel
theorem dX5_fill_25 : decode cX5_fill 25 = .ok (.aaload, 1) := by decide +kernel
theorem dX5_fill_26 : decode cX5_fill 26 = .ok (.iload_n 3, 1) := by decide +kernel
theorem dX5_fill_27 : decode cX5_fill 27 = .ok (.iconst 0, 1) := by decide +kernel
theorem dX5_fill_28 : decode cX5_fill 28 = .ok (.iastore, 1) := by decide +kernel
theorem dX5_fill_29 : decode cX5_fill 29 = .ok (.iinc 3 1, 3) := by decide +kernel
theorem dX5_fill_32 : decode cX5_fill 32 = .ok (.goto (-30), 3) := by decide +kernel
theorem dX5_fill_35 : decode cX5_fill 35 = .ok (.iconst 2, 1) := by decide +kernel
theorem dX5_fill_36 : decode cX5_fill 36 = .ok (.istore_n 3, 1) := by decide +kernel
theorem dX5_fill_37 : decode cX5_fill 37 = .ok (.iload_n 3, 1) := by decide +kernel
theorem dX5_fill_38 : decode cX5_fill 38 = .ok (.bipush 8, 2) := by decide +kernel
theorem dX5_fill_40 : decode cX5_fill 40 = .ok (.if_icmp .gt 32, 3) := by decide +kernel
theorem dX5_fill_43 : decode cX5_fill 43 = .ok (.iload_n 3, 1) := by decide +kernel
theorem dX5_fill_44 : decode cX5_fill 44 = .ok (.istore 4, 2) := by decide +kernel
theorem dX5_fill_46 : decode cX5_fill 46 = .ok (.iload 4, 2) := by decide +kernel
theorem dX5_fill_48 : decode cX5_fill 48 = .ok (.iload_n 2, 1) := by decide +kernel
theorem dX5_fill_49 : decode cX5_fill 49 = .ok (.if_icmp .gt 17, 3) := by decide +kernel
theorem dX5_fill_52 : decode cX5_fill 52 = .ok (.aload_n 0, 1) := by decide +kernel
theorem dX5_fill_53 : decode cX5_fill 53 = .ok (.aload_n 1, 1) := by decide +kernel
theorem dX5_fill_54 : decode cX5_fill 54 = .ok (.iload_n 3, 1) := by decide +kernel
theorem dX5_fill_55 : decode cX5_fill 55 = .ok (.iload 4, 2) := by decide +kernel
theorem dX5_fill_57 : decode cX5_fill 57 = .ok (.invokevirtual 19, 3) := by decide +kernel
theorem dX5_fill_60 : decode cX5_fill 60 = .ok (.iinc 4 1, 3) := by decide +kernel
theorem dX5_fill_63 : decode cX5_fill 63 = .ok (.goto (-17), 3) := by decide +kernel
theorem dX5_fill_66 : decode cX5_fill 66 = .ok (.iinc 3 1, 3) := by decide +kernel
theorem dX5_fill_69 : decode cX5_fill 69 = .ok (.goto (-32), 3) := by decide +kernel
theorem dX5_fill_72 : decode cX5_fill 72 = .ok (.return_, 1) := by decide +kernel
theorem dX5_chooseLastBlock_0 : decode cX5_chooseLastBlock 0 = .ok (.aload_n 0, 1) := by decide +kernel
theorem dX5_chooseLastBlock_1 : decode cX5_chooseLastBlock 1 = .ok (.getfield 11, 3) := by decide +kernel
theorem dX5_chooseLastBlock_4 : decode cX5_chooseLastBlock 4 = .ok (.iload_n 2, 1) := by decide +kernel
theorem dX5_chooseLastBlock_5 : decode cX5_chooseLastBlock 5 = .ok (.iconst 1, 1) := by decide +kernel
theorem dX5_chooseLastBlock_6 : decode cX5_chooseLastBlock 6 = .ok (.isub, 1) := by decide +kernel
theorem dX5_chooseLastBlock_7 : decode cX5_chooseLastBlock 7 = .ok (.aaload, 1) := by decide +kernel
theorem dX5_chooseLastBlock_8 : decode cX5_chooseLastBlock 8 = .ok (.iload_n 2, 1) := by decide +kernel
theorem dX5_chooseLastBlock_9 : decode cX5_chooseLastBlock 9 = .ok (.iconst 1, 1) := by decide +kernel
theorem dX5_chooseLastBlock_10 : decode cX5_chooseLastBlock 10 = .ok (.isub, 1) := by decide +kernel
theorem dX5_chooseLastBlock_11 : decode cX5_chooseLastBlock 11 = .ok (.iaload, 1) := by decide +kernel
theorem dX5_chooseLastBlock_12 : decode cX5_chooseLastBlock 12 = .ok (.aload_n 1, 1) := by decide +kernel
theorem dX5_chooseLastBlock_13 : decode cX5_chooseLastBlock 13 = .ok (.iload_n 2, 1) := by decide +kernel
theorem dX5_chooseLastBlock_14 : decode cX5_chooseLastBlock 14 = .ok (.iconst 1, 1) := by decide +kernel
theorem dX5_chooseLastBlock_15 : decode cX5_chooseLastBlock 15 = .ok (.isub, 1) := by decide +kernel
theorem dX5_chooseLastBlock_16 : decode cX5_chooseLastBlock 16 = .ok (.aaload, 1) := by decide +kernel
theorem dX5_chooseLastBlock_17 : decode cX5_chooseLastBlock 17 = .ok (.iload_n 3, 1) := by decide +kernel
theorem dX5_chooseLastBlock_18 : decode cX5_chooseLastBlock 18 = .ok (.iaload, 1) := by decide +kernel
theorem dX5_chooseLastBlock_19 : decode cX5_chooseLastBlock 19 = .ok (.iadd, 1) := by decide +kernel
theorem dX5_chooseLastBlock_20 : decode cX5_chooseLastBlock 20 = .ok (.istore 4, 2) := by decide +kernel
theorem dX5_chooseLastBlock_22 : decode cX5_chooseLastBlock 22 = .ok (.iload_n 2, 1) := by decide +kernel
theorem dX5_chooseLastBlock_23 : decode cX5_chooseLastBlock 23 = .ok (.iconst 1, 1) := by decide +kernel
theorem dX5_chooseLastBlock_24 : decode cX5_chooseLastBlock 24 = .ok (.isub, 1) := by decide +kernel
theorem dX5_chooseLastBlock_25 : decode cX5_chooseLastBlock 25 = .ok (.istore 5, 2) := by decide +kernel
theorem dX5_chooseLastBlock_27 : decode cX5_chooseLastBlock 27 = .ok (.iload_n 2, 1) := by decide +kernel
theorem dX5_chooseLastBlock_28 : decode cX5_chooseLastBlock 28 = .ok (.istore 6, 2) := by decide +kernel
theorem dX5_chooseLastBlock_30 : decode cX5_chooseLastBlock 30 = .ok (.iload 6, 2) := by decide +kernel
theorem dX5_chooseLastBlock_32 : decode cX5_chooseLastBlock 32 = .ok (.iload_n 3, 1) := by decide +kernel
theorem dX5_chooseLastBlock_33 : decode cX5_chooseLastBlock 33 = .ok (.if_icmp .ge 44, 3) := by decide +kernel
theorem dX5_chooseLastBlock_36 : decode cX5_chooseLastBlock 36 = .ok (.aload_n 0, 1) := by decide +kernel
theorem dX5_chooseLastBlock_37 : decode cX5_chooseLastBlock 37 = .ok (.getfield 11, 3) := by decide +kernel
theorem dX5_chooseLastBlock_40 : decode cX5_chooseLastBlock 40 = .ok (.iload_n 2, 1) := by decide +kernel
theorem dX5_chooseLastBlock_41 : decode cX5_chooseLastBlock 41 = .ok (.iconst 1, 1) := by decide +kernel
theorem dX5_chooseLastBlock_42 : decode cX5_chooseLastBlock 42 = .ok (.isub, 1) := by decide +kernel
theorem dX5_chooseLastBlock_43 : decode cX5_chooseLastBlock 43 = .ok (.aaload, 1) := by decide +kernel
theorem dX5_chooseLastBlock_44 : decode cX5_chooseLastBlock 44 = .ok (.iload 6, 2) := by decide +kernel
theorem dX5_chooseLastBlock_46 : decode cX5_chooseLastBlock 46 = .ok (.iaload, 1) := by decide +kernel
theorem dX5_chooseLastBlock_47 : decode cX5_chooseLastBlock 47 = .ok (.aload_n 1, 1) := by decide +kernel
theorem dX5_chooseLastBlock_48 : decode cX5_chooseLastBlock 48 = .ok (.iload 6, 2) := by decide +kernel
theorem dX5_chooseLastBlock_50 : decode cX5_chooseLastBlock 50 = .ok (.aaload, 1) := by decide +kernel
theorem dX5_chooseLastBlock_51 : decode cX5_chooseLastBlock 51 = .ok (.iload_n 3, 1) := by decide +kernel
theorem dX5_chooseLastBlock_52 : decode cX5_chooseLastBlock 52 = .ok (.iaload, 1) := by decide +kernel
theorem dX5_chooseLastBlock_53 : decode cX5_chooseLastBlock 53 = .ok (.iadd, 1) := by decide +kernel
theorem dX5_chooseLastBlock_54 : decode cX5_chooseLastBlock 54 = .ok (.istore 7, 2) := by decide +kernel
theorem dX5_chooseLastBlock_56 : decode cX5_chooseLastBlock 56 = .ok (.iload 7, 2) := by decide +kernel
theorem dX5_chooseLastBlock_58 : decode cX5_chooseLastBlock 58 = .ok (.iload 4, 2) := by decide +kernel
theorem dX5_chooseLastBlock_60 : decode cX5_chooseLastBlock 60 = .ok (.if_icmp .ge 11, 3) := by decide +kernel
theorem dX5_chooseLastBlock_63 : decode cX5_chooseLastBlock 63 = .ok (.iload 7, 2) := by decide +kernel
theorem dX5_chooseLastBlock_65 : decode cX5_chooseLastBlock 65 = .ok (.istore 4, 2) := by decide +kernel
theorem dX5_chooseLastBlock_67 : decode cX5_chooseLastBlock 67 = .ok (.iload 6, 2) := by decide +kernel
theorem dX5_chooseLastBlock_69 : decode cX5_chooseLastBlock 69 = .ok (.istore 5, 2) := by decide +kernel
theorem dX5_chooseLastBlock_71 : decode cX5_chooseLastBlock 71 = .ok (.iinc 6 1, 3) := by decide +kernel
theorem dX5_chooseLastBlock_74 : decode cX5_chooseLastBlock 74 = .ok (.goto (-44), 3) := by decide +kernel
theorem dX5_chooseLastBlock_77 : decode cX5_chooseLastBlock 77 = .ok (.aload_n 0, 1) := by decide +kernel
theorem dX5_chooseLastBlock_78 : decode cX5_chooseLastBlock 78 = .ok (.getfield 11, 3) := by decide +kernel
theorem dX5_chooseLastBlock_81 : decode cX5_chooseLastBlock 81 = .ok (.iload_n 2, 1) := by decide +kernel
theorem dX5_chooseLastBlock_82 : decode cX5_chooseLastBlock 82 = .ok (.aaload, 1) := by decide +kernel
theorem dX5_chooseLastBlock_83 : decode cX5_chooseLastBlock 83 = .ok (.iload_n 3, 1) := by decide +kernel
theorem dX5_chooseLastBlock_84 : decode cX5_chooseLastBlock 84 = .ok (.iload 4, 2) := by decide +kernel
theorem dX5_chooseLastBlock_86 : decode cX5_chooseLastBlock 86 = .ok (.iastore, 1) := by decide +kernel
theorem dX5_chooseLastBlock_87 : decode cX5_chooseLastBlock 87 = .ok (.aload_n 0, 1) := by decide +kernel
theorem dX5_chooseLastBlock_88 : decode cX5_chooseLastBlock 88 = .ok (.getfield 16, 3) := by decide +kernel
theorem dX5_chooseLastBlock_91 : decode cX5_chooseLastBlock 91 = .ok (.iload_n 2, 1) := by decide +kernel
theorem dX5_chooseLastBlock_92 : decode cX5_chooseLastBlock 92 = .ok (.aaload, 1) := by decide +kernel
theorem dX5_chooseLastBlock_93 : decode cX5_chooseLastBlock 93 = .ok (.iload_n 3, 1) := by decide +kernel
theorem dX5_chooseLastBlock_94 : decode cX5_chooseLastBlock 94 = .ok (.iload 5, 2) := by decide +kernel
theorem dX5_chooseLastBlock_96 : decode cX5_chooseLastBlock 96 = .ok (.iastore, 1) := by decide +kernel
theorem dX5_chooseLastBlock_97 : decode cX5_chooseLastBlock 97 = .ok (.return_, 1) := by decide +kernel
theorem dX5_totalOf_0 : decode cX5_totalOf 0 = .ok (.aload_n 0, 1) := by decide +kernel
theorem dX5_totalOf_1 : decode cX5_totalOf 1 = .ok (.getfield 11, 3) := by decide +kernel
theorem dX5_totalOf_4 : decode cX5_totalOf 4 = .ok (.iload_n 1, 1) := by decide +kernel
theorem dX5_totalOf_5 : decode cX5_totalOf 5 = .ok (.aaload, 1) := by decide +kernel
theorem dX5_totalOf_6 : decode cX5_totalOf 6 = .ok (.iload_n 2, 1) := by decide +kernel
theorem dX5_totalOf_7 : decode cX5_totalOf 7 = .ok (.iaload, 1) := by decide +kernel
theorem dX5_totalOf_8 : decode cX5_totalOf 8 = .ok (.ireturn, 1) := by decide +kernel
theorem dX5_beginOf_0 : decode cX5_beginOf 0 = .ok (.iload_n 3, 1) := by decide +kernel
theorem dX5_beginOf_1 : decode cX5_beginOf 1 = .ok (.istore 4, 2) := by decide +kernel
theorem dX5_beginOf_3 : decode cX5_beginOf 3 = .ok (.iload_n 1, 1) := by decide +kernel
theorem dX5_beginOf_4 : decode cX5_beginOf 4 = .ok (.istore 5, 2) := by decide +kernel
theorem dX5_beginOf_6 : decode cX5_beginOf 6 = .ok (.iload 5, 2) := by decide +kernel
theorem dX5_beginOf_8 : decode cX5_beginOf 8 = .ok (.iload_n 2, 1) := by decide +kernel
theorem dX5_beginOf_9 : decode cX5_beginOf 9 = .ok (.if_icmp .le 21, 3) := by decide +kernel
theorem dX5_beginOf_12 : decode cX5_beginOf 12 = .ok (.aload_n 0, 1) := by decide +kernel
theorem dX5_beginOf_13 : decode cX5_beginOf 13 = .ok (.getfield 16, 3) := by decide +kernel
theorem dX5_beginOf_16 : decode cX5_beginOf 16 = .ok (.iload 5, 2) := by decide +kernel
theorem dX5_beginOf_18 : decode cX5_beginOf 18 = .ok (.aaload, 1) := by decide +kernel
theorem dX5_beginOf_19 : decode cX5_beginOf 19 = .ok (.iload 4, 2) := by decide +kernel
theorem dX5_beginOf_21 : decode cX5_beginOf 21 = .ok (.iaload, 1) := by decide +kernel
theorem dX5_beginOf_22 : decode cX5_beginOf 22 = .ok (.istore 4, 2) := by decide +kernel
theorem dX5_beginOf_24 : decode cX5_beginOf 24 = .ok (.iinc 5 (-1), 3) := by decide +kernel
theorem dX5_beginOf_27 : decode cX5_beginOf 27 = .ok (.goto (-21), 3) := by decide +kernel
theorem dX5_beginOf_30 : decode cX5_beginOf 30 = .ok (.iload 4, 2) := by decide +kernel
theorem dX5_beginOf_32 : decode cX5_beginOf 32 = .ok (.ireturn, 1) := by decide +kernel
theorem dX5_seamBits_0 : decode cX5_seamBits 0 = .ok (.iconst 0, 1) := by decide +kernel
theorem dX5_seamBits_1 : decode cX5_seamBits 1 = .ok (.istore_n 3, 1) := by decide +kernel
theorem dX5_seamBits_2 : decode cX5_seamBits 2 = .ok (.iconst 1, 1) := by decide +kernel
theorem dX5_seamBits_3 : decode cX5_seamBits 3 = .ok (.istore 4, 2) := by decide +kernel
theorem dX5_seamBits_5 : decode cX5_seamBits 5 = .ok (.iload 4, 2) := by decide +kernel
theorem dX5_seamBits_7 : decode cX5_seamBits 7 = .ok (.iload_n 1, 1) := by decide +kernel
theorem dX5_seamBits_8 : decode cX5_seamBits 8 = .ok (.if_icmp .ge 22, 3) := by decide +kernel
theorem dX5_seamBits_11 : decode cX5_seamBits 11 = .ok (.iload_n 3, 1) := by decide +kernel
theorem dX5_seamBits_12 : decode cX5_seamBits 12 = .ok (.iconst 1, 1) := by decide +kernel
theorem dX5_seamBits_13 : decode cX5_seamBits 13 = .ok (.aload_n 0, 1) := by decide +kernel
theorem dX5_seamBits_14 : decode cX5_seamBits 14 = .ok (.iload_n 1, 1) := by decide +kernel
theorem dX5_seamBits_15 : decode cX5_seamBits 15 = .ok (.iload 4, 2) := by decide +kernel
theorem dX5_seamBits_17 : decode cX5_seamBits 17 = .ok (.iload_n 2, 1) := by decide +kernel
theorem dX5_seamBits_18 : decode cX5_seamBits 18 = .ok (.invokevirtual 23, 3) := by decide +kernel
theorem dX5_seamBits_21 : decode cX5_seamBits 21 = .ok (.ishl, 1) := by decide +kernel
theorem dX5_seamBits_22 : decode cX5_seamBits 22 = .ok (.ior, 1) := by decide +kernel
theorem dX5_seamBits_23 : decode cX5_seamBits 23 = .ok (.istore_n 3, 1) := by decide +kernel
theorem dX5_seamBits_24 : decode cX5_seamBits 24 = .ok (.iinc 4 1, 3) := by decide +kernel
theorem dX5_seamBits_27 : decode cX5_seamBits 27 = .ok (.goto (-22), 3) := by decide +kernel
theorem dX5_seamBits_30 : decode cX5_seamBits 30 = .ok (.iload_n 3, 1) := by decide +kernel
theorem dX5_seamBits_31 : decode cX5_seamBits 31 = .ok (.ireturn, 1) := by decide +kernel
theorem dX5_isBent_0 : decode cX5_isBent 0 = .ok (.aload_n 0, 1) := by decide +kernel
theorem dX5_isBent_1 : decode cX5_isBent 1 = .ok (.getfield 11, 3) := by decide +kernel
theorem dX5_isBent_4 : decode cX5_isBent 4 = .ok (.iload_n 1, 1) := by decide +kernel
theorem dX5_isBent_5 : decode cX5_isBent 5 = .ok (.iconst 1, 1) := by decide +kernel
theorem dX5_isBent_6 : decode cX5_isBent 6 = .ok (.isub, 1) := by decide +kernel
theorem dX5_isBent_7 : decode cX5_isBent 7 = .ok (.aaload, 1) := by decide +kernel
theorem dX5_isBent_8 : decode cX5_isBent 8 = .ok (.iload_n 2, 1) := by decide +kernel
theorem dX5_isBent_9 : decode cX5_isBent 9 = .ok (.iaload, 1) := by decide +kernel
theorem dX5_isBent_10 : decode cX5_isBent 10 = .ok (.aload_n 0, 1) := by decide +kernel
theorem dX5_isBent_11 : decode cX5_isBent 11 = .ok (.getfield 11, 3) := by decide +kernel
theorem dX5_isBent_14 : decode cX5_isBent 14 = .ok (.iload_n 1, 1) := by decide +kernel
theorem dX5_isBent_15 : decode cX5_isBent 15 = .ok (.iconst 1, 1) := by decide +kernel
theorem dX5_isBent_16 : decode cX5_isBent 16 = .ok (.iadd, 1) := by decide +kernel
theorem dX5_isBent_17 : decode cX5_isBent 17 = .ok (.aaload, 1) := by decide +kernel
theorem dX5_isBent_18 : decode cX5_isBent 18 = .ok (.iload_n 2, 1) := by decide +kernel
theorem dX5_isBent_19 : decode cX5_isBent 19 = .ok (.iaload, 1) := by decide +kernel
theorem dX5_isBent_20 : decode cX5_isBent 20 = .ok (.iadd, 1) := by decide +kernel
theorem dX5_isBent_21 : decode cX5_isBent 21 = .ok (.iconst 2, 1) := by decide +kernel
theorem dX5_isBent_22 : decode cX5_isBent 22 = .ok (.aload_n 0, 1) := by decide +kernel
theorem dX5_isBent_23 : decode cX5_isBent 23 = .ok (.getfield 11, 3) := by decide +kernel
theorem dX5_isBent_26 : decode cX5_isBent 26 = .ok (.iload_n 1, 1) := by decide +kernel
theorem dX5_isBent_27 : decode cX5_isBent 27 = .ok (.aaload, 1) := by decide +kernel
theorem dX5_isBent_28 : decode cX5_isBent 28 = .ok (.iload_n 2, 1) := by decide +kernel
theorem dX5_isBent_29 : decode cX5_isBent 29 = .ok (.iaload, 1) := by decide +kernel
theorem dX5_isBent_30 : decode cX5_isBent 30 = .ok (.imul, 1) := by decide +kernel
theorem dX5_isBent_31 : decode cX5_isBent 31 = .ok (.if_icmp .lt 7, 3) := by decide +kernel
theorem dX5_isBent_34 : decode cX5_isBent 34 = .ok (.iconst 1, 1) := by decide +kernel
theorem dX5_isBent_35 : decode cX5_isBent 35 = .ok (.goto 4, 3) := by decide +kernel
theorem dX5_isBent_38 : decode cX5_isBent 38 = .ok (.iconst 0, 1) := by decide +kernel
theorem dX5_isBent_39 : decode cX5_isBent 39 = .ok (.ireturn, 1) := by decide +kernel
theorem dX6_init_0 : decode cX6_init 0 = .ok (.aload_n 0, 1) := by decide +kernel
theorem dX6_init_1 : decode cX6_init 1 = .ok (.invokespecial 3, 3) := by decide +kernel
theorem dX6_init_4 : decode cX6_init 4 = .ok (.aload_n 0, 1) := by decide +kernel
theorem dX6_init_5 : decode cX6_init 5 = .ok (.iconst 0, 1) := by decide +kernel
theorem dX6_init_6 : decode cX6_init 6 = .ok (.putfield 9, 3) := by decide +kernel
theorem dX6_init_9 : decode cX6_init 9 = .ok (.aload_n 0, 1) := by decide +kernel
theorem dX6_init_10 : decode cX6_init 10 = .ok (.iconst 0, 1) := by decide +kernel
theorem dX6_init_11 : decode cX6_init 11 = .ok (.putfield 15, 3) := by decide +kernel
theorem dX6_init_14 : decode cX6_init 14 = .ok (.aload_n 0, 1) := by decide +kernel
theorem dX6_init_15 : decode cX6_init 15 = .ok (.iconst 0, 1) := by decide +kernel
theorem dX6_init_16 : decode cX6_init 16 = .ok (.putfield 18, 3) := by decide +kernel
theorem dX6_init_19 : decode cX6_init 19 = .ok (.aload_n 0, 1) := by decide +kernel
theorem dX6_init_20 : decode cX6_init 20 = .ok (.bipush 12, 2) := by decide +kernel
theorem dX6_init_22 : decode cX6_init 22 = .ok (.newarray .int, 2) := by decide +kernel
theorem dX6_init_24 : decode cX6_init 24 = .ok (.putfield 21, 3) := by decide +kernel
theorem dX6_init_27 : decode cX6_init 27 = .ok (.aload_n 0, 1) := by decide +kernel
theorem dX6_init_28 : decode cX6_init 28 = .ok (.bipush 12, 2) := by decide +kernel
theorem dX6_init_30 : decode cX6_init 30 = .ok (.newarray .int, 2) := by decide +kernel
theorem dX6_init_32 : decode cX6_init 32 = .ok (.putfield 25, 3) := by decide +kernel
theorem dX6_init_35 : decode cX6_init 35 = .ok (.aload_n 0, 1) := by decide +kernel
theorem dX6_init_36 : decode cX6_init 36 = .ok (.bipush 12, 2) := by decide +kernel
theorem dX6_init_38 : decode cX6_init 38 = .ok (.bipush 9, 2) := by decide +kernel
theorem dX6_init_40 : decode cX6_init 40 = .ok (.multianewarray 28 2, 4) := by decide +kernel
theorem dX6_init_44 : decode cX6_init 44 = .ok (.putfield 30, 3) := by decide +kernel
theorem dX6_init_47 : decode cX6_init 47 = .ok (.aload_n 0, 1) := by decide +kernel
theorem dX6_init_48 : decode cX6_init 48 = .ok (.bipush 12, 2) := by decide +kernel
theorem dX6_init_50 : decode cX6_init 50 = .ok (.bipush 108, 2) := by decide +kernel
theorem dX6_init_52 : decode cX6_init 52 = .ok (.multianewarray 28 2, 4) := by decide +kernel
theorem dX6_init_56 : decode cX6_init 56 = .ok (.putfield 33, 3) := by decide +kernel
theorem dX6_init_59 : decode cX6_init 59 = .ok (.aload_n 0, 1) := by decide +kernel
theorem dX6_init_60 : decode cX6_init 60 = .ok (.bipush 108, 2) := by decide +kernel
theorem dX6_init_62 : decode cX6_init 62 = .ok (.newarray .int, 2) := by decide +kernel
theorem dX6_init_64 : decode cX6_init 64 = .ok (.putfield 36, 3) := by decide +kernel
theorem dX6_init_67 : decode cX6_init 67 = .ok (.aload_n 0, 1) := by decide +kernel
theorem dX6_init_68 : decode cX6_init 68 = .ok (.bipush 108, 2) := by decide +kernel
theorem dX6_init_70 : decode cX6_init 70 = .ok (.newarray .int, 2) := by decide +kernel
theorem dX6_init_72 : decode cX6_init 72 = .ok (.putfield 39, 3) := by decide +kernel
theorem dX6_init_75 : decode cX6_init 75 = .ok (.aload_n 0, 1) := by decide +kernel
theorem dX6_init_76 : decode cX6_init 76 = .ok (.bipush 108, 2) := by decide +kernel
theorem dX6_init_78 : decode cX6_init 78 = .ok (.newarray .int, 2) := by decide +kernel
theorem dX6_init_80 : decode cX6_init 80 = .ok (.putfield 42, 3) := by decide +kernel
theorem dX6_init_83 : decode cX6_init 83 = .ok (.aload_n 0, 1) := by decide +kernel
theorem dX6_init_84 : decode cX6_init 84 = .ok (.bipush 108, 2) := by decide +kernel
theorem dX6_init_86 : decode cX6_init 86 = .ok (.newarray .int, 2) := by decide +kernel
theorem dX6_init_88 : decode cX6_init 88 = .ok (.putfield 45, 3) := by decide +kernel
theorem dX6_init_91 : decode cX6_init 91 = .ok (.aload_n 0, 1) := by decide +kernel
theorem dX6_init_92 : decode cX6_init 92 = .ok (.bipush 108, 2) := by decide +kernel
theorem dX6_init_94 : decode cX6_init 94 = .ok (.newarray .long, 2) := by decide +kernel
theorem dX6_init_96 : decode cX6_init 96 = .ok (.putfield 48, 3) := by decide +kernel
theorem dX6_init_99 : decode cX6_init 99 = .ok (.return_, 1) := by decide +kernel
theorem dX6_fill_0 : decode cX6_fill 0 = .ok (.aload_n 0, 1) := by decide +kernel
theorem dX6_fill_1 : decode cX6_fill 1 = .ok (.iconst 0, 1) := by decide +kernel
theorem dX6_fill_2 : decode cX6_fill 2 = .ok (.putfield 9, 3) := by decide +kernel
theorem dX6_fill_5 : decode cX6_fill 5 = .ok (.aload_n 0, 1) := by decide +kernel
theorem dX6_fill_6 : decode cX6_fill 6 = .ok (.iconst 0, 1) := by decide +kernel
theorem dX6_fill_7 : decode cX6_fill 7 = .ok (.putfield 15, 3) := by decide +kernel
theorem dX6_fill_10 : decode cX6_fill 10 = .ok (.aload_n 0, 1) := by decide +kernel
theorem dX6_fill_11 : decode cX6_fill 11 = .ok (.iconst 0, 1) := by decide +kernel
theorem dX6_fill_12 : decode cX6_fill 12 = .ok (.putfield 18, 3) := by decide +kernel
theorem dX6_fill_15 : decode cX6_fill 15 = .ok (.iload_n 2, 1) := by decide +kernel
theorem dX6_fill_16 : decode cX6_fill 16 = .ok (.ifCond .ne 4, 3) := by decide +kernel
theorem dX6_fill_19 : decode cX6_fill 19 = .ok (.return_, 1) := by decide +kernel
theorem dX6_fill_20 : decode cX6_fill 20 = .ok (.iconst 0, 1) := by decide +kernel
theorem dX6_fill_21 : decode cX6_fill 21 = .ok (.istore_n 3, 1) := by decide +kernel
theorem dX6_fill_22 : decode cX6_fill 22 = .ok (.iload_n 3, 1) := by decide +kernel
theorem dX6_fill_23 : decode cX6_fill 23 = .ok (.bipush 12, 2) := by decide +kernel
theorem dX6_fill_25 : decode cX6_fill 25 = .ok (.if_icmp .ge 16, 3) := by decide +kernel
theorem dX6_fill_28 : decode cX6_fill 28 = .ok (.aload_n 0, 1) := by decide +kernel
theorem dX6_fill_29 : decode cX6_fill 29 = .ok (.getfield 25, 3) := by decide +kernel
theorem dX6_fill_32 : decode cX6_fill 32 = .ok (.iload_n 3, 1) := by decide +kernel
theorem dX6_fill_33 : decode cX6_fill 33 = .ok (.iconst 0, 1) := by decide +kernel
theorem dX6_fill_34 : decode cX6_fill 34 = .ok (.iastore, 1) := by decide +kernel
theorem dX6_fill_35 : decode cX6_fill 35 = .ok (.iinc 3 1, 3) := by decide +kernel
theorem dX6_fill_38 : decode cX6_fill 38 = .ok (.goto (-16), 3) := by decide +kernel
theorem dX6_fill_41 : decode cX6_fill 41 = .ok (.lconst 0, 1) := by decide +kernel
theorem dX6_fill_42 : decode cX6_fill 42 = .ok (.lstore_n 3, 1) := by decide +kernel
theorem dX6_fill_43 : decode cX6_fill 43 = .ok (.iconst 0, 1) := by decide +kernel
theorem dX6_fill_44 : decode cX6_fill 44 = .ok (.istore 5, 2) := by decide +kernel
theorem dX6_fill_46 : decode cX6_fill 46 = .ok (.iconst 0, 1) := by decide +kernel
theorem dX6_fill_47 : decode cX6_fill 47 = .ok (.istore 6, 2) := by decide +kernel
theorem dX6_fill_49 : decode cX6_fill 49 = .ok (.iload 6, 2) := by decide +kernel
theorem dX6_fill_51 : decode cX6_fill 51 = .ok (.aload_n 1, 1) := by decide +kernel
theorem dX6_fill_52 : decode cX6_fill 52 = .ok (.getfield 52, 3) := by decide +kernel
theorem dX6_fill_55 : decode cX6_fill 55 = .ok (.if_icmp .ge 82, 3) := by decide +kernel
theorem dX6_fill_58 : decode cX6_fill 58 = .ok (.aload_n 1, 1) := by decide +kernel
theorem dX6_fill_59 : decode cX6_fill 59 = .ok (.getfield 57, 3) := by decide +kernel
theorem dX6_fill_62 : decode cX6_fill 62 = .ok (.iload 6, 2) := by decide +kernel
theorem dX6_fill_64 : decode cX6_fill 64 = .ok (.iaload, 1) := by decide +kernel
theorem dX6_fill_65 : decode cX6_fill 65 = .ok (.istore 7, 2) := by decide +kernel
theorem dX6_fill_67 : decode cX6_fill 67 = .ok (.iload 7, 2) := by decide +kernel
theorem dX6_fill_69 : decode cX6_fill 69 = .ok (.invokestatic 60, 3) := by decide +kernel
theorem dX6_fill_72 : decode cX6_fill 72 = .ok (.ifCond .eq 20, 3) := by decide +kernel
theorem dX6_fill_75 : decode cX6_fill 75 = .ok (.lload_n 3, 1) := by decide +kernel
theorem dX6_fill_76 : decode cX6_fill 76 = .ok (.iconst 5, 1) := by decide +kernel
theorem dX6_fill_77 : decode cX6_fill 77 = .ok (.lshl, 1) := by decide +kernel
theorem dX6_fill_78 : decode cX6_fill 78 = .ok (.iload 7, 2) := by decide +kernel
theorem dX6_fill_80 : decode cX6_fill 80 = .ok (.bipush 96, 2) := by decide +kernel
theorem dX6_fill_82 : decode cX6_fill 82 = .ok (.isub, 1) := by decide +kernel
theorem dX6_fill_83 : decode cX6_fill 83 = .ok (.i2l, 1) := by decide +kernel
theorem dX6_fill_84 : decode cX6_fill 84 = .ok (.lor, 1) := by decide +kernel
theorem dX6_fill_85 : decode cX6_fill 85 = .ok (.lstore_n 3, 1) := by decide +kernel
theorem dX6_fill_86 : decode cX6_fill 86 = .ok (.iinc 5 1, 3) := by decide +kernel
theorem dX6_fill_89 : decode cX6_fill 89 = .ok (.goto 42, 3) := by decide +kernel
theorem dX6_fill_92 : decode cX6_fill 92 = .ok (.iload 5, 2) := by decide +kernel
theorem dX6_fill_94 : decode cX6_fill 94 = .ok (.ifCond .le 15, 3) := by decide +kernel
theorem dX6_fill_97 : decode cX6_fill 97 = .ok (.aload_n 0, 1) := by decide +kernel
theorem dX6_fill_98 : decode cX6_fill 98 = .ok (.lload_n 3, 1) := by decide +kernel
theorem dX6_fill_99 : decode cX6_fill 99 = .ok (.iload 5, 2) := by decide +kernel
theorem dX6_fill_101 : decode cX6_fill 101 = .ok (.iload 6, 2) := by decide +kernel
theorem dX6_fill_103 : decode cX6_fill 103 = .ok (.iload 5, 2) := by decide +kernel
theorem dX6_fill_105 : decode cX6_fill 105 = .ok (.isub, 1) := by decide +kernel
theorem dX6_fill_106 : decode cX6_fill 106 = .ok (.invokevirtual 64, 3) := by decide +kernel
theorem dX6_fill_109 : decode cX6_fill 109 = .ok (.lconst 0, 1) := by decide +kernel
theorem dX6_fill_110 : decode cX6_fill 110 = .ok (.lstore_n 3, 1) := by decide +kernel
theorem dX6_fill_111 : decode cX6_fill 111 = .ok (.iconst 0, 1) := by decide +kernel
theorem dX6_fill_112 : decode cX6_fill 112 = .ok (.istore 5, 2) := by decide +kernel
theorem dX6_fill_114 : decode cX6_fill 114 = .ok (.iload 7, 2) := by decide +kernel
theorem dX6_fill_116 : decode cX6_fill 116 = .ok (.bipush 46, 2) := by decide +kernel
theorem dX6_fill_118 : decode cX6_fill 118 = .ok (.if_icmp .ne 13, 3) := by decide +kernel
theorem dX6_fill_121 : decode cX6_fill 121 = .ok (.aload_n 0, 1) := by decide +kernel
theorem dX6_fill_122 : decode cX6_fill 122 = .ok (.dup, 1) := by decide +kernel
theorem dX6_fill_123 : decode cX6_fill 123 = .ok (.getfield 9, 3) := by decide +kernel
theorem dX6_fill_126 : decode cX6_fill 126 = .ok (.iconst 1, 1) := by decide +kernel
theorem dX6_fill_127 : decode cX6_fill 127 = .ok (.iadd, 1) := by decide +kernel
theorem dX6_fill_128 : decode cX6_fill 128 = .ok (.putfield 9, 3) := by decide +kernel
theorem dX6_fill_131 : decode cX6_fill 131 = .ok (.iinc 6 1, 3) := by decide +kernel
theorem dX6_fill_134 : decode cX6_fill 134 = .ok (.goto (-85), 3) := by decide +kernel
theorem dX6_fill_137 : decode cX6_fill 137 = .ok (.return_, 1) := by decide +kernel
theorem dX6_addWord_0 : decode cX6_addWord 0 = .ok (.aload_n 0, 1) := by decide +kernel
theorem dX6_addWord_1 : decode cX6_addWord 1 = .ok (.getfield 9, 3) := by decide +kernel
theorem dX6_addWord_4 : decode cX6_addWord 4 = .ok (.istore 5, 2) := by decide +kernel
theorem dX6_addWord_6 : decode cX6_addWord 6 = .ok (.iload 5, 2) := by decide +kernel
theorem dX6_addWord_8 : decode cX6_addWord 8 = .ok (.bipush 12, 2) := by decide +kernel
theorem dX6_addWord_10 : decode cX6_addWord 10 = .ok (.if_icmp .ge 24, 3) := by decide +kernel
theorem dX6_addWord_13 : decode cX6_addWord 13 = .ok (.aload_n 0, 1) := by decide +kernel
theorem dX6_addWord_14 : decode cX6_addWord 14 = .ok (.getfield 25, 3) := by decide +kernel
theorem dX6_addWord_17 : decode cX6_addWord 17 = .ok (.iload 5, 2) := by decide +kernel
theorem dX6_addWord_19 : decode cX6_addWord 19 = .ok (.iaload, 1) := by decide +kernel
theorem dX6_addWord_20 : decode cX6_addWord 20 = .ok (.bipush 9, 2) := by decide +kernel
theorem dX6_addWord_22 : decode cX6_addWord 22 = .ok (.if_icmp .ge 12, 3) := by decide +kernel
theorem dX6_addWord_25 : decode cX6_addWord 25 = .ok (.aload_n 0, 1) := by decide +kernel
theorem dX6_addWord_26 : decode cX6_addWord 26 = .ok (.getfield 15, 3) := by decide +kernel
theorem dX6_addWord_29 : decode cX6_addWord 29 = .ok (.bipush 108, 2) := by decide +kernel
theorem dX6_addWord_31 : decode cX6_addWord 31 = .ok (.if_icmp .lt 4, 3) := by decide +kernel
theorem dX6_addWord_34 : decode cX6_addWord 34 = .ok (.return_, 1) := by decide +kernel
theorem dX6_addWord_35 : decode cX6_addWord 35 = .ok (.lload_n 1, 1) := by decide +kernel
theorem dX6_addWord_36 : decode cX6_addWord 36 = .ok (.iload_n 3, 1) := by decide +kernel
theorem dX6_addWord_37 : decode cX6_addWord 37 = .ok (.invokestatic 68, 3) := by decide +kernel
theorem dX6_addWord_40 : decode cX6_addWord 40 = .ok (.istore 6, 2) := by decide +kernel
theorem dX6_addWord_42 : decode cX6_addWord 42 = .ok (.aload_n 0, 1) := by decide +kernel
theorem dX6_addWord_43 : decode cX6_addWord 43 = .ok (.lload_n 1, 1) := by decide +kernel
theorem dX6_addWord_44 : decode cX6_addWord 44 = .ok (.iconst 5, 1) := by decide +kernel
theorem dX6_addWord_45 : decode cX6_addWord 45 = .ok (.iload 6, 2) := by decide +kernel
theorem dX6_addWord_47 : decode cX6_addWord 47 = .ok (.imul, 1) := by decide +kernel
theorem dX6_addWord_48 : decode cX6_addWord 48 = .ok (.lshr, 1) := by decide +kernel
theorem dX6_addWord_49 : decode cX6_addWord 49 = .ok (.iload_n 3, 1) := by decide +kernel
theorem dX6_addWord_50 : decode cX6_addWord 50 = .ok (.iload 6, 2) := by decide +kernel
theorem dX6_addWord_52 : decode cX6_addWord 52 = .ok (.isub, 1) := by decide +kernel
theorem dX6_addWord_53 : decode cX6_addWord 53 = .ok (.invokevirtual 72, 3) := by decide +kernel
theorem dX6_addWord_56 : decode cX6_addWord 56 = .ok (.istore 7, 2) := by decide +kernel
theorem dX6_addWord_58 : decode cX6_addWord 58 = .ok (.aload_n 0, 1) := by decide +kernel
theorem dX6_addWord_59 : decode cX6_addWord 59 = .ok (.getfield 25, 3) := by decide +kernel
theorem dX6_addWord_62 : decode cX6_addWord 62 = .ok (.iload 5, 2) := by decide +kernel
theorem dX6_addWord_64 : decode cX6_addWord 64 = .ok (.iaload, 1) := by decide +kernel
theorem dX6_addWord_65 : decode cX6_addWord 65 = .ok (.ifCond .ne 12, 3) := by decide +kernel
theorem dX6_addWord_68 : decode cX6_addWord 68 = .ok (.aload_n 0, 1) := by decide +kernel
theorem dX6_addWord_69 : decode cX6_addWord 69 = .ok (.getfield 21, 3) := by decide +kernel
theorem dX6_addWord_72 : decode cX6_addWord 72 = .ok (.iload 5, 2) := by decide +kernel
theorem dX6_addWord_74 : decode cX6_addWord 74 = .ok (.iload 4, 2) := by decide +kernel
theorem dX6_addWord_76 : decode cX6_addWord 76 = .ok (.iastore, 1) := by decide +kernel
theorem dX6_addWord_77 : decode cX6_addWord 77 = .ok (.aload_n 0, 1) := by decide +kernel
theorem dX6_addWord_78 : decode cX6_addWord 78 = .ok (.getfield 30, 3) := by decide +kernel
theorem dX6_addWord_81 : decode cX6_addWord 81 = .ok (.iload 5, 2) := by decide +kernel
theorem dX6_addWord_83 : decode cX6_addWord 83 = .ok (.aaload, 1) := by decide +kernel
theorem dX6_addWord_84 : decode cX6_addWord 84 = .ok (.aload_n 0, 1) := by decide +kernel
theorem dX6_addWord_85 : decode cX6_addWord 85 = .ok (.getfield 25, 3) := by decide +kernel
theorem dX6_addWord_88 : decode cX6_addWord 88 = .ok (.iload 5, 2) := by decide +kernel
theorem dX6_addWord_90 : decode cX6_addWord 90 = .ok (.iaload, 1) := by decide +kernel
theorem dX6_addWord_91 : decode cX6_addWord 91 = .ok (.iload 7, 2) := by decide +kernel
theorem dX6_addWord_93 : decode cX6_addWord 93 = .ok (.iastore, 1) := by decide +kernel
theorem dX6_addWord_94 : decode cX6_addWord 94 = .ok (.aload_n 0, 1) := by decide +kernel
theorem dX6_addWord_95 : decode cX6_addWord 95 = .ok (.getfield 25, 3) := by decide +kernel
theorem dX6_addWord_98 : decode cX6_addWord 98 = .ok (.iload 5, 2) := by decide +kernel
theorem dX6_addWord_100 : decode cX6_addWord 100 = .ok (.dup2, 1) := by decide +kernel
theorem dX6_addWord_101 : decode cX6_addWord 101 = .ok (.iaload, 1) := by decide +kernel
theorem dX6_addWord_102 : decode cX6_addWord 102 = .ok (.iconst 1, 1) := by decide +kernel
theorem dX6_addWord_103 : decode cX6_addWord 103 = .ok (.iadd, 1) := by decide +kernel
theorem dX6_addWord_104 : decode cX6_addWord 104 = .ok (.iastore, 1) := by decide +kernel
theorem dX6_addWord_105 : decode cX6_addWord 105 = .ok (.aload_n 0, 1) := by decide +kernel
theorem dX6_addWord_106 : decode cX6_addWord 106 = .ok (.dup, 1) := by decide +kernel
theorem dX6_addWord_107 : decode cX6_addWord 107 = .ok (.getfield 15, 3) := by decide +kernel
theorem dX6_addWord_110 : decode cX6_addWord 110 = .ok (.iconst 1, 1) := by decide +kernel
theorem dX6_addWord_111 : decode cX6_addWord 111 = .ok (.iadd, 1) := by decide +kernel
theorem dX6_addWord_112 : decode cX6_addWord 112 = .ok (.putfield 15, 3) := by decide +kernel
theorem dX6_addWord_115 : decode cX6_addWord 115 = .ok (.aload_n 0, 1) := by decide +kernel
theorem dX6_addWord_116 : decode cX6_addWord 116 = .ok (.getfield 33, 3) := by decide +kernel
theorem dX6_addWord_119 : decode cX6_addWord 119 = .ok (.iload 5, 2) := by decide +kernel
theorem dX6_addWord_121 : decode cX6_addWord 121 = .ok (.aaload, 1) := by decide +kernel
theorem dX6_addWord_122 : decode cX6_addWord 122 = .ok (.iload 7, 2) := by decide +kernel
theorem dX6_addWord_124 : decode cX6_addWord 124 = .ok (.dup2, 1) := by decide +kernel
theorem dX6_addWord_125 : decode cX6_addWord 125 = .ok (.iaload, 1) := by decide +kernel
theorem dX6_addWord_126 : decode cX6_addWord 126 = .ok (.iconst 1, 1) := by decide +kernel
theorem dX6_addWord_127 : decode cX6_addWord 127 = .ok (.iadd, 1) := by decide +kernel
theorem dX6_addWord_128 : decode cX6_addWord 128 = .ok (.iastore, 1) := by decide +kernel
theorem dX6_addWord_129 : decode cX6_addWord 129 = .ok (.aload_n 0, 1) := by decide +kernel
theorem dX6_addWord_130 : decode cX6_addWord 130 = .ok (.getfield 39, 3) := by decide +kernel
theorem dX6_addWord_133 : decode cX6_addWord 133 = .ok (.iload 7, 2) := by decide +kernel
theorem dX6_addWord_135 : decode cX6_addWord 135 = .ok (.dup2, 1) := by decide +kernel
theorem dX6_addWord_136 : decode cX6_addWord 136 = .ok (.iaload, 1) := by decide +kernel
theorem dX6_addWord_137 : decode cX6_addWord 137 = .ok (.iconst 1, 1) := by decide +kernel
theorem dX6_addWord_138 : decode cX6_addWord 138 = .ok (.iadd, 1) := by decide +kernel
theorem dX6_addWord_139 : decode cX6_addWord 139 = .ok (.iastore, 1) := by decide +kernel
theorem dX6_addWord_140 : decode cX6_addWord 140 = .ok (.aload_n 0, 1) := by decide +kernel
theorem dX6_addWord_141 : decode cX6_addWord 141 = .ok (.getfield 45, 3) := by decide +kernel
theorem dX6_addWord_144 : decode cX6_addWord 144 = .ok (.iload 7, 2) := by decide +kernel
theorem dX6_addWord_146 : decode cX6_addWord 146 = .ok (.iload 5, 2) := by decide +kernel
theorem dX6_addWord_148 : decode cX6_addWord 148 = .ok (.iastore, 1) := by decide +kernel
theorem dX6_addWord_149 : decode cX6_addWord 149 = .ok (.return_, 1) := by decide +kernel
theorem dX6_endingOf_0 : decode cX6_endingOf 0 = .ok (.iload_n 2, 1) := by decide +kernel
theorem dX6_endingOf_1 : decode cX6_endingOf 1 = .ok (.bipush 6, 2) := by decide +kernel
theorem dX6_endingOf_3 : decode cX6_endingOf 3 = .ok (.if_icmp .lt 17, 3) := by decide +kernel
theorem dX6_endingOf_6 : decode cX6_endingOf 6 = .ok (.lload_n 0, 1) := by decide +kernel
theorem dX6_endingOf_7 : decode cX6_endingOf 7 = .ok (.ldc2_w 75, 3) := by decide +kernel
theorem dX6_endingOf_10 : decode cX6_endingOf 10 = .ok (.land, 1) := by decide +kernel
theorem dX6_endingOf_11 : decode cX6_endingOf 11 = .ok (.ldc2_w 77, 3) := by decide +kernel
theorem dX6_endingOf_14 : decode cX6_endingOf 14 = .ok (.lcmp, 1) := by decide +kernel
theorem dX6_endingOf_15 : decode cX6_endingOf 15 = .ok (.ifCond .ne 5, 3) := by decide +kernel
theorem dX6_endingOf_18 : decode cX6_endingOf 18 = .ok (.iconst 3, 1) := by decide +kernel
theorem dX6_endingOf_19 : decode cX6_endingOf 19 = .ok (.ireturn, 1) := by decide +kernel
theorem dX6_endingOf_20 : decode cX6_endingOf 20 = .ok (.iload_n 2, 1) := by decide +kernel
theorem dX6_endingOf_21 : decode cX6_endingOf 21 = .ok (.iconst 5, 1) := by decide +kernel
theorem dX6_endingOf_22 : decode cX6_endingOf 22 = .ok (.if_icmp .lt 17, 3) := by decide +kernel
theorem dX6_endingOf_25 : decode cX6_endingOf 25 = .ok (.lload_n 0, 1) := by decide +kernel
theorem dX6_endingOf_26 : decode cX6_endingOf 26 = .ok (.ldc2_w 79, 3) := by decide +kernel
theorem dX6_endingOf_29 : decode cX6_endingOf 29 = .ok (.land, 1) := by decide +kernel
theorem dX6_endingOf_30 : decode cX6_endingOf 30 = .ok (.ldc2_w 81, 3) := by decide +kernel
theorem dX6_endingOf_33 : decode cX6_endingOf 33 = .ok (.lcmp, 1) := by decide +kernel
theorem dX6_endingOf_34 : decode cX6_endingOf 34 = .ok (.ifCond .ne 5, 3) := by decide +kernel
theorem dX6_endingOf_37 : decode cX6_endingOf 37 = .ok (.iconst 2, 1) := by decide +kernel
theorem dX6_endingOf_38 : decode cX6_endingOf 38 = .ok (.ireturn, 1) := by decide +kernel
theorem dX6_endingOf_39 : decode cX6_endingOf 39 = .ok (.iload_n 2, 1) := by decide +kernel
theorem dX6_endingOf_40 : decode cX6_endingOf 40 = .ok (.iconst 4, 1) := by decide +kernel
theorem dX6_endingOf_41 : decode cX6_endingOf 41 = .ok (.if_icmp .lt 29, 3) := by decide +kernel
theorem dX6_endingOf_44 : decode cX6_endingOf 44 = .ok (.lload_n 0, 1) := by decide +kernel
theorem dX6_endingOf_45 : decode cX6_endingOf 45 = .ok (.ldc2_w 83, 3) := by decide +kernel
theorem dX6_endingOf_48 : decode cX6_endingOf 48 = .ok (.land, 1) := by decide +kernel
theorem dX6_endingOf_49 : decode cX6_endingOf 49 = .ok (.ldc2_w 85, 3) := by decide +kernel
theorem dX6_endingOf_52 : decode cX6_endingOf 52 = .ok (.lcmp, 1) := by decide +kernel
theorem dX6_endingOf_53 : decode cX6_endingOf 53 = .ok (.ifCond .ne 17, 3) := by decide +kernel
theorem dX6_endingOf_56 : decode cX6_endingOf 56 = .ok (.lload_n 0, 1) := by decide +kernel
theorem dX6_endingOf_57 : decode cX6_endingOf 57 = .ok (.ldc2_w 79, 3) := by decide +kernel
theorem dX6_endingOf_60 : decode cX6_endingOf 60 = .ok (.land, 1) := by decide +kernel
theorem dX6_endingOf_61 : decode cX6_endingOf 61 = .ok (.ldc2_w 87, 3) := by decide +kernel
theorem dX6_endingOf_64 : decode cX6_endingOf 64 = .ok (.lcmp, 1) := by decide +kernel
theorem dX6_endingOf_65 : decode cX6_endingOf 65 = .ok (.ifCond .eq 5, 3) := by decide +kernel
theorem dX6_endingOf_68 : decode cX6_endingOf 68 = .ok (.iconst 1, 1) := by decide +kernel
theorem dX6_endingOf_69 : decode cX6_endingOf 69 = .ok (.ireturn, 1) := by decide +kernel
theorem dX6_endingOf_70 : decode cX6_endingOf 70 = .ok (.iconst 0, 1) := by decide +kernel
theorem dX6_endingOf_71 : decode cX6_endingOf 71 = .ok (.ireturn, 1) := by decide +kernel
theorem dX6_numberOf_0 : decode cX6_numberOf 0 = .ok (.iconst 0, 1) := by decide +kernel
theorem dX6_numberOf_1 : decode cX6_numberOf 1 = .ok (.istore 4, 2) := by decide +kernel
theorem dX6_numberOf_3 : decode cX6_numberOf 3 = .ok (.iload 4, 2) := by decide +kernel
theorem dX6_numberOf_5 : decode cX6_numberOf 5 = .ok (.aload_n 0, 1) := by decide +kernel
theorem dX6_numberOf_6 : decode cX6_numberOf 6 = .ok (.getfield 18, 3) := by decide +kernel
theorem dX6_numberOf_9 : decode cX6_numberOf 9 = .ok (.if_icmp .ge 24, 3) := by decide +kernel
theorem dX6_numberOf_12 : decode cX6_numberOf 12 = .ok (.aload_n 0, 1) := by decide +kernel
theorem dX6_numberOf_13 : decode cX6_numberOf 13 = .ok (.getfield 48, 3) := by decide +kernel
theorem dX6_numberOf_16 : decode cX6_numberOf 16 = .ok (.iload 4, 2) := by decide +kernel
theorem dX6_numberOf_18 : decode cX6_numberOf 18 = .ok (.laload, 1) := by decide +kernel
theorem dX6_numberOf_19 : decode cX6_numberOf 19 = .ok (.lload_n 1, 1) := by decide +kernel
theorem dX6_numberOf_20 : decode cX6_numberOf 20 = .ok (.lcmp, 1) := by decide +kernel
theorem dX6_numberOf_21 : decode cX6_numberOf 21 = .ok (.ifCond .ne 6, 3) := by decide +kernel
theorem dX6_numberOf_24 : decode cX6_numberOf 24 = .ok (.iload 4, 2) := by decide +kernel
theorem dX6_numberOf_26 : decode cX6_numberOf 26 = .ok (.ireturn, 1) := by decide +kernel
theorem dX6_numberOf_27 : decode cX6_numberOf 27 = .ok (.iinc 4 1, 3) := by decide +kernel
theorem dX6_numberOf_30 : decode cX6_numberOf 30 = .ok (.goto (-27), 3) := by decide +kernel
theorem dX6_numberOf_33 : decode cX6_numberOf 33 = .ok (.aload_n 0, 1) := by decide +kernel
theorem dX6_numberOf_34 : decode cX6_numberOf 34 = .ok (.getfield 18, 3) := by decide +kernel
theorem dX6_numberOf_37 : decode cX6_numberOf 37 = .ok (.istore 4, 2) := by decide +kernel
theorem dX6_numberOf_39 : decode cX6_numberOf 39 = .ok (.aload_n 0, 1) := by decide +kernel
theorem dX6_numberOf_40 : decode cX6_numberOf 40 = .ok (.getfield 48, 3) := by decide +kernel
theorem dX6_numberOf_43 : decode cX6_numberOf 43 = .ok (.iload 4, 2) := by decide +kernel
theorem dX6_numberOf_45 : decode cX6_numberOf 45 = .ok (.lload_n 1, 1) := by decide +kernel
theorem dX6_numberOf_46 : decode cX6_numberOf 46 = .ok (.lastore, 1) := by decide +kernel
theorem dX6_numberOf_47 : decode cX6_numberOf 47 = .ok (.aload_n 0, 1) := by decide +kernel
theorem dX6_numberOf_48 : decode cX6_numberOf 48 = .ok (.getfield 36, 3) := by decide +kernel
theorem dX6_numberOf_51 : decode cX6_numberOf 51 = .ok (.iload 4, 2) := by decide +kernel
theorem dX6_numberOf_53 : decode cX6_numberOf 53 = .ok (.iload_n 3, 1) := by decide +kernel
theorem dX6_numberOf_54 : decode cX6_numberOf 54 = .ok (.iastore, 1) := by decide +kernel
theorem dX6_numberOf_55 : decode cX6_numberOf 55 = .ok (.aload_n 0, 1) := by decide +kernel
theorem dX6_numberOf_56 : decode cX6_numberOf 56 = .ok (.getfield 39, 3) := by decide +kernel
theorem dX6_numberOf_59 : decode cX6_numberOf 59 = .ok (.iload 4, 2) := by decide +kernel
theorem dX6_numberOf_61 : decode cX6_numberOf 61 = .ok (.iconst 0, 1) := by decide +kernel
theorem dX6_numberOf_62 : decode cX6_numberOf 62 = .ok (.iastore, 1) := by decide +kernel
theorem dX6_numberOf_63 : decode cX6_numberOf 63 = .ok (.aload_n 0, 1) := by decide +kernel
theorem dX6_numberOf_64 : decode cX6_numberOf 64 = .ok (.getfield 42, 3) := by decide +kernel
theorem dX6_numberOf_67 : decode cX6_numberOf 67 = .ok (.iload 4, 2) := by decide +kernel
theorem dX6_numberOf_69 : decode cX6_numberOf 69 = .ok (.aload_n 0, 1) := by decide +kernel
theorem dX6_numberOf_70 : decode cX6_numberOf 70 = .ok (.getfield 9, 3) := by decide +kernel
theorem dX6_numberOf_73 : decode cX6_numberOf 73 = .ok (.iastore, 1) := by decide +kernel
theorem dX6_numberOf_74 : decode cX6_numberOf 74 = .ok (.iconst 0, 1) := by decide +kernel
theorem dX6_numberOf_75 : decode cX6_numberOf 75 = .ok (.istore 5, 2) := by decide +kernel
theorem dX6_numberOf_77 : decode cX6_numberOf 77 = .ok (.iload 5, 2) := by decide +kernel
theorem dX6_numberOf_79 : decode cX6_numberOf 79 = .ok (.bipush 12, 2) := by decide +kernel
theorem dX6_numberOf_81 : decode cX6_numberOf 81 = .ok (.if_icmp .ge 20, 3) := by decide +kernel
theorem dX6_numberOf_84 : decode cX6_numberOf 84 = .ok (.aload_n 0, 1) := by decide +kernel
theorem dX6_numberOf_85 : decode cX6_numberOf 85 = .ok (.getfield 33, 3) := by decide +kernel
theorem dX6_numberOf_88 : decode cX6_numberOf 88 = .ok (.iload 5, 2) := by decide +kernel
theorem dX6_numberOf_90 : decode cX6_numberOf 90 = .ok (.aaload, 1) := by decide +kernel
theorem dX6_numberOf_91 : decode cX6_numberOf 91 = .ok (.iload 4, 2) := by decide +kernel
theorem dX6_numberOf_93 : decode cX6_numberOf 93 = .ok (.iconst 0, 1) := by decide +kernel
theorem dX6_numberOf_94 : decode cX6_numberOf 94 = .ok (.iastore, 1) := by decide +kernel
theorem dX6_numberOf_95 : decode cX6_numberOf 95 = .ok (.iinc 5 1, 3) := by decide +kernel
theorem dX6_numberOf_98 : decode cX6_numberOf 98 = .ok (.goto (-21), 3) := by decide +kernel
theorem dX6_numberOf_101 : decode cX6_numberOf 101 = .ok (.aload_n 0, 1) := by decide +kernel
theorem dX6_numberOf_102 : decode cX6_numberOf 102 = .ok (.dup, 1) := by decide +kernel
theorem dX6_numberOf_103 : decode cX6_numberOf 103 = .ok (.getfield 18, 3) := by decide +kernel
theorem dX6_numberOf_106 : decode cX6_numberOf 106 = .ok (.iconst 1, 1) := by decide +kernel
theorem dX6_numberOf_107 : decode cX6_numberOf 107 = .ok (.iadd, 1) := by decide +kernel
theorem dX6_numberOf_108 : decode cX6_numberOf 108 = .ok (.putfield 18, 3) := by decide +kernel
theorem dX6_numberOf_111 : decode cX6_numberOf 111 = .ok (.iload 4, 2) := by decide +kernel
theorem dX6_numberOf_113 : decode cX6_numberOf 113 = .ok (.ireturn, 1) := by decide +kernel
theorem dX6_letterOf_0 : decode cX6_letterOf 0 = .ok (.aload_n 0, 1) := by decide +kernel
theorem dX6_letterOf_1 : decode cX6_letterOf 1 = .ok (.getfield 36, 3) := by decide +kernel
theorem dX6_letterOf_4 : decode cX6_letterOf 4 = .ok (.iload_n 1, 1) := by decide +kernel
theorem dX6_letterOf_5 : decode cX6_letterOf 5 = .ok (.iaload, 1) := by decide +kernel
theorem dX6_letterOf_6 : decode cX6_letterOf 6 = .ok (.iconst 1, 1) := by decide +kernel
theorem dX6_letterOf_7 : decode cX6_letterOf 7 = .ok (.isub, 1) := by decide +kernel
theorem dX6_letterOf_8 : decode cX6_letterOf 8 = .ok (.iload_n 2, 1) := by decide +kernel
theorem dX6_letterOf_9 : decode cX6_letterOf 9 = .ok (.isub, 1) := by decide +kernel
theorem dX6_letterOf_10 : decode cX6_letterOf 10 = .ok (.istore_n 3, 1) := by decide +kernel
theorem dX6_letterOf_11 : decode cX6_letterOf 11 = .ok (.bipush 96, 2) := by decide +kernel
theorem dX6_letterOf_13 : decode cX6_letterOf 13 = .ok (.aload_n 0, 1) := by decide +kernel
theorem dX6_letterOf_14 : decode cX6_letterOf 14 = .ok (.getfield 48, 3) := by decide +kernel
theorem dX6_letterOf_17 : decode cX6_letterOf 17 = .ok (.iload_n 1, 1) := by decide +kernel
theorem dX6_letterOf_18 : decode cX6_letterOf 18 = .ok (.laload, 1) := by decide +kernel
theorem dX6_letterOf_19 : decode cX6_letterOf 19 = .ok (.iconst 5, 1) := by decide +kernel
theorem dX6_letterOf_20 : decode cX6_letterOf 20 = .ok (.iload_n 3, 1) := by decide +kernel
theorem dX6_letterOf_21 : decode cX6_letterOf 21 = .ok (.imul, 1) := by decide +kernel
theorem dX6_letterOf_22 : decode cX6_letterOf 22 = .ok (.lshr, 1) := by decide +kernel
theorem dX6_letterOf_23 : decode cX6_letterOf 23 = .ok (.ldc2_w 83, 3) := by decide +kernel
theorem dX6_letterOf_26 : decode cX6_letterOf 26 = .ok (.land, 1) := by decide +kernel
theorem dX6_letterOf_27 : decode cX6_letterOf 27 = .ok (.l2i, 1) := by decide +kernel
theorem dX6_letterOf_28 : decode cX6_letterOf 28 = .ok (.iadd, 1) := by decide +kernel
theorem dX6_letterOf_29 : decode cX6_letterOf 29 = .ok (.ireturn, 1) := by decide +kernel
theorem dX6_unlikeIn_0 : decode cX6_unlikeIn 0 = .ok (.iconst 0, 1) := by decide +kernel
theorem dX6_unlikeIn_1 : decode cX6_unlikeIn 1 = .ok (.istore_n 2, 1) := by decide +kernel
theorem dX6_unlikeIn_2 : decode cX6_unlikeIn 2 = .ok (.iconst 0, 1) := by decide +kernel
theorem dX6_unlikeIn_3 : decode cX6_unlikeIn 3 = .ok (.istore_n 3, 1) := by decide +kernel
theorem dX6_unlikeIn_4 : decode cX6_unlikeIn 4 = .ok (.iload_n 3, 1) := by decide +kernel
theorem dX6_unlikeIn_5 : decode cX6_unlikeIn 5 = .ok (.aload_n 0, 1) := by decide +kernel
theorem dX6_unlikeIn_6 : decode cX6_unlikeIn 6 = .ok (.getfield 18, 3) := by decide +kernel
theorem dX6_unlikeIn_9 : decode cX6_unlikeIn 9 = .ok (.if_icmp .ge 23, 3) := by decide +kernel
theorem dX6_unlikeIn_12 : decode cX6_unlikeIn 12 = .ok (.aload_n 0, 1) := by decide +kernel
theorem dX6_unlikeIn_13 : decode cX6_unlikeIn 13 = .ok (.getfield 33, 3) := by decide +kernel
theorem dX6_unlikeIn_16 : decode cX6_unlikeIn 16 = .ok (.iload_n 1, 1) := by decide +kernel
theorem dX6_unlikeIn_17 : decode cX6_unlikeIn 17 = .ok (.aaload, 1) := by decide +kernel
theorem dX6_unlikeIn_18 : decode cX6_unlikeIn 18 = .ok (.iload_n 3, 1) := by decide +kernel
theorem dX6_unlikeIn_19 : decode cX6_unlikeIn 19 = .ok (.iaload, 1) := by decide +kernel
theorem dX6_unlikeIn_20 : decode cX6_unlikeIn 20 = .ok (.ifCond .le 6, 3) := by decide +kernel
theorem dX6_unlikeIn_23 : decode cX6_unlikeIn 23 = .ok (.iinc 2 1, 3) := by decide +kernel
theorem dX6_unlikeIn_26 : decode cX6_unlikeIn 26 = .ok (.iinc 3 1, 3) := by decide +kernel
theorem dX6_unlikeIn_29 : decode cX6_unlikeIn 29 = .ok (.goto (-25), 3) := by decide +kernel
theorem dX6_unlikeIn_32 : decode cX6_unlikeIn 32 = .ok (.iload_n 2, 1) := by decide +kernel
theorem dX6_unlikeIn_33 : decode cX6_unlikeIn 33 = .ok (.ireturn, 1) := by decide +kernel
theorem dX6_onceIn_0 : decode cX6_onceIn 0 = .ok (.iconst 0, 1) := by decide +kernel
theorem dX6_onceIn_1 : decode cX6_onceIn 1 = .ok (.istore_n 2, 1) := by decide +kernel
theorem dX6_onceIn_2 : decode cX6_onceIn 2 = .ok (.iconst 0, 1) := by decide +kernel
theorem dX6_onceIn_3 : decode cX6_onceIn 3 = .ok (.istore_n 3, 1) := by decide +kernel
theorem dX6_onceIn_4 : decode cX6_onceIn 4 = .ok (.iload_n 3, 1) := by decide +kernel
theorem dX6_onceIn_5 : decode cX6_onceIn 5 = .ok (.aload_n 0, 1) := by decide +kernel
theorem dX6_onceIn_6 : decode cX6_onceIn 6 = .ok (.getfield 18, 3) := by decide +kernel
theorem dX6_onceIn_9 : decode cX6_onceIn 9 = .ok (.if_icmp .ge 24, 3) := by decide +kernel
theorem dX6_onceIn_12 : decode cX6_onceIn 12 = .ok (.aload_n 0, 1) := by decide +kernel
theorem dX6_onceIn_13 : decode cX6_onceIn 13 = .ok (.getfield 33, 3) := by decide +kernel
theorem dX6_onceIn_16 : decode cX6_onceIn 16 = .ok (.iload_n 1, 1) := by decide +kernel
theorem dX6_onceIn_17 : decode cX6_onceIn 17 = .ok (.aaload, 1) := by decide +kernel
theorem dX6_onceIn_18 : decode cX6_onceIn 18 = .ok (.iload_n 3, 1) := by decide +kernel
theorem dX6_onceIn_19 : decode cX6_onceIn 19 = .ok (.iaload, 1) := by decide +kernel
theorem dX6_onceIn_20 : decode cX6_onceIn 20 = .ok (.iconst 1, 1) := by decide +kernel
theorem dX6_onceIn_21 : decode cX6_onceIn 21 = .ok (.if_icmp .ne 6, 3) := by decide +kernel
theorem dX6_onceIn_24 : decode cX6_onceIn 24 = .ok (.iinc 2 1, 3) := by decide +kernel
theorem dX6_onceIn_27 : decode cX6_onceIn 27 = .ok (.iinc 3 1, 3) := by decide +kernel
theorem dX6_onceIn_30 : decode cX6_onceIn 30 = .ok (.goto (-26), 3) := by decide +kernel
theorem dX6_onceIn_33 : decode cX6_onceIn 33 = .ok (.iload_n 2, 1) := by decide +kernel
theorem dX6_onceIn_34 : decode cX6_onceIn 34 = .ok (.ireturn, 1) := by decide +kernel
theorem dX7_init_0 : decode cX7_init 0 = .ok (.aload_n 0, 1) := by decide +kernel
theorem dX7_init_1 : decode cX7_init 1 = .ok (.invokespecial 3, 3) := by decide +kernel
theorem dX7_init_4 : decode cX7_init 4 = .ok (.aload_n 0, 1) := by decide +kernel
theorem dX7_init_5 : decode cX7_init 5 = .ok (.iconst 4, 1) := by decide +kernel
theorem dX7_init_6 : decode cX7_init 6 = .ok (.newarray .int, 2) := by decide +kernel
theorem dX7_init_8 : decode cX7_init 8 = .ok (.dup, 1) := by decide +kernel
theorem dX7_init_9 : decode cX7_init 9 = .ok (.iconst 0, 1) := by decide +kernel
theorem dX7_init_10 : decode cX7_init 10 = .ok (.iconst (-1), 1) := by decide +kernel
theorem dX7_init_11 : decode cX7_init 11 = .ok (.iastore, 1) := by decide +kernel
theorem dX7_init_12 : decode cX7_init 12 = .ok (.dup, 1) := by decide +kernel
theorem dX7_init_13 : decode cX7_init 13 = .ok (.iconst 1, 1) := by decide +kernel
theorem dX7_init_14 : decode cX7_init 14 = .ok (.iconst (-1), 1) := by decide +kernel
theorem dX7_init_15 : decode cX7_init 15 = .ok (.iastore, 1) := by decide +kernel
theorem dX7_init_16 : decode cX7_init 16 = .ok (.dup, 1) := by decide +kernel
theorem dX7_init_17 : decode cX7_init 17 = .ok (.iconst 2, 1) := by decide +kernel
theorem dX7_init_18 : decode cX7_init 18 = .ok (.iconst (-1), 1) := by decide +kernel
theorem dX7_init_19 : decode cX7_init 19 = .ok (.iastore, 1) := by decide +kernel
theorem dX7_init_20 : decode cX7_init 20 = .ok (.dup, 1) := by decide +kernel
theorem dX7_init_21 : decode cX7_init 21 = .ok (.iconst 3, 1) := by decide +kernel
theorem dX7_init_22 : decode cX7_init 22 = .ok (.iconst (-1), 1) := by decide +kernel
theorem dX7_init_23 : decode cX7_init 23 = .ok (.iastore, 1) := by decide +kernel
theorem dX7_init_24 : decode cX7_init 24 = .ok (.putfield 9, 3) := by decide +kernel
theorem dX7_init_27 : decode cX7_init 27 = .ok (.aload_n 0, 1) := by decide +kernel
theorem dX7_init_28 : decode cX7_init 28 = .ok (.iconst 4, 1) := by decide +kernel
theorem dX7_init_29 : decode cX7_init 29 = .ok (.newarray .int, 2) := by decide +kernel
theorem dX7_init_31 : decode cX7_init 31 = .ok (.putfield 15, 3) := by decide +kernel
theorem dX7_init_34 : decode cX7_init 34 = .ok (.aload_n 0, 1) := by decide +kernel
theorem dX7_init_35 : decode cX7_init 35 = .ok (.iconst 4, 1) := by decide +kernel
theorem dX7_init_36 : decode cX7_init 36 = .ok (.bipush 60, 2) := by decide +kernel
theorem dX7_init_38 : decode cX7_init 38 = .ok (.multianewarray 18 2, 4) := by decide +kernel
theorem dX7_init_42 : decode cX7_init 42 = .ok (.putfield 20, 3) := by decide +kernel
theorem dX7_init_45 : decode cX7_init 45 = .ok (.return_, 1) := by decide +kernel
theorem dX7_isLost_0 : decode cX7_isLost 0 = .ok (.aload_n 0, 1) := by decide +kernel
theorem dX7_isLost_1 : decode cX7_isLost 1 = .ok (.getfield 9, 3) := by decide +kernel
theorem dX7_isLost_4 : decode cX7_isLost 4 = .ok (.iload_n 1, 1) := by decide +kernel
theorem dX7_isLost_5 : decode cX7_isLost 5 = .ok (.iaload, 1) := by decide +kernel
theorem dX7_isLost_6 : decode cX7_isLost 6 = .ok (.iconst (-1), 1) := by decide +kernel
theorem dX7_isLost_7 : decode cX7_isLost 7 = .ok (.if_icmp .ne 7, 3) := by decide +kernel
theorem dX7_isLost_10 : decode cX7_isLost 10 = .ok (.iconst 1, 1) := by decide +kernel
theorem dX7_isLost_11 : decode cX7_isLost 11 = .ok (.goto 4, 3) := by decide +kernel
theorem dX7_isLost_14 : decode cX7_isLost 14 = .ok (.iconst 0, 1) := by decide +kernel
theorem dX7_isLost_15 : decode cX7_isLost 15 = .ok (.ireturn, 1) := by decide +kernel
theorem dX7_make_0 : decode cX7_make 0 = .ok (.aload_n 0, 1) := by decide +kernel
theorem dX7_make_1 : decode cX7_make 1 = .ok (.getfield 9, 3) := by decide +kernel
theorem dX7_make_4 : decode cX7_make 4 = .ok (.iload_n 1, 1) := by decide +kernel
theorem dX7_make_5 : decode cX7_make 5 = .ok (.iload_n 2, 1) := by decide +kernel
theorem dX7_make_6 : decode cX7_make 6 = .ok (.iastore, 1) := by decide +kernel
theorem dX7_make_7 : decode cX7_make 7 = .ok (.aload_n 0, 1) := by decide +kernel
theorem dX7_make_8 : decode cX7_make 8 = .ok (.getfield 15, 3) := by decide +kernel
theorem dX7_make_11 : decode cX7_make 11 = .ok (.iload_n 1, 1) := by decide +kernel
theorem dX7_make_12 : decode cX7_make 12 = .ok (.iload_n 3, 1) := by decide +kernel
theorem dX7_make_13 : decode cX7_make 13 = .ok (.iastore, 1) := by decide +kernel
theorem dX7_make_14 : decode cX7_make 14 = .ok (.iconst 0, 1) := by decide +kernel
theorem dX7_make_15 : decode cX7_make 15 = .ok (.istore 4, 2) := by decide +kernel
theorem dX7_make_17 : decode cX7_make 17 = .ok (.iload 4, 2) := by decide +kernel
theorem dX7_make_19 : decode cX7_make 19 = .ok (.iload_n 3, 1) := by decide +kernel
theorem dX7_make_20 : decode cX7_make 20 = .ok (.if_icmp .ge 19, 3) := by decide +kernel
theorem dX7_make_23 : decode cX7_make 23 = .ok (.aload_n 0, 1) := by decide +kernel
theorem dX7_make_24 : decode cX7_make 24 = .ok (.getfield 20, 3) := by decide +kernel
theorem dX7_make_27 : decode cX7_make 27 = .ok (.iload_n 1, 1) := by decide +kernel
theorem dX7_make_28 : decode cX7_make 28 = .ok (.aaload, 1) := by decide +kernel
theorem dX7_make_29 : decode cX7_make 29 = .ok (.iload 4, 2) := by decide +kernel
theorem dX7_make_31 : decode cX7_make 31 = .ok (.iconst 0, 1) := by decide +kernel
theorem dX7_make_32 : decode cX7_make 32 = .ok (.iastore, 1) := by decide +kernel
theorem dX7_make_33 : decode cX7_make 33 = .ok (.iinc 4 1, 3) := by decide +kernel
theorem dX7_make_36 : decode cX7_make 36 = .ok (.goto (-19), 3) := by decide +kernel
theorem dX7_make_39 : decode cX7_make 39 = .ok (.return_, 1) := by decide +kernel
theorem dX7_againstItem_0 : decode cX7_againstItem 0 = .ok (.aload_n 0, 1) := by decide +kernel
theorem dX7_againstItem_1 : decode cX7_againstItem 1 = .ok (.iload_n 1, 1) := by decide +kernel
theorem dX7_againstItem_2 : decode cX7_againstItem 2 = .ok (.invokevirtual 23, 3) := by decide +kernel
theorem dX7_againstItem_5 : decode cX7_againstItem 5 = .ok (.ifCond .eq 5, 3) := by decide +kernel
theorem dX7_againstItem_8 : decode cX7_againstItem 8 = .ok (.iconst 1, 1) := by decide +kernel
theorem dX7_againstItem_9 : decode cX7_againstItem 9 = .ok (.ireturn, 1) := by decide +kernel
theorem dX7_againstItem_10 : decode cX7_againstItem 10 = .ok (.aload_n 0, 1) := by decide +kernel
theorem dX7_againstItem_11 : decode cX7_againstItem 11 = .ok (.getfield 9, 3) := by decide +kernel
theorem dX7_againstItem_14 : decode cX7_againstItem 14 = .ok (.iload_n 1, 1) := by decide +kernel
theorem dX7_againstItem_15 : decode cX7_againstItem 15 = .ok (.iaload, 1) := by decide +kernel
theorem dX7_againstItem_16 : decode cX7_againstItem 16 = .ok (.iload_n 2, 1) := by decide +kernel
theorem dX7_againstItem_17 : decode cX7_againstItem 17 = .ok (.if_icmp .eq 5, 3) := by decide +kernel
theorem dX7_againstItem_20 : decode cX7_againstItem 20 = .ok (.iconst 3, 1) := by decide +kernel
theorem dX7_againstItem_21 : decode cX7_againstItem 21 = .ok (.ireturn, 1) := by decide +kernel
theorem dX7_againstItem_22 : decode cX7_againstItem 22 = .ok (.iload_n 3, 1) := by decide +kernel
theorem dX7_againstItem_23 : decode cX7_againstItem 23 = .ok (.ifCond .lt 13, 3) := by decide +kernel
theorem dX7_againstItem_26 : decode cX7_againstItem 26 = .ok (.iload_n 3, 1) := by decide +kernel
theorem dX7_againstItem_27 : decode cX7_againstItem 27 = .ok (.aload_n 0, 1) := by decide +kernel
theorem dX7_againstItem_28 : decode cX7_againstItem 28 = .ok (.getfield 15, 3) := by decide +kernel
theorem dX7_againstItem_31 : decode cX7_againstItem 31 = .ok (.iload_n 1, 1) := by decide +kernel
theorem dX7_againstItem_32 : decode cX7_againstItem 32 = .ok (.iaload, 1) := by decide +kernel
theorem dX7_againstItem_33 : decode cX7_againstItem 33 = .ok (.if_icmp .lt 7, 3) := by decide +kernel
theorem dX7_againstItem_36 : decode cX7_againstItem 36 = .ok (.iconst 2, 1) := by decide +kernel
theorem dX7_againstItem_37 : decode cX7_againstItem 37 = .ok (.goto 4, 3) := by decide +kernel
theorem dX7_againstItem_40 : decode cX7_againstItem 40 = .ok (.iconst 0, 1) := by decide +kernel
theorem dX7_againstItem_41 : decode cX7_againstItem 41 = .ok (.ireturn, 1) := by decide +kernel
theorem dX7_lacks_0 : decode cX7_lacks 0 = .ok (.iload_n 2, 1) := by decide +kernel
theorem dX7_lacks_1 : decode cX7_lacks 1 = .ok (.ifCond .lt 19, 3) := by decide +kernel
theorem dX7_lacks_4 : decode cX7_lacks 4 = .ok (.iload_n 3, 1) := by decide +kernel
theorem dX7_lacks_5 : decode cX7_lacks 5 = .ok (.ifCond .lt 15, 3) := by decide +kernel
theorem dX7_lacks_8 : decode cX7_lacks 8 = .ok (.iload_n 3, 1) := by decide +kernel
theorem dX7_lacks_9 : decode cX7_lacks 9 = .ok (.aload_n 0, 1) := by decide +kernel
theorem dX7_lacks_10 : decode cX7_lacks 10 = .ok (.getfield 15, 3) := by decide +kernel
theorem dX7_lacks_13 : decode cX7_lacks 13 = .ok (.iload_n 1, 1) := by decide +kernel
theorem dX7_lacks_14 : decode cX7_lacks 14 = .ok (.iaload, 1) := by decide +kernel
theorem dX7_lacks_15 : decode cX7_lacks 15 = .ok (.iload_n 2, 1) := by decide +kernel
theorem dX7_lacks_16 : decode cX7_lacks 16 = .ok (.isub, 1) := by decide +kernel
theorem dX7_lacks_17 : decode cX7_lacks 17 = .ok (.if_icmp .le 7, 3) := by decide +kernel
theorem dX7_lacks_20 : decode cX7_lacks 20 = .ok (.iconst 1, 1) := by decide +kernel
theorem dX7_lacks_21 : decode cX7_lacks 21 = .ok (.goto 4, 3) := by decide +kernel
theorem dX7_lacks_24 : decode cX7_lacks 24 = .ok (.iconst 0, 1) := by decide +kernel
theorem dX7_lacks_25 : decode cX7_lacks 25 = .ok (.ireturn, 1) := by decide +kernel
theorem dX7_item_0 : decode cX7_item 0 = .ok (.aload_n 0, 1) := by decide +kernel
theorem dX7_item_1 : decode cX7_item 1 = .ok (.getfield 20, 3) := by decide +kernel
theorem dX7_item_4 : decode cX7_item 4 = .ok (.iload_n 1, 1) := by decide +kernel
theorem dX7_item_5 : decode cX7_item 5 = .ok (.aaload, 1) := by decide +kernel
theorem dX7_item_6 : decode cX7_item 6 = .ok (.iload_n 2, 1) := by decide +kernel
theorem dX7_item_7 : decode cX7_item 7 = .ok (.iaload, 1) := by decide +kernel
theorem dX7_item_8 : decode cX7_item 8 = .ok (.ireturn, 1) := by decide +kernel
theorem dX7_keep_0 : decode cX7_keep 0 = .ok (.aload_n 0, 1) := by decide +kernel
theorem dX7_keep_1 : decode cX7_keep 1 = .ok (.getfield 20, 3) := by decide +kernel
theorem dX7_keep_4 : decode cX7_keep 4 = .ok (.iload_n 1, 1) := by decide +kernel
theorem dX7_keep_5 : decode cX7_keep 5 = .ok (.aaload, 1) := by decide +kernel
theorem dX7_keep_6 : decode cX7_keep 6 = .ok (.iload_n 2, 1) := by decide +kernel
theorem dX7_keep_7 : decode cX7_keep 7 = .ok (.aload_n 0, 1) := by decide +kernel
theorem dX7_keep_8 : decode cX7_keep 8 = .ok (.getfield 9, 3) := by decide +kernel
theorem dX7_keep_11 : decode cX7_keep 11 = .ok (.iload_n 1, 1) := by decide +kernel
theorem dX7_keep_12 : decode cX7_keep 12 = .ok (.iaload, 1) := by decide +kernel
theorem dX7_keep_13 : decode cX7_keep 13 = .ok (.ifCond .ne 8, 3) := by decide +kernel
theorem dX7_keep_16 : decode cX7_keep 16 = .ok (.iload_n 3, 1) := by decide +kernel
theorem dX7_keep_17 : decode cX7_keep 17 = .ok (.i2b, 1) := by decide +kernel
theorem dX7_keep_18 : decode cX7_keep 18 = .ok (.goto 19, 3) := by decide +kernel
theorem dX7_keep_21 : decode cX7_keep 21 = .ok (.aload_n 0, 1) := by decide +kernel
theorem dX7_keep_22 : decode cX7_keep 22 = .ok (.getfield 9, 3) := by decide +kernel
theorem dX7_keep_25 : decode cX7_keep 25 = .ok (.iload_n 1, 1) := by decide +kernel
theorem dX7_keep_26 : decode cX7_keep 26 = .ok (.iaload, 1) := by decide +kernel
theorem dX7_keep_27 : decode cX7_keep 27 = .ok (.iconst 1, 1) := by decide +kernel
theorem dX7_keep_28 : decode cX7_keep 28 = .ok (.if_icmp .ne 8, 3) := by decide +kernel
theorem dX7_keep_31 : decode cX7_keep 31 = .ok (.iload_n 3, 1) := by decide +kernel
theorem dX7_keep_32 : decode cX7_keep 32 = .ok (.i2s, 1) := by decide +kernel
theorem dX7_keep_33 : decode cX7_keep 33 = .ok (.goto 4, 3) := by decide +kernel
theorem dX7_keep_36 : decode cX7_keep 36 = .ok (.iload_n 3, 1) := by decide +kernel
theorem dX7_keep_37 : decode cX7_keep 37 = .ok (.iastore, 1) := by decide +kernel
theorem dX7_keep_38 : decode cX7_keep 38 = .ok (.return_, 1) := by decide +kernel
theorem dX7_move_0 : decode cX7_move 0 = .ok (.aload_n 0, 1) := by decide +kernel
theorem dX7_move_1 : decode cX7_move 1 = .ok (.getfield 20, 3) := by decide +kernel
theorem dX7_move_4 : decode cX7_move 4 = .ok (.iload_n 1, 1) := by decide +kernel
theorem dX7_move_5 : decode cX7_move 5 = .ok (.aaload, 1) := by decide +kernel
theorem dX7_move_6 : decode cX7_move 6 = .ok (.iload_n 2, 1) := by decide +kernel
theorem dX7_move_7 : decode cX7_move 7 = .ok (.aload_n 0, 1) := by decide +kernel
theorem dX7_move_8 : decode cX7_move 8 = .ok (.getfield 20, 3) := by decide +kernel
theorem dX7_move_11 : decode cX7_move 11 = .ok (.iload_n 3, 1) := by decide +kernel
theorem dX7_move_12 : decode cX7_move 12 = .ok (.aaload, 1) := by decide +kernel
theorem dX7_move_13 : decode cX7_move 13 = .ok (.iload 4, 2) := by decide +kernel
theorem dX7_move_15 : decode cX7_move 15 = .ok (.iload 5, 2) := by decide +kernel
theorem dX7_move_17 : decode cX7_move 17 = .ok (.invokestatic 27, 3) := by decide +kernel
theorem dX7_move_20 : decode cX7_move 20 = .ok (.return_, 1) := by decide +kernel
theorem dX8_init_0 : decode cX8_init 0 = .ok (.aload_n 0, 1) := by decide +kernel
theorem dX8_init_1 : decode cX8_init 1 = .ok (.invokespecial 3, 3) := by decide +kernel
theorem dX8_init_4 : decode cX8_init 4 = .ok (.aload_n 0, 1) := by decide +kernel
theorem dX8_init_5 : decode cX8_init 5 = .ok (.sipush 200, 3) := by decide +kernel
theorem dX8_init_8 : decode cX8_init 8 = .ok (.newarray .int, 2) := by decide +kernel
theorem dX8_init_10 : decode cX8_init 10 = .ok (.putfield 9, 3) := by decide +kernel
theorem dX8_init_13 : decode cX8_init 13 = .ok (.aload_n 0, 1) := by decide +kernel
theorem dX8_init_14 : decode cX8_init 14 = .ok (.iconst 0, 1) := by decide +kernel
theorem dX8_init_15 : decode cX8_init 15 = .ok (.putfield 15, 3) := by decide +kernel
theorem dX8_init_18 : decode cX8_init 18 = .ok (.return_, 1) := by decide +kernel
theorem dX8_add_0 : decode cX8_add 0 = .ok (.aload_n 0, 1) := by decide +kernel
theorem dX8_add_1 : decode cX8_add 1 = .ok (.getfield 15, 3) := by decide +kernel
theorem dX8_add_4 : decode cX8_add 4 = .ok (.ifCond .lt 13, 3) := by decide +kernel
theorem dX8_add_7 : decode cX8_add 7 = .ok (.aload_n 0, 1) := by decide +kernel
theorem dX8_add_8 : decode cX8_add 8 = .ok (.getfield 15, 3) := by decide +kernel
theorem dX8_add_11 : decode cX8_add 11 = .ok (.sipush 200, 3) := by decide +kernel
theorem dX8_add_14 : decode cX8_add 14 = .ok (.if_icmp .lt 4, 3) := by decide +kernel
theorem dX8_add_17 : decode cX8_add 17 = .ok (.return_, 1) := by decide +kernel
theorem dX8_add_18 : decode cX8_add 18 = .ok (.aload_n 0, 1) := by decide +kernel
theorem dX8_add_19 : decode cX8_add 19 = .ok (.getfield 9, 3) := by decide +kernel
theorem dX8_add_22 : decode cX8_add 22 = .ok (.aload_n 0, 1) := by decide +kernel
theorem dX8_add_23 : decode cX8_add 23 = .ok (.getfield 15, 3) := by decide +kernel
theorem dX8_add_26 : decode cX8_add 26 = .ok (.iload_n 1, 1) := by decide +kernel
theorem dX8_add_27 : decode cX8_add 27 = .ok (.iastore, 1) := by decide +kernel
theorem dX8_add_28 : decode cX8_add 28 = .ok (.aload_n 0, 1) := by decide +kernel
theorem dX8_add_29 : decode cX8_add 29 = .ok (.dup, 1) := by decide +kernel
theorem dX8_add_30 : decode cX8_add 30 = .ok (.getfield 15, 3) := by decide +kernel
theorem dX8_add_33 : decode cX8_add 33 = .ok (.iconst 1, 1) := by decide +kernel
theorem dX8_add_34 : decode cX8_add 34 = .ok (.iadd, 1) := by decide +kernel
theorem dX8_add_35 : decode cX8_add 35 = .ok (.putfield 15, 3) := by decide +kernel
theorem dX8_add_38 : decode cX8_add 38 = .ok (.return_, 1) := by decide +kernel
theorem dX9_init_0 : decode cX9_init 0 = .ok (.aload_n 0, 1) := by decide +kernel
theorem dX9_init_1 : decode cX9_init 1 = .ok (.invokespecial 3, 3) := by decide +kernel
theorem dX9_init_4 : decode cX9_init 4 = .ok (.aload_n 0, 1) := by decide +kernel
theorem dX9_init_5 : decode cX9_init 5 = .ok (.new 9, 3) := by decide +kernel
theorem dX9_init_8 : decode cX9_init 8 = .ok (.dup, 1) := by decide +kernel
theorem dX9_init_9 : decode cX9_init 9 = .ok (.invokespecial 11, 3) := by decide +kernel
theorem dX9_init_12 : decode cX9_init 12 = .ok (.putfield 12, 3) := by decide +kernel
theorem dX9_init_15 : decode cX9_init 15 = .ok (.aload_n 0, 1) := by decide +kernel
theorem dX9_init_16 : decode cX9_init 16 = .ok (.new 16, 3) := by decide +kernel
theorem dX9_init_19 : decode cX9_init 19 = .ok (.dup, 1) := by decide +kernel
theorem dX9_init_20 : decode cX9_init 20 = .ok (.invokespecial 18, 3) := by decide +kernel
theorem dX9_init_23 : decode cX9_init 23 = .ok (.putfield 19, 3) := by decide +kernel
theorem dX9_init_26 : decode cX9_init 26 = .ok (.aload_n 0, 1) := by decide +kernel
theorem dX9_init_27 : decode cX9_init 27 = .ok (.new 23, 3) := by decide +kernel
theorem dX9_init_30 : decode cX9_init 30 = .ok (.dup, 1) := by decide +kernel
theorem dX9_init_31 : decode cX9_init 31 = .ok (.invokespecial 25, 3) := by decide +kernel
theorem dX9_init_34 : decode cX9_init 34 = .ok (.putfield 26, 3) := by decide +kernel
theorem dX9_init_37 : decode cX9_init 37 = .ok (.aload_n 0, 1) := by decide +kernel
theorem dX9_init_38 : decode cX9_init 38 = .ok (.new 30, 3) := by decide +kernel
theorem dX9_init_41 : decode cX9_init 41 = .ok (.dup, 1) := by decide +kernel
theorem dX9_init_42 : decode cX9_init 42 = .ok (.invokespecial 32, 3) := by decide +kernel
theorem dX9_init_45 : decode cX9_init 45 = .ok (.putfield 33, 3) := by decide +kernel
theorem dX9_init_48 : decode cX9_init 48 = .ok (.aload_n 0, 1) := by decide +kernel
theorem dX9_init_49 : decode cX9_init 49 = .ok (.new 37, 3) := by decide +kernel
theorem dX9_init_52 : decode cX9_init 52 = .ok (.dup, 1) := by decide +kernel
theorem dX9_init_53 : decode cX9_init 53 = .ok (.invokespecial 39, 3) := by decide +kernel
theorem dX9_init_56 : decode cX9_init 56 = .ok (.putfield 40, 3) := by decide +kernel
theorem dX9_init_59 : decode cX9_init 59 = .ok (.aload_n 0, 1) := by decide +kernel
theorem dX9_init_60 : decode cX9_init 60 = .ok (.new 44, 3) := by decide +kernel
theorem dX9_init_63 : decode cX9_init 63 = .ok (.dup, 1) := by decide +kernel
theorem dX9_init_64 : decode cX9_init 64 = .ok (.invokespecial 46, 3) := by decide +kernel
theorem dX9_init_67 : decode cX9_init 67 = .ok (.putfield 47, 3) := by decide +kernel
theorem dX9_init_70 : decode cX9_init 70 = .ok (.aload_n 0, 1) := by decide +kernel
theorem dX9_init_71 : decode cX9_init 71 = .ok (.new 51, 3) := by decide +kernel
theorem dX9_init_74 : decode cX9_init 74 = .ok (.dup, 1) := by decide +kernel
theorem dX9_init_75 : decode cX9_init 75 = .ok (.invokespecial 53, 3) := by decide +kernel
theorem dX9_init_78 : decode cX9_init 78 = .ok (.putfield 54, 3) := by decide +kernel
theorem dX9_init_81 : decode cX9_init 81 = .ok (.aload_n 0, 1) := by decide +kernel
theorem dX9_init_82 : decode cX9_init 82 = .ok (.new 58, 3) := by decide +kernel
theorem dX9_init_85 : decode cX9_init 85 = .ok (.dup, 1) := by decide +kernel
theorem dX9_init_86 : decode cX9_init 86 = .ok (.invokespecial 60, 3) := by decide +kernel
theorem dX9_init_89 : decode cX9_init 89 = .ok (.putfield 61, 3) := by decide +kernel
theorem dX9_init_92 : decode cX9_init 92 = .ok (.aload_n 0, 1) := by decide +kernel
theorem dX9_init_93 : decode cX9_init 93 = .ok (.new 65, 3) := by decide +kernel
theorem dX9_init_96 : decode cX9_init 96 = .ok (.dup, 1) := by decide +kernel
theorem dX9_init_97 : decode cX9_init 97 = .ok (.invokespecial 67, 3) := by decide +kernel
theorem dX9_init_100 : decode cX9_init 100 = .ok (.putfield 68, 3) := by decide +kernel
theorem dX9_init_103 : decode cX9_init 103 = .ok (.aload_n 0, 1) := by decide +kernel
theorem dX9_init_104 : decode cX9_init 104 = .ok (.iconst 4, 1) := by decide +kernel
theorem dX9_init_105 : decode cX9_init 105 = .ok (.newarray .int, 2) := by decide +kernel
theorem dX9_init_107 : decode cX9_init 107 = .ok (.dup, 1) := by decide +kernel
theorem dX9_init_108 : decode cX9_init 108 = .ok (.iconst 0, 1) := by decide +kernel
theorem dX9_init_109 : decode cX9_init 109 = .ok (.iconst 0, 1) := by decide +kernel
theorem dX9_init_110 : decode cX9_init 110 = .ok (.iastore, 1) := by decide +kernel
theorem dX9_init_111 : decode cX9_init 111 = .ok (.dup, 1) := by decide +kernel
theorem dX9_init_112 : decode cX9_init 112 = .ok (.iconst 1, 1) := by decide +kernel
theorem dX9_init_113 : decode cX9_init 113 = .ok (.iconst 3, 1) := by decide +kernel
theorem dX9_init_114 : decode cX9_init 114 = .ok (.iastore, 1) := by decide +kernel
theorem dX9_init_115 : decode cX9_init 115 = .ok (.dup, 1) := by decide +kernel
theorem dX9_init_116 : decode cX9_init 116 = .ok (.iconst 2, 1) := by decide +kernel
theorem dX9_init_117 : decode cX9_init 117 = .ok (.iconst 2, 1) := by decide +kernel
theorem dX9_init_118 : decode cX9_init 118 = .ok (.iastore, 1) := by decide +kernel
theorem dX9_init_119 : decode cX9_init 119 = .ok (.dup, 1) := by decide +kernel
theorem dX9_init_120 : decode cX9_init 120 = .ok (.iconst 3, 1) := by decide +kernel
theorem dX9_init_121 : decode cX9_init 121 = .ok (.iconst 2, 1) := by decide +kernel
theorem dX9_init_122 : decode cX9_init 122 = .ok (.iastore, 1) := by decide +kernel
theorem dX9_init_123 : decode cX9_init 123 = .ok (.putfield 72, 3) := by decide +kernel
theorem dX9_init_126 : decode cX9_init 126 = .ok (.aload_n 0, 1) := by decide +kernel
theorem dX9_init_127 : decode cX9_init 127 = .ok (.iconst 0, 1) := by decide +kernel
theorem dX9_init_128 : decode cX9_init 128 = .ok (.putfield 76, 3) := by decide +kernel
theorem dX9_init_131 : decode cX9_init 131 = .ok (.aload_n 0, 1) := by decide +kernel
theorem dX9_init_132 : decode cX9_init 132 = .ok (.iconst 0, 1) := by decide +kernel
theorem dX9_init_133 : decode cX9_init 133 = .ok (.putfield 80, 3) := by decide +kernel
theorem dX9_init_136 : decode cX9_init 136 = .ok (.aload_n 0, 1) := by decide +kernel
theorem dX9_init_137 : decode cX9_init 137 = .ok (.iconst 0, 1) := by decide +kernel
theorem dX9_init_138 : decode cX9_init 138 = .ok (.putfield 83, 3) := by decide +kernel
theorem dX9_init_141 : decode cX9_init 141 = .ok (.aload_n 0, 1) := by decide +kernel
theorem dX9_init_142 : decode cX9_init 142 = .ok (.iconst 0, 1) := by decide +kernel
theorem dX9_init_143 : decode cX9_init 143 = .ok (.putfield 87, 3) := by decide +kernel
theorem dX9_init_146 : decode cX9_init 146 = .ok (.aload_n 0, 1) := by decide +kernel
theorem dX9_init_147 : decode cX9_init 147 = .ok (.iconst 0, 1) := by decide +kernel
theorem dX9_init_148 : decode cX9_init 148 = .ok (.putfield 90, 3) := by decide +kernel
theorem dX9_init_151 : decode cX9_init 151 = .ok (.aload_n 0, 1) := by decide +kernel
theorem dX9_init_152 : decode cX9_init 152 = .ok (.iconst 0, 1) := by decide +kernel
theorem dX9_init_153 : decode cX9_init 153 = .ok (.putfield 93, 3) := by decide +kernel
theorem dX9_init_156 : decode cX9_init 156 = .ok (.aload_n 0, 1) := by decide +kernel
theorem dX9_init_157 : decode cX9_init 157 = .ok (.iconst 0, 1) := by decide +kernel
theorem dX9_init_158 : decode cX9_init 158 = .ok (.putfield 96, 3) := by decide +kernel
theorem dX9_init_161 : decode cX9_init 161 = .ok (.return_, 1) := by decide +kernel
theorem dX9_type_0 : decode cX9_type 0 = .ok (.iload_n 1, 1) := by decide +kernel
theorem dX9_type_1 : decode cX9_type 1 = .ok (.invokestatic 99, 3) := by decide +kernel
theorem dX9_type_4 : decode cX9_type 4 = .ok (.ifCond .eq 6, 3) := by decide +kernel
theorem dX9_type_7 : decode cX9_type 7 = .ok (.bipush (-2), 2) := by decide +kernel
theorem dX9_type_9 : decode cX9_type 9 = .ok (.ireturn, 1) := by decide +kernel
theorem dX9_type_10 : decode cX9_type 10 = .ok (.aload_n 0, 1) := by decide +kernel
theorem dX9_type_11 : decode cX9_type 11 = .ok (.getfield 12, 3) := by decide +kernel
theorem dX9_type_14 : decode cX9_type 14 = .ok (.getfield 103, 3) := by decide +kernel
theorem dX9_type_17 : decode cX9_type 17 = .ok (.sipush 200, 3) := by decide +kernel
theorem dX9_type_20 : decode cX9_type 20 = .ok (.if_icmp .lt 6, 3) := by decide +kernel
theorem dX9_type_23 : decode cX9_type 23 = .ok (.bipush (-4), 2) := by decide +kernel
theorem dX9_type_25 : decode cX9_type 25 = .ok (.ireturn, 1) := by decide +kernel
theorem dX9_type_26 : decode cX9_type 26 = .ok (.aload_n 0, 1) := by decide +kernel
theorem dX9_type_27 : decode cX9_type 27 = .ok (.getfield 12, 3) := by decide +kernel
theorem dX9_type_30 : decode cX9_type 30 = .ok (.iload_n 1, 1) := by decide +kernel
theorem dX9_type_31 : decode cX9_type 31 = .ok (.invokevirtual 106, 3) := by decide +kernel
theorem dX9_type_34 : decode cX9_type 34 = .ok (.aload_n 0, 1) := by decide +kernel
theorem dX9_type_35 : decode cX9_type 35 = .ok (.invokevirtual 110, 3) := by decide +kernel
theorem dX9_type_38 : decode cX9_type 38 = .ok (.aload_n 0, 1) := by decide +kernel
theorem dX9_type_39 : decode cX9_type 39 = .ok (.getfield 12, 3) := by decide +kernel
theorem dX9_type_42 : decode cX9_type 42 = .ok (.getfield 103, 3) := by decide +kernel
theorem dX9_type_45 : decode cX9_type 45 = .ok (.ireturn, 1) := by decide +kernel
theorem dX9_wipe_0 : decode cX9_wipe 0 = .ok (.aload_n 0, 1) := by decide +kernel
theorem dX9_wipe_1 : decode cX9_wipe 1 = .ok (.getfield 12, 3) := by decide +kernel
theorem dX9_wipe_4 : decode cX9_wipe 4 = .ok (.getfield 103, 3) := by decide +kernel
theorem dX9_wipe_7 : decode cX9_wipe 7 = .ok (.istore_n 1, 1) := by decide +kernel
theorem dX9_wipe_8 : decode cX9_wipe 8 = .ok (.aload_n 0, 1) := by decide +kernel
theorem dX9_wipe_9 : decode cX9_wipe 9 = .ok (.getfield 12, 3) := by decide +kernel
theorem dX9_wipe_12 : decode cX9_wipe 12 = .ok (.iconst 0, 1) := by decide +kernel
theorem dX9_wipe_13 : decode cX9_wipe 13 = .ok (.putfield 103, 3) := by decide +kernel
theorem dX9_wipe_16 : decode cX9_wipe 16 = .ok (.aload_n 0, 1) := by decide +kernel
theorem dX9_wipe_17 : decode cX9_wipe 17 = .ok (.invokevirtual 110, 3) := by decide +kernel
theorem dX9_wipe_20 : decode cX9_wipe 20 = .ok (.iload_n 1, 1) := by decide +kernel
theorem dX9_wipe_21 : decode cX9_wipe 21 = .ok (.ireturn, 1) := by decide +kernel
theorem dX9_undo_0 : decode cX9_undo 0 = .ok (.aload_n 0, 1) := by decide +kernel
theorem dX9_undo_1 : decode cX9_undo 1 = .ok (.getfield 12, 3) := by decide +kernel
theorem dX9_undo_4 : decode cX9_undo 4 = .ok (.getfield 103, 3) := by decide +kernel
theorem dX9_undo_7 : decode cX9_undo 7 = .ok (.ifCond .gt 6, 3) := by decide +kernel
theorem dX9_undo_10 : decode cX9_undo 10 = .ok (.bipush (-3), 2) := by decide +kernel
theorem dX9_undo_12 : decode cX9_undo 12 = .ok (.ireturn, 1) := by decide +kernel
theorem dX9_undo_13 : decode cX9_undo 13 = .ok (.aload_n 0, 1) := by decide +kernel
theorem dX9_undo_14 : decode cX9_undo 14 = .ok (.getfield 12, 3) := by decide +kernel
theorem dX9_undo_17 : decode cX9_undo 17 = .ok (.dup, 1) := by decide +kernel
theorem dX9_undo_18 : decode cX9_undo 18 = .ok (.getfield 103, 3) := by decide +kernel
theorem dX9_undo_21 : decode cX9_undo 21 = .ok (.iconst 1, 1) := by decide +kernel
theorem dX9_undo_22 : decode cX9_undo 22 = .ok (.isub, 1) := by decide +kernel
theorem dX9_undo_23 : decode cX9_undo 23 = .ok (.putfield 103, 3) := by decide +kernel
theorem dX9_undo_26 : decode cX9_undo 26 = .ok (.aload_n 0, 1) := by decide +kernel
theorem dX9_undo_27 : decode cX9_undo 27 = .ok (.invokevirtual 110, 3) := by decide +kernel
theorem dX9_undo_30 : decode cX9_undo 30 = .ok (.aload_n 0, 1) := by decide +kernel
theorem dX9_undo_31 : decode cX9_undo 31 = .ok (.getfield 12, 3) := by decide +kernel
theorem dX9_undo_34 : decode cX9_undo 34 = .ok (.getfield 103, 3) := by decide +kernel
theorem dX9_undo_37 : decode cX9_undo 37 = .ok (.ireturn, 1) := by decide +kernel
theorem dX9_fault_0 : decode cX9_fault 0 = .ok (.iload_n 1, 1) := by decide +kernel
theorem dX9_fault_1 : decode cX9_fault 1 = .ok (.ifCond .lt 8, 3) := by decide +kernel
theorem dX9_fault_4 : decode cX9_fault 4 = .ok (.iload_n 1, 1) := by decide +kernel
theorem dX9_fault_5 : decode cX9_fault 5 = .ok (.iconst 2, 1) := by decide +kernel
theorem dX9_fault_6 : decode cX9_fault 6 = .ok (.if_icmp .le 6, 3) := by decide +kernel
theorem dX9_fault_9 : decode cX9_fault 9 = .ok (.bipush (-2), 2) := by decide +kernel
theorem dX9_fault_11 : decode cX9_fault 11 = .ok (.ireturn, 1) := by decide +kernel
theorem dX9_fault_12 : decode cX9_fault 12 = .ok (.aload_n 0, 1) := by decide +kernel
theorem dX9_fault_13 : decode cX9_fault 13 = .ok (.invokevirtual 113, 3) := by decide +kernel
theorem dX9_fault_16 : decode cX9_fault 16 = .ok (.iload_n 1, 1) := by decide +kernel
theorem dX9_fault_17 : decode cX9_fault 17 = .ok (.ifCond .ne 11, 3) := by decide +kernel
theorem dX9_fault_20 : decode cX9_fault 20 = .ok (.aload_n 0, 1) := by decide +kernel
theorem dX9_fault_21 : decode cX9_fault 21 = .ok (.getfield 19, 3) := by decide +kernel
theorem dX9_fault_24 : decode cX9_fault 24 = .ok (.getfield 116, 3) := by decide +kernel
theorem dX9_fault_27 : decode cX9_fault 27 = .ok (.ireturn, 1) := by decide +kernel
theorem dX9_fault_28 : decode cX9_fault 28 = .ok (.iload_n 1, 1) := by decide +kernel
theorem dX9_fault_29 : decode cX9_fault 29 = .ok (.iconst 1, 1) := by decide +kernel
theorem dX9_fault_30 : decode cX9_fault 30 = .ok (.if_icmp .ne 13, 3) := by decide +kernel
theorem dX9_fault_33 : decode cX9_fault 33 = .ok (.aload_n 0, 1) := by decide +kernel
theorem dX9_fault_34 : decode cX9_fault 34 = .ok (.getfield 19, 3) := by decide +kernel
theorem dX9_fault_37 : decode cX9_fault 37 = .ok (.getfield 119, 3) := by decide +kernel
theorem dX9_fault_40 : decode cX9_fault 40 = .ok (.goto 10, 3) := by decide +kernel
theorem dX9_fault_43 : decode cX9_fault 43 = .ok (.aload_n 0, 1) := by decide +kernel
theorem dX9_fault_44 : decode cX9_fault 44 = .ok (.getfield 19, 3) := by decide +kernel
theorem dX9_fault_47 : decode cX9_fault 47 = .ok (.getfield 122, 3) := by decide +kernel
theorem dX9_fault_50 : decode cX9_fault 50 = .ok (.ireturn, 1) := by decide +kernel
theorem dX9_set_0 : decode cX9_set 0 = .ok (.iload_n 1, 1) := by decide +kernel
theorem dX9_set_1 : decode cX9_set 1 = .ok (.ifCond .lt 8, 3) := by decide +kernel
theorem dX9_set_4 : decode cX9_set 4 = .ok (.iload_n 1, 1) := by decide +kernel
theorem dX9_set_5 : decode cX9_set 5 = .ok (.iconst 3, 1) := by decide +kernel
theorem dX9_set_6 : decode cX9_set 6 = .ok (.if_icmp .le 6, 3) := by decide +kernel
theorem dX9_set_9 : decode cX9_set 9 = .ok (.bipush (-2), 2) := by decide +kernel
theorem dX9_set_11 : decode cX9_set 11 = .ok (.ireturn, 1) := by decide +kernel
theorem dX9_set_12 : decode cX9_set 12 = .ok (.iload_n 2, 1) := by decide +kernel
theorem dX9_set_13 : decode cX9_set 13 = .ok (.getstatic 125, 3) := by decide +kernel
theorem dX9_set_16 : decode cX9_set 16 = .ok (.iload_n 1, 1) := by decide +kernel
theorem dX9_set_17 : decode cX9_set 17 = .ok (.iaload, 1) := by decide +kernel
theorem dX9_set_18 : decode cX9_set 18 = .ok (.if_icmp .lt 12, 3) := by decide +kernel
theorem dX9_set_21 : decode cX9_set 21 = .ok (.iload_n 2, 1) := by decide +kernel
theorem dX9_set_22 : decode cX9_set 22 = .ok (.getstatic 128, 3) := by decide +kernel
theorem dX9_set_25 : decode cX9_set 25 = .ok (.iload_n 1, 1) := by decide +kernel
theorem dX9_set_26 : decode cX9_set 26 = .ok (.iaload, 1) := by decide +kernel
theorem dX9_set_27 : decode cX9_set 27 = .ok (.if_icmp .le 6, 3) := by decide +kernel
theorem dX9_set_30 : decode cX9_set 30 = .ok (.bipush (-2), 2) := by decide +kernel
theorem dX9_set_32 : decode cX9_set 32 = .ok (.ireturn, 1) := by decide +kernel
theorem dX9_set_33 : decode cX9_set 33 = .ok (.aload_n 0, 1) := by decide +kernel
theorem dX9_set_34 : decode cX9_set 34 = .ok (.getfield 72, 3) := by decide +kernel
theorem dX9_set_37 : decode cX9_set 37 = .ok (.iload_n 1, 1) := by decide +kernel
theorem dX9_set_38 : decode cX9_set 38 = .ok (.iaload, 1) := by decide +kernel
theorem dX9_set_39 : decode cX9_set 39 = .ok (.istore_n 3, 1) := by decide +kernel
theorem dX9_set_40 : decode cX9_set 40 = .ok (.aload_n 0, 1) := by decide +kernel
theorem dX9_set_41 : decode cX9_set 41 = .ok (.getfield 72, 3) := by decide +kernel
theorem dX9_set_44 : decode cX9_set 44 = .ok (.iload_n 1, 1) := by decide +kernel
theorem dX9_set_45 : decode cX9_set 45 = .ok (.iload_n 2, 1) := by decide +kernel
theorem dX9_set_46 : decode cX9_set 46 = .ok (.iastore, 1) := by decide +kernel
theorem dX9_set_47 : decode cX9_set 47 = .ok (.iload_n 1, 1) := by decide +kernel
theorem dX9_set_48 : decode cX9_set 48 = .ok (.iconst 2, 1) := by decide +kernel
theorem dX9_set_49 : decode cX9_set 49 = .ok (.if_icmp .ne 11, 3) := by decide +kernel
theorem dX9_set_52 : decode cX9_set 52 = .ok (.aload_n 0, 1) := by decide +kernel
theorem dX9_set_53 : decode cX9_set 53 = .ok (.iconst 0, 1) := by decide +kernel
theorem dX9_set_54 : decode cX9_set 54 = .ok (.putfield 87, 3) := by decide +kernel
theorem dX9_set_57 : decode cX9_set 57 = .ok (.goto 26, 3) := by decide +kernel
theorem dX9_set_60 : decode cX9_set 60 = .ok (.iload_n 1, 1) := by decide +kernel
theorem dX9_set_61 : decode cX9_set 61 = .ok (.iconst 3, 1) := by decide +kernel
theorem dX9_set_62 : decode cX9_set 62 = .ok (.if_icmp .ne 11, 3) := by decide +kernel
theorem dX9_set_65 : decode cX9_set 65 = .ok (.aload_n 0, 1) := by decide +kernel
theorem dX9_set_66 : decode cX9_set 66 = .ok (.iconst 0, 1) := by decide +kernel
theorem dX9_set_67 : decode cX9_set 67 = .ok (.putfield 96, 3) := by decide +kernel
theorem dX9_set_70 : decode cX9_set 70 = .ok (.goto 13, 3) := by decide +kernel
theorem dX9_set_73 : decode cX9_set 73 = .ok (.aload_n 0, 1) := by decide +kernel
theorem dX9_set_74 : decode cX9_set 74 = .ok (.iconst 0, 1) := by decide +kernel
theorem dX9_set_75 : decode cX9_set 75 = .ok (.putfield 90, 3) := by decide +kernel
theorem dX9_set_78 : decode cX9_set 78 = .ok (.aload_n 0, 1) := by decide +kernel
theorem dX9_set_79 : decode cX9_set 79 = .ok (.iconst 0, 1) := by decide +kernel
theorem dX9_set_80 : decode cX9_set 80 = .ok (.putfield 93, 3) := by decide +kernel
theorem dX9_set_83 : decode cX9_set 83 = .ok (.iload_n 3, 1) := by decide +kernel
theorem dX9_set_84 : decode cX9_set 84 = .ok (.ireturn, 1) := by decide +kernel
theorem dX9_tell_0 : decode cX9_tell 0 = .ok (.iload_n 1, 1) := by decide +kernel
theorem dX9_tell_1 : decode cX9_tell 1 = .ok (.sipush (-4095), 3) := by decide +kernel
theorem dX9_tell_4 : decode cX9_tell 4 = .ok (.iand, 1) := by decide +kernel
theorem dX9_tell_5 : decode cX9_tell 5 = .ok (.ifCond .eq 6, 3) := by decide +kernel
theorem dX9_tell_8 : decode cX9_tell 8 = .ok (.bipush (-2), 2) := by decide +kernel
theorem dX9_tell_10 : decode cX9_tell 10 = .ok (.ireturn, 1) := by decide +kernel
theorem dX9_tell_11 : decode cX9_tell 11 = .ok (.aload_n 0, 1) := by decide +kernel
theorem dX9_tell_12 : decode cX9_tell 12 = .ok (.getfield 76, 3) := by decide +kernel
theorem dX9_tell_15 : decode cX9_tell 15 = .ok (.istore_n 2, 1) := by decide +kernel
theorem dX9_tell_16 : decode cX9_tell 16 = .ok (.aload_n 0, 1) := by decide +kernel
theorem dX9_tell_17 : decode cX9_tell 17 = .ok (.iload_n 1, 1) := by decide +kernel
theorem dX9_tell_18 : decode cX9_tell 18 = .ok (.putfield 76, 3) := by decide +kernel
theorem dX9_tell_21 : decode cX9_tell 21 = .ok (.iload_n 2, 1) := by decide +kernel
theorem dX9_tell_22 : decode cX9_tell 22 = .ok (.ireturn, 1) := by decide +kernel
theorem dX9_read_0 : decode cX9_read 0 = .ok (.iload_n 1, 1) := by decide +kernel
theorem dX9_read_1 : decode cX9_read 1 = .ok (.invokestatic 131, 3) := by decide +kernel
theorem dX9_read_4 : decode cX9_read 4 = .ok (.ifCond .eq 6, 3) := by decide +kernel
theorem dX9_read_7 : decode cX9_read 7 = .ok (.bipush (-2), 2) := by decide +kernel
theorem dX9_read_9 : decode cX9_read 9 = .ok (.ireturn, 1) := by decide +kernel
theorem dX9_read_10 : decode cX9_read 10 = .ok (.aload_n 0, 1) := by decide +kernel
theorem dX9_read_11 : decode cX9_read 11 = .ok (.getfield 68, 3) := by decide +kernel
theorem dX9_read_14 : decode cX9_read 14 = .ok (.iload_n 1, 1) := by decide +kernel
theorem dX9_read_15 : decode cX9_read 15 = .ok (.invokevirtual 134, 3) := by decide +kernel
theorem dX9_read_18 : decode cX9_read 18 = .ok (.ifCond .eq 9, 3) := by decide +kernel
theorem dX9_read_21 : decode cX9_read 21 = .ok (.aload_n 0, 1) := by decide +kernel
theorem dX9_read_22 : decode cX9_read 22 = .ok (.iconst 1, 1) := by decide +kernel
theorem dX9_read_23 : decode cX9_read 23 = .ok (.invokevirtual 137, 3) := by decide +kernel
theorem dX9_read_26 : decode cX9_read 26 = .ok (.ireturn, 1) := by decide +kernel
theorem dX9_read_27 : decode cX9_read 27 = .ok (.aload_n 0, 1) := by decide +kernel
theorem dX9_read_28 : decode cX9_read 28 = .ok (.iload_n 1, 1) := by decide +kernel
theorem dX9_read_29 : decode cX9_read 29 = .ok (.invokevirtual 141, 3) := by decide +kernel
theorem dX9_read_32 : decode cX9_read 32 = .ok (.sipush 200, 3) := by decide +kernel
theorem dX9_read_35 : decode cX9_read 35 = .ok (.aload_n 0, 1) := by decide +kernel
theorem dX9_read_36 : decode cX9_read 36 = .ok (.getfield 12, 3) := by decide +kernel
theorem dX9_read_39 : decode cX9_read 39 = .ok (.getfield 103, 3) := by decide +kernel
theorem dX9_read_42 : decode cX9_read 42 = .ok (.isub, 1) := by decide +kernel
theorem dX9_read_43 : decode cX9_read 43 = .ok (.invokestatic 144, 3) := by decide +kernel
theorem dX9_read_46 : decode cX9_read 46 = .ok (.istore_n 2, 1) := by decide +kernel
theorem dX9_read_47 : decode cX9_read 47 = .ok (.iconst 0, 1) := by decide +kernel
theorem dX9_read_48 : decode cX9_read 48 = .ok (.istore_n 3, 1) := by decide +kernel
theorem dX9_read_49 : decode cX9_read 49 = .ok (.iload_n 3, 1) := by decide +kernel
theorem dX9_read_50 : decode cX9_read 50 = .ok (.iload_n 2, 1) := by decide +kernel
theorem dX9_read_51 : decode cX9_read 51 = .ok (.if_icmp .ge 25, 3) := by decide +kernel
theorem dX9_read_54 : decode cX9_read 54 = .ok (.aload_n 0, 1) := by decide +kernel
theorem dX9_read_55 : decode cX9_read 55 = .ok (.getfield 12, 3) := by decide +kernel
theorem dX9_read_58 : decode cX9_read 58 = .ok (.aload_n 0, 1) := by decide +kernel
theorem dX9_read_59 : decode cX9_read 59 = .ok (.getfield 68, 3) := by decide +kernel
theorem dX9_read_62 : decode cX9_read 62 = .ok (.iload_n 1, 1) := by decide +kernel
theorem dX9_read_63 : decode cX9_read 63 = .ok (.iload_n 3, 1) := by decide +kernel
theorem dX9_read_64 : decode cX9_read 64 = .ok (.invokevirtual 150, 3) := by decide +kernel
theorem dX9_read_67 : decode cX9_read 67 = .ok (.invokevirtual 106, 3) := by decide +kernel
theorem dX9_read_70 : decode cX9_read 70 = .ok (.iinc 3 1, 3) := by decide +kernel
theorem dX9_read_73 : decode cX9_read 73 = .ok (.goto (-24), 3) := by decide +kernel
theorem dX9_read_76 : decode cX9_read 76 = .ok (.aload_n 0, 1) := by decide +kernel
theorem dX9_read_77 : decode cX9_read 77 = .ok (.invokevirtual 110, 3) := by decide +kernel
theorem dX9_read_80 : decode cX9_read 80 = .ok (.iload_n 2, 1) := by decide +kernel
theorem dX9_read_81 : decode cX9_read 81 = .ok (.ireturn, 1) := by decide +kernel
theorem dX9_sentence_0 : decode cX9_sentence 0 = .ok (.aload_n 0, 1) := by decide +kernel
theorem dX9_sentence_1 : decode cX9_sentence 1 = .ok (.invokevirtual 113, 3) := by decide +kernel
theorem dX9_sentence_4 : decode cX9_sentence 4 = .ok (.aload_n 0, 1) := by decide +kernel
theorem dX9_sentence_5 : decode cX9_sentence 5 = .ok (.iload_n 1, 1) := by decide +kernel
theorem dX9_sentence_6 : decode cX9_sentence 6 = .ok (.invokevirtual 153, 3) := by decide +kernel
theorem dX9_sentence_9 : decode cX9_sentence 9 = .ok (.ifCond .ne 12, 3) := by decide +kernel
theorem dX9_sentence_12 : decode cX9_sentence 12 = .ok (.iload_n 2, 1) := by decide +kernel
theorem dX9_sentence_13 : decode cX9_sentence 13 = .ok (.ifCond .lt 8, 3) := by decide +kernel
theorem dX9_sentence_16 : decode cX9_sentence 16 = .ok (.iload_n 2, 1) := by decide +kernel
theorem dX9_sentence_17 : decode cX9_sentence 17 = .ok (.iconst 3, 1) := by decide +kernel
theorem dX9_sentence_18 : decode cX9_sentence 18 = .ok (.if_icmp .le 6, 3) := by decide +kernel
theorem dX9_sentence_21 : decode cX9_sentence 21 = .ok (.bipush (-2), 2) := by decide +kernel
theorem dX9_sentence_23 : decode cX9_sentence 23 = .ok (.ireturn, 1) := by decide +kernel
theorem dX9_sentence_24 : decode cX9_sentence 24 = .ok (.iload_n 2, 1) := by decide +kernel
theorem dX9_sentence_25 : decode cX9_sentence 25 = .ok (.ifCond .ne 13, 3) := by decide +kernel
theorem dX9_sentence_28 : decode cX9_sentence 28 = .ok (.aload_n 0, 1) := by decide +kernel
theorem dX9_sentence_29 : decode cX9_sentence 29 = .ok (.getfield 26, 3) := by decide +kernel
theorem dX9_sentence_32 : decode cX9_sentence 32 = .ok (.getfield 156, 3) := by decide +kernel
theorem dX9_sentence_35 : decode cX9_sentence 35 = .ok (.iload_n 1, 1) := by decide +kernel
theorem dX9_sentence_36 : decode cX9_sentence 36 = .ok (.iaload, 1) := by decide +kernel
theorem dX9_sentence_37 : decode cX9_sentence 37 = .ok (.ireturn, 1) := by decide +kernel
theorem dX9_sentence_38 : decode cX9_sentence 38 = .ok (.iload_n 2, 1) := by decide +kernel
theorem dX9_sentence_39 : decode cX9_sentence 39 = .ok (.iconst 1, 1) := by decide +kernel
theorem dX9_sentence_40 : decode cX9_sentence 40 = .ok (.if_icmp .ne 12, 3) := by decide +kernel
theorem dX9_sentence_43 : decode cX9_sentence 43 = .ok (.aload_n 0, 1) := by decide +kernel
theorem dX9_sentence_44 : decode cX9_sentence 44 = .ok (.getfield 26, 3) := by decide +kernel
theorem dX9_sentence_47 : decode cX9_sentence 47 = .ok (.iload_n 1, 1) := by decide +kernel
theorem dX9_sentence_48 : decode cX9_sentence 48 = .ok (.invokevirtual 159, 3) := by decide +kernel
theorem dX9_sentence_51 : decode cX9_sentence 51 = .ok (.ireturn, 1) := by decide +kernel
theorem dX9_sentence_52 : decode cX9_sentence 52 = .ok (.iload_n 2, 1) := by decide +kernel
theorem dX9_sentence_53 : decode cX9_sentence 53 = .ok (.iconst 2, 1) := by decide +kernel
theorem dX9_sentence_54 : decode cX9_sentence 54 = .ok (.if_icmp .ne 14, 3) := by decide +kernel
theorem dX9_sentence_57 : decode cX9_sentence 57 = .ok (.aload_n 0, 1) := by decide +kernel
theorem dX9_sentence_58 : decode cX9_sentence 58 = .ok (.getfield 26, 3) := by decide +kernel
theorem dX9_sentence_61 : decode cX9_sentence 61 = .ok (.iload_n 1, 1) := by decide +kernel
theorem dX9_sentence_62 : decode cX9_sentence 62 = .ok (.invokevirtual 162, 3) := by decide +kernel
theorem dX9_sentence_65 : decode cX9_sentence 65 = .ok (.goto 12, 3) := by decide +kernel
theorem dX9_sentence_68 : decode cX9_sentence 68 = .ok (.aload_n 0, 1) := by decide +kernel
theorem dX9_sentence_69 : decode cX9_sentence 69 = .ok (.getfield 26, 3) := by decide +kernel
theorem dX9_sentence_72 : decode cX9_sentence 72 = .ok (.getfield 165, 3) := by decide +kernel
theorem dX9_sentence_75 : decode cX9_sentence 75 = .ok (.iload_n 1, 1) := by decide +kernel
theorem dX9_sentence_76 : decode cX9_sentence 76 = .ok (.iaload, 1) := by decide +kernel
theorem dX9_sentence_77 : decode cX9_sentence 77 = .ok (.ireturn, 1) := by decide +kernel
theorem dX9_word_0 : decode cX9_word 0 = .ok (.aload_n 0, 1) := by decide +kernel
theorem dX9_word_1 : decode cX9_word 1 = .ok (.invokevirtual 113, 3) := by decide +kernel
theorem dX9_word_4 : decode cX9_word 4 = .ok (.aload_n 0, 1) := by decide +kernel
theorem dX9_word_5 : decode cX9_word 5 = .ok (.iload_n 1, 1) := by decide +kernel
theorem dX9_word_6 : decode cX9_word 6 = .ok (.invokevirtual 153, 3) := by decide +kernel
theorem dX9_word_9 : decode cX9_word 9 = .ok (.ifCond .eq 6, 3) := by decide +kernel
theorem dX9_word_12 : decode cX9_word 12 = .ok (.bipush (-2), 2) := by decide +kernel
theorem dX9_word_14 : decode cX9_word 14 = .ok (.ireturn, 1) := by decide +kernel
theorem dX9_word_15 : decode cX9_word 15 = .ok (.iload_n 2, 1) := by decide +kernel
theorem dX9_word_16 : decode cX9_word 16 = .ok (.ifCond .lt 16, 3) := by decide +kernel
theorem dX9_word_19 : decode cX9_word 19 = .ok (.iload_n 2, 1) := by decide +kernel
theorem dX9_word_20 : decode cX9_word 20 = .ok (.aload_n 0, 1) := by decide +kernel
theorem dX9_word_21 : decode cX9_word 21 = .ok (.getfield 26, 3) := by decide +kernel
theorem dX9_word_24 : decode cX9_word 24 = .ok (.getfield 156, 3) := by decide +kernel
theorem dX9_word_27 : decode cX9_word 27 = .ok (.iload_n 1, 1) := by decide +kernel
theorem dX9_word_28 : decode cX9_word 28 = .ok (.iaload, 1) := by decide +kernel
theorem dX9_word_29 : decode cX9_word 29 = .ok (.if_icmp .lt 6, 3) := by decide +kernel
theorem dX9_word_32 : decode cX9_word 32 = .ok (.bipush (-2), 2) := by decide +kernel
theorem dX9_word_34 : decode cX9_word 34 = .ok (.ireturn, 1) := by decide +kernel
theorem dX9_word_35 : decode cX9_word 35 = .ok (.aload_n 0, 1) := by decide +kernel
theorem dX9_word_36 : decode cX9_word 36 = .ok (.getfield 26, 3) := by decide +kernel
theorem dX9_word_39 : decode cX9_word 39 = .ok (.getfield 168, 3) := by decide +kernel
theorem dX9_word_42 : decode cX9_word 42 = .ok (.iload_n 1, 1) := by decide +kernel
theorem dX9_word_43 : decode cX9_word 43 = .ok (.aaload, 1) := by decide +kernel
theorem dX9_word_44 : decode cX9_word 44 = .ok (.iload_n 2, 1) := by decide +kernel
theorem dX9_word_45 : decode cX9_word 45 = .ok (.iaload, 1) := by decide +kernel
theorem dX9_word_46 : decode cX9_word 46 = .ok (.ireturn, 1) := by decide +kernel
theorem dX9_stem_0 : decode cX9_stem 0 = .ok (.aload_n 0, 1) := by decide +kernel
theorem dX9_stem_1 : decode cX9_stem 1 = .ok (.invokevirtual 113, 3) := by decide +kernel
theorem dX9_stem_4 : decode cX9_stem 4 = .ok (.aload_n 0, 1) := by decide +kernel
theorem dX9_stem_5 : decode cX9_stem 5 = .ok (.iload_n 1, 1) := by decide +kernel
theorem dX9_stem_6 : decode cX9_stem 6 = .ok (.invokevirtual 172, 3) := by decide +kernel
theorem dX9_stem_9 : decode cX9_stem 9 = .ok (.ifCond .ne 12, 3) := by decide +kernel
theorem dX9_stem_12 : decode cX9_stem 12 = .ok (.iload_n 2, 1) := by decide +kernel
theorem dX9_stem_13 : decode cX9_stem 13 = .ok (.ifCond .lt 8, 3) := by decide +kernel
theorem dX9_stem_16 : decode cX9_stem 16 = .ok (.iload_n 2, 1) := by decide +kernel
theorem dX9_stem_17 : decode cX9_stem 17 = .ok (.iconst 3, 1) := by decide +kernel
theorem dX9_stem_18 : decode cX9_stem 18 = .ok (.if_icmp .le 6, 3) := by decide +kernel
theorem dX9_stem_21 : decode cX9_stem 21 = .ok (.bipush (-2), 2) := by decide +kernel
theorem dX9_stem_23 : decode cX9_stem 23 = .ok (.ireturn, 1) := by decide +kernel
theorem dX9_stem_24 : decode cX9_stem 24 = .ok (.iload_n 2, 1) := by decide +kernel
theorem dX9_stem_25 : decode cX9_stem 25 = .ok (.ifCond .ne 13, 3) := by decide +kernel
theorem dX9_stem_28 : decode cX9_stem 28 = .ok (.aload_n 0, 1) := by decide +kernel
theorem dX9_stem_29 : decode cX9_stem 29 = .ok (.getfield 26, 3) := by decide +kernel
theorem dX9_stem_32 : decode cX9_stem 32 = .ok (.getfield 175, 3) := by decide +kernel
theorem dX9_stem_35 : decode cX9_stem 35 = .ok (.iload_n 1, 1) := by decide +kernel
theorem dX9_stem_36 : decode cX9_stem 36 = .ok (.iaload, 1) := by decide +kernel
theorem dX9_stem_37 : decode cX9_stem 37 = .ok (.ireturn, 1) := by decide +kernel
theorem dX9_stem_38 : decode cX9_stem 38 = .ok (.iload_n 2, 1) := by decide +kernel
theorem dX9_stem_39 : decode cX9_stem 39 = .ok (.iconst 1, 1) := by decide +kernel
theorem dX9_stem_40 : decode cX9_stem 40 = .ok (.if_icmp .ne 13, 3) := by decide +kernel
theorem dX9_stem_43 : decode cX9_stem 43 = .ok (.aload_n 0, 1) := by decide +kernel
theorem dX9_stem_44 : decode cX9_stem 44 = .ok (.getfield 26, 3) := by decide +kernel
theorem dX9_stem_47 : decode cX9_stem 47 = .ok (.getfield 178, 3) := by decide +kernel
theorem dX9_stem_50 : decode cX9_stem 50 = .ok (.iload_n 1, 1) := by decide +kernel
theorem dX9_stem_51 : decode cX9_stem 51 = .ok (.iaload, 1) := by decide +kernel
theorem dX9_stem_52 : decode cX9_stem 52 = .ok (.ireturn, 1) := by decide +kernel
theorem dX9_stem_53 : decode cX9_stem 53 = .ok (.iload_n 2, 1) := by decide +kernel
theorem dX9_stem_54 : decode cX9_stem 54 = .ok (.iconst 2, 1) := by decide +kernel
theorem dX9_stem_55 : decode cX9_stem 55 = .ok (.if_icmp .ne 15, 3) := by decide +kernel
theorem dX9_stem_58 : decode cX9_stem 58 = .ok (.aload_n 0, 1) := by decide +kernel
theorem dX9_stem_59 : decode cX9_stem 59 = .ok (.getfield 26, 3) := by decide +kernel
theorem dX9_stem_62 : decode cX9_stem 62 = .ok (.getfield 181, 3) := by decide +kernel
theorem dX9_stem_65 : decode cX9_stem 65 = .ok (.iload_n 1, 1) := by decide +kernel
theorem dX9_stem_66 : decode cX9_stem 66 = .ok (.iaload, 1) := by decide +kernel
theorem dX9_stem_67 : decode cX9_stem 67 = .ok (.goto 12, 3) := by decide +kernel
theorem dX9_stem_70 : decode cX9_stem 70 = .ok (.aload_n 0, 1) := by decide +kernel
theorem dX9_stem_71 : decode cX9_stem 71 = .ok (.getfield 26, 3) := by decide +kernel
theorem dX9_stem_74 : decode cX9_stem 74 = .ok (.getfield 184, 3) := by decide +kernel
theorem dX9_stem_77 : decode cX9_stem 77 = .ok (.iload_n 1, 1) := by decide +kernel
theorem dX9_stem_78 : decode cX9_stem 78 = .ok (.iaload, 1) := by decide +kernel
theorem dX9_stem_79 : decode cX9_stem 79 = .ok (.ireturn, 1) := by decide +kernel
theorem dX9_letter_0 : decode cX9_letter 0 = .ok (.aload_n 0, 1) := by decide +kernel
theorem dX9_letter_1 : decode cX9_letter 1 = .ok (.invokevirtual 113, 3) := by decide +kernel
theorem dX9_letter_4 : decode cX9_letter 4 = .ok (.aload_n 0, 1) := by decide +kernel
theorem dX9_letter_5 : decode cX9_letter 5 = .ok (.iload_n 1, 1) := by decide +kernel
theorem dX9_letter_6 : decode cX9_letter 6 = .ok (.invokevirtual 172, 3) := by decide +kernel
theorem dX9_letter_9 : decode cX9_letter 9 = .ok (.ifCond .eq 6, 3) := by decide +kernel
theorem dX9_letter_12 : decode cX9_letter 12 = .ok (.bipush (-2), 2) := by decide +kernel
theorem dX9_letter_14 : decode cX9_letter 14 = .ok (.ireturn, 1) := by decide +kernel
theorem dX9_letter_15 : decode cX9_letter 15 = .ok (.iload_n 2, 1) := by decide +kernel
theorem dX9_letter_16 : decode cX9_letter 16 = .ok (.ifCond .lt 16, 3) := by decide +kernel
theorem dX9_letter_19 : decode cX9_letter 19 = .ok (.iload_n 2, 1) := by decide +kernel
theorem dX9_letter_20 : decode cX9_letter 20 = .ok (.aload_n 0, 1) := by decide +kernel
theorem dX9_letter_21 : decode cX9_letter 21 = .ok (.getfield 26, 3) := by decide +kernel
theorem dX9_letter_24 : decode cX9_letter 24 = .ok (.getfield 175, 3) := by decide +kernel
theorem dX9_letter_27 : decode cX9_letter 27 = .ok (.iload_n 1, 1) := by decide +kernel
theorem dX9_letter_28 : decode cX9_letter 28 = .ok (.iaload, 1) := by decide +kernel
theorem dX9_letter_29 : decode cX9_letter 29 = .ok (.if_icmp .lt 6, 3) := by decide +kernel
theorem dX9_letter_32 : decode cX9_letter 32 = .ok (.bipush (-2), 2) := by decide +kernel
theorem dX9_letter_34 : decode cX9_letter 34 = .ok (.ireturn, 1) := by decide +kernel
theorem dX9_letter_35 : decode cX9_letter 35 = .ok (.aload_n 0, 1) := by decide +kernel
theorem dX9_letter_36 : decode cX9_letter 36 = .ok (.getfield 26, 3) := by decide +kernel
theorem dX9_letter_39 : decode cX9_letter 39 = .ok (.iload_n 1, 1) := by decide +kernel
theorem dX9_letter_40 : decode cX9_letter 40 = .ok (.iload_n 2, 1) := by decide +kernel
theorem dX9_letter_41 : decode cX9_letter 41 = .ok (.invokevirtual 187, 3) := by decide +kernel
theorem dX9_letter_44 : decode cX9_letter 44 = .ok (.ireturn, 1) := by decide +kernel
theorem dX9_chains_0 : decode cX9_chains 0 = .ok (.aload_n 0, 1) := by decide +kernel
theorem dX9_chains_1 : decode cX9_chains 1 = .ok (.invokevirtual 113, 3) := by decide +kernel
theorem dX9_chains_4 : decode cX9_chains 4 = .ok (.aload_n 0, 1) := by decide +kernel
theorem dX9_chains_5 : decode cX9_chains 5 = .ok (.invokevirtual 190, 3) := by decide +kernel
theorem dX9_chains_8 : decode cX9_chains 8 = .ok (.aload_n 0, 1) := by decide +kernel
theorem dX9_chains_9 : decode cX9_chains 9 = .ok (.getfield 33, 3) := by decide +kernel
theorem dX9_chains_12 : decode cX9_chains 12 = .ok (.getfield 193, 3) := by decide +kernel
theorem dX9_chains_15 : decode cX9_chains 15 = .ok (.ireturn, 1) := by decide +kernel
theorem dX9_chain_0 : decode cX9_chain 0 = .ok (.iload_n 1, 1) := by decide +kernel
theorem dX9_chain_1 : decode cX9_chain 1 = .ok (.ifCond .lt 18, 3) := by decide +kernel
theorem dX9_chain_4 : decode cX9_chain 4 = .ok (.iload_n 1, 1) := by decide +kernel
theorem dX9_chain_5 : decode cX9_chain 5 = .ok (.bipush 100, 2) := by decide +kernel
theorem dX9_chain_7 : decode cX9_chain 7 = .ok (.if_icmp .ge 12, 3) := by decide +kernel
theorem dX9_chain_10 : decode cX9_chain 10 = .ok (.iload_n 2, 1) := by decide +kernel
theorem dX9_chain_11 : decode cX9_chain 11 = .ok (.ifCond .lt 8, 3) := by decide +kernel
theorem dX9_chain_14 : decode cX9_chain 14 = .ok (.iload_n 2, 1) := by decide +kernel
theorem dX9_chain_15 : decode cX9_chain 15 = .ok (.iconst 4, 1) := by decide +kernel
theorem dX9_chain_16 : decode cX9_chain 16 = .ok (.if_icmp .le 6, 3) := by decide +kernel
theorem dX9_chain_19 : decode cX9_chain 19 = .ok (.bipush (-2), 2) := by decide +kernel
theorem dX9_chain_21 : decode cX9_chain 21 = .ok (.ireturn, 1) := by decide +kernel
theorem dX9_chain_22 : decode cX9_chain 22 = .ok (.aload_n 0, 1) := by decide +kernel
theorem dX9_chain_23 : decode cX9_chain 23 = .ok (.invokevirtual 113, 3) := by decide +kernel
theorem dX9_chain_26 : decode cX9_chain 26 = .ok (.aload_n 0, 1) := by decide +kernel
theorem dX9_chain_27 : decode cX9_chain 27 = .ok (.invokevirtual 190, 3) := by decide +kernel
theorem dX9_chain_30 : decode cX9_chain 30 = .ok (.iload_n 1, 1) := by decide +kernel
theorem dX9_chain_31 : decode cX9_chain 31 = .ok (.aload_n 0, 1) := by decide +kernel
theorem dX9_chain_32 : decode cX9_chain 32 = .ok (.getfield 33, 3) := by decide +kernel
theorem dX9_chain_35 : decode cX9_chain 35 = .ok (.getfield 193, 3) := by decide +kernel
theorem dX9_chain_38 : decode cX9_chain 38 = .ok (.if_icmp .lt 5, 3) := by decide +kernel
theorem dX9_chain_41 : decode cX9_chain 41 = .ok (.iconst (-1), 1) := by decide +kernel
theorem dX9_chain_42 : decode cX9_chain 42 = .ok (.ireturn, 1) := by decide +kernel
theorem dX9_chain_43 : decode cX9_chain 43 = .ok (.iload_n 2, 1) := by decide +kernel
theorem dX9_chain_44 : decode cX9_chain 44 = .ok (.ifCond .ne 13, 3) := by decide +kernel
theorem dX9_chain_47 : decode cX9_chain 47 = .ok (.aload_n 0, 1) := by decide +kernel
theorem dX9_chain_48 : decode cX9_chain 48 = .ok (.getfield 33, 3) := by decide +kernel
theorem dX9_chain_51 : decode cX9_chain 51 = .ok (.getfield 194, 3) := by decide +kernel
theorem dX9_chain_54 : decode cX9_chain 54 = .ok (.iload_n 1, 1) := by decide +kernel
theorem dX9_chain_55 : decode cX9_chain 55 = .ok (.iaload, 1) := by decide +kernel
theorem dX9_chain_56 : decode cX9_chain 56 = .ok (.ireturn, 1) := by decide +kernel
theorem dX9_chain_57 : decode cX9_chain 57 = .ok (.iload_n 2, 1) := by decide +kernel
theorem dX9_chain_58 : decode cX9_chain 58 = .ok (.iconst 1, 1) := by decide +kernel
theorem dX9_chain_59 : decode cX9_chain 59 = .ok (.if_icmp .ne 13, 3) := by decide +kernel
theorem dX9_chain_62 : decode cX9_chain 62 = .ok (.aload_n 0, 1) := by decide +kernel
theorem dX9_chain_63 : decode cX9_chain 63 = .ok (.getfield 33, 3) := by decide +kernel
theorem dX9_chain_66 : decode cX9_chain 66 = .ok (.getfield 197, 3) := by decide +kernel
theorem dX9_chain_69 : decode cX9_chain 69 = .ok (.iload_n 1, 1) := by decide +kernel
theorem dX9_chain_70 : decode cX9_chain 70 = .ok (.iaload, 1) := by decide +kernel
theorem dX9_chain_71 : decode cX9_chain 71 = .ok (.ireturn, 1) := by decide +kernel
theorem dX9_chain_72 : decode cX9_chain 72 = .ok (.iload_n 2, 1) := by decide +kernel
theorem dX9_chain_73 : decode cX9_chain 73 = .ok (.iconst 2, 1) := by decide +kernel
theorem dX9_chain_74 : decode cX9_chain 74 = .ok (.if_icmp .ne 13, 3) := by decide +kernel
theorem dX9_chain_77 : decode cX9_chain 77 = .ok (.aload_n 0, 1) := by decide +kernel
theorem dX9_chain_78 : decode cX9_chain 78 = .ok (.getfield 33, 3) := by decide +kernel
theorem dX9_chain_81 : decode cX9_chain 81 = .ok (.getfield 198, 3) := by decide +kernel
theorem dX9_chain_84 : decode cX9_chain 84 = .ok (.iload_n 1, 1) := by decide +kernel
theorem dX9_chain_85 : decode cX9_chain 85 = .ok (.iaload, 1) := by decide +kernel
theorem dX9_chain_86 : decode cX9_chain 86 = .ok (.ireturn, 1) := by decide +kernel
theorem dX9_chain_87 : decode cX9_chain 87 = .ok (.iload_n 2, 1) := by decide +kernel
theorem dX9_chain_88 : decode cX9_chain 88 = .ok (.iconst 3, 1) := by decide +kernel
theorem dX9_chain_89 : decode cX9_chain 89 = .ok (.if_icmp .ne 15, 3) := by decide +kernel
theorem dX9_chain_92 : decode cX9_chain 92 = .ok (.aload_n 0, 1) := by decide +kernel
theorem dX9_chain_93 : decode cX9_chain 93 = .ok (.getfield 33, 3) := by decide +kernel
theorem dX9_chain_96 : decode cX9_chain 96 = .ok (.getfield 199, 3) := by decide +kernel
theorem dX9_chain_99 : decode cX9_chain 99 = .ok (.iload_n 1, 1) := by decide +kernel
theorem dX9_chain_100 : decode cX9_chain 100 = .ok (.iaload, 1) := by decide +kernel
theorem dX9_chain_101 : decode cX9_chain 101 = .ok (.goto 11, 3) := by decide +kernel
theorem dX9_chain_104 : decode cX9_chain 104 = .ok (.aload_n 0, 1) := by decide +kernel
theorem dX9_chain_105 : decode cX9_chain 105 = .ok (.getfield 33, 3) := by decide +kernel
theorem dX9_chain_108 : decode cX9_chain 108 = .ok (.iload_n 1, 1) := by decide +kernel
theorem dX9_chain_109 : decode cX9_chain 109 = .ok (.invokevirtual 202, 3) := by decide +kernel
theorem dX9_chain_112 : decode cX9_chain 112 = .ok (.ireturn, 1) := by decide +kernel
theorem dX9_over_0 : decode cX9_over 0 = .ok (.aload_n 0, 1) := by decide +kernel
theorem dX9_over_1 : decode cX9_over 1 = .ok (.invokevirtual 113, 3) := by decide +kernel
theorem dX9_over_4 : decode cX9_over 4 = .ok (.aload_n 0, 1) := by decide +kernel
theorem dX9_over_5 : decode cX9_over 5 = .ok (.iload_n 1, 1) := by decide +kernel
theorem dX9_over_6 : decode cX9_over 6 = .ok (.invokevirtual 205, 3) := by decide +kernel
theorem dX9_over_9 : decode cX9_over 9 = .ok (.ifCond .ne 12, 3) := by decide +kernel
theorem dX9_over_12 : decode cX9_over 12 = .ok (.iload_n 2, 1) := by decide +kernel
theorem dX9_over_13 : decode cX9_over 13 = .ok (.ifCond .lt 8, 3) := by decide +kernel
theorem dX9_over_16 : decode cX9_over 16 = .ok (.iload_n 2, 1) := by decide +kernel
theorem dX9_over_17 : decode cX9_over 17 = .ok (.iconst 1, 1) := by decide +kernel
theorem dX9_over_18 : decode cX9_over 18 = .ok (.if_icmp .le 6, 3) := by decide +kernel
theorem dX9_over_21 : decode cX9_over 21 = .ok (.bipush (-2), 2) := by decide +kernel
theorem dX9_over_23 : decode cX9_over 23 = .ok (.ireturn, 1) := by decide +kernel
theorem dX9_over_24 : decode cX9_over 24 = .ok (.aload_n 0, 1) := by decide +kernel
theorem dX9_over_25 : decode cX9_over 25 = .ok (.invokevirtual 190, 3) := by decide +kernel
theorem dX9_over_28 : decode cX9_over 28 = .ok (.iload_n 2, 1) := by decide +kernel
theorem dX9_over_29 : decode cX9_over 29 = .ok (.ifCond .ne 14, 3) := by decide +kernel
theorem dX9_over_32 : decode cX9_over 32 = .ok (.aload_n 0, 1) := by decide +kernel
theorem dX9_over_33 : decode cX9_over 33 = .ok (.getfield 33, 3) := by decide +kernel
theorem dX9_over_36 : decode cX9_over 36 = .ok (.iload_n 1, 1) := by decide +kernel
theorem dX9_over_37 : decode cX9_over 37 = .ok (.invokevirtual 208, 3) := by decide +kernel
theorem dX9_over_40 : decode cX9_over 40 = .ok (.goto 11, 3) := by decide +kernel
theorem dX9_over_43 : decode cX9_over 43 = .ok (.aload_n 0, 1) := by decide +kernel
theorem dX9_over_44 : decode cX9_over 44 = .ok (.getfield 33, 3) := by decide +kernel
theorem dX9_over_47 : decode cX9_over 47 = .ok (.iload_n 1, 1) := by decide +kernel
theorem dX9_over_48 : decode cX9_over 48 = .ok (.invokevirtual 211, 3) := by decide +kernel
theorem dX9_over_51 : decode cX9_over 51 = .ok (.ireturn, 1) := by decide +kernel
theorem dX9_cost_0 : decode cX9_cost 0 = .ok (.aload_n 0, 1) := by decide +kernel
theorem dX9_cost_1 : decode cX9_cost 1 = .ok (.invokevirtual 113, 3) := by decide +kernel
theorem dX9_cost_4 : decode cX9_cost 4 = .ok (.aload_n 0, 1) := by decide +kernel
theorem dX9_cost_5 : decode cX9_cost 5 = .ok (.getfield 26, 3) := by decide +kernel
theorem dX9_cost_8 : decode cX9_cost 8 = .ok (.getfield 214, 3) := by decide +kernel
theorem dX9_cost_11 : decode cX9_cost 11 = .ok (.istore_n 3, 1) := by decide +kernel
theorem dX9_cost_12 : decode cX9_cost 12 = .ok (.iload_n 1, 1) := by decide +kernel
theorem dX9_cost_13 : decode cX9_cost 13 = .ok (.ifCond .lt 17, 3) := by decide +kernel
theorem dX9_cost_16 : decode cX9_cost 16 = .ok (.iload_n 1, 1) := by decide +kernel
theorem dX9_cost_17 : decode cX9_cost 17 = .ok (.iload_n 3, 1) := by decide +kernel
theorem dX9_cost_18 : decode cX9_cost 18 = .ok (.if_icmp .gt 12, 3) := by decide +kernel
theorem dX9_cost_21 : decode cX9_cost 21 = .ok (.iload_n 2, 1) := by decide +kernel
theorem dX9_cost_22 : decode cX9_cost 22 = .ok (.ifCond .lt 8, 3) := by decide +kernel
theorem dX9_cost_25 : decode cX9_cost 25 = .ok (.iload_n 2, 1) := by decide +kernel
theorem dX9_cost_26 : decode cX9_cost 26 = .ok (.iload_n 3, 1) := by decide +kernel
theorem dX9_cost_27 : decode cX9_cost 27 = .ok (.if_icmp .le 6, 3) := by decide +kernel
theorem dX9_cost_30 : decode cX9_cost 30 = .ok (.bipush (-2), 2) := by decide +kernel
theorem dX9_cost_32 : decode cX9_cost 32 = .ok (.ireturn, 1) := by decide +kernel
theorem dX9_cost_33 : decode cX9_cost 33 = .ok (.iload_n 2, 1) := by decide +kernel
theorem dX9_cost_34 : decode cX9_cost 34 = .ok (.iload_n 1, 1) := by decide +kernel
theorem dX9_cost_35 : decode cX9_cost 35 = .ok (.if_icmp .gt 6, 3) := by decide +kernel
theorem dX9_cost_38 : decode cX9_cost 38 = .ok (.bipush (-3), 2) := by decide +kernel
theorem dX9_cost_40 : decode cX9_cost 40 = .ok (.ireturn, 1) := by decide +kernel
theorem dX9_cost_41 : decode cX9_cost 41 = .ok (.aload_n 0, 1) := by decide +kernel
theorem dX9_cost_42 : decode cX9_cost 42 = .ok (.invokevirtual 217, 3) := by decide +kernel
theorem dX9_cost_45 : decode cX9_cost 45 = .ok (.aload_n 0, 1) := by decide +kernel
theorem dX9_cost_46 : decode cX9_cost 46 = .ok (.getfield 40, 3) := by decide +kernel
theorem dX9_cost_49 : decode cX9_cost 49 = .ok (.getfield 220, 3) := by decide +kernel
theorem dX9_cost_52 : decode cX9_cost 52 = .ok (.iload_n 1, 1) := by decide +kernel
theorem dX9_cost_53 : decode cX9_cost 53 = .ok (.aaload, 1) := by decide +kernel
theorem dX9_cost_54 : decode cX9_cost 54 = .ok (.iload_n 2, 1) := by decide +kernel
theorem dX9_cost_55 : decode cX9_cost 55 = .ok (.iaload, 1) := by decide +kernel
theorem dX9_cost_56 : decode cX9_cost 56 = .ok (.ireturn, 1) := by decide +kernel
theorem dX9_best_0 : decode cX9_best 0 = .ok (.iload_n 1, 1) := by decide +kernel
theorem dX9_best_1 : decode cX9_best 1 = .ok (.invokestatic 223, 3) := by decide +kernel
theorem dX9_best_4 : decode cX9_best 4 = .ok (.ifCond .eq 6, 3) := by decide +kernel
theorem dX9_best_7 : decode cX9_best 7 = .ok (.bipush (-2), 2) := by decide +kernel
theorem dX9_best_9 : decode cX9_best 9 = .ok (.ireturn, 1) := by decide +kernel
theorem dX9_best_10 : decode cX9_best 10 = .ok (.aload_n 0, 1) := by decide +kernel
theorem dX9_best_11 : decode cX9_best 11 = .ok (.invokevirtual 113, 3) := by decide +kernel
theorem dX9_best_14 : decode cX9_best 14 = .ok (.iload_n 1, 1) := by decide +kernel
theorem dX9_best_15 : decode cX9_best 15 = .ok (.aload_n 0, 1) := by decide +kernel
theorem dX9_best_16 : decode cX9_best 16 = .ok (.getfield 26, 3) := by decide +kernel
theorem dX9_best_19 : decode cX9_best 19 = .ok (.getfield 214, 3) := by decide +kernel
theorem dX9_best_22 : decode cX9_best 22 = .ok (.if_icmp .le 5, 3) := by decide +kernel
theorem dX9_best_25 : decode cX9_best 25 = .ok (.iconst (-1), 1) := by decide +kernel
theorem dX9_best_26 : decode cX9_best 26 = .ok (.ireturn, 1) := by decide +kernel
theorem dX9_best_27 : decode cX9_best 27 = .ok (.aload_n 0, 1) := by decide +kernel
theorem dX9_best_28 : decode cX9_best 28 = .ok (.invokevirtual 217, 3) := by decide +kernel
theorem dX9_best_31 : decode cX9_best 31 = .ok (.aload_n 0, 1) := by decide +kernel
theorem dX9_best_32 : decode cX9_best 32 = .ok (.getfield 47, 3) := by decide +kernel
theorem dX9_best_35 : decode cX9_best 35 = .ok (.iload_n 1, 1) := by decide +kernel
theorem dX9_best_36 : decode cX9_best 36 = .ok (.aload_n 0, 1) := by decide +kernel
theorem dX9_best_37 : decode cX9_best 37 = .ok (.getfield 26, 3) := by decide +kernel
theorem dX9_best_40 : decode cX9_best 40 = .ok (.getfield 214, 3) := by decide +kernel
theorem dX9_best_43 : decode cX9_best 43 = .ok (.invokevirtual 226, 3) := by decide +kernel
theorem dX9_best_46 : decode cX9_best 46 = .ok (.ireturn, 1) := by decide +kernel
theorem dX9_seam_0 : decode cX9_seam 0 = .ok (.iload_n 1, 1) := by decide +kernel
theorem dX9_seam_1 : decode cX9_seam 1 = .ok (.invokestatic 223, 3) := by decide +kernel
theorem dX9_seam_4 : decode cX9_seam 4 = .ok (.ifCond .ne 13, 3) := by decide +kernel
theorem dX9_seam_7 : decode cX9_seam 7 = .ok (.iload_n 2, 1) := by decide +kernel
theorem dX9_seam_8 : decode cX9_seam 8 = .ok (.ifCond .lt 9, 3) := by decide +kernel
theorem dX9_seam_11 : decode cX9_seam 11 = .ok (.iload_n 2, 1) := by decide +kernel
theorem dX9_seam_12 : decode cX9_seam 12 = .ok (.bipush 8, 2) := by decide +kernel
theorem dX9_seam_14 : decode cX9_seam 14 = .ok (.if_icmp .lt 6, 3) := by decide +kernel
theorem dX9_seam_17 : decode cX9_seam 17 = .ok (.bipush (-2), 2) := by decide +kernel
theorem dX9_seam_19 : decode cX9_seam 19 = .ok (.ireturn, 1) := by decide +kernel
theorem dX9_seam_20 : decode cX9_seam 20 = .ok (.aload_n 0, 1) := by decide +kernel
theorem dX9_seam_21 : decode cX9_seam 21 = .ok (.invokevirtual 113, 3) := by decide +kernel
theorem dX9_seam_24 : decode cX9_seam 24 = .ok (.iload_n 1, 1) := by decide +kernel
theorem dX9_seam_25 : decode cX9_seam 25 = .ok (.aload_n 0, 1) := by decide +kernel
theorem dX9_seam_26 : decode cX9_seam 26 = .ok (.getfield 26, 3) := by decide +kernel
theorem dX9_seam_29 : decode cX9_seam 29 = .ok (.getfield 214, 3) := by decide +kernel
theorem dX9_seam_32 : decode cX9_seam 32 = .ok (.if_icmp .gt 8, 3) := by decide +kernel
theorem dX9_seam_35 : decode cX9_seam 35 = .ok (.iload_n 2, 1) := by decide +kernel
theorem dX9_seam_36 : decode cX9_seam 36 = .ok (.iload_n 1, 1) := by decide +kernel
theorem dX9_seam_37 : decode cX9_seam 37 = .ok (.if_icmp .lt 5, 3) := by decide +kernel
theorem dX9_seam_40 : decode cX9_seam 40 = .ok (.iconst (-1), 1) := by decide +kernel
theorem dX9_seam_41 : decode cX9_seam 41 = .ok (.ireturn, 1) := by decide +kernel
theorem dX9_seam_42 : decode cX9_seam 42 = .ok (.aload_n 0, 1) := by decide +kernel
theorem dX9_seam_43 : decode cX9_seam 43 = .ok (.invokevirtual 217, 3) := by decide +kernel
theorem dX9_seam_46 : decode cX9_seam 46 = .ok (.aload_n 0, 1) := by decide +kernel
theorem dX9_seam_47 : decode cX9_seam 47 = .ok (.getfield 47, 3) := by decide +kernel
theorem dX9_seam_50 : decode cX9_seam 50 = .ok (.iload_n 1, 1) := by decide +kernel
theorem dX9_seam_51 : decode cX9_seam 51 = .ok (.iload_n 2, 1) := by decide +kernel
theorem dX9_seam_52 : decode cX9_seam 52 = .ok (.aload_n 0, 1) := by decide +kernel
theorem dX9_seam_53 : decode cX9_seam 53 = .ok (.getfield 26, 3) := by decide +kernel
theorem dX9_seam_56 : decode cX9_seam 56 = .ok (.getfield 214, 3) := by decide +kernel
theorem dX9_seam_59 : decode cX9_seam 59 = .ok (.invokevirtual 229, 3) := by decide +kernel
theorem dX9_seam_62 : decode cX9_seam 62 = .ok (.ireturn, 1) := by decide +kernel
theorem dX9_bent_0 : decode cX9_bent 0 = .ok (.aload_n 0, 1) := by decide +kernel
theorem dX9_bent_1 : decode cX9_bent 1 = .ok (.invokevirtual 113, 3) := by decide +kernel
theorem dX9_bent_4 : decode cX9_bent 4 = .ok (.aload_n 0, 1) := by decide +kernel
theorem dX9_bent_5 : decode cX9_bent 5 = .ok (.invokevirtual 217, 3) := by decide +kernel
theorem dX9_bent_8 : decode cX9_bent 8 = .ok (.iconst 0, 1) := by decide +kernel
theorem dX9_bent_9 : decode cX9_bent 9 = .ok (.istore_n 1, 1) := by decide +kernel
theorem dX9_bent_10 : decode cX9_bent 10 = .ok (.iconst 2, 1) := by decide +kernel
theorem dX9_bent_11 : decode cX9_bent 11 = .ok (.istore_n 2, 1) := by decide +kernel
theorem dX9_bent_12 : decode cX9_bent 12 = .ok (.iload_n 2, 1) := by decide +kernel
theorem dX9_bent_13 : decode cX9_bent 13 = .ok (.bipush 8, 2) := by decide +kernel
theorem dX9_bent_15 : decode cX9_bent 15 = .ok (.if_icmp .ge 44, 3) := by decide +kernel
theorem dX9_bent_18 : decode cX9_bent 18 = .ok (.iload_n 2, 1) := by decide +kernel
theorem dX9_bent_19 : decode cX9_bent 19 = .ok (.aload_n 0, 1) := by decide +kernel
theorem dX9_bent_20 : decode cX9_bent 20 = .ok (.getfield 26, 3) := by decide +kernel
theorem dX9_bent_23 : decode cX9_bent 23 = .ok (.getfield 214, 3) := by decide +kernel
theorem dX9_bent_26 : decode cX9_bent 26 = .ok (.if_icmp .ge 33, 3) := by decide +kernel
theorem dX9_bent_29 : decode cX9_bent 29 = .ok (.aload_n 0, 1) := by decide +kernel
theorem dX9_bent_30 : decode cX9_bent 30 = .ok (.getfield 47, 3) := by decide +kernel
theorem dX9_bent_33 : decode cX9_bent 33 = .ok (.iload_n 2, 1) := by decide +kernel
theorem dX9_bent_34 : decode cX9_bent 34 = .ok (.aload_n 0, 1) := by decide +kernel
theorem dX9_bent_35 : decode cX9_bent 35 = .ok (.getfield 26, 3) := by decide +kernel
theorem dX9_bent_38 : decode cX9_bent 38 = .ok (.getfield 214, 3) := by decide +kernel
theorem dX9_bent_41 : decode cX9_bent 41 = .ok (.invokevirtual 233, 3) := by decide +kernel
theorem dX9_bent_44 : decode cX9_bent 44 = .ok (.ifCond .eq 9, 3) := by decide +kernel
theorem dX9_bent_47 : decode cX9_bent 47 = .ok (.iload_n 1, 1) := by decide +kernel
theorem dX9_bent_48 : decode cX9_bent 48 = .ok (.iconst 1, 1) := by decide +kernel
theorem dX9_bent_49 : decode cX9_bent 49 = .ok (.iload_n 2, 1) := by decide +kernel
theorem dX9_bent_50 : decode cX9_bent 50 = .ok (.ishl, 1) := by decide +kernel
theorem dX9_bent_51 : decode cX9_bent 51 = .ok (.ior, 1) := by decide +kernel
theorem dX9_bent_52 : decode cX9_bent 52 = .ok (.istore_n 1, 1) := by decide +kernel
theorem dX9_bent_53 : decode cX9_bent 53 = .ok (.iinc 2 1, 3) := by decide +kernel
theorem dX9_bent_56 : decode cX9_bent 56 = .ok (.goto (-44), 3) := by decide +kernel
theorem dX9_bent_59 : decode cX9_bent 59 = .ok (.iload_n 1, 1) := by decide +kernel
theorem dX9_bent_60 : decode cX9_bent 60 = .ok (.ireturn, 1) := by decide +kernel
theorem dX9_drop_0 : decode cX9_drop 0 = .ok (.iload_n 1, 1) := by decide +kernel
theorem dX9_drop_1 : decode cX9_drop 1 = .ok (.invokestatic 223, 3) := by decide +kernel
theorem dX9_drop_4 : decode cX9_drop 4 = .ok (.ifCond .ne 12, 3) := by decide +kernel
theorem dX9_drop_7 : decode cX9_drop 7 = .ok (.iload_n 2, 1) := by decide +kernel
theorem dX9_drop_8 : decode cX9_drop 8 = .ok (.ifCond .lt 8, 3) := by decide +kernel
theorem dX9_drop_11 : decode cX9_drop 11 = .ok (.iload_n 2, 1) := by decide +kernel
theorem dX9_drop_12 : decode cX9_drop 12 = .ok (.iconst 1, 1) := by decide +kernel
theorem dX9_drop_13 : decode cX9_drop 13 = .ok (.if_icmp .le 6, 3) := by decide +kernel
theorem dX9_drop_16 : decode cX9_drop 16 = .ok (.bipush (-2), 2) := by decide +kernel
theorem dX9_drop_18 : decode cX9_drop 18 = .ok (.ireturn, 1) := by decide +kernel
theorem dX9_drop_19 : decode cX9_drop 19 = .ok (.aload_n 0, 1) := by decide +kernel
theorem dX9_drop_20 : decode cX9_drop 20 = .ok (.invokevirtual 113, 3) := by decide +kernel
theorem dX9_drop_23 : decode cX9_drop 23 = .ok (.aload_n 0, 1) := by decide +kernel
theorem dX9_drop_24 : decode cX9_drop 24 = .ok (.invokevirtual 237, 3) := by decide +kernel
theorem dX9_drop_27 : decode cX9_drop 27 = .ok (.iload_n 2, 1) := by decide +kernel
theorem dX9_drop_28 : decode cX9_drop 28 = .ok (.ifCond .ne 15, 3) := by decide +kernel
theorem dX9_drop_31 : decode cX9_drop 31 = .ok (.aload_n 0, 1) := by decide +kernel
theorem dX9_drop_32 : decode cX9_drop 32 = .ok (.getfield 54, 3) := by decide +kernel
theorem dX9_drop_35 : decode cX9_drop 35 = .ok (.getfield 240, 3) := by decide +kernel
theorem dX9_drop_38 : decode cX9_drop 38 = .ok (.iload_n 1, 1) := by decide +kernel
theorem dX9_drop_39 : decode cX9_drop 39 = .ok (.iaload, 1) := by decide +kernel
theorem dX9_drop_40 : decode cX9_drop 40 = .ok (.goto 12, 3) := by decide +kernel
theorem dX9_drop_43 : decode cX9_drop 43 = .ok (.aload_n 0, 1) := by decide +kernel
theorem dX9_drop_44 : decode cX9_drop 44 = .ok (.getfield 54, 3) := by decide +kernel
theorem dX9_drop_47 : decode cX9_drop 47 = .ok (.getfield 243, 3) := by decide +kernel
theorem dX9_drop_50 : decode cX9_drop 50 = .ok (.iload_n 1, 1) := by decide +kernel
theorem dX9_drop_51 : decode cX9_drop 51 = .ok (.iaload, 1) := by decide +kernel
theorem dX9_drop_52 : decode cX9_drop 52 = .ok (.ireturn, 1) := by decide +kernel
theorem dX9_gap_0 : decode cX9_gap 0 = .ok (.aload_n 0, 1) := by decide +kernel
theorem dX9_gap_1 : decode cX9_gap 1 = .ok (.invokevirtual 113, 3) := by decide +kernel
theorem dX9_gap_4 : decode cX9_gap 4 = .ok (.aload_n 0, 1) := by decide +kernel
theorem dX9_gap_5 : decode cX9_gap 5 = .ok (.iload_n 1, 1) := by decide +kernel
theorem dX9_gap_6 : decode cX9_gap 6 = .ok (.invokevirtual 205, 3) := by decide +kernel
theorem dX9_gap_9 : decode cX9_gap 9 = .ok (.ifCond .ne 12, 3) := by decide +kernel
theorem dX9_gap_12 : decode cX9_gap 12 = .ok (.iload_n 2, 1) := by decide +kernel
theorem dX9_gap_13 : decode cX9_gap 13 = .ok (.ifCond .lt 8, 3) := by decide +kernel
theorem dX9_gap_16 : decode cX9_gap 16 = .ok (.iload_n 2, 1) := by decide +kernel
theorem dX9_gap_17 : decode cX9_gap 17 = .ok (.iconst 1, 1) := by decide +kernel
theorem dX9_gap_18 : decode cX9_gap 18 = .ok (.if_icmp .le 6, 3) := by decide +kernel
theorem dX9_gap_21 : decode cX9_gap 21 = .ok (.bipush (-2), 2) := by decide +kernel
theorem dX9_gap_23 : decode cX9_gap 23 = .ok (.ireturn, 1) := by decide +kernel
theorem dX9_gap_24 : decode cX9_gap 24 = .ok (.aload_n 0, 1) := by decide +kernel
theorem dX9_gap_25 : decode cX9_gap 25 = .ok (.invokevirtual 246, 3) := by decide +kernel
theorem dX9_gap_28 : decode cX9_gap 28 = .ok (.iload_n 2, 1) := by decide +kernel
theorem dX9_gap_29 : decode cX9_gap 29 = .ok (.ifCond .ne 15, 3) := by decide +kernel
theorem dX9_gap_32 : decode cX9_gap 32 = .ok (.aload_n 0, 1) := by decide +kernel
theorem dX9_gap_33 : decode cX9_gap 33 = .ok (.getfield 61, 3) := by decide +kernel
theorem dX9_gap_36 : decode cX9_gap 36 = .ok (.getfield 249, 3) := by decide +kernel
theorem dX9_gap_39 : decode cX9_gap 39 = .ok (.iload_n 1, 1) := by decide +kernel
theorem dX9_gap_40 : decode cX9_gap 40 = .ok (.iaload, 1) := by decide +kernel
theorem dX9_gap_41 : decode cX9_gap 41 = .ok (.goto 12, 3) := by decide +kernel
theorem dX9_gap_44 : decode cX9_gap 44 = .ok (.aload_n 0, 1) := by decide +kernel
theorem dX9_gap_45 : decode cX9_gap 45 = .ok (.getfield 61, 3) := by decide +kernel
theorem dX9_gap_48 : decode cX9_gap 48 = .ok (.getfield 252, 3) := by decide +kernel
theorem dX9_gap_51 : decode cX9_gap 51 = .ok (.iload_n 1, 1) := by decide +kernel
theorem dX9_gap_52 : decode cX9_gap 52 = .ok (.iaload, 1) := by decide +kernel
theorem dX9_gap_53 : decode cX9_gap 53 = .ok (.ireturn, 1) := by decide +kernel
theorem dX9_deep_0 : decode cX9_deep 0 = .ok (.iload_n 1, 1) := by decide +kernel
theorem dX9_deep_1 : decode cX9_deep 1 = .ok (.ifCond .lt 9, 3) := by decide +kernel
theorem dX9_deep_4 : decode cX9_deep 4 = .ok (.iload_n 1, 1) := by decide +kernel
theorem dX9_deep_5 : decode cX9_deep 5 = .ok (.bipush 11, 2) := by decide +kernel
theorem dX9_deep_7 : decode cX9_deep 7 = .ok (.if_icmp .lt 6, 3) := by decide +kernel
theorem dX9_deep_10 : decode cX9_deep 10 = .ok (.bipush (-2), 2) := by decide +kernel
theorem dX9_deep_12 : decode cX9_deep 12 = .ok (.ireturn, 1) := by decide +kernel
theorem dX9_deep_13 : decode cX9_deep 13 = .ok (.aload_n 0, 1) := by decide +kernel
theorem dX9_deep_14 : decode cX9_deep 14 = .ok (.invokevirtual 113, 3) := by decide +kernel
theorem dX9_deep_17 : decode cX9_deep 17 = .ok (.iload_n 1, 1) := by decide +kernel
theorem dX9_deep_18 : decode cX9_deep 18 = .ok (.aload_n 0, 1) := by decide +kernel
theorem dX9_deep_19 : decode cX9_deep 19 = .ok (.getfield 26, 3) := by decide +kernel
theorem dX9_deep_22 : decode cX9_deep 22 = .ok (.getfield 214, 3) := by decide +kernel
theorem dX9_deep_25 : decode cX9_deep 25 = .ok (.iconst 1, 1) := by decide +kernel
theorem dX9_deep_26 : decode cX9_deep 26 = .ok (.isub, 1) := by decide +kernel
theorem dX9_deep_27 : decode cX9_deep 27 = .ok (.if_icmp .lt 5, 3) := by decide +kernel
theorem dX9_deep_30 : decode cX9_deep 30 = .ok (.iconst (-1), 1) := by decide +kernel
theorem dX9_deep_31 : decode cX9_deep 31 = .ok (.ireturn, 1) := by decide +kernel
theorem dX9_deep_32 : decode cX9_deep 32 = .ok (.aload_n 0, 1) := by decide +kernel
theorem dX9_deep_33 : decode cX9_deep 33 = .ok (.invokevirtual 246, 3) := by decide +kernel
theorem dX9_deep_36 : decode cX9_deep 36 = .ok (.aload_n 0, 1) := by decide +kernel
theorem dX9_deep_37 : decode cX9_deep 37 = .ok (.getfield 61, 3) := by decide +kernel
theorem dX9_deep_40 : decode cX9_deep 40 = .ok (.getfield 255, 3) := by decide +kernel
theorem dX9_deep_43 : decode cX9_deep 43 = .ok (.iload_n 1, 1) := by decide +kernel
theorem dX9_deep_44 : decode cX9_deep 44 = .ok (.iaload, 1) := by decide +kernel
theorem dX9_deep_45 : decode cX9_deep 45 = .ok (.ireturn, 1) := by decide +kernel
theorem dX9_apart_0 : decode cX9_apart 0 = .ok (.iload_n 1, 1) := by decide +kernel
theorem dX9_apart_1 : decode cX9_apart 1 = .ok (.invokestatic 223, 3) := by decide +kernel
theorem dX9_apart_4 : decode cX9_apart 4 = .ok (.ifCond .ne 14, 3) := by decide +kernel
theorem dX9_apart_7 : decode cX9_apart 7 = .ok (.iload_n 2, 1) := by decide +kernel
theorem dX9_apart_8 : decode cX9_apart 8 = .ok (.iconst 1, 1) := by decide +kernel
theorem dX9_apart_9 : decode cX9_apart 9 = .ok (.if_icmp .lt 9, 3) := by decide +kernel
theorem dX9_apart_12 : decode cX9_apart 12 = .ok (.iload_n 2, 1) := by decide +kernel
theorem dX9_apart_13 : decode cX9_apart 13 = .ok (.bipush 11, 2) := by decide +kernel
theorem dX9_apart_15 : decode cX9_apart 15 = .ok (.if_icmp .le 6, 3) := by decide +kernel
theorem dX9_apart_18 : decode cX9_apart 18 = .ok (.bipush (-2), 2) := by decide +kernel
theorem dX9_apart_20 : decode cX9_apart 20 = .ok (.ireturn, 1) := by decide +kernel
theorem dX9_apart_21 : decode cX9_apart 21 = .ok (.aload_n 0, 1) := by decide +kernel
theorem dX9_apart_22 : decode cX9_apart 22 = .ok (.invokevirtual 113, 3) := by decide +kernel
theorem dX9_apart_25 : decode cX9_apart 25 = .ok (.aload_n 0, 1) := by decide +kernel
theorem dX9_apart_26 : decode cX9_apart 26 = .ok (.getfield 26, 3) := by decide +kernel
theorem dX9_apart_29 : decode cX9_apart 29 = .ok (.getfield 214, 3) := by decide +kernel
theorem dX9_apart_32 : decode cX9_apart 32 = .ok (.istore_n 3, 1) := by decide +kernel
theorem dX9_apart_33 : decode cX9_apart 33 = .ok (.iload_n 1, 1) := by decide +kernel
theorem dX9_apart_34 : decode cX9_apart 34 = .ok (.iload_n 3, 1) := by decide +kernel
theorem dX9_apart_35 : decode cX9_apart 35 = .ok (.if_icmp .le 5, 3) := by decide +kernel
theorem dX9_apart_38 : decode cX9_apart 38 = .ok (.iconst (-1), 1) := by decide +kernel
theorem dX9_apart_39 : decode cX9_apart 39 = .ok (.ireturn, 1) := by decide +kernel
theorem dX9_apart_40 : decode cX9_apart 40 = .ok (.aload_n 0, 1) := by decide +kernel
theorem dX9_apart_41 : decode cX9_apart 41 = .ok (.invokevirtual 217, 3) := by decide +kernel
theorem dX9_apart_44 : decode cX9_apart 44 = .ok (.aload_n 0, 1) := by decide +kernel
theorem dX9_apart_45 : decode cX9_apart 45 = .ok (.getfield 47, 3) := by decide +kernel
theorem dX9_apart_48 : decode cX9_apart 48 = .ok (.iload_n 1, 1) := by decide +kernel
theorem dX9_apart_49 : decode cX9_apart 49 = .ok (.iload_n 3, 1) := by decide +kernel
theorem dX9_apart_50 : decode cX9_apart 50 = .ok (.invokevirtual 258, 3) := by decide +kernel
theorem dX9_apart_53 : decode cX9_apart 53 = .ok (.istore 4, 2) := by decide +kernel
theorem dX9_apart_55 : decode cX9_apart 55 = .ok (.iconst 0, 1) := by decide +kernel
theorem dX9_apart_56 : decode cX9_apart 56 = .ok (.istore 5, 2) := by decide +kernel
theorem dX9_apart_58 : decode cX9_apart 58 = .ok (.iconst 0, 1) := by decide +kernel
theorem dX9_apart_59 : decode cX9_apart 59 = .ok (.istore 6, 2) := by decide +kernel
theorem dX9_apart_61 : decode cX9_apart 61 = .ok (.iload 6, 2) := by decide +kernel
theorem dX9_apart_63 : decode cX9_apart 63 = .ok (.iload_n 2, 1) := by decide +kernel
theorem dX9_apart_64 : decode cX9_apart 64 = .ok (.iadd, 1) := by decide +kernel
theorem dX9_apart_65 : decode cX9_apart 65 = .ok (.iload_n 3, 1) := by decide +kernel
theorem dX9_apart_66 : decode cX9_apart 66 = .ok (.if_icmp .ge 45, 3) := by decide +kernel
theorem dX9_apart_69 : decode cX9_apart 69 = .ok (.iconst 1, 1) := by decide +kernel
theorem dX9_apart_70 : decode cX9_apart 70 = .ok (.iload_n 2, 1) := by decide +kernel
theorem dX9_apart_71 : decode cX9_apart 71 = .ok (.ishl, 1) := by decide +kernel
theorem dX9_apart_72 : decode cX9_apart 72 = .ok (.iconst 1, 1) := by decide +kernel
theorem dX9_apart_73 : decode cX9_apart 73 = .ok (.isub, 1) := by decide +kernel
theorem dX9_apart_74 : decode cX9_apart 74 = .ok (.iload 6, 2) := by decide +kernel
theorem dX9_apart_76 : decode cX9_apart 76 = .ok (.iconst 1, 1) := by decide +kernel
theorem dX9_apart_77 : decode cX9_apart 77 = .ok (.iadd, 1) := by decide +kernel
theorem dX9_apart_78 : decode cX9_apart 78 = .ok (.ishl, 1) := by decide +kernel
theorem dX9_apart_79 : decode cX9_apart 79 = .ok (.istore 7, 2) := by decide +kernel
theorem dX9_apart_81 : decode cX9_apart 81 = .ok (.iload 4, 2) := by decide +kernel
theorem dX9_apart_83 : decode cX9_apart 83 = .ok (.iload 7, 2) := by decide +kernel
theorem dX9_apart_85 : decode cX9_apart 85 = .ok (.iand, 1) := by decide +kernel
theorem dX9_apart_86 : decode cX9_apart 86 = .ok (.invokestatic 261, 3) := by decide +kernel
theorem dX9_apart_89 : decode cX9_apart 89 = .ok (.aload_n 0, 1) := by decide +kernel
theorem dX9_apart_90 : decode cX9_apart 90 = .ok (.getfield 76, 3) := by decide +kernel
theorem dX9_apart_93 : decode cX9_apart 93 = .ok (.iload 7, 2) := by decide +kernel
theorem dX9_apart_95 : decode cX9_apart 95 = .ok (.iand, 1) := by decide +kernel
theorem dX9_apart_96 : decode cX9_apart 96 = .ok (.invokestatic 261, 3) := by decide +kernel
theorem dX9_apart_99 : decode cX9_apart 99 = .ok (.if_icmp .eq 6, 3) := by decide +kernel
theorem dX9_apart_102 : decode cX9_apart 102 = .ok (.iinc 5 1, 3) := by decide +kernel
theorem dX9_apart_105 : decode cX9_apart 105 = .ok (.iinc 6 1, 3) := by decide +kernel
theorem dX9_apart_108 : decode cX9_apart 108 = .ok (.goto (-47), 3) := by decide +kernel
theorem dX9_apart_111 : decode cX9_apart 111 = .ok (.iload 5, 2) := by decide +kernel
theorem dX9_apart_113 : decode cX9_apart 113 = .ok (.ireturn, 1) := by decide +kernel
theorem dX9_sheet_0 : decode cX9_sheet 0 = .ok (.iload_n 1, 1) := by decide +kernel
theorem dX9_sheet_1 : decode cX9_sheet 1 = .ok (.invokestatic 131, 3) := by decide +kernel
theorem dX9_sheet_4 : decode cX9_sheet 4 = .ok (.ifCond .ne 16, 3) := by decide +kernel
theorem dX9_sheet_7 : decode cX9_sheet 7 = .ok (.iload_n 2, 1) := by decide +kernel
theorem dX9_sheet_8 : decode cX9_sheet 8 = .ok (.invokestatic 266, 3) := by decide +kernel
theorem dX9_sheet_11 : decode cX9_sheet 11 = .ok (.ifCond .ne 9, 3) := by decide +kernel
theorem dX9_sheet_14 : decode cX9_sheet 14 = .ok (.iload_n 3, 1) := by decide +kernel
theorem dX9_sheet_15 : decode cX9_sheet 15 = .ok (.bipush 60, 2) := by decide +kernel
theorem dX9_sheet_17 : decode cX9_sheet 17 = .ok (.if_icmp .le 6, 3) := by decide +kernel
theorem dX9_sheet_20 : decode cX9_sheet 20 = .ok (.bipush (-2), 2) := by decide +kernel
theorem dX9_sheet_22 : decode cX9_sheet 22 = .ok (.ireturn, 1) := by decide +kernel
theorem dX9_sheet_23 : decode cX9_sheet 23 = .ok (.iload_n 3, 1) := by decide +kernel
theorem dX9_sheet_24 : decode cX9_sheet 24 = .ok (.ifCond .ge 9, 3) := by decide +kernel
theorem dX9_sheet_27 : decode cX9_sheet 27 = .ok (.aload_n 0, 1) := by decide +kernel
theorem dX9_sheet_28 : decode cX9_sheet 28 = .ok (.iconst 5, 1) := by decide +kernel
theorem dX9_sheet_29 : decode cX9_sheet 29 = .ok (.invokevirtual 137, 3) := by decide +kernel
theorem dX9_sheet_32 : decode cX9_sheet 32 = .ok (.ireturn, 1) := by decide +kernel
theorem dX9_sheet_33 : decode cX9_sheet 33 = .ok (.aload_n 0, 1) := by decide +kernel
theorem dX9_sheet_34 : decode cX9_sheet 34 = .ok (.getfield 68, 3) := by decide +kernel
theorem dX9_sheet_37 : decode cX9_sheet 37 = .ok (.iload_n 1, 1) := by decide +kernel
theorem dX9_sheet_38 : decode cX9_sheet 38 = .ok (.iload_n 2, 1) := by decide +kernel
