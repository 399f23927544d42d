theorem dX10_bentOf_45 : decode cX10_bentOf 45 = .ok (.aload_n 0, 1) := by decide +kernel
theorem dX10_bentOf_46 : decode cX10_bentOf 46 = .ok (.iload_n 2, 1) := by decide +kernel
theorem dX10_bentOf_47 : decode cX10_bentOf 47 = .ok (.iconst 1, 1) := by decide +kernel
theorem dX10_bentOf_48 : decode cX10_bentOf 48 = .ok (.isub, 1) := by decide +kernel
theorem dX10_bentOf_49 : decode cX10_bentOf 49 = .ok (.invokevirtual 231, 3) := by decide +kernel
theorem dX10_bentOf_52 : decode cX10_bentOf 52 = .ok (.aload_n 0, 1) := by decide +kernel
theorem dX10_bentOf_53 : decode cX10_bentOf 53 = .ok (.iload_n 2, 1) := by decide +kernel
theorem dX10_bentOf_54 : decode cX10_bentOf 54 = .ok (.iconst 1, 1) := by decide +kernel
theorem dX10_bentOf_55 : decode cX10_bentOf 55 = .ok (.iadd, 1) := by decide +kernel
theorem dX10_bentOf_56 : decode cX10_bentOf 56 = .ok (.invokevirtual 231, 3) := by decide +kernel
theorem dX10_bentOf_59 : decode cX10_bentOf 59 = .ok (.iadd, 1) := by decide +kernel
theorem dX10_bentOf_60 : decode cX10_bentOf 60 = .ok (.iconst 2, 1) := by decide +kernel
theorem dX10_bentOf_61 : decode cX10_bentOf 61 = .ok (.aload_n 0, 1) := by decide +kernel
theorem dX10_bentOf_62 : decode cX10_bentOf 62 = .ok (.iload_n 2, 1) := by decide +kernel
theorem dX10_bentOf_63 : decode cX10_bentOf 63 = .ok (.invokevirtual 231, 3) := by decide +kernel
theorem dX10_bentOf_66 : decode cX10_bentOf 66 = .ok (.imul, 1) := by decide +kernel
theorem dX10_bentOf_67 : decode cX10_bentOf 67 = .ok (.if_icmp .lt 9, 3) := by decide +kernel
theorem dX10_bentOf_70 : decode cX10_bentOf 70 = .ok (.iconst 1, 1) := by decide +kernel
theorem dX10_bentOf_71 : decode cX10_bentOf 71 = .ok (.iload_n 2, 1) := by decide +kernel
theorem dX10_bentOf_72 : decode cX10_bentOf 72 = .ok (.ishl, 1) := by decide +kernel
theorem dX10_bentOf_73 : decode cX10_bentOf 73 = .ok (.goto 4, 3) := by decide +kernel
theorem dX10_bentOf_76 : decode cX10_bentOf 76 = .ok (.iconst 0, 1) := by decide +kernel
theorem dX10_bentOf_77 : decode cX10_bentOf 77 = .ok (.ior, 1) := by decide +kernel
theorem dX10_bentOf_78 : decode cX10_bentOf 78 = .ok (.istore_n 1, 1) := by decide +kernel
theorem dX10_bentOf_79 : decode cX10_bentOf 79 = .ok (.iinc 2 1, 3) := by decide +kernel
theorem dX10_bentOf_82 : decode cX10_bentOf 82 = .ok (.goto (-74), 3) := by decide +kernel
theorem dX10_bentOf_85 : decode cX10_bentOf 85 = .ok (.iload_n 1, 1) := by decide +kernel
theorem dX10_bentOf_86 : decode cX10_bentOf 86 = .ok (.ireturn, 1) := by decide +kernel
theorem dX10_bent_0 : decode cX10_bent 0 = .ok (.aload_n 0, 1) := by decide +kernel
theorem dX10_bent_1 : decode cX10_bent 1 = .ok (.invokevirtual 246, 3) := by decide +kernel
theorem dX10_bent_4 : decode cX10_bent 4 = .ok (.ireturn, 1) := by decide +kernel
theorem dX10_dropOf_0 : decode cX10_dropOf 0 = .ok (.aload_n 0, 1) := by decide +kernel
theorem dX10_dropOf_1 : decode cX10_dropOf 1 = .ok (.invokevirtual 147, 3) := by decide +kernel
theorem dX10_dropOf_4 : decode cX10_dropOf 4 = .ok (.iconst (-1), 1) := by decide +kernel
theorem dX10_dropOf_5 : decode cX10_dropOf 5 = .ok (.istore_n 3, 1) := by decide +kernel
theorem dX10_dropOf_6 : decode cX10_dropOf 6 = .ok (.iconst (-1), 1) := by decide +kernel
theorem dX10_dropOf_7 : decode cX10_dropOf 7 = .ok (.istore 4, 2) := by decide +kernel
theorem dX10_dropOf_9 : decode cX10_dropOf 9 = .ok (.iconst 0, 1) := by decide +kernel
theorem dX10_dropOf_10 : decode cX10_dropOf 10 = .ok (.istore 5, 2) := by decide +kernel
theorem dX10_dropOf_12 : decode cX10_dropOf 12 = .ok (.iload 5, 2) := by decide +kernel
theorem dX10_dropOf_14 : decode cX10_dropOf 14 = .ok (.aload_n 0, 1) := by decide +kernel
theorem dX10_dropOf_15 : decode cX10_dropOf 15 = .ok (.getfield 109, 3) := by decide +kernel
theorem dX10_dropOf_18 : decode cX10_dropOf 18 = .ok (.if_icmp .ge 77, 3) := by decide +kernel
theorem dX10_dropOf_21 : decode cX10_dropOf 21 = .ok (.aload_n 0, 1) := by decide +kernel
theorem dX10_dropOf_22 : decode cX10_dropOf 22 = .ok (.iload 5, 2) := by decide +kernel
theorem dX10_dropOf_24 : decode cX10_dropOf 24 = .ok (.putfield 144, 3) := by decide +kernel
theorem dX10_dropOf_27 : decode cX10_dropOf 27 = .ok (.aload_n 0, 1) := by decide +kernel
theorem dX10_dropOf_28 : decode cX10_dropOf 28 = .ok (.invokevirtual 225, 3) := by decide +kernel
theorem dX10_dropOf_31 : decode cX10_dropOf 31 = .ok (.aload_n 0, 1) := by decide +kernel
theorem dX10_dropOf_32 : decode cX10_dropOf 32 = .ok (.iload_n 1, 1) := by decide +kernel
theorem dX10_dropOf_33 : decode cX10_dropOf 33 = .ok (.invokevirtual 231, 3) := by decide +kernel
theorem dX10_dropOf_36 : decode cX10_dropOf 36 = .ok (.istore 6, 2) := by decide +kernel
theorem dX10_dropOf_38 : decode cX10_dropOf 38 = .ok (.iload 6, 2) := by decide +kernel
theorem dX10_dropOf_40 : decode cX10_dropOf 40 = .ok (.iconst (-1), 1) := by decide +kernel
theorem dX10_dropOf_41 : decode cX10_dropOf 41 = .ok (.if_icmp .eq 19, 3) := by decide +kernel
theorem dX10_dropOf_44 : decode cX10_dropOf 44 = .ok (.iload_n 3, 1) := by decide +kernel
theorem dX10_dropOf_45 : decode cX10_dropOf 45 = .ok (.iconst (-1), 1) := by decide +kernel
theorem dX10_dropOf_46 : decode cX10_dropOf 46 = .ok (.if_icmp .eq 10, 3) := by decide +kernel
theorem dX10_dropOf_49 : decode cX10_dropOf 49 = .ok (.iload 6, 2) := by decide +kernel
theorem dX10_dropOf_51 : decode cX10_dropOf 51 = .ok (.iload 4, 2) := by decide +kernel
theorem dX10_dropOf_53 : decode cX10_dropOf 53 = .ok (.if_icmp .ge 7, 3) := by decide +kernel
theorem dX10_dropOf_56 : decode cX10_dropOf 56 = .ok (.iconst 1, 1) := by decide +kernel
theorem dX10_dropOf_57 : decode cX10_dropOf 57 = .ok (.goto 4, 3) := by decide +kernel
theorem dX10_dropOf_60 : decode cX10_dropOf 60 = .ok (.iconst 0, 1) := by decide +kernel
theorem dX10_dropOf_61 : decode cX10_dropOf 61 = .ok (.istore 7, 2) := by decide +kernel
theorem dX10_dropOf_63 : decode cX10_dropOf 63 = .ok (.iload 7, 2) := by decide +kernel
theorem dX10_dropOf_65 : decode cX10_dropOf 65 = .ok (.ifCond .eq 8, 3) := by decide +kernel
theorem dX10_dropOf_68 : decode cX10_dropOf 68 = .ok (.iload 5, 2) := by decide +kernel
theorem dX10_dropOf_70 : decode cX10_dropOf 70 = .ok (.goto 4, 3) := by decide +kernel
theorem dX10_dropOf_73 : decode cX10_dropOf 73 = .ok (.iload_n 3, 1) := by decide +kernel
theorem dX10_dropOf_74 : decode cX10_dropOf 74 = .ok (.istore_n 3, 1) := by decide +kernel
theorem dX10_dropOf_75 : decode cX10_dropOf 75 = .ok (.iload 7, 2) := by decide +kernel
theorem dX10_dropOf_77 : decode cX10_dropOf 77 = .ok (.ifCond .eq 8, 3) := by decide +kernel
theorem dX10_dropOf_80 : decode cX10_dropOf 80 = .ok (.iload 6, 2) := by decide +kernel
theorem dX10_dropOf_82 : decode cX10_dropOf 82 = .ok (.goto 5, 3) := by decide +kernel
theorem dX10_dropOf_85 : decode cX10_dropOf 85 = .ok (.iload 4, 2) := by decide +kernel
theorem dX10_dropOf_87 : decode cX10_dropOf 87 = .ok (.istore 4, 2) := by decide +kernel
theorem dX10_dropOf_89 : decode cX10_dropOf 89 = .ok (.iinc 5 1, 3) := by decide +kernel
theorem dX10_dropOf_92 : decode cX10_dropOf 92 = .ok (.goto (-80), 3) := by decide +kernel
theorem dX10_dropOf_95 : decode cX10_dropOf 95 = .ok (.aload_n 0, 1) := by decide +kernel
theorem dX10_dropOf_96 : decode cX10_dropOf 96 = .ok (.iconst (-1), 1) := by decide +kernel
theorem dX10_dropOf_97 : decode cX10_dropOf 97 = .ok (.putfield 144, 3) := by decide +kernel
theorem dX10_dropOf_100 : decode cX10_dropOf 100 = .ok (.iload_n 2, 1) := by decide +kernel
theorem dX10_dropOf_101 : decode cX10_dropOf 101 = .ok (.ifCond .ne 7, 3) := by decide +kernel
theorem dX10_dropOf_104 : decode cX10_dropOf 104 = .ok (.iload_n 3, 1) := by decide +kernel
theorem dX10_dropOf_105 : decode cX10_dropOf 105 = .ok (.goto 5, 3) := by decide +kernel
theorem dX10_dropOf_108 : decode cX10_dropOf 108 = .ok (.iload 4, 2) := by decide +kernel
theorem dX10_dropOf_110 : decode cX10_dropOf 110 = .ok (.ireturn, 1) := by decide +kernel
theorem dX10_drop_0 : decode cX10_drop 0 = .ok (.iload_n 1, 1) := by decide +kernel
theorem dX10_drop_1 : decode cX10_drop 1 = .ok (.invokestatic 234, 3) := by decide +kernel
theorem dX10_drop_4 : decode cX10_drop 4 = .ok (.ifCond .eq 19, 3) := by decide +kernel
theorem dX10_drop_7 : decode cX10_drop 7 = .ok (.iload_n 2, 1) := by decide +kernel
theorem dX10_drop_8 : decode cX10_drop 8 = .ok (.invokestatic 207, 3) := by decide +kernel
theorem dX10_drop_11 : decode cX10_drop 11 = .ok (.ifCond .eq 12, 3) := by decide +kernel
theorem dX10_drop_14 : decode cX10_drop 14 = .ok (.aload_n 0, 1) := by decide +kernel
theorem dX10_drop_15 : decode cX10_drop 15 = .ok (.iload_n 1, 1) := by decide +kernel
theorem dX10_drop_16 : decode cX10_drop 16 = .ok (.iload_n 2, 1) := by decide +kernel
theorem dX10_drop_17 : decode cX10_drop 17 = .ok (.invokevirtual 249, 3) := by decide +kernel
theorem dX10_drop_20 : decode cX10_drop 20 = .ok (.goto 5, 3) := by decide +kernel
theorem dX10_drop_23 : decode cX10_drop 23 = .ok (.bipush (-2), 2) := by decide +kernel
theorem dX10_drop_25 : decode cX10_drop 25 = .ok (.ireturn, 1) := by decide +kernel
theorem dX10_alike_0 : decode cX10_alike 0 = .ok (.iconst 0, 1) := by decide +kernel
theorem dX10_alike_1 : decode cX10_alike 1 = .ok (.istore_n 2, 1) := by decide +kernel
theorem dX10_alike_2 : decode cX10_alike 2 = .ok (.iconst 0, 1) := by decide +kernel
theorem dX10_alike_3 : decode cX10_alike 3 = .ok (.istore_n 3, 1) := by decide +kernel
theorem dX10_alike_4 : decode cX10_alike 4 = .ok (.iload_n 3, 1) := by decide +kernel
theorem dX10_alike_5 : decode cX10_alike 5 = .ok (.aload_n 0, 1) := by decide +kernel
theorem dX10_alike_6 : decode cX10_alike 6 = .ok (.getfield 135, 3) := by decide +kernel
theorem dX10_alike_9 : decode cX10_alike 9 = .ok (.if_icmp .ge 120, 3) := by decide +kernel
theorem dX10_alike_12 : decode cX10_alike 12 = .ok (.iconst 0, 1) := by decide +kernel
theorem dX10_alike_13 : decode cX10_alike 13 = .ok (.istore 4, 2) := by decide +kernel
theorem dX10_alike_15 : decode cX10_alike 15 = .ok (.iconst 0, 1) := by decide +kernel
theorem dX10_alike_16 : decode cX10_alike 16 = .ok (.istore 5, 2) := by decide +kernel
theorem dX10_alike_18 : decode cX10_alike 18 = .ok (.iconst 0, 1) := by decide +kernel
theorem dX10_alike_19 : decode cX10_alike 19 = .ok (.istore 6, 2) := by decide +kernel
theorem dX10_alike_21 : decode cX10_alike 21 = .ok (.iload 6, 2) := by decide +kernel
theorem dX10_alike_23 : decode cX10_alike 23 = .ok (.aload_n 0, 1) := by decide +kernel
theorem dX10_alike_24 : decode cX10_alike 24 = .ok (.getfield 13, 3) := by decide +kernel
theorem dX10_alike_27 : decode cX10_alike 27 = .ok (.iconst 3, 1) := by decide +kernel
theorem dX10_alike_28 : decode cX10_alike 28 = .ok (.iaload, 1) := by decide +kernel
theorem dX10_alike_29 : decode cX10_alike 29 = .ok (.if_icmp .ge 77, 3) := by decide +kernel
theorem dX10_alike_32 : decode cX10_alike 32 = .ok (.iload 4, 2) := by decide +kernel
theorem dX10_alike_34 : decode cX10_alike 34 = .ok (.iload_n 1, 1) := by decide +kernel
theorem dX10_alike_35 : decode cX10_alike 35 = .ok (.iconst 1, 1) := by decide +kernel
theorem dX10_alike_36 : decode cX10_alike 36 = .ok (.isub, 1) := by decide +kernel
theorem dX10_alike_37 : decode cX10_alike 37 = .ok (.iload 6, 2) := by decide +kernel
theorem dX10_alike_39 : decode cX10_alike 39 = .ok (.isub, 1) := by decide +kernel
theorem dX10_alike_40 : decode cX10_alike 40 = .ok (.ifCond .lt 22, 3) := by decide +kernel
theorem dX10_alike_43 : decode cX10_alike 43 = .ok (.aload_n 0, 1) := by decide +kernel
theorem dX10_alike_44 : decode cX10_alike 44 = .ok (.getfield 37, 3) := by decide +kernel
theorem dX10_alike_47 : decode cX10_alike 47 = .ok (.bipush 110, 2) := by decide +kernel
theorem dX10_alike_49 : decode cX10_alike 49 = .ok (.iload_n 1, 1) := by decide +kernel
theorem dX10_alike_50 : decode cX10_alike 50 = .ok (.iconst 1, 1) := by decide +kernel
theorem dX10_alike_51 : decode cX10_alike 51 = .ok (.isub, 1) := by decide +kernel
theorem dX10_alike_52 : decode cX10_alike 52 = .ok (.iload 6, 2) := by decide +kernel
theorem dX10_alike_54 : decode cX10_alike 54 = .ok (.isub, 1) := by decide +kernel
theorem dX10_alike_55 : decode cX10_alike 55 = .ok (.imul, 1) := by decide +kernel
theorem dX10_alike_56 : decode cX10_alike 56 = .ok (.iload_n 3, 1) := by decide +kernel
theorem dX10_alike_57 : decode cX10_alike 57 = .ok (.iadd, 1) := by decide +kernel
theorem dX10_alike_58 : decode cX10_alike 58 = .ok (.iaload, 1) := by decide +kernel
theorem dX10_alike_59 : decode cX10_alike 59 = .ok (.goto 4, 3) := by decide +kernel
theorem dX10_alike_62 : decode cX10_alike 62 = .ok (.iconst 0, 1) := by decide +kernel
theorem dX10_alike_63 : decode cX10_alike 63 = .ok (.iadd, 1) := by decide +kernel
theorem dX10_alike_64 : decode cX10_alike 64 = .ok (.istore 4, 2) := by decide +kernel
theorem dX10_alike_66 : decode cX10_alike 66 = .ok (.iload 5, 2) := by decide +kernel
theorem dX10_alike_68 : decode cX10_alike 68 = .ok (.iload_n 1, 1) := by decide +kernel
theorem dX10_alike_69 : decode cX10_alike 69 = .ok (.iload 6, 2) := by decide +kernel
theorem dX10_alike_71 : decode cX10_alike 71 = .ok (.iadd, 1) := by decide +kernel
theorem dX10_alike_72 : decode cX10_alike 72 = .ok (.aload_n 0, 1) := by decide +kernel
theorem dX10_alike_73 : decode cX10_alike 73 = .ok (.getfield 109, 3) := by decide +kernel
theorem dX10_alike_76 : decode cX10_alike 76 = .ok (.if_icmp .ge 20, 3) := by decide +kernel
theorem dX10_alike_79 : decode cX10_alike 79 = .ok (.aload_n 0, 1) := by decide +kernel
theorem dX10_alike_80 : decode cX10_alike 80 = .ok (.getfield 37, 3) := by decide +kernel
theorem dX10_alike_83 : decode cX10_alike 83 = .ok (.bipush 110, 2) := by decide +kernel
theorem dX10_alike_85 : decode cX10_alike 85 = .ok (.iload_n 1, 1) := by decide +kernel
theorem dX10_alike_86 : decode cX10_alike 86 = .ok (.iload 6, 2) := by decide +kernel
theorem dX10_alike_88 : decode cX10_alike 88 = .ok (.iadd, 1) := by decide +kernel
theorem dX10_alike_89 : decode cX10_alike 89 = .ok (.imul, 1) := by decide +kernel
theorem dX10_alike_90 : decode cX10_alike 90 = .ok (.iload_n 3, 1) := by decide +kernel
theorem dX10_alike_91 : decode cX10_alike 91 = .ok (.iadd, 1) := by decide +kernel
theorem dX10_alike_92 : decode cX10_alike 92 = .ok (.iaload, 1) := by decide +kernel
theorem dX10_alike_93 : decode cX10_alike 93 = .ok (.goto 4, 3) := by decide +kernel
theorem dX10_alike_96 : decode cX10_alike 96 = .ok (.iconst 0, 1) := by decide +kernel
theorem dX10_alike_97 : decode cX10_alike 97 = .ok (.iadd, 1) := by decide +kernel
theorem dX10_alike_98 : decode cX10_alike 98 = .ok (.istore 5, 2) := by decide +kernel
theorem dX10_alike_100 : decode cX10_alike 100 = .ok (.iinc 6 1, 3) := by decide +kernel
theorem dX10_alike_103 : decode cX10_alike 103 = .ok (.goto (-82), 3) := by decide +kernel
theorem dX10_alike_106 : decode cX10_alike 106 = .ok (.iload_n 2, 1) := by decide +kernel
theorem dX10_alike_107 : decode cX10_alike 107 = .ok (.iload 4, 2) := by decide +kernel
theorem dX10_alike_109 : decode cX10_alike 109 = .ok (.iload 5, 2) := by decide +kernel
theorem dX10_alike_111 : decode cX10_alike 111 = .ok (.if_icmp .ge 8, 3) := by decide +kernel
theorem dX10_alike_114 : decode cX10_alike 114 = .ok (.iload 4, 2) := by decide +kernel
theorem dX10_alike_116 : decode cX10_alike 116 = .ok (.goto 5, 3) := by decide +kernel
theorem dX10_alike_119 : decode cX10_alike 119 = .ok (.iload 5, 2) := by decide +kernel
theorem dX10_alike_121 : decode cX10_alike 121 = .ok (.iadd, 1) := by decide +kernel
theorem dX10_alike_122 : decode cX10_alike 122 = .ok (.istore_n 2, 1) := by decide +kernel
theorem dX10_alike_123 : decode cX10_alike 123 = .ok (.iinc 3 1, 3) := by decide +kernel
theorem dX10_alike_126 : decode cX10_alike 126 = .ok (.goto (-122), 3) := by decide +kernel
theorem dX10_alike_129 : decode cX10_alike 129 = .ok (.iload_n 2, 1) := by decide +kernel
theorem dX10_alike_130 : decode cX10_alike 130 = .ok (.ireturn, 1) := by decide +kernel
theorem dX10_depth_0 : decode cX10_depth 0 = .ok (.aload_n 0, 1) := by decide +kernel
theorem dX10_depth_1 : decode cX10_depth 1 = .ok (.iload_n 1, 1) := by decide +kernel
theorem dX10_depth_2 : decode cX10_depth 2 = .ok (.invokevirtual 252, 3) := by decide +kernel
theorem dX10_depth_5 : decode cX10_depth 5 = .ok (.istore_n 2, 1) := by decide +kernel
theorem dX10_depth_6 : decode cX10_depth 6 = .ok (.iload_n 1, 1) := by decide +kernel
theorem dX10_depth_7 : decode cX10_depth 7 = .ok (.istore_n 3, 1) := by decide +kernel
theorem dX10_depth_8 : decode cX10_depth 8 = .ok (.iload_n 3, 1) := by decide +kernel
theorem dX10_depth_9 : decode cX10_depth 9 = .ok (.iconst 1, 1) := by decide +kernel
theorem dX10_depth_10 : decode cX10_depth 10 = .ok (.if_icmp .le 24, 3) := by decide +kernel
theorem dX10_depth_13 : decode cX10_depth 13 = .ok (.aload_n 0, 1) := by decide +kernel
theorem dX10_depth_14 : decode cX10_depth 14 = .ok (.iload_n 3, 1) := by decide +kernel
theorem dX10_depth_15 : decode cX10_depth 15 = .ok (.iconst 1, 1) := by decide +kernel
theorem dX10_depth_16 : decode cX10_depth 16 = .ok (.isub, 1) := by decide +kernel
theorem dX10_depth_17 : decode cX10_depth 17 = .ok (.invokevirtual 252, 3) := by decide +kernel
theorem dX10_depth_20 : decode cX10_depth 20 = .ok (.aload_n 0, 1) := by decide +kernel
theorem dX10_depth_21 : decode cX10_depth 21 = .ok (.iload_n 3, 1) := by decide +kernel
theorem dX10_depth_22 : decode cX10_depth 22 = .ok (.invokevirtual 252, 3) := by decide +kernel
theorem dX10_depth_25 : decode cX10_depth 25 = .ok (.if_icmp .lt 9, 3) := by decide +kernel
theorem dX10_depth_28 : decode cX10_depth 28 = .ok (.iinc 3 (-1), 3) := by decide +kernel
theorem dX10_depth_31 : decode cX10_depth 31 = .ok (.goto (-23), 3) := by decide +kernel
theorem dX10_depth_34 : decode cX10_depth 34 = .ok (.iload_n 1, 1) := by decide +kernel
theorem dX10_depth_35 : decode cX10_depth 35 = .ok (.istore 4, 2) := by decide +kernel
theorem dX10_depth_37 : decode cX10_depth 37 = .ok (.iload 4, 2) := by decide +kernel
theorem dX10_depth_39 : decode cX10_depth 39 = .ok (.iconst 1, 1) := by decide +kernel
theorem dX10_depth_40 : decode cX10_depth 40 = .ok (.iadd, 1) := by decide +kernel
theorem dX10_depth_41 : decode cX10_depth 41 = .ok (.aload_n 0, 1) := by decide +kernel
theorem dX10_depth_42 : decode cX10_depth 42 = .ok (.getfield 109, 3) := by decide +kernel
theorem dX10_depth_45 : decode cX10_depth 45 = .ok (.if_icmp .ge 26, 3) := by decide +kernel
theorem dX10_depth_48 : decode cX10_depth 48 = .ok (.aload_n 0, 1) := by decide +kernel
theorem dX10_depth_49 : decode cX10_depth 49 = .ok (.iload 4, 2) := by decide +kernel
theorem dX10_depth_51 : decode cX10_depth 51 = .ok (.iconst 1, 1) := by decide +kernel
theorem dX10_depth_52 : decode cX10_depth 52 = .ok (.iadd, 1) := by decide +kernel
theorem dX10_depth_53 : decode cX10_depth 53 = .ok (.invokevirtual 252, 3) := by decide +kernel
theorem dX10_depth_56 : decode cX10_depth 56 = .ok (.aload_n 0, 1) := by decide +kernel
theorem dX10_depth_57 : decode cX10_depth 57 = .ok (.iload 4, 2) := by decide +kernel
theorem dX10_depth_59 : decode cX10_depth 59 = .ok (.invokevirtual 252, 3) := by decide +kernel
theorem dX10_depth_62 : decode cX10_depth 62 = .ok (.if_icmp .lt 9, 3) := by decide +kernel
theorem dX10_depth_65 : decode cX10_depth 65 = .ok (.iinc 4 1, 3) := by decide +kernel
theorem dX10_depth_68 : decode cX10_depth 68 = .ok (.goto (-31), 3) := by decide +kernel
theorem dX10_depth_71 : decode cX10_depth 71 = .ok (.aload_n 0, 1) := by decide +kernel
theorem dX10_depth_72 : decode cX10_depth 72 = .ok (.iload_n 3, 1) := by decide +kernel
theorem dX10_depth_73 : decode cX10_depth 73 = .ok (.invokevirtual 252, 3) := by decide +kernel
theorem dX10_depth_76 : decode cX10_depth 76 = .ok (.iload_n 2, 1) := by decide +kernel
theorem dX10_depth_77 : decode cX10_depth 77 = .ok (.isub, 1) := by decide +kernel
theorem dX10_depth_78 : decode cX10_depth 78 = .ok (.aload_n 0, 1) := by decide +kernel
theorem dX10_depth_79 : decode cX10_depth 79 = .ok (.iload 4, 2) := by decide +kernel
theorem dX10_depth_81 : decode cX10_depth 81 = .ok (.invokevirtual 252, 3) := by decide +kernel
theorem dX10_depth_84 : decode cX10_depth 84 = .ok (.iadd, 1) := by decide +kernel
theorem dX10_depth_85 : decode cX10_depth 85 = .ok (.iload_n 2, 1) := by decide +kernel
theorem dX10_depth_86 : decode cX10_depth 86 = .ok (.isub, 1) := by decide +kernel
theorem dX10_depth_87 : decode cX10_depth 87 = .ok (.ireturn, 1) := by decide +kernel
theorem dX10_gap_0 : decode cX10_gap 0 = .ok (.aload_n 0, 1) := by decide +kernel
theorem dX10_gap_1 : decode cX10_gap 1 = .ok (.iload_n 1, 1) := by decide +kernel
theorem dX10_gap_2 : decode cX10_gap 2 = .ok (.invokevirtual 204, 3) := by decide +kernel
theorem dX10_gap_5 : decode cX10_gap 5 = .ok (.ifCond .eq 30, 3) := by decide +kernel
theorem dX10_gap_8 : decode cX10_gap 8 = .ok (.iload_n 2, 1) := by decide +kernel
theorem dX10_gap_9 : decode cX10_gap 9 = .ok (.invokestatic 207, 3) := by decide +kernel
theorem dX10_gap_12 : decode cX10_gap 12 = .ok (.ifCond .eq 23, 3) := by decide +kernel
theorem dX10_gap_15 : decode cX10_gap 15 = .ok (.iload_n 2, 1) := by decide +kernel
theorem dX10_gap_16 : decode cX10_gap 16 = .ok (.ifCond .ne 11, 3) := by decide +kernel
theorem dX10_gap_19 : decode cX10_gap 19 = .ok (.aload_n 0, 1) := by decide +kernel
theorem dX10_gap_20 : decode cX10_gap 20 = .ok (.iload_n 1, 1) := by decide +kernel
theorem dX10_gap_21 : decode cX10_gap 21 = .ok (.invokevirtual 252, 3) := by decide +kernel
theorem dX10_gap_24 : decode cX10_gap 24 = .ok (.goto 13, 3) := by decide +kernel
theorem dX10_gap_27 : decode cX10_gap 27 = .ok (.aload_n 0, 1) := by decide +kernel
theorem dX10_gap_28 : decode cX10_gap 28 = .ok (.iload_n 1, 1) := by decide +kernel
theorem dX10_gap_29 : decode cX10_gap 29 = .ok (.invokevirtual 255, 3) := by decide +kernel
theorem dX10_gap_32 : decode cX10_gap 32 = .ok (.goto 5, 3) := by decide +kernel
theorem dX10_gap_35 : decode cX10_gap 35 = .ok (.bipush (-2), 2) := by decide +kernel
theorem dX10_gap_37 : decode cX10_gap 37 = .ok (.ireturn, 1) := by decide +kernel
theorem dX10_deepOf_0 : decode cX10_deepOf 0 = .ok (.aload_n 0, 1) := by decide +kernel
theorem dX10_deepOf_1 : decode cX10_deepOf 1 = .ok (.invokevirtual 147, 3) := by decide +kernel
theorem dX10_deepOf_4 : decode cX10_deepOf 4 = .ok (.iconst 0, 1) := by decide +kernel
theorem dX10_deepOf_5 : decode cX10_deepOf 5 = .ok (.istore_n 2, 1) := by decide +kernel
theorem dX10_deepOf_6 : decode cX10_deepOf 6 = .ok (.iconst (-1), 1) := by decide +kernel
theorem dX10_deepOf_7 : decode cX10_deepOf 7 = .ok (.istore_n 3, 1) := by decide +kernel
theorem dX10_deepOf_8 : decode cX10_deepOf 8 = .ok (.iconst 0, 1) := by decide +kernel
theorem dX10_deepOf_9 : decode cX10_deepOf 9 = .ok (.istore 4, 2) := by decide +kernel
theorem dX10_deepOf_11 : decode cX10_deepOf 11 = .ok (.iload 4, 2) := by decide +kernel
theorem dX10_deepOf_13 : decode cX10_deepOf 13 = .ok (.iload_n 1, 1) := by decide +kernel
theorem dX10_deepOf_14 : decode cX10_deepOf 14 = .ok (.if_icmp .gt 98, 3) := by decide +kernel
theorem dX10_deepOf_17 : decode cX10_deepOf 17 = .ok (.iconst (-1), 1) := by decide +kernel
theorem dX10_deepOf_18 : decode cX10_deepOf 18 = .ok (.istore_n 3, 1) := by decide +kernel
theorem dX10_deepOf_19 : decode cX10_deepOf 19 = .ok (.iconst (-1), 1) := by decide +kernel
theorem dX10_deepOf_20 : decode cX10_deepOf 20 = .ok (.istore 5, 2) := by decide +kernel
theorem dX10_deepOf_22 : decode cX10_deepOf 22 = .ok (.iconst 1, 1) := by decide +kernel
theorem dX10_deepOf_23 : decode cX10_deepOf 23 = .ok (.istore 6, 2) := by decide +kernel
theorem dX10_deepOf_25 : decode cX10_deepOf 25 = .ok (.iload 6, 2) := by decide +kernel
theorem dX10_deepOf_27 : decode cX10_deepOf 27 = .ok (.aload_n 0, 1) := by decide +kernel
theorem dX10_deepOf_28 : decode cX10_deepOf 28 = .ok (.getfield 109, 3) := by decide +kernel
theorem dX10_deepOf_31 : decode cX10_deepOf 31 = .ok (.if_icmp .ge 60, 3) := by decide +kernel
theorem dX10_deepOf_34 : decode cX10_deepOf 34 = .ok (.iload_n 2, 1) := by decide +kernel
theorem dX10_deepOf_35 : decode cX10_deepOf 35 = .ok (.iload 6, 2) := by decide +kernel
theorem dX10_deepOf_37 : decode cX10_deepOf 37 = .ok (.invokestatic 258, 3) := by decide +kernel
theorem dX10_deepOf_40 : decode cX10_deepOf 40 = .ok (.ifCond .eq 7, 3) := by decide +kernel
theorem dX10_deepOf_43 : decode cX10_deepOf 43 = .ok (.iconst (-1), 1) := by decide +kernel
theorem dX10_deepOf_44 : decode cX10_deepOf 44 = .ok (.goto 9, 3) := by decide +kernel
theorem dX10_deepOf_47 : decode cX10_deepOf 47 = .ok (.aload_n 0, 1) := by decide +kernel
theorem dX10_deepOf_48 : decode cX10_deepOf 48 = .ok (.iload 6, 2) := by decide +kernel
theorem dX10_deepOf_50 : decode cX10_deepOf 50 = .ok (.invokevirtual 255, 3) := by decide +kernel
theorem dX10_deepOf_53 : decode cX10_deepOf 53 = .ok (.istore 7, 2) := by decide +kernel
theorem dX10_deepOf_55 : decode cX10_deepOf 55 = .ok (.iload 7, 2) := by decide +kernel
theorem dX10_deepOf_57 : decode cX10_deepOf 57 = .ok (.iload 5, 2) := by decide +kernel
theorem dX10_deepOf_59 : decode cX10_deepOf 59 = .ok (.if_icmp .le 8, 3) := by decide +kernel
theorem dX10_deepOf_62 : decode cX10_deepOf 62 = .ok (.iload 6, 2) := by decide +kernel
theorem dX10_deepOf_64 : decode cX10_deepOf 64 = .ok (.goto 4, 3) := by decide +kernel
theorem dX10_deepOf_67 : decode cX10_deepOf 67 = .ok (.iload_n 3, 1) := by decide +kernel
theorem dX10_deepOf_68 : decode cX10_deepOf 68 = .ok (.istore_n 3, 1) := by decide +kernel
theorem dX10_deepOf_69 : decode cX10_deepOf 69 = .ok (.iload 7, 2) := by decide +kernel
theorem dX10_deepOf_71 : decode cX10_deepOf 71 = .ok (.iload 5, 2) := by decide +kernel
theorem dX10_deepOf_73 : decode cX10_deepOf 73 = .ok (.if_icmp .le 8, 3) := by decide +kernel
theorem dX10_deepOf_76 : decode cX10_deepOf 76 = .ok (.iload 7, 2) := by decide +kernel
theorem dX10_deepOf_78 : decode cX10_deepOf 78 = .ok (.goto 5, 3) := by decide +kernel
theorem dX10_deepOf_81 : decode cX10_deepOf 81 = .ok (.iload 5, 2) := by decide +kernel
theorem dX10_deepOf_83 : decode cX10_deepOf 83 = .ok (.istore 5, 2) := by decide +kernel
theorem dX10_deepOf_85 : decode cX10_deepOf 85 = .ok (.iinc 6 1, 3) := by decide +kernel
theorem dX10_deepOf_88 : decode cX10_deepOf 88 = .ok (.goto (-63), 3) := by decide +kernel
theorem dX10_deepOf_91 : decode cX10_deepOf 91 = .ok (.iload_n 2, 1) := by decide +kernel
theorem dX10_deepOf_92 : decode cX10_deepOf 92 = .ok (.iload_n 3, 1) := by decide +kernel
theorem dX10_deepOf_93 : decode cX10_deepOf 93 = .ok (.iconst (-1), 1) := by decide +kernel
theorem dX10_deepOf_94 : decode cX10_deepOf 94 = .ok (.if_icmp .ne 7, 3) := by decide +kernel
theorem dX10_deepOf_97 : decode cX10_deepOf 97 = .ok (.iconst 0, 1) := by decide +kernel
theorem dX10_deepOf_98 : decode cX10_deepOf 98 = .ok (.goto 6, 3) := by decide +kernel
theorem dX10_deepOf_101 : decode cX10_deepOf 101 = .ok (.iconst 1, 1) := by decide +kernel
theorem dX10_deepOf_102 : decode cX10_deepOf 102 = .ok (.iload_n 3, 1) := by decide +kernel
theorem dX10_deepOf_103 : decode cX10_deepOf 103 = .ok (.ishl, 1) := by decide +kernel
theorem dX10_deepOf_104 : decode cX10_deepOf 104 = .ok (.ior, 1) := by decide +kernel
theorem dX10_deepOf_105 : decode cX10_deepOf 105 = .ok (.istore_n 2, 1) := by decide +kernel
theorem dX10_deepOf_106 : decode cX10_deepOf 106 = .ok (.iinc 4 1, 3) := by decide +kernel
theorem dX10_deepOf_109 : decode cX10_deepOf 109 = .ok (.goto (-98), 3) := by decide +kernel
theorem dX10_deepOf_112 : decode cX10_deepOf 112 = .ok (.iload_n 3, 1) := by decide +kernel
theorem dX10_deepOf_113 : decode cX10_deepOf 113 = .ok (.ireturn, 1) := by decide +kernel
theorem dX10_deep_0 : decode cX10_deep 0 = .ok (.iload_n 1, 1) := by decide +kernel
theorem dX10_deep_1 : decode cX10_deep 1 = .ok (.iconst 0, 1) := by decide +kernel
theorem dX10_deep_2 : decode cX10_deep 2 = .ok (.bipush 10, 2) := by decide +kernel
theorem dX10_deep_4 : decode cX10_deep 4 = .ok (.invokestatic 77, 3) := by decide +kernel
theorem dX10_deep_7 : decode cX10_deep 7 = .ok (.ifCond .eq 11, 3) := by decide +kernel
theorem dX10_deep_10 : decode cX10_deep 10 = .ok (.aload_n 0, 1) := by decide +kernel
theorem dX10_deep_11 : decode cX10_deep 11 = .ok (.iload_n 1, 1) := by decide +kernel
theorem dX10_deep_12 : decode cX10_deep 12 = .ok (.invokevirtual 261, 3) := by decide +kernel
theorem dX10_deep_15 : decode cX10_deep 15 = .ok (.goto 5, 3) := by decide +kernel
theorem dX10_deep_18 : decode cX10_deep 18 = .ok (.bipush (-2), 2) := by decide +kernel
theorem dX10_deep_20 : decode cX10_deep 20 = .ok (.ireturn, 1) := by decide +kernel
theorem dX10_apartOf_0 : decode cX10_apartOf 0 = .ok (.aload_n 0, 1) := by decide +kernel
theorem dX10_apartOf_1 : decode cX10_apartOf 1 = .ok (.invokevirtual 228, 3) := by decide +kernel
theorem dX10_apartOf_4 : decode cX10_apartOf 4 = .ok (.aload_n 0, 1) := by decide +kernel
theorem dX10_apartOf_5 : decode cX10_apartOf 5 = .ok (.iload_n 1, 1) := by decide +kernel
theorem dX10_apartOf_6 : decode cX10_apartOf 6 = .ok (.invokevirtual 231, 3) := by decide +kernel
theorem dX10_apartOf_9 : decode cX10_apartOf 9 = .ok (.iconst (-1), 1) := by decide +kernel
theorem dX10_apartOf_10 : decode cX10_apartOf 10 = .ok (.if_icmp .ne 5, 3) := by decide +kernel
theorem dX10_apartOf_13 : decode cX10_apartOf 13 = .ok (.iconst (-1), 1) := by decide +kernel
theorem dX10_apartOf_14 : decode cX10_apartOf 14 = .ok (.ireturn, 1) := by decide +kernel
theorem dX10_apartOf_15 : decode cX10_apartOf 15 = .ok (.iconst 0, 1) := by decide +kernel
theorem dX10_apartOf_16 : decode cX10_apartOf 16 = .ok (.istore_n 3, 1) := by decide +kernel
theorem dX10_apartOf_17 : decode cX10_apartOf 17 = .ok (.iconst 1, 1) := by decide +kernel
theorem dX10_apartOf_18 : decode cX10_apartOf 18 = .ok (.istore 4, 2) := by decide +kernel
theorem dX10_apartOf_20 : decode cX10_apartOf 20 = .ok (.iload 4, 2) := by decide +kernel
theorem dX10_apartOf_22 : decode cX10_apartOf 22 = .ok (.iload_n 1, 1) := by decide +kernel
theorem dX10_apartOf_23 : decode cX10_apartOf 23 = .ok (.if_icmp .ge 21, 3) := by decide +kernel
theorem dX10_apartOf_26 : decode cX10_apartOf 26 = .ok (.iload_n 3, 1) := by decide +kernel
theorem dX10_apartOf_27 : decode cX10_apartOf 27 = .ok (.iconst 1, 1) := by decide +kernel
theorem dX10_apartOf_28 : decode cX10_apartOf 28 = .ok (.aload_n 0, 1) := by decide +kernel
theorem dX10_apartOf_29 : decode cX10_apartOf 29 = .ok (.iload_n 1, 1) := by decide +kernel
theorem dX10_apartOf_30 : decode cX10_apartOf 30 = .ok (.iload 4, 2) := by decide +kernel
theorem dX10_apartOf_32 : decode cX10_apartOf 32 = .ok (.invokevirtual 240, 3) := by decide +kernel
theorem dX10_apartOf_35 : decode cX10_apartOf 35 = .ok (.ishl, 1) := by decide +kernel
theorem dX10_apartOf_36 : decode cX10_apartOf 36 = .ok (.ior, 1) := by decide +kernel
theorem dX10_apartOf_37 : decode cX10_apartOf 37 = .ok (.istore_n 3, 1) := by decide +kernel
theorem dX10_apartOf_38 : decode cX10_apartOf 38 = .ok (.iinc 4 1, 3) := by decide +kernel
theorem dX10_apartOf_41 : decode cX10_apartOf 41 = .ok (.goto (-21), 3) := by decide +kernel
theorem dX10_apartOf_44 : decode cX10_apartOf 44 = .ok (.iconst 0, 1) := by decide +kernel
theorem dX10_apartOf_45 : decode cX10_apartOf 45 = .ok (.istore 4, 2) := by decide +kernel
theorem dX10_apartOf_47 : decode cX10_apartOf 47 = .ok (.iconst 0, 1) := by decide +kernel
theorem dX10_apartOf_48 : decode cX10_apartOf 48 = .ok (.istore 5, 2) := by decide +kernel
theorem dX10_apartOf_50 : decode cX10_apartOf 50 = .ok (.iload 5, 2) := by decide +kernel
theorem dX10_apartOf_52 : decode cX10_apartOf 52 = .ok (.iload_n 2, 1) := by decide +kernel
theorem dX10_apartOf_53 : decode cX10_apartOf 53 = .ok (.iadd, 1) := by decide +kernel
theorem dX10_apartOf_54 : decode cX10_apartOf 54 = .ok (.aload_n 0, 1) := by decide +kernel
theorem dX10_apartOf_55 : decode cX10_apartOf 55 = .ok (.getfield 109, 3) := by decide +kernel
theorem dX10_apartOf_58 : decode cX10_apartOf 58 = .ok (.if_icmp .ge 94, 3) := by decide +kernel
theorem dX10_apartOf_61 : decode cX10_apartOf 61 = .ok (.iconst 0, 1) := by decide +kernel
theorem dX10_apartOf_62 : decode cX10_apartOf 62 = .ok (.istore 6, 2) := by decide +kernel
theorem dX10_apartOf_64 : decode cX10_apartOf 64 = .ok (.iconst 0, 1) := by decide +kernel
theorem dX10_apartOf_65 : decode cX10_apartOf 65 = .ok (.istore 7, 2) := by decide +kernel
theorem dX10_apartOf_67 : decode cX10_apartOf 67 = .ok (.iload 5, 2) := by decide +kernel
theorem dX10_apartOf_69 : decode cX10_apartOf 69 = .ok (.iconst 1, 1) := by decide +kernel
theorem dX10_apartOf_70 : decode cX10_apartOf 70 = .ok (.iadd, 1) := by decide +kernel
theorem dX10_apartOf_71 : decode cX10_apartOf 71 = .ok (.istore 8, 2) := by decide +kernel
theorem dX10_apartOf_73 : decode cX10_apartOf 73 = .ok (.iload 8, 2) := by decide +kernel
theorem dX10_apartOf_75 : decode cX10_apartOf 75 = .ok (.iload 5, 2) := by decide +kernel
theorem dX10_apartOf_77 : decode cX10_apartOf 77 = .ok (.iload_n 2, 1) := by decide +kernel
theorem dX10_apartOf_78 : decode cX10_apartOf 78 = .ok (.iadd, 1) := by decide +kernel
theorem dX10_apartOf_79 : decode cX10_apartOf 79 = .ok (.if_icmp .gt 50, 3) := by decide +kernel
theorem dX10_apartOf_82 : decode cX10_apartOf 82 = .ok (.iload 6, 2) := by decide +kernel
theorem dX10_apartOf_84 : decode cX10_apartOf 84 = .ok (.iload_n 3, 1) := by decide +kernel
theorem dX10_apartOf_85 : decode cX10_apartOf 85 = .ok (.iload 8, 2) := by decide +kernel
theorem dX10_apartOf_87 : decode cX10_apartOf 87 = .ok (.invokestatic 258, 3) := by decide +kernel
theorem dX10_apartOf_90 : decode cX10_apartOf 90 = .ok (.ifCond .eq 7, 3) := by decide +kernel
theorem dX10_apartOf_93 : decode cX10_apartOf 93 = .ok (.iconst 1, 1) := by decide +kernel
theorem dX10_apartOf_94 : decode cX10_apartOf 94 = .ok (.goto 4, 3) := by decide +kernel
theorem dX10_apartOf_97 : decode cX10_apartOf 97 = .ok (.iconst 0, 1) := by decide +kernel
theorem dX10_apartOf_98 : decode cX10_apartOf 98 = .ok (.iadd, 1) := by decide +kernel
theorem dX10_apartOf_99 : decode cX10_apartOf 99 = .ok (.istore 6, 2) := by decide +kernel
theorem dX10_apartOf_101 : decode cX10_apartOf 101 = .ok (.iload 7, 2) := by decide +kernel
theorem dX10_apartOf_103 : decode cX10_apartOf 103 = .ok (.aload_n 0, 1) := by decide +kernel
theorem dX10_apartOf_104 : decode cX10_apartOf 104 = .ok (.getfield 89, 3) := by decide +kernel
theorem dX10_apartOf_107 : decode cX10_apartOf 107 = .ok (.iload 8, 2) := by decide +kernel
theorem dX10_apartOf_109 : decode cX10_apartOf 109 = .ok (.invokestatic 258, 3) := by decide +kernel
theorem dX10_apartOf_112 : decode cX10_apartOf 112 = .ok (.ifCond .eq 7, 3) := by decide +kernel
theorem dX10_apartOf_115 : decode cX10_apartOf 115 = .ok (.iconst 1, 1) := by decide +kernel
theorem dX10_apartOf_116 : decode cX10_apartOf 116 = .ok (.goto 4, 3) := by decide +kernel
theorem dX10_apartOf_119 : decode cX10_apartOf 119 = .ok (.iconst 0, 1) := by decide +kernel
theorem dX10_apartOf_120 : decode cX10_apartOf 120 = .ok (.iadd, 1) := by decide +kernel
theorem dX10_apartOf_121 : decode cX10_apartOf 121 = .ok (.istore 7, 2) := by decide +kernel
theorem dX10_apartOf_123 : decode cX10_apartOf 123 = .ok (.iinc 8 1, 3) := by decide +kernel
theorem dX10_apartOf_126 : decode cX10_apartOf 126 = .ok (.goto (-53), 3) := by decide +kernel
theorem dX10_apartOf_129 : decode cX10_apartOf 129 = .ok (.iload 4, 2) := by decide +kernel
theorem dX10_apartOf_131 : decode cX10_apartOf 131 = .ok (.iload 6, 2) := by decide +kernel
theorem dX10_apartOf_133 : decode cX10_apartOf 133 = .ok (.iload 7, 2) := by decide +kernel
theorem dX10_apartOf_135 : decode cX10_apartOf 135 = .ok (.if_icmp .eq 7, 3) := by decide +kernel
theorem dX10_apartOf_138 : decode cX10_apartOf 138 = .ok (.iconst 1, 1) := by decide +kernel
theorem dX10_apartOf_139 : decode cX10_apartOf 139 = .ok (.goto 4, 3) := by decide +kernel
theorem dX10_apartOf_142 : decode cX10_apartOf 142 = .ok (.iconst 0, 1) := by decide +kernel
theorem dX10_apartOf_143 : decode cX10_apartOf 143 = .ok (.iadd, 1) := by decide +kernel
theorem dX10_apartOf_144 : decode cX10_apartOf 144 = .ok (.istore 4, 2) := by decide +kernel
theorem dX10_apartOf_146 : decode cX10_apartOf 146 = .ok (.iinc 5 1, 3) := by decide +kernel
theorem dX10_apartOf_149 : decode cX10_apartOf 149 = .ok (.goto (-99), 3) := by decide +kernel
theorem dX10_apartOf_152 : decode cX10_apartOf 152 = .ok (.iload 4, 2) := by decide +kernel
theorem dX10_apartOf_154 : decode cX10_apartOf 154 = .ok (.ireturn, 1) := by decide +kernel
theorem dX10_apart_0 : decode cX10_apart 0 = .ok (.iload_n 1, 1) := by decide +kernel
theorem dX10_apart_1 : decode cX10_apart 1 = .ok (.invokestatic 234, 3) := by decide +kernel
theorem dX10_apart_4 : decode cX10_apart 4 = .ok (.ifCond .eq 22, 3) := by decide +kernel
theorem dX10_apart_7 : decode cX10_apart 7 = .ok (.iload_n 2, 1) := by decide +kernel
theorem dX10_apart_8 : decode cX10_apart 8 = .ok (.iconst 1, 1) := by decide +kernel
theorem dX10_apart_9 : decode cX10_apart 9 = .ok (.bipush 11, 2) := by decide +kernel
theorem dX10_apart_11 : decode cX10_apart 11 = .ok (.invokestatic 77, 3) := by decide +kernel
theorem dX10_apart_14 : decode cX10_apart 14 = .ok (.ifCond .eq 12, 3) := by decide +kernel
theorem dX10_apart_17 : decode cX10_apart 17 = .ok (.aload_n 0, 1) := by decide +kernel
theorem dX10_apart_18 : decode cX10_apart 18 = .ok (.iload_n 1, 1) := by decide +kernel
theorem dX10_apart_19 : decode cX10_apart 19 = .ok (.iload_n 2, 1) := by decide +kernel
theorem dX10_apart_20 : decode cX10_apart 20 = .ok (.invokevirtual 264, 3) := by decide +kernel
theorem dX10_apart_23 : decode cX10_apart 23 = .ok (.goto 5, 3) := by decide +kernel
theorem dX10_apart_26 : decode cX10_apart 26 = .ok (.bipush (-2), 2) := by decide +kernel
theorem dX10_apart_28 : decode cX10_apart 28 = .ok (.ireturn, 1) := by decide +kernel
theorem dX10_meets_0 : decode cX10_meets 0 = .ok (.aload_n 0, 1) := by decide +kernel
theorem dX10_meets_1 : decode cX10_meets 1 = .ok (.iload_n 1, 1) := by decide +kernel
theorem dX10_meets_2 : decode cX10_meets 2 = .ok (.putfield 267, 3) := by decide +kernel
theorem dX10_meets_5 : decode cX10_meets 5 = .ok (.bipush (-10), 2) := by decide +kernel
theorem dX10_meets_7 : decode cX10_meets 7 = .ok (.iload_n 1, 1) := by decide +kernel
theorem dX10_meets_8 : decode cX10_meets 8 = .ok (.isub, 1) := by decide +kernel
theorem dX10_meets_9 : decode cX10_meets 9 = .ok (.ireturn, 1) := by decide +kernel
theorem dX10_isSheet_0 : decode cX10_isSheet 0 = .ok (.iload_n 0, 1) := by decide +kernel
theorem dX10_isSheet_1 : decode cX10_isSheet 1 = .ok (.iconst 0, 1) := by decide +kernel
theorem dX10_isSheet_2 : decode cX10_isSheet 2 = .ok (.iconst 3, 1) := by decide +kernel
theorem dX10_isSheet_3 : decode cX10_isSheet 3 = .ok (.invokestatic 77, 3) := by decide +kernel
theorem dX10_isSheet_6 : decode cX10_isSheet 6 = .ok (.ireturn, 1) := by decide +kernel
theorem dX10_sheet_0 : decode cX10_sheet 0 = .ok (.iload_n 1, 1) := by decide +kernel
theorem dX10_sheet_1 : decode cX10_sheet 1 = .ok (.invokestatic 92, 3) := by decide +kernel
theorem dX10_sheet_4 : decode cX10_sheet 4 = .ok (.ifCond .eq 18, 3) := by decide +kernel
theorem dX10_sheet_7 : decode cX10_sheet 7 = .ok (.iload_n 2, 1) := by decide +kernel
theorem dX10_sheet_8 : decode cX10_sheet 8 = .ok (.iconst 0, 1) := by decide +kernel
theorem dX10_sheet_9 : decode cX10_sheet 9 = .ok (.iconst 2, 1) := by decide +kernel
theorem dX10_sheet_10 : decode cX10_sheet 10 = .ok (.invokestatic 77, 3) := by decide +kernel
theorem dX10_sheet_13 : decode cX10_sheet 13 = .ok (.ifCond .eq 9, 3) := by decide +kernel
theorem dX10_sheet_16 : decode cX10_sheet 16 = .ok (.iload_n 3, 1) := by decide +kernel
theorem dX10_sheet_17 : decode cX10_sheet 17 = .ok (.bipush 60, 2) := by decide +kernel
theorem dX10_sheet_19 : decode cX10_sheet 19 = .ok (.if_icmp .le 6, 3) := by decide +kernel
theorem dX10_sheet_22 : decode cX10_sheet 22 = .ok (.bipush (-2), 2) := by decide +kernel
theorem dX10_sheet_24 : decode cX10_sheet 24 = .ok (.ireturn, 1) := by decide +kernel
theorem dX10_sheet_25 : decode cX10_sheet 25 = .ok (.iload_n 3, 1) := by decide +kernel
theorem dX10_sheet_26 : decode cX10_sheet 26 = .ok (.ifCond .ge 9, 3) := by decide +kernel
theorem dX10_sheet_29 : decode cX10_sheet 29 = .ok (.aload_n 0, 1) := by decide +kernel
theorem dX10_sheet_30 : decode cX10_sheet 30 = .ok (.iconst 5, 1) := by decide +kernel
theorem dX10_sheet_31 : decode cX10_sheet 31 = .ok (.invokevirtual 96, 3) := by decide +kernel
theorem dX10_sheet_34 : decode cX10_sheet 34 = .ok (.ireturn, 1) := by decide +kernel
theorem dX10_sheet_35 : decode cX10_sheet 35 = .ok (.aload_n 0, 1) := by decide +kernel
theorem dX10_sheet_36 : decode cX10_sheet 36 = .ok (.getfield 61, 3) := by decide +kernel
theorem dX10_sheet_39 : decode cX10_sheet 39 = .ok (.iload_n 1, 1) := by decide +kernel
theorem dX10_sheet_40 : decode cX10_sheet 40 = .ok (.iconst 1, 1) := by decide +kernel
theorem dX10_sheet_41 : decode cX10_sheet 41 = .ok (.bastore, 1) := by decide +kernel
theorem dX10_sheet_42 : decode cX10_sheet 42 = .ok (.aload_n 0, 1) := by decide +kernel
theorem dX10_sheet_43 : decode cX10_sheet 43 = .ok (.getfield 65, 3) := by decide +kernel
theorem dX10_sheet_46 : decode cX10_sheet 46 = .ok (.iload_n 1, 1) := by decide +kernel
theorem dX10_sheet_47 : decode cX10_sheet 47 = .ok (.iload_n 2, 1) := by decide +kernel
theorem dX10_sheet_48 : decode cX10_sheet 48 = .ok (.iastore, 1) := by decide +kernel
theorem dX10_sheet_49 : decode cX10_sheet 49 = .ok (.aload_n 0, 1) := by decide +kernel
theorem dX10_sheet_50 : decode cX10_sheet 50 = .ok (.getfield 68, 3) := by decide +kernel
theorem dX10_sheet_53 : decode cX10_sheet 53 = .ok (.iload_n 1, 1) := by decide +kernel
theorem dX10_sheet_54 : decode cX10_sheet 54 = .ok (.iload_n 3, 1) := by decide +kernel
theorem dX10_sheet_55 : decode cX10_sheet 55 = .ok (.iastore, 1) := by decide +kernel
theorem dX10_sheet_56 : decode cX10_sheet 56 = .ok (.iconst 0, 1) := by decide +kernel
theorem dX10_sheet_57 : decode cX10_sheet 57 = .ok (.istore 4, 2) := by decide +kernel
theorem dX10_sheet_59 : decode cX10_sheet 59 = .ok (.iload 4, 2) := by decide +kernel
theorem dX10_sheet_61 : decode cX10_sheet 61 = .ok (.bipush 60, 2) := by decide +kernel
theorem dX10_sheet_63 : decode cX10_sheet 63 = .ok (.if_icmp .ge 22, 3) := by decide +kernel
theorem dX10_sheet_66 : decode cX10_sheet 66 = .ok (.aload_n 0, 1) := by decide +kernel
theorem dX10_sheet_67 : decode cX10_sheet 67 = .ok (.getfield 71, 3) := by decide +kernel
theorem dX10_sheet_70 : decode cX10_sheet 70 = .ok (.bipush 60, 2) := by decide +kernel
theorem dX10_sheet_72 : decode cX10_sheet 72 = .ok (.iload_n 1, 1) := by decide +kernel
theorem dX10_sheet_73 : decode cX10_sheet 73 = .ok (.imul, 1) := by decide +kernel
theorem dX10_sheet_74 : decode cX10_sheet 74 = .ok (.iload 4, 2) := by decide +kernel
theorem dX10_sheet_76 : decode cX10_sheet 76 = .ok (.iadd, 1) := by decide +kernel
theorem dX10_sheet_77 : decode cX10_sheet 77 = .ok (.iconst 0, 1) := by decide +kernel
theorem dX10_sheet_78 : decode cX10_sheet 78 = .ok (.iastore, 1) := by decide +kernel
theorem dX10_sheet_79 : decode cX10_sheet 79 = .ok (.iinc 4 1, 3) := by decide +kernel
theorem dX10_sheet_82 : decode cX10_sheet 82 = .ok (.goto (-23), 3) := by decide +kernel
theorem dX10_sheet_85 : decode cX10_sheet 85 = .ok (.iload_n 3, 1) := by decide +kernel
theorem dX10_sheet_86 : decode cX10_sheet 86 = .ok (.ireturn, 1) := by decide +kernel
theorem dX10_lose_0 : decode cX10_lose 0 = .ok (.iload_n 1, 1) := by decide +kernel
theorem dX10_lose_1 : decode cX10_lose 1 = .ok (.invokestatic 92, 3) := by decide +kernel
theorem dX10_lose_4 : decode cX10_lose 4 = .ok (.ifCond .ne 6, 3) := by decide +kernel
theorem dX10_lose_7 : decode cX10_lose 7 = .ok (.bipush (-2), 2) := by decide +kernel
theorem dX10_lose_9 : decode cX10_lose 9 = .ok (.ireturn, 1) := by decide +kernel
theorem dX10_lose_10 : decode cX10_lose 10 = .ok (.aload_n 0, 1) := by decide +kernel
theorem dX10_lose_11 : decode cX10_lose 11 = .ok (.getfield 61, 3) := by decide +kernel
theorem dX10_lose_14 : decode cX10_lose 14 = .ok (.iload_n 1, 1) := by decide +kernel
theorem dX10_lose_15 : decode cX10_lose 15 = .ok (.baload, 1) := by decide +kernel
theorem dX10_lose_16 : decode cX10_lose 16 = .ok (.ifCond .ne 9, 3) := by decide +kernel
theorem dX10_lose_19 : decode cX10_lose 19 = .ok (.aload_n 0, 1) := by decide +kernel
theorem dX10_lose_20 : decode cX10_lose 20 = .ok (.iconst 1, 1) := by decide +kernel
theorem dX10_lose_21 : decode cX10_lose 21 = .ok (.invokevirtual 96, 3) := by decide +kernel
theorem dX10_lose_24 : decode cX10_lose 24 = .ok (.ireturn, 1) := by decide +kernel
theorem dX10_lose_25 : decode cX10_lose 25 = .ok (.aload_n 0, 1) := by decide +kernel
theorem dX10_lose_26 : decode cX10_lose 26 = .ok (.getfield 61, 3) := by decide +kernel
theorem dX10_lose_29 : decode cX10_lose 29 = .ok (.iload_n 1, 1) := by decide +kernel
theorem dX10_lose_30 : decode cX10_lose 30 = .ok (.iconst 0, 1) := by decide +kernel
theorem dX10_lose_31 : decode cX10_lose 31 = .ok (.bastore, 1) := by decide +kernel
theorem dX10_lose_32 : decode cX10_lose 32 = .ok (.aload_n 0, 1) := by decide +kernel
theorem dX10_lose_33 : decode cX10_lose 33 = .ok (.getfield 68, 3) := by decide +kernel
theorem dX10_lose_36 : decode cX10_lose 36 = .ok (.iload_n 1, 1) := by decide +kernel
theorem dX10_lose_37 : decode cX10_lose 37 = .ok (.iaload, 1) := by decide +kernel
theorem dX10_lose_38 : decode cX10_lose 38 = .ok (.ireturn, 1) := by decide +kernel
theorem dX10_lacks_0 : decode cX10_lacks 0 = .ok (.aload_n 0, 1) := by decide +kernel
theorem dX10_lacks_1 : decode cX10_lacks 1 = .ok (.getfield 61, 3) := by decide +kernel
theorem dX10_lacks_4 : decode cX10_lacks 4 = .ok (.iload_n 1, 1) := by decide +kernel
theorem dX10_lacks_5 : decode cX10_lacks 5 = .ok (.baload, 1) := by decide +kernel
theorem dX10_lacks_6 : decode cX10_lacks 6 = .ok (.ifCond .ne 7, 3) := by decide +kernel
theorem dX10_lacks_9 : decode cX10_lacks 9 = .ok (.iconst 1, 1) := by decide +kernel
theorem dX10_lacks_10 : decode cX10_lacks 10 = .ok (.goto 38, 3) := by decide +kernel
theorem dX10_lacks_13 : decode cX10_lacks 13 = .ok (.aload_n 0, 1) := by decide +kernel
theorem dX10_lacks_14 : decode cX10_lacks 14 = .ok (.getfield 65, 3) := by decide +kernel
theorem dX10_lacks_17 : decode cX10_lacks 17 = .ok (.iload_n 1, 1) := by decide +kernel
theorem dX10_lacks_18 : decode cX10_lacks 18 = .ok (.iaload, 1) := by decide +kernel
theorem dX10_lacks_19 : decode cX10_lacks 19 = .ok (.iload_n 2, 1) := by decide +kernel
theorem dX10_lacks_20 : decode cX10_lacks 20 = .ok (.if_icmp .eq 7, 3) := by decide +kernel
theorem dX10_lacks_23 : decode cX10_lacks 23 = .ok (.iconst 3, 1) := by decide +kernel
theorem dX10_lacks_24 : decode cX10_lacks 24 = .ok (.goto 24, 3) := by decide +kernel
theorem dX10_lacks_27 : decode cX10_lacks 27 = .ok (.iload_n 3, 1) := by decide +kernel
theorem dX10_lacks_28 : decode cX10_lacks 28 = .ok (.iconst 0, 1) := by decide +kernel
theorem dX10_lacks_29 : decode cX10_lacks 29 = .ok (.aload_n 0, 1) := by decide +kernel
theorem dX10_lacks_30 : decode cX10_lacks 30 = .ok (.getfield 68, 3) := by decide +kernel
theorem dX10_lacks_33 : decode cX10_lacks 33 = .ok (.iload_n 1, 1) := by decide +kernel
theorem dX10_lacks_34 : decode cX10_lacks 34 = .ok (.iaload, 1) := by decide +kernel
theorem dX10_lacks_35 : decode cX10_lacks 35 = .ok (.iconst 1, 1) := by decide +kernel
theorem dX10_lacks_36 : decode cX10_lacks 36 = .ok (.isub, 1) := by decide +kernel
theorem dX10_lacks_37 : decode cX10_lacks 37 = .ok (.invokestatic 77, 3) := by decide +kernel
theorem dX10_lacks_40 : decode cX10_lacks 40 = .ok (.ifCond .eq 7, 3) := by decide +kernel
theorem dX10_lacks_43 : decode cX10_lacks 43 = .ok (.iconst 0, 1) := by decide +kernel
theorem dX10_lacks_44 : decode cX10_lacks 44 = .ok (.goto 4, 3) := by decide +kernel
theorem dX10_lacks_47 : decode cX10_lacks 47 = .ok (.iconst 2, 1) := by decide +kernel
theorem dX10_lacks_48 : decode cX10_lacks 48 = .ok (.ireturn, 1) := by decide +kernel
theorem dX10_keep_0 : decode cX10_keep 0 = .ok (.aload_n 0, 1) := by decide +kernel
theorem dX10_keep_1 : decode cX10_keep 1 = .ok (.getfield 71, 3) := by decide +kernel
theorem dX10_keep_4 : decode cX10_keep 4 = .ok (.bipush 60, 2) := by decide +kernel
theorem dX10_keep_6 : decode cX10_keep 6 = .ok (.iload_n 1, 1) := by decide +kernel
theorem dX10_keep_7 : decode cX10_keep 7 = .ok (.imul, 1) := by decide +kernel
theorem dX10_keep_8 : decode cX10_keep 8 = .ok (.iload_n 2, 1) := by decide +kernel
theorem dX10_keep_9 : decode cX10_keep 9 = .ok (.iadd, 1) := by decide +kernel
theorem dX10_keep_10 : decode cX10_keep 10 = .ok (.aload_n 0, 1) := by decide +kernel
theorem dX10_keep_11 : decode cX10_keep 11 = .ok (.getfield 65, 3) := by decide +kernel
theorem dX10_keep_14 : decode cX10_keep 14 = .ok (.iload_n 1, 1) := by decide +kernel
theorem dX10_keep_15 : decode cX10_keep 15 = .ok (.iaload, 1) := by decide +kernel
theorem dX10_keep_16 : decode cX10_keep 16 = .ok (.ifCond .ne 8, 3) := by decide +kernel
theorem dX10_keep_19 : decode cX10_keep 19 = .ok (.iload_n 3, 1) := by decide +kernel
theorem dX10_keep_20 : decode cX10_keep 20 = .ok (.i2b, 1) := by decide +kernel
theorem dX10_keep_21 : decode cX10_keep 21 = .ok (.goto 19, 3) := by decide +kernel
theorem dX10_keep_24 : decode cX10_keep 24 = .ok (.aload_n 0, 1) := by decide +kernel
theorem dX10_keep_25 : decode cX10_keep 25 = .ok (.getfield 65, 3) := by decide +kernel
theorem dX10_keep_28 : decode cX10_keep 28 = .ok (.iload_n 1, 1) := by decide +kernel
theorem dX10_keep_29 : decode cX10_keep 29 = .ok (.iaload, 1) := by decide +kernel
theorem dX10_keep_30 : decode cX10_keep 30 = .ok (.iconst 1, 1) := by decide +kernel
theorem dX10_keep_31 : decode cX10_keep 31 = .ok (.if_icmp .ne 8, 3) := by decide +kernel
theorem dX10_keep_34 : decode cX10_keep 34 = .ok (.iload_n 3, 1) := by decide +kernel
theorem dX10_keep_35 : decode cX10_keep 35 = .ok (.i2s, 1) := by decide +kernel
theorem dX10_keep_36 : decode cX10_keep 36 = .ok (.goto 4, 3) := by decide +kernel
theorem dX10_keep_39 : decode cX10_keep 39 = .ok (.iload_n 3, 1) := by decide +kernel
theorem dX10_keep_40 : decode cX10_keep 40 = .ok (.iastore, 1) := by decide +kernel
theorem dX10_keep_41 : decode cX10_keep 41 = .ok (.return_, 1) := by decide +kernel
theorem dX10_put_0 : decode cX10_put 0 = .ok (.iload_n 1, 1) := by decide +kernel
theorem dX10_put_1 : decode cX10_put 1 = .ok (.invokestatic 92, 3) := by decide +kernel
theorem dX10_put_4 : decode cX10_put 4 = .ok (.ifCond .eq 12, 3) := by decide +kernel
theorem dX10_put_7 : decode cX10_put 7 = .ok (.iload_n 2, 1) := by decide +kernel
theorem dX10_put_8 : decode cX10_put 8 = .ok (.iconst 0, 1) := by decide +kernel
theorem dX10_put_9 : decode cX10_put 9 = .ok (.iconst 2, 1) := by decide +kernel
theorem dX10_put_10 : decode cX10_put 10 = .ok (.invokestatic 77, 3) := by decide +kernel
theorem dX10_put_13 : decode cX10_put 13 = .ok (.ifCond .ne 6, 3) := by decide +kernel
theorem dX10_put_16 : decode cX10_put 16 = .ok (.bipush (-2), 2) := by decide +kernel
theorem dX10_put_18 : decode cX10_put 18 = .ok (.ireturn, 1) := by decide +kernel
theorem dX10_put_19 : decode cX10_put 19 = .ok (.aload_n 0, 1) := by decide +kernel
theorem dX10_put_20 : decode cX10_put 20 = .ok (.iload_n 1, 1) := by decide +kernel
theorem dX10_put_21 : decode cX10_put 21 = .ok (.iload_n 2, 1) := by decide +kernel
theorem dX10_put_22 : decode cX10_put 22 = .ok (.iload_n 3, 1) := by decide +kernel
theorem dX10_put_23 : decode cX10_put 23 = .ok (.invokevirtual 270, 3) := by decide +kernel
theorem dX10_put_26 : decode cX10_put 26 = .ok (.istore 5, 2) := by decide +kernel
theorem dX10_put_28 : decode cX10_put 28 = .ok (.iload 5, 2) := by decide +kernel
theorem dX10_put_30 : decode cX10_put 30 = .ok (.ifCond .le 10, 3) := by decide +kernel
theorem dX10_put_33 : decode cX10_put 33 = .ok (.aload_n 0, 1) := by decide +kernel
theorem dX10_put_34 : decode cX10_put 34 = .ok (.iload 5, 2) := by decide +kernel
theorem dX10_put_36 : decode cX10_put 36 = .ok (.invokevirtual 96, 3) := by decide +kernel
theorem dX10_put_39 : decode cX10_put 39 = .ok (.ireturn, 1) := by decide +kernel
theorem dX10_put_40 : decode cX10_put 40 = .ok (.aload_n 0, 1) := by decide +kernel
theorem dX10_put_41 : decode cX10_put 41 = .ok (.iload_n 1, 1) := by decide +kernel
theorem dX10_put_42 : decode cX10_put 42 = .ok (.iload_n 3, 1) := by decide +kernel
theorem dX10_put_43 : decode cX10_put 43 = .ok (.iload 4, 2) := by decide +kernel
theorem dX10_put_45 : decode cX10_put 45 = .ok (.invokevirtual 274, 3) := by decide +kernel
theorem dX10_put_48 : decode cX10_put 48 = .ok (.iconst 1, 1) := by decide +kernel
theorem dX10_put_49 : decode cX10_put 49 = .ok (.ireturn, 1) := by decide +kernel
theorem dX10_get_0 : decode cX10_get 0 = .ok (.iload_n 1, 1) := by decide +kernel
theorem dX10_get_1 : decode cX10_get 1 = .ok (.invokestatic 92, 3) := by decide +kernel
theorem dX10_get_4 : decode cX10_get 4 = .ok (.ifCond .eq 12, 3) := by decide +kernel
theorem dX10_get_7 : decode cX10_get 7 = .ok (.iload_n 2, 1) := by decide +kernel
theorem dX10_get_8 : decode cX10_get 8 = .ok (.iconst 0, 1) := by decide +kernel
theorem dX10_get_9 : decode cX10_get 9 = .ok (.iconst 2, 1) := by decide +kernel
theorem dX10_get_10 : decode cX10_get 10 = .ok (.invokestatic 77, 3) := by decide +kernel
theorem dX10_get_13 : decode cX10_get 13 = .ok (.ifCond .ne 7, 3) := by decide +kernel
theorem dX10_get_16 : decode cX10_get 16 = .ok (.ldc_w 278, 3) := by decide +kernel
theorem dX10_get_19 : decode cX10_get 19 = .ok (.ireturn, 1) := by decide +kernel
theorem dX10_get_20 : decode cX10_get 20 = .ok (.aload_n 0, 1) := by decide +kernel
theorem dX10_get_21 : decode cX10_get 21 = .ok (.iload_n 1, 1) := by decide +kernel
theorem dX10_get_22 : decode cX10_get 22 = .ok (.iload_n 2, 1) := by decide +kernel
theorem dX10_get_23 : decode cX10_get 23 = .ok (.iload_n 3, 1) := by decide +kernel
theorem dX10_get_24 : decode cX10_get 24 = .ok (.invokevirtual 270, 3) := by decide +kernel
theorem dX10_get_27 : decode cX10_get 27 = .ok (.istore 4, 2) := by decide +kernel
theorem dX10_get_29 : decode cX10_get 29 = .ok (.iload 4, 2) := by decide +kernel
theorem dX10_get_31 : decode cX10_get 31 = .ok (.ifCond .le 13, 3) := by decide +kernel
theorem dX10_get_34 : decode cX10_get 34 = .ok (.aload_n 0, 1) := by decide +kernel
theorem dX10_get_35 : decode cX10_get 35 = .ok (.iload 4, 2) := by decide +kernel
theorem dX10_get_37 : decode cX10_get 37 = .ok (.putfield 267, 3) := by decide +kernel
theorem dX10_get_40 : decode cX10_get 40 = .ok (.ldc_w 278, 3) := by decide +kernel
theorem dX10_get_43 : decode cX10_get 43 = .ok (.ireturn, 1) := by decide +kernel
theorem dX10_get_44 : decode cX10_get 44 = .ok (.aload_n 0, 1) := by decide +kernel
theorem dX10_get_45 : decode cX10_get 45 = .ok (.getfield 71, 3) := by decide +kernel
theorem dX10_get_48 : decode cX10_get 48 = .ok (.bipush 60, 2) := by decide +kernel
theorem dX10_get_50 : decode cX10_get 50 = .ok (.iload_n 1, 1) := by decide +kernel
theorem dX10_get_51 : decode cX10_get 51 = .ok (.imul, 1) := by decide +kernel
theorem dX10_get_52 : decode cX10_get 52 = .ok (.iload_n 3, 1) := by decide +kernel
theorem dX10_get_53 : decode cX10_get 53 = .ok (.iadd, 1) := by decide +kernel
theorem dX10_get_54 : decode cX10_get 54 = .ok (.iaload, 1) := by decide +kernel
theorem dX10_get_55 : decode cX10_get 55 = .ok (.ireturn, 1) := by decide +kernel
theorem dX10_copy_0 : decode cX10_copy 0 = .ok (.iload_n 1, 1) := by decide +kernel
theorem dX10_copy_1 : decode cX10_copy 1 = .ok (.invokestatic 92, 3) := by decide +kernel
theorem dX10_copy_4 : decode cX10_copy 4 = .ok (.ifCond .eq 10, 3) := by decide +kernel
theorem dX10_copy_7 : decode cX10_copy 7 = .ok (.iload_n 3, 1) := by decide +kernel
theorem dX10_copy_8 : decode cX10_copy 8 = .ok (.invokestatic 92, 3) := by decide +kernel
theorem dX10_copy_11 : decode cX10_copy 11 = .ok (.ifCond .ne 6, 3) := by decide +kernel
theorem dX10_copy_14 : decode cX10_copy 14 = .ok (.bipush (-2), 2) := by decide +kernel
theorem dX10_copy_16 : decode cX10_copy 16 = .ok (.ireturn, 1) := by decide +kernel
theorem dX10_copy_17 : decode cX10_copy 17 = .ok (.aload_n 0, 1) := by decide +kernel
theorem dX10_copy_18 : decode cX10_copy 18 = .ok (.getfield 61, 3) := by decide +kernel
theorem dX10_copy_21 : decode cX10_copy 21 = .ok (.iload_n 1, 1) := by decide +kernel
theorem dX10_copy_22 : decode cX10_copy 22 = .ok (.baload, 1) := by decide +kernel
theorem dX10_copy_23 : decode cX10_copy 23 = .ok (.ifCond .eq 12, 3) := by decide +kernel
theorem dX10_copy_26 : decode cX10_copy 26 = .ok (.aload_n 0, 1) := by decide +kernel
theorem dX10_copy_27 : decode cX10_copy 27 = .ok (.getfield 61, 3) := by decide +kernel
theorem dX10_copy_30 : decode cX10_copy 30 = .ok (.iload_n 3, 1) := by decide +kernel
theorem dX10_copy_31 : decode cX10_copy 31 = .ok (.baload, 1) := by decide +kernel
theorem dX10_copy_32 : decode cX10_copy 32 = .ok (.ifCond .ne 9, 3) := by decide +kernel
theorem dX10_copy_35 : decode cX10_copy 35 = .ok (.aload_n 0, 1) := by decide +kernel
theorem dX10_copy_36 : decode cX10_copy 36 = .ok (.iconst 1, 1) := by decide +kernel
theorem dX10_copy_37 : decode cX10_copy 37 = .ok (.invokevirtual 96, 3) := by decide +kernel
theorem dX10_copy_40 : decode cX10_copy 40 = .ok (.ireturn, 1) := by decide +kernel
theorem dX10_copy_41 : decode cX10_copy 41 = .ok (.aload_n 0, 1) := by decide +kernel
theorem dX10_copy_42 : decode cX10_copy 42 = .ok (.getfield 65, 3) := by decide +kernel
theorem dX10_copy_45 : decode cX10_copy 45 = .ok (.iload_n 1, 1) := by decide +kernel
theorem dX10_copy_46 : decode cX10_copy 46 = .ok (.iaload, 1) := by decide +kernel
theorem dX10_copy_47 : decode cX10_copy 47 = .ok (.aload_n 0, 1) := by decide +kernel
theorem dX10_copy_48 : decode cX10_copy 48 = .ok (.getfield 65, 3) := by decide +kernel
theorem dX10_copy_51 : decode cX10_copy 51 = .ok (.iload_n 3, 1) := by decide +kernel
theorem dX10_copy_52 : decode cX10_copy 52 = .ok (.iaload, 1) := by decide +kernel
theorem dX10_copy_53 : decode cX10_copy 53 = .ok (.if_icmp .eq 9, 3) := by decide +kernel
theorem dX10_copy_56 : decode cX10_copy 56 = .ok (.aload_n 0, 1) := by decide +kernel
theorem dX10_copy_57 : decode cX10_copy 57 = .ok (.iconst 4, 1) := by decide +kernel
theorem dX10_copy_58 : decode cX10_copy 58 = .ok (.invokevirtual 96, 3) := by decide +kernel
theorem dX10_copy_61 : decode cX10_copy 61 = .ok (.ireturn, 1) := by decide +kernel
theorem dX10_copy_62 : decode cX10_copy 62 = .ok (.iload_n 2, 1) := by decide +kernel
theorem dX10_copy_63 : decode cX10_copy 63 = .ok (.ifCond .lt 48, 3) := by decide +kernel
theorem dX10_copy_66 : decode cX10_copy 66 = .ok (.iload 4, 2) := by decide +kernel
theorem dX10_copy_68 : decode cX10_copy 68 = .ok (.ifCond .lt 43, 3) := by decide +kernel
theorem dX10_copy_71 : decode cX10_copy 71 = .ok (.iload 5, 2) := by decide +kernel
theorem dX10_copy_73 : decode cX10_copy 73 = .ok (.ifCond .lt 38, 3) := by decide +kernel
theorem dX10_copy_76 : decode cX10_copy 76 = .ok (.iload_n 2, 1) := by decide +kernel
theorem dX10_copy_77 : decode cX10_copy 77 = .ok (.i2l, 1) := by decide +kernel
theorem dX10_copy_78 : decode cX10_copy 78 = .ok (.iload 5, 2) := by decide +kernel
theorem dX10_copy_80 : decode cX10_copy 80 = .ok (.i2l, 1) := by decide +kernel
theorem dX10_copy_81 : decode cX10_copy 81 = .ok (.ladd, 1) := by decide +kernel
theorem dX10_copy_82 : decode cX10_copy 82 = .ok (.aload_n 0, 1) := by decide +kernel
theorem dX10_copy_83 : decode cX10_copy 83 = .ok (.getfield 68, 3) := by decide +kernel
theorem dX10_copy_86 : decode cX10_copy 86 = .ok (.iload_n 1, 1) := by decide +kernel
theorem dX10_copy_87 : decode cX10_copy 87 = .ok (.iaload, 1) := by decide +kernel
theorem dX10_copy_88 : decode cX10_copy 88 = .ok (.i2l, 1) := by decide +kernel
theorem dX10_copy_89 : decode cX10_copy 89 = .ok (.lcmp, 1) := by decide +kernel
theorem dX10_copy_90 : decode cX10_copy 90 = .ok (.ifCond .gt 21, 3) := by decide +kernel
theorem dX10_copy_93 : decode cX10_copy 93 = .ok (.iload 4, 2) := by decide +kernel
theorem dX10_copy_95 : decode cX10_copy 95 = .ok (.i2l, 1) := by decide +kernel
theorem dX10_copy_96 : decode cX10_copy 96 = .ok (.iload 5, 2) := by decide +kernel
theorem dX10_copy_98 : decode cX10_copy 98 = .ok (.i2l, 1) := by decide +kernel
theorem dX10_copy_99 : decode cX10_copy 99 = .ok (.ladd, 1) := by decide +kernel
theorem dX10_copy_100 : decode cX10_copy 100 = .ok (.aload_n 0, 1) := by decide +kernel
theorem dX10_copy_101 : decode cX10_copy 101 = .ok (.getfield 68, 3) := by decide +kernel
theorem dX10_copy_104 : decode cX10_copy 104 = .ok (.iload_n 3, 1) := by decide +kernel
theorem dX10_copy_105 : decode cX10_copy 105 = .ok (.iaload, 1) := by decide +kernel
theorem dX10_copy_106 : decode cX10_copy 106 = .ok (.i2l, 1) := by decide +kernel
theorem dX10_copy_107 : decode cX10_copy 107 = .ok (.lcmp, 1) := by decide +kernel
theorem dX10_copy_108 : decode cX10_copy 108 = .ok (.ifCond .le 9, 3) := by decide +kernel
theorem dX10_copy_111 : decode cX10_copy 111 = .ok (.aload_n 0, 1) := by decide +kernel
theorem dX10_copy_112 : decode cX10_copy 112 = .ok (.iconst 2, 1) := by decide +kernel
theorem dX10_copy_113 : decode cX10_copy 113 = .ok (.invokevirtual 96, 3) := by decide +kernel
theorem dX10_copy_116 : decode cX10_copy 116 = .ok (.ireturn, 1) := by decide +kernel
theorem dX10_copy_117 : decode cX10_copy 117 = .ok (.iconst 0, 1) := by decide +kernel
theorem dX10_copy_118 : decode cX10_copy 118 = .ok (.istore 6, 2) := by decide +kernel
theorem dX10_copy_120 : decode cX10_copy 120 = .ok (.iload 6, 2) := by decide +kernel
theorem dX10_copy_122 : decode cX10_copy 122 = .ok (.iload 5, 2) := by decide +kernel
theorem dX10_copy_124 : decode cX10_copy 124 = .ok (.if_icmp .ge 30, 3) := by decide +kernel
theorem dX10_copy_127 : decode cX10_copy 127 = .ok (.aload_n 0, 1) := by decide +kernel
theorem dX10_copy_128 : decode cX10_copy 128 = .ok (.getfield 74, 3) := by decide +kernel
theorem dX10_copy_131 : decode cX10_copy 131 = .ok (.iload 6, 2) := by decide +kernel
theorem dX10_copy_133 : decode cX10_copy 133 = .ok (.aload_n 0, 1) := by decide +kernel
theorem dX10_copy_134 : decode cX10_copy 134 = .ok (.getfield 71, 3) := by decide +kernel
theorem dX10_copy_137 : decode cX10_copy 137 = .ok (.bipush 60, 2) := by decide +kernel
theorem dX10_copy_139 : decode cX10_copy 139 = .ok (.iload_n 1, 1) := by decide +kernel
theorem dX10_copy_140 : decode cX10_copy 140 = .ok (.imul, 1) := by decide +kernel
theorem dX10_copy_141 : decode cX10_copy 141 = .ok (.iload_n 2, 1) := by decide +kernel
theorem dX10_copy_142 : decode cX10_copy 142 = .ok (.iadd, 1) := by decide +kernel
theorem dX10_copy_143 : decode cX10_copy 143 = .ok (.iload 6, 2) := by decide +kernel
theorem dX10_copy_145 : decode cX10_copy 145 = .ok (.iadd, 1) := by decide +kernel
theorem dX10_copy_146 : decode cX10_copy 146 = .ok (.iaload, 1) := by decide +kernel
theorem dX10_copy_147 : decode cX10_copy 147 = .ok (.iastore, 1) := by decide +kernel
theorem dX10_copy_148 : decode cX10_copy 148 = .ok (.iinc 6 1, 3) := by decide +kernel
theorem dX10_copy_151 : decode cX10_copy 151 = .ok (.goto (-31), 3) := by decide +kernel
theorem dX10_copy_154 : decode cX10_copy 154 = .ok (.iconst 0, 1) := by decide +kernel
theorem dX10_copy_155 : decode cX10_copy 155 = .ok (.istore 6, 2) := by decide +kernel
theorem dX10_copy_157 : decode cX10_copy 157 = .ok (.iload 6, 2) := by decide +kernel
theorem dX10_copy_159 : decode cX10_copy 159 = .ok (.iload 5, 2) := by decide +kernel
theorem dX10_copy_161 : decode cX10_copy 161 = .ok (.if_icmp .ge 31, 3) := by decide +kernel
theorem dX10_copy_164 : decode cX10_copy 164 = .ok (.aload_n 0, 1) := by decide +kernel
theorem dX10_copy_165 : decode cX10_copy 165 = .ok (.getfield 71, 3) := by decide +kernel
theorem dX10_copy_168 : decode cX10_copy 168 = .ok (.bipush 60, 2) := by decide +kernel
theorem dX10_copy_170 : decode cX10_copy 170 = .ok (.iload_n 3, 1) := by decide +kernel
theorem dX10_copy_171 : decode cX10_copy 171 = .ok (.imul, 1) := by decide +kernel
theorem dX10_copy_172 : decode cX10_copy 172 = .ok (.iload 4, 2) := by decide +kernel
theorem dX10_copy_174 : decode cX10_copy 174 = .ok (.iadd, 1) := by decide +kernel
theorem dX10_copy_175 : decode cX10_copy 175 = .ok (.iload 6, 2) := by decide +kernel
theorem dX10_copy_177 : decode cX10_copy 177 = .ok (.iadd, 1) := by decide +kernel
theorem dX10_copy_178 : decode cX10_copy 178 = .ok (.aload_n 0, 1) := by decide +kernel
theorem dX10_copy_179 : decode cX10_copy 179 = .ok (.getfield 74, 3) := by decide +kernel
theorem dX10_copy_182 : decode cX10_copy 182 = .ok (.iload 6, 2) := by decide +kernel
theorem dX10_copy_184 : decode cX10_copy 184 = .ok (.iaload, 1) := by decide +kernel
theorem dX10_copy_185 : decode cX10_copy 185 = .ok (.iastore, 1) := by decide +kernel
theorem dX10_copy_186 : decode cX10_copy 186 = .ok (.iinc 6 1, 3) := by decide +kernel
theorem dX10_copy_189 : decode cX10_copy 189 = .ok (.goto (-32), 3) := by decide +kernel
theorem dX10_copy_192 : decode cX10_copy 192 = .ok (.iconst 1, 1) := by decide +kernel
theorem dX10_copy_193 : decode cX10_copy 193 = .ok (.ireturn, 1) := by decide +kernel
theorem dX10_write_0 : decode cX10_write 0 = .ok (.iload_n 1, 1) := by decide +kernel
theorem dX10_write_1 : decode cX10_write 1 = .ok (.invokestatic 234, 3) := by decide +kernel
theorem dX10_write_4 : decode cX10_write 4 = .ok (.ifCond .eq 10, 3) := by decide +kernel
theorem dX10_write_7 : decode cX10_write 7 = .ok (.iload_n 2, 1) := by decide +kernel
theorem dX10_write_8 : decode cX10_write 8 = .ok (.invokestatic 92, 3) := by decide +kernel
theorem dX10_write_11 : decode cX10_write 11 = .ok (.ifCond .ne 6, 3) := by decide +kernel
theorem dX10_write_14 : decode cX10_write 14 = .ok (.bipush (-2), 2) := by decide +kernel
theorem dX10_write_16 : decode cX10_write 16 = .ok (.ireturn, 1) := by decide +kernel
theorem dX10_write_17 : decode cX10_write 17 = .ok (.aload_n 0, 1) := by decide +kernel
theorem dX10_write_18 : decode cX10_write 18 = .ok (.getfield 61, 3) := by decide +kernel
theorem dX10_write_21 : decode cX10_write 21 = .ok (.iload_n 2, 1) := by decide +kernel
theorem dX10_write_22 : decode cX10_write 22 = .ok (.baload, 1) := by decide +kernel
theorem dX10_write_23 : decode cX10_write 23 = .ok (.ifCond .ne 9, 3) := by decide +kernel
theorem dX10_write_26 : decode cX10_write 26 = .ok (.aload_n 0, 1) := by decide +kernel
theorem dX10_write_27 : decode cX10_write 27 = .ok (.iconst 1, 1) := by decide +kernel
theorem dX10_write_28 : decode cX10_write 28 = .ok (.invokevirtual 96, 3) := by decide +kernel
theorem dX10_write_31 : decode cX10_write 31 = .ok (.ireturn, 1) := by decide +kernel
theorem dX10_write_32 : decode cX10_write 32 = .ok (.aload_n 0, 1) := by decide +kernel
theorem dX10_write_33 : decode cX10_write 33 = .ok (.invokevirtual 228, 3) := by decide +kernel
theorem dX10_write_36 : decode cX10_write 36 = .ok (.iconst 0, 1) := by decide +kernel
theorem dX10_write_37 : decode cX10_write 37 = .ok (.istore_n 3, 1) := by decide +kernel
theorem dX10_write_38 : decode cX10_write 38 = .ok (.aload_n 0, 1) := by decide +kernel
theorem dX10_write_39 : decode cX10_write 39 = .ok (.iload_n 1, 1) := by decide +kernel
theorem dX10_write_40 : decode cX10_write 40 = .ok (.invokevirtual 231, 3) := by decide +kernel
theorem dX10_write_43 : decode cX10_write 43 = .ok (.iconst (-1), 1) := by decide +kernel
theorem dX10_write_44 : decode cX10_write 44 = .ok (.if_icmp .eq 36, 3) := by decide +kernel
theorem dX10_write_47 : decode cX10_write 47 = .ok (.iload_n 3, 1) := by decide +kernel
theorem dX10_write_48 : decode cX10_write 48 = .ok (.aload_n 0, 1) := by decide +kernel
theorem dX10_write_49 : decode cX10_write 49 = .ok (.getfield 68, 3) := by decide +kernel
theorem dX10_write_52 : decode cX10_write 52 = .ok (.iload_n 2, 1) := by decide +kernel
theorem dX10_write_53 : decode cX10_write 53 = .ok (.iaload, 1) := by decide +kernel
theorem dX10_write_54 : decode cX10_write 54 = .ok (.if_icmp .ge 26, 3) := by decide +kernel
theorem dX10_write_57 : decode cX10_write 57 = .ok (.iload_n 3, 1) := by decide +kernel
theorem dX10_write_58 : decode cX10_write 58 = .ok (.iload_n 1, 1) := by decide +kernel
theorem dX10_write_59 : decode cX10_write 59 = .ok (.if_icmp .ge 21, 3) := by decide +kernel
theorem dX10_write_62 : decode cX10_write 62 = .ok (.aload_n 0, 1) := by decide +kernel
theorem dX10_write_63 : decode cX10_write 63 = .ok (.iload_n 2, 1) := by decide +kernel
theorem dX10_write_64 : decode cX10_write 64 = .ok (.iload_n 3, 1) := by decide +kernel
theorem dX10_write_65 : decode cX10_write 65 = .ok (.aload_n 0, 1) := by decide +kernel
theorem dX10_write_66 : decode cX10_write 66 = .ok (.iload_n 1, 1) := by decide +kernel
theorem dX10_write_67 : decode cX10_write 67 = .ok (.iload_n 3, 1) := by decide +kernel
theorem dX10_write_68 : decode cX10_write 68 = .ok (.invokevirtual 240, 3) := by decide +kernel
theorem dX10_write_71 : decode cX10_write 71 = .ok (.invokevirtual 274, 3) := by decide +kernel
theorem dX10_write_74 : decode cX10_write 74 = .ok (.iinc 3 1, 3) := by decide +kernel
theorem dX10_write_77 : decode cX10_write 77 = .ok (.goto (-39), 3) := by decide +kernel
theorem dX10_write_80 : decode cX10_write 80 = .ok (.iload_n 3, 1) := by decide +kernel
theorem dX10_write_81 : decode cX10_write 81 = .ok (.ireturn, 1) := by decide +kernel
theorem dX10_tellOf_0 : decode cX10_tellOf 0 = .ok (.aload_n 0, 1) := by decide +kernel
theorem dX10_tellOf_1 : decode cX10_tellOf 1 = .ok (.invokevirtual 147, 3) := by decide +kernel
theorem dX10_tellOf_4 : decode cX10_tellOf 4 = .ok (.iload_n 1, 1) := by decide +kernel
theorem dX10_tellOf_5 : decode cX10_tellOf 5 = .ok (.iconst 1, 1) := by decide +kernel
theorem dX10_tellOf_6 : decode cX10_tellOf 6 = .ok (.if_icmp .ne 10, 3) := by decide +kernel
theorem dX10_tellOf_9 : decode cX10_tellOf 9 = .ok (.aload_n 0, 1) := by decide +kernel
theorem dX10_tellOf_10 : decode cX10_tellOf 10 = .ok (.getfield 109, 3) := by decide +kernel
theorem dX10_tellOf_13 : decode cX10_tellOf 13 = .ok (.goto 19, 3) := by decide +kernel
theorem dX10_tellOf_16 : decode cX10_tellOf 16 = .ok (.iload_n 1, 1) := by decide +kernel
theorem dX10_tellOf_17 : decode cX10_tellOf 17 = .ok (.iconst 2, 1) := by decide +kernel
theorem dX10_tellOf_18 : decode cX10_tellOf 18 = .ok (.if_icmp .ne 10, 3) := by decide +kernel
theorem dX10_tellOf_21 : decode cX10_tellOf 21 = .ok (.aload_n 0, 1) := by decide +kernel
theorem dX10_tellOf_22 : decode cX10_tellOf 22 = .ok (.getfield 115, 3) := by decide +kernel
theorem dX10_tellOf_25 : decode cX10_tellOf 25 = .ok (.goto 7, 3) := by decide +kernel
theorem dX10_tellOf_28 : decode cX10_tellOf 28 = .ok (.aload_n 0, 1) := by decide +kernel
theorem dX10_tellOf_29 : decode cX10_tellOf 29 = .ok (.getfield 135, 3) := by decide +kernel
theorem dX10_tellOf_32 : decode cX10_tellOf 32 = .ok (.ireturn, 1) := by decide +kernel
theorem dX10_count_0 : decode cX10_count 0 = .ok (.iload_n 1, 1) := by decide +kernel
theorem dX10_count_1 : decode cX10_count 1 = .ok (.tableswitch 91 0 8 #[51, 56, 56, 56, 62, 67, 74, 81, 86], 51) := by decide +kernel
theorem dX10_count_52 : decode cX10_count 52 = .ok (.aload_n 0, 1) := by decide +kernel
theorem dX10_count_53 : decode cX10_count 53 = .ok (.getfield 81, 3) := by decide +kernel
theorem dX10_count_56 : decode cX10_count 56 = .ok (.ireturn, 1) := by decide +kernel
theorem dX10_count_57 : decode cX10_count 57 = .ok (.aload_n 0, 1) := by decide +kernel
theorem dX10_count_58 : decode cX10_count 58 = .ok (.iload_n 1, 1) := by decide +kernel
theorem dX10_count_59 : decode cX10_count 59 = .ok (.invokevirtual 279, 3) := by decide +kernel
theorem dX10_count_62 : decode cX10_count 62 = .ok (.ireturn, 1) := by decide +kernel
theorem dX10_count_63 : decode cX10_count 63 = .ok (.aload_n 0, 1) := by decide +kernel
theorem dX10_count_64 : decode cX10_count 64 = .ok (.invokevirtual 194, 3) := by decide +kernel
theorem dX10_count_67 : decode cX10_count 67 = .ok (.ireturn, 1) := by decide +kernel
theorem dX10_count_68 : decode cX10_count 68 = .ok (.aload_n 0, 1) := by decide +kernel
theorem dX10_count_69 : decode cX10_count 69 = .ok (.getfield 13, 3) := by decide +kernel
theorem dX10_count_72 : decode cX10_count 72 = .ok (.iconst 0, 1) := by decide +kernel
theorem dX10_count_73 : decode cX10_count 73 = .ok (.iaload, 1) := by decide +kernel
theorem dX10_count_74 : decode cX10_count 74 = .ok (.ireturn, 1) := by decide +kernel
theorem dX10_count_75 : decode cX10_count 75 = .ok (.aload_n 0, 1) := by decide +kernel
theorem dX10_count_76 : decode cX10_count 76 = .ok (.getfield 13, 3) := by decide +kernel
theorem dX10_count_79 : decode cX10_count 79 = .ok (.iconst 1, 1) := by decide +kernel
theorem dX10_count_80 : decode cX10_count 80 = .ok (.iaload, 1) := by decide +kernel
theorem dX10_count_81 : decode cX10_count 81 = .ok (.ireturn, 1) := by decide +kernel
theorem dX10_count_82 : decode cX10_count 82 = .ok (.aload_n 0, 1) := by decide +kernel
theorem dX10_count_83 : decode cX10_count 83 = .ok (.getfield 89, 3) := by decide +kernel
theorem dX10_count_86 : decode cX10_count 86 = .ok (.ireturn, 1) := by decide +kernel
theorem dX10_count_87 : decode cX10_count 87 = .ok (.aload_n 0, 1) := by decide +kernel
theorem dX10_count_88 : decode cX10_count 88 = .ok (.getfield 267, 3) := by decide +kernel
theorem dX10_count_91 : decode cX10_count 91 = .ok (.ireturn, 1) := by decide +kernel
theorem dX10_count_92 : decode cX10_count 92 = .ok (.bipush (-2), 2) := by decide +kernel
theorem dX10_count_94 : decode cX10_count 94 = .ok (.ireturn, 1) := by decide +kernel
theorem dX10_sentenceDigest_0 : decode cX10_sentenceDigest 0 = .ok (.lload_n 1, 1) := by decide +kernel
theorem dX10_sentenceDigest_1 : decode cX10_sentenceDigest 1 = .ok (.lstore 4, 2) := by decide +kernel
theorem dX10_sentenceDigest_3 : decode cX10_sentenceDigest 3 = .ok (.iconst 0, 1) := by decide +kernel
theorem dX10_sentenceDigest_4 : decode cX10_sentenceDigest 4 = .ok (.istore 6, 2) := by decide +kernel
theorem dX10_sentenceDigest_6 : decode cX10_sentenceDigest 6 = .ok (.iload 6, 2) := by decide +kernel
theorem dX10_sentenceDigest_8 : decode cX10_sentenceDigest 8 = .ok (.iconst 4, 1) := by decide +kernel
theorem dX10_sentenceDigest_9 : decode cX10_sentenceDigest 9 = .ok (.if_icmp .ge 26, 3) := by decide +kernel
theorem dX10_sentenceDigest_12 : decode cX10_sentenceDigest 12 = .ok (.ldc2_w 282, 3) := by decide +kernel
theorem dX10_sentenceDigest_15 : decode cX10_sentenceDigest 15 = .ok (.lload 4, 2) := by decide +kernel
theorem dX10_sentenceDigest_17 : decode cX10_sentenceDigest 17 = .ok (.lmul, 1) := by decide +kernel
theorem dX10_sentenceDigest_18 : decode cX10_sentenceDigest 18 = .ok (.aload_n 0, 1) := by decide +kernel
theorem dX10_sentenceDigest_19 : decode cX10_sentenceDigest 19 = .ok (.iload_n 3, 1) := by decide +kernel
theorem dX10_sentenceDigest_20 : decode cX10_sentenceDigest 20 = .ok (.iload 6, 2) := by decide +kernel
theorem dX10_sentenceDigest_22 : decode cX10_sentenceDigest 22 = .ok (.invokevirtual 284, 3) := by decide +kernel
theorem dX10_sentenceDigest_25 : decode cX10_sentenceDigest 25 = .ok (.i2l, 1) := by decide +kernel
theorem dX10_sentenceDigest_26 : decode cX10_sentenceDigest 26 = .ok (.ladd, 1) := by decide +kernel
theorem dX10_sentenceDigest_27 : decode cX10_sentenceDigest 27 = .ok (.lstore 4, 2) := by decide +kernel
theorem dX10_sentenceDigest_29 : decode cX10_sentenceDigest 29 = .ok (.iinc 6 1, 3) := by decide +kernel
theorem dX10_sentenceDigest_32 : decode cX10_sentenceDigest 32 = .ok (.goto (-26), 3) := by decide +kernel
theorem dX10_sentenceDigest_35 : decode cX10_sentenceDigest 35 = .ok (.ldc2_w 282, 3) := by decide +kernel
theorem dX10_sentenceDigest_38 : decode cX10_sentenceDigest 38 = .ok (.lload 4, 2) := by decide +kernel
theorem dX10_sentenceDigest_40 : decode cX10_sentenceDigest 40 = .ok (.lmul, 1) := by decide +kernel
theorem dX10_sentenceDigest_41 : decode cX10_sentenceDigest 41 = .ok (.aload_n 0, 1) := by decide +kernel
theorem dX10_sentenceDigest_42 : decode cX10_sentenceDigest 42 = .ok (.iload_n 3, 1) := by decide +kernel
theorem dX10_sentenceDigest_43 : decode cX10_sentenceDigest 43 = .ok (.iconst 0, 1) := by decide +kernel
theorem dX10_sentenceDigest_44 : decode cX10_sentenceDigest 44 = .ok (.invokevirtual 287, 3) := by decide +kernel
theorem dX10_sentenceDigest_47 : decode cX10_sentenceDigest 47 = .ok (.i2l, 1) := by decide +kernel
theorem dX10_sentenceDigest_48 : decode cX10_sentenceDigest 48 = .ok (.ladd, 1) := by decide +kernel
theorem dX10_sentenceDigest_49 : decode cX10_sentenceDigest 49 = .ok (.lstore 4, 2) := by decide +kernel
theorem dX10_sentenceDigest_51 : decode cX10_sentenceDigest 51 = .ok (.ldc2_w 282, 3) := by decide +kernel
theorem dX10_sentenceDigest_54 : decode cX10_sentenceDigest 54 = .ok (.lload 4, 2) := by decide +kernel
theorem dX10_sentenceDigest_56 : decode cX10_sentenceDigest 56 = .ok (.lmul, 1) := by decide +kernel
theorem dX10_sentenceDigest_57 : decode cX10_sentenceDigest 57 = .ok (.aload_n 0, 1) := by decide +kernel
theorem dX10_sentenceDigest_58 : decode cX10_sentenceDigest 58 = .ok (.iload_n 3, 1) := by decide +kernel
theorem dX10_sentenceDigest_59 : decode cX10_sentenceDigest 59 = .ok (.iconst 2, 1) := by decide +kernel
theorem dX10_sentenceDigest_60 : decode cX10_sentenceDigest 60 = .ok (.invokevirtual 287, 3) := by decide +kernel
theorem dX10_sentenceDigest_63 : decode cX10_sentenceDigest 63 = .ok (.i2l, 1) := by decide +kernel
theorem dX10_sentenceDigest_64 : decode cX10_sentenceDigest 64 = .ok (.ladd, 1) := by decide +kernel
theorem dX10_sentenceDigest_65 : decode cX10_sentenceDigest 65 = .ok (.lstore 4, 2) := by decide +kernel
theorem dX10_sentenceDigest_67 : decode cX10_sentenceDigest 67 = .ok (.ldc2_w 282, 3) := by decide +kernel
theorem dX10_sentenceDigest_70 : decode cX10_sentenceDigest 70 = .ok (.lload 4, 2) := by decide +kernel
theorem dX10_sentenceDigest_72 : decode cX10_sentenceDigest 72 = .ok (.lmul, 1) := by decide +kernel
theorem dX10_sentenceDigest_73 : decode cX10_sentenceDigest 73 = .ok (.aload_n 0, 1) := by decide +kernel
theorem dX10_sentenceDigest_74 : decode cX10_sentenceDigest 74 = .ok (.iload_n 3, 1) := by decide +kernel
theorem dX10_sentenceDigest_75 : decode cX10_sentenceDigest 75 = .ok (.iconst 0, 1) := by decide +kernel
theorem dX10_sentenceDigest_76 : decode cX10_sentenceDigest 76 = .ok (.invokevirtual 290, 3) := by decide +kernel
theorem dX10_sentenceDigest_79 : decode cX10_sentenceDigest 79 = .ok (.i2l, 1) := by decide +kernel
theorem dX10_sentenceDigest_80 : decode cX10_sentenceDigest 80 = .ok (.ladd, 1) := by decide +kernel
theorem dX10_sentenceDigest_81 : decode cX10_sentenceDigest 81 = .ok (.lstore 4, 2) := by decide +kernel
theorem dX10_sentenceDigest_83 : decode cX10_sentenceDigest 83 = .ok (.ldc2_w 282, 3) := by decide +kernel
theorem dX10_sentenceDigest_86 : decode cX10_sentenceDigest 86 = .ok (.lload 4, 2) := by decide +kernel
theorem dX10_sentenceDigest_88 : decode cX10_sentenceDigest 88 = .ok (.lmul, 1) := by decide +kernel
theorem dX10_sentenceDigest_89 : decode cX10_sentenceDigest 89 = .ok (.aload_n 0, 1) := by decide +kernel
theorem dX10_sentenceDigest_90 : decode cX10_sentenceDigest 90 = .ok (.iload_n 3, 1) := by decide +kernel
theorem dX10_sentenceDigest_91 : decode cX10_sentenceDigest 91 = .ok (.iconst 1, 1) := by decide +kernel
theorem dX10_sentenceDigest_92 : decode cX10_sentenceDigest 92 = .ok (.invokevirtual 290, 3) := by decide +kernel
theorem dX10_sentenceDigest_95 : decode cX10_sentenceDigest 95 = .ok (.i2l, 1) := by decide +kernel
theorem dX10_sentenceDigest_96 : decode cX10_sentenceDigest 96 = .ok (.ladd, 1) := by decide +kernel
theorem dX10_sentenceDigest_97 : decode cX10_sentenceDigest 97 = .ok (.lstore 4, 2) := by decide +kernel
theorem dX10_sentenceDigest_99 : decode cX10_sentenceDigest 99 = .ok (.ldc2_w 282, 3) := by decide +kernel
theorem dX10_sentenceDigest_102 : decode cX10_sentenceDigest 102 = .ok (.lload 4, 2) := by decide +kernel
theorem dX10_sentenceDigest_104 : decode cX10_sentenceDigest 104 = .ok (.lmul, 1) := by decide +kernel
theorem dX10_sentenceDigest_105 : decode cX10_sentenceDigest 105 = .ok (.aload_n 0, 1) := by decide +kernel
theorem dX10_sentenceDigest_106 : decode cX10_sentenceDigest 106 = .ok (.iload_n 3, 1) := by decide +kernel
theorem dX10_sentenceDigest_107 : decode cX10_sentenceDigest 107 = .ok (.iconst 0, 1) := by decide +kernel
theorem dX10_sentenceDigest_108 : decode cX10_sentenceDigest 108 = .ok (.invokevirtual 293, 3) := by decide +kernel
theorem dX10_sentenceDigest_111 : decode cX10_sentenceDigest 111 = .ok (.i2l, 1) := by decide +kernel
theorem dX10_sentenceDigest_112 : decode cX10_sentenceDigest 112 = .ok (.ladd, 1) := by decide +kernel
theorem dX10_sentenceDigest_113 : decode cX10_sentenceDigest 113 = .ok (.lstore 4, 2) := by decide +kernel
theorem dX10_sentenceDigest_115 : decode cX10_sentenceDigest 115 = .ok (.ldc2_w 282, 3) := by decide +kernel
theorem dX10_sentenceDigest_118 : decode cX10_sentenceDigest 118 = .ok (.lload 4, 2) := by decide +kernel
theorem dX10_sentenceDigest_120 : decode cX10_sentenceDigest 120 = .ok (.lmul, 1) := by decide +kernel
theorem dX10_sentenceDigest_121 : decode cX10_sentenceDigest 121 = .ok (.aload_n 0, 1) := by decide +kernel
theorem dX10_sentenceDigest_122 : decode cX10_sentenceDigest 122 = .ok (.iload_n 3, 1) := by decide +kernel
theorem dX10_sentenceDigest_123 : decode cX10_sentenceDigest 123 = .ok (.iconst 1, 1) := by decide +kernel
theorem dX10_sentenceDigest_124 : decode cX10_sentenceDigest 124 = .ok (.invokevirtual 293, 3) := by decide +kernel
theorem dX10_sentenceDigest_127 : decode cX10_sentenceDigest 127 = .ok (.i2l, 1) := by decide +kernel
theorem dX10_sentenceDigest_128 : decode cX10_sentenceDigest 128 = .ok (.ladd, 1) := by decide +kernel
theorem dX10_sentenceDigest_129 : decode cX10_sentenceDigest 129 = .ok (.lstore 4, 2) := by decide +kernel
theorem dX10_sentenceDigest_131 : decode cX10_sentenceDigest 131 = .ok (.ldc2_w 282, 3) := by decide +kernel
theorem dX10_sentenceDigest_134 : decode cX10_sentenceDigest 134 = .ok (.lload 4, 2) := by decide +kernel
theorem dX10_sentenceDigest_136 : decode cX10_sentenceDigest 136 = .ok (.lmul, 1) := by decide +kernel
theorem dX10_sentenceDigest_137 : decode cX10_sentenceDigest 137 = .ok (.aload_n 0, 1) := by decide +kernel
theorem dX10_sentenceDigest_138 : decode cX10_sentenceDigest 138 = .ok (.iload_n 3, 1) := by decide +kernel
theorem dX10_sentenceDigest_139 : decode cX10_sentenceDigest 139 = .ok (.invokevirtual 296, 3) := by decide +kernel
theorem dX10_sentenceDigest_142 : decode cX10_sentenceDigest 142 = .ok (.i2l, 1) := by decide +kernel
theorem dX10_sentenceDigest_143 : decode cX10_sentenceDigest 143 = .ok (.ladd, 1) := by decide +kernel
theorem dX10_sentenceDigest_144 : decode cX10_sentenceDigest 144 = .ok (.lreturn, 1) := by decide +kernel
theorem dX10_stemDigest_0 : decode cX10_stemDigest 0 = .ok (.lload_n 1, 1) := by decide +kernel
theorem dX10_stemDigest_1 : decode cX10_stemDigest 1 = .ok (.lstore 4, 2) := by decide +kernel
theorem dX10_stemDigest_3 : decode cX10_stemDigest 3 = .ok (.iconst 0, 1) := by decide +kernel
theorem dX10_stemDigest_4 : decode cX10_stemDigest 4 = .ok (.istore 6, 2) := by decide +kernel
theorem dX10_stemDigest_6 : decode cX10_stemDigest 6 = .ok (.iload 6, 2) := by decide +kernel
theorem dX10_stemDigest_8 : decode cX10_stemDigest 8 = .ok (.iconst 4, 1) := by decide +kernel
theorem dX10_stemDigest_9 : decode cX10_stemDigest 9 = .ok (.if_icmp .ge 26, 3) := by decide +kernel
theorem dX10_stemDigest_12 : decode cX10_stemDigest 12 = .ok (.ldc2_w 282, 3) := by decide +kernel
theorem dX10_stemDigest_15 : decode cX10_stemDigest 15 = .ok (.lload 4, 2) := by decide +kernel
theorem dX10_stemDigest_17 : decode cX10_stemDigest 17 = .ok (.lmul, 1) := by decide +kernel
theorem dX10_stemDigest_18 : decode cX10_stemDigest 18 = .ok (.aload_n 0, 1) := by decide +kernel
theorem dX10_stemDigest_19 : decode cX10_stemDigest 19 = .ok (.iload_n 3, 1) := by decide +kernel
theorem dX10_stemDigest_20 : decode cX10_stemDigest 20 = .ok (.iload 6, 2) := by decide +kernel
theorem dX10_stemDigest_22 : decode cX10_stemDigest 22 = .ok (.invokevirtual 178, 3) := by decide +kernel
theorem dX10_stemDigest_25 : decode cX10_stemDigest 25 = .ok (.i2l, 1) := by decide +kernel
theorem dX10_stemDigest_26 : decode cX10_stemDigest 26 = .ok (.ladd, 1) := by decide +kernel
theorem dX10_stemDigest_27 : decode cX10_stemDigest 27 = .ok (.lstore 4, 2) := by decide +kernel
theorem dX10_stemDigest_29 : decode cX10_stemDigest 29 = .ok (.iinc 6 1, 3) := by decide +kernel
theorem dX10_stemDigest_32 : decode cX10_stemDigest 32 = .ok (.goto (-26), 3) := by decide +kernel
theorem dX10_stemDigest_35 : decode cX10_stemDigest 35 = .ok (.ldc2_w 282, 3) := by decide +kernel
theorem dX10_stemDigest_38 : decode cX10_stemDigest 38 = .ok (.lload 4, 2) := by decide +kernel
theorem dX10_stemDigest_40 : decode cX10_stemDigest 40 = .ok (.lmul, 1) := by decide +kernel
theorem dX10_stemDigest_41 : decode cX10_stemDigest 41 = .ok (.aload_n 0, 1) := by decide +kernel
theorem dX10_stemDigest_42 : decode cX10_stemDigest 42 = .ok (.iload_n 3, 1) := by decide +kernel
theorem dX10_stemDigest_43 : decode cX10_stemDigest 43 = .ok (.iconst 0, 1) := by decide +kernel
theorem dX10_stemDigest_44 : decode cX10_stemDigest 44 = .ok (.invokevirtual 181, 3) := by decide +kernel
theorem dX10_stemDigest_47 : decode cX10_stemDigest 47 = .ok (.i2l, 1) := by decide +kernel
theorem dX10_stemDigest_48 : decode cX10_stemDigest 48 = .ok (.ladd, 1) := by decide +kernel
theorem dX10_stemDigest_49 : decode cX10_stemDigest 49 = .ok (.lstore 4, 2) := by decide +kernel
theorem dX10_stemDigest_51 : decode cX10_stemDigest 51 = .ok (.ldc2_w 282, 3) := by decide +kernel
theorem dX10_stemDigest_54 : decode cX10_stemDigest 54 = .ok (.lload 4, 2) := by decide +kernel
theorem dX10_stemDigest_56 : decode cX10_stemDigest 56 = .ok (.lmul, 1) := by decide +kernel
theorem dX10_stemDigest_57 : decode cX10_stemDigest 57 = .ok (.aload_n 0, 1) := by decide +kernel
theorem dX10_stemDigest_58 : decode cX10_stemDigest 58 = .ok (.iload_n 3, 1) := by decide +kernel
theorem dX10_stemDigest_59 : decode cX10_stemDigest 59 = .ok (.iconst 3, 1) := by decide +kernel
theorem dX10_stemDigest_60 : decode cX10_stemDigest 60 = .ok (.invokevirtual 181, 3) := by decide +kernel
theorem dX10_stemDigest_63 : decode cX10_stemDigest 63 = .ok (.i2l, 1) := by decide +kernel
theorem dX10_stemDigest_64 : decode cX10_stemDigest 64 = .ok (.ladd, 1) := by decide +kernel
theorem dX10_stemDigest_65 : decode cX10_stemDigest 65 = .ok (.lreturn, 1) := by decide +kernel
theorem dX10_partsDigest_0 : decode cX10_partsDigest 0 = .ok (.ldc2_w 282, 3) := by decide +kernel
theorem dX10_partsDigest_3 : decode cX10_partsDigest 3 = .ok (.lload_n 1, 1) := by decide +kernel
theorem dX10_partsDigest_4 : decode cX10_partsDigest 4 = .ok (.lmul, 1) := by decide +kernel
theorem dX10_partsDigest_5 : decode cX10_partsDigest 5 = .ok (.aload_n 0, 1) := by decide +kernel
theorem dX10_partsDigest_6 : decode cX10_partsDigest 6 = .ok (.iload_n 3, 1) := by decide +kernel
theorem dX10_partsDigest_7 : decode cX10_partsDigest 7 = .ok (.invokevirtual 237, 3) := by decide +kernel
theorem dX10_partsDigest_10 : decode cX10_partsDigest 10 = .ok (.i2l, 1) := by decide +kernel
theorem dX10_partsDigest_11 : decode cX10_partsDigest 11 = .ok (.ladd, 1) := by decide +kernel
theorem dX10_partsDigest_12 : decode cX10_partsDigest 12 = .ok (.lstore 4, 2) := by decide +kernel
theorem dX10_partsDigest_14 : decode cX10_partsDigest 14 = .ok (.iconst 0, 1) := by decide +kernel
theorem dX10_partsDigest_15 : decode cX10_partsDigest 15 = .ok (.istore 6, 2) := by decide +kernel
theorem dX10_partsDigest_17 : decode cX10_partsDigest 17 = .ok (.iload 6, 2) := by decide +kernel
theorem dX10_partsDigest_19 : decode cX10_partsDigest 19 = .ok (.bipush 8, 2) := by decide +kernel
theorem dX10_partsDigest_21 : decode cX10_partsDigest 21 = .ok (.if_icmp .ge 26, 3) := by decide +kernel
theorem dX10_partsDigest_24 : decode cX10_partsDigest 24 = .ok (.ldc2_w 282, 3) := by decide +kernel
theorem dX10_partsDigest_27 : decode cX10_partsDigest 27 = .ok (.lload 4, 2) := by decide +kernel
theorem dX10_partsDigest_29 : decode cX10_partsDigest 29 = .ok (.lmul, 1) := by decide +kernel
theorem dX10_partsDigest_30 : decode cX10_partsDigest 30 = .ok (.aload_n 0, 1) := by decide +kernel
theorem dX10_partsDigest_31 : decode cX10_partsDigest 31 = .ok (.iload_n 3, 1) := by decide +kernel
theorem dX10_partsDigest_32 : decode cX10_partsDigest 32 = .ok (.iload 6, 2) := by decide +kernel
theorem dX10_partsDigest_34 : decode cX10_partsDigest 34 = .ok (.invokevirtual 243, 3) := by decide +kernel
theorem dX10_partsDigest_37 : decode cX10_partsDigest 37 = .ok (.i2l, 1) := by decide +kernel
theorem dX10_partsDigest_38 : decode cX10_partsDigest 38 = .ok (.ladd, 1) := by decide +kernel
theorem dX10_partsDigest_39 : decode cX10_partsDigest 39 = .ok (.lstore 4, 2) := by decide +kernel
theorem dX10_partsDigest_41 : decode cX10_partsDigest 41 = .ok (.iinc 6 1, 3) := by decide +kernel
theorem dX10_partsDigest_44 : decode cX10_partsDigest 44 = .ok (.goto (-27), 3) := by decide +kernel
theorem dX10_partsDigest_47 : decode cX10_partsDigest 47 = .ok (.ldc2_w 282, 3) := by decide +kernel
theorem dX10_partsDigest_50 : decode cX10_partsDigest 50 = .ok (.lload 4, 2) := by decide +kernel
theorem dX10_partsDigest_52 : decode cX10_partsDigest 52 = .ok (.lmul, 1) := by decide +kernel
theorem dX10_partsDigest_53 : decode cX10_partsDigest 53 = .ok (.aload_n 0, 1) := by decide +kernel
theorem dX10_partsDigest_54 : decode cX10_partsDigest 54 = .ok (.iload_n 3, 1) := by decide +kernel
theorem dX10_partsDigest_55 : decode cX10_partsDigest 55 = .ok (.iconst 0, 1) := by decide +kernel
theorem dX10_partsDigest_56 : decode cX10_partsDigest 56 = .ok (.invokevirtual 249, 3) := by decide +kernel
theorem dX10_partsDigest_59 : decode cX10_partsDigest 59 = .ok (.i2l, 1) := by decide +kernel
theorem dX10_partsDigest_60 : decode cX10_partsDigest 60 = .ok (.ladd, 1) := by decide +kernel
theorem dX10_partsDigest_61 : decode cX10_partsDigest 61 = .ok (.lstore 4, 2) := by decide +kernel
theorem dX10_partsDigest_63 : decode cX10_partsDigest 63 = .ok (.ldc2_w 282, 3) := by decide +kernel
theorem dX10_partsDigest_66 : decode cX10_partsDigest 66 = .ok (.lload 4, 2) := by decide +kernel
theorem dX10_partsDigest_68 : decode cX10_partsDigest 68 = .ok (.lmul, 1) := by decide +kernel
theorem dX10_partsDigest_69 : decode cX10_partsDigest 69 = .ok (.aload_n 0, 1) := by decide +kernel
theorem dX10_partsDigest_70 : decode cX10_partsDigest 70 = .ok (.iload_n 3, 1) := by decide +kernel
theorem dX10_partsDigest_71 : decode cX10_partsDigest 71 = .ok (.iconst 1, 1) := by decide +kernel
theorem dX10_partsDigest_72 : decode cX10_partsDigest 72 = .ok (.invokevirtual 249, 3) := by decide +kernel
theorem dX10_partsDigest_75 : decode cX10_partsDigest 75 = .ok (.i2l, 1) := by decide +kernel
theorem dX10_partsDigest_76 : decode cX10_partsDigest 76 = .ok (.ladd, 1) := by decide +kernel
theorem dX10_partsDigest_77 : decode cX10_partsDigest 77 = .ok (.lstore 4, 2) := by decide +kernel
theorem dX10_partsDigest_79 : decode cX10_partsDigest 79 = .ok (.ldc2_w 282, 3) := by decide +kernel
theorem dX10_partsDigest_82 : decode cX10_partsDigest 82 = .ok (.lload 4, 2) := by decide +kernel
theorem dX10_partsDigest_84 : decode cX10_partsDigest 84 = .ok (.lmul, 1) := by decide +kernel
theorem dX10_partsDigest_85 : decode cX10_partsDigest 85 = .ok (.aload_n 0, 1) := by decide +kernel
theorem dX10_partsDigest_86 : decode cX10_partsDigest 86 = .ok (.iload_n 3, 1) := by decide +kernel
theorem dX10_partsDigest_87 : decode cX10_partsDigest 87 = .ok (.iconst 1, 1) := by decide +kernel
theorem dX10_partsDigest_88 : decode cX10_partsDigest 88 = .ok (.invokevirtual 264, 3) := by decide +kernel
theorem dX10_partsDigest_91 : decode cX10_partsDigest 91 = .ok (.i2l, 1) := by decide +kernel
theorem dX10_partsDigest_92 : decode cX10_partsDigest 92 = .ok (.ladd, 1) := by decide +kernel
theorem dX10_partsDigest_93 : decode cX10_partsDigest 93 = .ok (.lstore 4, 2) := by decide +kernel
theorem dX10_partsDigest_95 : decode cX10_partsDigest 95 = .ok (.ldc2_w 282, 3) := by decide +kernel
theorem dX10_partsDigest_98 : decode cX10_partsDigest 98 = .ok (.lload 4, 2) := by decide +kernel
theorem dX10_partsDigest_100 : decode cX10_partsDigest 100 = .ok (.lmul, 1) := by decide +kernel
theorem dX10_partsDigest_101 : decode cX10_partsDigest 101 = .ok (.aload_n 0, 1) := by decide +kernel
theorem dX10_partsDigest_102 : decode cX10_partsDigest 102 = .ok (.iload_n 3, 1) := by decide +kernel
theorem dX10_partsDigest_103 : decode cX10_partsDigest 103 = .ok (.iconst 3, 1) := by decide +kernel
theorem dX10_partsDigest_104 : decode cX10_partsDigest 104 = .ok (.invokevirtual 264, 3) := by decide +kernel
theorem dX10_partsDigest_107 : decode cX10_partsDigest 107 = .ok (.i2l, 1) := by decide +kernel
theorem dX10_partsDigest_108 : decode cX10_partsDigest 108 = .ok (.ladd, 1) := by decide +kernel
theorem dX10_partsDigest_109 : decode cX10_partsDigest 109 = .ok (.lreturn, 1) := by decide +kernel
theorem dX10_digest_0 : decode cX10_digest 0 = .ok (.ldc2_w 299, 3) := by decide +kernel
theorem dX10_digest_3 : decode cX10_digest 3 = .ok (.lstore_n 1, 1) := by decide +kernel
theorem dX10_digest_4 : decode cX10_digest 4 = .ok (.iconst 0, 1) := by decide +kernel
theorem dX10_digest_5 : decode cX10_digest 5 = .ok (.istore_n 3, 1) := by decide +kernel
theorem dX10_digest_6 : decode cX10_digest 6 = .ok (.iload_n 3, 1) := by decide +kernel
theorem dX10_digest_7 : decode cX10_digest 7 = .ok (.bipush 8, 2) := by decide +kernel
theorem dX10_digest_9 : decode cX10_digest 9 = .ok (.if_icmp .ge 22, 3) := by decide +kernel
theorem dX10_digest_12 : decode cX10_digest 12 = .ok (.ldc2_w 282, 3) := by decide +kernel
theorem dX10_digest_15 : decode cX10_digest 15 = .ok (.lload_n 1, 1) := by decide +kernel
theorem dX10_digest_16 : decode cX10_digest 16 = .ok (.lmul, 1) := by decide +kernel
theorem dX10_digest_17 : decode cX10_digest 17 = .ok (.aload_n 0, 1) := by decide +kernel
theorem dX10_digest_18 : decode cX10_digest 18 = .ok (.iload_n 3, 1) := by decide +kernel
theorem dX10_digest_19 : decode cX10_digest 19 = .ok (.invokevirtual 301, 3) := by decide +kernel
theorem dX10_digest_22 : decode cX10_digest 22 = .ok (.i2l, 1) := by decide +kernel
theorem dX10_digest_23 : decode cX10_digest 23 = .ok (.ladd, 1) := by decide +kernel
theorem dX10_digest_24 : decode cX10_digest 24 = .ok (.lstore_n 1, 1) := by decide +kernel
theorem dX10_digest_25 : decode cX10_digest 25 = .ok (.iinc 3 1, 3) := by decide +kernel
theorem dX10_digest_28 : decode cX10_digest 28 = .ok (.goto (-22), 3) := by decide +kernel
theorem dX10_digest_31 : decode cX10_digest 31 = .ok (.iconst 0, 1) := by decide +kernel
theorem dX10_digest_32 : decode cX10_digest 32 = .ok (.istore_n 3, 1) := by decide +kernel
theorem dX10_digest_33 : decode cX10_digest 33 = .ok (.iload_n 3, 1) := by decide +kernel
theorem dX10_digest_34 : decode cX10_digest 34 = .ok (.iconst 3, 1) := by decide +kernel
theorem dX10_digest_35 : decode cX10_digest 35 = .ok (.if_icmp .ge 22, 3) := by decide +kernel
theorem dX10_digest_38 : decode cX10_digest 38 = .ok (.ldc2_w 282, 3) := by decide +kernel
theorem dX10_digest_41 : decode cX10_digest 41 = .ok (.lload_n 1, 1) := by decide +kernel
theorem dX10_digest_42 : decode cX10_digest 42 = .ok (.lmul, 1) := by decide +kernel
theorem dX10_digest_43 : decode cX10_digest 43 = .ok (.aload_n 0, 1) := by decide +kernel
theorem dX10_digest_44 : decode cX10_digest 44 = .ok (.iload_n 3, 1) := by decide +kernel
theorem dX10_digest_45 : decode cX10_digest 45 = .ok (.invokevirtual 150, 3) := by decide +kernel
theorem dX10_digest_48 : decode cX10_digest 48 = .ok (.i2l, 1) := by decide +kernel
theorem dX10_digest_49 : decode cX10_digest 49 = .ok (.ladd, 1) := by decide +kernel
theorem dX10_digest_50 : decode cX10_digest 50 = .ok (.lstore_n 1, 1) := by decide +kernel
theorem dX10_digest_51 : decode cX10_digest 51 = .ok (.iinc 3 1, 3) := by decide +kernel
theorem dX10_digest_54 : decode cX10_digest 54 = .ok (.goto (-21), 3) := by decide +kernel
theorem dX10_digest_57 : decode cX10_digest 57 = .ok (.iconst 0, 1) := by decide +kernel
theorem dX10_digest_58 : decode cX10_digest 58 = .ok (.istore_n 3, 1) := by decide +kernel
theorem dX10_digest_59 : decode cX10_digest 59 = .ok (.iload_n 3, 1) := by decide +kernel
theorem dX10_digest_60 : decode cX10_digest 60 = .ok (.bipush 12, 2) := by decide +kernel
theorem dX10_digest_62 : decode cX10_digest 62 = .ok (.if_icmp .ge 16, 3) := by decide +kernel
theorem dX10_digest_65 : decode cX10_digest 65 = .ok (.aload_n 0, 1) := by decide +kernel
theorem dX10_digest_66 : decode cX10_digest 66 = .ok (.lload_n 1, 1) := by decide +kernel
theorem dX10_digest_67 : decode cX10_digest 67 = .ok (.iload_n 3, 1) := by decide +kernel
theorem dX10_digest_68 : decode cX10_digest 68 = .ok (.invokevirtual 304, 3) := by decide +kernel
theorem dX10_digest_71 : decode cX10_digest 71 = .ok (.lstore_n 1, 1) := by decide +kernel
theorem dX10_digest_72 : decode cX10_digest 72 = .ok (.iinc 3 1, 3) := by decide +kernel
theorem dX10_digest_75 : decode cX10_digest 75 = .ok (.goto (-16), 3) := by decide +kernel
theorem dX10_digest_78 : decode cX10_digest 78 = .ok (.aload_n 0, 1) := by decide +kernel
theorem dX10_digest_79 : decode cX10_digest 79 = .ok (.invokevirtual 147, 3) := by decide +kernel
theorem dX10_digest_82 : decode cX10_digest 82 = .ok (.iconst 0, 1) := by decide +kernel
theorem dX10_digest_83 : decode cX10_digest 83 = .ok (.istore_n 3, 1) := by decide +kernel
theorem dX10_digest_84 : decode cX10_digest 84 = .ok (.iload_n 3, 1) := by decide +kernel
theorem dX10_digest_85 : decode cX10_digest 85 = .ok (.aload_n 0, 1) := by decide +kernel
theorem dX10_digest_86 : decode cX10_digest 86 = .ok (.getfield 135, 3) := by decide +kernel
theorem dX10_digest_89 : decode cX10_digest 89 = .ok (.if_icmp .ge 16, 3) := by decide +kernel
theorem dX10_digest_92 : decode cX10_digest 92 = .ok (.aload_n 0, 1) := by decide +kernel
theorem dX10_digest_93 : decode cX10_digest 93 = .ok (.lload_n 1, 1) := by decide +kernel
theorem dX10_digest_94 : decode cX10_digest 94 = .ok (.iload_n 3, 1) := by decide +kernel
theorem dX10_digest_95 : decode cX10_digest 95 = .ok (.invokevirtual 308, 3) := by decide +kernel
theorem dX10_digest_98 : decode cX10_digest 98 = .ok (.lstore_n 1, 1) := by decide +kernel
theorem dX10_digest_99 : decode cX10_digest 99 = .ok (.iinc 3 1, 3) := by decide +kernel
theorem dX10_digest_102 : decode cX10_digest 102 = .ok (.goto (-18), 3) := by decide +kernel
theorem dX10_digest_105 : decode cX10_digest 105 = .ok (.iconst 0, 1) := by decide +kernel
theorem dX10_digest_106 : decode cX10_digest 106 = .ok (.istore_n 3, 1) := by decide +kernel
theorem dX10_digest_107 : decode cX10_digest 107 = .ok (.iload_n 3, 1) := by decide +kernel
theorem dX10_digest_108 : decode cX10_digest 108 = .ok (.bipush 10, 2) := by decide +kernel
theorem dX10_digest_110 : decode cX10_digest 110 = .ok (.if_icmp .ge 39, 3) := by decide +kernel
theorem dX10_digest_113 : decode cX10_digest 113 = .ok (.iconst 0, 1) := by decide +kernel
theorem dX10_digest_114 : decode cX10_digest 114 = .ok (.istore 4, 2) := by decide +kernel
theorem dX10_digest_116 : decode cX10_digest 116 = .ok (.iload 4, 2) := by decide +kernel
theorem dX10_digest_118 : decode cX10_digest 118 = .ok (.iconst 5, 1) := by decide +kernel
theorem dX10_digest_119 : decode cX10_digest 119 = .ok (.if_icmp .ge 24, 3) := by decide +kernel
theorem dX10_digest_122 : decode cX10_digest 122 = .ok (.ldc2_w 282, 3) := by decide +kernel
theorem dX10_digest_125 : decode cX10_digest 125 = .ok (.lload_n 1, 1) := by decide +kernel
theorem dX10_digest_126 : decode cX10_digest 126 = .ok (.lmul, 1) := by decide +kernel
theorem dX10_digest_127 : decode cX10_digest 127 = .ok (.aload_n 0, 1) := by decide +kernel
theorem dX10_digest_128 : decode cX10_digest 128 = .ok (.iload_n 3, 1) := by decide +kernel
theorem dX10_digest_129 : decode cX10_digest 129 = .ok (.iload 4, 2) := by decide +kernel
theorem dX10_digest_131 : decode cX10_digest 131 = .ok (.invokevirtual 201, 3) := by decide +kernel
theorem dX10_digest_134 : decode cX10_digest 134 = .ok (.i2l, 1) := by decide +kernel
theorem dX10_digest_135 : decode cX10_digest 135 = .ok (.ladd, 1) := by decide +kernel
theorem dX10_digest_136 : decode cX10_digest 136 = .ok (.lstore_n 1, 1) := by decide +kernel
theorem dX10_digest_137 : decode cX10_digest 137 = .ok (.iinc 4 1, 3) := by decide +kernel
theorem dX10_digest_140 : decode cX10_digest 140 = .ok (.goto (-24), 3) := by decide +kernel
theorem dX10_digest_143 : decode cX10_digest 143 = .ok (.iinc 3 1, 3) := by decide +kernel
theorem dX10_digest_146 : decode cX10_digest 146 = .ok (.goto (-39), 3) := by decide +kernel
theorem dX10_digest_149 : decode cX10_digest 149 = .ok (.iconst 0, 1) := by decide +kernel
theorem dX10_digest_150 : decode cX10_digest 150 = .ok (.istore_n 3, 1) := by decide +kernel
theorem dX10_digest_151 : decode cX10_digest 151 = .ok (.iload_n 3, 1) := by decide +kernel
theorem dX10_digest_152 : decode cX10_digest 152 = .ok (.aload_n 0, 1) := by decide +kernel
theorem dX10_digest_153 : decode cX10_digest 153 = .ok (.getfield 109, 3) := by decide +kernel
theorem dX10_digest_156 : decode cX10_digest 156 = .ok (.if_icmp .ge 40, 3) := by decide +kernel
theorem dX10_digest_159 : decode cX10_digest 159 = .ok (.ldc2_w 282, 3) := by decide +kernel
theorem dX10_digest_162 : decode cX10_digest 162 = .ok (.lload_n 1, 1) := by decide +kernel
theorem dX10_digest_163 : decode cX10_digest 163 = .ok (.lmul, 1) := by decide +kernel
theorem dX10_digest_164 : decode cX10_digest 164 = .ok (.aload_n 0, 1) := by decide +kernel
theorem dX10_digest_165 : decode cX10_digest 165 = .ok (.iconst 0, 1) := by decide +kernel
theorem dX10_digest_166 : decode cX10_digest 166 = .ok (.iload_n 3, 1) := by decide +kernel
theorem dX10_digest_167 : decode cX10_digest 167 = .ok (.invokevirtual 216, 3) := by decide +kernel
theorem dX10_digest_170 : decode cX10_digest 170 = .ok (.i2l, 1) := by decide +kernel
theorem dX10_digest_171 : decode cX10_digest 171 = .ok (.ladd, 1) := by decide +kernel
theorem dX10_digest_172 : decode cX10_digest 172 = .ok (.lstore_n 1, 1) := by decide +kernel
theorem dX10_digest_173 : decode cX10_digest 173 = .ok (.ldc2_w 282, 3) := by decide +kernel
theorem dX10_digest_176 : decode cX10_digest 176 = .ok (.lload_n 1, 1) := by decide +kernel
theorem dX10_digest_177 : decode cX10_digest 177 = .ok (.lmul, 1) := by decide +kernel
theorem dX10_digest_178 : decode cX10_digest 178 = .ok (.aload_n 0, 1) := by decide +kernel
theorem dX10_digest_179 : decode cX10_digest 179 = .ok (.iload_n 3, 1) := by decide +kernel
theorem dX10_digest_180 : decode cX10_digest 180 = .ok (.aload_n 0, 1) := by decide +kernel
theorem dX10_digest_181 : decode cX10_digest 181 = .ok (.getfield 109, 3) := by decide +kernel
theorem dX10_digest_184 : decode cX10_digest 184 = .ok (.invokevirtual 216, 3) := by decide +kernel
theorem dX10_digest_187 : decode cX10_digest 187 = .ok (.i2l, 1) := by decide +kernel
theorem dX10_digest_188 : decode cX10_digest 188 = .ok (.ladd, 1) := by decide +kernel
theorem dX10_digest_189 : decode cX10_digest 189 = .ok (.lstore_n 1, 1) := by decide +kernel
theorem dX10_digest_190 : decode cX10_digest 190 = .ok (.iinc 3 1, 3) := by decide +kernel
theorem dX10_digest_193 : decode cX10_digest 193 = .ok (.goto (-42), 3) := by decide +kernel
theorem dX10_digest_196 : decode cX10_digest 196 = .ok (.iconst 1, 1) := by decide +kernel
theorem dX10_digest_197 : decode cX10_digest 197 = .ok (.istore_n 3, 1) := by decide +kernel
theorem dX10_digest_198 : decode cX10_digest 198 = .ok (.iload_n 3, 1) := by decide +kernel
theorem dX10_digest_199 : decode cX10_digest 199 = .ok (.bipush 9, 2) := by decide +kernel
theorem dX10_digest_201 : decode cX10_digest 201 = .ok (.if_icmp .ge 16, 3) := by decide +kernel
theorem dX10_digest_204 : decode cX10_digest 204 = .ok (.aload_n 0, 1) := by decide +kernel
theorem dX10_digest_205 : decode cX10_digest 205 = .ok (.lload_n 1, 1) := by decide +kernel
theorem dX10_digest_206 : decode cX10_digest 206 = .ok (.iload_n 3, 1) := by decide +kernel
theorem dX10_digest_207 : decode cX10_digest 207 = .ok (.invokevirtual 311, 3) := by decide +kernel
theorem dX10_digest_210 : decode cX10_digest 210 = .ok (.lstore_n 1, 1) := by decide +kernel
theorem dX10_digest_211 : decode cX10_digest 211 = .ok (.iinc 3 1, 3) := by decide +kernel
theorem dX10_digest_214 : decode cX10_digest 214 = .ok (.goto (-16), 3) := by decide +kernel
theorem dX10_digest_217 : decode cX10_digest 217 = .ok (.ldc2_w 282, 3) := by decide +kernel
theorem dX10_digest_220 : decode cX10_digest 220 = .ok (.lload_n 1, 1) := by decide +kernel
theorem dX10_digest_221 : decode cX10_digest 221 = .ok (.lmul, 1) := by decide +kernel
theorem dX10_digest_222 : decode cX10_digest 222 = .ok (.aload_n 0, 1) := by decide +kernel
theorem dX10_digest_223 : decode cX10_digest 223 = .ok (.invokevirtual 246, 3) := by decide +kernel
theorem dX10_digest_226 : decode cX10_digest 226 = .ok (.i2l, 1) := by decide +kernel
theorem dX10_digest_227 : decode cX10_digest 227 = .ok (.ladd, 1) := by decide +kernel
theorem dX10_digest_228 : decode cX10_digest 228 = .ok (.lreturn, 1) := by decide +kernel
theorem dJ6_bitCount_0f7a4_0 : decode cJ6_bitCount_0f7a4 0 = .ok (.iload_n 0, 1) := by decide +kernel
theorem dJ6_bitCount_0f7a4_1 : decode cJ6_bitCount_0f7a4 1 = .ok (.iload_n 0, 1) := by decide +kernel
theorem dJ6_bitCount_0f7a4_2 : decode cJ6_bitCount_0f7a4 2 = .ok (.iconst 1, 1) := by decide +kernel
theorem dJ6_bitCount_0f7a4_3 : decode cJ6_bitCount_0f7a4 3 = .ok (.iushr, 1) := by decide +kernel
theorem dJ6_bitCount_0f7a4_4 : decode cJ6_bitCount_0f7a4 4 = .ok (.ldc_w 265, 3) := by decide +kernel
theorem dJ6_bitCount_0f7a4_7 : decode cJ6_bitCount_0f7a4 7 = .ok (.iand, 1) := by decide +kernel
theorem dJ6_bitCount_0f7a4_8 : decode cJ6_bitCount_0f7a4 8 = .ok (.isub, 1) := by decide +kernel
theorem dJ6_bitCount_0f7a4_9 : decode cJ6_bitCount_0f7a4 9 = .ok (.istore_n 0, 1) := by decide +kernel
theorem dJ6_bitCount_0f7a4_10 : decode cJ6_bitCount_0f7a4 10 = .ok (.iload_n 0, 1) := by decide +kernel
theorem dJ6_bitCount_0f7a4_11 : decode cJ6_bitCount_0f7a4 11 = .ok (.ldc_w 266, 3) := by decide +kernel
theorem dJ6_bitCount_0f7a4_14 : decode cJ6_bitCount_0f7a4 14 = .ok (.iand, 1) := by decide +kernel
theorem dJ6_bitCount_0f7a4_15 : decode cJ6_bitCount_0f7a4 15 = .ok (.iload_n 0, 1) := by decide +kernel
theorem dJ6_bitCount_0f7a4_16 : decode cJ6_bitCount_0f7a4 16 = .ok (.iconst 2, 1) := by decide +kernel
theorem dJ6_bitCount_0f7a4_17 : decode cJ6_bitCount_0f7a4 17 = .ok (.iushr, 1) := by decide +kernel
theorem dJ6_bitCount_0f7a4_18 : decode cJ6_bitCount_0f7a4 18 = .ok (.ldc_w 266, 3) := by decide +kernel
theorem dJ6_bitCount_0f7a4_21 : decode cJ6_bitCount_0f7a4 21 = .ok (.iand, 1) := by decide +kernel
theorem dJ6_bitCount_0f7a4_22 : decode cJ6_bitCount_0f7a4 22 = .ok (.iadd, 1) := by decide +kernel
theorem dJ6_bitCount_0f7a4_23 : decode cJ6_bitCount_0f7a4 23 = .ok (.istore_n 0, 1) := by decide +kernel
theorem dJ6_bitCount_0f7a4_24 : decode cJ6_bitCount_0f7a4 24 = .ok (.iload_n 0, 1) := by decide +kernel
theorem dJ6_bitCount_0f7a4_25 : decode cJ6_bitCount_0f7a4 25 = .ok (.iload_n 0, 1) := by decide +kernel
theorem dJ6_bitCount_0f7a4_26 : decode cJ6_bitCount_0f7a4 26 = .ok (.iconst 4, 1) := by decide +kernel
theorem dJ6_bitCount_0f7a4_27 : decode cJ6_bitCount_0f7a4 27 = .ok (.iushr, 1) := by decide +kernel
theorem dJ6_bitCount_0f7a4_28 : decode cJ6_bitCount_0f7a4 28 = .ok (.iadd, 1) := by decide +kernel
theorem dJ6_bitCount_0f7a4_29 : decode cJ6_bitCount_0f7a4 29 = .ok (.ldc_w 267, 3) := by decide +kernel
theorem dJ6_bitCount_0f7a4_32 : decode cJ6_bitCount_0f7a4 32 = .ok (.iand, 1) := by decide +kernel
theorem dJ6_bitCount_0f7a4_33 : decode cJ6_bitCount_0f7a4 33 = .ok (.istore_n 0, 1) := by decide +kernel
theorem dJ6_bitCount_0f7a4_34 : decode cJ6_bitCount_0f7a4 34 = .ok (.iload_n 0, 1) := by decide +kernel
theorem dJ6_bitCount_0f7a4_35 : decode cJ6_bitCount_0f7a4 35 = .ok (.iload_n 0, 1) := by decide +kernel
theorem dJ6_bitCount_0f7a4_36 : decode cJ6_bitCount_0f7a4 36 = .ok (.bipush 8, 2) := by decide +kernel
theorem dJ6_bitCount_0f7a4_38 : decode cJ6_bitCount_0f7a4 38 = .ok (.iushr, 1) := by decide +kernel
theorem dJ6_bitCount_0f7a4_39 : decode cJ6_bitCount_0f7a4 39 = .ok (.iadd, 1) := by decide +kernel
theorem dJ6_bitCount_0f7a4_40 : decode cJ6_bitCount_0f7a4 40 = .ok (.istore_n 0, 1) := by decide +kernel
theorem dJ6_bitCount_0f7a4_41 : decode cJ6_bitCount_0f7a4 41 = .ok (.iload_n 0, 1) := by decide +kernel
theorem dJ6_bitCount_0f7a4_42 : decode cJ6_bitCount_0f7a4 42 = .ok (.iload_n 0, 1) := by decide +kernel
theorem dJ6_bitCount_0f7a4_43 : decode cJ6_bitCount_0f7a4 43 = .ok (.bipush 16, 2) := by decide +kernel
theorem dJ6_bitCount_0f7a4_45 : decode cJ6_bitCount_0f7a4 45 = .ok (.iushr, 1) := by decide +kernel
theorem dJ6_bitCount_0f7a4_46 : decode cJ6_bitCount_0f7a4 46 = .ok (.iadd, 1) := by decide +kernel
theorem dJ6_bitCount_0f7a4_47 : decode cJ6_bitCount_0f7a4 47 = .ok (.istore_n 0, 1) := by decide +kernel
theorem dJ6_bitCount_0f7a4_48 : decode cJ6_bitCount_0f7a4 48 = .ok (.iload_n 0, 1) := by decide +kernel
theorem dJ6_bitCount_0f7a4_49 : decode cJ6_bitCount_0f7a4 49 = .ok (.bipush 63, 2) := by decide +kernel
theorem dJ6_bitCount_0f7a4_51 : decode cJ6_bitCount_0f7a4 51 = .ok (.iand, 1) := by decide +kernel
theorem dJ6_bitCount_0f7a4_52 : decode cJ6_bitCount_0f7a4 52 = .ok (.ireturn, 1) := by decide +kernel
theorem dJ9_max_7cf53_0 : decode cJ9_max_7cf53 0 = .ok (.iload_n 0, 1) := by decide +kernel
theorem dJ9_max_7cf53_1 : decode cJ9_max_7cf53 1 = .ok (.iload_n 1, 1) := by decide +kernel
theorem dJ9_max_7cf53_2 : decode cJ9_max_7cf53 2 = .ok (.if_icmp .lt 7, 3) := by decide +kernel
theorem dJ9_max_7cf53_5 : decode cJ9_max_7cf53 5 = .ok (.iload_n 0, 1) := by decide +kernel
theorem dJ9_max_7cf53_6 : decode cJ9_max_7cf53 6 = .ok (.goto 4, 3) := by decide +kernel
theorem dJ9_max_7cf53_9 : decode cJ9_max_7cf53 9 = .ok (.iload_n 1, 1) := by decide +kernel
theorem dJ9_max_7cf53_10 : decode cJ9_max_7cf53 10 = .ok (.ireturn, 1) := by decide +kernel
theorem dJ9_min_7cf53_0 : decode cJ9_min_7cf53 0 = .ok (.iload_n 0, 1) := by decide +kernel
theorem dJ9_min_7cf53_1 : decode cJ9_min_7cf53 1 = .ok (.iload_n 1, 1) := by decide +kernel
theorem dJ9_min_7cf53_2 : decode cJ9_min_7cf53 2 = .ok (.if_icmp .gt 7, 3) := by decide +kernel
theorem dJ9_min_7cf53_5 : decode cJ9_min_7cf53 5 = .ok (.iload_n 0, 1) := by decide +kernel
theorem dJ9_min_7cf53_6 : decode cJ9_min_7cf53 6 = .ok (.goto 4, 3) := by decide +kernel
theorem dJ9_min_7cf53_9 : decode cJ9_min_7cf53 9 = .ok (.iload_n 1, 1) := by decide +kernel
theorem dJ9_min_7cf53_10 : decode cJ9_min_7cf53 10 = .ok (.ireturn, 1) := by decide +kernel
theorem dL_law_0 : decode cL_law 0 = .ok (.new 7, 3) := by decide +kernel
theorem dL_law_3 : decode cL_law 3 = .ok (.dup, 1) := by decide +kernel
theorem dL_law_4 : decode cL_law 4 = .ok (.invokespecial 9, 3) := by decide +kernel
theorem dL_law_7 : decode cL_law 7 = .ok (.astore_n 1, 1) := by decide +kernel
theorem dL_law_8 : decode cL_law 8 = .ok (.new 10, 3) := by decide +kernel
theorem dL_law_11 : decode cL_law 11 = .ok (.dup, 1) := by decide +kernel
theorem dL_law_12 : decode cL_law 12 = .ok (.invokespecial 12, 3) := by decide +kernel
theorem dL_law_15 : decode cL_law 15 = .ok (.astore_n 2, 1) := by decide +kernel
theorem dL_law_16 : decode cL_law 16 = .ok (.iconst 0, 1) := by decide +kernel
theorem dL_law_17 : decode cL_law 17 = .ok (.istore_n 3, 1) := by decide +kernel
theorem dL_law_18 : decode cL_law 18 = .ok (.iload_n 3, 1) := by decide +kernel
theorem dL_law_19 : decode cL_law 19 = .ok (.aload_n 0, 1) := by decide +kernel
theorem dL_law_20 : decode cL_law 20 = .ok (.arraylength, 1) := by decide +kernel
theorem dL_law_21 : decode cL_law 21 = .ok (.bipush 6, 2) := by decide +kernel
theorem dL_law_23 : decode cL_law 23 = .ok (.isub, 1) := by decide +kernel
theorem dL_law_24 : decode cL_law 24 = .ok (.if_icmp .gt 1031, 3) := by decide +kernel
theorem dL_law_27 : decode cL_law 27 = .ok (.aload_n 0, 1) := by decide +kernel
theorem dL_law_28 : decode cL_law 28 = .ok (.iload_n 3, 1) := by decide +kernel
theorem dL_law_29 : decode cL_law 29 = .ok (.iaload, 1) := by decide +kernel
theorem dL_law_30 : decode cL_law 30 = .ok (.bipush 31, 2) := by decide +kernel
theorem dL_law_32 : decode cL_law 32 = .ok (.iand, 1) := by decide +kernel
theorem dL_law_33 : decode cL_law 33 = .ok (.tableswitch 1016 0 29 #[135, 158, 171, 184, 207, 240, 263, 286, 319, 352, 385, 418, 431, 464, 497, 530, 553, 586, 599, 632, 665, 688, 721, 764, 787, 840, 883, 946, 979, 1002], 135) := by decide +kernel
theorem dL_law_168 : decode cL_law 168 = .ok (.aload_n 1, 1) := by decide +kernel
theorem dL_law_169 : decode cL_law 169 = .ok (.aload_n 0, 1) := by decide +kernel
theorem dL_law_170 : decode cL_law 170 = .ok (.iload_n 3, 1) := by decide +kernel
theorem dL_law_171 : decode cL_law 171 = .ok (.iconst 1, 1) := by decide +kernel
theorem dL_law_172 : decode cL_law 172 = .ok (.iadd, 1) := by decide +kernel
theorem dL_law_173 : decode cL_law 173 = .ok (.iaload, 1) := by decide +kernel
theorem dL_law_174 : decode cL_law 174 = .ok (.invokevirtual 13, 3) := by decide +kernel
theorem dL_law_177 : decode cL_law 177 = .ok (.aload_n 2, 1) := by decide +kernel
theorem dL_law_178 : decode cL_law 178 = .ok (.aload_n 0, 1) := by decide +kernel
theorem dL_law_179 : decode cL_law 179 = .ok (.iload_n 3, 1) := by decide +kernel
theorem dL_law_180 : decode cL_law 180 = .ok (.iconst 1, 1) := by decide +kernel
theorem dL_law_181 : decode cL_law 181 = .ok (.iadd, 1) := by decide +kernel
theorem dL_law_182 : decode cL_law 182 = .ok (.iaload, 1) := by decide +kernel
theorem dL_law_183 : decode cL_law 183 = .ok (.invokevirtual 17, 3) := by decide +kernel
theorem dL_law_186 : decode cL_law 186 = .ok (.if_icmp .eq 863, 3) := by decide +kernel
theorem dL_law_189 : decode cL_law 189 = .ok (.iconst 0, 1) := by decide +kernel
theorem dL_law_190 : decode cL_law 190 = .ok (.ireturn, 1) := by decide +kernel
theorem dL_law_191 : decode cL_law 191 = .ok (.aload_n 1, 1) := by decide +kernel
theorem dL_law_192 : decode cL_law 192 = .ok (.invokevirtual 18, 3) := by decide +kernel
theorem dL_law_195 : decode cL_law 195 = .ok (.aload_n 2, 1) := by decide +kernel
theorem dL_law_196 : decode cL_law 196 = .ok (.invokevirtual 22, 3) := by decide +kernel
theorem dL_law_199 : decode cL_law 199 = .ok (.if_icmp .eq 850, 3) := by decide +kernel
theorem dL_law_202 : decode cL_law 202 = .ok (.iconst 0, 1) := by decide +kernel
theorem dL_law_203 : decode cL_law 203 = .ok (.ireturn, 1) := by decide +kernel
theorem dL_law_204 : decode cL_law 204 = .ok (.aload_n 1, 1) := by decide +kernel
theorem dL_law_205 : decode cL_law 205 = .ok (.invokevirtual 23, 3) := by decide +kernel
theorem dL_law_208 : decode cL_law 208 = .ok (.aload_n 2, 1) := by decide +kernel
theorem dL_law_209 : decode cL_law 209 = .ok (.invokevirtual 26, 3) := by decide +kernel
theorem dL_law_212 : decode cL_law 212 = .ok (.if_icmp .eq 837, 3) := by decide +kernel
theorem dL_law_215 : decode cL_law 215 = .ok (.iconst 0, 1) := by decide +kernel
theorem dL_law_216 : decode cL_law 216 = .ok (.ireturn, 1) := by decide +kernel
theorem dL_law_217 : decode cL_law 217 = .ok (.aload_n 1, 1) := by decide +kernel
theorem dL_law_218 : decode cL_law 218 = .ok (.aload_n 0, 1) := by decide +kernel
theorem dL_law_219 : decode cL_law 219 = .ok (.iload_n 3, 1) := by decide +kernel
theorem dL_law_220 : decode cL_law 220 = .ok (.iconst 1, 1) := by decide +kernel
theorem dL_law_221 : decode cL_law 221 = .ok (.iadd, 1) := by decide +kernel
theorem dL_law_222 : decode cL_law 222 = .ok (.iaload, 1) := by decide +kernel
theorem dL_law_223 : decode cL_law 223 = .ok (.invokevirtual 27, 3) := by decide +kernel
theorem dL_law_226 : decode cL_law 226 = .ok (.aload_n 2, 1) := by decide +kernel
theorem dL_law_227 : decode cL_law 227 = .ok (.aload_n 0, 1) := by decide +kernel
theorem dL_law_228 : decode cL_law 228 = .ok (.iload_n 3, 1) := by decide +kernel
theorem dL_law_229 : decode cL_law 229 = .ok (.iconst 1, 1) := by decide +kernel
theorem dL_law_230 : decode cL_law 230 = .ok (.iadd, 1) := by decide +kernel
theorem dL_law_231 : decode cL_law 231 = .ok (.iaload, 1) := by decide +kernel
theorem dL_law_232 : decode cL_law 232 = .ok (.invokevirtual 30, 3) := by decide +kernel
theorem dL_law_235 : decode cL_law 235 = .ok (.if_icmp .eq 814, 3) := by decide +kernel
theorem dL_law_238 : decode cL_law 238 = .ok (.iconst 0, 1) := by decide +kernel
theorem dL_law_239 : decode cL_law 239 = .ok (.ireturn, 1) := by decide +kernel
theorem dL_law_240 : decode cL_law 240 = .ok (.aload_n 1, 1) := by decide +kernel
theorem dL_law_241 : decode cL_law 241 = .ok (.aload_n 0, 1) := by decide +kernel
theorem dL_law_242 : decode cL_law 242 = .ok (.iload_n 3, 1) := by decide +kernel
theorem dL_law_243 : decode cL_law 243 = .ok (.iconst 1, 1) := by decide +kernel
theorem dL_law_244 : decode cL_law 244 = .ok (.iadd, 1) := by decide +kernel
theorem dL_law_245 : decode cL_law 245 = .ok (.iaload, 1) := by decide +kernel
theorem dL_law_246 : decode cL_law 246 = .ok (.aload_n 0, 1) := by decide +kernel
theorem dL_law_247 : decode cL_law 247 = .ok (.iload_n 3, 1) := by decide +kernel
theorem dL_law_248 : decode cL_law 248 = .ok (.iconst 2, 1) := by decide +kernel
theorem dL_law_249 : decode cL_law 249 = .ok (.iadd, 1) := by decide +kernel
theorem dL_law_250 : decode cL_law 250 = .ok (.iaload, 1) := by decide +kernel
theorem dL_law_251 : decode cL_law 251 = .ok (.invokevirtual 31, 3) := by decide +kernel
theorem dL_law_254 : decode cL_law 254 = .ok (.aload_n 2, 1) := by decide +kernel
theorem dL_law_255 : decode cL_law 255 = .ok (.aload_n 0, 1) := by decide +kernel
theorem dL_law_256 : decode cL_law 256 = .ok (.iload_n 3, 1) := by decide +kernel
theorem dL_law_257 : decode cL_law 257 = .ok (.iconst 1, 1) := by decide +kernel
theorem dL_law_258 : decode cL_law 258 = .ok (.iadd, 1) := by decide +kernel
theorem dL_law_259 : decode cL_law 259 = .ok (.iaload, 1) := by decide +kernel
theorem dL_law_260 : decode cL_law 260 = .ok (.aload_n 0, 1) := by decide +kernel
theorem dL_law_261 : decode cL_law 261 = .ok (.iload_n 3, 1) := by decide +kernel
theorem dL_law_262 : decode cL_law 262 = .ok (.iconst 2, 1) := by decide +kernel
theorem dL_law_263 : decode cL_law 263 = .ok (.iadd, 1) := by decide +kernel
theorem dL_law_264 : decode cL_law 264 = .ok (.iaload, 1) := by decide +kernel
theorem dL_law_265 : decode cL_law 265 = .ok (.invokevirtual 35, 3) := by decide +kernel
theorem dL_law_268 : decode cL_law 268 = .ok (.if_icmp .eq 781, 3) := by decide +kernel
theorem dL_law_271 : decode cL_law 271 = .ok (.iconst 0, 1) := by decide +kernel
theorem dL_law_272 : decode cL_law 272 = .ok (.ireturn, 1) := by decide +kernel
theorem dL_law_273 : decode cL_law 273 = .ok (.aload_n 1, 1) := by decide +kernel
theorem dL_law_274 : decode cL_law 274 = .ok (.aload_n 0, 1) := by decide +kernel
theorem dL_law_275 : decode cL_law 275 = .ok (.iload_n 3, 1) := by decide +kernel
theorem dL_law_276 : decode cL_law 276 = .ok (.iconst 1, 1) := by decide +kernel
theorem dL_law_277 : decode cL_law 277 = .ok (.iadd, 1) := by decide +kernel
theorem dL_law_278 : decode cL_law 278 = .ok (.iaload, 1) := by decide +kernel
theorem dL_law_279 : decode cL_law 279 = .ok (.invokevirtual 36, 3) := by decide +kernel
theorem dL_law_282 : decode cL_law 282 = .ok (.aload_n 2, 1) := by decide +kernel
theorem dL_law_283 : decode cL_law 283 = .ok (.aload_n 0, 1) := by decide +kernel
theorem dL_law_284 : decode cL_law 284 = .ok (.iload_n 3, 1) := by decide +kernel
theorem dL_law_285 : decode cL_law 285 = .ok (.iconst 1, 1) := by decide +kernel
theorem dL_law_286 : decode cL_law 286 = .ok (.iadd, 1) := by decide +kernel
theorem dL_law_287 : decode cL_law 287 = .ok (.iaload, 1) := by decide +kernel
theorem dL_law_288 : decode cL_law 288 = .ok (.invokevirtual 39, 3) := by decide +kernel
theorem dL_law_291 : decode cL_law 291 = .ok (.if_icmp .eq 758, 3) := by decide +kernel
theorem dL_law_294 : decode cL_law 294 = .ok (.iconst 0, 1) := by decide +kernel
theorem dL_law_295 : decode cL_law 295 = .ok (.ireturn, 1) := by decide +kernel
theorem dL_law_296 : decode cL_law 296 = .ok (.aload_n 1, 1) := by decide +kernel
theorem dL_law_297 : decode cL_law 297 = .ok (.aload_n 0, 1) := by decide +kernel
theorem dL_law_298 : decode cL_law 298 = .ok (.iload_n 3, 1) := by decide +kernel
theorem dL_law_299 : decode cL_law 299 = .ok (.iconst 1, 1) := by decide +kernel
theorem dL_law_300 : decode cL_law 300 = .ok (.iadd, 1) := by decide +kernel
theorem dL_law_301 : decode cL_law 301 = .ok (.iaload, 1) := by decide +kernel
theorem dL_law_302 : decode cL_law 302 = .ok (.invokevirtual 40, 3) := by decide +kernel
theorem dL_law_305 : decode cL_law 305 = .ok (.aload_n 2, 1) := by decide +kernel
theorem dL_law_306 : decode cL_law 306 = .ok (.aload_n 0, 1) := by decide +kernel
theorem dL_law_307 : decode cL_law 307 = .ok (.iload_n 3, 1) := by decide +kernel
theorem dL_law_308 : decode cL_law 308 = .ok (.iconst 1, 1) := by decide +kernel
theorem dL_law_309 : decode cL_law 309 = .ok (.iadd, 1) := by decide +kernel
theorem dL_law_310 : decode cL_law 310 = .ok (.iaload, 1) := by decide +kernel
theorem dL_law_311 : decode cL_law 311 = .ok (.invokevirtual 43, 3) := by decide +kernel
theorem dL_law_314 : decode cL_law 314 = .ok (.if_icmp .eq 735, 3) := by decide +kernel
theorem dL_law_317 : decode cL_law 317 = .ok (.iconst 0, 1) := by decide +kernel
theorem dL_law_318 : decode cL_law 318 = .ok (.ireturn, 1) := by decide +kernel
theorem dL_law_319 : decode cL_law 319 = .ok (.aload_n 1, 1) := by decide +kernel
theorem dL_law_320 : decode cL_law 320 = .ok (.aload_n 0, 1) := by decide +kernel
theorem dL_law_321 : decode cL_law 321 = .ok (.iload_n 3, 1) := by decide +kernel
theorem dL_law_322 : decode cL_law 322 = .ok (.iconst 1, 1) := by decide +kernel
theorem dL_law_323 : decode cL_law 323 = .ok (.iadd, 1) := by decide +kernel
theorem dL_law_324 : decode cL_law 324 = .ok (.iaload, 1) := by decide +kernel
theorem dL_law_325 : decode cL_law 325 = .ok (.aload_n 0, 1) := by decide +kernel
theorem dL_law_326 : decode cL_law 326 = .ok (.iload_n 3, 1) := by decide +kernel
theorem dL_law_327 : decode cL_law 327 = .ok (.iconst 2, 1) := by decide +kernel
theorem dL_law_328 : decode cL_law 328 = .ok (.iadd, 1) := by decide +kernel
theorem dL_law_329 : decode cL_law 329 = .ok (.iaload, 1) := by decide +kernel
theorem dL_law_330 : decode cL_law 330 = .ok (.invokevirtual 44, 3) := by decide +kernel
theorem dL_law_333 : decode cL_law 333 = .ok (.aload_n 2, 1) := by decide +kernel
theorem dL_law_334 : decode cL_law 334 = .ok (.aload_n 0, 1) := by decide +kernel
theorem dL_law_335 : decode cL_law 335 = .ok (.iload_n 3, 1) := by decide +kernel
theorem dL_law_336 : decode cL_law 336 = .ok (.iconst 1, 1) := by decide +kernel
theorem dL_law_337 : decode cL_law 337 = .ok (.iadd, 1) := by decide +kernel
theorem dL_law_338 : decode cL_law 338 = .ok (.iaload, 1) := by decide +kernel
theorem dL_law_339 : decode cL_law 339 = .ok (.aload_n 0, 1) := by decide +kernel
theorem dL_law_340 : decode cL_law 340 = .ok (.iload_n 3, 1) := by decide +kernel
theorem dL_law_341 : decode cL_law 341 = .ok (.iconst 2, 1) := by decide +kernel
theorem dL_law_342 : decode cL_law 342 = .ok (.iadd, 1) := by decide +kernel
theorem dL_law_343 : decode cL_law 343 = .ok (.iaload, 1) := by decide +kernel
theorem dL_law_344 : decode cL_law 344 = .ok (.invokevirtual 47, 3) := by decide +kernel
theorem dL_law_347 : decode cL_law 347 = .ok (.if_icmp .eq 702, 3) := by decide +kernel
theorem dL_law_350 : decode cL_law 350 = .ok (.iconst 0, 1) := by decide +kernel
theorem dL_law_351 : decode cL_law 351 = .ok (.ireturn, 1) := by decide +kernel
theorem dL_law_352 : decode cL_law 352 = .ok (.aload_n 1, 1) := by decide +kernel
theorem dL_law_353 : decode cL_law 353 = .ok (.aload_n 0, 1) := by decide +kernel
theorem dL_law_354 : decode cL_law 354 = .ok (.iload_n 3, 1) := by decide +kernel
theorem dL_law_355 : decode cL_law 355 = .ok (.iconst 1, 1) := by decide +kernel
theorem dL_law_356 : decode cL_law 356 = .ok (.iadd, 1) := by decide +kernel
theorem dL_law_357 : decode cL_law 357 = .ok (.iaload, 1) := by decide +kernel
theorem dL_law_358 : decode cL_law 358 = .ok (.aload_n 0, 1) := by decide +kernel
theorem dL_law_359 : decode cL_law 359 = .ok (.iload_n 3, 1) := by decide +kernel
theorem dL_law_360 : decode cL_law 360 = .ok (.iconst 2, 1) := by decide +kernel
theorem dL_law_361 : decode cL_law 361 = .ok (.iadd, 1) := by decide +kernel
theorem dL_law_362 : decode cL_law 362 = .ok (.iaload, 1) := by decide +kernel
theorem dL_law_363 : decode cL_law 363 = .ok (.invokevirtual 48, 3) := by decide +kernel
theorem dL_law_366 : decode cL_law 366 = .ok (.aload_n 2, 1) := by decide +kernel
theorem dL_law_367 : decode cL_law 367 = .ok (.aload_n 0, 1) := by decide +kernel
theorem dL_law_368 : decode cL_law 368 = .ok (.iload_n 3, 1) := by decide +kernel
theorem dL_law_369 : decode cL_law 369 = .ok (.iconst 1, 1) := by decide +kernel
theorem dL_law_370 : decode cL_law 370 = .ok (.iadd, 1) := by decide +kernel
theorem dL_law_371 : decode cL_law 371 = .ok (.iaload, 1) := by decide +kernel
theorem dL_law_372 : decode cL_law 372 = .ok (.aload_n 0, 1) := by decide +kernel
theorem dL_law_373 : decode cL_law 373 = .ok (.iload_n 3, 1) := by decide +kernel
theorem dL_law_374 : decode cL_law 374 = .ok (.iconst 2, 1) := by decide +kernel
theorem dL_law_375 : decode cL_law 375 = .ok (.iadd, 1) := by decide +kernel
theorem dL_law_376 : decode cL_law 376 = .ok (.iaload, 1) := by decide +kernel
theorem dL_law_377 : decode cL_law 377 = .ok (.invokevirtual 51, 3) := by decide +kernel
theorem dL_law_380 : decode cL_law 380 = .ok (.if_icmp .eq 669, 3) := by decide +kernel
theorem dL_law_383 : decode cL_law 383 = .ok (.iconst 0, 1) := by decide +kernel
theorem dL_law_384 : decode cL_law 384 = .ok (.ireturn, 1) := by decide +kernel
theorem dL_law_385 : decode cL_law 385 = .ok (.aload_n 1, 1) := by decide +kernel
theorem dL_law_386 : decode cL_law 386 = .ok (.aload_n 0, 1) := by decide +kernel
theorem dL_law_387 : decode cL_law 387 = .ok (.iload_n 3, 1) := by decide +kernel
theorem dL_law_388 : decode cL_law 388 = .ok (.iconst 1, 1) := by decide +kernel
theorem dL_law_389 : decode cL_law 389 = .ok (.iadd, 1) := by decide +kernel
theorem dL_law_390 : decode cL_law 390 = .ok (.iaload, 1) := by decide +kernel
theorem dL_law_391 : decode cL_law 391 = .ok (.aload_n 0, 1) := by decide +kernel
theorem dL_law_392 : decode cL_law 392 = .ok (.iload_n 3, 1) := by decide +kernel
theorem dL_law_393 : decode cL_law 393 = .ok (.iconst 2, 1) := by decide +kernel
theorem dL_law_394 : decode cL_law 394 = .ok (.iadd, 1) := by decide +kernel
theorem dL_law_395 : decode cL_law 395 = .ok (.iaload, 1) := by decide +kernel
theorem dL_law_396 : decode cL_law 396 = .ok (.invokevirtual 52, 3) := by decide +kernel
theorem dL_law_399 : decode cL_law 399 = .ok (.aload_n 2, 1) := by decide +kernel
theorem dL_law_400 : decode cL_law 400 = .ok (.aload_n 0, 1) := by decide +kernel
theorem dL_law_401 : decode cL_law 401 = .ok (.iload_n 3, 1) := by decide +kernel
theorem dL_law_402 : decode cL_law 402 = .ok (.iconst 1, 1) := by decide +kernel
theorem dL_law_403 : decode cL_law 403 = .ok (.iadd, 1) := by decide +kernel
theorem dL_law_404 : decode cL_law 404 = .ok (.iaload, 1) := by decide +kernel
theorem dL_law_405 : decode cL_law 405 = .ok (.aload_n 0, 1) := by decide +kernel
theorem dL_law_406 : decode cL_law 406 = .ok (.iload_n 3, 1) := by decide +kernel
theorem dL_law_407 : decode cL_law 407 = .ok (.iconst 2, 1) := by decide +kernel
theorem dL_law_408 : decode cL_law 408 = .ok (.iadd, 1) := by decide +kernel
theorem dL_law_409 : decode cL_law 409 = .ok (.iaload, 1) := by decide +kernel
theorem dL_law_410 : decode cL_law 410 = .ok (.invokevirtual 55, 3) := by decide +kernel
theorem dL_law_413 : decode cL_law 413 = .ok (.if_icmp .eq 636, 3) := by decide +kernel
theorem dL_law_416 : decode cL_law 416 = .ok (.iconst 0, 1) := by decide +kernel
theorem dL_law_417 : decode cL_law 417 = .ok (.ireturn, 1) := by decide +kernel
theorem dL_law_418 : decode cL_law 418 = .ok (.aload_n 1, 1) := by decide +kernel
theorem dL_law_419 : decode cL_law 419 = .ok (.aload_n 0, 1) := by decide +kernel
theorem dL_law_420 : decode cL_law 420 = .ok (.iload_n 3, 1) := by decide +kernel
theorem dL_law_421 : decode cL_law 421 = .ok (.iconst 1, 1) := by decide +kernel
theorem dL_law_422 : decode cL_law 422 = .ok (.iadd, 1) := by decide +kernel
theorem dL_law_423 : decode cL_law 423 = .ok (.iaload, 1) := by decide +kernel
theorem dL_law_424 : decode cL_law 424 = .ok (.aload_n 0, 1) := by decide +kernel
theorem dL_law_425 : decode cL_law 425 = .ok (.iload_n 3, 1) := by decide +kernel
theorem dL_law_426 : decode cL_law 426 = .ok (.iconst 2, 1) := by decide +kernel
theorem dL_law_427 : decode cL_law 427 = .ok (.iadd, 1) := by decide +kernel
theorem dL_law_428 : decode cL_law 428 = .ok (.iaload, 1) := by decide +kernel
theorem dL_law_429 : decode cL_law 429 = .ok (.invokevirtual 56, 3) := by decide +kernel
theorem dL_law_432 : decode cL_law 432 = .ok (.aload_n 2, 1) := by decide +kernel
theorem dL_law_433 : decode cL_law 433 = .ok (.aload_n 0, 1) := by decide +kernel
theorem dL_law_434 : decode cL_law 434 = .ok (.iload_n 3, 1) := by decide +kernel
theorem dL_law_435 : decode cL_law 435 = .ok (.iconst 1, 1) := by decide +kernel
theorem dL_law_436 : decode cL_law 436 = .ok (.iadd, 1) := by decide +kernel
theorem dL_law_437 : decode cL_law 437 = .ok (.iaload, 1) := by decide +kernel
theorem dL_law_438 : decode cL_law 438 = .ok (.aload_n 0, 1) := by decide +kernel
theorem dL_law_439 : decode cL_law 439 = .ok (.iload_n 3, 1) := by decide +kernel
theorem dL_law_440 : decode cL_law 440 = .ok (.iconst 2, 1) := by decide +kernel
theorem dL_law_441 : decode cL_law 441 = .ok (.iadd, 1) := by decide +kernel
theorem dL_law_442 : decode cL_law 442 = .ok (.iaload, 1) := by decide +kernel
theorem dL_law_443 : decode cL_law 443 = .ok (.invokevirtual 59, 3) := by decide +kernel
theorem dL_law_446 : decode cL_law 446 = .ok (.if_icmp .eq 603, 3) := by decide +kernel
theorem dL_law_449 : decode cL_law 449 = .ok (.iconst 0, 1) := by decide +kernel
theorem dL_law_450 : decode cL_law 450 = .ok (.ireturn, 1) := by decide +kernel
theorem dL_law_451 : decode cL_law 451 = .ok (.aload_n 1, 1) := by decide +kernel
theorem dL_law_452 : decode cL_law 452 = .ok (.invokevirtual 60, 3) := by decide +kernel
theorem dL_law_455 : decode cL_law 455 = .ok (.aload_n 2, 1) := by decide +kernel
theorem dL_law_456 : decode cL_law 456 = .ok (.invokevirtual 63, 3) := by decide +kernel
theorem dL_law_459 : decode cL_law 459 = .ok (.if_icmp .eq 590, 3) := by decide +kernel
theorem dL_law_462 : decode cL_law 462 = .ok (.iconst 0, 1) := by decide +kernel
theorem dL_law_463 : decode cL_law 463 = .ok (.ireturn, 1) := by decide +kernel
theorem dL_law_464 : decode cL_law 464 = .ok (.aload_n 1, 1) := by decide +kernel
theorem dL_law_465 : decode cL_law 465 = .ok (.aload_n 0, 1) := by decide +kernel
theorem dL_law_466 : decode cL_law 466 = .ok (.iload_n 3, 1) := by decide +kernel
theorem dL_law_467 : decode cL_law 467 = .ok (.iconst 1, 1) := by decide +kernel
theorem dL_law_468 : decode cL_law 468 = .ok (.iadd, 1) := by decide +kernel
theorem dL_law_469 : decode cL_law 469 = .ok (.iaload, 1) := by decide +kernel
theorem dL_law_470 : decode cL_law 470 = .ok (.aload_n 0, 1) := by decide +kernel
theorem dL_law_471 : decode cL_law 471 = .ok (.iload_n 3, 1) := by decide +kernel
theorem dL_law_472 : decode cL_law 472 = .ok (.iconst 2, 1) := by decide +kernel
theorem dL_law_473 : decode cL_law 473 = .ok (.iadd, 1) := by decide +kernel
theorem dL_law_474 : decode cL_law 474 = .ok (.iaload, 1) := by decide +kernel
theorem dL_law_475 : decode cL_law 475 = .ok (.invokevirtual 64, 3) := by decide +kernel
theorem dL_law_478 : decode cL_law 478 = .ok (.aload_n 2, 1) := by decide +kernel
theorem dL_law_479 : decode cL_law 479 = .ok (.aload_n 0, 1) := by decide +kernel
theorem dL_law_480 : decode cL_law 480 = .ok (.iload_n 3, 1) := by decide +kernel
theorem dL_law_481 : decode cL_law 481 = .ok (.iconst 1, 1) := by decide +kernel
theorem dL_law_482 : decode cL_law 482 = .ok (.iadd, 1) := by decide +kernel
theorem dL_law_483 : decode cL_law 483 = .ok (.iaload, 1) := by decide +kernel
theorem dL_law_484 : decode cL_law 484 = .ok (.aload_n 0, 1) := by decide +kernel
theorem dL_law_485 : decode cL_law 485 = .ok (.iload_n 3, 1) := by decide +kernel
theorem dL_law_486 : decode cL_law 486 = .ok (.iconst 2, 1) := by decide +kernel
theorem dL_law_487 : decode cL_law 487 = .ok (.iadd, 1) := by decide +kernel
theorem dL_law_488 : decode cL_law 488 = .ok (.iaload, 1) := by decide +kernel
theorem dL_law_489 : decode cL_law 489 = .ok (.invokevirtual 67, 3) := by decide +kernel
theorem dL_law_492 : decode cL_law 492 = .ok (.if_icmp .eq 557, 3) := by decide +kernel
theorem dL_law_495 : decode cL_law 495 = .ok (.iconst 0, 1) := by decide +kernel
theorem dL_law_496 : decode cL_law 496 = .ok (.ireturn, 1) := by decide +kernel
theorem dL_law_497 : decode cL_law 497 = .ok (.aload_n 1, 1) := by decide +kernel
theorem dL_law_498 : decode cL_law 498 = .ok (.aload_n 0, 1) := by decide +kernel
theorem dL_law_499 : decode cL_law 499 = .ok (.iload_n 3, 1) := by decide +kernel
theorem dL_law_500 : decode cL_law 500 = .ok (.iconst 1, 1) := by decide +kernel
theorem dL_law_501 : decode cL_law 501 = .ok (.iadd, 1) := by decide +kernel
theorem dL_law_502 : decode cL_law 502 = .ok (.iaload, 1) := by decide +kernel
theorem dL_law_503 : decode cL_law 503 = .ok (.aload_n 0, 1) := by decide +kernel
theorem dL_law_504 : decode cL_law 504 = .ok (.iload_n 3, 1) := by decide +kernel
theorem dL_law_505 : decode cL_law 505 = .ok (.iconst 2, 1) := by decide +kernel
theorem dL_law_506 : decode cL_law 506 = .ok (.iadd, 1) := by decide +kernel
theorem dL_law_507 : decode cL_law 507 = .ok (.iaload, 1) := by decide +kernel
theorem dL_law_508 : decode cL_law 508 = .ok (.invokevirtual 68, 3) := by decide +kernel
theorem dL_law_511 : decode cL_law 511 = .ok (.aload_n 2, 1) := by decide +kernel
theorem dL_law_512 : decode cL_law 512 = .ok (.aload_n 0, 1) := by decide +kernel
theorem dL_law_513 : decode cL_law 513 = .ok (.iload_n 3, 1) := by decide +kernel
theorem dL_law_514 : decode cL_law 514 = .ok (.iconst 1, 1) := by decide +kernel
theorem dL_law_515 : decode cL_law 515 = .ok (.iadd, 1) := by decide +kernel
theorem dL_law_516 : decode cL_law 516 = .ok (.iaload, 1) := by decide +kernel
theorem dL_law_517 : decode cL_law 517 = .ok (.aload_n 0, 1) := by decide +kernel
theorem dL_law_518 : decode cL_law 518 = .ok (.iload_n 3, 1) := by decide +kernel
theorem dL_law_519 : decode cL_law 519 = .ok (.iconst 2, 1) := by decide +kernel
theorem dL_law_520 : decode cL_law 520 = .ok (.iadd, 1) := by decide +kernel
theorem dL_law_521 : decode cL_law 521 = .ok (.iaload, 1) := by decide +kernel
theorem dL_law_522 : decode cL_law 522 = .ok (.invokevirtual 71, 3) := by decide +kernel
theorem dL_law_525 : decode cL_law 525 = .ok (.if_icmp .eq 524, 3) := by decide +kernel
theorem dL_law_528 : decode cL_law 528 = .ok (.iconst 0, 1) := by decide +kernel
theorem dL_law_529 : decode cL_law 529 = .ok (.ireturn, 1) := by decide +kernel
theorem dL_law_530 : decode cL_law 530 = .ok (.aload_n 1, 1) := by decide +kernel
theorem dL_law_531 : decode cL_law 531 = .ok (.aload_n 0, 1) := by decide +kernel
theorem dL_law_532 : decode cL_law 532 = .ok (.iload_n 3, 1) := by decide +kernel
theorem dL_law_533 : decode cL_law 533 = .ok (.iconst 1, 1) := by decide +kernel
theorem dL_law_534 : decode cL_law 534 = .ok (.iadd, 1) := by decide +kernel
theorem dL_law_535 : decode cL_law 535 = .ok (.iaload, 1) := by decide +kernel
theorem dL_law_536 : decode cL_law 536 = .ok (.aload_n 0, 1) := by decide +kernel
theorem dL_law_537 : decode cL_law 537 = .ok (.iload_n 3, 1) := by decide +kernel
theorem dL_law_538 : decode cL_law 538 = .ok (.iconst 2, 1) := by decide +kernel
theorem dL_law_539 : decode cL_law 539 = .ok (.iadd, 1) := by decide +kernel
theorem dL_law_540 : decode cL_law 540 = .ok (.iaload, 1) := by decide +kernel
theorem dL_law_541 : decode cL_law 541 = .ok (.invokevirtual 72, 3) := by decide +kernel
theorem dL_law_544 : decode cL_law 544 = .ok (.aload_n 2, 1) := by decide +kernel
theorem dL_law_545 : decode cL_law 545 = .ok (.aload_n 0, 1) := by decide +kernel
theorem dL_law_546 : decode cL_law 546 = .ok (.iload_n 3, 1) := by decide +kernel
theorem dL_law_547 : decode cL_law 547 = .ok (.iconst 1, 1) := by decide +kernel
theorem dL_law_548 : decode cL_law 548 = .ok (.iadd, 1) := by decide +kernel
theorem dL_law_549 : decode cL_law 549 = .ok (.iaload, 1) := by decide +kernel
theorem dL_law_550 : decode cL_law 550 = .ok (.aload_n 0, 1) := by decide +kernel
theorem dL_law_551 : decode cL_law 551 = .ok (.iload_n 3, 1) := by decide +kernel
theorem dL_law_552 : decode cL_law 552 = .ok (.iconst 2, 1) := by decide +kernel
theorem dL_law_553 : decode cL_law 553 = .ok (.iadd, 1) := by decide +kernel
theorem dL_law_554 : decode cL_law 554 = .ok (.iaload, 1) := by decide +kernel
theorem dL_law_555 : decode cL_law 555 = .ok (.invokevirtual 75, 3) := by decide +kernel
theorem dL_law_558 : decode cL_law 558 = .ok (.if_icmp .eq 491, 3) := by decide +kernel
theorem dL_law_561 : decode cL_law 561 = .ok (.iconst 0, 1) := by decide +kernel
theorem dL_law_562 : decode cL_law 562 = .ok (.ireturn, 1) := by decide +kernel
theorem dL_law_563 : decode cL_law 563 = .ok (.aload_n 1, 1) := by decide +kernel
theorem dL_law_564 : decode cL_law 564 = .ok (.aload_n 0, 1) := by decide +kernel
theorem dL_law_565 : decode cL_law 565 = .ok (.iload_n 3, 1) := by decide +kernel
theorem dL_law_566 : decode cL_law 566 = .ok (.iconst 1, 1) := by decide +kernel
theorem dL_law_567 : decode cL_law 567 = .ok (.iadd, 1) := by decide +kernel
theorem dL_law_568 : decode cL_law 568 = .ok (.iaload, 1) := by decide +kernel
theorem dL_law_569 : decode cL_law 569 = .ok (.invokevirtual 76, 3) := by decide +kernel
theorem dL_law_572 : decode cL_law 572 = .ok (.aload_n 2, 1) := by decide +kernel
theorem dL_law_573 : decode cL_law 573 = .ok (.aload_n 0, 1) := by decide +kernel
theorem dL_law_574 : decode cL_law 574 = .ok (.iload_n 3, 1) := by decide +kernel
theorem dL_law_575 : decode cL_law 575 = .ok (.iconst 1, 1) := by decide +kernel
theorem dL_law_576 : decode cL_law 576 = .ok (.iadd, 1) := by decide +kernel
theorem dL_law_577 : decode cL_law 577 = .ok (.iaload, 1) := by decide +kernel
theorem dL_law_578 : decode cL_law 578 = .ok (.invokevirtual 79, 3) := by decide +kernel
theorem dL_law_581 : decode cL_law 581 = .ok (.if_icmp .eq 468, 3) := by decide +kernel
theorem dL_law_584 : decode cL_law 584 = .ok (.iconst 0, 1) := by decide +kernel
theorem dL_law_585 : decode cL_law 585 = .ok (.ireturn, 1) := by decide +kernel
theorem dL_law_586 : decode cL_law 586 = .ok (.aload_n 1, 1) := by decide +kernel
theorem dL_law_587 : decode cL_law 587 = .ok (.aload_n 0, 1) := by decide +kernel
theorem dL_law_588 : decode cL_law 588 = .ok (.iload_n 3, 1) := by decide +kernel
theorem dL_law_589 : decode cL_law 589 = .ok (.iconst 1, 1) := by decide +kernel
theorem dL_law_590 : decode cL_law 590 = .ok (.iadd, 1) := by decide +kernel
theorem dL_law_591 : decode cL_law 591 = .ok (.iaload, 1) := by decide +kernel
theorem dL_law_592 : decode cL_law 592 = .ok (.aload_n 0, 1) := by decide +kernel
theorem dL_law_593 : decode cL_law 593 = .ok (.iload_n 3, 1) := by decide +kernel
theorem dL_law_594 : decode cL_law 594 = .ok (.iconst 2, 1) := by decide +kernel
theorem dL_law_595 : decode cL_law 595 = .ok (.iadd, 1) := by decide +kernel
theorem dL_law_596 : decode cL_law 596 = .ok (.iaload, 1) := by decide +kernel
theorem dL_law_597 : decode cL_law 597 = .ok (.invokevirtual 80, 3) := by decide +kernel
theorem dL_law_600 : decode cL_law 600 = .ok (.aload_n 2, 1) := by decide +kernel
theorem dL_law_601 : decode cL_law 601 = .ok (.aload_n 0, 1) := by decide +kernel
theorem dL_law_602 : decode cL_law 602 = .ok (.iload_n 3, 1) := by decide +kernel
theorem dL_law_603 : decode cL_law 603 = .ok (.iconst 1, 1) := by decide +kernel
theorem dL_law_604 : decode cL_law 604 = .ok (.iadd, 1) := by decide +kernel
theorem dL_law_605 : decode cL_law 605 = .ok (.iaload, 1) := by decide +kernel
theorem dL_law_606 : decode cL_law 606 = .ok (.aload_n 0, 1) := by decide +kernel
theorem dL_law_607 : decode cL_law 607 = .ok (.iload_n 3, 1) := by decide +kernel
theorem dL_law_608 : decode cL_law 608 = .ok (.iconst 2, 1) := by decide +kernel
theorem dL_law_609 : decode cL_law 609 = .ok (.iadd, 1) := by decide +kernel
theorem dL_law_610 : decode cL_law 610 = .ok (.iaload, 1) := by decide +kernel
theorem dL_law_611 : decode cL_law 611 = .ok (.invokevirtual 83, 3) := by decide +kernel
theorem dL_law_614 : decode cL_law 614 = .ok (.if_icmp .eq 435, 3) := by decide +kernel
theorem dL_law_617 : decode cL_law 617 = .ok (.iconst 0, 1) := by decide +kernel
theorem dL_law_618 : decode cL_law 618 = .ok (.ireturn, 1) := by decide +kernel
theorem dL_law_619 : decode cL_law 619 = .ok (.aload_n 1, 1) := by decide +kernel
theorem dL_law_620 : decode cL_law 620 = .ok (.invokevirtual 84, 3) := by decide +kernel
theorem dL_law_623 : decode cL_law 623 = .ok (.aload_n 2, 1) := by decide +kernel
theorem dL_law_624 : decode cL_law 624 = .ok (.invokevirtual 87, 3) := by decide +kernel
theorem dL_law_627 : decode cL_law 627 = .ok (.if_icmp .eq 422, 3) := by decide +kernel
theorem dL_law_630 : decode cL_law 630 = .ok (.iconst 0, 1) := by decide +kernel
theorem dL_law_631 : decode cL_law 631 = .ok (.ireturn, 1) := by decide +kernel
theorem dL_law_632 : decode cL_law 632 = .ok (.aload_n 1, 1) := by decide +kernel
theorem dL_law_633 : decode cL_law 633 = .ok (.aload_n 0, 1) := by decide +kernel
theorem dL_law_634 : decode cL_law 634 = .ok (.iload_n 3, 1) := by decide +kernel
theorem dL_law_635 : decode cL_law 635 = .ok (.iconst 1, 1) := by decide +kernel
theorem dL_law_636 : decode cL_law 636 = .ok (.iadd, 1) := by decide +kernel
theorem dL_law_637 : decode cL_law 637 = .ok (.iaload, 1) := by decide +kernel
theorem dL_law_638 : decode cL_law 638 = .ok (.aload_n 0, 1) := by decide +kernel
theorem dL_law_639 : decode cL_law 639 = .ok (.iload_n 3, 1) := by decide +kernel
theorem dL_law_640 : decode cL_law 640 = .ok (.iconst 2, 1) := by decide +kernel
theorem dL_law_641 : decode cL_law 641 = .ok (.iadd, 1) := by decide +kernel
theorem dL_law_642 : decode cL_law 642 = .ok (.iaload, 1) := by decide +kernel
theorem dL_law_643 : decode cL_law 643 = .ok (.invokevirtual 88, 3) := by decide +kernel
theorem dL_law_646 : decode cL_law 646 = .ok (.aload_n 2, 1) := by decide +kernel
theorem dL_law_647 : decode cL_law 647 = .ok (.aload_n 0, 1) := by decide +kernel
theorem dL_law_648 : decode cL_law 648 = .ok (.iload_n 3, 1) := by decide +kernel
theorem dL_law_649 : decode cL_law 649 = .ok (.iconst 1, 1) := by decide +kernel
theorem dL_law_650 : decode cL_law 650 = .ok (.iadd, 1) := by decide +kernel
theorem dL_law_651 : decode cL_law 651 = .ok (.iaload, 1) := by decide +kernel
theorem dL_law_652 : decode cL_law 652 = .ok (.aload_n 0, 1) := by decide +kernel
theorem dL_law_653 : decode cL_law 653 = .ok (.iload_n 3, 1) := by decide +kernel
theorem dL_law_654 : decode cL_law 654 = .ok (.iconst 2, 1) := by decide +kernel
theorem dL_law_655 : decode cL_law 655 = .ok (.iadd, 1) := by decide +kernel
theorem dL_law_656 : decode cL_law 656 = .ok (.iaload, 1) := by decide +kernel
theorem dL_law_657 : decode cL_law 657 = .ok (.invokevirtual 91, 3) := by decide +kernel
theorem dL_law_660 : decode cL_law 660 = .ok (.if_icmp .eq 389, 3) := by decide +kernel
theorem dL_law_663 : decode cL_law 663 = .ok (.iconst 0, 1) := by decide +kernel
theorem dL_law_664 : decode cL_law 664 = .ok (.ireturn, 1) := by decide +kernel
theorem dL_law_665 : decode cL_law 665 = .ok (.aload_n 1, 1) := by decide +kernel
theorem dL_law_666 : decode cL_law 666 = .ok (.aload_n 0, 1) := by decide +kernel
theorem dL_law_667 : decode cL_law 667 = .ok (.iload_n 3, 1) := by decide +kernel
theorem dL_law_668 : decode cL_law 668 = .ok (.iconst 1, 1) := by decide +kernel
theorem dL_law_669 : decode cL_law 669 = .ok (.iadd, 1) := by decide +kernel
theorem dL_law_670 : decode cL_law 670 = .ok (.iaload, 1) := by decide +kernel
theorem dL_law_671 : decode cL_law 671 = .ok (.aload_n 0, 1) := by decide +kernel
theorem dL_law_672 : decode cL_law 672 = .ok (.iload_n 3, 1) := by decide +kernel
theorem dL_law_673 : decode cL_law 673 = .ok (.iconst 2, 1) := by decide +kernel
theorem dL_law_674 : decode cL_law 674 = .ok (.iadd, 1) := by decide +kernel
theorem dL_law_675 : decode cL_law 675 = .ok (.iaload, 1) := by decide +kernel
theorem dL_law_676 : decode cL_law 676 = .ok (.invokevirtual 92, 3) := by decide +kernel
theorem dL_law_679 : decode cL_law 679 = .ok (.aload_n 2, 1) := by decide +kernel
theorem dL_law_680 : decode cL_law 680 = .ok (.aload_n 0, 1) := by decide +kernel
theorem dL_law_681 : decode cL_law 681 = .ok (.iload_n 3, 1) := by decide +kernel
theorem dL_law_682 : decode cL_law 682 = .ok (.iconst 1, 1) := by decide +kernel
theorem dL_law_683 : decode cL_law 683 = .ok (.iadd, 1) := by decide +kernel
theorem dL_law_684 : decode cL_law 684 = .ok (.iaload, 1) := by decide +kernel
theorem dL_law_685 : decode cL_law 685 = .ok (.aload_n 0, 1) := by decide +kernel
theorem dL_law_686 : decode cL_law 686 = .ok (.iload_n 3, 1) := by decide +kernel
theorem dL_law_687 : decode cL_law 687 = .ok (.iconst 2, 1) := by decide +kernel
theorem dL_law_688 : decode cL_law 688 = .ok (.iadd, 1) := by decide +kernel
theorem dL_law_689 : decode cL_law 689 = .ok (.iaload, 1) := by decide +kernel
theorem dL_law_690 : decode cL_law 690 = .ok (.invokevirtual 95, 3) := by decide +kernel
theorem dL_law_693 : decode cL_law 693 = .ok (.if_icmp .eq 356, 3) := by decide +kernel
theorem dL_law_696 : decode cL_law 696 = .ok (.iconst 0, 1) := by decide +kernel
theorem dL_law_697 : decode cL_law 697 = .ok (.ireturn, 1) := by decide +kernel
theorem dL_law_698 : decode cL_law 698 = .ok (.aload_n 1, 1) := by decide +kernel
theorem dL_law_699 : decode cL_law 699 = .ok (.aload_n 0, 1) := by decide +kernel
theorem dL_law_700 : decode cL_law 700 = .ok (.iload_n 3, 1) := by decide +kernel
theorem dL_law_701 : decode cL_law 701 = .ok (.iconst 1, 1) := by decide +kernel
theorem dL_law_702 : decode cL_law 702 = .ok (.iadd, 1) := by decide +kernel
theorem dL_law_703 : decode cL_law 703 = .ok (.iaload, 1) := by decide +kernel
theorem dL_law_704 : decode cL_law 704 = .ok (.invokevirtual 96, 3) := by decide +kernel
theorem dL_law_707 : decode cL_law 707 = .ok (.aload_n 2, 1) := by decide +kernel
theorem dL_law_708 : decode cL_law 708 = .ok (.aload_n 0, 1) := by decide +kernel
theorem dL_law_709 : decode cL_law 709 = .ok (.iload_n 3, 1) := by decide +kernel
theorem dL_law_710 : decode cL_law 710 = .ok (.iconst 1, 1) := by decide +kernel
theorem dL_law_711 : decode cL_law 711 = .ok (.iadd, 1) := by decide +kernel
theorem dL_law_712 : decode cL_law 712 = .ok (.iaload, 1) := by decide +kernel
theorem dL_law_713 : decode cL_law 713 = .ok (.invokevirtual 99, 3) := by decide +kernel
theorem dL_law_716 : decode cL_law 716 = .ok (.if_icmp .eq 333, 3) := by decide +kernel
theorem dL_law_719 : decode cL_law 719 = .ok (.iconst 0, 1) := by decide +kernel
theorem dL_law_720 : decode cL_law 720 = .ok (.ireturn, 1) := by decide +kernel
theorem dL_law_721 : decode cL_law 721 = .ok (.aload_n 1, 1) := by decide +kernel
theorem dL_law_722 : decode cL_law 722 = .ok (.aload_n 0, 1) := by decide +kernel
theorem dL_law_723 : decode cL_law 723 = .ok (.iload_n 3, 1) := by decide +kernel
theorem dL_law_724 : decode cL_law 724 = .ok (.iconst 1, 1) := by decide +kernel
theorem dL_law_725 : decode cL_law 725 = .ok (.iadd, 1) := by decide +kernel
theorem dL_law_726 : decode cL_law 726 = .ok (.iaload, 1) := by decide +kernel
theorem dL_law_727 : decode cL_law 727 = .ok (.aload_n 0, 1) := by decide +kernel
theorem dL_law_728 : decode cL_law 728 = .ok (.iload_n 3, 1) := by decide +kernel
theorem dL_law_729 : decode cL_law 729 = .ok (.iconst 2, 1) := by decide +kernel
theorem dL_law_730 : decode cL_law 730 = .ok (.iadd, 1) := by decide +kernel
theorem dL_law_731 : decode cL_law 731 = .ok (.iaload, 1) := by decide +kernel
theorem dL_law_732 : decode cL_law 732 = .ok (.invokevirtual 100, 3) := by decide +kernel
theorem dL_law_735 : decode cL_law 735 = .ok (.aload_n 2, 1) := by decide +kernel
theorem dL_law_736 : decode cL_law 736 = .ok (.aload_n 0, 1) := by decide +kernel
theorem dL_law_737 : decode cL_law 737 = .ok (.iload_n 3, 1) := by decide +kernel
theorem dL_law_738 : decode cL_law 738 = .ok (.iconst 1, 1) := by decide +kernel
theorem dL_law_739 : decode cL_law 739 = .ok (.iadd, 1) := by decide +kernel
theorem dL_law_740 : decode cL_law 740 = .ok (.iaload, 1) := by decide +kernel
theorem dL_law_741 : decode cL_law 741 = .ok (.aload_n 0, 1) := by decide +kernel
theorem dL_law_742 : decode cL_law 742 = .ok (.iload_n 3, 1) := by decide +kernel
theorem dL_law_743 : decode cL_law 743 = .ok (.iconst 2, 1) := by decide +kernel
theorem dL_law_744 : decode cL_law 744 = .ok (.iadd, 1) := by decide +kernel
theorem dL_law_745 : decode cL_law 745 = .ok (.iaload, 1) := by decide +kernel
theorem dL_law_746 : decode cL_law 746 = .ok (.invokevirtual 103, 3) := by decide +kernel
theorem dL_law_749 : decode cL_law 749 = .ok (.if_icmp .eq 300, 3) := by decide +kernel
theorem dL_law_752 : decode cL_law 752 = .ok (.iconst 0, 1) := by decide +kernel
theorem dL_law_753 : decode cL_law 753 = .ok (.ireturn, 1) := by decide +kernel
theorem dL_law_754 : decode cL_law 754 = .ok (.aload_n 1, 1) := by decide +kernel
theorem dL_law_755 : decode cL_law 755 = .ok (.aload_n 0, 1) := by decide +kernel
theorem dL_law_756 : decode cL_law 756 = .ok (.iload_n 3, 1) := by decide +kernel
theorem dL_law_757 : decode cL_law 757 = .ok (.iconst 1, 1) := by decide +kernel
theorem dL_law_758 : decode cL_law 758 = .ok (.iadd, 1) := by decide +kernel
theorem dL_law_759 : decode cL_law 759 = .ok (.iaload, 1) := by decide +kernel
theorem dL_law_760 : decode cL_law 760 = .ok (.aload_n 0, 1) := by decide +kernel
theorem dL_law_761 : decode cL_law 761 = .ok (.iload_n 3, 1) := by decide +kernel
theorem dL_law_762 : decode cL_law 762 = .ok (.iconst 2, 1) := by decide +kernel
theorem dL_law_763 : decode cL_law 763 = .ok (.iadd, 1) := by decide +kernel
theorem dL_law_764 : decode cL_law 764 = .ok (.iaload, 1) := by decide +kernel
theorem dL_law_765 : decode cL_law 765 = .ok (.aload_n 0, 1) := by decide +kernel
theorem dL_law_766 : decode cL_law 766 = .ok (.iload_n 3, 1) := by decide +kernel
theorem dL_law_767 : decode cL_law 767 = .ok (.iconst 3, 1) := by decide +kernel
theorem dL_law_768 : decode cL_law 768 = .ok (.iadd, 1) := by decide +kernel
theorem dL_law_769 : decode cL_law 769 = .ok (.iaload, 1) := by decide +kernel
theorem dL_law_770 : decode cL_law 770 = .ok (.invokevirtual 104, 3) := by decide +kernel
theorem dL_law_773 : decode cL_law 773 = .ok (.aload_n 2, 1) := by decide +kernel
theorem dL_law_774 : decode cL_law 774 = .ok (.aload_n 0, 1) := by decide +kernel
theorem dL_law_775 : decode cL_law 775 = .ok (.iload_n 3, 1) := by decide +kernel
theorem dL_law_776 : decode cL_law 776 = .ok (.iconst 1, 1) := by decide +kernel
theorem dL_law_777 : decode cL_law 777 = .ok (.iadd, 1) := by decide +kernel
theorem dL_law_778 : decode cL_law 778 = .ok (.iaload, 1) := by decide +kernel
theorem dL_law_779 : decode cL_law 779 = .ok (.aload_n 0, 1) := by decide +kernel
theorem dL_law_780 : decode cL_law 780 = .ok (.iload_n 3, 1) := by decide +kernel
theorem dL_law_781 : decode cL_law 781 = .ok (.iconst 2, 1) := by decide +kernel
theorem dL_law_782 : decode cL_law 782 = .ok (.iadd, 1) := by decide +kernel
theorem dL_law_783 : decode cL_law 783 = .ok (.iaload, 1) := by decide +kernel
theorem dL_law_784 : decode cL_law 784 = .ok (.aload_n 0, 1) := by decide +kernel
theorem dL_law_785 : decode cL_law 785 = .ok (.iload_n 3, 1) := by decide +kernel
theorem dL_law_786 : decode cL_law 786 = .ok (.iconst 3, 1) := by decide +kernel
theorem dL_law_787 : decode cL_law 787 = .ok (.iadd, 1) := by decide +kernel
theorem dL_law_788 : decode cL_law 788 = .ok (.iaload, 1) := by decide +kernel
theorem dL_law_789 : decode cL_law 789 = .ok (.invokevirtual 108, 3) := by decide +kernel
theorem dL_law_792 : decode cL_law 792 = .ok (.if_icmp .eq 257, 3) := by decide +kernel
theorem dL_law_795 : decode cL_law 795 = .ok (.iconst 0, 1) := by decide +kernel
theorem dL_law_796 : decode cL_law 796 = .ok (.ireturn, 1) := by decide +kernel
theorem dL_law_797 : decode cL_law 797 = .ok (.aload_n 1, 1) := by decide +kernel
theorem dL_law_798 : decode cL_law 798 = .ok (.aload_n 0, 1) := by decide +kernel
theorem dL_law_799 : decode cL_law 799 = .ok (.iload_n 3, 1) := by decide +kernel
theorem dL_law_800 : decode cL_law 800 = .ok (.iconst 1, 1) := by decide +kernel
theorem dL_law_801 : decode cL_law 801 = .ok (.iadd, 1) := by decide +kernel
theorem dL_law_802 : decode cL_law 802 = .ok (.iaload, 1) := by decide +kernel
theorem dL_law_803 : decode cL_law 803 = .ok (.invokevirtual 109, 3) := by decide +kernel
theorem dL_law_806 : decode cL_law 806 = .ok (.aload_n 2, 1) := by decide +kernel
theorem dL_law_807 : decode cL_law 807 = .ok (.aload_n 0, 1) := by decide +kernel
theorem dL_law_808 : decode cL_law 808 = .ok (.iload_n 3, 1) := by decide +kernel
theorem dL_law_809 : decode cL_law 809 = .ok (.iconst 1, 1) := by decide +kernel
theorem dL_law_810 : decode cL_law 810 = .ok (.iadd, 1) := by decide +kernel
theorem dL_law_811 : decode cL_law 811 = .ok (.iaload, 1) := by decide +kernel
theorem dL_law_812 : decode cL_law 812 = .ok (.invokevirtual 112, 3) := by decide +kernel
theorem dL_law_815 : decode cL_law 815 = .ok (.if_icmp .eq 234, 3) := by decide +kernel
theorem dL_law_818 : decode cL_law 818 = .ok (.iconst 0, 1) := by decide +kernel
theorem dL_law_819 : decode cL_law 819 = .ok (.ireturn, 1) := by decide +kernel
theorem dL_law_820 : decode cL_law 820 = .ok (.aload_n 1, 1) := by decide +kernel
theorem dL_law_821 : decode cL_law 821 = .ok (.aload_n 0, 1) := by decide +kernel
theorem dL_law_822 : decode cL_law 822 = .ok (.iload_n 3, 1) := by decide +kernel
theorem dL_law_823 : decode cL_law 823 = .ok (.iconst 1, 1) := by decide +kernel
theorem dL_law_824 : decode cL_law 824 = .ok (.iadd, 1) := by decide +kernel
theorem dL_law_825 : decode cL_law 825 = .ok (.iaload, 1) := by decide +kernel
theorem dL_law_826 : decode cL_law 826 = .ok (.aload_n 0, 1) := by decide +kernel
theorem dL_law_827 : decode cL_law 827 = .ok (.iload_n 3, 1) := by decide +kernel
theorem dL_law_828 : decode cL_law 828 = .ok (.iconst 2, 1) := by decide +kernel
theorem dL_law_829 : decode cL_law 829 = .ok (.iadd, 1) := by decide +kernel
theorem dL_law_830 : decode cL_law 830 = .ok (.iaload, 1) := by decide +kernel
theorem dL_law_831 : decode cL_law 831 = .ok (.aload_n 0, 1) := by decide +kernel
theorem dL_law_832 : decode cL_law 832 = .ok (.iload_n 3, 1) := by decide +kernel
theorem dL_law_833 : decode cL_law 833 = .ok (.iconst 3, 1) := by decide +kernel
theorem dL_law_834 : decode cL_law 834 = .ok (.iadd, 1) := by decide +kernel
theorem dL_law_835 : decode cL_law 835 = .ok (.iaload, 1) := by decide +kernel
theorem dL_law_836 : decode cL_law 836 = .ok (.aload_n 0, 1) := by decide +kernel
theorem dL_law_837 : decode cL_law 837 = .ok (.iload_n 3, 1) := by decide +kernel
theorem dL_law_838 : decode cL_law 838 = .ok (.iconst 4, 1) := by decide +kernel
theorem dL_law_839 : decode cL_law 839 = .ok (.iadd, 1) := by decide +kernel
theorem dL_law_840 : decode cL_law 840 = .ok (.iaload, 1) := by decide +kernel
theorem dL_law_841 : decode cL_law 841 = .ok (.invokevirtual 113, 3) := by decide +kernel
theorem dL_law_844 : decode cL_law 844 = .ok (.aload_n 2, 1) := by decide +kernel
theorem dL_law_845 : decode cL_law 845 = .ok (.aload_n 0, 1) := by decide +kernel
theorem dL_law_846 : decode cL_law 846 = .ok (.iload_n 3, 1) := by decide +kernel
theorem dL_law_847 : decode cL_law 847 = .ok (.iconst 1, 1) := by decide +kernel
theorem dL_law_848 : decode cL_law 848 = .ok (.iadd, 1) := by decide +kernel
theorem dL_law_849 : decode cL_law 849 = .ok (.iaload, 1) := by decide +kernel
theorem dL_law_850 : decode cL_law 850 = .ok (.aload_n 0, 1) := by decide +kernel
theorem dL_law_851 : decode cL_law 851 = .ok (.iload_n 3, 1) := by decide +kernel
theorem dL_law_852 : decode cL_law 852 = .ok (.iconst 2, 1) := by decide +kernel
theorem dL_law_853 : decode cL_law 853 = .ok (.iadd, 1) := by decide +kernel
theorem dL_law_854 : decode cL_law 854 = .ok (.iaload, 1) := by decide +kernel
theorem dL_law_855 : decode cL_law 855 = .ok (.aload_n 0, 1) := by decide +kernel
theorem dL_law_856 : decode cL_law 856 = .ok (.iload_n 3, 1) := by decide +kernel
theorem dL_law_857 : decode cL_law 857 = .ok (.iconst 3, 1) := by decide +kernel
theorem dL_law_858 : decode cL_law 858 = .ok (.iadd, 1) := by decide +kernel
theorem dL_law_859 : decode cL_law 859 = .ok (.iaload, 1) := by decide +kernel
theorem dL_law_860 : decode cL_law 860 = .ok (.aload_n 0, 1) := by decide +kernel
theorem dL_law_861 : decode cL_law 861 = .ok (.iload_n 3, 1) := by decide +kernel
theorem dL_law_862 : decode cL_law 862 = .ok (.iconst 4, 1) := by decide +kernel
theorem dL_law_863 : decode cL_law 863 = .ok (.iadd, 1) := by decide +kernel
theorem dL_law_864 : decode cL_law 864 = .ok (.iaload, 1) := by decide +kernel
theorem dL_law_865 : decode cL_law 865 = .ok (.invokevirtual 117, 3) := by decide +kernel
theorem dL_law_868 : decode cL_law 868 = .ok (.if_icmp .eq 181, 3) := by decide +kernel
theorem dL_law_871 : decode cL_law 871 = .ok (.iconst 0, 1) := by decide +kernel
theorem dL_law_872 : decode cL_law 872 = .ok (.ireturn, 1) := by decide +kernel
theorem dL_law_873 : decode cL_law 873 = .ok (.aload_n 1, 1) := by decide +kernel
theorem dL_law_874 : decode cL_law 874 = .ok (.aload_n 0, 1) := by decide +kernel
theorem dL_law_875 : decode cL_law 875 = .ok (.iload_n 3, 1) := by decide +kernel
theorem dL_law_876 : decode cL_law 876 = .ok (.iconst 1, 1) := by decide +kernel
theorem dL_law_877 : decode cL_law 877 = .ok (.iadd, 1) := by decide +kernel
theorem dL_law_878 : decode cL_law 878 = .ok (.iaload, 1) := by decide +kernel
theorem dL_law_879 : decode cL_law 879 = .ok (.aload_n 0, 1) := by decide +kernel
theorem dL_law_880 : decode cL_law 880 = .ok (.iload_n 3, 1) := by decide +kernel
theorem dL_law_881 : decode cL_law 881 = .ok (.iconst 2, 1) := by decide +kernel
theorem dL_law_882 : decode cL_law 882 = .ok (.iadd, 1) := by decide +kernel
theorem dL_law_883 : decode cL_law 883 = .ok (.iaload, 1) := by decide +kernel
theorem dL_law_884 : decode cL_law 884 = .ok (.aload_n 0, 1) := by decide +kernel
theorem dL_law_885 : decode cL_law 885 = .ok (.iload_n 3, 1) := by decide +kernel
theorem dL_law_886 : decode cL_law 886 = .ok (.iconst 3, 1) := by decide +kernel
theorem dL_law_887 : decode cL_law 887 = .ok (.iadd, 1) := by decide +kernel
theorem dL_law_888 : decode cL_law 888 = .ok (.iaload, 1) := by decide +kernel
theorem dL_law_889 : decode cL_law 889 = .ok (.invokevirtual 118, 3) := by decide +kernel
theorem dL_law_892 : decode cL_law 892 = .ok (.aload_n 2, 1) := by decide +kernel
theorem dL_law_893 : decode cL_law 893 = .ok (.aload_n 0, 1) := by decide +kernel
theorem dL_law_894 : decode cL_law 894 = .ok (.iload_n 3, 1) := by decide +kernel
theorem dL_law_895 : decode cL_law 895 = .ok (.iconst 1, 1) := by decide +kernel
theorem dL_law_896 : decode cL_law 896 = .ok (.iadd, 1) := by decide +kernel
theorem dL_law_897 : decode cL_law 897 = .ok (.iaload, 1) := by decide +kernel
theorem dL_law_898 : decode cL_law 898 = .ok (.aload_n 0, 1) := by decide +kernel
theorem dL_law_899 : decode cL_law 899 = .ok (.iload_n 3, 1) := by decide +kernel
theorem dL_law_900 : decode cL_law 900 = .ok (.iconst 2, 1) := by decide +kernel
theorem dL_law_901 : decode cL_law 901 = .ok (.iadd, 1) := by decide +kernel
theorem dL_law_902 : decode cL_law 902 = .ok (.iaload, 1) := by decide +kernel
theorem dL_law_903 : decode cL_law 903 = .ok (.aload_n 0, 1) := by decide +kernel
theorem dL_law_904 : decode cL_law 904 = .ok (.iload_n 3, 1) := by decide +kernel
theorem dL_law_905 : decode cL_law 905 = .ok (.iconst 3, 1) := by decide +kernel
theorem dL_law_906 : decode cL_law 906 = .ok (.iadd, 1) := by decide +kernel
theorem dL_law_907 : decode cL_law 907 = .ok (.iaload, 1) := by decide +kernel
theorem dL_law_908 : decode cL_law 908 = .ok (.invokevirtual 121, 3) := by decide +kernel
theorem dL_law_911 : decode cL_law 911 = .ok (.if_icmp .eq 138, 3) := by decide +kernel
theorem dL_law_914 : decode cL_law 914 = .ok (.iconst 0, 1) := by decide +kernel
theorem dL_law_915 : decode cL_law 915 = .ok (.ireturn, 1) := by decide +kernel
theorem dL_law_916 : decode cL_law 916 = .ok (.aload_n 1, 1) := by decide +kernel
theorem dL_law_917 : decode cL_law 917 = .ok (.aload_n 0, 1) := by decide +kernel
theorem dL_law_918 : decode cL_law 918 = .ok (.iload_n 3, 1) := by decide +kernel
theorem dL_law_919 : decode cL_law 919 = .ok (.iconst 1, 1) := by decide +kernel
theorem dL_law_920 : decode cL_law 920 = .ok (.iadd, 1) := by decide +kernel
theorem dL_law_921 : decode cL_law 921 = .ok (.iaload, 1) := by decide +kernel
theorem dL_law_922 : decode cL_law 922 = .ok (.aload_n 0, 1) := by decide +kernel
theorem dL_law_923 : decode cL_law 923 = .ok (.iload_n 3, 1) := by decide +kernel
theorem dL_law_924 : decode cL_law 924 = .ok (.iconst 2, 1) := by decide +kernel
theorem dL_law_925 : decode cL_law 925 = .ok (.iadd, 1) := by decide +kernel
theorem dL_law_926 : decode cL_law 926 = .ok (.iaload, 1) := by decide +kernel
theorem dL_law_927 : decode cL_law 927 = .ok (.aload_n 0, 1) := by decide +kernel
theorem dL_law_928 : decode cL_law 928 = .ok (.iload_n 3, 1) := by decide +kernel
theorem dL_law_929 : decode cL_law 929 = .ok (.iconst 3, 1) := by decide +kernel
theorem dL_law_930 : decode cL_law 930 = .ok (.iadd, 1) := by decide +kernel
theorem dL_law_931 : decode cL_law 931 = .ok (.iaload, 1) := by decide +kernel
theorem dL_law_932 : decode cL_law 932 = .ok (.aload_n 0, 1) := by decide +kernel
theorem dL_law_933 : decode cL_law 933 = .ok (.iload_n 3, 1) := by decide +kernel
theorem dL_law_934 : decode cL_law 934 = .ok (.iconst 4, 1) := by decide +kernel
theorem dL_law_935 : decode cL_law 935 = .ok (.iadd, 1) := by decide +kernel
theorem dL_law_936 : decode cL_law 936 = .ok (.iaload, 1) := by decide +kernel
theorem dL_law_937 : decode cL_law 937 = .ok (.aload_n 0, 1) := by decide +kernel
theorem dL_law_938 : decode cL_law 938 = .ok (.iload_n 3, 1) := by decide +kernel
theorem dL_law_939 : decode cL_law 939 = .ok (.iconst 5, 1) := by decide +kernel
theorem dL_law_940 : decode cL_law 940 = .ok (.iadd, 1) := by decide +kernel
theorem dL_law_941 : decode cL_law 941 = .ok (.iaload, 1) := by decide +kernel
theorem dL_law_942 : decode cL_law 942 = .ok (.invokevirtual 122, 3) := by decide +kernel
theorem dL_law_945 : decode cL_law 945 = .ok (.aload_n 2, 1) := by decide +kernel
theorem dL_law_946 : decode cL_law 946 = .ok (.aload_n 0, 1) := by decide +kernel
theorem dL_law_947 : decode cL_law 947 = .ok (.iload_n 3, 1) := by decide +kernel
theorem dL_law_948 : decode cL_law 948 = .ok (.iconst 1, 1) := by decide +kernel
theorem dL_law_949 : decode cL_law 949 = .ok (.iadd, 1) := by decide +kernel
theorem dL_law_950 : decode cL_law 950 = .ok (.iaload, 1) := by decide +kernel
theorem dL_law_951 : decode cL_law 951 = .ok (.aload_n 0, 1) := by decide +kernel
theorem dL_law_952 : decode cL_law 952 = .ok (.iload_n 3, 1) := by decide +kernel
theorem dL_law_953 : decode cL_law 953 = .ok (.iconst 2, 1) := by decide +kernel
theorem dL_law_954 : decode cL_law 954 = .ok (.iadd, 1) := by decide +kernel
theorem dL_law_955 : decode cL_law 955 = .ok (.iaload, 1) := by decide +kernel
theorem dL_law_956 : decode cL_law 956 = .ok (.aload_n 0, 1) := by decide +kernel
theorem dL_law_957 : decode cL_law 957 = .ok (.iload_n 3, 1) := by decide +kernel
theorem dL_law_958 : decode cL_law 958 = .ok (.iconst 3, 1) := by decide +kernel
theorem dL_law_959 : decode cL_law 959 = .ok (.iadd, 1) := by decide +kernel
theorem dL_law_960 : decode cL_law 960 = .ok (.iaload, 1) := by decide +kernel
theorem dL_law_961 : decode cL_law 961 = .ok (.aload_n 0, 1) := by decide +kernel
theorem dL_law_962 : decode cL_law 962 = .ok (.iload_n 3, 1) := by decide +kernel
theorem dL_law_963 : decode cL_law 963 = .ok (.iconst 4, 1) := by decide +kernel
theorem dL_law_964 : decode cL_law 964 = .ok (.iadd, 1) := by decide +kernel
theorem dL_law_965 : decode cL_law 965 = .ok (.iaload, 1) := by decide +kernel
theorem dL_law_966 : decode cL_law 966 = .ok (.aload_n 0, 1) := by decide +kernel
theorem dL_law_967 : decode cL_law 967 = .ok (.iload_n 3, 1) := by decide +kernel
theorem dL_law_968 : decode cL_law 968 = .ok (.iconst 5, 1) := by decide +kernel
theorem dL_law_969 : decode cL_law 969 = .ok (.iadd, 1) := by decide +kernel
theorem dL_law_970 : decode cL_law 970 = .ok (.iaload, 1) := by decide +kernel
theorem dL_law_971 : decode cL_law 971 = .ok (.invokevirtual 126, 3) := by decide +kernel
theorem dL_law_974 : decode cL_law 974 = .ok (.if_icmp .eq 75, 3) := by decide +kernel
theorem dL_law_977 : decode cL_law 977 = .ok (.iconst 0, 1) := by decide +kernel
theorem dL_law_978 : decode cL_law 978 = .ok (.ireturn, 1) := by decide +kernel
theorem dL_law_979 : decode cL_law 979 = .ok (.aload_n 1, 1) := by decide +kernel
theorem dL_law_980 : decode cL_law 980 = .ok (.aload_n 0, 1) := by decide +kernel
theorem dL_law_981 : decode cL_law 981 = .ok (.iload_n 3, 1) := by decide +kernel
theorem dL_law_982 : decode cL_law 982 = .ok (.iconst 1, 1) := by decide +kernel
theorem dL_law_983 : decode cL_law 983 = .ok (.iadd, 1) := by decide +kernel
theorem dL_law_984 : decode cL_law 984 = .ok (.iaload, 1) := by decide +kernel
theorem dL_law_985 : decode cL_law 985 = .ok (.aload_n 0, 1) := by decide +kernel
theorem dL_law_986 : decode cL_law 986 = .ok (.iload_n 3, 1) := by decide +kernel
theorem dL_law_987 : decode cL_law 987 = .ok (.iconst 2, 1) := by decide +kernel
theorem dL_law_988 : decode cL_law 988 = .ok (.iadd, 1) := by decide +kernel
theorem dL_law_989 : decode cL_law 989 = .ok (.iaload, 1) := by decide +kernel
theorem dL_law_990 : decode cL_law 990 = .ok (.invokevirtual 127, 3) := by decide +kernel
theorem dL_law_993 : decode cL_law 993 = .ok (.aload_n 2, 1) := by decide +kernel
theorem dL_law_994 : decode cL_law 994 = .ok (.aload_n 0, 1) := by decide +kernel
theorem dL_law_995 : decode cL_law 995 = .ok (.iload_n 3, 1) := by decide +kernel
theorem dL_law_996 : decode cL_law 996 = .ok (.iconst 1, 1) := by decide +kernel
theorem dL_law_997 : decode cL_law 997 = .ok (.iadd, 1) := by decide +kernel
theorem dL_law_998 : decode cL_law 998 = .ok (.iaload, 1) := by decide +kernel
theorem dL_law_999 : decode cL_law 999 = .ok (.aload_n 0, 1) := by decide +kernel
theorem dL_law_1000 : decode cL_law 1000 = .ok (.iload_n 3, 1) := by decide +kernel
theorem dL_law_1001 : decode cL_law 1001 = .ok (.iconst 2, 1) := by decide +kernel
theorem dL_law_1002 : decode cL_law 1002 = .ok (.iadd, 1) := by decide +kernel
theorem dL_law_1003 : decode cL_law 1003 = .ok (.iaload, 1) := by decide +kernel
theorem dL_law_1004 : decode cL_law 1004 = .ok (.invokevirtual 130, 3) := by decide +kernel
theorem dL_law_1007 : decode cL_law 1007 = .ok (.if_icmp .eq 42, 3) := by decide +kernel
theorem dL_law_1010 : decode cL_law 1010 = .ok (.iconst 0, 1) := by decide +kernel
theorem dL_law_1011 : decode cL_law 1011 = .ok (.ireturn, 1) := by decide +kernel
theorem dL_law_1012 : decode cL_law 1012 = .ok (.aload_n 1, 1) := by decide +kernel
theorem dL_law_1013 : decode cL_law 1013 = .ok (.aload_n 0, 1) := by decide +kernel
theorem dL_law_1014 : decode cL_law 1014 = .ok (.iload_n 3, 1) := by decide +kernel
theorem dL_law_1015 : decode cL_law 1015 = .ok (.iconst 1, 1) := by decide +kernel
theorem dL_law_1016 : decode cL_law 1016 = .ok (.iadd, 1) := by decide +kernel
theorem dL_law_1017 : decode cL_law 1017 = .ok (.iaload, 1) := by decide +kernel
theorem dL_law_1018 : decode cL_law 1018 = .ok (.invokevirtual 131, 3) := by decide +kernel
theorem dL_law_1021 : decode cL_law 1021 = .ok (.aload_n 2, 1) := by decide +kernel
theorem dL_law_1022 : decode cL_law 1022 = .ok (.aload_n 0, 1) := by decide +kernel
theorem dL_law_1023 : decode cL_law 1023 = .ok (.iload_n 3, 1) := by decide +kernel
theorem dL_law_1024 : decode cL_law 1024 = .ok (.iconst 1, 1) := by decide +kernel
theorem dL_law_1025 : decode cL_law 1025 = .ok (.iadd, 1) := by decide +kernel
theorem dL_law_1026 : decode cL_law 1026 = .ok (.iaload, 1) := by decide +kernel
theorem dL_law_1027 : decode cL_law 1027 = .ok (.invokevirtual 134, 3) := by decide +kernel
theorem dL_law_1030 : decode cL_law 1030 = .ok (.if_icmp .eq 19, 3) := by decide +kernel
theorem dL_law_1033 : decode cL_law 1033 = .ok (.iconst 0, 1) := by decide +kernel
theorem dL_law_1034 : decode cL_law 1034 = .ok (.ireturn, 1) := by decide +kernel
theorem dL_law_1035 : decode cL_law 1035 = .ok (.aload_n 1, 1) := by decide +kernel
theorem dL_law_1036 : decode cL_law 1036 = .ok (.invokevirtual 135, 3) := by decide +kernel
theorem dL_law_1039 : decode cL_law 1039 = .ok (.aload_n 2, 1) := by decide +kernel
theorem dL_law_1040 : decode cL_law 1040 = .ok (.invokevirtual 139, 3) := by decide +kernel
theorem dL_law_1043 : decode cL_law 1043 = .ok (.lcmp, 1) := by decide +kernel
theorem dL_law_1044 : decode cL_law 1044 = .ok (.ifCond .eq 5, 3) := by decide +kernel
theorem dL_law_1047 : decode cL_law 1047 = .ok (.iconst 0, 1) := by decide +kernel
theorem dL_law_1048 : decode cL_law 1048 = .ok (.ireturn, 1) := by decide +kernel
theorem dL_law_1049 : decode cL_law 1049 = .ok (.iinc 3 6, 3) := by decide +kernel
theorem dL_law_1052 : decode cL_law 1052 = .ok (.goto (-1034), 3) := by decide +kernel
theorem dL_law_1055 : decode cL_law 1055 = .ok (.iconst 1, 1) := by decide +kernel
theorem dL_law_1056 : decode cL_law 1056 = .ok (.ireturn, 1) := by decide +kernel
