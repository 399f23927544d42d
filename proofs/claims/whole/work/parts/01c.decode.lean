theorem dX9_sheet_39 : decode cX9_sheet 39 = .ok (.iload_n 3, 1) := by decide +kernel
theorem dX9_sheet_40 : decode cX9_sheet 40 = .ok (.invokevirtual 269, 3) := by decide +kernel
theorem dX9_sheet_43 : decode cX9_sheet 43 = .ok (.iload_n 3, 1) := by decide +kernel
theorem dX9_sheet_44 : decode cX9_sheet 44 = .ok (.ireturn, 1) := by decide +kernel
theorem dX9_lose_0 : decode cX9_lose 0 = .ok (.iload_n 1, 1) := by decide +kernel
theorem dX9_lose_1 : decode cX9_lose 1 = .ok (.invokestatic 131, 3) := by decide +kernel
theorem dX9_lose_4 : decode cX9_lose 4 = .ok (.ifCond .eq 6, 3) := by decide +kernel
theorem dX9_lose_7 : decode cX9_lose 7 = .ok (.bipush (-2), 2) := by decide +kernel
theorem dX9_lose_9 : decode cX9_lose 9 = .ok (.ireturn, 1) := by decide +kernel
theorem dX9_lose_10 : decode cX9_lose 10 = .ok (.aload_n 0, 1) := by decide +kernel
theorem dX9_lose_11 : decode cX9_lose 11 = .ok (.getfield 68, 3) := by decide +kernel
theorem dX9_lose_14 : decode cX9_lose 14 = .ok (.iload_n 1, 1) := by decide +kernel
theorem dX9_lose_15 : decode cX9_lose 15 = .ok (.invokevirtual 134, 3) := by decide +kernel
theorem dX9_lose_18 : decode cX9_lose 18 = .ok (.ifCond .eq 9, 3) := by decide +kernel
theorem dX9_lose_21 : decode cX9_lose 21 = .ok (.aload_n 0, 1) := by decide +kernel
theorem dX9_lose_22 : decode cX9_lose 22 = .ok (.iconst 1, 1) := by decide +kernel
theorem dX9_lose_23 : decode cX9_lose 23 = .ok (.invokevirtual 137, 3) := by decide +kernel
theorem dX9_lose_26 : decode cX9_lose 26 = .ok (.ireturn, 1) := by decide +kernel
theorem dX9_lose_27 : decode cX9_lose 27 = .ok (.aload_n 0, 1) := by decide +kernel
theorem dX9_lose_28 : decode cX9_lose 28 = .ok (.getfield 68, 3) := by decide +kernel
theorem dX9_lose_31 : decode cX9_lose 31 = .ok (.getfield 273, 3) := by decide +kernel
theorem dX9_lose_34 : decode cX9_lose 34 = .ok (.iload_n 1, 1) := by decide +kernel
theorem dX9_lose_35 : decode cX9_lose 35 = .ok (.iconst (-1), 1) := by decide +kernel
theorem dX9_lose_36 : decode cX9_lose 36 = .ok (.iastore, 1) := by decide +kernel
theorem dX9_lose_37 : decode cX9_lose 37 = .ok (.aload_n 0, 1) := by decide +kernel
theorem dX9_lose_38 : decode cX9_lose 38 = .ok (.getfield 68, 3) := by decide +kernel
theorem dX9_lose_41 : decode cX9_lose 41 = .ok (.getfield 276, 3) := by decide +kernel
theorem dX9_lose_44 : decode cX9_lose 44 = .ok (.iload_n 1, 1) := by decide +kernel
theorem dX9_lose_45 : decode cX9_lose 45 = .ok (.iaload, 1) := by decide +kernel
theorem dX9_lose_46 : decode cX9_lose 46 = .ok (.ireturn, 1) := by decide +kernel
theorem dX9_put_0 : decode cX9_put 0 = .ok (.iload_n 1, 1) := by decide +kernel
theorem dX9_put_1 : decode cX9_put 1 = .ok (.invokestatic 131, 3) := by decide +kernel
theorem dX9_put_4 : decode cX9_put 4 = .ok (.ifCond .ne 10, 3) := by decide +kernel
theorem dX9_put_7 : decode cX9_put 7 = .ok (.iload_n 2, 1) := by decide +kernel
theorem dX9_put_8 : decode cX9_put 8 = .ok (.invokestatic 266, 3) := by decide +kernel
theorem dX9_put_11 : decode cX9_put 11 = .ok (.ifCond .eq 6, 3) := by decide +kernel
theorem dX9_put_14 : decode cX9_put 14 = .ok (.bipush (-2), 2) := by decide +kernel
theorem dX9_put_16 : decode cX9_put 16 = .ok (.ireturn, 1) := by decide +kernel
theorem dX9_put_17 : decode cX9_put 17 = .ok (.aload_n 0, 1) := by decide +kernel
theorem dX9_put_18 : decode cX9_put 18 = .ok (.getfield 68, 3) := by decide +kernel
theorem dX9_put_21 : decode cX9_put 21 = .ok (.iload_n 1, 1) := by decide +kernel
theorem dX9_put_22 : decode cX9_put 22 = .ok (.iload_n 2, 1) := by decide +kernel
theorem dX9_put_23 : decode cX9_put 23 = .ok (.iload_n 3, 1) := by decide +kernel
theorem dX9_put_24 : decode cX9_put 24 = .ok (.invokevirtual 279, 3) := by decide +kernel
theorem dX9_put_27 : decode cX9_put 27 = .ok (.istore 5, 2) := by decide +kernel
theorem dX9_put_29 : decode cX9_put 29 = .ok (.iload 5, 2) := by decide +kernel
theorem dX9_put_31 : decode cX9_put 31 = .ok (.ifCond .eq 10, 3) := by decide +kernel
theorem dX9_put_34 : decode cX9_put 34 = .ok (.aload_n 0, 1) := by decide +kernel
theorem dX9_put_35 : decode cX9_put 35 = .ok (.iload 5, 2) := by decide +kernel
theorem dX9_put_37 : decode cX9_put 37 = .ok (.invokevirtual 137, 3) := by decide +kernel
theorem dX9_put_40 : decode cX9_put 40 = .ok (.ireturn, 1) := by decide +kernel
theorem dX9_put_41 : decode cX9_put 41 = .ok (.aload_n 0, 1) := by decide +kernel
theorem dX9_put_42 : decode cX9_put 42 = .ok (.getfield 68, 3) := by decide +kernel
theorem dX9_put_45 : decode cX9_put 45 = .ok (.iload_n 1, 1) := by decide +kernel
theorem dX9_put_46 : decode cX9_put 46 = .ok (.iload_n 3, 1) := by decide +kernel
theorem dX9_put_47 : decode cX9_put 47 = .ok (.iload 4, 2) := by decide +kernel
theorem dX9_put_49 : decode cX9_put 49 = .ok (.invokevirtual 282, 3) := by decide +kernel
theorem dX9_put_52 : decode cX9_put 52 = .ok (.iconst 1, 1) := by decide +kernel
theorem dX9_put_53 : decode cX9_put 53 = .ok (.ireturn, 1) := by decide +kernel
theorem dX9_get_0 : decode cX9_get 0 = .ok (.iload_n 1, 1) := by decide +kernel
theorem dX9_get_1 : decode cX9_get 1 = .ok (.invokestatic 131, 3) := by decide +kernel
theorem dX9_get_4 : decode cX9_get 4 = .ok (.ifCond .ne 10, 3) := by decide +kernel
theorem dX9_get_7 : decode cX9_get 7 = .ok (.iload_n 2, 1) := by decide +kernel
theorem dX9_get_8 : decode cX9_get 8 = .ok (.invokestatic 266, 3) := by decide +kernel
theorem dX9_get_11 : decode cX9_get 11 = .ok (.ifCond .eq 7, 3) := by decide +kernel
theorem dX9_get_14 : decode cX9_get 14 = .ok (.ldc_w 285, 3) := by decide +kernel
theorem dX9_get_17 : decode cX9_get 17 = .ok (.ireturn, 1) := by decide +kernel
theorem dX9_get_18 : decode cX9_get 18 = .ok (.aload_n 0, 1) := by decide +kernel
theorem dX9_get_19 : decode cX9_get 19 = .ok (.getfield 68, 3) := by decide +kernel
theorem dX9_get_22 : decode cX9_get 22 = .ok (.iload_n 1, 1) := by decide +kernel
theorem dX9_get_23 : decode cX9_get 23 = .ok (.iload_n 2, 1) := by decide +kernel
theorem dX9_get_24 : decode cX9_get 24 = .ok (.iload_n 3, 1) := by decide +kernel
theorem dX9_get_25 : decode cX9_get 25 = .ok (.invokevirtual 279, 3) := by decide +kernel
theorem dX9_get_28 : decode cX9_get 28 = .ok (.istore 4, 2) := by decide +kernel
theorem dX9_get_30 : decode cX9_get 30 = .ok (.iload 4, 2) := by decide +kernel
theorem dX9_get_32 : decode cX9_get 32 = .ok (.ifCond .eq 13, 3) := by decide +kernel
theorem dX9_get_35 : decode cX9_get 35 = .ok (.aload_n 0, 1) := by decide +kernel
theorem dX9_get_36 : decode cX9_get 36 = .ok (.iload 4, 2) := by decide +kernel
theorem dX9_get_38 : decode cX9_get 38 = .ok (.putfield 80, 3) := by decide +kernel
theorem dX9_get_41 : decode cX9_get 41 = .ok (.ldc_w 285, 3) := by decide +kernel
theorem dX9_get_44 : decode cX9_get 44 = .ok (.ireturn, 1) := by decide +kernel
theorem dX9_get_45 : decode cX9_get 45 = .ok (.aload_n 0, 1) := by decide +kernel
theorem dX9_get_46 : decode cX9_get 46 = .ok (.getfield 68, 3) := by decide +kernel
theorem dX9_get_49 : decode cX9_get 49 = .ok (.iload_n 1, 1) := by decide +kernel
theorem dX9_get_50 : decode cX9_get 50 = .ok (.iload_n 3, 1) := by decide +kernel
theorem dX9_get_51 : decode cX9_get 51 = .ok (.invokevirtual 150, 3) := by decide +kernel
theorem dX9_get_54 : decode cX9_get 54 = .ok (.ireturn, 1) := by decide +kernel
theorem dX9_copy_0 : decode cX9_copy 0 = .ok (.iload_n 1, 1) := by decide +kernel
theorem dX9_copy_1 : decode cX9_copy 1 = .ok (.invokestatic 131, 3) := by decide +kernel
theorem dX9_copy_4 : decode cX9_copy 4 = .ok (.ifCond .ne 10, 3) := by decide +kernel
theorem dX9_copy_7 : decode cX9_copy 7 = .ok (.iload_n 3, 1) := by decide +kernel
theorem dX9_copy_8 : decode cX9_copy 8 = .ok (.invokestatic 131, 3) := by decide +kernel
theorem dX9_copy_11 : decode cX9_copy 11 = .ok (.ifCond .eq 6, 3) := by decide +kernel
theorem dX9_copy_14 : decode cX9_copy 14 = .ok (.bipush (-2), 2) := by decide +kernel
theorem dX9_copy_16 : decode cX9_copy 16 = .ok (.ireturn, 1) := by decide +kernel
theorem dX9_copy_17 : decode cX9_copy 17 = .ok (.aload_n 0, 1) := by decide +kernel
theorem dX9_copy_18 : decode cX9_copy 18 = .ok (.getfield 68, 3) := by decide +kernel
theorem dX9_copy_21 : decode cX9_copy 21 = .ok (.iload_n 1, 1) := by decide +kernel
theorem dX9_copy_22 : decode cX9_copy 22 = .ok (.invokevirtual 134, 3) := by decide +kernel
theorem dX9_copy_25 : decode cX9_copy 25 = .ok (.ifCond .ne 14, 3) := by decide +kernel
theorem dX9_copy_28 : decode cX9_copy 28 = .ok (.aload_n 0, 1) := by decide +kernel
theorem dX9_copy_29 : decode cX9_copy 29 = .ok (.getfield 68, 3) := by decide +kernel
theorem dX9_copy_32 : decode cX9_copy 32 = .ok (.iload_n 3, 1) := by decide +kernel
theorem dX9_copy_33 : decode cX9_copy 33 = .ok (.invokevirtual 134, 3) := by decide +kernel
theorem dX9_copy_36 : decode cX9_copy 36 = .ok (.ifCond .eq 9, 3) := by decide +kernel
theorem dX9_copy_39 : decode cX9_copy 39 = .ok (.aload_n 0, 1) := by decide +kernel
theorem dX9_copy_40 : decode cX9_copy 40 = .ok (.iconst 1, 1) := by decide +kernel
theorem dX9_copy_41 : decode cX9_copy 41 = .ok (.invokevirtual 137, 3) := by decide +kernel
theorem dX9_copy_44 : decode cX9_copy 44 = .ok (.ireturn, 1) := by decide +kernel
theorem dX9_copy_45 : decode cX9_copy 45 = .ok (.aload_n 0, 1) := by decide +kernel
theorem dX9_copy_46 : decode cX9_copy 46 = .ok (.getfield 68, 3) := by decide +kernel
theorem dX9_copy_49 : decode cX9_copy 49 = .ok (.getfield 273, 3) := by decide +kernel
theorem dX9_copy_52 : decode cX9_copy 52 = .ok (.iload_n 1, 1) := by decide +kernel
theorem dX9_copy_53 : decode cX9_copy 53 = .ok (.iaload, 1) := by decide +kernel
theorem dX9_copy_54 : decode cX9_copy 54 = .ok (.aload_n 0, 1) := by decide +kernel
theorem dX9_copy_55 : decode cX9_copy 55 = .ok (.getfield 68, 3) := by decide +kernel
theorem dX9_copy_58 : decode cX9_copy 58 = .ok (.getfield 273, 3) := by decide +kernel
theorem dX9_copy_61 : decode cX9_copy 61 = .ok (.iload_n 3, 1) := by decide +kernel
theorem dX9_copy_62 : decode cX9_copy 62 = .ok (.iaload, 1) := by decide +kernel
theorem dX9_copy_63 : decode cX9_copy 63 = .ok (.if_icmp .eq 9, 3) := by decide +kernel
theorem dX9_copy_66 : decode cX9_copy 66 = .ok (.aload_n 0, 1) := by decide +kernel
theorem dX9_copy_67 : decode cX9_copy 67 = .ok (.iconst 4, 1) := by decide +kernel
theorem dX9_copy_68 : decode cX9_copy 68 = .ok (.invokevirtual 137, 3) := by decide +kernel
theorem dX9_copy_71 : decode cX9_copy 71 = .ok (.ireturn, 1) := by decide +kernel
theorem dX9_copy_72 : decode cX9_copy 72 = .ok (.aload_n 0, 1) := by decide +kernel
theorem dX9_copy_73 : decode cX9_copy 73 = .ok (.getfield 68, 3) := by decide +kernel
theorem dX9_copy_76 : decode cX9_copy 76 = .ok (.iload_n 1, 1) := by decide +kernel
theorem dX9_copy_77 : decode cX9_copy 77 = .ok (.iload_n 2, 1) := by decide +kernel
theorem dX9_copy_78 : decode cX9_copy 78 = .ok (.iload 5, 2) := by decide +kernel
theorem dX9_copy_80 : decode cX9_copy 80 = .ok (.invokevirtual 286, 3) := by decide +kernel
theorem dX9_copy_83 : decode cX9_copy 83 = .ok (.ifCond .ne 18, 3) := by decide +kernel
theorem dX9_copy_86 : decode cX9_copy 86 = .ok (.aload_n 0, 1) := by decide +kernel
theorem dX9_copy_87 : decode cX9_copy 87 = .ok (.getfield 68, 3) := by decide +kernel
theorem dX9_copy_90 : decode cX9_copy 90 = .ok (.iload_n 3, 1) := by decide +kernel
theorem dX9_copy_91 : decode cX9_copy 91 = .ok (.iload 4, 2) := by decide +kernel
theorem dX9_copy_93 : decode cX9_copy 93 = .ok (.iload 5, 2) := by decide +kernel
theorem dX9_copy_95 : decode cX9_copy 95 = .ok (.invokevirtual 286, 3) := by decide +kernel
theorem dX9_copy_98 : decode cX9_copy 98 = .ok (.ifCond .eq 9, 3) := by decide +kernel
theorem dX9_copy_101 : decode cX9_copy 101 = .ok (.aload_n 0, 1) := by decide +kernel
theorem dX9_copy_102 : decode cX9_copy 102 = .ok (.iconst 2, 1) := by decide +kernel
theorem dX9_copy_103 : decode cX9_copy 103 = .ok (.invokevirtual 137, 3) := by decide +kernel
theorem dX9_copy_106 : decode cX9_copy 106 = .ok (.ireturn, 1) := by decide +kernel
theorem dX9_copy_107 : decode cX9_copy 107 = .ok (.aload_n 0, 1) := by decide +kernel
theorem dX9_copy_108 : decode cX9_copy 108 = .ok (.getfield 68, 3) := by decide +kernel
theorem dX9_copy_111 : decode cX9_copy 111 = .ok (.iload_n 1, 1) := by decide +kernel
theorem dX9_copy_112 : decode cX9_copy 112 = .ok (.iload_n 2, 1) := by decide +kernel
theorem dX9_copy_113 : decode cX9_copy 113 = .ok (.iload_n 3, 1) := by decide +kernel
theorem dX9_copy_114 : decode cX9_copy 114 = .ok (.iload 4, 2) := by decide +kernel
theorem dX9_copy_116 : decode cX9_copy 116 = .ok (.iload 5, 2) := by decide +kernel
theorem dX9_copy_118 : decode cX9_copy 118 = .ok (.invokevirtual 290, 3) := by decide +kernel
theorem dX9_copy_121 : decode cX9_copy 121 = .ok (.iconst 1, 1) := by decide +kernel
theorem dX9_copy_122 : decode cX9_copy 122 = .ok (.ireturn, 1) := by decide +kernel
theorem dX9_write_0 : decode cX9_write 0 = .ok (.iload_n 1, 1) := by decide +kernel
theorem dX9_write_1 : decode cX9_write 1 = .ok (.invokestatic 223, 3) := by decide +kernel
theorem dX9_write_4 : decode cX9_write 4 = .ok (.ifCond .ne 10, 3) := by decide +kernel
theorem dX9_write_7 : decode cX9_write 7 = .ok (.iload_n 2, 1) := by decide +kernel
theorem dX9_write_8 : decode cX9_write 8 = .ok (.invokestatic 131, 3) := by decide +kernel
theorem dX9_write_11 : decode cX9_write 11 = .ok (.ifCond .eq 6, 3) := by decide +kernel
theorem dX9_write_14 : decode cX9_write 14 = .ok (.bipush (-2), 2) := by decide +kernel
theorem dX9_write_16 : decode cX9_write 16 = .ok (.ireturn, 1) := by decide +kernel
theorem dX9_write_17 : decode cX9_write 17 = .ok (.aload_n 0, 1) := by decide +kernel
theorem dX9_write_18 : decode cX9_write 18 = .ok (.getfield 68, 3) := by decide +kernel
theorem dX9_write_21 : decode cX9_write 21 = .ok (.iload_n 2, 1) := by decide +kernel
theorem dX9_write_22 : decode cX9_write 22 = .ok (.invokevirtual 134, 3) := by decide +kernel
theorem dX9_write_25 : decode cX9_write 25 = .ok (.ifCond .eq 9, 3) := by decide +kernel
theorem dX9_write_28 : decode cX9_write 28 = .ok (.aload_n 0, 1) := by decide +kernel
theorem dX9_write_29 : decode cX9_write 29 = .ok (.iconst 1, 1) := by decide +kernel
theorem dX9_write_30 : decode cX9_write 30 = .ok (.invokevirtual 137, 3) := by decide +kernel
theorem dX9_write_33 : decode cX9_write 33 = .ok (.ireturn, 1) := by decide +kernel
theorem dX9_write_34 : decode cX9_write 34 = .ok (.aload_n 0, 1) := by decide +kernel
theorem dX9_write_35 : decode cX9_write 35 = .ok (.invokevirtual 113, 3) := by decide +kernel
theorem dX9_write_38 : decode cX9_write 38 = .ok (.iload_n 1, 1) := by decide +kernel
theorem dX9_write_39 : decode cX9_write 39 = .ok (.aload_n 0, 1) := by decide +kernel
theorem dX9_write_40 : decode cX9_write 40 = .ok (.getfield 26, 3) := by decide +kernel
theorem dX9_write_43 : decode cX9_write 43 = .ok (.getfield 214, 3) := by decide +kernel
theorem dX9_write_46 : decode cX9_write 46 = .ok (.if_icmp .le 5, 3) := by decide +kernel
theorem dX9_write_49 : decode cX9_write 49 = .ok (.iconst 0, 1) := by decide +kernel
theorem dX9_write_50 : decode cX9_write 50 = .ok (.ireturn, 1) := by decide +kernel
theorem dX9_write_51 : decode cX9_write 51 = .ok (.aload_n 0, 1) := by decide +kernel
theorem dX9_write_52 : decode cX9_write 52 = .ok (.invokevirtual 217, 3) := by decide +kernel
theorem dX9_write_55 : decode cX9_write 55 = .ok (.iload_n 1, 1) := by decide +kernel
theorem dX9_write_56 : decode cX9_write 56 = .ok (.aload_n 0, 1) := by decide +kernel
theorem dX9_write_57 : decode cX9_write 57 = .ok (.getfield 68, 3) := by decide +kernel
theorem dX9_write_60 : decode cX9_write 60 = .ok (.getfield 276, 3) := by decide +kernel
theorem dX9_write_63 : decode cX9_write 63 = .ok (.iload_n 2, 1) := by decide +kernel
theorem dX9_write_64 : decode cX9_write 64 = .ok (.iaload, 1) := by decide +kernel
theorem dX9_write_65 : decode cX9_write 65 = .ok (.invokestatic 144, 3) := by decide +kernel
theorem dX9_write_68 : decode cX9_write 68 = .ok (.istore_n 3, 1) := by decide +kernel
theorem dX9_write_69 : decode cX9_write 69 = .ok (.iconst 0, 1) := by decide +kernel
theorem dX9_write_70 : decode cX9_write 70 = .ok (.istore 4, 2) := by decide +kernel
theorem dX9_write_72 : decode cX9_write 72 = .ok (.iload 4, 2) := by decide +kernel
theorem dX9_write_74 : decode cX9_write 74 = .ok (.iload_n 3, 1) := by decide +kernel
theorem dX9_write_75 : decode cX9_write 75 = .ok (.if_icmp .ge 36, 3) := by decide +kernel
theorem dX9_write_78 : decode cX9_write 78 = .ok (.aload_n 0, 1) := by decide +kernel
theorem dX9_write_79 : decode cX9_write 79 = .ok (.getfield 68, 3) := by decide +kernel
theorem dX9_write_82 : decode cX9_write 82 = .ok (.iload_n 2, 1) := by decide +kernel
theorem dX9_write_83 : decode cX9_write 83 = .ok (.iload 4, 2) := by decide +kernel
theorem dX9_write_85 : decode cX9_write 85 = .ok (.aload_n 0, 1) := by decide +kernel
theorem dX9_write_86 : decode cX9_write 86 = .ok (.getfield 47, 3) := by decide +kernel
theorem dX9_write_89 : decode cX9_write 89 = .ok (.iload_n 1, 1) := by decide +kernel
theorem dX9_write_90 : decode cX9_write 90 = .ok (.iload 4, 2) := by decide +kernel
theorem dX9_write_92 : decode cX9_write 92 = .ok (.aload_n 0, 1) := by decide +kernel
theorem dX9_write_93 : decode cX9_write 93 = .ok (.getfield 26, 3) := by decide +kernel
theorem dX9_write_96 : decode cX9_write 96 = .ok (.getfield 214, 3) := by decide +kernel
theorem dX9_write_99 : decode cX9_write 99 = .ok (.invokevirtual 229, 3) := by decide +kernel
theorem dX9_write_102 : decode cX9_write 102 = .ok (.invokevirtual 282, 3) := by decide +kernel
theorem dX9_write_105 : decode cX9_write 105 = .ok (.iinc 4 1, 3) := by decide +kernel
theorem dX9_write_108 : decode cX9_write 108 = .ok (.goto (-36), 3) := by decide +kernel
theorem dX9_write_111 : decode cX9_write 111 = .ok (.iload_n 3, 1) := by decide +kernel
theorem dX9_write_112 : decode cX9_write 112 = .ok (.ireturn, 1) := by decide +kernel
theorem dX9_count_0 : decode cX9_count 0 = .ok (.aload_n 0, 1) := by decide +kernel
theorem dX9_count_1 : decode cX9_count 1 = .ok (.invokevirtual 113, 3) := by decide +kernel
theorem dX9_count_4 : decode cX9_count 4 = .ok (.iload_n 1, 1) := by decide +kernel
theorem dX9_count_5 : decode cX9_count 5 = .ok (.tableswitch 112 0 8 #[51, 59, 67, 75, 83, 88, 95, 102, 107], 51) := by decide +kernel
theorem dX9_count_56 : decode cX9_count 56 = .ok (.aload_n 0, 1) := by decide +kernel
theorem dX9_count_57 : decode cX9_count 57 = .ok (.getfield 12, 3) := by decide +kernel
theorem dX9_count_60 : decode cX9_count 60 = .ok (.getfield 103, 3) := by decide +kernel
theorem dX9_count_63 : decode cX9_count 63 = .ok (.ireturn, 1) := by decide +kernel
theorem dX9_count_64 : decode cX9_count 64 = .ok (.aload_n 0, 1) := by decide +kernel
theorem dX9_count_65 : decode cX9_count 65 = .ok (.getfield 26, 3) := by decide +kernel
theorem dX9_count_68 : decode cX9_count 68 = .ok (.getfield 214, 3) := by decide +kernel
theorem dX9_count_71 : decode cX9_count 71 = .ok (.ireturn, 1) := by decide +kernel
theorem dX9_count_72 : decode cX9_count 72 = .ok (.aload_n 0, 1) := by decide +kernel
theorem dX9_count_73 : decode cX9_count 73 = .ok (.getfield 26, 3) := by decide +kernel
theorem dX9_count_76 : decode cX9_count 76 = .ok (.getfield 294, 3) := by decide +kernel
theorem dX9_count_79 : decode cX9_count 79 = .ok (.ireturn, 1) := by decide +kernel
theorem dX9_count_80 : decode cX9_count 80 = .ok (.aload_n 0, 1) := by decide +kernel
theorem dX9_count_81 : decode cX9_count 81 = .ok (.getfield 26, 3) := by decide +kernel
theorem dX9_count_84 : decode cX9_count 84 = .ok (.getfield 297, 3) := by decide +kernel
theorem dX9_count_87 : decode cX9_count 87 = .ok (.ireturn, 1) := by decide +kernel
theorem dX9_count_88 : decode cX9_count 88 = .ok (.aload_n 0, 1) := by decide +kernel
theorem dX9_count_89 : decode cX9_count 89 = .ok (.invokevirtual 300, 3) := by decide +kernel
theorem dX9_count_92 : decode cX9_count 92 = .ok (.ireturn, 1) := by decide +kernel
theorem dX9_count_93 : decode cX9_count 93 = .ok (.aload_n 0, 1) := by decide +kernel
theorem dX9_count_94 : decode cX9_count 94 = .ok (.getfield 72, 3) := by decide +kernel
theorem dX9_count_97 : decode cX9_count 97 = .ok (.iconst 0, 1) := by decide +kernel
theorem dX9_count_98 : decode cX9_count 98 = .ok (.iaload, 1) := by decide +kernel
theorem dX9_count_99 : decode cX9_count 99 = .ok (.ireturn, 1) := by decide +kernel
theorem dX9_count_100 : decode cX9_count 100 = .ok (.aload_n 0, 1) := by decide +kernel
theorem dX9_count_101 : decode cX9_count 101 = .ok (.getfield 72, 3) := by decide +kernel
theorem dX9_count_104 : decode cX9_count 104 = .ok (.iconst 1, 1) := by decide +kernel
theorem dX9_count_105 : decode cX9_count 105 = .ok (.iaload, 1) := by decide +kernel
theorem dX9_count_106 : decode cX9_count 106 = .ok (.ireturn, 1) := by decide +kernel
theorem dX9_count_107 : decode cX9_count 107 = .ok (.aload_n 0, 1) := by decide +kernel
theorem dX9_count_108 : decode cX9_count 108 = .ok (.getfield 76, 3) := by decide +kernel
theorem dX9_count_111 : decode cX9_count 111 = .ok (.ireturn, 1) := by decide +kernel
theorem dX9_count_112 : decode cX9_count 112 = .ok (.aload_n 0, 1) := by decide +kernel
theorem dX9_count_113 : decode cX9_count 113 = .ok (.getfield 80, 3) := by decide +kernel
theorem dX9_count_116 : decode cX9_count 116 = .ok (.ireturn, 1) := by decide +kernel
theorem dX9_count_117 : decode cX9_count 117 = .ok (.bipush (-2), 2) := by decide +kernel
theorem dX9_count_119 : decode cX9_count 119 = .ok (.ireturn, 1) := by decide +kernel
theorem dX9_digest_0 : decode cX9_digest 0 = .ok (.ldc2_w 304, 3) := by decide +kernel
theorem dX9_digest_3 : decode cX9_digest 3 = .ok (.lstore_n 1, 1) := by decide +kernel
theorem dX9_digest_4 : decode cX9_digest 4 = .ok (.iconst 0, 1) := by decide +kernel
theorem dX9_digest_5 : decode cX9_digest 5 = .ok (.istore_n 3, 1) := by decide +kernel
theorem dX9_digest_6 : decode cX9_digest 6 = .ok (.iload_n 3, 1) := by decide +kernel
theorem dX9_digest_7 : decode cX9_digest 7 = .ok (.bipush 7, 2) := by decide +kernel
theorem dX9_digest_9 : decode cX9_digest 9 = .ok (.if_icmp .gt 22, 3) := by decide +kernel
theorem dX9_digest_12 : decode cX9_digest 12 = .ok (.ldc2_w 306, 3) := by decide +kernel
theorem dX9_digest_15 : decode cX9_digest 15 = .ok (.lload_n 1, 1) := by decide +kernel
theorem dX9_digest_16 : decode cX9_digest 16 = .ok (.lmul, 1) := by decide +kernel
theorem dX9_digest_17 : decode cX9_digest 17 = .ok (.aload_n 0, 1) := by decide +kernel
theorem dX9_digest_18 : decode cX9_digest 18 = .ok (.iload_n 3, 1) := by decide +kernel
theorem dX9_digest_19 : decode cX9_digest 19 = .ok (.invokevirtual 308, 3) := by decide +kernel
theorem dX9_digest_22 : decode cX9_digest 22 = .ok (.i2l, 1) := by decide +kernel
theorem dX9_digest_23 : decode cX9_digest 23 = .ok (.ladd, 1) := by decide +kernel
theorem dX9_digest_24 : decode cX9_digest 24 = .ok (.lstore_n 1, 1) := by decide +kernel
theorem dX9_digest_25 : decode cX9_digest 25 = .ok (.iinc 3 1, 3) := by decide +kernel
theorem dX9_digest_28 : decode cX9_digest 28 = .ok (.goto (-22), 3) := by decide +kernel
theorem dX9_digest_31 : decode cX9_digest 31 = .ok (.iconst 0, 1) := by decide +kernel
theorem dX9_digest_32 : decode cX9_digest 32 = .ok (.istore_n 3, 1) := by decide +kernel
theorem dX9_digest_33 : decode cX9_digest 33 = .ok (.iload_n 3, 1) := by decide +kernel
theorem dX9_digest_34 : decode cX9_digest 34 = .ok (.iconst 2, 1) := by decide +kernel
theorem dX9_digest_35 : decode cX9_digest 35 = .ok (.if_icmp .gt 22, 3) := by decide +kernel
theorem dX9_digest_38 : decode cX9_digest 38 = .ok (.ldc2_w 306, 3) := by decide +kernel
theorem dX9_digest_41 : decode cX9_digest 41 = .ok (.lload_n 1, 1) := by decide +kernel
theorem dX9_digest_42 : decode cX9_digest 42 = .ok (.lmul, 1) := by decide +kernel
theorem dX9_digest_43 : decode cX9_digest 43 = .ok (.aload_n 0, 1) := by decide +kernel
theorem dX9_digest_44 : decode cX9_digest 44 = .ok (.iload_n 3, 1) := by decide +kernel
theorem dX9_digest_45 : decode cX9_digest 45 = .ok (.invokevirtual 311, 3) := by decide +kernel
theorem dX9_digest_48 : decode cX9_digest 48 = .ok (.i2l, 1) := by decide +kernel
theorem dX9_digest_49 : decode cX9_digest 49 = .ok (.ladd, 1) := by decide +kernel
theorem dX9_digest_50 : decode cX9_digest 50 = .ok (.lstore_n 1, 1) := by decide +kernel
theorem dX9_digest_51 : decode cX9_digest 51 = .ok (.iinc 3 1, 3) := by decide +kernel
theorem dX9_digest_54 : decode cX9_digest 54 = .ok (.goto (-21), 3) := by decide +kernel
theorem dX9_digest_57 : decode cX9_digest 57 = .ok (.iconst 0, 1) := by decide +kernel
theorem dX9_digest_58 : decode cX9_digest 58 = .ok (.istore_n 3, 1) := by decide +kernel
theorem dX9_digest_59 : decode cX9_digest 59 = .ok (.iload_n 3, 1) := by decide +kernel
theorem dX9_digest_60 : decode cX9_digest 60 = .ok (.bipush 12, 2) := by decide +kernel
theorem dX9_digest_62 : decode cX9_digest 62 = .ok (.if_icmp .ge 16, 3) := by decide +kernel
theorem dX9_digest_65 : decode cX9_digest 65 = .ok (.aload_n 0, 1) := by decide +kernel
theorem dX9_digest_66 : decode cX9_digest 66 = .ok (.lload_n 1, 1) := by decide +kernel
theorem dX9_digest_67 : decode cX9_digest 67 = .ok (.iload_n 3, 1) := by decide +kernel
theorem dX9_digest_68 : decode cX9_digest 68 = .ok (.invokevirtual 314, 3) := by decide +kernel
theorem dX9_digest_71 : decode cX9_digest 71 = .ok (.lstore_n 1, 1) := by decide +kernel
theorem dX9_digest_72 : decode cX9_digest 72 = .ok (.iinc 3 1, 3) := by decide +kernel
theorem dX9_digest_75 : decode cX9_digest 75 = .ok (.goto (-16), 3) := by decide +kernel
theorem dX9_digest_78 : decode cX9_digest 78 = .ok (.iconst 0, 1) := by decide +kernel
theorem dX9_digest_79 : decode cX9_digest 79 = .ok (.istore_n 3, 1) := by decide +kernel
theorem dX9_digest_80 : decode cX9_digest 80 = .ok (.iload_n 3, 1) := by decide +kernel
theorem dX9_digest_81 : decode cX9_digest 81 = .ok (.aload_n 0, 1) := by decide +kernel
theorem dX9_digest_82 : decode cX9_digest 82 = .ok (.getfield 26, 3) := by decide +kernel
theorem dX9_digest_85 : decode cX9_digest 85 = .ok (.getfield 297, 3) := by decide +kernel
theorem dX9_digest_88 : decode cX9_digest 88 = .ok (.if_icmp .ge 16, 3) := by decide +kernel
theorem dX9_digest_91 : decode cX9_digest 91 = .ok (.aload_n 0, 1) := by decide +kernel
theorem dX9_digest_92 : decode cX9_digest 92 = .ok (.lload_n 1, 1) := by decide +kernel
theorem dX9_digest_93 : decode cX9_digest 93 = .ok (.iload_n 3, 1) := by decide +kernel
theorem dX9_digest_94 : decode cX9_digest 94 = .ok (.invokevirtual 318, 3) := by decide +kernel
theorem dX9_digest_97 : decode cX9_digest 97 = .ok (.lstore_n 1, 1) := by decide +kernel
theorem dX9_digest_98 : decode cX9_digest 98 = .ok (.iinc 3 1, 3) := by decide +kernel
theorem dX9_digest_101 : decode cX9_digest 101 = .ok (.goto (-21), 3) := by decide +kernel
theorem dX9_digest_104 : decode cX9_digest 104 = .ok (.iconst 0, 1) := by decide +kernel
theorem dX9_digest_105 : decode cX9_digest 105 = .ok (.istore_n 3, 1) := by decide +kernel
theorem dX9_digest_106 : decode cX9_digest 106 = .ok (.iload_n 3, 1) := by decide +kernel
theorem dX9_digest_107 : decode cX9_digest 107 = .ok (.bipush 9, 2) := by decide +kernel
theorem dX9_digest_109 : decode cX9_digest 109 = .ok (.if_icmp .gt 39, 3) := by decide +kernel
theorem dX9_digest_112 : decode cX9_digest 112 = .ok (.iconst 0, 1) := by decide +kernel
theorem dX9_digest_113 : decode cX9_digest 113 = .ok (.istore 4, 2) := by decide +kernel
theorem dX9_digest_115 : decode cX9_digest 115 = .ok (.iload 4, 2) := by decide +kernel
theorem dX9_digest_117 : decode cX9_digest 117 = .ok (.iconst 4, 1) := by decide +kernel
theorem dX9_digest_118 : decode cX9_digest 118 = .ok (.if_icmp .gt 24, 3) := by decide +kernel
theorem dX9_digest_121 : decode cX9_digest 121 = .ok (.ldc2_w 306, 3) := by decide +kernel
theorem dX9_digest_124 : decode cX9_digest 124 = .ok (.lload_n 1, 1) := by decide +kernel
theorem dX9_digest_125 : decode cX9_digest 125 = .ok (.lmul, 1) := by decide +kernel
theorem dX9_digest_126 : decode cX9_digest 126 = .ok (.aload_n 0, 1) := by decide +kernel
theorem dX9_digest_127 : decode cX9_digest 127 = .ok (.iload_n 3, 1) := by decide +kernel
theorem dX9_digest_128 : decode cX9_digest 128 = .ok (.iload 4, 2) := by decide +kernel
theorem dX9_digest_130 : decode cX9_digest 130 = .ok (.invokevirtual 321, 3) := by decide +kernel
theorem dX9_digest_133 : decode cX9_digest 133 = .ok (.i2l, 1) := by decide +kernel
theorem dX9_digest_134 : decode cX9_digest 134 = .ok (.ladd, 1) := by decide +kernel
theorem dX9_digest_135 : decode cX9_digest 135 = .ok (.lstore_n 1, 1) := by decide +kernel
theorem dX9_digest_136 : decode cX9_digest 136 = .ok (.iinc 4 1, 3) := by decide +kernel
theorem dX9_digest_139 : decode cX9_digest 139 = .ok (.goto (-24), 3) := by decide +kernel
theorem dX9_digest_142 : decode cX9_digest 142 = .ok (.iinc 3 1, 3) := by decide +kernel
theorem dX9_digest_145 : decode cX9_digest 145 = .ok (.goto (-39), 3) := by decide +kernel
theorem dX9_digest_148 : decode cX9_digest 148 = .ok (.iconst 0, 1) := by decide +kernel
theorem dX9_digest_149 : decode cX9_digest 149 = .ok (.istore_n 3, 1) := by decide +kernel
theorem dX9_digest_150 : decode cX9_digest 150 = .ok (.iload_n 3, 1) := by decide +kernel
theorem dX9_digest_151 : decode cX9_digest 151 = .ok (.aload_n 0, 1) := by decide +kernel
theorem dX9_digest_152 : decode cX9_digest 152 = .ok (.getfield 26, 3) := by decide +kernel
theorem dX9_digest_155 : decode cX9_digest 155 = .ok (.getfield 214, 3) := by decide +kernel
theorem dX9_digest_158 : decode cX9_digest 158 = .ok (.if_icmp .ge 43, 3) := by decide +kernel
theorem dX9_digest_161 : decode cX9_digest 161 = .ok (.ldc2_w 306, 3) := by decide +kernel
theorem dX9_digest_164 : decode cX9_digest 164 = .ok (.lload_n 1, 1) := by decide +kernel
theorem dX9_digest_165 : decode cX9_digest 165 = .ok (.lmul, 1) := by decide +kernel
theorem dX9_digest_166 : decode cX9_digest 166 = .ok (.aload_n 0, 1) := by decide +kernel
theorem dX9_digest_167 : decode cX9_digest 167 = .ok (.iconst 0, 1) := by decide +kernel
theorem dX9_digest_168 : decode cX9_digest 168 = .ok (.iload_n 3, 1) := by decide +kernel
theorem dX9_digest_169 : decode cX9_digest 169 = .ok (.invokevirtual 324, 3) := by decide +kernel
theorem dX9_digest_172 : decode cX9_digest 172 = .ok (.i2l, 1) := by decide +kernel
theorem dX9_digest_173 : decode cX9_digest 173 = .ok (.ladd, 1) := by decide +kernel
theorem dX9_digest_174 : decode cX9_digest 174 = .ok (.lstore_n 1, 1) := by decide +kernel
theorem dX9_digest_175 : decode cX9_digest 175 = .ok (.ldc2_w 306, 3) := by decide +kernel
theorem dX9_digest_178 : decode cX9_digest 178 = .ok (.lload_n 1, 1) := by decide +kernel
theorem dX9_digest_179 : decode cX9_digest 179 = .ok (.lmul, 1) := by decide +kernel
theorem dX9_digest_180 : decode cX9_digest 180 = .ok (.aload_n 0, 1) := by decide +kernel
theorem dX9_digest_181 : decode cX9_digest 181 = .ok (.iload_n 3, 1) := by decide +kernel
theorem dX9_digest_182 : decode cX9_digest 182 = .ok (.aload_n 0, 1) := by decide +kernel
theorem dX9_digest_183 : decode cX9_digest 183 = .ok (.getfield 26, 3) := by decide +kernel
theorem dX9_digest_186 : decode cX9_digest 186 = .ok (.getfield 214, 3) := by decide +kernel
theorem dX9_digest_189 : decode cX9_digest 189 = .ok (.invokevirtual 324, 3) := by decide +kernel
theorem dX9_digest_192 : decode cX9_digest 192 = .ok (.i2l, 1) := by decide +kernel
theorem dX9_digest_193 : decode cX9_digest 193 = .ok (.ladd, 1) := by decide +kernel
theorem dX9_digest_194 : decode cX9_digest 194 = .ok (.lstore_n 1, 1) := by decide +kernel
theorem dX9_digest_195 : decode cX9_digest 195 = .ok (.iinc 3 1, 3) := by decide +kernel
theorem dX9_digest_198 : decode cX9_digest 198 = .ok (.goto (-48), 3) := by decide +kernel
theorem dX9_digest_201 : decode cX9_digest 201 = .ok (.iconst 1, 1) := by decide +kernel
theorem dX9_digest_202 : decode cX9_digest 202 = .ok (.istore_n 3, 1) := by decide +kernel
theorem dX9_digest_203 : decode cX9_digest 203 = .ok (.iload_n 3, 1) := by decide +kernel
theorem dX9_digest_204 : decode cX9_digest 204 = .ok (.bipush 8, 2) := by decide +kernel
theorem dX9_digest_206 : decode cX9_digest 206 = .ok (.if_icmp .gt 16, 3) := by decide +kernel
theorem dX9_digest_209 : decode cX9_digest 209 = .ok (.aload_n 0, 1) := by decide +kernel
theorem dX9_digest_210 : decode cX9_digest 210 = .ok (.lload_n 1, 1) := by decide +kernel
theorem dX9_digest_211 : decode cX9_digest 211 = .ok (.iload_n 3, 1) := by decide +kernel
theorem dX9_digest_212 : decode cX9_digest 212 = .ok (.invokevirtual 327, 3) := by decide +kernel
theorem dX9_digest_215 : decode cX9_digest 215 = .ok (.lstore_n 1, 1) := by decide +kernel
theorem dX9_digest_216 : decode cX9_digest 216 = .ok (.iinc 3 1, 3) := by decide +kernel
theorem dX9_digest_219 : decode cX9_digest 219 = .ok (.goto (-16), 3) := by decide +kernel
theorem dX9_digest_222 : decode cX9_digest 222 = .ok (.ldc2_w 306, 3) := by decide +kernel
theorem dX9_digest_225 : decode cX9_digest 225 = .ok (.lload_n 1, 1) := by decide +kernel
theorem dX9_digest_226 : decode cX9_digest 226 = .ok (.lmul, 1) := by decide +kernel
theorem dX9_digest_227 : decode cX9_digest 227 = .ok (.aload_n 0, 1) := by decide +kernel
theorem dX9_digest_228 : decode cX9_digest 228 = .ok (.invokevirtual 330, 3) := by decide +kernel
theorem dX9_digest_231 : decode cX9_digest 231 = .ok (.i2l, 1) := by decide +kernel
theorem dX9_digest_232 : decode cX9_digest 232 = .ok (.ladd, 1) := by decide +kernel
theorem dX9_digest_233 : decode cX9_digest 233 = .ok (.lreturn, 1) := by decide +kernel
theorem dX9_mixSentence_0 : decode cX9_mixSentence 0 = .ok (.lload_n 1, 1) := by decide +kernel
theorem dX9_mixSentence_1 : decode cX9_mixSentence 1 = .ok (.lstore 4, 2) := by decide +kernel
theorem dX9_mixSentence_3 : decode cX9_mixSentence 3 = .ok (.iconst 0, 1) := by decide +kernel
theorem dX9_mixSentence_4 : decode cX9_mixSentence 4 = .ok (.istore 6, 2) := by decide +kernel
theorem dX9_mixSentence_6 : decode cX9_mixSentence 6 = .ok (.iload 6, 2) := by decide +kernel
theorem dX9_mixSentence_8 : decode cX9_mixSentence 8 = .ok (.iconst 3, 1) := by decide +kernel
theorem dX9_mixSentence_9 : decode cX9_mixSentence 9 = .ok (.if_icmp .gt 26, 3) := by decide +kernel
theorem dX9_mixSentence_12 : decode cX9_mixSentence 12 = .ok (.ldc2_w 306, 3) := by decide +kernel
theorem dX9_mixSentence_15 : decode cX9_mixSentence 15 = .ok (.lload 4, 2) := by decide +kernel
theorem dX9_mixSentence_17 : decode cX9_mixSentence 17 = .ok (.lmul, 1) := by decide +kernel
theorem dX9_mixSentence_18 : decode cX9_mixSentence 18 = .ok (.aload_n 0, 1) := by decide +kernel
theorem dX9_mixSentence_19 : decode cX9_mixSentence 19 = .ok (.iload_n 3, 1) := by decide +kernel
theorem dX9_mixSentence_20 : decode cX9_mixSentence 20 = .ok (.iload 6, 2) := by decide +kernel
theorem dX9_mixSentence_22 : decode cX9_mixSentence 22 = .ok (.invokevirtual 333, 3) := by decide +kernel
theorem dX9_mixSentence_25 : decode cX9_mixSentence 25 = .ok (.i2l, 1) := by decide +kernel
theorem dX9_mixSentence_26 : decode cX9_mixSentence 26 = .ok (.ladd, 1) := by decide +kernel
theorem dX9_mixSentence_27 : decode cX9_mixSentence 27 = .ok (.lstore 4, 2) := by decide +kernel
theorem dX9_mixSentence_29 : decode cX9_mixSentence 29 = .ok (.iinc 6 1, 3) := by decide +kernel
theorem dX9_mixSentence_32 : decode cX9_mixSentence 32 = .ok (.goto (-26), 3) := by decide +kernel
theorem dX9_mixSentence_35 : decode cX9_mixSentence 35 = .ok (.ldc2_w 306, 3) := by decide +kernel
theorem dX9_mixSentence_38 : decode cX9_mixSentence 38 = .ok (.lload 4, 2) := by decide +kernel
theorem dX9_mixSentence_40 : decode cX9_mixSentence 40 = .ok (.lmul, 1) := by decide +kernel
theorem dX9_mixSentence_41 : decode cX9_mixSentence 41 = .ok (.aload_n 0, 1) := by decide +kernel
theorem dX9_mixSentence_42 : decode cX9_mixSentence 42 = .ok (.iload_n 3, 1) := by decide +kernel
theorem dX9_mixSentence_43 : decode cX9_mixSentence 43 = .ok (.iconst 0, 1) := by decide +kernel
theorem dX9_mixSentence_44 : decode cX9_mixSentence 44 = .ok (.invokevirtual 336, 3) := by decide +kernel
theorem dX9_mixSentence_47 : decode cX9_mixSentence 47 = .ok (.i2l, 1) := by decide +kernel
theorem dX9_mixSentence_48 : decode cX9_mixSentence 48 = .ok (.ladd, 1) := by decide +kernel
theorem dX9_mixSentence_49 : decode cX9_mixSentence 49 = .ok (.lstore 4, 2) := by decide +kernel
theorem dX9_mixSentence_51 : decode cX9_mixSentence 51 = .ok (.ldc2_w 306, 3) := by decide +kernel
theorem dX9_mixSentence_54 : decode cX9_mixSentence 54 = .ok (.lload 4, 2) := by decide +kernel
theorem dX9_mixSentence_56 : decode cX9_mixSentence 56 = .ok (.lmul, 1) := by decide +kernel
theorem dX9_mixSentence_57 : decode cX9_mixSentence 57 = .ok (.aload_n 0, 1) := by decide +kernel
theorem dX9_mixSentence_58 : decode cX9_mixSentence 58 = .ok (.iload_n 3, 1) := by decide +kernel
theorem dX9_mixSentence_59 : decode cX9_mixSentence 59 = .ok (.iconst 2, 1) := by decide +kernel
theorem dX9_mixSentence_60 : decode cX9_mixSentence 60 = .ok (.invokevirtual 336, 3) := by decide +kernel
theorem dX9_mixSentence_63 : decode cX9_mixSentence 63 = .ok (.i2l, 1) := by decide +kernel
theorem dX9_mixSentence_64 : decode cX9_mixSentence 64 = .ok (.ladd, 1) := by decide +kernel
theorem dX9_mixSentence_65 : decode cX9_mixSentence 65 = .ok (.lstore 4, 2) := by decide +kernel
theorem dX9_mixSentence_67 : decode cX9_mixSentence 67 = .ok (.ldc2_w 306, 3) := by decide +kernel
theorem dX9_mixSentence_70 : decode cX9_mixSentence 70 = .ok (.lload 4, 2) := by decide +kernel
theorem dX9_mixSentence_72 : decode cX9_mixSentence 72 = .ok (.lmul, 1) := by decide +kernel
theorem dX9_mixSentence_73 : decode cX9_mixSentence 73 = .ok (.aload_n 0, 1) := by decide +kernel
theorem dX9_mixSentence_74 : decode cX9_mixSentence 74 = .ok (.iload_n 3, 1) := by decide +kernel
theorem dX9_mixSentence_75 : decode cX9_mixSentence 75 = .ok (.iconst 0, 1) := by decide +kernel
theorem dX9_mixSentence_76 : decode cX9_mixSentence 76 = .ok (.invokevirtual 339, 3) := by decide +kernel
theorem dX9_mixSentence_79 : decode cX9_mixSentence 79 = .ok (.i2l, 1) := by decide +kernel
theorem dX9_mixSentence_80 : decode cX9_mixSentence 80 = .ok (.ladd, 1) := by decide +kernel
theorem dX9_mixSentence_81 : decode cX9_mixSentence 81 = .ok (.lstore 4, 2) := by decide +kernel
theorem dX9_mixSentence_83 : decode cX9_mixSentence 83 = .ok (.ldc2_w 306, 3) := by decide +kernel
theorem dX9_mixSentence_86 : decode cX9_mixSentence 86 = .ok (.lload 4, 2) := by decide +kernel
theorem dX9_mixSentence_88 : decode cX9_mixSentence 88 = .ok (.lmul, 1) := by decide +kernel
theorem dX9_mixSentence_89 : decode cX9_mixSentence 89 = .ok (.aload_n 0, 1) := by decide +kernel
theorem dX9_mixSentence_90 : decode cX9_mixSentence 90 = .ok (.iload_n 3, 1) := by decide +kernel
theorem dX9_mixSentence_91 : decode cX9_mixSentence 91 = .ok (.iconst 1, 1) := by decide +kernel
theorem dX9_mixSentence_92 : decode cX9_mixSentence 92 = .ok (.invokevirtual 339, 3) := by decide +kernel
theorem dX9_mixSentence_95 : decode cX9_mixSentence 95 = .ok (.i2l, 1) := by decide +kernel
theorem dX9_mixSentence_96 : decode cX9_mixSentence 96 = .ok (.ladd, 1) := by decide +kernel
theorem dX9_mixSentence_97 : decode cX9_mixSentence 97 = .ok (.lstore 4, 2) := by decide +kernel
theorem dX9_mixSentence_99 : decode cX9_mixSentence 99 = .ok (.ldc2_w 306, 3) := by decide +kernel
theorem dX9_mixSentence_102 : decode cX9_mixSentence 102 = .ok (.lload 4, 2) := by decide +kernel
theorem dX9_mixSentence_104 : decode cX9_mixSentence 104 = .ok (.lmul, 1) := by decide +kernel
theorem dX9_mixSentence_105 : decode cX9_mixSentence 105 = .ok (.aload_n 0, 1) := by decide +kernel
theorem dX9_mixSentence_106 : decode cX9_mixSentence 106 = .ok (.iload_n 3, 1) := by decide +kernel
theorem dX9_mixSentence_107 : decode cX9_mixSentence 107 = .ok (.iconst 0, 1) := by decide +kernel
theorem dX9_mixSentence_108 : decode cX9_mixSentence 108 = .ok (.invokevirtual 342, 3) := by decide +kernel
theorem dX9_mixSentence_111 : decode cX9_mixSentence 111 = .ok (.i2l, 1) := by decide +kernel
theorem dX9_mixSentence_112 : decode cX9_mixSentence 112 = .ok (.ladd, 1) := by decide +kernel
theorem dX9_mixSentence_113 : decode cX9_mixSentence 113 = .ok (.lstore 4, 2) := by decide +kernel
theorem dX9_mixSentence_115 : decode cX9_mixSentence 115 = .ok (.ldc2_w 306, 3) := by decide +kernel
theorem dX9_mixSentence_118 : decode cX9_mixSentence 118 = .ok (.lload 4, 2) := by decide +kernel
theorem dX9_mixSentence_120 : decode cX9_mixSentence 120 = .ok (.lmul, 1) := by decide +kernel
theorem dX9_mixSentence_121 : decode cX9_mixSentence 121 = .ok (.aload_n 0, 1) := by decide +kernel
theorem dX9_mixSentence_122 : decode cX9_mixSentence 122 = .ok (.iload_n 3, 1) := by decide +kernel
theorem dX9_mixSentence_123 : decode cX9_mixSentence 123 = .ok (.iconst 1, 1) := by decide +kernel
theorem dX9_mixSentence_124 : decode cX9_mixSentence 124 = .ok (.invokevirtual 342, 3) := by decide +kernel
theorem dX9_mixSentence_127 : decode cX9_mixSentence 127 = .ok (.i2l, 1) := by decide +kernel
theorem dX9_mixSentence_128 : decode cX9_mixSentence 128 = .ok (.ladd, 1) := by decide +kernel
theorem dX9_mixSentence_129 : decode cX9_mixSentence 129 = .ok (.lstore 4, 2) := by decide +kernel
theorem dX9_mixSentence_131 : decode cX9_mixSentence 131 = .ok (.ldc2_w 306, 3) := by decide +kernel
theorem dX9_mixSentence_134 : decode cX9_mixSentence 134 = .ok (.lload 4, 2) := by decide +kernel
theorem dX9_mixSentence_136 : decode cX9_mixSentence 136 = .ok (.lmul, 1) := by decide +kernel
theorem dX9_mixSentence_137 : decode cX9_mixSentence 137 = .ok (.aload_n 0, 1) := by decide +kernel
theorem dX9_mixSentence_138 : decode cX9_mixSentence 138 = .ok (.iload_n 3, 1) := by decide +kernel
theorem dX9_mixSentence_139 : decode cX9_mixSentence 139 = .ok (.invokevirtual 345, 3) := by decide +kernel
theorem dX9_mixSentence_142 : decode cX9_mixSentence 142 = .ok (.i2l, 1) := by decide +kernel
theorem dX9_mixSentence_143 : decode cX9_mixSentence 143 = .ok (.ladd, 1) := by decide +kernel
theorem dX9_mixSentence_144 : decode cX9_mixSentence 144 = .ok (.lreturn, 1) := by decide +kernel
theorem dX9_mixStem_0 : decode cX9_mixStem 0 = .ok (.lload_n 1, 1) := by decide +kernel
theorem dX9_mixStem_1 : decode cX9_mixStem 1 = .ok (.lstore 4, 2) := by decide +kernel
theorem dX9_mixStem_3 : decode cX9_mixStem 3 = .ok (.iconst 0, 1) := by decide +kernel
theorem dX9_mixStem_4 : decode cX9_mixStem 4 = .ok (.istore 6, 2) := by decide +kernel
theorem dX9_mixStem_6 : decode cX9_mixStem 6 = .ok (.iload 6, 2) := by decide +kernel
theorem dX9_mixStem_8 : decode cX9_mixStem 8 = .ok (.iconst 3, 1) := by decide +kernel
theorem dX9_mixStem_9 : decode cX9_mixStem 9 = .ok (.if_icmp .gt 26, 3) := by decide +kernel
theorem dX9_mixStem_12 : decode cX9_mixStem 12 = .ok (.ldc2_w 306, 3) := by decide +kernel
theorem dX9_mixStem_15 : decode cX9_mixStem 15 = .ok (.lload 4, 2) := by decide +kernel
theorem dX9_mixStem_17 : decode cX9_mixStem 17 = .ok (.lmul, 1) := by decide +kernel
theorem dX9_mixStem_18 : decode cX9_mixStem 18 = .ok (.aload_n 0, 1) := by decide +kernel
theorem dX9_mixStem_19 : decode cX9_mixStem 19 = .ok (.iload_n 3, 1) := by decide +kernel
theorem dX9_mixStem_20 : decode cX9_mixStem 20 = .ok (.iload 6, 2) := by decide +kernel
theorem dX9_mixStem_22 : decode cX9_mixStem 22 = .ok (.invokevirtual 348, 3) := by decide +kernel
theorem dX9_mixStem_25 : decode cX9_mixStem 25 = .ok (.i2l, 1) := by decide +kernel
theorem dX9_mixStem_26 : decode cX9_mixStem 26 = .ok (.ladd, 1) := by decide +kernel
theorem dX9_mixStem_27 : decode cX9_mixStem 27 = .ok (.lstore 4, 2) := by decide +kernel
theorem dX9_mixStem_29 : decode cX9_mixStem 29 = .ok (.iinc 6 1, 3) := by decide +kernel
theorem dX9_mixStem_32 : decode cX9_mixStem 32 = .ok (.goto (-26), 3) := by decide +kernel
theorem dX9_mixStem_35 : decode cX9_mixStem 35 = .ok (.ldc2_w 306, 3) := by decide +kernel
theorem dX9_mixStem_38 : decode cX9_mixStem 38 = .ok (.lload 4, 2) := by decide +kernel
theorem dX9_mixStem_40 : decode cX9_mixStem 40 = .ok (.lmul, 1) := by decide +kernel
theorem dX9_mixStem_41 : decode cX9_mixStem 41 = .ok (.aload_n 0, 1) := by decide +kernel
theorem dX9_mixStem_42 : decode cX9_mixStem 42 = .ok (.iload_n 3, 1) := by decide +kernel
theorem dX9_mixStem_43 : decode cX9_mixStem 43 = .ok (.iconst 0, 1) := by decide +kernel
theorem dX9_mixStem_44 : decode cX9_mixStem 44 = .ok (.invokevirtual 351, 3) := by decide +kernel
theorem dX9_mixStem_47 : decode cX9_mixStem 47 = .ok (.i2l, 1) := by decide +kernel
theorem dX9_mixStem_48 : decode cX9_mixStem 48 = .ok (.ladd, 1) := by decide +kernel
theorem dX9_mixStem_49 : decode cX9_mixStem 49 = .ok (.lstore 4, 2) := by decide +kernel
theorem dX9_mixStem_51 : decode cX9_mixStem 51 = .ok (.ldc2_w 306, 3) := by decide +kernel
theorem dX9_mixStem_54 : decode cX9_mixStem 54 = .ok (.lload 4, 2) := by decide +kernel
theorem dX9_mixStem_56 : decode cX9_mixStem 56 = .ok (.lmul, 1) := by decide +kernel
theorem dX9_mixStem_57 : decode cX9_mixStem 57 = .ok (.aload_n 0, 1) := by decide +kernel
theorem dX9_mixStem_58 : decode cX9_mixStem 58 = .ok (.iload_n 3, 1) := by decide +kernel
theorem dX9_mixStem_59 : decode cX9_mixStem 59 = .ok (.iconst 3, 1) := by decide +kernel
theorem dX9_mixStem_60 : decode cX9_mixStem 60 = .ok (.invokevirtual 351, 3) := by decide +kernel
theorem dX9_mixStem_63 : decode cX9_mixStem 63 = .ok (.i2l, 1) := by decide +kernel
theorem dX9_mixStem_64 : decode cX9_mixStem 64 = .ok (.ladd, 1) := by decide +kernel
theorem dX9_mixStem_65 : decode cX9_mixStem 65 = .ok (.lreturn, 1) := by decide +kernel
theorem dX9_mixParting_0 : decode cX9_mixParting 0 = .ok (.ldc2_w 306, 3) := by decide +kernel
theorem dX9_mixParting_3 : decode cX9_mixParting 3 = .ok (.lload_n 1, 1) := by decide +kernel
theorem dX9_mixParting_4 : decode cX9_mixParting 4 = .ok (.lmul, 1) := by decide +kernel
theorem dX9_mixParting_5 : decode cX9_mixParting 5 = .ok (.aload_n 0, 1) := by decide +kernel
theorem dX9_mixParting_6 : decode cX9_mixParting 6 = .ok (.iload_n 3, 1) := by decide +kernel
theorem dX9_mixParting_7 : decode cX9_mixParting 7 = .ok (.invokevirtual 354, 3) := by decide +kernel
theorem dX9_mixParting_10 : decode cX9_mixParting 10 = .ok (.i2l, 1) := by decide +kernel
theorem dX9_mixParting_11 : decode cX9_mixParting 11 = .ok (.ladd, 1) := by decide +kernel
theorem dX9_mixParting_12 : decode cX9_mixParting 12 = .ok (.lstore 4, 2) := by decide +kernel
theorem dX9_mixParting_14 : decode cX9_mixParting 14 = .ok (.iconst 0, 1) := by decide +kernel
theorem dX9_mixParting_15 : decode cX9_mixParting 15 = .ok (.istore 6, 2) := by decide +kernel
theorem dX9_mixParting_17 : decode cX9_mixParting 17 = .ok (.iload 6, 2) := by decide +kernel
theorem dX9_mixParting_19 : decode cX9_mixParting 19 = .ok (.bipush 8, 2) := by decide +kernel
theorem dX9_mixParting_21 : decode cX9_mixParting 21 = .ok (.if_icmp .ge 26, 3) := by decide +kernel
theorem dX9_mixParting_24 : decode cX9_mixParting 24 = .ok (.ldc2_w 306, 3) := by decide +kernel
theorem dX9_mixParting_27 : decode cX9_mixParting 27 = .ok (.lload 4, 2) := by decide +kernel
theorem dX9_mixParting_29 : decode cX9_mixParting 29 = .ok (.lmul, 1) := by decide +kernel
theorem dX9_mixParting_30 : decode cX9_mixParting 30 = .ok (.aload_n 0, 1) := by decide +kernel
theorem dX9_mixParting_31 : decode cX9_mixParting 31 = .ok (.iload_n 3, 1) := by decide +kernel
theorem dX9_mixParting_32 : decode cX9_mixParting 32 = .ok (.iload 6, 2) := by decide +kernel
theorem dX9_mixParting_34 : decode cX9_mixParting 34 = .ok (.invokevirtual 357, 3) := by decide +kernel
theorem dX9_mixParting_37 : decode cX9_mixParting 37 = .ok (.i2l, 1) := by decide +kernel
theorem dX9_mixParting_38 : decode cX9_mixParting 38 = .ok (.ladd, 1) := by decide +kernel
theorem dX9_mixParting_39 : decode cX9_mixParting 39 = .ok (.lstore 4, 2) := by decide +kernel
theorem dX9_mixParting_41 : decode cX9_mixParting 41 = .ok (.iinc 6 1, 3) := by decide +kernel
theorem dX9_mixParting_44 : decode cX9_mixParting 44 = .ok (.goto (-27), 3) := by decide +kernel
theorem dX9_mixParting_47 : decode cX9_mixParting 47 = .ok (.ldc2_w 306, 3) := by decide +kernel
theorem dX9_mixParting_50 : decode cX9_mixParting 50 = .ok (.lload 4, 2) := by decide +kernel
theorem dX9_mixParting_52 : decode cX9_mixParting 52 = .ok (.lmul, 1) := by decide +kernel
theorem dX9_mixParting_53 : decode cX9_mixParting 53 = .ok (.aload_n 0, 1) := by decide +kernel
theorem dX9_mixParting_54 : decode cX9_mixParting 54 = .ok (.iload_n 3, 1) := by decide +kernel
theorem dX9_mixParting_55 : decode cX9_mixParting 55 = .ok (.iconst 0, 1) := by decide +kernel
theorem dX9_mixParting_56 : decode cX9_mixParting 56 = .ok (.invokevirtual 360, 3) := by decide +kernel
theorem dX9_mixParting_59 : decode cX9_mixParting 59 = .ok (.i2l, 1) := by decide +kernel
theorem dX9_mixParting_60 : decode cX9_mixParting 60 = .ok (.ladd, 1) := by decide +kernel
theorem dX9_mixParting_61 : decode cX9_mixParting 61 = .ok (.lstore 4, 2) := by decide +kernel
theorem dX9_mixParting_63 : decode cX9_mixParting 63 = .ok (.ldc2_w 306, 3) := by decide +kernel
theorem dX9_mixParting_66 : decode cX9_mixParting 66 = .ok (.lload 4, 2) := by decide +kernel
theorem dX9_mixParting_68 : decode cX9_mixParting 68 = .ok (.lmul, 1) := by decide +kernel
theorem dX9_mixParting_69 : decode cX9_mixParting 69 = .ok (.aload_n 0, 1) := by decide +kernel
theorem dX9_mixParting_70 : decode cX9_mixParting 70 = .ok (.iload_n 3, 1) := by decide +kernel
theorem dX9_mixParting_71 : decode cX9_mixParting 71 = .ok (.iconst 1, 1) := by decide +kernel
theorem dX9_mixParting_72 : decode cX9_mixParting 72 = .ok (.invokevirtual 360, 3) := by decide +kernel
theorem dX9_mixParting_75 : decode cX9_mixParting 75 = .ok (.i2l, 1) := by decide +kernel
theorem dX9_mixParting_76 : decode cX9_mixParting 76 = .ok (.ladd, 1) := by decide +kernel
theorem dX9_mixParting_77 : decode cX9_mixParting 77 = .ok (.lstore 4, 2) := by decide +kernel
theorem dX9_mixParting_79 : decode cX9_mixParting 79 = .ok (.ldc2_w 306, 3) := by decide +kernel
theorem dX9_mixParting_82 : decode cX9_mixParting 82 = .ok (.lload 4, 2) := by decide +kernel
theorem dX9_mixParting_84 : decode cX9_mixParting 84 = .ok (.lmul, 1) := by decide +kernel
theorem dX9_mixParting_85 : decode cX9_mixParting 85 = .ok (.aload_n 0, 1) := by decide +kernel
theorem dX9_mixParting_86 : decode cX9_mixParting 86 = .ok (.iload_n 3, 1) := by decide +kernel
theorem dX9_mixParting_87 : decode cX9_mixParting 87 = .ok (.iconst 1, 1) := by decide +kernel
theorem dX9_mixParting_88 : decode cX9_mixParting 88 = .ok (.invokevirtual 363, 3) := by decide +kernel
theorem dX9_mixParting_91 : decode cX9_mixParting 91 = .ok (.i2l, 1) := by decide +kernel
theorem dX9_mixParting_92 : decode cX9_mixParting 92 = .ok (.ladd, 1) := by decide +kernel
theorem dX9_mixParting_93 : decode cX9_mixParting 93 = .ok (.lstore 4, 2) := by decide +kernel
theorem dX9_mixParting_95 : decode cX9_mixParting 95 = .ok (.ldc2_w 306, 3) := by decide +kernel
theorem dX9_mixParting_98 : decode cX9_mixParting 98 = .ok (.lload 4, 2) := by decide +kernel
theorem dX9_mixParting_100 : decode cX9_mixParting 100 = .ok (.lmul, 1) := by decide +kernel
theorem dX9_mixParting_101 : decode cX9_mixParting 101 = .ok (.aload_n 0, 1) := by decide +kernel
theorem dX9_mixParting_102 : decode cX9_mixParting 102 = .ok (.iload_n 3, 1) := by decide +kernel
theorem dX9_mixParting_103 : decode cX9_mixParting 103 = .ok (.iconst 3, 1) := by decide +kernel
theorem dX9_mixParting_104 : decode cX9_mixParting 104 = .ok (.invokevirtual 363, 3) := by decide +kernel
theorem dX9_mixParting_107 : decode cX9_mixParting 107 = .ok (.i2l, 1) := by decide +kernel
theorem dX9_mixParting_108 : decode cX9_mixParting 108 = .ok (.ladd, 1) := by decide +kernel
theorem dX9_mixParting_109 : decode cX9_mixParting 109 = .ok (.lreturn, 1) := by decide +kernel
theorem dX9_noByte_0 : decode cX9_noByte 0 = .ok (.iload_n 0, 1) := by decide +kernel
theorem dX9_noByte_1 : decode cX9_noByte 1 = .ok (.ifCond .lt 10, 3) := by decide +kernel
theorem dX9_noByte_4 : decode cX9_noByte 4 = .ok (.iload_n 0, 1) := by decide +kernel
theorem dX9_noByte_5 : decode cX9_noByte 5 = .ok (.sipush 255, 3) := by decide +kernel
theorem dX9_noByte_8 : decode cX9_noByte 8 = .ok (.if_icmp .le 7, 3) := by decide +kernel
theorem dX9_noByte_11 : decode cX9_noByte 11 = .ok (.iconst 1, 1) := by decide +kernel
theorem dX9_noByte_12 : decode cX9_noByte 12 = .ok (.goto 4, 3) := by decide +kernel
theorem dX9_noByte_15 : decode cX9_noByte 15 = .ok (.iconst 0, 1) := by decide +kernel
theorem dX9_noByte_16 : decode cX9_noByte 16 = .ok (.ireturn, 1) := by decide +kernel
theorem dX9_leadingBytes_0 : decode cX9_leadingBytes 0 = .ok (.iconst 0, 1) := by decide +kernel
theorem dX9_leadingBytes_1 : decode cX9_leadingBytes 1 = .ok (.istore_n 2, 1) := by decide +kernel
theorem dX9_leadingBytes_2 : decode cX9_leadingBytes 2 = .ok (.iload_n 2, 1) := by decide +kernel
theorem dX9_leadingBytes_3 : decode cX9_leadingBytes 3 = .ok (.aload_n 0, 1) := by decide +kernel
theorem dX9_leadingBytes_4 : decode cX9_leadingBytes 4 = .ok (.getfield 68, 3) := by decide +kernel
theorem dX9_leadingBytes_7 : decode cX9_leadingBytes 7 = .ok (.getfield 276, 3) := by decide +kernel
theorem dX9_leadingBytes_10 : decode cX9_leadingBytes 10 = .ok (.iload_n 1, 1) := by decide +kernel
theorem dX9_leadingBytes_11 : decode cX9_leadingBytes 11 = .ok (.iaload, 1) := by decide +kernel
theorem dX9_leadingBytes_12 : decode cX9_leadingBytes 12 = .ok (.if_icmp .ge 24, 3) := by decide +kernel
theorem dX9_leadingBytes_15 : decode cX9_leadingBytes 15 = .ok (.aload_n 0, 1) := by decide +kernel
theorem dX9_leadingBytes_16 : decode cX9_leadingBytes 16 = .ok (.getfield 68, 3) := by decide +kernel
theorem dX9_leadingBytes_19 : decode cX9_leadingBytes 19 = .ok (.iload_n 1, 1) := by decide +kernel
theorem dX9_leadingBytes_20 : decode cX9_leadingBytes 20 = .ok (.iload_n 2, 1) := by decide +kernel
theorem dX9_leadingBytes_21 : decode cX9_leadingBytes 21 = .ok (.invokevirtual 150, 3) := by decide +kernel
theorem dX9_leadingBytes_24 : decode cX9_leadingBytes 24 = .ok (.invokestatic 99, 3) := by decide +kernel
theorem dX9_leadingBytes_27 : decode cX9_leadingBytes 27 = .ok (.ifCond .ne 9, 3) := by decide +kernel
theorem dX9_leadingBytes_30 : decode cX9_leadingBytes 30 = .ok (.iinc 2 1, 3) := by decide +kernel
theorem dX9_leadingBytes_33 : decode cX9_leadingBytes 33 = .ok (.goto (-31), 3) := by decide +kernel
theorem dX9_leadingBytes_36 : decode cX9_leadingBytes 36 = .ok (.iload_n 2, 1) := by decide +kernel
theorem dX9_leadingBytes_37 : decode cX9_leadingBytes 37 = .ok (.ireturn, 1) := by decide +kernel
theorem dX9_noParts_0 : decode cX9_noParts 0 = .ok (.iload_n 0, 1) := by decide +kernel
theorem dX9_noParts_1 : decode cX9_noParts 1 = .ok (.iconst 1, 1) := by decide +kernel
theorem dX9_noParts_2 : decode cX9_noParts 2 = .ok (.if_icmp .lt 9, 3) := by decide +kernel
theorem dX9_noParts_5 : decode cX9_noParts 5 = .ok (.iload_n 0, 1) := by decide +kernel
theorem dX9_noParts_6 : decode cX9_noParts 6 = .ok (.bipush 8, 2) := by decide +kernel
theorem dX9_noParts_8 : decode cX9_noParts 8 = .ok (.if_icmp .le 7, 3) := by decide +kernel
theorem dX9_noParts_11 : decode cX9_noParts 11 = .ok (.iconst 1, 1) := by decide +kernel
theorem dX9_noParts_12 : decode cX9_noParts 12 = .ok (.goto 4, 3) := by decide +kernel
theorem dX9_noParts_15 : decode cX9_noParts 15 = .ok (.iconst 0, 1) := by decide +kernel
theorem dX9_noParts_16 : decode cX9_noParts 16 = .ok (.ireturn, 1) := by decide +kernel
theorem dX9_noSheet_0 : decode cX9_noSheet 0 = .ok (.iload_n 0, 1) := by decide +kernel
theorem dX9_noSheet_1 : decode cX9_noSheet 1 = .ok (.ifCond .lt 8, 3) := by decide +kernel
theorem dX9_noSheet_4 : decode cX9_noSheet 4 = .ok (.iload_n 0, 1) := by decide +kernel
theorem dX9_noSheet_5 : decode cX9_noSheet 5 = .ok (.iconst 4, 1) := by decide +kernel
theorem dX9_noSheet_6 : decode cX9_noSheet 6 = .ok (.if_icmp .lt 7, 3) := by decide +kernel
theorem dX9_noSheet_9 : decode cX9_noSheet 9 = .ok (.iconst 1, 1) := by decide +kernel
theorem dX9_noSheet_10 : decode cX9_noSheet 10 = .ok (.goto 4, 3) := by decide +kernel
theorem dX9_noSheet_13 : decode cX9_noSheet 13 = .ok (.iconst 0, 1) := by decide +kernel
theorem dX9_noSheet_14 : decode cX9_noSheet 14 = .ok (.ireturn, 1) := by decide +kernel
theorem dX9_noForm_0 : decode cX9_noForm 0 = .ok (.iload_n 0, 1) := by decide +kernel
theorem dX9_noForm_1 : decode cX9_noForm 1 = .ok (.ifCond .lt 8, 3) := by decide +kernel
theorem dX9_noForm_4 : decode cX9_noForm 4 = .ok (.iload_n 0, 1) := by decide +kernel
theorem dX9_noForm_5 : decode cX9_noForm 5 = .ok (.iconst 2, 1) := by decide +kernel
theorem dX9_noForm_6 : decode cX9_noForm 6 = .ok (.if_icmp .le 7, 3) := by decide +kernel
theorem dX9_noForm_9 : decode cX9_noForm 9 = .ok (.iconst 1, 1) := by decide +kernel
theorem dX9_noForm_10 : decode cX9_noForm 10 = .ok (.goto 4, 3) := by decide +kernel
theorem dX9_noForm_13 : decode cX9_noForm 13 = .ok (.iconst 0, 1) := by decide +kernel
theorem dX9_noForm_14 : decode cX9_noForm 14 = .ok (.ireturn, 1) := by decide +kernel
theorem dX9_noSentence_0 : decode cX9_noSentence 0 = .ok (.iload_n 1, 1) := by decide +kernel
theorem dX9_noSentence_1 : decode cX9_noSentence 1 = .ok (.ifCond .lt 14, 3) := by decide +kernel
theorem dX9_noSentence_4 : decode cX9_noSentence 4 = .ok (.iload_n 1, 1) := by decide +kernel
theorem dX9_noSentence_5 : decode cX9_noSentence 5 = .ok (.aload_n 0, 1) := by decide +kernel
theorem dX9_noSentence_6 : decode cX9_noSentence 6 = .ok (.getfield 26, 3) := by decide +kernel
theorem dX9_noSentence_9 : decode cX9_noSentence 9 = .ok (.getfield 214, 3) := by decide +kernel
theorem dX9_noSentence_12 : decode cX9_noSentence 12 = .ok (.if_icmp .lt 7, 3) := by decide +kernel
theorem dX9_noSentence_15 : decode cX9_noSentence 15 = .ok (.iconst 1, 1) := by decide +kernel
theorem dX9_noSentence_16 : decode cX9_noSentence 16 = .ok (.goto 4, 3) := by decide +kernel
theorem dX9_noSentence_19 : decode cX9_noSentence 19 = .ok (.iconst 0, 1) := by decide +kernel
theorem dX9_noSentence_20 : decode cX9_noSentence 20 = .ok (.ireturn, 1) := by decide +kernel
theorem dX9_noStem_0 : decode cX9_noStem 0 = .ok (.iload_n 1, 1) := by decide +kernel
theorem dX9_noStem_1 : decode cX9_noStem 1 = .ok (.ifCond .lt 14, 3) := by decide +kernel
theorem dX9_noStem_4 : decode cX9_noStem 4 = .ok (.iload_n 1, 1) := by decide +kernel
theorem dX9_noStem_5 : decode cX9_noStem 5 = .ok (.aload_n 0, 1) := by decide +kernel
theorem dX9_noStem_6 : decode cX9_noStem 6 = .ok (.getfield 26, 3) := by decide +kernel
theorem dX9_noStem_9 : decode cX9_noStem 9 = .ok (.getfield 297, 3) := by decide +kernel
theorem dX9_noStem_12 : decode cX9_noStem 12 = .ok (.if_icmp .lt 7, 3) := by decide +kernel
theorem dX9_noStem_15 : decode cX9_noStem 15 = .ok (.iconst 1, 1) := by decide +kernel
theorem dX9_noStem_16 : decode cX9_noStem 16 = .ok (.goto 4, 3) := by decide +kernel
theorem dX9_noStem_19 : decode cX9_noStem 19 = .ok (.iconst 0, 1) := by decide +kernel
theorem dX9_noStem_20 : decode cX9_noStem 20 = .ok (.ireturn, 1) := by decide +kernel
theorem dX9_noGap_0 : decode cX9_noGap 0 = .ok (.iload_n 1, 1) := by decide +kernel
theorem dX9_noGap_1 : decode cX9_noGap 1 = .ok (.iconst 1, 1) := by decide +kernel
theorem dX9_noGap_2 : decode cX9_noGap 2 = .ok (.if_icmp .lt 14, 3) := by decide +kernel
theorem dX9_noGap_5 : decode cX9_noGap 5 = .ok (.iload_n 1, 1) := by decide +kernel
theorem dX9_noGap_6 : decode cX9_noGap 6 = .ok (.aload_n 0, 1) := by decide +kernel
theorem dX9_noGap_7 : decode cX9_noGap 7 = .ok (.getfield 26, 3) := by decide +kernel
theorem dX9_noGap_10 : decode cX9_noGap 10 = .ok (.getfield 214, 3) := by decide +kernel
theorem dX9_noGap_13 : decode cX9_noGap 13 = .ok (.if_icmp .lt 7, 3) := by decide +kernel
theorem dX9_noGap_16 : decode cX9_noGap 16 = .ok (.iconst 1, 1) := by decide +kernel
theorem dX9_noGap_17 : decode cX9_noGap 17 = .ok (.goto 4, 3) := by decide +kernel
theorem dX9_noGap_20 : decode cX9_noGap 20 = .ok (.iconst 0, 1) := by decide +kernel
theorem dX9_noGap_21 : decode cX9_noGap 21 = .ok (.ireturn, 1) := by decide +kernel
theorem dX9_finding_0 : decode cX9_finding 0 = .ok (.aload_n 0, 1) := by decide +kernel
theorem dX9_finding_1 : decode cX9_finding 1 = .ok (.iload_n 1, 1) := by decide +kernel
theorem dX9_finding_2 : decode cX9_finding 2 = .ok (.putfield 80, 3) := by decide +kernel
theorem dX9_finding_5 : decode cX9_finding 5 = .ok (.bipush (-10), 2) := by decide +kernel
theorem dX9_finding_7 : decode cX9_finding 7 = .ok (.iload_n 1, 1) := by decide +kernel
theorem dX9_finding_8 : decode cX9_finding 8 = .ok (.isub, 1) := by decide +kernel
theorem dX9_finding_9 : decode cX9_finding 9 = .ok (.ireturn, 1) := by decide +kernel
theorem dX9_forgetText_0 : decode cX9_forgetText 0 = .ok (.aload_n 0, 1) := by decide +kernel
theorem dX9_forgetText_1 : decode cX9_forgetText 1 = .ok (.iconst 0, 1) := by decide +kernel
theorem dX9_forgetText_2 : decode cX9_forgetText 2 = .ok (.putfield 83, 3) := by decide +kernel
theorem dX9_forgetText_5 : decode cX9_forgetText 5 = .ok (.aload_n 0, 1) := by decide +kernel
theorem dX9_forgetText_6 : decode cX9_forgetText 6 = .ok (.iconst 0, 1) := by decide +kernel
theorem dX9_forgetText_7 : decode cX9_forgetText 7 = .ok (.putfield 87, 3) := by decide +kernel
theorem dX9_forgetText_10 : decode cX9_forgetText 10 = .ok (.aload_n 0, 1) := by decide +kernel
theorem dX9_forgetText_11 : decode cX9_forgetText 11 = .ok (.iconst 0, 1) := by decide +kernel
theorem dX9_forgetText_12 : decode cX9_forgetText 12 = .ok (.putfield 90, 3) := by decide +kernel
theorem dX9_forgetText_15 : decode cX9_forgetText 15 = .ok (.aload_n 0, 1) := by decide +kernel
theorem dX9_forgetText_16 : decode cX9_forgetText 16 = .ok (.iconst 0, 1) := by decide +kernel
theorem dX9_forgetText_17 : decode cX9_forgetText 17 = .ok (.putfield 93, 3) := by decide +kernel
theorem dX9_forgetText_20 : decode cX9_forgetText 20 = .ok (.aload_n 0, 1) := by decide +kernel
theorem dX9_forgetText_21 : decode cX9_forgetText 21 = .ok (.iconst 0, 1) := by decide +kernel
theorem dX9_forgetText_22 : decode cX9_forgetText 22 = .ok (.putfield 96, 3) := by decide +kernel
theorem dX9_forgetText_25 : decode cX9_forgetText 25 = .ok (.return_, 1) := by decide +kernel
theorem dX9_readText_0 : decode cX9_readText 0 = .ok (.aload_n 0, 1) := by decide +kernel
theorem dX9_readText_1 : decode cX9_readText 1 = .ok (.getfield 83, 3) := by decide +kernel
theorem dX9_readText_4 : decode cX9_readText 4 = .ok (.ifCond .eq 4, 3) := by decide +kernel
theorem dX9_readText_7 : decode cX9_readText 7 = .ok (.return_, 1) := by decide +kernel
theorem dX9_readText_8 : decode cX9_readText 8 = .ok (.aload_n 0, 1) := by decide +kernel
theorem dX9_readText_9 : decode cX9_readText 9 = .ok (.getfield 19, 3) := by decide +kernel
theorem dX9_readText_12 : decode cX9_readText 12 = .ok (.aload_n 0, 1) := by decide +kernel
theorem dX9_readText_13 : decode cX9_readText 13 = .ok (.getfield 12, 3) := by decide +kernel
theorem dX9_readText_16 : decode cX9_readText 16 = .ok (.invokevirtual 366, 3) := by decide +kernel
theorem dX9_readText_19 : decode cX9_readText 19 = .ok (.aload_n 0, 1) := by decide +kernel
theorem dX9_readText_20 : decode cX9_readText 20 = .ok (.getfield 26, 3) := by decide +kernel
theorem dX9_readText_23 : decode cX9_readText 23 = .ok (.aload_n 0, 1) := by decide +kernel
theorem dX9_readText_24 : decode cX9_readText 24 = .ok (.getfield 12, 3) := by decide +kernel
theorem dX9_readText_27 : decode cX9_readText 27 = .ok (.aload_n 0, 1) := by decide +kernel
theorem dX9_readText_28 : decode cX9_readText 28 = .ok (.getfield 19, 3) := by decide +kernel
theorem dX9_readText_31 : decode cX9_readText 31 = .ok (.getfield 119, 3) := by decide +kernel
theorem dX9_readText_34 : decode cX9_readText 34 = .ok (.iconst (-1), 1) := by decide +kernel
theorem dX9_readText_35 : decode cX9_readText 35 = .ok (.if_icmp .ne 7, 3) := by decide +kernel
theorem dX9_readText_38 : decode cX9_readText 38 = .ok (.iconst 1, 1) := by decide +kernel
theorem dX9_readText_39 : decode cX9_readText 39 = .ok (.goto 4, 3) := by decide +kernel
theorem dX9_readText_42 : decode cX9_readText 42 = .ok (.iconst 0, 1) := by decide +kernel
theorem dX9_readText_43 : decode cX9_readText 43 = .ok (.invokevirtual 370, 3) := by decide +kernel
theorem dX9_readText_46 : decode cX9_readText 46 = .ok (.aload_n 0, 1) := by decide +kernel
theorem dX9_readText_47 : decode cX9_readText 47 = .ok (.iconst 1, 1) := by decide +kernel
theorem dX9_readText_48 : decode cX9_readText 48 = .ok (.putfield 83, 3) := by decide +kernel
theorem dX9_readText_51 : decode cX9_readText 51 = .ok (.return_, 1) := by decide +kernel
theorem dX9_linkChains_0 : decode cX9_linkChains 0 = .ok (.aload_n 0, 1) := by decide +kernel
theorem dX9_linkChains_1 : decode cX9_linkChains 1 = .ok (.getfield 87, 3) := by decide +kernel
theorem dX9_linkChains_4 : decode cX9_linkChains 4 = .ok (.ifCond .eq 4, 3) := by decide +kernel
theorem dX9_linkChains_7 : decode cX9_linkChains 7 = .ok (.return_, 1) := by decide +kernel
theorem dX9_linkChains_8 : decode cX9_linkChains 8 = .ok (.aload_n 0, 1) := by decide +kernel
theorem dX9_linkChains_9 : decode cX9_linkChains 9 = .ok (.getfield 33, 3) := by decide +kernel
theorem dX9_linkChains_12 : decode cX9_linkChains 12 = .ok (.aload_n 0, 1) := by decide +kernel
theorem dX9_linkChains_13 : decode cX9_linkChains 13 = .ok (.getfield 26, 3) := by decide +kernel
theorem dX9_linkChains_16 : decode cX9_linkChains 16 = .ok (.aload_n 0, 1) := by decide +kernel
theorem dX9_linkChains_17 : decode cX9_linkChains 17 = .ok (.getfield 72, 3) := by decide +kernel
theorem dX9_linkChains_20 : decode cX9_linkChains 20 = .ok (.iconst 2, 1) := by decide +kernel
theorem dX9_linkChains_21 : decode cX9_linkChains 21 = .ok (.iaload, 1) := by decide +kernel
theorem dX9_linkChains_22 : decode cX9_linkChains 22 = .ok (.invokevirtual 374, 3) := by decide +kernel
theorem dX9_linkChains_25 : decode cX9_linkChains 25 = .ok (.aload_n 0, 1) := by decide +kernel
theorem dX9_linkChains_26 : decode cX9_linkChains 26 = .ok (.iconst 1, 1) := by decide +kernel
theorem dX9_linkChains_27 : decode cX9_linkChains 27 = .ok (.putfield 87, 3) := by decide +kernel
theorem dX9_linkChains_30 : decode cX9_linkChains 30 = .ok (.return_, 1) := by decide +kernel
theorem dX9_partText_0 : decode cX9_partText 0 = .ok (.aload_n 0, 1) := by decide +kernel
theorem dX9_partText_1 : decode cX9_partText 1 = .ok (.getfield 90, 3) := by decide +kernel
theorem dX9_partText_4 : decode cX9_partText 4 = .ok (.ifCond .eq 4, 3) := by decide +kernel
theorem dX9_partText_7 : decode cX9_partText 7 = .ok (.return_, 1) := by decide +kernel
theorem dX9_partText_8 : decode cX9_partText 8 = .ok (.aload_n 0, 1) := by decide +kernel
theorem dX9_partText_9 : decode cX9_partText 9 = .ok (.getfield 40, 3) := by decide +kernel
theorem dX9_partText_12 : decode cX9_partText 12 = .ok (.aload_n 0, 1) := by decide +kernel
theorem dX9_partText_13 : decode cX9_partText 13 = .ok (.getfield 26, 3) := by decide +kernel
theorem dX9_partText_16 : decode cX9_partText 16 = .ok (.iconst (-1), 1) := by decide +kernel
theorem dX9_partText_17 : decode cX9_partText 17 = .ok (.aload_n 0, 1) := by decide +kernel
theorem dX9_partText_18 : decode cX9_partText 18 = .ok (.getfield 72, 3) := by decide +kernel
theorem dX9_partText_21 : decode cX9_partText 21 = .ok (.iconst 0, 1) := by decide +kernel
theorem dX9_partText_22 : decode cX9_partText 22 = .ok (.iaload, 1) := by decide +kernel
theorem dX9_partText_23 : decode cX9_partText 23 = .ok (.aload_n 0, 1) := by decide +kernel
theorem dX9_partText_24 : decode cX9_partText 24 = .ok (.getfield 72, 3) := by decide +kernel
theorem dX9_partText_27 : decode cX9_partText 27 = .ok (.iconst 1, 1) := by decide +kernel
theorem dX9_partText_28 : decode cX9_partText 28 = .ok (.iaload, 1) := by decide +kernel
theorem dX9_partText_29 : decode cX9_partText 29 = .ok (.invokevirtual 377, 3) := by decide +kernel
theorem dX9_partText_32 : decode cX9_partText 32 = .ok (.aload_n 0, 1) := by decide +kernel
theorem dX9_partText_33 : decode cX9_partText 33 = .ok (.getfield 47, 3) := by decide +kernel
theorem dX9_partText_36 : decode cX9_partText 36 = .ok (.aload_n 0, 1) := by decide +kernel
theorem dX9_partText_37 : decode cX9_partText 37 = .ok (.getfield 40, 3) := by decide +kernel
theorem dX9_partText_40 : decode cX9_partText 40 = .ok (.getfield 220, 3) := by decide +kernel
theorem dX9_partText_43 : decode cX9_partText 43 = .ok (.aload_n 0, 1) := by decide +kernel
theorem dX9_partText_44 : decode cX9_partText 44 = .ok (.getfield 26, 3) := by decide +kernel
theorem dX9_partText_47 : decode cX9_partText 47 = .ok (.getfield 214, 3) := by decide +kernel
theorem dX9_partText_50 : decode cX9_partText 50 = .ok (.invokevirtual 380, 3) := by decide +kernel
theorem dX9_partText_53 : decode cX9_partText 53 = .ok (.aload_n 0, 1) := by decide +kernel
theorem dX9_partText_54 : decode cX9_partText 54 = .ok (.iconst 1, 1) := by decide +kernel
theorem dX9_partText_55 : decode cX9_partText 55 = .ok (.putfield 90, 3) := by decide +kernel
theorem dX9_partText_58 : decode cX9_partText 58 = .ok (.return_, 1) := by decide +kernel
theorem dX9_dropSentences_0 : decode cX9_dropSentences 0 = .ok (.aload_n 0, 1) := by decide +kernel
theorem dX9_dropSentences_1 : decode cX9_dropSentences 1 = .ok (.getfield 93, 3) := by decide +kernel
theorem dX9_dropSentences_4 : decode cX9_dropSentences 4 = .ok (.ifCond .eq 4, 3) := by decide +kernel
theorem dX9_dropSentences_7 : decode cX9_dropSentences 7 = .ok (.return_, 1) := by decide +kernel
theorem dX9_dropSentences_8 : decode cX9_dropSentences 8 = .ok (.aload_n 0, 1) := by decide +kernel
theorem dX9_dropSentences_9 : decode cX9_dropSentences 9 = .ok (.getfield 54, 3) := by decide +kernel
theorem dX9_dropSentences_12 : decode cX9_dropSentences 12 = .ok (.aload_n 0, 1) := by decide +kernel
theorem dX9_dropSentences_13 : decode cX9_dropSentences 13 = .ok (.getfield 26, 3) := by decide +kernel
theorem dX9_dropSentences_16 : decode cX9_dropSentences 16 = .ok (.aload_n 0, 1) := by decide +kernel
theorem dX9_dropSentences_17 : decode cX9_dropSentences 17 = .ok (.getfield 72, 3) := by decide +kernel
theorem dX9_dropSentences_20 : decode cX9_dropSentences 20 = .ok (.iconst 0, 1) := by decide +kernel
theorem dX9_dropSentences_21 : decode cX9_dropSentences 21 = .ok (.iaload, 1) := by decide +kernel
theorem dX9_dropSentences_22 : decode cX9_dropSentences 22 = .ok (.aload_n 0, 1) := by decide +kernel
theorem dX9_dropSentences_23 : decode cX9_dropSentences 23 = .ok (.getfield 72, 3) := by decide +kernel
theorem dX9_dropSentences_26 : decode cX9_dropSentences 26 = .ok (.iconst 1, 1) := by decide +kernel
theorem dX9_dropSentences_27 : decode cX9_dropSentences 27 = .ok (.iaload, 1) := by decide +kernel
theorem dX9_dropSentences_28 : decode cX9_dropSentences 28 = .ok (.invokevirtual 383, 3) := by decide +kernel
theorem dX9_dropSentences_31 : decode cX9_dropSentences 31 = .ok (.aload_n 0, 1) := by decide +kernel
theorem dX9_dropSentences_32 : decode cX9_dropSentences 32 = .ok (.iconst 1, 1) := by decide +kernel
theorem dX9_dropSentences_33 : decode cX9_dropSentences 33 = .ok (.putfield 93, 3) := by decide +kernel
theorem dX9_dropSentences_36 : decode cX9_dropSentences 36 = .ok (.return_, 1) := by decide +kernel
theorem dX9_weighGaps_0 : decode cX9_weighGaps 0 = .ok (.aload_n 0, 1) := by decide +kernel
theorem dX9_weighGaps_1 : decode cX9_weighGaps 1 = .ok (.getfield 96, 3) := by decide +kernel
theorem dX9_weighGaps_4 : decode cX9_weighGaps 4 = .ok (.ifCond .eq 4, 3) := by decide +kernel
theorem dX9_weighGaps_7 : decode cX9_weighGaps 7 = .ok (.return_, 1) := by decide +kernel
theorem dX9_weighGaps_8 : decode cX9_weighGaps 8 = .ok (.aload_n 0, 1) := by decide +kernel
theorem dX9_weighGaps_9 : decode cX9_weighGaps 9 = .ok (.getfield 61, 3) := by decide +kernel
theorem dX9_weighGaps_12 : decode cX9_weighGaps 12 = .ok (.aload_n 0, 1) := by decide +kernel
theorem dX9_weighGaps_13 : decode cX9_weighGaps 13 = .ok (.getfield 26, 3) := by decide +kernel
theorem dX9_weighGaps_16 : decode cX9_weighGaps 16 = .ok (.aload_n 0, 1) := by decide +kernel
theorem dX9_weighGaps_17 : decode cX9_weighGaps 17 = .ok (.getfield 72, 3) := by decide +kernel
theorem dX9_weighGaps_20 : decode cX9_weighGaps 20 = .ok (.iconst 3, 1) := by decide +kernel
theorem dX9_weighGaps_21 : decode cX9_weighGaps 21 = .ok (.iaload, 1) := by decide +kernel
theorem dX9_weighGaps_22 : decode cX9_weighGaps 22 = .ok (.invokevirtual 386, 3) := by decide +kernel
theorem dX9_weighGaps_25 : decode cX9_weighGaps 25 = .ok (.aload_n 0, 1) := by decide +kernel
theorem dX9_weighGaps_26 : decode cX9_weighGaps 26 = .ok (.iconst 1, 1) := by decide +kernel
theorem dX9_weighGaps_27 : decode cX9_weighGaps 27 = .ok (.putfield 96, 3) := by decide +kernel
theorem dX9_weighGaps_30 : decode cX9_weighGaps 30 = .ok (.return_, 1) := by decide +kernel
theorem dX9_isLetter_0 : decode cX9_isLetter 0 = .ok (.iload_n 0, 1) := by decide +kernel
theorem dX9_isLetter_1 : decode cX9_isLetter 1 = .ok (.bipush 97, 2) := by decide +kernel
theorem dX9_isLetter_3 : decode cX9_isLetter 3 = .ok (.if_icmp .lt 13, 3) := by decide +kernel
theorem dX9_isLetter_6 : decode cX9_isLetter 6 = .ok (.iload_n 0, 1) := by decide +kernel
theorem dX9_isLetter_7 : decode cX9_isLetter 7 = .ok (.bipush 122, 2) := by decide +kernel
theorem dX9_isLetter_9 : decode cX9_isLetter 9 = .ok (.if_icmp .gt 7, 3) := by decide +kernel
theorem dX9_isLetter_12 : decode cX9_isLetter 12 = .ok (.iconst 1, 1) := by decide +kernel
theorem dX9_isLetter_13 : decode cX9_isLetter 13 = .ok (.goto 4, 3) := by decide +kernel
theorem dX9_isLetter_16 : decode cX9_isLetter 16 = .ok (.iconst 0, 1) := by decide +kernel
theorem dX9_isLetter_17 : decode cX9_isLetter 17 = .ok (.ireturn, 1) := by decide +kernel
theorem dX10_init_0 : decode cX10_init 0 = .ok (.aload_n 0, 1) := by decide +kernel
theorem dX10_init_1 : decode cX10_init 1 = .ok (.invokespecial 1, 3) := by decide +kernel
theorem dX10_init_4 : decode cX10_init 4 = .ok (.aload_n 0, 1) := by decide +kernel
theorem dX10_init_5 : decode cX10_init 5 = .ok (.sipush 200, 3) := by decide +kernel
theorem dX10_init_8 : decode cX10_init 8 = .ok (.newarray .int, 2) := by decide +kernel
theorem dX10_init_10 : decode cX10_init 10 = .ok (.putfield 7, 3) := by decide +kernel
theorem dX10_init_13 : decode cX10_init 13 = .ok (.aload_n 0, 1) := by decide +kernel
theorem dX10_init_14 : decode cX10_init 14 = .ok (.iconst 4, 1) := by decide +kernel
theorem dX10_init_15 : decode cX10_init 15 = .ok (.newarray .int, 2) := by decide +kernel
theorem dX10_init_17 : decode cX10_init 17 = .ok (.putfield 13, 3) := by decide +kernel
theorem dX10_init_20 : decode cX10_init 20 = .ok (.aload_n 0, 1) := by decide +kernel
theorem dX10_init_21 : decode cX10_init 21 = .ok (.bipush 110, 2) := by decide +kernel
theorem dX10_init_23 : decode cX10_init 23 = .ok (.newarray .int, 2) := by decide +kernel
theorem dX10_init_25 : decode cX10_init 25 = .ok (.putfield 16, 3) := by decide +kernel
theorem dX10_init_28 : decode cX10_init 28 = .ok (.aload_n 0, 1) := by decide +kernel
theorem dX10_init_29 : decode cX10_init 29 = .ok (.bipush 110, 2) := by decide +kernel
theorem dX10_init_31 : decode cX10_init 31 = .ok (.newarray .int, 2) := by decide +kernel
theorem dX10_init_33 : decode cX10_init 33 = .ok (.putfield 19, 3) := by decide +kernel
theorem dX10_init_36 : decode cX10_init 36 = .ok (.aload_n 0, 1) := by decide +kernel
theorem dX10_init_37 : decode cX10_init 37 = .ok (.bipush 110, 2) := by decide +kernel
theorem dX10_init_39 : decode cX10_init 39 = .ok (.newarray .int, 2) := by decide +kernel
theorem dX10_init_41 : decode cX10_init 41 = .ok (.putfield 22, 3) := by decide +kernel
theorem dX10_init_44 : decode cX10_init 44 = .ok (.aload_n 0, 1) := by decide +kernel
theorem dX10_init_45 : decode cX10_init 45 = .ok (.bipush 110, 2) := by decide +kernel
theorem dX10_init_47 : decode cX10_init 47 = .ok (.newarray .int, 2) := by decide +kernel
theorem dX10_init_49 : decode cX10_init 49 = .ok (.putfield 25, 3) := by decide +kernel
theorem dX10_init_52 : decode cX10_init 52 = .ok (.aload_n 0, 1) := by decide +kernel
theorem dX10_init_53 : decode cX10_init 53 = .ok (.bipush 110, 2) := by decide +kernel
theorem dX10_init_55 : decode cX10_init 55 = .ok (.newarray .int, 2) := by decide +kernel
theorem dX10_init_57 : decode cX10_init 57 = .ok (.putfield 28, 3) := by decide +kernel
theorem dX10_init_60 : decode cX10_init 60 = .ok (.aload_n 0, 1) := by decide +kernel
theorem dX10_init_61 : decode cX10_init 61 = .ok (.bipush 110, 2) := by decide +kernel
theorem dX10_init_63 : decode cX10_init 63 = .ok (.newarray .int, 2) := by decide +kernel
theorem dX10_init_65 : decode cX10_init 65 = .ok (.putfield 31, 3) := by decide +kernel
theorem dX10_init_68 : decode cX10_init 68 = .ok (.aload_n 0, 1) := by decide +kernel
theorem dX10_init_69 : decode cX10_init 69 = .ok (.bipush 14, 2) := by decide +kernel
theorem dX10_init_71 : decode cX10_init 71 = .ok (.newarray .int, 2) := by decide +kernel
theorem dX10_init_73 : decode cX10_init 73 = .ok (.putfield 34, 3) := by decide +kernel
theorem dX10_init_76 : decode cX10_init 76 = .ok (.aload_n 0, 1) := by decide +kernel
theorem dX10_init_77 : decode cX10_init 77 = .ok (.sipush 1320, 3) := by decide +kernel
theorem dX10_init_80 : decode cX10_init 80 = .ok (.newarray .int, 2) := by decide +kernel
theorem dX10_init_82 : decode cX10_init 82 = .ok (.putfield 37, 3) := by decide +kernel
theorem dX10_init_85 : decode cX10_init 85 = .ok (.aload_n 0, 1) := by decide +kernel
theorem dX10_init_86 : decode cX10_init 86 = .ok (.bipush 110, 2) := by decide +kernel
theorem dX10_init_88 : decode cX10_init 88 = .ok (.newarray .int, 2) := by decide +kernel
theorem dX10_init_90 : decode cX10_init 90 = .ok (.putfield 40, 3) := by decide +kernel
theorem dX10_init_93 : decode cX10_init 93 = .ok (.aload_n 0, 1) := by decide +kernel
theorem dX10_init_94 : decode cX10_init 94 = .ok (.bipush 110, 2) := by decide +kernel
theorem dX10_init_96 : decode cX10_init 96 = .ok (.newarray .int, 2) := by decide +kernel
theorem dX10_init_98 : decode cX10_init 98 = .ok (.putfield 43, 3) := by decide +kernel
theorem dX10_init_101 : decode cX10_init 101 = .ok (.aload_n 0, 1) := by decide +kernel
theorem dX10_init_102 : decode cX10_init 102 = .ok (.bipush 110, 2) := by decide +kernel
theorem dX10_init_104 : decode cX10_init 104 = .ok (.newarray .int, 2) := by decide +kernel
theorem dX10_init_106 : decode cX10_init 106 = .ok (.putfield 46, 3) := by decide +kernel
theorem dX10_init_109 : decode cX10_init 109 = .ok (.aload_n 0, 1) := by decide +kernel
theorem dX10_init_110 : decode cX10_init 110 = .ok (.bipush 110, 2) := by decide +kernel
theorem dX10_init_112 : decode cX10_init 112 = .ok (.newarray .int, 2) := by decide +kernel
theorem dX10_init_114 : decode cX10_init 114 = .ok (.putfield 49, 3) := by decide +kernel
theorem dX10_init_117 : decode cX10_init 117 = .ok (.aload_n 0, 1) := by decide +kernel
theorem dX10_init_118 : decode cX10_init 118 = .ok (.sipush 169, 3) := by decide +kernel
theorem dX10_init_121 : decode cX10_init 121 = .ok (.newarray .int, 2) := by decide +kernel
theorem dX10_init_123 : decode cX10_init 123 = .ok (.putfield 52, 3) := by decide +kernel
theorem dX10_init_126 : decode cX10_init 126 = .ok (.aload_n 0, 1) := by decide +kernel
theorem dX10_init_127 : decode cX10_init 127 = .ok (.bipush 117, 2) := by decide +kernel
theorem dX10_init_129 : decode cX10_init 129 = .ok (.newarray .int, 2) := by decide +kernel
theorem dX10_init_131 : decode cX10_init 131 = .ok (.putfield 55, 3) := by decide +kernel
theorem dX10_init_134 : decode cX10_init 134 = .ok (.aload_n 0, 1) := by decide +kernel
theorem dX10_init_135 : decode cX10_init 135 = .ok (.bipush 117, 2) := by decide +kernel
theorem dX10_init_137 : decode cX10_init 137 = .ok (.newarray .int, 2) := by decide +kernel
theorem dX10_init_139 : decode cX10_init 139 = .ok (.putfield 58, 3) := by decide +kernel
theorem dX10_init_142 : decode cX10_init 142 = .ok (.aload_n 0, 1) := by decide +kernel
theorem dX10_init_143 : decode cX10_init 143 = .ok (.iconst 4, 1) := by decide +kernel
theorem dX10_init_144 : decode cX10_init 144 = .ok (.newarray .boolean, 2) := by decide +kernel
theorem dX10_init_146 : decode cX10_init 146 = .ok (.putfield 61, 3) := by decide +kernel
theorem dX10_init_149 : decode cX10_init 149 = .ok (.aload_n 0, 1) := by decide +kernel
theorem dX10_init_150 : decode cX10_init 150 = .ok (.iconst 4, 1) := by decide +kernel
theorem dX10_init_151 : decode cX10_init 151 = .ok (.newarray .int, 2) := by decide +kernel
theorem dX10_init_153 : decode cX10_init 153 = .ok (.putfield 65, 3) := by decide +kernel
theorem dX10_init_156 : decode cX10_init 156 = .ok (.aload_n 0, 1) := by decide +kernel
theorem dX10_init_157 : decode cX10_init 157 = .ok (.iconst 4, 1) := by decide +kernel
theorem dX10_init_158 : decode cX10_init 158 = .ok (.newarray .int, 2) := by decide +kernel
theorem dX10_init_160 : decode cX10_init 160 = .ok (.putfield 68, 3) := by decide +kernel
theorem dX10_init_163 : decode cX10_init 163 = .ok (.aload_n 0, 1) := by decide +kernel
theorem dX10_init_164 : decode cX10_init 164 = .ok (.sipush 240, 3) := by decide +kernel
theorem dX10_init_167 : decode cX10_init 167 = .ok (.newarray .int, 2) := by decide +kernel
theorem dX10_init_169 : decode cX10_init 169 = .ok (.putfield 71, 3) := by decide +kernel
theorem dX10_init_172 : decode cX10_init 172 = .ok (.aload_n 0, 1) := by decide +kernel
theorem dX10_init_173 : decode cX10_init 173 = .ok (.bipush 60, 2) := by decide +kernel
theorem dX10_init_175 : decode cX10_init 175 = .ok (.newarray .int, 2) := by decide +kernel
theorem dX10_init_177 : decode cX10_init 177 = .ok (.putfield 74, 3) := by decide +kernel
theorem dX10_init_180 : decode cX10_init 180 = .ok (.aload_n 0, 1) := by decide +kernel
theorem dX10_init_181 : decode cX10_init 181 = .ok (.getfield 13, 3) := by decide +kernel
theorem dX10_init_184 : decode cX10_init 184 = .ok (.iconst 1, 1) := by decide +kernel
theorem dX10_init_185 : decode cX10_init 185 = .ok (.iconst 3, 1) := by decide +kernel
theorem dX10_init_186 : decode cX10_init 186 = .ok (.iastore, 1) := by decide +kernel
theorem dX10_init_187 : decode cX10_init 187 = .ok (.aload_n 0, 1) := by decide +kernel
theorem dX10_init_188 : decode cX10_init 188 = .ok (.getfield 13, 3) := by decide +kernel
theorem dX10_init_191 : decode cX10_init 191 = .ok (.iconst 2, 1) := by decide +kernel
theorem dX10_init_192 : decode cX10_init 192 = .ok (.iconst 2, 1) := by decide +kernel
theorem dX10_init_193 : decode cX10_init 193 = .ok (.iastore, 1) := by decide +kernel
theorem dX10_init_194 : decode cX10_init 194 = .ok (.aload_n 0, 1) := by decide +kernel
theorem dX10_init_195 : decode cX10_init 195 = .ok (.getfield 13, 3) := by decide +kernel
theorem dX10_init_198 : decode cX10_init 198 = .ok (.iconst 3, 1) := by decide +kernel
theorem dX10_init_199 : decode cX10_init 199 = .ok (.iconst 2, 1) := by decide +kernel
theorem dX10_init_200 : decode cX10_init 200 = .ok (.iastore, 1) := by decide +kernel
theorem dX10_init_201 : decode cX10_init 201 = .ok (.return_, 1) := by decide +kernel
theorem dX10_in_0 : decode cX10_in 0 = .ok (.iload_n 0, 1) := by decide +kernel
theorem dX10_in_1 : decode cX10_in 1 = .ok (.iload_n 1, 1) := by decide +kernel
theorem dX10_in_2 : decode cX10_in 2 = .ok (.if_icmp .lt 12, 3) := by decide +kernel
theorem dX10_in_5 : decode cX10_in 5 = .ok (.iload_n 0, 1) := by decide +kernel
theorem dX10_in_6 : decode cX10_in 6 = .ok (.iload_n 2, 1) := by decide +kernel
theorem dX10_in_7 : decode cX10_in 7 = .ok (.if_icmp .gt 7, 3) := by decide +kernel
theorem dX10_in_10 : decode cX10_in 10 = .ok (.iconst 1, 1) := by decide +kernel
theorem dX10_in_11 : decode cX10_in 11 = .ok (.goto 4, 3) := by decide +kernel
theorem dX10_in_14 : decode cX10_in 14 = .ok (.iconst 0, 1) := by decide +kernel
theorem dX10_in_15 : decode cX10_in 15 = .ok (.ireturn, 1) := by decide +kernel
theorem dX10_isIn_0 : decode cX10_isIn 0 = .ok (.iload_n 0, 1) := by decide +kernel
theorem dX10_isIn_1 : decode cX10_isIn 1 = .ok (.iload_n 1, 1) := by decide +kernel
theorem dX10_isIn_2 : decode cX10_isIn 2 = .ok (.ishr, 1) := by decide +kernel
theorem dX10_isIn_3 : decode cX10_isIn 3 = .ok (.iconst 1, 1) := by decide +kernel
theorem dX10_isIn_4 : decode cX10_isIn 4 = .ok (.iand, 1) := by decide +kernel
theorem dX10_isIn_5 : decode cX10_isIn 5 = .ok (.iconst 1, 1) := by decide +kernel
theorem dX10_isIn_6 : decode cX10_isIn 6 = .ok (.if_icmp .ne 7, 3) := by decide +kernel
theorem dX10_isIn_9 : decode cX10_isIn 9 = .ok (.iconst 1, 1) := by decide +kernel
theorem dX10_isIn_10 : decode cX10_isIn 10 = .ok (.goto 4, 3) := by decide +kernel
theorem dX10_isIn_13 : decode cX10_isIn 13 = .ok (.iconst 0, 1) := by decide +kernel
theorem dX10_isIn_14 : decode cX10_isIn 14 = .ok (.ireturn, 1) := by decide +kernel
theorem dX10_isTwo_0 : decode cX10_isTwo 0 = .ok (.iload_n 0, 1) := by decide +kernel
theorem dX10_isTwo_1 : decode cX10_isTwo 1 = .ok (.iconst 0, 1) := by decide +kernel
theorem dX10_isTwo_2 : decode cX10_isTwo 2 = .ok (.iconst 1, 1) := by decide +kernel
theorem dX10_isTwo_3 : decode cX10_isTwo 3 = .ok (.invokestatic 77, 3) := by decide +kernel
theorem dX10_isTwo_6 : decode cX10_isTwo 6 = .ok (.ireturn, 1) := by decide +kernel
theorem dX10_type_0 : decode cX10_type 0 = .ok (.iload_n 1, 1) := by decide +kernel
theorem dX10_type_1 : decode cX10_type 1 = .ok (.iconst 0, 1) := by decide +kernel
theorem dX10_type_2 : decode cX10_type 2 = .ok (.sipush 255, 3) := by decide +kernel
theorem dX10_type_5 : decode cX10_type 5 = .ok (.invokestatic 77, 3) := by decide +kernel
theorem dX10_type_8 : decode cX10_type 8 = .ok (.ifCond .ne 6, 3) := by decide +kernel
theorem dX10_type_11 : decode cX10_type 11 = .ok (.bipush (-2), 2) := by decide +kernel
theorem dX10_type_13 : decode cX10_type 13 = .ok (.ireturn, 1) := by decide +kernel
theorem dX10_type_14 : decode cX10_type 14 = .ok (.aload_n 0, 1) := by decide +kernel
theorem dX10_type_15 : decode cX10_type 15 = .ok (.getfield 81, 3) := by decide +kernel
theorem dX10_type_18 : decode cX10_type 18 = .ok (.sipush 200, 3) := by decide +kernel
theorem dX10_type_21 : decode cX10_type 21 = .ok (.if_icmp .ne 6, 3) := by decide +kernel
theorem dX10_type_24 : decode cX10_type 24 = .ok (.bipush (-4), 2) := by decide +kernel
theorem dX10_type_26 : decode cX10_type 26 = .ok (.ireturn, 1) := by decide +kernel
theorem dX10_type_27 : decode cX10_type 27 = .ok (.aload_n 0, 1) := by decide +kernel
theorem dX10_type_28 : decode cX10_type 28 = .ok (.getfield 7, 3) := by decide +kernel
theorem dX10_type_31 : decode cX10_type 31 = .ok (.aload_n 0, 1) := by decide +kernel
theorem dX10_type_32 : decode cX10_type 32 = .ok (.getfield 81, 3) := by decide +kernel
theorem dX10_type_35 : decode cX10_type 35 = .ok (.iload_n 1, 1) := by decide +kernel
theorem dX10_type_36 : decode cX10_type 36 = .ok (.iastore, 1) := by decide +kernel
theorem dX10_type_37 : decode cX10_type 37 = .ok (.aload_n 0, 1) := by decide +kernel
theorem dX10_type_38 : decode cX10_type 38 = .ok (.dup, 1) := by decide +kernel
theorem dX10_type_39 : decode cX10_type 39 = .ok (.getfield 81, 3) := by decide +kernel
theorem dX10_type_42 : decode cX10_type 42 = .ok (.iconst 1, 1) := by decide +kernel
theorem dX10_type_43 : decode cX10_type 43 = .ok (.iadd, 1) := by decide +kernel
theorem dX10_type_44 : decode cX10_type 44 = .ok (.putfield 81, 3) := by decide +kernel
theorem dX10_type_47 : decode cX10_type 47 = .ok (.aload_n 0, 1) := by decide +kernel
theorem dX10_type_48 : decode cX10_type 48 = .ok (.getfield 81, 3) := by decide +kernel
theorem dX10_type_51 : decode cX10_type 51 = .ok (.ireturn, 1) := by decide +kernel
theorem dX10_wipe_0 : decode cX10_wipe 0 = .ok (.aload_n 0, 1) := by decide +kernel
theorem dX10_wipe_1 : decode cX10_wipe 1 = .ok (.getfield 81, 3) := by decide +kernel
theorem dX10_wipe_4 : decode cX10_wipe 4 = .ok (.istore_n 1, 1) := by decide +kernel
theorem dX10_wipe_5 : decode cX10_wipe 5 = .ok (.aload_n 0, 1) := by decide +kernel
theorem dX10_wipe_6 : decode cX10_wipe 6 = .ok (.iconst 0, 1) := by decide +kernel
theorem dX10_wipe_7 : decode cX10_wipe 7 = .ok (.putfield 81, 3) := by decide +kernel
theorem dX10_wipe_10 : decode cX10_wipe 10 = .ok (.iload_n 1, 1) := by decide +kernel
theorem dX10_wipe_11 : decode cX10_wipe 11 = .ok (.ireturn, 1) := by decide +kernel
theorem dX10_undo_0 : decode cX10_undo 0 = .ok (.aload_n 0, 1) := by decide +kernel
theorem dX10_undo_1 : decode cX10_undo 1 = .ok (.getfield 81, 3) := by decide +kernel
theorem dX10_undo_4 : decode cX10_undo 4 = .ok (.ifCond .ne 6, 3) := by decide +kernel
theorem dX10_undo_7 : decode cX10_undo 7 = .ok (.bipush (-3), 2) := by decide +kernel
theorem dX10_undo_9 : decode cX10_undo 9 = .ok (.ireturn, 1) := by decide +kernel
theorem dX10_undo_10 : decode cX10_undo 10 = .ok (.aload_n 0, 1) := by decide +kernel
theorem dX10_undo_11 : decode cX10_undo 11 = .ok (.dup, 1) := by decide +kernel
theorem dX10_undo_12 : decode cX10_undo 12 = .ok (.getfield 81, 3) := by decide +kernel
theorem dX10_undo_15 : decode cX10_undo 15 = .ok (.iconst 1, 1) := by decide +kernel
theorem dX10_undo_16 : decode cX10_undo 16 = .ok (.isub, 1) := by decide +kernel
theorem dX10_undo_17 : decode cX10_undo 17 = .ok (.putfield 81, 3) := by decide +kernel
theorem dX10_undo_20 : decode cX10_undo 20 = .ok (.aload_n 0, 1) := by decide +kernel
theorem dX10_undo_21 : decode cX10_undo 21 = .ok (.getfield 81, 3) := by decide +kernel
theorem dX10_undo_24 : decode cX10_undo 24 = .ok (.ireturn, 1) := by decide +kernel
theorem dX10_isSetting_0 : decode cX10_isSetting 0 = .ok (.iload_n 0, 1) := by decide +kernel
theorem dX10_isSetting_1 : decode cX10_isSetting 1 = .ok (.ifCond .ne 12, 3) := by decide +kernel
theorem dX10_isSetting_4 : decode cX10_isSetting 4 = .ok (.iload_n 1, 1) := by decide +kernel
theorem dX10_isSetting_5 : decode cX10_isSetting 5 = .ok (.iconst 0, 1) := by decide +kernel
theorem dX10_isSetting_6 : decode cX10_isSetting 6 = .ok (.iconst 3, 1) := by decide +kernel
theorem dX10_isSetting_7 : decode cX10_isSetting 7 = .ok (.invokestatic 77, 3) := by decide +kernel
theorem dX10_isSetting_10 : decode cX10_isSetting 10 = .ok (.goto 41, 3) := by decide +kernel
theorem dX10_isSetting_13 : decode cX10_isSetting 13 = .ok (.iload_n 0, 1) := by decide +kernel
theorem dX10_isSetting_14 : decode cX10_isSetting 14 = .ok (.iconst 1, 1) := by decide +kernel
theorem dX10_isSetting_15 : decode cX10_isSetting 15 = .ok (.if_icmp .ne 13, 3) := by decide +kernel
theorem dX10_isSetting_18 : decode cX10_isSetting 18 = .ok (.iload_n 1, 1) := by decide +kernel
theorem dX10_isSetting_19 : decode cX10_isSetting 19 = .ok (.iconst 0, 1) := by decide +kernel
theorem dX10_isSetting_20 : decode cX10_isSetting 20 = .ok (.bipush 40, 2) := by decide +kernel
theorem dX10_isSetting_22 : decode cX10_isSetting 22 = .ok (.invokestatic 77, 3) := by decide +kernel
theorem dX10_isSetting_25 : decode cX10_isSetting 25 = .ok (.goto 26, 3) := by decide +kernel
theorem dX10_isSetting_28 : decode cX10_isSetting 28 = .ok (.iload_n 0, 1) := by decide +kernel
theorem dX10_isSetting_29 : decode cX10_isSetting 29 = .ok (.iconst 2, 1) := by decide +kernel
theorem dX10_isSetting_30 : decode cX10_isSetting 30 = .ok (.iconst 3, 1) := by decide +kernel
theorem dX10_isSetting_31 : decode cX10_isSetting 31 = .ok (.invokestatic 77, 3) := by decide +kernel
theorem dX10_isSetting_34 : decode cX10_isSetting 34 = .ok (.ifCond .eq 16, 3) := by decide +kernel
theorem dX10_isSetting_37 : decode cX10_isSetting 37 = .ok (.iload_n 1, 1) := by decide +kernel
theorem dX10_isSetting_38 : decode cX10_isSetting 38 = .ok (.iconst 1, 1) := by decide +kernel
theorem dX10_isSetting_39 : decode cX10_isSetting 39 = .ok (.iconst 4, 1) := by decide +kernel
theorem dX10_isSetting_40 : decode cX10_isSetting 40 = .ok (.invokestatic 77, 3) := by decide +kernel
theorem dX10_isSetting_43 : decode cX10_isSetting 43 = .ok (.ifCond .eq 7, 3) := by decide +kernel
theorem dX10_isSetting_46 : decode cX10_isSetting 46 = .ok (.iconst 1, 1) := by decide +kernel
theorem dX10_isSetting_47 : decode cX10_isSetting 47 = .ok (.goto 4, 3) := by decide +kernel
theorem dX10_isSetting_50 : decode cX10_isSetting 50 = .ok (.iconst 0, 1) := by decide +kernel
theorem dX10_isSetting_51 : decode cX10_isSetting 51 = .ok (.ireturn, 1) := by decide +kernel
theorem dX10_set_0 : decode cX10_set 0 = .ok (.iload_n 1, 1) := by decide +kernel
theorem dX10_set_1 : decode cX10_set 1 = .ok (.iload_n 2, 1) := by decide +kernel
theorem dX10_set_2 : decode cX10_set 2 = .ok (.invokestatic 85, 3) := by decide +kernel
theorem dX10_set_5 : decode cX10_set 5 = .ok (.ifCond .ne 6, 3) := by decide +kernel
theorem dX10_set_8 : decode cX10_set 8 = .ok (.bipush (-2), 2) := by decide +kernel
theorem dX10_set_10 : decode cX10_set 10 = .ok (.ireturn, 1) := by decide +kernel
theorem dX10_set_11 : decode cX10_set 11 = .ok (.aload_n 0, 1) := by decide +kernel
theorem dX10_set_12 : decode cX10_set 12 = .ok (.getfield 13, 3) := by decide +kernel
theorem dX10_set_15 : decode cX10_set 15 = .ok (.iload_n 1, 1) := by decide +kernel
theorem dX10_set_16 : decode cX10_set 16 = .ok (.iaload, 1) := by decide +kernel
theorem dX10_set_17 : decode cX10_set 17 = .ok (.istore_n 3, 1) := by decide +kernel
theorem dX10_set_18 : decode cX10_set 18 = .ok (.aload_n 0, 1) := by decide +kernel
theorem dX10_set_19 : decode cX10_set 19 = .ok (.getfield 13, 3) := by decide +kernel
theorem dX10_set_22 : decode cX10_set 22 = .ok (.iload_n 1, 1) := by decide +kernel
theorem dX10_set_23 : decode cX10_set 23 = .ok (.iload_n 2, 1) := by decide +kernel
theorem dX10_set_24 : decode cX10_set 24 = .ok (.iastore, 1) := by decide +kernel
theorem dX10_set_25 : decode cX10_set 25 = .ok (.iload_n 3, 1) := by decide +kernel
theorem dX10_set_26 : decode cX10_set 26 = .ok (.ireturn, 1) := by decide +kernel
theorem dX10_tell_0 : decode cX10_tell 0 = .ok (.iload_n 1, 1) := by decide +kernel
theorem dX10_tell_1 : decode cX10_tell 1 = .ok (.sipush (-4095), 3) := by decide +kernel
theorem dX10_tell_4 : decode cX10_tell 4 = .ok (.iand, 1) := by decide +kernel
theorem dX10_tell_5 : decode cX10_tell 5 = .ok (.ifCond .eq 6, 3) := by decide +kernel
theorem dX10_tell_8 : decode cX10_tell 8 = .ok (.bipush (-2), 2) := by decide +kernel
theorem dX10_tell_10 : decode cX10_tell 10 = .ok (.ireturn, 1) := by decide +kernel
theorem dX10_tell_11 : decode cX10_tell 11 = .ok (.aload_n 0, 1) := by decide +kernel
theorem dX10_tell_12 : decode cX10_tell 12 = .ok (.getfield 89, 3) := by decide +kernel
theorem dX10_tell_15 : decode cX10_tell 15 = .ok (.istore_n 2, 1) := by decide +kernel
theorem dX10_tell_16 : decode cX10_tell 16 = .ok (.aload_n 0, 1) := by decide +kernel
theorem dX10_tell_17 : decode cX10_tell 17 = .ok (.iload_n 1, 1) := by decide +kernel
theorem dX10_tell_18 : decode cX10_tell 18 = .ok (.putfield 89, 3) := by decide +kernel
theorem dX10_tell_21 : decode cX10_tell 21 = .ok (.iload_n 2, 1) := by decide +kernel
theorem dX10_tell_22 : decode cX10_tell 22 = .ok (.ireturn, 1) := by decide +kernel
theorem dX10_read_0 : decode cX10_read 0 = .ok (.iload_n 1, 1) := by decide +kernel
theorem dX10_read_1 : decode cX10_read 1 = .ok (.invokestatic 92, 3) := by decide +kernel
theorem dX10_read_4 : decode cX10_read 4 = .ok (.ifCond .ne 6, 3) := by decide +kernel
theorem dX10_read_7 : decode cX10_read 7 = .ok (.bipush (-2), 2) := by decide +kernel
theorem dX10_read_9 : decode cX10_read 9 = .ok (.ireturn, 1) := by decide +kernel
theorem dX10_read_10 : decode cX10_read 10 = .ok (.aload_n 0, 1) := by decide +kernel
theorem dX10_read_11 : decode cX10_read 11 = .ok (.getfield 61, 3) := by decide +kernel
theorem dX10_read_14 : decode cX10_read 14 = .ok (.iload_n 1, 1) := by decide +kernel
theorem dX10_read_15 : decode cX10_read 15 = .ok (.baload, 1) := by decide +kernel
theorem dX10_read_16 : decode cX10_read 16 = .ok (.ifCond .ne 9, 3) := by decide +kernel
theorem dX10_read_19 : decode cX10_read 19 = .ok (.aload_n 0, 1) := by decide +kernel
theorem dX10_read_20 : decode cX10_read 20 = .ok (.iconst 1, 1) := by decide +kernel
theorem dX10_read_21 : decode cX10_read 21 = .ok (.invokevirtual 96, 3) := by decide +kernel
theorem dX10_read_24 : decode cX10_read 24 = .ok (.ireturn, 1) := by decide +kernel
theorem dX10_read_25 : decode cX10_read 25 = .ok (.iconst 0, 1) := by decide +kernel
theorem dX10_read_26 : decode cX10_read 26 = .ok (.istore_n 2, 1) := by decide +kernel
theorem dX10_read_27 : decode cX10_read 27 = .ok (.iload_n 2, 1) := by decide +kernel
theorem dX10_read_28 : decode cX10_read 28 = .ok (.aload_n 0, 1) := by decide +kernel
theorem dX10_read_29 : decode cX10_read 29 = .ok (.getfield 68, 3) := by decide +kernel
theorem dX10_read_32 : decode cX10_read 32 = .ok (.iload_n 1, 1) := by decide +kernel
theorem dX10_read_33 : decode cX10_read 33 = .ok (.iaload, 1) := by decide +kernel
theorem dX10_read_34 : decode cX10_read 34 = .ok (.if_icmp .ge 27, 3) := by decide +kernel
theorem dX10_read_37 : decode cX10_read 37 = .ok (.aload_n 0, 1) := by decide +kernel
theorem dX10_read_38 : decode cX10_read 38 = .ok (.aload_n 0, 1) := by decide +kernel
theorem dX10_read_39 : decode cX10_read 39 = .ok (.getfield 71, 3) := by decide +kernel
theorem dX10_read_42 : decode cX10_read 42 = .ok (.bipush 60, 2) := by decide +kernel
theorem dX10_read_44 : decode cX10_read 44 = .ok (.iload_n 1, 1) := by decide +kernel
theorem dX10_read_45 : decode cX10_read 45 = .ok (.imul, 1) := by decide +kernel
theorem dX10_read_46 : decode cX10_read 46 = .ok (.iload_n 2, 1) := by decide +kernel
theorem dX10_read_47 : decode cX10_read 47 = .ok (.iadd, 1) := by decide +kernel
theorem dX10_read_48 : decode cX10_read 48 = .ok (.iaload, 1) := by decide +kernel
theorem dX10_read_49 : decode cX10_read 49 = .ok (.invokevirtual 100, 3) := by decide +kernel
theorem dX10_read_52 : decode cX10_read 52 = .ok (.ifCond .le 9, 3) := by decide +kernel
theorem dX10_read_55 : decode cX10_read 55 = .ok (.iinc 2 1, 3) := by decide +kernel
theorem dX10_read_58 : decode cX10_read 58 = .ok (.goto (-31), 3) := by decide +kernel
theorem dX10_read_61 : decode cX10_read 61 = .ok (.iload_n 2, 1) := by decide +kernel
theorem dX10_read_62 : decode cX10_read 62 = .ok (.ireturn, 1) := by decide +kernel
theorem dX10_fails_0 : decode cX10_fails 0 = .ok (.aload_n 0, 1) := by decide +kernel
theorem dX10_fails_1 : decode cX10_fails 1 = .ok (.iload_n 1, 1) := by decide +kernel
theorem dX10_fails_2 : decode cX10_fails 2 = .ok (.putfield 103, 3) := by decide +kernel
theorem dX10_fails_5 : decode cX10_fails 5 = .ok (.aload_n 0, 1) := by decide +kernel
theorem dX10_fails_6 : decode cX10_fails 6 = .ok (.iload_n 2, 1) := by decide +kernel
theorem dX10_fails_7 : decode cX10_fails 7 = .ok (.putfield 106, 3) := by decide +kernel
theorem dX10_fails_10 : decode cX10_fails 10 = .ok (.aload_n 0, 1) := by decide +kernel
theorem dX10_fails_11 : decode cX10_fails 11 = .ok (.aload_n 0, 1) := by decide +kernel
theorem dX10_fails_12 : decode cX10_fails 12 = .ok (.getfield 109, 3) := by decide +kernel
theorem dX10_fails_15 : decode cX10_fails 15 = .ok (.putfield 112, 3) := by decide +kernel
theorem dX10_fails_18 : decode cX10_fails 18 = .ok (.return_, 1) := by decide +kernel
theorem dX10_whyNot_0 : decode cX10_whyNot 0 = .ok (.iload_n 1, 1) := by decide +kernel
theorem dX10_whyNot_1 : decode cX10_whyNot 1 = .ok (.bipush 97, 2) := by decide +kernel
theorem dX10_whyNot_3 : decode cX10_whyNot 3 = .ok (.bipush 122, 2) := by decide +kernel
theorem dX10_whyNot_5 : decode cX10_whyNot 5 = .ok (.invokestatic 77, 3) := by decide +kernel
theorem dX10_whyNot_8 : decode cX10_whyNot 8 = .ok (.istore 5, 2) := by decide +kernel
theorem dX10_whyNot_10 : decode cX10_whyNot 10 = .ok (.iload 5, 2) := by decide +kernel
theorem dX10_whyNot_12 : decode cX10_whyNot 12 = .ok (.ifCond .ne 17, 3) := by decide +kernel
theorem dX10_whyNot_15 : decode cX10_whyNot 15 = .ok (.iload_n 1, 1) := by decide +kernel
theorem dX10_whyNot_16 : decode cX10_whyNot 16 = .ok (.bipush 32, 2) := by decide +kernel
theorem dX10_whyNot_18 : decode cX10_whyNot 18 = .ok (.if_icmp .eq 11, 3) := by decide +kernel
theorem dX10_whyNot_21 : decode cX10_whyNot 21 = .ok (.iload_n 1, 1) := by decide +kernel
theorem dX10_whyNot_22 : decode cX10_whyNot 22 = .ok (.bipush 46, 2) := by decide +kernel
theorem dX10_whyNot_24 : decode cX10_whyNot 24 = .ok (.if_icmp .eq 5, 3) := by decide +kernel
theorem dX10_whyNot_27 : decode cX10_whyNot 27 = .ok (.iconst 1, 1) := by decide +kernel
theorem dX10_whyNot_28 : decode cX10_whyNot 28 = .ok (.ireturn, 1) := by decide +kernel
theorem dX10_whyNot_29 : decode cX10_whyNot 29 = .ok (.iload 5, 2) := by decide +kernel
theorem dX10_whyNot_31 : decode cX10_whyNot 31 = .ok (.ifCond .ne 21, 3) := by decide +kernel
theorem dX10_whyNot_34 : decode cX10_whyNot 34 = .ok (.iload_n 2, 1) := by decide +kernel
theorem dX10_whyNot_35 : decode cX10_whyNot 35 = .ok (.iconst 2, 1) := by decide +kernel
theorem dX10_whyNot_36 : decode cX10_whyNot 36 = .ok (.if_icmp .eq 16, 3) := by decide +kernel
theorem dX10_whyNot_39 : decode cX10_whyNot 39 = .ok (.iload_n 2, 1) := by decide +kernel
theorem dX10_whyNot_40 : decode cX10_whyNot 40 = .ok (.iconst 1, 1) := by decide +kernel
theorem dX10_whyNot_41 : decode cX10_whyNot 41 = .ok (.if_icmp .ne 9, 3) := by decide +kernel
theorem dX10_whyNot_44 : decode cX10_whyNot 44 = .ok (.iload_n 1, 1) := by decide +kernel
theorem dX10_whyNot_45 : decode cX10_whyNot 45 = .ok (.bipush 32, 2) := by decide +kernel
theorem dX10_whyNot_47 : decode cX10_whyNot 47 = .ok (.if_icmp .eq 5, 3) := by decide +kernel
theorem dX10_whyNot_50 : decode cX10_whyNot 50 = .ok (.iconst 3, 1) := by decide +kernel
theorem dX10_whyNot_51 : decode cX10_whyNot 51 = .ok (.ireturn, 1) := by decide +kernel
theorem dX10_whyNot_52 : decode cX10_whyNot 52 = .ok (.iload 5, 2) := by decide +kernel
theorem dX10_whyNot_54 : decode cX10_whyNot 54 = .ok (.ifCond .eq 25, 3) := by decide +kernel
theorem dX10_whyNot_57 : decode cX10_whyNot 57 = .ok (.iload_n 2, 1) := by decide +kernel
theorem dX10_whyNot_58 : decode cX10_whyNot 58 = .ok (.iconst 2, 1) := by decide +kernel
theorem dX10_whyNot_59 : decode cX10_whyNot 59 = .ok (.if_icmp .eq 20, 3) := by decide +kernel
theorem dX10_whyNot_62 : decode cX10_whyNot 62 = .ok (.aload_n 0, 1) := by decide +kernel
theorem dX10_whyNot_63 : decode cX10_whyNot 63 = .ok (.getfield 109, 3) := by decide +kernel
theorem dX10_whyNot_66 : decode cX10_whyNot 66 = .ok (.bipush 12, 2) := by decide +kernel
theorem dX10_whyNot_68 : decode cX10_whyNot 68 = .ok (.if_icmp .eq 9, 3) := by decide +kernel
theorem dX10_whyNot_71 : decode cX10_whyNot 71 = .ok (.iload_n 3, 1) := by decide +kernel
theorem dX10_whyNot_72 : decode cX10_whyNot 72 = .ok (.bipush 9, 2) := by decide +kernel
theorem dX10_whyNot_74 : decode cX10_whyNot 74 = .ok (.if_icmp .ne 5, 3) := by decide +kernel
theorem dX10_whyNot_77 : decode cX10_whyNot 77 = .ok (.iconst 4, 1) := by decide +kernel
theorem dX10_whyNot_78 : decode cX10_whyNot 78 = .ok (.ireturn, 1) := by decide +kernel
theorem dX10_whyNot_79 : decode cX10_whyNot 79 = .ok (.iload 5, 2) := by decide +kernel
theorem dX10_whyNot_81 : decode cX10_whyNot 81 = .ok (.ifCond .eq 19, 3) := by decide +kernel
theorem dX10_whyNot_84 : decode cX10_whyNot 84 = .ok (.iload_n 2, 1) := by decide +kernel
theorem dX10_whyNot_85 : decode cX10_whyNot 85 = .ok (.iconst 2, 1) := by decide +kernel
theorem dX10_whyNot_86 : decode cX10_whyNot 86 = .ok (.if_icmp .ne 14, 3) := by decide +kernel
theorem dX10_whyNot_89 : decode cX10_whyNot 89 = .ok (.iload 4, 2) := by decide +kernel
theorem dX10_whyNot_91 : decode cX10_whyNot 91 = .ok (.bipush 10, 2) := by decide +kernel
theorem dX10_whyNot_93 : decode cX10_whyNot 93 = .ok (.if_icmp .ne 7, 3) := by decide +kernel
theorem dX10_whyNot_96 : decode cX10_whyNot 96 = .ok (.iconst 2, 1) := by decide +kernel
theorem dX10_whyNot_97 : decode cX10_whyNot 97 = .ok (.goto 4, 3) := by decide +kernel
theorem dX10_whyNot_100 : decode cX10_whyNot 100 = .ok (.iconst (-1), 1) := by decide +kernel
theorem dX10_whyNot_101 : decode cX10_whyNot 101 = .ok (.ireturn, 1) := by decide +kernel
theorem dX10_begins_0 : decode cX10_begins 0 = .ok (.aload_n 0, 1) := by decide +kernel
theorem dX10_begins_1 : decode cX10_begins 1 = .ok (.getfield 16, 3) := by decide +kernel
theorem dX10_begins_4 : decode cX10_begins 4 = .ok (.aload_n 0, 1) := by decide +kernel
theorem dX10_begins_5 : decode cX10_begins 5 = .ok (.getfield 115, 3) := by decide +kernel
theorem dX10_begins_8 : decode cX10_begins 8 = .ok (.iload_n 1, 1) := by decide +kernel
theorem dX10_begins_9 : decode cX10_begins 9 = .ok (.iastore, 1) := by decide +kernel
theorem dX10_begins_10 : decode cX10_begins 10 = .ok (.aload_n 0, 1) := by decide +kernel
theorem dX10_begins_11 : decode cX10_begins 11 = .ok (.getfield 19, 3) := by decide +kernel
theorem dX10_begins_14 : decode cX10_begins 14 = .ok (.aload_n 0, 1) := by decide +kernel
theorem dX10_begins_15 : decode cX10_begins 15 = .ok (.getfield 115, 3) := by decide +kernel
theorem dX10_begins_18 : decode cX10_begins 18 = .ok (.iconst 0, 1) := by decide +kernel
theorem dX10_begins_19 : decode cX10_begins 19 = .ok (.iastore, 1) := by decide +kernel
theorem dX10_begins_20 : decode cX10_begins 20 = .ok (.aload_n 0, 1) := by decide +kernel
theorem dX10_begins_21 : decode cX10_begins 21 = .ok (.getfield 22, 3) := by decide +kernel
theorem dX10_begins_24 : decode cX10_begins 24 = .ok (.aload_n 0, 1) := by decide +kernel
theorem dX10_begins_25 : decode cX10_begins 25 = .ok (.getfield 115, 3) := by decide +kernel
theorem dX10_begins_28 : decode cX10_begins 28 = .ok (.aload_n 0, 1) := by decide +kernel
theorem dX10_begins_29 : decode cX10_begins 29 = .ok (.getfield 109, 3) := by decide +kernel
theorem dX10_begins_32 : decode cX10_begins 32 = .ok (.iastore, 1) := by decide +kernel
theorem dX10_begins_33 : decode cX10_begins 33 = .ok (.iload_n 2, 1) := by decide +kernel
theorem dX10_begins_34 : decode cX10_begins 34 = .ok (.ifCond .ne 16, 3) := by decide +kernel
theorem dX10_begins_37 : decode cX10_begins 37 = .ok (.aload_n 0, 1) := by decide +kernel
theorem dX10_begins_38 : decode cX10_begins 38 = .ok (.getfield 34, 3) := by decide +kernel
theorem dX10_begins_41 : decode cX10_begins 41 = .ok (.aload_n 0, 1) := by decide +kernel
theorem dX10_begins_42 : decode cX10_begins 42 = .ok (.getfield 109, 3) := by decide +kernel
theorem dX10_begins_45 : decode cX10_begins 45 = .ok (.aload_n 0, 1) := by decide +kernel
theorem dX10_begins_46 : decode cX10_begins 46 = .ok (.getfield 115, 3) := by decide +kernel
theorem dX10_begins_49 : decode cX10_begins 49 = .ok (.iastore, 1) := by decide +kernel
theorem dX10_begins_50 : decode cX10_begins 50 = .ok (.aload_n 0, 1) := by decide +kernel
theorem dX10_begins_51 : decode cX10_begins 51 = .ok (.dup, 1) := by decide +kernel
theorem dX10_begins_52 : decode cX10_begins 52 = .ok (.getfield 115, 3) := by decide +kernel
theorem dX10_begins_55 : decode cX10_begins 55 = .ok (.iconst 1, 1) := by decide +kernel
theorem dX10_begins_56 : decode cX10_begins 56 = .ok (.iadd, 1) := by decide +kernel
theorem dX10_begins_57 : decode cX10_begins 57 = .ok (.putfield 115, 3) := by decide +kernel
theorem dX10_begins_60 : decode cX10_begins 60 = .ok (.return_, 1) := by decide +kernel
theorem dX10_readsText_0 : decode cX10_readsText 0 = .ok (.aload_n 0, 1) := by decide +kernel
theorem dX10_readsText_1 : decode cX10_readsText 1 = .ok (.iconst 0, 1) := by decide +kernel
theorem dX10_readsText_2 : decode cX10_readsText 2 = .ok (.putfield 109, 3) := by decide +kernel
theorem dX10_readsText_5 : decode cX10_readsText 5 = .ok (.aload_n 0, 1) := by decide +kernel
theorem dX10_readsText_6 : decode cX10_readsText 6 = .ok (.iconst 0, 1) := by decide +kernel
theorem dX10_readsText_7 : decode cX10_readsText 7 = .ok (.putfield 115, 3) := by decide +kernel
theorem dX10_readsText_10 : decode cX10_readsText 10 = .ok (.aload_n 0, 1) := by decide +kernel
theorem dX10_readsText_11 : decode cX10_readsText 11 = .ok (.iconst (-1), 1) := by decide +kernel
theorem dX10_readsText_12 : decode cX10_readsText 12 = .ok (.putfield 103, 3) := by decide +kernel
theorem dX10_readsText_15 : decode cX10_readsText 15 = .ok (.aload_n 0, 1) := by decide +kernel
theorem dX10_readsText_16 : decode cX10_readsText 16 = .ok (.iconst (-1), 1) := by decide +kernel
theorem dX10_readsText_17 : decode cX10_readsText 17 = .ok (.putfield 106, 3) := by decide +kernel
theorem dX10_readsText_20 : decode cX10_readsText 20 = .ok (.aload_n 0, 1) := by decide +kernel
theorem dX10_readsText_21 : decode cX10_readsText 21 = .ok (.iconst (-1), 1) := by decide +kernel
theorem dX10_readsText_22 : decode cX10_readsText 22 = .ok (.putfield 112, 3) := by decide +kernel
theorem dX10_readsText_25 : decode cX10_readsText 25 = .ok (.iconst 0, 1) := by decide +kernel
theorem dX10_readsText_26 : decode cX10_readsText 26 = .ok (.istore_n 1, 1) := by decide +kernel
theorem dX10_readsText_27 : decode cX10_readsText 27 = .ok (.iconst 0, 1) := by decide +kernel
theorem dX10_readsText_28 : decode cX10_readsText 28 = .ok (.istore_n 2, 1) := by decide +kernel
theorem dX10_readsText_29 : decode cX10_readsText 29 = .ok (.iconst 0, 1) := by decide +kernel
theorem dX10_readsText_30 : decode cX10_readsText 30 = .ok (.istore_n 3, 1) := by decide +kernel
theorem dX10_readsText_31 : decode cX10_readsText 31 = .ok (.iload_n 3, 1) := by decide +kernel
theorem dX10_readsText_32 : decode cX10_readsText 32 = .ok (.aload_n 0, 1) := by decide +kernel
theorem dX10_readsText_33 : decode cX10_readsText 33 = .ok (.getfield 81, 3) := by decide +kernel
theorem dX10_readsText_36 : decode cX10_readsText 36 = .ok (.if_icmp .ge 142, 3) := by decide +kernel
theorem dX10_readsText_39 : decode cX10_readsText 39 = .ok (.aload_n 0, 1) := by decide +kernel
theorem dX10_readsText_40 : decode cX10_readsText 40 = .ok (.getfield 7, 3) := by decide +kernel
theorem dX10_readsText_43 : decode cX10_readsText 43 = .ok (.iload_n 3, 1) := by decide +kernel
theorem dX10_readsText_44 : decode cX10_readsText 44 = .ok (.iaload, 1) := by decide +kernel
theorem dX10_readsText_45 : decode cX10_readsText 45 = .ok (.istore 4, 2) := by decide +kernel
theorem dX10_readsText_47 : decode cX10_readsText 47 = .ok (.aload_n 0, 1) := by decide +kernel
theorem dX10_readsText_48 : decode cX10_readsText 48 = .ok (.iload 4, 2) := by decide +kernel
theorem dX10_readsText_50 : decode cX10_readsText 50 = .ok (.iload_n 1, 1) := by decide +kernel
theorem dX10_readsText_51 : decode cX10_readsText 51 = .ok (.iload_n 2, 1) := by decide +kernel
theorem dX10_readsText_52 : decode cX10_readsText 52 = .ok (.iload_n 1, 1) := by decide +kernel
theorem dX10_readsText_53 : decode cX10_readsText 53 = .ok (.iconst 2, 1) := by decide +kernel
theorem dX10_readsText_54 : decode cX10_readsText 54 = .ok (.if_icmp .ne 17, 3) := by decide +kernel
theorem dX10_readsText_57 : decode cX10_readsText 57 = .ok (.aload_n 0, 1) := by decide +kernel
theorem dX10_readsText_58 : decode cX10_readsText 58 = .ok (.getfield 19, 3) := by decide +kernel
theorem dX10_readsText_61 : decode cX10_readsText 61 = .ok (.aload_n 0, 1) := by decide +kernel
theorem dX10_readsText_62 : decode cX10_readsText 62 = .ok (.getfield 115, 3) := by decide +kernel
theorem dX10_readsText_65 : decode cX10_readsText 65 = .ok (.iconst 1, 1) := by decide +kernel
theorem dX10_readsText_66 : decode cX10_readsText 66 = .ok (.isub, 1) := by decide +kernel
theorem dX10_readsText_67 : decode cX10_readsText 67 = .ok (.iaload, 1) := by decide +kernel
theorem dX10_readsText_68 : decode cX10_readsText 68 = .ok (.goto 4, 3) := by decide +kernel
theorem dX10_readsText_71 : decode cX10_readsText 71 = .ok (.iconst 0, 1) := by decide +kernel
theorem dX10_readsText_72 : decode cX10_readsText 72 = .ok (.invokevirtual 118, 3) := by decide +kernel
theorem dX10_readsText_75 : decode cX10_readsText 75 = .ok (.istore 5, 2) := by decide +kernel
theorem dX10_readsText_77 : decode cX10_readsText 77 = .ok (.iload 5, 2) := by decide +kernel
theorem dX10_readsText_79 : decode cX10_readsText 79 = .ok (.iconst (-1), 1) := by decide +kernel
theorem dX10_readsText_80 : decode cX10_readsText 80 = .ok (.if_icmp .eq 11, 3) := by decide +kernel
theorem dX10_readsText_83 : decode cX10_readsText 83 = .ok (.aload_n 0, 1) := by decide +kernel
theorem dX10_readsText_84 : decode cX10_readsText 84 = .ok (.iload_n 3, 1) := by decide +kernel
theorem dX10_readsText_85 : decode cX10_readsText 85 = .ok (.iload 5, 2) := by decide +kernel
theorem dX10_readsText_87 : decode cX10_readsText 87 = .ok (.invokevirtual 122, 3) := by decide +kernel
theorem dX10_readsText_90 : decode cX10_readsText 90 = .ok (.return_, 1) := by decide +kernel
theorem dX10_readsText_91 : decode cX10_readsText 91 = .ok (.iload 4, 2) := by decide +kernel
theorem dX10_readsText_93 : decode cX10_readsText 93 = .ok (.bipush 97, 2) := by decide +kernel
theorem dX10_readsText_95 : decode cX10_readsText 95 = .ok (.bipush 122, 2) := by decide +kernel
theorem dX10_readsText_97 : decode cX10_readsText 97 = .ok (.invokestatic 77, 3) := by decide +kernel
theorem dX10_readsText_100 : decode cX10_readsText 100 = .ok (.ifCond .eq 37, 3) := by decide +kernel
theorem dX10_readsText_103 : decode cX10_readsText 103 = .ok (.iload_n 1, 1) := by decide +kernel
theorem dX10_readsText_104 : decode cX10_readsText 104 = .ok (.iconst 2, 1) := by decide +kernel
theorem dX10_readsText_105 : decode cX10_readsText 105 = .ok (.if_icmp .eq 12, 3) := by decide +kernel
theorem dX10_readsText_108 : decode cX10_readsText 108 = .ok (.aload_n 0, 1) := by decide +kernel
theorem dX10_readsText_109 : decode cX10_readsText 109 = .ok (.iload_n 3, 1) := by decide +kernel
theorem dX10_readsText_110 : decode cX10_readsText 110 = .ok (.iload_n 2, 1) := by decide +kernel
theorem dX10_readsText_111 : decode cX10_readsText 111 = .ok (.invokevirtual 126, 3) := by decide +kernel
theorem dX10_readsText_114 : decode cX10_readsText 114 = .ok (.iinc 2 1, 3) := by decide +kernel
theorem dX10_readsText_117 : decode cX10_readsText 117 = .ok (.aload_n 0, 1) := by decide +kernel
theorem dX10_readsText_118 : decode cX10_readsText 118 = .ok (.getfield 19, 3) := by decide +kernel
theorem dX10_readsText_121 : decode cX10_readsText 121 = .ok (.aload_n 0, 1) := by decide +kernel
theorem dX10_readsText_122 : decode cX10_readsText 122 = .ok (.getfield 115, 3) := by decide +kernel
theorem dX10_readsText_125 : decode cX10_readsText 125 = .ok (.iconst 1, 1) := by decide +kernel
theorem dX10_readsText_126 : decode cX10_readsText 126 = .ok (.isub, 1) := by decide +kernel
theorem dX10_readsText_127 : decode cX10_readsText 127 = .ok (.dup2, 1) := by decide +kernel
theorem dX10_readsText_128 : decode cX10_readsText 128 = .ok (.iaload, 1) := by decide +kernel
theorem dX10_readsText_129 : decode cX10_readsText 129 = .ok (.iconst 1, 1) := by decide +kernel
theorem dX10_readsText_130 : decode cX10_readsText 130 = .ok (.iadd, 1) := by decide +kernel
theorem dX10_readsText_131 : decode cX10_readsText 131 = .ok (.iastore, 1) := by decide +kernel
theorem dX10_readsText_132 : decode cX10_readsText 132 = .ok (.iconst 2, 1) := by decide +kernel
theorem dX10_readsText_133 : decode cX10_readsText 133 = .ok (.istore_n 1, 1) := by decide +kernel
theorem dX10_readsText_134 : decode cX10_readsText 134 = .ok (.goto 38, 3) := by decide +kernel
theorem dX10_readsText_137 : decode cX10_readsText 137 = .ok (.iload 4, 2) := by decide +kernel
theorem dX10_readsText_139 : decode cX10_readsText 139 = .ok (.bipush 46, 2) := by decide +kernel
theorem dX10_readsText_141 : decode cX10_readsText 141 = .ok (.if_icmp .ne 20, 3) := by decide +kernel
theorem dX10_readsText_144 : decode cX10_readsText 144 = .ok (.aload_n 0, 1) := by decide +kernel
theorem dX10_readsText_145 : decode cX10_readsText 145 = .ok (.dup, 1) := by decide +kernel
theorem dX10_readsText_146 : decode cX10_readsText 146 = .ok (.getfield 109, 3) := by decide +kernel
theorem dX10_readsText_149 : decode cX10_readsText 149 = .ok (.iconst 1, 1) := by decide +kernel
theorem dX10_readsText_150 : decode cX10_readsText 150 = .ok (.iadd, 1) := by decide +kernel
theorem dX10_readsText_151 : decode cX10_readsText 151 = .ok (.putfield 109, 3) := by decide +kernel
theorem dX10_readsText_154 : decode cX10_readsText 154 = .ok (.iconst 0, 1) := by decide +kernel
theorem dX10_readsText_155 : decode cX10_readsText 155 = .ok (.istore_n 2, 1) := by decide +kernel
theorem dX10_readsText_156 : decode cX10_readsText 156 = .ok (.iconst 1, 1) := by decide +kernel
theorem dX10_readsText_157 : decode cX10_readsText 157 = .ok (.istore_n 1, 1) := by decide +kernel
theorem dX10_readsText_158 : decode cX10_readsText 158 = .ok (.goto 14, 3) := by decide +kernel
theorem dX10_readsText_161 : decode cX10_readsText 161 = .ok (.iload_n 1, 1) := by decide +kernel
theorem dX10_readsText_162 : decode cX10_readsText 162 = .ok (.iconst 1, 1) := by decide +kernel
theorem dX10_readsText_163 : decode cX10_readsText 163 = .ok (.if_icmp .ne 7, 3) := by decide +kernel
theorem dX10_readsText_166 : decode cX10_readsText 166 = .ok (.iconst 0, 1) := by decide +kernel
theorem dX10_readsText_167 : decode cX10_readsText 167 = .ok (.goto 4, 3) := by decide +kernel
theorem dX10_readsText_170 : decode cX10_readsText 170 = .ok (.iconst 3, 1) := by decide +kernel
theorem dX10_readsText_171 : decode cX10_readsText 171 = .ok (.istore_n 1, 1) := by decide +kernel
theorem dX10_readsText_172 : decode cX10_readsText 172 = .ok (.iinc 3 1, 3) := by decide +kernel
theorem dX10_readsText_175 : decode cX10_readsText 175 = .ok (.goto (-144), 3) := by decide +kernel
theorem dX10_readsText_178 : decode cX10_readsText 178 = .ok (.iload_n 1, 1) := by decide +kernel
theorem dX10_readsText_179 : decode cX10_readsText 179 = .ok (.iconst 1, 1) := by decide +kernel
theorem dX10_readsText_180 : decode cX10_readsText 180 = .ok (.if_icmp .le 12, 3) := by decide +kernel
theorem dX10_readsText_183 : decode cX10_readsText 183 = .ok (.aload_n 0, 1) := by decide +kernel
theorem dX10_readsText_184 : decode cX10_readsText 184 = .ok (.aload_n 0, 1) := by decide +kernel
theorem dX10_readsText_185 : decode cX10_readsText 185 = .ok (.getfield 81, 3) := by decide +kernel
theorem dX10_readsText_188 : decode cX10_readsText 188 = .ok (.iconst 5, 1) := by decide +kernel
theorem dX10_readsText_189 : decode cX10_readsText 189 = .ok (.invokevirtual 122, 3) := by decide +kernel
theorem dX10_readsText_192 : decode cX10_readsText 192 = .ok (.return_, 1) := by decide +kernel
theorem dX10_endsWith_0 : decode cX10_endsWith 0 = .ok (.aload_n 0, 1) := by decide +kernel
theorem dX10_endsWith_1 : decode cX10_endsWith 1 = .ok (.getfield 7, 3) := by decide +kernel
theorem dX10_endsWith_4 : decode cX10_endsWith 4 = .ok (.aload_n 0, 1) := by decide +kernel
theorem dX10_endsWith_5 : decode cX10_endsWith 5 = .ok (.getfield 16, 3) := by decide +kernel
theorem dX10_endsWith_8 : decode cX10_endsWith 8 = .ok (.iload_n 1, 1) := by decide +kernel
theorem dX10_endsWith_9 : decode cX10_endsWith 9 = .ok (.iaload, 1) := by decide +kernel
theorem dX10_endsWith_10 : decode cX10_endsWith 10 = .ok (.aload_n 0, 1) := by decide +kernel
theorem dX10_endsWith_11 : decode cX10_endsWith 11 = .ok (.getfield 19, 3) := by decide +kernel
theorem dX10_endsWith_14 : decode cX10_endsWith 14 = .ok (.iload_n 1, 1) := by decide +kernel
theorem dX10_endsWith_15 : decode cX10_endsWith 15 = .ok (.iaload, 1) := by decide +kernel
theorem dX10_endsWith_16 : decode cX10_endsWith 16 = .ok (.iadd, 1) := by decide +kernel
theorem dX10_endsWith_17 : decode cX10_endsWith 17 = .ok (.iload_n 2, 1) := by decide +kernel
theorem dX10_endsWith_18 : decode cX10_endsWith 18 = .ok (.isub, 1) := by decide +kernel
theorem dX10_endsWith_19 : decode cX10_endsWith 19 = .ok (.iaload, 1) := by decide +kernel
theorem dX10_endsWith_20 : decode cX10_endsWith 20 = .ok (.iload_n 3, 1) := by decide +kernel
theorem dX10_endsWith_21 : decode cX10_endsWith 21 = .ok (.if_icmp .ne 7, 3) := by decide +kernel
theorem dX10_endsWith_24 : decode cX10_endsWith 24 = .ok (.iconst 1, 1) := by decide +kernel
theorem dX10_endsWith_25 : decode cX10_endsWith 25 = .ok (.goto 4, 3) := by decide +kernel
theorem dX10_endsWith_28 : decode cX10_endsWith 28 = .ok (.iconst 0, 1) := by decide +kernel
theorem dX10_endsWith_29 : decode cX10_endsWith 29 = .ok (.ireturn, 1) := by decide +kernel
theorem dX10_longOf_0 : decode cX10_longOf 0 = .ok (.aload_n 0, 1) := by decide +kernel
theorem dX10_longOf_1 : decode cX10_longOf 1 = .ok (.getfield 19, 3) := by decide +kernel
theorem dX10_longOf_4 : decode cX10_longOf 4 = .ok (.iload_n 1, 1) := by decide +kernel
theorem dX10_longOf_5 : decode cX10_longOf 5 = .ok (.iaload, 1) := by decide +kernel
theorem dX10_longOf_6 : decode cX10_longOf 6 = .ok (.istore_n 2, 1) := by decide +kernel
theorem dX10_longOf_7 : decode cX10_longOf 7 = .ok (.iload_n 2, 1) := by decide +kernel
theorem dX10_longOf_8 : decode cX10_longOf 8 = .ok (.bipush 6, 2) := by decide +kernel
theorem dX10_longOf_10 : decode cX10_longOf 10 = .ok (.if_icmp .lt 40, 3) := by decide +kernel
theorem dX10_longOf_13 : decode cX10_longOf 13 = .ok (.aload_n 0, 1) := by decide +kernel
theorem dX10_longOf_14 : decode cX10_longOf 14 = .ok (.iload_n 1, 1) := by decide +kernel
theorem dX10_longOf_15 : decode cX10_longOf 15 = .ok (.iconst 3, 1) := by decide +kernel
theorem dX10_longOf_16 : decode cX10_longOf 16 = .ok (.bipush 105, 2) := by decide +kernel
theorem dX10_longOf_18 : decode cX10_longOf 18 = .ok (.invokevirtual 129, 3) := by decide +kernel
theorem dX10_longOf_21 : decode cX10_longOf 21 = .ok (.ifCond .eq 29, 3) := by decide +kernel
theorem dX10_longOf_24 : decode cX10_longOf 24 = .ok (.aload_n 0, 1) := by decide +kernel
theorem dX10_longOf_25 : decode cX10_longOf 25 = .ok (.iload_n 1, 1) := by decide +kernel
theorem dX10_longOf_26 : decode cX10_longOf 26 = .ok (.iconst 2, 1) := by decide +kernel
theorem dX10_longOf_27 : decode cX10_longOf 27 = .ok (.bipush 110, 2) := by decide +kernel
theorem dX10_longOf_29 : decode cX10_longOf 29 = .ok (.invokevirtual 129, 3) := by decide +kernel
theorem dX10_longOf_32 : decode cX10_longOf 32 = .ok (.ifCond .eq 18, 3) := by decide +kernel
theorem dX10_longOf_35 : decode cX10_longOf 35 = .ok (.aload_n 0, 1) := by decide +kernel
theorem dX10_longOf_36 : decode cX10_longOf 36 = .ok (.iload_n 1, 1) := by decide +kernel
theorem dX10_longOf_37 : decode cX10_longOf 37 = .ok (.iconst 1, 1) := by decide +kernel
theorem dX10_longOf_38 : decode cX10_longOf 38 = .ok (.bipush 103, 2) := by decide +kernel
theorem dX10_longOf_40 : decode cX10_longOf 40 = .ok (.invokevirtual 129, 3) := by decide +kernel
theorem dX10_longOf_43 : decode cX10_longOf 43 = .ok (.ifCond .eq 7, 3) := by decide +kernel
theorem dX10_longOf_46 : decode cX10_longOf 46 = .ok (.iload_n 2, 1) := by decide +kernel
theorem dX10_longOf_47 : decode cX10_longOf 47 = .ok (.iconst 3, 1) := by decide +kernel
theorem dX10_longOf_48 : decode cX10_longOf 48 = .ok (.isub, 1) := by decide +kernel
theorem dX10_longOf_49 : decode cX10_longOf 49 = .ok (.ireturn, 1) := by decide +kernel
theorem dX10_longOf_50 : decode cX10_longOf 50 = .ok (.iload_n 2, 1) := by decide +kernel
theorem dX10_longOf_51 : decode cX10_longOf 51 = .ok (.iconst 5, 1) := by decide +kernel
theorem dX10_longOf_52 : decode cX10_longOf 52 = .ok (.if_icmp .lt 29, 3) := by decide +kernel
theorem dX10_longOf_55 : decode cX10_longOf 55 = .ok (.aload_n 0, 1) := by decide +kernel
theorem dX10_longOf_56 : decode cX10_longOf 56 = .ok (.iload_n 1, 1) := by decide +kernel
theorem dX10_longOf_57 : decode cX10_longOf 57 = .ok (.iconst 2, 1) := by decide +kernel
theorem dX10_longOf_58 : decode cX10_longOf 58 = .ok (.bipush 101, 2) := by decide +kernel
theorem dX10_longOf_60 : decode cX10_longOf 60 = .ok (.invokevirtual 129, 3) := by decide +kernel
theorem dX10_longOf_63 : decode cX10_longOf 63 = .ok (.ifCond .eq 18, 3) := by decide +kernel
theorem dX10_longOf_66 : decode cX10_longOf 66 = .ok (.aload_n 0, 1) := by decide +kernel
theorem dX10_longOf_67 : decode cX10_longOf 67 = .ok (.iload_n 1, 1) := by decide +kernel
theorem dX10_longOf_68 : decode cX10_longOf 68 = .ok (.iconst 1, 1) := by decide +kernel
theorem dX10_longOf_69 : decode cX10_longOf 69 = .ok (.bipush 100, 2) := by decide +kernel
theorem dX10_longOf_71 : decode cX10_longOf 71 = .ok (.invokevirtual 129, 3) := by decide +kernel
theorem dX10_longOf_74 : decode cX10_longOf 74 = .ok (.ifCond .eq 7, 3) := by decide +kernel
theorem dX10_longOf_77 : decode cX10_longOf 77 = .ok (.iload_n 2, 1) := by decide +kernel
theorem dX10_longOf_78 : decode cX10_longOf 78 = .ok (.iconst 2, 1) := by decide +kernel
theorem dX10_longOf_79 : decode cX10_longOf 79 = .ok (.isub, 1) := by decide +kernel
theorem dX10_longOf_80 : decode cX10_longOf 80 = .ok (.ireturn, 1) := by decide +kernel
theorem dX10_longOf_81 : decode cX10_longOf 81 = .ok (.iload_n 2, 1) := by decide +kernel
theorem dX10_longOf_82 : decode cX10_longOf 82 = .ok (.iconst 4, 1) := by decide +kernel
theorem dX10_longOf_83 : decode cX10_longOf 83 = .ok (.if_icmp .lt 31, 3) := by decide +kernel
theorem dX10_longOf_86 : decode cX10_longOf 86 = .ok (.aload_n 0, 1) := by decide +kernel
theorem dX10_longOf_87 : decode cX10_longOf 87 = .ok (.iload_n 1, 1) := by decide +kernel
theorem dX10_longOf_88 : decode cX10_longOf 88 = .ok (.iconst 1, 1) := by decide +kernel
theorem dX10_longOf_89 : decode cX10_longOf 89 = .ok (.bipush 115, 2) := by decide +kernel
theorem dX10_longOf_91 : decode cX10_longOf 91 = .ok (.invokevirtual 129, 3) := by decide +kernel
theorem dX10_longOf_94 : decode cX10_longOf 94 = .ok (.ifCond .eq 20, 3) := by decide +kernel
theorem dX10_longOf_97 : decode cX10_longOf 97 = .ok (.aload_n 0, 1) := by decide +kernel
theorem dX10_longOf_98 : decode cX10_longOf 98 = .ok (.iload_n 1, 1) := by decide +kernel
theorem dX10_longOf_99 : decode cX10_longOf 99 = .ok (.iconst 2, 1) := by decide +kernel
theorem dX10_longOf_100 : decode cX10_longOf 100 = .ok (.bipush 115, 2) := by decide +kernel
theorem dX10_longOf_102 : decode cX10_longOf 102 = .ok (.invokevirtual 129, 3) := by decide +kernel
theorem dX10_longOf_105 : decode cX10_longOf 105 = .ok (.ifCond .ne 9, 3) := by decide +kernel
theorem dX10_longOf_108 : decode cX10_longOf 108 = .ok (.iload_n 2, 1) := by decide +kernel
theorem dX10_longOf_109 : decode cX10_longOf 109 = .ok (.iconst 1, 1) := by decide +kernel
theorem dX10_longOf_110 : decode cX10_longOf 110 = .ok (.isub, 1) := by decide +kernel
theorem dX10_longOf_111 : decode cX10_longOf 111 = .ok (.goto 4, 3) := by decide +kernel
theorem dX10_longOf_114 : decode cX10_longOf 114 = .ok (.iload_n 2, 1) := by decide +kernel
theorem dX10_longOf_115 : decode cX10_longOf 115 = .ok (.ireturn, 1) := by decide +kernel
theorem dX10_isLike_0 : decode cX10_isLike 0 = .ok (.aload_n 0, 1) := by decide +kernel
theorem dX10_isLike_1 : decode cX10_isLike 1 = .ok (.getfield 31, 3) := by decide +kernel
theorem dX10_isLike_4 : decode cX10_isLike 4 = .ok (.iload_n 3, 1) := by decide +kernel
theorem dX10_isLike_5 : decode cX10_isLike 5 = .ok (.iaload, 1) := by decide +kernel
theorem dX10_isLike_6 : decode cX10_isLike 6 = .ok (.iload_n 2, 1) := by decide +kernel
theorem dX10_isLike_7 : decode cX10_isLike 7 = .ok (.if_icmp .ne 7, 3) := by decide +kernel
theorem dX10_isLike_10 : decode cX10_isLike 10 = .ok (.iconst 1, 1) := by decide +kernel
theorem dX10_isLike_11 : decode cX10_isLike 11 = .ok (.goto 4, 3) := by decide +kernel
theorem dX10_isLike_14 : decode cX10_isLike 14 = .ok (.iconst 0, 1) := by decide +kernel
theorem dX10_isLike_15 : decode cX10_isLike 15 = .ok (.istore 4, 2) := by decide +kernel
theorem dX10_isLike_17 : decode cX10_isLike 17 = .ok (.iconst 0, 1) := by decide +kernel
theorem dX10_isLike_18 : decode cX10_isLike 18 = .ok (.istore 5, 2) := by decide +kernel
theorem dX10_isLike_20 : decode cX10_isLike 20 = .ok (.iload 5, 2) := by decide +kernel
theorem dX10_isLike_22 : decode cX10_isLike 22 = .ok (.iload_n 2, 1) := by decide +kernel
theorem dX10_isLike_23 : decode cX10_isLike 23 = .ok (.if_icmp .ge 52, 3) := by decide +kernel
theorem dX10_isLike_26 : decode cX10_isLike 26 = .ok (.iload 4, 2) := by decide +kernel
theorem dX10_isLike_28 : decode cX10_isLike 28 = .ok (.ifCond .eq 47, 3) := by decide +kernel
theorem dX10_isLike_31 : decode cX10_isLike 31 = .ok (.aload_n 0, 1) := by decide +kernel
theorem dX10_isLike_32 : decode cX10_isLike 32 = .ok (.getfield 7, 3) := by decide +kernel
theorem dX10_isLike_35 : decode cX10_isLike 35 = .ok (.aload_n 0, 1) := by decide +kernel
theorem dX10_isLike_36 : decode cX10_isLike 36 = .ok (.getfield 16, 3) := by decide +kernel
theorem dX10_isLike_39 : decode cX10_isLike 39 = .ok (.iload_n 1, 1) := by decide +kernel
theorem dX10_isLike_40 : decode cX10_isLike 40 = .ok (.iaload, 1) := by decide +kernel
theorem dX10_isLike_41 : decode cX10_isLike 41 = .ok (.iload 5, 2) := by decide +kernel
theorem dX10_isLike_43 : decode cX10_isLike 43 = .ok (.iadd, 1) := by decide +kernel
theorem dX10_isLike_44 : decode cX10_isLike 44 = .ok (.iaload, 1) := by decide +kernel
theorem dX10_isLike_45 : decode cX10_isLike 45 = .ok (.aload_n 0, 1) := by decide +kernel
theorem dX10_isLike_46 : decode cX10_isLike 46 = .ok (.getfield 7, 3) := by decide +kernel
theorem dX10_isLike_49 : decode cX10_isLike 49 = .ok (.aload_n 0, 1) := by decide +kernel
theorem dX10_isLike_50 : decode cX10_isLike 50 = .ok (.getfield 28, 3) := by decide +kernel
theorem dX10_isLike_53 : decode cX10_isLike 53 = .ok (.iload_n 3, 1) := by decide +kernel
theorem dX10_isLike_54 : decode cX10_isLike 54 = .ok (.iaload, 1) := by decide +kernel
theorem dX10_isLike_55 : decode cX10_isLike 55 = .ok (.iload 5, 2) := by decide +kernel
theorem dX10_isLike_57 : decode cX10_isLike 57 = .ok (.iadd, 1) := by decide +kernel
theorem dX10_isLike_58 : decode cX10_isLike 58 = .ok (.iaload, 1) := by decide +kernel
theorem dX10_isLike_59 : decode cX10_isLike 59 = .ok (.if_icmp .ne 7, 3) := by decide +kernel
theorem dX10_isLike_62 : decode cX10_isLike 62 = .ok (.iconst 1, 1) := by decide +kernel
theorem dX10_isLike_63 : decode cX10_isLike 63 = .ok (.goto 4, 3) := by decide +kernel
theorem dX10_isLike_66 : decode cX10_isLike 66 = .ok (.iconst 0, 1) := by decide +kernel
theorem dX10_isLike_67 : decode cX10_isLike 67 = .ok (.istore 4, 2) := by decide +kernel
theorem dX10_isLike_69 : decode cX10_isLike 69 = .ok (.iinc 5 1, 3) := by decide +kernel
theorem dX10_isLike_72 : decode cX10_isLike 72 = .ok (.goto (-52), 3) := by decide +kernel
theorem dX10_isLike_75 : decode cX10_isLike 75 = .ok (.iload 4, 2) := by decide +kernel
theorem dX10_isLike_77 : decode cX10_isLike 77 = .ok (.ireturn, 1) := by decide +kernel
theorem dX10_reads_0 : decode cX10_reads 0 = .ok (.aload_n 0, 1) := by decide +kernel
theorem dX10_reads_1 : decode cX10_reads 1 = .ok (.invokevirtual 132, 3) := by decide +kernel
theorem dX10_reads_4 : decode cX10_reads 4 = .ok (.aload_n 0, 1) := by decide +kernel
theorem dX10_reads_5 : decode cX10_reads 5 = .ok (.getfield 103, 3) := by decide +kernel
theorem dX10_reads_8 : decode cX10_reads 8 = .ok (.iconst (-1), 1) := by decide +kernel
theorem dX10_reads_9 : decode cX10_reads 9 = .ok (.if_icmp .eq 13, 3) := by decide +kernel
theorem dX10_reads_12 : decode cX10_reads 12 = .ok (.aload_n 0, 1) := by decide +kernel
theorem dX10_reads_13 : decode cX10_reads 13 = .ok (.iconst 0, 1) := by decide +kernel
theorem dX10_reads_14 : decode cX10_reads 14 = .ok (.putfield 109, 3) := by decide +kernel
theorem dX10_reads_17 : decode cX10_reads 17 = .ok (.aload_n 0, 1) := by decide +kernel
theorem dX10_reads_18 : decode cX10_reads 18 = .ok (.iconst 0, 1) := by decide +kernel
theorem dX10_reads_19 : decode cX10_reads 19 = .ok (.putfield 115, 3) := by decide +kernel
theorem dX10_reads_22 : decode cX10_reads 22 = .ok (.aload_n 0, 1) := by decide +kernel
theorem dX10_reads_23 : decode cX10_reads 23 = .ok (.iconst 0, 1) := by decide +kernel
theorem dX10_reads_24 : decode cX10_reads 24 = .ok (.putfield 135, 3) := by decide +kernel
theorem dX10_reads_27 : decode cX10_reads 27 = .ok (.iconst 0, 1) := by decide +kernel
theorem dX10_reads_28 : decode cX10_reads 28 = .ok (.istore_n 1, 1) := by decide +kernel
theorem dX10_reads_29 : decode cX10_reads 29 = .ok (.iload_n 1, 1) := by decide +kernel
theorem dX10_reads_30 : decode cX10_reads 30 = .ok (.sipush 1320, 3) := by decide +kernel
theorem dX10_reads_33 : decode cX10_reads 33 = .ok (.if_icmp .ge 16, 3) := by decide +kernel
theorem dX10_reads_36 : decode cX10_reads 36 = .ok (.aload_n 0, 1) := by decide +kernel
theorem dX10_reads_37 : decode cX10_reads 37 = .ok (.getfield 37, 3) := by decide +kernel
theorem dX10_reads_40 : decode cX10_reads 40 = .ok (.iload_n 1, 1) := by decide +kernel
theorem dX10_reads_41 : decode cX10_reads 41 = .ok (.iconst 0, 1) := by decide +kernel
theorem dX10_reads_42 : decode cX10_reads 42 = .ok (.iastore, 1) := by decide +kernel
theorem dX10_reads_43 : decode cX10_reads 43 = .ok (.iinc 1 1, 3) := by decide +kernel
theorem dX10_reads_46 : decode cX10_reads 46 = .ok (.goto (-17), 3) := by decide +kernel
theorem dX10_reads_49 : decode cX10_reads 49 = .ok (.iconst 0, 1) := by decide +kernel
theorem dX10_reads_50 : decode cX10_reads 50 = .ok (.istore_n 1, 1) := by decide +kernel
theorem dX10_reads_51 : decode cX10_reads 51 = .ok (.iload_n 1, 1) := by decide +kernel
theorem dX10_reads_52 : decode cX10_reads 52 = .ok (.aload_n 0, 1) := by decide +kernel
theorem dX10_reads_53 : decode cX10_reads 53 = .ok (.getfield 115, 3) := by decide +kernel
theorem dX10_reads_56 : decode cX10_reads 56 = .ok (.if_icmp .ge 111, 3) := by decide +kernel
theorem dX10_reads_59 : decode cX10_reads 59 = .ok (.aload_n 0, 1) := by decide +kernel
theorem dX10_reads_60 : decode cX10_reads 60 = .ok (.iload_n 1, 1) := by decide +kernel
theorem dX10_reads_61 : decode cX10_reads 61 = .ok (.invokevirtual 138, 3) := by decide +kernel
theorem dX10_reads_64 : decode cX10_reads 64 = .ok (.istore_n 2, 1) := by decide +kernel
theorem dX10_reads_65 : decode cX10_reads 65 = .ok (.iconst 0, 1) := by decide +kernel
theorem dX10_reads_66 : decode cX10_reads 66 = .ok (.istore_n 3, 1) := by decide +kernel
theorem dX10_reads_67 : decode cX10_reads 67 = .ok (.iload_n 3, 1) := by decide +kernel
theorem dX10_reads_68 : decode cX10_reads 68 = .ok (.aload_n 0, 1) := by decide +kernel
theorem dX10_reads_69 : decode cX10_reads 69 = .ok (.getfield 135, 3) := by decide +kernel
theorem dX10_reads_72 : decode cX10_reads 72 = .ok (.if_icmp .ge 19, 3) := by decide +kernel
theorem dX10_reads_75 : decode cX10_reads 75 = .ok (.aload_n 0, 1) := by decide +kernel
theorem dX10_reads_76 : decode cX10_reads 76 = .ok (.iload_n 1, 1) := by decide +kernel
theorem dX10_reads_77 : decode cX10_reads 77 = .ok (.iload_n 2, 1) := by decide +kernel
theorem dX10_reads_78 : decode cX10_reads 78 = .ok (.iload_n 3, 1) := by decide +kernel
theorem dX10_reads_79 : decode cX10_reads 79 = .ok (.invokevirtual 141, 3) := by decide +kernel
theorem dX10_reads_82 : decode cX10_reads 82 = .ok (.ifCond .ne 9, 3) := by decide +kernel
theorem dX10_reads_85 : decode cX10_reads 85 = .ok (.iinc 3 1, 3) := by decide +kernel
theorem dX10_reads_88 : decode cX10_reads 88 = .ok (.goto (-21), 3) := by decide +kernel
theorem dX10_reads_91 : decode cX10_reads 91 = .ok (.iload_n 3, 1) := by decide +kernel
theorem dX10_reads_92 : decode cX10_reads 92 = .ok (.aload_n 0, 1) := by decide +kernel
theorem dX10_reads_93 : decode cX10_reads 93 = .ok (.getfield 135, 3) := by decide +kernel
theorem dX10_reads_96 : decode cX10_reads 96 = .ok (.if_icmp .ne 38, 3) := by decide +kernel
theorem dX10_reads_99 : decode cX10_reads 99 = .ok (.aload_n 0, 1) := by decide +kernel
theorem dX10_reads_100 : decode cX10_reads 100 = .ok (.getfield 28, 3) := by decide +kernel
theorem dX10_reads_103 : decode cX10_reads 103 = .ok (.aload_n 0, 1) := by decide +kernel
theorem dX10_reads_104 : decode cX10_reads 104 = .ok (.getfield 135, 3) := by decide +kernel
theorem dX10_reads_107 : decode cX10_reads 107 = .ok (.aload_n 0, 1) := by decide +kernel
theorem dX10_reads_108 : decode cX10_reads 108 = .ok (.getfield 16, 3) := by decide +kernel
theorem dX10_reads_111 : decode cX10_reads 111 = .ok (.iload_n 1, 1) := by decide +kernel
theorem dX10_reads_112 : decode cX10_reads 112 = .ok (.iaload, 1) := by decide +kernel
theorem dX10_reads_113 : decode cX10_reads 113 = .ok (.iastore, 1) := by decide +kernel
theorem dX10_reads_114 : decode cX10_reads 114 = .ok (.aload_n 0, 1) := by decide +kernel
theorem dX10_reads_115 : decode cX10_reads 115 = .ok (.getfield 31, 3) := by decide +kernel
theorem dX10_reads_118 : decode cX10_reads 118 = .ok (.aload_n 0, 1) := by decide +kernel
theorem dX10_reads_119 : decode cX10_reads 119 = .ok (.getfield 135, 3) := by decide +kernel
theorem dX10_reads_122 : decode cX10_reads 122 = .ok (.iload_n 2, 1) := by decide +kernel
theorem dX10_reads_123 : decode cX10_reads 123 = .ok (.iastore, 1) := by decide +kernel
theorem dX10_reads_124 : decode cX10_reads 124 = .ok (.aload_n 0, 1) := by decide +kernel
theorem dX10_reads_125 : decode cX10_reads 125 = .ok (.dup, 1) := by decide +kernel
theorem dX10_reads_126 : decode cX10_reads 126 = .ok (.getfield 135, 3) := by decide +kernel
theorem dX10_reads_129 : decode cX10_reads 129 = .ok (.iconst 1, 1) := by decide +kernel
theorem dX10_reads_130 : decode cX10_reads 130 = .ok (.iadd, 1) := by decide +kernel
theorem dX10_reads_131 : decode cX10_reads 131 = .ok (.putfield 135, 3) := by decide +kernel
theorem dX10_reads_134 : decode cX10_reads 134 = .ok (.aload_n 0, 1) := by decide +kernel
theorem dX10_reads_135 : decode cX10_reads 135 = .ok (.getfield 25, 3) := by decide +kernel
theorem dX10_reads_138 : decode cX10_reads 138 = .ok (.iload_n 1, 1) := by decide +kernel
theorem dX10_reads_139 : decode cX10_reads 139 = .ok (.iload_n 3, 1) := by decide +kernel
theorem dX10_reads_140 : decode cX10_reads 140 = .ok (.iastore, 1) := by decide +kernel
theorem dX10_reads_141 : decode cX10_reads 141 = .ok (.aload_n 0, 1) := by decide +kernel
theorem dX10_reads_142 : decode cX10_reads 142 = .ok (.getfield 37, 3) := by decide +kernel
theorem dX10_reads_145 : decode cX10_reads 145 = .ok (.bipush 110, 2) := by decide +kernel
theorem dX10_reads_147 : decode cX10_reads 147 = .ok (.aload_n 0, 1) := by decide +kernel
theorem dX10_reads_148 : decode cX10_reads 148 = .ok (.getfield 22, 3) := by decide +kernel
theorem dX10_reads_151 : decode cX10_reads 151 = .ok (.iload_n 1, 1) := by decide +kernel
theorem dX10_reads_152 : decode cX10_reads 152 = .ok (.iaload, 1) := by decide +kernel
theorem dX10_reads_153 : decode cX10_reads 153 = .ok (.imul, 1) := by decide +kernel
theorem dX10_reads_154 : decode cX10_reads 154 = .ok (.iload_n 3, 1) := by decide +kernel
theorem dX10_reads_155 : decode cX10_reads 155 = .ok (.iadd, 1) := by decide +kernel
theorem dX10_reads_156 : decode cX10_reads 156 = .ok (.dup2, 1) := by decide +kernel
theorem dX10_reads_157 : decode cX10_reads 157 = .ok (.iaload, 1) := by decide +kernel
theorem dX10_reads_158 : decode cX10_reads 158 = .ok (.iconst 1, 1) := by decide +kernel
theorem dX10_reads_159 : decode cX10_reads 159 = .ok (.iadd, 1) := by decide +kernel
theorem dX10_reads_160 : decode cX10_reads 160 = .ok (.iastore, 1) := by decide +kernel
theorem dX10_reads_161 : decode cX10_reads 161 = .ok (.iinc 1 1, 3) := by decide +kernel
theorem dX10_reads_164 : decode cX10_reads 164 = .ok (.goto (-113), 3) := by decide +kernel
theorem dX10_reads_167 : decode cX10_reads 167 = .ok (.aload_n 0, 1) := by decide +kernel
theorem dX10_reads_168 : decode cX10_reads 168 = .ok (.getfield 34, 3) := by decide +kernel
theorem dX10_reads_171 : decode cX10_reads 171 = .ok (.aload_n 0, 1) := by decide +kernel
theorem dX10_reads_172 : decode cX10_reads 172 = .ok (.getfield 109, 3) := by decide +kernel
theorem dX10_reads_175 : decode cX10_reads 175 = .ok (.aload_n 0, 1) := by decide +kernel
theorem dX10_reads_176 : decode cX10_reads 176 = .ok (.getfield 115, 3) := by decide +kernel
theorem dX10_reads_179 : decode cX10_reads 179 = .ok (.iastore, 1) := by decide +kernel
theorem dX10_reads_180 : decode cX10_reads 180 = .ok (.aload_n 0, 1) := by decide +kernel
theorem dX10_reads_181 : decode cX10_reads 181 = .ok (.iconst (-1), 1) := by decide +kernel
theorem dX10_reads_182 : decode cX10_reads 182 = .ok (.putfield 144, 3) := by decide +kernel
theorem dX10_reads_185 : decode cX10_reads 185 = .ok (.return_, 1) := by decide +kernel
theorem dX10_faultOf_0 : decode cX10_faultOf 0 = .ok (.aload_n 0, 1) := by decide +kernel
theorem dX10_faultOf_1 : decode cX10_faultOf 1 = .ok (.invokevirtual 147, 3) := by decide +kernel
theorem dX10_faultOf_4 : decode cX10_faultOf 4 = .ok (.iload_n 1, 1) := by decide +kernel
theorem dX10_faultOf_5 : decode cX10_faultOf 5 = .ok (.ifCond .ne 10, 3) := by decide +kernel
theorem dX10_faultOf_8 : decode cX10_faultOf 8 = .ok (.aload_n 0, 1) := by decide +kernel
theorem dX10_faultOf_9 : decode cX10_faultOf 9 = .ok (.getfield 103, 3) := by decide +kernel
theorem dX10_faultOf_12 : decode cX10_faultOf 12 = .ok (.goto 19, 3) := by decide +kernel
theorem dX10_faultOf_15 : decode cX10_faultOf 15 = .ok (.iload_n 1, 1) := by decide +kernel
theorem dX10_faultOf_16 : decode cX10_faultOf 16 = .ok (.iconst 1, 1) := by decide +kernel
theorem dX10_faultOf_17 : decode cX10_faultOf 17 = .ok (.if_icmp .ne 10, 3) := by decide +kernel
theorem dX10_faultOf_20 : decode cX10_faultOf 20 = .ok (.aload_n 0, 1) := by decide +kernel
theorem dX10_faultOf_21 : decode cX10_faultOf 21 = .ok (.getfield 106, 3) := by decide +kernel
theorem dX10_faultOf_24 : decode cX10_faultOf 24 = .ok (.goto 7, 3) := by decide +kernel
theorem dX10_faultOf_27 : decode cX10_faultOf 27 = .ok (.aload_n 0, 1) := by decide +kernel
theorem dX10_faultOf_28 : decode cX10_faultOf 28 = .ok (.getfield 112, 3) := by decide +kernel
theorem dX10_faultOf_31 : decode cX10_faultOf 31 = .ok (.ireturn, 1) := by decide +kernel
theorem dX10_fault_0 : decode cX10_fault 0 = .ok (.iload_n 1, 1) := by decide +kernel
theorem dX10_fault_1 : decode cX10_fault 1 = .ok (.iconst 0, 1) := by decide +kernel
theorem dX10_fault_2 : decode cX10_fault 2 = .ok (.iconst 2, 1) := by decide +kernel
theorem dX10_fault_3 : decode cX10_fault 3 = .ok (.invokestatic 77, 3) := by decide +kernel
theorem dX10_fault_6 : decode cX10_fault 6 = .ok (.ifCond .eq 11, 3) := by decide +kernel
theorem dX10_fault_9 : decode cX10_fault 9 = .ok (.aload_n 0, 1) := by decide +kernel
theorem dX10_fault_10 : decode cX10_fault 10 = .ok (.iload_n 1, 1) := by decide +kernel
theorem dX10_fault_11 : decode cX10_fault 11 = .ok (.invokevirtual 150, 3) := by decide +kernel
theorem dX10_fault_14 : decode cX10_fault 14 = .ok (.goto 5, 3) := by decide +kernel
theorem dX10_fault_17 : decode cX10_fault 17 = .ok (.bipush (-2), 2) := by decide +kernel
theorem dX10_fault_19 : decode cX10_fault 19 = .ok (.ireturn, 1) := by decide +kernel
theorem dX10_isSentence_0 : decode cX10_isSentence 0 = .ok (.aload_n 0, 1) := by decide +kernel
theorem dX10_isSentence_1 : decode cX10_isSentence 1 = .ok (.invokevirtual 147, 3) := by decide +kernel
theorem dX10_isSentence_4 : decode cX10_isSentence 4 = .ok (.iload_n 1, 1) := by decide +kernel
theorem dX10_isSentence_5 : decode cX10_isSentence 5 = .ok (.iconst 0, 1) := by decide +kernel
theorem dX10_isSentence_6 : decode cX10_isSentence 6 = .ok (.aload_n 0, 1) := by decide +kernel
theorem dX10_isSentence_7 : decode cX10_isSentence 7 = .ok (.getfield 109, 3) := by decide +kernel
theorem dX10_isSentence_10 : decode cX10_isSentence 10 = .ok (.iconst 1, 1) := by decide +kernel
theorem dX10_isSentence_11 : decode cX10_isSentence 11 = .ok (.isub, 1) := by decide +kernel
theorem dX10_isSentence_12 : decode cX10_isSentence 12 = .ok (.invokestatic 77, 3) := by decide +kernel
theorem dX10_isSentence_15 : decode cX10_isSentence 15 = .ok (.ireturn, 1) := by decide +kernel
theorem dX10_looksOver_0 : decode cX10_looksOver 0 = .ok (.aload_n 0, 1) := by decide +kernel
theorem dX10_looksOver_1 : decode cX10_looksOver 1 = .ok (.iconst 0, 1) := by decide +kernel
theorem dX10_looksOver_2 : decode cX10_looksOver 2 = .ok (.putfield 153, 3) := by decide +kernel
theorem dX10_looksOver_5 : decode cX10_looksOver 5 = .ok (.aload_n 0, 1) := by decide +kernel
theorem dX10_looksOver_6 : decode cX10_looksOver 6 = .ok (.iconst 0, 1) := by decide +kernel
theorem dX10_looksOver_7 : decode cX10_looksOver 7 = .ok (.putfield 156, 3) := by decide +kernel
theorem dX10_looksOver_10 : decode cX10_looksOver 10 = .ok (.aload_n 0, 1) := by decide +kernel
theorem dX10_looksOver_11 : decode cX10_looksOver 11 = .ok (.iconst 0, 1) := by decide +kernel
theorem dX10_looksOver_12 : decode cX10_looksOver 12 = .ok (.putfield 159, 3) := by decide +kernel
theorem dX10_looksOver_15 : decode cX10_looksOver 15 = .ok (.iconst 0, 1) := by decide +kernel
theorem dX10_looksOver_16 : decode cX10_looksOver 16 = .ok (.istore_n 3, 1) := by decide +kernel
theorem dX10_looksOver_17 : decode cX10_looksOver 17 = .ok (.iload_n 3, 1) := by decide +kernel
theorem dX10_looksOver_18 : decode cX10_looksOver 18 = .ok (.aload_n 0, 1) := by decide +kernel
theorem dX10_looksOver_19 : decode cX10_looksOver 19 = .ok (.getfield 135, 3) := by decide +kernel
theorem dX10_looksOver_22 : decode cX10_looksOver 22 = .ok (.if_icmp .ge 107, 3) := by decide +kernel
theorem dX10_looksOver_25 : decode cX10_looksOver 25 = .ok (.iconst 0, 1) := by decide +kernel
theorem dX10_looksOver_26 : decode cX10_looksOver 26 = .ok (.istore 4, 2) := by decide +kernel
theorem dX10_looksOver_28 : decode cX10_looksOver 28 = .ok (.iload_n 1, 1) := by decide +kernel
theorem dX10_looksOver_29 : decode cX10_looksOver 29 = .ok (.istore 5, 2) := by decide +kernel
theorem dX10_looksOver_31 : decode cX10_looksOver 31 = .ok (.iload 5, 2) := by decide +kernel
theorem dX10_looksOver_33 : decode cX10_looksOver 33 = .ok (.iload_n 2, 1) := by decide +kernel
theorem dX10_looksOver_34 : decode cX10_looksOver 34 = .ok (.if_icmp .ge 39, 3) := by decide +kernel
theorem dX10_looksOver_37 : decode cX10_looksOver 37 = .ok (.iload 4, 2) := by decide +kernel
theorem dX10_looksOver_39 : decode cX10_looksOver 39 = .ok (.iload 5, 2) := by decide +kernel
theorem dX10_looksOver_41 : decode cX10_looksOver 41 = .ok (.aload_n 0, 1) := by decide +kernel
theorem dX10_looksOver_42 : decode cX10_looksOver 42 = .ok (.getfield 144, 3) := by decide +kernel
theorem dX10_looksOver_45 : decode cX10_looksOver 45 = .ok (.if_icmp .ne 7, 3) := by decide +kernel
theorem dX10_looksOver_48 : decode cX10_looksOver 48 = .ok (.iconst 0, 1) := by decide +kernel
theorem dX10_looksOver_49 : decode cX10_looksOver 49 = .ok (.goto 15, 3) := by decide +kernel
theorem dX10_looksOver_52 : decode cX10_looksOver 52 = .ok (.aload_n 0, 1) := by decide +kernel
theorem dX10_looksOver_53 : decode cX10_looksOver 53 = .ok (.getfield 37, 3) := by decide +kernel
theorem dX10_looksOver_56 : decode cX10_looksOver 56 = .ok (.bipush 110, 2) := by decide +kernel
theorem dX10_looksOver_58 : decode cX10_looksOver 58 = .ok (.iload 5, 2) := by decide +kernel
theorem dX10_looksOver_60 : decode cX10_looksOver 60 = .ok (.imul, 1) := by decide +kernel
theorem dX10_looksOver_61 : decode cX10_looksOver 61 = .ok (.iload_n 3, 1) := by decide +kernel
theorem dX10_looksOver_62 : decode cX10_looksOver 62 = .ok (.iadd, 1) := by decide +kernel
theorem dX10_looksOver_63 : decode cX10_looksOver 63 = .ok (.iaload, 1) := by decide +kernel
theorem dX10_looksOver_64 : decode cX10_looksOver 64 = .ok (.iadd, 1) := by decide +kernel
theorem dX10_looksOver_65 : decode cX10_looksOver 65 = .ok (.istore 4, 2) := by decide +kernel
theorem dX10_looksOver_67 : decode cX10_looksOver 67 = .ok (.iinc 5 1, 3) := by decide +kernel
theorem dX10_looksOver_70 : decode cX10_looksOver 70 = .ok (.goto (-39), 3) := by decide +kernel
theorem dX10_looksOver_73 : decode cX10_looksOver 73 = .ok (.aload_n 0, 1) := by decide +kernel
theorem dX10_looksOver_74 : decode cX10_looksOver 74 = .ok (.dup, 1) := by decide +kernel
theorem dX10_looksOver_75 : decode cX10_looksOver 75 = .ok (.getfield 153, 3) := by decide +kernel
theorem dX10_looksOver_78 : decode cX10_looksOver 78 = .ok (.iload 4, 2) := by decide +kernel
theorem dX10_looksOver_80 : decode cX10_looksOver 80 = .ok (.iadd, 1) := by decide +kernel
theorem dX10_looksOver_81 : decode cX10_looksOver 81 = .ok (.putfield 153, 3) := by decide +kernel
theorem dX10_looksOver_84 : decode cX10_looksOver 84 = .ok (.aload_n 0, 1) := by decide +kernel
theorem dX10_looksOver_85 : decode cX10_looksOver 85 = .ok (.dup, 1) := by decide +kernel
theorem dX10_looksOver_86 : decode cX10_looksOver 86 = .ok (.getfield 156, 3) := by decide +kernel
theorem dX10_looksOver_89 : decode cX10_looksOver 89 = .ok (.iload 4, 2) := by decide +kernel
theorem dX10_looksOver_91 : decode cX10_looksOver 91 = .ok (.ifCond .le 7, 3) := by decide +kernel
theorem dX10_looksOver_94 : decode cX10_looksOver 94 = .ok (.iconst 1, 1) := by decide +kernel
theorem dX10_looksOver_95 : decode cX10_looksOver 95 = .ok (.goto 4, 3) := by decide +kernel
theorem dX10_looksOver_98 : decode cX10_looksOver 98 = .ok (.iconst 0, 1) := by decide +kernel
theorem dX10_looksOver_99 : decode cX10_looksOver 99 = .ok (.iadd, 1) := by decide +kernel
theorem dX10_looksOver_100 : decode cX10_looksOver 100 = .ok (.putfield 156, 3) := by decide +kernel
theorem dX10_looksOver_103 : decode cX10_looksOver 103 = .ok (.aload_n 0, 1) := by decide +kernel
theorem dX10_looksOver_104 : decode cX10_looksOver 104 = .ok (.dup, 1) := by decide +kernel
theorem dX10_looksOver_105 : decode cX10_looksOver 105 = .ok (.getfield 159, 3) := by decide +kernel
theorem dX10_looksOver_108 : decode cX10_looksOver 108 = .ok (.iload 4, 2) := by decide +kernel
theorem dX10_looksOver_110 : decode cX10_looksOver 110 = .ok (.iconst 1, 1) := by decide +kernel
theorem dX10_looksOver_111 : decode cX10_looksOver 111 = .ok (.if_icmp .ne 7, 3) := by decide +kernel
theorem dX10_looksOver_114 : decode cX10_looksOver 114 = .ok (.iconst 1, 1) := by decide +kernel
theorem dX10_looksOver_115 : decode cX10_looksOver 115 = .ok (.goto 4, 3) := by decide +kernel
theorem dX10_looksOver_118 : decode cX10_looksOver 118 = .ok (.iconst 0, 1) := by decide +kernel
theorem dX10_looksOver_119 : decode cX10_looksOver 119 = .ok (.iadd, 1) := by decide +kernel
theorem dX10_looksOver_120 : decode cX10_looksOver 120 = .ok (.putfield 159, 3) := by decide +kernel
theorem dX10_looksOver_123 : decode cX10_looksOver 123 = .ok (.iinc 3 1, 3) := by decide +kernel
theorem dX10_looksOver_126 : decode cX10_looksOver 126 = .ok (.goto (-109), 3) := by decide +kernel
theorem dX10_looksOver_129 : decode cX10_looksOver 129 = .ok (.return_, 1) := by decide +kernel
theorem dX10_sentenceOf_0 : decode cX10_sentenceOf 0 = .ok (.aload_n 0, 1) := by decide +kernel
theorem dX10_sentenceOf_1 : decode cX10_sentenceOf 1 = .ok (.iload_n 1, 1) := by decide +kernel
theorem dX10_sentenceOf_2 : decode cX10_sentenceOf 2 = .ok (.iload_n 1, 1) := by decide +kernel
theorem dX10_sentenceOf_3 : decode cX10_sentenceOf 3 = .ok (.iconst 1, 1) := by decide +kernel
theorem dX10_sentenceOf_4 : decode cX10_sentenceOf 4 = .ok (.iadd, 1) := by decide +kernel
theorem dX10_sentenceOf_5 : decode cX10_sentenceOf 5 = .ok (.invokevirtual 162, 3) := by decide +kernel
theorem dX10_sentenceOf_8 : decode cX10_sentenceOf 8 = .ok (.iload_n 2, 1) := by decide +kernel
theorem dX10_sentenceOf_9 : decode cX10_sentenceOf 9 = .ok (.ifCond .ne 10, 3) := by decide +kernel
theorem dX10_sentenceOf_12 : decode cX10_sentenceOf 12 = .ok (.aload_n 0, 1) := by decide +kernel
theorem dX10_sentenceOf_13 : decode cX10_sentenceOf 13 = .ok (.getfield 153, 3) := by decide +kernel
theorem dX10_sentenceOf_16 : decode cX10_sentenceOf 16 = .ok (.goto 38, 3) := by decide +kernel
theorem dX10_sentenceOf_19 : decode cX10_sentenceOf 19 = .ok (.iload_n 2, 1) := by decide +kernel
theorem dX10_sentenceOf_20 : decode cX10_sentenceOf 20 = .ok (.iconst 1, 1) := by decide +kernel
theorem dX10_sentenceOf_21 : decode cX10_sentenceOf 21 = .ok (.if_icmp .ne 10, 3) := by decide +kernel
theorem dX10_sentenceOf_24 : decode cX10_sentenceOf 24 = .ok (.aload_n 0, 1) := by decide +kernel
theorem dX10_sentenceOf_25 : decode cX10_sentenceOf 25 = .ok (.getfield 156, 3) := by decide +kernel
theorem dX10_sentenceOf_28 : decode cX10_sentenceOf 28 = .ok (.goto 26, 3) := by decide +kernel
theorem dX10_sentenceOf_31 : decode cX10_sentenceOf 31 = .ok (.iload_n 2, 1) := by decide +kernel
theorem dX10_sentenceOf_32 : decode cX10_sentenceOf 32 = .ok (.iconst 2, 1) := by decide +kernel
theorem dX10_sentenceOf_33 : decode cX10_sentenceOf 33 = .ok (.if_icmp .ne 10, 3) := by decide +kernel
theorem dX10_sentenceOf_36 : decode cX10_sentenceOf 36 = .ok (.aload_n 0, 1) := by decide +kernel
theorem dX10_sentenceOf_37 : decode cX10_sentenceOf 37 = .ok (.getfield 159, 3) := by decide +kernel
theorem dX10_sentenceOf_40 : decode cX10_sentenceOf 40 = .ok (.goto 14, 3) := by decide +kernel
theorem dX10_sentenceOf_43 : decode cX10_sentenceOf 43 = .ok (.aload_n 0, 1) := by decide +kernel
theorem dX10_sentenceOf_44 : decode cX10_sentenceOf 44 = .ok (.getfield 16, 3) := by decide +kernel
theorem dX10_sentenceOf_47 : decode cX10_sentenceOf 47 = .ok (.aload_n 0, 1) := by decide +kernel
theorem dX10_sentenceOf_48 : decode cX10_sentenceOf 48 = .ok (.getfield 34, 3) := by decide +kernel
theorem dX10_sentenceOf_51 : decode cX10_sentenceOf 51 = .ok (.iload_n 1, 1) := by decide +kernel
theorem dX10_sentenceOf_52 : decode cX10_sentenceOf 52 = .ok (.iaload, 1) := by decide +kernel
theorem dX10_sentenceOf_53 : decode cX10_sentenceOf 53 = .ok (.iaload, 1) := by decide +kernel
theorem dX10_sentenceOf_54 : decode cX10_sentenceOf 54 = .ok (.ireturn, 1) := by decide +kernel
theorem dX10_sentence_0 : decode cX10_sentence 0 = .ok (.aload_n 0, 1) := by decide +kernel
theorem dX10_sentence_1 : decode cX10_sentence 1 = .ok (.iload_n 1, 1) := by decide +kernel
theorem dX10_sentence_2 : decode cX10_sentence 2 = .ok (.invokevirtual 165, 3) := by decide +kernel
theorem dX10_sentence_5 : decode cX10_sentence 5 = .ok (.ifCond .eq 21, 3) := by decide +kernel
theorem dX10_sentence_8 : decode cX10_sentence 8 = .ok (.iload_n 2, 1) := by decide +kernel
theorem dX10_sentence_9 : decode cX10_sentence 9 = .ok (.iconst 0, 1) := by decide +kernel
theorem dX10_sentence_10 : decode cX10_sentence 10 = .ok (.iconst 3, 1) := by decide +kernel
theorem dX10_sentence_11 : decode cX10_sentence 11 = .ok (.invokestatic 77, 3) := by decide +kernel
theorem dX10_sentence_14 : decode cX10_sentence 14 = .ok (.ifCond .eq 12, 3) := by decide +kernel
theorem dX10_sentence_17 : decode cX10_sentence 17 = .ok (.aload_n 0, 1) := by decide +kernel
theorem dX10_sentence_18 : decode cX10_sentence 18 = .ok (.iload_n 1, 1) := by decide +kernel
theorem dX10_sentence_19 : decode cX10_sentence 19 = .ok (.iload_n 2, 1) := by decide +kernel
theorem dX10_sentence_20 : decode cX10_sentence 20 = .ok (.invokevirtual 168, 3) := by decide +kernel
theorem dX10_sentence_23 : decode cX10_sentence 23 = .ok (.goto 5, 3) := by decide +kernel
theorem dX10_sentence_26 : decode cX10_sentence 26 = .ok (.bipush (-2), 2) := by decide +kernel
theorem dX10_sentence_28 : decode cX10_sentence 28 = .ok (.ireturn, 1) := by decide +kernel
theorem dX10_wordOf_0 : decode cX10_wordOf 0 = .ok (.iload_n 2, 1) := by decide +kernel
theorem dX10_wordOf_1 : decode cX10_wordOf 1 = .ok (.iconst 0, 1) := by decide +kernel
theorem dX10_wordOf_2 : decode cX10_wordOf 2 = .ok (.aload_n 0, 1) := by decide +kernel
theorem dX10_wordOf_3 : decode cX10_wordOf 3 = .ok (.getfield 34, 3) := by decide +kernel
theorem dX10_wordOf_6 : decode cX10_wordOf 6 = .ok (.iload_n 1, 1) := by decide +kernel
theorem dX10_wordOf_7 : decode cX10_wordOf 7 = .ok (.iconst 1, 1) := by decide +kernel
theorem dX10_wordOf_8 : decode cX10_wordOf 8 = .ok (.iadd, 1) := by decide +kernel
theorem dX10_wordOf_9 : decode cX10_wordOf 9 = .ok (.iaload, 1) := by decide +kernel
theorem dX10_wordOf_10 : decode cX10_wordOf 10 = .ok (.aload_n 0, 1) := by decide +kernel
theorem dX10_wordOf_11 : decode cX10_wordOf 11 = .ok (.getfield 34, 3) := by decide +kernel
theorem dX10_wordOf_14 : decode cX10_wordOf 14 = .ok (.iload_n 1, 1) := by decide +kernel
theorem dX10_wordOf_15 : decode cX10_wordOf 15 = .ok (.iaload, 1) := by decide +kernel
theorem dX10_wordOf_16 : decode cX10_wordOf 16 = .ok (.isub, 1) := by decide +kernel
theorem dX10_wordOf_17 : decode cX10_wordOf 17 = .ok (.iconst 1, 1) := by decide +kernel
theorem dX10_wordOf_18 : decode cX10_wordOf 18 = .ok (.isub, 1) := by decide +kernel
theorem dX10_wordOf_19 : decode cX10_wordOf 19 = .ok (.invokestatic 77, 3) := by decide +kernel
theorem dX10_wordOf_22 : decode cX10_wordOf 22 = .ok (.ifCond .eq 19, 3) := by decide +kernel
theorem dX10_wordOf_25 : decode cX10_wordOf 25 = .ok (.aload_n 0, 1) := by decide +kernel
theorem dX10_wordOf_26 : decode cX10_wordOf 26 = .ok (.getfield 25, 3) := by decide +kernel
theorem dX10_wordOf_29 : decode cX10_wordOf 29 = .ok (.aload_n 0, 1) := by decide +kernel
theorem dX10_wordOf_30 : decode cX10_wordOf 30 = .ok (.getfield 34, 3) := by decide +kernel
theorem dX10_wordOf_33 : decode cX10_wordOf 33 = .ok (.iload_n 1, 1) := by decide +kernel
theorem dX10_wordOf_34 : decode cX10_wordOf 34 = .ok (.iaload, 1) := by decide +kernel
theorem dX10_wordOf_35 : decode cX10_wordOf 35 = .ok (.iload_n 2, 1) := by decide +kernel
theorem dX10_wordOf_36 : decode cX10_wordOf 36 = .ok (.iadd, 1) := by decide +kernel
theorem dX10_wordOf_37 : decode cX10_wordOf 37 = .ok (.iaload, 1) := by decide +kernel
theorem dX10_wordOf_38 : decode cX10_wordOf 38 = .ok (.goto 5, 3) := by decide +kernel
theorem dX10_wordOf_41 : decode cX10_wordOf 41 = .ok (.bipush (-2), 2) := by decide +kernel
theorem dX10_wordOf_43 : decode cX10_wordOf 43 = .ok (.ireturn, 1) := by decide +kernel
theorem dX10_word_0 : decode cX10_word 0 = .ok (.aload_n 0, 1) := by decide +kernel
theorem dX10_word_1 : decode cX10_word 1 = .ok (.iload_n 1, 1) := by decide +kernel
theorem dX10_word_2 : decode cX10_word 2 = .ok (.invokevirtual 165, 3) := by decide +kernel
theorem dX10_word_5 : decode cX10_word 5 = .ok (.ifCond .eq 12, 3) := by decide +kernel
theorem dX10_word_8 : decode cX10_word 8 = .ok (.aload_n 0, 1) := by decide +kernel
theorem dX10_word_9 : decode cX10_word 9 = .ok (.iload_n 1, 1) := by decide +kernel
theorem dX10_word_10 : decode cX10_word 10 = .ok (.iload_n 2, 1) := by decide +kernel
theorem dX10_word_11 : decode cX10_word 11 = .ok (.invokevirtual 172, 3) := by decide +kernel
theorem dX10_word_14 : decode cX10_word 14 = .ok (.goto 5, 3) := by decide +kernel
theorem dX10_word_17 : decode cX10_word 17 = .ok (.bipush (-2), 2) := by decide +kernel
theorem dX10_word_19 : decode cX10_word 19 = .ok (.ireturn, 1) := by decide +kernel
theorem dX10_isStem_0 : decode cX10_isStem 0 = .ok (.aload_n 0, 1) := by decide +kernel
theorem dX10_isStem_1 : decode cX10_isStem 1 = .ok (.invokevirtual 147, 3) := by decide +kernel
theorem dX10_isStem_4 : decode cX10_isStem 4 = .ok (.iload_n 1, 1) := by decide +kernel
theorem dX10_isStem_5 : decode cX10_isStem 5 = .ok (.iconst 0, 1) := by decide +kernel
theorem dX10_isStem_6 : decode cX10_isStem 6 = .ok (.aload_n 0, 1) := by decide +kernel
theorem dX10_isStem_7 : decode cX10_isStem 7 = .ok (.getfield 135, 3) := by decide +kernel
theorem dX10_isStem_10 : decode cX10_isStem 10 = .ok (.iconst 1, 1) := by decide +kernel
theorem dX10_isStem_11 : decode cX10_isStem 11 = .ok (.isub, 1) := by decide +kernel
theorem dX10_isStem_12 : decode cX10_isStem 12 = .ok (.invokestatic 77, 3) := by decide +kernel
theorem dX10_isStem_15 : decode cX10_isStem 15 = .ok (.ireturn, 1) := by decide +kernel
theorem dX10_stemOf_0 : decode cX10_stemOf 0 = .ok (.iconst 0, 1) := by decide +kernel
theorem dX10_stemOf_1 : decode cX10_stemOf 1 = .ok (.istore_n 3, 1) := by decide +kernel
theorem dX10_stemOf_2 : decode cX10_stemOf 2 = .ok (.iconst (-1), 1) := by decide +kernel
theorem dX10_stemOf_3 : decode cX10_stemOf 3 = .ok (.istore 4, 2) := by decide +kernel
theorem dX10_stemOf_5 : decode cX10_stemOf 5 = .ok (.iconst (-1), 1) := by decide +kernel
theorem dX10_stemOf_6 : decode cX10_stemOf 6 = .ok (.istore 5, 2) := by decide +kernel
theorem dX10_stemOf_8 : decode cX10_stemOf 8 = .ok (.iconst 0, 1) := by decide +kernel
theorem dX10_stemOf_9 : decode cX10_stemOf 9 = .ok (.istore 6, 2) := by decide +kernel
theorem dX10_stemOf_11 : decode cX10_stemOf 11 = .ok (.iload 6, 2) := by decide +kernel
theorem dX10_stemOf_13 : decode cX10_stemOf 13 = .ok (.aload_n 0, 1) := by decide +kernel
theorem dX10_stemOf_14 : decode cX10_stemOf 14 = .ok (.getfield 109, 3) := by decide +kernel
theorem dX10_stemOf_17 : decode cX10_stemOf 17 = .ok (.if_icmp .ge 62, 3) := by decide +kernel
theorem dX10_stemOf_20 : decode cX10_stemOf 20 = .ok (.aload_n 0, 1) := by decide +kernel
theorem dX10_stemOf_21 : decode cX10_stemOf 21 = .ok (.getfield 37, 3) := by decide +kernel
theorem dX10_stemOf_24 : decode cX10_stemOf 24 = .ok (.bipush 110, 2) := by decide +kernel
theorem dX10_stemOf_26 : decode cX10_stemOf 26 = .ok (.iload 6, 2) := by decide +kernel
theorem dX10_stemOf_28 : decode cX10_stemOf 28 = .ok (.imul, 1) := by decide +kernel
theorem dX10_stemOf_29 : decode cX10_stemOf 29 = .ok (.iload_n 1, 1) := by decide +kernel
theorem dX10_stemOf_30 : decode cX10_stemOf 30 = .ok (.iadd, 1) := by decide +kernel
theorem dX10_stemOf_31 : decode cX10_stemOf 31 = .ok (.iaload, 1) := by decide +kernel
theorem dX10_stemOf_32 : decode cX10_stemOf 32 = .ok (.istore 7, 2) := by decide +kernel
theorem dX10_stemOf_34 : decode cX10_stemOf 34 = .ok (.iload_n 3, 1) := by decide +kernel
theorem dX10_stemOf_35 : decode cX10_stemOf 35 = .ok (.iload 7, 2) := by decide +kernel
theorem dX10_stemOf_37 : decode cX10_stemOf 37 = .ok (.iadd, 1) := by decide +kernel
theorem dX10_stemOf_38 : decode cX10_stemOf 38 = .ok (.istore_n 3, 1) := by decide +kernel
theorem dX10_stemOf_39 : decode cX10_stemOf 39 = .ok (.iload 7, 2) := by decide +kernel
theorem dX10_stemOf_41 : decode cX10_stemOf 41 = .ok (.ifCond .le 14, 3) := by decide +kernel
theorem dX10_stemOf_44 : decode cX10_stemOf 44 = .ok (.iload 4, 2) := by decide +kernel
theorem dX10_stemOf_46 : decode cX10_stemOf 46 = .ok (.iconst (-1), 1) := by decide +kernel
theorem dX10_stemOf_47 : decode cX10_stemOf 47 = .ok (.if_icmp .ne 8, 3) := by decide +kernel
theorem dX10_stemOf_50 : decode cX10_stemOf 50 = .ok (.iload 6, 2) := by decide +kernel
theorem dX10_stemOf_52 : decode cX10_stemOf 52 = .ok (.goto 5, 3) := by decide +kernel
theorem dX10_stemOf_55 : decode cX10_stemOf 55 = .ok (.iload 4, 2) := by decide +kernel
theorem dX10_stemOf_57 : decode cX10_stemOf 57 = .ok (.istore 4, 2) := by decide +kernel
theorem dX10_stemOf_59 : decode cX10_stemOf 59 = .ok (.iload 7, 2) := by decide +kernel
theorem dX10_stemOf_61 : decode cX10_stemOf 61 = .ok (.ifCond .le 8, 3) := by decide +kernel
theorem dX10_stemOf_64 : decode cX10_stemOf 64 = .ok (.iload 6, 2) := by decide +kernel
theorem dX10_stemOf_66 : decode cX10_stemOf 66 = .ok (.goto 5, 3) := by decide +kernel
theorem dX10_stemOf_69 : decode cX10_stemOf 69 = .ok (.iload 5, 2) := by decide +kernel
theorem dX10_stemOf_71 : decode cX10_stemOf 71 = .ok (.istore 5, 2) := by decide +kernel
theorem dX10_stemOf_73 : decode cX10_stemOf 73 = .ok (.iinc 6 1, 3) := by decide +kernel
theorem dX10_stemOf_76 : decode cX10_stemOf 76 = .ok (.goto (-65), 3) := by decide +kernel
theorem dX10_stemOf_79 : decode cX10_stemOf 79 = .ok (.iload_n 2, 1) := by decide +kernel
theorem dX10_stemOf_80 : decode cX10_stemOf 80 = .ok (.ifCond .ne 12, 3) := by decide +kernel
theorem dX10_stemOf_83 : decode cX10_stemOf 83 = .ok (.aload_n 0, 1) := by decide +kernel
theorem dX10_stemOf_84 : decode cX10_stemOf 84 = .ok (.getfield 31, 3) := by decide +kernel
theorem dX10_stemOf_87 : decode cX10_stemOf 87 = .ok (.iload_n 1, 1) := by decide +kernel
theorem dX10_stemOf_88 : decode cX10_stemOf 88 = .ok (.iaload, 1) := by decide +kernel
theorem dX10_stemOf_89 : decode cX10_stemOf 89 = .ok (.goto 24, 3) := by decide +kernel
theorem dX10_stemOf_92 : decode cX10_stemOf 92 = .ok (.iload_n 2, 1) := by decide +kernel
theorem dX10_stemOf_93 : decode cX10_stemOf 93 = .ok (.iconst 1, 1) := by decide +kernel
theorem dX10_stemOf_94 : decode cX10_stemOf 94 = .ok (.if_icmp .ne 7, 3) := by decide +kernel
theorem dX10_stemOf_97 : decode cX10_stemOf 97 = .ok (.iload_n 3, 1) := by decide +kernel
theorem dX10_stemOf_98 : decode cX10_stemOf 98 = .ok (.goto 15, 3) := by decide +kernel
theorem dX10_stemOf_101 : decode cX10_stemOf 101 = .ok (.iload_n 2, 1) := by decide +kernel
theorem dX10_stemOf_102 : decode cX10_stemOf 102 = .ok (.iconst 2, 1) := by decide +kernel
theorem dX10_stemOf_103 : decode cX10_stemOf 103 = .ok (.if_icmp .ne 8, 3) := by decide +kernel
theorem dX10_stemOf_106 : decode cX10_stemOf 106 = .ok (.iload 4, 2) := by decide +kernel
theorem dX10_stemOf_108 : decode cX10_stemOf 108 = .ok (.goto 5, 3) := by decide +kernel
theorem dX10_stemOf_111 : decode cX10_stemOf 111 = .ok (.iload 5, 2) := by decide +kernel
theorem dX10_stemOf_113 : decode cX10_stemOf 113 = .ok (.ireturn, 1) := by decide +kernel
theorem dX10_stem_0 : decode cX10_stem 0 = .ok (.aload_n 0, 1) := by decide +kernel
theorem dX10_stem_1 : decode cX10_stem 1 = .ok (.iload_n 1, 1) := by decide +kernel
theorem dX10_stem_2 : decode cX10_stem 2 = .ok (.invokevirtual 175, 3) := by decide +kernel
theorem dX10_stem_5 : decode cX10_stem 5 = .ok (.ifCond .eq 21, 3) := by decide +kernel
theorem dX10_stem_8 : decode cX10_stem 8 = .ok (.iload_n 2, 1) := by decide +kernel
theorem dX10_stem_9 : decode cX10_stem 9 = .ok (.iconst 0, 1) := by decide +kernel
theorem dX10_stem_10 : decode cX10_stem 10 = .ok (.iconst 3, 1) := by decide +kernel
theorem dX10_stem_11 : decode cX10_stem 11 = .ok (.invokestatic 77, 3) := by decide +kernel
theorem dX10_stem_14 : decode cX10_stem 14 = .ok (.ifCond .eq 12, 3) := by decide +kernel
theorem dX10_stem_17 : decode cX10_stem 17 = .ok (.aload_n 0, 1) := by decide +kernel
theorem dX10_stem_18 : decode cX10_stem 18 = .ok (.iload_n 1, 1) := by decide +kernel
theorem dX10_stem_19 : decode cX10_stem 19 = .ok (.iload_n 2, 1) := by decide +kernel
theorem dX10_stem_20 : decode cX10_stem 20 = .ok (.invokevirtual 178, 3) := by decide +kernel
theorem dX10_stem_23 : decode cX10_stem 23 = .ok (.goto 5, 3) := by decide +kernel
theorem dX10_stem_26 : decode cX10_stem 26 = .ok (.bipush (-2), 2) := by decide +kernel
theorem dX10_stem_28 : decode cX10_stem 28 = .ok (.ireturn, 1) := by decide +kernel
theorem dX10_letterOf_0 : decode cX10_letterOf 0 = .ok (.iload_n 2, 1) := by decide +kernel
theorem dX10_letterOf_1 : decode cX10_letterOf 1 = .ok (.iconst 0, 1) := by decide +kernel
theorem dX10_letterOf_2 : decode cX10_letterOf 2 = .ok (.aload_n 0, 1) := by decide +kernel
theorem dX10_letterOf_3 : decode cX10_letterOf 3 = .ok (.getfield 31, 3) := by decide +kernel
theorem dX10_letterOf_6 : decode cX10_letterOf 6 = .ok (.iload_n 1, 1) := by decide +kernel
theorem dX10_letterOf_7 : decode cX10_letterOf 7 = .ok (.iaload, 1) := by decide +kernel
theorem dX10_letterOf_8 : decode cX10_letterOf 8 = .ok (.iconst 1, 1) := by decide +kernel
theorem dX10_letterOf_9 : decode cX10_letterOf 9 = .ok (.isub, 1) := by decide +kernel
theorem dX10_letterOf_10 : decode cX10_letterOf 10 = .ok (.invokestatic 77, 3) := by decide +kernel
theorem dX10_letterOf_13 : decode cX10_letterOf 13 = .ok (.ifCond .eq 19, 3) := by decide +kernel
theorem dX10_letterOf_16 : decode cX10_letterOf 16 = .ok (.aload_n 0, 1) := by decide +kernel
theorem dX10_letterOf_17 : decode cX10_letterOf 17 = .ok (.getfield 7, 3) := by decide +kernel
theorem dX10_letterOf_20 : decode cX10_letterOf 20 = .ok (.aload_n 0, 1) := by decide +kernel
theorem dX10_letterOf_21 : decode cX10_letterOf 21 = .ok (.getfield 28, 3) := by decide +kernel
theorem dX10_letterOf_24 : decode cX10_letterOf 24 = .ok (.iload_n 1, 1) := by decide +kernel
theorem dX10_letterOf_25 : decode cX10_letterOf 25 = .ok (.iaload, 1) := by decide +kernel
theorem dX10_letterOf_26 : decode cX10_letterOf 26 = .ok (.iload_n 2, 1) := by decide +kernel
theorem dX10_letterOf_27 : decode cX10_letterOf 27 = .ok (.iadd, 1) := by decide +kernel
theorem dX10_letterOf_28 : decode cX10_letterOf 28 = .ok (.iaload, 1) := by decide +kernel
theorem dX10_letterOf_29 : decode cX10_letterOf 29 = .ok (.goto 5, 3) := by decide +kernel
theorem dX10_letterOf_32 : decode cX10_letterOf 32 = .ok (.bipush (-2), 2) := by decide +kernel
theorem dX10_letterOf_34 : decode cX10_letterOf 34 = .ok (.ireturn, 1) := by decide +kernel
theorem dX10_letter_0 : decode cX10_letter 0 = .ok (.aload_n 0, 1) := by decide +kernel
theorem dX10_letter_1 : decode cX10_letter 1 = .ok (.iload_n 1, 1) := by decide +kernel
theorem dX10_letter_2 : decode cX10_letter 2 = .ok (.invokevirtual 175, 3) := by decide +kernel
theorem dX10_letter_5 : decode cX10_letter 5 = .ok (.ifCond .eq 12, 3) := by decide +kernel
theorem dX10_letter_8 : decode cX10_letter 8 = .ok (.aload_n 0, 1) := by decide +kernel
theorem dX10_letter_9 : decode cX10_letter 9 = .ok (.iload_n 1, 1) := by decide +kernel
theorem dX10_letter_10 : decode cX10_letter 10 = .ok (.iload_n 2, 1) := by decide +kernel
theorem dX10_letter_11 : decode cX10_letter 11 = .ok (.invokevirtual 181, 3) := by decide +kernel
theorem dX10_letter_14 : decode cX10_letter 14 = .ok (.goto 5, 3) := by decide +kernel
theorem dX10_letter_17 : decode cX10_letter 17 = .ok (.bipush (-2), 2) := by decide +kernel
theorem dX10_letter_19 : decode cX10_letter 19 = .ok (.ireturn, 1) := by decide +kernel
theorem dX10_ends_0 : decode cX10_ends 0 = .ok (.iload 4, 2) := by decide +kernel
theorem dX10_ends_2 : decode cX10_ends 2 = .ok (.iconst 1, 1) := by decide +kernel
theorem dX10_ends_3 : decode cX10_ends 3 = .ok (.if_icmp .le 54, 3) := by decide +kernel
theorem dX10_ends_6 : decode cX10_ends 6 = .ok (.aload_n 0, 1) := by decide +kernel
theorem dX10_ends_7 : decode cX10_ends 7 = .ok (.getfield 40, 3) := by decide +kernel
theorem dX10_ends_10 : decode cX10_ends 10 = .ok (.aload_n 0, 1) := by decide +kernel
theorem dX10_ends_11 : decode cX10_ends 11 = .ok (.getfield 184, 3) := by decide +kernel
theorem dX10_ends_14 : decode cX10_ends 14 = .ok (.iload_n 1, 1) := by decide +kernel
theorem dX10_ends_15 : decode cX10_ends 15 = .ok (.iastore, 1) := by decide +kernel
theorem dX10_ends_16 : decode cX10_ends 16 = .ok (.aload_n 0, 1) := by decide +kernel
theorem dX10_ends_17 : decode cX10_ends 17 = .ok (.getfield 43, 3) := by decide +kernel
theorem dX10_ends_20 : decode cX10_ends 20 = .ok (.aload_n 0, 1) := by decide +kernel
theorem dX10_ends_21 : decode cX10_ends 21 = .ok (.getfield 184, 3) := by decide +kernel
theorem dX10_ends_24 : decode cX10_ends 24 = .ok (.iload_n 2, 1) := by decide +kernel
theorem dX10_ends_25 : decode cX10_ends 25 = .ok (.iastore, 1) := by decide +kernel
theorem dX10_ends_26 : decode cX10_ends 26 = .ok (.aload_n 0, 1) := by decide +kernel
theorem dX10_ends_27 : decode cX10_ends 27 = .ok (.getfield 46, 3) := by decide +kernel
theorem dX10_ends_30 : decode cX10_ends 30 = .ok (.aload_n 0, 1) := by decide +kernel
theorem dX10_ends_31 : decode cX10_ends 31 = .ok (.getfield 184, 3) := by decide +kernel
theorem dX10_ends_34 : decode cX10_ends 34 = .ok (.iload_n 3, 1) := by decide +kernel
theorem dX10_ends_35 : decode cX10_ends 35 = .ok (.iastore, 1) := by decide +kernel
theorem dX10_ends_36 : decode cX10_ends 36 = .ok (.aload_n 0, 1) := by decide +kernel
theorem dX10_ends_37 : decode cX10_ends 37 = .ok (.getfield 49, 3) := by decide +kernel
theorem dX10_ends_40 : decode cX10_ends 40 = .ok (.aload_n 0, 1) := by decide +kernel
theorem dX10_ends_41 : decode cX10_ends 41 = .ok (.getfield 184, 3) := by decide +kernel
theorem dX10_ends_44 : decode cX10_ends 44 = .ok (.iload 4, 2) := by decide +kernel
theorem dX10_ends_46 : decode cX10_ends 46 = .ok (.iastore, 1) := by decide +kernel
theorem dX10_ends_47 : decode cX10_ends 47 = .ok (.aload_n 0, 1) := by decide +kernel
theorem dX10_ends_48 : decode cX10_ends 48 = .ok (.dup, 1) := by decide +kernel
theorem dX10_ends_49 : decode cX10_ends 49 = .ok (.getfield 184, 3) := by decide +kernel
theorem dX10_ends_52 : decode cX10_ends 52 = .ok (.iconst 1, 1) := by decide +kernel
theorem dX10_ends_53 : decode cX10_ends 53 = .ok (.iadd, 1) := by decide +kernel
theorem dX10_ends_54 : decode cX10_ends 54 = .ok (.putfield 184, 3) := by decide +kernel
theorem dX10_ends_57 : decode cX10_ends 57 = .ok (.return_, 1) := by decide +kernel
theorem dX10_findsChains_0 : decode cX10_findsChains 0 = .ok (.aload_n 0, 1) := by decide +kernel
theorem dX10_findsChains_1 : decode cX10_findsChains 1 = .ok (.invokevirtual 147, 3) := by decide +kernel
theorem dX10_findsChains_4 : decode cX10_findsChains 4 = .ok (.aload_n 0, 1) := by decide +kernel
theorem dX10_findsChains_5 : decode cX10_findsChains 5 = .ok (.iconst 0, 1) := by decide +kernel
theorem dX10_findsChains_6 : decode cX10_findsChains 6 = .ok (.putfield 184, 3) := by decide +kernel
theorem dX10_findsChains_9 : decode cX10_findsChains 9 = .ok (.iconst 0, 1) := by decide +kernel
theorem dX10_findsChains_10 : decode cX10_findsChains 10 = .ok (.istore_n 1, 1) := by decide +kernel
theorem dX10_findsChains_11 : decode cX10_findsChains 11 = .ok (.iload_n 1, 1) := by decide +kernel
theorem dX10_findsChains_12 : decode cX10_findsChains 12 = .ok (.aload_n 0, 1) := by decide +kernel
theorem dX10_findsChains_13 : decode cX10_findsChains 13 = .ok (.getfield 135, 3) := by decide +kernel
theorem dX10_findsChains_16 : decode cX10_findsChains 16 = .ok (.if_icmp .ge 116, 3) := by decide +kernel
theorem dX10_findsChains_19 : decode cX10_findsChains 19 = .ok (.iconst (-1), 1) := by decide +kernel
theorem dX10_findsChains_20 : decode cX10_findsChains 20 = .ok (.istore_n 2, 1) := by decide +kernel
theorem dX10_findsChains_21 : decode cX10_findsChains 21 = .ok (.iconst (-1), 1) := by decide +kernel
theorem dX10_findsChains_22 : decode cX10_findsChains 22 = .ok (.istore_n 3, 1) := by decide +kernel
theorem dX10_findsChains_23 : decode cX10_findsChains 23 = .ok (.iconst 0, 1) := by decide +kernel
theorem dX10_findsChains_24 : decode cX10_findsChains 24 = .ok (.istore 4, 2) := by decide +kernel
theorem dX10_findsChains_26 : decode cX10_findsChains 26 = .ok (.iconst 0, 1) := by decide +kernel
theorem dX10_findsChains_27 : decode cX10_findsChains 27 = .ok (.istore 5, 2) := by decide +kernel
theorem dX10_findsChains_29 : decode cX10_findsChains 29 = .ok (.iload 5, 2) := by decide +kernel
theorem dX10_findsChains_31 : decode cX10_findsChains 31 = .ok (.aload_n 0, 1) := by decide +kernel
theorem dX10_findsChains_32 : decode cX10_findsChains 32 = .ok (.getfield 109, 3) := by decide +kernel
theorem dX10_findsChains_35 : decode cX10_findsChains 35 = .ok (.if_icmp .ge 82, 3) := by decide +kernel
theorem dX10_findsChains_38 : decode cX10_findsChains 38 = .ok (.aload_n 0, 1) := by decide +kernel
theorem dX10_findsChains_39 : decode cX10_findsChains 39 = .ok (.getfield 37, 3) := by decide +kernel
theorem dX10_findsChains_42 : decode cX10_findsChains 42 = .ok (.bipush 110, 2) := by decide +kernel
theorem dX10_findsChains_44 : decode cX10_findsChains 44 = .ok (.iload 5, 2) := by decide +kernel
theorem dX10_findsChains_46 : decode cX10_findsChains 46 = .ok (.imul, 1) := by decide +kernel
theorem dX10_findsChains_47 : decode cX10_findsChains 47 = .ok (.iload_n 1, 1) := by decide +kernel
theorem dX10_findsChains_48 : decode cX10_findsChains 48 = .ok (.iadd, 1) := by decide +kernel
theorem dX10_findsChains_49 : decode cX10_findsChains 49 = .ok (.iaload, 1) := by decide +kernel
theorem dX10_findsChains_50 : decode cX10_findsChains 50 = .ok (.istore 6, 2) := by decide +kernel
theorem dX10_findsChains_52 : decode cX10_findsChains 52 = .ok (.iload 6, 2) := by decide +kernel
theorem dX10_findsChains_54 : decode cX10_findsChains 54 = .ok (.ifCond .le 57, 3) := by decide +kernel
theorem dX10_findsChains_57 : decode cX10_findsChains 57 = .ok (.iload_n 2, 1) := by decide +kernel
theorem dX10_findsChains_58 : decode cX10_findsChains 58 = .ok (.iconst (-1), 1) := by decide +kernel
theorem dX10_findsChains_59 : decode cX10_findsChains 59 = .ok (.if_icmp .eq 30, 3) := by decide +kernel
theorem dX10_findsChains_62 : decode cX10_findsChains 62 = .ok (.iload 5, 2) := by decide +kernel
theorem dX10_findsChains_64 : decode cX10_findsChains 64 = .ok (.iload_n 3, 1) := by decide +kernel
theorem dX10_findsChains_65 : decode cX10_findsChains 65 = .ok (.isub, 1) := by decide +kernel
theorem dX10_findsChains_66 : decode cX10_findsChains 66 = .ok (.aload_n 0, 1) := by decide +kernel
theorem dX10_findsChains_67 : decode cX10_findsChains 67 = .ok (.getfield 13, 3) := by decide +kernel
theorem dX10_findsChains_70 : decode cX10_findsChains 70 = .ok (.iconst 2, 1) := by decide +kernel
theorem dX10_findsChains_71 : decode cX10_findsChains 71 = .ok (.iaload, 1) := by decide +kernel
theorem dX10_findsChains_72 : decode cX10_findsChains 72 = .ok (.if_icmp .le 17, 3) := by decide +kernel
theorem dX10_findsChains_75 : decode cX10_findsChains 75 = .ok (.aload_n 0, 1) := by decide +kernel
theorem dX10_findsChains_76 : decode cX10_findsChains 76 = .ok (.iload_n 1, 1) := by decide +kernel
theorem dX10_findsChains_77 : decode cX10_findsChains 77 = .ok (.iload_n 2, 1) := by decide +kernel
theorem dX10_findsChains_78 : decode cX10_findsChains 78 = .ok (.iload_n 3, 1) := by decide +kernel
theorem dX10_findsChains_79 : decode cX10_findsChains 79 = .ok (.iload 4, 2) := by decide +kernel
theorem dX10_findsChains_81 : decode cX10_findsChains 81 = .ok (.invokevirtual 187, 3) := by decide +kernel
theorem dX10_findsChains_84 : decode cX10_findsChains 84 = .ok (.iconst (-1), 1) := by decide +kernel
theorem dX10_findsChains_85 : decode cX10_findsChains 85 = .ok (.istore_n 2, 1) := by decide +kernel
theorem dX10_findsChains_86 : decode cX10_findsChains 86 = .ok (.iconst 0, 1) := by decide +kernel
theorem dX10_findsChains_87 : decode cX10_findsChains 87 = .ok (.istore 4, 2) := by decide +kernel
theorem dX10_findsChains_89 : decode cX10_findsChains 89 = .ok (.iload_n 2, 1) := by decide +kernel
theorem dX10_findsChains_90 : decode cX10_findsChains 90 = .ok (.iconst (-1), 1) := by decide +kernel
theorem dX10_findsChains_91 : decode cX10_findsChains 91 = .ok (.if_icmp .ne 8, 3) := by decide +kernel
theorem dX10_findsChains_94 : decode cX10_findsChains 94 = .ok (.iload 5, 2) := by decide +kernel
theorem dX10_findsChains_96 : decode cX10_findsChains 96 = .ok (.goto 4, 3) := by decide +kernel
theorem dX10_findsChains_99 : decode cX10_findsChains 99 = .ok (.iload_n 2, 1) := by decide +kernel
theorem dX10_findsChains_100 : decode cX10_findsChains 100 = .ok (.istore_n 2, 1) := by decide +kernel
theorem dX10_findsChains_101 : decode cX10_findsChains 101 = .ok (.iload 5, 2) := by decide +kernel
theorem dX10_findsChains_103 : decode cX10_findsChains 103 = .ok (.istore_n 3, 1) := by decide +kernel
theorem dX10_findsChains_104 : decode cX10_findsChains 104 = .ok (.iload 4, 2) := by decide +kernel
theorem dX10_findsChains_106 : decode cX10_findsChains 106 = .ok (.iload 6, 2) := by decide +kernel
theorem dX10_findsChains_108 : decode cX10_findsChains 108 = .ok (.iadd, 1) := by decide +kernel
theorem dX10_findsChains_109 : decode cX10_findsChains 109 = .ok (.istore 4, 2) := by decide +kernel
theorem dX10_findsChains_111 : decode cX10_findsChains 111 = .ok (.iinc 5 1, 3) := by decide +kernel
theorem dX10_findsChains_114 : decode cX10_findsChains 114 = .ok (.goto (-85), 3) := by decide +kernel
theorem dX10_findsChains_117 : decode cX10_findsChains 117 = .ok (.aload_n 0, 1) := by decide +kernel
theorem dX10_findsChains_118 : decode cX10_findsChains 118 = .ok (.iload_n 1, 1) := by decide +kernel
theorem dX10_findsChains_119 : decode cX10_findsChains 119 = .ok (.iload_n 2, 1) := by decide +kernel
theorem dX10_findsChains_120 : decode cX10_findsChains 120 = .ok (.iload_n 3, 1) := by decide +kernel
theorem dX10_findsChains_121 : decode cX10_findsChains 121 = .ok (.iload 4, 2) := by decide +kernel
theorem dX10_findsChains_123 : decode cX10_findsChains 123 = .ok (.invokevirtual 187, 3) := by decide +kernel
theorem dX10_findsChains_126 : decode cX10_findsChains 126 = .ok (.iinc 1 1, 3) := by decide +kernel
theorem dX10_findsChains_129 : decode cX10_findsChains 129 = .ok (.goto (-118), 3) := by decide +kernel
theorem dX10_findsChains_132 : decode cX10_findsChains 132 = .ok (.return_, 1) := by decide +kernel
theorem dX10_chainsOf_0 : decode cX10_chainsOf 0 = .ok (.aload_n 0, 1) := by decide +kernel
theorem dX10_chainsOf_1 : decode cX10_chainsOf 1 = .ok (.invokevirtual 191, 3) := by decide +kernel
theorem dX10_chainsOf_4 : decode cX10_chainsOf 4 = .ok (.aload_n 0, 1) := by decide +kernel
theorem dX10_chainsOf_5 : decode cX10_chainsOf 5 = .ok (.getfield 184, 3) := by decide +kernel
theorem dX10_chainsOf_8 : decode cX10_chainsOf 8 = .ok (.ireturn, 1) := by decide +kernel
theorem dX10_chains_0 : decode cX10_chains 0 = .ok (.aload_n 0, 1) := by decide +kernel
theorem dX10_chains_1 : decode cX10_chains 1 = .ok (.invokevirtual 194, 3) := by decide +kernel
theorem dX10_chains_4 : decode cX10_chains 4 = .ok (.ireturn, 1) := by decide +kernel
theorem dX10_weight_0 : decode cX10_weight 0 = .ok (.aload_n 0, 1) := by decide +kernel
theorem dX10_weight_1 : decode cX10_weight 1 = .ok (.getfield 49, 3) := by decide +kernel
theorem dX10_weight_4 : decode cX10_weight 4 = .ok (.iload_n 1, 1) := by decide +kernel
theorem dX10_weight_5 : decode cX10_weight 5 = .ok (.iaload, 1) := by decide +kernel
theorem dX10_weight_6 : decode cX10_weight 6 = .ok (.aload_n 0, 1) := by decide +kernel
theorem dX10_weight_7 : decode cX10_weight 7 = .ok (.getfield 46, 3) := by decide +kernel
theorem dX10_weight_10 : decode cX10_weight 10 = .ok (.iload_n 1, 1) := by decide +kernel
theorem dX10_weight_11 : decode cX10_weight 11 = .ok (.iaload, 1) := by decide +kernel
theorem dX10_weight_12 : decode cX10_weight 12 = .ok (.aload_n 0, 1) := by decide +kernel
theorem dX10_weight_13 : decode cX10_weight 13 = .ok (.getfield 43, 3) := by decide +kernel
theorem dX10_weight_16 : decode cX10_weight 16 = .ok (.iload_n 1, 1) := by decide +kernel
theorem dX10_weight_17 : decode cX10_weight 17 = .ok (.iaload, 1) := by decide +kernel
theorem dX10_weight_18 : decode cX10_weight 18 = .ok (.isub, 1) := by decide +kernel
theorem dX10_weight_19 : decode cX10_weight 19 = .ok (.iconst 1, 1) := by decide +kernel
theorem dX10_weight_20 : decode cX10_weight 20 = .ok (.iadd, 1) := by decide +kernel
theorem dX10_weight_21 : decode cX10_weight 21 = .ok (.imul, 1) := by decide +kernel
theorem dX10_weight_22 : decode cX10_weight 22 = .ok (.ireturn, 1) := by decide +kernel
theorem dX10_chainOf_0 : decode cX10_chainOf 0 = .ok (.aload_n 0, 1) := by decide +kernel
theorem dX10_chainOf_1 : decode cX10_chainOf 1 = .ok (.invokevirtual 191, 3) := by decide +kernel
theorem dX10_chainOf_4 : decode cX10_chainOf 4 = .ok (.iload_n 1, 1) := by decide +kernel
theorem dX10_chainOf_5 : decode cX10_chainOf 5 = .ok (.aload_n 0, 1) := by decide +kernel
theorem dX10_chainOf_6 : decode cX10_chainOf 6 = .ok (.getfield 184, 3) := by decide +kernel
theorem dX10_chainOf_9 : decode cX10_chainOf 9 = .ok (.if_icmp .lt 5, 3) := by decide +kernel
theorem dX10_chainOf_12 : decode cX10_chainOf 12 = .ok (.iconst (-1), 1) := by decide +kernel
theorem dX10_chainOf_13 : decode cX10_chainOf 13 = .ok (.ireturn, 1) := by decide +kernel
theorem dX10_chainOf_14 : decode cX10_chainOf 14 = .ok (.iload_n 2, 1) := by decide +kernel
theorem dX10_chainOf_15 : decode cX10_chainOf 15 = .ok (.tableswitch 57 0 3 #[29, 36, 43, 50], 29) := by decide +kernel
theorem dX10_chainOf_44 : decode cX10_chainOf 44 = .ok (.aload_n 0, 1) := by decide +kernel
theorem dX10_chainOf_45 : decode cX10_chainOf 45 = .ok (.getfield 40, 3) := by decide +kernel
theorem dX10_chainOf_48 : decode cX10_chainOf 48 = .ok (.iload_n 1, 1) := by decide +kernel
theorem dX10_chainOf_49 : decode cX10_chainOf 49 = .ok (.iaload, 1) := by decide +kernel
theorem dX10_chainOf_50 : decode cX10_chainOf 50 = .ok (.ireturn, 1) := by decide +kernel
theorem dX10_chainOf_51 : decode cX10_chainOf 51 = .ok (.aload_n 0, 1) := by decide +kernel
theorem dX10_chainOf_52 : decode cX10_chainOf 52 = .ok (.getfield 43, 3) := by decide +kernel
theorem dX10_chainOf_55 : decode cX10_chainOf 55 = .ok (.iload_n 1, 1) := by decide +kernel
theorem dX10_chainOf_56 : decode cX10_chainOf 56 = .ok (.iaload, 1) := by decide +kernel
theorem dX10_chainOf_57 : decode cX10_chainOf 57 = .ok (.ireturn, 1) := by decide +kernel
theorem dX10_chainOf_58 : decode cX10_chainOf 58 = .ok (.aload_n 0, 1) := by decide +kernel
theorem dX10_chainOf_59 : decode cX10_chainOf 59 = .ok (.getfield 46, 3) := by decide +kernel
theorem dX10_chainOf_62 : decode cX10_chainOf 62 = .ok (.iload_n 1, 1) := by decide +kernel
theorem dX10_chainOf_63 : decode cX10_chainOf 63 = .ok (.iaload, 1) := by decide +kernel
theorem dX10_chainOf_64 : decode cX10_chainOf 64 = .ok (.ireturn, 1) := by decide +kernel
theorem dX10_chainOf_65 : decode cX10_chainOf 65 = .ok (.aload_n 0, 1) := by decide +kernel
theorem dX10_chainOf_66 : decode cX10_chainOf 66 = .ok (.getfield 49, 3) := by decide +kernel
theorem dX10_chainOf_69 : decode cX10_chainOf 69 = .ok (.iload_n 1, 1) := by decide +kernel
theorem dX10_chainOf_70 : decode cX10_chainOf 70 = .ok (.iaload, 1) := by decide +kernel
theorem dX10_chainOf_71 : decode cX10_chainOf 71 = .ok (.ireturn, 1) := by decide +kernel
theorem dX10_chainOf_72 : decode cX10_chainOf 72 = .ok (.aload_n 0, 1) := by decide +kernel
theorem dX10_chainOf_73 : decode cX10_chainOf 73 = .ok (.iload_n 1, 1) := by decide +kernel
theorem dX10_chainOf_74 : decode cX10_chainOf 74 = .ok (.invokevirtual 198, 3) := by decide +kernel
theorem dX10_chainOf_77 : decode cX10_chainOf 77 = .ok (.ireturn, 1) := by decide +kernel
theorem dX10_chain_0 : decode cX10_chain 0 = .ok (.iload_n 1, 1) := by decide +kernel
theorem dX10_chain_1 : decode cX10_chain 1 = .ok (.iconst 0, 1) := by decide +kernel
theorem dX10_chain_2 : decode cX10_chain 2 = .ok (.bipush 99, 2) := by decide +kernel
theorem dX10_chain_4 : decode cX10_chain 4 = .ok (.invokestatic 77, 3) := by decide +kernel
theorem dX10_chain_7 : decode cX10_chain 7 = .ok (.ifCond .eq 21, 3) := by decide +kernel
theorem dX10_chain_10 : decode cX10_chain 10 = .ok (.iload_n 2, 1) := by decide +kernel
theorem dX10_chain_11 : decode cX10_chain 11 = .ok (.iconst 0, 1) := by decide +kernel
theorem dX10_chain_12 : decode cX10_chain 12 = .ok (.iconst 4, 1) := by decide +kernel
theorem dX10_chain_13 : decode cX10_chain 13 = .ok (.invokestatic 77, 3) := by decide +kernel
theorem dX10_chain_16 : decode cX10_chain 16 = .ok (.ifCond .eq 12, 3) := by decide +kernel
theorem dX10_chain_19 : decode cX10_chain 19 = .ok (.aload_n 0, 1) := by decide +kernel
theorem dX10_chain_20 : decode cX10_chain 20 = .ok (.iload_n 1, 1) := by decide +kernel
theorem dX10_chain_21 : decode cX10_chain 21 = .ok (.iload_n 2, 1) := by decide +kernel
theorem dX10_chain_22 : decode cX10_chain 22 = .ok (.invokevirtual 201, 3) := by decide +kernel
theorem dX10_chain_25 : decode cX10_chain 25 = .ok (.goto 5, 3) := by decide +kernel
theorem dX10_chain_28 : decode cX10_chain 28 = .ok (.bipush (-2), 2) := by decide +kernel
theorem dX10_chain_30 : decode cX10_chain 30 = .ok (.ireturn, 1) := by decide +kernel
theorem dX10_isGap_0 : decode cX10_isGap 0 = .ok (.aload_n 0, 1) := by decide +kernel
theorem dX10_isGap_1 : decode cX10_isGap 1 = .ok (.invokevirtual 147, 3) := by decide +kernel
theorem dX10_isGap_4 : decode cX10_isGap 4 = .ok (.iload_n 1, 1) := by decide +kernel
theorem dX10_isGap_5 : decode cX10_isGap 5 = .ok (.iconst 1, 1) := by decide +kernel
theorem dX10_isGap_6 : decode cX10_isGap 6 = .ok (.aload_n 0, 1) := by decide +kernel
theorem dX10_isGap_7 : decode cX10_isGap 7 = .ok (.getfield 109, 3) := by decide +kernel
theorem dX10_isGap_10 : decode cX10_isGap 10 = .ok (.iconst 1, 1) := by decide +kernel
theorem dX10_isGap_11 : decode cX10_isGap 11 = .ok (.isub, 1) := by decide +kernel
theorem dX10_isGap_12 : decode cX10_isGap 12 = .ok (.invokestatic 77, 3) := by decide +kernel
theorem dX10_isGap_15 : decode cX10_isGap 15 = .ok (.ireturn, 1) := by decide +kernel
theorem dX10_overOf_0 : decode cX10_overOf 0 = .ok (.aload_n 0, 1) := by decide +kernel
theorem dX10_overOf_1 : decode cX10_overOf 1 = .ok (.invokevirtual 191, 3) := by decide +kernel
theorem dX10_overOf_4 : decode cX10_overOf 4 = .ok (.iconst 0, 1) := by decide +kernel
theorem dX10_overOf_5 : decode cX10_overOf 5 = .ok (.istore_n 3, 1) := by decide +kernel
theorem dX10_overOf_6 : decode cX10_overOf 6 = .ok (.iconst 0, 1) := by decide +kernel
theorem dX10_overOf_7 : decode cX10_overOf 7 = .ok (.istore 4, 2) := by decide +kernel
theorem dX10_overOf_9 : decode cX10_overOf 9 = .ok (.iconst 0, 1) := by decide +kernel
theorem dX10_overOf_10 : decode cX10_overOf 10 = .ok (.istore 5, 2) := by decide +kernel
theorem dX10_overOf_12 : decode cX10_overOf 12 = .ok (.iload 5, 2) := by decide +kernel
theorem dX10_overOf_14 : decode cX10_overOf 14 = .ok (.aload_n 0, 1) := by decide +kernel
theorem dX10_overOf_15 : decode cX10_overOf 15 = .ok (.getfield 184, 3) := by decide +kernel
theorem dX10_overOf_18 : decode cX10_overOf 18 = .ok (.if_icmp .ge 71, 3) := by decide +kernel
theorem dX10_overOf_21 : decode cX10_overOf 21 = .ok (.aload_n 0, 1) := by decide +kernel
theorem dX10_overOf_22 : decode cX10_overOf 22 = .ok (.getfield 43, 3) := by decide +kernel
theorem dX10_overOf_25 : decode cX10_overOf 25 = .ok (.iload 5, 2) := by decide +kernel
theorem dX10_overOf_27 : decode cX10_overOf 27 = .ok (.iaload, 1) := by decide +kernel
theorem dX10_overOf_28 : decode cX10_overOf 28 = .ok (.iload_n 1, 1) := by decide +kernel
theorem dX10_overOf_29 : decode cX10_overOf 29 = .ok (.if_icmp .ge 18, 3) := by decide +kernel
theorem dX10_overOf_32 : decode cX10_overOf 32 = .ok (.aload_n 0, 1) := by decide +kernel
theorem dX10_overOf_33 : decode cX10_overOf 33 = .ok (.getfield 46, 3) := by decide +kernel
theorem dX10_overOf_36 : decode cX10_overOf 36 = .ok (.iload 5, 2) := by decide +kernel
theorem dX10_overOf_38 : decode cX10_overOf 38 = .ok (.iaload, 1) := by decide +kernel
theorem dX10_overOf_39 : decode cX10_overOf 39 = .ok (.iload_n 1, 1) := by decide +kernel
theorem dX10_overOf_40 : decode cX10_overOf 40 = .ok (.if_icmp .lt 7, 3) := by decide +kernel
theorem dX10_overOf_43 : decode cX10_overOf 43 = .ok (.iconst 1, 1) := by decide +kernel
theorem dX10_overOf_44 : decode cX10_overOf 44 = .ok (.goto 4, 3) := by decide +kernel
theorem dX10_overOf_47 : decode cX10_overOf 47 = .ok (.iconst 0, 1) := by decide +kernel
theorem dX10_overOf_48 : decode cX10_overOf 48 = .ok (.istore 6, 2) := by decide +kernel
theorem dX10_overOf_50 : decode cX10_overOf 50 = .ok (.iload_n 3, 1) := by decide +kernel
theorem dX10_overOf_51 : decode cX10_overOf 51 = .ok (.iload 6, 2) := by decide +kernel
theorem dX10_overOf_53 : decode cX10_overOf 53 = .ok (.ifCond .eq 7, 3) := by decide +kernel
theorem dX10_overOf_56 : decode cX10_overOf 56 = .ok (.iconst 1, 1) := by decide +kernel
theorem dX10_overOf_57 : decode cX10_overOf 57 = .ok (.goto 4, 3) := by decide +kernel
theorem dX10_overOf_60 : decode cX10_overOf 60 = .ok (.iconst 0, 1) := by decide +kernel
theorem dX10_overOf_61 : decode cX10_overOf 61 = .ok (.iadd, 1) := by decide +kernel
theorem dX10_overOf_62 : decode cX10_overOf 62 = .ok (.istore_n 3, 1) := by decide +kernel
theorem dX10_overOf_63 : decode cX10_overOf 63 = .ok (.iload 4, 2) := by decide +kernel
theorem dX10_overOf_65 : decode cX10_overOf 65 = .ok (.iload 6, 2) := by decide +kernel
theorem dX10_overOf_67 : decode cX10_overOf 67 = .ok (.ifCond .eq 12, 3) := by decide +kernel
theorem dX10_overOf_70 : decode cX10_overOf 70 = .ok (.aload_n 0, 1) := by decide +kernel
theorem dX10_overOf_71 : decode cX10_overOf 71 = .ok (.iload 5, 2) := by decide +kernel
theorem dX10_overOf_73 : decode cX10_overOf 73 = .ok (.invokevirtual 198, 3) := by decide +kernel
theorem dX10_overOf_76 : decode cX10_overOf 76 = .ok (.goto 4, 3) := by decide +kernel
theorem dX10_overOf_79 : decode cX10_overOf 79 = .ok (.iconst 0, 1) := by decide +kernel
theorem dX10_overOf_80 : decode cX10_overOf 80 = .ok (.iadd, 1) := by decide +kernel
theorem dX10_overOf_81 : decode cX10_overOf 81 = .ok (.istore 4, 2) := by decide +kernel
theorem dX10_overOf_83 : decode cX10_overOf 83 = .ok (.iinc 5 1, 3) := by decide +kernel
theorem dX10_overOf_86 : decode cX10_overOf 86 = .ok (.goto (-74), 3) := by decide +kernel
theorem dX10_overOf_89 : decode cX10_overOf 89 = .ok (.iload_n 2, 1) := by decide +kernel
theorem dX10_overOf_90 : decode cX10_overOf 90 = .ok (.ifCond .ne 7, 3) := by decide +kernel
theorem dX10_overOf_93 : decode cX10_overOf 93 = .ok (.iload_n 3, 1) := by decide +kernel
theorem dX10_overOf_94 : decode cX10_overOf 94 = .ok (.goto 5, 3) := by decide +kernel
theorem dX10_overOf_97 : decode cX10_overOf 97 = .ok (.iload 4, 2) := by decide +kernel
theorem dX10_overOf_99 : decode cX10_overOf 99 = .ok (.ireturn, 1) := by decide +kernel
theorem dX10_over_0 : decode cX10_over 0 = .ok (.aload_n 0, 1) := by decide +kernel
theorem dX10_over_1 : decode cX10_over 1 = .ok (.iload_n 1, 1) := by decide +kernel
theorem dX10_over_2 : decode cX10_over 2 = .ok (.invokevirtual 204, 3) := by decide +kernel
theorem dX10_over_5 : decode cX10_over 5 = .ok (.ifCond .eq 19, 3) := by decide +kernel
theorem dX10_over_8 : decode cX10_over 8 = .ok (.iload_n 2, 1) := by decide +kernel
theorem dX10_over_9 : decode cX10_over 9 = .ok (.invokestatic 207, 3) := by decide +kernel
theorem dX10_over_12 : decode cX10_over 12 = .ok (.ifCond .eq 12, 3) := by decide +kernel
theorem dX10_over_15 : decode cX10_over 15 = .ok (.aload_n 0, 1) := by decide +kernel
theorem dX10_over_16 : decode cX10_over 16 = .ok (.iload_n 1, 1) := by decide +kernel
theorem dX10_over_17 : decode cX10_over 17 = .ok (.iload_n 2, 1) := by decide +kernel
theorem dX10_over_18 : decode cX10_over 18 = .ok (.invokevirtual 210, 3) := by decide +kernel
theorem dX10_over_21 : decode cX10_over 21 = .ok (.goto 5, 3) := by decide +kernel
theorem dX10_over_24 : decode cX10_over 24 = .ok (.bipush (-2), 2) := by decide +kernel
theorem dX10_over_26 : decode cX10_over 26 = .ok (.ireturn, 1) := by decide +kernel
theorem dX10_costNow_0 : decode cX10_costNow 0 = .ok (.aload_n 0, 1) := by decide +kernel
theorem dX10_costNow_1 : decode cX10_costNow 1 = .ok (.iload_n 1, 1) := by decide +kernel
theorem dX10_costNow_2 : decode cX10_costNow 2 = .ok (.iload_n 2, 1) := by decide +kernel
theorem dX10_costNow_3 : decode cX10_costNow 3 = .ok (.invokevirtual 162, 3) := by decide +kernel
theorem dX10_costNow_6 : decode cX10_costNow 6 = .ok (.aload_n 0, 1) := by decide +kernel
theorem dX10_costNow_7 : decode cX10_costNow 7 = .ok (.getfield 153, 3) := by decide +kernel
theorem dX10_costNow_10 : decode cX10_costNow 10 = .ok (.aload_n 0, 1) := by decide +kernel
theorem dX10_costNow_11 : decode cX10_costNow 11 = .ok (.getfield 156, 3) := by decide +kernel
theorem dX10_costNow_14 : decode cX10_costNow 14 = .ok (.isub, 1) := by decide +kernel
theorem dX10_costNow_15 : decode cX10_costNow 15 = .ok (.istore_n 3, 1) := by decide +kernel
theorem dX10_costNow_16 : decode cX10_costNow 16 = .ok (.iconst 4, 1) := by decide +kernel
theorem dX10_costNow_17 : decode cX10_costNow 17 = .ok (.aload_n 0, 1) := by decide +kernel
theorem dX10_costNow_18 : decode cX10_costNow 18 = .ok (.getfield 156, 3) := by decide +kernel
theorem dX10_costNow_21 : decode cX10_costNow 21 = .ok (.imul, 1) := by decide +kernel
theorem dX10_costNow_22 : decode cX10_costNow 22 = .ok (.iload_n 3, 1) := by decide +kernel
theorem dX10_costNow_23 : decode cX10_costNow 23 = .ok (.isub, 1) := by decide +kernel
theorem dX10_costNow_24 : decode cX10_costNow 24 = .ok (.istore 4, 2) := by decide +kernel
theorem dX10_costNow_26 : decode cX10_costNow 26 = .ok (.aload_n 0, 1) := by decide +kernel
theorem dX10_costNow_27 : decode cX10_costNow 27 = .ok (.getfield 13, 3) := by decide +kernel
theorem dX10_costNow_30 : decode cX10_costNow 30 = .ok (.iconst 0, 1) := by decide +kernel
theorem dX10_costNow_31 : decode cX10_costNow 31 = .ok (.iaload, 1) := by decide +kernel
theorem dX10_costNow_32 : decode cX10_costNow 32 = .ok (.tableswitch 69 0 2 #[28, 39, 53], 28) := by decide +kernel
theorem dX10_costNow_60 : decode cX10_costNow 60 = .ok (.iconst 2, 1) := by decide +kernel
theorem dX10_costNow_61 : decode cX10_costNow 61 = .ok (.aload_n 0, 1) := by decide +kernel
theorem dX10_costNow_62 : decode cX10_costNow 62 = .ok (.getfield 156, 3) := by decide +kernel
theorem dX10_costNow_65 : decode cX10_costNow 65 = .ok (.imul, 1) := by decide +kernel
theorem dX10_costNow_66 : decode cX10_costNow 66 = .ok (.istore 4, 2) := by decide +kernel
theorem dX10_costNow_68 : decode cX10_costNow 68 = .ok (.goto 46, 3) := by decide +kernel
theorem dX10_costNow_71 : decode cX10_costNow 71 = .ok (.aload_n 0, 1) := by decide +kernel
theorem dX10_costNow_72 : decode cX10_costNow 72 = .ok (.getfield 156, 3) := by decide +kernel
theorem dX10_costNow_75 : decode cX10_costNow 75 = .ok (.aload_n 0, 1) := by decide +kernel
theorem dX10_costNow_76 : decode cX10_costNow 76 = .ok (.getfield 156, 3) := by decide +kernel
theorem dX10_costNow_79 : decode cX10_costNow 79 = .ok (.imul, 1) := by decide +kernel
theorem dX10_costNow_80 : decode cX10_costNow 80 = .ok (.istore 4, 2) := by decide +kernel
theorem dX10_costNow_82 : decode cX10_costNow 82 = .ok (.goto 32, 3) := by decide +kernel
theorem dX10_costNow_85 : decode cX10_costNow 85 = .ok (.iconst 3, 1) := by decide +kernel
theorem dX10_costNow_86 : decode cX10_costNow 86 = .ok (.aload_n 0, 1) := by decide +kernel
theorem dX10_costNow_87 : decode cX10_costNow 87 = .ok (.getfield 159, 3) := by decide +kernel
theorem dX10_costNow_90 : decode cX10_costNow 90 = .ok (.imul, 1) := by decide +kernel
theorem dX10_costNow_91 : decode cX10_costNow 91 = .ok (.aload_n 0, 1) := by decide +kernel
theorem dX10_costNow_92 : decode cX10_costNow 92 = .ok (.getfield 153, 3) := by decide +kernel
theorem dX10_costNow_95 : decode cX10_costNow 95 = .ok (.iadd, 1) := by decide +kernel
theorem dX10_costNow_96 : decode cX10_costNow 96 = .ok (.istore 4, 2) := by decide +kernel
theorem dX10_costNow_98 : decode cX10_costNow 98 = .ok (.goto 16, 3) := by decide +kernel
theorem dX10_costNow_101 : decode cX10_costNow 101 = .ok (.iload 4, 2) := by decide +kernel
theorem dX10_costNow_103 : decode cX10_costNow 103 = .ok (.ifCond .ge 7, 3) := by decide +kernel
theorem dX10_costNow_106 : decode cX10_costNow 106 = .ok (.iconst 0, 1) := by decide +kernel
theorem dX10_costNow_107 : decode cX10_costNow 107 = .ok (.goto 5, 3) := by decide +kernel
theorem dX10_costNow_110 : decode cX10_costNow 110 = .ok (.iload 4, 2) := by decide +kernel
theorem dX10_costNow_112 : decode cX10_costNow 112 = .ok (.istore 4, 2) := by decide +kernel
theorem dX10_costNow_114 : decode cX10_costNow 114 = .ok (.iload 4, 2) := by decide +kernel
theorem dX10_costNow_116 : decode cX10_costNow 116 = .ok (.aload_n 0, 1) := by decide +kernel
theorem dX10_costNow_117 : decode cX10_costNow 117 = .ok (.getfield 13, 3) := by decide +kernel
theorem dX10_costNow_120 : decode cX10_costNow 120 = .ok (.iconst 1, 1) := by decide +kernel
theorem dX10_costNow_121 : decode cX10_costNow 121 = .ok (.iaload, 1) := by decide +kernel
theorem dX10_costNow_122 : decode cX10_costNow 122 = .ok (.iadd, 1) := by decide +kernel
theorem dX10_costNow_123 : decode cX10_costNow 123 = .ok (.ireturn, 1) := by decide +kernel
theorem dX10_costOf_0 : decode cX10_costOf 0 = .ok (.aload_n 0, 1) := by decide +kernel
theorem dX10_costOf_1 : decode cX10_costOf 1 = .ok (.invokevirtual 147, 3) := by decide +kernel
theorem dX10_costOf_4 : decode cX10_costOf 4 = .ok (.iload_n 1, 1) := by decide +kernel
theorem dX10_costOf_5 : decode cX10_costOf 5 = .ok (.iconst 0, 1) := by decide +kernel
theorem dX10_costOf_6 : decode cX10_costOf 6 = .ok (.aload_n 0, 1) := by decide +kernel
theorem dX10_costOf_7 : decode cX10_costOf 7 = .ok (.getfield 109, 3) := by decide +kernel
theorem dX10_costOf_10 : decode cX10_costOf 10 = .ok (.invokestatic 77, 3) := by decide +kernel
theorem dX10_costOf_13 : decode cX10_costOf 13 = .ok (.ifCond .eq 15, 3) := by decide +kernel
theorem dX10_costOf_16 : decode cX10_costOf 16 = .ok (.iload_n 2, 1) := by decide +kernel
theorem dX10_costOf_17 : decode cX10_costOf 17 = .ok (.iconst 0, 1) := by decide +kernel
theorem dX10_costOf_18 : decode cX10_costOf 18 = .ok (.aload_n 0, 1) := by decide +kernel
theorem dX10_costOf_19 : decode cX10_costOf 19 = .ok (.getfield 109, 3) := by decide +kernel
theorem dX10_costOf_22 : decode cX10_costOf 22 = .ok (.invokestatic 77, 3) := by decide +kernel
theorem dX10_costOf_25 : decode cX10_costOf 25 = .ok (.ifCond .ne 6, 3) := by decide +kernel
theorem dX10_costOf_28 : decode cX10_costOf 28 = .ok (.bipush (-2), 2) := by decide +kernel
theorem dX10_costOf_30 : decode cX10_costOf 30 = .ok (.ireturn, 1) := by decide +kernel
theorem dX10_costOf_31 : decode cX10_costOf 31 = .ok (.iload_n 2, 1) := by decide +kernel
theorem dX10_costOf_32 : decode cX10_costOf 32 = .ok (.iload_n 1, 1) := by decide +kernel
theorem dX10_costOf_33 : decode cX10_costOf 33 = .ok (.if_icmp .le 12, 3) := by decide +kernel
theorem dX10_costOf_36 : decode cX10_costOf 36 = .ok (.aload_n 0, 1) := by decide +kernel
theorem dX10_costOf_37 : decode cX10_costOf 37 = .ok (.iload_n 1, 1) := by decide +kernel
theorem dX10_costOf_38 : decode cX10_costOf 38 = .ok (.iload_n 2, 1) := by decide +kernel
theorem dX10_costOf_39 : decode cX10_costOf 39 = .ok (.invokevirtual 213, 3) := by decide +kernel
theorem dX10_costOf_42 : decode cX10_costOf 42 = .ok (.goto 5, 3) := by decide +kernel
theorem dX10_costOf_45 : decode cX10_costOf 45 = .ok (.bipush (-3), 2) := by decide +kernel
theorem dX10_costOf_47 : decode cX10_costOf 47 = .ok (.ireturn, 1) := by decide +kernel
theorem dX10_cost_0 : decode cX10_cost 0 = .ok (.aload_n 0, 1) := by decide +kernel
theorem dX10_cost_1 : decode cX10_cost 1 = .ok (.iload_n 1, 1) := by decide +kernel
theorem dX10_cost_2 : decode cX10_cost 2 = .ok (.iload_n 2, 1) := by decide +kernel
theorem dX10_cost_3 : decode cX10_cost 3 = .ok (.invokevirtual 216, 3) := by decide +kernel
theorem dX10_cost_6 : decode cX10_cost 6 = .ok (.ireturn, 1) := by decide +kernel
theorem dX10_placeOf_0 : decode cX10_placeOf 0 = .ok (.aload_n 0, 1) := by decide +kernel
theorem dX10_placeOf_1 : decode cX10_placeOf 1 = .ok (.getfield 144, 3) := by decide +kernel
theorem dX10_placeOf_4 : decode cX10_placeOf 4 = .ok (.iconst (-1), 1) := by decide +kernel
theorem dX10_placeOf_5 : decode cX10_placeOf 5 = .ok (.if_icmp .eq 17, 3) := by decide +kernel
theorem dX10_placeOf_8 : decode cX10_placeOf 8 = .ok (.iload_n 1, 1) := by decide +kernel
theorem dX10_placeOf_9 : decode cX10_placeOf 9 = .ok (.aload_n 0, 1) := by decide +kernel
theorem dX10_placeOf_10 : decode cX10_placeOf 10 = .ok (.getfield 144, 3) := by decide +kernel
theorem dX10_placeOf_13 : decode cX10_placeOf 13 = .ok (.if_icmp .le 9, 3) := by decide +kernel
theorem dX10_placeOf_16 : decode cX10_placeOf 16 = .ok (.iload_n 1, 1) := by decide +kernel
theorem dX10_placeOf_17 : decode cX10_placeOf 17 = .ok (.iconst 1, 1) := by decide +kernel
theorem dX10_placeOf_18 : decode cX10_placeOf 18 = .ok (.iadd, 1) := by decide +kernel
theorem dX10_placeOf_19 : decode cX10_placeOf 19 = .ok (.goto 4, 3) := by decide +kernel
theorem dX10_placeOf_22 : decode cX10_placeOf 22 = .ok (.iload_n 1, 1) := by decide +kernel
theorem dX10_placeOf_23 : decode cX10_placeOf 23 = .ok (.ireturn, 1) := by decide +kernel
theorem dX10_parts_0 : decode cX10_parts 0 = .ok (.aload_n 0, 1) := by decide +kernel
theorem dX10_parts_1 : decode cX10_parts 1 = .ok (.aload_n 0, 1) := by decide +kernel
theorem dX10_parts_2 : decode cX10_parts 2 = .ok (.getfield 144, 3) := by decide +kernel
theorem dX10_parts_5 : decode cX10_parts 5 = .ok (.iconst (-1), 1) := by decide +kernel
theorem dX10_parts_6 : decode cX10_parts 6 = .ok (.if_icmp .ne 10, 3) := by decide +kernel
theorem dX10_parts_9 : decode cX10_parts 9 = .ok (.aload_n 0, 1) := by decide +kernel
theorem dX10_parts_10 : decode cX10_parts 10 = .ok (.getfield 109, 3) := by decide +kernel
theorem dX10_parts_13 : decode cX10_parts 13 = .ok (.goto 9, 3) := by decide +kernel
theorem dX10_parts_16 : decode cX10_parts 16 = .ok (.aload_n 0, 1) := by decide +kernel
theorem dX10_parts_17 : decode cX10_parts 17 = .ok (.getfield 109, 3) := by decide +kernel
theorem dX10_parts_20 : decode cX10_parts 20 = .ok (.iconst 1, 1) := by decide +kernel
theorem dX10_parts_21 : decode cX10_parts 21 = .ok (.isub, 1) := by decide +kernel
theorem dX10_parts_22 : decode cX10_parts 22 = .ok (.putfield 219, 3) := by decide +kernel
theorem dX10_parts_25 : decode cX10_parts 25 = .ok (.iconst 0, 1) := by decide +kernel
theorem dX10_parts_26 : decode cX10_parts 26 = .ok (.istore_n 1, 1) := by decide +kernel
theorem dX10_parts_27 : decode cX10_parts 27 = .ok (.iload_n 1, 1) := by decide +kernel
theorem dX10_parts_28 : decode cX10_parts 28 = .ok (.aload_n 0, 1) := by decide +kernel
theorem dX10_parts_29 : decode cX10_parts 29 = .ok (.getfield 219, 3) := by decide +kernel
theorem dX10_parts_32 : decode cX10_parts 32 = .ok (.if_icmp .ge 52, 3) := by decide +kernel
theorem dX10_parts_35 : decode cX10_parts 35 = .ok (.iload_n 1, 1) := by decide +kernel
theorem dX10_parts_36 : decode cX10_parts 36 = .ok (.iconst 1, 1) := by decide +kernel
theorem dX10_parts_37 : decode cX10_parts 37 = .ok (.iadd, 1) := by decide +kernel
theorem dX10_parts_38 : decode cX10_parts 38 = .ok (.istore_n 2, 1) := by decide +kernel
theorem dX10_parts_39 : decode cX10_parts 39 = .ok (.iload_n 2, 1) := by decide +kernel
theorem dX10_parts_40 : decode cX10_parts 40 = .ok (.aload_n 0, 1) := by decide +kernel
theorem dX10_parts_41 : decode cX10_parts 41 = .ok (.getfield 219, 3) := by decide +kernel
theorem dX10_parts_44 : decode cX10_parts 44 = .ok (.if_icmp .gt 34, 3) := by decide +kernel
theorem dX10_parts_47 : decode cX10_parts 47 = .ok (.aload_n 0, 1) := by decide +kernel
theorem dX10_parts_48 : decode cX10_parts 48 = .ok (.getfield 52, 3) := by decide +kernel
theorem dX10_parts_51 : decode cX10_parts 51 = .ok (.bipush 13, 2) := by decide +kernel
theorem dX10_parts_53 : decode cX10_parts 53 = .ok (.iload_n 1, 1) := by decide +kernel
theorem dX10_parts_54 : decode cX10_parts 54 = .ok (.imul, 1) := by decide +kernel
theorem dX10_parts_55 : decode cX10_parts 55 = .ok (.iload_n 2, 1) := by decide +kernel
theorem dX10_parts_56 : decode cX10_parts 56 = .ok (.iadd, 1) := by decide +kernel
theorem dX10_parts_57 : decode cX10_parts 57 = .ok (.aload_n 0, 1) := by decide +kernel
theorem dX10_parts_58 : decode cX10_parts 58 = .ok (.aload_n 0, 1) := by decide +kernel
theorem dX10_parts_59 : decode cX10_parts 59 = .ok (.iload_n 1, 1) := by decide +kernel
theorem dX10_parts_60 : decode cX10_parts 60 = .ok (.invokevirtual 222, 3) := by decide +kernel
theorem dX10_parts_63 : decode cX10_parts 63 = .ok (.aload_n 0, 1) := by decide +kernel
theorem dX10_parts_64 : decode cX10_parts 64 = .ok (.iload_n 2, 1) := by decide +kernel
theorem dX10_parts_65 : decode cX10_parts 65 = .ok (.invokevirtual 222, 3) := by decide +kernel
theorem dX10_parts_68 : decode cX10_parts 68 = .ok (.invokevirtual 213, 3) := by decide +kernel
theorem dX10_parts_71 : decode cX10_parts 71 = .ok (.iastore, 1) := by decide +kernel
theorem dX10_parts_72 : decode cX10_parts 72 = .ok (.iinc 2 1, 3) := by decide +kernel
theorem dX10_parts_75 : decode cX10_parts 75 = .ok (.goto (-36), 3) := by decide +kernel
theorem dX10_parts_78 : decode cX10_parts 78 = .ok (.iinc 1 1, 3) := by decide +kernel
theorem dX10_parts_81 : decode cX10_parts 81 = .ok (.goto (-54), 3) := by decide +kernel
theorem dX10_parts_84 : decode cX10_parts 84 = .ok (.iconst 0, 1) := by decide +kernel
theorem dX10_parts_85 : decode cX10_parts 85 = .ok (.istore_n 1, 1) := by decide +kernel
theorem dX10_parts_86 : decode cX10_parts 86 = .ok (.iload_n 1, 1) := by decide +kernel
theorem dX10_parts_87 : decode cX10_parts 87 = .ok (.bipush 9, 2) := by decide +kernel
theorem dX10_parts_89 : decode cX10_parts 89 = .ok (.if_icmp .ge 171, 3) := by decide +kernel
theorem dX10_parts_92 : decode cX10_parts 92 = .ok (.iconst 0, 1) := by decide +kernel
theorem dX10_parts_93 : decode cX10_parts 93 = .ok (.istore_n 2, 1) := by decide +kernel
theorem dX10_parts_94 : decode cX10_parts 94 = .ok (.iload_n 2, 1) := by decide +kernel
theorem dX10_parts_95 : decode cX10_parts 95 = .ok (.aload_n 0, 1) := by decide +kernel
theorem dX10_parts_96 : decode cX10_parts 96 = .ok (.getfield 219, 3) := by decide +kernel
theorem dX10_parts_99 : decode cX10_parts 99 = .ok (.if_icmp .gt 155, 3) := by decide +kernel
theorem dX10_parts_102 : decode cX10_parts 102 = .ok (.iconst (-1), 1) := by decide +kernel
theorem dX10_parts_103 : decode cX10_parts 103 = .ok (.istore_n 3, 1) := by decide +kernel
theorem dX10_parts_104 : decode cX10_parts 104 = .ok (.iload_n 1, 1) := by decide +kernel
theorem dX10_parts_105 : decode cX10_parts 105 = .ok (.ifCond .ne 11, 3) := by decide +kernel
theorem dX10_parts_108 : decode cX10_parts 108 = .ok (.iload_n 2, 1) := by decide +kernel
theorem dX10_parts_109 : decode cX10_parts 109 = .ok (.ifCond .ne 7, 3) := by decide +kernel
theorem dX10_parts_112 : decode cX10_parts 112 = .ok (.iconst 0, 1) := by decide +kernel
theorem dX10_parts_113 : decode cX10_parts 113 = .ok (.goto 4, 3) := by decide +kernel
theorem dX10_parts_116 : decode cX10_parts 116 = .ok (.iconst (-1), 1) := by decide +kernel
theorem dX10_parts_117 : decode cX10_parts 117 = .ok (.istore 4, 2) := by decide +kernel
theorem dX10_parts_119 : decode cX10_parts 119 = .ok (.iconst 0, 1) := by decide +kernel
theorem dX10_parts_120 : decode cX10_parts 120 = .ok (.istore 5, 2) := by decide +kernel
theorem dX10_parts_122 : decode cX10_parts 122 = .ok (.iload 5, 2) := by decide +kernel
theorem dX10_parts_124 : decode cX10_parts 124 = .ok (.iload_n 2, 1) := by decide +kernel
theorem dX10_parts_125 : decode cX10_parts 125 = .ok (.if_icmp .ge 98, 3) := by decide +kernel
theorem dX10_parts_128 : decode cX10_parts 128 = .ok (.iload_n 1, 1) := by decide +kernel
theorem dX10_parts_129 : decode cX10_parts 129 = .ok (.ifCond .le 94, 3) := by decide +kernel
theorem dX10_parts_132 : decode cX10_parts 132 = .ok (.aload_n 0, 1) := by decide +kernel
theorem dX10_parts_133 : decode cX10_parts 133 = .ok (.getfield 55, 3) := by decide +kernel
theorem dX10_parts_136 : decode cX10_parts 136 = .ok (.bipush 13, 2) := by decide +kernel
theorem dX10_parts_138 : decode cX10_parts 138 = .ok (.iload_n 1, 1) := by decide +kernel
theorem dX10_parts_139 : decode cX10_parts 139 = .ok (.iconst 1, 1) := by decide +kernel
theorem dX10_parts_140 : decode cX10_parts 140 = .ok (.isub, 1) := by decide +kernel
theorem dX10_parts_141 : decode cX10_parts 141 = .ok (.imul, 1) := by decide +kernel
theorem dX10_parts_142 : decode cX10_parts 142 = .ok (.iload 5, 2) := by decide +kernel
theorem dX10_parts_144 : decode cX10_parts 144 = .ok (.iadd, 1) := by decide +kernel
theorem dX10_parts_145 : decode cX10_parts 145 = .ok (.iaload, 1) := by decide +kernel
theorem dX10_parts_146 : decode cX10_parts 146 = .ok (.istore 6, 2) := by decide +kernel
theorem dX10_parts_148 : decode cX10_parts 148 = .ok (.iload 6, 2) := by decide +kernel
theorem dX10_parts_150 : decode cX10_parts 150 = .ok (.aload_n 0, 1) := by decide +kernel
theorem dX10_parts_151 : decode cX10_parts 151 = .ok (.getfield 52, 3) := by decide +kernel
theorem dX10_parts_154 : decode cX10_parts 154 = .ok (.bipush 13, 2) := by decide +kernel
theorem dX10_parts_156 : decode cX10_parts 156 = .ok (.iload 5, 2) := by decide +kernel
theorem dX10_parts_158 : decode cX10_parts 158 = .ok (.imul, 1) := by decide +kernel
theorem dX10_parts_159 : decode cX10_parts 159 = .ok (.iload_n 2, 1) := by decide +kernel
theorem dX10_parts_160 : decode cX10_parts 160 = .ok (.iadd, 1) := by decide +kernel
theorem dX10_parts_161 : decode cX10_parts 161 = .ok (.iaload, 1) := by decide +kernel
theorem dX10_parts_162 : decode cX10_parts 162 = .ok (.iadd, 1) := by decide +kernel
theorem dX10_parts_163 : decode cX10_parts 163 = .ok (.istore 7, 2) := by decide +kernel
theorem dX10_parts_165 : decode cX10_parts 165 = .ok (.iload 6, 2) := by decide +kernel
theorem dX10_parts_167 : decode cX10_parts 167 = .ok (.iconst (-1), 1) := by decide +kernel
theorem dX10_parts_168 : decode cX10_parts 168 = .ok (.if_icmp .eq 20, 3) := by decide +kernel
theorem dX10_parts_171 : decode cX10_parts 171 = .ok (.iload 4, 2) := by decide +kernel
theorem dX10_parts_173 : decode cX10_parts 173 = .ok (.iconst (-1), 1) := by decide +kernel
theorem dX10_parts_174 : decode cX10_parts 174 = .ok (.if_icmp .eq 10, 3) := by decide +kernel
theorem dX10_parts_177 : decode cX10_parts 177 = .ok (.iload 7, 2) := by decide +kernel
theorem dX10_parts_179 : decode cX10_parts 179 = .ok (.iload 4, 2) := by decide +kernel
theorem dX10_parts_181 : decode cX10_parts 181 = .ok (.if_icmp .ge 7, 3) := by decide +kernel
theorem dX10_parts_184 : decode cX10_parts 184 = .ok (.iconst 1, 1) := by decide +kernel
theorem dX10_parts_185 : decode cX10_parts 185 = .ok (.goto 4, 3) := by decide +kernel
theorem dX10_parts_188 : decode cX10_parts 188 = .ok (.iconst 0, 1) := by decide +kernel
theorem dX10_parts_189 : decode cX10_parts 189 = .ok (.istore 8, 2) := by decide +kernel
theorem dX10_parts_191 : decode cX10_parts 191 = .ok (.iload 8, 2) := by decide +kernel
theorem dX10_parts_193 : decode cX10_parts 193 = .ok (.ifCond .eq 8, 3) := by decide +kernel
theorem dX10_parts_196 : decode cX10_parts 196 = .ok (.iload 5, 2) := by decide +kernel
theorem dX10_parts_198 : decode cX10_parts 198 = .ok (.goto 4, 3) := by decide +kernel
theorem dX10_parts_201 : decode cX10_parts 201 = .ok (.iload_n 3, 1) := by decide +kernel
theorem dX10_parts_202 : decode cX10_parts 202 = .ok (.istore_n 3, 1) := by decide +kernel
theorem dX10_parts_203 : decode cX10_parts 203 = .ok (.iload 8, 2) := by decide +kernel
theorem dX10_parts_205 : decode cX10_parts 205 = .ok (.ifCond .eq 8, 3) := by decide +kernel
theorem dX10_parts_208 : decode cX10_parts 208 = .ok (.iload 7, 2) := by decide +kernel
theorem dX10_parts_210 : decode cX10_parts 210 = .ok (.goto 5, 3) := by decide +kernel
theorem dX10_parts_213 : decode cX10_parts 213 = .ok (.iload 4, 2) := by decide +kernel
theorem dX10_parts_215 : decode cX10_parts 215 = .ok (.istore 4, 2) := by decide +kernel
theorem dX10_parts_217 : decode cX10_parts 217 = .ok (.iinc 5 1, 3) := by decide +kernel
theorem dX10_parts_220 : decode cX10_parts 220 = .ok (.goto (-98), 3) := by decide +kernel
theorem dX10_parts_223 : decode cX10_parts 223 = .ok (.aload_n 0, 1) := by decide +kernel
theorem dX10_parts_224 : decode cX10_parts 224 = .ok (.getfield 55, 3) := by decide +kernel
theorem dX10_parts_227 : decode cX10_parts 227 = .ok (.bipush 13, 2) := by decide +kernel
theorem dX10_parts_229 : decode cX10_parts 229 = .ok (.iload_n 1, 1) := by decide +kernel
theorem dX10_parts_230 : decode cX10_parts 230 = .ok (.imul, 1) := by decide +kernel
theorem dX10_parts_231 : decode cX10_parts 231 = .ok (.iload_n 2, 1) := by decide +kernel
theorem dX10_parts_232 : decode cX10_parts 232 = .ok (.iadd, 1) := by decide +kernel
theorem dX10_parts_233 : decode cX10_parts 233 = .ok (.iload 4, 2) := by decide +kernel
theorem dX10_parts_235 : decode cX10_parts 235 = .ok (.iastore, 1) := by decide +kernel
theorem dX10_parts_236 : decode cX10_parts 236 = .ok (.aload_n 0, 1) := by decide +kernel
theorem dX10_parts_237 : decode cX10_parts 237 = .ok (.getfield 58, 3) := by decide +kernel
theorem dX10_parts_240 : decode cX10_parts 240 = .ok (.bipush 13, 2) := by decide +kernel
theorem dX10_parts_242 : decode cX10_parts 242 = .ok (.iload_n 1, 1) := by decide +kernel
theorem dX10_parts_243 : decode cX10_parts 243 = .ok (.imul, 1) := by decide +kernel
theorem dX10_parts_244 : decode cX10_parts 244 = .ok (.iload_n 2, 1) := by decide +kernel
theorem dX10_parts_245 : decode cX10_parts 245 = .ok (.iadd, 1) := by decide +kernel
theorem dX10_parts_246 : decode cX10_parts 246 = .ok (.iload_n 3, 1) := by decide +kernel
theorem dX10_parts_247 : decode cX10_parts 247 = .ok (.iastore, 1) := by decide +kernel
theorem dX10_parts_248 : decode cX10_parts 248 = .ok (.iinc 2 1, 3) := by decide +kernel
theorem dX10_parts_251 : decode cX10_parts 251 = .ok (.goto (-157), 3) := by decide +kernel
theorem dX10_parts_254 : decode cX10_parts 254 = .ok (.iinc 1 1, 3) := by decide +kernel
theorem dX10_parts_257 : decode cX10_parts 257 = .ok (.goto (-171), 3) := by decide +kernel
theorem dX10_parts_260 : decode cX10_parts 260 = .ok (.return_, 1) := by decide +kernel
theorem dX10_totalNow_0 : decode cX10_totalNow 0 = .ok (.aload_n 0, 1) := by decide +kernel
theorem dX10_totalNow_1 : decode cX10_totalNow 1 = .ok (.getfield 55, 3) := by decide +kernel
theorem dX10_totalNow_4 : decode cX10_totalNow 4 = .ok (.bipush 13, 2) := by decide +kernel
theorem dX10_totalNow_6 : decode cX10_totalNow 6 = .ok (.iload_n 1, 1) := by decide +kernel
theorem dX10_totalNow_7 : decode cX10_totalNow 7 = .ok (.imul, 1) := by decide +kernel
theorem dX10_totalNow_8 : decode cX10_totalNow 8 = .ok (.aload_n 0, 1) := by decide +kernel
theorem dX10_totalNow_9 : decode cX10_totalNow 9 = .ok (.getfield 219, 3) := by decide +kernel
theorem dX10_totalNow_12 : decode cX10_totalNow 12 = .ok (.iadd, 1) := by decide +kernel
theorem dX10_totalNow_13 : decode cX10_totalNow 13 = .ok (.iaload, 1) := by decide +kernel
theorem dX10_totalNow_14 : decode cX10_totalNow 14 = .ok (.ireturn, 1) := by decide +kernel
theorem dX10_partsTold_0 : decode cX10_partsTold 0 = .ok (.aload_n 0, 1) := by decide +kernel
theorem dX10_partsTold_1 : decode cX10_partsTold 1 = .ok (.invokevirtual 147, 3) := by decide +kernel
theorem dX10_partsTold_4 : decode cX10_partsTold 4 = .ok (.aload_n 0, 1) := by decide +kernel
theorem dX10_partsTold_5 : decode cX10_partsTold 5 = .ok (.invokevirtual 225, 3) := by decide +kernel
theorem dX10_partsTold_8 : decode cX10_partsTold 8 = .ok (.return_, 1) := by decide +kernel
theorem dX10_isParts_0 : decode cX10_isParts 0 = .ok (.iload_n 0, 1) := by decide +kernel
theorem dX10_isParts_1 : decode cX10_isParts 1 = .ok (.iconst 1, 1) := by decide +kernel
theorem dX10_isParts_2 : decode cX10_isParts 2 = .ok (.bipush 8, 2) := by decide +kernel
theorem dX10_isParts_4 : decode cX10_isParts 4 = .ok (.invokestatic 77, 3) := by decide +kernel
theorem dX10_isParts_7 : decode cX10_isParts 7 = .ok (.ireturn, 1) := by decide +kernel
theorem dX10_bestOf_0 : decode cX10_bestOf 0 = .ok (.aload_n 0, 1) := by decide +kernel
theorem dX10_bestOf_1 : decode cX10_bestOf 1 = .ok (.invokevirtual 228, 3) := by decide +kernel
theorem dX10_bestOf_4 : decode cX10_bestOf 4 = .ok (.aload_n 0, 1) := by decide +kernel
theorem dX10_bestOf_5 : decode cX10_bestOf 5 = .ok (.iload_n 1, 1) := by decide +kernel
theorem dX10_bestOf_6 : decode cX10_bestOf 6 = .ok (.invokevirtual 231, 3) := by decide +kernel
theorem dX10_bestOf_9 : decode cX10_bestOf 9 = .ok (.ireturn, 1) := by decide +kernel
theorem dX10_best_0 : decode cX10_best 0 = .ok (.iload_n 1, 1) := by decide +kernel
theorem dX10_best_1 : decode cX10_best 1 = .ok (.invokestatic 234, 3) := by decide +kernel
theorem dX10_best_4 : decode cX10_best 4 = .ok (.ifCond .eq 11, 3) := by decide +kernel
theorem dX10_best_7 : decode cX10_best 7 = .ok (.aload_n 0, 1) := by decide +kernel
theorem dX10_best_8 : decode cX10_best 8 = .ok (.iload_n 1, 1) := by decide +kernel
theorem dX10_best_9 : decode cX10_best 9 = .ok (.invokevirtual 237, 3) := by decide +kernel
theorem dX10_best_12 : decode cX10_best 12 = .ok (.goto 5, 3) := by decide +kernel
theorem dX10_best_15 : decode cX10_best 15 = .ok (.bipush (-2), 2) := by decide +kernel
theorem dX10_best_17 : decode cX10_best 17 = .ok (.ireturn, 1) := by decide +kernel
theorem dX10_seamNow_0 : decode cX10_seamNow 0 = .ok (.aload_n 0, 1) := by decide +kernel
theorem dX10_seamNow_1 : decode cX10_seamNow 1 = .ok (.getfield 219, 3) := by decide +kernel
theorem dX10_seamNow_4 : decode cX10_seamNow 4 = .ok (.istore_n 3, 1) := by decide +kernel
theorem dX10_seamNow_5 : decode cX10_seamNow 5 = .ok (.iload_n 1, 1) := by decide +kernel
theorem dX10_seamNow_6 : decode cX10_seamNow 6 = .ok (.istore 4, 2) := by decide +kernel
theorem dX10_seamNow_8 : decode cX10_seamNow 8 = .ok (.iload 4, 2) := by decide +kernel
theorem dX10_seamNow_10 : decode cX10_seamNow 10 = .ok (.iload_n 2, 1) := by decide +kernel
theorem dX10_seamNow_11 : decode cX10_seamNow 11 = .ok (.if_icmp .le 22, 3) := by decide +kernel
theorem dX10_seamNow_14 : decode cX10_seamNow 14 = .ok (.aload_n 0, 1) := by decide +kernel
theorem dX10_seamNow_15 : decode cX10_seamNow 15 = .ok (.getfield 58, 3) := by decide +kernel
theorem dX10_seamNow_18 : decode cX10_seamNow 18 = .ok (.bipush 13, 2) := by decide +kernel
theorem dX10_seamNow_20 : decode cX10_seamNow 20 = .ok (.iload 4, 2) := by decide +kernel
theorem dX10_seamNow_22 : decode cX10_seamNow 22 = .ok (.imul, 1) := by decide +kernel
theorem dX10_seamNow_23 : decode cX10_seamNow 23 = .ok (.iload_n 3, 1) := by decide +kernel
theorem dX10_seamNow_24 : decode cX10_seamNow 24 = .ok (.iadd, 1) := by decide +kernel
theorem dX10_seamNow_25 : decode cX10_seamNow 25 = .ok (.iaload, 1) := by decide +kernel
theorem dX10_seamNow_26 : decode cX10_seamNow 26 = .ok (.istore_n 3, 1) := by decide +kernel
theorem dX10_seamNow_27 : decode cX10_seamNow 27 = .ok (.iinc 4 (-1), 3) := by decide +kernel
theorem dX10_seamNow_30 : decode cX10_seamNow 30 = .ok (.goto (-22), 3) := by decide +kernel
theorem dX10_seamNow_33 : decode cX10_seamNow 33 = .ok (.iload_n 3, 1) := by decide +kernel
theorem dX10_seamNow_34 : decode cX10_seamNow 34 = .ok (.ireturn, 1) := by decide +kernel
theorem dX10_seamOf_0 : decode cX10_seamOf 0 = .ok (.aload_n 0, 1) := by decide +kernel
theorem dX10_seamOf_1 : decode cX10_seamOf 1 = .ok (.invokevirtual 228, 3) := by decide +kernel
theorem dX10_seamOf_4 : decode cX10_seamOf 4 = .ok (.aload_n 0, 1) := by decide +kernel
theorem dX10_seamOf_5 : decode cX10_seamOf 5 = .ok (.iload_n 1, 1) := by decide +kernel
theorem dX10_seamOf_6 : decode cX10_seamOf 6 = .ok (.invokevirtual 231, 3) := by decide +kernel
theorem dX10_seamOf_9 : decode cX10_seamOf 9 = .ok (.iconst (-1), 1) := by decide +kernel
theorem dX10_seamOf_10 : decode cX10_seamOf 10 = .ok (.if_icmp .eq 8, 3) := by decide +kernel
theorem dX10_seamOf_13 : decode cX10_seamOf 13 = .ok (.iload_n 2, 1) := by decide +kernel
theorem dX10_seamOf_14 : decode cX10_seamOf 14 = .ok (.iload_n 1, 1) := by decide +kernel
theorem dX10_seamOf_15 : decode cX10_seamOf 15 = .ok (.if_icmp .lt 7, 3) := by decide +kernel
theorem dX10_seamOf_18 : decode cX10_seamOf 18 = .ok (.iconst (-1), 1) := by decide +kernel
theorem dX10_seamOf_19 : decode cX10_seamOf 19 = .ok (.goto 9, 3) := by decide +kernel
theorem dX10_seamOf_22 : decode cX10_seamOf 22 = .ok (.aload_n 0, 1) := by decide +kernel
theorem dX10_seamOf_23 : decode cX10_seamOf 23 = .ok (.iload_n 1, 1) := by decide +kernel
theorem dX10_seamOf_24 : decode cX10_seamOf 24 = .ok (.iload_n 2, 1) := by decide +kernel
theorem dX10_seamOf_25 : decode cX10_seamOf 25 = .ok (.invokevirtual 240, 3) := by decide +kernel
theorem dX10_seamOf_28 : decode cX10_seamOf 28 = .ok (.ireturn, 1) := by decide +kernel
theorem dX10_seam_0 : decode cX10_seam 0 = .ok (.iload_n 1, 1) := by decide +kernel
theorem dX10_seam_1 : decode cX10_seam 1 = .ok (.invokestatic 234, 3) := by decide +kernel
theorem dX10_seam_4 : decode cX10_seam 4 = .ok (.ifCond .eq 22, 3) := by decide +kernel
theorem dX10_seam_7 : decode cX10_seam 7 = .ok (.iload_n 2, 1) := by decide +kernel
theorem dX10_seam_8 : decode cX10_seam 8 = .ok (.iconst 0, 1) := by decide +kernel
theorem dX10_seam_9 : decode cX10_seam 9 = .ok (.bipush 7, 2) := by decide +kernel
theorem dX10_seam_11 : decode cX10_seam 11 = .ok (.invokestatic 77, 3) := by decide +kernel
theorem dX10_seam_14 : decode cX10_seam 14 = .ok (.ifCond .eq 12, 3) := by decide +kernel
theorem dX10_seam_17 : decode cX10_seam 17 = .ok (.aload_n 0, 1) := by decide +kernel
theorem dX10_seam_18 : decode cX10_seam 18 = .ok (.iload_n 1, 1) := by decide +kernel
theorem dX10_seam_19 : decode cX10_seam 19 = .ok (.iload_n 2, 1) := by decide +kernel
theorem dX10_seam_20 : decode cX10_seam 20 = .ok (.invokevirtual 243, 3) := by decide +kernel
theorem dX10_seam_23 : decode cX10_seam 23 = .ok (.goto 5, 3) := by decide +kernel
theorem dX10_seam_26 : decode cX10_seam 26 = .ok (.bipush (-2), 2) := by decide +kernel
theorem dX10_seam_28 : decode cX10_seam 28 = .ok (.ireturn, 1) := by decide +kernel
theorem dX10_bentOf_0 : decode cX10_bentOf 0 = .ok (.aload_n 0, 1) := by decide +kernel
theorem dX10_bentOf_1 : decode cX10_bentOf 1 = .ok (.invokevirtual 228, 3) := by decide +kernel
theorem dX10_bentOf_4 : decode cX10_bentOf 4 = .ok (.iconst 0, 1) := by decide +kernel
theorem dX10_bentOf_5 : decode cX10_bentOf 5 = .ok (.istore_n 1, 1) := by decide +kernel
theorem dX10_bentOf_6 : decode cX10_bentOf 6 = .ok (.iconst 2, 1) := by decide +kernel
theorem dX10_bentOf_7 : decode cX10_bentOf 7 = .ok (.istore_n 2, 1) := by decide +kernel
theorem dX10_bentOf_8 : decode cX10_bentOf 8 = .ok (.iload_n 2, 1) := by decide +kernel
theorem dX10_bentOf_9 : decode cX10_bentOf 9 = .ok (.bipush 8, 2) := by decide +kernel
theorem dX10_bentOf_11 : decode cX10_bentOf 11 = .ok (.if_icmp .ge 74, 3) := by decide +kernel
theorem dX10_bentOf_14 : decode cX10_bentOf 14 = .ok (.aload_n 0, 1) := by decide +kernel
theorem dX10_bentOf_15 : decode cX10_bentOf 15 = .ok (.iload_n 2, 1) := by decide +kernel
theorem dX10_bentOf_16 : decode cX10_bentOf 16 = .ok (.invokevirtual 231, 3) := by decide +kernel
theorem dX10_bentOf_19 : decode cX10_bentOf 19 = .ok (.iconst (-1), 1) := by decide +kernel
theorem dX10_bentOf_20 : decode cX10_bentOf 20 = .ok (.if_icmp .eq 18, 3) := by decide +kernel
theorem dX10_bentOf_23 : decode cX10_bentOf 23 = .ok (.aload_n 0, 1) := by decide +kernel
theorem dX10_bentOf_24 : decode cX10_bentOf 24 = .ok (.iload_n 2, 1) := by decide +kernel
theorem dX10_bentOf_25 : decode cX10_bentOf 25 = .ok (.iconst 1, 1) := by decide +kernel
theorem dX10_bentOf_26 : decode cX10_bentOf 26 = .ok (.iadd, 1) := by decide +kernel
theorem dX10_bentOf_27 : decode cX10_bentOf 27 = .ok (.invokevirtual 231, 3) := by decide +kernel
theorem dX10_bentOf_30 : decode cX10_bentOf 30 = .ok (.iconst (-1), 1) := by decide +kernel
theorem dX10_bentOf_31 : decode cX10_bentOf 31 = .ok (.if_icmp .eq 7, 3) := by decide +kernel
theorem dX10_bentOf_34 : decode cX10_bentOf 34 = .ok (.iconst 1, 1) := by decide +kernel
theorem dX10_bentOf_35 : decode cX10_bentOf 35 = .ok (.goto 4, 3) := by decide +kernel
theorem dX10_bentOf_38 : decode cX10_bentOf 38 = .ok (.iconst 0, 1) := by decide +kernel
theorem dX10_bentOf_39 : decode cX10_bentOf 39 = .ok (.istore_n 3, 1) := by decide +kernel
theorem dX10_bentOf_40 : decode cX10_bentOf 40 = .ok (.iload_n 1, 1) := by decide +kernel
theorem dX10_bentOf_41 : decode cX10_bentOf 41 = .ok (.iload_n 3, 1) := by decide +kernel
theorem dX10_bentOf_42 : decode cX10_bentOf 42 = .ok (.ifCond .eq 34, 3) := by decide +kernel
