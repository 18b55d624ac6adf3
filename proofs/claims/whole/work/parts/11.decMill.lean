theorem d_Mill_put_0 : decode b_Mill_put 0 = .ok (.iload_n 1, 1) := by decide +kernel
theorem d_Mill_put_1 : decode b_Mill_put 1 = .ok (.iconst 4, 1) := by decide +kernel
theorem d_Mill_put_2 : decode b_Mill_put 2 = .ok (.invokestatic 30, 3) := by decide +kernel
theorem d_Mill_put_5 : decode b_Mill_put 5 = .ok (.ifCond .eq 15, 3) := by decide +kernel
theorem d_Mill_put_8 : decode b_Mill_put 8 = .ok (.iload_n 2, 1) := by decide +kernel
theorem d_Mill_put_9 : decode b_Mill_put 9 = .ok (.iload_n 3, 1) := by decide +kernel
theorem d_Mill_put_10 : decode b_Mill_put 10 = .ok (.iload 4, 2) := by decide +kernel
theorem d_Mill_put_12 : decode b_Mill_put 12 = .ok (.iload 5, 2) := by decide +kernel
theorem d_Mill_put_14 : decode b_Mill_put 14 = .ok (.invokestatic 34, 3) := by decide +kernel
theorem d_Mill_put_17 : decode b_Mill_put 17 = .ok (.ifCond .ne 11, 3) := by decide +kernel
theorem d_Mill_put_20 : decode b_Mill_put 20 = .ok (.new 40, 3) := by decide +kernel
theorem d_Mill_put_23 : decode b_Mill_put 23 = .ok (.dup, 1) := by decide +kernel
theorem d_Mill_put_24 : decode b_Mill_put 24 = .ok (.invokespecial 42, 3) := by decide +kernel
theorem d_Mill_put_27 : decode b_Mill_put 27 = .ok (.athrow, 1) := by decide +kernel
theorem d_Mill_put_28 : decode b_Mill_put 28 = .ok (.aload_n 0, 1) := by decide +kernel
theorem d_Mill_put_29 : decode b_Mill_put 29 = .ok (.getfield 10, 3) := by decide +kernel
theorem d_Mill_put_32 : decode b_Mill_put 32 = .ok (.getfield 43, 3) := by decide +kernel
theorem d_Mill_put_35 : decode b_Mill_put 35 = .ok (.iload_n 1, 1) := by decide +kernel
theorem d_Mill_put_36 : decode b_Mill_put 36 = .ok (.aaload, 1) := by decide +kernel
theorem d_Mill_put_37 : decode b_Mill_put 37 = .ok (.getfield 47, 3) := by decide +kernel
theorem d_Mill_put_40 : decode b_Mill_put 40 = .ok (.astore 6, 2) := by decide +kernel
theorem d_Mill_put_42 : decode b_Mill_put 42 = .ok (.aload 6, 2) := by decide +kernel
theorem d_Mill_put_44 : decode b_Mill_put 44 = .ok (.invokevirtual 53, 3) := by decide +kernel
theorem d_Mill_put_47 : decode b_Mill_put 47 = .ok (.ifCond .eq 11, 3) := by decide +kernel
theorem d_Mill_put_50 : decode b_Mill_put 50 = .ok (.new 59, 3) := by decide +kernel
theorem d_Mill_put_53 : decode b_Mill_put 53 = .ok (.dup, 1) := by decide +kernel
theorem d_Mill_put_54 : decode b_Mill_put 54 = .ok (.invokespecial 61, 3) := by decide +kernel
theorem d_Mill_put_57 : decode b_Mill_put 57 = .ok (.athrow, 1) := by decide +kernel
theorem d_Mill_put_58 : decode b_Mill_put 58 = .ok (.aload 6, 2) := by decide +kernel
theorem d_Mill_put_60 : decode b_Mill_put 60 = .ok (.iload_n 2, 1) := by decide +kernel
theorem d_Mill_put_61 : decode b_Mill_put 61 = .ok (.iload_n 3, 1) := by decide +kernel
theorem d_Mill_put_62 : decode b_Mill_put 62 = .ok (.iload 4, 2) := by decide +kernel
theorem d_Mill_put_64 : decode b_Mill_put 64 = .ok (.iload 5, 2) := by decide +kernel
theorem d_Mill_put_66 : decode b_Mill_put 66 = .ok (.invokestatic 62, 3) := by decide +kernel
theorem d_Mill_put_69 : decode b_Mill_put 69 = .ok (.invokevirtual 66, 3) := by decide +kernel
theorem d_Mill_put_72 : decode b_Mill_put 72 = .ok (.ireturn, 1) := by decide +kernel
theorem d_Mill_word_0 : decode b_Mill_word 0 = .ok (.iload_n 1, 1) := by decide +kernel
theorem d_Mill_word_1 : decode b_Mill_word 1 = .ok (.iconst 4, 1) := by decide +kernel
theorem d_Mill_word_2 : decode b_Mill_word 2 = .ok (.invokestatic 30, 3) := by decide +kernel
theorem d_Mill_word_5 : decode b_Mill_word 5 = .ok (.ifCond .ne 11, 3) := by decide +kernel
theorem d_Mill_word_8 : decode b_Mill_word 8 = .ok (.new 40, 3) := by decide +kernel
theorem d_Mill_word_11 : decode b_Mill_word 11 = .ok (.dup, 1) := by decide +kernel
theorem d_Mill_word_12 : decode b_Mill_word 12 = .ok (.invokespecial 42, 3) := by decide +kernel
theorem d_Mill_word_15 : decode b_Mill_word 15 = .ok (.athrow, 1) := by decide +kernel
theorem d_Mill_word_16 : decode b_Mill_word 16 = .ok (.aload_n 0, 1) := by decide +kernel
theorem d_Mill_word_17 : decode b_Mill_word 17 = .ok (.getfield 10, 3) := by decide +kernel
theorem d_Mill_word_20 : decode b_Mill_word 20 = .ok (.getfield 43, 3) := by decide +kernel
theorem d_Mill_word_23 : decode b_Mill_word 23 = .ok (.iload_n 1, 1) := by decide +kernel
theorem d_Mill_word_24 : decode b_Mill_word 24 = .ok (.aaload, 1) := by decide +kernel
theorem d_Mill_word_25 : decode b_Mill_word 25 = .ok (.getfield 70, 3) := by decide +kernel
theorem d_Mill_word_28 : decode b_Mill_word 28 = .ok (.astore_n 3, 1) := by decide +kernel
theorem d_Mill_word_29 : decode b_Mill_word 29 = .ok (.aload_n 3, 1) := by decide +kernel
theorem d_Mill_word_30 : decode b_Mill_word 30 = .ok (.invokevirtual 53, 3) := by decide +kernel
theorem d_Mill_word_33 : decode b_Mill_word 33 = .ok (.ifCond .eq 11, 3) := by decide +kernel
theorem d_Mill_word_36 : decode b_Mill_word 36 = .ok (.new 59, 3) := by decide +kernel
theorem d_Mill_word_39 : decode b_Mill_word 39 = .ok (.dup, 1) := by decide +kernel
theorem d_Mill_word_40 : decode b_Mill_word 40 = .ok (.invokespecial 61, 3) := by decide +kernel
theorem d_Mill_word_43 : decode b_Mill_word 43 = .ok (.athrow, 1) := by decide +kernel
theorem d_Mill_word_44 : decode b_Mill_word 44 = .ok (.aload_n 3, 1) := by decide +kernel
theorem d_Mill_word_45 : decode b_Mill_word 45 = .ok (.iload_n 2, 1) := by decide +kernel
theorem d_Mill_word_46 : decode b_Mill_word 46 = .ok (.invokevirtual 66, 3) := by decide +kernel
theorem d_Mill_word_49 : decode b_Mill_word 49 = .ok (.ireturn, 1) := by decide +kernel
theorem d_Mill_define_0 : decode b_Mill_define 0 = .ok (.iload_n 1, 1) := by decide +kernel
theorem d_Mill_define_1 : decode b_Mill_define 1 = .ok (.iconst 4, 1) := by decide +kernel
theorem d_Mill_define_2 : decode b_Mill_define 2 = .ok (.invokestatic 30, 3) := by decide +kernel
theorem d_Mill_define_5 : decode b_Mill_define 5 = .ok (.ifCond .eq 19, 3) := by decide +kernel
theorem d_Mill_define_8 : decode b_Mill_define 8 = .ok (.iload_n 2, 1) := by decide +kernel
theorem d_Mill_define_9 : decode b_Mill_define 9 = .ok (.bipush 16, 2) := by decide +kernel
theorem d_Mill_define_11 : decode b_Mill_define 11 = .ok (.invokestatic 30, 3) := by decide +kernel
theorem d_Mill_define_14 : decode b_Mill_define 14 = .ok (.ifCond .eq 10, 3) := by decide +kernel
theorem d_Mill_define_17 : decode b_Mill_define 17 = .ok (.iload_n 3, 1) := by decide +kernel
theorem d_Mill_define_18 : decode b_Mill_define 18 = .ok (.invokestatic 73, 3) := by decide +kernel
theorem d_Mill_define_21 : decode b_Mill_define 21 = .ok (.ifCond .ne 11, 3) := by decide +kernel
theorem d_Mill_define_24 : decode b_Mill_define 24 = .ok (.new 40, 3) := by decide +kernel
theorem d_Mill_define_27 : decode b_Mill_define 27 = .ok (.dup, 1) := by decide +kernel
theorem d_Mill_define_28 : decode b_Mill_define 28 = .ok (.invokespecial 42, 3) := by decide +kernel
theorem d_Mill_define_31 : decode b_Mill_define 31 = .ok (.athrow, 1) := by decide +kernel
theorem d_Mill_define_32 : decode b_Mill_define 32 = .ok (.aload_n 0, 1) := by decide +kernel
theorem d_Mill_define_33 : decode b_Mill_define 33 = .ok (.getfield 10, 3) := by decide +kernel
theorem d_Mill_define_36 : decode b_Mill_define 36 = .ok (.getfield 43, 3) := by decide +kernel
theorem d_Mill_define_39 : decode b_Mill_define 39 = .ok (.iload_n 1, 1) := by decide +kernel
theorem d_Mill_define_40 : decode b_Mill_define 40 = .ok (.aaload, 1) := by decide +kernel
theorem d_Mill_define_41 : decode b_Mill_define 41 = .ok (.astore 6, 2) := by decide +kernel
theorem d_Mill_define_43 : decode b_Mill_define 43 = .ok (.iload 4, 2) := by decide +kernel
theorem d_Mill_define_45 : decode b_Mill_define 45 = .ok (.aload 6, 2) := by decide +kernel
theorem d_Mill_define_47 : decode b_Mill_define 47 = .ok (.iload_n 3, 1) := by decide +kernel
theorem d_Mill_define_48 : decode b_Mill_define 48 = .ok (.invokevirtual 77, 3) := by decide +kernel
theorem d_Mill_define_51 : decode b_Mill_define 51 = .ok (.getfield 81, 3) := by decide +kernel
theorem d_Mill_define_54 : decode b_Mill_define 54 = .ok (.iconst 1, 1) := by decide +kernel
theorem d_Mill_define_55 : decode b_Mill_define 55 = .ok (.iadd, 1) := by decide +kernel
theorem d_Mill_define_56 : decode b_Mill_define 56 = .ok (.invokestatic 30, 3) := by decide +kernel
theorem d_Mill_define_59 : decode b_Mill_define 59 = .ok (.ifCond .ne 11, 3) := by decide +kernel
theorem d_Mill_define_62 : decode b_Mill_define 62 = .ok (.new 40, 3) := by decide +kernel
theorem d_Mill_define_65 : decode b_Mill_define 65 = .ok (.dup, 1) := by decide +kernel
theorem d_Mill_define_66 : decode b_Mill_define 66 = .ok (.invokespecial 42, 3) := by decide +kernel
theorem d_Mill_define_69 : decode b_Mill_define 69 = .ok (.athrow, 1) := by decide +kernel
theorem d_Mill_define_70 : decode b_Mill_define 70 = .ok (.aload 6, 2) := by decide +kernel
theorem d_Mill_define_72 : decode b_Mill_define 72 = .ok (.getfield 85, 3) := by decide +kernel
theorem d_Mill_define_75 : decode b_Mill_define 75 = .ok (.bipush 8, 2) := by decide +kernel
theorem d_Mill_define_77 : decode b_Mill_define 77 = .ok (.if_icmp .ne 11, 3) := by decide +kernel
theorem d_Mill_define_80 : decode b_Mill_define 80 = .ok (.new 59, 3) := by decide +kernel
theorem d_Mill_define_83 : decode b_Mill_define 83 = .ok (.dup, 1) := by decide +kernel
theorem d_Mill_define_84 : decode b_Mill_define 84 = .ok (.invokespecial 61, 3) := by decide +kernel
theorem d_Mill_define_87 : decode b_Mill_define 87 = .ok (.athrow, 1) := by decide +kernel
theorem d_Mill_define_88 : decode b_Mill_define 88 = .ok (.aload 6, 2) := by decide +kernel
theorem d_Mill_define_90 : decode b_Mill_define 90 = .ok (.iload_n 2, 1) := by decide +kernel
theorem d_Mill_define_91 : decode b_Mill_define 91 = .ok (.iload_n 3, 1) := by decide +kernel
theorem d_Mill_define_92 : decode b_Mill_define 92 = .ok (.iload 4, 2) := by decide +kernel
theorem d_Mill_define_94 : decode b_Mill_define 94 = .ok (.iload 5, 2) := by decide +kernel
theorem d_Mill_define_96 : decode b_Mill_define 96 = .ok (.invokevirtual 88, 3) := by decide +kernel
theorem d_Mill_define_99 : decode b_Mill_define 99 = .ok (.ireturn, 1) := by decide +kernel
theorem d_Mill_fix_0 : decode b_Mill_fix 0 = .ok (.iload_n 1, 1) := by decide +kernel
theorem d_Mill_fix_1 : decode b_Mill_fix 1 = .ok (.iconst 4, 1) := by decide +kernel
theorem d_Mill_fix_2 : decode b_Mill_fix 2 = .ok (.invokestatic 30, 3) := by decide +kernel
theorem d_Mill_fix_5 : decode b_Mill_fix 5 = .ok (.ifCond .eq 45, 3) := by decide +kernel
theorem d_Mill_fix_8 : decode b_Mill_fix 8 = .ok (.iload_n 2, 1) := by decide +kernel
theorem d_Mill_fix_9 : decode b_Mill_fix 9 = .ok (.invokestatic 73, 3) := by decide +kernel
theorem d_Mill_fix_12 : decode b_Mill_fix 12 = .ok (.ifCond .eq 38, 3) := by decide +kernel
theorem d_Mill_fix_15 : decode b_Mill_fix 15 = .ok (.iload 4, 2) := by decide +kernel
theorem d_Mill_fix_17 : decode b_Mill_fix 17 = .ok (.iconst 5, 1) := by decide +kernel
theorem d_Mill_fix_18 : decode b_Mill_fix 18 = .ok (.invokestatic 30, 3) := by decide +kernel
theorem d_Mill_fix_21 : decode b_Mill_fix 21 = .ok (.ifCond .eq 29, 3) := by decide +kernel
theorem d_Mill_fix_24 : decode b_Mill_fix 24 = .ok (.iload 5, 2) := by decide +kernel
theorem d_Mill_fix_26 : decode b_Mill_fix 26 = .ok (.bipush 16, 2) := by decide +kernel
theorem d_Mill_fix_28 : decode b_Mill_fix 28 = .ok (.invokestatic 30, 3) := by decide +kernel
theorem d_Mill_fix_31 : decode b_Mill_fix 31 = .ok (.ifCond .eq 19, 3) := by decide +kernel
theorem d_Mill_fix_34 : decode b_Mill_fix 34 = .ok (.iload 6, 2) := by decide +kernel
theorem d_Mill_fix_36 : decode b_Mill_fix 36 = .ok (.sipush (-20000), 3) := by decide +kernel
theorem d_Mill_fix_39 : decode b_Mill_fix 39 = .ok (.if_icmp .lt 11, 3) := by decide +kernel
theorem d_Mill_fix_42 : decode b_Mill_fix 42 = .ok (.iload 6, 2) := by decide +kernel
theorem d_Mill_fix_44 : decode b_Mill_fix 44 = .ok (.sipush 20000, 3) := by decide +kernel
theorem d_Mill_fix_47 : decode b_Mill_fix 47 = .ok (.if_icmp .le 11, 3) := by decide +kernel
theorem d_Mill_fix_50 : decode b_Mill_fix 50 = .ok (.new 40, 3) := by decide +kernel
theorem d_Mill_fix_53 : decode b_Mill_fix 53 = .ok (.dup, 1) := by decide +kernel
theorem d_Mill_fix_54 : decode b_Mill_fix 54 = .ok (.invokespecial 42, 3) := by decide +kernel
theorem d_Mill_fix_57 : decode b_Mill_fix 57 = .ok (.athrow, 1) := by decide +kernel
theorem d_Mill_fix_58 : decode b_Mill_fix 58 = .ok (.aload_n 0, 1) := by decide +kernel
theorem d_Mill_fix_59 : decode b_Mill_fix 59 = .ok (.getfield 10, 3) := by decide +kernel
theorem d_Mill_fix_62 : decode b_Mill_fix 62 = .ok (.getfield 43, 3) := by decide +kernel
theorem d_Mill_fix_65 : decode b_Mill_fix 65 = .ok (.iload_n 1, 1) := by decide +kernel
theorem d_Mill_fix_66 : decode b_Mill_fix 66 = .ok (.aaload, 1) := by decide +kernel
theorem d_Mill_fix_67 : decode b_Mill_fix 67 = .ok (.astore 7, 2) := by decide +kernel
theorem d_Mill_fix_69 : decode b_Mill_fix 69 = .ok (.iload_n 3, 1) := by decide +kernel
theorem d_Mill_fix_70 : decode b_Mill_fix 70 = .ok (.aload 7, 2) := by decide +kernel
theorem d_Mill_fix_72 : decode b_Mill_fix 72 = .ok (.iload_n 2, 1) := by decide +kernel
theorem d_Mill_fix_73 : decode b_Mill_fix 73 = .ok (.invokevirtual 77, 3) := by decide +kernel
theorem d_Mill_fix_76 : decode b_Mill_fix 76 = .ok (.getfield 81, 3) := by decide +kernel
theorem d_Mill_fix_79 : decode b_Mill_fix 79 = .ok (.invokestatic 30, 3) := by decide +kernel
theorem d_Mill_fix_82 : decode b_Mill_fix 82 = .ok (.ifCond .ne 11, 3) := by decide +kernel
theorem d_Mill_fix_85 : decode b_Mill_fix 85 = .ok (.new 40, 3) := by decide +kernel
theorem d_Mill_fix_88 : decode b_Mill_fix 88 = .ok (.dup, 1) := by decide +kernel
theorem d_Mill_fix_89 : decode b_Mill_fix 89 = .ok (.invokespecial 42, 3) := by decide +kernel
theorem d_Mill_fix_92 : decode b_Mill_fix 92 = .ok (.athrow, 1) := by decide +kernel
theorem d_Mill_fix_93 : decode b_Mill_fix 93 = .ok (.aload 7, 2) := by decide +kernel
theorem d_Mill_fix_95 : decode b_Mill_fix 95 = .ok (.getfield 94, 3) := by decide +kernel
theorem d_Mill_fix_98 : decode b_Mill_fix 98 = .ok (.bipush 16, 2) := by decide +kernel
theorem d_Mill_fix_100 : decode b_Mill_fix 100 = .ok (.if_icmp .ne 11, 3) := by decide +kernel
theorem d_Mill_fix_103 : decode b_Mill_fix 103 = .ok (.new 59, 3) := by decide +kernel
theorem d_Mill_fix_106 : decode b_Mill_fix 106 = .ok (.dup, 1) := by decide +kernel
theorem d_Mill_fix_107 : decode b_Mill_fix 107 = .ok (.invokespecial 61, 3) := by decide +kernel
theorem d_Mill_fix_110 : decode b_Mill_fix 110 = .ok (.athrow, 1) := by decide +kernel
theorem d_Mill_fix_111 : decode b_Mill_fix 111 = .ok (.aload 7, 2) := by decide +kernel
theorem d_Mill_fix_113 : decode b_Mill_fix 113 = .ok (.iload_n 2, 1) := by decide +kernel
theorem d_Mill_fix_114 : decode b_Mill_fix 114 = .ok (.iload_n 3, 1) := by decide +kernel
theorem d_Mill_fix_115 : decode b_Mill_fix 115 = .ok (.iload 4, 2) := by decide +kernel
theorem d_Mill_fix_117 : decode b_Mill_fix 117 = .ok (.iload 5, 2) := by decide +kernel
theorem d_Mill_fix_119 : decode b_Mill_fix 119 = .ok (.iload 6, 2) := by decide +kernel
theorem d_Mill_fix_121 : decode b_Mill_fix 121 = .ok (.invokevirtual 97, 3) := by decide +kernel
theorem d_Mill_fix_124 : decode b_Mill_fix 124 = .ok (.ireturn, 1) := by decide +kernel
theorem d_Mill_clear_0 : decode b_Mill_clear 0 = .ok (.iload_n 1, 1) := by decide +kernel
theorem d_Mill_clear_1 : decode b_Mill_clear 1 = .ok (.iconst 4, 1) := by decide +kernel
theorem d_Mill_clear_2 : decode b_Mill_clear 2 = .ok (.invokestatic 30, 3) := by decide +kernel
theorem d_Mill_clear_5 : decode b_Mill_clear 5 = .ok (.ifCond .ne 11, 3) := by decide +kernel
theorem d_Mill_clear_8 : decode b_Mill_clear 8 = .ok (.new 40, 3) := by decide +kernel
theorem d_Mill_clear_11 : decode b_Mill_clear 11 = .ok (.dup, 1) := by decide +kernel
theorem d_Mill_clear_12 : decode b_Mill_clear 12 = .ok (.invokespecial 42, 3) := by decide +kernel
theorem d_Mill_clear_15 : decode b_Mill_clear 15 = .ok (.athrow, 1) := by decide +kernel
theorem d_Mill_clear_16 : decode b_Mill_clear 16 = .ok (.aload_n 0, 1) := by decide +kernel
theorem d_Mill_clear_17 : decode b_Mill_clear 17 = .ok (.getfield 10, 3) := by decide +kernel
theorem d_Mill_clear_20 : decode b_Mill_clear 20 = .ok (.getfield 43, 3) := by decide +kernel
theorem d_Mill_clear_23 : decode b_Mill_clear 23 = .ok (.iload_n 1, 1) := by decide +kernel
theorem d_Mill_clear_24 : decode b_Mill_clear 24 = .ok (.aaload, 1) := by decide +kernel
theorem d_Mill_clear_25 : decode b_Mill_clear 25 = .ok (.invokevirtual 101, 3) := by decide +kernel
theorem d_Mill_clear_28 : decode b_Mill_clear 28 = .ok (.iconst 1, 1) := by decide +kernel
theorem d_Mill_clear_29 : decode b_Mill_clear 29 = .ok (.ireturn, 1) := by decide +kernel
theorem d_Mill_link_0 : decode b_Mill_link 0 = .ok (.iload_n 1, 1) := by decide +kernel
theorem d_Mill_link_1 : decode b_Mill_link 1 = .ok (.ifCond .lt 24, 3) := by decide +kernel
theorem d_Mill_link_4 : decode b_Mill_link 4 = .ok (.iload_n 1, 1) := by decide +kernel
theorem d_Mill_link_5 : decode b_Mill_link 5 = .ok (.ldc 104, 2) := by decide +kernel
theorem d_Mill_link_7 : decode b_Mill_link 7 = .ok (.if_icmp .gt 18, 3) := by decide +kernel
theorem d_Mill_link_10 : decode b_Mill_link 10 = .ok (.iload_n 1, 1) := by decide +kernel
theorem d_Mill_link_11 : decode b_Mill_link 11 = .ok (.iconst 4, 1) := by decide +kernel
theorem d_Mill_link_12 : decode b_Mill_link 12 = .ok (.irem, 1) := by decide +kernel
theorem d_Mill_link_13 : decode b_Mill_link 13 = .ok (.ifCond .ne 12, 3) := by decide +kernel
theorem d_Mill_link_16 : decode b_Mill_link 16 = .ok (.iload_n 2, 1) := by decide +kernel
theorem d_Mill_link_17 : decode b_Mill_link 17 = .ok (.bipush 16, 2) := by decide +kernel
theorem d_Mill_link_19 : decode b_Mill_link 19 = .ok (.invokestatic 30, 3) := by decide +kernel
theorem d_Mill_link_22 : decode b_Mill_link 22 = .ok (.ifCond .ne 11, 3) := by decide +kernel
theorem d_Mill_link_25 : decode b_Mill_link 25 = .ok (.new 40, 3) := by decide +kernel
theorem d_Mill_link_28 : decode b_Mill_link 28 = .ok (.dup, 1) := by decide +kernel
theorem d_Mill_link_29 : decode b_Mill_link 29 = .ok (.invokespecial 42, 3) := by decide +kernel
theorem d_Mill_link_32 : decode b_Mill_link 32 = .ok (.athrow, 1) := by decide +kernel
theorem d_Mill_link_33 : decode b_Mill_link 33 = .ok (.aload_n 0, 1) := by decide +kernel
theorem d_Mill_link_34 : decode b_Mill_link 34 = .ok (.getfield 10, 3) := by decide +kernel
theorem d_Mill_link_37 : decode b_Mill_link 37 = .ok (.aload_n 0, 1) := by decide +kernel
theorem d_Mill_link_38 : decode b_Mill_link 38 = .ok (.getfield 19, 3) := by decide +kernel
theorem d_Mill_link_41 : decode b_Mill_link 41 = .ok (.iload_n 1, 1) := by decide +kernel
theorem d_Mill_link_42 : decode b_Mill_link 42 = .ok (.iload_n 2, 1) := by decide +kernel
theorem d_Mill_link_43 : decode b_Mill_link 43 = .ok (.invokevirtual 105, 3) := by decide +kernel
theorem d_Mill_link_46 : decode b_Mill_link 46 = .ok (.ireturn, 1) := by decide +kernel
theorem d_Mill_image_0 : decode b_Mill_image 0 = .ok (.iload_n 1, 1) := by decide +kernel
theorem d_Mill_image_1 : decode b_Mill_image 1 = .ok (.aload_n 0, 1) := by decide +kernel
theorem d_Mill_image_2 : decode b_Mill_image 2 = .ok (.getfield 19, 3) := by decide +kernel
theorem d_Mill_image_5 : decode b_Mill_image 5 = .ok (.getfield 109, 3) := by decide +kernel
theorem d_Mill_image_8 : decode b_Mill_image 8 = .ok (.invokestatic 30, 3) := by decide +kernel
theorem d_Mill_image_11 : decode b_Mill_image 11 = .ok (.ifCond .eq 15, 3) := by decide +kernel
theorem d_Mill_image_14 : decode b_Mill_image 14 = .ok (.aload_n 0, 1) := by decide +kernel
theorem d_Mill_image_15 : decode b_Mill_image 15 = .ok (.getfield 19, 3) := by decide +kernel
theorem d_Mill_image_18 : decode b_Mill_image 18 = .ok (.getfield 112, 3) := by decide +kernel
theorem d_Mill_image_21 : decode b_Mill_image 21 = .ok (.iload_n 1, 1) := by decide +kernel
theorem d_Mill_image_22 : decode b_Mill_image 22 = .ok (.iaload, 1) := by decide +kernel
theorem d_Mill_image_23 : decode b_Mill_image 23 = .ok (.goto 4, 3) := by decide +kernel
theorem d_Mill_image_26 : decode b_Mill_image 26 = .ok (.iconst (-1), 1) := by decide +kernel
theorem d_Mill_image_27 : decode b_Mill_image 27 = .ok (.ireturn, 1) := by decide +kernel
theorem d_Mill_alter_0 : decode b_Mill_alter 0 = .ok (.iload_n 1, 1) := by decide +kernel
theorem d_Mill_alter_1 : decode b_Mill_alter 1 = .ok (.aload_n 0, 1) := by decide +kernel
theorem d_Mill_alter_2 : decode b_Mill_alter 2 = .ok (.getfield 19, 3) := by decide +kernel
theorem d_Mill_alter_5 : decode b_Mill_alter 5 = .ok (.getfield 109, 3) := by decide +kernel
theorem d_Mill_alter_8 : decode b_Mill_alter 8 = .ok (.invokestatic 30, 3) := by decide +kernel
theorem d_Mill_alter_11 : decode b_Mill_alter 11 = .ok (.ifCond .eq 13, 3) := by decide +kernel
theorem d_Mill_alter_14 : decode b_Mill_alter 14 = .ok (.iload_n 2, 1) := by decide +kernel
theorem d_Mill_alter_15 : decode b_Mill_alter 15 = .ok (.sipush 256, 3) := by decide +kernel
theorem d_Mill_alter_18 : decode b_Mill_alter 18 = .ok (.invokestatic 30, 3) := by decide +kernel
theorem d_Mill_alter_21 : decode b_Mill_alter 21 = .ok (.ifCond .ne 11, 3) := by decide +kernel
theorem d_Mill_alter_24 : decode b_Mill_alter 24 = .ok (.new 40, 3) := by decide +kernel
theorem d_Mill_alter_27 : decode b_Mill_alter 27 = .ok (.dup, 1) := by decide +kernel
theorem d_Mill_alter_28 : decode b_Mill_alter 28 = .ok (.invokespecial 42, 3) := by decide +kernel
theorem d_Mill_alter_31 : decode b_Mill_alter 31 = .ok (.athrow, 1) := by decide +kernel
theorem d_Mill_alter_32 : decode b_Mill_alter 32 = .ok (.aload_n 0, 1) := by decide +kernel
theorem d_Mill_alter_33 : decode b_Mill_alter 33 = .ok (.getfield 19, 3) := by decide +kernel
theorem d_Mill_alter_36 : decode b_Mill_alter 36 = .ok (.getfield 112, 3) := by decide +kernel
theorem d_Mill_alter_39 : decode b_Mill_alter 39 = .ok (.iload_n 1, 1) := by decide +kernel
theorem d_Mill_alter_40 : decode b_Mill_alter 40 = .ok (.iload_n 2, 1) := by decide +kernel
theorem d_Mill_alter_41 : decode b_Mill_alter 41 = .ok (.iastore, 1) := by decide +kernel
theorem d_Mill_alter_42 : decode b_Mill_alter 42 = .ok (.iconst 1, 1) := by decide +kernel
theorem d_Mill_alter_43 : decode b_Mill_alter 43 = .ok (.ireturn, 1) := by decide +kernel
theorem d_Mill_stretch_0 : decode b_Mill_stretch 0 = .ok (.aload_n 0, 1) := by decide +kernel
theorem d_Mill_stretch_1 : decode b_Mill_stretch 1 = .ok (.getfield 19, 3) := by decide +kernel
theorem d_Mill_stretch_4 : decode b_Mill_stretch 4 = .ok (.getfield 109, 3) := by decide +kernel
theorem d_Mill_stretch_7 : decode b_Mill_stretch 7 = .ok (.i2l, 1) := by decide +kernel
theorem d_Mill_stretch_8 : decode b_Mill_stretch 8 = .ok (.iload_n 1, 1) := by decide +kernel
theorem d_Mill_stretch_9 : decode b_Mill_stretch 9 = .ok (.i2l, 1) := by decide +kernel
theorem d_Mill_stretch_10 : decode b_Mill_stretch 10 = .ok (.ladd, 1) := by decide +kernel
theorem d_Mill_stretch_11 : decode b_Mill_stretch 11 = .ok (.lstore_n 2, 1) := by decide +kernel
theorem d_Mill_stretch_12 : decode b_Mill_stretch 12 = .ok (.lload_n 2, 1) := by decide +kernel
theorem d_Mill_stretch_13 : decode b_Mill_stretch 13 = .ok (.lconst 0, 1) := by decide +kernel
theorem d_Mill_stretch_14 : decode b_Mill_stretch 14 = .ok (.lcmp, 1) := by decide +kernel
theorem d_Mill_stretch_15 : decode b_Mill_stretch 15 = .ok (.ifCond .lt 11, 3) := by decide +kernel
theorem d_Mill_stretch_18 : decode b_Mill_stretch 18 = .ok (.lload_n 2, 1) := by decide +kernel
theorem d_Mill_stretch_19 : decode b_Mill_stretch 19 = .ok (.ldc2_w 116, 3) := by decide +kernel
theorem d_Mill_stretch_22 : decode b_Mill_stretch 22 = .ok (.lcmp, 1) := by decide +kernel
theorem d_Mill_stretch_23 : decode b_Mill_stretch 23 = .ok (.ifCond .le 11, 3) := by decide +kernel
theorem d_Mill_stretch_26 : decode b_Mill_stretch 26 = .ok (.new 40, 3) := by decide +kernel
theorem d_Mill_stretch_29 : decode b_Mill_stretch 29 = .ok (.dup, 1) := by decide +kernel
theorem d_Mill_stretch_30 : decode b_Mill_stretch 30 = .ok (.invokespecial 42, 3) := by decide +kernel
theorem d_Mill_stretch_33 : decode b_Mill_stretch 33 = .ok (.athrow, 1) := by decide +kernel
theorem d_Mill_stretch_34 : decode b_Mill_stretch 34 = .ok (.aload_n 0, 1) := by decide +kernel
theorem d_Mill_stretch_35 : decode b_Mill_stretch 35 = .ok (.getfield 19, 3) := by decide +kernel
theorem d_Mill_stretch_38 : decode b_Mill_stretch 38 = .ok (.lload_n 2, 1) := by decide +kernel
theorem d_Mill_stretch_39 : decode b_Mill_stretch 39 = .ok (.l2i, 1) := by decide +kernel
theorem d_Mill_stretch_40 : decode b_Mill_stretch 40 = .ok (.invokevirtual 118, 3) := by decide +kernel
theorem d_Mill_stretch_43 : decode b_Mill_stretch 43 = .ok (.aload_n 0, 1) := by decide +kernel
theorem d_Mill_stretch_44 : decode b_Mill_stretch 44 = .ok (.getfield 19, 3) := by decide +kernel
theorem d_Mill_stretch_47 : decode b_Mill_stretch 47 = .ok (.getfield 109, 3) := by decide +kernel
theorem d_Mill_stretch_50 : decode b_Mill_stretch 50 = .ok (.ireturn, 1) := by decide +kernel
theorem d_Mill_read_0 : decode b_Mill_read 0 = .ok (.aload_n 0, 1) := by decide +kernel
theorem d_Mill_read_1 : decode b_Mill_read 1 = .ok (.getfield 19, 3) := by decide +kernel
theorem d_Mill_read_4 : decode b_Mill_read 4 = .ok (.invokestatic 122, 3) := by decide +kernel
theorem d_Mill_read_7 : decode b_Mill_read 7 = .ok (.istore_n 1, 1) := by decide +kernel
theorem d_Mill_read_8 : decode b_Mill_read 8 = .ok (.iload_n 1, 1) := by decide +kernel
theorem d_Mill_read_9 : decode b_Mill_read 9 = .ok (.ifCond .ne 14, 3) := by decide +kernel
theorem d_Mill_read_12 : decode b_Mill_read 12 = .ok (.aload_n 0, 1) := by decide +kernel
theorem d_Mill_read_13 : decode b_Mill_read 13 = .ok (.getfield 26, 3) := by decide +kernel
theorem d_Mill_read_16 : decode b_Mill_read 16 = .ok (.aload_n 0, 1) := by decide +kernel
theorem d_Mill_read_17 : decode b_Mill_read 17 = .ok (.getfield 19, 3) := by decide +kernel
theorem d_Mill_read_20 : decode b_Mill_read 20 = .ok (.invokevirtual 128, 3) := by decide +kernel
theorem d_Mill_read_23 : decode b_Mill_read 23 = .ok (.iload_n 1, 1) := by decide +kernel
theorem d_Mill_read_24 : decode b_Mill_read 24 = .ok (.ireturn, 1) := by decide +kernel
theorem d_Mill_run_0 : decode b_Mill_run 0 = .ok (.iload_n 1, 1) := by decide +kernel
theorem d_Mill_run_1 : decode b_Mill_run 1 = .ok (.iconst 1, 1) := by decide +kernel
theorem d_Mill_run_2 : decode b_Mill_run 2 = .ok (.if_icmp .lt 10, 3) := by decide +kernel
theorem d_Mill_run_5 : decode b_Mill_run 5 = .ok (.iload_n 1, 1) := by decide +kernel
theorem d_Mill_run_6 : decode b_Mill_run 6 = .ok (.sipush 500, 3) := by decide +kernel
theorem d_Mill_run_9 : decode b_Mill_run 9 = .ok (.if_icmp .le 11, 3) := by decide +kernel
theorem d_Mill_run_12 : decode b_Mill_run 12 = .ok (.new 40, 3) := by decide +kernel
theorem d_Mill_run_15 : decode b_Mill_run 15 = .ok (.dup, 1) := by decide +kernel
theorem d_Mill_run_16 : decode b_Mill_run 16 = .ok (.invokespecial 42, 3) := by decide +kernel
theorem d_Mill_run_19 : decode b_Mill_run 19 = .ok (.athrow, 1) := by decide +kernel
theorem d_Mill_run_20 : decode b_Mill_run 20 = .ok (.aload_n 0, 1) := by decide +kernel
theorem d_Mill_run_21 : decode b_Mill_run 21 = .ok (.getfield 26, 3) := by decide +kernel
theorem d_Mill_run_24 : decode b_Mill_run 24 = .ok (.getfield 132, 3) := by decide +kernel
theorem d_Mill_run_27 : decode b_Mill_run 27 = .ok (.ifCond .ne 11, 3) := by decide +kernel
theorem d_Mill_run_30 : decode b_Mill_run 30 = .ok (.new 59, 3) := by decide +kernel
theorem d_Mill_run_33 : decode b_Mill_run 33 = .ok (.dup, 1) := by decide +kernel
theorem d_Mill_run_34 : decode b_Mill_run 34 = .ok (.invokespecial 61, 3) := by decide +kernel
theorem d_Mill_run_37 : decode b_Mill_run 37 = .ok (.athrow, 1) := by decide +kernel
theorem d_Mill_run_38 : decode b_Mill_run 38 = .ok (.aload_n 0, 1) := by decide +kernel
theorem d_Mill_run_39 : decode b_Mill_run 39 = .ok (.getfield 26, 3) := by decide +kernel
theorem d_Mill_run_42 : decode b_Mill_run 42 = .ok (.iload_n 1, 1) := by decide +kernel
theorem d_Mill_run_43 : decode b_Mill_run 43 = .ok (.invokevirtual 135, 3) := by decide +kernel
theorem d_Mill_run_46 : decode b_Mill_run 46 = .ok (.ireturn, 1) := by decide +kernel
theorem d_Mill_value_0 : decode b_Mill_value 0 = .ok (.iload_n 1, 1) := by decide +kernel
theorem d_Mill_value_1 : decode b_Mill_value 1 = .ok (.bipush 16, 2) := by decide +kernel
theorem d_Mill_value_3 : decode b_Mill_value 3 = .ok (.invokestatic 30, 3) := by decide +kernel
theorem d_Mill_value_6 : decode b_Mill_value 6 = .ok (.ifCond .eq 15, 3) := by decide +kernel
theorem d_Mill_value_9 : decode b_Mill_value 9 = .ok (.aload_n 0, 1) := by decide +kernel
theorem d_Mill_value_10 : decode b_Mill_value 10 = .ok (.getfield 10, 3) := by decide +kernel
theorem d_Mill_value_13 : decode b_Mill_value 13 = .ok (.getfield 138, 3) := by decide +kernel
theorem d_Mill_value_16 : decode b_Mill_value 16 = .ok (.iload_n 1, 1) := by decide +kernel
theorem d_Mill_value_17 : decode b_Mill_value 17 = .ok (.iaload, 1) := by decide +kernel
theorem d_Mill_value_18 : decode b_Mill_value 18 = .ok (.goto 4, 3) := by decide +kernel
theorem d_Mill_value_21 : decode b_Mill_value 21 = .ok (.iconst (-1), 1) := by decide +kernel
theorem d_Mill_value_22 : decode b_Mill_value 22 = .ok (.ireturn, 1) := by decide +kernel
theorem d_Mill_register_0 : decode b_Mill_register 0 = .ok (.iload_n 1, 1) := by decide +kernel
theorem d_Mill_register_1 : decode b_Mill_register 1 = .ok (.bipush 32, 2) := by decide +kernel
theorem d_Mill_register_3 : decode b_Mill_register 3 = .ok (.invokestatic 30, 3) := by decide +kernel
theorem d_Mill_register_6 : decode b_Mill_register 6 = .ok (.ifCond .eq 15, 3) := by decide +kernel
theorem d_Mill_register_9 : decode b_Mill_register 9 = .ok (.aload_n 0, 1) := by decide +kernel
theorem d_Mill_register_10 : decode b_Mill_register 10 = .ok (.getfield 26, 3) := by decide +kernel
theorem d_Mill_register_13 : decode b_Mill_register 13 = .ok (.getfield 141, 3) := by decide +kernel
theorem d_Mill_register_16 : decode b_Mill_register 16 = .ok (.iload_n 1, 1) := by decide +kernel
theorem d_Mill_register_17 : decode b_Mill_register 17 = .ok (.iaload, 1) := by decide +kernel
theorem d_Mill_register_18 : decode b_Mill_register 18 = .ok (.goto 4, 3) := by decide +kernel
theorem d_Mill_register_21 : decode b_Mill_register 21 = .ok (.iconst 0, 1) := by decide +kernel
theorem d_Mill_register_22 : decode b_Mill_register 22 = .ok (.ireturn, 1) := by decide +kernel
theorem d_Mill_memory_0 : decode b_Mill_memory 0 = .ok (.aload_n 0, 1) := by decide +kernel
theorem d_Mill_memory_1 : decode b_Mill_memory 1 = .ok (.getfield 26, 3) := by decide +kernel
theorem d_Mill_memory_4 : decode b_Mill_memory 4 = .ok (.iload_n 1, 1) := by decide +kernel
theorem d_Mill_memory_5 : decode b_Mill_memory 5 = .ok (.invokevirtual 144, 3) := by decide +kernel
theorem d_Mill_memory_8 : decode b_Mill_memory 8 = .ok (.istore_n 2, 1) := by decide +kernel
theorem d_Mill_memory_9 : decode b_Mill_memory 9 = .ok (.iload_n 2, 1) := by decide +kernel
theorem d_Mill_memory_10 : decode b_Mill_memory 10 = .ok (.iconst (-1), 1) := by decide +kernel
theorem d_Mill_memory_11 : decode b_Mill_memory 11 = .ok (.if_icmp .ne 11, 3) := by decide +kernel
theorem d_Mill_memory_14 : decode b_Mill_memory 14 = .ok (.new 147, 3) := by decide +kernel
theorem d_Mill_memory_17 : decode b_Mill_memory 17 = .ok (.dup, 1) := by decide +kernel
theorem d_Mill_memory_18 : decode b_Mill_memory 18 = .ok (.invokespecial 149, 3) := by decide +kernel
theorem d_Mill_memory_21 : decode b_Mill_memory 21 = .ok (.athrow, 1) := by decide +kernel
theorem d_Mill_memory_22 : decode b_Mill_memory 22 = .ok (.aload_n 0, 1) := by decide +kernel
theorem d_Mill_memory_23 : decode b_Mill_memory 23 = .ok (.getfield 26, 3) := by decide +kernel
theorem d_Mill_memory_26 : decode b_Mill_memory 26 = .ok (.getfield 150, 3) := by decide +kernel
theorem d_Mill_memory_29 : decode b_Mill_memory 29 = .ok (.iload_n 2, 1) := by decide +kernel
theorem d_Mill_memory_30 : decode b_Mill_memory 30 = .ok (.iaload, 1) := by decide +kernel
theorem d_Mill_memory_31 : decode b_Mill_memory 31 = .ok (.ireturn, 1) := by decide +kernel
theorem d_Mill_shown_0 : decode b_Mill_shown 0 = .ok (.aload_n 0, 1) := by decide +kernel
theorem d_Mill_shown_1 : decode b_Mill_shown 1 = .ok (.getfield 26, 3) := by decide +kernel
theorem d_Mill_shown_4 : decode b_Mill_shown 4 = .ok (.iload_n 1, 1) := by decide +kernel
theorem d_Mill_shown_5 : decode b_Mill_shown 5 = .ok (.invokevirtual 153, 3) := by decide +kernel
theorem d_Mill_shown_8 : decode b_Mill_shown 8 = .ok (.ireturn, 1) := by decide +kernel
theorem d_Mill_about_0 : decode b_Mill_about 0 = .ok (.iload_n 1, 1) := by decide +kernel
theorem d_Mill_about_1 : decode b_Mill_about 1 = .ok (.tableswitch 75 0 4 #[35, 43, 51, 59, 67], 35) := by decide +kernel
theorem d_Mill_about_36 : decode b_Mill_about 36 = .ok (.aload_n 0, 1) := by decide +kernel
theorem d_Mill_about_37 : decode b_Mill_about 37 = .ok (.getfield 19, 3) := by decide +kernel
theorem d_Mill_about_40 : decode b_Mill_about 40 = .ok (.getfield 109, 3) := by decide +kernel
theorem d_Mill_about_43 : decode b_Mill_about 43 = .ok (.ireturn, 1) := by decide +kernel
theorem d_Mill_about_44 : decode b_Mill_about 44 = .ok (.aload_n 0, 1) := by decide +kernel
theorem d_Mill_about_45 : decode b_Mill_about 45 = .ok (.getfield 26, 3) := by decide +kernel
theorem d_Mill_about_48 : decode b_Mill_about 48 = .ok (.getfield 132, 3) := by decide +kernel
theorem d_Mill_about_51 : decode b_Mill_about 51 = .ok (.ireturn, 1) := by decide +kernel
theorem d_Mill_about_52 : decode b_Mill_about 52 = .ok (.aload_n 0, 1) := by decide +kernel
theorem d_Mill_about_53 : decode b_Mill_about 53 = .ok (.getfield 26, 3) := by decide +kernel
theorem d_Mill_about_56 : decode b_Mill_about 56 = .ok (.getfield 156, 3) := by decide +kernel
theorem d_Mill_about_59 : decode b_Mill_about 59 = .ok (.ireturn, 1) := by decide +kernel
theorem d_Mill_about_60 : decode b_Mill_about 60 = .ok (.aload_n 0, 1) := by decide +kernel
theorem d_Mill_about_61 : decode b_Mill_about 61 = .ok (.getfield 26, 3) := by decide +kernel
theorem d_Mill_about_64 : decode b_Mill_about 64 = .ok (.getfield 159, 3) := by decide +kernel
theorem d_Mill_about_67 : decode b_Mill_about 67 = .ok (.ireturn, 1) := by decide +kernel
theorem d_Mill_about_68 : decode b_Mill_about 68 = .ok (.aload_n 0, 1) := by decide +kernel
theorem d_Mill_about_69 : decode b_Mill_about 69 = .ok (.getfield 26, 3) := by decide +kernel
theorem d_Mill_about_72 : decode b_Mill_about 72 = .ok (.getfield 162, 3) := by decide +kernel
theorem d_Mill_about_75 : decode b_Mill_about 75 = .ok (.ireturn, 1) := by decide +kernel
theorem d_Mill_about_76 : decode b_Mill_about 76 = .ok (.iconst (-1), 1) := by decide +kernel
theorem d_Mill_about_77 : decode b_Mill_about 77 = .ok (.ireturn, 1) := by decide +kernel
theorem d_Mill_object_0 : decode b_Mill_object 0 = .ok (.iload_n 1, 1) := by decide +kernel
theorem d_Mill_object_1 : decode b_Mill_object 1 = .ok (.iconst 4, 1) := by decide +kernel
theorem d_Mill_object_2 : decode b_Mill_object 2 = .ok (.invokestatic 30, 3) := by decide +kernel
theorem d_Mill_object_5 : decode b_Mill_object 5 = .ok (.ifCond .ne 5, 3) := by decide +kernel
theorem d_Mill_object_8 : decode b_Mill_object 8 = .ok (.iconst (-1), 1) := by decide +kernel
theorem d_Mill_object_9 : decode b_Mill_object 9 = .ok (.ireturn, 1) := by decide +kernel
theorem d_Mill_object_10 : decode b_Mill_object 10 = .ok (.aload_n 0, 1) := by decide +kernel
theorem d_Mill_object_11 : decode b_Mill_object 11 = .ok (.getfield 10, 3) := by decide +kernel
theorem d_Mill_object_14 : decode b_Mill_object 14 = .ok (.getfield 43, 3) := by decide +kernel
theorem d_Mill_object_17 : decode b_Mill_object 17 = .ok (.iload_n 1, 1) := by decide +kernel
theorem d_Mill_object_18 : decode b_Mill_object 18 = .ok (.aaload, 1) := by decide +kernel
theorem d_Mill_object_19 : decode b_Mill_object 19 = .ok (.astore_n 3, 1) := by decide +kernel
theorem d_Mill_object_20 : decode b_Mill_object 20 = .ok (.iload_n 2, 1) := by decide +kernel
theorem d_Mill_object_21 : decode b_Mill_object 21 = .ok (.tableswitch 57 0 3 #[31, 39, 47, 52], 31) := by decide +kernel
theorem d_Mill_object_52 : decode b_Mill_object 52 = .ok (.aload_n 3, 1) := by decide +kernel
theorem d_Mill_object_53 : decode b_Mill_object 53 = .ok (.getfield 47, 3) := by decide +kernel
theorem d_Mill_object_56 : decode b_Mill_object 56 = .ok (.getfield 81, 3) := by decide +kernel
theorem d_Mill_object_59 : decode b_Mill_object 59 = .ok (.ireturn, 1) := by decide +kernel
theorem d_Mill_object_60 : decode b_Mill_object 60 = .ok (.aload_n 3, 1) := by decide +kernel
theorem d_Mill_object_61 : decode b_Mill_object 61 = .ok (.getfield 70, 3) := by decide +kernel
theorem d_Mill_object_64 : decode b_Mill_object 64 = .ok (.getfield 81, 3) := by decide +kernel
theorem d_Mill_object_67 : decode b_Mill_object 67 = .ok (.ireturn, 1) := by decide +kernel
theorem d_Mill_object_68 : decode b_Mill_object 68 = .ok (.aload_n 3, 1) := by decide +kernel
theorem d_Mill_object_69 : decode b_Mill_object 69 = .ok (.getfield 85, 3) := by decide +kernel
theorem d_Mill_object_72 : decode b_Mill_object 72 = .ok (.ireturn, 1) := by decide +kernel
theorem d_Mill_object_73 : decode b_Mill_object 73 = .ok (.aload_n 3, 1) := by decide +kernel
theorem d_Mill_object_74 : decode b_Mill_object 74 = .ok (.getfield 94, 3) := by decide +kernel
theorem d_Mill_object_77 : decode b_Mill_object 77 = .ok (.ireturn, 1) := by decide +kernel
theorem d_Mill_object_78 : decode b_Mill_object 78 = .ok (.iconst (-1), 1) := by decide +kernel
theorem d_Mill_object_79 : decode b_Mill_object 79 = .ok (.ireturn, 1) := by decide +kernel
