theorem d_Model_thrown_0 : decode b_Model_thrown 0 = .ok (.aload_n 0, 1) := by decide +kernel
theorem d_Model_thrown_1 : decode b_Model_thrown 1 = .ok (.getfield 74, 3) := by decide +kernel
theorem d_Model_thrown_4 : decode b_Model_thrown 4 = .ok (.ireturn, 1) := by decide +kernel
theorem d_Model_within_0 : decode b_Model_within 0 = .ok (.iload_n 0, 1) := by decide +kernel
theorem d_Model_within_1 : decode b_Model_within 1 = .ok (.iload_n 1, 1) := by decide +kernel
theorem d_Model_within_2 : decode b_Model_within 2 = .ok (.if_icmp .lt 12, 3) := by decide +kernel
theorem d_Model_within_5 : decode b_Model_within 5 = .ok (.iload_n 0, 1) := by decide +kernel
theorem d_Model_within_6 : decode b_Model_within 6 = .ok (.iload_n 2, 1) := by decide +kernel
theorem d_Model_within_7 : decode b_Model_within 7 = .ok (.if_icmp .gt 7, 3) := by decide +kernel
theorem d_Model_within_10 : decode b_Model_within 10 = .ok (.iconst 1, 1) := by decide +kernel
theorem d_Model_within_11 : decode b_Model_within 11 = .ok (.goto 4, 3) := by decide +kernel
theorem d_Model_within_14 : decode b_Model_within 14 = .ok (.iconst 0, 1) := by decide +kernel
theorem d_Model_within_15 : decode b_Model_within 15 = .ok (.ireturn, 1) := by decide +kernel
theorem d_Model_placeOf_0 : decode b_Model_placeOf 0 = .ok (.iload_n 0, 1) := by decide +kernel
theorem d_Model_placeOf_1 : decode b_Model_placeOf 1 = .ok (.bipush 16, 2) := by decide +kernel
theorem d_Model_placeOf_3 : decode b_Model_placeOf 3 = .ok (.if_icmp .ne 8, 3) := by decide +kernel
theorem d_Model_placeOf_6 : decode b_Model_placeOf 6 = .ok (.bipush 10, 2) := by decide +kernel
theorem d_Model_placeOf_8 : decode b_Model_placeOf 8 = .ok (.goto 46, 3) := by decide +kernel
theorem d_Model_placeOf_11 : decode b_Model_placeOf 11 = .ok (.iload_n 0, 1) := by decide +kernel
theorem d_Model_placeOf_12 : decode b_Model_placeOf 12 = .ok (.iconst 1, 1) := by decide +kernel
theorem d_Model_placeOf_13 : decode b_Model_placeOf 13 = .ok (.if_icmp .ne 8, 3) := by decide +kernel
theorem d_Model_placeOf_16 : decode b_Model_placeOf 16 = .ok (.bipush 12, 2) := by decide +kernel
theorem d_Model_placeOf_18 : decode b_Model_placeOf 18 = .ok (.goto 36, 3) := by decide +kernel
theorem d_Model_placeOf_21 : decode b_Model_placeOf 21 = .ok (.iload_n 0, 1) := by decide +kernel
theorem d_Model_placeOf_22 : decode b_Model_placeOf 22 = .ok (.iconst 3, 1) := by decide +kernel
theorem d_Model_placeOf_23 : decode b_Model_placeOf 23 = .ok (.if_icmp .lt 14, 3) := by decide +kernel
theorem d_Model_placeOf_26 : decode b_Model_placeOf 26 = .ok (.iload_n 0, 1) := by decide +kernel
theorem d_Model_placeOf_27 : decode b_Model_placeOf 27 = .ok (.bipush 10, 2) := by decide +kernel
theorem d_Model_placeOf_29 : decode b_Model_placeOf 29 = .ok (.if_icmp .gt 8, 3) := by decide +kernel
theorem d_Model_placeOf_32 : decode b_Model_placeOf 32 = .ok (.bipush 15, 2) := by decide +kernel
theorem d_Model_placeOf_34 : decode b_Model_placeOf 34 = .ok (.goto 20, 3) := by decide +kernel
theorem d_Model_placeOf_37 : decode b_Model_placeOf 37 = .ok (.iload_n 0, 1) := by decide +kernel
theorem d_Model_placeOf_38 : decode b_Model_placeOf 38 = .ok (.ifCond .eq 9, 3) := by decide +kernel
theorem d_Model_placeOf_41 : decode b_Model_placeOf 41 = .ok (.iload_n 0, 1) := by decide +kernel
theorem d_Model_placeOf_42 : decode b_Model_placeOf 42 = .ok (.bipush 18, 2) := by decide +kernel
theorem d_Model_placeOf_44 : decode b_Model_placeOf 44 = .ok (.if_icmp .ne 8, 3) := by decide +kernel
theorem d_Model_placeOf_47 : decode b_Model_placeOf 47 = .ok (.bipush 32, 2) := by decide +kernel
theorem d_Model_placeOf_49 : decode b_Model_placeOf 49 = .ok (.goto 5, 3) := by decide +kernel
theorem d_Model_placeOf_52 : decode b_Model_placeOf 52 = .ok (.bipush 20, 2) := by decide +kernel
theorem d_Model_placeOf_54 : decode b_Model_placeOf 54 = .ok (.ireturn, 1) := by decide +kernel
theorem d_Model_fits_0 : decode b_Model_fits 0 = .ok (.iload_n 0, 1) := by decide +kernel
theorem d_Model_fits_1 : decode b_Model_fits 1 = .ok (.iconst 1, 1) := by decide +kernel
theorem d_Model_fits_2 : decode b_Model_fits 2 = .ok (.iload_n 1, 1) := by decide +kernel
theorem d_Model_fits_3 : decode b_Model_fits 3 = .ok (.iconst 1, 1) := by decide +kernel
theorem d_Model_fits_4 : decode b_Model_fits 4 = .ok (.isub, 1) := by decide +kernel
theorem d_Model_fits_5 : decode b_Model_fits 5 = .ok (.ishl, 1) := by decide +kernel
theorem d_Model_fits_6 : decode b_Model_fits 6 = .ok (.ineg, 1) := by decide +kernel
theorem d_Model_fits_7 : decode b_Model_fits 7 = .ok (.if_icmp .lt 16, 3) := by decide +kernel
theorem d_Model_fits_10 : decode b_Model_fits 10 = .ok (.iload_n 0, 1) := by decide +kernel
theorem d_Model_fits_11 : decode b_Model_fits 11 = .ok (.iconst 1, 1) := by decide +kernel
theorem d_Model_fits_12 : decode b_Model_fits 12 = .ok (.iload_n 1, 1) := by decide +kernel
theorem d_Model_fits_13 : decode b_Model_fits 13 = .ok (.iconst 1, 1) := by decide +kernel
theorem d_Model_fits_14 : decode b_Model_fits 14 = .ok (.isub, 1) := by decide +kernel
theorem d_Model_fits_15 : decode b_Model_fits 15 = .ok (.ishl, 1) := by decide +kernel
theorem d_Model_fits_16 : decode b_Model_fits 16 = .ok (.if_icmp .ge 7, 3) := by decide +kernel
theorem d_Model_fits_19 : decode b_Model_fits 19 = .ok (.iconst 1, 1) := by decide +kernel
theorem d_Model_fits_20 : decode b_Model_fits 20 = .ok (.goto 4, 3) := by decide +kernel
theorem d_Model_fits_23 : decode b_Model_fits 23 = .ok (.iconst 0, 1) := by decide +kernel
theorem d_Model_fits_24 : decode b_Model_fits 24 = .ok (.ireturn, 1) := by decide +kernel
theorem d_Model_isC_0 : decode b_Model_isC 0 = .ok (.iload_n 0, 1) := by decide +kernel
theorem d_Model_isC_1 : decode b_Model_isC 1 = .ok (.invokestatic 78, 3) := by decide +kernel
theorem d_Model_isC_4 : decode b_Model_isC 4 = .ok (.istore_n 2, 1) := by decide +kernel
theorem d_Model_isC_5 : decode b_Model_isC 5 = .ok (.iload_n 2, 1) := by decide +kernel
theorem d_Model_isC_6 : decode b_Model_isC 6 = .ok (.bipush 32, 2) := by decide +kernel
theorem d_Model_isC_8 : decode b_Model_isC 8 = .ok (.if_icmp .eq 33, 3) := by decide +kernel
theorem d_Model_isC_11 : decode b_Model_isC 11 = .ok (.iload_n 2, 1) := by decide +kernel
theorem d_Model_isC_12 : decode b_Model_isC 12 = .ok (.bipush 15, 2) := by decide +kernel
theorem d_Model_isC_14 : decode b_Model_isC 14 = .ok (.if_icmp .ne 16, 3) := by decide +kernel
theorem d_Model_isC_17 : decode b_Model_isC 17 = .ok (.iload_n 1, 1) := by decide +kernel
theorem d_Model_isC_18 : decode b_Model_isC 18 = .ok (.iconst 0, 1) := by decide +kernel
theorem d_Model_isC_19 : decode b_Model_isC 19 = .ok (.bipush 31, 2) := by decide +kernel
theorem d_Model_isC_21 : decode b_Model_isC 21 = .ok (.invokestatic 82, 3) := by decide +kernel
theorem d_Model_isC_24 : decode b_Model_isC 24 = .ok (.ifCond .eq 21, 3) := by decide +kernel
theorem d_Model_isC_27 : decode b_Model_isC 27 = .ok (.goto 14, 3) := by decide +kernel
theorem d_Model_isC_30 : decode b_Model_isC 30 = .ok (.iload_n 1, 1) := by decide +kernel
theorem d_Model_isC_31 : decode b_Model_isC 31 = .ok (.bipush 32, 2) := by decide +kernel
theorem d_Model_isC_33 : decode b_Model_isC 33 = .ok (.iload_n 2, 1) := by decide +kernel
theorem d_Model_isC_34 : decode b_Model_isC 34 = .ok (.isub, 1) := by decide +kernel
theorem d_Model_isC_35 : decode b_Model_isC 35 = .ok (.invokestatic 86, 3) := by decide +kernel
theorem d_Model_isC_38 : decode b_Model_isC 38 = .ok (.ifCond .eq 7, 3) := by decide +kernel
theorem d_Model_isC_41 : decode b_Model_isC 41 = .ok (.iconst 1, 1) := by decide +kernel
theorem d_Model_isC_42 : decode b_Model_isC 42 = .ok (.goto 4, 3) := by decide +kernel
theorem d_Model_isC_45 : decode b_Model_isC 45 = .ok (.iconst 0, 1) := by decide +kernel
theorem d_Model_isC_46 : decode b_Model_isC 46 = .ok (.ireturn, 1) := by decide +kernel
theorem d_Model_packed_0 : decode b_Model_packed 0 = .ok (.iload_n 0, 1) := by decide +kernel
theorem d_Model_packed_1 : decode b_Model_packed 1 = .ok (.invokestatic 78, 3) := by decide +kernel
theorem d_Model_packed_4 : decode b_Model_packed 4 = .ok (.istore 4, 2) := by decide +kernel
theorem d_Model_packed_6 : decode b_Model_packed 6 = .ok (.iload_n 0, 1) := by decide +kernel
theorem d_Model_packed_7 : decode b_Model_packed 7 = .ok (.iload_n 0, 1) := by decide +kernel
theorem d_Model_packed_8 : decode b_Model_packed 8 = .ok (.ifCond .ne 7, 3) := by decide +kernel
theorem d_Model_packed_11 : decode b_Model_packed 11 = .ok (.iconst 0, 1) := by decide +kernel
theorem d_Model_packed_12 : decode b_Model_packed 12 = .ok (.goto 6, 3) := by decide +kernel
theorem d_Model_packed_15 : decode b_Model_packed 15 = .ok (.iload_n 1, 1) := by decide +kernel
theorem d_Model_packed_16 : decode b_Model_packed 16 = .ok (.iconst 5, 1) := by decide +kernel
theorem d_Model_packed_17 : decode b_Model_packed 17 = .ok (.ishl, 1) := by decide +kernel
theorem d_Model_packed_18 : decode b_Model_packed 18 = .ok (.ior, 1) := by decide +kernel
theorem d_Model_packed_19 : decode b_Model_packed 19 = .ok (.istore 5, 2) := by decide +kernel
theorem d_Model_packed_21 : decode b_Model_packed 21 = .ok (.iload_n 0, 1) := by decide +kernel
theorem d_Model_packed_22 : decode b_Model_packed 22 = .ok (.ifCond .eq 20, 3) := by decide +kernel
theorem d_Model_packed_25 : decode b_Model_packed 25 = .ok (.iload_n 0, 1) := by decide +kernel
theorem d_Model_packed_26 : decode b_Model_packed 26 = .ok (.iconst 1, 1) := by decide +kernel
theorem d_Model_packed_27 : decode b_Model_packed 27 = .ok (.if_icmp .eq 15, 3) := by decide +kernel
theorem d_Model_packed_30 : decode b_Model_packed 30 = .ok (.iload_n 0, 1) := by decide +kernel
theorem d_Model_packed_31 : decode b_Model_packed 31 = .ok (.bipush 16, 2) := by decide +kernel
theorem d_Model_packed_33 : decode b_Model_packed 33 = .ok (.if_icmp .eq 9, 3) := by decide +kernel
theorem d_Model_packed_36 : decode b_Model_packed 36 = .ok (.iload_n 0, 1) := by decide +kernel
theorem d_Model_packed_37 : decode b_Model_packed 37 = .ok (.bipush 18, 2) := by decide +kernel
theorem d_Model_packed_39 : decode b_Model_packed 39 = .ok (.if_icmp .ne 8, 3) := by decide +kernel
theorem d_Model_packed_42 : decode b_Model_packed 42 = .ok (.iload 5, 2) := by decide +kernel
theorem d_Model_packed_44 : decode b_Model_packed 44 = .ok (.goto 10, 3) := by decide +kernel
theorem d_Model_packed_47 : decode b_Model_packed 47 = .ok (.iload 5, 2) := by decide +kernel
theorem d_Model_packed_49 : decode b_Model_packed 49 = .ok (.iload_n 2, 1) := by decide +kernel
theorem d_Model_packed_50 : decode b_Model_packed 50 = .ok (.bipush 10, 2) := by decide +kernel
theorem d_Model_packed_52 : decode b_Model_packed 52 = .ok (.ishl, 1) := by decide +kernel
theorem d_Model_packed_53 : decode b_Model_packed 53 = .ok (.ior, 1) := by decide +kernel
theorem d_Model_packed_54 : decode b_Model_packed 54 = .ok (.istore 5, 2) := by decide +kernel
theorem d_Model_packed_56 : decode b_Model_packed 56 = .ok (.iload 4, 2) := by decide +kernel
theorem d_Model_packed_58 : decode b_Model_packed 58 = .ok (.bipush 32, 2) := by decide +kernel
theorem d_Model_packed_60 : decode b_Model_packed 60 = .ok (.if_icmp .ne 8, 3) := by decide +kernel
theorem d_Model_packed_63 : decode b_Model_packed 63 = .ok (.iload 5, 2) := by decide +kernel
theorem d_Model_packed_65 : decode b_Model_packed 65 = .ok (.goto 10, 3) := by decide +kernel
theorem d_Model_packed_68 : decode b_Model_packed 68 = .ok (.iload 5, 2) := by decide +kernel
theorem d_Model_packed_70 : decode b_Model_packed 70 = .ok (.iload_n 3, 1) := by decide +kernel
theorem d_Model_packed_71 : decode b_Model_packed 71 = .ok (.iload 4, 2) := by decide +kernel
theorem d_Model_packed_73 : decode b_Model_packed 73 = .ok (.ishl, 1) := by decide +kernel
theorem d_Model_packed_74 : decode b_Model_packed 74 = .ok (.ior, 1) := by decide +kernel
theorem d_Model_packed_75 : decode b_Model_packed 75 = .ok (.ireturn, 1) := by decide +kernel
theorem d_Model_put_0 : decode b_Model_put 0 = .ok (.iload_n 1, 1) := by decide +kernel
theorem d_Model_put_1 : decode b_Model_put 1 = .ok (.iconst 0, 1) := by decide +kernel
theorem d_Model_put_2 : decode b_Model_put 2 = .ok (.iconst 3, 1) := by decide +kernel
theorem d_Model_put_3 : decode b_Model_put 3 = .ok (.invokestatic 82, 3) := by decide +kernel
theorem d_Model_put_6 : decode b_Model_put 6 = .ok (.ifCond .eq 47, 3) := by decide +kernel
theorem d_Model_put_9 : decode b_Model_put 9 = .ok (.iload_n 2, 1) := by decide +kernel
theorem d_Model_put_10 : decode b_Model_put 10 = .ok (.iconst 0, 1) := by decide +kernel
theorem d_Model_put_11 : decode b_Model_put 11 = .ok (.bipush 18, 2) := by decide +kernel
theorem d_Model_put_13 : decode b_Model_put 13 = .ok (.invokestatic 82, 3) := by decide +kernel
theorem d_Model_put_16 : decode b_Model_put 16 = .ok (.ifCond .eq 37, 3) := by decide +kernel
theorem d_Model_put_19 : decode b_Model_put 19 = .ok (.iload_n 3, 1) := by decide +kernel
theorem d_Model_put_20 : decode b_Model_put 20 = .ok (.iconst 0, 1) := by decide +kernel
theorem d_Model_put_21 : decode b_Model_put 21 = .ok (.bipush 31, 2) := by decide +kernel
theorem d_Model_put_23 : decode b_Model_put 23 = .ok (.invokestatic 82, 3) := by decide +kernel
theorem d_Model_put_26 : decode b_Model_put 26 = .ok (.ifCond .eq 27, 3) := by decide +kernel
theorem d_Model_put_29 : decode b_Model_put 29 = .ok (.iload 4, 2) := by decide +kernel
theorem d_Model_put_31 : decode b_Model_put 31 = .ok (.iconst 0, 1) := by decide +kernel
theorem d_Model_put_32 : decode b_Model_put 32 = .ok (.bipush 31, 2) := by decide +kernel
theorem d_Model_put_34 : decode b_Model_put 34 = .ok (.invokestatic 82, 3) := by decide +kernel
theorem d_Model_put_37 : decode b_Model_put 37 = .ok (.ifCond .eq 16, 3) := by decide +kernel
theorem d_Model_put_40 : decode b_Model_put 40 = .ok (.iload_n 2, 1) := by decide +kernel
theorem d_Model_put_41 : decode b_Model_put 41 = .ok (.iload 5, 2) := by decide +kernel
theorem d_Model_put_43 : decode b_Model_put 43 = .ok (.invokestatic 90, 3) := by decide +kernel
theorem d_Model_put_46 : decode b_Model_put 46 = .ok (.ifCond .eq 7, 3) := by decide +kernel
theorem d_Model_put_49 : decode b_Model_put 49 = .ok (.iconst 1, 1) := by decide +kernel
theorem d_Model_put_50 : decode b_Model_put 50 = .ok (.goto 4, 3) := by decide +kernel
theorem d_Model_put_53 : decode b_Model_put 53 = .ok (.iconst 0, 1) := by decide +kernel
theorem d_Model_put_54 : decode b_Model_put 54 = .ok (.istore 6, 2) := by decide +kernel
theorem d_Model_put_56 : decode b_Model_put 56 = .ok (.aload_n 0, 1) := by decide +kernel
theorem d_Model_put_57 : decode b_Model_put 57 = .ok (.iload 6, 2) := by decide +kernel
theorem d_Model_put_59 : decode b_Model_put 59 = .ok (.ifCond .ne 7, 3) := by decide +kernel
theorem d_Model_put_62 : decode b_Model_put 62 = .ok (.iconst 1, 1) := by decide +kernel
theorem d_Model_put_63 : decode b_Model_put 63 = .ok (.goto 21, 3) := by decide +kernel
theorem d_Model_put_66 : decode b_Model_put 66 = .ok (.aload_n 0, 1) := by decide +kernel
theorem d_Model_put_67 : decode b_Model_put 67 = .ok (.getfield 13, 3) := by decide +kernel
theorem d_Model_put_70 : decode b_Model_put 70 = .ok (.iconst 2, 1) := by decide +kernel
theorem d_Model_put_71 : decode b_Model_put 71 = .ok (.iload_n 1, 1) := by decide +kernel
theorem d_Model_put_72 : decode b_Model_put 72 = .ok (.imul, 1) := by decide +kernel
theorem d_Model_put_73 : decode b_Model_put 73 = .ok (.iaload, 1) := by decide +kernel
theorem d_Model_put_74 : decode b_Model_put 74 = .ok (.bipush 24, 2) := by decide +kernel
theorem d_Model_put_76 : decode b_Model_put 76 = .ok (.if_icmp .ne 7, 3) := by decide +kernel
theorem d_Model_put_79 : decode b_Model_put 79 = .ok (.iconst 2, 1) := by decide +kernel
theorem d_Model_put_80 : decode b_Model_put 80 = .ok (.goto 4, 3) := by decide +kernel
theorem d_Model_put_83 : decode b_Model_put 83 = .ok (.iconst 0, 1) := by decide +kernel
theorem d_Model_put_84 : decode b_Model_put 84 = .ok (.putfield 74, 3) := by decide +kernel
theorem d_Model_put_87 : decode b_Model_put 87 = .ok (.aload_n 0, 1) := by decide +kernel
theorem d_Model_put_88 : decode b_Model_put 88 = .ok (.getfield 74, 3) := by decide +kernel
theorem d_Model_put_91 : decode b_Model_put 91 = .ok (.ifCond .le 5, 3) := by decide +kernel
theorem d_Model_put_94 : decode b_Model_put 94 = .ok (.iconst 0, 1) := by decide +kernel
theorem d_Model_put_95 : decode b_Model_put 95 = .ok (.ireturn, 1) := by decide +kernel
theorem d_Model_put_96 : decode b_Model_put 96 = .ok (.aload_n 0, 1) := by decide +kernel
theorem d_Model_put_97 : decode b_Model_put 97 = .ok (.getfield 7, 3) := by decide +kernel
theorem d_Model_put_100 : decode b_Model_put 100 = .ok (.bipush 48, 2) := by decide +kernel
theorem d_Model_put_102 : decode b_Model_put 102 = .ok (.iload_n 1, 1) := by decide +kernel
theorem d_Model_put_103 : decode b_Model_put 103 = .ok (.imul, 1) := by decide +kernel
theorem d_Model_put_104 : decode b_Model_put 104 = .ok (.aload_n 0, 1) := by decide +kernel
theorem d_Model_put_105 : decode b_Model_put 105 = .ok (.getfield 13, 3) := by decide +kernel
theorem d_Model_put_108 : decode b_Model_put 108 = .ok (.iconst 2, 1) := by decide +kernel
theorem d_Model_put_109 : decode b_Model_put 109 = .ok (.iload_n 1, 1) := by decide +kernel
theorem d_Model_put_110 : decode b_Model_put 110 = .ok (.imul, 1) := by decide +kernel
theorem d_Model_put_111 : decode b_Model_put 111 = .ok (.iaload, 1) := by decide +kernel
theorem d_Model_put_112 : decode b_Model_put 112 = .ok (.iadd, 1) := by decide +kernel
theorem d_Model_put_113 : decode b_Model_put 113 = .ok (.iload_n 2, 1) := by decide +kernel
theorem d_Model_put_114 : decode b_Model_put 114 = .ok (.iload_n 3, 1) := by decide +kernel
theorem d_Model_put_115 : decode b_Model_put 115 = .ok (.iload 4, 2) := by decide +kernel
theorem d_Model_put_117 : decode b_Model_put 117 = .ok (.iload 5, 2) := by decide +kernel
theorem d_Model_put_119 : decode b_Model_put 119 = .ok (.invokestatic 93, 3) := by decide +kernel
theorem d_Model_put_122 : decode b_Model_put 122 = .ok (.iastore, 1) := by decide +kernel
theorem d_Model_put_123 : decode b_Model_put 123 = .ok (.aload_n 0, 1) := by decide +kernel
theorem d_Model_put_124 : decode b_Model_put 124 = .ok (.getfield 13, 3) := by decide +kernel
theorem d_Model_put_127 : decode b_Model_put 127 = .ok (.iconst 2, 1) := by decide +kernel
theorem d_Model_put_128 : decode b_Model_put 128 = .ok (.iload_n 1, 1) := by decide +kernel
theorem d_Model_put_129 : decode b_Model_put 129 = .ok (.imul, 1) := by decide +kernel
theorem d_Model_put_130 : decode b_Model_put 130 = .ok (.dup2, 1) := by decide +kernel
theorem d_Model_put_131 : decode b_Model_put 131 = .ok (.iaload, 1) := by decide +kernel
theorem d_Model_put_132 : decode b_Model_put 132 = .ok (.iconst 1, 1) := by decide +kernel
theorem d_Model_put_133 : decode b_Model_put 133 = .ok (.iadd, 1) := by decide +kernel
theorem d_Model_put_134 : decode b_Model_put 134 = .ok (.iastore, 1) := by decide +kernel
theorem d_Model_put_135 : decode b_Model_put 135 = .ok (.aload_n 0, 1) := by decide +kernel
theorem d_Model_put_136 : decode b_Model_put 136 = .ok (.getfield 13, 3) := by decide +kernel
theorem d_Model_put_139 : decode b_Model_put 139 = .ok (.iconst 2, 1) := by decide +kernel
theorem d_Model_put_140 : decode b_Model_put 140 = .ok (.iload_n 1, 1) := by decide +kernel
theorem d_Model_put_141 : decode b_Model_put 141 = .ok (.imul, 1) := by decide +kernel
theorem d_Model_put_142 : decode b_Model_put 142 = .ok (.iaload, 1) := by decide +kernel
theorem d_Model_put_143 : decode b_Model_put 143 = .ok (.iconst 1, 1) := by decide +kernel
theorem d_Model_put_144 : decode b_Model_put 144 = .ok (.isub, 1) := by decide +kernel
theorem d_Model_put_145 : decode b_Model_put 145 = .ok (.ireturn, 1) := by decide +kernel
theorem d_Model_word_0 : decode b_Model_word 0 = .ok (.aload_n 0, 1) := by decide +kernel
theorem d_Model_word_1 : decode b_Model_word 1 = .ok (.iload_n 1, 1) := by decide +kernel
theorem d_Model_word_2 : decode b_Model_word 2 = .ok (.iconst 0, 1) := by decide +kernel
theorem d_Model_word_3 : decode b_Model_word 3 = .ok (.iconst 3, 1) := by decide +kernel
theorem d_Model_word_4 : decode b_Model_word 4 = .ok (.invokestatic 82, 3) := by decide +kernel
theorem d_Model_word_7 : decode b_Model_word 7 = .ok (.ifCond .ne 7, 3) := by decide +kernel
theorem d_Model_word_10 : decode b_Model_word 10 = .ok (.iconst 1, 1) := by decide +kernel
theorem d_Model_word_11 : decode b_Model_word 11 = .ok (.goto 23, 3) := by decide +kernel
theorem d_Model_word_14 : decode b_Model_word 14 = .ok (.aload_n 0, 1) := by decide +kernel
theorem d_Model_word_15 : decode b_Model_word 15 = .ok (.getfield 13, 3) := by decide +kernel
theorem d_Model_word_18 : decode b_Model_word 18 = .ok (.iconst 2, 1) := by decide +kernel
theorem d_Model_word_19 : decode b_Model_word 19 = .ok (.iload_n 1, 1) := by decide +kernel
theorem d_Model_word_20 : decode b_Model_word 20 = .ok (.imul, 1) := by decide +kernel
theorem d_Model_word_21 : decode b_Model_word 21 = .ok (.iconst 1, 1) := by decide +kernel
theorem d_Model_word_22 : decode b_Model_word 22 = .ok (.iadd, 1) := by decide +kernel
theorem d_Model_word_23 : decode b_Model_word 23 = .ok (.iaload, 1) := by decide +kernel
theorem d_Model_word_24 : decode b_Model_word 24 = .ok (.bipush 12, 2) := by decide +kernel
theorem d_Model_word_26 : decode b_Model_word 26 = .ok (.if_icmp .ne 7, 3) := by decide +kernel
theorem d_Model_word_29 : decode b_Model_word 29 = .ok (.iconst 2, 1) := by decide +kernel
theorem d_Model_word_30 : decode b_Model_word 30 = .ok (.goto 4, 3) := by decide +kernel
theorem d_Model_word_33 : decode b_Model_word 33 = .ok (.iconst 0, 1) := by decide +kernel
theorem d_Model_word_34 : decode b_Model_word 34 = .ok (.putfield 74, 3) := by decide +kernel
theorem d_Model_word_37 : decode b_Model_word 37 = .ok (.aload_n 0, 1) := by decide +kernel
theorem d_Model_word_38 : decode b_Model_word 38 = .ok (.getfield 74, 3) := by decide +kernel
theorem d_Model_word_41 : decode b_Model_word 41 = .ok (.ifCond .le 5, 3) := by decide +kernel
theorem d_Model_word_44 : decode b_Model_word 44 = .ok (.iconst 0, 1) := by decide +kernel
theorem d_Model_word_45 : decode b_Model_word 45 = .ok (.ireturn, 1) := by decide +kernel
theorem d_Model_word_46 : decode b_Model_word 46 = .ok (.aload_n 0, 1) := by decide +kernel
theorem d_Model_word_47 : decode b_Model_word 47 = .ok (.getfield 7, 3) := by decide +kernel
theorem d_Model_word_50 : decode b_Model_word 50 = .ok (.bipush 48, 2) := by decide +kernel
theorem d_Model_word_52 : decode b_Model_word 52 = .ok (.iload_n 1, 1) := by decide +kernel
theorem d_Model_word_53 : decode b_Model_word 53 = .ok (.imul, 1) := by decide +kernel
theorem d_Model_word_54 : decode b_Model_word 54 = .ok (.bipush 24, 2) := by decide +kernel
theorem d_Model_word_56 : decode b_Model_word 56 = .ok (.iadd, 1) := by decide +kernel
theorem d_Model_word_57 : decode b_Model_word 57 = .ok (.aload_n 0, 1) := by decide +kernel
theorem d_Model_word_58 : decode b_Model_word 58 = .ok (.getfield 13, 3) := by decide +kernel
theorem d_Model_word_61 : decode b_Model_word 61 = .ok (.iconst 2, 1) := by decide +kernel
theorem d_Model_word_62 : decode b_Model_word 62 = .ok (.iload_n 1, 1) := by decide +kernel
theorem d_Model_word_63 : decode b_Model_word 63 = .ok (.imul, 1) := by decide +kernel
theorem d_Model_word_64 : decode b_Model_word 64 = .ok (.iconst 1, 1) := by decide +kernel
theorem d_Model_word_65 : decode b_Model_word 65 = .ok (.iadd, 1) := by decide +kernel
theorem d_Model_word_66 : decode b_Model_word 66 = .ok (.iaload, 1) := by decide +kernel
theorem d_Model_word_67 : decode b_Model_word 67 = .ok (.iadd, 1) := by decide +kernel
theorem d_Model_word_68 : decode b_Model_word 68 = .ok (.iload_n 2, 1) := by decide +kernel
theorem d_Model_word_69 : decode b_Model_word 69 = .ok (.iastore, 1) := by decide +kernel
theorem d_Model_word_70 : decode b_Model_word 70 = .ok (.aload_n 0, 1) := by decide +kernel
theorem d_Model_word_71 : decode b_Model_word 71 = .ok (.getfield 13, 3) := by decide +kernel
theorem d_Model_word_74 : decode b_Model_word 74 = .ok (.iconst 2, 1) := by decide +kernel
theorem d_Model_word_75 : decode b_Model_word 75 = .ok (.iload_n 1, 1) := by decide +kernel
theorem d_Model_word_76 : decode b_Model_word 76 = .ok (.imul, 1) := by decide +kernel
theorem d_Model_word_77 : decode b_Model_word 77 = .ok (.iconst 1, 1) := by decide +kernel
theorem d_Model_word_78 : decode b_Model_word 78 = .ok (.iadd, 1) := by decide +kernel
theorem d_Model_word_79 : decode b_Model_word 79 = .ok (.dup2, 1) := by decide +kernel
theorem d_Model_word_80 : decode b_Model_word 80 = .ok (.iaload, 1) := by decide +kernel
theorem d_Model_word_81 : decode b_Model_word 81 = .ok (.iconst 1, 1) := by decide +kernel
theorem d_Model_word_82 : decode b_Model_word 82 = .ok (.iadd, 1) := by decide +kernel
theorem d_Model_word_83 : decode b_Model_word 83 = .ok (.iastore, 1) := by decide +kernel
theorem d_Model_word_84 : decode b_Model_word 84 = .ok (.aload_n 0, 1) := by decide +kernel
theorem d_Model_word_85 : decode b_Model_word 85 = .ok (.getfield 13, 3) := by decide +kernel
theorem d_Model_word_88 : decode b_Model_word 88 = .ok (.iconst 2, 1) := by decide +kernel
theorem d_Model_word_89 : decode b_Model_word 89 = .ok (.iload_n 1, 1) := by decide +kernel
theorem d_Model_word_90 : decode b_Model_word 90 = .ok (.imul, 1) := by decide +kernel
theorem d_Model_word_91 : decode b_Model_word 91 = .ok (.iconst 1, 1) := by decide +kernel
theorem d_Model_word_92 : decode b_Model_word 92 = .ok (.iadd, 1) := by decide +kernel
theorem d_Model_word_93 : decode b_Model_word 93 = .ok (.iaload, 1) := by decide +kernel
theorem d_Model_word_94 : decode b_Model_word 94 = .ok (.iconst 1, 1) := by decide +kernel
theorem d_Model_word_95 : decode b_Model_word 95 = .ok (.isub, 1) := by decide +kernel
theorem d_Model_word_96 : decode b_Model_word 96 = .ok (.ireturn, 1) := by decide +kernel
theorem d_Model_define_0 : decode b_Model_define 0 = .ok (.iload_n 1, 1) := by decide +kernel
theorem d_Model_define_1 : decode b_Model_define 1 = .ok (.iconst 0, 1) := by decide +kernel
theorem d_Model_define_2 : decode b_Model_define 2 = .ok (.iconst 3, 1) := by decide +kernel
theorem d_Model_define_3 : decode b_Model_define 3 = .ok (.invokestatic 82, 3) := by decide +kernel
theorem d_Model_define_6 : decode b_Model_define 6 = .ok (.ifCond .eq 49, 3) := by decide +kernel
theorem d_Model_define_9 : decode b_Model_define 9 = .ok (.iload_n 2, 1) := by decide +kernel
theorem d_Model_define_10 : decode b_Model_define 10 = .ok (.iconst 0, 1) := by decide +kernel
theorem d_Model_define_11 : decode b_Model_define 11 = .ok (.bipush 15, 2) := by decide +kernel
theorem d_Model_define_13 : decode b_Model_define 13 = .ok (.invokestatic 82, 3) := by decide +kernel
theorem d_Model_define_16 : decode b_Model_define 16 = .ok (.ifCond .eq 39, 3) := by decide +kernel
theorem d_Model_define_19 : decode b_Model_define 19 = .ok (.iload_n 3, 1) := by decide +kernel
theorem d_Model_define_20 : decode b_Model_define 20 = .ok (.iconst 0, 1) := by decide +kernel
theorem d_Model_define_21 : decode b_Model_define 21 = .ok (.iconst 1, 1) := by decide +kernel
theorem d_Model_define_22 : decode b_Model_define 22 = .ok (.invokestatic 82, 3) := by decide +kernel
theorem d_Model_define_25 : decode b_Model_define 25 = .ok (.ifCond .eq 30, 3) := by decide +kernel
theorem d_Model_define_28 : decode b_Model_define 28 = .ok (.iload 4, 2) := by decide +kernel
theorem d_Model_define_30 : decode b_Model_define 30 = .ok (.iconst 0, 1) := by decide +kernel
theorem d_Model_define_31 : decode b_Model_define 31 = .ok (.aload_n 0, 1) := by decide +kernel
theorem d_Model_define_32 : decode b_Model_define 32 = .ok (.getfield 13, 3) := by decide +kernel
theorem d_Model_define_35 : decode b_Model_define 35 = .ok (.iconst 2, 1) := by decide +kernel
theorem d_Model_define_36 : decode b_Model_define 36 = .ok (.iload_n 1, 1) := by decide +kernel
theorem d_Model_define_37 : decode b_Model_define 37 = .ok (.iconst 3, 1) := by decide +kernel
theorem d_Model_define_38 : decode b_Model_define 38 = .ok (.iand, 1) := by decide +kernel
theorem d_Model_define_39 : decode b_Model_define 39 = .ok (.imul, 1) := by decide +kernel
theorem d_Model_define_40 : decode b_Model_define 40 = .ok (.iload_n 3, 1) := by decide +kernel
theorem d_Model_define_41 : decode b_Model_define 41 = .ok (.iconst 1, 1) := by decide +kernel
theorem d_Model_define_42 : decode b_Model_define 42 = .ok (.iand, 1) := by decide +kernel
theorem d_Model_define_43 : decode b_Model_define 43 = .ok (.iadd, 1) := by decide +kernel
theorem d_Model_define_44 : decode b_Model_define 44 = .ok (.iaload, 1) := by decide +kernel
theorem d_Model_define_45 : decode b_Model_define 45 = .ok (.invokestatic 82, 3) := by decide +kernel
theorem d_Model_define_48 : decode b_Model_define 48 = .ok (.ifCond .eq 7, 3) := by decide +kernel
theorem d_Model_define_51 : decode b_Model_define 51 = .ok (.iconst 1, 1) := by decide +kernel
theorem d_Model_define_52 : decode b_Model_define 52 = .ok (.goto 4, 3) := by decide +kernel
theorem d_Model_define_55 : decode b_Model_define 55 = .ok (.iconst 0, 1) := by decide +kernel
theorem d_Model_define_56 : decode b_Model_define 56 = .ok (.istore 6, 2) := by decide +kernel
theorem d_Model_define_58 : decode b_Model_define 58 = .ok (.aload_n 0, 1) := by decide +kernel
theorem d_Model_define_59 : decode b_Model_define 59 = .ok (.iload 6, 2) := by decide +kernel
theorem d_Model_define_61 : decode b_Model_define 61 = .ok (.ifCond .ne 7, 3) := by decide +kernel
theorem d_Model_define_64 : decode b_Model_define 64 = .ok (.iconst 1, 1) := by decide +kernel
theorem d_Model_define_65 : decode b_Model_define 65 = .ok (.goto 19, 3) := by decide +kernel
theorem d_Model_define_68 : decode b_Model_define 68 = .ok (.aload_n 0, 1) := by decide +kernel
theorem d_Model_define_69 : decode b_Model_define 69 = .ok (.getfield 16, 3) := by decide +kernel
theorem d_Model_define_72 : decode b_Model_define 72 = .ok (.iload_n 1, 1) := by decide +kernel
theorem d_Model_define_73 : decode b_Model_define 73 = .ok (.iaload, 1) := by decide +kernel
theorem d_Model_define_74 : decode b_Model_define 74 = .ok (.bipush 8, 2) := by decide +kernel
theorem d_Model_define_76 : decode b_Model_define 76 = .ok (.if_icmp .ne 7, 3) := by decide +kernel
theorem d_Model_define_79 : decode b_Model_define 79 = .ok (.iconst 2, 1) := by decide +kernel
theorem d_Model_define_80 : decode b_Model_define 80 = .ok (.goto 4, 3) := by decide +kernel
theorem d_Model_define_83 : decode b_Model_define 83 = .ok (.iconst 0, 1) := by decide +kernel
theorem d_Model_define_84 : decode b_Model_define 84 = .ok (.putfield 74, 3) := by decide +kernel
theorem d_Model_define_87 : decode b_Model_define 87 = .ok (.aload_n 0, 1) := by decide +kernel
theorem d_Model_define_88 : decode b_Model_define 88 = .ok (.getfield 74, 3) := by decide +kernel
theorem d_Model_define_91 : decode b_Model_define 91 = .ok (.ifCond .le 5, 3) := by decide +kernel
theorem d_Model_define_94 : decode b_Model_define 94 = .ok (.iconst 0, 1) := by decide +kernel
theorem d_Model_define_95 : decode b_Model_define 95 = .ok (.ireturn, 1) := by decide +kernel
theorem d_Model_define_96 : decode b_Model_define 96 = .ok (.bipush 8, 2) := by decide +kernel
theorem d_Model_define_98 : decode b_Model_define 98 = .ok (.iload_n 1, 1) := by decide +kernel
theorem d_Model_define_99 : decode b_Model_define 99 = .ok (.imul, 1) := by decide +kernel
theorem d_Model_define_100 : decode b_Model_define 100 = .ok (.aload_n 0, 1) := by decide +kernel
theorem d_Model_define_101 : decode b_Model_define 101 = .ok (.getfield 16, 3) := by decide +kernel
theorem d_Model_define_104 : decode b_Model_define 104 = .ok (.iload_n 1, 1) := by decide +kernel
theorem d_Model_define_105 : decode b_Model_define 105 = .ok (.iaload, 1) := by decide +kernel
theorem d_Model_define_106 : decode b_Model_define 106 = .ok (.iadd, 1) := by decide +kernel
theorem d_Model_define_107 : decode b_Model_define 107 = .ok (.istore 7, 2) := by decide +kernel
theorem d_Model_define_109 : decode b_Model_define 109 = .ok (.aload_n 0, 1) := by decide +kernel
theorem d_Model_define_110 : decode b_Model_define 110 = .ok (.getfield 19, 3) := by decide +kernel
theorem d_Model_define_113 : decode b_Model_define 113 = .ok (.iload 7, 2) := by decide +kernel
theorem d_Model_define_115 : decode b_Model_define 115 = .ok (.iload_n 2, 1) := by decide +kernel
theorem d_Model_define_116 : decode b_Model_define 116 = .ok (.iastore, 1) := by decide +kernel
theorem d_Model_define_117 : decode b_Model_define 117 = .ok (.aload_n 0, 1) := by decide +kernel
theorem d_Model_define_118 : decode b_Model_define 118 = .ok (.getfield 22, 3) := by decide +kernel
theorem d_Model_define_121 : decode b_Model_define 121 = .ok (.iload 7, 2) := by decide +kernel
theorem d_Model_define_123 : decode b_Model_define 123 = .ok (.iload_n 3, 1) := by decide +kernel
theorem d_Model_define_124 : decode b_Model_define 124 = .ok (.iastore, 1) := by decide +kernel
theorem d_Model_define_125 : decode b_Model_define 125 = .ok (.aload_n 0, 1) := by decide +kernel
theorem d_Model_define_126 : decode b_Model_define 126 = .ok (.getfield 25, 3) := by decide +kernel
theorem d_Model_define_129 : decode b_Model_define 129 = .ok (.iload 7, 2) := by decide +kernel
theorem d_Model_define_131 : decode b_Model_define 131 = .ok (.iload 4, 2) := by decide +kernel
theorem d_Model_define_133 : decode b_Model_define 133 = .ok (.iastore, 1) := by decide +kernel
theorem d_Model_define_134 : decode b_Model_define 134 = .ok (.aload_n 0, 1) := by decide +kernel
theorem d_Model_define_135 : decode b_Model_define 135 = .ok (.getfield 28, 3) := by decide +kernel
theorem d_Model_define_138 : decode b_Model_define 138 = .ok (.iload 7, 2) := by decide +kernel
theorem d_Model_define_140 : decode b_Model_define 140 = .ok (.iload 5, 2) := by decide +kernel
theorem d_Model_define_142 : decode b_Model_define 142 = .ok (.bastore, 1) := by decide +kernel
theorem d_Model_define_143 : decode b_Model_define 143 = .ok (.aload_n 0, 1) := by decide +kernel
theorem d_Model_define_144 : decode b_Model_define 144 = .ok (.getfield 16, 3) := by decide +kernel
theorem d_Model_define_147 : decode b_Model_define 147 = .ok (.iload_n 1, 1) := by decide +kernel
theorem d_Model_define_148 : decode b_Model_define 148 = .ok (.dup2, 1) := by decide +kernel
theorem d_Model_define_149 : decode b_Model_define 149 = .ok (.iaload, 1) := by decide +kernel
theorem d_Model_define_150 : decode b_Model_define 150 = .ok (.iconst 1, 1) := by decide +kernel
theorem d_Model_define_151 : decode b_Model_define 151 = .ok (.iadd, 1) := by decide +kernel
theorem d_Model_define_152 : decode b_Model_define 152 = .ok (.iastore, 1) := by decide +kernel
theorem d_Model_define_153 : decode b_Model_define 153 = .ok (.aload_n 0, 1) := by decide +kernel
theorem d_Model_define_154 : decode b_Model_define 154 = .ok (.getfield 16, 3) := by decide +kernel
theorem d_Model_define_157 : decode b_Model_define 157 = .ok (.iload_n 1, 1) := by decide +kernel
theorem d_Model_define_158 : decode b_Model_define 158 = .ok (.iaload, 1) := by decide +kernel
theorem d_Model_define_159 : decode b_Model_define 159 = .ok (.ireturn, 1) := by decide +kernel
theorem d_Model_fix_0 : decode b_Model_fix 0 = .ok (.iload_n 1, 1) := by decide +kernel
theorem d_Model_fix_1 : decode b_Model_fix 1 = .ok (.iconst 0, 1) := by decide +kernel
theorem d_Model_fix_2 : decode b_Model_fix 2 = .ok (.iconst 3, 1) := by decide +kernel
theorem d_Model_fix_3 : decode b_Model_fix 3 = .ok (.invokestatic 82, 3) := by decide +kernel
theorem d_Model_fix_6 : decode b_Model_fix 6 = .ok (.ifCond .eq 75, 3) := by decide +kernel
theorem d_Model_fix_9 : decode b_Model_fix 9 = .ok (.iload_n 2, 1) := by decide +kernel
theorem d_Model_fix_10 : decode b_Model_fix 10 = .ok (.iconst 0, 1) := by decide +kernel
theorem d_Model_fix_11 : decode b_Model_fix 11 = .ok (.iconst 1, 1) := by decide +kernel
theorem d_Model_fix_12 : decode b_Model_fix 12 = .ok (.invokestatic 82, 3) := by decide +kernel
theorem d_Model_fix_15 : decode b_Model_fix 15 = .ok (.ifCond .eq 66, 3) := by decide +kernel
theorem d_Model_fix_18 : decode b_Model_fix 18 = .ok (.iload_n 3, 1) := by decide +kernel
theorem d_Model_fix_19 : decode b_Model_fix 19 = .ok (.iconst 0, 1) := by decide +kernel
theorem d_Model_fix_20 : decode b_Model_fix 20 = .ok (.aload_n 0, 1) := by decide +kernel
theorem d_Model_fix_21 : decode b_Model_fix 21 = .ok (.getfield 13, 3) := by decide +kernel
theorem d_Model_fix_24 : decode b_Model_fix 24 = .ok (.iconst 2, 1) := by decide +kernel
theorem d_Model_fix_25 : decode b_Model_fix 25 = .ok (.iload_n 1, 1) := by decide +kernel
theorem d_Model_fix_26 : decode b_Model_fix 26 = .ok (.iconst 3, 1) := by decide +kernel
theorem d_Model_fix_27 : decode b_Model_fix 27 = .ok (.iand, 1) := by decide +kernel
theorem d_Model_fix_28 : decode b_Model_fix 28 = .ok (.imul, 1) := by decide +kernel
theorem d_Model_fix_29 : decode b_Model_fix 29 = .ok (.iload_n 2, 1) := by decide +kernel
theorem d_Model_fix_30 : decode b_Model_fix 30 = .ok (.iconst 1, 1) := by decide +kernel
theorem d_Model_fix_31 : decode b_Model_fix 31 = .ok (.iand, 1) := by decide +kernel
theorem d_Model_fix_32 : decode b_Model_fix 32 = .ok (.iadd, 1) := by decide +kernel
theorem d_Model_fix_33 : decode b_Model_fix 33 = .ok (.iaload, 1) := by decide +kernel
theorem d_Model_fix_34 : decode b_Model_fix 34 = .ok (.iconst 1, 1) := by decide +kernel
theorem d_Model_fix_35 : decode b_Model_fix 35 = .ok (.isub, 1) := by decide +kernel
theorem d_Model_fix_36 : decode b_Model_fix 36 = .ok (.invokestatic 82, 3) := by decide +kernel
theorem d_Model_fix_39 : decode b_Model_fix 39 = .ok (.ifCond .eq 42, 3) := by decide +kernel
theorem d_Model_fix_42 : decode b_Model_fix 42 = .ok (.iload 4, 2) := by decide +kernel
theorem d_Model_fix_44 : decode b_Model_fix 44 = .ok (.iconst 0, 1) := by decide +kernel
theorem d_Model_fix_45 : decode b_Model_fix 45 = .ok (.iconst 4, 1) := by decide +kernel
theorem d_Model_fix_46 : decode b_Model_fix 46 = .ok (.invokestatic 82, 3) := by decide +kernel
theorem d_Model_fix_49 : decode b_Model_fix 49 = .ok (.ifCond .eq 32, 3) := by decide +kernel
theorem d_Model_fix_52 : decode b_Model_fix 52 = .ok (.iload 5, 2) := by decide +kernel
theorem d_Model_fix_54 : decode b_Model_fix 54 = .ok (.iconst 0, 1) := by decide +kernel
theorem d_Model_fix_55 : decode b_Model_fix 55 = .ok (.bipush 15, 2) := by decide +kernel
theorem d_Model_fix_57 : decode b_Model_fix 57 = .ok (.invokestatic 82, 3) := by decide +kernel
theorem d_Model_fix_60 : decode b_Model_fix 60 = .ok (.ifCond .eq 21, 3) := by decide +kernel
theorem d_Model_fix_63 : decode b_Model_fix 63 = .ok (.iload 6, 2) := by decide +kernel
theorem d_Model_fix_65 : decode b_Model_fix 65 = .ok (.sipush (-20000), 3) := by decide +kernel
theorem d_Model_fix_68 : decode b_Model_fix 68 = .ok (.sipush 20000, 3) := by decide +kernel
theorem d_Model_fix_71 : decode b_Model_fix 71 = .ok (.invokestatic 82, 3) := by decide +kernel
theorem d_Model_fix_74 : decode b_Model_fix 74 = .ok (.ifCond .eq 7, 3) := by decide +kernel
theorem d_Model_fix_77 : decode b_Model_fix 77 = .ok (.iconst 1, 1) := by decide +kernel
theorem d_Model_fix_78 : decode b_Model_fix 78 = .ok (.goto 4, 3) := by decide +kernel
theorem d_Model_fix_81 : decode b_Model_fix 81 = .ok (.iconst 0, 1) := by decide +kernel
theorem d_Model_fix_82 : decode b_Model_fix 82 = .ok (.istore 7, 2) := by decide +kernel
theorem d_Model_fix_84 : decode b_Model_fix 84 = .ok (.aload_n 0, 1) := by decide +kernel
theorem d_Model_fix_85 : decode b_Model_fix 85 = .ok (.iload 7, 2) := by decide +kernel
theorem d_Model_fix_87 : decode b_Model_fix 87 = .ok (.ifCond .ne 7, 3) := by decide +kernel
theorem d_Model_fix_90 : decode b_Model_fix 90 = .ok (.iconst 1, 1) := by decide +kernel
theorem d_Model_fix_91 : decode b_Model_fix 91 = .ok (.goto 19, 3) := by decide +kernel
theorem d_Model_fix_94 : decode b_Model_fix 94 = .ok (.aload_n 0, 1) := by decide +kernel
theorem d_Model_fix_95 : decode b_Model_fix 95 = .ok (.getfield 32, 3) := by decide +kernel
theorem d_Model_fix_98 : decode b_Model_fix 98 = .ok (.iload_n 1, 1) := by decide +kernel
theorem d_Model_fix_99 : decode b_Model_fix 99 = .ok (.iaload, 1) := by decide +kernel
theorem d_Model_fix_100 : decode b_Model_fix 100 = .ok (.bipush 16, 2) := by decide +kernel
theorem d_Model_fix_102 : decode b_Model_fix 102 = .ok (.if_icmp .ne 7, 3) := by decide +kernel
theorem d_Model_fix_105 : decode b_Model_fix 105 = .ok (.iconst 2, 1) := by decide +kernel
theorem d_Model_fix_106 : decode b_Model_fix 106 = .ok (.goto 4, 3) := by decide +kernel
theorem d_Model_fix_109 : decode b_Model_fix 109 = .ok (.iconst 0, 1) := by decide +kernel
theorem d_Model_fix_110 : decode b_Model_fix 110 = .ok (.putfield 74, 3) := by decide +kernel
theorem d_Model_fix_113 : decode b_Model_fix 113 = .ok (.aload_n 0, 1) := by decide +kernel
theorem d_Model_fix_114 : decode b_Model_fix 114 = .ok (.getfield 74, 3) := by decide +kernel
theorem d_Model_fix_117 : decode b_Model_fix 117 = .ok (.ifCond .le 5, 3) := by decide +kernel
theorem d_Model_fix_120 : decode b_Model_fix 120 = .ok (.iconst 0, 1) := by decide +kernel
theorem d_Model_fix_121 : decode b_Model_fix 121 = .ok (.ireturn, 1) := by decide +kernel
theorem d_Model_fix_122 : decode b_Model_fix 122 = .ok (.bipush 16, 2) := by decide +kernel
theorem d_Model_fix_124 : decode b_Model_fix 124 = .ok (.iload_n 1, 1) := by decide +kernel
theorem d_Model_fix_125 : decode b_Model_fix 125 = .ok (.imul, 1) := by decide +kernel
theorem d_Model_fix_126 : decode b_Model_fix 126 = .ok (.aload_n 0, 1) := by decide +kernel
theorem d_Model_fix_127 : decode b_Model_fix 127 = .ok (.getfield 32, 3) := by decide +kernel
theorem d_Model_fix_130 : decode b_Model_fix 130 = .ok (.iload_n 1, 1) := by decide +kernel
theorem d_Model_fix_131 : decode b_Model_fix 131 = .ok (.iaload, 1) := by decide +kernel
theorem d_Model_fix_132 : decode b_Model_fix 132 = .ok (.iadd, 1) := by decide +kernel
theorem d_Model_fix_133 : decode b_Model_fix 133 = .ok (.istore 8, 2) := by decide +kernel
theorem d_Model_fix_135 : decode b_Model_fix 135 = .ok (.aload_n 0, 1) := by decide +kernel
theorem d_Model_fix_136 : decode b_Model_fix 136 = .ok (.getfield 35, 3) := by decide +kernel
theorem d_Model_fix_139 : decode b_Model_fix 139 = .ok (.iload 8, 2) := by decide +kernel
theorem d_Model_fix_141 : decode b_Model_fix 141 = .ok (.iload_n 2, 1) := by decide +kernel
theorem d_Model_fix_142 : decode b_Model_fix 142 = .ok (.iastore, 1) := by decide +kernel
theorem d_Model_fix_143 : decode b_Model_fix 143 = .ok (.aload_n 0, 1) := by decide +kernel
theorem d_Model_fix_144 : decode b_Model_fix 144 = .ok (.getfield 38, 3) := by decide +kernel
theorem d_Model_fix_147 : decode b_Model_fix 147 = .ok (.iload 8, 2) := by decide +kernel
theorem d_Model_fix_149 : decode b_Model_fix 149 = .ok (.iload_n 3, 1) := by decide +kernel
theorem d_Model_fix_150 : decode b_Model_fix 150 = .ok (.iastore, 1) := by decide +kernel
theorem d_Model_fix_151 : decode b_Model_fix 151 = .ok (.aload_n 0, 1) := by decide +kernel
theorem d_Model_fix_152 : decode b_Model_fix 152 = .ok (.getfield 41, 3) := by decide +kernel
theorem d_Model_fix_155 : decode b_Model_fix 155 = .ok (.iload 8, 2) := by decide +kernel
theorem d_Model_fix_157 : decode b_Model_fix 157 = .ok (.iload 4, 2) := by decide +kernel
theorem d_Model_fix_159 : decode b_Model_fix 159 = .ok (.iastore, 1) := by decide +kernel
theorem d_Model_fix_160 : decode b_Model_fix 160 = .ok (.aload_n 0, 1) := by decide +kernel
theorem d_Model_fix_161 : decode b_Model_fix 161 = .ok (.getfield 44, 3) := by decide +kernel
theorem d_Model_fix_164 : decode b_Model_fix 164 = .ok (.iload 8, 2) := by decide +kernel
theorem d_Model_fix_166 : decode b_Model_fix 166 = .ok (.iload 5, 2) := by decide +kernel
theorem d_Model_fix_168 : decode b_Model_fix 168 = .ok (.iastore, 1) := by decide +kernel
theorem d_Model_fix_169 : decode b_Model_fix 169 = .ok (.aload_n 0, 1) := by decide +kernel
theorem d_Model_fix_170 : decode b_Model_fix 170 = .ok (.getfield 47, 3) := by decide +kernel
theorem d_Model_fix_173 : decode b_Model_fix 173 = .ok (.iload 8, 2) := by decide +kernel
theorem d_Model_fix_175 : decode b_Model_fix 175 = .ok (.iload 6, 2) := by decide +kernel
theorem d_Model_fix_177 : decode b_Model_fix 177 = .ok (.iastore, 1) := by decide +kernel
theorem d_Model_fix_178 : decode b_Model_fix 178 = .ok (.aload_n 0, 1) := by decide +kernel
theorem d_Model_fix_179 : decode b_Model_fix 179 = .ok (.getfield 32, 3) := by decide +kernel
theorem d_Model_fix_182 : decode b_Model_fix 182 = .ok (.iload_n 1, 1) := by decide +kernel
theorem d_Model_fix_183 : decode b_Model_fix 183 = .ok (.dup2, 1) := by decide +kernel
theorem d_Model_fix_184 : decode b_Model_fix 184 = .ok (.iaload, 1) := by decide +kernel
theorem d_Model_fix_185 : decode b_Model_fix 185 = .ok (.iconst 1, 1) := by decide +kernel
theorem d_Model_fix_186 : decode b_Model_fix 186 = .ok (.iadd, 1) := by decide +kernel
theorem d_Model_fix_187 : decode b_Model_fix 187 = .ok (.iastore, 1) := by decide +kernel
theorem d_Model_fix_188 : decode b_Model_fix 188 = .ok (.aload_n 0, 1) := by decide +kernel
theorem d_Model_fix_189 : decode b_Model_fix 189 = .ok (.getfield 32, 3) := by decide +kernel
theorem d_Model_fix_192 : decode b_Model_fix 192 = .ok (.iload_n 1, 1) := by decide +kernel
theorem d_Model_fix_193 : decode b_Model_fix 193 = .ok (.iaload, 1) := by decide +kernel
theorem d_Model_fix_194 : decode b_Model_fix 194 = .ok (.ireturn, 1) := by decide +kernel
theorem d_Model_clear_0 : decode b_Model_clear 0 = .ok (.aload_n 0, 1) := by decide +kernel
theorem d_Model_clear_1 : decode b_Model_clear 1 = .ok (.iload_n 1, 1) := by decide +kernel
theorem d_Model_clear_2 : decode b_Model_clear 2 = .ok (.iconst 0, 1) := by decide +kernel
theorem d_Model_clear_3 : decode b_Model_clear 3 = .ok (.iconst 3, 1) := by decide +kernel
theorem d_Model_clear_4 : decode b_Model_clear 4 = .ok (.invokestatic 82, 3) := by decide +kernel
theorem d_Model_clear_7 : decode b_Model_clear 7 = .ok (.ifCond .eq 7, 3) := by decide +kernel
theorem d_Model_clear_10 : decode b_Model_clear 10 = .ok (.iconst 0, 1) := by decide +kernel
theorem d_Model_clear_11 : decode b_Model_clear 11 = .ok (.goto 4, 3) := by decide +kernel
theorem d_Model_clear_14 : decode b_Model_clear 14 = .ok (.iconst 1, 1) := by decide +kernel
theorem d_Model_clear_15 : decode b_Model_clear 15 = .ok (.putfield 74, 3) := by decide +kernel
theorem d_Model_clear_18 : decode b_Model_clear 18 = .ok (.aload_n 0, 1) := by decide +kernel
theorem d_Model_clear_19 : decode b_Model_clear 19 = .ok (.getfield 74, 3) := by decide +kernel
theorem d_Model_clear_22 : decode b_Model_clear 22 = .ok (.ifCond .le 5, 3) := by decide +kernel
theorem d_Model_clear_25 : decode b_Model_clear 25 = .ok (.iconst 0, 1) := by decide +kernel
theorem d_Model_clear_26 : decode b_Model_clear 26 = .ok (.ireturn, 1) := by decide +kernel
theorem d_Model_clear_27 : decode b_Model_clear 27 = .ok (.aload_n 0, 1) := by decide +kernel
theorem d_Model_clear_28 : decode b_Model_clear 28 = .ok (.getfield 13, 3) := by decide +kernel
theorem d_Model_clear_31 : decode b_Model_clear 31 = .ok (.iconst 2, 1) := by decide +kernel
theorem d_Model_clear_32 : decode b_Model_clear 32 = .ok (.iload_n 1, 1) := by decide +kernel
theorem d_Model_clear_33 : decode b_Model_clear 33 = .ok (.imul, 1) := by decide +kernel
theorem d_Model_clear_34 : decode b_Model_clear 34 = .ok (.iconst 0, 1) := by decide +kernel
theorem d_Model_clear_35 : decode b_Model_clear 35 = .ok (.iastore, 1) := by decide +kernel
theorem d_Model_clear_36 : decode b_Model_clear 36 = .ok (.aload_n 0, 1) := by decide +kernel
theorem d_Model_clear_37 : decode b_Model_clear 37 = .ok (.getfield 13, 3) := by decide +kernel
theorem d_Model_clear_40 : decode b_Model_clear 40 = .ok (.iconst 2, 1) := by decide +kernel
theorem d_Model_clear_41 : decode b_Model_clear 41 = .ok (.iload_n 1, 1) := by decide +kernel
theorem d_Model_clear_42 : decode b_Model_clear 42 = .ok (.imul, 1) := by decide +kernel
theorem d_Model_clear_43 : decode b_Model_clear 43 = .ok (.iconst 1, 1) := by decide +kernel
theorem d_Model_clear_44 : decode b_Model_clear 44 = .ok (.iadd, 1) := by decide +kernel
theorem d_Model_clear_45 : decode b_Model_clear 45 = .ok (.iconst 0, 1) := by decide +kernel
theorem d_Model_clear_46 : decode b_Model_clear 46 = .ok (.iastore, 1) := by decide +kernel
theorem d_Model_clear_47 : decode b_Model_clear 47 = .ok (.aload_n 0, 1) := by decide +kernel
theorem d_Model_clear_48 : decode b_Model_clear 48 = .ok (.getfield 16, 3) := by decide +kernel
theorem d_Model_clear_51 : decode b_Model_clear 51 = .ok (.iload_n 1, 1) := by decide +kernel
theorem d_Model_clear_52 : decode b_Model_clear 52 = .ok (.iconst 0, 1) := by decide +kernel
theorem d_Model_clear_53 : decode b_Model_clear 53 = .ok (.iastore, 1) := by decide +kernel
theorem d_Model_clear_54 : decode b_Model_clear 54 = .ok (.aload_n 0, 1) := by decide +kernel
theorem d_Model_clear_55 : decode b_Model_clear 55 = .ok (.getfield 32, 3) := by decide +kernel
theorem d_Model_clear_58 : decode b_Model_clear 58 = .ok (.iload_n 1, 1) := by decide +kernel
theorem d_Model_clear_59 : decode b_Model_clear 59 = .ok (.iconst 0, 1) := by decide +kernel
theorem d_Model_clear_60 : decode b_Model_clear 60 = .ok (.iastore, 1) := by decide +kernel
theorem d_Model_clear_61 : decode b_Model_clear 61 = .ok (.iconst 1, 1) := by decide +kernel
theorem d_Model_clear_62 : decode b_Model_clear 62 = .ok (.ireturn, 1) := by decide +kernel
theorem d_Model_definition_0 : decode b_Model_definition 0 = .ok (.iconst (-1), 1) := by decide +kernel
theorem d_Model_definition_1 : decode b_Model_definition 1 = .ok (.istore 4, 2) := by decide +kernel
theorem d_Model_definition_3 : decode b_Model_definition 3 = .ok (.aload_n 0, 1) := by decide +kernel
theorem d_Model_definition_4 : decode b_Model_definition 4 = .ok (.getfield 16, 3) := by decide +kernel
theorem d_Model_definition_7 : decode b_Model_definition 7 = .ok (.iload_n 1, 1) := by decide +kernel
theorem d_Model_definition_8 : decode b_Model_definition 8 = .ok (.iaload, 1) := by decide +kernel
theorem d_Model_definition_9 : decode b_Model_definition 9 = .ok (.iconst 1, 1) := by decide +kernel
theorem d_Model_definition_10 : decode b_Model_definition 10 = .ok (.isub, 1) := by decide +kernel
theorem d_Model_definition_11 : decode b_Model_definition 11 = .ok (.istore 5, 2) := by decide +kernel
theorem d_Model_definition_13 : decode b_Model_definition 13 = .ok (.iload 5, 2) := by decide +kernel
theorem d_Model_definition_15 : decode b_Model_definition 15 = .ok (.ifCond .lt 58, 3) := by decide +kernel
theorem d_Model_definition_18 : decode b_Model_definition 18 = .ok (.aload_n 0, 1) := by decide +kernel
theorem d_Model_definition_19 : decode b_Model_definition 19 = .ok (.getfield 19, 3) := by decide +kernel
theorem d_Model_definition_22 : decode b_Model_definition 22 = .ok (.bipush 8, 2) := by decide +kernel
theorem d_Model_definition_24 : decode b_Model_definition 24 = .ok (.iload_n 1, 1) := by decide +kernel
theorem d_Model_definition_25 : decode b_Model_definition 25 = .ok (.imul, 1) := by decide +kernel
theorem d_Model_definition_26 : decode b_Model_definition 26 = .ok (.iload 5, 2) := by decide +kernel
theorem d_Model_definition_28 : decode b_Model_definition 28 = .ok (.iadd, 1) := by decide +kernel
theorem d_Model_definition_29 : decode b_Model_definition 29 = .ok (.iaload, 1) := by decide +kernel
theorem d_Model_definition_30 : decode b_Model_definition 30 = .ok (.iload_n 2, 1) := by decide +kernel
theorem d_Model_definition_31 : decode b_Model_definition 31 = .ok (.if_icmp .ne 32, 3) := by decide +kernel
theorem d_Model_definition_34 : decode b_Model_definition 34 = .ok (.iload_n 3, 1) := by decide +kernel
theorem d_Model_definition_35 : decode b_Model_definition 35 = .ok (.ifCond .ne 18, 3) := by decide +kernel
theorem d_Model_definition_38 : decode b_Model_definition 38 = .ok (.aload_n 0, 1) := by decide +kernel
theorem d_Model_definition_39 : decode b_Model_definition 39 = .ok (.getfield 28, 3) := by decide +kernel
theorem d_Model_definition_42 : decode b_Model_definition 42 = .ok (.bipush 8, 2) := by decide +kernel
theorem d_Model_definition_44 : decode b_Model_definition 44 = .ok (.iload_n 1, 1) := by decide +kernel
theorem d_Model_definition_45 : decode b_Model_definition 45 = .ok (.imul, 1) := by decide +kernel
theorem d_Model_definition_46 : decode b_Model_definition 46 = .ok (.iload 5, 2) := by decide +kernel
theorem d_Model_definition_48 : decode b_Model_definition 48 = .ok (.iadd, 1) := by decide +kernel
theorem d_Model_definition_49 : decode b_Model_definition 49 = .ok (.baload, 1) := by decide +kernel
theorem d_Model_definition_50 : decode b_Model_definition 50 = .ok (.ifCond .eq 13, 3) := by decide +kernel
theorem d_Model_definition_53 : decode b_Model_definition 53 = .ok (.bipush 8, 2) := by decide +kernel
theorem d_Model_definition_55 : decode b_Model_definition 55 = .ok (.iload_n 1, 1) := by decide +kernel
theorem d_Model_definition_56 : decode b_Model_definition 56 = .ok (.imul, 1) := by decide +kernel
theorem d_Model_definition_57 : decode b_Model_definition 57 = .ok (.iload 5, 2) := by decide +kernel
theorem d_Model_definition_59 : decode b_Model_definition 59 = .ok (.iadd, 1) := by decide +kernel
theorem d_Model_definition_60 : decode b_Model_definition 60 = .ok (.goto 5, 3) := by decide +kernel
theorem d_Model_definition_63 : decode b_Model_definition 63 = .ok (.iload 4, 2) := by decide +kernel
theorem d_Model_definition_65 : decode b_Model_definition 65 = .ok (.istore 4, 2) := by decide +kernel
theorem d_Model_definition_67 : decode b_Model_definition 67 = .ok (.iinc 5 (-1), 3) := by decide +kernel
theorem d_Model_definition_70 : decode b_Model_definition 70 = .ok (.goto (-57), 3) := by decide +kernel
theorem d_Model_definition_73 : decode b_Model_definition 73 = .ok (.iload 4, 2) := by decide +kernel
theorem d_Model_definition_75 : decode b_Model_definition 75 = .ok (.ireturn, 1) := by decide +kernel
theorem d_Model_globalOne_0 : decode b_Model_globalOne 0 = .ok (.iconst (-1), 1) := by decide +kernel
theorem d_Model_globalOne_1 : decode b_Model_globalOne 1 = .ok (.istore_n 2, 1) := by decide +kernel
theorem d_Model_globalOne_2 : decode b_Model_globalOne 2 = .ok (.iconst 3, 1) := by decide +kernel
theorem d_Model_globalOne_3 : decode b_Model_globalOne 3 = .ok (.istore_n 3, 1) := by decide +kernel
theorem d_Model_globalOne_4 : decode b_Model_globalOne 4 = .ok (.iload_n 3, 1) := by decide +kernel
theorem d_Model_globalOne_5 : decode b_Model_globalOne 5 = .ok (.ifCond .lt 31, 3) := by decide +kernel
theorem d_Model_globalOne_8 : decode b_Model_globalOne 8 = .ok (.aload_n 0, 1) := by decide +kernel
theorem d_Model_globalOne_9 : decode b_Model_globalOne 9 = .ok (.iload_n 3, 1) := by decide +kernel
theorem d_Model_globalOne_10 : decode b_Model_globalOne 10 = .ok (.iload_n 1, 1) := by decide +kernel
theorem d_Model_globalOne_11 : decode b_Model_globalOne 11 = .ok (.iconst 0, 1) := by decide +kernel
theorem d_Model_globalOne_12 : decode b_Model_globalOne 12 = .ok (.invokevirtual 97, 3) := by decide +kernel
theorem d_Model_globalOne_15 : decode b_Model_globalOne 15 = .ok (.istore 4, 2) := by decide +kernel
theorem d_Model_globalOne_17 : decode b_Model_globalOne 17 = .ok (.iload 4, 2) := by decide +kernel
theorem d_Model_globalOne_19 : decode b_Model_globalOne 19 = .ok (.iconst (-1), 1) := by decide +kernel
theorem d_Model_globalOne_20 : decode b_Model_globalOne 20 = .ok (.if_icmp .ne 7, 3) := by decide +kernel
theorem d_Model_globalOne_23 : decode b_Model_globalOne 23 = .ok (.iload_n 2, 1) := by decide +kernel
theorem d_Model_globalOne_24 : decode b_Model_globalOne 24 = .ok (.goto 5, 3) := by decide +kernel
theorem d_Model_globalOne_27 : decode b_Model_globalOne 27 = .ok (.iload 4, 2) := by decide +kernel
theorem d_Model_globalOne_29 : decode b_Model_globalOne 29 = .ok (.istore_n 2, 1) := by decide +kernel
theorem d_Model_globalOne_30 : decode b_Model_globalOne 30 = .ok (.iinc 3 (-1), 3) := by decide +kernel
theorem d_Model_globalOne_33 : decode b_Model_globalOne 33 = .ok (.goto (-29), 3) := by decide +kernel
theorem d_Model_globalOne_36 : decode b_Model_globalOne 36 = .ok (.iload_n 2, 1) := by decide +kernel
theorem d_Model_globalOne_37 : decode b_Model_globalOne 37 = .ok (.ireturn, 1) := by decide +kernel
theorem d_Model_twice_0 : decode b_Model_twice 0 = .ok (.iconst 0, 1) := by decide +kernel
theorem d_Model_twice_1 : decode b_Model_twice 1 = .ok (.istore_n 2, 1) := by decide +kernel
theorem d_Model_twice_2 : decode b_Model_twice 2 = .ok (.iconst 0, 1) := by decide +kernel
theorem d_Model_twice_3 : decode b_Model_twice 3 = .ok (.istore_n 3, 1) := by decide +kernel
theorem d_Model_twice_4 : decode b_Model_twice 4 = .ok (.iconst 0, 1) := by decide +kernel
theorem d_Model_twice_5 : decode b_Model_twice 5 = .ok (.istore 4, 2) := by decide +kernel
theorem d_Model_twice_7 : decode b_Model_twice 7 = .ok (.iload 4, 2) := by decide +kernel
theorem d_Model_twice_9 : decode b_Model_twice 9 = .ok (.iconst 4, 1) := by decide +kernel
theorem d_Model_twice_10 : decode b_Model_twice 10 = .ok (.if_icmp .ge 117, 3) := by decide +kernel
theorem d_Model_twice_13 : decode b_Model_twice 13 = .ok (.iconst 0, 1) := by decide +kernel
theorem d_Model_twice_14 : decode b_Model_twice 14 = .ok (.istore 5, 2) := by decide +kernel
theorem d_Model_twice_16 : decode b_Model_twice 16 = .ok (.iconst 0, 1) := by decide +kernel
theorem d_Model_twice_17 : decode b_Model_twice 17 = .ok (.istore 6, 2) := by decide +kernel
theorem d_Model_twice_19 : decode b_Model_twice 19 = .ok (.iload 6, 2) := by decide +kernel
theorem d_Model_twice_21 : decode b_Model_twice 21 = .ok (.aload_n 0, 1) := by decide +kernel
theorem d_Model_twice_22 : decode b_Model_twice 22 = .ok (.getfield 16, 3) := by decide +kernel
theorem d_Model_twice_25 : decode b_Model_twice 25 = .ok (.iload 4, 2) := by decide +kernel
theorem d_Model_twice_27 : decode b_Model_twice 27 = .ok (.iaload, 1) := by decide +kernel
theorem d_Model_twice_28 : decode b_Model_twice 28 = .ok (.if_icmp .ge 77, 3) := by decide +kernel
theorem d_Model_twice_31 : decode b_Model_twice 31 = .ok (.aload_n 0, 1) := by decide +kernel
theorem d_Model_twice_32 : decode b_Model_twice 32 = .ok (.getfield 19, 3) := by decide +kernel
theorem d_Model_twice_35 : decode b_Model_twice 35 = .ok (.bipush 8, 2) := by decide +kernel
theorem d_Model_twice_37 : decode b_Model_twice 37 = .ok (.iload 4, 2) := by decide +kernel
theorem d_Model_twice_39 : decode b_Model_twice 39 = .ok (.imul, 1) := by decide +kernel
theorem d_Model_twice_40 : decode b_Model_twice 40 = .ok (.iload 6, 2) := by decide +kernel
theorem d_Model_twice_42 : decode b_Model_twice 42 = .ok (.iadd, 1) := by decide +kernel
theorem d_Model_twice_43 : decode b_Model_twice 43 = .ok (.iaload, 1) := by decide +kernel
theorem d_Model_twice_44 : decode b_Model_twice 44 = .ok (.iload_n 1, 1) := by decide +kernel
theorem d_Model_twice_45 : decode b_Model_twice 45 = .ok (.if_icmp .ne 7, 3) := by decide +kernel
theorem d_Model_twice_48 : decode b_Model_twice 48 = .ok (.iconst 1, 1) := by decide +kernel
theorem d_Model_twice_49 : decode b_Model_twice 49 = .ok (.goto 4, 3) := by decide +kernel
theorem d_Model_twice_52 : decode b_Model_twice 52 = .ok (.iconst 0, 1) := by decide +kernel
theorem d_Model_twice_53 : decode b_Model_twice 53 = .ok (.istore 7, 2) := by decide +kernel
theorem d_Model_twice_55 : decode b_Model_twice 55 = .ok (.iload 5, 2) := by decide +kernel
theorem d_Model_twice_57 : decode b_Model_twice 57 = .ok (.iload 7, 2) := by decide +kernel
theorem d_Model_twice_59 : decode b_Model_twice 59 = .ok (.ifCond .eq 7, 3) := by decide +kernel
theorem d_Model_twice_62 : decode b_Model_twice 62 = .ok (.iconst 1, 1) := by decide +kernel
theorem d_Model_twice_63 : decode b_Model_twice 63 = .ok (.goto 4, 3) := by decide +kernel
theorem d_Model_twice_66 : decode b_Model_twice 66 = .ok (.iconst 0, 1) := by decide +kernel
theorem d_Model_twice_67 : decode b_Model_twice 67 = .ok (.iadd, 1) := by decide +kernel
theorem d_Model_twice_68 : decode b_Model_twice 68 = .ok (.istore 5, 2) := by decide +kernel
theorem d_Model_twice_70 : decode b_Model_twice 70 = .ok (.iload_n 2, 1) := by decide +kernel
theorem d_Model_twice_71 : decode b_Model_twice 71 = .ok (.iload 7, 2) := by decide +kernel
theorem d_Model_twice_73 : decode b_Model_twice 73 = .ok (.ifCond .eq 23, 3) := by decide +kernel
theorem d_Model_twice_76 : decode b_Model_twice 76 = .ok (.aload_n 0, 1) := by decide +kernel
theorem d_Model_twice_77 : decode b_Model_twice 77 = .ok (.getfield 28, 3) := by decide +kernel
theorem d_Model_twice_80 : decode b_Model_twice 80 = .ok (.bipush 8, 2) := by decide +kernel
theorem d_Model_twice_82 : decode b_Model_twice 82 = .ok (.iload 4, 2) := by decide +kernel
theorem d_Model_twice_84 : decode b_Model_twice 84 = .ok (.imul, 1) := by decide +kernel
theorem d_Model_twice_85 : decode b_Model_twice 85 = .ok (.iload 6, 2) := by decide +kernel
theorem d_Model_twice_87 : decode b_Model_twice 87 = .ok (.iadd, 1) := by decide +kernel
theorem d_Model_twice_88 : decode b_Model_twice 88 = .ok (.baload, 1) := by decide +kernel
theorem d_Model_twice_89 : decode b_Model_twice 89 = .ok (.ifCond .eq 7, 3) := by decide +kernel
theorem d_Model_twice_92 : decode b_Model_twice 92 = .ok (.iconst 1, 1) := by decide +kernel
theorem d_Model_twice_93 : decode b_Model_twice 93 = .ok (.goto 4, 3) := by decide +kernel
theorem d_Model_twice_96 : decode b_Model_twice 96 = .ok (.iconst 0, 1) := by decide +kernel
theorem d_Model_twice_97 : decode b_Model_twice 97 = .ok (.iadd, 1) := by decide +kernel
theorem d_Model_twice_98 : decode b_Model_twice 98 = .ok (.istore_n 2, 1) := by decide +kernel
theorem d_Model_twice_99 : decode b_Model_twice 99 = .ok (.iinc 6 1, 3) := by decide +kernel
theorem d_Model_twice_102 : decode b_Model_twice 102 = .ok (.goto (-83), 3) := by decide +kernel
theorem d_Model_twice_105 : decode b_Model_twice 105 = .ok (.iload_n 3, 1) := by decide +kernel
theorem d_Model_twice_106 : decode b_Model_twice 106 = .ok (.ifCond .ne 9, 3) := by decide +kernel
theorem d_Model_twice_109 : decode b_Model_twice 109 = .ok (.iload 5, 2) := by decide +kernel
theorem d_Model_twice_111 : decode b_Model_twice 111 = .ok (.iconst 1, 1) := by decide +kernel
theorem d_Model_twice_112 : decode b_Model_twice 112 = .ok (.if_icmp .le 7, 3) := by decide +kernel
theorem d_Model_twice_115 : decode b_Model_twice 115 = .ok (.iconst 1, 1) := by decide +kernel
theorem d_Model_twice_116 : decode b_Model_twice 116 = .ok (.goto 4, 3) := by decide +kernel
theorem d_Model_twice_119 : decode b_Model_twice 119 = .ok (.iconst 0, 1) := by decide +kernel
theorem d_Model_twice_120 : decode b_Model_twice 120 = .ok (.istore_n 3, 1) := by decide +kernel
theorem d_Model_twice_121 : decode b_Model_twice 121 = .ok (.iinc 4 1, 3) := by decide +kernel
theorem d_Model_twice_124 : decode b_Model_twice 124 = .ok (.goto (-117), 3) := by decide +kernel
theorem d_Model_twice_127 : decode b_Model_twice 127 = .ok (.iload_n 3, 1) := by decide +kernel
theorem d_Model_twice_128 : decode b_Model_twice 128 = .ok (.ifCond .ne 8, 3) := by decide +kernel
theorem d_Model_twice_131 : decode b_Model_twice 131 = .ok (.iload_n 2, 1) := by decide +kernel
theorem d_Model_twice_132 : decode b_Model_twice 132 = .ok (.iconst 1, 1) := by decide +kernel
theorem d_Model_twice_133 : decode b_Model_twice 133 = .ok (.if_icmp .le 7, 3) := by decide +kernel
theorem d_Model_twice_136 : decode b_Model_twice 136 = .ok (.iconst 1, 1) := by decide +kernel
theorem d_Model_twice_137 : decode b_Model_twice 137 = .ok (.goto 4, 3) := by decide +kernel
theorem d_Model_twice_140 : decode b_Model_twice 140 = .ok (.iconst 0, 1) := by decide +kernel
theorem d_Model_twice_141 : decode b_Model_twice 141 = .ok (.ireturn, 1) := by decide +kernel
theorem d_Model_needed_0 : decode b_Model_needed 0 = .ok (.aload_n 0, 1) := by decide +kernel
theorem d_Model_needed_1 : decode b_Model_needed 1 = .ok (.iload_n 1, 1) := by decide +kernel
theorem d_Model_needed_2 : decode b_Model_needed 2 = .ok (.iload_n 2, 1) := by decide +kernel
theorem d_Model_needed_3 : decode b_Model_needed 3 = .ok (.iconst 1, 1) := by decide +kernel
theorem d_Model_needed_4 : decode b_Model_needed 4 = .ok (.invokevirtual 97, 3) := by decide +kernel
theorem d_Model_needed_7 : decode b_Model_needed 7 = .ok (.istore_n 3, 1) := by decide +kernel
theorem d_Model_needed_8 : decode b_Model_needed 8 = .ok (.iload_n 3, 1) := by decide +kernel
theorem d_Model_needed_9 : decode b_Model_needed 9 = .ok (.iconst (-1), 1) := by decide +kernel
theorem d_Model_needed_10 : decode b_Model_needed 10 = .ok (.if_icmp .eq 7, 3) := by decide +kernel
theorem d_Model_needed_13 : decode b_Model_needed 13 = .ok (.iload_n 3, 1) := by decide +kernel
theorem d_Model_needed_14 : decode b_Model_needed 14 = .ok (.goto 8, 3) := by decide +kernel
theorem d_Model_needed_17 : decode b_Model_needed 17 = .ok (.aload_n 0, 1) := by decide +kernel
theorem d_Model_needed_18 : decode b_Model_needed 18 = .ok (.iload_n 2, 1) := by decide +kernel
theorem d_Model_needed_19 : decode b_Model_needed 19 = .ok (.invokevirtual 101, 3) := by decide +kernel
theorem d_Model_needed_22 : decode b_Model_needed 22 = .ok (.ireturn, 1) := by decide +kernel
theorem d_Model_valueOf_0 : decode b_Model_valueOf 0 = .ok (.aload_n 0, 1) := by decide +kernel
theorem d_Model_valueOf_1 : decode b_Model_valueOf 1 = .ok (.getfield 53, 3) := by decide +kernel
theorem d_Model_valueOf_4 : decode b_Model_valueOf 4 = .ok (.iconst 2, 1) := by decide +kernel
theorem d_Model_valueOf_5 : decode b_Model_valueOf 5 = .ok (.iload_n 1, 1) := by decide +kernel
theorem d_Model_valueOf_6 : decode b_Model_valueOf 6 = .ok (.bipush 8, 2) := by decide +kernel
theorem d_Model_valueOf_8 : decode b_Model_valueOf 8 = .ok (.idiv, 1) := by decide +kernel
theorem d_Model_valueOf_9 : decode b_Model_valueOf 9 = .ok (.imul, 1) := by decide +kernel
theorem d_Model_valueOf_10 : decode b_Model_valueOf 10 = .ok (.aload_n 0, 1) := by decide +kernel
theorem d_Model_valueOf_11 : decode b_Model_valueOf 11 = .ok (.getfield 22, 3) := by decide +kernel
theorem d_Model_valueOf_14 : decode b_Model_valueOf 14 = .ok (.iload_n 1, 1) := by decide +kernel
theorem d_Model_valueOf_15 : decode b_Model_valueOf 15 = .ok (.iaload, 1) := by decide +kernel
theorem d_Model_valueOf_16 : decode b_Model_valueOf 16 = .ok (.iadd, 1) := by decide +kernel
theorem d_Model_valueOf_17 : decode b_Model_valueOf 17 = .ok (.iaload, 1) := by decide +kernel
theorem d_Model_valueOf_18 : decode b_Model_valueOf 18 = .ok (.iconst 4, 1) := by decide +kernel
theorem d_Model_valueOf_19 : decode b_Model_valueOf 19 = .ok (.aload_n 0, 1) := by decide +kernel
theorem d_Model_valueOf_20 : decode b_Model_valueOf 20 = .ok (.getfield 25, 3) := by decide +kernel
theorem d_Model_valueOf_23 : decode b_Model_valueOf 23 = .ok (.iload_n 1, 1) := by decide +kernel
theorem d_Model_valueOf_24 : decode b_Model_valueOf 24 = .ok (.iaload, 1) := by decide +kernel
theorem d_Model_valueOf_25 : decode b_Model_valueOf 25 = .ok (.imul, 1) := by decide +kernel
theorem d_Model_valueOf_26 : decode b_Model_valueOf 26 = .ok (.iadd, 1) := by decide +kernel
theorem d_Model_valueOf_27 : decode b_Model_valueOf 27 = .ok (.ireturn, 1) := by decide +kernel
theorem d_Model_with_0 : decode b_Model_with 0 = .ok (.iload_n 0, 1) := by decide +kernel
theorem d_Model_with_1 : decode b_Model_with 1 = .ok (.iconst 1, 1) := by decide +kernel
theorem d_Model_with_2 : decode b_Model_with 2 = .ok (.iload_n 1, 1) := by decide +kernel
theorem d_Model_with_3 : decode b_Model_with 3 = .ok (.ishl, 1) := by decide +kernel
theorem d_Model_with_4 : decode b_Model_with 4 = .ok (.iconst 1, 1) := by decide +kernel
theorem d_Model_with_5 : decode b_Model_with 5 = .ok (.isub, 1) := by decide +kernel
theorem d_Model_with_6 : decode b_Model_with 6 = .ok (.iand, 1) := by decide +kernel
theorem d_Model_with_7 : decode b_Model_with 7 = .ok (.iload_n 2, 1) := by decide +kernel
theorem d_Model_with_8 : decode b_Model_with 8 = .ok (.iload_n 1, 1) := by decide +kernel
theorem d_Model_with_9 : decode b_Model_with 9 = .ok (.ishl, 1) := by decide +kernel
theorem d_Model_with_10 : decode b_Model_with 10 = .ok (.ior, 1) := by decide +kernel
theorem d_Model_with_11 : decode b_Model_with 11 = .ok (.ireturn, 1) := by decide +kernel
theorem d_Model_makes_0 : decode b_Model_makes 0 = .ok (.iload_n 1, 1) := by decide +kernel
theorem d_Model_makes_1 : decode b_Model_makes 1 = .ok (.bipush 16, 2) := by decide +kernel
theorem d_Model_makes_3 : decode b_Model_makes 3 = .ok (.idiv, 1) := by decide +kernel
theorem d_Model_makes_4 : decode b_Model_makes 4 = .ok (.istore_n 2, 1) := by decide +kernel
theorem d_Model_makes_5 : decode b_Model_makes 5 = .ok (.bipush 48, 2) := by decide +kernel
theorem d_Model_makes_7 : decode b_Model_makes 7 = .ok (.iload_n 2, 1) := by decide +kernel
theorem d_Model_makes_8 : decode b_Model_makes 8 = .ok (.imul, 1) := by decide +kernel
theorem d_Model_makes_9 : decode b_Model_makes 9 = .ok (.bipush 24, 2) := by decide +kernel
theorem d_Model_makes_11 : decode b_Model_makes 11 = .ok (.aload_n 0, 1) := by decide +kernel
theorem d_Model_makes_12 : decode b_Model_makes 12 = .ok (.getfield 35, 3) := by decide +kernel
theorem d_Model_makes_15 : decode b_Model_makes 15 = .ok (.iload_n 1, 1) := by decide +kernel
theorem d_Model_makes_16 : decode b_Model_makes 16 = .ok (.iaload, 1) := by decide +kernel
theorem d_Model_makes_17 : decode b_Model_makes 17 = .ok (.imul, 1) := by decide +kernel
theorem d_Model_makes_18 : decode b_Model_makes 18 = .ok (.iadd, 1) := by decide +kernel
theorem d_Model_makes_19 : decode b_Model_makes 19 = .ok (.aload_n 0, 1) := by decide +kernel
theorem d_Model_makes_20 : decode b_Model_makes 20 = .ok (.getfield 38, 3) := by decide +kernel
theorem d_Model_makes_23 : decode b_Model_makes 23 = .ok (.iload_n 1, 1) := by decide +kernel
theorem d_Model_makes_24 : decode b_Model_makes 24 = .ok (.iaload, 1) := by decide +kernel
theorem d_Model_makes_25 : decode b_Model_makes 25 = .ok (.iadd, 1) := by decide +kernel
theorem d_Model_makes_26 : decode b_Model_makes 26 = .ok (.istore_n 3, 1) := by decide +kernel
theorem d_Model_makes_27 : decode b_Model_makes 27 = .ok (.aload_n 0, 1) := by decide +kernel
theorem d_Model_makes_28 : decode b_Model_makes 28 = .ok (.getfield 53, 3) := by decide +kernel
theorem d_Model_makes_31 : decode b_Model_makes 31 = .ok (.iconst 2, 1) := by decide +kernel
theorem d_Model_makes_32 : decode b_Model_makes 32 = .ok (.iload_n 2, 1) := by decide +kernel
theorem d_Model_makes_33 : decode b_Model_makes 33 = .ok (.imul, 1) := by decide +kernel
theorem d_Model_makes_34 : decode b_Model_makes 34 = .ok (.aload_n 0, 1) := by decide +kernel
theorem d_Model_makes_35 : decode b_Model_makes 35 = .ok (.getfield 35, 3) := by decide +kernel
theorem d_Model_makes_38 : decode b_Model_makes 38 = .ok (.iload_n 1, 1) := by decide +kernel
theorem d_Model_makes_39 : decode b_Model_makes 39 = .ok (.iaload, 1) := by decide +kernel
theorem d_Model_makes_40 : decode b_Model_makes 40 = .ok (.iadd, 1) := by decide +kernel
theorem d_Model_makes_41 : decode b_Model_makes 41 = .ok (.iaload, 1) := by decide +kernel
theorem d_Model_makes_42 : decode b_Model_makes 42 = .ok (.iconst 4, 1) := by decide +kernel
theorem d_Model_makes_43 : decode b_Model_makes 43 = .ok (.aload_n 0, 1) := by decide +kernel
theorem d_Model_makes_44 : decode b_Model_makes 44 = .ok (.getfield 38, 3) := by decide +kernel
theorem d_Model_makes_47 : decode b_Model_makes 47 = .ok (.iload_n 1, 1) := by decide +kernel
theorem d_Model_makes_48 : decode b_Model_makes 48 = .ok (.iaload, 1) := by decide +kernel
theorem d_Model_makes_49 : decode b_Model_makes 49 = .ok (.imul, 1) := by decide +kernel
theorem d_Model_makes_50 : decode b_Model_makes 50 = .ok (.iadd, 1) := by decide +kernel
theorem d_Model_makes_51 : decode b_Model_makes 51 = .ok (.istore 4, 2) := by decide +kernel
theorem d_Model_makes_53 : decode b_Model_makes 53 = .ok (.aload_n 0, 1) := by decide +kernel
theorem d_Model_makes_54 : decode b_Model_makes 54 = .ok (.iload_n 2, 1) := by decide +kernel
theorem d_Model_makes_55 : decode b_Model_makes 55 = .ok (.aload_n 0, 1) := by decide +kernel
theorem d_Model_makes_56 : decode b_Model_makes 56 = .ok (.getfield 44, 3) := by decide +kernel
theorem d_Model_makes_59 : decode b_Model_makes 59 = .ok (.iload_n 1, 1) := by decide +kernel
theorem d_Model_makes_60 : decode b_Model_makes 60 = .ok (.iaload, 1) := by decide +kernel
theorem d_Model_makes_61 : decode b_Model_makes 61 = .ok (.invokevirtual 104, 3) := by decide +kernel
theorem d_Model_makes_64 : decode b_Model_makes 64 = .ok (.istore 5, 2) := by decide +kernel
theorem d_Model_makes_66 : decode b_Model_makes 66 = .ok (.aload_n 0, 1) := by decide +kernel
theorem d_Model_makes_67 : decode b_Model_makes 67 = .ok (.iload 5, 2) := by decide +kernel
theorem d_Model_makes_69 : decode b_Model_makes 69 = .ok (.invokevirtual 108, 3) := by decide +kernel
theorem d_Model_makes_72 : decode b_Model_makes 72 = .ok (.aload_n 0, 1) := by decide +kernel
theorem d_Model_makes_73 : decode b_Model_makes 73 = .ok (.getfield 47, 3) := by decide +kernel
theorem d_Model_makes_76 : decode b_Model_makes 76 = .ok (.iload_n 1, 1) := by decide +kernel
theorem d_Model_makes_77 : decode b_Model_makes 77 = .ok (.iaload, 1) := by decide +kernel
theorem d_Model_makes_78 : decode b_Model_makes 78 = .ok (.iadd, 1) := by decide +kernel
theorem d_Model_makes_79 : decode b_Model_makes 79 = .ok (.istore 6, 2) := by decide +kernel
theorem d_Model_makes_81 : decode b_Model_makes 81 = .ok (.aload_n 0, 1) := by decide +kernel
theorem d_Model_makes_82 : decode b_Model_makes 82 = .ok (.getfield 50, 3) := by decide +kernel
theorem d_Model_makes_85 : decode b_Model_makes 85 = .ok (.iload_n 3, 1) := by decide +kernel
theorem d_Model_makes_86 : decode b_Model_makes 86 = .ok (.iaload, 1) := by decide +kernel
theorem d_Model_makes_87 : decode b_Model_makes 87 = .ok (.istore 7, 2) := by decide +kernel
theorem d_Model_makes_89 : decode b_Model_makes 89 = .ok (.aload_n 0, 1) := by decide +kernel
theorem d_Model_makes_90 : decode b_Model_makes 90 = .ok (.getfield 41, 3) := by decide +kernel
theorem d_Model_makes_93 : decode b_Model_makes 93 = .ok (.iload_n 1, 1) := by decide +kernel
theorem d_Model_makes_94 : decode b_Model_makes 94 = .ok (.iaload, 1) := by decide +kernel
theorem d_Model_makes_95 : decode b_Model_makes 95 = .ok (.istore 8, 2) := by decide +kernel
theorem d_Model_makes_97 : decode b_Model_makes 97 = .ok (.iload 6, 2) := by decide +kernel
theorem d_Model_makes_99 : decode b_Model_makes 99 = .ok (.iload 4, 2) := by decide +kernel
theorem d_Model_makes_101 : decode b_Model_makes 101 = .ok (.isub, 1) := by decide +kernel
theorem d_Model_makes_102 : decode b_Model_makes 102 = .ok (.istore 9, 2) := by decide +kernel
theorem d_Model_makes_104 : decode b_Model_makes 104 = .ok (.iload 8, 2) := by decide +kernel
theorem d_Model_makes_106 : decode b_Model_makes 106 = .ok (.iconst 2, 1) := by decide +kernel
theorem d_Model_makes_107 : decode b_Model_makes 107 = .ok (.if_icmp .le 35, 3) := by decide +kernel
theorem d_Model_makes_110 : decode b_Model_makes 110 = .ok (.iload 9, 2) := by decide +kernel
theorem d_Model_makes_112 : decode b_Model_makes 112 = .ok (.iconst 2, 1) := by decide +kernel
theorem d_Model_makes_113 : decode b_Model_makes 113 = .ok (.irem, 1) := by decide +kernel
theorem d_Model_makes_114 : decode b_Model_makes 114 = .ok (.ifCond .ne 26, 3) := by decide +kernel
theorem d_Model_makes_117 : decode b_Model_makes 117 = .ok (.iload 9, 2) := by decide +kernel
theorem d_Model_makes_119 : decode b_Model_makes 119 = .ok (.iconst 2, 1) := by decide +kernel
theorem d_Model_makes_120 : decode b_Model_makes 120 = .ok (.idiv, 1) := by decide +kernel
theorem d_Model_makes_121 : decode b_Model_makes 121 = .ok (.iload 8, 2) := by decide +kernel
theorem d_Model_makes_123 : decode b_Model_makes 123 = .ok (.iconst 3, 1) := by decide +kernel
theorem d_Model_makes_124 : decode b_Model_makes 124 = .ok (.if_icmp .ne 8, 3) := by decide +kernel
theorem d_Model_makes_127 : decode b_Model_makes 127 = .ok (.bipush 12, 2) := by decide +kernel
theorem d_Model_makes_129 : decode b_Model_makes 129 = .ok (.goto 5, 3) := by decide +kernel
theorem d_Model_makes_132 : decode b_Model_makes 132 = .ok (.bipush 22, 2) := by decide +kernel
theorem d_Model_makes_134 : decode b_Model_makes 134 = .ok (.invokestatic 86, 3) := by decide +kernel
theorem d_Model_makes_137 : decode b_Model_makes 137 = .ok (.ifCond .ne 5, 3) := by decide +kernel
theorem d_Model_makes_140 : decode b_Model_makes 140 = .ok (.iconst 0, 1) := by decide +kernel
theorem d_Model_makes_141 : decode b_Model_makes 141 = .ok (.ireturn, 1) := by decide +kernel
theorem d_Model_makes_142 : decode b_Model_makes 142 = .ok (.aload_n 0, 1) := by decide +kernel
theorem d_Model_makes_143 : decode b_Model_makes 143 = .ok (.getfield 50, 3) := by decide +kernel
theorem d_Model_makes_146 : decode b_Model_makes 146 = .ok (.iload_n 3, 1) := by decide +kernel
theorem d_Model_makes_147 : decode b_Model_makes 147 = .ok (.iload 8, 2) := by decide +kernel
theorem d_Model_makes_149 : decode b_Model_makes 149 = .ok (.ifCond .ne 8, 3) := by decide +kernel
theorem d_Model_makes_152 : decode b_Model_makes 152 = .ok (.iload 6, 2) := by decide +kernel
theorem d_Model_makes_154 : decode b_Model_makes 154 = .ok (.goto 68, 3) := by decide +kernel
theorem d_Model_makes_157 : decode b_Model_makes 157 = .ok (.iload 8, 2) := by decide +kernel
theorem d_Model_makes_159 : decode b_Model_makes 159 = .ok (.iconst 1, 1) := by decide +kernel
theorem d_Model_makes_160 : decode b_Model_makes 160 = .ok (.if_icmp .ne 22, 3) := by decide +kernel
theorem d_Model_makes_163 : decode b_Model_makes 163 = .ok (.iload 7, 2) := by decide +kernel
theorem d_Model_makes_165 : decode b_Model_makes 165 = .ok (.bipush 12, 2) := by decide +kernel
theorem d_Model_makes_167 : decode b_Model_makes 167 = .ok (.iload 6, 2) := by decide +kernel
theorem d_Model_makes_169 : decode b_Model_makes 169 = .ok (.sipush 2048, 3) := by decide +kernel
theorem d_Model_makes_172 : decode b_Model_makes 172 = .ok (.iadd, 1) := by decide +kernel
theorem d_Model_makes_173 : decode b_Model_makes 173 = .ok (.bipush 12, 2) := by decide +kernel
theorem d_Model_makes_175 : decode b_Model_makes 175 = .ok (.ishr, 1) := by decide +kernel
theorem d_Model_makes_176 : decode b_Model_makes 176 = .ok (.invokestatic 111, 3) := by decide +kernel
theorem d_Model_makes_179 : decode b_Model_makes 179 = .ok (.goto 43, 3) := by decide +kernel
theorem d_Model_makes_182 : decode b_Model_makes 182 = .ok (.iload 8, 2) := by decide +kernel
theorem d_Model_makes_184 : decode b_Model_makes 184 = .ok (.iconst 2, 1) := by decide +kernel
theorem d_Model_makes_185 : decode b_Model_makes 185 = .ok (.if_icmp .ne 15, 3) := by decide +kernel
theorem d_Model_makes_188 : decode b_Model_makes 188 = .ok (.iload 7, 2) := by decide +kernel
theorem d_Model_makes_190 : decode b_Model_makes 190 = .ok (.bipush 20, 2) := by decide +kernel
theorem d_Model_makes_192 : decode b_Model_makes 192 = .ok (.iload 6, 2) := by decide +kernel
theorem d_Model_makes_194 : decode b_Model_makes 194 = .ok (.invokestatic 111, 3) := by decide +kernel
theorem d_Model_makes_197 : decode b_Model_makes 197 = .ok (.goto 25, 3) := by decide +kernel
theorem d_Model_makes_200 : decode b_Model_makes 200 = .ok (.iload 7, 2) := by decide +kernel
theorem d_Model_makes_202 : decode b_Model_makes 202 = .ok (.iload 8, 2) := by decide +kernel
theorem d_Model_makes_204 : decode b_Model_makes 204 = .ok (.iconst 3, 1) := by decide +kernel
theorem d_Model_makes_205 : decode b_Model_makes 205 = .ok (.if_icmp .ne 8, 3) := by decide +kernel
theorem d_Model_makes_208 : decode b_Model_makes 208 = .ok (.bipush 20, 2) := by decide +kernel
theorem d_Model_makes_210 : decode b_Model_makes 210 = .ok (.goto 5, 3) := by decide +kernel
theorem d_Model_makes_213 : decode b_Model_makes 213 = .ok (.bipush 10, 2) := by decide +kernel
theorem d_Model_makes_215 : decode b_Model_makes 215 = .ok (.iload 9, 2) := by decide +kernel
theorem d_Model_makes_217 : decode b_Model_makes 217 = .ok (.iconst 2, 1) := by decide +kernel
theorem d_Model_makes_218 : decode b_Model_makes 218 = .ok (.idiv, 1) := by decide +kernel
theorem d_Model_makes_219 : decode b_Model_makes 219 = .ok (.invokestatic 111, 3) := by decide +kernel
theorem d_Model_makes_222 : decode b_Model_makes 222 = .ok (.iastore, 1) := by decide +kernel
theorem d_Model_makes_223 : decode b_Model_makes 223 = .ok (.iconst 1, 1) := by decide +kernel
theorem d_Model_makes_224 : decode b_Model_makes 224 = .ok (.ireturn, 1) := by decide +kernel
theorem d_Model_end_0 : decode b_Model_end 0 = .ok (.iconst 0, 1) := by decide +kernel
theorem d_Model_end_1 : decode b_Model_end 1 = .ok (.istore_n 2, 1) := by decide +kernel
theorem d_Model_end_2 : decode b_Model_end 2 = .ok (.iconst 0, 1) := by decide +kernel
theorem d_Model_end_3 : decode b_Model_end 3 = .ok (.istore_n 3, 1) := by decide +kernel
theorem d_Model_end_4 : decode b_Model_end 4 = .ok (.iload_n 3, 1) := by decide +kernel
theorem d_Model_end_5 : decode b_Model_end 5 = .ok (.iconst 4, 1) := by decide +kernel
theorem d_Model_end_6 : decode b_Model_end 6 = .ok (.if_icmp .ge 22, 3) := by decide +kernel
theorem d_Model_end_9 : decode b_Model_end 9 = .ok (.iload_n 2, 1) := by decide +kernel
theorem d_Model_end_10 : decode b_Model_end 10 = .ok (.aload_n 0, 1) := by decide +kernel
theorem d_Model_end_11 : decode b_Model_end 11 = .ok (.getfield 13, 3) := by decide +kernel
theorem d_Model_end_14 : decode b_Model_end 14 = .ok (.iconst 2, 1) := by decide +kernel
theorem d_Model_end_15 : decode b_Model_end 15 = .ok (.iload_n 3, 1) := by decide +kernel
theorem d_Model_end_16 : decode b_Model_end 16 = .ok (.imul, 1) := by decide +kernel
theorem d_Model_end_17 : decode b_Model_end 17 = .ok (.iload_n 1, 1) := by decide +kernel
theorem d_Model_end_18 : decode b_Model_end 18 = .ok (.iadd, 1) := by decide +kernel
theorem d_Model_end_19 : decode b_Model_end 19 = .ok (.iaload, 1) := by decide +kernel
theorem d_Model_end_20 : decode b_Model_end 20 = .ok (.iadd, 1) := by decide +kernel
theorem d_Model_end_21 : decode b_Model_end 21 = .ok (.istore_n 2, 1) := by decide +kernel
theorem d_Model_end_22 : decode b_Model_end 22 = .ok (.iinc 3 1, 3) := by decide +kernel
theorem d_Model_end_25 : decode b_Model_end 25 = .ok (.goto (-21), 3) := by decide +kernel
theorem d_Model_end_28 : decode b_Model_end 28 = .ok (.iload_n 2, 1) := by decide +kernel
theorem d_Model_end_29 : decode b_Model_end 29 = .ok (.ireturn, 1) := by decide +kernel
theorem d_Model_begins_0 : decode b_Model_begins 0 = .ok (.iload_n 1, 1) := by decide +kernel
theorem d_Model_begins_1 : decode b_Model_begins 1 = .ok (.istore_n 2, 1) := by decide +kernel
theorem d_Model_begins_2 : decode b_Model_begins 2 = .ok (.iconst 0, 1) := by decide +kernel
theorem d_Model_begins_3 : decode b_Model_begins 3 = .ok (.istore_n 3, 1) := by decide +kernel
theorem d_Model_begins_4 : decode b_Model_begins 4 = .ok (.iload_n 3, 1) := by decide +kernel
theorem d_Model_begins_5 : decode b_Model_begins 5 = .ok (.iconst 2, 1) := by decide +kernel
theorem d_Model_begins_6 : decode b_Model_begins 6 = .ok (.if_icmp .ge 72, 3) := by decide +kernel
theorem d_Model_begins_9 : decode b_Model_begins 9 = .ok (.iload_n 3, 1) := by decide +kernel
theorem d_Model_begins_10 : decode b_Model_begins 10 = .ok (.iconst 1, 1) := by decide +kernel
theorem d_Model_begins_11 : decode b_Model_begins 11 = .ok (.if_icmp .ne 16, 3) := by decide +kernel
theorem d_Model_begins_14 : decode b_Model_begins 14 = .ok (.iload_n 2, 1) := by decide +kernel
theorem d_Model_begins_15 : decode b_Model_begins 15 = .ok (.bipush 63, 2) := by decide +kernel
theorem d_Model_begins_17 : decode b_Model_begins 17 = .ok (.iadd, 1) := by decide +kernel
theorem d_Model_begins_18 : decode b_Model_begins 18 = .ok (.bipush 64, 2) := by decide +kernel
theorem d_Model_begins_20 : decode b_Model_begins 20 = .ok (.idiv, 1) := by decide +kernel
theorem d_Model_begins_21 : decode b_Model_begins 21 = .ok (.bipush 64, 2) := by decide +kernel
theorem d_Model_begins_23 : decode b_Model_begins 23 = .ok (.imul, 1) := by decide +kernel
theorem d_Model_begins_24 : decode b_Model_begins 24 = .ok (.goto 4, 3) := by decide +kernel
theorem d_Model_begins_27 : decode b_Model_begins 27 = .ok (.iload_n 2, 1) := by decide +kernel
theorem d_Model_begins_28 : decode b_Model_begins 28 = .ok (.istore_n 2, 1) := by decide +kernel
theorem d_Model_begins_29 : decode b_Model_begins 29 = .ok (.iconst 0, 1) := by decide +kernel
theorem d_Model_begins_30 : decode b_Model_begins 30 = .ok (.istore 4, 2) := by decide +kernel
theorem d_Model_begins_32 : decode b_Model_begins 32 = .ok (.iload 4, 2) := by decide +kernel
theorem d_Model_begins_34 : decode b_Model_begins 34 = .ok (.iconst 4, 1) := by decide +kernel
theorem d_Model_begins_35 : decode b_Model_begins 35 = .ok (.if_icmp .ge 37, 3) := by decide +kernel
theorem d_Model_begins_38 : decode b_Model_begins 38 = .ok (.aload_n 0, 1) := by decide +kernel
theorem d_Model_begins_39 : decode b_Model_begins 39 = .ok (.getfield 53, 3) := by decide +kernel
theorem d_Model_begins_42 : decode b_Model_begins 42 = .ok (.iconst 2, 1) := by decide +kernel
theorem d_Model_begins_43 : decode b_Model_begins 43 = .ok (.iload 4, 2) := by decide +kernel
theorem d_Model_begins_45 : decode b_Model_begins 45 = .ok (.imul, 1) := by decide +kernel
theorem d_Model_begins_46 : decode b_Model_begins 46 = .ok (.iload_n 3, 1) := by decide +kernel
theorem d_Model_begins_47 : decode b_Model_begins 47 = .ok (.iadd, 1) := by decide +kernel
theorem d_Model_begins_48 : decode b_Model_begins 48 = .ok (.iload_n 2, 1) := by decide +kernel
theorem d_Model_begins_49 : decode b_Model_begins 49 = .ok (.iastore, 1) := by decide +kernel
theorem d_Model_begins_50 : decode b_Model_begins 50 = .ok (.iload_n 2, 1) := by decide +kernel
theorem d_Model_begins_51 : decode b_Model_begins 51 = .ok (.iconst 4, 1) := by decide +kernel
theorem d_Model_begins_52 : decode b_Model_begins 52 = .ok (.aload_n 0, 1) := by decide +kernel
theorem d_Model_begins_53 : decode b_Model_begins 53 = .ok (.getfield 13, 3) := by decide +kernel
theorem d_Model_begins_56 : decode b_Model_begins 56 = .ok (.iconst 2, 1) := by decide +kernel
theorem d_Model_begins_57 : decode b_Model_begins 57 = .ok (.iload 4, 2) := by decide +kernel
theorem d_Model_begins_59 : decode b_Model_begins 59 = .ok (.imul, 1) := by decide +kernel
theorem d_Model_begins_60 : decode b_Model_begins 60 = .ok (.iload_n 3, 1) := by decide +kernel
theorem d_Model_begins_61 : decode b_Model_begins 61 = .ok (.iadd, 1) := by decide +kernel
theorem d_Model_begins_62 : decode b_Model_begins 62 = .ok (.iaload, 1) := by decide +kernel
theorem d_Model_begins_63 : decode b_Model_begins 63 = .ok (.imul, 1) := by decide +kernel
theorem d_Model_begins_64 : decode b_Model_begins 64 = .ok (.iadd, 1) := by decide +kernel
theorem d_Model_begins_65 : decode b_Model_begins 65 = .ok (.istore_n 2, 1) := by decide +kernel
theorem d_Model_begins_66 : decode b_Model_begins 66 = .ok (.iinc 4 1, 3) := by decide +kernel
theorem d_Model_begins_69 : decode b_Model_begins 69 = .ok (.goto (-37), 3) := by decide +kernel
theorem d_Model_begins_72 : decode b_Model_begins 72 = .ok (.iinc 3 1, 3) := by decide +kernel
theorem d_Model_begins_75 : decode b_Model_begins 75 = .ok (.goto (-71), 3) := by decide +kernel
theorem d_Model_begins_78 : decode b_Model_begins 78 = .ok (.iconst 0, 1) := by decide +kernel
theorem d_Model_begins_79 : decode b_Model_begins 79 = .ok (.istore_n 3, 1) := by decide +kernel
theorem d_Model_begins_80 : decode b_Model_begins 80 = .ok (.iload_n 3, 1) := by decide +kernel
theorem d_Model_begins_81 : decode b_Model_begins 81 = .ok (.sipush 192, 3) := by decide +kernel
theorem d_Model_begins_84 : decode b_Model_begins 84 = .ok (.if_icmp .ge 21, 3) := by decide +kernel
theorem d_Model_begins_87 : decode b_Model_begins 87 = .ok (.aload_n 0, 1) := by decide +kernel
theorem d_Model_begins_88 : decode b_Model_begins 88 = .ok (.getfield 50, 3) := by decide +kernel
theorem d_Model_begins_91 : decode b_Model_begins 91 = .ok (.iload_n 3, 1) := by decide +kernel
theorem d_Model_begins_92 : decode b_Model_begins 92 = .ok (.aload_n 0, 1) := by decide +kernel
theorem d_Model_begins_93 : decode b_Model_begins 93 = .ok (.getfield 7, 3) := by decide +kernel
theorem d_Model_begins_96 : decode b_Model_begins 96 = .ok (.iload_n 3, 1) := by decide +kernel
theorem d_Model_begins_97 : decode b_Model_begins 97 = .ok (.iaload, 1) := by decide +kernel
theorem d_Model_begins_98 : decode b_Model_begins 98 = .ok (.iastore, 1) := by decide +kernel
theorem d_Model_begins_99 : decode b_Model_begins 99 = .ok (.iinc 3 1, 3) := by decide +kernel
theorem d_Model_begins_102 : decode b_Model_begins 102 = .ok (.goto (-22), 3) := by decide +kernel
theorem d_Model_begins_105 : decode b_Model_begins 105 = .ok (.return_, 1) := by decide +kernel
