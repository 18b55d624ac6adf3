theorem d_Reader_codeEnd_0 : decode b_Reader_codeEnd 0 = .ok (.aload_n 0, 1) := by decide +kernel
theorem d_Reader_codeEnd_1 : decode b_Reader_codeEnd 1 = .ok (.iconst 2, 1) := by decide +kernel
theorem d_Reader_codeEnd_2 : decode b_Reader_codeEnd 2 = .ok (.invokevirtual 25, 3) := by decide +kernel
theorem d_Reader_codeEnd_5 : decode b_Reader_codeEnd 5 = .ok (.i2l, 1) := by decide +kernel
theorem d_Reader_codeEnd_6 : decode b_Reader_codeEnd 6 = .ok (.aload_n 0, 1) := by decide +kernel
theorem d_Reader_codeEnd_7 : decode b_Reader_codeEnd 7 = .ok (.iconst 3, 1) := by decide +kernel
theorem d_Reader_codeEnd_8 : decode b_Reader_codeEnd 8 = .ok (.invokevirtual 25, 3) := by decide +kernel
theorem d_Reader_codeEnd_11 : decode b_Reader_codeEnd 11 = .ok (.i2l, 1) := by decide +kernel
theorem d_Reader_codeEnd_12 : decode b_Reader_codeEnd 12 = .ok (.ladd, 1) := by decide +kernel
theorem d_Reader_codeEnd_13 : decode b_Reader_codeEnd 13 = .ok (.lreturn, 1) := by decide +kernel
theorem d_Reader_isLength_0 : decode b_Reader_isLength 0 = .ok (.iload_n 1, 1) := by decide +kernel
theorem d_Reader_isLength_1 : decode b_Reader_isLength 1 = .ok (.ifCond .lt 34, 3) := by decide +kernel
theorem d_Reader_isLength_4 : decode b_Reader_isLength 4 = .ok (.iload_n 1, 1) := by decide +kernel
theorem d_Reader_isLength_5 : decode b_Reader_isLength 5 = .ok (.sipush 4096, 3) := by decide +kernel
theorem d_Reader_isLength_8 : decode b_Reader_isLength 8 = .ok (.if_icmp .gt 27, 3) := by decide +kernel
theorem d_Reader_isLength_11 : decode b_Reader_isLength 11 = .ok (.iload_n 1, 1) := by decide +kernel
theorem d_Reader_isLength_12 : decode b_Reader_isLength 12 = .ok (.iconst 4, 1) := by decide +kernel
theorem d_Reader_isLength_13 : decode b_Reader_isLength 13 = .ok (.irem, 1) := by decide +kernel
theorem d_Reader_isLength_14 : decode b_Reader_isLength 14 = .ok (.ifCond .ne 21, 3) := by decide +kernel
theorem d_Reader_isLength_17 : decode b_Reader_isLength 17 = .ok (.iload_n 0, 1) := by decide +kernel
theorem d_Reader_isLength_18 : decode b_Reader_isLength 18 = .ok (.i2l, 1) := by decide +kernel
theorem d_Reader_isLength_19 : decode b_Reader_isLength 19 = .ok (.iload_n 1, 1) := by decide +kernel
theorem d_Reader_isLength_20 : decode b_Reader_isLength 20 = .ok (.i2l, 1) := by decide +kernel
theorem d_Reader_isLength_21 : decode b_Reader_isLength 21 = .ok (.ladd, 1) := by decide +kernel
theorem d_Reader_isLength_22 : decode b_Reader_isLength 22 = .ok (.lconst 1, 1) := by decide +kernel
theorem d_Reader_isLength_23 : decode b_Reader_isLength 23 = .ok (.lsub, 1) := by decide +kernel
theorem d_Reader_isLength_24 : decode b_Reader_isLength 24 = .ok (.ldc2_w 44, 3) := by decide +kernel
theorem d_Reader_isLength_27 : decode b_Reader_isLength 27 = .ok (.lcmp, 1) := by decide +kernel
theorem d_Reader_isLength_28 : decode b_Reader_isLength 28 = .ok (.ifCond .gt 7, 3) := by decide +kernel
theorem d_Reader_isLength_31 : decode b_Reader_isLength 31 = .ok (.iconst 1, 1) := by decide +kernel
theorem d_Reader_isLength_32 : decode b_Reader_isLength 32 = .ok (.goto 4, 3) := by decide +kernel
theorem d_Reader_isLength_35 : decode b_Reader_isLength 35 = .ok (.iconst 0, 1) := by decide +kernel
theorem d_Reader_isLength_36 : decode b_Reader_isLength 36 = .ok (.ireturn, 1) := by decide +kernel
theorem d_Reader_isAsItMust_0 : decode b_Reader_isAsItMust 0 = .ok (.aload_n 0, 1) := by decide +kernel
theorem d_Reader_isAsItMust_1 : decode b_Reader_isAsItMust 1 = .ok (.iload_n 1, 1) := by decide +kernel
theorem d_Reader_isAsItMust_2 : decode b_Reader_isAsItMust 2 = .ok (.invokevirtual 25, 3) := by decide +kernel
theorem d_Reader_isAsItMust_5 : decode b_Reader_isAsItMust 5 = .ok (.istore_n 2, 1) := by decide +kernel
theorem d_Reader_isAsItMust_6 : decode b_Reader_isAsItMust 6 = .ok (.iload_n 1, 1) := by decide +kernel
theorem d_Reader_isAsItMust_7 : decode b_Reader_isAsItMust 7 = .ok (.tableswitch 190 0 7 #[45, 57, 88, 104, 127, 139, 162, 172], 45) := by decide +kernel
theorem d_Reader_isAsItMust_52 : decode b_Reader_isAsItMust 52 = .ok (.iload_n 2, 1) := by decide +kernel
theorem d_Reader_isAsItMust_53 : decode b_Reader_isAsItMust 53 = .ok (.ldc 29, 2) := by decide +kernel
theorem d_Reader_isAsItMust_55 : decode b_Reader_isAsItMust 55 = .ok (.if_icmp .ne 7, 3) := by decide +kernel
theorem d_Reader_isAsItMust_58 : decode b_Reader_isAsItMust 58 = .ok (.iconst 1, 1) := by decide +kernel
theorem d_Reader_isAsItMust_59 : decode b_Reader_isAsItMust 59 = .ok (.goto 4, 3) := by decide +kernel
theorem d_Reader_isAsItMust_62 : decode b_Reader_isAsItMust 62 = .ok (.iconst 0, 1) := by decide +kernel
theorem d_Reader_isAsItMust_63 : decode b_Reader_isAsItMust 63 = .ok (.ireturn, 1) := by decide +kernel
theorem d_Reader_isAsItMust_64 : decode b_Reader_isAsItMust 64 = .ok (.iload_n 2, 1) := by decide +kernel
theorem d_Reader_isAsItMust_65 : decode b_Reader_isAsItMust 65 = .ok (.iconst 4, 1) := by decide +kernel
theorem d_Reader_isAsItMust_66 : decode b_Reader_isAsItMust 66 = .ok (.irem, 1) := by decide +kernel
theorem d_Reader_isAsItMust_67 : decode b_Reader_isAsItMust 67 = .ok (.ifCond .ne 26, 3) := by decide +kernel
theorem d_Reader_isAsItMust_70 : decode b_Reader_isAsItMust 70 = .ok (.iload_n 2, 1) := by decide +kernel
theorem d_Reader_isAsItMust_71 : decode b_Reader_isAsItMust 71 = .ok (.aload_n 0, 1) := by decide +kernel
theorem d_Reader_isAsItMust_72 : decode b_Reader_isAsItMust 72 = .ok (.iconst 2, 1) := by decide +kernel
theorem d_Reader_isAsItMust_73 : decode b_Reader_isAsItMust 73 = .ok (.invokevirtual 25, 3) := by decide +kernel
theorem d_Reader_isAsItMust_76 : decode b_Reader_isAsItMust 76 = .ok (.if_icmp .lt 17, 3) := by decide +kernel
theorem d_Reader_isAsItMust_79 : decode b_Reader_isAsItMust 79 = .ok (.iload_n 2, 1) := by decide +kernel
theorem d_Reader_isAsItMust_80 : decode b_Reader_isAsItMust 80 = .ok (.i2l, 1) := by decide +kernel
theorem d_Reader_isAsItMust_81 : decode b_Reader_isAsItMust 81 = .ok (.aload_n 0, 1) := by decide +kernel
theorem d_Reader_isAsItMust_82 : decode b_Reader_isAsItMust 82 = .ok (.invokestatic 30, 3) := by decide +kernel
theorem d_Reader_isAsItMust_85 : decode b_Reader_isAsItMust 85 = .ok (.lcmp, 1) := by decide +kernel
theorem d_Reader_isAsItMust_86 : decode b_Reader_isAsItMust 86 = .ok (.ifCond .ge 7, 3) := by decide +kernel
theorem d_Reader_isAsItMust_89 : decode b_Reader_isAsItMust 89 = .ok (.iconst 1, 1) := by decide +kernel
theorem d_Reader_isAsItMust_90 : decode b_Reader_isAsItMust 90 = .ok (.goto 4, 3) := by decide +kernel
theorem d_Reader_isAsItMust_93 : decode b_Reader_isAsItMust 93 = .ok (.iconst 0, 1) := by decide +kernel
theorem d_Reader_isAsItMust_94 : decode b_Reader_isAsItMust 94 = .ok (.ireturn, 1) := by decide +kernel
theorem d_Reader_isAsItMust_95 : decode b_Reader_isAsItMust 95 = .ok (.iload_n 2, 1) := by decide +kernel
theorem d_Reader_isAsItMust_96 : decode b_Reader_isAsItMust 96 = .ok (.ifCond .lt 13, 3) := by decide +kernel
theorem d_Reader_isAsItMust_99 : decode b_Reader_isAsItMust 99 = .ok (.iload_n 2, 1) := by decide +kernel
theorem d_Reader_isAsItMust_100 : decode b_Reader_isAsItMust 100 = .ok (.iconst 4, 1) := by decide +kernel
theorem d_Reader_isAsItMust_101 : decode b_Reader_isAsItMust 101 = .ok (.irem, 1) := by decide +kernel
theorem d_Reader_isAsItMust_102 : decode b_Reader_isAsItMust 102 = .ok (.ifCond .ne 7, 3) := by decide +kernel
theorem d_Reader_isAsItMust_105 : decode b_Reader_isAsItMust 105 = .ok (.iconst 1, 1) := by decide +kernel
theorem d_Reader_isAsItMust_106 : decode b_Reader_isAsItMust 106 = .ok (.goto 4, 3) := by decide +kernel
theorem d_Reader_isAsItMust_109 : decode b_Reader_isAsItMust 109 = .ok (.iconst 0, 1) := by decide +kernel
theorem d_Reader_isAsItMust_110 : decode b_Reader_isAsItMust 110 = .ok (.ireturn, 1) := by decide +kernel
theorem d_Reader_isAsItMust_111 : decode b_Reader_isAsItMust 111 = .ok (.iload_n 2, 1) := by decide +kernel
theorem d_Reader_isAsItMust_112 : decode b_Reader_isAsItMust 112 = .ok (.iconst 4, 1) := by decide +kernel
theorem d_Reader_isAsItMust_113 : decode b_Reader_isAsItMust 113 = .ok (.if_icmp .lt 19, 3) := by decide +kernel
theorem d_Reader_isAsItMust_116 : decode b_Reader_isAsItMust 116 = .ok (.aload_n 0, 1) := by decide +kernel
theorem d_Reader_isAsItMust_117 : decode b_Reader_isAsItMust 117 = .ok (.iconst 2, 1) := by decide +kernel
theorem d_Reader_isAsItMust_118 : decode b_Reader_isAsItMust 118 = .ok (.invokevirtual 25, 3) := by decide +kernel
theorem d_Reader_isAsItMust_121 : decode b_Reader_isAsItMust 121 = .ok (.iload_n 2, 1) := by decide +kernel
theorem d_Reader_isAsItMust_122 : decode b_Reader_isAsItMust 122 = .ok (.invokestatic 34, 3) := by decide +kernel
theorem d_Reader_isAsItMust_125 : decode b_Reader_isAsItMust 125 = .ok (.ifCond .eq 7, 3) := by decide +kernel
theorem d_Reader_isAsItMust_128 : decode b_Reader_isAsItMust 128 = .ok (.iconst 1, 1) := by decide +kernel
theorem d_Reader_isAsItMust_129 : decode b_Reader_isAsItMust 129 = .ok (.goto 4, 3) := by decide +kernel
theorem d_Reader_isAsItMust_132 : decode b_Reader_isAsItMust 132 = .ok (.iconst 0, 1) := by decide +kernel
theorem d_Reader_isAsItMust_133 : decode b_Reader_isAsItMust 133 = .ok (.ireturn, 1) := by decide +kernel
theorem d_Reader_isAsItMust_134 : decode b_Reader_isAsItMust 134 = .ok (.iload_n 2, 1) := by decide +kernel
theorem d_Reader_isAsItMust_135 : decode b_Reader_isAsItMust 135 = .ok (.bipush 36, 2) := by decide +kernel
theorem d_Reader_isAsItMust_137 : decode b_Reader_isAsItMust 137 = .ok (.if_icmp .ne 7, 3) := by decide +kernel
theorem d_Reader_isAsItMust_140 : decode b_Reader_isAsItMust 140 = .ok (.iconst 1, 1) := by decide +kernel
theorem d_Reader_isAsItMust_141 : decode b_Reader_isAsItMust 141 = .ok (.goto 4, 3) := by decide +kernel
theorem d_Reader_isAsItMust_144 : decode b_Reader_isAsItMust 144 = .ok (.iconst 0, 1) := by decide +kernel
theorem d_Reader_isAsItMust_145 : decode b_Reader_isAsItMust 145 = .ok (.ireturn, 1) := by decide +kernel
theorem d_Reader_isAsItMust_146 : decode b_Reader_isAsItMust 146 = .ok (.iload_n 2, 1) := by decide +kernel
theorem d_Reader_isAsItMust_147 : decode b_Reader_isAsItMust 147 = .ok (.bipush 64, 2) := by decide +kernel
theorem d_Reader_isAsItMust_149 : decode b_Reader_isAsItMust 149 = .ok (.irem, 1) := by decide +kernel
theorem d_Reader_isAsItMust_150 : decode b_Reader_isAsItMust 150 = .ok (.ifCond .ne 17, 3) := by decide +kernel
theorem d_Reader_isAsItMust_153 : decode b_Reader_isAsItMust 153 = .ok (.iload_n 2, 1) := by decide +kernel
theorem d_Reader_isAsItMust_154 : decode b_Reader_isAsItMust 154 = .ok (.i2l, 1) := by decide +kernel
theorem d_Reader_isAsItMust_155 : decode b_Reader_isAsItMust 155 = .ok (.aload_n 0, 1) := by decide +kernel
theorem d_Reader_isAsItMust_156 : decode b_Reader_isAsItMust 156 = .ok (.invokestatic 30, 3) := by decide +kernel
theorem d_Reader_isAsItMust_159 : decode b_Reader_isAsItMust 159 = .ok (.lcmp, 1) := by decide +kernel
theorem d_Reader_isAsItMust_160 : decode b_Reader_isAsItMust 160 = .ok (.ifCond .lt 7, 3) := by decide +kernel
theorem d_Reader_isAsItMust_163 : decode b_Reader_isAsItMust 163 = .ok (.iconst 1, 1) := by decide +kernel
theorem d_Reader_isAsItMust_164 : decode b_Reader_isAsItMust 164 = .ok (.goto 4, 3) := by decide +kernel
theorem d_Reader_isAsItMust_167 : decode b_Reader_isAsItMust 167 = .ok (.iconst 0, 1) := by decide +kernel
theorem d_Reader_isAsItMust_168 : decode b_Reader_isAsItMust 168 = .ok (.ireturn, 1) := by decide +kernel
theorem d_Reader_isAsItMust_169 : decode b_Reader_isAsItMust 169 = .ok (.aload_n 0, 1) := by decide +kernel
theorem d_Reader_isAsItMust_170 : decode b_Reader_isAsItMust 170 = .ok (.iconst 5, 1) := by decide +kernel
theorem d_Reader_isAsItMust_171 : decode b_Reader_isAsItMust 171 = .ok (.invokevirtual 25, 3) := by decide +kernel
theorem d_Reader_isAsItMust_174 : decode b_Reader_isAsItMust 174 = .ok (.iload_n 2, 1) := by decide +kernel
theorem d_Reader_isAsItMust_175 : decode b_Reader_isAsItMust 175 = .ok (.invokestatic 34, 3) := by decide +kernel
theorem d_Reader_isAsItMust_178 : decode b_Reader_isAsItMust 178 = .ok (.ireturn, 1) := by decide +kernel
theorem d_Reader_isAsItMust_179 : decode b_Reader_isAsItMust 179 = .ok (.iload_n 2, 1) := by decide +kernel
theorem d_Reader_isAsItMust_180 : decode b_Reader_isAsItMust 180 = .ok (.bipush 36, 2) := by decide +kernel
theorem d_Reader_isAsItMust_182 : decode b_Reader_isAsItMust 182 = .ok (.aload_n 0, 1) := by decide +kernel
theorem d_Reader_isAsItMust_183 : decode b_Reader_isAsItMust 183 = .ok (.iconst 3, 1) := by decide +kernel
theorem d_Reader_isAsItMust_184 : decode b_Reader_isAsItMust 184 = .ok (.invokevirtual 25, 3) := by decide +kernel
theorem d_Reader_isAsItMust_187 : decode b_Reader_isAsItMust 187 = .ok (.iadd, 1) := by decide +kernel
theorem d_Reader_isAsItMust_188 : decode b_Reader_isAsItMust 188 = .ok (.if_icmp .ne 7, 3) := by decide +kernel
theorem d_Reader_isAsItMust_191 : decode b_Reader_isAsItMust 191 = .ok (.iconst 1, 1) := by decide +kernel
theorem d_Reader_isAsItMust_192 : decode b_Reader_isAsItMust 192 = .ok (.goto 4, 3) := by decide +kernel
theorem d_Reader_isAsItMust_195 : decode b_Reader_isAsItMust 195 = .ok (.iconst 0, 1) := by decide +kernel
theorem d_Reader_isAsItMust_196 : decode b_Reader_isAsItMust 196 = .ok (.ireturn, 1) := by decide +kernel
theorem d_Reader_isAsItMust_197 : decode b_Reader_isAsItMust 197 = .ok (.iload_n 2, 1) := by decide +kernel
theorem d_Reader_isAsItMust_198 : decode b_Reader_isAsItMust 198 = .ok (.aload_n 0, 1) := by decide +kernel
theorem d_Reader_isAsItMust_199 : decode b_Reader_isAsItMust 199 = .ok (.invokevirtual 38, 3) := by decide +kernel
theorem d_Reader_isAsItMust_202 : decode b_Reader_isAsItMust 202 = .ok (.if_icmp .ne 7, 3) := by decide +kernel
theorem d_Reader_isAsItMust_205 : decode b_Reader_isAsItMust 205 = .ok (.iconst 1, 1) := by decide +kernel
theorem d_Reader_isAsItMust_206 : decode b_Reader_isAsItMust 206 = .ok (.goto 4, 3) := by decide +kernel
theorem d_Reader_isAsItMust_209 : decode b_Reader_isAsItMust 209 = .ok (.iconst 0, 1) := by decide +kernel
theorem d_Reader_isAsItMust_210 : decode b_Reader_isAsItMust 210 = .ok (.ireturn, 1) := by decide +kernel
theorem d_Reader_faultOf_0 : decode b_Reader_faultOf 0 = .ok (.iconst 0, 1) := by decide +kernel
theorem d_Reader_faultOf_1 : decode b_Reader_faultOf 1 = .ok (.istore_n 1, 1) := by decide +kernel
theorem d_Reader_faultOf_2 : decode b_Reader_faultOf 2 = .ok (.iload_n 1, 1) := by decide +kernel
theorem d_Reader_faultOf_3 : decode b_Reader_faultOf 3 = .ok (.getstatic 9, 3) := by decide +kernel
theorem d_Reader_faultOf_6 : decode b_Reader_faultOf 6 = .ok (.arraylength, 1) := by decide +kernel
theorem d_Reader_faultOf_7 : decode b_Reader_faultOf 7 = .ok (.if_icmp .ge 39, 3) := by decide +kernel
theorem d_Reader_faultOf_10 : decode b_Reader_faultOf 10 = .ok (.getstatic 9, 3) := by decide +kernel
theorem d_Reader_faultOf_13 : decode b_Reader_faultOf 13 = .ok (.iload_n 1, 1) := by decide +kernel
theorem d_Reader_faultOf_14 : decode b_Reader_faultOf 14 = .ok (.iaload, 1) := by decide +kernel
theorem d_Reader_faultOf_15 : decode b_Reader_faultOf 15 = .ok (.istore_n 2, 1) := by decide +kernel
theorem d_Reader_faultOf_16 : decode b_Reader_faultOf 16 = .ok (.iconst 4, 1) := by decide +kernel
theorem d_Reader_faultOf_17 : decode b_Reader_faultOf 17 = .ok (.iload_n 2, 1) := by decide +kernel
theorem d_Reader_faultOf_18 : decode b_Reader_faultOf 18 = .ok (.iconst 1, 1) := by decide +kernel
theorem d_Reader_faultOf_19 : decode b_Reader_faultOf 19 = .ok (.iadd, 1) := by decide +kernel
theorem d_Reader_faultOf_20 : decode b_Reader_faultOf 20 = .ok (.imul, 1) := by decide +kernel
theorem d_Reader_faultOf_21 : decode b_Reader_faultOf 21 = .ok (.aload_n 0, 1) := by decide +kernel
theorem d_Reader_faultOf_22 : decode b_Reader_faultOf 22 = .ok (.getfield 15, 3) := by decide +kernel
theorem d_Reader_faultOf_25 : decode b_Reader_faultOf 25 = .ok (.if_icmp .gt 11, 3) := by decide +kernel
theorem d_Reader_faultOf_28 : decode b_Reader_faultOf 28 = .ok (.aload_n 0, 1) := by decide +kernel
theorem d_Reader_faultOf_29 : decode b_Reader_faultOf 29 = .ok (.iload_n 2, 1) := by decide +kernel
theorem d_Reader_faultOf_30 : decode b_Reader_faultOf 30 = .ok (.invokestatic 21, 3) := by decide +kernel
theorem d_Reader_faultOf_33 : decode b_Reader_faultOf 33 = .ok (.ifCond .ne 7, 3) := by decide +kernel
theorem d_Reader_faultOf_36 : decode b_Reader_faultOf 36 = .ok (.iconst (-1), 1) := by decide +kernel
theorem d_Reader_faultOf_37 : decode b_Reader_faultOf 37 = .ok (.iload_n 2, 1) := by decide +kernel
theorem d_Reader_faultOf_38 : decode b_Reader_faultOf 38 = .ok (.isub, 1) := by decide +kernel
theorem d_Reader_faultOf_39 : decode b_Reader_faultOf 39 = .ok (.ireturn, 1) := by decide +kernel
theorem d_Reader_faultOf_40 : decode b_Reader_faultOf 40 = .ok (.iinc 1 1, 3) := by decide +kernel
theorem d_Reader_faultOf_43 : decode b_Reader_faultOf 43 = .ok (.goto (-41), 3) := by decide +kernel
theorem d_Reader_faultOf_46 : decode b_Reader_faultOf 46 = .ok (.bipush 36, 2) := by decide +kernel
theorem d_Reader_faultOf_48 : decode b_Reader_faultOf 48 = .ok (.aload_n 0, 1) := by decide +kernel
theorem d_Reader_faultOf_49 : decode b_Reader_faultOf 49 = .ok (.iconst 3, 1) := by decide +kernel
theorem d_Reader_faultOf_50 : decode b_Reader_faultOf 50 = .ok (.invokevirtual 25, 3) := by decide +kernel
theorem d_Reader_faultOf_53 : decode b_Reader_faultOf 53 = .ok (.iadd, 1) := by decide +kernel
theorem d_Reader_faultOf_54 : decode b_Reader_faultOf 54 = .ok (.aload_n 0, 1) := by decide +kernel
theorem d_Reader_faultOf_55 : decode b_Reader_faultOf 55 = .ok (.bipush 6, 2) := by decide +kernel
theorem d_Reader_faultOf_57 : decode b_Reader_faultOf 57 = .ok (.invokevirtual 25, 3) := by decide +kernel
theorem d_Reader_faultOf_60 : decode b_Reader_faultOf 60 = .ok (.iadd, 1) := by decide +kernel
theorem d_Reader_faultOf_61 : decode b_Reader_faultOf 61 = .ok (.istore_n 1, 1) := by decide +kernel
theorem d_Reader_faultOf_62 : decode b_Reader_faultOf 62 = .ok (.aload_n 0, 1) := by decide +kernel
theorem d_Reader_faultOf_63 : decode b_Reader_faultOf 63 = .ok (.getfield 15, 3) := by decide +kernel
theorem d_Reader_faultOf_66 : decode b_Reader_faultOf 66 = .ok (.iload_n 1, 1) := by decide +kernel
theorem d_Reader_faultOf_67 : decode b_Reader_faultOf 67 = .ok (.if_icmp .ne 7, 3) := by decide +kernel
theorem d_Reader_faultOf_70 : decode b_Reader_faultOf 70 = .ok (.iconst 0, 1) := by decide +kernel
theorem d_Reader_faultOf_71 : decode b_Reader_faultOf 71 = .ok (.goto 5, 3) := by decide +kernel
theorem d_Reader_faultOf_74 : decode b_Reader_faultOf 74 = .ok (.bipush (-10), 2) := by decide +kernel
theorem d_Reader_faultOf_76 : decode b_Reader_faultOf 76 = .ok (.ireturn, 1) := by decide +kernel
theorem d_Machine_start_0 : decode b_Machine_start 0 = .ok (.aload_n 0, 1) := by decide +kernel
theorem d_Machine_start_1 : decode b_Machine_start 1 = .ok (.aload_n 1, 1) := by decide +kernel
theorem d_Machine_start_2 : decode b_Machine_start 2 = .ok (.iconst 2, 1) := by decide +kernel
theorem d_Machine_start_3 : decode b_Machine_start 3 = .ok (.invokevirtual 23, 3) := by decide +kernel
theorem d_Machine_start_6 : decode b_Machine_start 6 = .ok (.putfield 29, 3) := by decide +kernel
theorem d_Machine_start_9 : decode b_Machine_start 9 = .ok (.aload_n 0, 1) := by decide +kernel
theorem d_Machine_start_10 : decode b_Machine_start 10 = .ok (.aload_n 1, 1) := by decide +kernel
theorem d_Machine_start_11 : decode b_Machine_start 11 = .ok (.iconst 3, 1) := by decide +kernel
theorem d_Machine_start_12 : decode b_Machine_start 12 = .ok (.invokevirtual 23, 3) := by decide +kernel
theorem d_Machine_start_15 : decode b_Machine_start 15 = .ok (.iconst 4, 1) := by decide +kernel
theorem d_Machine_start_16 : decode b_Machine_start 16 = .ok (.idiv, 1) := by decide +kernel
theorem d_Machine_start_17 : decode b_Machine_start 17 = .ok (.putfield 33, 3) := by decide +kernel
theorem d_Machine_start_20 : decode b_Machine_start 20 = .ok (.aload_n 0, 1) := by decide +kernel
theorem d_Machine_start_21 : decode b_Machine_start 21 = .ok (.aload_n 1, 1) := by decide +kernel
theorem d_Machine_start_22 : decode b_Machine_start 22 = .ok (.iconst 5, 1) := by decide +kernel
theorem d_Machine_start_23 : decode b_Machine_start 23 = .ok (.invokevirtual 23, 3) := by decide +kernel
theorem d_Machine_start_26 : decode b_Machine_start 26 = .ok (.putfield 36, 3) := by decide +kernel
theorem d_Machine_start_29 : decode b_Machine_start 29 = .ok (.aload_n 0, 1) := by decide +kernel
theorem d_Machine_start_30 : decode b_Machine_start 30 = .ok (.aload_n 1, 1) := by decide +kernel
theorem d_Machine_start_31 : decode b_Machine_start 31 = .ok (.bipush 6, 2) := by decide +kernel
theorem d_Machine_start_33 : decode b_Machine_start 33 = .ok (.invokevirtual 23, 3) := by decide +kernel
theorem d_Machine_start_36 : decode b_Machine_start 36 = .ok (.iconst 4, 1) := by decide +kernel
theorem d_Machine_start_37 : decode b_Machine_start 37 = .ok (.idiv, 1) := by decide +kernel
theorem d_Machine_start_38 : decode b_Machine_start 38 = .ok (.putfield 39, 3) := by decide +kernel
theorem d_Machine_start_41 : decode b_Machine_start 41 = .ok (.iconst 0, 1) := by decide +kernel
theorem d_Machine_start_42 : decode b_Machine_start 42 = .ok (.istore_n 2, 1) := by decide +kernel
theorem d_Machine_start_43 : decode b_Machine_start 43 = .ok (.iload_n 2, 1) := by decide +kernel
theorem d_Machine_start_44 : decode b_Machine_start 44 = .ok (.aload_n 0, 1) := by decide +kernel
theorem d_Machine_start_45 : decode b_Machine_start 45 = .ok (.getfield 33, 3) := by decide +kernel
theorem d_Machine_start_48 : decode b_Machine_start 48 = .ok (.aload_n 0, 1) := by decide +kernel
theorem d_Machine_start_49 : decode b_Machine_start 49 = .ok (.getfield 39, 3) := by decide +kernel
theorem d_Machine_start_52 : decode b_Machine_start 52 = .ok (.iadd, 1) := by decide +kernel
theorem d_Machine_start_53 : decode b_Machine_start 53 = .ok (.if_icmp .ge 25, 3) := by decide +kernel
theorem d_Machine_start_56 : decode b_Machine_start 56 = .ok (.aload_n 0, 1) := by decide +kernel
theorem d_Machine_start_57 : decode b_Machine_start 57 = .ok (.getfield 11, 3) := by decide +kernel
theorem d_Machine_start_60 : decode b_Machine_start 60 = .ok (.iload_n 2, 1) := by decide +kernel
theorem d_Machine_start_61 : decode b_Machine_start 61 = .ok (.aload_n 1, 1) := by decide +kernel
theorem d_Machine_start_62 : decode b_Machine_start 62 = .ok (.bipush 36, 2) := by decide +kernel
theorem d_Machine_start_64 : decode b_Machine_start 64 = .ok (.iconst 4, 1) := by decide +kernel
theorem d_Machine_start_65 : decode b_Machine_start 65 = .ok (.iload_n 2, 1) := by decide +kernel
theorem d_Machine_start_66 : decode b_Machine_start 66 = .ok (.imul, 1) := by decide +kernel
theorem d_Machine_start_67 : decode b_Machine_start 67 = .ok (.iadd, 1) := by decide +kernel
theorem d_Machine_start_68 : decode b_Machine_start 68 = .ok (.invokevirtual 42, 3) := by decide +kernel
theorem d_Machine_start_71 : decode b_Machine_start 71 = .ok (.iastore, 1) := by decide +kernel
theorem d_Machine_start_72 : decode b_Machine_start 72 = .ok (.iinc 2 1, 3) := by decide +kernel
theorem d_Machine_start_75 : decode b_Machine_start 75 = .ok (.goto (-32), 3) := by decide +kernel
theorem d_Machine_start_78 : decode b_Machine_start 78 = .ok (.iconst 0, 1) := by decide +kernel
theorem d_Machine_start_79 : decode b_Machine_start 79 = .ok (.istore_n 2, 1) := by decide +kernel
theorem d_Machine_start_80 : decode b_Machine_start 80 = .ok (.iload_n 2, 1) := by decide +kernel
theorem d_Machine_start_81 : decode b_Machine_start 81 = .ok (.bipush 32, 2) := by decide +kernel
theorem d_Machine_start_83 : decode b_Machine_start 83 = .ok (.if_icmp .ge 16, 3) := by decide +kernel
theorem d_Machine_start_86 : decode b_Machine_start 86 = .ok (.aload_n 0, 1) := by decide +kernel
theorem d_Machine_start_87 : decode b_Machine_start 87 = .ok (.getfield 15, 3) := by decide +kernel
theorem d_Machine_start_90 : decode b_Machine_start 90 = .ok (.iload_n 2, 1) := by decide +kernel
theorem d_Machine_start_91 : decode b_Machine_start 91 = .ok (.iconst 0, 1) := by decide +kernel
theorem d_Machine_start_92 : decode b_Machine_start 92 = .ok (.iastore, 1) := by decide +kernel
theorem d_Machine_start_93 : decode b_Machine_start 93 = .ok (.iinc 2 1, 3) := by decide +kernel
theorem d_Machine_start_96 : decode b_Machine_start 96 = .ok (.goto (-16), 3) := by decide +kernel
theorem d_Machine_start_99 : decode b_Machine_start 99 = .ok (.aload_n 0, 1) := by decide +kernel
theorem d_Machine_start_100 : decode b_Machine_start 100 = .ok (.iconst 1, 1) := by decide +kernel
theorem d_Machine_start_101 : decode b_Machine_start 101 = .ok (.putfield 45, 3) := by decide +kernel
theorem d_Machine_start_104 : decode b_Machine_start 104 = .ok (.aload_n 0, 1) := by decide +kernel
theorem d_Machine_start_105 : decode b_Machine_start 105 = .ok (.aload_n 1, 1) := by decide +kernel
theorem d_Machine_start_106 : decode b_Machine_start 106 = .ok (.iconst 1, 1) := by decide +kernel
theorem d_Machine_start_107 : decode b_Machine_start 107 = .ok (.invokevirtual 23, 3) := by decide +kernel
theorem d_Machine_start_110 : decode b_Machine_start 110 = .ok (.putfield 48, 3) := by decide +kernel
theorem d_Machine_start_113 : decode b_Machine_start 113 = .ok (.aload_n 0, 1) := by decide +kernel
theorem d_Machine_start_114 : decode b_Machine_start 114 = .ok (.iconst 0, 1) := by decide +kernel
theorem d_Machine_start_115 : decode b_Machine_start 115 = .ok (.putfield 51, 3) := by decide +kernel
theorem d_Machine_start_118 : decode b_Machine_start 118 = .ok (.aload_n 0, 1) := by decide +kernel
theorem d_Machine_start_119 : decode b_Machine_start 119 = .ok (.iconst 0, 1) := by decide +kernel
theorem d_Machine_start_120 : decode b_Machine_start 120 = .ok (.putfield 54, 3) := by decide +kernel
theorem d_Machine_start_123 : decode b_Machine_start 123 = .ok (.return_, 1) := by decide +kernel
theorem d_Machine_placeOf_0 : decode b_Machine_placeOf 0 = .ok (.iload_n 0, 1) := by decide +kernel
theorem d_Machine_placeOf_1 : decode b_Machine_placeOf 1 = .ok (.i2l, 1) := by decide +kernel
theorem d_Machine_placeOf_2 : decode b_Machine_placeOf 2 = .ok (.iload_n 1, 1) := by decide +kernel
theorem d_Machine_placeOf_3 : decode b_Machine_placeOf 3 = .ok (.i2l, 1) := by decide +kernel
theorem d_Machine_placeOf_4 : decode b_Machine_placeOf 4 = .ok (.lsub, 1) := by decide +kernel
theorem d_Machine_placeOf_5 : decode b_Machine_placeOf 5 = .ok (.lstore_n 3, 1) := by decide +kernel
theorem d_Machine_placeOf_6 : decode b_Machine_placeOf 6 = .ok (.lload_n 3, 1) := by decide +kernel
theorem d_Machine_placeOf_7 : decode b_Machine_placeOf 7 = .ok (.lconst 0, 1) := by decide +kernel
theorem d_Machine_placeOf_8 : decode b_Machine_placeOf 8 = .ok (.lcmp, 1) := by decide +kernel
theorem d_Machine_placeOf_9 : decode b_Machine_placeOf 9 = .ok (.ifCond .lt 24, 3) := by decide +kernel
theorem d_Machine_placeOf_12 : decode b_Machine_placeOf 12 = .ok (.lload_n 3, 1) := by decide +kernel
theorem d_Machine_placeOf_13 : decode b_Machine_placeOf 13 = .ok (.ldc2_w 130, 3) := by decide +kernel
theorem d_Machine_placeOf_16 : decode b_Machine_placeOf 16 = .ok (.iload_n 2, 1) := by decide +kernel
theorem d_Machine_placeOf_17 : decode b_Machine_placeOf 17 = .ok (.i2l, 1) := by decide +kernel
theorem d_Machine_placeOf_18 : decode b_Machine_placeOf 18 = .ok (.lmul, 1) := by decide +kernel
theorem d_Machine_placeOf_19 : decode b_Machine_placeOf 19 = .ok (.lcmp, 1) := by decide +kernel
theorem d_Machine_placeOf_20 : decode b_Machine_placeOf 20 = .ok (.ifCond .ge 13, 3) := by decide +kernel
theorem d_Machine_placeOf_23 : decode b_Machine_placeOf 23 = .ok (.lload_n 3, 1) := by decide +kernel
theorem d_Machine_placeOf_24 : decode b_Machine_placeOf 24 = .ok (.ldc2_w 130, 3) := by decide +kernel
theorem d_Machine_placeOf_27 : decode b_Machine_placeOf 27 = .ok (.lrem, 1) := by decide +kernel
theorem d_Machine_placeOf_28 : decode b_Machine_placeOf 28 = .ok (.lconst 0, 1) := by decide +kernel
theorem d_Machine_placeOf_29 : decode b_Machine_placeOf 29 = .ok (.lcmp, 1) := by decide +kernel
theorem d_Machine_placeOf_30 : decode b_Machine_placeOf 30 = .ok (.ifCond .eq 5, 3) := by decide +kernel
theorem d_Machine_placeOf_33 : decode b_Machine_placeOf 33 = .ok (.iconst (-1), 1) := by decide +kernel
theorem d_Machine_placeOf_34 : decode b_Machine_placeOf 34 = .ok (.ireturn, 1) := by decide +kernel
theorem d_Machine_placeOf_35 : decode b_Machine_placeOf 35 = .ok (.lload_n 3, 1) := by decide +kernel
theorem d_Machine_placeOf_36 : decode b_Machine_placeOf 36 = .ok (.ldc2_w 130, 3) := by decide +kernel
theorem d_Machine_placeOf_39 : decode b_Machine_placeOf 39 = .ok (.ldiv, 1) := by decide +kernel
theorem d_Machine_placeOf_40 : decode b_Machine_placeOf 40 = .ok (.l2i, 1) := by decide +kernel
theorem d_Machine_placeOf_41 : decode b_Machine_placeOf 41 = .ok (.ireturn, 1) := by decide +kernel
theorem d_Machine_setRegister_0 : decode b_Machine_setRegister 0 = .ok (.iload_n 1, 1) := by decide +kernel
theorem d_Machine_setRegister_1 : decode b_Machine_setRegister 1 = .ok (.ifCond .eq 10, 3) := by decide +kernel
theorem d_Machine_setRegister_4 : decode b_Machine_setRegister 4 = .ok (.aload_n 0, 1) := by decide +kernel
theorem d_Machine_setRegister_5 : decode b_Machine_setRegister 5 = .ok (.getfield 15, 3) := by decide +kernel
theorem d_Machine_setRegister_8 : decode b_Machine_setRegister 8 = .ok (.iload_n 1, 1) := by decide +kernel
theorem d_Machine_setRegister_9 : decode b_Machine_setRegister 9 = .ok (.iload_n 2, 1) := by decide +kernel
theorem d_Machine_setRegister_10 : decode b_Machine_setRegister 10 = .ok (.iastore, 1) := by decide +kernel
theorem d_Machine_setRegister_11 : decode b_Machine_setRegister 11 = .ok (.return_, 1) := by decide +kernel
theorem d_Machine_goOnWith_0 : decode b_Machine_goOnWith 0 = .ok (.aload_n 0, 1) := by decide +kernel
theorem d_Machine_goOnWith_1 : decode b_Machine_goOnWith 1 = .ok (.iload_n 1, 1) := by decide +kernel
theorem d_Machine_goOnWith_2 : decode b_Machine_goOnWith 2 = .ok (.iload_n 2, 1) := by decide +kernel
theorem d_Machine_goOnWith_3 : decode b_Machine_goOnWith 3 = .ok (.invokevirtual 118, 3) := by decide +kernel
theorem d_Machine_goOnWith_6 : decode b_Machine_goOnWith 6 = .ok (.aload_n 0, 1) := by decide +kernel
theorem d_Machine_goOnWith_7 : decode b_Machine_goOnWith 7 = .ok (.dup, 1) := by decide +kernel
theorem d_Machine_goOnWith_8 : decode b_Machine_goOnWith 8 = .ok (.getfield 48, 3) := by decide +kernel
theorem d_Machine_goOnWith_11 : decode b_Machine_goOnWith 11 = .ok (.iconst 4, 1) := by decide +kernel
theorem d_Machine_goOnWith_12 : decode b_Machine_goOnWith 12 = .ok (.iadd, 1) := by decide +kernel
theorem d_Machine_goOnWith_13 : decode b_Machine_goOnWith 13 = .ok (.putfield 48, 3) := by decide +kernel
theorem d_Machine_goOnWith_16 : decode b_Machine_goOnWith 16 = .ok (.return_, 1) := by decide +kernel
theorem d_Machine_indexOf_0 : decode b_Machine_indexOf 0 = .ok (.iload_n 1, 1) := by decide +kernel
theorem d_Machine_indexOf_1 : decode b_Machine_indexOf 1 = .ok (.aload_n 0, 1) := by decide +kernel
theorem d_Machine_indexOf_2 : decode b_Machine_indexOf 2 = .ok (.getfield 29, 3) := by decide +kernel
theorem d_Machine_indexOf_5 : decode b_Machine_indexOf 5 = .ok (.aload_n 0, 1) := by decide +kernel
theorem d_Machine_indexOf_6 : decode b_Machine_indexOf 6 = .ok (.getfield 33, 3) := by decide +kernel
theorem d_Machine_indexOf_9 : decode b_Machine_indexOf 9 = .ok (.invokestatic 60, 3) := by decide +kernel
theorem d_Machine_indexOf_12 : decode b_Machine_indexOf 12 = .ok (.istore_n 2, 1) := by decide +kernel
theorem d_Machine_indexOf_13 : decode b_Machine_indexOf 13 = .ok (.iload_n 2, 1) := by decide +kernel
theorem d_Machine_indexOf_14 : decode b_Machine_indexOf 14 = .ok (.iconst (-1), 1) := by decide +kernel
theorem d_Machine_indexOf_15 : decode b_Machine_indexOf 15 = .ok (.if_icmp .eq 5, 3) := by decide +kernel
theorem d_Machine_indexOf_18 : decode b_Machine_indexOf 18 = .ok (.iload_n 2, 1) := by decide +kernel
theorem d_Machine_indexOf_19 : decode b_Machine_indexOf 19 = .ok (.ireturn, 1) := by decide +kernel
theorem d_Machine_indexOf_20 : decode b_Machine_indexOf 20 = .ok (.iload_n 1, 1) := by decide +kernel
theorem d_Machine_indexOf_21 : decode b_Machine_indexOf 21 = .ok (.aload_n 0, 1) := by decide +kernel
theorem d_Machine_indexOf_22 : decode b_Machine_indexOf 22 = .ok (.getfield 36, 3) := by decide +kernel
theorem d_Machine_indexOf_25 : decode b_Machine_indexOf 25 = .ok (.aload_n 0, 1) := by decide +kernel
theorem d_Machine_indexOf_26 : decode b_Machine_indexOf 26 = .ok (.getfield 39, 3) := by decide +kernel
theorem d_Machine_indexOf_29 : decode b_Machine_indexOf 29 = .ok (.invokestatic 60, 3) := by decide +kernel
theorem d_Machine_indexOf_32 : decode b_Machine_indexOf 32 = .ok (.istore_n 2, 1) := by decide +kernel
theorem d_Machine_indexOf_33 : decode b_Machine_indexOf 33 = .ok (.iload_n 2, 1) := by decide +kernel
theorem d_Machine_indexOf_34 : decode b_Machine_indexOf 34 = .ok (.iconst (-1), 1) := by decide +kernel
theorem d_Machine_indexOf_35 : decode b_Machine_indexOf 35 = .ok (.if_icmp .ne 7, 3) := by decide +kernel
theorem d_Machine_indexOf_38 : decode b_Machine_indexOf 38 = .ok (.iconst (-1), 1) := by decide +kernel
theorem d_Machine_indexOf_39 : decode b_Machine_indexOf 39 = .ok (.goto 9, 3) := by decide +kernel
theorem d_Machine_indexOf_42 : decode b_Machine_indexOf 42 = .ok (.aload_n 0, 1) := by decide +kernel
theorem d_Machine_indexOf_43 : decode b_Machine_indexOf 43 = .ok (.getfield 33, 3) := by decide +kernel
theorem d_Machine_indexOf_46 : decode b_Machine_indexOf 46 = .ok (.iload_n 2, 1) := by decide +kernel
theorem d_Machine_indexOf_47 : decode b_Machine_indexOf 47 = .ok (.iadd, 1) := by decide +kernel
theorem d_Machine_indexOf_48 : decode b_Machine_indexOf 48 = .ok (.ireturn, 1) := by decide +kernel
theorem d_Machine_load_0 : decode b_Machine_load 0 = .ok (.aload_n 0, 1) := by decide +kernel
theorem d_Machine_load_1 : decode b_Machine_load 1 = .ok (.iload_n 2, 1) := by decide +kernel
theorem d_Machine_load_2 : decode b_Machine_load 2 = .ok (.invokevirtual 115, 3) := by decide +kernel
theorem d_Machine_load_5 : decode b_Machine_load 5 = .ok (.istore_n 3, 1) := by decide +kernel
theorem d_Machine_load_6 : decode b_Machine_load 6 = .ok (.iload_n 3, 1) := by decide +kernel
theorem d_Machine_load_7 : decode b_Machine_load 7 = .ok (.iconst (-1), 1) := by decide +kernel
theorem d_Machine_load_8 : decode b_Machine_load 8 = .ok (.if_icmp .ne 11, 3) := by decide +kernel
theorem d_Machine_load_11 : decode b_Machine_load 11 = .ok (.aload_n 0, 1) := by decide +kernel
theorem d_Machine_load_12 : decode b_Machine_load 12 = .ok (.iconst 3, 1) := by decide +kernel
theorem d_Machine_load_13 : decode b_Machine_load 13 = .ok (.putfield 45, 3) := by decide +kernel
theorem d_Machine_load_16 : decode b_Machine_load 16 = .ok (.goto 14, 3) := by decide +kernel
theorem d_Machine_load_19 : decode b_Machine_load 19 = .ok (.aload_n 0, 1) := by decide +kernel
theorem d_Machine_load_20 : decode b_Machine_load 20 = .ok (.iload_n 1, 1) := by decide +kernel
theorem d_Machine_load_21 : decode b_Machine_load 21 = .ok (.aload_n 0, 1) := by decide +kernel
theorem d_Machine_load_22 : decode b_Machine_load 22 = .ok (.getfield 11, 3) := by decide +kernel
theorem d_Machine_load_25 : decode b_Machine_load 25 = .ok (.iload_n 3, 1) := by decide +kernel
theorem d_Machine_load_26 : decode b_Machine_load 26 = .ok (.iaload, 1) := by decide +kernel
theorem d_Machine_load_27 : decode b_Machine_load 27 = .ok (.invokevirtual 82, 3) := by decide +kernel
theorem d_Machine_load_30 : decode b_Machine_load 30 = .ok (.return_, 1) := by decide +kernel
theorem d_Machine_store_0 : decode b_Machine_store 0 = .ok (.aload_n 0, 1) := by decide +kernel
theorem d_Machine_store_1 : decode b_Machine_store 1 = .ok (.iload_n 2, 1) := by decide +kernel
theorem d_Machine_store_2 : decode b_Machine_store 2 = .ok (.invokevirtual 115, 3) := by decide +kernel
theorem d_Machine_store_5 : decode b_Machine_store 5 = .ok (.istore_n 3, 1) := by decide +kernel
theorem d_Machine_store_6 : decode b_Machine_store 6 = .ok (.iload_n 3, 1) := by decide +kernel
theorem d_Machine_store_7 : decode b_Machine_store 7 = .ok (.aload_n 0, 1) := by decide +kernel
theorem d_Machine_store_8 : decode b_Machine_store 8 = .ok (.getfield 33, 3) := by decide +kernel
theorem d_Machine_store_11 : decode b_Machine_store 11 = .ok (.if_icmp .ge 11, 3) := by decide +kernel
theorem d_Machine_store_14 : decode b_Machine_store 14 = .ok (.aload_n 0, 1) := by decide +kernel
theorem d_Machine_store_15 : decode b_Machine_store 15 = .ok (.iconst 3, 1) := by decide +kernel
theorem d_Machine_store_16 : decode b_Machine_store 16 = .ok (.putfield 45, 3) := by decide +kernel
theorem d_Machine_store_19 : decode b_Machine_store 19 = .ok (.goto 25, 3) := by decide +kernel
theorem d_Machine_store_22 : decode b_Machine_store 22 = .ok (.aload_n 0, 1) := by decide +kernel
theorem d_Machine_store_23 : decode b_Machine_store 23 = .ok (.getfield 11, 3) := by decide +kernel
theorem d_Machine_store_26 : decode b_Machine_store 26 = .ok (.iload_n 3, 1) := by decide +kernel
theorem d_Machine_store_27 : decode b_Machine_store 27 = .ok (.aload_n 0, 1) := by decide +kernel
theorem d_Machine_store_28 : decode b_Machine_store 28 = .ok (.getfield 15, 3) := by decide +kernel
theorem d_Machine_store_31 : decode b_Machine_store 31 = .ok (.iload_n 1, 1) := by decide +kernel
theorem d_Machine_store_32 : decode b_Machine_store 32 = .ok (.iaload, 1) := by decide +kernel
theorem d_Machine_store_33 : decode b_Machine_store 33 = .ok (.iastore, 1) := by decide +kernel
theorem d_Machine_store_34 : decode b_Machine_store 34 = .ok (.aload_n 0, 1) := by decide +kernel
theorem d_Machine_store_35 : decode b_Machine_store 35 = .ok (.dup, 1) := by decide +kernel
theorem d_Machine_store_36 : decode b_Machine_store 36 = .ok (.getfield 48, 3) := by decide +kernel
theorem d_Machine_store_39 : decode b_Machine_store 39 = .ok (.iconst 4, 1) := by decide +kernel
theorem d_Machine_store_40 : decode b_Machine_store 40 = .ok (.iadd, 1) := by decide +kernel
theorem d_Machine_store_41 : decode b_Machine_store 41 = .ok (.putfield 48, 3) := by decide +kernel
theorem d_Machine_store_44 : decode b_Machine_store 44 = .ok (.return_, 1) := by decide +kernel
theorem d_Machine_branches_0 : decode b_Machine_branches 0 = .ok (.aload_n 0, 1) := by decide +kernel
theorem d_Machine_branches_1 : decode b_Machine_branches 1 = .ok (.getfield 15, 3) := by decide +kernel
theorem d_Machine_branches_4 : decode b_Machine_branches 4 = .ok (.iload_n 2, 1) := by decide +kernel
theorem d_Machine_branches_5 : decode b_Machine_branches 5 = .ok (.invokestatic 73, 3) := by decide +kernel
theorem d_Machine_branches_8 : decode b_Machine_branches 8 = .ok (.iaload, 1) := by decide +kernel
theorem d_Machine_branches_9 : decode b_Machine_branches 9 = .ok (.istore_n 3, 1) := by decide +kernel
theorem d_Machine_branches_10 : decode b_Machine_branches 10 = .ok (.aload_n 0, 1) := by decide +kernel
theorem d_Machine_branches_11 : decode b_Machine_branches 11 = .ok (.getfield 15, 3) := by decide +kernel
theorem d_Machine_branches_14 : decode b_Machine_branches 14 = .ok (.iload_n 2, 1) := by decide +kernel
theorem d_Machine_branches_15 : decode b_Machine_branches 15 = .ok (.invokestatic 76, 3) := by decide +kernel
theorem d_Machine_branches_18 : decode b_Machine_branches 18 = .ok (.iaload, 1) := by decide +kernel
theorem d_Machine_branches_19 : decode b_Machine_branches 19 = .ok (.istore 4, 2) := by decide +kernel
theorem d_Machine_branches_21 : decode b_Machine_branches 21 = .ok (.iload_n 1, 1) := by decide +kernel
theorem d_Machine_branches_22 : decode b_Machine_branches 22 = .ok (.bipush 15, 2) := by decide +kernel
theorem d_Machine_branches_24 : decode b_Machine_branches 24 = .ok (.if_icmp .ne 15, 3) := by decide +kernel
theorem d_Machine_branches_27 : decode b_Machine_branches 27 = .ok (.iload_n 3, 1) := by decide +kernel
theorem d_Machine_branches_28 : decode b_Machine_branches 28 = .ok (.iload 4, 2) := by decide +kernel
theorem d_Machine_branches_30 : decode b_Machine_branches 30 = .ok (.if_icmp .ge 7, 3) := by decide +kernel
theorem d_Machine_branches_33 : decode b_Machine_branches 33 = .ok (.iconst 1, 1) := by decide +kernel
theorem d_Machine_branches_34 : decode b_Machine_branches 34 = .ok (.goto 4, 3) := by decide +kernel
theorem d_Machine_branches_37 : decode b_Machine_branches 37 = .ok (.iconst 0, 1) := by decide +kernel
theorem d_Machine_branches_38 : decode b_Machine_branches 38 = .ok (.ireturn, 1) := by decide +kernel
theorem d_Machine_branches_39 : decode b_Machine_branches 39 = .ok (.iload_n 3, 1) := by decide +kernel
theorem d_Machine_branches_40 : decode b_Machine_branches 40 = .ok (.iload 4, 2) := by decide +kernel
theorem d_Machine_branches_42 : decode b_Machine_branches 42 = .ok (.if_icmp .ne 7, 3) := by decide +kernel
theorem d_Machine_branches_45 : decode b_Machine_branches 45 = .ok (.iconst 1, 1) := by decide +kernel
theorem d_Machine_branches_46 : decode b_Machine_branches 46 = .ok (.goto 4, 3) := by decide +kernel
theorem d_Machine_branches_49 : decode b_Machine_branches 49 = .ok (.iconst 0, 1) := by decide +kernel
theorem d_Machine_branches_50 : decode b_Machine_branches 50 = .ok (.istore 5, 2) := by decide +kernel
theorem d_Machine_branches_52 : decode b_Machine_branches 52 = .ok (.iload_n 1, 1) := by decide +kernel
theorem d_Machine_branches_53 : decode b_Machine_branches 53 = .ok (.bipush 13, 2) := by decide +kernel
theorem d_Machine_branches_55 : decode b_Machine_branches 55 = .ok (.if_icmp .ne 8, 3) := by decide +kernel
theorem d_Machine_branches_58 : decode b_Machine_branches 58 = .ok (.iload 5, 2) := by decide +kernel
theorem d_Machine_branches_60 : decode b_Machine_branches 60 = .ok (.goto 13, 3) := by decide +kernel
theorem d_Machine_branches_63 : decode b_Machine_branches 63 = .ok (.iload 5, 2) := by decide +kernel
theorem d_Machine_branches_65 : decode b_Machine_branches 65 = .ok (.ifCond .ne 7, 3) := by decide +kernel
theorem d_Machine_branches_68 : decode b_Machine_branches 68 = .ok (.iconst 1, 1) := by decide +kernel
theorem d_Machine_branches_69 : decode b_Machine_branches 69 = .ok (.goto 4, 3) := by decide +kernel
theorem d_Machine_branches_72 : decode b_Machine_branches 72 = .ok (.iconst 0, 1) := by decide +kernel
theorem d_Machine_branches_73 : decode b_Machine_branches 73 = .ok (.ireturn, 1) := by decide +kernel
theorem d_Machine_leave_0 : decode b_Machine_leave 0 = .ok (.aload_n 0, 1) := by decide +kernel
theorem d_Machine_leave_1 : decode b_Machine_leave 1 = .ok (.iload_n 1, 1) := by decide +kernel
theorem d_Machine_leave_2 : decode b_Machine_leave 2 = .ok (.aload_n 0, 1) := by decide +kernel
theorem d_Machine_leave_3 : decode b_Machine_leave 3 = .ok (.getfield 48, 3) := by decide +kernel
theorem d_Machine_leave_6 : decode b_Machine_leave 6 = .ok (.iconst 4, 1) := by decide +kernel
theorem d_Machine_leave_7 : decode b_Machine_leave 7 = .ok (.iadd, 1) := by decide +kernel
theorem d_Machine_leave_8 : decode b_Machine_leave 8 = .ok (.invokevirtual 118, 3) := by decide +kernel
theorem d_Machine_leave_11 : decode b_Machine_leave 11 = .ok (.aload_n 0, 1) := by decide +kernel
theorem d_Machine_leave_12 : decode b_Machine_leave 12 = .ok (.iload_n 2, 1) := by decide +kernel
theorem d_Machine_leave_13 : decode b_Machine_leave 13 = .ok (.putfield 48, 3) := by decide +kernel
theorem d_Machine_leave_16 : decode b_Machine_leave 16 = .ok (.return_, 1) := by decide +kernel
theorem d_Machine_show_0 : decode b_Machine_show 0 = .ok (.aload_n 0, 1) := by decide +kernel
theorem d_Machine_show_1 : decode b_Machine_show 1 = .ok (.getfield 18, 3) := by decide +kernel
theorem d_Machine_show_4 : decode b_Machine_show 4 = .ok (.aload_n 0, 1) := by decide +kernel
theorem d_Machine_show_5 : decode b_Machine_show 5 = .ok (.getfield 54, 3) := by decide +kernel
theorem d_Machine_show_8 : decode b_Machine_show 8 = .ok (.bipush 16, 2) := by decide +kernel
theorem d_Machine_show_10 : decode b_Machine_show 10 = .ok (.irem, 1) := by decide +kernel
theorem d_Machine_show_11 : decode b_Machine_show 11 = .ok (.iload_n 1, 1) := by decide +kernel
theorem d_Machine_show_12 : decode b_Machine_show 12 = .ok (.iastore, 1) := by decide +kernel
theorem d_Machine_show_13 : decode b_Machine_show 13 = .ok (.aload_n 0, 1) := by decide +kernel
theorem d_Machine_show_14 : decode b_Machine_show 14 = .ok (.dup, 1) := by decide +kernel
theorem d_Machine_show_15 : decode b_Machine_show 15 = .ok (.getfield 54, 3) := by decide +kernel
theorem d_Machine_show_18 : decode b_Machine_show 18 = .ok (.iconst 1, 1) := by decide +kernel
theorem d_Machine_show_19 : decode b_Machine_show 19 = .ok (.iadd, 1) := by decide +kernel
theorem d_Machine_show_20 : decode b_Machine_show 20 = .ok (.putfield 54, 3) := by decide +kernel
theorem d_Machine_show_23 : decode b_Machine_show 23 = .ok (.aload_n 0, 1) := by decide +kernel
theorem d_Machine_show_24 : decode b_Machine_show 24 = .ok (.dup, 1) := by decide +kernel
theorem d_Machine_show_25 : decode b_Machine_show 25 = .ok (.getfield 48, 3) := by decide +kernel
theorem d_Machine_show_28 : decode b_Machine_show 28 = .ok (.iconst 4, 1) := by decide +kernel
theorem d_Machine_show_29 : decode b_Machine_show 29 = .ok (.iadd, 1) := by decide +kernel
theorem d_Machine_show_30 : decode b_Machine_show 30 = .ok (.putfield 48, 3) := by decide +kernel
theorem d_Machine_show_33 : decode b_Machine_show 33 = .ok (.return_, 1) := by decide +kernel
theorem d_Machine_joined_0 : decode b_Machine_joined 0 = .ok (.iload_n 0, 1) := by decide +kernel
theorem d_Machine_joined_1 : decode b_Machine_joined 1 = .ok (.tableswitch 77 3 9 #[43, 47, 51, 55, 59, 63, 70], 43) := by decide +kernel
theorem d_Machine_joined_44 : decode b_Machine_joined 44 = .ok (.iload_n 1, 1) := by decide +kernel
theorem d_Machine_joined_45 : decode b_Machine_joined 45 = .ok (.iload_n 2, 1) := by decide +kernel
theorem d_Machine_joined_46 : decode b_Machine_joined 46 = .ok (.iadd, 1) := by decide +kernel
theorem d_Machine_joined_47 : decode b_Machine_joined 47 = .ok (.ireturn, 1) := by decide +kernel
theorem d_Machine_joined_48 : decode b_Machine_joined 48 = .ok (.iload_n 1, 1) := by decide +kernel
theorem d_Machine_joined_49 : decode b_Machine_joined 49 = .ok (.iload_n 2, 1) := by decide +kernel
theorem d_Machine_joined_50 : decode b_Machine_joined 50 = .ok (.isub, 1) := by decide +kernel
theorem d_Machine_joined_51 : decode b_Machine_joined 51 = .ok (.ireturn, 1) := by decide +kernel
theorem d_Machine_joined_52 : decode b_Machine_joined 52 = .ok (.iload_n 1, 1) := by decide +kernel
theorem d_Machine_joined_53 : decode b_Machine_joined 53 = .ok (.iload_n 2, 1) := by decide +kernel
theorem d_Machine_joined_54 : decode b_Machine_joined 54 = .ok (.iand, 1) := by decide +kernel
theorem d_Machine_joined_55 : decode b_Machine_joined 55 = .ok (.ireturn, 1) := by decide +kernel
theorem d_Machine_joined_56 : decode b_Machine_joined 56 = .ok (.iload_n 1, 1) := by decide +kernel
theorem d_Machine_joined_57 : decode b_Machine_joined 57 = .ok (.iload_n 2, 1) := by decide +kernel
theorem d_Machine_joined_58 : decode b_Machine_joined 58 = .ok (.ior, 1) := by decide +kernel
theorem d_Machine_joined_59 : decode b_Machine_joined 59 = .ok (.ireturn, 1) := by decide +kernel
theorem d_Machine_joined_60 : decode b_Machine_joined 60 = .ok (.iload_n 1, 1) := by decide +kernel
theorem d_Machine_joined_61 : decode b_Machine_joined 61 = .ok (.iload_n 2, 1) := by decide +kernel
theorem d_Machine_joined_62 : decode b_Machine_joined 62 = .ok (.ixor, 1) := by decide +kernel
theorem d_Machine_joined_63 : decode b_Machine_joined 63 = .ok (.ireturn, 1) := by decide +kernel
theorem d_Machine_joined_64 : decode b_Machine_joined 64 = .ok (.iload_n 1, 1) := by decide +kernel
theorem d_Machine_joined_65 : decode b_Machine_joined 65 = .ok (.iload_n 2, 1) := by decide +kernel
theorem d_Machine_joined_66 : decode b_Machine_joined 66 = .ok (.bipush 31, 2) := by decide +kernel
theorem d_Machine_joined_68 : decode b_Machine_joined 68 = .ok (.iand, 1) := by decide +kernel
theorem d_Machine_joined_69 : decode b_Machine_joined 69 = .ok (.ishl, 1) := by decide +kernel
theorem d_Machine_joined_70 : decode b_Machine_joined 70 = .ok (.ireturn, 1) := by decide +kernel
theorem d_Machine_joined_71 : decode b_Machine_joined 71 = .ok (.iload_n 1, 1) := by decide +kernel
theorem d_Machine_joined_72 : decode b_Machine_joined 72 = .ok (.iload_n 2, 1) := by decide +kernel
theorem d_Machine_joined_73 : decode b_Machine_joined 73 = .ok (.bipush 31, 2) := by decide +kernel
theorem d_Machine_joined_75 : decode b_Machine_joined 75 = .ok (.iand, 1) := by decide +kernel
theorem d_Machine_joined_76 : decode b_Machine_joined 76 = .ok (.ishr, 1) := by decide +kernel
theorem d_Machine_joined_77 : decode b_Machine_joined 77 = .ok (.ireturn, 1) := by decide +kernel
theorem d_Machine_joined_78 : decode b_Machine_joined 78 = .ok (.iload_n 1, 1) := by decide +kernel
theorem d_Machine_joined_79 : decode b_Machine_joined 79 = .ok (.iload_n 2, 1) := by decide +kernel
theorem d_Machine_joined_80 : decode b_Machine_joined 80 = .ok (.if_icmp .ge 7, 3) := by decide +kernel
theorem d_Machine_joined_83 : decode b_Machine_joined 83 = .ok (.iconst 1, 1) := by decide +kernel
theorem d_Machine_joined_84 : decode b_Machine_joined 84 = .ok (.goto 4, 3) := by decide +kernel
theorem d_Machine_joined_87 : decode b_Machine_joined 87 = .ok (.iconst 0, 1) := by decide +kernel
theorem d_Machine_joined_88 : decode b_Machine_joined 88 = .ok (.ireturn, 1) := by decide +kernel
theorem d_Machine_executeRegisters_0 : decode b_Machine_executeRegisters 0 = .ok (.iload_n 1, 1) := by decide +kernel
theorem d_Machine_executeRegisters_1 : decode b_Machine_executeRegisters 1 = .ok (.invokestatic 105, 3) := by decide +kernel
theorem d_Machine_executeRegisters_4 : decode b_Machine_executeRegisters 4 = .ok (.ifCond .eq 42, 3) := by decide +kernel
theorem d_Machine_executeRegisters_7 : decode b_Machine_executeRegisters 7 = .ok (.aload_n 0, 1) := by decide +kernel
theorem d_Machine_executeRegisters_8 : decode b_Machine_executeRegisters 8 = .ok (.getfield 15, 3) := by decide +kernel
theorem d_Machine_executeRegisters_11 : decode b_Machine_executeRegisters 11 = .ok (.iload_n 2, 1) := by decide +kernel
theorem d_Machine_executeRegisters_12 : decode b_Machine_executeRegisters 12 = .ok (.invokestatic 76, 3) := by decide +kernel
theorem d_Machine_executeRegisters_15 : decode b_Machine_executeRegisters 15 = .ok (.iaload, 1) := by decide +kernel
theorem d_Machine_executeRegisters_16 : decode b_Machine_executeRegisters 16 = .ok (.istore_n 3, 1) := by decide +kernel
theorem d_Machine_executeRegisters_17 : decode b_Machine_executeRegisters 17 = .ok (.aload_n 0, 1) := by decide +kernel
theorem d_Machine_executeRegisters_18 : decode b_Machine_executeRegisters 18 = .ok (.getfield 15, 3) := by decide +kernel
theorem d_Machine_executeRegisters_21 : decode b_Machine_executeRegisters 21 = .ok (.iload_n 2, 1) := by decide +kernel
theorem d_Machine_executeRegisters_22 : decode b_Machine_executeRegisters 22 = .ok (.invokestatic 109, 3) := by decide +kernel
theorem d_Machine_executeRegisters_25 : decode b_Machine_executeRegisters 25 = .ok (.iaload, 1) := by decide +kernel
theorem d_Machine_executeRegisters_26 : decode b_Machine_executeRegisters 26 = .ok (.istore 4, 2) := by decide +kernel
theorem d_Machine_executeRegisters_28 : decode b_Machine_executeRegisters 28 = .ok (.aload_n 0, 1) := by decide +kernel
theorem d_Machine_executeRegisters_29 : decode b_Machine_executeRegisters 29 = .ok (.iload_n 2, 1) := by decide +kernel
theorem d_Machine_executeRegisters_30 : decode b_Machine_executeRegisters 30 = .ok (.invokestatic 73, 3) := by decide +kernel
theorem d_Machine_executeRegisters_33 : decode b_Machine_executeRegisters 33 = .ok (.iload_n 1, 1) := by decide +kernel
theorem d_Machine_executeRegisters_34 : decode b_Machine_executeRegisters 34 = .ok (.iload_n 3, 1) := by decide +kernel
theorem d_Machine_executeRegisters_35 : decode b_Machine_executeRegisters 35 = .ok (.iload 4, 2) := by decide +kernel
theorem d_Machine_executeRegisters_37 : decode b_Machine_executeRegisters 37 = .ok (.invokestatic 112, 3) := by decide +kernel
theorem d_Machine_executeRegisters_40 : decode b_Machine_executeRegisters 40 = .ok (.invokevirtual 82, 3) := by decide +kernel
theorem d_Machine_executeRegisters_43 : decode b_Machine_executeRegisters 43 = .ok (.goto 8, 3) := by decide +kernel
theorem d_Machine_executeRegisters_46 : decode b_Machine_executeRegisters 46 = .ok (.aload_n 0, 1) := by decide +kernel
theorem d_Machine_executeRegisters_47 : decode b_Machine_executeRegisters 47 = .ok (.iconst 3, 1) := by decide +kernel
theorem d_Machine_executeRegisters_48 : decode b_Machine_executeRegisters 48 = .ok (.putfield 45, 3) := by decide +kernel
theorem d_Machine_executeRegisters_51 : decode b_Machine_executeRegisters 51 = .ok (.return_, 1) := by decide +kernel
theorem d_Machine_execute_0 : decode b_Machine_execute 0 = .ok (.iload_n 1, 1) := by decide +kernel
theorem d_Machine_execute_1 : decode b_Machine_execute 1 = .ok (.invokestatic 68, 3) := by decide +kernel
theorem d_Machine_execute_4 : decode b_Machine_execute 4 = .ok (.istore_n 2, 1) := by decide +kernel
theorem d_Machine_execute_5 : decode b_Machine_execute 5 = .ok (.iload_n 1, 1) := by decide +kernel
theorem d_Machine_execute_6 : decode b_Machine_execute 6 = .ok (.invokestatic 73, 3) := by decide +kernel
theorem d_Machine_execute_9 : decode b_Machine_execute 9 = .ok (.istore_n 3, 1) := by decide +kernel
theorem d_Machine_execute_10 : decode b_Machine_execute 10 = .ok (.aload_n 0, 1) := by decide +kernel
theorem d_Machine_execute_11 : decode b_Machine_execute 11 = .ok (.getfield 15, 3) := by decide +kernel
theorem d_Machine_execute_14 : decode b_Machine_execute 14 = .ok (.iload_n 1, 1) := by decide +kernel
theorem d_Machine_execute_15 : decode b_Machine_execute 15 = .ok (.invokestatic 76, 3) := by decide +kernel
theorem d_Machine_execute_18 : decode b_Machine_execute 18 = .ok (.iaload, 1) := by decide +kernel
theorem d_Machine_execute_19 : decode b_Machine_execute 19 = .ok (.iload_n 1, 1) := by decide +kernel
theorem d_Machine_execute_20 : decode b_Machine_execute 20 = .ok (.invokestatic 79, 3) := by decide +kernel
theorem d_Machine_execute_23 : decode b_Machine_execute 23 = .ok (.iadd, 1) := by decide +kernel
theorem d_Machine_execute_24 : decode b_Machine_execute 24 = .ok (.istore 4, 2) := by decide +kernel
theorem d_Machine_execute_26 : decode b_Machine_execute 26 = .ok (.iload_n 2, 1) := by decide +kernel
theorem d_Machine_execute_27 : decode b_Machine_execute 27 = .ok (.tableswitch 216 0 18 #[89, 97, 113, 216, 216, 216, 216, 216, 216, 216, 216, 123, 133, 143, 143, 143, 174, 193, 203], 89) := by decide +kernel
theorem d_Machine_execute_116 : decode b_Machine_execute 116 = .ok (.aload_n 0, 1) := by decide +kernel
theorem d_Machine_execute_117 : decode b_Machine_execute 117 = .ok (.iconst 2, 1) := by decide +kernel
theorem d_Machine_execute_118 : decode b_Machine_execute 118 = .ok (.putfield 45, 3) := by decide +kernel
theorem d_Machine_execute_121 : decode b_Machine_execute 121 = .ok (.goto 128, 3) := by decide +kernel
theorem d_Machine_execute_124 : decode b_Machine_execute 124 = .ok (.aload_n 0, 1) := by decide +kernel
theorem d_Machine_execute_125 : decode b_Machine_execute 125 = .ok (.iload_n 3, 1) := by decide +kernel
theorem d_Machine_execute_126 : decode b_Machine_execute 126 = .ok (.iload_n 1, 1) := by decide +kernel
theorem d_Machine_execute_127 : decode b_Machine_execute 127 = .ok (.invokestatic 79, 3) := by decide +kernel
theorem d_Machine_execute_130 : decode b_Machine_execute 130 = .ok (.sipush 4096, 3) := by decide +kernel
theorem d_Machine_execute_133 : decode b_Machine_execute 133 = .ok (.imul, 1) := by decide +kernel
theorem d_Machine_execute_134 : decode b_Machine_execute 134 = .ok (.invokevirtual 82, 3) := by decide +kernel
theorem d_Machine_execute_137 : decode b_Machine_execute 137 = .ok (.goto 112, 3) := by decide +kernel
theorem d_Machine_execute_140 : decode b_Machine_execute 140 = .ok (.aload_n 0, 1) := by decide +kernel
theorem d_Machine_execute_141 : decode b_Machine_execute 141 = .ok (.iload_n 3, 1) := by decide +kernel
theorem d_Machine_execute_142 : decode b_Machine_execute 142 = .ok (.iload 4, 2) := by decide +kernel
theorem d_Machine_execute_144 : decode b_Machine_execute 144 = .ok (.invokevirtual 82, 3) := by decide +kernel
theorem d_Machine_execute_147 : decode b_Machine_execute 147 = .ok (.goto 102, 3) := by decide +kernel
theorem d_Machine_execute_150 : decode b_Machine_execute 150 = .ok (.aload_n 0, 1) := by decide +kernel
theorem d_Machine_execute_151 : decode b_Machine_execute 151 = .ok (.iload_n 3, 1) := by decide +kernel
theorem d_Machine_execute_152 : decode b_Machine_execute 152 = .ok (.iload 4, 2) := by decide +kernel
theorem d_Machine_execute_154 : decode b_Machine_execute 154 = .ok (.invokevirtual 86, 3) := by decide +kernel
theorem d_Machine_execute_157 : decode b_Machine_execute 157 = .ok (.goto 92, 3) := by decide +kernel
theorem d_Machine_execute_160 : decode b_Machine_execute 160 = .ok (.aload_n 0, 1) := by decide +kernel
theorem d_Machine_execute_161 : decode b_Machine_execute 161 = .ok (.iload_n 3, 1) := by decide +kernel
theorem d_Machine_execute_162 : decode b_Machine_execute 162 = .ok (.iload 4, 2) := by decide +kernel
theorem d_Machine_execute_164 : decode b_Machine_execute 164 = .ok (.invokevirtual 89, 3) := by decide +kernel
theorem d_Machine_execute_167 : decode b_Machine_execute 167 = .ok (.goto 82, 3) := by decide +kernel
theorem d_Machine_execute_170 : decode b_Machine_execute 170 = .ok (.aload_n 0, 1) := by decide +kernel
theorem d_Machine_execute_171 : decode b_Machine_execute 171 = .ok (.dup, 1) := by decide +kernel
theorem d_Machine_execute_172 : decode b_Machine_execute 172 = .ok (.getfield 48, 3) := by decide +kernel
theorem d_Machine_execute_175 : decode b_Machine_execute 175 = .ok (.aload_n 0, 1) := by decide +kernel
theorem d_Machine_execute_176 : decode b_Machine_execute 176 = .ok (.iload_n 2, 1) := by decide +kernel
theorem d_Machine_execute_177 : decode b_Machine_execute 177 = .ok (.iload_n 1, 1) := by decide +kernel
theorem d_Machine_execute_178 : decode b_Machine_execute 178 = .ok (.invokevirtual 92, 3) := by decide +kernel
theorem d_Machine_execute_181 : decode b_Machine_execute 181 = .ok (.ifCond .eq 12, 3) := by decide +kernel
theorem d_Machine_execute_184 : decode b_Machine_execute 184 = .ok (.iconst 2, 1) := by decide +kernel
theorem d_Machine_execute_185 : decode b_Machine_execute 185 = .ok (.iload_n 1, 1) := by decide +kernel
theorem d_Machine_execute_186 : decode b_Machine_execute 186 = .ok (.invokestatic 79, 3) := by decide +kernel
theorem d_Machine_execute_189 : decode b_Machine_execute 189 = .ok (.imul, 1) := by decide +kernel
theorem d_Machine_execute_190 : decode b_Machine_execute 190 = .ok (.goto 4, 3) := by decide +kernel
theorem d_Machine_execute_193 : decode b_Machine_execute 193 = .ok (.iconst 4, 1) := by decide +kernel
theorem d_Machine_execute_194 : decode b_Machine_execute 194 = .ok (.iadd, 1) := by decide +kernel
theorem d_Machine_execute_195 : decode b_Machine_execute 195 = .ok (.putfield 48, 3) := by decide +kernel
theorem d_Machine_execute_198 : decode b_Machine_execute 198 = .ok (.goto 51, 3) := by decide +kernel
theorem d_Machine_execute_201 : decode b_Machine_execute 201 = .ok (.aload_n 0, 1) := by decide +kernel
theorem d_Machine_execute_202 : decode b_Machine_execute 202 = .ok (.iload_n 3, 1) := by decide +kernel
theorem d_Machine_execute_203 : decode b_Machine_execute 203 = .ok (.aload_n 0, 1) := by decide +kernel
theorem d_Machine_execute_204 : decode b_Machine_execute 204 = .ok (.getfield 48, 3) := by decide +kernel
theorem d_Machine_execute_207 : decode b_Machine_execute 207 = .ok (.iconst 2, 1) := by decide +kernel
theorem d_Machine_execute_208 : decode b_Machine_execute 208 = .ok (.iload_n 1, 1) := by decide +kernel
theorem d_Machine_execute_209 : decode b_Machine_execute 209 = .ok (.invokestatic 79, 3) := by decide +kernel
theorem d_Machine_execute_212 : decode b_Machine_execute 212 = .ok (.imul, 1) := by decide +kernel
theorem d_Machine_execute_213 : decode b_Machine_execute 213 = .ok (.iadd, 1) := by decide +kernel
theorem d_Machine_execute_214 : decode b_Machine_execute 214 = .ok (.invokevirtual 96, 3) := by decide +kernel
theorem d_Machine_execute_217 : decode b_Machine_execute 217 = .ok (.goto 32, 3) := by decide +kernel
theorem d_Machine_execute_220 : decode b_Machine_execute 220 = .ok (.aload_n 0, 1) := by decide +kernel
theorem d_Machine_execute_221 : decode b_Machine_execute 221 = .ok (.iload_n 3, 1) := by decide +kernel
theorem d_Machine_execute_222 : decode b_Machine_execute 222 = .ok (.iload 4, 2) := by decide +kernel
theorem d_Machine_execute_224 : decode b_Machine_execute 224 = .ok (.invokevirtual 96, 3) := by decide +kernel
theorem d_Machine_execute_227 : decode b_Machine_execute 227 = .ok (.goto 22, 3) := by decide +kernel
theorem d_Machine_execute_230 : decode b_Machine_execute 230 = .ok (.aload_n 0, 1) := by decide +kernel
theorem d_Machine_execute_231 : decode b_Machine_execute 231 = .ok (.aload_n 0, 1) := by decide +kernel
theorem d_Machine_execute_232 : decode b_Machine_execute 232 = .ok (.getfield 15, 3) := by decide +kernel
theorem d_Machine_execute_235 : decode b_Machine_execute 235 = .ok (.iload_n 3, 1) := by decide +kernel
theorem d_Machine_execute_236 : decode b_Machine_execute 236 = .ok (.iaload, 1) := by decide +kernel
theorem d_Machine_execute_237 : decode b_Machine_execute 237 = .ok (.invokevirtual 99, 3) := by decide +kernel
theorem d_Machine_execute_240 : decode b_Machine_execute 240 = .ok (.goto 9, 3) := by decide +kernel
theorem d_Machine_execute_243 : decode b_Machine_execute 243 = .ok (.aload_n 0, 1) := by decide +kernel
theorem d_Machine_execute_244 : decode b_Machine_execute 244 = .ok (.iload_n 2, 1) := by decide +kernel
theorem d_Machine_execute_245 : decode b_Machine_execute 245 = .ok (.iload_n 1, 1) := by decide +kernel
theorem d_Machine_execute_246 : decode b_Machine_execute 246 = .ok (.invokevirtual 102, 3) := by decide +kernel
theorem d_Machine_execute_249 : decode b_Machine_execute 249 = .ok (.return_, 1) := by decide +kernel
theorem d_Machine_step_0 : decode b_Machine_step 0 = .ok (.aload_n 0, 1) := by decide +kernel
theorem d_Machine_step_1 : decode b_Machine_step 1 = .ok (.dup, 1) := by decide +kernel
theorem d_Machine_step_2 : decode b_Machine_step 2 = .ok (.getfield 51, 3) := by decide +kernel
theorem d_Machine_step_5 : decode b_Machine_step 5 = .ok (.iconst 1, 1) := by decide +kernel
theorem d_Machine_step_6 : decode b_Machine_step 6 = .ok (.iadd, 1) := by decide +kernel
theorem d_Machine_step_7 : decode b_Machine_step 7 = .ok (.putfield 51, 3) := by decide +kernel
theorem d_Machine_step_10 : decode b_Machine_step 10 = .ok (.aload_n 0, 1) := by decide +kernel
theorem d_Machine_step_11 : decode b_Machine_step 11 = .ok (.getfield 48, 3) := by decide +kernel
theorem d_Machine_step_14 : decode b_Machine_step 14 = .ok (.aload_n 0, 1) := by decide +kernel
theorem d_Machine_step_15 : decode b_Machine_step 15 = .ok (.getfield 29, 3) := by decide +kernel
theorem d_Machine_step_18 : decode b_Machine_step 18 = .ok (.aload_n 0, 1) := by decide +kernel
theorem d_Machine_step_19 : decode b_Machine_step 19 = .ok (.getfield 33, 3) := by decide +kernel
theorem d_Machine_step_22 : decode b_Machine_step 22 = .ok (.invokestatic 60, 3) := by decide +kernel
theorem d_Machine_step_25 : decode b_Machine_step 25 = .ok (.istore_n 1, 1) := by decide +kernel
theorem d_Machine_step_26 : decode b_Machine_step 26 = .ok (.iload_n 1, 1) := by decide +kernel
theorem d_Machine_step_27 : decode b_Machine_step 27 = .ok (.iconst (-1), 1) := by decide +kernel
theorem d_Machine_step_28 : decode b_Machine_step 28 = .ok (.if_icmp .ne 11, 3) := by decide +kernel
theorem d_Machine_step_31 : decode b_Machine_step 31 = .ok (.aload_n 0, 1) := by decide +kernel
theorem d_Machine_step_32 : decode b_Machine_step 32 = .ok (.iconst 3, 1) := by decide +kernel
theorem d_Machine_step_33 : decode b_Machine_step 33 = .ok (.putfield 45, 3) := by decide +kernel
theorem d_Machine_step_36 : decode b_Machine_step 36 = .ok (.goto 13, 3) := by decide +kernel
theorem d_Machine_step_39 : decode b_Machine_step 39 = .ok (.aload_n 0, 1) := by decide +kernel
theorem d_Machine_step_40 : decode b_Machine_step 40 = .ok (.aload_n 0, 1) := by decide +kernel
theorem d_Machine_step_41 : decode b_Machine_step 41 = .ok (.getfield 11, 3) := by decide +kernel
theorem d_Machine_step_44 : decode b_Machine_step 44 = .ok (.iload_n 1, 1) := by decide +kernel
theorem d_Machine_step_45 : decode b_Machine_step 45 = .ok (.iaload, 1) := by decide +kernel
theorem d_Machine_step_46 : decode b_Machine_step 46 = .ok (.invokevirtual 64, 3) := by decide +kernel
theorem d_Machine_step_49 : decode b_Machine_step 49 = .ok (.return_, 1) := by decide +kernel
theorem d_Machine_advance_0 : decode b_Machine_advance 0 = .ok (.aload_n 0, 1) := by decide +kernel
theorem d_Machine_advance_1 : decode b_Machine_advance 1 = .ok (.getfield 51, 3) := by decide +kernel
theorem d_Machine_advance_4 : decode b_Machine_advance 4 = .ok (.istore_n 2, 1) := by decide +kernel
theorem d_Machine_advance_5 : decode b_Machine_advance 5 = .ok (.iconst 0, 1) := by decide +kernel
theorem d_Machine_advance_6 : decode b_Machine_advance 6 = .ok (.istore_n 3, 1) := by decide +kernel
theorem d_Machine_advance_7 : decode b_Machine_advance 7 = .ok (.iload_n 3, 1) := by decide +kernel
theorem d_Machine_advance_8 : decode b_Machine_advance 8 = .ok (.iload_n 1, 1) := by decide +kernel
theorem d_Machine_advance_9 : decode b_Machine_advance 9 = .ok (.if_icmp .ge 21, 3) := by decide +kernel
theorem d_Machine_advance_12 : decode b_Machine_advance 12 = .ok (.aload_n 0, 1) := by decide +kernel
theorem d_Machine_advance_13 : decode b_Machine_advance 13 = .ok (.getfield 45, 3) := by decide +kernel
theorem d_Machine_advance_16 : decode b_Machine_advance 16 = .ok (.iconst 1, 1) := by decide +kernel
theorem d_Machine_advance_17 : decode b_Machine_advance 17 = .ok (.if_icmp .ne 13, 3) := by decide +kernel
theorem d_Machine_advance_20 : decode b_Machine_advance 20 = .ok (.aload_n 0, 1) := by decide +kernel
theorem d_Machine_advance_21 : decode b_Machine_advance 21 = .ok (.invokevirtual 57, 3) := by decide +kernel
theorem d_Machine_advance_24 : decode b_Machine_advance 24 = .ok (.iinc 3 1, 3) := by decide +kernel
theorem d_Machine_advance_27 : decode b_Machine_advance 27 = .ok (.goto (-20), 3) := by decide +kernel
theorem d_Machine_advance_30 : decode b_Machine_advance 30 = .ok (.aload_n 0, 1) := by decide +kernel
theorem d_Machine_advance_31 : decode b_Machine_advance 31 = .ok (.getfield 51, 3) := by decide +kernel
theorem d_Machine_advance_34 : decode b_Machine_advance 34 = .ok (.iload_n 2, 1) := by decide +kernel
theorem d_Machine_advance_35 : decode b_Machine_advance 35 = .ok (.isub, 1) := by decide +kernel
theorem d_Machine_advance_36 : decode b_Machine_advance 36 = .ok (.ireturn, 1) := by decide +kernel
theorem d_Machine_lastShown_0 : decode b_Machine_lastShown 0 = .ok (.iload_n 1, 1) := by decide +kernel
theorem d_Machine_lastShown_1 : decode b_Machine_lastShown 1 = .ok (.aload_n 0, 1) := by decide +kernel
theorem d_Machine_lastShown_2 : decode b_Machine_lastShown 2 = .ok (.getfield 54, 3) := by decide +kernel
theorem d_Machine_lastShown_5 : decode b_Machine_lastShown 5 = .ok (.bipush 16, 2) := by decide +kernel
theorem d_Machine_lastShown_7 : decode b_Machine_lastShown 7 = .ok (.invokestatic 121, 3) := by decide +kernel
theorem d_Machine_lastShown_10 : decode b_Machine_lastShown 10 = .ok (.invokestatic 127, 3) := by decide +kernel
theorem d_Machine_lastShown_13 : decode b_Machine_lastShown 13 = .ok (.ifCond .ne 5, 3) := by decide +kernel
theorem d_Machine_lastShown_16 : decode b_Machine_lastShown 16 = .ok (.iconst (-1), 1) := by decide +kernel
theorem d_Machine_lastShown_17 : decode b_Machine_lastShown 17 = .ok (.ireturn, 1) := by decide +kernel
theorem d_Machine_lastShown_18 : decode b_Machine_lastShown 18 = .ok (.aload_n 0, 1) := by decide +kernel
theorem d_Machine_lastShown_19 : decode b_Machine_lastShown 19 = .ok (.getfield 18, 3) := by decide +kernel
theorem d_Machine_lastShown_22 : decode b_Machine_lastShown 22 = .ok (.aload_n 0, 1) := by decide +kernel
theorem d_Machine_lastShown_23 : decode b_Machine_lastShown 23 = .ok (.getfield 54, 3) := by decide +kernel
theorem d_Machine_lastShown_26 : decode b_Machine_lastShown 26 = .ok (.iconst 1, 1) := by decide +kernel
theorem d_Machine_lastShown_27 : decode b_Machine_lastShown 27 = .ok (.isub, 1) := by decide +kernel
theorem d_Machine_lastShown_28 : decode b_Machine_lastShown 28 = .ok (.iload_n 1, 1) := by decide +kernel
theorem d_Machine_lastShown_29 : decode b_Machine_lastShown 29 = .ok (.isub, 1) := by decide +kernel
theorem d_Machine_lastShown_30 : decode b_Machine_lastShown 30 = .ok (.bipush 16, 2) := by decide +kernel
theorem d_Machine_lastShown_32 : decode b_Machine_lastShown 32 = .ok (.irem, 1) := by decide +kernel
theorem d_Machine_lastShown_33 : decode b_Machine_lastShown 33 = .ok (.iaload, 1) := by decide +kernel
theorem d_Machine_lastShown_34 : decode b_Machine_lastShown 34 = .ok (.ireturn, 1) := by decide +kernel
