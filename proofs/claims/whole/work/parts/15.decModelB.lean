theorem d_Model_refusal_0 : decode b_Model_refusal 0 = .ok (.iconst 0, 1) := by decide +kernel
theorem d_Model_refusal_1 : decode b_Model_refusal 1 = .ok (.istore_n 2, 1) := by decide +kernel
theorem d_Model_refusal_2 : decode b_Model_refusal 2 = .ok (.iload_n 2, 1) := by decide +kernel
theorem d_Model_refusal_3 : decode b_Model_refusal 3 = .ok (.bipush 16, 2) := by decide +kernel
theorem d_Model_refusal_5 : decode b_Model_refusal 5 = .ok (.if_icmp .ge 23, 3) := by decide +kernel
theorem d_Model_refusal_8 : decode b_Model_refusal 8 = .ok (.aload_n 0, 1) := by decide +kernel
theorem d_Model_refusal_9 : decode b_Model_refusal 9 = .ok (.iload_n 2, 1) := by decide +kernel
theorem d_Model_refusal_10 : decode b_Model_refusal 10 = .ok (.invokevirtual 115, 3) := by decide +kernel
theorem d_Model_refusal_13 : decode b_Model_refusal 13 = .ok (.ifCond .eq 9, 3) := by decide +kernel
theorem d_Model_refusal_16 : decode b_Model_refusal 16 = .ok (.sipush (-1000), 3) := by decide +kernel
theorem d_Model_refusal_19 : decode b_Model_refusal 19 = .ok (.iload_n 2, 1) := by decide +kernel
theorem d_Model_refusal_20 : decode b_Model_refusal 20 = .ok (.isub, 1) := by decide +kernel
theorem d_Model_refusal_21 : decode b_Model_refusal 21 = .ok (.ireturn, 1) := by decide +kernel
theorem d_Model_refusal_22 : decode b_Model_refusal 22 = .ok (.iinc 2 1, 3) := by decide +kernel
theorem d_Model_refusal_25 : decode b_Model_refusal 25 = .ok (.goto (-23), 3) := by decide +kernel
theorem d_Model_refusal_28 : decode b_Model_refusal 28 = .ok (.iconst 0, 1) := by decide +kernel
theorem d_Model_refusal_29 : decode b_Model_refusal 29 = .ok (.istore_n 2, 1) := by decide +kernel
theorem d_Model_refusal_30 : decode b_Model_refusal 30 = .ok (.iload_n 2, 1) := by decide +kernel
theorem d_Model_refusal_31 : decode b_Model_refusal 31 = .ok (.bipush 64, 2) := by decide +kernel
theorem d_Model_refusal_33 : decode b_Model_refusal 33 = .ok (.if_icmp .ge 60, 3) := by decide +kernel
theorem d_Model_refusal_36 : decode b_Model_refusal 36 = .ok (.iload_n 2, 1) := by decide +kernel
theorem d_Model_refusal_37 : decode b_Model_refusal 37 = .ok (.bipush 16, 2) := by decide +kernel
theorem d_Model_refusal_39 : decode b_Model_refusal 39 = .ok (.irem, 1) := by decide +kernel
theorem d_Model_refusal_40 : decode b_Model_refusal 40 = .ok (.aload_n 0, 1) := by decide +kernel
theorem d_Model_refusal_41 : decode b_Model_refusal 41 = .ok (.getfield 32, 3) := by decide +kernel
theorem d_Model_refusal_44 : decode b_Model_refusal 44 = .ok (.iload_n 2, 1) := by decide +kernel
theorem d_Model_refusal_45 : decode b_Model_refusal 45 = .ok (.bipush 16, 2) := by decide +kernel
theorem d_Model_refusal_47 : decode b_Model_refusal 47 = .ok (.idiv, 1) := by decide +kernel
theorem d_Model_refusal_48 : decode b_Model_refusal 48 = .ok (.iaload, 1) := by decide +kernel
theorem d_Model_refusal_49 : decode b_Model_refusal 49 = .ok (.if_icmp .ge 38, 3) := by decide +kernel
theorem d_Model_refusal_52 : decode b_Model_refusal 52 = .ok (.aload_n 0, 1) := by decide +kernel
theorem d_Model_refusal_53 : decode b_Model_refusal 53 = .ok (.iload_n 2, 1) := by decide +kernel
theorem d_Model_refusal_54 : decode b_Model_refusal 54 = .ok (.bipush 16, 2) := by decide +kernel
theorem d_Model_refusal_56 : decode b_Model_refusal 56 = .ok (.idiv, 1) := by decide +kernel
theorem d_Model_refusal_57 : decode b_Model_refusal 57 = .ok (.aload_n 0, 1) := by decide +kernel
theorem d_Model_refusal_58 : decode b_Model_refusal 58 = .ok (.getfield 44, 3) := by decide +kernel
theorem d_Model_refusal_61 : decode b_Model_refusal 61 = .ok (.iload_n 2, 1) := by decide +kernel
theorem d_Model_refusal_62 : decode b_Model_refusal 62 = .ok (.iaload, 1) := by decide +kernel
theorem d_Model_refusal_63 : decode b_Model_refusal 63 = .ok (.invokevirtual 104, 3) := by decide +kernel
theorem d_Model_refusal_66 : decode b_Model_refusal 66 = .ok (.iconst (-1), 1) := by decide +kernel
theorem d_Model_refusal_67 : decode b_Model_refusal 67 = .ok (.if_icmp .ne 20, 3) := by decide +kernel
theorem d_Model_refusal_70 : decode b_Model_refusal 70 = .ok (.sipush (-2000), 3) := by decide +kernel
theorem d_Model_refusal_73 : decode b_Model_refusal 73 = .ok (.bipush 100, 2) := by decide +kernel
theorem d_Model_refusal_75 : decode b_Model_refusal 75 = .ok (.iload_n 2, 1) := by decide +kernel
theorem d_Model_refusal_76 : decode b_Model_refusal 76 = .ok (.bipush 16, 2) := by decide +kernel
theorem d_Model_refusal_78 : decode b_Model_refusal 78 = .ok (.idiv, 1) := by decide +kernel
theorem d_Model_refusal_79 : decode b_Model_refusal 79 = .ok (.imul, 1) := by decide +kernel
theorem d_Model_refusal_80 : decode b_Model_refusal 80 = .ok (.isub, 1) := by decide +kernel
theorem d_Model_refusal_81 : decode b_Model_refusal 81 = .ok (.iload_n 2, 1) := by decide +kernel
theorem d_Model_refusal_82 : decode b_Model_refusal 82 = .ok (.bipush 16, 2) := by decide +kernel
theorem d_Model_refusal_84 : decode b_Model_refusal 84 = .ok (.irem, 1) := by decide +kernel
theorem d_Model_refusal_85 : decode b_Model_refusal 85 = .ok (.isub, 1) := by decide +kernel
theorem d_Model_refusal_86 : decode b_Model_refusal 86 = .ok (.ireturn, 1) := by decide +kernel
theorem d_Model_refusal_87 : decode b_Model_refusal 87 = .ok (.iinc 2 1, 3) := by decide +kernel
theorem d_Model_refusal_90 : decode b_Model_refusal 90 = .ok (.goto (-60), 3) := by decide +kernel
theorem d_Model_refusal_93 : decode b_Model_refusal 93 = .ok (.iconst 0, 1) := by decide +kernel
theorem d_Model_refusal_94 : decode b_Model_refusal 94 = .ok (.istore_n 2, 1) := by decide +kernel
theorem d_Model_refusal_95 : decode b_Model_refusal 95 = .ok (.iload_n 2, 1) := by decide +kernel
theorem d_Model_refusal_96 : decode b_Model_refusal 96 = .ok (.bipush 64, 2) := by decide +kernel
theorem d_Model_refusal_98 : decode b_Model_refusal 98 = .ok (.if_icmp .ge 72, 3) := by decide +kernel
theorem d_Model_refusal_101 : decode b_Model_refusal 101 = .ok (.iload_n 2, 1) := by decide +kernel
theorem d_Model_refusal_102 : decode b_Model_refusal 102 = .ok (.bipush 16, 2) := by decide +kernel
theorem d_Model_refusal_104 : decode b_Model_refusal 104 = .ok (.irem, 1) := by decide +kernel
theorem d_Model_refusal_105 : decode b_Model_refusal 105 = .ok (.aload_n 0, 1) := by decide +kernel
theorem d_Model_refusal_106 : decode b_Model_refusal 106 = .ok (.getfield 32, 3) := by decide +kernel
theorem d_Model_refusal_109 : decode b_Model_refusal 109 = .ok (.iload_n 2, 1) := by decide +kernel
theorem d_Model_refusal_110 : decode b_Model_refusal 110 = .ok (.bipush 16, 2) := by decide +kernel
theorem d_Model_refusal_112 : decode b_Model_refusal 112 = .ok (.idiv, 1) := by decide +kernel
theorem d_Model_refusal_113 : decode b_Model_refusal 113 = .ok (.iaload, 1) := by decide +kernel
theorem d_Model_refusal_114 : decode b_Model_refusal 114 = .ok (.if_icmp .ge 7, 3) := by decide +kernel
theorem d_Model_refusal_117 : decode b_Model_refusal 117 = .ok (.iconst 1, 1) := by decide +kernel
theorem d_Model_refusal_118 : decode b_Model_refusal 118 = .ok (.goto 4, 3) := by decide +kernel
theorem d_Model_refusal_121 : decode b_Model_refusal 121 = .ok (.iconst 0, 1) := by decide +kernel
theorem d_Model_refusal_122 : decode b_Model_refusal 122 = .ok (.istore_n 3, 1) := by decide +kernel
theorem d_Model_refusal_123 : decode b_Model_refusal 123 = .ok (.iload_n 3, 1) := by decide +kernel
theorem d_Model_refusal_124 : decode b_Model_refusal 124 = .ok (.ifCond .eq 11, 3) := by decide +kernel
theorem d_Model_refusal_127 : decode b_Model_refusal 127 = .ok (.aload_n 0, 1) := by decide +kernel
theorem d_Model_refusal_128 : decode b_Model_refusal 128 = .ok (.iload_n 2, 1) := by decide +kernel
theorem d_Model_refusal_129 : decode b_Model_refusal 129 = .ok (.invokevirtual 119, 3) := by decide +kernel
theorem d_Model_refusal_132 : decode b_Model_refusal 132 = .ok (.ifCond .eq 7, 3) := by decide +kernel
theorem d_Model_refusal_135 : decode b_Model_refusal 135 = .ok (.iconst 1, 1) := by decide +kernel
theorem d_Model_refusal_136 : decode b_Model_refusal 136 = .ok (.goto 4, 3) := by decide +kernel
theorem d_Model_refusal_139 : decode b_Model_refusal 139 = .ok (.iconst 0, 1) := by decide +kernel
theorem d_Model_refusal_140 : decode b_Model_refusal 140 = .ok (.istore 4, 2) := by decide +kernel
theorem d_Model_refusal_142 : decode b_Model_refusal 142 = .ok (.iload 4, 2) := by decide +kernel
theorem d_Model_refusal_144 : decode b_Model_refusal 144 = .ok (.ifCond .ne 20, 3) := by decide +kernel
theorem d_Model_refusal_147 : decode b_Model_refusal 147 = .ok (.sipush (-3000), 3) := by decide +kernel
theorem d_Model_refusal_150 : decode b_Model_refusal 150 = .ok (.bipush 100, 2) := by decide +kernel
theorem d_Model_refusal_152 : decode b_Model_refusal 152 = .ok (.iload_n 2, 1) := by decide +kernel
theorem d_Model_refusal_153 : decode b_Model_refusal 153 = .ok (.bipush 16, 2) := by decide +kernel
theorem d_Model_refusal_155 : decode b_Model_refusal 155 = .ok (.idiv, 1) := by decide +kernel
theorem d_Model_refusal_156 : decode b_Model_refusal 156 = .ok (.imul, 1) := by decide +kernel
theorem d_Model_refusal_157 : decode b_Model_refusal 157 = .ok (.isub, 1) := by decide +kernel
theorem d_Model_refusal_158 : decode b_Model_refusal 158 = .ok (.iload_n 2, 1) := by decide +kernel
theorem d_Model_refusal_159 : decode b_Model_refusal 159 = .ok (.bipush 16, 2) := by decide +kernel
theorem d_Model_refusal_161 : decode b_Model_refusal 161 = .ok (.irem, 1) := by decide +kernel
theorem d_Model_refusal_162 : decode b_Model_refusal 162 = .ok (.isub, 1) := by decide +kernel
theorem d_Model_refusal_163 : decode b_Model_refusal 163 = .ok (.ireturn, 1) := by decide +kernel
theorem d_Model_refusal_164 : decode b_Model_refusal 164 = .ok (.iinc 2 1, 3) := by decide +kernel
theorem d_Model_refusal_167 : decode b_Model_refusal 167 = .ok (.goto (-72), 3) := by decide +kernel
theorem d_Model_refusal_170 : decode b_Model_refusal 170 = .ok (.aload_n 0, 1) := by decide +kernel
theorem d_Model_refusal_171 : decode b_Model_refusal 171 = .ok (.iload_n 1, 1) := by decide +kernel
theorem d_Model_refusal_172 : decode b_Model_refusal 172 = .ok (.invokevirtual 101, 3) := by decide +kernel
theorem d_Model_refusal_175 : decode b_Model_refusal 175 = .ok (.iconst (-1), 1) := by decide +kernel
theorem d_Model_refusal_176 : decode b_Model_refusal 176 = .ok (.if_icmp .ne 11, 3) := by decide +kernel
theorem d_Model_refusal_179 : decode b_Model_refusal 179 = .ok (.sipush (-4000), 3) := by decide +kernel
theorem d_Model_refusal_182 : decode b_Model_refusal 182 = .ok (.iload_n 1, 1) := by decide +kernel
theorem d_Model_refusal_183 : decode b_Model_refusal 183 = .ok (.isub, 1) := by decide +kernel
theorem d_Model_refusal_184 : decode b_Model_refusal 184 = .ok (.goto 4, 3) := by decide +kernel
theorem d_Model_refusal_187 : decode b_Model_refusal 187 = .ok (.iconst 0, 1) := by decide +kernel
theorem d_Model_refusal_188 : decode b_Model_refusal 188 = .ok (.ireturn, 1) := by decide +kernel
theorem d_Model_bytes_0 : decode b_Model_bytes 0 = .ok (.iconst 0, 1) := by decide +kernel
theorem d_Model_bytes_1 : decode b_Model_bytes 1 = .ok (.istore_n 2, 1) := by decide +kernel
theorem d_Model_bytes_2 : decode b_Model_bytes 2 = .ok (.iload_n 2, 1) := by decide +kernel
theorem d_Model_bytes_3 : decode b_Model_bytes 3 = .ok (.iconst 4, 1) := by decide +kernel
theorem d_Model_bytes_4 : decode b_Model_bytes 4 = .ok (.if_icmp .ge 38, 3) := by decide +kernel
theorem d_Model_bytes_7 : decode b_Model_bytes 7 = .ok (.aload_n 0, 1) := by decide +kernel
theorem d_Model_bytes_8 : decode b_Model_bytes 8 = .ok (.getfield 62, 3) := by decide +kernel
theorem d_Model_bytes_11 : decode b_Model_bytes 11 = .ok (.aload_n 0, 1) := by decide +kernel
theorem d_Model_bytes_12 : decode b_Model_bytes 12 = .ok (.getfield 122, 3) := by decide +kernel
theorem d_Model_bytes_15 : decode b_Model_bytes 15 = .ok (.iload_n 1, 1) := by decide +kernel
theorem d_Model_bytes_16 : decode b_Model_bytes 16 = .ok (.bipush 8, 2) := by decide +kernel
theorem d_Model_bytes_18 : decode b_Model_bytes 18 = .ok (.iload_n 2, 1) := by decide +kernel
theorem d_Model_bytes_19 : decode b_Model_bytes 19 = .ok (.imul, 1) := by decide +kernel
theorem d_Model_bytes_20 : decode b_Model_bytes 20 = .ok (.ishr, 1) := by decide +kernel
theorem d_Model_bytes_21 : decode b_Model_bytes 21 = .ok (.sipush 255, 3) := by decide +kernel
theorem d_Model_bytes_24 : decode b_Model_bytes 24 = .ok (.iand, 1) := by decide +kernel
theorem d_Model_bytes_25 : decode b_Model_bytes 25 = .ok (.iastore, 1) := by decide +kernel
theorem d_Model_bytes_26 : decode b_Model_bytes 26 = .ok (.aload_n 0, 1) := by decide +kernel
theorem d_Model_bytes_27 : decode b_Model_bytes 27 = .ok (.dup, 1) := by decide +kernel
theorem d_Model_bytes_28 : decode b_Model_bytes 28 = .ok (.getfield 122, 3) := by decide +kernel
theorem d_Model_bytes_31 : decode b_Model_bytes 31 = .ok (.iconst 1, 1) := by decide +kernel
theorem d_Model_bytes_32 : decode b_Model_bytes 32 = .ok (.iadd, 1) := by decide +kernel
theorem d_Model_bytes_33 : decode b_Model_bytes 33 = .ok (.putfield 122, 3) := by decide +kernel
theorem d_Model_bytes_36 : decode b_Model_bytes 36 = .ok (.iinc 2 1, 3) := by decide +kernel
theorem d_Model_bytes_39 : decode b_Model_bytes 39 = .ok (.goto (-37), 3) := by decide +kernel
theorem d_Model_bytes_42 : decode b_Model_bytes 42 = .ok (.return_, 1) := by decide +kernel
theorem d_Model_link_0 : decode b_Model_link 0 = .ok (.aload_n 0, 1) := by decide +kernel
theorem d_Model_link_1 : decode b_Model_link 1 = .ok (.iload_n 1, 1) := by decide +kernel
theorem d_Model_link_2 : decode b_Model_link 2 = .ok (.ifCond .lt 25, 3) := by decide +kernel
theorem d_Model_link_5 : decode b_Model_link 5 = .ok (.iload_n 1, 1) := by decide +kernel
theorem d_Model_link_6 : decode b_Model_link 6 = .ok (.ldc 125, 2) := by decide +kernel
theorem d_Model_link_8 : decode b_Model_link 8 = .ok (.if_icmp .gt 19, 3) := by decide +kernel
theorem d_Model_link_11 : decode b_Model_link 11 = .ok (.iload_n 1, 1) := by decide +kernel
theorem d_Model_link_12 : decode b_Model_link 12 = .ok (.iconst 4, 1) := by decide +kernel
theorem d_Model_link_13 : decode b_Model_link 13 = .ok (.irem, 1) := by decide +kernel
theorem d_Model_link_14 : decode b_Model_link 14 = .ok (.ifCond .ne 13, 3) := by decide +kernel
theorem d_Model_link_17 : decode b_Model_link 17 = .ok (.iload_n 2, 1) := by decide +kernel
theorem d_Model_link_18 : decode b_Model_link 18 = .ok (.iconst 0, 1) := by decide +kernel
theorem d_Model_link_19 : decode b_Model_link 19 = .ok (.bipush 15, 2) := by decide +kernel
theorem d_Model_link_21 : decode b_Model_link 21 = .ok (.invokestatic 82, 3) := by decide +kernel
theorem d_Model_link_24 : decode b_Model_link 24 = .ok (.ifCond .ne 7, 3) := by decide +kernel
theorem d_Model_link_27 : decode b_Model_link 27 = .ok (.iconst 1, 1) := by decide +kernel
theorem d_Model_link_28 : decode b_Model_link 28 = .ok (.goto 4, 3) := by decide +kernel
theorem d_Model_link_31 : decode b_Model_link 31 = .ok (.iconst 0, 1) := by decide +kernel
theorem d_Model_link_32 : decode b_Model_link 32 = .ok (.putfield 74, 3) := by decide +kernel
theorem d_Model_link_35 : decode b_Model_link 35 = .ok (.aload_n 0, 1) := by decide +kernel
theorem d_Model_link_36 : decode b_Model_link 36 = .ok (.getfield 74, 3) := by decide +kernel
theorem d_Model_link_39 : decode b_Model_link 39 = .ok (.ifCond .le 5, 3) := by decide +kernel
theorem d_Model_link_42 : decode b_Model_link 42 = .ok (.iconst 0, 1) := by decide +kernel
theorem d_Model_link_43 : decode b_Model_link 43 = .ok (.ireturn, 1) := by decide +kernel
theorem d_Model_link_44 : decode b_Model_link 44 = .ok (.aload_n 0, 1) := by decide +kernel
theorem d_Model_link_45 : decode b_Model_link 45 = .ok (.iload_n 1, 1) := by decide +kernel
theorem d_Model_link_46 : decode b_Model_link 46 = .ok (.invokevirtual 126, 3) := by decide +kernel
theorem d_Model_link_49 : decode b_Model_link 49 = .ok (.aload_n 0, 1) := by decide +kernel
theorem d_Model_link_50 : decode b_Model_link 50 = .ok (.iload_n 2, 1) := by decide +kernel
theorem d_Model_link_51 : decode b_Model_link 51 = .ok (.invokevirtual 130, 3) := by decide +kernel
theorem d_Model_link_54 : decode b_Model_link 54 = .ok (.istore_n 3, 1) := by decide +kernel
theorem d_Model_link_55 : decode b_Model_link 55 = .ok (.iload_n 3, 1) := by decide +kernel
theorem d_Model_link_56 : decode b_Model_link 56 = .ok (.ifCond .ge 5, 3) := by decide +kernel
theorem d_Model_link_59 : decode b_Model_link 59 = .ok (.iload_n 3, 1) := by decide +kernel
theorem d_Model_link_60 : decode b_Model_link 60 = .ok (.ireturn, 1) := by decide +kernel
theorem d_Model_link_61 : decode b_Model_link 61 = .ok (.iconst 0, 1) := by decide +kernel
theorem d_Model_link_62 : decode b_Model_link 62 = .ok (.istore 4, 2) := by decide +kernel
theorem d_Model_link_64 : decode b_Model_link 64 = .ok (.iload 4, 2) := by decide +kernel
theorem d_Model_link_66 : decode b_Model_link 66 = .ok (.bipush 16, 2) := by decide +kernel
theorem d_Model_link_68 : decode b_Model_link 68 = .ok (.if_icmp .ge 58, 3) := by decide +kernel
theorem d_Model_link_71 : decode b_Model_link 71 = .ok (.aload_n 0, 1) := by decide +kernel
theorem d_Model_link_72 : decode b_Model_link 72 = .ok (.iload 4, 2) := by decide +kernel
theorem d_Model_link_74 : decode b_Model_link 74 = .ok (.invokevirtual 101, 3) := by decide +kernel
theorem d_Model_link_77 : decode b_Model_link 77 = .ok (.istore 5, 2) := by decide +kernel
theorem d_Model_link_79 : decode b_Model_link 79 = .ok (.aload_n 0, 1) := by decide +kernel
theorem d_Model_link_80 : decode b_Model_link 80 = .ok (.getfield 56, 3) := by decide +kernel
theorem d_Model_link_83 : decode b_Model_link 83 = .ok (.iload 4, 2) := by decide +kernel
theorem d_Model_link_85 : decode b_Model_link 85 = .ok (.iload 5, 2) := by decide +kernel
theorem d_Model_link_87 : decode b_Model_link 87 = .ok (.iconst (-1), 1) := by decide +kernel
theorem d_Model_link_88 : decode b_Model_link 88 = .ok (.if_icmp .eq 7, 3) := by decide +kernel
theorem d_Model_link_91 : decode b_Model_link 91 = .ok (.iconst 1, 1) := by decide +kernel
theorem d_Model_link_92 : decode b_Model_link 92 = .ok (.goto 4, 3) := by decide +kernel
theorem d_Model_link_95 : decode b_Model_link 95 = .ok (.iconst 0, 1) := by decide +kernel
theorem d_Model_link_96 : decode b_Model_link 96 = .ok (.bastore, 1) := by decide +kernel
theorem d_Model_link_97 : decode b_Model_link 97 = .ok (.aload_n 0, 1) := by decide +kernel
theorem d_Model_link_98 : decode b_Model_link 98 = .ok (.getfield 59, 3) := by decide +kernel
theorem d_Model_link_101 : decode b_Model_link 101 = .ok (.iload 4, 2) := by decide +kernel
theorem d_Model_link_103 : decode b_Model_link 103 = .ok (.iload 5, 2) := by decide +kernel
theorem d_Model_link_105 : decode b_Model_link 105 = .ok (.iconst (-1), 1) := by decide +kernel
theorem d_Model_link_106 : decode b_Model_link 106 = .ok (.if_icmp .eq 12, 3) := by decide +kernel
theorem d_Model_link_109 : decode b_Model_link 109 = .ok (.aload_n 0, 1) := by decide +kernel
theorem d_Model_link_110 : decode b_Model_link 110 = .ok (.iload 5, 2) := by decide +kernel
theorem d_Model_link_112 : decode b_Model_link 112 = .ok (.invokevirtual 108, 3) := by decide +kernel
theorem d_Model_link_115 : decode b_Model_link 115 = .ok (.goto 4, 3) := by decide +kernel
theorem d_Model_link_118 : decode b_Model_link 118 = .ok (.iconst (-1), 1) := by decide +kernel
theorem d_Model_link_119 : decode b_Model_link 119 = .ok (.iastore, 1) := by decide +kernel
theorem d_Model_link_120 : decode b_Model_link 120 = .ok (.iinc 4 1, 3) := by decide +kernel
theorem d_Model_link_123 : decode b_Model_link 123 = .ok (.goto (-59), 3) := by decide +kernel
theorem d_Model_link_126 : decode b_Model_link 126 = .ok (.iconst 4, 1) := by decide +kernel
theorem d_Model_link_127 : decode b_Model_link 127 = .ok (.aload_n 0, 1) := by decide +kernel
theorem d_Model_link_128 : decode b_Model_link 128 = .ok (.iconst 0, 1) := by decide +kernel
theorem d_Model_link_129 : decode b_Model_link 129 = .ok (.invokevirtual 133, 3) := by decide +kernel
theorem d_Model_link_132 : decode b_Model_link 132 = .ok (.imul, 1) := by decide +kernel
theorem d_Model_link_133 : decode b_Model_link 133 = .ok (.istore 4, 2) := by decide +kernel
theorem d_Model_link_135 : decode b_Model_link 135 = .ok (.iconst 4, 1) := by decide +kernel
theorem d_Model_link_136 : decode b_Model_link 136 = .ok (.aload_n 0, 1) := by decide +kernel
theorem d_Model_link_137 : decode b_Model_link 137 = .ok (.iconst 1, 1) := by decide +kernel
theorem d_Model_link_138 : decode b_Model_link 138 = .ok (.invokevirtual 133, 3) := by decide +kernel
theorem d_Model_link_141 : decode b_Model_link 141 = .ok (.imul, 1) := by decide +kernel
theorem d_Model_link_142 : decode b_Model_link 142 = .ok (.istore 5, 2) := by decide +kernel
theorem d_Model_link_144 : decode b_Model_link 144 = .ok (.aload_n 0, 1) := by decide +kernel
theorem d_Model_link_145 : decode b_Model_link 145 = .ok (.getfield 59, 3) := by decide +kernel
theorem d_Model_link_148 : decode b_Model_link 148 = .ok (.iload_n 2, 1) := by decide +kernel
theorem d_Model_link_149 : decode b_Model_link 149 = .ok (.iaload, 1) := by decide +kernel
theorem d_Model_link_150 : decode b_Model_link 150 = .ok (.istore 6, 2) := by decide +kernel
theorem d_Model_link_152 : decode b_Model_link 152 = .ok (.aload_n 0, 1) := by decide +kernel
theorem d_Model_link_153 : decode b_Model_link 153 = .ok (.iconst 0, 1) := by decide +kernel
theorem d_Model_link_154 : decode b_Model_link 154 = .ok (.putfield 122, 3) := by decide +kernel
theorem d_Model_link_157 : decode b_Model_link 157 = .ok (.aload_n 0, 1) := by decide +kernel
theorem d_Model_link_158 : decode b_Model_link 158 = .ok (.ldc 136, 2) := by decide +kernel
theorem d_Model_link_160 : decode b_Model_link 160 = .ok (.invokevirtual 137, 3) := by decide +kernel
theorem d_Model_link_163 : decode b_Model_link 163 = .ok (.aload_n 0, 1) := by decide +kernel
theorem d_Model_link_164 : decode b_Model_link 164 = .ok (.iload 6, 2) := by decide +kernel
theorem d_Model_link_166 : decode b_Model_link 166 = .ok (.invokevirtual 137, 3) := by decide +kernel
theorem d_Model_link_169 : decode b_Model_link 169 = .ok (.aload_n 0, 1) := by decide +kernel
theorem d_Model_link_170 : decode b_Model_link 170 = .ok (.iload_n 1, 1) := by decide +kernel
theorem d_Model_link_171 : decode b_Model_link 171 = .ok (.invokevirtual 137, 3) := by decide +kernel
theorem d_Model_link_174 : decode b_Model_link 174 = .ok (.aload_n 0, 1) := by decide +kernel
theorem d_Model_link_175 : decode b_Model_link 175 = .ok (.iload 4, 2) := by decide +kernel
theorem d_Model_link_177 : decode b_Model_link 177 = .ok (.invokevirtual 137, 3) := by decide +kernel
theorem d_Model_link_180 : decode b_Model_link 180 = .ok (.aload_n 0, 1) := by decide +kernel
theorem d_Model_link_181 : decode b_Model_link 181 = .ok (.bipush 36, 2) := by decide +kernel
theorem d_Model_link_183 : decode b_Model_link 183 = .ok (.invokevirtual 137, 3) := by decide +kernel
theorem d_Model_link_186 : decode b_Model_link 186 = .ok (.aload_n 0, 1) := by decide +kernel
theorem d_Model_link_187 : decode b_Model_link 187 = .ok (.aload_n 0, 1) := by decide +kernel
theorem d_Model_link_188 : decode b_Model_link 188 = .ok (.getfield 53, 3) := by decide +kernel
theorem d_Model_link_191 : decode b_Model_link 191 = .ok (.iconst 1, 1) := by decide +kernel
theorem d_Model_link_192 : decode b_Model_link 192 = .ok (.iaload, 1) := by decide +kernel
theorem d_Model_link_193 : decode b_Model_link 193 = .ok (.invokevirtual 137, 3) := by decide +kernel
theorem d_Model_link_196 : decode b_Model_link 196 = .ok (.aload_n 0, 1) := by decide +kernel
theorem d_Model_link_197 : decode b_Model_link 197 = .ok (.iload 5, 2) := by decide +kernel
theorem d_Model_link_199 : decode b_Model_link 199 = .ok (.invokevirtual 137, 3) := by decide +kernel
theorem d_Model_link_202 : decode b_Model_link 202 = .ok (.aload_n 0, 1) := by decide +kernel
theorem d_Model_link_203 : decode b_Model_link 203 = .ok (.bipush 36, 2) := by decide +kernel
theorem d_Model_link_205 : decode b_Model_link 205 = .ok (.iload 4, 2) := by decide +kernel
theorem d_Model_link_207 : decode b_Model_link 207 = .ok (.iadd, 1) := by decide +kernel
theorem d_Model_link_208 : decode b_Model_link 208 = .ok (.invokevirtual 137, 3) := by decide +kernel
theorem d_Model_link_211 : decode b_Model_link 211 = .ok (.aload_n 0, 1) := by decide +kernel
theorem d_Model_link_212 : decode b_Model_link 212 = .ok (.ldc 136, 2) := by decide +kernel
theorem d_Model_link_214 : decode b_Model_link 214 = .ok (.iload 6, 2) := by decide +kernel
theorem d_Model_link_216 : decode b_Model_link 216 = .ok (.iadd, 1) := by decide +kernel
theorem d_Model_link_217 : decode b_Model_link 217 = .ok (.iload_n 1, 1) := by decide +kernel
theorem d_Model_link_218 : decode b_Model_link 218 = .ok (.iadd, 1) := by decide +kernel
theorem d_Model_link_219 : decode b_Model_link 219 = .ok (.iload 4, 2) := by decide +kernel
theorem d_Model_link_221 : decode b_Model_link 221 = .ok (.iadd, 1) := by decide +kernel
theorem d_Model_link_222 : decode b_Model_link 222 = .ok (.bipush 36, 2) := by decide +kernel
theorem d_Model_link_224 : decode b_Model_link 224 = .ok (.iadd, 1) := by decide +kernel
theorem d_Model_link_225 : decode b_Model_link 225 = .ok (.aload_n 0, 1) := by decide +kernel
theorem d_Model_link_226 : decode b_Model_link 226 = .ok (.getfield 53, 3) := by decide +kernel
theorem d_Model_link_229 : decode b_Model_link 229 = .ok (.iconst 1, 1) := by decide +kernel
theorem d_Model_link_230 : decode b_Model_link 230 = .ok (.iaload, 1) := by decide +kernel
theorem d_Model_link_231 : decode b_Model_link 231 = .ok (.iadd, 1) := by decide +kernel
theorem d_Model_link_232 : decode b_Model_link 232 = .ok (.iload 5, 2) := by decide +kernel
theorem d_Model_link_234 : decode b_Model_link 234 = .ok (.iadd, 1) := by decide +kernel
theorem d_Model_link_235 : decode b_Model_link 235 = .ok (.bipush 36, 2) := by decide +kernel
theorem d_Model_link_237 : decode b_Model_link 237 = .ok (.iadd, 1) := by decide +kernel
theorem d_Model_link_238 : decode b_Model_link 238 = .ok (.iload 4, 2) := by decide +kernel
theorem d_Model_link_240 : decode b_Model_link 240 = .ok (.iadd, 1) := by decide +kernel
theorem d_Model_link_241 : decode b_Model_link 241 = .ok (.invokevirtual 137, 3) := by decide +kernel
theorem d_Model_link_244 : decode b_Model_link 244 = .ok (.iconst 0, 1) := by decide +kernel
theorem d_Model_link_245 : decode b_Model_link 245 = .ok (.istore 7, 2) := by decide +kernel
theorem d_Model_link_247 : decode b_Model_link 247 = .ok (.iload 7, 2) := by decide +kernel
theorem d_Model_link_249 : decode b_Model_link 249 = .ok (.iconst 2, 1) := by decide +kernel
theorem d_Model_link_250 : decode b_Model_link 250 = .ok (.if_icmp .ge 73, 3) := by decide +kernel
theorem d_Model_link_253 : decode b_Model_link 253 = .ok (.iconst 0, 1) := by decide +kernel
theorem d_Model_link_254 : decode b_Model_link 254 = .ok (.istore 8, 2) := by decide +kernel
theorem d_Model_link_256 : decode b_Model_link 256 = .ok (.iload 8, 2) := by decide +kernel
theorem d_Model_link_258 : decode b_Model_link 258 = .ok (.iconst 4, 1) := by decide +kernel
theorem d_Model_link_259 : decode b_Model_link 259 = .ok (.if_icmp .ge 58, 3) := by decide +kernel
theorem d_Model_link_262 : decode b_Model_link 262 = .ok (.iconst 0, 1) := by decide +kernel
theorem d_Model_link_263 : decode b_Model_link 263 = .ok (.istore 9, 2) := by decide +kernel
theorem d_Model_link_265 : decode b_Model_link 265 = .ok (.iload 9, 2) := by decide +kernel
theorem d_Model_link_267 : decode b_Model_link 267 = .ok (.aload_n 0, 1) := by decide +kernel
theorem d_Model_link_268 : decode b_Model_link 268 = .ok (.getfield 13, 3) := by decide +kernel
theorem d_Model_link_271 : decode b_Model_link 271 = .ok (.iconst 2, 1) := by decide +kernel
theorem d_Model_link_272 : decode b_Model_link 272 = .ok (.iload 8, 2) := by decide +kernel
theorem d_Model_link_274 : decode b_Model_link 274 = .ok (.imul, 1) := by decide +kernel
theorem d_Model_link_275 : decode b_Model_link 275 = .ok (.iload 7, 2) := by decide +kernel
theorem d_Model_link_277 : decode b_Model_link 277 = .ok (.iadd, 1) := by decide +kernel
theorem d_Model_link_278 : decode b_Model_link 278 = .ok (.iaload, 1) := by decide +kernel
theorem d_Model_link_279 : decode b_Model_link 279 = .ok (.if_icmp .ge 32, 3) := by decide +kernel
theorem d_Model_link_282 : decode b_Model_link 282 = .ok (.aload_n 0, 1) := by decide +kernel
theorem d_Model_link_283 : decode b_Model_link 283 = .ok (.aload_n 0, 1) := by decide +kernel
theorem d_Model_link_284 : decode b_Model_link 284 = .ok (.getfield 50, 3) := by decide +kernel
theorem d_Model_link_287 : decode b_Model_link 287 = .ok (.bipush 48, 2) := by decide +kernel
theorem d_Model_link_289 : decode b_Model_link 289 = .ok (.iload 8, 2) := by decide +kernel
theorem d_Model_link_291 : decode b_Model_link 291 = .ok (.imul, 1) := by decide +kernel
theorem d_Model_link_292 : decode b_Model_link 292 = .ok (.bipush 24, 2) := by decide +kernel
theorem d_Model_link_294 : decode b_Model_link 294 = .ok (.iload 7, 2) := by decide +kernel
theorem d_Model_link_296 : decode b_Model_link 296 = .ok (.imul, 1) := by decide +kernel
theorem d_Model_link_297 : decode b_Model_link 297 = .ok (.iadd, 1) := by decide +kernel
theorem d_Model_link_298 : decode b_Model_link 298 = .ok (.iload 9, 2) := by decide +kernel
theorem d_Model_link_300 : decode b_Model_link 300 = .ok (.iadd, 1) := by decide +kernel
theorem d_Model_link_301 : decode b_Model_link 301 = .ok (.iaload, 1) := by decide +kernel
theorem d_Model_link_302 : decode b_Model_link 302 = .ok (.invokevirtual 137, 3) := by decide +kernel
theorem d_Model_link_305 : decode b_Model_link 305 = .ok (.iinc 9 1, 3) := by decide +kernel
theorem d_Model_link_308 : decode b_Model_link 308 = .ok (.goto (-43), 3) := by decide +kernel
theorem d_Model_link_311 : decode b_Model_link 311 = .ok (.iinc 8 1, 3) := by decide +kernel
theorem d_Model_link_314 : decode b_Model_link 314 = .ok (.goto (-58), 3) := by decide +kernel
theorem d_Model_link_317 : decode b_Model_link 317 = .ok (.iinc 7 1, 3) := by decide +kernel
theorem d_Model_link_320 : decode b_Model_link 320 = .ok (.goto (-73), 3) := by decide +kernel
theorem d_Model_link_323 : decode b_Model_link 323 = .ok (.aload_n 0, 1) := by decide +kernel
theorem d_Model_link_324 : decode b_Model_link 324 = .ok (.getfield 122, 3) := by decide +kernel
theorem d_Model_link_327 : decode b_Model_link 327 = .ok (.ireturn, 1) := by decide +kernel
theorem d_Model_image_0 : decode b_Model_image 0 = .ok (.aload_n 0, 1) := by decide +kernel
theorem d_Model_image_1 : decode b_Model_image 1 = .ok (.iconst 0, 1) := by decide +kernel
theorem d_Model_image_2 : decode b_Model_image 2 = .ok (.putfield 74, 3) := by decide +kernel
theorem d_Model_image_5 : decode b_Model_image 5 = .ok (.iload_n 1, 1) := by decide +kernel
theorem d_Model_image_6 : decode b_Model_image 6 = .ok (.ifCond .lt 11, 3) := by decide +kernel
theorem d_Model_image_9 : decode b_Model_image 9 = .ok (.iload_n 1, 1) := by decide +kernel
theorem d_Model_image_10 : decode b_Model_image 10 = .ok (.aload_n 0, 1) := by decide +kernel
theorem d_Model_image_11 : decode b_Model_image 11 = .ok (.getfield 122, 3) := by decide +kernel
theorem d_Model_image_14 : decode b_Model_image 14 = .ok (.if_icmp .lt 7, 3) := by decide +kernel
theorem d_Model_image_17 : decode b_Model_image 17 = .ok (.iconst (-1), 1) := by decide +kernel
theorem d_Model_image_18 : decode b_Model_image 18 = .ok (.goto 9, 3) := by decide +kernel
theorem d_Model_image_21 : decode b_Model_image 21 = .ok (.aload_n 0, 1) := by decide +kernel
theorem d_Model_image_22 : decode b_Model_image 22 = .ok (.getfield 62, 3) := by decide +kernel
theorem d_Model_image_25 : decode b_Model_image 25 = .ok (.iload_n 1, 1) := by decide +kernel
theorem d_Model_image_26 : decode b_Model_image 26 = .ok (.iaload, 1) := by decide +kernel
theorem d_Model_image_27 : decode b_Model_image 27 = .ok (.ireturn, 1) := by decide +kernel
theorem d_Model_alter_0 : decode b_Model_alter 0 = .ok (.aload_n 0, 1) := by decide +kernel
theorem d_Model_alter_1 : decode b_Model_alter 1 = .ok (.iload_n 1, 1) := by decide +kernel
theorem d_Model_alter_2 : decode b_Model_alter 2 = .ok (.ifCond .lt 22, 3) := by decide +kernel
theorem d_Model_alter_5 : decode b_Model_alter 5 = .ok (.iload_n 1, 1) := by decide +kernel
theorem d_Model_alter_6 : decode b_Model_alter 6 = .ok (.aload_n 0, 1) := by decide +kernel
theorem d_Model_alter_7 : decode b_Model_alter 7 = .ok (.getfield 122, 3) := by decide +kernel
theorem d_Model_alter_10 : decode b_Model_alter 10 = .ok (.if_icmp .ge 14, 3) := by decide +kernel
theorem d_Model_alter_13 : decode b_Model_alter 13 = .ok (.iload_n 2, 1) := by decide +kernel
theorem d_Model_alter_14 : decode b_Model_alter 14 = .ok (.iconst 0, 1) := by decide +kernel
theorem d_Model_alter_15 : decode b_Model_alter 15 = .ok (.sipush 255, 3) := by decide +kernel
theorem d_Model_alter_18 : decode b_Model_alter 18 = .ok (.invokestatic 82, 3) := by decide +kernel
theorem d_Model_alter_21 : decode b_Model_alter 21 = .ok (.ifCond .ne 7, 3) := by decide +kernel
theorem d_Model_alter_24 : decode b_Model_alter 24 = .ok (.iconst 1, 1) := by decide +kernel
theorem d_Model_alter_25 : decode b_Model_alter 25 = .ok (.goto 4, 3) := by decide +kernel
theorem d_Model_alter_28 : decode b_Model_alter 28 = .ok (.iconst 0, 1) := by decide +kernel
theorem d_Model_alter_29 : decode b_Model_alter 29 = .ok (.putfield 74, 3) := by decide +kernel
theorem d_Model_alter_32 : decode b_Model_alter 32 = .ok (.aload_n 0, 1) := by decide +kernel
theorem d_Model_alter_33 : decode b_Model_alter 33 = .ok (.getfield 74, 3) := by decide +kernel
theorem d_Model_alter_36 : decode b_Model_alter 36 = .ok (.ifCond .le 5, 3) := by decide +kernel
theorem d_Model_alter_39 : decode b_Model_alter 39 = .ok (.iconst 0, 1) := by decide +kernel
theorem d_Model_alter_40 : decode b_Model_alter 40 = .ok (.ireturn, 1) := by decide +kernel
theorem d_Model_alter_41 : decode b_Model_alter 41 = .ok (.aload_n 0, 1) := by decide +kernel
theorem d_Model_alter_42 : decode b_Model_alter 42 = .ok (.getfield 62, 3) := by decide +kernel
theorem d_Model_alter_45 : decode b_Model_alter 45 = .ok (.iload_n 1, 1) := by decide +kernel
theorem d_Model_alter_46 : decode b_Model_alter 46 = .ok (.iload_n 2, 1) := by decide +kernel
theorem d_Model_alter_47 : decode b_Model_alter 47 = .ok (.iastore, 1) := by decide +kernel
theorem d_Model_alter_48 : decode b_Model_alter 48 = .ok (.iconst 1, 1) := by decide +kernel
theorem d_Model_alter_49 : decode b_Model_alter 49 = .ok (.ireturn, 1) := by decide +kernel
theorem d_Model_stretch_0 : decode b_Model_stretch 0 = .ok (.aload_n 0, 1) := by decide +kernel
theorem d_Model_stretch_1 : decode b_Model_stretch 1 = .ok (.getfield 122, 3) := by decide +kernel
theorem d_Model_stretch_4 : decode b_Model_stretch 4 = .ok (.i2l, 1) := by decide +kernel
theorem d_Model_stretch_5 : decode b_Model_stretch 5 = .ok (.iload_n 1, 1) := by decide +kernel
theorem d_Model_stretch_6 : decode b_Model_stretch 6 = .ok (.i2l, 1) := by decide +kernel
theorem d_Model_stretch_7 : decode b_Model_stretch 7 = .ok (.ladd, 1) := by decide +kernel
theorem d_Model_stretch_8 : decode b_Model_stretch 8 = .ok (.lstore_n 2, 1) := by decide +kernel
theorem d_Model_stretch_9 : decode b_Model_stretch 9 = .ok (.aload_n 0, 1) := by decide +kernel
theorem d_Model_stretch_10 : decode b_Model_stretch 10 = .ok (.lload_n 2, 1) := by decide +kernel
theorem d_Model_stretch_11 : decode b_Model_stretch 11 = .ok (.lconst 0, 1) := by decide +kernel
theorem d_Model_stretch_12 : decode b_Model_stretch 12 = .ok (.lcmp, 1) := by decide +kernel
theorem d_Model_stretch_13 : decode b_Model_stretch 13 = .ok (.ifCond .lt 11, 3) := by decide +kernel
theorem d_Model_stretch_16 : decode b_Model_stretch 16 = .ok (.lload_n 2, 1) := by decide +kernel
theorem d_Model_stretch_17 : decode b_Model_stretch 17 = .ok (.ldc2_w 140, 3) := by decide +kernel
theorem d_Model_stretch_20 : decode b_Model_stretch 20 = .ok (.lcmp, 1) := by decide +kernel
theorem d_Model_stretch_21 : decode b_Model_stretch 21 = .ok (.ifCond .le 7, 3) := by decide +kernel
theorem d_Model_stretch_24 : decode b_Model_stretch 24 = .ok (.iconst 1, 1) := by decide +kernel
theorem d_Model_stretch_25 : decode b_Model_stretch 25 = .ok (.goto 4, 3) := by decide +kernel
theorem d_Model_stretch_28 : decode b_Model_stretch 28 = .ok (.iconst 0, 1) := by decide +kernel
theorem d_Model_stretch_29 : decode b_Model_stretch 29 = .ok (.putfield 74, 3) := by decide +kernel
theorem d_Model_stretch_32 : decode b_Model_stretch 32 = .ok (.aload_n 0, 1) := by decide +kernel
theorem d_Model_stretch_33 : decode b_Model_stretch 33 = .ok (.getfield 74, 3) := by decide +kernel
theorem d_Model_stretch_36 : decode b_Model_stretch 36 = .ok (.ifCond .le 5, 3) := by decide +kernel
theorem d_Model_stretch_39 : decode b_Model_stretch 39 = .ok (.iconst 0, 1) := by decide +kernel
theorem d_Model_stretch_40 : decode b_Model_stretch 40 = .ok (.ireturn, 1) := by decide +kernel
theorem d_Model_stretch_41 : decode b_Model_stretch 41 = .ok (.aload_n 0, 1) := by decide +kernel
theorem d_Model_stretch_42 : decode b_Model_stretch 42 = .ok (.getfield 122, 3) := by decide +kernel
theorem d_Model_stretch_45 : decode b_Model_stretch 45 = .ok (.istore 4, 2) := by decide +kernel
theorem d_Model_stretch_47 : decode b_Model_stretch 47 = .ok (.iload 4, 2) := by decide +kernel
theorem d_Model_stretch_49 : decode b_Model_stretch 49 = .ok (.i2l, 1) := by decide +kernel
theorem d_Model_stretch_50 : decode b_Model_stretch 50 = .ok (.lload_n 2, 1) := by decide +kernel
theorem d_Model_stretch_51 : decode b_Model_stretch 51 = .ok (.lcmp, 1) := by decide +kernel
theorem d_Model_stretch_52 : decode b_Model_stretch 52 = .ok (.ifCond .ge 17, 3) := by decide +kernel
theorem d_Model_stretch_55 : decode b_Model_stretch 55 = .ok (.aload_n 0, 1) := by decide +kernel
theorem d_Model_stretch_56 : decode b_Model_stretch 56 = .ok (.getfield 62, 3) := by decide +kernel
theorem d_Model_stretch_59 : decode b_Model_stretch 59 = .ok (.iload 4, 2) := by decide +kernel
theorem d_Model_stretch_61 : decode b_Model_stretch 61 = .ok (.iconst 0, 1) := by decide +kernel
theorem d_Model_stretch_62 : decode b_Model_stretch 62 = .ok (.iastore, 1) := by decide +kernel
theorem d_Model_stretch_63 : decode b_Model_stretch 63 = .ok (.iinc 4 1, 3) := by decide +kernel
theorem d_Model_stretch_66 : decode b_Model_stretch 66 = .ok (.goto (-19), 3) := by decide +kernel
theorem d_Model_stretch_69 : decode b_Model_stretch 69 = .ok (.aload_n 0, 1) := by decide +kernel
theorem d_Model_stretch_70 : decode b_Model_stretch 70 = .ok (.lload_n 2, 1) := by decide +kernel
theorem d_Model_stretch_71 : decode b_Model_stretch 71 = .ok (.l2i, 1) := by decide +kernel
theorem d_Model_stretch_72 : decode b_Model_stretch 72 = .ok (.putfield 122, 3) := by decide +kernel
theorem d_Model_stretch_75 : decode b_Model_stretch 75 = .ok (.aload_n 0, 1) := by decide +kernel
theorem d_Model_stretch_76 : decode b_Model_stretch 76 = .ok (.getfield 122, 3) := by decide +kernel
theorem d_Model_stretch_79 : decode b_Model_stretch 79 = .ok (.ireturn, 1) := by decide +kernel
theorem d_Model_wordAt_0 : decode b_Model_wordAt 0 = .ok (.aload_n 0, 1) := by decide +kernel
theorem d_Model_wordAt_1 : decode b_Model_wordAt 1 = .ok (.getfield 62, 3) := by decide +kernel
theorem d_Model_wordAt_4 : decode b_Model_wordAt 4 = .ok (.iconst 4, 1) := by decide +kernel
theorem d_Model_wordAt_5 : decode b_Model_wordAt 5 = .ok (.iload_n 1, 1) := by decide +kernel
theorem d_Model_wordAt_6 : decode b_Model_wordAt 6 = .ok (.imul, 1) := by decide +kernel
theorem d_Model_wordAt_7 : decode b_Model_wordAt 7 = .ok (.iaload, 1) := by decide +kernel
theorem d_Model_wordAt_8 : decode b_Model_wordAt 8 = .ok (.aload_n 0, 1) := by decide +kernel
theorem d_Model_wordAt_9 : decode b_Model_wordAt 9 = .ok (.getfield 62, 3) := by decide +kernel
theorem d_Model_wordAt_12 : decode b_Model_wordAt 12 = .ok (.iconst 4, 1) := by decide +kernel
theorem d_Model_wordAt_13 : decode b_Model_wordAt 13 = .ok (.iload_n 1, 1) := by decide +kernel
theorem d_Model_wordAt_14 : decode b_Model_wordAt 14 = .ok (.imul, 1) := by decide +kernel
theorem d_Model_wordAt_15 : decode b_Model_wordAt 15 = .ok (.iconst 1, 1) := by decide +kernel
theorem d_Model_wordAt_16 : decode b_Model_wordAt 16 = .ok (.iadd, 1) := by decide +kernel
theorem d_Model_wordAt_17 : decode b_Model_wordAt 17 = .ok (.iaload, 1) := by decide +kernel
theorem d_Model_wordAt_18 : decode b_Model_wordAt 18 = .ok (.bipush 8, 2) := by decide +kernel
theorem d_Model_wordAt_20 : decode b_Model_wordAt 20 = .ok (.ishl, 1) := by decide +kernel
theorem d_Model_wordAt_21 : decode b_Model_wordAt 21 = .ok (.ior, 1) := by decide +kernel
theorem d_Model_wordAt_22 : decode b_Model_wordAt 22 = .ok (.aload_n 0, 1) := by decide +kernel
theorem d_Model_wordAt_23 : decode b_Model_wordAt 23 = .ok (.getfield 62, 3) := by decide +kernel
theorem d_Model_wordAt_26 : decode b_Model_wordAt 26 = .ok (.iconst 4, 1) := by decide +kernel
theorem d_Model_wordAt_27 : decode b_Model_wordAt 27 = .ok (.iload_n 1, 1) := by decide +kernel
theorem d_Model_wordAt_28 : decode b_Model_wordAt 28 = .ok (.imul, 1) := by decide +kernel
theorem d_Model_wordAt_29 : decode b_Model_wordAt 29 = .ok (.iconst 2, 1) := by decide +kernel
theorem d_Model_wordAt_30 : decode b_Model_wordAt 30 = .ok (.iadd, 1) := by decide +kernel
theorem d_Model_wordAt_31 : decode b_Model_wordAt 31 = .ok (.iaload, 1) := by decide +kernel
theorem d_Model_wordAt_32 : decode b_Model_wordAt 32 = .ok (.bipush 16, 2) := by decide +kernel
theorem d_Model_wordAt_34 : decode b_Model_wordAt 34 = .ok (.ishl, 1) := by decide +kernel
theorem d_Model_wordAt_35 : decode b_Model_wordAt 35 = .ok (.ior, 1) := by decide +kernel
theorem d_Model_wordAt_36 : decode b_Model_wordAt 36 = .ok (.aload_n 0, 1) := by decide +kernel
theorem d_Model_wordAt_37 : decode b_Model_wordAt 37 = .ok (.getfield 62, 3) := by decide +kernel
theorem d_Model_wordAt_40 : decode b_Model_wordAt 40 = .ok (.iconst 4, 1) := by decide +kernel
theorem d_Model_wordAt_41 : decode b_Model_wordAt 41 = .ok (.iload_n 1, 1) := by decide +kernel
theorem d_Model_wordAt_42 : decode b_Model_wordAt 42 = .ok (.imul, 1) := by decide +kernel
theorem d_Model_wordAt_43 : decode b_Model_wordAt 43 = .ok (.iconst 3, 1) := by decide +kernel
theorem d_Model_wordAt_44 : decode b_Model_wordAt 44 = .ok (.iadd, 1) := by decide +kernel
theorem d_Model_wordAt_45 : decode b_Model_wordAt 45 = .ok (.iaload, 1) := by decide +kernel
theorem d_Model_wordAt_46 : decode b_Model_wordAt 46 = .ok (.bipush 24, 2) := by decide +kernel
theorem d_Model_wordAt_48 : decode b_Model_wordAt 48 = .ok (.ishl, 1) := by decide +kernel
theorem d_Model_wordAt_49 : decode b_Model_wordAt 49 = .ok (.ior, 1) := by decide +kernel
theorem d_Model_wordAt_50 : decode b_Model_wordAt 50 = .ok (.ireturn, 1) := by decide +kernel
theorem d_Model_isGood_0 : decode b_Model_isGood 0 = .ok (.iconst 4, 1) := by decide +kernel
theorem d_Model_isGood_1 : decode b_Model_isGood 1 = .ok (.iload_n 1, 1) := by decide +kernel
theorem d_Model_isGood_2 : decode b_Model_isGood 2 = .ok (.imul, 1) := by decide +kernel
theorem d_Model_isGood_3 : decode b_Model_isGood 3 = .ok (.iconst 4, 1) := by decide +kernel
theorem d_Model_isGood_4 : decode b_Model_isGood 4 = .ok (.iadd, 1) := by decide +kernel
theorem d_Model_isGood_5 : decode b_Model_isGood 5 = .ok (.aload_n 0, 1) := by decide +kernel
theorem d_Model_isGood_6 : decode b_Model_isGood 6 = .ok (.getfield 122, 3) := by decide +kernel
theorem d_Model_isGood_9 : decode b_Model_isGood 9 = .ok (.if_icmp .le 5, 3) := by decide +kernel
theorem d_Model_isGood_12 : decode b_Model_isGood 12 = .ok (.iconst 0, 1) := by decide +kernel
theorem d_Model_isGood_13 : decode b_Model_isGood 13 = .ok (.ireturn, 1) := by decide +kernel
theorem d_Model_isGood_14 : decode b_Model_isGood 14 = .ok (.aload_n 0, 1) := by decide +kernel
theorem d_Model_isGood_15 : decode b_Model_isGood 15 = .ok (.iload_n 1, 1) := by decide +kernel
theorem d_Model_isGood_16 : decode b_Model_isGood 16 = .ok (.invokevirtual 142, 3) := by decide +kernel
theorem d_Model_isGood_19 : decode b_Model_isGood 19 = .ok (.istore_n 2, 1) := by decide +kernel
theorem d_Model_isGood_20 : decode b_Model_isGood 20 = .ok (.iload_n 1, 1) := by decide +kernel
theorem d_Model_isGood_21 : decode b_Model_isGood 21 = .ok (.tableswitch 259 0 7 #[47, 59, 99, 115, 156, 168, 200, 241], 47) := by decide +kernel
theorem d_Model_isGood_68 : decode b_Model_isGood 68 = .ok (.iload_n 2, 1) := by decide +kernel
theorem d_Model_isGood_69 : decode b_Model_isGood 69 = .ok (.ldc 136, 2) := by decide +kernel
theorem d_Model_isGood_71 : decode b_Model_isGood 71 = .ok (.if_icmp .ne 7, 3) := by decide +kernel
theorem d_Model_isGood_74 : decode b_Model_isGood 74 = .ok (.iconst 1, 1) := by decide +kernel
theorem d_Model_isGood_75 : decode b_Model_isGood 75 = .ok (.goto 4, 3) := by decide +kernel
theorem d_Model_isGood_78 : decode b_Model_isGood 78 = .ok (.iconst 0, 1) := by decide +kernel
theorem d_Model_isGood_79 : decode b_Model_isGood 79 = .ok (.ireturn, 1) := by decide +kernel
theorem d_Model_isGood_80 : decode b_Model_isGood 80 = .ok (.iload_n 2, 1) := by decide +kernel
theorem d_Model_isGood_81 : decode b_Model_isGood 81 = .ok (.iconst 4, 1) := by decide +kernel
theorem d_Model_isGood_82 : decode b_Model_isGood 82 = .ok (.irem, 1) := by decide +kernel
theorem d_Model_isGood_83 : decode b_Model_isGood 83 = .ok (.ifCond .ne 35, 3) := by decide +kernel
theorem d_Model_isGood_86 : decode b_Model_isGood 86 = .ok (.iload_n 2, 1) := by decide +kernel
theorem d_Model_isGood_87 : decode b_Model_isGood 87 = .ok (.aload_n 0, 1) := by decide +kernel
theorem d_Model_isGood_88 : decode b_Model_isGood 88 = .ok (.iconst 2, 1) := by decide +kernel
theorem d_Model_isGood_89 : decode b_Model_isGood 89 = .ok (.invokevirtual 142, 3) := by decide +kernel
theorem d_Model_isGood_92 : decode b_Model_isGood 92 = .ok (.if_icmp .lt 26, 3) := by decide +kernel
theorem d_Model_isGood_95 : decode b_Model_isGood 95 = .ok (.iload_n 2, 1) := by decide +kernel
theorem d_Model_isGood_96 : decode b_Model_isGood 96 = .ok (.i2l, 1) := by decide +kernel
theorem d_Model_isGood_97 : decode b_Model_isGood 97 = .ok (.aload_n 0, 1) := by decide +kernel
theorem d_Model_isGood_98 : decode b_Model_isGood 98 = .ok (.iconst 2, 1) := by decide +kernel
theorem d_Model_isGood_99 : decode b_Model_isGood 99 = .ok (.invokevirtual 142, 3) := by decide +kernel
theorem d_Model_isGood_102 : decode b_Model_isGood 102 = .ok (.i2l, 1) := by decide +kernel
theorem d_Model_isGood_103 : decode b_Model_isGood 103 = .ok (.aload_n 0, 1) := by decide +kernel
theorem d_Model_isGood_104 : decode b_Model_isGood 104 = .ok (.iconst 3, 1) := by decide +kernel
theorem d_Model_isGood_105 : decode b_Model_isGood 105 = .ok (.invokevirtual 142, 3) := by decide +kernel
theorem d_Model_isGood_108 : decode b_Model_isGood 108 = .ok (.i2l, 1) := by decide +kernel
theorem d_Model_isGood_109 : decode b_Model_isGood 109 = .ok (.ladd, 1) := by decide +kernel
theorem d_Model_isGood_110 : decode b_Model_isGood 110 = .ok (.lcmp, 1) := by decide +kernel
theorem d_Model_isGood_111 : decode b_Model_isGood 111 = .ok (.ifCond .ge 7, 3) := by decide +kernel
theorem d_Model_isGood_114 : decode b_Model_isGood 114 = .ok (.iconst 1, 1) := by decide +kernel
theorem d_Model_isGood_115 : decode b_Model_isGood 115 = .ok (.goto 4, 3) := by decide +kernel
theorem d_Model_isGood_118 : decode b_Model_isGood 118 = .ok (.iconst 0, 1) := by decide +kernel
theorem d_Model_isGood_119 : decode b_Model_isGood 119 = .ok (.ireturn, 1) := by decide +kernel
theorem d_Model_isGood_120 : decode b_Model_isGood 120 = .ok (.iload_n 2, 1) := by decide +kernel
theorem d_Model_isGood_121 : decode b_Model_isGood 121 = .ok (.iconst 4, 1) := by decide +kernel
theorem d_Model_isGood_122 : decode b_Model_isGood 122 = .ok (.irem, 1) := by decide +kernel
theorem d_Model_isGood_123 : decode b_Model_isGood 123 = .ok (.ifCond .ne 11, 3) := by decide +kernel
theorem d_Model_isGood_126 : decode b_Model_isGood 126 = .ok (.iload_n 2, 1) := by decide +kernel
theorem d_Model_isGood_127 : decode b_Model_isGood 127 = .ok (.ifCond .lt 7, 3) := by decide +kernel
theorem d_Model_isGood_130 : decode b_Model_isGood 130 = .ok (.iconst 1, 1) := by decide +kernel
theorem d_Model_isGood_131 : decode b_Model_isGood 131 = .ok (.goto 4, 3) := by decide +kernel
theorem d_Model_isGood_134 : decode b_Model_isGood 134 = .ok (.iconst 0, 1) := by decide +kernel
theorem d_Model_isGood_135 : decode b_Model_isGood 135 = .ok (.ireturn, 1) := by decide +kernel
theorem d_Model_isGood_136 : decode b_Model_isGood 136 = .ok (.iload_n 2, 1) := by decide +kernel
theorem d_Model_isGood_137 : decode b_Model_isGood 137 = .ok (.iconst 4, 1) := by decide +kernel
theorem d_Model_isGood_138 : decode b_Model_isGood 138 = .ok (.irem, 1) := by decide +kernel
theorem d_Model_isGood_139 : decode b_Model_isGood 139 = .ok (.ifCond .ne 36, 3) := by decide +kernel
theorem d_Model_isGood_142 : decode b_Model_isGood 142 = .ok (.iload_n 2, 1) := by decide +kernel
theorem d_Model_isGood_143 : decode b_Model_isGood 143 = .ok (.iconst 4, 1) := by decide +kernel
theorem d_Model_isGood_144 : decode b_Model_isGood 144 = .ok (.sipush 4096, 3) := by decide +kernel
theorem d_Model_isGood_147 : decode b_Model_isGood 147 = .ok (.invokestatic 82, 3) := by decide +kernel
theorem d_Model_isGood_150 : decode b_Model_isGood 150 = .ok (.ifCond .eq 25, 3) := by decide +kernel
theorem d_Model_isGood_153 : decode b_Model_isGood 153 = .ok (.aload_n 0, 1) := by decide +kernel
theorem d_Model_isGood_154 : decode b_Model_isGood 154 = .ok (.iconst 2, 1) := by decide +kernel
theorem d_Model_isGood_155 : decode b_Model_isGood 155 = .ok (.invokevirtual 142, 3) := by decide +kernel
theorem d_Model_isGood_158 : decode b_Model_isGood 158 = .ok (.i2l, 1) := by decide +kernel
theorem d_Model_isGood_159 : decode b_Model_isGood 159 = .ok (.iload_n 2, 1) := by decide +kernel
theorem d_Model_isGood_160 : decode b_Model_isGood 160 = .ok (.i2l, 1) := by decide +kernel
theorem d_Model_isGood_161 : decode b_Model_isGood 161 = .ok (.ladd, 1) := by decide +kernel
theorem d_Model_isGood_162 : decode b_Model_isGood 162 = .ok (.lconst 1, 1) := by decide +kernel
theorem d_Model_isGood_163 : decode b_Model_isGood 163 = .ok (.lsub, 1) := by decide +kernel
theorem d_Model_isGood_164 : decode b_Model_isGood 164 = .ok (.ldc2_w 145, 3) := by decide +kernel
theorem d_Model_isGood_167 : decode b_Model_isGood 167 = .ok (.lcmp, 1) := by decide +kernel
theorem d_Model_isGood_168 : decode b_Model_isGood 168 = .ok (.ifCond .gt 7, 3) := by decide +kernel
theorem d_Model_isGood_171 : decode b_Model_isGood 171 = .ok (.iconst 1, 1) := by decide +kernel
theorem d_Model_isGood_172 : decode b_Model_isGood 172 = .ok (.goto 4, 3) := by decide +kernel
theorem d_Model_isGood_175 : decode b_Model_isGood 175 = .ok (.iconst 0, 1) := by decide +kernel
theorem d_Model_isGood_176 : decode b_Model_isGood 176 = .ok (.ireturn, 1) := by decide +kernel
theorem d_Model_isGood_177 : decode b_Model_isGood 177 = .ok (.iload_n 2, 1) := by decide +kernel
theorem d_Model_isGood_178 : decode b_Model_isGood 178 = .ok (.bipush 36, 2) := by decide +kernel
theorem d_Model_isGood_180 : decode b_Model_isGood 180 = .ok (.if_icmp .ne 7, 3) := by decide +kernel
theorem d_Model_isGood_183 : decode b_Model_isGood 183 = .ok (.iconst 1, 1) := by decide +kernel
theorem d_Model_isGood_184 : decode b_Model_isGood 184 = .ok (.goto 4, 3) := by decide +kernel
theorem d_Model_isGood_187 : decode b_Model_isGood 187 = .ok (.iconst 0, 1) := by decide +kernel
theorem d_Model_isGood_188 : decode b_Model_isGood 188 = .ok (.ireturn, 1) := by decide +kernel
theorem d_Model_isGood_189 : decode b_Model_isGood 189 = .ok (.iload_n 2, 1) := by decide +kernel
theorem d_Model_isGood_190 : decode b_Model_isGood 190 = .ok (.bipush 64, 2) := by decide +kernel
theorem d_Model_isGood_192 : decode b_Model_isGood 192 = .ok (.irem, 1) := by decide +kernel
theorem d_Model_isGood_193 : decode b_Model_isGood 193 = .ok (.ifCond .ne 26, 3) := by decide +kernel
theorem d_Model_isGood_196 : decode b_Model_isGood 196 = .ok (.iload_n 2, 1) := by decide +kernel
theorem d_Model_isGood_197 : decode b_Model_isGood 197 = .ok (.i2l, 1) := by decide +kernel
theorem d_Model_isGood_198 : decode b_Model_isGood 198 = .ok (.aload_n 0, 1) := by decide +kernel
theorem d_Model_isGood_199 : decode b_Model_isGood 199 = .ok (.iconst 2, 1) := by decide +kernel
theorem d_Model_isGood_200 : decode b_Model_isGood 200 = .ok (.invokevirtual 142, 3) := by decide +kernel
theorem d_Model_isGood_203 : decode b_Model_isGood 203 = .ok (.i2l, 1) := by decide +kernel
theorem d_Model_isGood_204 : decode b_Model_isGood 204 = .ok (.aload_n 0, 1) := by decide +kernel
theorem d_Model_isGood_205 : decode b_Model_isGood 205 = .ok (.iconst 3, 1) := by decide +kernel
theorem d_Model_isGood_206 : decode b_Model_isGood 206 = .ok (.invokevirtual 142, 3) := by decide +kernel
theorem d_Model_isGood_209 : decode b_Model_isGood 209 = .ok (.i2l, 1) := by decide +kernel
theorem d_Model_isGood_210 : decode b_Model_isGood 210 = .ok (.ladd, 1) := by decide +kernel
theorem d_Model_isGood_211 : decode b_Model_isGood 211 = .ok (.lcmp, 1) := by decide +kernel
theorem d_Model_isGood_212 : decode b_Model_isGood 212 = .ok (.ifCond .lt 7, 3) := by decide +kernel
theorem d_Model_isGood_215 : decode b_Model_isGood 215 = .ok (.iconst 1, 1) := by decide +kernel
theorem d_Model_isGood_216 : decode b_Model_isGood 216 = .ok (.goto 4, 3) := by decide +kernel
theorem d_Model_isGood_219 : decode b_Model_isGood 219 = .ok (.iconst 0, 1) := by decide +kernel
theorem d_Model_isGood_220 : decode b_Model_isGood 220 = .ok (.ireturn, 1) := by decide +kernel
theorem d_Model_isGood_221 : decode b_Model_isGood 221 = .ok (.iload_n 2, 1) := by decide +kernel
theorem d_Model_isGood_222 : decode b_Model_isGood 222 = .ok (.iconst 4, 1) := by decide +kernel
theorem d_Model_isGood_223 : decode b_Model_isGood 223 = .ok (.irem, 1) := by decide +kernel
theorem d_Model_isGood_224 : decode b_Model_isGood 224 = .ok (.ifCond .ne 36, 3) := by decide +kernel
theorem d_Model_isGood_227 : decode b_Model_isGood 227 = .ok (.iload_n 2, 1) := by decide +kernel
theorem d_Model_isGood_228 : decode b_Model_isGood 228 = .ok (.iconst 0, 1) := by decide +kernel
theorem d_Model_isGood_229 : decode b_Model_isGood 229 = .ok (.sipush 4096, 3) := by decide +kernel
theorem d_Model_isGood_232 : decode b_Model_isGood 232 = .ok (.invokestatic 82, 3) := by decide +kernel
theorem d_Model_isGood_235 : decode b_Model_isGood 235 = .ok (.ifCond .eq 25, 3) := by decide +kernel
theorem d_Model_isGood_238 : decode b_Model_isGood 238 = .ok (.aload_n 0, 1) := by decide +kernel
theorem d_Model_isGood_239 : decode b_Model_isGood 239 = .ok (.iconst 5, 1) := by decide +kernel
theorem d_Model_isGood_240 : decode b_Model_isGood 240 = .ok (.invokevirtual 142, 3) := by decide +kernel
theorem d_Model_isGood_243 : decode b_Model_isGood 243 = .ok (.i2l, 1) := by decide +kernel
theorem d_Model_isGood_244 : decode b_Model_isGood 244 = .ok (.iload_n 2, 1) := by decide +kernel
theorem d_Model_isGood_245 : decode b_Model_isGood 245 = .ok (.i2l, 1) := by decide +kernel
theorem d_Model_isGood_246 : decode b_Model_isGood 246 = .ok (.ladd, 1) := by decide +kernel
theorem d_Model_isGood_247 : decode b_Model_isGood 247 = .ok (.lconst 1, 1) := by decide +kernel
theorem d_Model_isGood_248 : decode b_Model_isGood 248 = .ok (.lsub, 1) := by decide +kernel
theorem d_Model_isGood_249 : decode b_Model_isGood 249 = .ok (.ldc2_w 145, 3) := by decide +kernel
theorem d_Model_isGood_252 : decode b_Model_isGood 252 = .ok (.lcmp, 1) := by decide +kernel
theorem d_Model_isGood_253 : decode b_Model_isGood 253 = .ok (.ifCond .gt 7, 3) := by decide +kernel
theorem d_Model_isGood_256 : decode b_Model_isGood 256 = .ok (.iconst 1, 1) := by decide +kernel
theorem d_Model_isGood_257 : decode b_Model_isGood 257 = .ok (.goto 4, 3) := by decide +kernel
theorem d_Model_isGood_260 : decode b_Model_isGood 260 = .ok (.iconst 0, 1) := by decide +kernel
theorem d_Model_isGood_261 : decode b_Model_isGood 261 = .ok (.ireturn, 1) := by decide +kernel
theorem d_Model_isGood_262 : decode b_Model_isGood 262 = .ok (.iload_n 2, 1) := by decide +kernel
theorem d_Model_isGood_263 : decode b_Model_isGood 263 = .ok (.bipush 36, 2) := by decide +kernel
theorem d_Model_isGood_265 : decode b_Model_isGood 265 = .ok (.aload_n 0, 1) := by decide +kernel
theorem d_Model_isGood_266 : decode b_Model_isGood 266 = .ok (.iconst 3, 1) := by decide +kernel
theorem d_Model_isGood_267 : decode b_Model_isGood 267 = .ok (.invokevirtual 142, 3) := by decide +kernel
theorem d_Model_isGood_270 : decode b_Model_isGood 270 = .ok (.iadd, 1) := by decide +kernel
theorem d_Model_isGood_271 : decode b_Model_isGood 271 = .ok (.if_icmp .ne 7, 3) := by decide +kernel
theorem d_Model_isGood_274 : decode b_Model_isGood 274 = .ok (.iconst 1, 1) := by decide +kernel
theorem d_Model_isGood_275 : decode b_Model_isGood 275 = .ok (.goto 4, 3) := by decide +kernel
theorem d_Model_isGood_278 : decode b_Model_isGood 278 = .ok (.iconst 0, 1) := by decide +kernel
theorem d_Model_isGood_279 : decode b_Model_isGood 279 = .ok (.ireturn, 1) := by decide +kernel
theorem d_Model_isGood_280 : decode b_Model_isGood 280 = .ok (.iconst 0, 1) := by decide +kernel
theorem d_Model_isGood_281 : decode b_Model_isGood 281 = .ok (.istore_n 3, 1) := by decide +kernel
theorem d_Model_isGood_282 : decode b_Model_isGood 282 = .ok (.iconst 0, 1) := by decide +kernel
theorem d_Model_isGood_283 : decode b_Model_isGood 283 = .ok (.istore 4, 2) := by decide +kernel
theorem d_Model_isGood_285 : decode b_Model_isGood 285 = .ok (.iload 4, 2) := by decide +kernel
theorem d_Model_isGood_287 : decode b_Model_isGood 287 = .ok (.bipush 8, 2) := by decide +kernel
theorem d_Model_isGood_289 : decode b_Model_isGood 289 = .ok (.if_icmp .ge 18, 3) := by decide +kernel
theorem d_Model_isGood_292 : decode b_Model_isGood 292 = .ok (.iload_n 3, 1) := by decide +kernel
theorem d_Model_isGood_293 : decode b_Model_isGood 293 = .ok (.aload_n 0, 1) := by decide +kernel
theorem d_Model_isGood_294 : decode b_Model_isGood 294 = .ok (.iload 4, 2) := by decide +kernel
theorem d_Model_isGood_296 : decode b_Model_isGood 296 = .ok (.invokevirtual 142, 3) := by decide +kernel
theorem d_Model_isGood_299 : decode b_Model_isGood 299 = .ok (.iadd, 1) := by decide +kernel
theorem d_Model_isGood_300 : decode b_Model_isGood 300 = .ok (.istore_n 3, 1) := by decide +kernel
theorem d_Model_isGood_301 : decode b_Model_isGood 301 = .ok (.iinc 4 1, 3) := by decide +kernel
theorem d_Model_isGood_304 : decode b_Model_isGood 304 = .ok (.goto (-19), 3) := by decide +kernel
theorem d_Model_isGood_307 : decode b_Model_isGood 307 = .ok (.iload_n 2, 1) := by decide +kernel
theorem d_Model_isGood_308 : decode b_Model_isGood 308 = .ok (.iload_n 3, 1) := by decide +kernel
theorem d_Model_isGood_309 : decode b_Model_isGood 309 = .ok (.if_icmp .ne 7, 3) := by decide +kernel
theorem d_Model_isGood_312 : decode b_Model_isGood 312 = .ok (.iconst 1, 1) := by decide +kernel
theorem d_Model_isGood_313 : decode b_Model_isGood 313 = .ok (.goto 4, 3) := by decide +kernel
theorem d_Model_isGood_316 : decode b_Model_isGood 316 = .ok (.iconst 0, 1) := by decide +kernel
theorem d_Model_isGood_317 : decode b_Model_isGood 317 = .ok (.ireturn, 1) := by decide +kernel
theorem d_Model_turn_0 : decode b_Model_turn 0 = .ok (.iload_n 0, 1) := by decide +kernel
theorem d_Model_turn_1 : decode b_Model_turn 1 = .ok (.ifCond .eq 8, 3) := by decide +kernel
theorem d_Model_turn_4 : decode b_Model_turn 4 = .ok (.iload_n 0, 1) := by decide +kernel
theorem d_Model_turn_5 : decode b_Model_turn 5 = .ok (.iconst 4, 1) := by decide +kernel
theorem d_Model_turn_6 : decode b_Model_turn 6 = .ok (.if_icmp .le 7, 3) := by decide +kernel
theorem d_Model_turn_9 : decode b_Model_turn 9 = .ok (.iload_n 0, 1) := by decide +kernel
theorem d_Model_turn_10 : decode b_Model_turn 10 = .ok (.goto 15, 3) := by decide +kernel
theorem d_Model_turn_13 : decode b_Model_turn 13 = .ok (.iload_n 0, 1) := by decide +kernel
theorem d_Model_turn_14 : decode b_Model_turn 14 = .ok (.iconst 4, 1) := by decide +kernel
theorem d_Model_turn_15 : decode b_Model_turn 15 = .ok (.if_icmp .ne 7, 3) := by decide +kernel
theorem d_Model_turn_18 : decode b_Model_turn 18 = .ok (.iconst 1, 1) := by decide +kernel
theorem d_Model_turn_19 : decode b_Model_turn 19 = .ok (.goto 6, 3) := by decide +kernel
theorem d_Model_turn_22 : decode b_Model_turn 22 = .ok (.iload_n 0, 1) := by decide +kernel
theorem d_Model_turn_23 : decode b_Model_turn 23 = .ok (.iconst 1, 1) := by decide +kernel
theorem d_Model_turn_24 : decode b_Model_turn 24 = .ok (.iadd, 1) := by decide +kernel
theorem d_Model_turn_25 : decode b_Model_turn 25 = .ok (.ireturn, 1) := by decide +kernel
theorem d_Model_read_0 : decode b_Model_read 0 = .ok (.aload_n 0, 1) := by decide +kernel
theorem d_Model_read_1 : decode b_Model_read 1 = .ok (.iconst 0, 1) := by decide +kernel
theorem d_Model_read_2 : decode b_Model_read 2 = .ok (.putfield 74, 3) := by decide +kernel
theorem d_Model_read_5 : decode b_Model_read 5 = .ok (.iconst 0, 1) := by decide +kernel
theorem d_Model_read_6 : decode b_Model_read 6 = .ok (.istore_n 1, 1) := by decide +kernel
theorem d_Model_read_7 : decode b_Model_read 7 = .ok (.iload_n 1, 1) := by decide +kernel
theorem d_Model_read_8 : decode b_Model_read 8 = .ok (.bipush 9, 2) := by decide +kernel
theorem d_Model_read_10 : decode b_Model_read 10 = .ok (.if_icmp .ge 29, 3) := by decide +kernel
theorem d_Model_read_13 : decode b_Model_read 13 = .ok (.aload_n 0, 1) := by decide +kernel
theorem d_Model_read_14 : decode b_Model_read 14 = .ok (.iload_n 1, 1) := by decide +kernel
theorem d_Model_read_15 : decode b_Model_read 15 = .ok (.invokestatic 147, 3) := by decide +kernel
theorem d_Model_read_18 : decode b_Model_read 18 = .ok (.invokevirtual 150, 3) := by decide +kernel
theorem d_Model_read_21 : decode b_Model_read 21 = .ok (.istore_n 2, 1) := by decide +kernel
theorem d_Model_read_22 : decode b_Model_read 22 = .ok (.iload_n 2, 1) := by decide +kernel
theorem d_Model_read_23 : decode b_Model_read 23 = .ok (.ifCond .ne 10, 3) := by decide +kernel
theorem d_Model_read_26 : decode b_Model_read 26 = .ok (.iconst (-1), 1) := by decide +kernel
theorem d_Model_read_27 : decode b_Model_read 27 = .ok (.iload_n 1, 1) := by decide +kernel
theorem d_Model_read_28 : decode b_Model_read 28 = .ok (.invokestatic 147, 3) := by decide +kernel
theorem d_Model_read_31 : decode b_Model_read 31 = .ok (.isub, 1) := by decide +kernel
theorem d_Model_read_32 : decode b_Model_read 32 = .ok (.ireturn, 1) := by decide +kernel
theorem d_Model_read_33 : decode b_Model_read 33 = .ok (.iinc 1 1, 3) := by decide +kernel
theorem d_Model_read_36 : decode b_Model_read 36 = .ok (.goto (-29), 3) := by decide +kernel
theorem d_Model_read_39 : decode b_Model_read 39 = .ok (.aload_n 0, 1) := by decide +kernel
theorem d_Model_read_40 : decode b_Model_read 40 = .ok (.getfield 122, 3) := by decide +kernel
theorem d_Model_read_43 : decode b_Model_read 43 = .ok (.bipush 36, 2) := by decide +kernel
theorem d_Model_read_45 : decode b_Model_read 45 = .ok (.aload_n 0, 1) := by decide +kernel
theorem d_Model_read_46 : decode b_Model_read 46 = .ok (.iconst 3, 1) := by decide +kernel
theorem d_Model_read_47 : decode b_Model_read 47 = .ok (.invokevirtual 142, 3) := by decide +kernel
theorem d_Model_read_50 : decode b_Model_read 50 = .ok (.iadd, 1) := by decide +kernel
theorem d_Model_read_51 : decode b_Model_read 51 = .ok (.aload_n 0, 1) := by decide +kernel
theorem d_Model_read_52 : decode b_Model_read 52 = .ok (.bipush 6, 2) := by decide +kernel
theorem d_Model_read_54 : decode b_Model_read 54 = .ok (.invokevirtual 142, 3) := by decide +kernel
theorem d_Model_read_57 : decode b_Model_read 57 = .ok (.iadd, 1) := by decide +kernel
theorem d_Model_read_58 : decode b_Model_read 58 = .ok (.if_icmp .eq 6, 3) := by decide +kernel
theorem d_Model_read_61 : decode b_Model_read 61 = .ok (.bipush (-10), 2) := by decide +kernel
theorem d_Model_read_63 : decode b_Model_read 63 = .ok (.ireturn, 1) := by decide +kernel
theorem d_Model_read_64 : decode b_Model_read 64 = .ok (.aload_n 0, 1) := by decide +kernel
theorem d_Model_read_65 : decode b_Model_read 65 = .ok (.aload_n 0, 1) := by decide +kernel
theorem d_Model_read_66 : decode b_Model_read 66 = .ok (.iconst 2, 1) := by decide +kernel
theorem d_Model_read_67 : decode b_Model_read 67 = .ok (.invokevirtual 142, 3) := by decide +kernel
theorem d_Model_read_70 : decode b_Model_read 70 = .ok (.putfield 153, 3) := by decide +kernel
theorem d_Model_read_73 : decode b_Model_read 73 = .ok (.aload_n 0, 1) := by decide +kernel
theorem d_Model_read_74 : decode b_Model_read 74 = .ok (.aload_n 0, 1) := by decide +kernel
theorem d_Model_read_75 : decode b_Model_read 75 = .ok (.iconst 3, 1) := by decide +kernel
theorem d_Model_read_76 : decode b_Model_read 76 = .ok (.invokevirtual 142, 3) := by decide +kernel
theorem d_Model_read_79 : decode b_Model_read 79 = .ok (.iconst 4, 1) := by decide +kernel
theorem d_Model_read_80 : decode b_Model_read 80 = .ok (.idiv, 1) := by decide +kernel
theorem d_Model_read_81 : decode b_Model_read 81 = .ok (.putfield 156, 3) := by decide +kernel
theorem d_Model_read_84 : decode b_Model_read 84 = .ok (.aload_n 0, 1) := by decide +kernel
theorem d_Model_read_85 : decode b_Model_read 85 = .ok (.aload_n 0, 1) := by decide +kernel
theorem d_Model_read_86 : decode b_Model_read 86 = .ok (.iconst 5, 1) := by decide +kernel
theorem d_Model_read_87 : decode b_Model_read 87 = .ok (.invokevirtual 142, 3) := by decide +kernel
theorem d_Model_read_90 : decode b_Model_read 90 = .ok (.putfield 159, 3) := by decide +kernel
theorem d_Model_read_93 : decode b_Model_read 93 = .ok (.aload_n 0, 1) := by decide +kernel
theorem d_Model_read_94 : decode b_Model_read 94 = .ok (.aload_n 0, 1) := by decide +kernel
theorem d_Model_read_95 : decode b_Model_read 95 = .ok (.bipush 6, 2) := by decide +kernel
theorem d_Model_read_97 : decode b_Model_read 97 = .ok (.invokevirtual 142, 3) := by decide +kernel
theorem d_Model_read_100 : decode b_Model_read 100 = .ok (.iconst 4, 1) := by decide +kernel
theorem d_Model_read_101 : decode b_Model_read 101 = .ok (.idiv, 1) := by decide +kernel
theorem d_Model_read_102 : decode b_Model_read 102 = .ok (.putfield 162, 3) := by decide +kernel
theorem d_Model_read_105 : decode b_Model_read 105 = .ok (.iconst 0, 1) := by decide +kernel
theorem d_Model_read_106 : decode b_Model_read 106 = .ok (.istore_n 1, 1) := by decide +kernel
theorem d_Model_read_107 : decode b_Model_read 107 = .ok (.iload_n 1, 1) := by decide +kernel
theorem d_Model_read_108 : decode b_Model_read 108 = .ok (.aload_n 0, 1) := by decide +kernel
theorem d_Model_read_109 : decode b_Model_read 109 = .ok (.getfield 156, 3) := by decide +kernel
theorem d_Model_read_112 : decode b_Model_read 112 = .ok (.aload_n 0, 1) := by decide +kernel
theorem d_Model_read_113 : decode b_Model_read 113 = .ok (.getfield 162, 3) := by decide +kernel
theorem d_Model_read_116 : decode b_Model_read 116 = .ok (.iadd, 1) := by decide +kernel
theorem d_Model_read_117 : decode b_Model_read 117 = .ok (.if_icmp .ge 23, 3) := by decide +kernel
theorem d_Model_read_120 : decode b_Model_read 120 = .ok (.aload_n 0, 1) := by decide +kernel
theorem d_Model_read_121 : decode b_Model_read 121 = .ok (.getfield 65, 3) := by decide +kernel
theorem d_Model_read_124 : decode b_Model_read 124 = .ok (.iload_n 1, 1) := by decide +kernel
theorem d_Model_read_125 : decode b_Model_read 125 = .ok (.aload_n 0, 1) := by decide +kernel
theorem d_Model_read_126 : decode b_Model_read 126 = .ok (.bipush 9, 2) := by decide +kernel
theorem d_Model_read_128 : decode b_Model_read 128 = .ok (.iload_n 1, 1) := by decide +kernel
theorem d_Model_read_129 : decode b_Model_read 129 = .ok (.iadd, 1) := by decide +kernel
theorem d_Model_read_130 : decode b_Model_read 130 = .ok (.invokevirtual 142, 3) := by decide +kernel
theorem d_Model_read_133 : decode b_Model_read 133 = .ok (.iastore, 1) := by decide +kernel
theorem d_Model_read_134 : decode b_Model_read 134 = .ok (.iinc 1 1, 3) := by decide +kernel
theorem d_Model_read_137 : decode b_Model_read 137 = .ok (.goto (-30), 3) := by decide +kernel
theorem d_Model_read_140 : decode b_Model_read 140 = .ok (.aload_n 0, 1) := by decide +kernel
theorem d_Model_read_141 : decode b_Model_read 141 = .ok (.aload_n 0, 1) := by decide +kernel
theorem d_Model_read_142 : decode b_Model_read 142 = .ok (.iconst 1, 1) := by decide +kernel
theorem d_Model_read_143 : decode b_Model_read 143 = .ok (.invokevirtual 142, 3) := by decide +kernel
theorem d_Model_read_146 : decode b_Model_read 146 = .ok (.putfield 165, 3) := by decide +kernel
theorem d_Model_read_149 : decode b_Model_read 149 = .ok (.aload_n 0, 1) := by decide +kernel
theorem d_Model_read_150 : decode b_Model_read 150 = .ok (.iconst 1, 1) := by decide +kernel
theorem d_Model_read_151 : decode b_Model_read 151 = .ok (.putfield 168, 3) := by decide +kernel
theorem d_Model_read_154 : decode b_Model_read 154 = .ok (.aload_n 0, 1) := by decide +kernel
theorem d_Model_read_155 : decode b_Model_read 155 = .ok (.iconst 0, 1) := by decide +kernel
theorem d_Model_read_156 : decode b_Model_read 156 = .ok (.putfield 171, 3) := by decide +kernel
theorem d_Model_read_159 : decode b_Model_read 159 = .ok (.aload_n 0, 1) := by decide +kernel
theorem d_Model_read_160 : decode b_Model_read 160 = .ok (.iconst 0, 1) := by decide +kernel
theorem d_Model_read_161 : decode b_Model_read 161 = .ok (.putfield 174, 3) := by decide +kernel
theorem d_Model_read_164 : decode b_Model_read 164 = .ok (.iconst 0, 1) := by decide +kernel
theorem d_Model_read_165 : decode b_Model_read 165 = .ok (.istore_n 1, 1) := by decide +kernel
theorem d_Model_read_166 : decode b_Model_read 166 = .ok (.iload_n 1, 1) := by decide +kernel
theorem d_Model_read_167 : decode b_Model_read 167 = .ok (.bipush 32, 2) := by decide +kernel
theorem d_Model_read_169 : decode b_Model_read 169 = .ok (.if_icmp .ge 16, 3) := by decide +kernel
theorem d_Model_read_172 : decode b_Model_read 172 = .ok (.aload_n 0, 1) := by decide +kernel
theorem d_Model_read_173 : decode b_Model_read 173 = .ok (.getfield 68, 3) := by decide +kernel
theorem d_Model_read_176 : decode b_Model_read 176 = .ok (.iload_n 1, 1) := by decide +kernel
theorem d_Model_read_177 : decode b_Model_read 177 = .ok (.iconst 0, 1) := by decide +kernel
theorem d_Model_read_178 : decode b_Model_read 178 = .ok (.iastore, 1) := by decide +kernel
theorem d_Model_read_179 : decode b_Model_read 179 = .ok (.iinc 1 1, 3) := by decide +kernel
theorem d_Model_read_182 : decode b_Model_read 182 = .ok (.goto (-16), 3) := by decide +kernel
theorem d_Model_read_185 : decode b_Model_read 185 = .ok (.iconst 0, 1) := by decide +kernel
theorem d_Model_read_186 : decode b_Model_read 186 = .ok (.ireturn, 1) := by decide +kernel
theorem d_Model_find_0 : decode b_Model_find 0 = .ok (.iload_n 1, 1) := by decide +kernel
theorem d_Model_find_1 : decode b_Model_find 1 = .ok (.i2l, 1) := by decide +kernel
theorem d_Model_find_2 : decode b_Model_find 2 = .ok (.aload_n 0, 1) := by decide +kernel
theorem d_Model_find_3 : decode b_Model_find 3 = .ok (.getfield 153, 3) := by decide +kernel
theorem d_Model_find_6 : decode b_Model_find 6 = .ok (.i2l, 1) := by decide +kernel
theorem d_Model_find_7 : decode b_Model_find 7 = .ok (.lsub, 1) := by decide +kernel
theorem d_Model_find_8 : decode b_Model_find 8 = .ok (.lstore_n 2, 1) := by decide +kernel
theorem d_Model_find_9 : decode b_Model_find 9 = .ok (.iload_n 1, 1) := by decide +kernel
theorem d_Model_find_10 : decode b_Model_find 10 = .ok (.i2l, 1) := by decide +kernel
theorem d_Model_find_11 : decode b_Model_find 11 = .ok (.aload_n 0, 1) := by decide +kernel
theorem d_Model_find_12 : decode b_Model_find 12 = .ok (.getfield 159, 3) := by decide +kernel
theorem d_Model_find_15 : decode b_Model_find 15 = .ok (.i2l, 1) := by decide +kernel
theorem d_Model_find_16 : decode b_Model_find 16 = .ok (.lsub, 1) := by decide +kernel
theorem d_Model_find_17 : decode b_Model_find 17 = .ok (.lstore 4, 2) := by decide +kernel
theorem d_Model_find_19 : decode b_Model_find 19 = .ok (.aload_n 0, 1) := by decide +kernel
theorem d_Model_find_20 : decode b_Model_find 20 = .ok (.getfield 168, 3) := by decide +kernel
theorem d_Model_find_23 : decode b_Model_find 23 = .ok (.ifCond .ne 5, 3) := by decide +kernel
theorem d_Model_find_26 : decode b_Model_find 26 = .ok (.iconst (-1), 1) := by decide +kernel
theorem d_Model_find_27 : decode b_Model_find 27 = .ok (.ireturn, 1) := by decide +kernel
theorem d_Model_find_28 : decode b_Model_find 28 = .ok (.lload_n 2, 1) := by decide +kernel
theorem d_Model_find_29 : decode b_Model_find 29 = .ok (.lconst 0, 1) := by decide +kernel
theorem d_Model_find_30 : decode b_Model_find 30 = .ok (.lcmp, 1) := by decide +kernel
theorem d_Model_find_31 : decode b_Model_find 31 = .ok (.ifCond .lt 34, 3) := by decide +kernel
theorem d_Model_find_34 : decode b_Model_find 34 = .ok (.lload_n 2, 1) := by decide +kernel
theorem d_Model_find_35 : decode b_Model_find 35 = .ok (.ldc2_w 177, 3) := by decide +kernel
theorem d_Model_find_38 : decode b_Model_find 38 = .ok (.aload_n 0, 1) := by decide +kernel
theorem d_Model_find_39 : decode b_Model_find 39 = .ok (.getfield 156, 3) := by decide +kernel
theorem d_Model_find_42 : decode b_Model_find 42 = .ok (.i2l, 1) := by decide +kernel
theorem d_Model_find_43 : decode b_Model_find 43 = .ok (.lmul, 1) := by decide +kernel
theorem d_Model_find_44 : decode b_Model_find 44 = .ok (.lcmp, 1) := by decide +kernel
theorem d_Model_find_45 : decode b_Model_find 45 = .ok (.ifCond .ge 20, 3) := by decide +kernel
theorem d_Model_find_48 : decode b_Model_find 48 = .ok (.lload_n 2, 1) := by decide +kernel
theorem d_Model_find_49 : decode b_Model_find 49 = .ok (.ldc2_w 177, 3) := by decide +kernel
theorem d_Model_find_52 : decode b_Model_find 52 = .ok (.lrem, 1) := by decide +kernel
theorem d_Model_find_53 : decode b_Model_find 53 = .ok (.lconst 0, 1) := by decide +kernel
theorem d_Model_find_54 : decode b_Model_find 54 = .ok (.lcmp, 1) := by decide +kernel
theorem d_Model_find_55 : decode b_Model_find 55 = .ok (.ifCond .ne 10, 3) := by decide +kernel
theorem d_Model_find_58 : decode b_Model_find 58 = .ok (.lload_n 2, 1) := by decide +kernel
theorem d_Model_find_59 : decode b_Model_find 59 = .ok (.ldc2_w 177, 3) := by decide +kernel
theorem d_Model_find_62 : decode b_Model_find 62 = .ok (.ldiv, 1) := by decide +kernel
theorem d_Model_find_63 : decode b_Model_find 63 = .ok (.l2i, 1) := by decide +kernel
theorem d_Model_find_64 : decode b_Model_find 64 = .ok (.ireturn, 1) := by decide +kernel
theorem d_Model_find_65 : decode b_Model_find 65 = .ok (.lload 4, 2) := by decide +kernel
theorem d_Model_find_67 : decode b_Model_find 67 = .ok (.lconst 0, 1) := by decide +kernel
theorem d_Model_find_68 : decode b_Model_find 68 = .ok (.lcmp, 1) := by decide +kernel
theorem d_Model_find_69 : decode b_Model_find 69 = .ok (.ifCond .lt 44, 3) := by decide +kernel
theorem d_Model_find_72 : decode b_Model_find 72 = .ok (.lload 4, 2) := by decide +kernel
theorem d_Model_find_74 : decode b_Model_find 74 = .ok (.ldc2_w 177, 3) := by decide +kernel
theorem d_Model_find_77 : decode b_Model_find 77 = .ok (.aload_n 0, 1) := by decide +kernel
theorem d_Model_find_78 : decode b_Model_find 78 = .ok (.getfield 162, 3) := by decide +kernel
theorem d_Model_find_81 : decode b_Model_find 81 = .ok (.i2l, 1) := by decide +kernel
theorem d_Model_find_82 : decode b_Model_find 82 = .ok (.lmul, 1) := by decide +kernel
theorem d_Model_find_83 : decode b_Model_find 83 = .ok (.lcmp, 1) := by decide +kernel
theorem d_Model_find_84 : decode b_Model_find 84 = .ok (.ifCond .ge 29, 3) := by decide +kernel
theorem d_Model_find_87 : decode b_Model_find 87 = .ok (.lload 4, 2) := by decide +kernel
theorem d_Model_find_89 : decode b_Model_find 89 = .ok (.ldc2_w 177, 3) := by decide +kernel
theorem d_Model_find_92 : decode b_Model_find 92 = .ok (.lrem, 1) := by decide +kernel
theorem d_Model_find_93 : decode b_Model_find 93 = .ok (.lconst 0, 1) := by decide +kernel
theorem d_Model_find_94 : decode b_Model_find 94 = .ok (.lcmp, 1) := by decide +kernel
theorem d_Model_find_95 : decode b_Model_find 95 = .ok (.ifCond .ne 18, 3) := by decide +kernel
theorem d_Model_find_98 : decode b_Model_find 98 = .ok (.aload_n 0, 1) := by decide +kernel
theorem d_Model_find_99 : decode b_Model_find 99 = .ok (.getfield 156, 3) := by decide +kernel
theorem d_Model_find_102 : decode b_Model_find 102 = .ok (.lload 4, 2) := by decide +kernel
theorem d_Model_find_104 : decode b_Model_find 104 = .ok (.ldc2_w 177, 3) := by decide +kernel
theorem d_Model_find_107 : decode b_Model_find 107 = .ok (.ldiv, 1) := by decide +kernel
theorem d_Model_find_108 : decode b_Model_find 108 = .ok (.l2i, 1) := by decide +kernel
theorem d_Model_find_109 : decode b_Model_find 109 = .ok (.iadd, 1) := by decide +kernel
theorem d_Model_find_110 : decode b_Model_find 110 = .ok (.goto 4, 3) := by decide +kernel
theorem d_Model_find_113 : decode b_Model_find 113 = .ok (.iconst (-1), 1) := by decide +kernel
theorem d_Model_find_114 : decode b_Model_find 114 = .ok (.ireturn, 1) := by decide +kernel
theorem d_Model_set_0 : decode b_Model_set 0 = .ok (.aload_n 0, 1) := by decide +kernel
theorem d_Model_set_1 : decode b_Model_set 1 = .ok (.getfield 68, 3) := by decide +kernel
theorem d_Model_set_4 : decode b_Model_set 4 = .ok (.iload_n 1, 1) := by decide +kernel
theorem d_Model_set_5 : decode b_Model_set 5 = .ok (.iload_n 1, 1) := by decide +kernel
theorem d_Model_set_6 : decode b_Model_set 6 = .ok (.ifCond .ne 7, 3) := by decide +kernel
theorem d_Model_set_9 : decode b_Model_set 9 = .ok (.iconst 0, 1) := by decide +kernel
theorem d_Model_set_10 : decode b_Model_set 10 = .ok (.goto 4, 3) := by decide +kernel
theorem d_Model_set_13 : decode b_Model_set 13 = .ok (.iload_n 2, 1) := by decide +kernel
theorem d_Model_set_14 : decode b_Model_set 14 = .ok (.iastore, 1) := by decide +kernel
theorem d_Model_set_15 : decode b_Model_set 15 = .ok (.return_, 1) := by decide +kernel
theorem d_Model_reckoned_0 : decode b_Model_reckoned 0 = .ok (.iload_n 1, 1) := by decide +kernel
theorem d_Model_reckoned_1 : decode b_Model_reckoned 1 = .ok (.tableswitch 77 3 9 #[43, 47, 51, 55, 59, 63, 70], 43) := by decide +kernel
theorem d_Model_reckoned_44 : decode b_Model_reckoned 44 = .ok (.iload_n 2, 1) := by decide +kernel
theorem d_Model_reckoned_45 : decode b_Model_reckoned 45 = .ok (.iload_n 3, 1) := by decide +kernel
theorem d_Model_reckoned_46 : decode b_Model_reckoned 46 = .ok (.iadd, 1) := by decide +kernel
theorem d_Model_reckoned_47 : decode b_Model_reckoned 47 = .ok (.ireturn, 1) := by decide +kernel
theorem d_Model_reckoned_48 : decode b_Model_reckoned 48 = .ok (.iload_n 2, 1) := by decide +kernel
theorem d_Model_reckoned_49 : decode b_Model_reckoned 49 = .ok (.iload_n 3, 1) := by decide +kernel
theorem d_Model_reckoned_50 : decode b_Model_reckoned 50 = .ok (.isub, 1) := by decide +kernel
theorem d_Model_reckoned_51 : decode b_Model_reckoned 51 = .ok (.ireturn, 1) := by decide +kernel
theorem d_Model_reckoned_52 : decode b_Model_reckoned 52 = .ok (.iload_n 2, 1) := by decide +kernel
theorem d_Model_reckoned_53 : decode b_Model_reckoned 53 = .ok (.iload_n 3, 1) := by decide +kernel
theorem d_Model_reckoned_54 : decode b_Model_reckoned 54 = .ok (.iand, 1) := by decide +kernel
theorem d_Model_reckoned_55 : decode b_Model_reckoned 55 = .ok (.ireturn, 1) := by decide +kernel
theorem d_Model_reckoned_56 : decode b_Model_reckoned 56 = .ok (.iload_n 2, 1) := by decide +kernel
theorem d_Model_reckoned_57 : decode b_Model_reckoned 57 = .ok (.iload_n 3, 1) := by decide +kernel
theorem d_Model_reckoned_58 : decode b_Model_reckoned 58 = .ok (.ior, 1) := by decide +kernel
theorem d_Model_reckoned_59 : decode b_Model_reckoned 59 = .ok (.ireturn, 1) := by decide +kernel
theorem d_Model_reckoned_60 : decode b_Model_reckoned 60 = .ok (.iload_n 2, 1) := by decide +kernel
theorem d_Model_reckoned_61 : decode b_Model_reckoned 61 = .ok (.iload_n 3, 1) := by decide +kernel
theorem d_Model_reckoned_62 : decode b_Model_reckoned 62 = .ok (.ixor, 1) := by decide +kernel
theorem d_Model_reckoned_63 : decode b_Model_reckoned 63 = .ok (.ireturn, 1) := by decide +kernel
theorem d_Model_reckoned_64 : decode b_Model_reckoned 64 = .ok (.iload_n 2, 1) := by decide +kernel
theorem d_Model_reckoned_65 : decode b_Model_reckoned 65 = .ok (.iload_n 3, 1) := by decide +kernel
theorem d_Model_reckoned_66 : decode b_Model_reckoned 66 = .ok (.bipush 31, 2) := by decide +kernel
theorem d_Model_reckoned_68 : decode b_Model_reckoned 68 = .ok (.iand, 1) := by decide +kernel
theorem d_Model_reckoned_69 : decode b_Model_reckoned 69 = .ok (.ishl, 1) := by decide +kernel
theorem d_Model_reckoned_70 : decode b_Model_reckoned 70 = .ok (.ireturn, 1) := by decide +kernel
theorem d_Model_reckoned_71 : decode b_Model_reckoned 71 = .ok (.iload_n 2, 1) := by decide +kernel
theorem d_Model_reckoned_72 : decode b_Model_reckoned 72 = .ok (.iload_n 3, 1) := by decide +kernel
theorem d_Model_reckoned_73 : decode b_Model_reckoned 73 = .ok (.bipush 31, 2) := by decide +kernel
theorem d_Model_reckoned_75 : decode b_Model_reckoned 75 = .ok (.iand, 1) := by decide +kernel
theorem d_Model_reckoned_76 : decode b_Model_reckoned 76 = .ok (.ishr, 1) := by decide +kernel
theorem d_Model_reckoned_77 : decode b_Model_reckoned 77 = .ok (.ireturn, 1) := by decide +kernel
theorem d_Model_reckoned_78 : decode b_Model_reckoned 78 = .ok (.iload_n 2, 1) := by decide +kernel
theorem d_Model_reckoned_79 : decode b_Model_reckoned 79 = .ok (.iload_n 3, 1) := by decide +kernel
theorem d_Model_reckoned_80 : decode b_Model_reckoned 80 = .ok (.if_icmp .ge 7, 3) := by decide +kernel
theorem d_Model_reckoned_83 : decode b_Model_reckoned 83 = .ok (.iconst 1, 1) := by decide +kernel
theorem d_Model_reckoned_84 : decode b_Model_reckoned 84 = .ok (.goto 4, 3) := by decide +kernel
theorem d_Model_reckoned_87 : decode b_Model_reckoned 87 = .ok (.iconst 0, 1) := by decide +kernel
theorem d_Model_reckoned_88 : decode b_Model_reckoned 88 = .ok (.ireturn, 1) := by decide +kernel
theorem d_Model_step_0 : decode b_Model_step 0 = .ok (.aload_n 0, 1) := by decide +kernel
theorem d_Model_step_1 : decode b_Model_step 1 = .ok (.dup, 1) := by decide +kernel
theorem d_Model_step_2 : decode b_Model_step 2 = .ok (.getfield 171, 3) := by decide +kernel
theorem d_Model_step_5 : decode b_Model_step 5 = .ok (.iconst 1, 1) := by decide +kernel
theorem d_Model_step_6 : decode b_Model_step 6 = .ok (.iadd, 1) := by decide +kernel
theorem d_Model_step_7 : decode b_Model_step 7 = .ok (.putfield 171, 3) := by decide +kernel
theorem d_Model_step_10 : decode b_Model_step 10 = .ok (.aload_n 0, 1) := by decide +kernel
theorem d_Model_step_11 : decode b_Model_step 11 = .ok (.aload_n 0, 1) := by decide +kernel
theorem d_Model_step_12 : decode b_Model_step 12 = .ok (.getfield 165, 3) := by decide +kernel
theorem d_Model_step_15 : decode b_Model_step 15 = .ok (.invokevirtual 179, 3) := by decide +kernel
theorem d_Model_step_18 : decode b_Model_step 18 = .ok (.istore_n 1, 1) := by decide +kernel
theorem d_Model_step_19 : decode b_Model_step 19 = .ok (.iload_n 1, 1) := by decide +kernel
theorem d_Model_step_20 : decode b_Model_step 20 = .ok (.iconst (-1), 1) := by decide +kernel
theorem d_Model_step_21 : decode b_Model_step 21 = .ok (.if_icmp .eq 11, 3) := by decide +kernel
theorem d_Model_step_24 : decode b_Model_step 24 = .ok (.iload_n 1, 1) := by decide +kernel
theorem d_Model_step_25 : decode b_Model_step 25 = .ok (.aload_n 0, 1) := by decide +kernel
theorem d_Model_step_26 : decode b_Model_step 26 = .ok (.getfield 156, 3) := by decide +kernel
theorem d_Model_step_29 : decode b_Model_step 29 = .ok (.if_icmp .lt 8, 3) := by decide +kernel
theorem d_Model_step_32 : decode b_Model_step 32 = .ok (.bipush 31, 2) := by decide +kernel
theorem d_Model_step_34 : decode b_Model_step 34 = .ok (.goto 9, 3) := by decide +kernel
theorem d_Model_step_37 : decode b_Model_step 37 = .ok (.aload_n 0, 1) := by decide +kernel
theorem d_Model_step_38 : decode b_Model_step 38 = .ok (.getfield 65, 3) := by decide +kernel
theorem d_Model_step_41 : decode b_Model_step 41 = .ok (.iload_n 1, 1) := by decide +kernel
theorem d_Model_step_42 : decode b_Model_step 42 = .ok (.iaload, 1) := by decide +kernel
theorem d_Model_step_43 : decode b_Model_step 43 = .ok (.istore_n 2, 1) := by decide +kernel
theorem d_Model_step_44 : decode b_Model_step 44 = .ok (.iload_n 2, 1) := by decide +kernel
theorem d_Model_step_45 : decode b_Model_step 45 = .ok (.bipush 31, 2) := by decide +kernel
theorem d_Model_step_47 : decode b_Model_step 47 = .ok (.iand, 1) := by decide +kernel
theorem d_Model_step_48 : decode b_Model_step 48 = .ok (.istore_n 3, 1) := by decide +kernel
theorem d_Model_step_49 : decode b_Model_step 49 = .ok (.iload_n 2, 1) := by decide +kernel
theorem d_Model_step_50 : decode b_Model_step 50 = .ok (.iconst 5, 1) := by decide +kernel
theorem d_Model_step_51 : decode b_Model_step 51 = .ok (.ishr, 1) := by decide +kernel
theorem d_Model_step_52 : decode b_Model_step 52 = .ok (.bipush 31, 2) := by decide +kernel
theorem d_Model_step_54 : decode b_Model_step 54 = .ok (.iand, 1) := by decide +kernel
theorem d_Model_step_55 : decode b_Model_step 55 = .ok (.istore 4, 2) := by decide +kernel
theorem d_Model_step_57 : decode b_Model_step 57 = .ok (.iload_n 2, 1) := by decide +kernel
theorem d_Model_step_58 : decode b_Model_step 58 = .ok (.bipush 10, 2) := by decide +kernel
theorem d_Model_step_60 : decode b_Model_step 60 = .ok (.ishr, 1) := by decide +kernel
theorem d_Model_step_61 : decode b_Model_step 61 = .ok (.bipush 31, 2) := by decide +kernel
theorem d_Model_step_63 : decode b_Model_step 63 = .ok (.iand, 1) := by decide +kernel
theorem d_Model_step_64 : decode b_Model_step 64 = .ok (.istore 5, 2) := by decide +kernel
theorem d_Model_step_66 : decode b_Model_step 66 = .ok (.aload_n 0, 1) := by decide +kernel
theorem d_Model_step_67 : decode b_Model_step 67 = .ok (.getfield 68, 3) := by decide +kernel
theorem d_Model_step_70 : decode b_Model_step 70 = .ok (.iload 4, 2) := by decide +kernel
theorem d_Model_step_72 : decode b_Model_step 72 = .ok (.iaload, 1) := by decide +kernel
theorem d_Model_step_73 : decode b_Model_step 73 = .ok (.istore 6, 2) := by decide +kernel
theorem d_Model_step_75 : decode b_Model_step 75 = .ok (.aload_n 0, 1) := by decide +kernel
theorem d_Model_step_76 : decode b_Model_step 76 = .ok (.getfield 68, 3) := by decide +kernel
theorem d_Model_step_79 : decode b_Model_step 79 = .ok (.iload 5, 2) := by decide +kernel
theorem d_Model_step_81 : decode b_Model_step 81 = .ok (.iaload, 1) := by decide +kernel
theorem d_Model_step_82 : decode b_Model_step 82 = .ok (.istore 7, 2) := by decide +kernel
theorem d_Model_step_84 : decode b_Model_step 84 = .ok (.iload_n 2, 1) := by decide +kernel
theorem d_Model_step_85 : decode b_Model_step 85 = .ok (.bipush 20, 2) := by decide +kernel
theorem d_Model_step_87 : decode b_Model_step 87 = .ok (.ishr, 1) := by decide +kernel
theorem d_Model_step_88 : decode b_Model_step 88 = .ok (.istore 8, 2) := by decide +kernel
theorem d_Model_step_90 : decode b_Model_step 90 = .ok (.iload_n 3, 1) := by decide +kernel
theorem d_Model_step_91 : decode b_Model_step 91 = .ok (.ifCond .eq 9, 3) := by decide +kernel
theorem d_Model_step_94 : decode b_Model_step 94 = .ok (.iload_n 3, 1) := by decide +kernel
theorem d_Model_step_95 : decode b_Model_step 95 = .ok (.bipush 18, 2) := by decide +kernel
theorem d_Model_step_97 : decode b_Model_step 97 = .ok (.if_icmp .le 17, 3) := by decide +kernel
theorem d_Model_step_100 : decode b_Model_step 100 = .ok (.aload_n 0, 1) := by decide +kernel
theorem d_Model_step_101 : decode b_Model_step 101 = .ok (.iload_n 3, 1) := by decide +kernel
theorem d_Model_step_102 : decode b_Model_step 102 = .ok (.ifCond .ne 7, 3) := by decide +kernel
theorem d_Model_step_105 : decode b_Model_step 105 = .ok (.iconst 2, 1) := by decide +kernel
theorem d_Model_step_106 : decode b_Model_step 106 = .ok (.goto 4, 3) := by decide +kernel
theorem d_Model_step_109 : decode b_Model_step 109 = .ok (.iconst 3, 1) := by decide +kernel
theorem d_Model_step_110 : decode b_Model_step 110 = .ok (.putfield 168, 3) := by decide +kernel
theorem d_Model_step_113 : decode b_Model_step 113 = .ok (.return_, 1) := by decide +kernel
theorem d_Model_step_114 : decode b_Model_step 114 = .ok (.aload_n 0, 1) := by decide +kernel
theorem d_Model_step_115 : decode b_Model_step 115 = .ok (.getfield 165, 3) := by decide +kernel
theorem d_Model_step_118 : decode b_Model_step 118 = .ok (.iconst 4, 1) := by decide +kernel
theorem d_Model_step_119 : decode b_Model_step 119 = .ok (.iadd, 1) := by decide +kernel
theorem d_Model_step_120 : decode b_Model_step 120 = .ok (.istore 9, 2) := by decide +kernel
theorem d_Model_step_122 : decode b_Model_step 122 = .ok (.iload_n 3, 1) := by decide +kernel
theorem d_Model_step_123 : decode b_Model_step 123 = .ok (.bipush 11, 2) := by decide +kernel
theorem d_Model_step_125 : decode b_Model_step 125 = .ok (.if_icmp .eq 9, 3) := by decide +kernel
theorem d_Model_step_128 : decode b_Model_step 128 = .ok (.iload_n 3, 1) := by decide +kernel
theorem d_Model_step_129 : decode b_Model_step 129 = .ok (.bipush 12, 2) := by decide +kernel
theorem d_Model_step_131 : decode b_Model_step 131 = .ok (.if_icmp .ne 75, 3) := by decide +kernel
theorem d_Model_step_134 : decode b_Model_step 134 = .ok (.aload_n 0, 1) := by decide +kernel
theorem d_Model_step_135 : decode b_Model_step 135 = .ok (.iload 7, 2) := by decide +kernel
theorem d_Model_step_137 : decode b_Model_step 137 = .ok (.iload 8, 2) := by decide +kernel
theorem d_Model_step_139 : decode b_Model_step 139 = .ok (.iadd, 1) := by decide +kernel
theorem d_Model_step_140 : decode b_Model_step 140 = .ok (.invokevirtual 179, 3) := by decide +kernel
theorem d_Model_step_143 : decode b_Model_step 143 = .ok (.istore 10, 2) := by decide +kernel
theorem d_Model_step_145 : decode b_Model_step 145 = .ok (.iload 10, 2) := by decide +kernel
theorem d_Model_step_147 : decode b_Model_step 147 = .ok (.iconst (-1), 1) := by decide +kernel
theorem d_Model_step_148 : decode b_Model_step 148 = .ok (.if_icmp .eq 18, 3) := by decide +kernel
theorem d_Model_step_151 : decode b_Model_step 151 = .ok (.iload_n 3, 1) := by decide +kernel
theorem d_Model_step_152 : decode b_Model_step 152 = .ok (.bipush 12, 2) := by decide +kernel
theorem d_Model_step_154 : decode b_Model_step 154 = .ok (.if_icmp .ne 18, 3) := by decide +kernel
theorem d_Model_step_157 : decode b_Model_step 157 = .ok (.iload 10, 2) := by decide +kernel
theorem d_Model_step_159 : decode b_Model_step 159 = .ok (.aload_n 0, 1) := by decide +kernel
theorem d_Model_step_160 : decode b_Model_step 160 = .ok (.getfield 156, 3) := by decide +kernel
theorem d_Model_step_163 : decode b_Model_step 163 = .ok (.if_icmp .ge 9, 3) := by decide +kernel
theorem d_Model_step_166 : decode b_Model_step 166 = .ok (.aload_n 0, 1) := by decide +kernel
theorem d_Model_step_167 : decode b_Model_step 167 = .ok (.iconst 3, 1) := by decide +kernel
theorem d_Model_step_168 : decode b_Model_step 168 = .ok (.putfield 168, 3) := by decide +kernel
theorem d_Model_step_171 : decode b_Model_step 171 = .ok (.return_, 1) := by decide +kernel
theorem d_Model_step_172 : decode b_Model_step 172 = .ok (.iload_n 3, 1) := by decide +kernel
theorem d_Model_step_173 : decode b_Model_step 173 = .ok (.bipush 12, 2) := by decide +kernel
theorem d_Model_step_175 : decode b_Model_step 175 = .ok (.if_icmp .ne 15, 3) := by decide +kernel
theorem d_Model_step_178 : decode b_Model_step 178 = .ok (.aload_n 0, 1) := by decide +kernel
theorem d_Model_step_179 : decode b_Model_step 179 = .ok (.getfield 65, 3) := by decide +kernel
theorem d_Model_step_182 : decode b_Model_step 182 = .ok (.iload 10, 2) := by decide +kernel
theorem d_Model_step_184 : decode b_Model_step 184 = .ok (.iload 6, 2) := by decide +kernel
theorem d_Model_step_186 : decode b_Model_step 186 = .ok (.iastore, 1) := by decide +kernel
theorem d_Model_step_187 : decode b_Model_step 187 = .ok (.goto 16, 3) := by decide +kernel
theorem d_Model_step_190 : decode b_Model_step 190 = .ok (.aload_n 0, 1) := by decide +kernel
theorem d_Model_step_191 : decode b_Model_step 191 = .ok (.iload 4, 2) := by decide +kernel
theorem d_Model_step_193 : decode b_Model_step 193 = .ok (.aload_n 0, 1) := by decide +kernel
theorem d_Model_step_194 : decode b_Model_step 194 = .ok (.getfield 65, 3) := by decide +kernel
theorem d_Model_step_197 : decode b_Model_step 197 = .ok (.iload 10, 2) := by decide +kernel
theorem d_Model_step_199 : decode b_Model_step 199 = .ok (.iaload, 1) := by decide +kernel
theorem d_Model_step_200 : decode b_Model_step 200 = .ok (.invokevirtual 182, 3) := by decide +kernel
theorem d_Model_step_203 : decode b_Model_step 203 = .ok (.goto 232, 3) := by decide +kernel
theorem d_Model_step_206 : decode b_Model_step 206 = .ok (.iload_n 3, 1) := by decide +kernel
theorem d_Model_step_207 : decode b_Model_step 207 = .ok (.bipush 13, 2) := by decide +kernel
theorem d_Model_step_209 : decode b_Model_step 209 = .ok (.if_icmp .lt 89, 3) := by decide +kernel
theorem d_Model_step_212 : decode b_Model_step 212 = .ok (.iload_n 3, 1) := by decide +kernel
theorem d_Model_step_213 : decode b_Model_step 213 = .ok (.bipush 15, 2) := by decide +kernel
theorem d_Model_step_215 : decode b_Model_step 215 = .ok (.if_icmp .gt 83, 3) := by decide +kernel
theorem d_Model_step_218 : decode b_Model_step 218 = .ok (.iload_n 3, 1) := by decide +kernel
theorem d_Model_step_219 : decode b_Model_step 219 = .ok (.bipush 13, 2) := by decide +kernel
theorem d_Model_step_221 : decode b_Model_step 221 = .ok (.if_icmp .ne 18, 3) := by decide +kernel
theorem d_Model_step_224 : decode b_Model_step 224 = .ok (.iload 6, 2) := by decide +kernel
theorem d_Model_step_226 : decode b_Model_step 226 = .ok (.iload 7, 2) := by decide +kernel
theorem d_Model_step_228 : decode b_Model_step 228 = .ok (.if_icmp .ne 7, 3) := by decide +kernel
theorem d_Model_step_231 : decode b_Model_step 231 = .ok (.iconst 1, 1) := by decide +kernel
theorem d_Model_step_232 : decode b_Model_step 232 = .ok (.goto 40, 3) := by decide +kernel
theorem d_Model_step_235 : decode b_Model_step 235 = .ok (.iconst 0, 1) := by decide +kernel
theorem d_Model_step_236 : decode b_Model_step 236 = .ok (.goto 36, 3) := by decide +kernel
theorem d_Model_step_239 : decode b_Model_step 239 = .ok (.iload_n 3, 1) := by decide +kernel
theorem d_Model_step_240 : decode b_Model_step 240 = .ok (.bipush 14, 2) := by decide +kernel
theorem d_Model_step_242 : decode b_Model_step 242 = .ok (.if_icmp .ne 18, 3) := by decide +kernel
theorem d_Model_step_245 : decode b_Model_step 245 = .ok (.iload 6, 2) := by decide +kernel
theorem d_Model_step_247 : decode b_Model_step 247 = .ok (.iload 7, 2) := by decide +kernel
theorem d_Model_step_249 : decode b_Model_step 249 = .ok (.if_icmp .eq 7, 3) := by decide +kernel
theorem d_Model_step_252 : decode b_Model_step 252 = .ok (.iconst 1, 1) := by decide +kernel
theorem d_Model_step_253 : decode b_Model_step 253 = .ok (.goto 19, 3) := by decide +kernel
theorem d_Model_step_256 : decode b_Model_step 256 = .ok (.iconst 0, 1) := by decide +kernel
theorem d_Model_step_257 : decode b_Model_step 257 = .ok (.goto 15, 3) := by decide +kernel
theorem d_Model_step_260 : decode b_Model_step 260 = .ok (.iload 6, 2) := by decide +kernel
theorem d_Model_step_262 : decode b_Model_step 262 = .ok (.iload 7, 2) := by decide +kernel
theorem d_Model_step_264 : decode b_Model_step 264 = .ok (.if_icmp .ge 7, 3) := by decide +kernel
theorem d_Model_step_267 : decode b_Model_step 267 = .ok (.iconst 1, 1) := by decide +kernel
theorem d_Model_step_268 : decode b_Model_step 268 = .ok (.goto 4, 3) := by decide +kernel
theorem d_Model_step_271 : decode b_Model_step 271 = .ok (.iconst 0, 1) := by decide +kernel
theorem d_Model_step_272 : decode b_Model_step 272 = .ok (.istore 10, 2) := by decide +kernel
theorem d_Model_step_274 : decode b_Model_step 274 = .ok (.iload 10, 2) := by decide +kernel
theorem d_Model_step_276 : decode b_Model_step 276 = .ok (.ifCond .eq 15, 3) := by decide +kernel
theorem d_Model_step_279 : decode b_Model_step 279 = .ok (.aload_n 0, 1) := by decide +kernel
theorem d_Model_step_280 : decode b_Model_step 280 = .ok (.getfield 165, 3) := by decide +kernel
theorem d_Model_step_283 : decode b_Model_step 283 = .ok (.iconst 2, 1) := by decide +kernel
theorem d_Model_step_284 : decode b_Model_step 284 = .ok (.iload 8, 2) := by decide +kernel
theorem d_Model_step_286 : decode b_Model_step 286 = .ok (.imul, 1) := by decide +kernel
theorem d_Model_step_287 : decode b_Model_step 287 = .ok (.iadd, 1) := by decide +kernel
theorem d_Model_step_288 : decode b_Model_step 288 = .ok (.goto 5, 3) := by decide +kernel
theorem d_Model_step_291 : decode b_Model_step 291 = .ok (.iload 9, 2) := by decide +kernel
theorem d_Model_step_293 : decode b_Model_step 293 = .ok (.istore 9, 2) := by decide +kernel
theorem d_Model_step_295 : decode b_Model_step 295 = .ok (.goto 140, 3) := by decide +kernel
theorem d_Model_step_298 : decode b_Model_step 298 = .ok (.iload_n 3, 1) := by decide +kernel
theorem d_Model_step_299 : decode b_Model_step 299 = .ok (.bipush 16, 2) := by decide +kernel
theorem d_Model_step_301 : decode b_Model_step 301 = .ok (.if_icmp .eq 9, 3) := by decide +kernel
theorem d_Model_step_304 : decode b_Model_step 304 = .ok (.iload_n 3, 1) := by decide +kernel
theorem d_Model_step_305 : decode b_Model_step 305 = .ok (.bipush 17, 2) := by decide +kernel
theorem d_Model_step_307 : decode b_Model_step 307 = .ok (.if_icmp .ne 41, 3) := by decide +kernel
theorem d_Model_step_310 : decode b_Model_step 310 = .ok (.aload_n 0, 1) := by decide +kernel
theorem d_Model_step_311 : decode b_Model_step 311 = .ok (.iload 4, 2) := by decide +kernel
theorem d_Model_step_313 : decode b_Model_step 313 = .ok (.iload 9, 2) := by decide +kernel
theorem d_Model_step_315 : decode b_Model_step 315 = .ok (.invokevirtual 182, 3) := by decide +kernel
theorem d_Model_step_318 : decode b_Model_step 318 = .ok (.iload_n 3, 1) := by decide +kernel
theorem d_Model_step_319 : decode b_Model_step 319 = .ok (.bipush 16, 2) := by decide +kernel
theorem d_Model_step_321 : decode b_Model_step 321 = .ok (.if_icmp .ne 17, 3) := by decide +kernel
theorem d_Model_step_324 : decode b_Model_step 324 = .ok (.aload_n 0, 1) := by decide +kernel
theorem d_Model_step_325 : decode b_Model_step 325 = .ok (.getfield 165, 3) := by decide +kernel
theorem d_Model_step_328 : decode b_Model_step 328 = .ok (.iconst 2, 1) := by decide +kernel
theorem d_Model_step_329 : decode b_Model_step 329 = .ok (.iload_n 2, 1) := by decide +kernel
theorem d_Model_step_330 : decode b_Model_step 330 = .ok (.bipush 10, 2) := by decide +kernel
theorem d_Model_step_332 : decode b_Model_step 332 = .ok (.ishr, 1) := by decide +kernel
theorem d_Model_step_333 : decode b_Model_step 333 = .ok (.imul, 1) := by decide +kernel
theorem d_Model_step_334 : decode b_Model_step 334 = .ok (.iadd, 1) := by decide +kernel
theorem d_Model_step_335 : decode b_Model_step 335 = .ok (.goto 8, 3) := by decide +kernel
theorem d_Model_step_338 : decode b_Model_step 338 = .ok (.iload 7, 2) := by decide +kernel
theorem d_Model_step_340 : decode b_Model_step 340 = .ok (.iload 8, 2) := by decide +kernel
theorem d_Model_step_342 : decode b_Model_step 342 = .ok (.iadd, 1) := by decide +kernel
theorem d_Model_step_343 : decode b_Model_step 343 = .ok (.istore 9, 2) := by decide +kernel
theorem d_Model_step_345 : decode b_Model_step 345 = .ok (.goto 90, 3) := by decide +kernel
theorem d_Model_step_348 : decode b_Model_step 348 = .ok (.iload_n 3, 1) := by decide +kernel
theorem d_Model_step_349 : decode b_Model_step 349 = .ok (.bipush 18, 2) := by decide +kernel
theorem d_Model_step_351 : decode b_Model_step 351 = .ok (.if_icmp .ne 30, 3) := by decide +kernel
theorem d_Model_step_354 : decode b_Model_step 354 = .ok (.aload_n 0, 1) := by decide +kernel
theorem d_Model_step_355 : decode b_Model_step 355 = .ok (.getfield 71, 3) := by decide +kernel
theorem d_Model_step_358 : decode b_Model_step 358 = .ok (.aload_n 0, 1) := by decide +kernel
theorem d_Model_step_359 : decode b_Model_step 359 = .ok (.getfield 174, 3) := by decide +kernel
theorem d_Model_step_362 : decode b_Model_step 362 = .ok (.bipush 16, 2) := by decide +kernel
theorem d_Model_step_364 : decode b_Model_step 364 = .ok (.irem, 1) := by decide +kernel
theorem d_Model_step_365 : decode b_Model_step 365 = .ok (.iload 6, 2) := by decide +kernel
theorem d_Model_step_367 : decode b_Model_step 367 = .ok (.iastore, 1) := by decide +kernel
theorem d_Model_step_368 : decode b_Model_step 368 = .ok (.aload_n 0, 1) := by decide +kernel
theorem d_Model_step_369 : decode b_Model_step 369 = .ok (.dup, 1) := by decide +kernel
theorem d_Model_step_370 : decode b_Model_step 370 = .ok (.getfield 174, 3) := by decide +kernel
theorem d_Model_step_373 : decode b_Model_step 373 = .ok (.iconst 1, 1) := by decide +kernel
theorem d_Model_step_374 : decode b_Model_step 374 = .ok (.iadd, 1) := by decide +kernel
theorem d_Model_step_375 : decode b_Model_step 375 = .ok (.putfield 174, 3) := by decide +kernel
theorem d_Model_step_378 : decode b_Model_step 378 = .ok (.goto 57, 3) := by decide +kernel
theorem d_Model_step_381 : decode b_Model_step 381 = .ok (.aload_n 0, 1) := by decide +kernel
theorem d_Model_step_382 : decode b_Model_step 382 = .ok (.iload 4, 2) := by decide +kernel
theorem d_Model_step_384 : decode b_Model_step 384 = .ok (.iload_n 3, 1) := by decide +kernel
theorem d_Model_step_385 : decode b_Model_step 385 = .ok (.iconst 1, 1) := by decide +kernel
theorem d_Model_step_386 : decode b_Model_step 386 = .ok (.if_icmp .ne 14, 3) := by decide +kernel
theorem d_Model_step_389 : decode b_Model_step 389 = .ok (.iload_n 2, 1) := by decide +kernel
theorem d_Model_step_390 : decode b_Model_step 390 = .ok (.bipush 12, 2) := by decide +kernel
theorem d_Model_step_392 : decode b_Model_step 392 = .ok (.ishr, 1) := by decide +kernel
theorem d_Model_step_393 : decode b_Model_step 393 = .ok (.sipush 4096, 3) := by decide +kernel
theorem d_Model_step_396 : decode b_Model_step 396 = .ok (.imul, 1) := by decide +kernel
theorem d_Model_step_397 : decode b_Model_step 397 = .ok (.goto 35, 3) := by decide +kernel
theorem d_Model_step_400 : decode b_Model_step 400 = .ok (.iload_n 3, 1) := by decide +kernel
theorem d_Model_step_401 : decode b_Model_step 401 = .ok (.iconst 2, 1) := by decide +kernel
theorem d_Model_step_402 : decode b_Model_step 402 = .ok (.if_icmp .ne 11, 3) := by decide +kernel
theorem d_Model_step_405 : decode b_Model_step 405 = .ok (.iload 7, 2) := by decide +kernel
theorem d_Model_step_407 : decode b_Model_step 407 = .ok (.iload 8, 2) := by decide +kernel
theorem d_Model_step_409 : decode b_Model_step 409 = .ok (.iadd, 1) := by decide +kernel
theorem d_Model_step_410 : decode b_Model_step 410 = .ok (.goto 22, 3) := by decide +kernel
theorem d_Model_step_413 : decode b_Model_step 413 = .ok (.aload_n 0, 1) := by decide +kernel
theorem d_Model_step_414 : decode b_Model_step 414 = .ok (.iload_n 3, 1) := by decide +kernel
theorem d_Model_step_415 : decode b_Model_step 415 = .ok (.iload 7, 2) := by decide +kernel
theorem d_Model_step_417 : decode b_Model_step 417 = .ok (.aload_n 0, 1) := by decide +kernel
theorem d_Model_step_418 : decode b_Model_step 418 = .ok (.getfield 68, 3) := by decide +kernel
theorem d_Model_step_421 : decode b_Model_step 421 = .ok (.iload_n 2, 1) := by decide +kernel
theorem d_Model_step_422 : decode b_Model_step 422 = .ok (.bipush 15, 2) := by decide +kernel
theorem d_Model_step_424 : decode b_Model_step 424 = .ok (.ishr, 1) := by decide +kernel
theorem d_Model_step_425 : decode b_Model_step 425 = .ok (.bipush 31, 2) := by decide +kernel
theorem d_Model_step_427 : decode b_Model_step 427 = .ok (.iand, 1) := by decide +kernel
theorem d_Model_step_428 : decode b_Model_step 428 = .ok (.iaload, 1) := by decide +kernel
theorem d_Model_step_429 : decode b_Model_step 429 = .ok (.invokevirtual 186, 3) := by decide +kernel
theorem d_Model_step_432 : decode b_Model_step 432 = .ok (.invokevirtual 182, 3) := by decide +kernel
theorem d_Model_step_435 : decode b_Model_step 435 = .ok (.aload_n 0, 1) := by decide +kernel
theorem d_Model_step_436 : decode b_Model_step 436 = .ok (.iload 9, 2) := by decide +kernel
theorem d_Model_step_438 : decode b_Model_step 438 = .ok (.putfield 165, 3) := by decide +kernel
theorem d_Model_step_441 : decode b_Model_step 441 = .ok (.return_, 1) := by decide +kernel
theorem d_Model_run_0 : decode b_Model_run 0 = .ok (.aload_n 0, 1) := by decide +kernel
theorem d_Model_run_1 : decode b_Model_run 1 = .ok (.iload_n 1, 1) := by decide +kernel
theorem d_Model_run_2 : decode b_Model_run 2 = .ok (.iconst 1, 1) := by decide +kernel
theorem d_Model_run_3 : decode b_Model_run 3 = .ok (.if_icmp .lt 10, 3) := by decide +kernel
theorem d_Model_run_6 : decode b_Model_run 6 = .ok (.iload_n 1, 1) := by decide +kernel
theorem d_Model_run_7 : decode b_Model_run 7 = .ok (.sipush 500, 3) := by decide +kernel
theorem d_Model_run_10 : decode b_Model_run 10 = .ok (.if_icmp .le 7, 3) := by decide +kernel
theorem d_Model_run_13 : decode b_Model_run 13 = .ok (.iconst 1, 1) := by decide +kernel
theorem d_Model_run_14 : decode b_Model_run 14 = .ok (.goto 15, 3) := by decide +kernel
theorem d_Model_run_17 : decode b_Model_run 17 = .ok (.aload_n 0, 1) := by decide +kernel
theorem d_Model_run_18 : decode b_Model_run 18 = .ok (.getfield 168, 3) := by decide +kernel
theorem d_Model_run_21 : decode b_Model_run 21 = .ok (.ifCond .ne 7, 3) := by decide +kernel
theorem d_Model_run_24 : decode b_Model_run 24 = .ok (.iconst 2, 1) := by decide +kernel
theorem d_Model_run_25 : decode b_Model_run 25 = .ok (.goto 4, 3) := by decide +kernel
theorem d_Model_run_28 : decode b_Model_run 28 = .ok (.iconst 0, 1) := by decide +kernel
theorem d_Model_run_29 : decode b_Model_run 29 = .ok (.putfield 74, 3) := by decide +kernel
theorem d_Model_run_32 : decode b_Model_run 32 = .ok (.iconst 0, 1) := by decide +kernel
theorem d_Model_run_33 : decode b_Model_run 33 = .ok (.istore_n 2, 1) := by decide +kernel
theorem d_Model_run_34 : decode b_Model_run 34 = .ok (.aload_n 0, 1) := by decide +kernel
theorem d_Model_run_35 : decode b_Model_run 35 = .ok (.getfield 74, 3) := by decide +kernel
theorem d_Model_run_38 : decode b_Model_run 38 = .ok (.ifCond .ne 26, 3) := by decide +kernel
theorem d_Model_run_41 : decode b_Model_run 41 = .ok (.iload_n 2, 1) := by decide +kernel
theorem d_Model_run_42 : decode b_Model_run 42 = .ok (.iload_n 1, 1) := by decide +kernel
theorem d_Model_run_43 : decode b_Model_run 43 = .ok (.if_icmp .ge 21, 3) := by decide +kernel
theorem d_Model_run_46 : decode b_Model_run 46 = .ok (.aload_n 0, 1) := by decide +kernel
theorem d_Model_run_47 : decode b_Model_run 47 = .ok (.getfield 168, 3) := by decide +kernel
theorem d_Model_run_50 : decode b_Model_run 50 = .ok (.iconst 1, 1) := by decide +kernel
theorem d_Model_run_51 : decode b_Model_run 51 = .ok (.if_icmp .ne 13, 3) := by decide +kernel
theorem d_Model_run_54 : decode b_Model_run 54 = .ok (.aload_n 0, 1) := by decide +kernel
theorem d_Model_run_55 : decode b_Model_run 55 = .ok (.invokevirtual 189, 3) := by decide +kernel
theorem d_Model_run_58 : decode b_Model_run 58 = .ok (.iinc 2 1, 3) := by decide +kernel
theorem d_Model_run_61 : decode b_Model_run 61 = .ok (.goto (-27), 3) := by decide +kernel
theorem d_Model_run_64 : decode b_Model_run 64 = .ok (.iload_n 2, 1) := by decide +kernel
theorem d_Model_run_65 : decode b_Model_run 65 = .ok (.ireturn, 1) := by decide +kernel
theorem d_Model_value_0 : decode b_Model_value 0 = .ok (.aload_n 0, 1) := by decide +kernel
theorem d_Model_value_1 : decode b_Model_value 1 = .ok (.iconst 0, 1) := by decide +kernel
theorem d_Model_value_2 : decode b_Model_value 2 = .ok (.putfield 74, 3) := by decide +kernel
theorem d_Model_value_5 : decode b_Model_value 5 = .ok (.iload_n 1, 1) := by decide +kernel
theorem d_Model_value_6 : decode b_Model_value 6 = .ok (.iconst 0, 1) := by decide +kernel
theorem d_Model_value_7 : decode b_Model_value 7 = .ok (.bipush 15, 2) := by decide +kernel
theorem d_Model_value_9 : decode b_Model_value 9 = .ok (.invokestatic 82, 3) := by decide +kernel
theorem d_Model_value_12 : decode b_Model_value 12 = .ok (.ifCond .eq 21, 3) := by decide +kernel
theorem d_Model_value_15 : decode b_Model_value 15 = .ok (.aload_n 0, 1) := by decide +kernel
theorem d_Model_value_16 : decode b_Model_value 16 = .ok (.getfield 56, 3) := by decide +kernel
theorem d_Model_value_19 : decode b_Model_value 19 = .ok (.iload_n 1, 1) := by decide +kernel
theorem d_Model_value_20 : decode b_Model_value 20 = .ok (.baload, 1) := by decide +kernel
theorem d_Model_value_21 : decode b_Model_value 21 = .ok (.ifCond .eq 12, 3) := by decide +kernel
theorem d_Model_value_24 : decode b_Model_value 24 = .ok (.aload_n 0, 1) := by decide +kernel
theorem d_Model_value_25 : decode b_Model_value 25 = .ok (.getfield 59, 3) := by decide +kernel
theorem d_Model_value_28 : decode b_Model_value 28 = .ok (.iload_n 1, 1) := by decide +kernel
theorem d_Model_value_29 : decode b_Model_value 29 = .ok (.iaload, 1) := by decide +kernel
theorem d_Model_value_30 : decode b_Model_value 30 = .ok (.goto 4, 3) := by decide +kernel
theorem d_Model_value_33 : decode b_Model_value 33 = .ok (.iconst (-1), 1) := by decide +kernel
theorem d_Model_value_34 : decode b_Model_value 34 = .ok (.ireturn, 1) := by decide +kernel
theorem d_Model_register_0 : decode b_Model_register 0 = .ok (.aload_n 0, 1) := by decide +kernel
theorem d_Model_register_1 : decode b_Model_register 1 = .ok (.iconst 0, 1) := by decide +kernel
theorem d_Model_register_2 : decode b_Model_register 2 = .ok (.putfield 74, 3) := by decide +kernel
theorem d_Model_register_5 : decode b_Model_register 5 = .ok (.iload_n 1, 1) := by decide +kernel
theorem d_Model_register_6 : decode b_Model_register 6 = .ok (.iconst 0, 1) := by decide +kernel
theorem d_Model_register_7 : decode b_Model_register 7 = .ok (.bipush 31, 2) := by decide +kernel
theorem d_Model_register_9 : decode b_Model_register 9 = .ok (.invokestatic 82, 3) := by decide +kernel
theorem d_Model_register_12 : decode b_Model_register 12 = .ok (.ifCond .eq 12, 3) := by decide +kernel
theorem d_Model_register_15 : decode b_Model_register 15 = .ok (.aload_n 0, 1) := by decide +kernel
theorem d_Model_register_16 : decode b_Model_register 16 = .ok (.getfield 68, 3) := by decide +kernel
theorem d_Model_register_19 : decode b_Model_register 19 = .ok (.iload_n 1, 1) := by decide +kernel
theorem d_Model_register_20 : decode b_Model_register 20 = .ok (.iaload, 1) := by decide +kernel
theorem d_Model_register_21 : decode b_Model_register 21 = .ok (.goto 4, 3) := by decide +kernel
theorem d_Model_register_24 : decode b_Model_register 24 = .ok (.iconst 0, 1) := by decide +kernel
theorem d_Model_register_25 : decode b_Model_register 25 = .ok (.ireturn, 1) := by decide +kernel
theorem d_Model_memory_0 : decode b_Model_memory 0 = .ok (.aload_n 0, 1) := by decide +kernel
theorem d_Model_memory_1 : decode b_Model_memory 1 = .ok (.iload_n 1, 1) := by decide +kernel
theorem d_Model_memory_2 : decode b_Model_memory 2 = .ok (.invokevirtual 179, 3) := by decide +kernel
theorem d_Model_memory_5 : decode b_Model_memory 5 = .ok (.istore_n 2, 1) := by decide +kernel
theorem d_Model_memory_6 : decode b_Model_memory 6 = .ok (.aload_n 0, 1) := by decide +kernel
theorem d_Model_memory_7 : decode b_Model_memory 7 = .ok (.iload_n 2, 1) := by decide +kernel
theorem d_Model_memory_8 : decode b_Model_memory 8 = .ok (.iconst (-1), 1) := by decide +kernel
theorem d_Model_memory_9 : decode b_Model_memory 9 = .ok (.if_icmp .ne 7, 3) := by decide +kernel
theorem d_Model_memory_12 : decode b_Model_memory 12 = .ok (.iconst 1, 1) := by decide +kernel
theorem d_Model_memory_13 : decode b_Model_memory 13 = .ok (.goto 4, 3) := by decide +kernel
theorem d_Model_memory_16 : decode b_Model_memory 16 = .ok (.iconst 0, 1) := by decide +kernel
theorem d_Model_memory_17 : decode b_Model_memory 17 = .ok (.putfield 74, 3) := by decide +kernel
theorem d_Model_memory_20 : decode b_Model_memory 20 = .ok (.aload_n 0, 1) := by decide +kernel
theorem d_Model_memory_21 : decode b_Model_memory 21 = .ok (.getfield 74, 3) := by decide +kernel
theorem d_Model_memory_24 : decode b_Model_memory 24 = .ok (.ifCond .le 7, 3) := by decide +kernel
theorem d_Model_memory_27 : decode b_Model_memory 27 = .ok (.iconst 0, 1) := by decide +kernel
theorem d_Model_memory_28 : decode b_Model_memory 28 = .ok (.goto 9, 3) := by decide +kernel
theorem d_Model_memory_31 : decode b_Model_memory 31 = .ok (.aload_n 0, 1) := by decide +kernel
theorem d_Model_memory_32 : decode b_Model_memory 32 = .ok (.getfield 65, 3) := by decide +kernel
theorem d_Model_memory_35 : decode b_Model_memory 35 = .ok (.iload_n 2, 1) := by decide +kernel
theorem d_Model_memory_36 : decode b_Model_memory 36 = .ok (.iaload, 1) := by decide +kernel
theorem d_Model_memory_37 : decode b_Model_memory 37 = .ok (.ireturn, 1) := by decide +kernel
theorem d_Model_shown_0 : decode b_Model_shown 0 = .ok (.aload_n 0, 1) := by decide +kernel
theorem d_Model_shown_1 : decode b_Model_shown 1 = .ok (.iconst 0, 1) := by decide +kernel
theorem d_Model_shown_2 : decode b_Model_shown 2 = .ok (.putfield 74, 3) := by decide +kernel
theorem d_Model_shown_5 : decode b_Model_shown 5 = .ok (.iload_n 1, 1) := by decide +kernel
theorem d_Model_shown_6 : decode b_Model_shown 6 = .ok (.ifCond .lt 17, 3) := by decide +kernel
theorem d_Model_shown_9 : decode b_Model_shown 9 = .ok (.iload_n 1, 1) := by decide +kernel
theorem d_Model_shown_10 : decode b_Model_shown 10 = .ok (.bipush 15, 2) := by decide +kernel
theorem d_Model_shown_12 : decode b_Model_shown 12 = .ok (.if_icmp .gt 11, 3) := by decide +kernel
theorem d_Model_shown_15 : decode b_Model_shown 15 = .ok (.iload_n 1, 1) := by decide +kernel
theorem d_Model_shown_16 : decode b_Model_shown 16 = .ok (.aload_n 0, 1) := by decide +kernel
theorem d_Model_shown_17 : decode b_Model_shown 17 = .ok (.getfield 174, 3) := by decide +kernel
theorem d_Model_shown_20 : decode b_Model_shown 20 = .ok (.if_icmp .lt 7, 3) := by decide +kernel
theorem d_Model_shown_23 : decode b_Model_shown 23 = .ok (.iconst (-1), 1) := by decide +kernel
theorem d_Model_shown_24 : decode b_Model_shown 24 = .ok (.goto 19, 3) := by decide +kernel
theorem d_Model_shown_27 : decode b_Model_shown 27 = .ok (.aload_n 0, 1) := by decide +kernel
theorem d_Model_shown_28 : decode b_Model_shown 28 = .ok (.getfield 71, 3) := by decide +kernel
theorem d_Model_shown_31 : decode b_Model_shown 31 = .ok (.aload_n 0, 1) := by decide +kernel
theorem d_Model_shown_32 : decode b_Model_shown 32 = .ok (.getfield 174, 3) := by decide +kernel
theorem d_Model_shown_35 : decode b_Model_shown 35 = .ok (.iconst 1, 1) := by decide +kernel
theorem d_Model_shown_36 : decode b_Model_shown 36 = .ok (.isub, 1) := by decide +kernel
theorem d_Model_shown_37 : decode b_Model_shown 37 = .ok (.iload_n 1, 1) := by decide +kernel
theorem d_Model_shown_38 : decode b_Model_shown 38 = .ok (.isub, 1) := by decide +kernel
theorem d_Model_shown_39 : decode b_Model_shown 39 = .ok (.bipush 16, 2) := by decide +kernel
theorem d_Model_shown_41 : decode b_Model_shown 41 = .ok (.irem, 1) := by decide +kernel
theorem d_Model_shown_42 : decode b_Model_shown 42 = .ok (.iaload, 1) := by decide +kernel
theorem d_Model_shown_43 : decode b_Model_shown 43 = .ok (.ireturn, 1) := by decide +kernel
theorem d_Model_about_0 : decode b_Model_about 0 = .ok (.aload_n 0, 1) := by decide +kernel
theorem d_Model_about_1 : decode b_Model_about 1 = .ok (.iconst 0, 1) := by decide +kernel
theorem d_Model_about_2 : decode b_Model_about 2 = .ok (.putfield 74, 3) := by decide +kernel
theorem d_Model_about_5 : decode b_Model_about 5 = .ok (.iload_n 1, 1) := by decide +kernel
theorem d_Model_about_6 : decode b_Model_about 6 = .ok (.tableswitch 59 0 4 #[34, 39, 44, 49, 54], 34) := by decide +kernel
theorem d_Model_about_40 : decode b_Model_about 40 = .ok (.aload_n 0, 1) := by decide +kernel
theorem d_Model_about_41 : decode b_Model_about 41 = .ok (.getfield 122, 3) := by decide +kernel
theorem d_Model_about_44 : decode b_Model_about 44 = .ok (.ireturn, 1) := by decide +kernel
theorem d_Model_about_45 : decode b_Model_about 45 = .ok (.aload_n 0, 1) := by decide +kernel
theorem d_Model_about_46 : decode b_Model_about 46 = .ok (.getfield 168, 3) := by decide +kernel
theorem d_Model_about_49 : decode b_Model_about 49 = .ok (.ireturn, 1) := by decide +kernel
theorem d_Model_about_50 : decode b_Model_about 50 = .ok (.aload_n 0, 1) := by decide +kernel
theorem d_Model_about_51 : decode b_Model_about 51 = .ok (.getfield 165, 3) := by decide +kernel
theorem d_Model_about_54 : decode b_Model_about 54 = .ok (.ireturn, 1) := by decide +kernel
theorem d_Model_about_55 : decode b_Model_about 55 = .ok (.aload_n 0, 1) := by decide +kernel
theorem d_Model_about_56 : decode b_Model_about 56 = .ok (.getfield 171, 3) := by decide +kernel
theorem d_Model_about_59 : decode b_Model_about 59 = .ok (.ireturn, 1) := by decide +kernel
theorem d_Model_about_60 : decode b_Model_about 60 = .ok (.aload_n 0, 1) := by decide +kernel
theorem d_Model_about_61 : decode b_Model_about 61 = .ok (.getfield 174, 3) := by decide +kernel
theorem d_Model_about_64 : decode b_Model_about 64 = .ok (.ireturn, 1) := by decide +kernel
theorem d_Model_about_65 : decode b_Model_about 65 = .ok (.iconst (-1), 1) := by decide +kernel
theorem d_Model_about_66 : decode b_Model_about 66 = .ok (.ireturn, 1) := by decide +kernel
theorem d_Model_object_0 : decode b_Model_object 0 = .ok (.aload_n 0, 1) := by decide +kernel
theorem d_Model_object_1 : decode b_Model_object 1 = .ok (.iconst 0, 1) := by decide +kernel
theorem d_Model_object_2 : decode b_Model_object 2 = .ok (.putfield 74, 3) := by decide +kernel
theorem d_Model_object_5 : decode b_Model_object 5 = .ok (.iload_n 1, 1) := by decide +kernel
theorem d_Model_object_6 : decode b_Model_object 6 = .ok (.iconst 0, 1) := by decide +kernel
theorem d_Model_object_7 : decode b_Model_object 7 = .ok (.iconst 3, 1) := by decide +kernel
theorem d_Model_object_8 : decode b_Model_object 8 = .ok (.invokestatic 82, 3) := by decide +kernel
theorem d_Model_object_11 : decode b_Model_object 11 = .ok (.ifCond .ne 5, 3) := by decide +kernel
theorem d_Model_object_14 : decode b_Model_object 14 = .ok (.iconst (-1), 1) := by decide +kernel
theorem d_Model_object_15 : decode b_Model_object 15 = .ok (.ireturn, 1) := by decide +kernel
theorem d_Model_object_16 : decode b_Model_object 16 = .ok (.iload_n 2, 1) := by decide +kernel
theorem d_Model_object_17 : decode b_Model_object 17 = .ok (.ifCond .eq 8, 3) := by decide +kernel
theorem d_Model_object_20 : decode b_Model_object 20 = .ok (.iload_n 2, 1) := by decide +kernel
theorem d_Model_object_21 : decode b_Model_object 21 = .ok (.iconst 1, 1) := by decide +kernel
theorem d_Model_object_22 : decode b_Model_object 22 = .ok (.if_icmp .ne 16, 3) := by decide +kernel
theorem d_Model_object_25 : decode b_Model_object 25 = .ok (.aload_n 0, 1) := by decide +kernel
theorem d_Model_object_26 : decode b_Model_object 26 = .ok (.getfield 13, 3) := by decide +kernel
theorem d_Model_object_29 : decode b_Model_object 29 = .ok (.iconst 2, 1) := by decide +kernel
theorem d_Model_object_30 : decode b_Model_object 30 = .ok (.iload_n 1, 1) := by decide +kernel
theorem d_Model_object_31 : decode b_Model_object 31 = .ok (.imul, 1) := by decide +kernel
theorem d_Model_object_32 : decode b_Model_object 32 = .ok (.iload_n 2, 1) := by decide +kernel
theorem d_Model_object_33 : decode b_Model_object 33 = .ok (.iadd, 1) := by decide +kernel
theorem d_Model_object_34 : decode b_Model_object 34 = .ok (.iaload, 1) := by decide +kernel
theorem d_Model_object_35 : decode b_Model_object 35 = .ok (.goto 32, 3) := by decide +kernel
theorem d_Model_object_38 : decode b_Model_object 38 = .ok (.iload_n 2, 1) := by decide +kernel
theorem d_Model_object_39 : decode b_Model_object 39 = .ok (.iconst 2, 1) := by decide +kernel
theorem d_Model_object_40 : decode b_Model_object 40 = .ok (.if_icmp .ne 12, 3) := by decide +kernel
theorem d_Model_object_43 : decode b_Model_object 43 = .ok (.aload_n 0, 1) := by decide +kernel
theorem d_Model_object_44 : decode b_Model_object 44 = .ok (.getfield 16, 3) := by decide +kernel
theorem d_Model_object_47 : decode b_Model_object 47 = .ok (.iload_n 1, 1) := by decide +kernel
theorem d_Model_object_48 : decode b_Model_object 48 = .ok (.iaload, 1) := by decide +kernel
theorem d_Model_object_49 : decode b_Model_object 49 = .ok (.goto 18, 3) := by decide +kernel
theorem d_Model_object_52 : decode b_Model_object 52 = .ok (.iload_n 2, 1) := by decide +kernel
theorem d_Model_object_53 : decode b_Model_object 53 = .ok (.iconst 3, 1) := by decide +kernel
theorem d_Model_object_54 : decode b_Model_object 54 = .ok (.if_icmp .ne 12, 3) := by decide +kernel
theorem d_Model_object_57 : decode b_Model_object 57 = .ok (.aload_n 0, 1) := by decide +kernel
theorem d_Model_object_58 : decode b_Model_object 58 = .ok (.getfield 32, 3) := by decide +kernel
theorem d_Model_object_61 : decode b_Model_object 61 = .ok (.iload_n 1, 1) := by decide +kernel
theorem d_Model_object_62 : decode b_Model_object 62 = .ok (.iaload, 1) := by decide +kernel
theorem d_Model_object_63 : decode b_Model_object 63 = .ok (.goto 4, 3) := by decide +kernel
theorem d_Model_object_66 : decode b_Model_object 66 = .ok (.iconst (-1), 1) := by decide +kernel
theorem d_Model_object_67 : decode b_Model_object 67 = .ok (.ireturn, 1) := by decide +kernel
