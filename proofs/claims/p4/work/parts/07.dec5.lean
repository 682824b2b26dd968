theorem d_Mo_goThrough_0 : decode b_Mo_goThrough 0 = .ok (.aload_n 0, 1) := by decide +kernel
theorem d_Mo_goThrough_1 : decode b_Mo_goThrough 1 = .ok (.iload_n 1, 1) := by decide +kernel
theorem d_Mo_goThrough_2 : decode b_Mo_goThrough 2 = .ok (.putfield 118, 3) := by decide +kernel
theorem d_Mo_goThrough_5 : decode b_Mo_goThrough 5 = .ok (.aload_n 0, 1) := by decide +kernel
theorem d_Mo_goThrough_6 : decode b_Mo_goThrough 6 = .ok (.iload_n 2, 1) := by decide +kernel
theorem d_Mo_goThrough_7 : decode b_Mo_goThrough 7 = .ok (.putfield 121, 3) := by decide +kernel
theorem d_Mo_goThrough_10 : decode b_Mo_goThrough 10 = .ok (.aload_n 0, 1) := by decide +kernel
theorem d_Mo_goThrough_11 : decode b_Mo_goThrough 11 = .ok (.iconst 0, 1) := by decide +kernel
theorem d_Mo_goThrough_12 : decode b_Mo_goThrough 12 = .ok (.putfield 112, 3) := by decide +kernel
theorem d_Mo_goThrough_15 : decode b_Mo_goThrough 15 = .ok (.aload_n 0, 1) := by decide +kernel
theorem d_Mo_goThrough_16 : decode b_Mo_goThrough 16 = .ok (.iload_n 3, 1) := by decide +kernel
theorem d_Mo_goThrough_17 : decode b_Mo_goThrough 17 = .ok (.putfield 115, 3) := by decide +kernel
theorem d_Mo_goThrough_20 : decode b_Mo_goThrough 20 = .ok (.aload_n 0, 1) := by decide +kernel
theorem d_Mo_goThrough_21 : decode b_Mo_goThrough 21 = .ok (.iconst 1, 1) := by decide +kernel
theorem d_Mo_goThrough_22 : decode b_Mo_goThrough 22 = .ok (.putfield 131, 3) := by decide +kernel
theorem d_Mo_goThrough_25 : decode b_Mo_goThrough 25 = .ok (.return_, 1) := by decide +kernel
theorem d_Mo_step_0 : decode b_Mo_step 0 = .ok (.aload_n 0, 1) := by decide +kernel
theorem d_Mo_step_1 : decode b_Mo_step 1 = .ok (.iconst 0, 1) := by decide +kernel
theorem d_Mo_step_2 : decode b_Mo_step 2 = .ok (.putfield 47, 3) := by decide +kernel
theorem d_Mo_step_5 : decode b_Mo_step 5 = .ok (.aload_n 0, 1) := by decide +kernel
theorem d_Mo_step_6 : decode b_Mo_step 6 = .ok (.getfield 56, 3) := by decide +kernel
theorem d_Mo_step_9 : decode b_Mo_step 9 = .ok (.ifCond .eq 6, 3) := by decide +kernel
theorem d_Mo_step_12 : decode b_Mo_step 12 = .ok (.bipush 7, 2) := by decide +kernel
theorem d_Mo_step_14 : decode b_Mo_step 14 = .ok (.ireturn, 1) := by decide +kernel
theorem d_Mo_step_15 : decode b_Mo_step 15 = .ok (.iload_n 1, 1) := by decide +kernel
theorem d_Mo_step_16 : decode b_Mo_step 16 = .ok (.iconst 1, 1) := by decide +kernel
theorem d_Mo_step_17 : decode b_Mo_step 17 = .ok (.if_icmp .ge 7, 3) := by decide +kernel
theorem d_Mo_step_20 : decode b_Mo_step 20 = .ok (.iconst 1, 1) := by decide +kernel
theorem d_Mo_step_21 : decode b_Mo_step 21 = .ok (.goto 15, 3) := by decide +kernel
theorem d_Mo_step_24 : decode b_Mo_step 24 = .ok (.iload_n 1, 1) := by decide +kernel
theorem d_Mo_step_25 : decode b_Mo_step 25 = .ok (.bipush 50, 2) := by decide +kernel
theorem d_Mo_step_27 : decode b_Mo_step 27 = .ok (.if_icmp .le 8, 3) := by decide +kernel
theorem d_Mo_step_30 : decode b_Mo_step 30 = .ok (.bipush 50, 2) := by decide +kernel
theorem d_Mo_step_32 : decode b_Mo_step 32 = .ok (.goto 4, 3) := by decide +kernel
theorem d_Mo_step_35 : decode b_Mo_step 35 = .ok (.iload_n 1, 1) := by decide +kernel
theorem d_Mo_step_36 : decode b_Mo_step 36 = .ok (.istore_n 2, 1) := by decide +kernel
theorem d_Mo_step_37 : decode b_Mo_step 37 = .ok (.iconst 0, 1) := by decide +kernel
theorem d_Mo_step_38 : decode b_Mo_step 38 = .ok (.istore_n 3, 1) := by decide +kernel
theorem d_Mo_step_39 : decode b_Mo_step 39 = .ok (.iload_n 3, 1) := by decide +kernel
theorem d_Mo_step_40 : decode b_Mo_step 40 = .ok (.iload_n 2, 1) := by decide +kernel
theorem d_Mo_step_41 : decode b_Mo_step 41 = .ok (.if_icmp .ge 72, 3) := by decide +kernel
theorem d_Mo_step_44 : decode b_Mo_step 44 = .ok (.aload_n 0, 1) := by decide +kernel
theorem d_Mo_step_45 : decode b_Mo_step 45 = .ok (.invokevirtual 178, 3) := by decide +kernel
theorem d_Mo_step_48 : decode b_Mo_step 48 = .ok (.istore 4, 2) := by decide +kernel
theorem d_Mo_step_50 : decode b_Mo_step 50 = .ok (.iload 4, 2) := by decide +kernel
theorem d_Mo_step_52 : decode b_Mo_step 52 = .ok (.iconst (-1), 1) := by decide +kernel
theorem d_Mo_step_53 : decode b_Mo_step 53 = .ok (.if_icmp .ne 10, 3) := by decide +kernel
theorem d_Mo_step_56 : decode b_Mo_step 56 = .ok (.aload_n 0, 1) := by decide +kernel
theorem d_Mo_step_57 : decode b_Mo_step 57 = .ok (.iconst 0, 1) := by decide +kernel
theorem d_Mo_step_58 : decode b_Mo_step 58 = .ok (.putfield 50, 3) := by decide +kernel
theorem d_Mo_step_61 : decode b_Mo_step 61 = .ok (.iconst 0, 1) := by decide +kernel
theorem d_Mo_step_62 : decode b_Mo_step 62 = .ok (.ireturn, 1) := by decide +kernel
theorem d_Mo_step_63 : decode b_Mo_step 63 = .ok (.aload_n 0, 1) := by decide +kernel
theorem d_Mo_step_64 : decode b_Mo_step 64 = .ok (.iconst 1, 1) := by decide +kernel
theorem d_Mo_step_65 : decode b_Mo_step 65 = .ok (.bipush 12, 2) := by decide +kernel
theorem d_Mo_step_67 : decode b_Mo_step 67 = .ok (.iload 4, 2) := by decide +kernel
theorem d_Mo_step_69 : decode b_Mo_step 69 = .ok (.imul, 1) := by decide +kernel
theorem d_Mo_step_70 : decode b_Mo_step 70 = .ok (.aload_n 0, 1) := by decide +kernel
theorem d_Mo_step_71 : decode b_Mo_step 71 = .ok (.getfield 17, 3) := by decide +kernel
theorem d_Mo_step_74 : decode b_Mo_step 74 = .ok (.iload 4, 2) := by decide +kernel
theorem d_Mo_step_76 : decode b_Mo_step 76 = .ok (.iaload, 1) := by decide +kernel
theorem d_Mo_step_77 : decode b_Mo_step 77 = .ok (.invokevirtual 181, 3) := by decide +kernel
theorem d_Mo_step_80 : decode b_Mo_step 80 = .ok (.aload_n 0, 1) := by decide +kernel
theorem d_Mo_step_81 : decode b_Mo_step 81 = .ok (.iconst 1, 1) := by decide +kernel
theorem d_Mo_step_82 : decode b_Mo_step 82 = .ok (.iload 4, 2) := by decide +kernel
theorem d_Mo_step_84 : decode b_Mo_step 84 = .ok (.invokevirtual 185, 3) := by decide +kernel
theorem d_Mo_step_87 : decode b_Mo_step 87 = .ok (.istore 5, 2) := by decide +kernel
theorem d_Mo_step_89 : decode b_Mo_step 89 = .ok (.iload 5, 2) := by decide +kernel
theorem d_Mo_step_91 : decode b_Mo_step 91 = .ok (.ifCond .eq 16, 3) := by decide +kernel
theorem d_Mo_step_94 : decode b_Mo_step 94 = .ok (.iload 5, 2) := by decide +kernel
theorem d_Mo_step_96 : decode b_Mo_step 96 = .ok (.iconst (-1), 1) := by decide +kernel
theorem d_Mo_step_97 : decode b_Mo_step 97 = .ok (.if_icmp .ne 7, 3) := by decide +kernel
theorem d_Mo_step_100 : decode b_Mo_step 100 = .ok (.iconst 0, 1) := by decide +kernel
theorem d_Mo_step_101 : decode b_Mo_step 101 = .ok (.goto 5, 3) := by decide +kernel
theorem d_Mo_step_104 : decode b_Mo_step 104 = .ok (.iload 5, 2) := by decide +kernel
theorem d_Mo_step_106 : decode b_Mo_step 106 = .ok (.ireturn, 1) := by decide +kernel
theorem d_Mo_step_107 : decode b_Mo_step 107 = .ok (.iinc 3 1, 3) := by decide +kernel
theorem d_Mo_step_110 : decode b_Mo_step 110 = .ok (.goto (-71), 3) := by decide +kernel
theorem d_Mo_step_113 : decode b_Mo_step 113 = .ok (.bipush 6, 2) := by decide +kernel
theorem d_Mo_step_115 : decode b_Mo_step 115 = .ok (.ireturn, 1) := by decide +kernel
theorem d_Mo_command_0 : decode b_Mo_command 0 = .ok (.aload_n 0, 1) := by decide +kernel
theorem d_Mo_command_1 : decode b_Mo_command 1 = .ok (.getfield 29, 3) := by decide +kernel
theorem d_Mo_command_4 : decode b_Mo_command 4 = .ok (.iconst 0, 1) := by decide +kernel
theorem d_Mo_command_5 : decode b_Mo_command 5 = .ok (.iaload, 1) := by decide +kernel
theorem d_Mo_command_6 : decode b_Mo_command 6 = .ok (.istore_n 1, 1) := by decide +kernel
theorem d_Mo_command_7 : decode b_Mo_command 7 = .ok (.iload_n 1, 1) := by decide +kernel
theorem d_Mo_command_8 : decode b_Mo_command 8 = .ok (.bipush 83, 2) := by decide +kernel
theorem d_Mo_command_10 : decode b_Mo_command 10 = .ok (.if_icmp .eq 15, 3) := by decide +kernel
theorem d_Mo_command_13 : decode b_Mo_command 13 = .ok (.iload_n 1, 1) := by decide +kernel
theorem d_Mo_command_14 : decode b_Mo_command 14 = .ok (.bipush 76, 2) := by decide +kernel
theorem d_Mo_command_16 : decode b_Mo_command 16 = .ok (.if_icmp .eq 9, 3) := by decide +kernel
theorem d_Mo_command_19 : decode b_Mo_command 19 = .ok (.iload_n 1, 1) := by decide +kernel
theorem d_Mo_command_20 : decode b_Mo_command 20 = .ok (.bipush 68, 2) := by decide +kernel
theorem d_Mo_command_22 : decode b_Mo_command 22 = .ok (.if_icmp .ne 7, 3) := by decide +kernel
theorem d_Mo_command_25 : decode b_Mo_command 25 = .ok (.iconst 1, 1) := by decide +kernel
theorem d_Mo_command_26 : decode b_Mo_command 26 = .ok (.goto 4, 3) := by decide +kernel
theorem d_Mo_command_29 : decode b_Mo_command 29 = .ok (.iconst 0, 1) := by decide +kernel
theorem d_Mo_command_30 : decode b_Mo_command 30 = .ok (.istore_n 2, 1) := by decide +kernel
theorem d_Mo_command_31 : decode b_Mo_command 31 = .ok (.iload_n 1, 1) := by decide +kernel
theorem d_Mo_command_32 : decode b_Mo_command 32 = .ok (.bipush 70, 2) := by decide +kernel
theorem d_Mo_command_34 : decode b_Mo_command 34 = .ok (.if_icmp .eq 15, 3) := by decide +kernel
theorem d_Mo_command_37 : decode b_Mo_command 37 = .ok (.iload_n 1, 1) := by decide +kernel
theorem d_Mo_command_38 : decode b_Mo_command 38 = .ok (.bipush 78, 2) := by decide +kernel
theorem d_Mo_command_40 : decode b_Mo_command 40 = .ok (.if_icmp .eq 9, 3) := by decide +kernel
theorem d_Mo_command_43 : decode b_Mo_command 43 = .ok (.iload_n 1, 1) := by decide +kernel
theorem d_Mo_command_44 : decode b_Mo_command 44 = .ok (.bipush 67, 2) := by decide +kernel
theorem d_Mo_command_46 : decode b_Mo_command 46 = .ok (.if_icmp .ne 7, 3) := by decide +kernel
theorem d_Mo_command_49 : decode b_Mo_command 49 = .ok (.iconst 1, 1) := by decide +kernel
theorem d_Mo_command_50 : decode b_Mo_command 50 = .ok (.goto 4, 3) := by decide +kernel
theorem d_Mo_command_53 : decode b_Mo_command 53 = .ok (.iconst 0, 1) := by decide +kernel
theorem d_Mo_command_54 : decode b_Mo_command 54 = .ok (.istore_n 3, 1) := by decide +kernel
theorem d_Mo_command_55 : decode b_Mo_command 55 = .ok (.aload_n 0, 1) := by decide +kernel
theorem d_Mo_command_56 : decode b_Mo_command 56 = .ok (.getfield 53, 3) := by decide +kernel
theorem d_Mo_command_59 : decode b_Mo_command 59 = .ok (.iconst 1, 1) := by decide +kernel
theorem d_Mo_command_60 : decode b_Mo_command 60 = .ok (.if_icmp .le 15, 3) := by decide +kernel
theorem d_Mo_command_63 : decode b_Mo_command 63 = .ok (.aload_n 0, 1) := by decide +kernel
theorem d_Mo_command_64 : decode b_Mo_command 64 = .ok (.getfield 29, 3) := by decide +kernel
theorem d_Mo_command_67 : decode b_Mo_command 67 = .ok (.iconst 1, 1) := by decide +kernel
theorem d_Mo_command_68 : decode b_Mo_command 68 = .ok (.iaload, 1) := by decide +kernel
theorem d_Mo_command_69 : decode b_Mo_command 69 = .ok (.bipush 48, 2) := by decide +kernel
theorem d_Mo_command_71 : decode b_Mo_command 71 = .ok (.isub, 1) := by decide +kernel
theorem d_Mo_command_72 : decode b_Mo_command 72 = .ok (.goto 4, 3) := by decide +kernel
theorem d_Mo_command_75 : decode b_Mo_command 75 = .ok (.iconst (-1), 1) := by decide +kernel
theorem d_Mo_command_76 : decode b_Mo_command 76 = .ok (.istore 4, 2) := by decide +kernel
theorem d_Mo_command_78 : decode b_Mo_command 78 = .ok (.iload_n 2, 1) := by decide +kernel
theorem d_Mo_command_79 : decode b_Mo_command 79 = .ok (.ifCond .eq 23, 3) := by decide +kernel
theorem d_Mo_command_82 : decode b_Mo_command 82 = .ok (.aload_n 0, 1) := by decide +kernel
theorem d_Mo_command_83 : decode b_Mo_command 83 = .ok (.getfield 53, 3) := by decide +kernel
theorem d_Mo_command_86 : decode b_Mo_command 86 = .ok (.iconst 2, 1) := by decide +kernel
theorem d_Mo_command_87 : decode b_Mo_command 87 = .ok (.if_icmp .ne 15, 3) := by decide +kernel
theorem d_Mo_command_90 : decode b_Mo_command 90 = .ok (.iload 4, 2) := by decide +kernel
theorem d_Mo_command_92 : decode b_Mo_command 92 = .ok (.ifCond .lt 10, 3) := by decide +kernel
theorem d_Mo_command_95 : decode b_Mo_command 95 = .ok (.iload 4, 2) := by decide +kernel
theorem d_Mo_command_97 : decode b_Mo_command 97 = .ok (.bipush 7, 2) := by decide +kernel
theorem d_Mo_command_99 : decode b_Mo_command 99 = .ok (.if_icmp .le 17, 3) := by decide +kernel
theorem d_Mo_command_102 : decode b_Mo_command 102 = .ok (.iload_n 3, 1) := by decide +kernel
theorem d_Mo_command_103 : decode b_Mo_command 103 = .ok (.ifCond .eq 11, 3) := by decide +kernel
theorem d_Mo_command_106 : decode b_Mo_command 106 = .ok (.aload_n 0, 1) := by decide +kernel
theorem d_Mo_command_107 : decode b_Mo_command 107 = .ok (.getfield 53, 3) := by decide +kernel
theorem d_Mo_command_110 : decode b_Mo_command 110 = .ok (.iconst 1, 1) := by decide +kernel
theorem d_Mo_command_111 : decode b_Mo_command 111 = .ok (.if_icmp .eq 5, 3) := by decide +kernel
theorem d_Mo_command_114 : decode b_Mo_command 114 = .ok (.iconst 2, 1) := by decide +kernel
theorem d_Mo_command_115 : decode b_Mo_command 115 = .ok (.ireturn, 1) := by decide +kernel
theorem d_Mo_command_116 : decode b_Mo_command 116 = .ok (.iload_n 1, 1) := by decide +kernel
theorem d_Mo_command_117 : decode b_Mo_command 117 = .ok (.bipush 78, 2) := by decide +kernel
theorem d_Mo_command_119 : decode b_Mo_command 119 = .ok (.if_icmp .ne 34, 3) := by decide +kernel
theorem d_Mo_command_122 : decode b_Mo_command 122 = .ok (.iconst 0, 1) := by decide +kernel
theorem d_Mo_command_123 : decode b_Mo_command 123 = .ok (.istore 5, 2) := by decide +kernel
theorem d_Mo_command_125 : decode b_Mo_command 125 = .ok (.iload 5, 2) := by decide +kernel
theorem d_Mo_command_127 : decode b_Mo_command 127 = .ok (.bipush 100, 2) := by decide +kernel
theorem d_Mo_command_129 : decode b_Mo_command 129 = .ok (.if_icmp .ge 17, 3) := by decide +kernel
theorem d_Mo_command_132 : decode b_Mo_command 132 = .ok (.aload_n 0, 1) := by decide +kernel
theorem d_Mo_command_133 : decode b_Mo_command 133 = .ok (.getfield 17, 3) := by decide +kernel
theorem d_Mo_command_136 : decode b_Mo_command 136 = .ok (.iload 5, 2) := by decide +kernel
theorem d_Mo_command_138 : decode b_Mo_command 138 = .ok (.iconst (-1), 1) := by decide +kernel
theorem d_Mo_command_139 : decode b_Mo_command 139 = .ok (.iastore, 1) := by decide +kernel
theorem d_Mo_command_140 : decode b_Mo_command 140 = .ok (.iinc 5 1, 3) := by decide +kernel
theorem d_Mo_command_143 : decode b_Mo_command 143 = .ok (.goto (-18), 3) := by decide +kernel
theorem d_Mo_command_146 : decode b_Mo_command 146 = .ok (.aload_n 0, 1) := by decide +kernel
theorem d_Mo_command_147 : decode b_Mo_command 147 = .ok (.iconst 0, 1) := by decide +kernel
theorem d_Mo_command_148 : decode b_Mo_command 148 = .ok (.putfield 50, 3) := by decide +kernel
theorem d_Mo_command_151 : decode b_Mo_command 151 = .ok (.iconst 0, 1) := by decide +kernel
theorem d_Mo_command_152 : decode b_Mo_command 152 = .ok (.ireturn, 1) := by decide +kernel
theorem d_Mo_command_153 : decode b_Mo_command 153 = .ok (.iload_n 1, 1) := by decide +kernel
theorem d_Mo_command_154 : decode b_Mo_command 154 = .ok (.bipush 67, 2) := by decide +kernel
theorem d_Mo_command_156 : decode b_Mo_command 156 = .ok (.if_icmp .ne 39, 3) := by decide +kernel
theorem d_Mo_command_159 : decode b_Mo_command 159 = .ok (.iconst 0, 1) := by decide +kernel
theorem d_Mo_command_160 : decode b_Mo_command 160 = .ok (.istore 5, 2) := by decide +kernel
theorem d_Mo_command_162 : decode b_Mo_command 162 = .ok (.iload 5, 2) := by decide +kernel
theorem d_Mo_command_164 : decode b_Mo_command 164 = .ok (.bipush 8, 2) := by decide +kernel
theorem d_Mo_command_166 : decode b_Mo_command 166 = .ok (.if_icmp .ge 17, 3) := by decide +kernel
theorem d_Mo_command_169 : decode b_Mo_command 169 = .ok (.aload_n 0, 1) := by decide +kernel
theorem d_Mo_command_170 : decode b_Mo_command 170 = .ok (.getfield 23, 3) := by decide +kernel
theorem d_Mo_command_173 : decode b_Mo_command 173 = .ok (.iload 5, 2) := by decide +kernel
theorem d_Mo_command_175 : decode b_Mo_command 175 = .ok (.iconst 0, 1) := by decide +kernel
theorem d_Mo_command_176 : decode b_Mo_command 176 = .ok (.iastore, 1) := by decide +kernel
theorem d_Mo_command_177 : decode b_Mo_command 177 = .ok (.iinc 5 1, 3) := by decide +kernel
theorem d_Mo_command_180 : decode b_Mo_command 180 = .ok (.goto (-18), 3) := by decide +kernel
theorem d_Mo_command_183 : decode b_Mo_command 183 = .ok (.aload_n 0, 1) := by decide +kernel
theorem d_Mo_command_184 : decode b_Mo_command 184 = .ok (.iconst 0, 1) := by decide +kernel
theorem d_Mo_command_185 : decode b_Mo_command 185 = .ok (.putfield 109, 3) := by decide +kernel
theorem d_Mo_command_188 : decode b_Mo_command 188 = .ok (.aload_n 0, 1) := by decide +kernel
theorem d_Mo_command_189 : decode b_Mo_command 189 = .ok (.iconst 0, 1) := by decide +kernel
theorem d_Mo_command_190 : decode b_Mo_command 190 = .ok (.putfield 50, 3) := by decide +kernel
theorem d_Mo_command_193 : decode b_Mo_command 193 = .ok (.iconst 0, 1) := by decide +kernel
theorem d_Mo_command_194 : decode b_Mo_command 194 = .ok (.ireturn, 1) := by decide +kernel
theorem d_Mo_command_195 : decode b_Mo_command 195 = .ok (.aload_n 0, 1) := by decide +kernel
theorem d_Mo_command_196 : decode b_Mo_command 196 = .ok (.invokevirtual 76, 3) := by decide +kernel
theorem d_Mo_command_199 : decode b_Mo_command 199 = .ok (.ifCond .ne 6, 3) := by decide +kernel
theorem d_Mo_command_202 : decode b_Mo_command 202 = .ok (.bipush 8, 2) := by decide +kernel
theorem d_Mo_command_204 : decode b_Mo_command 204 = .ok (.ireturn, 1) := by decide +kernel
theorem d_Mo_command_205 : decode b_Mo_command 205 = .ok (.iload_n 1, 1) := by decide +kernel
theorem d_Mo_command_206 : decode b_Mo_command 206 = .ok (.bipush 70, 2) := by decide +kernel
theorem d_Mo_command_208 : decode b_Mo_command 208 = .ok (.if_icmp .ne 46, 3) := by decide +kernel
theorem d_Mo_command_211 : decode b_Mo_command 211 = .ok (.iconst 0, 1) := by decide +kernel
theorem d_Mo_command_212 : decode b_Mo_command 212 = .ok (.istore 5, 2) := by decide +kernel
theorem d_Mo_command_214 : decode b_Mo_command 214 = .ok (.iload 5, 2) := by decide +kernel
theorem d_Mo_command_216 : decode b_Mo_command 216 = .ok (.bipush 8, 2) := by decide +kernel
theorem d_Mo_command_218 : decode b_Mo_command 218 = .ok (.if_icmp .ge 34, 3) := by decide +kernel
theorem d_Mo_command_221 : decode b_Mo_command 221 = .ok (.aload_n 0, 1) := by decide +kernel
theorem d_Mo_command_222 : decode b_Mo_command 222 = .ok (.iload 5, 2) := by decide +kernel
theorem d_Mo_command_224 : decode b_Mo_command 224 = .ok (.invokevirtual 84, 3) := by decide +kernel
theorem d_Mo_command_227 : decode b_Mo_command 227 = .ok (.ifCond .eq 19, 3) := by decide +kernel
theorem d_Mo_command_230 : decode b_Mo_command 230 = .ok (.aload_n 0, 1) := by decide +kernel
theorem d_Mo_command_231 : decode b_Mo_command 231 = .ok (.iload 5, 2) := by decide +kernel
theorem d_Mo_command_233 : decode b_Mo_command 233 = .ok (.invokevirtual 162, 3) := by decide +kernel
theorem d_Mo_command_236 : decode b_Mo_command 236 = .ok (.aload_n 0, 1) := by decide +kernel
theorem d_Mo_command_237 : decode b_Mo_command 237 = .ok (.aload_n 0, 1) := by decide +kernel
theorem d_Mo_command_238 : decode b_Mo_command 238 = .ok (.iload 5, 2) := by decide +kernel
theorem d_Mo_command_240 : decode b_Mo_command 240 = .ok (.invokevirtual 84, 3) := by decide +kernel
theorem d_Mo_command_243 : decode b_Mo_command 243 = .ok (.invokevirtual 162, 3) := by decide +kernel
theorem d_Mo_command_246 : decode b_Mo_command 246 = .ok (.iinc 5 1, 3) := by decide +kernel
theorem d_Mo_command_249 : decode b_Mo_command 249 = .ok (.goto (-35), 3) := by decide +kernel
theorem d_Mo_command_252 : decode b_Mo_command 252 = .ok (.iconst 0, 1) := by decide +kernel
theorem d_Mo_command_253 : decode b_Mo_command 253 = .ok (.ireturn, 1) := by decide +kernel
theorem d_Mo_command_254 : decode b_Mo_command 254 = .ok (.iload_n 1, 1) := by decide +kernel
theorem d_Mo_command_255 : decode b_Mo_command 255 = .ok (.bipush 83, 2) := by decide +kernel
theorem d_Mo_command_257 : decode b_Mo_command 257 = .ok (.if_icmp .ne 12, 3) := by decide +kernel
theorem d_Mo_command_260 : decode b_Mo_command 260 = .ok (.aload_n 0, 1) := by decide +kernel
theorem d_Mo_command_261 : decode b_Mo_command 261 = .ok (.iload 4, 2) := by decide +kernel
theorem d_Mo_command_263 : decode b_Mo_command 263 = .ok (.invokevirtual 189, 3) := by decide +kernel
theorem d_Mo_command_266 : decode b_Mo_command 266 = .ok (.goto 24, 3) := by decide +kernel
theorem d_Mo_command_269 : decode b_Mo_command 269 = .ok (.iload_n 1, 1) := by decide +kernel
theorem d_Mo_command_270 : decode b_Mo_command 270 = .ok (.bipush 76, 2) := by decide +kernel
theorem d_Mo_command_272 : decode b_Mo_command 272 = .ok (.if_icmp .ne 12, 3) := by decide +kernel
theorem d_Mo_command_275 : decode b_Mo_command 275 = .ok (.aload_n 0, 1) := by decide +kernel
theorem d_Mo_command_276 : decode b_Mo_command 276 = .ok (.iload 4, 2) := by decide +kernel
theorem d_Mo_command_278 : decode b_Mo_command 278 = .ok (.invokevirtual 192, 3) := by decide +kernel
theorem d_Mo_command_281 : decode b_Mo_command 281 = .ok (.goto 9, 3) := by decide +kernel
theorem d_Mo_command_284 : decode b_Mo_command 284 = .ok (.aload_n 0, 1) := by decide +kernel
theorem d_Mo_command_285 : decode b_Mo_command 285 = .ok (.iload 4, 2) := by decide +kernel
theorem d_Mo_command_287 : decode b_Mo_command 287 = .ok (.invokevirtual 195, 3) := by decide +kernel
theorem d_Mo_command_290 : decode b_Mo_command 290 = .ok (.ireturn, 1) := by decide +kernel
theorem d_Mo_line_0 : decode b_Mo_line 0 = .ok (.aload_n 0, 1) := by decide +kernel
theorem d_Mo_line_1 : decode b_Mo_line 1 = .ok (.iconst 0, 1) := by decide +kernel
theorem d_Mo_line_2 : decode b_Mo_line 2 = .ok (.iconst 0, 1) := by decide +kernel
theorem d_Mo_line_3 : decode b_Mo_line 3 = .ok (.aload_n 0, 1) := by decide +kernel
theorem d_Mo_line_4 : decode b_Mo_line 4 = .ok (.getfield 53, 3) := by decide +kernel
theorem d_Mo_line_7 : decode b_Mo_line 7 = .ok (.invokevirtual 181, 3) := by decide +kernel
theorem d_Mo_line_10 : decode b_Mo_line 10 = .ok (.aload_n 0, 1) := by decide +kernel
theorem d_Mo_line_11 : decode b_Mo_line 11 = .ok (.invokevirtual 165, 3) := by decide +kernel
theorem d_Mo_line_14 : decode b_Mo_line 14 = .ok (.istore_n 1, 1) := by decide +kernel
theorem d_Mo_line_15 : decode b_Mo_line 15 = .ok (.aload_n 0, 1) := by decide +kernel
theorem d_Mo_line_16 : decode b_Mo_line 16 = .ok (.getfield 131, 3) := by decide +kernel
theorem d_Mo_line_19 : decode b_Mo_line 19 = .ok (.ifCond .ne 5, 3) := by decide +kernel
theorem d_Mo_line_22 : decode b_Mo_line 22 = .ok (.iconst 2, 1) := by decide +kernel
theorem d_Mo_line_23 : decode b_Mo_line 23 = .ok (.ireturn, 1) := by decide +kernel
theorem d_Mo_line_24 : decode b_Mo_line 24 = .ok (.aload_n 0, 1) := by decide +kernel
theorem d_Mo_line_25 : decode b_Mo_line 25 = .ok (.getfield 53, 3) := by decide +kernel
theorem d_Mo_line_28 : decode b_Mo_line 28 = .ok (.aload_n 0, 1) := by decide +kernel
theorem d_Mo_line_29 : decode b_Mo_line 29 = .ok (.getfield 112, 3) := by decide +kernel
theorem d_Mo_line_32 : decode b_Mo_line 32 = .ok (.isub, 1) := by decide +kernel
theorem d_Mo_line_33 : decode b_Mo_line 33 = .ok (.istore_n 2, 1) := by decide +kernel
theorem d_Mo_line_34 : decode b_Mo_line 34 = .ok (.iload_n 2, 1) := by decide +kernel
theorem d_Mo_line_35 : decode b_Mo_line 35 = .ok (.ifCond .ne 12, 3) := by decide +kernel
theorem d_Mo_line_38 : decode b_Mo_line 38 = .ok (.aload_n 0, 1) := by decide +kernel
theorem d_Mo_line_39 : decode b_Mo_line 39 = .ok (.getfield 17, 3) := by decide +kernel
theorem d_Mo_line_42 : decode b_Mo_line 42 = .ok (.iload_n 1, 1) := by decide +kernel
theorem d_Mo_line_43 : decode b_Mo_line 43 = .ok (.iconst (-1), 1) := by decide +kernel
theorem d_Mo_line_44 : decode b_Mo_line 44 = .ok (.iastore, 1) := by decide +kernel
theorem d_Mo_line_45 : decode b_Mo_line 45 = .ok (.iconst 0, 1) := by decide +kernel
theorem d_Mo_line_46 : decode b_Mo_line 46 = .ok (.ireturn, 1) := by decide +kernel
theorem d_Mo_line_47 : decode b_Mo_line 47 = .ok (.aload_n 0, 1) := by decide +kernel
theorem d_Mo_line_48 : decode b_Mo_line 48 = .ok (.getfield 112, 3) := by decide +kernel
theorem d_Mo_line_51 : decode b_Mo_line 51 = .ok (.istore_n 3, 1) := by decide +kernel
theorem d_Mo_line_52 : decode b_Mo_line 52 = .ok (.aload_n 0, 1) := by decide +kernel
theorem d_Mo_line_53 : decode b_Mo_line 53 = .ok (.iconst 0, 1) := by decide +kernel
theorem d_Mo_line_54 : decode b_Mo_line 54 = .ok (.iload_n 3, 1) := by decide +kernel
theorem d_Mo_line_55 : decode b_Mo_line 55 = .ok (.iload_n 2, 1) := by decide +kernel
theorem d_Mo_line_56 : decode b_Mo_line 56 = .ok (.invokevirtual 181, 3) := by decide +kernel
theorem d_Mo_line_59 : decode b_Mo_line 59 = .ok (.aload_n 0, 1) := by decide +kernel
theorem d_Mo_line_60 : decode b_Mo_line 60 = .ok (.iconst 0, 1) := by decide +kernel
theorem d_Mo_line_61 : decode b_Mo_line 61 = .ok (.iconst 0, 1) := by decide +kernel
theorem d_Mo_line_62 : decode b_Mo_line 62 = .ok (.invokevirtual 185, 3) := by decide +kernel
theorem d_Mo_line_65 : decode b_Mo_line 65 = .ok (.istore 4, 2) := by decide +kernel
theorem d_Mo_line_67 : decode b_Mo_line 67 = .ok (.aload_n 0, 1) := by decide +kernel
theorem d_Mo_line_68 : decode b_Mo_line 68 = .ok (.getfield 131, 3) := by decide +kernel
theorem d_Mo_line_71 : decode b_Mo_line 71 = .ok (.ifCond .eq 9, 3) := by decide +kernel
theorem d_Mo_line_74 : decode b_Mo_line 74 = .ok (.iload_n 2, 1) := by decide +kernel
theorem d_Mo_line_75 : decode b_Mo_line 75 = .ok (.bipush 12, 2) := by decide +kernel
theorem d_Mo_line_77 : decode b_Mo_line 77 = .ok (.if_icmp .le 5, 3) := by decide +kernel
theorem d_Mo_line_80 : decode b_Mo_line 80 = .ok (.iconst 2, 1) := by decide +kernel
theorem d_Mo_line_81 : decode b_Mo_line 81 = .ok (.ireturn, 1) := by decide +kernel
theorem d_Mo_line_82 : decode b_Mo_line 82 = .ok (.aload_n 0, 1) := by decide +kernel
theorem d_Mo_line_83 : decode b_Mo_line 83 = .ok (.getfield 17, 3) := by decide +kernel
theorem d_Mo_line_86 : decode b_Mo_line 86 = .ok (.iload_n 1, 1) := by decide +kernel
theorem d_Mo_line_87 : decode b_Mo_line 87 = .ok (.iaload, 1) := by decide +kernel
theorem d_Mo_line_88 : decode b_Mo_line 88 = .ok (.iconst (-1), 1) := by decide +kernel
theorem d_Mo_line_89 : decode b_Mo_line 89 = .ok (.if_icmp .ne 15, 3) := by decide +kernel
theorem d_Mo_line_92 : decode b_Mo_line 92 = .ok (.aload_n 0, 1) := by decide +kernel
theorem d_Mo_line_93 : decode b_Mo_line 93 = .ok (.invokevirtual 94, 3) := by decide +kernel
theorem d_Mo_line_96 : decode b_Mo_line 96 = .ok (.bipush 10, 2) := by decide +kernel
theorem d_Mo_line_98 : decode b_Mo_line 98 = .ok (.if_icmp .ne 6, 3) := by decide +kernel
theorem d_Mo_line_101 : decode b_Mo_line 101 = .ok (.bipush 9, 2) := by decide +kernel
theorem d_Mo_line_103 : decode b_Mo_line 103 = .ok (.ireturn, 1) := by decide +kernel
theorem d_Mo_line_104 : decode b_Mo_line 104 = .ok (.aload_n 0, 1) := by decide +kernel
theorem d_Mo_line_105 : decode b_Mo_line 105 = .ok (.getfield 17, 3) := by decide +kernel
theorem d_Mo_line_108 : decode b_Mo_line 108 = .ok (.iload_n 1, 1) := by decide +kernel
theorem d_Mo_line_109 : decode b_Mo_line 109 = .ok (.iload_n 2, 1) := by decide +kernel
theorem d_Mo_line_110 : decode b_Mo_line 110 = .ok (.iastore, 1) := by decide +kernel
theorem d_Mo_line_111 : decode b_Mo_line 111 = .ok (.iconst 0, 1) := by decide +kernel
theorem d_Mo_line_112 : decode b_Mo_line 112 = .ok (.istore 5, 2) := by decide +kernel
theorem d_Mo_line_114 : decode b_Mo_line 114 = .ok (.iload 5, 2) := by decide +kernel
theorem d_Mo_line_116 : decode b_Mo_line 116 = .ok (.bipush 12, 2) := by decide +kernel
theorem d_Mo_line_118 : decode b_Mo_line 118 = .ok (.if_icmp .ge 40, 3) := by decide +kernel
theorem d_Mo_line_121 : decode b_Mo_line 121 = .ok (.aload_n 0, 1) := by decide +kernel
theorem d_Mo_line_122 : decode b_Mo_line 122 = .ok (.getfield 20, 3) := by decide +kernel
theorem d_Mo_line_125 : decode b_Mo_line 125 = .ok (.bipush 12, 2) := by decide +kernel
theorem d_Mo_line_127 : decode b_Mo_line 127 = .ok (.iload_n 1, 1) := by decide +kernel
theorem d_Mo_line_128 : decode b_Mo_line 128 = .ok (.imul, 1) := by decide +kernel
theorem d_Mo_line_129 : decode b_Mo_line 129 = .ok (.iload 5, 2) := by decide +kernel
theorem d_Mo_line_131 : decode b_Mo_line 131 = .ok (.iadd, 1) := by decide +kernel
theorem d_Mo_line_132 : decode b_Mo_line 132 = .ok (.iload 5, 2) := by decide +kernel
theorem d_Mo_line_134 : decode b_Mo_line 134 = .ok (.iload_n 2, 1) := by decide +kernel
theorem d_Mo_line_135 : decode b_Mo_line 135 = .ok (.if_icmp .ge 15, 3) := by decide +kernel
theorem d_Mo_line_138 : decode b_Mo_line 138 = .ok (.aload_n 0, 1) := by decide +kernel
theorem d_Mo_line_139 : decode b_Mo_line 139 = .ok (.getfield 29, 3) := by decide +kernel
theorem d_Mo_line_142 : decode b_Mo_line 142 = .ok (.iload_n 3, 1) := by decide +kernel
theorem d_Mo_line_143 : decode b_Mo_line 143 = .ok (.iload 5, 2) := by decide +kernel
theorem d_Mo_line_145 : decode b_Mo_line 145 = .ok (.iadd, 1) := by decide +kernel
theorem d_Mo_line_146 : decode b_Mo_line 146 = .ok (.iaload, 1) := by decide +kernel
theorem d_Mo_line_147 : decode b_Mo_line 147 = .ok (.goto 4, 3) := by decide +kernel
theorem d_Mo_line_150 : decode b_Mo_line 150 = .ok (.iconst 0, 1) := by decide +kernel
theorem d_Mo_line_151 : decode b_Mo_line 151 = .ok (.iastore, 1) := by decide +kernel
theorem d_Mo_line_152 : decode b_Mo_line 152 = .ok (.iinc 5 1, 3) := by decide +kernel
theorem d_Mo_line_155 : decode b_Mo_line 155 = .ok (.goto (-41), 3) := by decide +kernel
theorem d_Mo_line_158 : decode b_Mo_line 158 = .ok (.iload 4, 2) := by decide +kernel
theorem d_Mo_line_160 : decode b_Mo_line 160 = .ok (.ifCond .le 8, 3) := by decide +kernel
theorem d_Mo_line_163 : decode b_Mo_line 163 = .ok (.iload 4, 2) := by decide +kernel
theorem d_Mo_line_165 : decode b_Mo_line 165 = .ok (.goto 4, 3) := by decide +kernel
theorem d_Mo_line_168 : decode b_Mo_line 168 = .ok (.iconst 0, 1) := by decide +kernel
theorem d_Mo_line_169 : decode b_Mo_line 169 = .ok (.ireturn, 1) := by decide +kernel
theorem d_Mo_feed_0 : decode b_Mo_feed 0 = .ok (.aload_n 0, 1) := by decide +kernel
theorem d_Mo_feed_1 : decode b_Mo_feed 1 = .ok (.iconst 0, 1) := by decide +kernel
theorem d_Mo_feed_2 : decode b_Mo_feed 2 = .ok (.putfield 47, 3) := by decide +kernel
theorem d_Mo_feed_5 : decode b_Mo_feed 5 = .ok (.aload_n 0, 1) := by decide +kernel
theorem d_Mo_feed_6 : decode b_Mo_feed 6 = .ok (.getfield 56, 3) := by decide +kernel
theorem d_Mo_feed_9 : decode b_Mo_feed 9 = .ok (.ifCond .eq 6, 3) := by decide +kernel
theorem d_Mo_feed_12 : decode b_Mo_feed 12 = .ok (.bipush 7, 2) := by decide +kernel
theorem d_Mo_feed_14 : decode b_Mo_feed 14 = .ok (.ireturn, 1) := by decide +kernel
theorem d_Mo_feed_15 : decode b_Mo_feed 15 = .ok (.iload_n 1, 1) := by decide +kernel
theorem d_Mo_feed_16 : decode b_Mo_feed 16 = .ok (.bipush 10, 2) := by decide +kernel
theorem d_Mo_feed_18 : decode b_Mo_feed 18 = .ok (.if_icmp .eq 34, 3) := by decide +kernel
theorem d_Mo_feed_21 : decode b_Mo_feed 21 = .ok (.aload_n 0, 1) := by decide +kernel
theorem d_Mo_feed_22 : decode b_Mo_feed 22 = .ok (.getfield 53, 3) := by decide +kernel
theorem d_Mo_feed_25 : decode b_Mo_feed 25 = .ok (.bipush 15, 2) := by decide +kernel
theorem d_Mo_feed_27 : decode b_Mo_feed 27 = .ok (.if_icmp .ge 23, 3) := by decide +kernel
theorem d_Mo_feed_30 : decode b_Mo_feed 30 = .ok (.aload_n 0, 1) := by decide +kernel
theorem d_Mo_feed_31 : decode b_Mo_feed 31 = .ok (.getfield 29, 3) := by decide +kernel
theorem d_Mo_feed_34 : decode b_Mo_feed 34 = .ok (.aload_n 0, 1) := by decide +kernel
theorem d_Mo_feed_35 : decode b_Mo_feed 35 = .ok (.getfield 53, 3) := by decide +kernel
theorem d_Mo_feed_38 : decode b_Mo_feed 38 = .ok (.iload_n 1, 1) := by decide +kernel
theorem d_Mo_feed_39 : decode b_Mo_feed 39 = .ok (.iastore, 1) := by decide +kernel
theorem d_Mo_feed_40 : decode b_Mo_feed 40 = .ok (.aload_n 0, 1) := by decide +kernel
theorem d_Mo_feed_41 : decode b_Mo_feed 41 = .ok (.dup, 1) := by decide +kernel
theorem d_Mo_feed_42 : decode b_Mo_feed 42 = .ok (.getfield 53, 3) := by decide +kernel
theorem d_Mo_feed_45 : decode b_Mo_feed 45 = .ok (.iconst 1, 1) := by decide +kernel
theorem d_Mo_feed_46 : decode b_Mo_feed 46 = .ok (.iadd, 1) := by decide +kernel
theorem d_Mo_feed_47 : decode b_Mo_feed 47 = .ok (.putfield 53, 3) := by decide +kernel
theorem d_Mo_feed_50 : decode b_Mo_feed 50 = .ok (.iconst 0, 1) := by decide +kernel
theorem d_Mo_feed_51 : decode b_Mo_feed 51 = .ok (.ireturn, 1) := by decide +kernel
theorem d_Mo_feed_52 : decode b_Mo_feed 52 = .ok (.aload_n 0, 1) := by decide +kernel
theorem d_Mo_feed_53 : decode b_Mo_feed 53 = .ok (.getfield 53, 3) := by decide +kernel
theorem d_Mo_feed_56 : decode b_Mo_feed 56 = .ok (.ifCond .ne 7, 3) := by decide +kernel
theorem d_Mo_feed_59 : decode b_Mo_feed 59 = .ok (.iconst 0, 1) := by decide +kernel
theorem d_Mo_feed_60 : decode b_Mo_feed 60 = .ok (.goto 26, 3) := by decide +kernel
theorem d_Mo_feed_63 : decode b_Mo_feed 63 = .ok (.aload_n 0, 1) := by decide +kernel
theorem d_Mo_feed_64 : decode b_Mo_feed 64 = .ok (.getfield 29, 3) := by decide +kernel
theorem d_Mo_feed_67 : decode b_Mo_feed 67 = .ok (.iconst 0, 1) := by decide +kernel
theorem d_Mo_feed_68 : decode b_Mo_feed 68 = .ok (.iaload, 1) := by decide +kernel
theorem d_Mo_feed_69 : decode b_Mo_feed 69 = .ok (.invokestatic 134, 3) := by decide +kernel
theorem d_Mo_feed_72 : decode b_Mo_feed 72 = .ok (.ifCond .eq 10, 3) := by decide +kernel
theorem d_Mo_feed_75 : decode b_Mo_feed 75 = .ok (.aload_n 0, 1) := by decide +kernel
theorem d_Mo_feed_76 : decode b_Mo_feed 76 = .ok (.invokevirtual 198, 3) := by decide +kernel
theorem d_Mo_feed_79 : decode b_Mo_feed 79 = .ok (.goto 7, 3) := by decide +kernel
theorem d_Mo_feed_82 : decode b_Mo_feed 82 = .ok (.aload_n 0, 1) := by decide +kernel
theorem d_Mo_feed_83 : decode b_Mo_feed 83 = .ok (.invokevirtual 201, 3) := by decide +kernel
theorem d_Mo_feed_86 : decode b_Mo_feed 86 = .ok (.istore_n 2, 1) := by decide +kernel
theorem d_Mo_feed_87 : decode b_Mo_feed 87 = .ok (.aload_n 0, 1) := by decide +kernel
theorem d_Mo_feed_88 : decode b_Mo_feed 88 = .ok (.iconst 0, 1) := by decide +kernel
theorem d_Mo_feed_89 : decode b_Mo_feed 89 = .ok (.putfield 53, 3) := by decide +kernel
theorem d_Mo_feed_92 : decode b_Mo_feed 92 = .ok (.iload_n 2, 1) := by decide +kernel
theorem d_Mo_feed_93 : decode b_Mo_feed 93 = .ok (.ireturn, 1) := by decide +kernel
theorem d_Mo_arm_0 : decode b_Mo_arm 0 = .ok (.aload_n 0, 1) := by decide +kernel
theorem d_Mo_arm_1 : decode b_Mo_arm 1 = .ok (.iload_n 1, 1) := by decide +kernel
theorem d_Mo_arm_2 : decode b_Mo_arm 2 = .ok (.ifCond .lt 10, 3) := by decide +kernel
theorem d_Mo_arm_5 : decode b_Mo_arm 5 = .ok (.iload_n 1, 1) := by decide +kernel
theorem d_Mo_arm_6 : decode b_Mo_arm 6 = .ok (.sipush 1000, 3) := by decide +kernel
theorem d_Mo_arm_9 : decode b_Mo_arm 9 = .ok (.if_icmp .le 7, 3) := by decide +kernel
theorem d_Mo_arm_12 : decode b_Mo_arm 12 = .ok (.iconst 1, 1) := by decide +kernel
theorem d_Mo_arm_13 : decode b_Mo_arm 13 = .ok (.goto 4, 3) := by decide +kernel
theorem d_Mo_arm_16 : decode b_Mo_arm 16 = .ok (.iconst 0, 1) := by decide +kernel
theorem d_Mo_arm_17 : decode b_Mo_arm 17 = .ok (.putfield 47, 3) := by decide +kernel
theorem d_Mo_arm_20 : decode b_Mo_arm 20 = .ok (.aload_n 0, 1) := by decide +kernel
theorem d_Mo_arm_21 : decode b_Mo_arm 21 = .ok (.getfield 47, 3) := by decide +kernel
theorem d_Mo_arm_24 : decode b_Mo_arm 24 = .ok (.ifCond .le 5, 3) := by decide +kernel
theorem d_Mo_arm_27 : decode b_Mo_arm 27 = .ok (.iconst 0, 1) := by decide +kernel
theorem d_Mo_arm_28 : decode b_Mo_arm 28 = .ok (.ireturn, 1) := by decide +kernel
theorem d_Mo_arm_29 : decode b_Mo_arm 29 = .ok (.aload_n 0, 1) := by decide +kernel
theorem d_Mo_arm_30 : decode b_Mo_arm 30 = .ok (.iload_n 1, 1) := by decide +kernel
theorem d_Mo_arm_31 : decode b_Mo_arm 31 = .ok (.putfield 13, 3) := by decide +kernel
theorem d_Mo_arm_34 : decode b_Mo_arm 34 = .ok (.iconst 1, 1) := by decide +kernel
theorem d_Mo_arm_35 : decode b_Mo_arm 35 = .ok (.ireturn, 1) := by decide +kernel
theorem d_Mo_out_0 : decode b_Mo_out 0 = .ok (.aload_n 0, 1) := by decide +kernel
theorem d_Mo_out_1 : decode b_Mo_out 1 = .ok (.iload_n 1, 1) := by decide +kernel
theorem d_Mo_out_2 : decode b_Mo_out 2 = .ok (.ifCond .lt 17, 3) := by decide +kernel
theorem d_Mo_out_5 : decode b_Mo_out 5 = .ok (.iload_n 1, 1) := by decide +kernel
theorem d_Mo_out_6 : decode b_Mo_out 6 = .ok (.aload_n 0, 1) := by decide +kernel
theorem d_Mo_out_7 : decode b_Mo_out 7 = .ok (.getfield 109, 3) := by decide +kernel
theorem d_Mo_out_10 : decode b_Mo_out 10 = .ok (.if_icmp .ge 9, 3) := by decide +kernel
theorem d_Mo_out_13 : decode b_Mo_out 13 = .ok (.iload_n 1, 1) := by decide +kernel
theorem d_Mo_out_14 : decode b_Mo_out 14 = .ok (.bipush 60, 2) := by decide +kernel
theorem d_Mo_out_16 : decode b_Mo_out 16 = .ok (.if_icmp .lt 7, 3) := by decide +kernel
theorem d_Mo_out_19 : decode b_Mo_out 19 = .ok (.iconst 1, 1) := by decide +kernel
theorem d_Mo_out_20 : decode b_Mo_out 20 = .ok (.goto 4, 3) := by decide +kernel
theorem d_Mo_out_23 : decode b_Mo_out 23 = .ok (.iconst 0, 1) := by decide +kernel
theorem d_Mo_out_24 : decode b_Mo_out 24 = .ok (.putfield 47, 3) := by decide +kernel
theorem d_Mo_out_27 : decode b_Mo_out 27 = .ok (.aload_n 0, 1) := by decide +kernel
theorem d_Mo_out_28 : decode b_Mo_out 28 = .ok (.getfield 47, 3) := by decide +kernel
theorem d_Mo_out_31 : decode b_Mo_out 31 = .ok (.ifCond .le 7, 3) := by decide +kernel
theorem d_Mo_out_34 : decode b_Mo_out 34 = .ok (.iconst 0, 1) := by decide +kernel
theorem d_Mo_out_35 : decode b_Mo_out 35 = .ok (.goto 9, 3) := by decide +kernel
theorem d_Mo_out_38 : decode b_Mo_out 38 = .ok (.aload_n 0, 1) := by decide +kernel
theorem d_Mo_out_39 : decode b_Mo_out 39 = .ok (.getfield 26, 3) := by decide +kernel
theorem d_Mo_out_42 : decode b_Mo_out 42 = .ok (.iload_n 1, 1) := by decide +kernel
theorem d_Mo_out_43 : decode b_Mo_out 43 = .ok (.iaload, 1) := by decide +kernel
theorem d_Mo_out_44 : decode b_Mo_out 44 = .ok (.ireturn, 1) := by decide +kernel
theorem d_Mo_outs_0 : decode b_Mo_outs 0 = .ok (.aload_n 0, 1) := by decide +kernel
theorem d_Mo_outs_1 : decode b_Mo_outs 1 = .ok (.iconst 0, 1) := by decide +kernel
theorem d_Mo_outs_2 : decode b_Mo_outs 2 = .ok (.putfield 47, 3) := by decide +kernel
theorem d_Mo_outs_5 : decode b_Mo_outs 5 = .ok (.aload_n 0, 1) := by decide +kernel
theorem d_Mo_outs_6 : decode b_Mo_outs 6 = .ok (.getfield 109, 3) := by decide +kernel
theorem d_Mo_outs_9 : decode b_Mo_outs 9 = .ok (.ireturn, 1) := by decide +kernel
theorem d_Mo_disk_0 : decode b_Mo_disk 0 = .ok (.aload_n 0, 1) := by decide +kernel
theorem d_Mo_disk_1 : decode b_Mo_disk 1 = .ok (.iload_n 1, 1) := by decide +kernel
theorem d_Mo_disk_2 : decode b_Mo_disk 2 = .ok (.ifCond .lt 10, 3) := by decide +kernel
theorem d_Mo_disk_5 : decode b_Mo_disk 5 = .ok (.iload_n 1, 1) := by decide +kernel
theorem d_Mo_disk_6 : decode b_Mo_disk 6 = .ok (.sipush 511, 3) := by decide +kernel
theorem d_Mo_disk_9 : decode b_Mo_disk 9 = .ok (.if_icmp .le 7, 3) := by decide +kernel
theorem d_Mo_disk_12 : decode b_Mo_disk 12 = .ok (.iconst 1, 1) := by decide +kernel
theorem d_Mo_disk_13 : decode b_Mo_disk 13 = .ok (.goto 4, 3) := by decide +kernel
theorem d_Mo_disk_16 : decode b_Mo_disk 16 = .ok (.iconst 0, 1) := by decide +kernel
theorem d_Mo_disk_17 : decode b_Mo_disk 17 = .ok (.putfield 47, 3) := by decide +kernel
theorem d_Mo_disk_20 : decode b_Mo_disk 20 = .ok (.aload_n 0, 1) := by decide +kernel
theorem d_Mo_disk_21 : decode b_Mo_disk 21 = .ok (.getfield 47, 3) := by decide +kernel
theorem d_Mo_disk_24 : decode b_Mo_disk 24 = .ok (.ifCond .le 7, 3) := by decide +kernel
theorem d_Mo_disk_27 : decode b_Mo_disk 27 = .ok (.iconst 0, 1) := by decide +kernel
theorem d_Mo_disk_28 : decode b_Mo_disk 28 = .ok (.goto 9, 3) := by decide +kernel
theorem d_Mo_disk_31 : decode b_Mo_disk 31 = .ok (.aload_n 0, 1) := by decide +kernel
theorem d_Mo_disk_32 : decode b_Mo_disk 32 = .ok (.getfield 7, 3) := by decide +kernel
theorem d_Mo_disk_35 : decode b_Mo_disk 35 = .ok (.iload_n 1, 1) := by decide +kernel
theorem d_Mo_disk_36 : decode b_Mo_disk 36 = .ok (.iaload, 1) := by decide +kernel
theorem d_Mo_disk_37 : decode b_Mo_disk 37 = .ok (.ireturn, 1) := by decide +kernel
theorem d_Mo_files_0 : decode b_Mo_files 0 = .ok (.aload_n 0, 1) := by decide +kernel
theorem d_Mo_files_1 : decode b_Mo_files 1 = .ok (.iconst 0, 1) := by decide +kernel
theorem d_Mo_files_2 : decode b_Mo_files 2 = .ok (.putfield 47, 3) := by decide +kernel
theorem d_Mo_files_5 : decode b_Mo_files 5 = .ok (.aload_n 0, 1) := by decide +kernel
theorem d_Mo_files_6 : decode b_Mo_files 6 = .ok (.getfield 56, 3) := by decide +kernel
theorem d_Mo_files_9 : decode b_Mo_files 9 = .ok (.ifCond .eq 6, 3) := by decide +kernel
theorem d_Mo_files_12 : decode b_Mo_files 12 = .ok (.bipush 7, 2) := by decide +kernel
theorem d_Mo_files_14 : decode b_Mo_files 14 = .ok (.ireturn, 1) := by decide +kernel
theorem d_Mo_files_15 : decode b_Mo_files 15 = .ok (.iconst 0, 1) := by decide +kernel
theorem d_Mo_files_16 : decode b_Mo_files 16 = .ok (.istore_n 1, 1) := by decide +kernel
theorem d_Mo_files_17 : decode b_Mo_files 17 = .ok (.iconst 0, 1) := by decide +kernel
theorem d_Mo_files_18 : decode b_Mo_files 18 = .ok (.istore_n 2, 1) := by decide +kernel
theorem d_Mo_files_19 : decode b_Mo_files 19 = .ok (.iload_n 2, 1) := by decide +kernel
theorem d_Mo_files_20 : decode b_Mo_files 20 = .ok (.bipush 8, 2) := by decide +kernel
theorem d_Mo_files_22 : decode b_Mo_files 22 = .ok (.if_icmp .ge 25, 3) := by decide +kernel
theorem d_Mo_files_25 : decode b_Mo_files 25 = .ok (.iload_n 1, 1) := by decide +kernel
theorem d_Mo_files_26 : decode b_Mo_files 26 = .ok (.aload_n 0, 1) := by decide +kernel
theorem d_Mo_files_27 : decode b_Mo_files 27 = .ok (.iload_n 2, 1) := by decide +kernel
theorem d_Mo_files_28 : decode b_Mo_files 28 = .ok (.invokevirtual 84, 3) := by decide +kernel
theorem d_Mo_files_31 : decode b_Mo_files 31 = .ok (.ifCond .eq 7, 3) := by decide +kernel
theorem d_Mo_files_34 : decode b_Mo_files 34 = .ok (.iconst 1, 1) := by decide +kernel
theorem d_Mo_files_35 : decode b_Mo_files 35 = .ok (.goto 4, 3) := by decide +kernel
theorem d_Mo_files_38 : decode b_Mo_files 38 = .ok (.iconst 0, 1) := by decide +kernel
theorem d_Mo_files_39 : decode b_Mo_files 39 = .ok (.iadd, 1) := by decide +kernel
theorem d_Mo_files_40 : decode b_Mo_files 40 = .ok (.istore_n 1, 1) := by decide +kernel
theorem d_Mo_files_41 : decode b_Mo_files 41 = .ok (.iinc 2 1, 3) := by decide +kernel
theorem d_Mo_files_44 : decode b_Mo_files 44 = .ok (.goto (-25), 3) := by decide +kernel
theorem d_Mo_files_47 : decode b_Mo_files 47 = .ok (.aload_n 0, 1) := by decide +kernel
theorem d_Mo_files_48 : decode b_Mo_files 48 = .ok (.invokevirtual 76, 3) := by decide +kernel
theorem d_Mo_files_51 : decode b_Mo_files 51 = .ok (.ifCond .eq 7, 3) := by decide +kernel
theorem d_Mo_files_54 : decode b_Mo_files 54 = .ok (.iload_n 1, 1) := by decide +kernel
theorem d_Mo_files_55 : decode b_Mo_files 55 = .ok (.goto 5, 3) := by decide +kernel
theorem d_Mo_files_58 : decode b_Mo_files 58 = .ok (.bipush 8, 2) := by decide +kernel
theorem d_Mo_files_60 : decode b_Mo_files 60 = .ok (.ireturn, 1) := by decide +kernel
theorem d_Mo_about_0 : decode b_Mo_about 0 = .ok (.aload_n 0, 1) := by decide +kernel
theorem d_Mo_about_1 : decode b_Mo_about 1 = .ok (.iconst 0, 1) := by decide +kernel
theorem d_Mo_about_2 : decode b_Mo_about 2 = .ok (.putfield 47, 3) := by decide +kernel
theorem d_Mo_about_5 : decode b_Mo_about 5 = .ok (.iload_n 1, 1) := by decide +kernel
theorem d_Mo_about_6 : decode b_Mo_about 6 = .ok (.ifCond .lt 9, 3) := by decide +kernel
theorem d_Mo_about_9 : decode b_Mo_about 9 = .ok (.iload_n 1, 1) := by decide +kernel
theorem d_Mo_about_10 : decode b_Mo_about 10 = .ok (.bipush 11, 2) := by decide +kernel
theorem d_Mo_about_12 : decode b_Mo_about 12 = .ok (.if_icmp .le 5, 3) := by decide +kernel
theorem d_Mo_about_15 : decode b_Mo_about 15 = .ok (.iconst (-1), 1) := by decide +kernel
theorem d_Mo_about_16 : decode b_Mo_about 16 = .ok (.ireturn, 1) := by decide +kernel
theorem d_Mo_about_17 : decode b_Mo_about 17 = .ok (.iload_n 1, 1) := by decide +kernel
theorem d_Mo_about_18 : decode b_Mo_about 18 = .ok (.bipush 11, 2) := by decide +kernel
theorem d_Mo_about_20 : decode b_Mo_about 20 = .ok (.if_icmp .ne 8, 3) := by decide +kernel
theorem d_Mo_about_23 : decode b_Mo_about 23 = .ok (.aload_n 0, 1) := by decide +kernel
theorem d_Mo_about_24 : decode b_Mo_about 24 = .ok (.getfield 63, 3) := by decide +kernel
theorem d_Mo_about_27 : decode b_Mo_about 27 = .ok (.ireturn, 1) := by decide +kernel
theorem d_Mo_about_28 : decode b_Mo_about 28 = .ok (.aload_n 0, 1) := by decide +kernel
theorem d_Mo_about_29 : decode b_Mo_about 29 = .ok (.getfield 56, 3) := by decide +kernel
theorem d_Mo_about_32 : decode b_Mo_about 32 = .ok (.ifCond .eq 6, 3) := by decide +kernel
theorem d_Mo_about_35 : decode b_Mo_about 35 = .ok (.bipush 7, 2) := by decide +kernel
theorem d_Mo_about_37 : decode b_Mo_about 37 = .ok (.ireturn, 1) := by decide +kernel
theorem d_Mo_about_38 : decode b_Mo_about 38 = .ok (.aload_n 0, 1) := by decide +kernel
theorem d_Mo_about_39 : decode b_Mo_about 39 = .ok (.invokevirtual 178, 3) := by decide +kernel
theorem d_Mo_about_42 : decode b_Mo_about 42 = .ok (.istore_n 2, 1) := by decide +kernel
theorem d_Mo_about_43 : decode b_Mo_about 43 = .ok (.iload_n 1, 1) := by decide +kernel
theorem d_Mo_about_44 : decode b_Mo_about 44 = .ok (.ifCond .ne 10, 3) := by decide +kernel
theorem d_Mo_about_47 : decode b_Mo_about 47 = .ok (.aload_n 0, 1) := by decide +kernel
theorem d_Mo_about_48 : decode b_Mo_about 48 = .ok (.invokevirtual 94, 3) := by decide +kernel
theorem d_Mo_about_51 : decode b_Mo_about 51 = .ok (.goto 43, 3) := by decide +kernel
theorem d_Mo_about_54 : decode b_Mo_about 54 = .ok (.iload_n 1, 1) := by decide +kernel
theorem d_Mo_about_55 : decode b_Mo_about 55 = .ok (.bipush 9, 2) := by decide +kernel
theorem d_Mo_about_57 : decode b_Mo_about 57 = .ok (.if_icmp .ge 14, 3) := by decide +kernel
theorem d_Mo_about_60 : decode b_Mo_about 60 = .ok (.aload_n 0, 1) := by decide +kernel
theorem d_Mo_about_61 : decode b_Mo_about 61 = .ok (.getfield 23, 3) := by decide +kernel
theorem d_Mo_about_64 : decode b_Mo_about 64 = .ok (.iload_n 1, 1) := by decide +kernel
theorem d_Mo_about_65 : decode b_Mo_about 65 = .ok (.iconst 1, 1) := by decide +kernel
theorem d_Mo_about_66 : decode b_Mo_about 66 = .ok (.isub, 1) := by decide +kernel
theorem d_Mo_about_67 : decode b_Mo_about 67 = .ok (.iaload, 1) := by decide +kernel
theorem d_Mo_about_68 : decode b_Mo_about 68 = .ok (.goto 26, 3) := by decide +kernel
theorem d_Mo_about_71 : decode b_Mo_about 71 = .ok (.iload_n 1, 1) := by decide +kernel
theorem d_Mo_about_72 : decode b_Mo_about 72 = .ok (.bipush 10, 2) := by decide +kernel
theorem d_Mo_about_74 : decode b_Mo_about 74 = .ok (.if_icmp .ne 10, 3) := by decide +kernel
theorem d_Mo_about_77 : decode b_Mo_about 77 = .ok (.aload_n 0, 1) := by decide +kernel
theorem d_Mo_about_78 : decode b_Mo_about 78 = .ok (.getfield 53, 3) := by decide +kernel
theorem d_Mo_about_81 : decode b_Mo_about 81 = .ok (.goto 13, 3) := by decide +kernel
theorem d_Mo_about_84 : decode b_Mo_about 84 = .ok (.iload_n 2, 1) := by decide +kernel
theorem d_Mo_about_85 : decode b_Mo_about 85 = .ok (.iconst (-1), 1) := by decide +kernel
theorem d_Mo_about_86 : decode b_Mo_about 86 = .ok (.if_icmp .ne 7, 3) := by decide +kernel
theorem d_Mo_about_89 : decode b_Mo_about 89 = .ok (.iconst 0, 1) := by decide +kernel
theorem d_Mo_about_90 : decode b_Mo_about 90 = .ok (.goto 4, 3) := by decide +kernel
theorem d_Mo_about_93 : decode b_Mo_about 93 = .ok (.iload_n 2, 1) := by decide +kernel
theorem d_Mo_about_94 : decode b_Mo_about 94 = .ok (.ireturn, 1) := by decide +kernel
theorem d_Jo_init_0 : decode b_Jo_init 0 = .ok (.aload_n 0, 1) := by decide +kernel
theorem d_Jo_init_1 : decode b_Jo_init 1 = .ok (.invokespecial 3, 3) := by decide +kernel
theorem d_Jo_init_4 : decode b_Jo_init 4 = .ok (.aload_n 0, 1) := by decide +kernel
theorem d_Jo_init_5 : decode b_Jo_init 5 = .ok (.bipush 96, 2) := by decide +kernel
theorem d_Jo_init_7 : decode b_Jo_init 7 = .ok (.newarray .int, 2) := by decide +kernel
theorem d_Jo_init_9 : decode b_Jo_init 9 = .ok (.putfield 9, 3) := by decide +kernel
theorem d_Jo_init_12 : decode b_Jo_init 12 = .ok (.aload_n 0, 1) := by decide +kernel
theorem d_Jo_init_13 : decode b_Jo_init 13 = .ok (.bipush 16, 2) := by decide +kernel
theorem d_Jo_init_15 : decode b_Jo_init 15 = .ok (.newarray .int, 2) := by decide +kernel
theorem d_Jo_init_17 : decode b_Jo_init 17 = .ok (.putfield 15, 3) := by decide +kernel
theorem d_Jo_init_20 : decode b_Jo_init 20 = .ok (.aload_n 0, 1) := by decide +kernel
theorem d_Jo_init_21 : decode b_Jo_init 21 = .ok (.iconst 0, 1) := by decide +kernel
theorem d_Jo_init_22 : decode b_Jo_init 22 = .ok (.putfield 18, 3) := by decide +kernel
theorem d_Jo_init_25 : decode b_Jo_init 25 = .ok (.return_, 1) := by decide +kernel
theorem d_Jo_begin_0 : decode b_Jo_begin 0 = .ok (.aload_n 0, 1) := by decide +kernel
theorem d_Jo_begin_1 : decode b_Jo_begin 1 = .ok (.getfield 9, 3) := by decide +kernel
theorem d_Jo_begin_4 : decode b_Jo_begin 4 = .ok (.iconst 0, 1) := by decide +kernel
theorem d_Jo_begin_5 : decode b_Jo_begin 5 = .ok (.invokestatic 22, 3) := by decide +kernel
theorem d_Jo_begin_8 : decode b_Jo_begin 8 = .ok (.aload_n 0, 1) := by decide +kernel
theorem d_Jo_begin_9 : decode b_Jo_begin 9 = .ok (.getfield 15, 3) := by decide +kernel
theorem d_Jo_begin_12 : decode b_Jo_begin 12 = .ok (.iconst 0, 1) := by decide +kernel
theorem d_Jo_begin_13 : decode b_Jo_begin 13 = .ok (.invokestatic 22, 3) := by decide +kernel
theorem d_Jo_begin_16 : decode b_Jo_begin 16 = .ok (.aload_n 0, 1) := by decide +kernel
theorem d_Jo_begin_17 : decode b_Jo_begin 17 = .ok (.iconst 0, 1) := by decide +kernel
theorem d_Jo_begin_18 : decode b_Jo_begin 18 = .ok (.putfield 18, 3) := by decide +kernel
theorem d_Jo_begin_21 : decode b_Jo_begin 21 = .ok (.return_, 1) := by decide +kernel
theorem d_Jo_takeEmpty_0 : decode b_Jo_takeEmpty 0 = .ok (.aload_n 0, 1) := by decide +kernel
theorem d_Jo_takeEmpty_1 : decode b_Jo_takeEmpty 1 = .ok (.getfield 18, 3) := by decide +kernel
theorem d_Jo_takeEmpty_4 : decode b_Jo_takeEmpty 4 = .ok (.bipush 6, 2) := by decide +kernel
theorem d_Jo_takeEmpty_6 : decode b_Jo_takeEmpty 6 = .ok (.if_icmp .ge 33, 3) := by decide +kernel
theorem d_Jo_takeEmpty_9 : decode b_Jo_takeEmpty 9 = .ok (.aload_n 0, 1) := by decide +kernel
theorem d_Jo_takeEmpty_10 : decode b_Jo_takeEmpty 10 = .ok (.dup, 1) := by decide +kernel
theorem d_Jo_takeEmpty_11 : decode b_Jo_takeEmpty 11 = .ok (.getfield 18, 3) := by decide +kernel
theorem d_Jo_takeEmpty_14 : decode b_Jo_takeEmpty 14 = .ok (.iconst 1, 1) := by decide +kernel
theorem d_Jo_takeEmpty_15 : decode b_Jo_takeEmpty 15 = .ok (.iadd, 1) := by decide +kernel
theorem d_Jo_takeEmpty_16 : decode b_Jo_takeEmpty 16 = .ok (.putfield 18, 3) := by decide +kernel
theorem d_Jo_takeEmpty_19 : decode b_Jo_takeEmpty 19 = .ok (.aload_n 0, 1) := by decide +kernel
theorem d_Jo_takeEmpty_20 : decode b_Jo_takeEmpty 20 = .ok (.getfield 15, 3) := by decide +kernel
theorem d_Jo_takeEmpty_23 : decode b_Jo_takeEmpty 23 = .ok (.iconst 0, 1) := by decide +kernel
theorem d_Jo_takeEmpty_24 : decode b_Jo_takeEmpty 24 = .ok (.aload_n 0, 1) := by decide +kernel
theorem d_Jo_takeEmpty_25 : decode b_Jo_takeEmpty 25 = .ok (.getfield 18, 3) := by decide +kernel
theorem d_Jo_takeEmpty_28 : decode b_Jo_takeEmpty 28 = .ok (.iastore, 1) := by decide +kernel
theorem d_Jo_takeEmpty_29 : decode b_Jo_takeEmpty 29 = .ok (.aload_n 0, 1) := by decide +kernel
theorem d_Jo_takeEmpty_30 : decode b_Jo_takeEmpty 30 = .ok (.getfield 15, 3) := by decide +kernel
theorem d_Jo_takeEmpty_33 : decode b_Jo_takeEmpty 33 = .ok (.aload_n 0, 1) := by decide +kernel
theorem d_Jo_takeEmpty_34 : decode b_Jo_takeEmpty 34 = .ok (.getfield 18, 3) := by decide +kernel
theorem d_Jo_takeEmpty_37 : decode b_Jo_takeEmpty 37 = .ok (.iload_n 1, 1) := by decide +kernel
theorem d_Jo_takeEmpty_38 : decode b_Jo_takeEmpty 38 = .ok (.iastore, 1) := by decide +kernel
theorem d_Jo_takeEmpty_39 : decode b_Jo_takeEmpty 39 = .ok (.return_, 1) := by decide +kernel
theorem d_Jo_takeAsItIs_0 : decode b_Jo_takeAsItIs 0 = .ok (.aload_n 0, 1) := by decide +kernel
theorem d_Jo_takeAsItIs_1 : decode b_Jo_takeAsItIs 1 = .ok (.getfield 18, 3) := by decide +kernel
theorem d_Jo_takeAsItIs_4 : decode b_Jo_takeAsItIs 4 = .ok (.bipush 16, 2) := by decide +kernel
theorem d_Jo_takeAsItIs_6 : decode b_Jo_takeAsItIs 6 = .ok (.imul, 1) := by decide +kernel
theorem d_Jo_takeAsItIs_7 : decode b_Jo_takeAsItIs 7 = .ok (.istore_n 3, 1) := by decide +kernel
theorem d_Jo_takeAsItIs_8 : decode b_Jo_takeAsItIs 8 = .ok (.aload_n 0, 1) := by decide +kernel
theorem d_Jo_takeAsItIs_9 : decode b_Jo_takeAsItIs 9 = .ok (.iload_n 2, 1) := by decide +kernel
theorem d_Jo_takeAsItIs_10 : decode b_Jo_takeAsItIs 10 = .ok (.invokevirtual 28, 3) := by decide +kernel
theorem d_Jo_takeAsItIs_13 : decode b_Jo_takeAsItIs 13 = .ok (.iconst 0, 1) := by decide +kernel
theorem d_Jo_takeAsItIs_14 : decode b_Jo_takeAsItIs 14 = .ok (.istore 4, 2) := by decide +kernel
theorem d_Jo_takeAsItIs_16 : decode b_Jo_takeAsItIs 16 = .ok (.iload 4, 2) := by decide +kernel
theorem d_Jo_takeAsItIs_18 : decode b_Jo_takeAsItIs 18 = .ok (.bipush 16, 2) := by decide +kernel
theorem d_Jo_takeAsItIs_20 : decode b_Jo_takeAsItIs 20 = .ok (.if_icmp .ge 28, 3) := by decide +kernel
theorem d_Jo_takeAsItIs_23 : decode b_Jo_takeAsItIs 23 = .ok (.aload_n 0, 1) := by decide +kernel
theorem d_Jo_takeAsItIs_24 : decode b_Jo_takeAsItIs 24 = .ok (.iload_n 3, 1) := by decide +kernel
theorem d_Jo_takeAsItIs_25 : decode b_Jo_takeAsItIs 25 = .ok (.iload 4, 2) := by decide +kernel
theorem d_Jo_takeAsItIs_27 : decode b_Jo_takeAsItIs 27 = .ok (.iadd, 1) := by decide +kernel
theorem d_Jo_takeAsItIs_28 : decode b_Jo_takeAsItIs 28 = .ok (.aload_n 1, 1) := by decide +kernel
theorem d_Jo_takeAsItIs_29 : decode b_Jo_takeAsItIs 29 = .ok (.iload_n 2, 1) := by decide +kernel
theorem d_Jo_takeAsItIs_30 : decode b_Jo_takeAsItIs 30 = .ok (.bipush 16, 2) := by decide +kernel
theorem d_Jo_takeAsItIs_32 : decode b_Jo_takeAsItIs 32 = .ok (.imul, 1) := by decide +kernel
theorem d_Jo_takeAsItIs_33 : decode b_Jo_takeAsItIs 33 = .ok (.iload 4, 2) := by decide +kernel
theorem d_Jo_takeAsItIs_35 : decode b_Jo_takeAsItIs 35 = .ok (.iadd, 1) := by decide +kernel
theorem d_Jo_takeAsItIs_36 : decode b_Jo_takeAsItIs 36 = .ok (.invokevirtual 32, 3) := by decide +kernel
theorem d_Jo_takeAsItIs_39 : decode b_Jo_takeAsItIs 39 = .ok (.invokevirtual 38, 3) := by decide +kernel
theorem d_Jo_takeAsItIs_42 : decode b_Jo_takeAsItIs 42 = .ok (.iinc 4 1, 3) := by decide +kernel
theorem d_Jo_takeAsItIs_45 : decode b_Jo_takeAsItIs 45 = .ok (.goto (-29), 3) := by decide +kernel
theorem d_Jo_takeAsItIs_48 : decode b_Jo_takeAsItIs 48 = .ok (.return_, 1) := by decide +kernel
theorem d_Jo_put_0 : decode b_Jo_put 0 = .ok (.iload_n 1, 1) := by decide +kernel
theorem d_Jo_put_1 : decode b_Jo_put 1 = .ok (.ifCond .lt 19, 3) := by decide +kernel
theorem d_Jo_put_4 : decode b_Jo_put 4 = .ok (.iload_n 1, 1) := by decide +kernel
theorem d_Jo_put_5 : decode b_Jo_put 5 = .ok (.aload_n 0, 1) := by decide +kernel
theorem d_Jo_put_6 : decode b_Jo_put 6 = .ok (.getfield 9, 3) := by decide +kernel
theorem d_Jo_put_9 : decode b_Jo_put 9 = .ok (.arraylength, 1) := by decide +kernel
theorem d_Jo_put_10 : decode b_Jo_put 10 = .ok (.if_icmp .ge 10, 3) := by decide +kernel
theorem d_Jo_put_13 : decode b_Jo_put 13 = .ok (.aload_n 0, 1) := by decide +kernel
theorem d_Jo_put_14 : decode b_Jo_put 14 = .ok (.getfield 9, 3) := by decide +kernel
theorem d_Jo_put_17 : decode b_Jo_put 17 = .ok (.iload_n 1, 1) := by decide +kernel
theorem d_Jo_put_18 : decode b_Jo_put 18 = .ok (.iload_n 2, 1) := by decide +kernel
theorem d_Jo_put_19 : decode b_Jo_put 19 = .ok (.iastore, 1) := by decide +kernel
theorem d_Jo_put_20 : decode b_Jo_put 20 = .ok (.return_, 1) := by decide +kernel
