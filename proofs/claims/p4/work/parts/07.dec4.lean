theorem d_Mo_piece_0 : decode b_Mo_piece 0 = .ok (.aload_n 0, 1) := by decide +kernel
theorem d_Mo_piece_1 : decode b_Mo_piece 1 = .ok (.invokevirtual 124, 3) := by decide +kernel
theorem d_Mo_piece_4 : decode b_Mo_piece 4 = .ok (.istore_n 1, 1) := by decide +kernel
theorem d_Mo_piece_5 : decode b_Mo_piece 5 = .ok (.iload_n 1, 1) := by decide +kernel
theorem d_Mo_piece_6 : decode b_Mo_piece 6 = .ok (.bipush 40, 2) := by decide +kernel
theorem d_Mo_piece_8 : decode b_Mo_piece 8 = .ok (.if_icmp .ne 36, 3) := by decide +kernel
theorem d_Mo_piece_11 : decode b_Mo_piece 11 = .ok (.aload_n 0, 1) := by decide +kernel
theorem d_Mo_piece_12 : decode b_Mo_piece 12 = .ok (.dup, 1) := by decide +kernel
theorem d_Mo_piece_13 : decode b_Mo_piece 13 = .ok (.getfield 112, 3) := by decide +kernel
theorem d_Mo_piece_16 : decode b_Mo_piece 16 = .ok (.iconst 1, 1) := by decide +kernel
theorem d_Mo_piece_17 : decode b_Mo_piece 17 = .ok (.iadd, 1) := by decide +kernel
theorem d_Mo_piece_18 : decode b_Mo_piece 18 = .ok (.putfield 112, 3) := by decide +kernel
theorem d_Mo_piece_21 : decode b_Mo_piece 21 = .ok (.aload_n 0, 1) := by decide +kernel
theorem d_Mo_piece_22 : decode b_Mo_piece 22 = .ok (.getfield 35, 3) := by decide +kernel
theorem d_Mo_piece_25 : decode b_Mo_piece 25 = .ok (.aload_n 0, 1) := by decide +kernel
theorem d_Mo_piece_26 : decode b_Mo_piece 26 = .ok (.getfield 137, 3) := by decide +kernel
theorem d_Mo_piece_29 : decode b_Mo_piece 29 = .ok (.bipush 40, 2) := by decide +kernel
theorem d_Mo_piece_31 : decode b_Mo_piece 31 = .ok (.iastore, 1) := by decide +kernel
theorem d_Mo_piece_32 : decode b_Mo_piece 32 = .ok (.aload_n 0, 1) := by decide +kernel
theorem d_Mo_piece_33 : decode b_Mo_piece 33 = .ok (.dup, 1) := by decide +kernel
theorem d_Mo_piece_34 : decode b_Mo_piece 34 = .ok (.getfield 137, 3) := by decide +kernel
theorem d_Mo_piece_37 : decode b_Mo_piece 37 = .ok (.iconst 1, 1) := by decide +kernel
theorem d_Mo_piece_38 : decode b_Mo_piece 38 = .ok (.iadd, 1) := by decide +kernel
theorem d_Mo_piece_39 : decode b_Mo_piece 39 = .ok (.putfield 137, 3) := by decide +kernel
theorem d_Mo_piece_42 : decode b_Mo_piece 42 = .ok (.iconst 0, 1) := by decide +kernel
theorem d_Mo_piece_43 : decode b_Mo_piece 43 = .ok (.ireturn, 1) := by decide +kernel
theorem d_Mo_piece_44 : decode b_Mo_piece 44 = .ok (.iload_n 1, 1) := by decide +kernel
theorem d_Mo_piece_45 : decode b_Mo_piece 45 = .ok (.invokestatic 143, 3) := by decide +kernel
theorem d_Mo_piece_48 : decode b_Mo_piece 48 = .ok (.ifCond .eq 15, 3) := by decide +kernel
theorem d_Mo_piece_51 : decode b_Mo_piece 51 = .ok (.aload_n 0, 1) := by decide +kernel
theorem d_Mo_piece_52 : decode b_Mo_piece 52 = .ok (.getfield 23, 3) := by decide +kernel
theorem d_Mo_piece_55 : decode b_Mo_piece 55 = .ok (.iload_n 1, 1) := by decide +kernel
theorem d_Mo_piece_56 : decode b_Mo_piece 56 = .ok (.bipush 65, 2) := by decide +kernel
theorem d_Mo_piece_58 : decode b_Mo_piece 58 = .ok (.isub, 1) := by decide +kernel
theorem d_Mo_piece_59 : decode b_Mo_piece 59 = .ok (.iaload, 1) := by decide +kernel
theorem d_Mo_piece_60 : decode b_Mo_piece 60 = .ok (.goto 4, 3) := by decide +kernel
theorem d_Mo_piece_63 : decode b_Mo_piece 63 = .ok (.iconst 0, 1) := by decide +kernel
theorem d_Mo_piece_64 : decode b_Mo_piece 64 = .ok (.istore_n 2, 1) := by decide +kernel
theorem d_Mo_piece_65 : decode b_Mo_piece 65 = .ok (.iconst 0, 1) := by decide +kernel
theorem d_Mo_piece_66 : decode b_Mo_piece 66 = .ok (.istore_n 3, 1) := by decide +kernel
theorem d_Mo_piece_67 : decode b_Mo_piece 67 = .ok (.aload_n 0, 1) := by decide +kernel
theorem d_Mo_piece_68 : decode b_Mo_piece 68 = .ok (.invokevirtual 124, 3) := by decide +kernel
theorem d_Mo_piece_71 : decode b_Mo_piece 71 = .ok (.invokestatic 134, 3) := by decide +kernel
theorem d_Mo_piece_74 : decode b_Mo_piece 74 = .ok (.ifCond .eq 38, 3) := by decide +kernel
theorem d_Mo_piece_77 : decode b_Mo_piece 77 = .ok (.iload_n 3, 1) := by decide +kernel
theorem d_Mo_piece_78 : decode b_Mo_piece 78 = .ok (.bipush 6, 2) := by decide +kernel
theorem d_Mo_piece_80 : decode b_Mo_piece 80 = .ok (.if_icmp .ge 32, 3) := by decide +kernel
theorem d_Mo_piece_83 : decode b_Mo_piece 83 = .ok (.bipush 10, 2) := by decide +kernel
theorem d_Mo_piece_85 : decode b_Mo_piece 85 = .ok (.iload_n 2, 1) := by decide +kernel
theorem d_Mo_piece_86 : decode b_Mo_piece 86 = .ok (.imul, 1) := by decide +kernel
theorem d_Mo_piece_87 : decode b_Mo_piece 87 = .ok (.aload_n 0, 1) := by decide +kernel
theorem d_Mo_piece_88 : decode b_Mo_piece 88 = .ok (.invokevirtual 124, 3) := by decide +kernel
theorem d_Mo_piece_91 : decode b_Mo_piece 91 = .ok (.iadd, 1) := by decide +kernel
theorem d_Mo_piece_92 : decode b_Mo_piece 92 = .ok (.bipush 48, 2) := by decide +kernel
theorem d_Mo_piece_94 : decode b_Mo_piece 94 = .ok (.isub, 1) := by decide +kernel
theorem d_Mo_piece_95 : decode b_Mo_piece 95 = .ok (.istore_n 2, 1) := by decide +kernel
theorem d_Mo_piece_96 : decode b_Mo_piece 96 = .ok (.aload_n 0, 1) := by decide +kernel
theorem d_Mo_piece_97 : decode b_Mo_piece 97 = .ok (.dup, 1) := by decide +kernel
theorem d_Mo_piece_98 : decode b_Mo_piece 98 = .ok (.getfield 112, 3) := by decide +kernel
theorem d_Mo_piece_101 : decode b_Mo_piece 101 = .ok (.iconst 1, 1) := by decide +kernel
theorem d_Mo_piece_102 : decode b_Mo_piece 102 = .ok (.iadd, 1) := by decide +kernel
theorem d_Mo_piece_103 : decode b_Mo_piece 103 = .ok (.putfield 112, 3) := by decide +kernel
theorem d_Mo_piece_106 : decode b_Mo_piece 106 = .ok (.iinc 3 1, 3) := by decide +kernel
theorem d_Mo_piece_109 : decode b_Mo_piece 109 = .ok (.goto (-42), 3) := by decide +kernel
theorem d_Mo_piece_112 : decode b_Mo_piece 112 = .ok (.aload_n 0, 1) := by decide +kernel
theorem d_Mo_piece_113 : decode b_Mo_piece 113 = .ok (.aload_n 0, 1) := by decide +kernel
theorem d_Mo_piece_114 : decode b_Mo_piece 114 = .ok (.getfield 131, 3) := by decide +kernel
theorem d_Mo_piece_117 : decode b_Mo_piece 117 = .ok (.ifCond .eq 24, 3) := by decide +kernel
theorem d_Mo_piece_120 : decode b_Mo_piece 120 = .ok (.iload_n 1, 1) := by decide +kernel
theorem d_Mo_piece_121 : decode b_Mo_piece 121 = .ok (.invokestatic 143, 3) := by decide +kernel
theorem d_Mo_piece_124 : decode b_Mo_piece 124 = .ok (.ifCond .ne 13, 3) := by decide +kernel
theorem d_Mo_piece_127 : decode b_Mo_piece 127 = .ok (.iload_n 3, 1) := by decide +kernel
theorem d_Mo_piece_128 : decode b_Mo_piece 128 = .ok (.ifCond .le 13, 3) := by decide +kernel
theorem d_Mo_piece_131 : decode b_Mo_piece 131 = .ok (.iload_n 3, 1) := by decide +kernel
theorem d_Mo_piece_132 : decode b_Mo_piece 132 = .ok (.bipush 6, 2) := by decide +kernel
theorem d_Mo_piece_134 : decode b_Mo_piece 134 = .ok (.if_icmp .ge 7, 3) := by decide +kernel
theorem d_Mo_piece_137 : decode b_Mo_piece 137 = .ok (.iconst 1, 1) := by decide +kernel
theorem d_Mo_piece_138 : decode b_Mo_piece 138 = .ok (.goto 4, 3) := by decide +kernel
theorem d_Mo_piece_141 : decode b_Mo_piece 141 = .ok (.iconst 0, 1) := by decide +kernel
theorem d_Mo_piece_142 : decode b_Mo_piece 142 = .ok (.putfield 131, 3) := by decide +kernel
theorem d_Mo_piece_145 : decode b_Mo_piece 145 = .ok (.aload_n 0, 1) := by decide +kernel
theorem d_Mo_piece_146 : decode b_Mo_piece 146 = .ok (.dup, 1) := by decide +kernel
theorem d_Mo_piece_147 : decode b_Mo_piece 147 = .ok (.getfield 112, 3) := by decide +kernel
theorem d_Mo_piece_150 : decode b_Mo_piece 150 = .ok (.iload_n 1, 1) := by decide +kernel
theorem d_Mo_piece_151 : decode b_Mo_piece 151 = .ok (.invokestatic 143, 3) := by decide +kernel
theorem d_Mo_piece_154 : decode b_Mo_piece 154 = .ok (.ifCond .eq 7, 3) := by decide +kernel
theorem d_Mo_piece_157 : decode b_Mo_piece 157 = .ok (.iconst 1, 1) := by decide +kernel
theorem d_Mo_piece_158 : decode b_Mo_piece 158 = .ok (.goto 4, 3) := by decide +kernel
theorem d_Mo_piece_161 : decode b_Mo_piece 161 = .ok (.iconst 0, 1) := by decide +kernel
theorem d_Mo_piece_162 : decode b_Mo_piece 162 = .ok (.iadd, 1) := by decide +kernel
theorem d_Mo_piece_163 : decode b_Mo_piece 163 = .ok (.putfield 112, 3) := by decide +kernel
theorem d_Mo_piece_166 : decode b_Mo_piece 166 = .ok (.aload_n 0, 1) := by decide +kernel
theorem d_Mo_piece_167 : decode b_Mo_piece 167 = .ok (.getfield 32, 3) := by decide +kernel
theorem d_Mo_piece_170 : decode b_Mo_piece 170 = .ok (.aload_n 0, 1) := by decide +kernel
theorem d_Mo_piece_171 : decode b_Mo_piece 171 = .ok (.getfield 140, 3) := by decide +kernel
theorem d_Mo_piece_174 : decode b_Mo_piece 174 = .ok (.iload_n 2, 1) := by decide +kernel
theorem d_Mo_piece_175 : decode b_Mo_piece 175 = .ok (.iastore, 1) := by decide +kernel
theorem d_Mo_piece_176 : decode b_Mo_piece 176 = .ok (.aload_n 0, 1) := by decide +kernel
theorem d_Mo_piece_177 : decode b_Mo_piece 177 = .ok (.dup, 1) := by decide +kernel
theorem d_Mo_piece_178 : decode b_Mo_piece 178 = .ok (.getfield 140, 3) := by decide +kernel
theorem d_Mo_piece_181 : decode b_Mo_piece 181 = .ok (.iconst 1, 1) := by decide +kernel
theorem d_Mo_piece_182 : decode b_Mo_piece 182 = .ok (.iadd, 1) := by decide +kernel
theorem d_Mo_piece_183 : decode b_Mo_piece 183 = .ok (.putfield 140, 3) := by decide +kernel
theorem d_Mo_piece_186 : decode b_Mo_piece 186 = .ok (.iconst 1, 1) := by decide +kernel
theorem d_Mo_piece_187 : decode b_Mo_piece 187 = .ok (.ireturn, 1) := by decide +kernel
theorem d_Mo_value_0 : decode b_Mo_value 0 = .ok (.aload_n 0, 1) := by decide +kernel
theorem d_Mo_value_1 : decode b_Mo_value 1 = .ok (.iconst 0, 1) := by decide +kernel
theorem d_Mo_value_2 : decode b_Mo_value 2 = .ok (.putfield 140, 3) := by decide +kernel
theorem d_Mo_value_5 : decode b_Mo_value 5 = .ok (.aload_n 0, 1) := by decide +kernel
theorem d_Mo_value_6 : decode b_Mo_value 6 = .ok (.iconst 0, 1) := by decide +kernel
theorem d_Mo_value_7 : decode b_Mo_value 7 = .ok (.putfield 137, 3) := by decide +kernel
theorem d_Mo_value_10 : decode b_Mo_value 10 = .ok (.iconst 0, 1) := by decide +kernel
theorem d_Mo_value_11 : decode b_Mo_value 11 = .ok (.istore_n 1, 1) := by decide +kernel
theorem d_Mo_value_12 : decode b_Mo_value 12 = .ok (.iconst 1, 1) := by decide +kernel
theorem d_Mo_value_13 : decode b_Mo_value 13 = .ok (.istore_n 2, 1) := by decide +kernel
theorem d_Mo_value_14 : decode b_Mo_value 14 = .ok (.iconst 1, 1) := by decide +kernel
theorem d_Mo_value_15 : decode b_Mo_value 15 = .ok (.istore_n 3, 1) := by decide +kernel
theorem d_Mo_value_16 : decode b_Mo_value 16 = .ok (.iload_n 3, 1) := by decide +kernel
theorem d_Mo_value_17 : decode b_Mo_value 17 = .ok (.ifCond .eq 198, 3) := by decide +kernel
theorem d_Mo_value_20 : decode b_Mo_value 20 = .ok (.aload_n 0, 1) := by decide +kernel
theorem d_Mo_value_21 : decode b_Mo_value 21 = .ok (.getfield 131, 3) := by decide +kernel
theorem d_Mo_value_24 : decode b_Mo_value 24 = .ok (.ifCond .eq 191, 3) := by decide +kernel
theorem d_Mo_value_27 : decode b_Mo_value 27 = .ok (.aload_n 0, 1) := by decide +kernel
theorem d_Mo_value_28 : decode b_Mo_value 28 = .ok (.invokevirtual 124, 3) := by decide +kernel
theorem d_Mo_value_31 : decode b_Mo_value 31 = .ok (.istore 4, 2) := by decide +kernel
theorem d_Mo_value_33 : decode b_Mo_value 33 = .ok (.iload_n 2, 1) := by decide +kernel
theorem d_Mo_value_34 : decode b_Mo_value 34 = .ok (.ifCond .eq 36, 3) := by decide +kernel
theorem d_Mo_value_37 : decode b_Mo_value 37 = .ok (.aload_n 0, 1) := by decide +kernel
theorem d_Mo_value_38 : decode b_Mo_value 38 = .ok (.invokevirtual 146, 3) := by decide +kernel
theorem d_Mo_value_41 : decode b_Mo_value 41 = .ok (.istore 5, 2) := by decide +kernel
theorem d_Mo_value_43 : decode b_Mo_value 43 = .ok (.iload_n 1, 1) := by decide +kernel
theorem d_Mo_value_44 : decode b_Mo_value 44 = .ok (.iload 5, 2) := by decide +kernel
theorem d_Mo_value_46 : decode b_Mo_value 46 = .ok (.ifCond .eq 7, 3) := by decide +kernel
theorem d_Mo_value_49 : decode b_Mo_value 49 = .ok (.iconst 0, 1) := by decide +kernel
theorem d_Mo_value_50 : decode b_Mo_value 50 = .ok (.goto 4, 3) := by decide +kernel
theorem d_Mo_value_53 : decode b_Mo_value 53 = .ok (.iconst 1, 1) := by decide +kernel
theorem d_Mo_value_54 : decode b_Mo_value 54 = .ok (.iadd, 1) := by decide +kernel
theorem d_Mo_value_55 : decode b_Mo_value 55 = .ok (.istore_n 1, 1) := by decide +kernel
theorem d_Mo_value_56 : decode b_Mo_value 56 = .ok (.iload 5, 2) := by decide +kernel
theorem d_Mo_value_58 : decode b_Mo_value 58 = .ok (.ifCond .ne 7, 3) := by decide +kernel
theorem d_Mo_value_61 : decode b_Mo_value 61 = .ok (.iconst 1, 1) := by decide +kernel
theorem d_Mo_value_62 : decode b_Mo_value 62 = .ok (.goto 4, 3) := by decide +kernel
theorem d_Mo_value_65 : decode b_Mo_value 65 = .ok (.iconst 0, 1) := by decide +kernel
theorem d_Mo_value_66 : decode b_Mo_value 66 = .ok (.istore_n 2, 1) := by decide +kernel
theorem d_Mo_value_67 : decode b_Mo_value 67 = .ok (.goto 145, 3) := by decide +kernel
theorem d_Mo_value_70 : decode b_Mo_value 70 = .ok (.iload 4, 2) := by decide +kernel
theorem d_Mo_value_72 : decode b_Mo_value 72 = .ok (.invokestatic 149, 3) := by decide +kernel
theorem d_Mo_value_75 : decode b_Mo_value 75 = .ok (.ifCond .le 75, 3) := by decide +kernel
theorem d_Mo_value_78 : decode b_Mo_value 78 = .ok (.aload_n 0, 1) := by decide +kernel
theorem d_Mo_value_79 : decode b_Mo_value 79 = .ok (.getfield 137, 3) := by decide +kernel
theorem d_Mo_value_82 : decode b_Mo_value 82 = .ok (.ifCond .le 32, 3) := by decide +kernel
theorem d_Mo_value_85 : decode b_Mo_value 85 = .ok (.aload_n 0, 1) := by decide +kernel
theorem d_Mo_value_86 : decode b_Mo_value 86 = .ok (.getfield 35, 3) := by decide +kernel
theorem d_Mo_value_89 : decode b_Mo_value 89 = .ok (.aload_n 0, 1) := by decide +kernel
theorem d_Mo_value_90 : decode b_Mo_value 90 = .ok (.getfield 137, 3) := by decide +kernel
theorem d_Mo_value_93 : decode b_Mo_value 93 = .ok (.iconst 1, 1) := by decide +kernel
theorem d_Mo_value_94 : decode b_Mo_value 94 = .ok (.isub, 1) := by decide +kernel
theorem d_Mo_value_95 : decode b_Mo_value 95 = .ok (.iaload, 1) := by decide +kernel
theorem d_Mo_value_96 : decode b_Mo_value 96 = .ok (.invokestatic 149, 3) := by decide +kernel
theorem d_Mo_value_99 : decode b_Mo_value 99 = .ok (.iload 4, 2) := by decide +kernel
theorem d_Mo_value_101 : decode b_Mo_value 101 = .ok (.invokestatic 149, 3) := by decide +kernel
theorem d_Mo_value_104 : decode b_Mo_value 104 = .ok (.if_icmp .lt 10, 3) := by decide +kernel
theorem d_Mo_value_107 : decode b_Mo_value 107 = .ok (.aload_n 0, 1) := by decide +kernel
theorem d_Mo_value_108 : decode b_Mo_value 108 = .ok (.invokevirtual 152, 3) := by decide +kernel
theorem d_Mo_value_111 : decode b_Mo_value 111 = .ok (.goto (-33), 3) := by decide +kernel
theorem d_Mo_value_114 : decode b_Mo_value 114 = .ok (.aload_n 0, 1) := by decide +kernel
theorem d_Mo_value_115 : decode b_Mo_value 115 = .ok (.getfield 35, 3) := by decide +kernel
theorem d_Mo_value_118 : decode b_Mo_value 118 = .ok (.aload_n 0, 1) := by decide +kernel
theorem d_Mo_value_119 : decode b_Mo_value 119 = .ok (.getfield 137, 3) := by decide +kernel
theorem d_Mo_value_122 : decode b_Mo_value 122 = .ok (.iload 4, 2) := by decide +kernel
theorem d_Mo_value_124 : decode b_Mo_value 124 = .ok (.iastore, 1) := by decide +kernel
theorem d_Mo_value_125 : decode b_Mo_value 125 = .ok (.aload_n 0, 1) := by decide +kernel
theorem d_Mo_value_126 : decode b_Mo_value 126 = .ok (.dup, 1) := by decide +kernel
theorem d_Mo_value_127 : decode b_Mo_value 127 = .ok (.getfield 137, 3) := by decide +kernel
theorem d_Mo_value_130 : decode b_Mo_value 130 = .ok (.iconst 1, 1) := by decide +kernel
theorem d_Mo_value_131 : decode b_Mo_value 131 = .ok (.iadd, 1) := by decide +kernel
theorem d_Mo_value_132 : decode b_Mo_value 132 = .ok (.putfield 137, 3) := by decide +kernel
theorem d_Mo_value_135 : decode b_Mo_value 135 = .ok (.aload_n 0, 1) := by decide +kernel
theorem d_Mo_value_136 : decode b_Mo_value 136 = .ok (.dup, 1) := by decide +kernel
theorem d_Mo_value_137 : decode b_Mo_value 137 = .ok (.getfield 112, 3) := by decide +kernel
theorem d_Mo_value_140 : decode b_Mo_value 140 = .ok (.iconst 1, 1) := by decide +kernel
theorem d_Mo_value_141 : decode b_Mo_value 141 = .ok (.iadd, 1) := by decide +kernel
theorem d_Mo_value_142 : decode b_Mo_value 142 = .ok (.putfield 112, 3) := by decide +kernel
theorem d_Mo_value_145 : decode b_Mo_value 145 = .ok (.iconst 1, 1) := by decide +kernel
theorem d_Mo_value_146 : decode b_Mo_value 146 = .ok (.istore_n 2, 1) := by decide +kernel
theorem d_Mo_value_147 : decode b_Mo_value 147 = .ok (.goto 65, 3) := by decide +kernel
theorem d_Mo_value_150 : decode b_Mo_value 150 = .ok (.iload 4, 2) := by decide +kernel
theorem d_Mo_value_152 : decode b_Mo_value 152 = .ok (.bipush 41, 2) := by decide +kernel
theorem d_Mo_value_154 : decode b_Mo_value 154 = .ok (.if_icmp .ne 56, 3) := by decide +kernel
theorem d_Mo_value_157 : decode b_Mo_value 157 = .ok (.iload_n 1, 1) := by decide +kernel
theorem d_Mo_value_158 : decode b_Mo_value 158 = .ok (.ifCond .le 52, 3) := by decide +kernel
theorem d_Mo_value_161 : decode b_Mo_value 161 = .ok (.aload_n 0, 1) := by decide +kernel
theorem d_Mo_value_162 : decode b_Mo_value 162 = .ok (.getfield 35, 3) := by decide +kernel
theorem d_Mo_value_165 : decode b_Mo_value 165 = .ok (.aload_n 0, 1) := by decide +kernel
theorem d_Mo_value_166 : decode b_Mo_value 166 = .ok (.getfield 137, 3) := by decide +kernel
theorem d_Mo_value_169 : decode b_Mo_value 169 = .ok (.iconst 1, 1) := by decide +kernel
theorem d_Mo_value_170 : decode b_Mo_value 170 = .ok (.isub, 1) := by decide +kernel
theorem d_Mo_value_171 : decode b_Mo_value 171 = .ok (.iaload, 1) := by decide +kernel
theorem d_Mo_value_172 : decode b_Mo_value 172 = .ok (.bipush 40, 2) := by decide +kernel
theorem d_Mo_value_174 : decode b_Mo_value 174 = .ok (.if_icmp .eq 10, 3) := by decide +kernel
theorem d_Mo_value_177 : decode b_Mo_value 177 = .ok (.aload_n 0, 1) := by decide +kernel
theorem d_Mo_value_178 : decode b_Mo_value 178 = .ok (.invokevirtual 152, 3) := by decide +kernel
theorem d_Mo_value_181 : decode b_Mo_value 181 = .ok (.goto (-20), 3) := by decide +kernel
theorem d_Mo_value_184 : decode b_Mo_value 184 = .ok (.aload_n 0, 1) := by decide +kernel
theorem d_Mo_value_185 : decode b_Mo_value 185 = .ok (.dup, 1) := by decide +kernel
theorem d_Mo_value_186 : decode b_Mo_value 186 = .ok (.getfield 137, 3) := by decide +kernel
theorem d_Mo_value_189 : decode b_Mo_value 189 = .ok (.iconst 1, 1) := by decide +kernel
theorem d_Mo_value_190 : decode b_Mo_value 190 = .ok (.isub, 1) := by decide +kernel
theorem d_Mo_value_191 : decode b_Mo_value 191 = .ok (.putfield 137, 3) := by decide +kernel
theorem d_Mo_value_194 : decode b_Mo_value 194 = .ok (.iinc 1 (-1), 3) := by decide +kernel
theorem d_Mo_value_197 : decode b_Mo_value 197 = .ok (.aload_n 0, 1) := by decide +kernel
theorem d_Mo_value_198 : decode b_Mo_value 198 = .ok (.dup, 1) := by decide +kernel
theorem d_Mo_value_199 : decode b_Mo_value 199 = .ok (.getfield 112, 3) := by decide +kernel
theorem d_Mo_value_202 : decode b_Mo_value 202 = .ok (.iconst 1, 1) := by decide +kernel
theorem d_Mo_value_203 : decode b_Mo_value 203 = .ok (.iadd, 1) := by decide +kernel
theorem d_Mo_value_204 : decode b_Mo_value 204 = .ok (.putfield 112, 3) := by decide +kernel
theorem d_Mo_value_207 : decode b_Mo_value 207 = .ok (.goto 5, 3) := by decide +kernel
theorem d_Mo_value_210 : decode b_Mo_value 210 = .ok (.iconst 0, 1) := by decide +kernel
theorem d_Mo_value_211 : decode b_Mo_value 211 = .ok (.istore_n 3, 1) := by decide +kernel
theorem d_Mo_value_212 : decode b_Mo_value 212 = .ok (.goto (-196), 3) := by decide +kernel
theorem d_Mo_value_215 : decode b_Mo_value 215 = .ok (.aload_n 0, 1) := by decide +kernel
theorem d_Mo_value_216 : decode b_Mo_value 216 = .ok (.aload_n 0, 1) := by decide +kernel
theorem d_Mo_value_217 : decode b_Mo_value 217 = .ok (.getfield 131, 3) := by decide +kernel
theorem d_Mo_value_220 : decode b_Mo_value 220 = .ok (.ifCond .eq 11, 3) := by decide +kernel
theorem d_Mo_value_223 : decode b_Mo_value 223 = .ok (.iload_n 1, 1) := by decide +kernel
theorem d_Mo_value_224 : decode b_Mo_value 224 = .ok (.ifCond .ne 7, 3) := by decide +kernel
theorem d_Mo_value_227 : decode b_Mo_value 227 = .ok (.iconst 1, 1) := by decide +kernel
theorem d_Mo_value_228 : decode b_Mo_value 228 = .ok (.goto 4, 3) := by decide +kernel
theorem d_Mo_value_231 : decode b_Mo_value 231 = .ok (.iconst 0, 1) := by decide +kernel
theorem d_Mo_value_232 : decode b_Mo_value 232 = .ok (.putfield 131, 3) := by decide +kernel
theorem d_Mo_value_235 : decode b_Mo_value 235 = .ok (.aload_n 0, 1) := by decide +kernel
theorem d_Mo_value_236 : decode b_Mo_value 236 = .ok (.getfield 131, 3) := by decide +kernel
theorem d_Mo_value_239 : decode b_Mo_value 239 = .ok (.ifCond .eq 17, 3) := by decide +kernel
theorem d_Mo_value_242 : decode b_Mo_value 242 = .ok (.aload_n 0, 1) := by decide +kernel
theorem d_Mo_value_243 : decode b_Mo_value 243 = .ok (.getfield 137, 3) := by decide +kernel
theorem d_Mo_value_246 : decode b_Mo_value 246 = .ok (.ifCond .le 10, 3) := by decide +kernel
theorem d_Mo_value_249 : decode b_Mo_value 249 = .ok (.aload_n 0, 1) := by decide +kernel
theorem d_Mo_value_250 : decode b_Mo_value 250 = .ok (.invokevirtual 152, 3) := by decide +kernel
theorem d_Mo_value_253 : decode b_Mo_value 253 = .ok (.goto (-18), 3) := by decide +kernel
theorem d_Mo_value_256 : decode b_Mo_value 256 = .ok (.aload_n 0, 1) := by decide +kernel
theorem d_Mo_value_257 : decode b_Mo_value 257 = .ok (.getfield 131, 3) := by decide +kernel
theorem d_Mo_value_260 : decode b_Mo_value 260 = .ok (.ifCond .eq 12, 3) := by decide +kernel
theorem d_Mo_value_263 : decode b_Mo_value 263 = .ok (.aload_n 0, 1) := by decide +kernel
theorem d_Mo_value_264 : decode b_Mo_value 264 = .ok (.getfield 32, 3) := by decide +kernel
theorem d_Mo_value_267 : decode b_Mo_value 267 = .ok (.iconst 0, 1) := by decide +kernel
theorem d_Mo_value_268 : decode b_Mo_value 268 = .ok (.iaload, 1) := by decide +kernel
theorem d_Mo_value_269 : decode b_Mo_value 269 = .ok (.goto 4, 3) := by decide +kernel
theorem d_Mo_value_272 : decode b_Mo_value 272 = .ok (.iconst 0, 1) := by decide +kernel
theorem d_Mo_value_273 : decode b_Mo_value 273 = .ok (.ireturn, 1) := by decide +kernel
theorem d_Mo_last_0 : decode b_Mo_last 0 = .ok (.aload_n 0, 1) := by decide +kernel
theorem d_Mo_last_1 : decode b_Mo_last 1 = .ok (.getfield 112, 3) := by decide +kernel
theorem d_Mo_last_4 : decode b_Mo_last 4 = .ok (.ireturn, 1) := by decide +kernel
theorem d_Mo_recordStep_0 : decode b_Mo_recordStep 0 = .ok (.aload_n 0, 1) := by decide +kernel
theorem d_Mo_recordStep_1 : decode b_Mo_recordStep 1 = .ok (.invokevirtual 76, 3) := by decide +kernel
theorem d_Mo_recordStep_4 : decode b_Mo_recordStep 4 = .ok (.ifCond .ne 6, 3) := by decide +kernel
theorem d_Mo_recordStep_7 : decode b_Mo_recordStep 7 = .ok (.bipush 8, 2) := by decide +kernel
theorem d_Mo_recordStep_9 : decode b_Mo_recordStep 9 = .ok (.ireturn, 1) := by decide +kernel
theorem d_Mo_recordStep_10 : decode b_Mo_recordStep 10 = .ok (.iload_n 2, 1) := by decide +kernel
theorem d_Mo_recordStep_11 : decode b_Mo_recordStep 11 = .ok (.ifCond .lt 9, 3) := by decide +kernel
theorem d_Mo_recordStep_14 : decode b_Mo_recordStep 14 = .ok (.iload_n 2, 1) := by decide +kernel
theorem d_Mo_recordStep_15 : decode b_Mo_recordStep 15 = .ok (.bipush 15, 2) := by decide +kernel
theorem d_Mo_recordStep_17 : decode b_Mo_recordStep 17 = .ok (.if_icmp .le 5, 3) := by decide +kernel
theorem d_Mo_recordStep_20 : decode b_Mo_recordStep 20 = .ok (.iconst 4, 1) := by decide +kernel
theorem d_Mo_recordStep_21 : decode b_Mo_recordStep 21 = .ok (.ireturn, 1) := by decide +kernel
theorem d_Mo_recordStep_22 : decode b_Mo_recordStep 22 = .ok (.aload_n 0, 1) := by decide +kernel
theorem d_Mo_recordStep_23 : decode b_Mo_recordStep 23 = .ok (.iload_n 1, 1) := by decide +kernel
theorem d_Mo_recordStep_24 : decode b_Mo_recordStep 24 = .ok (.invokevirtual 84, 3) := by decide +kernel
theorem d_Mo_recordStep_27 : decode b_Mo_recordStep 27 = .ok (.istore 5, 2) := by decide +kernel
theorem d_Mo_recordStep_29 : decode b_Mo_recordStep 29 = .ok (.iload 4, 2) := by decide +kernel
theorem d_Mo_recordStep_31 : decode b_Mo_recordStep 31 = .ok (.iconst (-1), 1) := by decide +kernel
theorem d_Mo_recordStep_32 : decode b_Mo_recordStep 32 = .ok (.if_icmp .eq 43, 3) := by decide +kernel
theorem d_Mo_recordStep_35 : decode b_Mo_recordStep 35 = .ok (.iload 5, 2) := by decide +kernel
theorem d_Mo_recordStep_37 : decode b_Mo_recordStep 37 = .ok (.ifCond .ne 5, 3) := by decide +kernel
theorem d_Mo_recordStep_40 : decode b_Mo_recordStep 40 = .ok (.iconst 3, 1) := by decide +kernel
theorem d_Mo_recordStep_41 : decode b_Mo_recordStep 41 = .ok (.ireturn, 1) := by decide +kernel
theorem d_Mo_recordStep_42 : decode b_Mo_recordStep 42 = .ok (.iload 5, 2) := by decide +kernel
theorem d_Mo_recordStep_44 : decode b_Mo_recordStep 44 = .ok (.bipush 16, 2) := by decide +kernel
theorem d_Mo_recordStep_46 : decode b_Mo_recordStep 46 = .ok (.if_icmp .eq 5, 3) := by decide +kernel
theorem d_Mo_recordStep_49 : decode b_Mo_recordStep 49 = .ok (.iconst 4, 1) := by decide +kernel
theorem d_Mo_recordStep_50 : decode b_Mo_recordStep 50 = .ok (.ireturn, 1) := by decide +kernel
theorem d_Mo_recordStep_51 : decode b_Mo_recordStep 51 = .ok (.aload_n 0, 1) := by decide +kernel
theorem d_Mo_recordStep_52 : decode b_Mo_recordStep 52 = .ok (.getfield 23, 3) := by decide +kernel
theorem d_Mo_recordStep_55 : decode b_Mo_recordStep 55 = .ok (.iload 4, 2) := by decide +kernel
theorem d_Mo_recordStep_57 : decode b_Mo_recordStep 57 = .ok (.aload_n 0, 1) := by decide +kernel
theorem d_Mo_recordStep_58 : decode b_Mo_recordStep 58 = .ok (.getfield 7, 3) := by decide +kernel
theorem d_Mo_recordStep_61 : decode b_Mo_recordStep 61 = .ok (.bipush 16, 2) := by decide +kernel
theorem d_Mo_recordStep_63 : decode b_Mo_recordStep 63 = .ok (.aload_n 0, 1) := by decide +kernel
theorem d_Mo_recordStep_64 : decode b_Mo_recordStep 64 = .ok (.iload_n 1, 1) := by decide +kernel
theorem d_Mo_recordStep_65 : decode b_Mo_recordStep 65 = .ok (.invokevirtual 80, 3) := by decide +kernel
theorem d_Mo_recordStep_68 : decode b_Mo_recordStep 68 = .ok (.imul, 1) := by decide +kernel
theorem d_Mo_recordStep_69 : decode b_Mo_recordStep 69 = .ok (.iload_n 2, 1) := by decide +kernel
theorem d_Mo_recordStep_70 : decode b_Mo_recordStep 70 = .ok (.iadd, 1) := by decide +kernel
theorem d_Mo_recordStep_71 : decode b_Mo_recordStep 71 = .ok (.iaload, 1) := by decide +kernel
theorem d_Mo_recordStep_72 : decode b_Mo_recordStep 72 = .ok (.iastore, 1) := by decide +kernel
theorem d_Mo_recordStep_73 : decode b_Mo_recordStep 73 = .ok (.iconst 0, 1) := by decide +kernel
theorem d_Mo_recordStep_74 : decode b_Mo_recordStep 74 = .ok (.ireturn, 1) := by decide +kernel
theorem d_Mo_recordStep_75 : decode b_Mo_recordStep 75 = .ok (.iload 5, 2) := by decide +kernel
theorem d_Mo_recordStep_77 : decode b_Mo_recordStep 77 = .ok (.ifCond .eq 12, 3) := by decide +kernel
theorem d_Mo_recordStep_80 : decode b_Mo_recordStep 80 = .ok (.iload 5, 2) := by decide +kernel
theorem d_Mo_recordStep_82 : decode b_Mo_recordStep 82 = .ok (.bipush 16, 2) := by decide +kernel
theorem d_Mo_recordStep_84 : decode b_Mo_recordStep 84 = .ok (.if_icmp .eq 5, 3) := by decide +kernel
theorem d_Mo_recordStep_87 : decode b_Mo_recordStep 87 = .ok (.iconst 4, 1) := by decide +kernel
theorem d_Mo_recordStep_88 : decode b_Mo_recordStep 88 = .ok (.ireturn, 1) := by decide +kernel
theorem d_Mo_recordStep_89 : decode b_Mo_recordStep 89 = .ok (.iload 5, 2) := by decide +kernel
theorem d_Mo_recordStep_91 : decode b_Mo_recordStep 91 = .ok (.bipush 16, 2) := by decide +kernel
theorem d_Mo_recordStep_93 : decode b_Mo_recordStep 93 = .ok (.if_icmp .ne 11, 3) := by decide +kernel
theorem d_Mo_recordStep_96 : decode b_Mo_recordStep 96 = .ok (.aload_n 0, 1) := by decide +kernel
theorem d_Mo_recordStep_97 : decode b_Mo_recordStep 97 = .ok (.iload_n 1, 1) := by decide +kernel
theorem d_Mo_recordStep_98 : decode b_Mo_recordStep 98 = .ok (.invokevirtual 80, 3) := by decide +kernel
theorem d_Mo_recordStep_101 : decode b_Mo_recordStep 101 = .ok (.goto 9, 3) := by decide +kernel
theorem d_Mo_recordStep_104 : decode b_Mo_recordStep 104 = .ok (.aload_n 0, 1) := by decide +kernel
theorem d_Mo_recordStep_105 : decode b_Mo_recordStep 105 = .ok (.iconst 1, 1) := by decide +kernel
theorem d_Mo_recordStep_106 : decode b_Mo_recordStep 106 = .ok (.iload_n 1, 1) := by decide +kernel
theorem d_Mo_recordStep_107 : decode b_Mo_recordStep 107 = .ok (.invokevirtual 98, 3) := by decide +kernel
theorem d_Mo_recordStep_110 : decode b_Mo_recordStep 110 = .ok (.istore 6, 2) := by decide +kernel
theorem d_Mo_recordStep_112 : decode b_Mo_recordStep 112 = .ok (.iload 6, 2) := by decide +kernel
theorem d_Mo_recordStep_114 : decode b_Mo_recordStep 114 = .ok (.iconst (-1), 1) := by decide +kernel
theorem d_Mo_recordStep_115 : decode b_Mo_recordStep 115 = .ok (.if_icmp .ne 6, 3) := by decide +kernel
theorem d_Mo_recordStep_118 : decode b_Mo_recordStep 118 = .ok (.bipush 9, 2) := by decide +kernel
theorem d_Mo_recordStep_120 : decode b_Mo_recordStep 120 = .ok (.ireturn, 1) := by decide +kernel
theorem d_Mo_recordStep_121 : decode b_Mo_recordStep 121 = .ok (.iload 5, 2) := by decide +kernel
theorem d_Mo_recordStep_123 : decode b_Mo_recordStep 123 = .ok (.ifCond .ne 15, 3) := by decide +kernel
theorem d_Mo_recordStep_126 : decode b_Mo_recordStep 126 = .ok (.aload_n 0, 1) := by decide +kernel
theorem d_Mo_recordStep_127 : decode b_Mo_recordStep 127 = .ok (.iload_n 1, 1) := by decide +kernel
theorem d_Mo_recordStep_128 : decode b_Mo_recordStep 128 = .ok (.bipush 16, 2) := by decide +kernel
theorem d_Mo_recordStep_130 : decode b_Mo_recordStep 130 = .ok (.iload 6, 2) := by decide +kernel
theorem d_Mo_recordStep_132 : decode b_Mo_recordStep 132 = .ok (.invokevirtual 102, 3) := by decide +kernel
theorem d_Mo_recordStep_135 : decode b_Mo_recordStep 135 = .ok (.goto 8, 3) := by decide +kernel
theorem d_Mo_recordStep_138 : decode b_Mo_recordStep 138 = .ok (.aload_n 0, 1) := by decide +kernel
theorem d_Mo_recordStep_139 : decode b_Mo_recordStep 139 = .ok (.iconst 0, 1) := by decide +kernel
theorem d_Mo_recordStep_140 : decode b_Mo_recordStep 140 = .ok (.putfield 70, 3) := by decide +kernel
theorem d_Mo_recordStep_143 : decode b_Mo_recordStep 143 = .ok (.iconst 0, 1) := by decide +kernel
theorem d_Mo_recordStep_144 : decode b_Mo_recordStep 144 = .ok (.istore 7, 2) := by decide +kernel
theorem d_Mo_recordStep_146 : decode b_Mo_recordStep 146 = .ok (.iload 7, 2) := by decide +kernel
theorem d_Mo_recordStep_148 : decode b_Mo_recordStep 148 = .ok (.bipush 16, 2) := by decide +kernel
theorem d_Mo_recordStep_150 : decode b_Mo_recordStep 150 = .ok (.if_icmp .ge 56, 3) := by decide +kernel
theorem d_Mo_recordStep_153 : decode b_Mo_recordStep 153 = .ok (.aload_n 0, 1) := by decide +kernel
theorem d_Mo_recordStep_154 : decode b_Mo_recordStep 154 = .ok (.getfield 41, 3) := by decide +kernel
theorem d_Mo_recordStep_157 : decode b_Mo_recordStep 157 = .ok (.bipush 16, 2) := by decide +kernel
theorem d_Mo_recordStep_159 : decode b_Mo_recordStep 159 = .ok (.aload_n 0, 1) := by decide +kernel
theorem d_Mo_recordStep_160 : decode b_Mo_recordStep 160 = .ok (.getfield 70, 3) := by decide +kernel
theorem d_Mo_recordStep_163 : decode b_Mo_recordStep 163 = .ok (.imul, 1) := by decide +kernel
theorem d_Mo_recordStep_164 : decode b_Mo_recordStep 164 = .ok (.iload 7, 2) := by decide +kernel
theorem d_Mo_recordStep_166 : decode b_Mo_recordStep 166 = .ok (.iadd, 1) := by decide +kernel
theorem d_Mo_recordStep_167 : decode b_Mo_recordStep 167 = .ok (.iload 7, 2) := by decide +kernel
theorem d_Mo_recordStep_169 : decode b_Mo_recordStep 169 = .ok (.iload_n 2, 1) := by decide +kernel
theorem d_Mo_recordStep_170 : decode b_Mo_recordStep 170 = .ok (.if_icmp .ne 7, 3) := by decide +kernel
theorem d_Mo_recordStep_173 : decode b_Mo_recordStep 173 = .ok (.iload_n 3, 1) := by decide +kernel
theorem d_Mo_recordStep_174 : decode b_Mo_recordStep 174 = .ok (.goto 25, 3) := by decide +kernel
theorem d_Mo_recordStep_177 : decode b_Mo_recordStep 177 = .ok (.iload 5, 2) := by decide +kernel
theorem d_Mo_recordStep_179 : decode b_Mo_recordStep 179 = .ok (.ifCond .ne 7, 3) := by decide +kernel
theorem d_Mo_recordStep_182 : decode b_Mo_recordStep 182 = .ok (.iconst 0, 1) := by decide +kernel
theorem d_Mo_recordStep_183 : decode b_Mo_recordStep 183 = .ok (.goto 16, 3) := by decide +kernel
theorem d_Mo_recordStep_186 : decode b_Mo_recordStep 186 = .ok (.aload_n 0, 1) := by decide +kernel
theorem d_Mo_recordStep_187 : decode b_Mo_recordStep 187 = .ok (.getfield 7, 3) := by decide +kernel
theorem d_Mo_recordStep_190 : decode b_Mo_recordStep 190 = .ok (.bipush 16, 2) := by decide +kernel
theorem d_Mo_recordStep_192 : decode b_Mo_recordStep 192 = .ok (.iload 6, 2) := by decide +kernel
theorem d_Mo_recordStep_194 : decode b_Mo_recordStep 194 = .ok (.imul, 1) := by decide +kernel
theorem d_Mo_recordStep_195 : decode b_Mo_recordStep 195 = .ok (.iload 7, 2) := by decide +kernel
theorem d_Mo_recordStep_197 : decode b_Mo_recordStep 197 = .ok (.iadd, 1) := by decide +kernel
theorem d_Mo_recordStep_198 : decode b_Mo_recordStep 198 = .ok (.iaload, 1) := by decide +kernel
theorem d_Mo_recordStep_199 : decode b_Mo_recordStep 199 = .ok (.iastore, 1) := by decide +kernel
theorem d_Mo_recordStep_200 : decode b_Mo_recordStep 200 = .ok (.iinc 7 1, 3) := by decide +kernel
theorem d_Mo_recordStep_203 : decode b_Mo_recordStep 203 = .ok (.goto (-57), 3) := by decide +kernel
theorem d_Mo_recordStep_206 : decode b_Mo_recordStep 206 = .ok (.aload_n 0, 1) := by decide +kernel
theorem d_Mo_recordStep_207 : decode b_Mo_recordStep 207 = .ok (.getfield 38, 3) := by decide +kernel
theorem d_Mo_recordStep_210 : decode b_Mo_recordStep 210 = .ok (.aload_n 0, 1) := by decide +kernel
theorem d_Mo_recordStep_211 : decode b_Mo_recordStep 211 = .ok (.getfield 70, 3) := by decide +kernel
theorem d_Mo_recordStep_214 : decode b_Mo_recordStep 214 = .ok (.iload 6, 2) := by decide +kernel
theorem d_Mo_recordStep_216 : decode b_Mo_recordStep 216 = .ok (.iastore, 1) := by decide +kernel
theorem d_Mo_recordStep_217 : decode b_Mo_recordStep 217 = .ok (.aload_n 0, 1) := by decide +kernel
theorem d_Mo_recordStep_218 : decode b_Mo_recordStep 218 = .ok (.dup, 1) := by decide +kernel
theorem d_Mo_recordStep_219 : decode b_Mo_recordStep 219 = .ok (.getfield 70, 3) := by decide +kernel
theorem d_Mo_recordStep_222 : decode b_Mo_recordStep 222 = .ok (.iconst 1, 1) := by decide +kernel
theorem d_Mo_recordStep_223 : decode b_Mo_recordStep 223 = .ok (.iadd, 1) := by decide +kernel
theorem d_Mo_recordStep_224 : decode b_Mo_recordStep 224 = .ok (.putfield 70, 3) := by decide +kernel
theorem d_Mo_recordStep_227 : decode b_Mo_recordStep 227 = .ok (.aload_n 0, 1) := by decide +kernel
theorem d_Mo_recordStep_228 : decode b_Mo_recordStep 228 = .ok (.invokevirtual 106, 3) := by decide +kernel
theorem d_Mo_recordStep_231 : decode b_Mo_recordStep 231 = .ok (.istore 7, 2) := by decide +kernel
theorem d_Mo_recordStep_233 : decode b_Mo_recordStep 233 = .ok (.iload 7, 2) := by decide +kernel
theorem d_Mo_recordStep_235 : decode b_Mo_recordStep 235 = .ok (.ifCond .eq 7, 3) := by decide +kernel
theorem d_Mo_recordStep_238 : decode b_Mo_recordStep 238 = .ok (.iconst 0, 1) := by decide +kernel
theorem d_Mo_recordStep_239 : decode b_Mo_recordStep 239 = .ok (.goto 5, 3) := by decide +kernel
theorem d_Mo_recordStep_242 : decode b_Mo_recordStep 242 = .ok (.bipush 7, 2) := by decide +kernel
theorem d_Mo_recordStep_244 : decode b_Mo_recordStep 244 = .ok (.ireturn, 1) := by decide +kernel
theorem d_Mo_statement_0 : decode b_Mo_statement 0 = .ok (.aload_n 0, 1) := by decide +kernel
theorem d_Mo_statement_1 : decode b_Mo_statement 1 = .ok (.invokevirtual 124, 3) := by decide +kernel
theorem d_Mo_statement_4 : decode b_Mo_statement 4 = .ok (.istore_n 3, 1) := by decide +kernel
theorem d_Mo_statement_5 : decode b_Mo_statement 5 = .ok (.aload_n 0, 1) := by decide +kernel
theorem d_Mo_statement_6 : decode b_Mo_statement 6 = .ok (.getfield 112, 3) := by decide +kernel
theorem d_Mo_statement_9 : decode b_Mo_statement 9 = .ok (.iconst 1, 1) := by decide +kernel
theorem d_Mo_statement_10 : decode b_Mo_statement 10 = .ok (.iadd, 1) := by decide +kernel
theorem d_Mo_statement_11 : decode b_Mo_statement 11 = .ok (.aload_n 0, 1) := by decide +kernel
theorem d_Mo_statement_12 : decode b_Mo_statement 12 = .ok (.getfield 115, 3) := by decide +kernel
theorem d_Mo_statement_15 : decode b_Mo_statement 15 = .ok (.if_icmp .ge 48, 3) := by decide +kernel
theorem d_Mo_statement_18 : decode b_Mo_statement 18 = .ok (.aload_n 0, 1) := by decide +kernel
theorem d_Mo_statement_19 : decode b_Mo_statement 19 = .ok (.getfield 118, 3) := by decide +kernel
theorem d_Mo_statement_22 : decode b_Mo_statement 22 = .ok (.ifCond .eq 22, 3) := by decide +kernel
theorem d_Mo_statement_25 : decode b_Mo_statement 25 = .ok (.aload_n 0, 1) := by decide +kernel
theorem d_Mo_statement_26 : decode b_Mo_statement 26 = .ok (.getfield 20, 3) := by decide +kernel
theorem d_Mo_statement_29 : decode b_Mo_statement 29 = .ok (.aload_n 0, 1) := by decide +kernel
theorem d_Mo_statement_30 : decode b_Mo_statement 30 = .ok (.getfield 121, 3) := by decide +kernel
theorem d_Mo_statement_33 : decode b_Mo_statement 33 = .ok (.aload_n 0, 1) := by decide +kernel
theorem d_Mo_statement_34 : decode b_Mo_statement 34 = .ok (.getfield 112, 3) := by decide +kernel
theorem d_Mo_statement_37 : decode b_Mo_statement 37 = .ok (.iadd, 1) := by decide +kernel
theorem d_Mo_statement_38 : decode b_Mo_statement 38 = .ok (.iconst 1, 1) := by decide +kernel
theorem d_Mo_statement_39 : decode b_Mo_statement 39 = .ok (.iadd, 1) := by decide +kernel
theorem d_Mo_statement_40 : decode b_Mo_statement 40 = .ok (.iaload, 1) := by decide +kernel
theorem d_Mo_statement_41 : decode b_Mo_statement 41 = .ok (.goto 23, 3) := by decide +kernel
theorem d_Mo_statement_44 : decode b_Mo_statement 44 = .ok (.aload_n 0, 1) := by decide +kernel
theorem d_Mo_statement_45 : decode b_Mo_statement 45 = .ok (.getfield 29, 3) := by decide +kernel
theorem d_Mo_statement_48 : decode b_Mo_statement 48 = .ok (.aload_n 0, 1) := by decide +kernel
theorem d_Mo_statement_49 : decode b_Mo_statement 49 = .ok (.getfield 121, 3) := by decide +kernel
theorem d_Mo_statement_52 : decode b_Mo_statement 52 = .ok (.aload_n 0, 1) := by decide +kernel
theorem d_Mo_statement_53 : decode b_Mo_statement 53 = .ok (.getfield 112, 3) := by decide +kernel
theorem d_Mo_statement_56 : decode b_Mo_statement 56 = .ok (.iadd, 1) := by decide +kernel
theorem d_Mo_statement_57 : decode b_Mo_statement 57 = .ok (.iconst 1, 1) := by decide +kernel
theorem d_Mo_statement_58 : decode b_Mo_statement 58 = .ok (.iadd, 1) := by decide +kernel
theorem d_Mo_statement_59 : decode b_Mo_statement 59 = .ok (.iaload, 1) := by decide +kernel
theorem d_Mo_statement_60 : decode b_Mo_statement 60 = .ok (.goto 4, 3) := by decide +kernel
theorem d_Mo_statement_63 : decode b_Mo_statement 63 = .ok (.iconst (-1), 1) := by decide +kernel
theorem d_Mo_statement_64 : decode b_Mo_statement 64 = .ok (.istore 4, 2) := by decide +kernel
theorem d_Mo_statement_66 : decode b_Mo_statement 66 = .ok (.iload_n 2, 1) := by decide +kernel
theorem d_Mo_statement_67 : decode b_Mo_statement 67 = .ok (.iconst 1, 1) := by decide +kernel
theorem d_Mo_statement_68 : decode b_Mo_statement 68 = .ok (.iadd, 1) := by decide +kernel
theorem d_Mo_statement_69 : decode b_Mo_statement 69 = .ok (.istore 5, 2) := by decide +kernel
theorem d_Mo_statement_71 : decode b_Mo_statement 71 = .ok (.iconst 0, 1) := by decide +kernel
theorem d_Mo_statement_72 : decode b_Mo_statement 72 = .ok (.istore 6, 2) := by decide +kernel
theorem d_Mo_statement_74 : decode b_Mo_statement 74 = .ok (.aload_n 0, 1) := by decide +kernel
theorem d_Mo_statement_75 : decode b_Mo_statement 75 = .ok (.dup, 1) := by decide +kernel
theorem d_Mo_statement_76 : decode b_Mo_statement 76 = .ok (.getfield 112, 3) := by decide +kernel
theorem d_Mo_statement_79 : decode b_Mo_statement 79 = .ok (.iconst 1, 1) := by decide +kernel
theorem d_Mo_statement_80 : decode b_Mo_statement 80 = .ok (.iadd, 1) := by decide +kernel
theorem d_Mo_statement_81 : decode b_Mo_statement 81 = .ok (.putfield 112, 3) := by decide +kernel
theorem d_Mo_statement_84 : decode b_Mo_statement 84 = .ok (.iload_n 3, 1) := by decide +kernel
theorem d_Mo_statement_85 : decode b_Mo_statement 85 = .ok (.invokestatic 143, 3) := by decide +kernel
theorem d_Mo_statement_88 : decode b_Mo_statement 88 = .ok (.ifCond .eq 52, 3) := by decide +kernel
theorem d_Mo_statement_91 : decode b_Mo_statement 91 = .ok (.iload 4, 2) := by decide +kernel
theorem d_Mo_statement_93 : decode b_Mo_statement 93 = .ok (.bipush 61, 2) := by decide +kernel
theorem d_Mo_statement_95 : decode b_Mo_statement 95 = .ok (.if_icmp .eq 15, 3) := by decide +kernel
theorem d_Mo_statement_98 : decode b_Mo_statement 98 = .ok (.iload_n 3, 1) := by decide +kernel
theorem d_Mo_statement_99 : decode b_Mo_statement 99 = .ok (.bipush 69, 2) := by decide +kernel
theorem d_Mo_statement_101 : decode b_Mo_statement 101 = .ok (.if_icmp .eq 39, 3) := by decide +kernel
theorem d_Mo_statement_104 : decode b_Mo_statement 104 = .ok (.iload_n 3, 1) := by decide +kernel
theorem d_Mo_statement_105 : decode b_Mo_statement 105 = .ok (.bipush 71, 2) := by decide +kernel
theorem d_Mo_statement_107 : decode b_Mo_statement 107 = .ok (.if_icmp .eq 33, 3) := by decide +kernel
theorem d_Mo_statement_110 : decode b_Mo_statement 110 = .ok (.aload_n 0, 1) := by decide +kernel
theorem d_Mo_statement_111 : decode b_Mo_statement 111 = .ok (.bipush 61, 2) := by decide +kernel
theorem d_Mo_statement_113 : decode b_Mo_statement 113 = .ok (.invokevirtual 155, 3) := by decide +kernel
theorem d_Mo_statement_116 : decode b_Mo_statement 116 = .ok (.aload_n 0, 1) := by decide +kernel
theorem d_Mo_statement_117 : decode b_Mo_statement 117 = .ok (.invokevirtual 159, 3) := by decide +kernel
theorem d_Mo_statement_120 : decode b_Mo_statement 120 = .ok (.istore 7, 2) := by decide +kernel
theorem d_Mo_statement_122 : decode b_Mo_statement 122 = .ok (.iload_n 1, 1) := by decide +kernel
theorem d_Mo_statement_123 : decode b_Mo_statement 123 = .ok (.ifCond .eq 14, 3) := by decide +kernel
theorem d_Mo_statement_126 : decode b_Mo_statement 126 = .ok (.aload_n 0, 1) := by decide +kernel
theorem d_Mo_statement_127 : decode b_Mo_statement 127 = .ok (.getfield 23, 3) := by decide +kernel
theorem d_Mo_statement_130 : decode b_Mo_statement 130 = .ok (.iload_n 3, 1) := by decide +kernel
theorem d_Mo_statement_131 : decode b_Mo_statement 131 = .ok (.bipush 65, 2) := by decide +kernel
theorem d_Mo_statement_133 : decode b_Mo_statement 133 = .ok (.isub, 1) := by decide +kernel
theorem d_Mo_statement_134 : decode b_Mo_statement 134 = .ok (.iload 7, 2) := by decide +kernel
theorem d_Mo_statement_136 : decode b_Mo_statement 136 = .ok (.iastore, 1) := by decide +kernel
theorem d_Mo_statement_137 : decode b_Mo_statement 137 = .ok (.goto 352, 3) := by decide +kernel
theorem d_Mo_statement_140 : decode b_Mo_statement 140 = .ok (.iload_n 3, 1) := by decide +kernel
theorem d_Mo_statement_141 : decode b_Mo_statement 141 = .ok (.bipush 80, 2) := by decide +kernel
theorem d_Mo_statement_143 : decode b_Mo_statement 143 = .ok (.if_icmp .ne 22, 3) := by decide +kernel
theorem d_Mo_statement_146 : decode b_Mo_statement 146 = .ok (.aload_n 0, 1) := by decide +kernel
theorem d_Mo_statement_147 : decode b_Mo_statement 147 = .ok (.invokevirtual 159, 3) := by decide +kernel
theorem d_Mo_statement_150 : decode b_Mo_statement 150 = .ok (.istore 7, 2) := by decide +kernel
theorem d_Mo_statement_152 : decode b_Mo_statement 152 = .ok (.iload_n 1, 1) := by decide +kernel
theorem d_Mo_statement_153 : decode b_Mo_statement 153 = .ok (.ifCond .eq 9, 3) := by decide +kernel
theorem d_Mo_statement_156 : decode b_Mo_statement 156 = .ok (.aload_n 0, 1) := by decide +kernel
theorem d_Mo_statement_157 : decode b_Mo_statement 157 = .ok (.iload 7, 2) := by decide +kernel
theorem d_Mo_statement_159 : decode b_Mo_statement 159 = .ok (.invokevirtual 162, 3) := by decide +kernel
theorem d_Mo_statement_162 : decode b_Mo_statement 162 = .ok (.goto 327, 3) := by decide +kernel
theorem d_Mo_statement_165 : decode b_Mo_statement 165 = .ok (.iload_n 3, 1) := by decide +kernel
theorem d_Mo_statement_166 : decode b_Mo_statement 166 = .ok (.bipush 73, 2) := by decide +kernel
theorem d_Mo_statement_168 : decode b_Mo_statement 168 = .ok (.if_icmp .ne 155, 3) := by decide +kernel
theorem d_Mo_statement_171 : decode b_Mo_statement 171 = .ok (.aload_n 0, 1) := by decide +kernel
theorem d_Mo_statement_172 : decode b_Mo_statement 172 = .ok (.invokevirtual 159, 3) := by decide +kernel
theorem d_Mo_statement_175 : decode b_Mo_statement 175 = .ok (.istore 7, 2) := by decide +kernel
theorem d_Mo_statement_177 : decode b_Mo_statement 177 = .ok (.aload_n 0, 1) := by decide +kernel
theorem d_Mo_statement_178 : decode b_Mo_statement 178 = .ok (.invokevirtual 124, 3) := by decide +kernel
theorem d_Mo_statement_181 : decode b_Mo_statement 181 = .ok (.istore 8, 2) := by decide +kernel
theorem d_Mo_statement_183 : decode b_Mo_statement 183 = .ok (.aload_n 0, 1) := by decide +kernel
theorem d_Mo_statement_184 : decode b_Mo_statement 184 = .ok (.aload_n 0, 1) := by decide +kernel
theorem d_Mo_statement_185 : decode b_Mo_statement 185 = .ok (.getfield 131, 3) := by decide +kernel
theorem d_Mo_statement_188 : decode b_Mo_statement 188 = .ok (.ifCond .eq 28, 3) := by decide +kernel
theorem d_Mo_statement_191 : decode b_Mo_statement 191 = .ok (.iload 8, 2) := by decide +kernel
theorem d_Mo_statement_193 : decode b_Mo_statement 193 = .ok (.bipush 60, 2) := by decide +kernel
theorem d_Mo_statement_195 : decode b_Mo_statement 195 = .ok (.if_icmp .eq 17, 3) := by decide +kernel
theorem d_Mo_statement_198 : decode b_Mo_statement 198 = .ok (.iload 8, 2) := by decide +kernel
theorem d_Mo_statement_200 : decode b_Mo_statement 200 = .ok (.bipush 61, 2) := by decide +kernel
theorem d_Mo_statement_202 : decode b_Mo_statement 202 = .ok (.if_icmp .eq 10, 3) := by decide +kernel
theorem d_Mo_statement_205 : decode b_Mo_statement 205 = .ok (.iload 8, 2) := by decide +kernel
theorem d_Mo_statement_207 : decode b_Mo_statement 207 = .ok (.bipush 62, 2) := by decide +kernel
theorem d_Mo_statement_209 : decode b_Mo_statement 209 = .ok (.if_icmp .ne 7, 3) := by decide +kernel
theorem d_Mo_statement_212 : decode b_Mo_statement 212 = .ok (.iconst 1, 1) := by decide +kernel
theorem d_Mo_statement_213 : decode b_Mo_statement 213 = .ok (.goto 4, 3) := by decide +kernel
theorem d_Mo_statement_216 : decode b_Mo_statement 216 = .ok (.iconst 0, 1) := by decide +kernel
theorem d_Mo_statement_217 : decode b_Mo_statement 217 = .ok (.putfield 131, 3) := by decide +kernel
theorem d_Mo_statement_220 : decode b_Mo_statement 220 = .ok (.aload_n 0, 1) := by decide +kernel
theorem d_Mo_statement_221 : decode b_Mo_statement 221 = .ok (.dup, 1) := by decide +kernel
theorem d_Mo_statement_222 : decode b_Mo_statement 222 = .ok (.getfield 112, 3) := by decide +kernel
theorem d_Mo_statement_225 : decode b_Mo_statement 225 = .ok (.iconst 1, 1) := by decide +kernel
theorem d_Mo_statement_226 : decode b_Mo_statement 226 = .ok (.iadd, 1) := by decide +kernel
theorem d_Mo_statement_227 : decode b_Mo_statement 227 = .ok (.putfield 112, 3) := by decide +kernel
theorem d_Mo_statement_230 : decode b_Mo_statement 230 = .ok (.aload_n 0, 1) := by decide +kernel
theorem d_Mo_statement_231 : decode b_Mo_statement 231 = .ok (.invokevirtual 159, 3) := by decide +kernel
theorem d_Mo_statement_234 : decode b_Mo_statement 234 = .ok (.istore 9, 2) := by decide +kernel
theorem d_Mo_statement_236 : decode b_Mo_statement 236 = .ok (.aload_n 0, 1) := by decide +kernel
theorem d_Mo_statement_237 : decode b_Mo_statement 237 = .ok (.bipush 71, 2) := by decide +kernel
theorem d_Mo_statement_239 : decode b_Mo_statement 239 = .ok (.invokevirtual 155, 3) := by decide +kernel
theorem d_Mo_statement_242 : decode b_Mo_statement 242 = .ok (.aload_n 0, 1) := by decide +kernel
theorem d_Mo_statement_243 : decode b_Mo_statement 243 = .ok (.invokevirtual 165, 3) := by decide +kernel
theorem d_Mo_statement_246 : decode b_Mo_statement 246 = .ok (.istore 10, 2) := by decide +kernel
theorem d_Mo_statement_248 : decode b_Mo_statement 248 = .ok (.iload 8, 2) := by decide +kernel
theorem d_Mo_statement_250 : decode b_Mo_statement 250 = .ok (.bipush 60, 2) := by decide +kernel
theorem d_Mo_statement_252 : decode b_Mo_statement 252 = .ok (.if_icmp .ne 18, 3) := by decide +kernel
theorem d_Mo_statement_255 : decode b_Mo_statement 255 = .ok (.iload 7, 2) := by decide +kernel
theorem d_Mo_statement_257 : decode b_Mo_statement 257 = .ok (.iload 9, 2) := by decide +kernel
theorem d_Mo_statement_259 : decode b_Mo_statement 259 = .ok (.if_icmp .ge 7, 3) := by decide +kernel
theorem d_Mo_statement_262 : decode b_Mo_statement 262 = .ok (.iconst 1, 1) := by decide +kernel
theorem d_Mo_statement_263 : decode b_Mo_statement 263 = .ok (.goto 41, 3) := by decide +kernel
theorem d_Mo_statement_266 : decode b_Mo_statement 266 = .ok (.iconst 0, 1) := by decide +kernel
theorem d_Mo_statement_267 : decode b_Mo_statement 267 = .ok (.goto 37, 3) := by decide +kernel
theorem d_Mo_statement_270 : decode b_Mo_statement 270 = .ok (.iload 8, 2) := by decide +kernel
theorem d_Mo_statement_272 : decode b_Mo_statement 272 = .ok (.bipush 61, 2) := by decide +kernel
theorem d_Mo_statement_274 : decode b_Mo_statement 274 = .ok (.if_icmp .ne 18, 3) := by decide +kernel
theorem d_Mo_statement_277 : decode b_Mo_statement 277 = .ok (.iload 7, 2) := by decide +kernel
theorem d_Mo_statement_279 : decode b_Mo_statement 279 = .ok (.iload 9, 2) := by decide +kernel
theorem d_Mo_statement_281 : decode b_Mo_statement 281 = .ok (.if_icmp .ne 7, 3) := by decide +kernel
theorem d_Mo_statement_284 : decode b_Mo_statement 284 = .ok (.iconst 1, 1) := by decide +kernel
theorem d_Mo_statement_285 : decode b_Mo_statement 285 = .ok (.goto 19, 3) := by decide +kernel
theorem d_Mo_statement_288 : decode b_Mo_statement 288 = .ok (.iconst 0, 1) := by decide +kernel
theorem d_Mo_statement_289 : decode b_Mo_statement 289 = .ok (.goto 15, 3) := by decide +kernel
theorem d_Mo_statement_292 : decode b_Mo_statement 292 = .ok (.iload 7, 2) := by decide +kernel
theorem d_Mo_statement_294 : decode b_Mo_statement 294 = .ok (.iload 9, 2) := by decide +kernel
theorem d_Mo_statement_296 : decode b_Mo_statement 296 = .ok (.if_icmp .le 7, 3) := by decide +kernel
theorem d_Mo_statement_299 : decode b_Mo_statement 299 = .ok (.iconst 1, 1) := by decide +kernel
theorem d_Mo_statement_300 : decode b_Mo_statement 300 = .ok (.goto 4, 3) := by decide +kernel
theorem d_Mo_statement_303 : decode b_Mo_statement 303 = .ok (.iconst 0, 1) := by decide +kernel
theorem d_Mo_statement_304 : decode b_Mo_statement 304 = .ok (.istore 11, 2) := by decide +kernel
theorem d_Mo_statement_306 : decode b_Mo_statement 306 = .ok (.iload 11, 2) := by decide +kernel
theorem d_Mo_statement_308 : decode b_Mo_statement 308 = .ok (.ifCond .eq 8, 3) := by decide +kernel
theorem d_Mo_statement_311 : decode b_Mo_statement 311 = .ok (.iload 10, 2) := by decide +kernel
theorem d_Mo_statement_313 : decode b_Mo_statement 313 = .ok (.goto 5, 3) := by decide +kernel
theorem d_Mo_statement_316 : decode b_Mo_statement 316 = .ok (.iload 5, 2) := by decide +kernel
theorem d_Mo_statement_318 : decode b_Mo_statement 318 = .ok (.istore 5, 2) := by decide +kernel
theorem d_Mo_statement_320 : decode b_Mo_statement 320 = .ok (.goto 169, 3) := by decide +kernel
theorem d_Mo_statement_323 : decode b_Mo_statement 323 = .ok (.iload_n 3, 1) := by decide +kernel
theorem d_Mo_statement_324 : decode b_Mo_statement 324 = .ok (.bipush 71, 2) := by decide +kernel
theorem d_Mo_statement_326 : decode b_Mo_statement 326 = .ok (.if_icmp .ne 12, 3) := by decide +kernel
theorem d_Mo_statement_329 : decode b_Mo_statement 329 = .ok (.aload_n 0, 1) := by decide +kernel
theorem d_Mo_statement_330 : decode b_Mo_statement 330 = .ok (.invokevirtual 165, 3) := by decide +kernel
theorem d_Mo_statement_333 : decode b_Mo_statement 333 = .ok (.istore 5, 2) := by decide +kernel
theorem d_Mo_statement_335 : decode b_Mo_statement 335 = .ok (.goto 154, 3) := by decide +kernel
theorem d_Mo_statement_338 : decode b_Mo_statement 338 = .ok (.iload_n 3, 1) := by decide +kernel
theorem d_Mo_statement_339 : decode b_Mo_statement 339 = .ok (.bipush 69, 2) := by decide +kernel
theorem d_Mo_statement_341 : decode b_Mo_statement 341 = .ok (.if_icmp .ne 9, 3) := by decide +kernel
theorem d_Mo_statement_344 : decode b_Mo_statement 344 = .ok (.iconst (-1), 1) := by decide +kernel
theorem d_Mo_statement_345 : decode b_Mo_statement 345 = .ok (.istore 6, 2) := by decide +kernel
theorem d_Mo_statement_347 : decode b_Mo_statement 347 = .ok (.goto 142, 3) := by decide +kernel
theorem d_Mo_statement_350 : decode b_Mo_statement 350 = .ok (.iload_n 3, 1) := by decide +kernel
theorem d_Mo_statement_351 : decode b_Mo_statement 351 = .ok (.bipush 87, 2) := by decide +kernel
theorem d_Mo_statement_353 : decode b_Mo_statement 353 = .ok (.if_icmp .eq 9, 3) := by decide +kernel
theorem d_Mo_statement_356 : decode b_Mo_statement 356 = .ok (.iload_n 3, 1) := by decide +kernel
theorem d_Mo_statement_357 : decode b_Mo_statement 357 = .ok (.bipush 82, 2) := by decide +kernel
theorem d_Mo_statement_359 : decode b_Mo_statement 359 = .ok (.if_icmp .ne 125, 3) := by decide +kernel
theorem d_Mo_statement_362 : decode b_Mo_statement 362 = .ok (.aload_n 0, 1) := by decide +kernel
theorem d_Mo_statement_363 : decode b_Mo_statement 363 = .ok (.invokevirtual 168, 3) := by decide +kernel
theorem d_Mo_statement_366 : decode b_Mo_statement 366 = .ok (.istore 7, 2) := by decide +kernel
theorem d_Mo_statement_368 : decode b_Mo_statement 368 = .ok (.aload_n 0, 1) := by decide +kernel
theorem d_Mo_statement_369 : decode b_Mo_statement 369 = .ok (.bipush 44, 2) := by decide +kernel
theorem d_Mo_statement_371 : decode b_Mo_statement 371 = .ok (.invokevirtual 155, 3) := by decide +kernel
theorem d_Mo_statement_374 : decode b_Mo_statement 374 = .ok (.aload_n 0, 1) := by decide +kernel
theorem d_Mo_statement_375 : decode b_Mo_statement 375 = .ok (.invokevirtual 159, 3) := by decide +kernel
theorem d_Mo_statement_378 : decode b_Mo_statement 378 = .ok (.istore 8, 2) := by decide +kernel
theorem d_Mo_statement_380 : decode b_Mo_statement 380 = .ok (.aload_n 0, 1) := by decide +kernel
theorem d_Mo_statement_381 : decode b_Mo_statement 381 = .ok (.bipush 44, 2) := by decide +kernel
theorem d_Mo_statement_383 : decode b_Mo_statement 383 = .ok (.invokevirtual 155, 3) := by decide +kernel
theorem d_Mo_statement_386 : decode b_Mo_statement 386 = .ok (.iload_n 3, 1) := by decide +kernel
theorem d_Mo_statement_387 : decode b_Mo_statement 387 = .ok (.bipush 82, 2) := by decide +kernel
theorem d_Mo_statement_389 : decode b_Mo_statement 389 = .ok (.if_icmp .ne 13, 3) := by decide +kernel
theorem d_Mo_statement_392 : decode b_Mo_statement 392 = .ok (.aload_n 0, 1) := by decide +kernel
theorem d_Mo_statement_393 : decode b_Mo_statement 393 = .ok (.invokevirtual 124, 3) := by decide +kernel
theorem d_Mo_statement_396 : decode b_Mo_statement 396 = .ok (.bipush 65, 2) := by decide +kernel
theorem d_Mo_statement_398 : decode b_Mo_statement 398 = .ok (.isub, 1) := by decide +kernel
theorem d_Mo_statement_399 : decode b_Mo_statement 399 = .ok (.goto 4, 3) := by decide +kernel
theorem d_Mo_statement_402 : decode b_Mo_statement 402 = .ok (.iconst (-1), 1) := by decide +kernel
theorem d_Mo_statement_403 : decode b_Mo_statement 403 = .ok (.istore 9, 2) := by decide +kernel
theorem d_Mo_statement_405 : decode b_Mo_statement 405 = .ok (.iconst 0, 1) := by decide +kernel
theorem d_Mo_statement_406 : decode b_Mo_statement 406 = .ok (.istore 10, 2) := by decide +kernel
theorem d_Mo_statement_408 : decode b_Mo_statement 408 = .ok (.iload_n 3, 1) := by decide +kernel
theorem d_Mo_statement_409 : decode b_Mo_statement 409 = .ok (.bipush 87, 2) := by decide +kernel
theorem d_Mo_statement_411 : decode b_Mo_statement 411 = .ok (.if_icmp .ne 12, 3) := by decide +kernel
theorem d_Mo_statement_414 : decode b_Mo_statement 414 = .ok (.aload_n 0, 1) := by decide +kernel
theorem d_Mo_statement_415 : decode b_Mo_statement 415 = .ok (.invokevirtual 159, 3) := by decide +kernel
theorem d_Mo_statement_418 : decode b_Mo_statement 418 = .ok (.istore 10, 2) := by decide +kernel
theorem d_Mo_statement_420 : decode b_Mo_statement 420 = .ok (.goto 39, 3) := by decide +kernel
theorem d_Mo_statement_423 : decode b_Mo_statement 423 = .ok (.aload_n 0, 1) := by decide +kernel
theorem d_Mo_statement_424 : decode b_Mo_statement 424 = .ok (.aload_n 0, 1) := by decide +kernel
theorem d_Mo_statement_425 : decode b_Mo_statement 425 = .ok (.getfield 131, 3) := by decide +kernel
theorem d_Mo_statement_428 : decode b_Mo_statement 428 = .ok (.ifCond .eq 17, 3) := by decide +kernel
theorem d_Mo_statement_431 : decode b_Mo_statement 431 = .ok (.aload_n 0, 1) := by decide +kernel
theorem d_Mo_statement_432 : decode b_Mo_statement 432 = .ok (.invokevirtual 124, 3) := by decide +kernel
theorem d_Mo_statement_435 : decode b_Mo_statement 435 = .ok (.invokestatic 143, 3) := by decide +kernel
theorem d_Mo_statement_438 : decode b_Mo_statement 438 = .ok (.ifCond .eq 7, 3) := by decide +kernel
theorem d_Mo_statement_441 : decode b_Mo_statement 441 = .ok (.iconst 1, 1) := by decide +kernel
theorem d_Mo_statement_442 : decode b_Mo_statement 442 = .ok (.goto 4, 3) := by decide +kernel
theorem d_Mo_statement_445 : decode b_Mo_statement 445 = .ok (.iconst 0, 1) := by decide +kernel
theorem d_Mo_statement_446 : decode b_Mo_statement 446 = .ok (.putfield 131, 3) := by decide +kernel
theorem d_Mo_statement_449 : decode b_Mo_statement 449 = .ok (.aload_n 0, 1) := by decide +kernel
theorem d_Mo_statement_450 : decode b_Mo_statement 450 = .ok (.dup, 1) := by decide +kernel
theorem d_Mo_statement_451 : decode b_Mo_statement 451 = .ok (.getfield 112, 3) := by decide +kernel
theorem d_Mo_statement_454 : decode b_Mo_statement 454 = .ok (.iconst 1, 1) := by decide +kernel
theorem d_Mo_statement_455 : decode b_Mo_statement 455 = .ok (.iadd, 1) := by decide +kernel
theorem d_Mo_statement_456 : decode b_Mo_statement 456 = .ok (.putfield 112, 3) := by decide +kernel
theorem d_Mo_statement_459 : decode b_Mo_statement 459 = .ok (.iload_n 1, 1) := by decide +kernel
theorem d_Mo_statement_460 : decode b_Mo_statement 460 = .ok (.ifCond .eq 18, 3) := by decide +kernel
theorem d_Mo_statement_463 : decode b_Mo_statement 463 = .ok (.aload_n 0, 1) := by decide +kernel
theorem d_Mo_statement_464 : decode b_Mo_statement 464 = .ok (.iload 7, 2) := by decide +kernel
theorem d_Mo_statement_466 : decode b_Mo_statement 466 = .ok (.iload 8, 2) := by decide +kernel
theorem d_Mo_statement_468 : decode b_Mo_statement 468 = .ok (.iload 10, 2) := by decide +kernel
theorem d_Mo_statement_470 : decode b_Mo_statement 470 = .ok (.iload 9, 2) := by decide +kernel
theorem d_Mo_statement_472 : decode b_Mo_statement 472 = .ok (.invokevirtual 171, 3) := by decide +kernel
theorem d_Mo_statement_475 : decode b_Mo_statement 475 = .ok (.goto 4, 3) := by decide +kernel
theorem d_Mo_statement_478 : decode b_Mo_statement 478 = .ok (.iconst 0, 1) := by decide +kernel
theorem d_Mo_statement_479 : decode b_Mo_statement 479 = .ok (.istore 6, 2) := by decide +kernel
theorem d_Mo_statement_481 : decode b_Mo_statement 481 = .ok (.goto 8, 3) := by decide +kernel
theorem d_Mo_statement_484 : decode b_Mo_statement 484 = .ok (.aload_n 0, 1) := by decide +kernel
theorem d_Mo_statement_485 : decode b_Mo_statement 485 = .ok (.iconst 0, 1) := by decide +kernel
theorem d_Mo_statement_486 : decode b_Mo_statement 486 = .ok (.putfield 131, 3) := by decide +kernel
theorem d_Mo_statement_489 : decode b_Mo_statement 489 = .ok (.aload_n 0, 1) := by decide +kernel
theorem d_Mo_statement_490 : decode b_Mo_statement 490 = .ok (.aload_n 0, 1) := by decide +kernel
theorem d_Mo_statement_491 : decode b_Mo_statement 491 = .ok (.getfield 131, 3) := by decide +kernel
theorem d_Mo_statement_494 : decode b_Mo_statement 494 = .ok (.ifCond .eq 18, 3) := by decide +kernel
theorem d_Mo_statement_497 : decode b_Mo_statement 497 = .ok (.aload_n 0, 1) := by decide +kernel
theorem d_Mo_statement_498 : decode b_Mo_statement 498 = .ok (.invokevirtual 175, 3) := by decide +kernel
theorem d_Mo_statement_501 : decode b_Mo_statement 501 = .ok (.aload_n 0, 1) := by decide +kernel
theorem d_Mo_statement_502 : decode b_Mo_statement 502 = .ok (.getfield 115, 3) := by decide +kernel
theorem d_Mo_statement_505 : decode b_Mo_statement 505 = .ok (.if_icmp .ne 7, 3) := by decide +kernel
theorem d_Mo_statement_508 : decode b_Mo_statement 508 = .ok (.iconst 1, 1) := by decide +kernel
theorem d_Mo_statement_509 : decode b_Mo_statement 509 = .ok (.goto 4, 3) := by decide +kernel
theorem d_Mo_statement_512 : decode b_Mo_statement 512 = .ok (.iconst 0, 1) := by decide +kernel
theorem d_Mo_statement_513 : decode b_Mo_statement 513 = .ok (.putfield 131, 3) := by decide +kernel
theorem d_Mo_statement_516 : decode b_Mo_statement 516 = .ok (.iload_n 1, 1) := by decide +kernel
theorem d_Mo_statement_517 : decode b_Mo_statement 517 = .ok (.ifCond .eq 38, 3) := by decide +kernel
theorem d_Mo_statement_520 : decode b_Mo_statement 520 = .ok (.aload_n 0, 1) := by decide +kernel
theorem d_Mo_statement_521 : decode b_Mo_statement 521 = .ok (.getfield 56, 3) := by decide +kernel
theorem d_Mo_statement_524 : decode b_Mo_statement 524 = .ok (.ifCond .ne 31, 3) := by decide +kernel
theorem d_Mo_statement_527 : decode b_Mo_statement 527 = .ok (.aload_n 0, 1) := by decide +kernel
theorem d_Mo_statement_528 : decode b_Mo_statement 528 = .ok (.iload 6, 2) := by decide +kernel
theorem d_Mo_statement_530 : decode b_Mo_statement 530 = .ok (.ifCond .ne 8, 3) := by decide +kernel
theorem d_Mo_statement_533 : decode b_Mo_statement 533 = .ok (.iload 5, 2) := by decide +kernel
theorem d_Mo_statement_535 : decode b_Mo_statement 535 = .ok (.goto 17, 3) := by decide +kernel
theorem d_Mo_statement_538 : decode b_Mo_statement 538 = .ok (.iload 6, 2) := by decide +kernel
theorem d_Mo_statement_540 : decode b_Mo_statement 540 = .ok (.iconst (-1), 1) := by decide +kernel
theorem d_Mo_statement_541 : decode b_Mo_statement 541 = .ok (.if_icmp .ne 7, 3) := by decide +kernel
theorem d_Mo_statement_544 : decode b_Mo_statement 544 = .ok (.iconst 0, 1) := by decide +kernel
theorem d_Mo_statement_545 : decode b_Mo_statement 545 = .ok (.goto 7, 3) := by decide +kernel
theorem d_Mo_statement_548 : decode b_Mo_statement 548 = .ok (.aload_n 0, 1) := by decide +kernel
theorem d_Mo_statement_549 : decode b_Mo_statement 549 = .ok (.getfield 50, 3) := by decide +kernel
theorem d_Mo_statement_552 : decode b_Mo_statement 552 = .ok (.putfield 50, 3) := by decide +kernel
theorem d_Mo_statement_555 : decode b_Mo_statement 555 = .ok (.iload 6, 2) := by decide +kernel
theorem d_Mo_statement_557 : decode b_Mo_statement 557 = .ok (.ireturn, 1) := by decide +kernel
theorem d_Mo_nextLine_0 : decode b_Mo_nextLine 0 = .ok (.aload_n 0, 1) := by decide +kernel
theorem d_Mo_nextLine_1 : decode b_Mo_nextLine 1 = .ok (.getfield 50, 3) := by decide +kernel
theorem d_Mo_nextLine_4 : decode b_Mo_nextLine 4 = .ok (.iconst 1, 1) := by decide +kernel
theorem d_Mo_nextLine_5 : decode b_Mo_nextLine 5 = .ok (.if_icmp .ge 7, 3) := by decide +kernel
theorem d_Mo_nextLine_8 : decode b_Mo_nextLine 8 = .ok (.iconst 1, 1) := by decide +kernel
theorem d_Mo_nextLine_9 : decode b_Mo_nextLine 9 = .ok (.goto 7, 3) := by decide +kernel
theorem d_Mo_nextLine_12 : decode b_Mo_nextLine 12 = .ok (.aload_n 0, 1) := by decide +kernel
theorem d_Mo_nextLine_13 : decode b_Mo_nextLine 13 = .ok (.getfield 50, 3) := by decide +kernel
theorem d_Mo_nextLine_16 : decode b_Mo_nextLine 16 = .ok (.istore_n 1, 1) := by decide +kernel
theorem d_Mo_nextLine_17 : decode b_Mo_nextLine 17 = .ok (.iload_n 1, 1) := by decide +kernel
theorem d_Mo_nextLine_18 : decode b_Mo_nextLine 18 = .ok (.bipush 100, 2) := by decide +kernel
theorem d_Mo_nextLine_20 : decode b_Mo_nextLine 20 = .ok (.if_icmp .ge 21, 3) := by decide +kernel
theorem d_Mo_nextLine_23 : decode b_Mo_nextLine 23 = .ok (.aload_n 0, 1) := by decide +kernel
theorem d_Mo_nextLine_24 : decode b_Mo_nextLine 24 = .ok (.getfield 17, 3) := by decide +kernel
theorem d_Mo_nextLine_27 : decode b_Mo_nextLine 27 = .ok (.iload_n 1, 1) := by decide +kernel
theorem d_Mo_nextLine_28 : decode b_Mo_nextLine 28 = .ok (.iaload, 1) := by decide +kernel
theorem d_Mo_nextLine_29 : decode b_Mo_nextLine 29 = .ok (.iconst (-1), 1) := by decide +kernel
theorem d_Mo_nextLine_30 : decode b_Mo_nextLine 30 = .ok (.if_icmp .eq 5, 3) := by decide +kernel
theorem d_Mo_nextLine_33 : decode b_Mo_nextLine 33 = .ok (.iload_n 1, 1) := by decide +kernel
theorem d_Mo_nextLine_34 : decode b_Mo_nextLine 34 = .ok (.ireturn, 1) := by decide +kernel
theorem d_Mo_nextLine_35 : decode b_Mo_nextLine 35 = .ok (.iinc 1 1, 3) := by decide +kernel
theorem d_Mo_nextLine_38 : decode b_Mo_nextLine 38 = .ok (.goto (-21), 3) := by decide +kernel
theorem d_Mo_nextLine_41 : decode b_Mo_nextLine 41 = .ok (.iconst (-1), 1) := by decide +kernel
theorem d_Mo_nextLine_42 : decode b_Mo_nextLine 42 = .ok (.ireturn, 1) := by decide +kernel
