theorem dX12_layLeft_156 : decode cX12_layLeft 156 = .ok (.iadd, 1) := by decide +kernel
theorem dX12_layLeft_157 : decode cX12_layLeft 157 = .ok (.iaload, 1) := by decide +kernel
theorem dX12_layLeft_158 : decode cX12_layLeft 158 = .ok (.iconst 1, 1) := by decide +kernel
theorem dX12_layLeft_159 : decode cX12_layLeft 159 = .ok (.if_icmp .eq 6, 3) := by decide +kernel
theorem dX12_layLeft_162 : decode cX12_layLeft 162 = .ok (.goto 56, 3) := by decide +kernel
theorem dX12_layLeft_165 : decode cX12_layLeft 165 = .ok (.aload_n 0, 1) := by decide +kernel
theorem dX12_layLeft_166 : decode cX12_layLeft 166 = .ok (.iload 6, 2) := by decide +kernel
theorem dX12_layLeft_168 : decode cX12_layLeft 168 = .ok (.iload 5, 2) := by decide +kernel
theorem dX12_layLeft_170 : decode cX12_layLeft 170 = .ok (.aload_n 0, 1) := by decide +kernel
theorem dX12_layLeft_171 : decode cX12_layLeft 171 = .ok (.getfield 55, 3) := by decide +kernel
theorem dX12_layLeft_174 : decode cX12_layLeft 174 = .ok (.aload_n 0, 1) := by decide +kernel
theorem dX12_layLeft_175 : decode cX12_layLeft 175 = .ok (.getfield 58, 3) := by decide +kernel
theorem dX12_layLeft_178 : decode cX12_layLeft 178 = .ok (.iload_n 3, 1) := by decide +kernel
theorem dX12_layLeft_179 : decode cX12_layLeft 179 = .ok (.iaload, 1) := by decide +kernel
theorem dX12_layLeft_180 : decode cX12_layLeft 180 = .ok (.iaload, 1) := by decide +kernel
theorem dX12_layLeft_181 : decode cX12_layLeft 181 = .ok (.iconst 1, 1) := by decide +kernel
theorem dX12_layLeft_182 : decode cX12_layLeft 182 = .ok (.iadd, 1) := by decide +kernel
theorem dX12_layLeft_183 : decode cX12_layLeft 183 = .ok (.iload_n 2, 1) := by decide +kernel
theorem dX12_layLeft_184 : decode cX12_layLeft 184 = .ok (.invokevirtual 398, 3) := by decide +kernel
theorem dX12_layLeft_187 : decode cX12_layLeft 187 = .ok (.istore_n 2, 1) := by decide +kernel
theorem dX12_layLeft_188 : decode cX12_layLeft 188 = .ok (.aload_n 0, 1) := by decide +kernel
theorem dX12_layLeft_189 : decode cX12_layLeft 189 = .ok (.iload 6, 2) := by decide +kernel
theorem dX12_layLeft_191 : decode cX12_layLeft 191 = .ok (.iload 5, 2) := by decide +kernel
theorem dX12_layLeft_193 : decode cX12_layLeft 193 = .ok (.iconst 1, 1) := by decide +kernel
theorem dX12_layLeft_194 : decode cX12_layLeft 194 = .ok (.iload 4, 2) := by decide +kernel
theorem dX12_layLeft_196 : decode cX12_layLeft 196 = .ok (.ishl, 1) := by decide +kernel
theorem dX12_layLeft_197 : decode cX12_layLeft 197 = .ok (.iconst (-1), 1) := by decide +kernel
theorem dX12_layLeft_198 : decode cX12_layLeft 198 = .ok (.ixor, 1) := by decide +kernel
theorem dX12_layLeft_199 : decode cX12_layLeft 199 = .ok (.iand, 1) := by decide +kernel
theorem dX12_layLeft_200 : decode cX12_layLeft 200 = .ok (.aload_n 0, 1) := by decide +kernel
theorem dX12_layLeft_201 : decode cX12_layLeft 201 = .ok (.getfield 55, 3) := by decide +kernel
theorem dX12_layLeft_204 : decode cX12_layLeft 204 = .ok (.aload_n 0, 1) := by decide +kernel
theorem dX12_layLeft_205 : decode cX12_layLeft 205 = .ok (.getfield 58, 3) := by decide +kernel
theorem dX12_layLeft_208 : decode cX12_layLeft 208 = .ok (.iload_n 3, 1) := by decide +kernel
theorem dX12_layLeft_209 : decode cX12_layLeft 209 = .ok (.iaload, 1) := by decide +kernel
theorem dX12_layLeft_210 : decode cX12_layLeft 210 = .ok (.iaload, 1) := by decide +kernel
theorem dX12_layLeft_211 : decode cX12_layLeft 211 = .ok (.iconst 1, 1) := by decide +kernel
theorem dX12_layLeft_212 : decode cX12_layLeft 212 = .ok (.iadd, 1) := by decide +kernel
theorem dX12_layLeft_213 : decode cX12_layLeft 213 = .ok (.iload_n 2, 1) := by decide +kernel
theorem dX12_layLeft_214 : decode cX12_layLeft 214 = .ok (.invokevirtual 398, 3) := by decide +kernel
theorem dX12_layLeft_217 : decode cX12_layLeft 217 = .ok (.istore_n 2, 1) := by decide +kernel
theorem dX12_layLeft_218 : decode cX12_layLeft 218 = .ok (.iinc 6 1, 3) := by decide +kernel
theorem dX12_layLeft_221 : decode cX12_layLeft 221 = .ok (.goto (-85), 3) := by decide +kernel
theorem dX12_layLeft_224 : decode cX12_layLeft 224 = .ok (.iinc 3 1, 3) := by decide +kernel
theorem dX12_layLeft_227 : decode cX12_layLeft 227 = .ok (.goto (-123), 3) := by decide +kernel
theorem dX12_layLeft_230 : decode cX12_layLeft 230 = .ok (.return_, 1) := by decide +kernel
theorem dX12_comes_0 : decode cX12_comes 0 = .ok (.sipush 4096, 3) := by decide +kernel
theorem dX12_comes_3 : decode cX12_comes 3 = .ok (.iload_n 1, 1) := by decide +kernel
theorem dX12_comes_4 : decode cX12_comes 4 = .ok (.imul, 1) := by decide +kernel
theorem dX12_comes_5 : decode cX12_comes 5 = .ok (.iload_n 2, 1) := by decide +kernel
theorem dX12_comes_6 : decode cX12_comes 6 = .ok (.iadd, 1) := by decide +kernel
theorem dX12_comes_7 : decode cX12_comes 7 = .ok (.istore 5, 2) := by decide +kernel
theorem dX12_comes_9 : decode cX12_comes 9 = .ok (.iload_n 2, 1) := by decide +kernel
theorem dX12_comes_10 : decode cX12_comes 10 = .ok (.iload_n 1, 1) := by decide +kernel
theorem dX12_comes_11 : decode cX12_comes 11 = .ok (.invokestatic 246, 3) := by decide +kernel
theorem dX12_comes_14 : decode cX12_comes 14 = .ok (.ifCond .eq 14, 3) := by decide +kernel
theorem dX12_comes_17 : decode cX12_comes 17 = .ok (.aload_n 0, 1) := by decide +kernel
theorem dX12_comes_18 : decode cX12_comes 18 = .ok (.getfield 55, 3) := by decide +kernel
theorem dX12_comes_21 : decode cX12_comes 21 = .ok (.iload 5, 2) := by decide +kernel
theorem dX12_comes_23 : decode cX12_comes 23 = .ok (.iaload, 1) := by decide +kernel
theorem dX12_comes_24 : decode cX12_comes 24 = .ok (.iconst (-1), 1) := by decide +kernel
theorem dX12_comes_25 : decode cX12_comes 25 = .ok (.if_icmp .eq 6, 3) := by decide +kernel
theorem dX12_comes_28 : decode cX12_comes 28 = .ok (.iload 4, 2) := by decide +kernel
theorem dX12_comes_30 : decode cX12_comes 30 = .ok (.ireturn, 1) := by decide +kernel
theorem dX12_comes_31 : decode cX12_comes 31 = .ok (.aload_n 0, 1) := by decide +kernel
theorem dX12_comes_32 : decode cX12_comes 32 = .ok (.getfield 55, 3) := by decide +kernel
theorem dX12_comes_35 : decode cX12_comes 35 = .ok (.iload 5, 2) := by decide +kernel
theorem dX12_comes_37 : decode cX12_comes 37 = .ok (.iload_n 3, 1) := by decide +kernel
theorem dX12_comes_38 : decode cX12_comes 38 = .ok (.iastore, 1) := by decide +kernel
theorem dX12_comes_39 : decode cX12_comes 39 = .ok (.aload_n 0, 1) := by decide +kernel
theorem dX12_comes_40 : decode cX12_comes 40 = .ok (.getfield 58, 3) := by decide +kernel
theorem dX12_comes_43 : decode cX12_comes 43 = .ok (.iload 4, 2) := by decide +kernel
theorem dX12_comes_45 : decode cX12_comes 45 = .ok (.iload 5, 2) := by decide +kernel
theorem dX12_comes_47 : decode cX12_comes 47 = .ok (.iastore, 1) := by decide +kernel
theorem dX12_comes_48 : decode cX12_comes 48 = .ok (.iload 4, 2) := by decide +kernel
theorem dX12_comes_50 : decode cX12_comes 50 = .ok (.iconst 1, 1) := by decide +kernel
theorem dX12_comes_51 : decode cX12_comes 51 = .ok (.iadd, 1) := by decide +kernel
theorem dX12_comes_52 : decode cX12_comes 52 = .ok (.ireturn, 1) := by decide +kernel
theorem dX12_round_0 : decode cX12_round 0 = .ok (.aload_n 0, 1) := by decide +kernel
theorem dX12_round_1 : decode cX12_round 1 = .ok (.aload_n 0, 1) := by decide +kernel
theorem dX12_round_2 : decode cX12_round 2 = .ok (.iload_n 1, 1) := by decide +kernel
theorem dX12_round_3 : decode cX12_round 3 = .ok (.invokevirtual 240, 3) := by decide +kernel
theorem dX12_round_6 : decode cX12_round 6 = .ok (.ifCond .ne 7, 3) := by decide +kernel
theorem dX12_round_9 : decode cX12_round 9 = .ok (.iconst 1, 1) := by decide +kernel
theorem dX12_round_10 : decode cX12_round 10 = .ok (.goto 22, 3) := by decide +kernel
theorem dX12_round_13 : decode cX12_round 13 = .ok (.aload_n 0, 1) := by decide +kernel
theorem dX12_round_14 : decode cX12_round 14 = .ok (.invokevirtual 228, 3) := by decide +kernel
theorem dX12_round_17 : decode cX12_round 17 = .ok (.bipush 12, 2) := by decide +kernel
theorem dX12_round_19 : decode cX12_round 19 = .ok (.if_icmp .gt 12, 3) := by decide +kernel
theorem dX12_round_22 : decode cX12_round 22 = .ok (.iload_n 2, 1) := by decide +kernel
theorem dX12_round_23 : decode cX12_round 23 = .ok (.iconst (-1), 1) := by decide +kernel
theorem dX12_round_24 : decode cX12_round 24 = .ok (.if_icmp .lt 7, 3) := by decide +kernel
theorem dX12_round_27 : decode cX12_round 27 = .ok (.iconst 0, 1) := by decide +kernel
theorem dX12_round_28 : decode cX12_round 28 = .ok (.goto 4, 3) := by decide +kernel
theorem dX12_round_31 : decode cX12_round 31 = .ok (.iconst 2, 1) := by decide +kernel
theorem dX12_round_32 : decode cX12_round 32 = .ok (.putfield 75, 3) := by decide +kernel
theorem dX12_round_35 : decode cX12_round 35 = .ok (.aload_n 0, 1) := by decide +kernel
theorem dX12_round_36 : decode cX12_round 36 = .ok (.getfield 75, 3) := by decide +kernel
theorem dX12_round_39 : decode cX12_round 39 = .ok (.ifCond .le 5, 3) := by decide +kernel
theorem dX12_round_42 : decode cX12_round 42 = .ok (.iconst 0, 1) := by decide +kernel
theorem dX12_round_43 : decode cX12_round 43 = .ok (.ireturn, 1) := by decide +kernel
theorem dX12_round_44 : decode cX12_round 44 = .ok (.aload_n 0, 1) := by decide +kernel
theorem dX12_round_45 : decode cX12_round 45 = .ok (.iload_n 1, 1) := by decide +kernel
theorem dX12_round_46 : decode cX12_round 46 = .ok (.invokevirtual 402, 3) := by decide +kernel
theorem dX12_round_49 : decode cX12_round 49 = .ok (.iload_n 1, 1) := by decide +kernel
theorem dX12_round_50 : decode cX12_round 50 = .ok (.istore_n 3, 1) := by decide +kernel
theorem dX12_round_51 : decode cX12_round 51 = .ok (.iconst 1, 1) := by decide +kernel
theorem dX12_round_52 : decode cX12_round 52 = .ok (.iload_n 1, 1) := by decide +kernel
theorem dX12_round_53 : decode cX12_round 53 = .ok (.ishl, 1) := by decide +kernel
theorem dX12_round_54 : decode cX12_round 54 = .ok (.istore 4, 2) := by decide +kernel
theorem dX12_round_56 : decode cX12_round 56 = .ok (.aload_n 0, 1) := by decide +kernel
theorem dX12_round_57 : decode cX12_round 57 = .ok (.getfield 55, 3) := by decide +kernel
theorem dX12_round_60 : decode cX12_round 60 = .ok (.sipush 4096, 3) := by decide +kernel
theorem dX12_round_63 : decode cX12_round 63 = .ok (.iload_n 3, 1) := by decide +kernel
theorem dX12_round_64 : decode cX12_round 64 = .ok (.imul, 1) := by decide +kernel
theorem dX12_round_65 : decode cX12_round 65 = .ok (.iload 4, 2) := by decide +kernel
theorem dX12_round_67 : decode cX12_round 67 = .ok (.iadd, 1) := by decide +kernel
theorem dX12_round_68 : decode cX12_round 68 = .ok (.iaload, 1) := by decide +kernel
theorem dX12_round_69 : decode cX12_round 69 = .ok (.istore 5, 2) := by decide +kernel
theorem dX12_round_71 : decode cX12_round 71 = .ok (.iload_n 2, 1) := by decide +kernel
theorem dX12_round_72 : decode cX12_round 72 = .ok (.iconst (-1), 1) := by decide +kernel
theorem dX12_round_73 : decode cX12_round 73 = .ok (.if_icmp .eq 15, 3) := by decide +kernel
theorem dX12_round_76 : decode cX12_round 76 = .ok (.iload 5, 2) := by decide +kernel
theorem dX12_round_78 : decode cX12_round 78 = .ok (.iconst (-1), 1) := by decide +kernel
theorem dX12_round_79 : decode cX12_round 79 = .ok (.if_icmp .eq 9, 3) := by decide +kernel
theorem dX12_round_82 : decode cX12_round 82 = .ok (.iload_n 2, 1) := by decide +kernel
theorem dX12_round_83 : decode cX12_round 83 = .ok (.iload 5, 2) := by decide +kernel
theorem dX12_round_85 : decode cX12_round 85 = .ok (.if_icmp .le 15, 3) := by decide +kernel
theorem dX12_round_88 : decode cX12_round 88 = .ok (.iload_n 2, 1) := by decide +kernel
theorem dX12_round_89 : decode cX12_round 89 = .ok (.iconst (-1), 1) := by decide +kernel
theorem dX12_round_90 : decode cX12_round 90 = .ok (.if_icmp .ne 8, 3) := by decide +kernel
theorem dX12_round_93 : decode cX12_round 93 = .ok (.iload 5, 2) := by decide +kernel
theorem dX12_round_95 : decode cX12_round 95 = .ok (.goto 4, 3) := by decide +kernel
theorem dX12_round_98 : decode cX12_round 98 = .ok (.iconst (-1), 1) := by decide +kernel
theorem dX12_round_99 : decode cX12_round 99 = .ok (.ireturn, 1) := by decide +kernel
theorem dX12_round_100 : decode cX12_round 100 = .ok (.iconst 0, 1) := by decide +kernel
theorem dX12_round_101 : decode cX12_round 101 = .ok (.istore 6, 2) := by decide +kernel
theorem dX12_round_103 : decode cX12_round 103 = .ok (.iload 6, 2) := by decide +kernel
theorem dX12_round_105 : decode cX12_round 105 = .ok (.iload_n 2, 1) := by decide +kernel
theorem dX12_round_106 : decode cX12_round 106 = .ok (.if_icmp .ge 75, 3) := by decide +kernel
theorem dX12_round_109 : decode cX12_round 109 = .ok (.iconst 0, 1) := by decide +kernel
theorem dX12_round_110 : decode cX12_round 110 = .ok (.istore 7, 2) := by decide +kernel
theorem dX12_round_112 : decode cX12_round 112 = .ok (.aload_n 0, 1) := by decide +kernel
theorem dX12_round_113 : decode cX12_round 113 = .ok (.getfield 45, 3) := by decide +kernel
theorem dX12_round_116 : decode cX12_round 116 = .ok (.bipush 16, 2) := by decide +kernel
theorem dX12_round_118 : decode cX12_round 118 = .ok (.iload_n 3, 1) := by decide +kernel
theorem dX12_round_119 : decode cX12_round 119 = .ok (.imul, 1) := by decide +kernel
theorem dX12_round_120 : decode cX12_round 120 = .ok (.iload 7, 2) := by decide +kernel
theorem dX12_round_122 : decode cX12_round 122 = .ok (.iadd, 1) := by decide +kernel
theorem dX12_round_123 : decode cX12_round 123 = .ok (.iaload, 1) := by decide +kernel
theorem dX12_round_124 : decode cX12_round 124 = .ok (.iconst 1, 1) := by decide +kernel
theorem dX12_round_125 : decode cX12_round 125 = .ok (.if_icmp .ne 32, 3) := by decide +kernel
theorem dX12_round_128 : decode cX12_round 128 = .ok (.aload_n 0, 1) := by decide +kernel
theorem dX12_round_129 : decode cX12_round 129 = .ok (.getfield 55, 3) := by decide +kernel
theorem dX12_round_132 : decode cX12_round 132 = .ok (.sipush 4096, 3) := by decide +kernel
theorem dX12_round_135 : decode cX12_round 135 = .ok (.iload 7, 2) := by decide +kernel
theorem dX12_round_137 : decode cX12_round 137 = .ok (.imul, 1) := by decide +kernel
theorem dX12_round_138 : decode cX12_round 138 = .ok (.iload 4, 2) := by decide +kernel
theorem dX12_round_140 : decode cX12_round 140 = .ok (.iconst 1, 1) := by decide +kernel
theorem dX12_round_141 : decode cX12_round 141 = .ok (.iload 7, 2) := by decide +kernel
theorem dX12_round_143 : decode cX12_round 143 = .ok (.ishl, 1) := by decide +kernel
theorem dX12_round_144 : decode cX12_round 144 = .ok (.ior, 1) := by decide +kernel
theorem dX12_round_145 : decode cX12_round 145 = .ok (.iadd, 1) := by decide +kernel
theorem dX12_round_146 : decode cX12_round 146 = .ok (.iaload, 1) := by decide +kernel
theorem dX12_round_147 : decode cX12_round 147 = .ok (.iload 5, 2) := by decide +kernel
theorem dX12_round_149 : decode cX12_round 149 = .ok (.iload 6, 2) := by decide +kernel
theorem dX12_round_151 : decode cX12_round 151 = .ok (.isub, 1) := by decide +kernel
theorem dX12_round_152 : decode cX12_round 152 = .ok (.iconst 1, 1) := by decide +kernel
theorem dX12_round_153 : decode cX12_round 153 = .ok (.isub, 1) := by decide +kernel
theorem dX12_round_154 : decode cX12_round 154 = .ok (.if_icmp .eq 9, 3) := by decide +kernel
theorem dX12_round_157 : decode cX12_round 157 = .ok (.iinc 7 1, 3) := by decide +kernel
theorem dX12_round_160 : decode cX12_round 160 = .ok (.goto (-48), 3) := by decide +kernel
theorem dX12_round_163 : decode cX12_round 163 = .ok (.iload 7, 2) := by decide +kernel
theorem dX12_round_165 : decode cX12_round 165 = .ok (.istore_n 3, 1) := by decide +kernel
theorem dX12_round_166 : decode cX12_round 166 = .ok (.iload 4, 2) := by decide +kernel
theorem dX12_round_168 : decode cX12_round 168 = .ok (.iconst 1, 1) := by decide +kernel
theorem dX12_round_169 : decode cX12_round 169 = .ok (.iload 7, 2) := by decide +kernel
theorem dX12_round_171 : decode cX12_round 171 = .ok (.ishl, 1) := by decide +kernel
theorem dX12_round_172 : decode cX12_round 172 = .ok (.ior, 1) := by decide +kernel
theorem dX12_round_173 : decode cX12_round 173 = .ok (.istore 4, 2) := by decide +kernel
theorem dX12_round_175 : decode cX12_round 175 = .ok (.iinc 6 1, 3) := by decide +kernel
theorem dX12_round_178 : decode cX12_round 178 = .ok (.goto (-75), 3) := by decide +kernel
theorem dX12_round_181 : decode cX12_round 181 = .ok (.iload_n 3, 1) := by decide +kernel
theorem dX12_round_182 : decode cX12_round 182 = .ok (.ireturn, 1) := by decide +kernel
theorem dX12_hasLamp_0 : decode cX12_hasLamp 0 = .ok (.iload_n 1, 1) := by decide +kernel
theorem dX12_hasLamp_1 : decode cX12_hasLamp 1 = .ok (.ifCond .eq 12, 3) := by decide +kernel
theorem dX12_hasLamp_4 : decode cX12_hasLamp 4 = .ok (.iload 4, 2) := by decide +kernel
theorem dX12_hasLamp_6 : decode cX12_hasLamp 6 = .ok (.iload_n 0, 1) := by decide +kernel
theorem dX12_hasLamp_7 : decode cX12_hasLamp 7 = .ok (.iadd, 1) := by decide +kernel
theorem dX12_hasLamp_8 : decode cX12_hasLamp 8 = .ok (.iload_n 0, 1) := by decide +kernel
theorem dX12_hasLamp_9 : decode cX12_hasLamp 9 = .ok (.irem, 1) := by decide +kernel
theorem dX12_hasLamp_10 : decode cX12_hasLamp 10 = .ok (.goto 5, 3) := by decide +kernel
theorem dX12_hasLamp_13 : decode cX12_hasLamp 13 = .ok (.iload 4, 2) := by decide +kernel
theorem dX12_hasLamp_15 : decode cX12_hasLamp 15 = .ok (.istore 5, 2) := by decide +kernel
theorem dX12_hasLamp_17 : decode cX12_hasLamp 17 = .ok (.iload 5, 2) := by decide +kernel
theorem dX12_hasLamp_19 : decode cX12_hasLamp 19 = .ok (.ifCond .lt 24, 3) := by decide +kernel
theorem dX12_hasLamp_22 : decode cX12_hasLamp 22 = .ok (.iload 5, 2) := by decide +kernel
theorem dX12_hasLamp_24 : decode cX12_hasLamp 24 = .ok (.iload_n 0, 1) := by decide +kernel
theorem dX12_hasLamp_25 : decode cX12_hasLamp 25 = .ok (.if_icmp .ge 18, 3) := by decide +kernel
theorem dX12_hasLamp_28 : decode cX12_hasLamp 28 = .ok (.iload_n 3, 1) := by decide +kernel
theorem dX12_hasLamp_29 : decode cX12_hasLamp 29 = .ok (.iload 5, 2) := by decide +kernel
theorem dX12_hasLamp_31 : decode cX12_hasLamp 31 = .ok (.iload_n 2, 1) := by decide +kernel
theorem dX12_hasLamp_32 : decode cX12_hasLamp 32 = .ok (.irem, 1) := by decide +kernel
theorem dX12_hasLamp_33 : decode cX12_hasLamp 33 = .ok (.invokestatic 246, 3) := by decide +kernel
theorem dX12_hasLamp_36 : decode cX12_hasLamp 36 = .ok (.ifCond .eq 7, 3) := by decide +kernel
theorem dX12_hasLamp_39 : decode cX12_hasLamp 39 = .ok (.iconst 1, 1) := by decide +kernel
theorem dX12_hasLamp_40 : decode cX12_hasLamp 40 = .ok (.goto 4, 3) := by decide +kernel
theorem dX12_hasLamp_43 : decode cX12_hasLamp 43 = .ok (.iconst 0, 1) := by decide +kernel
theorem dX12_hasLamp_44 : decode cX12_hasLamp 44 = .ok (.ireturn, 1) := by decide +kernel
theorem dX12_firstDark_0 : decode cX12_firstDark 0 = .ok (.iconst 0, 1) := by decide +kernel
theorem dX12_firstDark_1 : decode cX12_firstDark 1 = .ok (.istore 4, 2) := by decide +kernel
theorem dX12_firstDark_3 : decode cX12_firstDark 3 = .ok (.iload 4, 2) := by decide +kernel
theorem dX12_firstDark_5 : decode cX12_firstDark 5 = .ok (.iload_n 0, 1) := by decide +kernel
theorem dX12_firstDark_6 : decode cX12_firstDark 6 = .ok (.if_icmp .ge 40, 3) := by decide +kernel
theorem dX12_firstDark_9 : decode cX12_firstDark 9 = .ok (.iload_n 0, 1) := by decide +kernel
theorem dX12_firstDark_10 : decode cX12_firstDark 10 = .ok (.iload_n 1, 1) := by decide +kernel
theorem dX12_firstDark_11 : decode cX12_firstDark 11 = .ok (.iload_n 2, 1) := by decide +kernel
theorem dX12_firstDark_12 : decode cX12_firstDark 12 = .ok (.iload_n 3, 1) := by decide +kernel
theorem dX12_firstDark_13 : decode cX12_firstDark 13 = .ok (.iload 4, 2) := by decide +kernel
theorem dX12_firstDark_15 : decode cX12_firstDark 15 = .ok (.iconst 1, 1) := by decide +kernel
theorem dX12_firstDark_16 : decode cX12_firstDark 16 = .ok (.isub, 1) := by decide +kernel
theorem dX12_firstDark_17 : decode cX12_firstDark 17 = .ok (.invokestatic 405, 3) := by decide +kernel
theorem dX12_firstDark_20 : decode cX12_firstDark 20 = .ok (.ifCond .ne 20, 3) := by decide +kernel
theorem dX12_firstDark_23 : decode cX12_firstDark 23 = .ok (.iload_n 0, 1) := by decide +kernel
theorem dX12_firstDark_24 : decode cX12_firstDark 24 = .ok (.iload_n 1, 1) := by decide +kernel
theorem dX12_firstDark_25 : decode cX12_firstDark 25 = .ok (.iload_n 2, 1) := by decide +kernel
theorem dX12_firstDark_26 : decode cX12_firstDark 26 = .ok (.iload_n 3, 1) := by decide +kernel
theorem dX12_firstDark_27 : decode cX12_firstDark 27 = .ok (.iload 4, 2) := by decide +kernel
theorem dX12_firstDark_29 : decode cX12_firstDark 29 = .ok (.iconst 1, 1) := by decide +kernel
theorem dX12_firstDark_30 : decode cX12_firstDark 30 = .ok (.iadd, 1) := by decide +kernel
theorem dX12_firstDark_31 : decode cX12_firstDark 31 = .ok (.invokestatic 405, 3) := by decide +kernel
theorem dX12_firstDark_34 : decode cX12_firstDark 34 = .ok (.ifCond .ne 6, 3) := by decide +kernel
theorem dX12_firstDark_37 : decode cX12_firstDark 37 = .ok (.iload 4, 2) := by decide +kernel
theorem dX12_firstDark_39 : decode cX12_firstDark 39 = .ok (.ireturn, 1) := by decide +kernel
theorem dX12_firstDark_40 : decode cX12_firstDark 40 = .ok (.iinc 4 1, 3) := by decide +kernel
theorem dX12_firstDark_43 : decode cX12_firstDark 43 = .ok (.goto (-40), 3) := by decide +kernel
theorem dX12_firstDark_46 : decode cX12_firstDark 46 = .ok (.iconst (-1), 1) := by decide +kernel
theorem dX12_firstDark_47 : decode cX12_firstDark 47 = .ok (.ireturn, 1) := by decide +kernel
theorem dX12_isLong_0 : decode cX12_isLong 0 = .ok (.iload_n 0, 1) := by decide +kernel
theorem dX12_isLong_1 : decode cX12_isLong 1 = .ok (.i2l, 1) := by decide +kernel
theorem dX12_isLong_2 : decode cX12_isLong 2 = .ok (.iload_n 1, 1) := by decide +kernel
theorem dX12_isLong_3 : decode cX12_isLong 3 = .ok (.ifCond .eq 9, 3) := by decide +kernel
theorem dX12_isLong_6 : decode cX12_isLong 6 = .ok (.ldc2_w 235, 3) := by decide +kernel
theorem dX12_isLong_9 : decode cX12_isLong 9 = .ok (.goto 4, 3) := by decide +kernel
theorem dX12_isLong_12 : decode cX12_isLong 12 = .ok (.lconst 1, 1) := by decide +kernel
theorem dX12_isLong_13 : decode cX12_isLong 13 = .ok (.ldc2_w 409, 3) := by decide +kernel
theorem dX12_isLong_16 : decode cX12_isLong 16 = .ok (.invokestatic 134, 3) := by decide +kernel
theorem dX12_isLong_19 : decode cX12_isLong 19 = .ok (.ireturn, 1) := by decide +kernel
theorem dX12_rule_0 : decode cX12_rule 0 = .ok (.aload_n 0, 1) := by decide +kernel
theorem dX12_rule_1 : decode cX12_rule 1 = .ok (.iload_n 1, 1) := by decide +kernel
theorem dX12_rule_2 : decode cX12_rule 2 = .ok (.iload_n 2, 1) := by decide +kernel
theorem dX12_rule_3 : decode cX12_rule 3 = .ok (.invokestatic 411, 3) := by decide +kernel
theorem dX12_rule_6 : decode cX12_rule 6 = .ok (.ifCond .eq 35, 3) := by decide +kernel
theorem dX12_rule_9 : decode cX12_rule 9 = .ok (.iload_n 3, 1) := by decide +kernel
theorem dX12_rule_10 : decode cX12_rule 10 = .ok (.i2l, 1) := by decide +kernel
theorem dX12_rule_11 : decode cX12_rule 11 = .ok (.lconst 1, 1) := by decide +kernel
theorem dX12_rule_12 : decode cX12_rule 12 = .ok (.ldc2_w 415, 3) := by decide +kernel
theorem dX12_rule_15 : decode cX12_rule 15 = .ok (.invokestatic 134, 3) := by decide +kernel
theorem dX12_rule_18 : decode cX12_rule 18 = .ok (.ifCond .eq 23, 3) := by decide +kernel
theorem dX12_rule_21 : decode cX12_rule 21 = .ok (.iload 4, 2) := by decide +kernel
theorem dX12_rule_23 : decode cX12_rule 23 = .ok (.i2l, 1) := by decide +kernel
theorem dX12_rule_24 : decode cX12_rule 24 = .ok (.lconst 0, 1) := by decide +kernel
theorem dX12_rule_25 : decode cX12_rule 25 = .ok (.iconst 1, 1) := by decide +kernel
theorem dX12_rule_26 : decode cX12_rule 26 = .ok (.iload_n 3, 1) := by decide +kernel
theorem dX12_rule_27 : decode cX12_rule 27 = .ok (.ishl, 1) := by decide +kernel
theorem dX12_rule_28 : decode cX12_rule 28 = .ok (.iconst 1, 1) := by decide +kernel
theorem dX12_rule_29 : decode cX12_rule 29 = .ok (.isub, 1) := by decide +kernel
theorem dX12_rule_30 : decode cX12_rule 30 = .ok (.i2l, 1) := by decide +kernel
theorem dX12_rule_31 : decode cX12_rule 31 = .ok (.invokestatic 134, 3) := by decide +kernel
theorem dX12_rule_34 : decode cX12_rule 34 = .ok (.ifCond .eq 7, 3) := by decide +kernel
theorem dX12_rule_37 : decode cX12_rule 37 = .ok (.iconst 0, 1) := by decide +kernel
theorem dX12_rule_38 : decode cX12_rule 38 = .ok (.goto 4, 3) := by decide +kernel
theorem dX12_rule_41 : decode cX12_rule 41 = .ok (.iconst 1, 1) := by decide +kernel
theorem dX12_rule_42 : decode cX12_rule 42 = .ok (.putfield 75, 3) := by decide +kernel
theorem dX12_rule_45 : decode cX12_rule 45 = .ok (.aload_n 0, 1) := by decide +kernel
theorem dX12_rule_46 : decode cX12_rule 46 = .ok (.getfield 75, 3) := by decide +kernel
theorem dX12_rule_49 : decode cX12_rule 49 = .ok (.ifCond .le 7, 3) := by decide +kernel
theorem dX12_rule_52 : decode cX12_rule 52 = .ok (.iconst 0, 1) := by decide +kernel
theorem dX12_rule_53 : decode cX12_rule 53 = .ok (.goto 11, 3) := by decide +kernel
theorem dX12_rule_56 : decode cX12_rule 56 = .ok (.iload_n 1, 1) := by decide +kernel
theorem dX12_rule_57 : decode cX12_rule 57 = .ok (.iload_n 2, 1) := by decide +kernel
theorem dX12_rule_58 : decode cX12_rule 58 = .ok (.iload_n 3, 1) := by decide +kernel
theorem dX12_rule_59 : decode cX12_rule 59 = .ok (.iload 4, 2) := by decide +kernel
theorem dX12_rule_61 : decode cX12_rule 61 = .ok (.invokestatic 417, 3) := by decide +kernel
theorem dX12_rule_64 : decode cX12_rule 64 = .ok (.ireturn, 1) := by decide +kernel
theorem dX12_look_0 : decode cX12_look 0 = .ok (.aload_n 0, 1) := by decide +kernel
theorem dX12_look_1 : decode cX12_look 1 = .ok (.iload_n 1, 1) := by decide +kernel
theorem dX12_look_2 : decode cX12_look 2 = .ok (.iload_n 2, 1) := by decide +kernel
theorem dX12_look_3 : decode cX12_look 3 = .ok (.invokestatic 411, 3) := by decide +kernel
theorem dX12_look_6 : decode cX12_look 6 = .ok (.ifCond .eq 19, 3) := by decide +kernel
theorem dX12_look_9 : decode cX12_look 9 = .ok (.iload_n 3, 1) := by decide +kernel
theorem dX12_look_10 : decode cX12_look 10 = .ok (.i2l, 1) := by decide +kernel
theorem dX12_look_11 : decode cX12_look 11 = .ok (.lconst 0, 1) := by decide +kernel
theorem dX12_look_12 : decode cX12_look 12 = .ok (.ldc2_w 268, 3) := by decide +kernel
theorem dX12_look_15 : decode cX12_look 15 = .ok (.invokestatic 134, 3) := by decide +kernel
theorem dX12_look_18 : decode cX12_look 18 = .ok (.ifCond .eq 7, 3) := by decide +kernel
theorem dX12_look_21 : decode cX12_look 21 = .ok (.iconst 0, 1) := by decide +kernel
theorem dX12_look_22 : decode cX12_look 22 = .ok (.goto 4, 3) := by decide +kernel
theorem dX12_look_25 : decode cX12_look 25 = .ok (.iconst 1, 1) := by decide +kernel
theorem dX12_look_26 : decode cX12_look 26 = .ok (.putfield 75, 3) := by decide +kernel
theorem dX12_look_29 : decode cX12_look 29 = .ok (.aload_n 0, 1) := by decide +kernel
theorem dX12_look_30 : decode cX12_look 30 = .ok (.getfield 75, 3) := by decide +kernel
theorem dX12_look_33 : decode cX12_look 33 = .ok (.ifCond .le 5, 3) := by decide +kernel
theorem dX12_look_36 : decode cX12_look 36 = .ok (.iconst 0, 1) := by decide +kernel
theorem dX12_look_37 : decode cX12_look 37 = .ok (.ireturn, 1) := by decide +kernel
theorem dX12_look_38 : decode cX12_look 38 = .ok (.iconst (-1), 1) := by decide +kernel
theorem dX12_look_39 : decode cX12_look 39 = .ok (.istore 4, 2) := by decide +kernel
theorem dX12_look_41 : decode cX12_look 41 = .ok (.iconst (-1), 1) := by decide +kernel
theorem dX12_look_42 : decode cX12_look 42 = .ok (.istore 5, 2) := by decide +kernel
theorem dX12_look_44 : decode cX12_look 44 = .ok (.iconst (-1), 1) := by decide +kernel
theorem dX12_look_45 : decode cX12_look 45 = .ok (.istore 6, 2) := by decide +kernel
theorem dX12_look_47 : decode cX12_look 47 = .ok (.iconst 1, 1) := by decide +kernel
theorem dX12_look_48 : decode cX12_look 48 = .ok (.istore 7, 2) := by decide +kernel
theorem dX12_look_50 : decode cX12_look 50 = .ok (.iload 7, 2) := by decide +kernel
theorem dX12_look_52 : decode cX12_look 52 = .ok (.bipush 8, 2) := by decide +kernel
theorem dX12_look_54 : decode cX12_look 54 = .ok (.if_icmp .gt 112, 3) := by decide +kernel
theorem dX12_look_57 : decode cX12_look 57 = .ok (.iconst 0, 1) := by decide +kernel
theorem dX12_look_58 : decode cX12_look 58 = .ok (.istore 8, 2) := by decide +kernel
theorem dX12_look_60 : decode cX12_look 60 = .ok (.iload 8, 2) := by decide +kernel
theorem dX12_look_62 : decode cX12_look 62 = .ok (.iconst 1, 1) := by decide +kernel
theorem dX12_look_63 : decode cX12_look 63 = .ok (.iload 7, 2) := by decide +kernel
theorem dX12_look_65 : decode cX12_look 65 = .ok (.ishl, 1) := by decide +kernel
theorem dX12_look_66 : decode cX12_look 66 = .ok (.if_icmp .ge 94, 3) := by decide +kernel
theorem dX12_look_69 : decode cX12_look 69 = .ok (.iload_n 1, 1) := by decide +kernel
theorem dX12_look_70 : decode cX12_look 70 = .ok (.iload_n 2, 1) := by decide +kernel
theorem dX12_look_71 : decode cX12_look 71 = .ok (.iload 7, 2) := by decide +kernel
theorem dX12_look_73 : decode cX12_look 73 = .ok (.iload 8, 2) := by decide +kernel
theorem dX12_look_75 : decode cX12_look 75 = .ok (.invokestatic 417, 3) := by decide +kernel
theorem dX12_look_78 : decode cX12_look 78 = .ok (.iconst (-1), 1) := by decide +kernel
theorem dX12_look_79 : decode cX12_look 79 = .ok (.if_icmp .eq 6, 3) := by decide +kernel
theorem dX12_look_82 : decode cX12_look 82 = .ok (.goto 72, 3) := by decide +kernel
theorem dX12_look_85 : decode cX12_look 85 = .ok (.iconst 0, 1) := by decide +kernel
theorem dX12_look_86 : decode cX12_look 86 = .ok (.istore 9, 2) := by decide +kernel
theorem dX12_look_88 : decode cX12_look 88 = .ok (.iconst 0, 1) := by decide +kernel
theorem dX12_look_89 : decode cX12_look 89 = .ok (.istore 10, 2) := by decide +kernel
theorem dX12_look_91 : decode cX12_look 91 = .ok (.iload 10, 2) := by decide +kernel
theorem dX12_look_93 : decode cX12_look 93 = .ok (.iload_n 1, 1) := by decide +kernel
theorem dX12_look_94 : decode cX12_look 94 = .ok (.if_icmp .ge 32, 3) := by decide +kernel
theorem dX12_look_97 : decode cX12_look 97 = .ok (.iload 9, 2) := by decide +kernel
theorem dX12_look_99 : decode cX12_look 99 = .ok (.iload 8, 2) := by decide +kernel
theorem dX12_look_101 : decode cX12_look 101 = .ok (.iload 10, 2) := by decide +kernel
theorem dX12_look_103 : decode cX12_look 103 = .ok (.iload 7, 2) := by decide +kernel
theorem dX12_look_105 : decode cX12_look 105 = .ok (.irem, 1) := by decide +kernel
theorem dX12_look_106 : decode cX12_look 106 = .ok (.invokestatic 246, 3) := by decide +kernel
theorem dX12_look_109 : decode cX12_look 109 = .ok (.ifCond .eq 7, 3) := by decide +kernel
theorem dX12_look_112 : decode cX12_look 112 = .ok (.iconst 1, 1) := by decide +kernel
theorem dX12_look_113 : decode cX12_look 113 = .ok (.goto 4, 3) := by decide +kernel
theorem dX12_look_116 : decode cX12_look 116 = .ok (.iconst 0, 1) := by decide +kernel
theorem dX12_look_117 : decode cX12_look 117 = .ok (.iadd, 1) := by decide +kernel
theorem dX12_look_118 : decode cX12_look 118 = .ok (.istore 9, 2) := by decide +kernel
theorem dX12_look_120 : decode cX12_look 120 = .ok (.iinc 10 1, 3) := by decide +kernel
theorem dX12_look_123 : decode cX12_look 123 = .ok (.goto (-32), 3) := by decide +kernel
theorem dX12_look_126 : decode cX12_look 126 = .ok (.iload 4, 2) := by decide +kernel
theorem dX12_look_128 : decode cX12_look 128 = .ok (.iconst (-1), 1) := by decide +kernel
theorem dX12_look_129 : decode cX12_look 129 = .ok (.if_icmp .eq 13, 3) := by decide +kernel
theorem dX12_look_132 : decode cX12_look 132 = .ok (.iload 9, 2) := by decide +kernel
theorem dX12_look_134 : decode cX12_look 134 = .ok (.iload 4, 2) := by decide +kernel
theorem dX12_look_136 : decode cX12_look 136 = .ok (.if_icmp .lt 6, 3) := by decide +kernel
theorem dX12_look_139 : decode cX12_look 139 = .ok (.goto 15, 3) := by decide +kernel
theorem dX12_look_142 : decode cX12_look 142 = .ok (.iload 9, 2) := by decide +kernel
theorem dX12_look_144 : decode cX12_look 144 = .ok (.istore 4, 2) := by decide +kernel
theorem dX12_look_146 : decode cX12_look 146 = .ok (.iload 7, 2) := by decide +kernel
theorem dX12_look_148 : decode cX12_look 148 = .ok (.istore 5, 2) := by decide +kernel
theorem dX12_look_150 : decode cX12_look 150 = .ok (.iload 8, 2) := by decide +kernel
theorem dX12_look_152 : decode cX12_look 152 = .ok (.istore 6, 2) := by decide +kernel
theorem dX12_look_154 : decode cX12_look 154 = .ok (.iinc 8 1, 3) := by decide +kernel
theorem dX12_look_157 : decode cX12_look 157 = .ok (.goto (-97), 3) := by decide +kernel
theorem dX12_look_160 : decode cX12_look 160 = .ok (.iinc 7 1, 3) := by decide +kernel
theorem dX12_look_163 : decode cX12_look 163 = .ok (.goto (-113), 3) := by decide +kernel
theorem dX12_look_166 : decode cX12_look 166 = .ok (.iload_n 3, 1) := by decide +kernel
theorem dX12_look_167 : decode cX12_look 167 = .ok (.ifCond .ne 8, 3) := by decide +kernel
theorem dX12_look_170 : decode cX12_look 170 = .ok (.iload 4, 2) := by decide +kernel
theorem dX12_look_172 : decode cX12_look 172 = .ok (.goto 15, 3) := by decide +kernel
theorem dX12_look_175 : decode cX12_look 175 = .ok (.iload_n 3, 1) := by decide +kernel
theorem dX12_look_176 : decode cX12_look 176 = .ok (.iconst 1, 1) := by decide +kernel
theorem dX12_look_177 : decode cX12_look 177 = .ok (.if_icmp .ne 8, 3) := by decide +kernel
theorem dX12_look_180 : decode cX12_look 180 = .ok (.iload 5, 2) := by decide +kernel
theorem dX12_look_182 : decode cX12_look 182 = .ok (.goto 5, 3) := by decide +kernel
theorem dX12_look_185 : decode cX12_look 185 = .ok (.iload 6, 2) := by decide +kernel
theorem dX12_look_187 : decode cX12_look 187 = .ok (.ireturn, 1) := by decide +kernel
theorem dX12_draw_0 : decode cX12_draw 0 = .ok (.aload_n 0, 1) := by decide +kernel
theorem dX12_draw_1 : decode cX12_draw 1 = .ok (.ldc_w 421, 3) := by decide +kernel
theorem dX12_draw_4 : decode cX12_draw 4 = .ok (.aload_n 0, 1) := by decide +kernel
theorem dX12_draw_5 : decode cX12_draw 5 = .ok (.getfield 422, 3) := by decide +kernel
theorem dX12_draw_8 : decode cX12_draw 8 = .ok (.imul, 1) := by decide +kernel
theorem dX12_draw_9 : decode cX12_draw 9 = .ok (.sipush 12345, 3) := by decide +kernel
theorem dX12_draw_12 : decode cX12_draw 12 = .ok (.iadd, 1) := by decide +kernel
theorem dX12_draw_13 : decode cX12_draw 13 = .ok (.putfield 422, 3) := by decide +kernel
theorem dX12_draw_16 : decode cX12_draw 16 = .ok (.aload_n 0, 1) := by decide +kernel
theorem dX12_draw_17 : decode cX12_draw 17 = .ok (.getfield 422, 3) := by decide +kernel
theorem dX12_draw_20 : decode cX12_draw 20 = .ok (.bipush 16, 2) := by decide +kernel
theorem dX12_draw_22 : decode cX12_draw 22 = .ok (.iushr, 1) := by decide +kernel
theorem dX12_draw_23 : decode cX12_draw 23 = .ok (.iload_n 1, 1) := by decide +kernel
theorem dX12_draw_24 : decode cX12_draw 24 = .ok (.irem, 1) := by decide +kernel
theorem dX12_draw_25 : decode cX12_draw 25 = .ok (.ireturn, 1) := by decide +kernel
theorem dX12_night_0 : decode cX12_night 0 = .ok (.aload_n 0, 1) := by decide +kernel
theorem dX12_night_1 : decode cX12_night 1 = .ok (.iload_n 2, 1) := by decide +kernel
theorem dX12_night_2 : decode cX12_night 2 = .ok (.i2l, 1) := by decide +kernel
theorem dX12_night_3 : decode cX12_night 3 = .ok (.lconst 0, 1) := by decide +kernel
theorem dX12_night_4 : decode cX12_night 4 = .ok (.ldc2_w 425, 3) := by decide +kernel
theorem dX12_night_7 : decode cX12_night 7 = .ok (.invokestatic 134, 3) := by decide +kernel
theorem dX12_night_10 : decode cX12_night 10 = .ok (.ifCond .eq 19, 3) := by decide +kernel
theorem dX12_night_13 : decode cX12_night 13 = .ok (.iload_n 3, 1) := by decide +kernel
theorem dX12_night_14 : decode cX12_night 14 = .ok (.i2l, 1) := by decide +kernel
theorem dX12_night_15 : decode cX12_night 15 = .ok (.lconst 0, 1) := by decide +kernel
theorem dX12_night_16 : decode cX12_night 16 = .ok (.ldc2_w 268, 3) := by decide +kernel
theorem dX12_night_19 : decode cX12_night 19 = .ok (.invokestatic 134, 3) := by decide +kernel
theorem dX12_night_22 : decode cX12_night 22 = .ok (.ifCond .eq 7, 3) := by decide +kernel
theorem dX12_night_25 : decode cX12_night 25 = .ok (.iconst 0, 1) := by decide +kernel
theorem dX12_night_26 : decode cX12_night 26 = .ok (.goto 4, 3) := by decide +kernel
theorem dX12_night_29 : decode cX12_night 29 = .ok (.iconst 1, 1) := by decide +kernel
theorem dX12_night_30 : decode cX12_night 30 = .ok (.putfield 75, 3) := by decide +kernel
theorem dX12_night_33 : decode cX12_night 33 = .ok (.aload_n 0, 1) := by decide +kernel
theorem dX12_night_34 : decode cX12_night 34 = .ok (.getfield 75, 3) := by decide +kernel
theorem dX12_night_37 : decode cX12_night 37 = .ok (.ifCond .le 5, 3) := by decide +kernel
theorem dX12_night_40 : decode cX12_night 40 = .ok (.iconst 0, 1) := by decide +kernel
theorem dX12_night_41 : decode cX12_night 41 = .ok (.ireturn, 1) := by decide +kernel
theorem dX12_night_42 : decode cX12_night 42 = .ok (.aload_n 0, 1) := by decide +kernel
theorem dX12_night_43 : decode cX12_night 43 = .ok (.iload_n 1, 1) := by decide +kernel
theorem dX12_night_44 : decode cX12_night 44 = .ok (.putfield 422, 3) := by decide +kernel
theorem dX12_night_47 : decode cX12_night 47 = .ok (.iconst 0, 1) := by decide +kernel
theorem dX12_night_48 : decode cX12_night 48 = .ok (.istore 4, 2) := by decide +kernel
theorem dX12_night_50 : decode cX12_night 50 = .ok (.iconst 0, 1) := by decide +kernel
theorem dX12_night_51 : decode cX12_night 51 = .ok (.istore 5, 2) := by decide +kernel
theorem dX12_night_53 : decode cX12_night 53 = .ok (.iconst 0, 1) := by decide +kernel
theorem dX12_night_54 : decode cX12_night 54 = .ok (.istore 6, 2) := by decide +kernel
theorem dX12_night_56 : decode cX12_night 56 = .ok (.iconst 0, 1) := by decide +kernel
theorem dX12_night_57 : decode cX12_night 57 = .ok (.istore 7, 2) := by decide +kernel
theorem dX12_night_59 : decode cX12_night 59 = .ok (.iload 7, 2) := by decide +kernel
theorem dX12_night_61 : decode cX12_night 61 = .ok (.bipush 24, 2) := by decide +kernel
theorem dX12_night_63 : decode cX12_night 63 = .ok (.if_icmp .ge 100, 3) := by decide +kernel
theorem dX12_night_66 : decode cX12_night 66 = .ok (.aload_n 0, 1) := by decide +kernel
theorem dX12_night_67 : decode cX12_night 67 = .ok (.iload 7, 2) := by decide +kernel
theorem dX12_night_69 : decode cX12_night 69 = .ok (.invokevirtual 256, 3) := by decide +kernel
theorem dX12_night_72 : decode cX12_night 72 = .ok (.iconst 0, 1) := by decide +kernel
theorem dX12_night_73 : decode cX12_night 73 = .ok (.istore 8, 2) := by decide +kernel
theorem dX12_night_75 : decode cX12_night 75 = .ok (.iload 8, 2) := by decide +kernel
theorem dX12_night_77 : decode cX12_night 77 = .ok (.aload_n 0, 1) := by decide +kernel
theorem dX12_night_78 : decode cX12_night 78 = .ok (.invokevirtual 228, 3) := by decide +kernel
theorem dX12_night_81 : decode cX12_night 81 = .ok (.if_icmp .ge 43, 3) := by decide +kernel
theorem dX12_night_84 : decode cX12_night 84 = .ok (.aload_n 0, 1) := by decide +kernel
theorem dX12_night_85 : decode cX12_night 85 = .ok (.getfield 33, 3) := by decide +kernel
theorem dX12_night_88 : decode cX12_night 88 = .ok (.iload 8, 2) := by decide +kernel
theorem dX12_night_90 : decode cX12_night 90 = .ok (.iaload, 1) := by decide +kernel
theorem dX12_night_91 : decode cX12_night 91 = .ok (.ifCond .eq 27, 3) := by decide +kernel
theorem dX12_night_94 : decode cX12_night 94 = .ok (.aload_n 0, 1) := by decide +kernel
theorem dX12_night_95 : decode cX12_night 95 = .ok (.bipush 100, 2) := by decide +kernel
theorem dX12_night_97 : decode cX12_night 97 = .ok (.invokevirtual 427, 3) := by decide +kernel
theorem dX12_night_100 : decode cX12_night 100 = .ok (.iload_n 2, 1) := by decide +kernel
theorem dX12_night_101 : decode cX12_night 101 = .ok (.if_icmp .lt 6, 3) := by decide +kernel
theorem dX12_night_104 : decode cX12_night 104 = .ok (.goto 14, 3) := by decide +kernel
theorem dX12_night_107 : decode cX12_night 107 = .ok (.aload_n 0, 1) := by decide +kernel
theorem dX12_night_108 : decode cX12_night 108 = .ok (.getfield 33, 3) := by decide +kernel
theorem dX12_night_111 : decode cX12_night 111 = .ok (.iload 8, 2) := by decide +kernel
theorem dX12_night_113 : decode cX12_night 113 = .ok (.iconst 0, 1) := by decide +kernel
theorem dX12_night_114 : decode cX12_night 114 = .ok (.iastore, 1) := by decide +kernel
theorem dX12_night_115 : decode cX12_night 115 = .ok (.iinc 6 1, 3) := by decide +kernel
theorem dX12_night_118 : decode cX12_night 118 = .ok (.iinc 8 1, 3) := by decide +kernel
theorem dX12_night_121 : decode cX12_night 121 = .ok (.goto (-46), 3) := by decide +kernel
theorem dX12_night_124 : decode cX12_night 124 = .ok (.aload_n 0, 1) := by decide +kernel
theorem dX12_night_125 : decode cX12_night 125 = .ok (.iload 7, 2) := by decide +kernel
theorem dX12_night_127 : decode cX12_night 127 = .ok (.invokevirtual 259, 3) := by decide +kernel
theorem dX12_night_130 : decode cX12_night 130 = .ok (.invokestatic 285, 3) := by decide +kernel
theorem dX12_night_133 : decode cX12_night 133 = .ok (.istore 8, 2) := by decide +kernel
theorem dX12_night_135 : decode cX12_night 135 = .ok (.iload 4, 2) := by decide +kernel
theorem dX12_night_137 : decode cX12_night 137 = .ok (.iload 8, 2) := by decide +kernel
theorem dX12_night_139 : decode cX12_night 139 = .ok (.iadd, 1) := by decide +kernel
theorem dX12_night_140 : decode cX12_night 140 = .ok (.istore 4, 2) := by decide +kernel
theorem dX12_night_142 : decode cX12_night 142 = .ok (.iload 5, 2) := by decide +kernel
theorem dX12_night_144 : decode cX12_night 144 = .ok (.iload 8, 2) := by decide +kernel
theorem dX12_night_146 : decode cX12_night 146 = .ok (.ifCond .le 7, 3) := by decide +kernel
theorem dX12_night_149 : decode cX12_night 149 = .ok (.iconst 1, 1) := by decide +kernel
theorem dX12_night_150 : decode cX12_night 150 = .ok (.goto 4, 3) := by decide +kernel
theorem dX12_night_153 : decode cX12_night 153 = .ok (.iconst 0, 1) := by decide +kernel
theorem dX12_night_154 : decode cX12_night 154 = .ok (.iadd, 1) := by decide +kernel
theorem dX12_night_155 : decode cX12_night 155 = .ok (.istore 5, 2) := by decide +kernel
theorem dX12_night_157 : decode cX12_night 157 = .ok (.iinc 7 1, 3) := by decide +kernel
theorem dX12_night_160 : decode cX12_night 160 = .ok (.goto (-101), 3) := by decide +kernel
theorem dX12_night_163 : decode cX12_night 163 = .ok (.iload_n 3, 1) := by decide +kernel
theorem dX12_night_164 : decode cX12_night 164 = .ok (.ifCond .ne 8, 3) := by decide +kernel
theorem dX12_night_167 : decode cX12_night 167 = .ok (.iload 4, 2) := by decide +kernel
theorem dX12_night_169 : decode cX12_night 169 = .ok (.goto 15, 3) := by decide +kernel
theorem dX12_night_172 : decode cX12_night 172 = .ok (.iload_n 3, 1) := by decide +kernel
theorem dX12_night_173 : decode cX12_night 173 = .ok (.iconst 1, 1) := by decide +kernel
theorem dX12_night_174 : decode cX12_night 174 = .ok (.if_icmp .ne 8, 3) := by decide +kernel
theorem dX12_night_177 : decode cX12_night 177 = .ok (.iload 5, 2) := by decide +kernel
theorem dX12_night_179 : decode cX12_night 179 = .ok (.goto 5, 3) := by decide +kernel
theorem dX12_night_182 : decode cX12_night 182 = .ok (.iload 6, 2) := by decide +kernel
theorem dX12_night_184 : decode cX12_night 184 = .ok (.ireturn, 1) := by decide +kernel
theorem dX12_isTray_0 : decode cX12_isTray 0 = .ok (.iload_n 0, 1) := by decide +kernel
theorem dX12_isTray_1 : decode cX12_isTray 1 = .ok (.i2l, 1) := by decide +kernel
theorem dX12_isTray_2 : decode cX12_isTray 2 = .ok (.lconst 0, 1) := by decide +kernel
theorem dX12_isTray_3 : decode cX12_isTray 3 = .ok (.ldc2_w 235, 3) := by decide +kernel
theorem dX12_isTray_6 : decode cX12_isTray 6 = .ok (.invokestatic 134, 3) := by decide +kernel
theorem dX12_isTray_9 : decode cX12_isTray 9 = .ok (.ireturn, 1) := by decide +kernel
theorem dX12_tray_0 : decode cX12_tray 0 = .ok (.aload_n 0, 1) := by decide +kernel
theorem dX12_tray_1 : decode cX12_tray 1 = .ok (.iload_n 1, 1) := by decide +kernel
theorem dX12_tray_2 : decode cX12_tray 2 = .ok (.invokestatic 391, 3) := by decide +kernel
theorem dX12_tray_5 : decode cX12_tray 5 = .ok (.ifCond .ne 7, 3) := by decide +kernel
theorem dX12_tray_8 : decode cX12_tray 8 = .ok (.iconst 1, 1) := by decide +kernel
theorem dX12_tray_9 : decode cX12_tray 9 = .ok (.goto 32, 3) := by decide +kernel
theorem dX12_tray_12 : decode cX12_tray 12 = .ok (.iload_n 2, 1) := by decide +kernel
theorem dX12_tray_13 : decode cX12_tray 13 = .ok (.i2l, 1) := by decide +kernel
theorem dX12_tray_14 : decode cX12_tray 14 = .ok (.lconst 0, 1) := by decide +kernel
theorem dX12_tray_15 : decode cX12_tray 15 = .ok (.ldc2_w 235, 3) := by decide +kernel
theorem dX12_tray_18 : decode cX12_tray 18 = .ok (.invokestatic 134, 3) := by decide +kernel
theorem dX12_tray_21 : decode cX12_tray 21 = .ok (.ifCond .eq 15, 3) := by decide +kernel
theorem dX12_tray_24 : decode cX12_tray 24 = .ok (.iload_n 3, 1) := by decide +kernel
theorem dX12_tray_25 : decode cX12_tray 25 = .ok (.i2l, 1) := by decide +kernel
theorem dX12_tray_26 : decode cX12_tray 26 = .ok (.lconst 0, 1) := by decide +kernel
theorem dX12_tray_27 : decode cX12_tray 27 = .ok (.ldc2_w 409, 3) := by decide +kernel
theorem dX12_tray_30 : decode cX12_tray 30 = .ok (.invokestatic 134, 3) := by decide +kernel
theorem dX12_tray_33 : decode cX12_tray 33 = .ok (.ifCond .ne 7, 3) := by decide +kernel
theorem dX12_tray_36 : decode cX12_tray 36 = .ok (.iconst 2, 1) := by decide +kernel
theorem dX12_tray_37 : decode cX12_tray 37 = .ok (.goto 4, 3) := by decide +kernel
theorem dX12_tray_40 : decode cX12_tray 40 = .ok (.iconst 0, 1) := by decide +kernel
theorem dX12_tray_41 : decode cX12_tray 41 = .ok (.putfield 75, 3) := by decide +kernel
theorem dX12_tray_44 : decode cX12_tray 44 = .ok (.aload_n 0, 1) := by decide +kernel
theorem dX12_tray_45 : decode cX12_tray 45 = .ok (.getfield 75, 3) := by decide +kernel
theorem dX12_tray_48 : decode cX12_tray 48 = .ok (.ifCond .le 4, 3) := by decide +kernel
theorem dX12_tray_51 : decode cX12_tray 51 = .ok (.return_, 1) := by decide +kernel
theorem dX12_tray_52 : decode cX12_tray 52 = .ok (.aload_n 0, 1) := by decide +kernel
theorem dX12_tray_53 : decode cX12_tray 53 = .ok (.getfield 61, 3) := by decide +kernel
theorem dX12_tray_56 : decode cX12_tray 56 = .ok (.iload_n 1, 1) := by decide +kernel
theorem dX12_tray_57 : decode cX12_tray 57 = .ok (.iload_n 2, 1) := by decide +kernel
theorem dX12_tray_58 : decode cX12_tray 58 = .ok (.iastore, 1) := by decide +kernel
theorem dX12_tray_59 : decode cX12_tray 59 = .ok (.aload_n 0, 1) := by decide +kernel
theorem dX12_tray_60 : decode cX12_tray 60 = .ok (.getfield 64, 3) := by decide +kernel
theorem dX12_tray_63 : decode cX12_tray 63 = .ok (.iload_n 1, 1) := by decide +kernel
theorem dX12_tray_64 : decode cX12_tray 64 = .ok (.iload_n 3, 1) := by decide +kernel
theorem dX12_tray_65 : decode cX12_tray 65 = .ok (.iastore, 1) := by decide +kernel
theorem dX12_tray_66 : decode cX12_tray 66 = .ok (.iconst 0, 1) := by decide +kernel
theorem dX12_tray_67 : decode cX12_tray 67 = .ok (.istore 4, 2) := by decide +kernel
theorem dX12_tray_69 : decode cX12_tray 69 = .ok (.iload 4, 2) := by decide +kernel
theorem dX12_tray_71 : decode cX12_tray 71 = .ok (.bipush 40, 2) := by decide +kernel
theorem dX12_tray_73 : decode cX12_tray 73 = .ok (.if_icmp .ge 22, 3) := by decide +kernel
theorem dX12_tray_76 : decode cX12_tray 76 = .ok (.aload_n 0, 1) := by decide +kernel
theorem dX12_tray_77 : decode cX12_tray 77 = .ok (.getfield 67, 3) := by decide +kernel
theorem dX12_tray_80 : decode cX12_tray 80 = .ok (.bipush 40, 2) := by decide +kernel
theorem dX12_tray_82 : decode cX12_tray 82 = .ok (.iload_n 1, 1) := by decide +kernel
theorem dX12_tray_83 : decode cX12_tray 83 = .ok (.imul, 1) := by decide +kernel
theorem dX12_tray_84 : decode cX12_tray 84 = .ok (.iload 4, 2) := by decide +kernel
theorem dX12_tray_86 : decode cX12_tray 86 = .ok (.iadd, 1) := by decide +kernel
theorem dX12_tray_87 : decode cX12_tray 87 = .ok (.lconst 0, 1) := by decide +kernel
theorem dX12_tray_88 : decode cX12_tray 88 = .ok (.lastore, 1) := by decide +kernel
theorem dX12_tray_89 : decode cX12_tray 89 = .ok (.iinc 4 1, 3) := by decide +kernel
theorem dX12_tray_92 : decode cX12_tray 92 = .ok (.goto (-23), 3) := by decide +kernel
theorem dX12_tray_95 : decode cX12_tray 95 = .ok (.return_, 1) := by decide +kernel
theorem dX12_write_0 : decode cX12_write 0 = .ok (.aload_n 0, 1) := by decide +kernel
theorem dX12_write_1 : decode cX12_write 1 = .ok (.iconst 0, 1) := by decide +kernel
theorem dX12_write_2 : decode cX12_write 2 = .ok (.putfield 75, 3) := by decide +kernel
theorem dX12_write_5 : decode cX12_write 5 = .ok (.iload_n 1, 1) := by decide +kernel
theorem dX12_write_6 : decode cX12_write 6 = .ok (.invokestatic 391, 3) := by decide +kernel
theorem dX12_write_9 : decode cX12_write 9 = .ok (.ifCond .ne 10, 3) := by decide +kernel
theorem dX12_write_12 : decode cX12_write 12 = .ok (.aload_n 0, 1) := by decide +kernel
theorem dX12_write_13 : decode cX12_write 13 = .ok (.iconst 1, 1) := by decide +kernel
theorem dX12_write_14 : decode cX12_write 14 = .ok (.invokevirtual 219, 3) := by decide +kernel
theorem dX12_write_17 : decode cX12_write 17 = .ok (.i2l, 1) := by decide +kernel
theorem dX12_write_18 : decode cX12_write 18 = .ok (.lreturn, 1) := by decide +kernel
theorem dX12_write_19 : decode cX12_write 19 = .ok (.aload_n 0, 1) := by decide +kernel
theorem dX12_write_20 : decode cX12_write 20 = .ok (.getfield 61, 3) := by decide +kernel
theorem dX12_write_23 : decode cX12_write 23 = .ok (.iload_n 1, 1) := by decide +kernel
theorem dX12_write_24 : decode cX12_write 24 = .ok (.iaload, 1) := by decide +kernel
theorem dX12_write_25 : decode cX12_write 25 = .ok (.iconst (-1), 1) := by decide +kernel
theorem dX12_write_26 : decode cX12_write 26 = .ok (.if_icmp .ne 10, 3) := by decide +kernel
theorem dX12_write_29 : decode cX12_write 29 = .ok (.aload_n 0, 1) := by decide +kernel
theorem dX12_write_30 : decode cX12_write 30 = .ok (.iconst 2, 1) := by decide +kernel
theorem dX12_write_31 : decode cX12_write 31 = .ok (.invokevirtual 219, 3) := by decide +kernel
theorem dX12_write_34 : decode cX12_write 34 = .ok (.i2l, 1) := by decide +kernel
theorem dX12_write_35 : decode cX12_write 35 = .ok (.lreturn, 1) := by decide +kernel
theorem dX12_write_36 : decode cX12_write 36 = .ok (.iload_n 2, 1) := by decide +kernel
theorem dX12_write_37 : decode cX12_write 37 = .ok (.i2l, 1) := by decide +kernel
theorem dX12_write_38 : decode cX12_write 38 = .ok (.lconst 0, 1) := by decide +kernel
theorem dX12_write_39 : decode cX12_write 39 = .ok (.aload_n 0, 1) := by decide +kernel
theorem dX12_write_40 : decode cX12_write 40 = .ok (.getfield 64, 3) := by decide +kernel
theorem dX12_write_43 : decode cX12_write 43 = .ok (.iload_n 1, 1) := by decide +kernel
theorem dX12_write_44 : decode cX12_write 44 = .ok (.iaload, 1) := by decide +kernel
theorem dX12_write_45 : decode cX12_write 45 = .ok (.iconst 1, 1) := by decide +kernel
theorem dX12_write_46 : decode cX12_write 46 = .ok (.isub, 1) := by decide +kernel
theorem dX12_write_47 : decode cX12_write 47 = .ok (.i2l, 1) := by decide +kernel
theorem dX12_write_48 : decode cX12_write 48 = .ok (.invokestatic 134, 3) := by decide +kernel
theorem dX12_write_51 : decode cX12_write 51 = .ok (.ifCond .ne 10, 3) := by decide +kernel
theorem dX12_write_54 : decode cX12_write 54 = .ok (.aload_n 0, 1) := by decide +kernel
theorem dX12_write_55 : decode cX12_write 55 = .ok (.iconst 3, 1) := by decide +kernel
theorem dX12_write_56 : decode cX12_write 56 = .ok (.invokevirtual 219, 3) := by decide +kernel
theorem dX12_write_59 : decode cX12_write 59 = .ok (.i2l, 1) := by decide +kernel
theorem dX12_write_60 : decode cX12_write 60 = .ok (.lreturn, 1) := by decide +kernel
theorem dX12_write_61 : decode cX12_write 61 = .ok (.bipush 64, 2) := by decide +kernel
theorem dX12_write_63 : decode cX12_write 63 = .ok (.bipush 8, 2) := by decide +kernel
theorem dX12_write_65 : decode cX12_write 65 = .ok (.aload_n 0, 1) := by decide +kernel
theorem dX12_write_66 : decode cX12_write 66 = .ok (.getfield 61, 3) := by decide +kernel
theorem dX12_write_69 : decode cX12_write 69 = .ok (.iload_n 1, 1) := by decide +kernel
theorem dX12_write_70 : decode cX12_write 70 = .ok (.iaload, 1) := by decide +kernel
theorem dX12_write_71 : decode cX12_write 71 = .ok (.ishl, 1) := by decide +kernel
theorem dX12_write_72 : decode cX12_write 72 = .ok (.isub, 1) := by decide +kernel
theorem dX12_write_73 : decode cX12_write 73 = .ok (.istore 5, 2) := by decide +kernel
theorem dX12_write_75 : decode cX12_write 75 = .ok (.aload_n 0, 1) := by decide +kernel
theorem dX12_write_76 : decode cX12_write 76 = .ok (.getfield 67, 3) := by decide +kernel
theorem dX12_write_79 : decode cX12_write 79 = .ok (.bipush 40, 2) := by decide +kernel
theorem dX12_write_81 : decode cX12_write 81 = .ok (.iload_n 1, 1) := by decide +kernel
theorem dX12_write_82 : decode cX12_write 82 = .ok (.imul, 1) := by decide +kernel
theorem dX12_write_83 : decode cX12_write 83 = .ok (.iload_n 2, 1) := by decide +kernel
theorem dX12_write_84 : decode cX12_write 84 = .ok (.iadd, 1) := by decide +kernel
theorem dX12_write_85 : decode cX12_write 85 = .ok (.lload_n 3, 1) := by decide +kernel
theorem dX12_write_86 : decode cX12_write 86 = .ok (.iload 5, 2) := by decide +kernel
theorem dX12_write_88 : decode cX12_write 88 = .ok (.lshl, 1) := by decide +kernel
theorem dX12_write_89 : decode cX12_write 89 = .ok (.iload 5, 2) := by decide +kernel
theorem dX12_write_91 : decode cX12_write 91 = .ok (.lshr, 1) := by decide +kernel
theorem dX12_write_92 : decode cX12_write 92 = .ok (.lastore, 1) := by decide +kernel
theorem dX12_write_93 : decode cX12_write 93 = .ok (.aload_n 0, 1) := by decide +kernel
theorem dX12_write_94 : decode cX12_write 94 = .ok (.getfield 67, 3) := by decide +kernel
theorem dX12_write_97 : decode cX12_write 97 = .ok (.bipush 40, 2) := by decide +kernel
theorem dX12_write_99 : decode cX12_write 99 = .ok (.iload_n 1, 1) := by decide +kernel
theorem dX12_write_100 : decode cX12_write 100 = .ok (.imul, 1) := by decide +kernel
theorem dX12_write_101 : decode cX12_write 101 = .ok (.iload_n 2, 1) := by decide +kernel
theorem dX12_write_102 : decode cX12_write 102 = .ok (.iadd, 1) := by decide +kernel
theorem dX12_write_103 : decode cX12_write 103 = .ok (.laload, 1) := by decide +kernel
theorem dX12_write_104 : decode cX12_write 104 = .ok (.lreturn, 1) := by decide +kernel
theorem dX12_pour_0 : decode cX12_pour 0 = .ok (.aload_n 0, 1) := by decide +kernel
theorem dX12_pour_1 : decode cX12_pour 1 = .ok (.iconst 0, 1) := by decide +kernel
theorem dX12_pour_2 : decode cX12_pour 2 = .ok (.putfield 75, 3) := by decide +kernel
theorem dX12_pour_5 : decode cX12_pour 5 = .ok (.iload_n 1, 1) := by decide +kernel
theorem dX12_pour_6 : decode cX12_pour 6 = .ok (.invokestatic 391, 3) := by decide +kernel
theorem dX12_pour_9 : decode cX12_pour 9 = .ok (.ifCond .ne 9, 3) := by decide +kernel
theorem dX12_pour_12 : decode cX12_pour 12 = .ok (.aload_n 0, 1) := by decide +kernel
theorem dX12_pour_13 : decode cX12_pour 13 = .ok (.iconst 1, 1) := by decide +kernel
theorem dX12_pour_14 : decode cX12_pour 14 = .ok (.invokevirtual 219, 3) := by decide +kernel
theorem dX12_pour_17 : decode cX12_pour 17 = .ok (.ireturn, 1) := by decide +kernel
theorem dX12_pour_18 : decode cX12_pour 18 = .ok (.aload_n 0, 1) := by decide +kernel
theorem dX12_pour_19 : decode cX12_pour 19 = .ok (.getfield 61, 3) := by decide +kernel
theorem dX12_pour_22 : decode cX12_pour 22 = .ok (.iload_n 1, 1) := by decide +kernel
theorem dX12_pour_23 : decode cX12_pour 23 = .ok (.iaload, 1) := by decide +kernel
theorem dX12_pour_24 : decode cX12_pour 24 = .ok (.iconst (-1), 1) := by decide +kernel
theorem dX12_pour_25 : decode cX12_pour 25 = .ok (.if_icmp .ne 9, 3) := by decide +kernel
theorem dX12_pour_28 : decode cX12_pour 28 = .ok (.aload_n 0, 1) := by decide +kernel
theorem dX12_pour_29 : decode cX12_pour 29 = .ok (.iconst 2, 1) := by decide +kernel
theorem dX12_pour_30 : decode cX12_pour 30 = .ok (.invokevirtual 219, 3) := by decide +kernel
theorem dX12_pour_33 : decode cX12_pour 33 = .ok (.ireturn, 1) := by decide +kernel
theorem dX12_pour_34 : decode cX12_pour 34 = .ok (.aload_n 0, 1) := by decide +kernel
theorem dX12_pour_35 : decode cX12_pour 35 = .ok (.getfield 64, 3) := by decide +kernel
theorem dX12_pour_38 : decode cX12_pour 38 = .ok (.iload_n 1, 1) := by decide +kernel
theorem dX12_pour_39 : decode cX12_pour 39 = .ok (.iaload, 1) := by decide +kernel
theorem dX12_pour_40 : decode cX12_pour 40 = .ok (.iconst 2, 1) := by decide +kernel
theorem dX12_pour_41 : decode cX12_pour 41 = .ok (.irem, 1) := by decide +kernel
theorem dX12_pour_42 : decode cX12_pour 42 = .ok (.iconst 1, 1) := by decide +kernel
theorem dX12_pour_43 : decode cX12_pour 43 = .ok (.if_icmp .ne 9, 3) := by decide +kernel
theorem dX12_pour_46 : decode cX12_pour 46 = .ok (.aload_n 0, 1) := by decide +kernel
theorem dX12_pour_47 : decode cX12_pour 47 = .ok (.iconst 3, 1) := by decide +kernel
theorem dX12_pour_48 : decode cX12_pour 48 = .ok (.invokevirtual 219, 3) := by decide +kernel
theorem dX12_pour_51 : decode cX12_pour 51 = .ok (.ireturn, 1) := by decide +kernel
theorem dX12_pour_52 : decode cX12_pour 52 = .ok (.aload_n 0, 1) := by decide +kernel
theorem dX12_pour_53 : decode cX12_pour 53 = .ok (.getfield 64, 3) := by decide +kernel
theorem dX12_pour_56 : decode cX12_pour 56 = .ok (.iload_n 1, 1) := by decide +kernel
theorem dX12_pour_57 : decode cX12_pour 57 = .ok (.iaload, 1) := by decide +kernel
theorem dX12_pour_58 : decode cX12_pour 58 = .ok (.iconst 2, 1) := by decide +kernel
theorem dX12_pour_59 : decode cX12_pour 59 = .ok (.idiv, 1) := by decide +kernel
theorem dX12_pour_60 : decode cX12_pour 60 = .ok (.istore_n 2, 1) := by decide +kernel
theorem dX12_pour_61 : decode cX12_pour 61 = .ok (.iload_n 2, 1) := by decide +kernel
theorem dX12_pour_62 : decode cX12_pour 62 = .ok (.aload_n 0, 1) := by decide +kernel
theorem dX12_pour_63 : decode cX12_pour 63 = .ok (.invokevirtual 228, 3) := by decide +kernel
theorem dX12_pour_66 : decode cX12_pour 66 = .ok (.if_icmp .gt 7, 3) := by decide +kernel
theorem dX12_pour_69 : decode cX12_pour 69 = .ok (.iconst 1, 1) := by decide +kernel
theorem dX12_pour_70 : decode cX12_pour 70 = .ok (.goto 4, 3) := by decide +kernel
theorem dX12_pour_73 : decode cX12_pour 73 = .ok (.iconst 0, 1) := by decide +kernel
theorem dX12_pour_74 : decode cX12_pour 74 = .ok (.istore_n 3, 1) := by decide +kernel
theorem dX12_pour_75 : decode cX12_pour 75 = .ok (.bipush 40, 2) := by decide +kernel
theorem dX12_pour_77 : decode cX12_pour 77 = .ok (.iload_n 1, 1) := by decide +kernel
theorem dX12_pour_78 : decode cX12_pour 78 = .ok (.imul, 1) := by decide +kernel
theorem dX12_pour_79 : decode cX12_pour 79 = .ok (.istore 4, 2) := by decide +kernel
theorem dX12_pour_81 : decode cX12_pour 81 = .ok (.iload 4, 2) := by decide +kernel
theorem dX12_pour_83 : decode cX12_pour 83 = .ok (.bipush 40, 2) := by decide +kernel
theorem dX12_pour_85 : decode cX12_pour 85 = .ok (.iload_n 1, 1) := by decide +kernel
theorem dX12_pour_86 : decode cX12_pour 86 = .ok (.imul, 1) := by decide +kernel
theorem dX12_pour_87 : decode cX12_pour 87 = .ok (.iconst 2, 1) := by decide +kernel
theorem dX12_pour_88 : decode cX12_pour 88 = .ok (.iload_n 2, 1) := by decide +kernel
theorem dX12_pour_89 : decode cX12_pour 89 = .ok (.imul, 1) := by decide +kernel
theorem dX12_pour_90 : decode cX12_pour 90 = .ok (.iadd, 1) := by decide +kernel
theorem dX12_pour_91 : decode cX12_pour 91 = .ok (.if_icmp .ge 63, 3) := by decide +kernel
theorem dX12_pour_94 : decode cX12_pour 94 = .ok (.iload_n 3, 1) := by decide +kernel
theorem dX12_pour_95 : decode cX12_pour 95 = .ok (.ifCond .eq 51, 3) := by decide +kernel
theorem dX12_pour_98 : decode cX12_pour 98 = .ok (.aload_n 0, 1) := by decide +kernel
theorem dX12_pour_99 : decode cX12_pour 99 = .ok (.getfield 67, 3) := by decide +kernel
theorem dX12_pour_102 : decode cX12_pour 102 = .ok (.iload 4, 2) := by decide +kernel
theorem dX12_pour_104 : decode cX12_pour 104 = .ok (.laload, 1) := by decide +kernel
theorem dX12_pour_105 : decode cX12_pour 105 = .ok (.ldc2_w 365, 3) := by decide +kernel
theorem dX12_pour_108 : decode cX12_pour 108 = .ok (.aload_n 0, 1) := by decide +kernel
theorem dX12_pour_109 : decode cX12_pour 109 = .ok (.getfield 9, 3) := by decide +kernel
theorem dX12_pour_112 : decode cX12_pour 112 = .ok (.iconst 3, 1) := by decide +kernel
theorem dX12_pour_113 : decode cX12_pour 113 = .ok (.iaload, 1) := by decide +kernel
theorem dX12_pour_114 : decode cX12_pour 114 = .ok (.iconst 1, 1) := by decide +kernel
theorem dX12_pour_115 : decode cX12_pour 115 = .ok (.isub, 1) := by decide +kernel
theorem dX12_pour_116 : decode cX12_pour 116 = .ok (.i2l, 1) := by decide +kernel
theorem dX12_pour_117 : decode cX12_pour 117 = .ok (.invokestatic 134, 3) := by decide +kernel
theorem dX12_pour_120 : decode cX12_pour 120 = .ok (.ifCond .eq 26, 3) := by decide +kernel
theorem dX12_pour_123 : decode cX12_pour 123 = .ok (.aload_n 0, 1) := by decide +kernel
theorem dX12_pour_124 : decode cX12_pour 124 = .ok (.getfield 67, 3) := by decide +kernel
theorem dX12_pour_127 : decode cX12_pour 127 = .ok (.iload 4, 2) := by decide +kernel
theorem dX12_pour_129 : decode cX12_pour 129 = .ok (.iconst 1, 1) := by decide +kernel
theorem dX12_pour_130 : decode cX12_pour 130 = .ok (.iadd, 1) := by decide +kernel
theorem dX12_pour_131 : decode cX12_pour 131 = .ok (.laload, 1) := by decide +kernel
theorem dX12_pour_132 : decode cX12_pour 132 = .ok (.lconst 0, 1) := by decide +kernel
theorem dX12_pour_133 : decode cX12_pour 133 = .ok (.ldc2_w 262, 3) := by decide +kernel
theorem dX12_pour_136 : decode cX12_pour 136 = .ok (.invokestatic 134, 3) := by decide +kernel
theorem dX12_pour_139 : decode cX12_pour 139 = .ok (.ifCond .eq 7, 3) := by decide +kernel
theorem dX12_pour_142 : decode cX12_pour 142 = .ok (.iconst 1, 1) := by decide +kernel
theorem dX12_pour_143 : decode cX12_pour 143 = .ok (.goto 4, 3) := by decide +kernel
theorem dX12_pour_146 : decode cX12_pour 146 = .ok (.iconst 0, 1) := by decide +kernel
theorem dX12_pour_147 : decode cX12_pour 147 = .ok (.istore_n 3, 1) := by decide +kernel
theorem dX12_pour_148 : decode cX12_pour 148 = .ok (.iinc 4 2, 3) := by decide +kernel
theorem dX12_pour_151 : decode cX12_pour 151 = .ok (.goto (-70), 3) := by decide +kernel
theorem dX12_pour_154 : decode cX12_pour 154 = .ok (.iload_n 3, 1) := by decide +kernel
theorem dX12_pour_155 : decode cX12_pour 155 = .ok (.ifCond .ne 9, 3) := by decide +kernel
theorem dX12_pour_158 : decode cX12_pour 158 = .ok (.aload_n 0, 1) := by decide +kernel
theorem dX12_pour_159 : decode cX12_pour 159 = .ok (.iconst 4, 1) := by decide +kernel
theorem dX12_pour_160 : decode cX12_pour 160 = .ok (.invokevirtual 219, 3) := by decide +kernel
theorem dX12_pour_163 : decode cX12_pour 163 = .ok (.ireturn, 1) := by decide +kernel
theorem dX12_pour_164 : decode cX12_pour 164 = .ok (.iconst 0, 1) := by decide +kernel
theorem dX12_pour_165 : decode cX12_pour 165 = .ok (.istore 4, 2) := by decide +kernel
theorem dX12_pour_167 : decode cX12_pour 167 = .ok (.iload 4, 2) := by decide +kernel
theorem dX12_pour_169 : decode cX12_pour 169 = .ok (.iload_n 2, 1) := by decide +kernel
theorem dX12_pour_170 : decode cX12_pour 170 = .ok (.if_icmp .ge 47, 3) := by decide +kernel
theorem dX12_pour_173 : decode cX12_pour 173 = .ok (.aload_n 0, 1) := by decide +kernel
theorem dX12_pour_174 : decode cX12_pour 174 = .ok (.iload 4, 2) := by decide +kernel
theorem dX12_pour_176 : decode cX12_pour 176 = .ok (.aload_n 0, 1) := by decide +kernel
theorem dX12_pour_177 : decode cX12_pour 177 = .ok (.getfield 67, 3) := by decide +kernel
theorem dX12_pour_180 : decode cX12_pour 180 = .ok (.bipush 40, 2) := by decide +kernel
theorem dX12_pour_182 : decode cX12_pour 182 = .ok (.iload_n 1, 1) := by decide +kernel
theorem dX12_pour_183 : decode cX12_pour 183 = .ok (.imul, 1) := by decide +kernel
theorem dX12_pour_184 : decode cX12_pour 184 = .ok (.iconst 2, 1) := by decide +kernel
theorem dX12_pour_185 : decode cX12_pour 185 = .ok (.iload 4, 2) := by decide +kernel
theorem dX12_pour_187 : decode cX12_pour 187 = .ok (.imul, 1) := by decide +kernel
theorem dX12_pour_188 : decode cX12_pour 188 = .ok (.iadd, 1) := by decide +kernel
theorem dX12_pour_189 : decode cX12_pour 189 = .ok (.laload, 1) := by decide +kernel
theorem dX12_pour_190 : decode cX12_pour 190 = .ok (.l2i, 1) := by decide +kernel
theorem dX12_pour_191 : decode cX12_pour 191 = .ok (.aload_n 0, 1) := by decide +kernel
theorem dX12_pour_192 : decode cX12_pour 192 = .ok (.getfield 67, 3) := by decide +kernel
theorem dX12_pour_195 : decode cX12_pour 195 = .ok (.bipush 40, 2) := by decide +kernel
theorem dX12_pour_197 : decode cX12_pour 197 = .ok (.iload_n 1, 1) := by decide +kernel
theorem dX12_pour_198 : decode cX12_pour 198 = .ok (.imul, 1) := by decide +kernel
theorem dX12_pour_199 : decode cX12_pour 199 = .ok (.iconst 2, 1) := by decide +kernel
theorem dX12_pour_200 : decode cX12_pour 200 = .ok (.iload 4, 2) := by decide +kernel
theorem dX12_pour_202 : decode cX12_pour 202 = .ok (.imul, 1) := by decide +kernel
theorem dX12_pour_203 : decode cX12_pour 203 = .ok (.iadd, 1) := by decide +kernel
theorem dX12_pour_204 : decode cX12_pour 204 = .ok (.iconst 1, 1) := by decide +kernel
theorem dX12_pour_205 : decode cX12_pour 205 = .ok (.iadd, 1) := by decide +kernel
theorem dX12_pour_206 : decode cX12_pour 206 = .ok (.laload, 1) := by decide +kernel
theorem dX12_pour_207 : decode cX12_pour 207 = .ok (.l2i, 1) := by decide +kernel
theorem dX12_pour_208 : decode cX12_pour 208 = .ok (.invokevirtual 264, 3) := by decide +kernel
theorem dX12_pour_211 : decode cX12_pour 211 = .ok (.iinc 4 1, 3) := by decide +kernel
theorem dX12_pour_214 : decode cX12_pour 214 = .ok (.goto (-47), 3) := by decide +kernel
theorem dX12_pour_217 : decode cX12_pour 217 = .ok (.iload_n 2, 1) := by decide +kernel
theorem dX12_pour_218 : decode cX12_pour 218 = .ok (.ireturn, 1) := by decide +kernel
theorem dX12_image_0 : decode cX12_image 0 = .ok (.aload_n 0, 1) := by decide +kernel
theorem dX12_image_1 : decode cX12_image 1 = .ok (.iload_n 1, 1) := by decide +kernel
theorem dX12_image_2 : decode cX12_image 2 = .ok (.i2l, 1) := by decide +kernel
theorem dX12_image_3 : decode cX12_image 3 = .ok (.lconst 0, 1) := by decide +kernel
theorem dX12_image_4 : decode cX12_image 4 = .ok (.ldc2_w 268, 3) := by decide +kernel
theorem dX12_image_7 : decode cX12_image 7 = .ok (.invokestatic 134, 3) := by decide +kernel
theorem dX12_image_10 : decode cX12_image 10 = .ok (.ifCond .eq 7, 3) := by decide +kernel
theorem dX12_image_13 : decode cX12_image 13 = .ok (.iconst 0, 1) := by decide +kernel
theorem dX12_image_14 : decode cX12_image 14 = .ok (.goto 4, 3) := by decide +kernel
theorem dX12_image_17 : decode cX12_image 17 = .ok (.iconst 1, 1) := by decide +kernel
theorem dX12_image_18 : decode cX12_image 18 = .ok (.putfield 75, 3) := by decide +kernel
theorem dX12_image_21 : decode cX12_image 21 = .ok (.aload_n 0, 1) := by decide +kernel
theorem dX12_image_22 : decode cX12_image 22 = .ok (.getfield 75, 3) := by decide +kernel
theorem dX12_image_25 : decode cX12_image 25 = .ok (.ifCond .le 4, 3) := by decide +kernel
theorem dX12_image_28 : decode cX12_image 28 = .ok (.return_, 1) := by decide +kernel
theorem dX12_image_29 : decode cX12_image 29 = .ok (.aload_n 0, 1) := by decide +kernel
theorem dX12_image_30 : decode cX12_image 30 = .ok (.getfield 19, 3) := by decide +kernel
theorem dX12_image_33 : decode cX12_image 33 = .ok (.iload_n 1, 1) := by decide +kernel
theorem dX12_image_34 : decode cX12_image 34 = .ok (.iconst 1, 1) := by decide +kernel
theorem dX12_image_35 : decode cX12_image 35 = .ok (.bastore, 1) := by decide +kernel
theorem dX12_image_36 : decode cX12_image 36 = .ok (.iconst 0, 1) := by decide +kernel
theorem dX12_image_37 : decode cX12_image 37 = .ok (.istore_n 2, 1) := by decide +kernel
theorem dX12_image_38 : decode cX12_image 38 = .ok (.iload_n 2, 1) := by decide +kernel
theorem dX12_image_39 : decode cX12_image 39 = .ok (.sipush 480, 3) := by decide +kernel
theorem dX12_image_42 : decode cX12_image 42 = .ok (.if_icmp .ge 27, 3) := by decide +kernel
theorem dX12_image_45 : decode cX12_image 45 = .ok (.aload_n 0, 1) := by decide +kernel
theorem dX12_image_46 : decode cX12_image 46 = .ok (.getfield 13, 3) := by decide +kernel
theorem dX12_image_49 : decode cX12_image 49 = .ok (.sipush 480, 3) := by decide +kernel
theorem dX12_image_52 : decode cX12_image 52 = .ok (.iload_n 1, 1) := by decide +kernel
theorem dX12_image_53 : decode cX12_image 53 = .ok (.imul, 1) := by decide +kernel
theorem dX12_image_54 : decode cX12_image 54 = .ok (.iload_n 2, 1) := by decide +kernel
theorem dX12_image_55 : decode cX12_image 55 = .ok (.iadd, 1) := by decide +kernel
theorem dX12_image_56 : decode cX12_image 56 = .ok (.aload_n 0, 1) := by decide +kernel
theorem dX12_image_57 : decode cX12_image 57 = .ok (.getfield 9, 3) := by decide +kernel
theorem dX12_image_60 : decode cX12_image 60 = .ok (.iload_n 2, 1) := by decide +kernel
theorem dX12_image_61 : decode cX12_image 61 = .ok (.iaload, 1) := by decide +kernel
theorem dX12_image_62 : decode cX12_image 62 = .ok (.iastore, 1) := by decide +kernel
theorem dX12_image_63 : decode cX12_image 63 = .ok (.iinc 2 1, 3) := by decide +kernel
theorem dX12_image_66 : decode cX12_image 66 = .ok (.goto (-28), 3) := by decide +kernel
theorem dX12_image_69 : decode cX12_image 69 = .ok (.return_, 1) := by decide +kernel
theorem dX12_restore_0 : decode cX12_restore 0 = .ok (.aload_n 0, 1) := by decide +kernel
theorem dX12_restore_1 : decode cX12_restore 1 = .ok (.iload_n 1, 1) := by decide +kernel
theorem dX12_restore_2 : decode cX12_restore 2 = .ok (.i2l, 1) := by decide +kernel
theorem dX12_restore_3 : decode cX12_restore 3 = .ok (.lconst 0, 1) := by decide +kernel
theorem dX12_restore_4 : decode cX12_restore 4 = .ok (.ldc2_w 268, 3) := by decide +kernel
theorem dX12_restore_7 : decode cX12_restore 7 = .ok (.invokestatic 134, 3) := by decide +kernel
theorem dX12_restore_10 : decode cX12_restore 10 = .ok (.ifCond .ne 7, 3) := by decide +kernel
theorem dX12_restore_13 : decode cX12_restore 13 = .ok (.iconst 1, 1) := by decide +kernel
theorem dX12_restore_14 : decode cX12_restore 14 = .ok (.goto 17, 3) := by decide +kernel
theorem dX12_restore_17 : decode cX12_restore 17 = .ok (.aload_n 0, 1) := by decide +kernel
theorem dX12_restore_18 : decode cX12_restore 18 = .ok (.getfield 19, 3) := by decide +kernel
theorem dX12_restore_21 : decode cX12_restore 21 = .ok (.iload_n 1, 1) := by decide +kernel
theorem dX12_restore_22 : decode cX12_restore 22 = .ok (.baload, 1) := by decide +kernel
theorem dX12_restore_23 : decode cX12_restore 23 = .ok (.ifCond .ne 7, 3) := by decide +kernel
theorem dX12_restore_26 : decode cX12_restore 26 = .ok (.iconst 2, 1) := by decide +kernel
theorem dX12_restore_27 : decode cX12_restore 27 = .ok (.goto 4, 3) := by decide +kernel
theorem dX12_restore_30 : decode cX12_restore 30 = .ok (.iconst 0, 1) := by decide +kernel
theorem dX12_restore_31 : decode cX12_restore 31 = .ok (.putfield 75, 3) := by decide +kernel
theorem dX12_restore_34 : decode cX12_restore 34 = .ok (.aload_n 0, 1) := by decide +kernel
theorem dX12_restore_35 : decode cX12_restore 35 = .ok (.getfield 75, 3) := by decide +kernel
theorem dX12_restore_38 : decode cX12_restore 38 = .ok (.ifCond .le 4, 3) := by decide +kernel
theorem dX12_restore_41 : decode cX12_restore 41 = .ok (.return_, 1) := by decide +kernel
theorem dX12_restore_42 : decode cX12_restore 42 = .ok (.iconst 0, 1) := by decide +kernel
theorem dX12_restore_43 : decode cX12_restore 43 = .ok (.istore_n 2, 1) := by decide +kernel
theorem dX12_restore_44 : decode cX12_restore 44 = .ok (.iload_n 2, 1) := by decide +kernel
theorem dX12_restore_45 : decode cX12_restore 45 = .ok (.sipush 480, 3) := by decide +kernel
theorem dX12_restore_48 : decode cX12_restore 48 = .ok (.if_icmp .ge 27, 3) := by decide +kernel
theorem dX12_restore_51 : decode cX12_restore 51 = .ok (.aload_n 0, 1) := by decide +kernel
theorem dX12_restore_52 : decode cX12_restore 52 = .ok (.getfield 9, 3) := by decide +kernel
theorem dX12_restore_55 : decode cX12_restore 55 = .ok (.iload_n 2, 1) := by decide +kernel
theorem dX12_restore_56 : decode cX12_restore 56 = .ok (.aload_n 0, 1) := by decide +kernel
theorem dX12_restore_57 : decode cX12_restore 57 = .ok (.getfield 13, 3) := by decide +kernel
theorem dX12_restore_60 : decode cX12_restore 60 = .ok (.sipush 480, 3) := by decide +kernel
theorem dX12_restore_63 : decode cX12_restore 63 = .ok (.iload_n 1, 1) := by decide +kernel
theorem dX12_restore_64 : decode cX12_restore 64 = .ok (.imul, 1) := by decide +kernel
theorem dX12_restore_65 : decode cX12_restore 65 = .ok (.iload_n 2, 1) := by decide +kernel
theorem dX12_restore_66 : decode cX12_restore 66 = .ok (.iadd, 1) := by decide +kernel
theorem dX12_restore_67 : decode cX12_restore 67 = .ok (.iaload, 1) := by decide +kernel
theorem dX12_restore_68 : decode cX12_restore 68 = .ok (.iastore, 1) := by decide +kernel
theorem dX12_restore_69 : decode cX12_restore 69 = .ok (.iinc 2 1, 3) := by decide +kernel
theorem dX12_restore_72 : decode cX12_restore 72 = .ok (.goto (-28), 3) := by decide +kernel
theorem dX12_restore_75 : decode cX12_restore 75 = .ok (.return_, 1) := by decide +kernel
theorem dX12_count_0 : decode cX12_count 0 = .ok (.aload_n 0, 1) := by decide +kernel
theorem dX12_count_1 : decode cX12_count 1 = .ok (.iconst 0, 1) := by decide +kernel
theorem dX12_count_2 : decode cX12_count 2 = .ok (.putfield 75, 3) := by decide +kernel
theorem dX12_count_5 : decode cX12_count 5 = .ok (.iconst 0, 1) := by decide +kernel
theorem dX12_count_6 : decode cX12_count 6 = .ok (.istore_n 2, 1) := by decide +kernel
theorem dX12_count_7 : decode cX12_count 7 = .ok (.iconst 0, 1) := by decide +kernel
theorem dX12_count_8 : decode cX12_count 8 = .ok (.istore_n 3, 1) := by decide +kernel
theorem dX12_count_9 : decode cX12_count 9 = .ok (.iload_n 3, 1) := by decide +kernel
theorem dX12_count_10 : decode cX12_count 10 = .ok (.aload_n 0, 1) := by decide +kernel
theorem dX12_count_11 : decode cX12_count 11 = .ok (.invokevirtual 228, 3) := by decide +kernel
theorem dX12_count_14 : decode cX12_count 14 = .ok (.if_icmp .ge 33, 3) := by decide +kernel
theorem dX12_count_17 : decode cX12_count 17 = .ok (.iload_n 2, 1) := by decide +kernel
theorem dX12_count_18 : decode cX12_count 18 = .ok (.aload_n 0, 1) := by decide +kernel
theorem dX12_count_19 : decode cX12_count 19 = .ok (.getfield 9, 3) := by decide +kernel
theorem dX12_count_22 : decode cX12_count 22 = .ok (.sipush 448, 3) := by decide +kernel
theorem dX12_count_25 : decode cX12_count 25 = .ok (.iconst 2, 1) := by decide +kernel
theorem dX12_count_26 : decode cX12_count 26 = .ok (.iload_n 3, 1) := by decide +kernel
theorem dX12_count_27 : decode cX12_count 27 = .ok (.imul, 1) := by decide +kernel
theorem dX12_count_28 : decode cX12_count 28 = .ok (.iadd, 1) := by decide +kernel
theorem dX12_count_29 : decode cX12_count 29 = .ok (.iaload, 1) := by decide +kernel
theorem dX12_count_30 : decode cX12_count 30 = .ok (.iconst (-1), 1) := by decide +kernel
theorem dX12_count_31 : decode cX12_count 31 = .ok (.if_icmp .eq 7, 3) := by decide +kernel
theorem dX12_count_34 : decode cX12_count 34 = .ok (.iconst 1, 1) := by decide +kernel
theorem dX12_count_35 : decode cX12_count 35 = .ok (.goto 4, 3) := by decide +kernel
theorem dX12_count_38 : decode cX12_count 38 = .ok (.iconst 0, 1) := by decide +kernel
theorem dX12_count_39 : decode cX12_count 39 = .ok (.iadd, 1) := by decide +kernel
theorem dX12_count_40 : decode cX12_count 40 = .ok (.istore_n 2, 1) := by decide +kernel
theorem dX12_count_41 : decode cX12_count 41 = .ok (.iinc 3 1, 3) := by decide +kernel
theorem dX12_count_44 : decode cX12_count 44 = .ok (.goto (-35), 3) := by decide +kernel
theorem dX12_count_47 : decode cX12_count 47 = .ok (.iload_n 1, 1) := by decide +kernel
theorem dX12_count_48 : decode cX12_count 48 = .ok (.i2l, 1) := by decide +kernel
theorem dX12_count_49 : decode cX12_count 49 = .ok (.lconst 0, 1) := by decide +kernel
theorem dX12_count_50 : decode cX12_count 50 = .ok (.ldc2_w 430, 3) := by decide +kernel
theorem dX12_count_53 : decode cX12_count 53 = .ok (.invokestatic 134, 3) := by decide +kernel
theorem dX12_count_56 : decode cX12_count 56 = .ok (.ifCond .eq 12, 3) := by decide +kernel
theorem dX12_count_59 : decode cX12_count 59 = .ok (.aload_n 0, 1) := by decide +kernel
theorem dX12_count_60 : decode cX12_count 60 = .ok (.getfield 9, 3) := by decide +kernel
theorem dX12_count_63 : decode cX12_count 63 = .ok (.iload_n 1, 1) := by decide +kernel
theorem dX12_count_64 : decode cX12_count 64 = .ok (.iaload, 1) := by decide +kernel
theorem dX12_count_65 : decode cX12_count 65 = .ok (.goto 27, 3) := by decide +kernel
theorem dX12_count_68 : decode cX12_count 68 = .ok (.iload_n 1, 1) := by decide +kernel
theorem dX12_count_69 : decode cX12_count 69 = .ok (.bipush 7, 2) := by decide +kernel
theorem dX12_count_71 : decode cX12_count 71 = .ok (.if_icmp .ne 7, 3) := by decide +kernel
theorem dX12_count_74 : decode cX12_count 74 = .ok (.iload_n 2, 1) := by decide +kernel
theorem dX12_count_75 : decode cX12_count 75 = .ok (.goto 17, 3) := by decide +kernel
theorem dX12_count_78 : decode cX12_count 78 = .ok (.iload_n 1, 1) := by decide +kernel
theorem dX12_count_79 : decode cX12_count 79 = .ok (.bipush 8, 2) := by decide +kernel
theorem dX12_count_81 : decode cX12_count 81 = .ok (.if_icmp .ne 10, 3) := by decide +kernel
theorem dX12_count_84 : decode cX12_count 84 = .ok (.aload_n 0, 1) := by decide +kernel
theorem dX12_count_85 : decode cX12_count 85 = .ok (.getfield 78, 3) := by decide +kernel
theorem dX12_count_88 : decode cX12_count 88 = .ok (.goto 4, 3) := by decide +kernel
theorem dX12_count_91 : decode cX12_count 91 = .ok (.iconst (-1), 1) := by decide +kernel
theorem dX12_count_92 : decode cX12_count 92 = .ok (.ireturn, 1) := by decide +kernel
theorem dJ6_bitCount_0f7a4_0 : decode cJ6_bitCount_0f7a4 0 = .ok (.iload_n 0, 1) := by decide +kernel
theorem dJ6_bitCount_0f7a4_1 : decode cJ6_bitCount_0f7a4 1 = .ok (.iload_n 0, 1) := by decide +kernel
theorem dJ6_bitCount_0f7a4_2 : decode cJ6_bitCount_0f7a4 2 = .ok (.iconst 1, 1) := by decide +kernel
theorem dJ6_bitCount_0f7a4_3 : decode cJ6_bitCount_0f7a4 3 = .ok (.iushr, 1) := by decide +kernel
theorem dJ6_bitCount_0f7a4_4 : decode cJ6_bitCount_0f7a4 4 = .ok (.ldc_w 265, 3) := by decide +kernel
theorem dJ6_bitCount_0f7a4_7 : decode cJ6_bitCount_0f7a4 7 = .ok (.iand, 1) := by decide +kernel
theorem dJ6_bitCount_0f7a4_8 : decode cJ6_bitCount_0f7a4 8 = .ok (.isub, 1) := by decide +kernel
theorem dJ6_bitCount_0f7a4_9 : decode cJ6_bitCount_0f7a4 9 = .ok (.istore_n 0, 1) := by decide +kernel
theorem dJ6_bitCount_0f7a4_10 : decode cJ6_bitCount_0f7a4 10 = .ok (.iload_n 0, 1) := by decide +kernel
theorem dJ6_bitCount_0f7a4_11 : decode cJ6_bitCount_0f7a4 11 = .ok (.ldc_w 266, 3) := by decide +kernel
theorem dJ6_bitCount_0f7a4_14 : decode cJ6_bitCount_0f7a4 14 = .ok (.iand, 1) := by decide +kernel
theorem dJ6_bitCount_0f7a4_15 : decode cJ6_bitCount_0f7a4 15 = .ok (.iload_n 0, 1) := by decide +kernel
theorem dJ6_bitCount_0f7a4_16 : decode cJ6_bitCount_0f7a4 16 = .ok (.iconst 2, 1) := by decide +kernel
theorem dJ6_bitCount_0f7a4_17 : decode cJ6_bitCount_0f7a4 17 = .ok (.iushr, 1) := by decide +kernel
theorem dJ6_bitCount_0f7a4_18 : decode cJ6_bitCount_0f7a4 18 = .ok (.ldc_w 266, 3) := by decide +kernel
theorem dJ6_bitCount_0f7a4_21 : decode cJ6_bitCount_0f7a4 21 = .ok (.iand, 1) := by decide +kernel
theorem dJ6_bitCount_0f7a4_22 : decode cJ6_bitCount_0f7a4 22 = .ok (.iadd, 1) := by decide +kernel
theorem dJ6_bitCount_0f7a4_23 : decode cJ6_bitCount_0f7a4 23 = .ok (.istore_n 0, 1) := by decide +kernel
theorem dJ6_bitCount_0f7a4_24 : decode cJ6_bitCount_0f7a4 24 = .ok (.iload_n 0, 1) := by decide +kernel
theorem dJ6_bitCount_0f7a4_25 : decode cJ6_bitCount_0f7a4 25 = .ok (.iload_n 0, 1) := by decide +kernel
theorem dJ6_bitCount_0f7a4_26 : decode cJ6_bitCount_0f7a4 26 = .ok (.iconst 4, 1) := by decide +kernel
theorem dJ6_bitCount_0f7a4_27 : decode cJ6_bitCount_0f7a4 27 = .ok (.iushr, 1) := by decide +kernel
theorem dJ6_bitCount_0f7a4_28 : decode cJ6_bitCount_0f7a4 28 = .ok (.iadd, 1) := by decide +kernel
theorem dJ6_bitCount_0f7a4_29 : decode cJ6_bitCount_0f7a4 29 = .ok (.ldc_w 267, 3) := by decide +kernel
theorem dJ6_bitCount_0f7a4_32 : decode cJ6_bitCount_0f7a4 32 = .ok (.iand, 1) := by decide +kernel
theorem dJ6_bitCount_0f7a4_33 : decode cJ6_bitCount_0f7a4 33 = .ok (.istore_n 0, 1) := by decide +kernel
theorem dJ6_bitCount_0f7a4_34 : decode cJ6_bitCount_0f7a4 34 = .ok (.iload_n 0, 1) := by decide +kernel
theorem dJ6_bitCount_0f7a4_35 : decode cJ6_bitCount_0f7a4 35 = .ok (.iload_n 0, 1) := by decide +kernel
theorem dJ6_bitCount_0f7a4_36 : decode cJ6_bitCount_0f7a4 36 = .ok (.bipush 8, 2) := by decide +kernel
theorem dJ6_bitCount_0f7a4_38 : decode cJ6_bitCount_0f7a4 38 = .ok (.iushr, 1) := by decide +kernel
theorem dJ6_bitCount_0f7a4_39 : decode cJ6_bitCount_0f7a4 39 = .ok (.iadd, 1) := by decide +kernel
theorem dJ6_bitCount_0f7a4_40 : decode cJ6_bitCount_0f7a4 40 = .ok (.istore_n 0, 1) := by decide +kernel
theorem dJ6_bitCount_0f7a4_41 : decode cJ6_bitCount_0f7a4 41 = .ok (.iload_n 0, 1) := by decide +kernel
theorem dJ6_bitCount_0f7a4_42 : decode cJ6_bitCount_0f7a4 42 = .ok (.iload_n 0, 1) := by decide +kernel
theorem dJ6_bitCount_0f7a4_43 : decode cJ6_bitCount_0f7a4 43 = .ok (.bipush 16, 2) := by decide +kernel
theorem dJ6_bitCount_0f7a4_45 : decode cJ6_bitCount_0f7a4 45 = .ok (.iushr, 1) := by decide +kernel
theorem dJ6_bitCount_0f7a4_46 : decode cJ6_bitCount_0f7a4 46 = .ok (.iadd, 1) := by decide +kernel
theorem dJ6_bitCount_0f7a4_47 : decode cJ6_bitCount_0f7a4 47 = .ok (.istore_n 0, 1) := by decide +kernel
theorem dJ6_bitCount_0f7a4_48 : decode cJ6_bitCount_0f7a4 48 = .ok (.iload_n 0, 1) := by decide +kernel
theorem dJ6_bitCount_0f7a4_49 : decode cJ6_bitCount_0f7a4 49 = .ok (.bipush 63, 2) := by decide +kernel
theorem dJ6_bitCount_0f7a4_51 : decode cJ6_bitCount_0f7a4 51 = .ok (.iand, 1) := by decide +kernel
theorem dJ6_bitCount_0f7a4_52 : decode cJ6_bitCount_0f7a4 52 = .ok (.ireturn, 1) := by decide +kernel
theorem dJ13_bitCount_95d88_0 : decode cJ13_bitCount_95d88 0 = .ok (.lload_n 0, 1) := by decide +kernel
theorem dJ13_bitCount_95d88_1 : decode cJ13_bitCount_95d88 1 = .ok (.lload_n 0, 1) := by decide +kernel
theorem dJ13_bitCount_95d88_2 : decode cJ13_bitCount_95d88 2 = .ok (.iconst 1, 1) := by decide +kernel
theorem dJ13_bitCount_95d88_3 : decode cJ13_bitCount_95d88 3 = .ok (.lushr, 1) := by decide +kernel
theorem dJ13_bitCount_95d88_4 : decode cJ13_bitCount_95d88 4 = .ok (.ldc2_w 314, 3) := by decide +kernel
theorem dJ13_bitCount_95d88_7 : decode cJ13_bitCount_95d88 7 = .ok (.land, 1) := by decide +kernel
theorem dJ13_bitCount_95d88_8 : decode cJ13_bitCount_95d88 8 = .ok (.lsub, 1) := by decide +kernel
theorem dJ13_bitCount_95d88_9 : decode cJ13_bitCount_95d88 9 = .ok (.lstore_n 0, 1) := by decide +kernel
theorem dJ13_bitCount_95d88_10 : decode cJ13_bitCount_95d88 10 = .ok (.lload_n 0, 1) := by decide +kernel
theorem dJ13_bitCount_95d88_11 : decode cJ13_bitCount_95d88 11 = .ok (.ldc2_w 316, 3) := by decide +kernel
theorem dJ13_bitCount_95d88_14 : decode cJ13_bitCount_95d88 14 = .ok (.land, 1) := by decide +kernel
theorem dJ13_bitCount_95d88_15 : decode cJ13_bitCount_95d88 15 = .ok (.lload_n 0, 1) := by decide +kernel
theorem dJ13_bitCount_95d88_16 : decode cJ13_bitCount_95d88 16 = .ok (.iconst 2, 1) := by decide +kernel
theorem dJ13_bitCount_95d88_17 : decode cJ13_bitCount_95d88 17 = .ok (.lushr, 1) := by decide +kernel
theorem dJ13_bitCount_95d88_18 : decode cJ13_bitCount_95d88 18 = .ok (.ldc2_w 316, 3) := by decide +kernel
theorem dJ13_bitCount_95d88_21 : decode cJ13_bitCount_95d88 21 = .ok (.land, 1) := by decide +kernel
theorem dJ13_bitCount_95d88_22 : decode cJ13_bitCount_95d88 22 = .ok (.ladd, 1) := by decide +kernel
theorem dJ13_bitCount_95d88_23 : decode cJ13_bitCount_95d88 23 = .ok (.lstore_n 0, 1) := by decide +kernel
theorem dJ13_bitCount_95d88_24 : decode cJ13_bitCount_95d88 24 = .ok (.lload_n 0, 1) := by decide +kernel
theorem dJ13_bitCount_95d88_25 : decode cJ13_bitCount_95d88 25 = .ok (.lload_n 0, 1) := by decide +kernel
theorem dJ13_bitCount_95d88_26 : decode cJ13_bitCount_95d88 26 = .ok (.iconst 4, 1) := by decide +kernel
theorem dJ13_bitCount_95d88_27 : decode cJ13_bitCount_95d88 27 = .ok (.lushr, 1) := by decide +kernel
theorem dJ13_bitCount_95d88_28 : decode cJ13_bitCount_95d88 28 = .ok (.ladd, 1) := by decide +kernel
theorem dJ13_bitCount_95d88_29 : decode cJ13_bitCount_95d88 29 = .ok (.ldc2_w 318, 3) := by decide +kernel
theorem dJ13_bitCount_95d88_32 : decode cJ13_bitCount_95d88 32 = .ok (.land, 1) := by decide +kernel
theorem dJ13_bitCount_95d88_33 : decode cJ13_bitCount_95d88 33 = .ok (.lstore_n 0, 1) := by decide +kernel
theorem dJ13_bitCount_95d88_34 : decode cJ13_bitCount_95d88 34 = .ok (.lload_n 0, 1) := by decide +kernel
theorem dJ13_bitCount_95d88_35 : decode cJ13_bitCount_95d88 35 = .ok (.lload_n 0, 1) := by decide +kernel
theorem dJ13_bitCount_95d88_36 : decode cJ13_bitCount_95d88 36 = .ok (.bipush 8, 2) := by decide +kernel
theorem dJ13_bitCount_95d88_38 : decode cJ13_bitCount_95d88 38 = .ok (.lushr, 1) := by decide +kernel
theorem dJ13_bitCount_95d88_39 : decode cJ13_bitCount_95d88 39 = .ok (.ladd, 1) := by decide +kernel
theorem dJ13_bitCount_95d88_40 : decode cJ13_bitCount_95d88 40 = .ok (.lstore_n 0, 1) := by decide +kernel
theorem dJ13_bitCount_95d88_41 : decode cJ13_bitCount_95d88 41 = .ok (.lload_n 0, 1) := by decide +kernel
theorem dJ13_bitCount_95d88_42 : decode cJ13_bitCount_95d88 42 = .ok (.lload_n 0, 1) := by decide +kernel
theorem dJ13_bitCount_95d88_43 : decode cJ13_bitCount_95d88 43 = .ok (.bipush 16, 2) := by decide +kernel
theorem dJ13_bitCount_95d88_45 : decode cJ13_bitCount_95d88 45 = .ok (.lushr, 1) := by decide +kernel
theorem dJ13_bitCount_95d88_46 : decode cJ13_bitCount_95d88 46 = .ok (.ladd, 1) := by decide +kernel
theorem dJ13_bitCount_95d88_47 : decode cJ13_bitCount_95d88 47 = .ok (.lstore_n 0, 1) := by decide +kernel
theorem dJ13_bitCount_95d88_48 : decode cJ13_bitCount_95d88 48 = .ok (.lload_n 0, 1) := by decide +kernel
theorem dJ13_bitCount_95d88_49 : decode cJ13_bitCount_95d88 49 = .ok (.lload_n 0, 1) := by decide +kernel
theorem dJ13_bitCount_95d88_50 : decode cJ13_bitCount_95d88 50 = .ok (.bipush 32, 2) := by decide +kernel
theorem dJ13_bitCount_95d88_52 : decode cJ13_bitCount_95d88 52 = .ok (.lushr, 1) := by decide +kernel
theorem dJ13_bitCount_95d88_53 : decode cJ13_bitCount_95d88 53 = .ok (.ladd, 1) := by decide +kernel
theorem dJ13_bitCount_95d88_54 : decode cJ13_bitCount_95d88 54 = .ok (.lstore_n 0, 1) := by decide +kernel
theorem dJ13_bitCount_95d88_55 : decode cJ13_bitCount_95d88 55 = .ok (.lload_n 0, 1) := by decide +kernel
theorem dJ13_bitCount_95d88_56 : decode cJ13_bitCount_95d88 56 = .ok (.l2i, 1) := by decide +kernel
theorem dJ13_bitCount_95d88_57 : decode cJ13_bitCount_95d88 57 = .ok (.bipush 127, 2) := by decide +kernel
theorem dJ13_bitCount_95d88_59 : decode cJ13_bitCount_95d88 59 = .ok (.iand, 1) := by decide +kernel
theorem dJ13_bitCount_95d88_60 : decode cJ13_bitCount_95d88 60 = .ok (.ireturn, 1) := by decide +kernel
theorem dJ9_abs_0f7a4_0 : decode cJ9_abs_0f7a4 0 = .ok (.iload_n 0, 1) := by decide +kernel
theorem dJ9_abs_0f7a4_1 : decode cJ9_abs_0f7a4 1 = .ok (.ifCond .ge 8, 3) := by decide +kernel
theorem dJ9_abs_0f7a4_4 : decode cJ9_abs_0f7a4 4 = .ok (.iload_n 0, 1) := by decide +kernel
theorem dJ9_abs_0f7a4_5 : decode cJ9_abs_0f7a4 5 = .ok (.ineg, 1) := by decide +kernel
theorem dJ9_abs_0f7a4_6 : decode cJ9_abs_0f7a4 6 = .ok (.goto 4, 3) := by decide +kernel
theorem dJ9_abs_0f7a4_9 : decode cJ9_abs_0f7a4 9 = .ok (.iload_n 0, 1) := by decide +kernel
theorem dJ9_abs_0f7a4_10 : decode cJ9_abs_0f7a4 10 = .ok (.ireturn, 1) := by decide +kernel
theorem dJ9_max_7cf53_0 : decode cJ9_max_7cf53 0 = .ok (.iload_n 0, 1) := by decide +kernel
theorem dJ9_max_7cf53_1 : decode cJ9_max_7cf53 1 = .ok (.iload_n 1, 1) := by decide +kernel
theorem dJ9_max_7cf53_2 : decode cJ9_max_7cf53 2 = .ok (.if_icmp .lt 7, 3) := by decide +kernel
theorem dJ9_max_7cf53_5 : decode cJ9_max_7cf53 5 = .ok (.iload_n 0, 1) := by decide +kernel
theorem dJ9_max_7cf53_6 : decode cJ9_max_7cf53 6 = .ok (.goto 4, 3) := by decide +kernel
theorem dJ9_max_7cf53_9 : decode cJ9_max_7cf53 9 = .ok (.iload_n 1, 1) := by decide +kernel
theorem dJ9_max_7cf53_10 : decode cJ9_max_7cf53 10 = .ok (.ireturn, 1) := by decide +kernel
theorem dJ9_min_7cf53_0 : decode cJ9_min_7cf53 0 = .ok (.iload_n 0, 1) := by decide +kernel
theorem dJ9_min_7cf53_1 : decode cJ9_min_7cf53 1 = .ok (.iload_n 1, 1) := by decide +kernel
theorem dJ9_min_7cf53_2 : decode cJ9_min_7cf53 2 = .ok (.if_icmp .gt 7, 3) := by decide +kernel
theorem dJ9_min_7cf53_5 : decode cJ9_min_7cf53 5 = .ok (.iload_n 0, 1) := by decide +kernel
theorem dJ9_min_7cf53_6 : decode cJ9_min_7cf53 6 = .ok (.goto 4, 3) := by decide +kernel
theorem dJ9_min_7cf53_9 : decode cJ9_min_7cf53 9 = .ok (.iload_n 1, 1) := by decide +kernel
theorem dJ9_min_7cf53_10 : decode cJ9_min_7cf53 10 = .ok (.ireturn, 1) := by decide +kernel
theorem dJ0_length_8abf5_0 : decode cJ0_length_8abf5 0 = .ok (.aload_n 0, 1) := by decide +kernel
theorem dJ0_length_8abf5_1 : decode cJ0_length_8abf5 1 = .ok (.getfield 9, 3) := by decide +kernel
theorem dJ0_length_8abf5_4 : decode cJ0_length_8abf5 4 = .ok (.arraylength, 1) := by decide +kernel
theorem dJ0_length_8abf5_5 : decode cJ0_length_8abf5 5 = .ok (.aload_n 0, 1) := by decide +kernel
theorem dJ0_length_8abf5_6 : decode cJ0_length_8abf5 6 = .ok (.invokevirtual 335, 3) := by decide +kernel
theorem dJ0_length_8abf5_9 : decode cJ0_length_8abf5 9 = .ok (.ishr, 1) := by decide +kernel
theorem dJ0_length_8abf5_10 : decode cJ0_length_8abf5 10 = .ok (.ireturn, 1) := by decide +kernel
theorem dJ0_charAt_5068e_0 : decode cJ0_charAt_5068e 0 = .ok (.aload_n 0, 1) := by decide +kernel
theorem dJ0_charAt_5068e_1 : decode cJ0_charAt_5068e 1 = .ok (.invokevirtual 492, 3) := by decide +kernel
theorem dJ0_charAt_5068e_4 : decode cJ0_charAt_5068e 4 = .ok (.ifCond .eq 12, 3) := by decide +kernel
theorem dJ0_charAt_5068e_7 : decode cJ0_charAt_5068e 7 = .ok (.aload_n 0, 1) := by decide +kernel
theorem dJ0_charAt_5068e_8 : decode cJ0_charAt_5068e 8 = .ok (.getfield 9, 3) := by decide +kernel
theorem dJ0_charAt_5068e_11 : decode cJ0_charAt_5068e 11 = .ok (.iload_n 1, 1) := by decide +kernel
theorem dJ0_charAt_5068e_12 : decode cJ0_charAt_5068e 12 = .ok (.invokestatic 495, 3) := by decide +kernel
theorem dJ0_charAt_5068e_15 : decode cJ0_charAt_5068e 15 = .ok (.ireturn, 1) := by decide +kernel
theorem dJ0_charAt_5068e_16 : decode cJ0_charAt_5068e 16 = .ok (.aload_n 0, 1) := by decide +kernel
theorem dJ0_charAt_5068e_17 : decode cJ0_charAt_5068e 17 = .ok (.getfield 9, 3) := by decide +kernel
theorem dJ0_charAt_5068e_20 : decode cJ0_charAt_5068e 20 = .ok (.iload_n 1, 1) := by decide +kernel
theorem dJ0_charAt_5068e_21 : decode cJ0_charAt_5068e 21 = .ok (.invokestatic 498, 3) := by decide +kernel
theorem dJ0_charAt_5068e_24 : decode cJ0_charAt_5068e 24 = .ok (.ireturn, 1) := by decide +kernel
theorem dJ0_coder_7d493_0 : decode cJ0_coder_7d493 0 = .ok (.getstatic 38, 3) := by decide +kernel
theorem dJ0_coder_7d493_3 : decode cJ0_coder_7d493 3 = .ok (.ifCond .eq 10, 3) := by decide +kernel
theorem dJ0_coder_7d493_6 : decode cJ0_coder_7d493 6 = .ok (.aload_n 0, 1) := by decide +kernel
theorem dJ0_coder_7d493_7 : decode cJ0_coder_7d493 7 = .ok (.getfield 15, 3) := by decide +kernel
theorem dJ0_coder_7d493_10 : decode cJ0_coder_7d493 10 = .ok (.goto 4, 3) := by decide +kernel
theorem dJ0_coder_7d493_13 : decode cJ0_coder_7d493 13 = .ok (.iconst 1, 1) := by decide +kernel
theorem dJ0_coder_7d493_14 : decode cJ0_coder_7d493 14 = .ok (.ireturn, 1) := by decide +kernel
theorem dJ0_isLatin1_aae02_0 : decode cJ0_isLatin1_aae02 0 = .ok (.getstatic 38, 3) := by decide +kernel
theorem dJ0_isLatin1_aae02_3 : decode cJ0_isLatin1_aae02 3 = .ok (.ifCond .eq 14, 3) := by decide +kernel
theorem dJ0_isLatin1_aae02_6 : decode cJ0_isLatin1_aae02 6 = .ok (.aload_n 0, 1) := by decide +kernel
theorem dJ0_isLatin1_aae02_7 : decode cJ0_isLatin1_aae02 7 = .ok (.getfield 15, 3) := by decide +kernel
theorem dJ0_isLatin1_aae02_10 : decode cJ0_isLatin1_aae02 10 = .ok (.ifCond .ne 7, 3) := by decide +kernel
theorem dJ0_isLatin1_aae02_13 : decode cJ0_isLatin1_aae02 13 = .ok (.iconst 1, 1) := by decide +kernel
theorem dJ0_isLatin1_aae02_14 : decode cJ0_isLatin1_aae02 14 = .ok (.goto 4, 3) := by decide +kernel
theorem dJ0_isLatin1_aae02_17 : decode cJ0_isLatin1_aae02 17 = .ok (.iconst 0, 1) := by decide +kernel
theorem dJ0_isLatin1_aae02_18 : decode cJ0_isLatin1_aae02 18 = .ok (.ireturn, 1) := by decide +kernel
theorem dJ0_checkIndex_df160_0 : decode cJ0_checkIndex_df160 0 = .ok (.iload_n 0, 1) := by decide +kernel
theorem dJ0_checkIndex_df160_1 : decode cJ0_checkIndex_df160 1 = .ok (.iload_n 1, 1) := by decide +kernel
theorem dJ0_checkIndex_df160_2 : decode cJ0_checkIndex_df160 2 = .ok (.getstatic 1053, 3) := by decide +kernel
theorem dJ0_checkIndex_df160_5 : decode cJ0_checkIndex_df160 5 = .ok (.invokestatic 1059, 3) := by decide +kernel
theorem dJ0_checkIndex_df160_8 : decode cJ0_checkIndex_df160 8 = .ok (.pop, 1) := by decide +kernel
theorem dJ0_checkIndex_df160_9 : decode cJ0_checkIndex_df160 9 = .ok (.return_, 1) := by decide +kernel
theorem dJ1_charAt_3b067_0 : decode cJ1_charAt_3b067 0 = .ok (.iload_n 1, 1) := by decide +kernel
theorem dJ1_charAt_3b067_1 : decode cJ1_charAt_3b067 1 = .ok (.aload_n 0, 1) := by decide +kernel
theorem dJ1_charAt_3b067_2 : decode cJ1_charAt_3b067 2 = .ok (.arraylength, 1) := by decide +kernel
theorem dJ1_charAt_3b067_3 : decode cJ1_charAt_3b067 3 = .ok (.invokestatic 9, 3) := by decide +kernel
theorem dJ1_charAt_3b067_6 : decode cJ1_charAt_3b067 6 = .ok (.aload_n 0, 1) := by decide +kernel
theorem dJ1_charAt_3b067_7 : decode cJ1_charAt_3b067 7 = .ok (.iload_n 1, 1) := by decide +kernel
theorem dJ1_charAt_3b067_8 : decode cJ1_charAt_3b067 8 = .ok (.baload, 1) := by decide +kernel
theorem dJ1_charAt_3b067_9 : decode cJ1_charAt_3b067 9 = .ok (.sipush 255, 3) := by decide +kernel
theorem dJ1_charAt_3b067_12 : decode cJ1_charAt_3b067 12 = .ok (.iand, 1) := by decide +kernel
theorem dJ1_charAt_3b067_13 : decode cJ1_charAt_3b067 13 = .ok (.i2c, 1) := by decide +kernel
theorem dJ1_charAt_3b067_14 : decode cJ1_charAt_3b067 14 = .ok (.ireturn, 1) := by decide +kernel
theorem dJ2_getChar_3b067_0 : decode cJ2_getChar_3b067 0 = .ok (.getstatic 44, 3) := by decide +kernel
theorem dJ2_getChar_3b067_3 : decode cJ2_getChar_3b067 3 = .ok (.ifCond .ne 25, 3) := by decide +kernel
theorem dJ2_getChar_3b067_6 : decode cJ2_getChar_3b067 6 = .ok (.iload_n 1, 1) := by decide +kernel
theorem dJ2_getChar_3b067_7 : decode cJ2_getChar_3b067 7 = .ok (.ifCond .lt 11, 3) := by decide +kernel
theorem dJ2_getChar_3b067_10 : decode cJ2_getChar_3b067 10 = .ok (.iload_n 1, 1) := by decide +kernel
theorem dJ2_getChar_3b067_11 : decode cJ2_getChar_3b067 11 = .ok (.aload_n 0, 1) := by decide +kernel
theorem dJ2_getChar_3b067_12 : decode cJ2_getChar_3b067 12 = .ok (.invokestatic 48, 3) := by decide +kernel
theorem dJ2_getChar_3b067_15 : decode cJ2_getChar_3b067 15 = .ok (.if_icmp .lt 13, 3) := by decide +kernel
theorem dJ2_getChar_3b067_18 : decode cJ2_getChar_3b067 18 = .ok (.new 52, 3) := by decide +kernel
theorem dJ2_getChar_3b067_21 : decode cJ2_getChar_3b067 21 = .ok (.dup, 1) := by decide +kernel
theorem dJ2_getChar_3b067_22 : decode cJ2_getChar_3b067 22 = .ok (.ldc 54, 2) := by decide +kernel
theorem dJ2_getChar_3b067_24 : decode cJ2_getChar_3b067 24 = .ok (.invokespecial 56, 3) := by decide +kernel
theorem dJ2_getChar_3b067_27 : decode cJ2_getChar_3b067 27 = .ok (.athrow, 1) := by decide +kernel
theorem dJ2_getChar_3b067_28 : decode cJ2_getChar_3b067 28 = .ok (.iload_n 1, 1) := by decide +kernel
theorem dJ2_getChar_3b067_29 : decode cJ2_getChar_3b067 29 = .ok (.iconst 1, 1) := by decide +kernel
theorem dJ2_getChar_3b067_30 : decode cJ2_getChar_3b067 30 = .ok (.ishl, 1) := by decide +kernel
theorem dJ2_getChar_3b067_31 : decode cJ2_getChar_3b067 31 = .ok (.istore_n 1, 1) := by decide +kernel
theorem dJ2_getChar_3b067_32 : decode cJ2_getChar_3b067 32 = .ok (.aload_n 0, 1) := by decide +kernel
theorem dJ2_getChar_3b067_33 : decode cJ2_getChar_3b067 33 = .ok (.iload_n 1, 1) := by decide +kernel
theorem dJ2_getChar_3b067_34 : decode cJ2_getChar_3b067 34 = .ok (.iinc 1 1, 3) := by decide +kernel
theorem dJ2_getChar_3b067_37 : decode cJ2_getChar_3b067 37 = .ok (.baload, 1) := by decide +kernel
theorem dJ2_getChar_3b067_38 : decode cJ2_getChar_3b067 38 = .ok (.sipush 255, 3) := by decide +kernel
theorem dJ2_getChar_3b067_41 : decode cJ2_getChar_3b067 41 = .ok (.iand, 1) := by decide +kernel
theorem dJ2_getChar_3b067_42 : decode cJ2_getChar_3b067 42 = .ok (.getstatic 59, 3) := by decide +kernel
theorem dJ2_getChar_3b067_45 : decode cJ2_getChar_3b067 45 = .ok (.ishl, 1) := by decide +kernel
theorem dJ2_getChar_3b067_46 : decode cJ2_getChar_3b067 46 = .ok (.aload_n 0, 1) := by decide +kernel
theorem dJ2_getChar_3b067_47 : decode cJ2_getChar_3b067 47 = .ok (.iload_n 1, 1) := by decide +kernel
theorem dJ2_getChar_3b067_48 : decode cJ2_getChar_3b067 48 = .ok (.baload, 1) := by decide +kernel
theorem dJ2_getChar_3b067_49 : decode cJ2_getChar_3b067 49 = .ok (.sipush 255, 3) := by decide +kernel
theorem dJ2_getChar_3b067_52 : decode cJ2_getChar_3b067 52 = .ok (.iand, 1) := by decide +kernel
theorem dJ2_getChar_3b067_53 : decode cJ2_getChar_3b067 53 = .ok (.getstatic 63, 3) := by decide +kernel
theorem dJ2_getChar_3b067_56 : decode cJ2_getChar_3b067 56 = .ok (.ishl, 1) := by decide +kernel
theorem dJ2_getChar_3b067_57 : decode cJ2_getChar_3b067 57 = .ok (.ior, 1) := by decide +kernel
theorem dJ2_getChar_3b067_58 : decode cJ2_getChar_3b067 58 = .ok (.i2c, 1) := by decide +kernel
theorem dJ2_getChar_3b067_59 : decode cJ2_getChar_3b067 59 = .ok (.ireturn, 1) := by decide +kernel
theorem dJ2_length_9d52b_0 : decode cJ2_length_9d52b 0 = .ok (.aload_n 0, 1) := by decide +kernel
theorem dJ2_length_9d52b_1 : decode cJ2_length_9d52b 1 = .ok (.arraylength, 1) := by decide +kernel
theorem dJ2_length_9d52b_2 : decode cJ2_length_9d52b 2 = .ok (.iconst 1, 1) := by decide +kernel
theorem dJ2_length_9d52b_3 : decode cJ2_length_9d52b 3 = .ok (.ishr, 1) := by decide +kernel
theorem dJ2_length_9d52b_4 : decode cJ2_length_9d52b 4 = .ok (.ireturn, 1) := by decide +kernel
theorem dJ2_charAt_3b067_0 : decode cJ2_charAt_3b067 0 = .ok (.iload_n 1, 1) := by decide +kernel
theorem dJ2_charAt_3b067_1 : decode cJ2_charAt_3b067 1 = .ok (.aload_n 0, 1) := by decide +kernel
theorem dJ2_charAt_3b067_2 : decode cJ2_charAt_3b067 2 = .ok (.invokestatic 67, 3) := by decide +kernel
theorem dJ2_charAt_3b067_5 : decode cJ2_charAt_3b067 5 = .ok (.aload_n 0, 1) := by decide +kernel
theorem dJ2_charAt_3b067_6 : decode cJ2_charAt_3b067 6 = .ok (.iload_n 1, 1) := by decide +kernel
theorem dJ2_charAt_3b067_7 : decode cJ2_charAt_3b067 7 = .ok (.invokestatic 71, 3) := by decide +kernel
theorem dJ2_charAt_3b067_10 : decode cJ2_charAt_3b067 10 = .ok (.ireturn, 1) := by decide +kernel
theorem dJ2_checkIndex_2214a_0 : decode cJ2_checkIndex_2214a 0 = .ok (.iload_n 0, 1) := by decide +kernel
theorem dJ2_checkIndex_2214a_1 : decode cJ2_checkIndex_2214a 1 = .ok (.aload_n 1, 1) := by decide +kernel
theorem dJ2_checkIndex_2214a_2 : decode cJ2_checkIndex_2214a 2 = .ok (.invokestatic 48, 3) := by decide +kernel
theorem dJ2_checkIndex_2214a_5 : decode cJ2_checkIndex_2214a 5 = .ok (.invokestatic 414, 3) := by decide +kernel
theorem dJ2_checkIndex_2214a_8 : decode cJ2_checkIndex_2214a 8 = .ok (.return_, 1) := by decide +kernel
theorem dJ7_fill_53178_0 : decode cJ7_fill_53178 0 = .ok (.iconst 0, 1) := by decide +kernel
theorem dJ7_fill_53178_1 : decode cJ7_fill_53178 1 = .ok (.istore_n 2, 1) := by decide +kernel
theorem dJ7_fill_53178_2 : decode cJ7_fill_53178 2 = .ok (.aload_n 0, 1) := by decide +kernel
theorem dJ7_fill_53178_3 : decode cJ7_fill_53178 3 = .ok (.arraylength, 1) := by decide +kernel
theorem dJ7_fill_53178_4 : decode cJ7_fill_53178 4 = .ok (.istore_n 3, 1) := by decide +kernel
theorem dJ7_fill_53178_5 : decode cJ7_fill_53178 5 = .ok (.iload_n 2, 1) := by decide +kernel
theorem dJ7_fill_53178_6 : decode cJ7_fill_53178 6 = .ok (.iload_n 3, 1) := by decide +kernel
theorem dJ7_fill_53178_7 : decode cJ7_fill_53178 7 = .ok (.if_icmp .ge 13, 3) := by decide +kernel
theorem dJ7_fill_53178_10 : decode cJ7_fill_53178 10 = .ok (.aload_n 0, 1) := by decide +kernel
theorem dJ7_fill_53178_11 : decode cJ7_fill_53178 11 = .ok (.iload_n 2, 1) := by decide +kernel
theorem dJ7_fill_53178_12 : decode cJ7_fill_53178 12 = .ok (.iload_n 1, 1) := by decide +kernel
theorem dJ7_fill_53178_13 : decode cJ7_fill_53178 13 = .ok (.iastore, 1) := by decide +kernel
theorem dJ7_fill_53178_14 : decode cJ7_fill_53178 14 = .ok (.iinc 2 1, 3) := by decide +kernel
theorem dJ7_fill_53178_17 : decode cJ7_fill_53178 17 = .ok (.goto (-12), 3) := by decide +kernel
theorem dJ7_fill_53178_20 : decode cJ7_fill_53178 20 = .ok (.return_, 1) := by decide +kernel
theorem dJ3_checkIndex_8e157_0 : decode cJ3_checkIndex_8e157 0 = .ok (.iload_n 0, 1) := by decide +kernel
theorem dJ3_checkIndex_8e157_1 : decode cJ3_checkIndex_8e157 1 = .ok (.ifCond .lt 8, 3) := by decide +kernel
theorem dJ3_checkIndex_8e157_4 : decode cJ3_checkIndex_8e157 4 = .ok (.iload_n 0, 1) := by decide +kernel
theorem dJ3_checkIndex_8e157_5 : decode cJ3_checkIndex_8e157 5 = .ok (.iload_n 1, 1) := by decide +kernel
theorem dJ3_checkIndex_8e157_6 : decode cJ3_checkIndex_8e157 6 = .ok (.if_icmp .lt 10, 3) := by decide +kernel
theorem dJ3_checkIndex_8e157_9 : decode cJ3_checkIndex_8e157 9 = .ok (.aload_n 2, 1) := by decide +kernel
theorem dJ3_checkIndex_8e157_10 : decode cJ3_checkIndex_8e157 10 = .ok (.iload_n 0, 1) := by decide +kernel
theorem dJ3_checkIndex_8e157_11 : decode cJ3_checkIndex_8e157 11 = .ok (.iload_n 1, 1) := by decide +kernel
theorem dJ3_checkIndex_8e157_12 : decode cJ3_checkIndex_8e157 12 = .ok (.invokestatic 95, 3) := by decide +kernel
theorem dJ3_checkIndex_8e157_15 : decode cJ3_checkIndex_8e157 15 = .ok (.athrow, 1) := by decide +kernel
theorem dJ3_checkIndex_8e157_16 : decode cJ3_checkIndex_8e157 16 = .ok (.iload_n 0, 1) := by decide +kernel
theorem dJ3_checkIndex_8e157_17 : decode cJ3_checkIndex_8e157 17 = .ok (.ireturn, 1) := by decide +kernel
theorem dL_house_0 : decode cL_house 0 = .ok (.aload_n 2, 1) := by decide +kernel
theorem dL_house_1 : decode cL_house 1 = .ok (.iconst 0, 1) := by decide +kernel
theorem dL_house_2 : decode cL_house 2 = .ok (.aload_n 0, 1) := by decide +kernel
theorem dL_house_3 : decode cL_house 3 = .ok (.iload_n 1, 1) := by decide +kernel
theorem dL_house_4 : decode cL_house 4 = .ok (.invokevirtual 7, 3) := by decide +kernel
theorem dL_house_7 : decode cL_house 7 = .ok (.i2l, 1) := by decide +kernel
theorem dL_house_8 : decode cL_house 8 = .ok (.lastore, 1) := by decide +kernel
theorem dL_house_9 : decode cL_house 9 = .ok (.goto 6, 3) := by decide +kernel
theorem dL_house_12 : decode cL_house 12 = .ok (.astore_n 3, 1) := by decide +kernel
theorem dL_house_13 : decode cL_house 13 = .ok (.iconst 1, 1) := by decide +kernel
theorem dL_house_14 : decode cL_house 14 = .ok (.ireturn, 1) := by decide +kernel
theorem dL_house_15 : decode cL_house 15 = .ok (.iconst 0, 1) := by decide +kernel
theorem dL_house_16 : decode cL_house 16 = .ok (.ireturn, 1) := by decide +kernel
theorem dL_pane_0 : decode cL_pane 0 = .ok (.aload_n 3, 1) := by decide +kernel
theorem dL_pane_1 : decode cL_pane 1 = .ok (.iconst 0, 1) := by decide +kernel
theorem dL_pane_2 : decode cL_pane 2 = .ok (.aload_n 0, 1) := by decide +kernel
theorem dL_pane_3 : decode cL_pane 3 = .ok (.iload_n 1, 1) := by decide +kernel
theorem dL_pane_4 : decode cL_pane 4 = .ok (.iload_n 2, 1) := by decide +kernel
theorem dL_pane_5 : decode cL_pane 5 = .ok (.invokevirtual 15, 3) := by decide +kernel
theorem dL_pane_8 : decode cL_pane 8 = .ok (.i2l, 1) := by decide +kernel
theorem dL_pane_9 : decode cL_pane 9 = .ok (.lastore, 1) := by decide +kernel
theorem dL_pane_10 : decode cL_pane 10 = .ok (.goto 11, 3) := by decide +kernel
theorem dL_pane_13 : decode cL_pane 13 = .ok (.astore 4, 2) := by decide +kernel
theorem dL_pane_15 : decode cL_pane 15 = .ok (.iconst 1, 1) := by decide +kernel
theorem dL_pane_16 : decode cL_pane 16 = .ok (.ireturn, 1) := by decide +kernel
theorem dL_pane_17 : decode cL_pane 17 = .ok (.astore 4, 2) := by decide +kernel
theorem dL_pane_19 : decode cL_pane 19 = .ok (.iconst 2, 1) := by decide +kernel
theorem dL_pane_20 : decode cL_pane 20 = .ok (.ireturn, 1) := by decide +kernel
theorem dL_pane_21 : decode cL_pane 21 = .ok (.iconst 0, 1) := by decide +kernel
theorem dL_pane_22 : decode cL_pane 22 = .ok (.ireturn, 1) := by decide +kernel
theorem dL_kind_0 : decode cL_kind 0 = .ok (.aload_n 3, 1) := by decide +kernel
theorem dL_kind_1 : decode cL_kind 1 = .ok (.iconst 0, 1) := by decide +kernel
theorem dL_kind_2 : decode cL_kind 2 = .ok (.aload_n 0, 1) := by decide +kernel
theorem dL_kind_3 : decode cL_kind 3 = .ok (.iload_n 1, 1) := by decide +kernel
theorem dL_kind_4 : decode cL_kind 4 = .ok (.iload_n 2, 1) := by decide +kernel
theorem dL_kind_5 : decode cL_kind 5 = .ok (.invokevirtual 21, 3) := by decide +kernel
theorem dL_kind_8 : decode cL_kind 8 = .ok (.i2l, 1) := by decide +kernel
theorem dL_kind_9 : decode cL_kind 9 = .ok (.lastore, 1) := by decide +kernel
theorem dL_kind_10 : decode cL_kind 10 = .ok (.goto 11, 3) := by decide +kernel
theorem dL_kind_13 : decode cL_kind 13 = .ok (.astore 4, 2) := by decide +kernel
theorem dL_kind_15 : decode cL_kind 15 = .ok (.iconst 1, 1) := by decide +kernel
theorem dL_kind_16 : decode cL_kind 16 = .ok (.ireturn, 1) := by decide +kernel
theorem dL_kind_17 : decode cL_kind 17 = .ok (.astore 4, 2) := by decide +kernel
theorem dL_kind_19 : decode cL_kind 19 = .ok (.iconst 2, 1) := by decide +kernel
theorem dL_kind_20 : decode cL_kind 20 = .ok (.ireturn, 1) := by decide +kernel
theorem dL_kind_21 : decode cL_kind 21 = .ok (.iconst 0, 1) := by decide +kernel
theorem dL_kind_22 : decode cL_kind 22 = .ok (.ireturn, 1) := by decide +kernel
theorem dL_next_0 : decode cL_next 0 = .ok (.aload_n 2, 1) := by decide +kernel
theorem dL_next_1 : decode cL_next 1 = .ok (.iconst 0, 1) := by decide +kernel
theorem dL_next_2 : decode cL_next 2 = .ok (.aload_n 0, 1) := by decide +kernel
theorem dL_next_3 : decode cL_next 3 = .ok (.iload_n 1, 1) := by decide +kernel
theorem dL_next_4 : decode cL_next 4 = .ok (.invokevirtual 24, 3) := by decide +kernel
theorem dL_next_7 : decode cL_next 7 = .ok (.i2l, 1) := by decide +kernel
theorem dL_next_8 : decode cL_next 8 = .ok (.lastore, 1) := by decide +kernel
theorem dL_next_9 : decode cL_next 9 = .ok (.goto 6, 3) := by decide +kernel
theorem dL_next_12 : decode cL_next 12 = .ok (.astore_n 3, 1) := by decide +kernel
theorem dL_next_13 : decode cL_next 13 = .ok (.iconst 1, 1) := by decide +kernel
theorem dL_next_14 : decode cL_next 14 = .ok (.ireturn, 1) := by decide +kernel
theorem dL_next_15 : decode cL_next 15 = .ok (.iconst 0, 1) := by decide +kernel
theorem dL_next_16 : decode cL_next 16 = .ok (.ireturn, 1) := by decide +kernel
theorem dL_hated_0 : decode cL_hated 0 = .ok (.aload_n 2, 1) := by decide +kernel
theorem dL_hated_1 : decode cL_hated 1 = .ok (.iconst 0, 1) := by decide +kernel
theorem dL_hated_2 : decode cL_hated 2 = .ok (.aload_n 0, 1) := by decide +kernel
theorem dL_hated_3 : decode cL_hated 3 = .ok (.iload_n 1, 1) := by decide +kernel
theorem dL_hated_4 : decode cL_hated 4 = .ok (.invokevirtual 27, 3) := by decide +kernel
theorem dL_hated_7 : decode cL_hated 7 = .ok (.i2l, 1) := by decide +kernel
theorem dL_hated_8 : decode cL_hated 8 = .ok (.lastore, 1) := by decide +kernel
theorem dL_hated_9 : decode cL_hated 9 = .ok (.goto 6, 3) := by decide +kernel
theorem dL_hated_12 : decode cL_hated 12 = .ok (.astore_n 3, 1) := by decide +kernel
theorem dL_hated_13 : decode cL_hated 13 = .ok (.iconst 1, 1) := by decide +kernel
theorem dL_hated_14 : decode cL_hated 14 = .ok (.ireturn, 1) := by decide +kernel
theorem dL_hated_15 : decode cL_hated 15 = .ok (.iconst 0, 1) := by decide +kernel
theorem dL_hated_16 : decode cL_hated 16 = .ok (.ireturn, 1) := by decide +kernel
theorem dL_hang_0 : decode cL_hang 0 = .ok (.aload 4, 2) := by decide +kernel
theorem dL_hang_2 : decode cL_hang 2 = .ok (.iconst 0, 1) := by decide +kernel
theorem dL_hang_3 : decode cL_hang 3 = .ok (.aload_n 0, 1) := by decide +kernel
theorem dL_hang_4 : decode cL_hang 4 = .ok (.iload_n 1, 1) := by decide +kernel
theorem dL_hang_5 : decode cL_hang 5 = .ok (.iload_n 2, 1) := by decide +kernel
theorem dL_hang_6 : decode cL_hang 6 = .ok (.iload_n 3, 1) := by decide +kernel
theorem dL_hang_7 : decode cL_hang 7 = .ok (.invokevirtual 30, 3) := by decide +kernel
theorem dL_hang_10 : decode cL_hang 10 = .ok (.i2l, 1) := by decide +kernel
theorem dL_hang_11 : decode cL_hang 11 = .ok (.lastore, 1) := by decide +kernel
theorem dL_hang_12 : decode cL_hang 12 = .ok (.goto 11, 3) := by decide +kernel
theorem dL_hang_15 : decode cL_hang 15 = .ok (.astore 5, 2) := by decide +kernel
theorem dL_hang_17 : decode cL_hang 17 = .ok (.iconst 1, 1) := by decide +kernel
theorem dL_hang_18 : decode cL_hang 18 = .ok (.ireturn, 1) := by decide +kernel
theorem dL_hang_19 : decode cL_hang 19 = .ok (.astore 5, 2) := by decide +kernel
theorem dL_hang_21 : decode cL_hang 21 = .ok (.iconst 2, 1) := by decide +kernel
theorem dL_hang_22 : decode cL_hang 22 = .ok (.ireturn, 1) := by decide +kernel
theorem dL_hang_23 : decode cL_hang 23 = .ok (.iconst 0, 1) := by decide +kernel
theorem dL_hang_24 : decode cL_hang 24 = .ok (.ireturn, 1) := by decide +kernel
theorem dL_of_0 : decode cL_of 0 = .ok (.aload_n 3, 1) := by decide +kernel
theorem dL_of_1 : decode cL_of 1 = .ok (.iconst 0, 1) := by decide +kernel
theorem dL_of_2 : decode cL_of 2 = .ok (.aload_n 0, 1) := by decide +kernel
theorem dL_of_3 : decode cL_of 3 = .ok (.iload_n 1, 1) := by decide +kernel
theorem dL_of_4 : decode cL_of 4 = .ok (.iload_n 2, 1) := by decide +kernel
theorem dL_of_5 : decode cL_of 5 = .ok (.invokevirtual 34, 3) := by decide +kernel
theorem dL_of_8 : decode cL_of 8 = .ok (.i2l, 1) := by decide +kernel
theorem dL_of_9 : decode cL_of 9 = .ok (.lastore, 1) := by decide +kernel
theorem dL_of_10 : decode cL_of 10 = .ok (.goto 11, 3) := by decide +kernel
theorem dL_of_13 : decode cL_of 13 = .ok (.astore 4, 2) := by decide +kernel
theorem dL_of_15 : decode cL_of 15 = .ok (.iconst 1, 1) := by decide +kernel
theorem dL_of_16 : decode cL_of 16 = .ok (.ireturn, 1) := by decide +kernel
theorem dL_of_17 : decode cL_of 17 = .ok (.astore 4, 2) := by decide +kernel
theorem dL_of_19 : decode cL_of 19 = .ok (.iconst 2, 1) := by decide +kernel
theorem dL_of_20 : decode cL_of 20 = .ok (.ireturn, 1) := by decide +kernel
theorem dL_of_21 : decode cL_of 21 = .ok (.iconst 0, 1) := by decide +kernel
theorem dL_of_22 : decode cL_of 22 = .ok (.ireturn, 1) := by decide +kernel
theorem dL_light_0 : decode cL_light 0 = .ok (.aload_n 3, 1) := by decide +kernel
theorem dL_light_1 : decode cL_light 1 = .ok (.iconst 0, 1) := by decide +kernel
theorem dL_light_2 : decode cL_light 2 = .ok (.aload_n 0, 1) := by decide +kernel
theorem dL_light_3 : decode cL_light 3 = .ok (.iload_n 1, 1) := by decide +kernel
theorem dL_light_4 : decode cL_light 4 = .ok (.iload_n 2, 1) := by decide +kernel
theorem dL_light_5 : decode cL_light 5 = .ok (.invokevirtual 37, 3) := by decide +kernel
theorem dL_light_8 : decode cL_light 8 = .ok (.i2l, 1) := by decide +kernel
theorem dL_light_9 : decode cL_light 9 = .ok (.lastore, 1) := by decide +kernel
theorem dL_light_10 : decode cL_light 10 = .ok (.goto 11, 3) := by decide +kernel
theorem dL_light_13 : decode cL_light 13 = .ok (.astore 4, 2) := by decide +kernel
theorem dL_light_15 : decode cL_light 15 = .ok (.iconst 1, 1) := by decide +kernel
theorem dL_light_16 : decode cL_light 16 = .ok (.ireturn, 1) := by decide +kernel
theorem dL_light_17 : decode cL_light 17 = .ok (.astore 4, 2) := by decide +kernel
theorem dL_light_19 : decode cL_light 19 = .ok (.iconst 2, 1) := by decide +kernel
theorem dL_light_20 : decode cL_light 20 = .ok (.ireturn, 1) := by decide +kernel
theorem dL_light_21 : decode cL_light 21 = .ok (.iconst 0, 1) := by decide +kernel
theorem dL_light_22 : decode cL_light 22 = .ok (.ireturn, 1) := by decide +kernel
theorem dL_by_0 : decode cL_by 0 = .ok (.aload_n 3, 1) := by decide +kernel
theorem dL_by_1 : decode cL_by 1 = .ok (.iconst 0, 1) := by decide +kernel
theorem dL_by_2 : decode cL_by 2 = .ok (.aload_n 0, 1) := by decide +kernel
theorem dL_by_3 : decode cL_by 3 = .ok (.iload_n 1, 1) := by decide +kernel
theorem dL_by_4 : decode cL_by 4 = .ok (.iload_n 2, 1) := by decide +kernel
theorem dL_by_5 : decode cL_by 5 = .ok (.invokevirtual 40, 3) := by decide +kernel
theorem dL_by_8 : decode cL_by 8 = .ok (.i2l, 1) := by decide +kernel
theorem dL_by_9 : decode cL_by 9 = .ok (.lastore, 1) := by decide +kernel
theorem dL_by_10 : decode cL_by 10 = .ok (.goto 11, 3) := by decide +kernel
theorem dL_by_13 : decode cL_by 13 = .ok (.astore 4, 2) := by decide +kernel
theorem dL_by_15 : decode cL_by 15 = .ok (.iconst 1, 1) := by decide +kernel
theorem dL_by_16 : decode cL_by 16 = .ok (.ireturn, 1) := by decide +kernel
theorem dL_by_17 : decode cL_by 17 = .ok (.astore 4, 2) := by decide +kernel
theorem dL_by_19 : decode cL_by 19 = .ok (.iconst 2, 1) := by decide +kernel
theorem dL_by_20 : decode cL_by 20 = .ok (.ireturn, 1) := by decide +kernel
theorem dL_by_21 : decode cL_by 21 = .ok (.iconst 0, 1) := by decide +kernel
theorem dL_by_22 : decode cL_by 22 = .ok (.ireturn, 1) := by decide +kernel
theorem dL_dark_0 : decode cL_dark 0 = .ok (.aload_n 2, 1) := by decide +kernel
theorem dL_dark_1 : decode cL_dark 1 = .ok (.iconst 0, 1) := by decide +kernel
theorem dL_dark_2 : decode cL_dark 2 = .ok (.aload_n 0, 1) := by decide +kernel
theorem dL_dark_3 : decode cL_dark 3 = .ok (.iload_n 1, 1) := by decide +kernel
theorem dL_dark_4 : decode cL_dark 4 = .ok (.invokevirtual 43, 3) := by decide +kernel
theorem dL_dark_7 : decode cL_dark 7 = .ok (.i2l, 1) := by decide +kernel
theorem dL_dark_8 : decode cL_dark 8 = .ok (.lastore, 1) := by decide +kernel
theorem dL_dark_9 : decode cL_dark 9 = .ok (.goto 6, 3) := by decide +kernel
theorem dL_dark_12 : decode cL_dark 12 = .ok (.astore_n 3, 1) := by decide +kernel
theorem dL_dark_13 : decode cL_dark 13 = .ok (.iconst 1, 1) := by decide +kernel
theorem dL_dark_14 : decode cL_dark 14 = .ok (.ireturn, 1) := by decide +kernel
theorem dL_dark_15 : decode cL_dark 15 = .ok (.iconst 0, 1) := by decide +kernel
theorem dL_dark_16 : decode cL_dark 16 = .ok (.ireturn, 1) := by decide +kernel
theorem dL_out_0 : decode cL_out 0 = .ok (.aload_n 3, 1) := by decide +kernel
theorem dL_out_1 : decode cL_out 1 = .ok (.iconst 0, 1) := by decide +kernel
theorem dL_out_2 : decode cL_out 2 = .ok (.aload_n 0, 1) := by decide +kernel
theorem dL_out_3 : decode cL_out 3 = .ok (.iload_n 1, 1) := by decide +kernel
theorem dL_out_4 : decode cL_out 4 = .ok (.iload_n 2, 1) := by decide +kernel
theorem dL_out_5 : decode cL_out 5 = .ok (.invokevirtual 46, 3) := by decide +kernel
theorem dL_out_8 : decode cL_out 8 = .ok (.i2l, 1) := by decide +kernel
theorem dL_out_9 : decode cL_out 9 = .ok (.lastore, 1) := by decide +kernel
theorem dL_out_10 : decode cL_out 10 = .ok (.goto 11, 3) := by decide +kernel
theorem dL_out_13 : decode cL_out 13 = .ok (.astore 4, 2) := by decide +kernel
theorem dL_out_15 : decode cL_out 15 = .ok (.iconst 1, 1) := by decide +kernel
theorem dL_out_16 : decode cL_out 16 = .ok (.ireturn, 1) := by decide +kernel
theorem dL_out_17 : decode cL_out 17 = .ok (.astore 4, 2) := by decide +kernel
theorem dL_out_19 : decode cL_out 19 = .ok (.iconst 2, 1) := by decide +kernel
theorem dL_out_20 : decode cL_out 20 = .ok (.ireturn, 1) := by decide +kernel
theorem dL_out_21 : decode cL_out 21 = .ok (.iconst 0, 1) := by decide +kernel
theorem dL_out_22 : decode cL_out 22 = .ok (.ireturn, 1) := by decide +kernel
theorem dL_spare_0 : decode cL_spare 0 = .ok (.aload_n 2, 1) := by decide +kernel
theorem dL_spare_1 : decode cL_spare 1 = .ok (.iconst 0, 1) := by decide +kernel
theorem dL_spare_2 : decode cL_spare 2 = .ok (.aload_n 0, 1) := by decide +kernel
theorem dL_spare_3 : decode cL_spare 3 = .ok (.iload_n 1, 1) := by decide +kernel
theorem dL_spare_4 : decode cL_spare 4 = .ok (.invokevirtual 49, 3) := by decide +kernel
theorem dL_spare_7 : decode cL_spare 7 = .ok (.i2l, 1) := by decide +kernel
theorem dL_spare_8 : decode cL_spare 8 = .ok (.lastore, 1) := by decide +kernel
theorem dL_spare_9 : decode cL_spare 9 = .ok (.goto 6, 3) := by decide +kernel
theorem dL_spare_12 : decode cL_spare 12 = .ok (.astore_n 3, 1) := by decide +kernel
theorem dL_spare_13 : decode cL_spare 13 = .ok (.iconst 1, 1) := by decide +kernel
theorem dL_spare_14 : decode cL_spare 14 = .ok (.ireturn, 1) := by decide +kernel
theorem dL_spare_15 : decode cL_spare 15 = .ok (.iconst 0, 1) := by decide +kernel
theorem dL_spare_16 : decode cL_spare 16 = .ok (.ireturn, 1) := by decide +kernel
theorem dL_angry_0 : decode cL_angry 0 = .ok (.aload_n 2, 1) := by decide +kernel
theorem dL_angry_1 : decode cL_angry 1 = .ok (.iconst 0, 1) := by decide +kernel
theorem dL_angry_2 : decode cL_angry 2 = .ok (.aload_n 0, 1) := by decide +kernel
theorem dL_angry_3 : decode cL_angry 3 = .ok (.iload_n 1, 1) := by decide +kernel
theorem dL_angry_4 : decode cL_angry 4 = .ok (.invokevirtual 52, 3) := by decide +kernel
theorem dL_angry_7 : decode cL_angry 7 = .ok (.i2l, 1) := by decide +kernel
theorem dL_angry_8 : decode cL_angry 8 = .ok (.lastore, 1) := by decide +kernel
theorem dL_angry_9 : decode cL_angry 9 = .ok (.goto 6, 3) := by decide +kernel
theorem dL_angry_12 : decode cL_angry 12 = .ok (.astore_n 3, 1) := by decide +kernel
theorem dL_angry_13 : decode cL_angry 13 = .ok (.iconst 1, 1) := by decide +kernel
theorem dL_angry_14 : decode cL_angry 14 = .ok (.ireturn, 1) := by decide +kernel
theorem dL_angry_15 : decode cL_angry 15 = .ok (.iconst 0, 1) := by decide +kernel
theorem dL_angry_16 : decode cL_angry 16 = .ok (.ireturn, 1) := by decide +kernel
theorem dL_lights_0 : decode cL_lights 0 = .ok (.aload_n 3, 1) := by decide +kernel
theorem dL_lights_1 : decode cL_lights 1 = .ok (.iconst 0, 1) := by decide +kernel
theorem dL_lights_2 : decode cL_lights 2 = .ok (.aload_n 0, 1) := by decide +kernel
theorem dL_lights_3 : decode cL_lights 3 = .ok (.iload_n 1, 1) := by decide +kernel
theorem dL_lights_4 : decode cL_lights 4 = .ok (.iload_n 2, 1) := by decide +kernel
theorem dL_lights_5 : decode cL_lights 5 = .ok (.invokevirtual 55, 3) := by decide +kernel
theorem dL_lights_8 : decode cL_lights 8 = .ok (.ifCond .eq 7, 3) := by decide +kernel
theorem dL_lights_11 : decode cL_lights 11 = .ok (.lconst 1, 1) := by decide +kernel
theorem dL_lights_12 : decode cL_lights 12 = .ok (.goto 4, 3) := by decide +kernel
theorem dL_lights_15 : decode cL_lights 15 = .ok (.lconst 0, 1) := by decide +kernel
theorem dL_lights_16 : decode cL_lights 16 = .ok (.lastore, 1) := by decide +kernel
theorem dL_lights_17 : decode cL_lights 17 = .ok (.goto 7, 3) := by decide +kernel
theorem dL_lights_20 : decode cL_lights 20 = .ok (.astore 4, 2) := by decide +kernel
theorem dL_lights_22 : decode cL_lights 22 = .ok (.iconst 1, 1) := by decide +kernel
theorem dL_lights_23 : decode cL_lights 23 = .ok (.ireturn, 1) := by decide +kernel
theorem dL_lights_24 : decode cL_lights 24 = .ok (.iconst 0, 1) := by decide +kernel
theorem dL_lights_25 : decode cL_lights 25 = .ok (.ireturn, 1) := by decide +kernel
theorem dL_best_0 : decode cL_best 0 = .ok (.aload_n 2, 1) := by decide +kernel
theorem dL_best_1 : decode cL_best 1 = .ok (.iconst 0, 1) := by decide +kernel
theorem dL_best_2 : decode cL_best 2 = .ok (.aload_n 0, 1) := by decide +kernel
theorem dL_best_3 : decode cL_best 3 = .ok (.iload_n 1, 1) := by decide +kernel
theorem dL_best_4 : decode cL_best 4 = .ok (.invokevirtual 59, 3) := by decide +kernel
theorem dL_best_7 : decode cL_best 7 = .ok (.i2l, 1) := by decide +kernel
theorem dL_best_8 : decode cL_best 8 = .ok (.lastore, 1) := by decide +kernel
theorem dL_best_9 : decode cL_best 9 = .ok (.goto 6, 3) := by decide +kernel
theorem dL_best_12 : decode cL_best 12 = .ok (.astore_n 3, 1) := by decide +kernel
theorem dL_best_13 : decode cL_best 13 = .ok (.iconst 1, 1) := by decide +kernel
theorem dL_best_14 : decode cL_best 14 = .ok (.ireturn, 1) := by decide +kernel
theorem dL_best_15 : decode cL_best 15 = .ok (.iconst 0, 1) := by decide +kernel
theorem dL_best_16 : decode cL_best 16 = .ok (.ireturn, 1) := by decide +kernel
theorem dL_bright_0 : decode cL_bright 0 = .ok (.aload_n 3, 1) := by decide +kernel
theorem dL_bright_1 : decode cL_bright 1 = .ok (.iconst 0, 1) := by decide +kernel
theorem dL_bright_2 : decode cL_bright 2 = .ok (.aload_n 0, 1) := by decide +kernel
theorem dL_bright_3 : decode cL_bright 3 = .ok (.iload_n 1, 1) := by decide +kernel
theorem dL_bright_4 : decode cL_bright 4 = .ok (.iload_n 2, 1) := by decide +kernel
theorem dL_bright_5 : decode cL_bright 5 = .ok (.invokevirtual 62, 3) := by decide +kernel
theorem dL_bright_8 : decode cL_bright 8 = .ok (.i2l, 1) := by decide +kernel
theorem dL_bright_9 : decode cL_bright 9 = .ok (.lastore, 1) := by decide +kernel
theorem dL_bright_10 : decode cL_bright 10 = .ok (.goto 11, 3) := by decide +kernel
theorem dL_bright_13 : decode cL_bright 13 = .ok (.astore 4, 2) := by decide +kernel
theorem dL_bright_15 : decode cL_bright 15 = .ok (.iconst 1, 1) := by decide +kernel
theorem dL_bright_16 : decode cL_bright 16 = .ok (.ireturn, 1) := by decide +kernel
theorem dL_bright_17 : decode cL_bright 17 = .ok (.astore 4, 2) := by decide +kernel
theorem dL_bright_19 : decode cL_bright 19 = .ok (.iconst 2, 1) := by decide +kernel
theorem dL_bright_20 : decode cL_bright 20 = .ok (.ireturn, 1) := by decide +kernel
theorem dL_bright_21 : decode cL_bright 21 = .ok (.iconst 0, 1) := by decide +kernel
theorem dL_bright_22 : decode cL_bright 22 = .ok (.ireturn, 1) := by decide +kernel
theorem dL_barred_0 : decode cL_barred 0 = .ok (.aload_n 2, 1) := by decide +kernel
theorem dL_barred_1 : decode cL_barred 1 = .ok (.iconst 0, 1) := by decide +kernel
theorem dL_barred_2 : decode cL_barred 2 = .ok (.aload_n 0, 1) := by decide +kernel
theorem dL_barred_3 : decode cL_barred 3 = .ok (.iload_n 1, 1) := by decide +kernel
theorem dL_barred_4 : decode cL_barred 4 = .ok (.invokevirtual 65, 3) := by decide +kernel
theorem dL_barred_7 : decode cL_barred 7 = .ok (.i2l, 1) := by decide +kernel
theorem dL_barred_8 : decode cL_barred 8 = .ok (.lastore, 1) := by decide +kernel
theorem dL_barred_9 : decode cL_barred 9 = .ok (.goto 6, 3) := by decide +kernel
theorem dL_barred_12 : decode cL_barred 12 = .ok (.astore_n 3, 1) := by decide +kernel
theorem dL_barred_13 : decode cL_barred 13 = .ok (.iconst 1, 1) := by decide +kernel
theorem dL_barred_14 : decode cL_barred 14 = .ok (.ireturn, 1) := by decide +kernel
theorem dL_barred_15 : decode cL_barred 15 = .ok (.iconst 0, 1) := by decide +kernel
theorem dL_barred_16 : decode cL_barred 16 = .ok (.ireturn, 1) := by decide +kernel
theorem dL_day_0 : decode cL_day 0 = .ok (.aload_n 2, 1) := by decide +kernel
theorem dL_day_1 : decode cL_day 1 = .ok (.iconst 0, 1) := by decide +kernel
theorem dL_day_2 : decode cL_day 2 = .ok (.aload_n 0, 1) := by decide +kernel
theorem dL_day_3 : decode cL_day 3 = .ok (.iload_n 1, 1) := by decide +kernel
theorem dL_day_4 : decode cL_day 4 = .ok (.invokevirtual 68, 3) := by decide +kernel
theorem dL_day_7 : decode cL_day 7 = .ok (.i2l, 1) := by decide +kernel
theorem dL_day_8 : decode cL_day 8 = .ok (.lastore, 1) := by decide +kernel
theorem dL_day_9 : decode cL_day 9 = .ok (.goto 6, 3) := by decide +kernel
theorem dL_day_12 : decode cL_day 12 = .ok (.astore_n 3, 1) := by decide +kernel
theorem dL_day_13 : decode cL_day 13 = .ok (.iconst 1, 1) := by decide +kernel
theorem dL_day_14 : decode cL_day 14 = .ok (.ireturn, 1) := by decide +kernel
theorem dL_day_15 : decode cL_day 15 = .ok (.iconst 0, 1) := by decide +kernel
theorem dL_day_16 : decode cL_day 16 = .ok (.ireturn, 1) := by decide +kernel
theorem dL_mixed_0 : decode cL_mixed 0 = .ok (.aload_n 3, 1) := by decide +kernel
theorem dL_mixed_1 : decode cL_mixed 1 = .ok (.iconst 0, 1) := by decide +kernel
theorem dL_mixed_2 : decode cL_mixed 2 = .ok (.aload_n 0, 1) := by decide +kernel
theorem dL_mixed_3 : decode cL_mixed 3 = .ok (.iload_n 1, 1) := by decide +kernel
theorem dL_mixed_4 : decode cL_mixed 4 = .ok (.iload_n 2, 1) := by decide +kernel
theorem dL_mixed_5 : decode cL_mixed 5 = .ok (.invokevirtual 71, 3) := by decide +kernel
theorem dL_mixed_8 : decode cL_mixed 8 = .ok (.i2l, 1) := by decide +kernel
theorem dL_mixed_9 : decode cL_mixed 9 = .ok (.lastore, 1) := by decide +kernel
theorem dL_mixed_10 : decode cL_mixed 10 = .ok (.goto 7, 3) := by decide +kernel
theorem dL_mixed_13 : decode cL_mixed 13 = .ok (.astore 4, 2) := by decide +kernel
theorem dL_mixed_15 : decode cL_mixed 15 = .ok (.iconst 1, 1) := by decide +kernel
theorem dL_mixed_16 : decode cL_mixed 16 = .ok (.ireturn, 1) := by decide +kernel
theorem dL_mixed_17 : decode cL_mixed 17 = .ok (.iconst 0, 1) := by decide +kernel
theorem dL_mixed_18 : decode cL_mixed 18 = .ok (.ireturn, 1) := by decide +kernel
theorem dL_grid_0 : decode cL_grid 0 = .ok (.aload_n 3, 1) := by decide +kernel
theorem dL_grid_1 : decode cL_grid 1 = .ok (.iconst 0, 1) := by decide +kernel
theorem dL_grid_2 : decode cL_grid 2 = .ok (.aload_n 0, 1) := by decide +kernel
theorem dL_grid_3 : decode cL_grid 3 = .ok (.iload_n 1, 1) := by decide +kernel
theorem dL_grid_4 : decode cL_grid 4 = .ok (.iload_n 2, 1) := by decide +kernel
theorem dL_grid_5 : decode cL_grid 5 = .ok (.invokevirtual 74, 3) := by decide +kernel
theorem dL_grid_8 : decode cL_grid 8 = .ok (.i2l, 1) := by decide +kernel
theorem dL_grid_9 : decode cL_grid 9 = .ok (.lastore, 1) := by decide +kernel
theorem dL_grid_10 : decode cL_grid 10 = .ok (.goto 7, 3) := by decide +kernel
theorem dL_grid_13 : decode cL_grid 13 = .ok (.astore 4, 2) := by decide +kernel
theorem dL_grid_15 : decode cL_grid 15 = .ok (.iconst 1, 1) := by decide +kernel
theorem dL_grid_16 : decode cL_grid 16 = .ok (.ireturn, 1) := by decide +kernel
theorem dL_grid_17 : decode cL_grid 17 = .ok (.iconst 0, 1) := by decide +kernel
theorem dL_grid_18 : decode cL_grid 18 = .ok (.ireturn, 1) := by decide +kernel
theorem dL_hole_0 : decode cL_hole 0 = .ok (.aload_n 3, 1) := by decide +kernel
theorem dL_hole_1 : decode cL_hole 1 = .ok (.iconst 0, 1) := by decide +kernel
theorem dL_hole_2 : decode cL_hole 2 = .ok (.aload_n 0, 1) := by decide +kernel
theorem dL_hole_3 : decode cL_hole 3 = .ok (.iload_n 1, 1) := by decide +kernel
theorem dL_hole_4 : decode cL_hole 4 = .ok (.iload_n 2, 1) := by decide +kernel
theorem dL_hole_5 : decode cL_hole 5 = .ok (.invokevirtual 77, 3) := by decide +kernel
theorem dL_hole_8 : decode cL_hole 8 = .ok (.i2l, 1) := by decide +kernel
theorem dL_hole_9 : decode cL_hole 9 = .ok (.lastore, 1) := by decide +kernel
theorem dL_hole_10 : decode cL_hole 10 = .ok (.goto 11, 3) := by decide +kernel
theorem dL_hole_13 : decode cL_hole 13 = .ok (.astore 4, 2) := by decide +kernel
theorem dL_hole_15 : decode cL_hole 15 = .ok (.iconst 1, 1) := by decide +kernel
theorem dL_hole_16 : decode cL_hole 16 = .ok (.ireturn, 1) := by decide +kernel
theorem dL_hole_17 : decode cL_hole 17 = .ok (.astore 4, 2) := by decide +kernel
theorem dL_hole_19 : decode cL_hole 19 = .ok (.iconst 2, 1) := by decide +kernel
theorem dL_hole_20 : decode cL_hole 20 = .ok (.ireturn, 1) := by decide +kernel
theorem dL_hole_21 : decode cL_hole 21 = .ok (.iconst 0, 1) := by decide +kernel
theorem dL_hole_22 : decode cL_hole 22 = .ok (.ireturn, 1) := by decide +kernel
theorem dL_walk_0 : decode cL_walk 0 = .ok (.aload_n 3, 1) := by decide +kernel
theorem dL_walk_1 : decode cL_walk 1 = .ok (.iconst 0, 1) := by decide +kernel
theorem dL_walk_2 : decode cL_walk 2 = .ok (.aload_n 0, 1) := by decide +kernel
theorem dL_walk_3 : decode cL_walk 3 = .ok (.iload_n 1, 1) := by decide +kernel
theorem dL_walk_4 : decode cL_walk 4 = .ok (.iload_n 2, 1) := by decide +kernel
theorem dL_walk_5 : decode cL_walk 5 = .ok (.invokevirtual 80, 3) := by decide +kernel
theorem dL_walk_8 : decode cL_walk 8 = .ok (.i2l, 1) := by decide +kernel
theorem dL_walk_9 : decode cL_walk 9 = .ok (.lastore, 1) := by decide +kernel
theorem dL_walk_10 : decode cL_walk 10 = .ok (.goto 7, 3) := by decide +kernel
theorem dL_walk_13 : decode cL_walk 13 = .ok (.astore 4, 2) := by decide +kernel
theorem dL_walk_15 : decode cL_walk 15 = .ok (.iconst 1, 1) := by decide +kernel
theorem dL_walk_16 : decode cL_walk 16 = .ok (.ireturn, 1) := by decide +kernel
theorem dL_walk_17 : decode cL_walk 17 = .ok (.iconst 0, 1) := by decide +kernel
theorem dL_walk_18 : decode cL_walk 18 = .ok (.ireturn, 1) := by decide +kernel
theorem dL_carry_0 : decode cL_carry 0 = .ok (.aload 5, 2) := by decide +kernel
theorem dL_carry_2 : decode cL_carry 2 = .ok (.iconst 0, 1) := by decide +kernel
theorem dL_carry_3 : decode cL_carry 3 = .ok (.aload_n 0, 1) := by decide +kernel
theorem dL_carry_4 : decode cL_carry 4 = .ok (.iload_n 1, 1) := by decide +kernel
theorem dL_carry_5 : decode cL_carry 5 = .ok (.iload_n 2, 1) := by decide +kernel
theorem dL_carry_6 : decode cL_carry 6 = .ok (.iload_n 3, 1) := by decide +kernel
theorem dL_carry_7 : decode cL_carry 7 = .ok (.iload 4, 2) := by decide +kernel
theorem dL_carry_9 : decode cL_carry 9 = .ok (.invokevirtual 83, 3) := by decide +kernel
theorem dL_carry_12 : decode cL_carry 12 = .ok (.i2l, 1) := by decide +kernel
theorem dL_carry_13 : decode cL_carry 13 = .ok (.lastore, 1) := by decide +kernel
theorem dL_carry_14 : decode cL_carry 14 = .ok (.goto 7, 3) := by decide +kernel
theorem dL_carry_17 : decode cL_carry 17 = .ok (.astore 6, 2) := by decide +kernel
theorem dL_carry_19 : decode cL_carry 19 = .ok (.iconst 1, 1) := by decide +kernel
theorem dL_carry_20 : decode cL_carry 20 = .ok (.ireturn, 1) := by decide +kernel
theorem dL_carry_21 : decode cL_carry 21 = .ok (.iconst 0, 1) := by decide +kernel
theorem dL_carry_22 : decode cL_carry 22 = .ok (.ireturn, 1) := by decide +kernel
theorem dL_cost_0 : decode cL_cost 0 = .ok (.aload_n 2, 1) := by decide +kernel
theorem dL_cost_1 : decode cL_cost 1 = .ok (.iconst 0, 1) := by decide +kernel
theorem dL_cost_2 : decode cL_cost 2 = .ok (.aload_n 0, 1) := by decide +kernel
theorem dL_cost_3 : decode cL_cost 3 = .ok (.iload_n 1, 1) := by decide +kernel
theorem dL_cost_4 : decode cL_cost 4 = .ok (.invokevirtual 87, 3) := by decide +kernel
theorem dL_cost_7 : decode cL_cost 7 = .ok (.i2l, 1) := by decide +kernel
theorem dL_cost_8 : decode cL_cost 8 = .ok (.lastore, 1) := by decide +kernel
theorem dL_cost_9 : decode cL_cost 9 = .ok (.goto 6, 3) := by decide +kernel
theorem dL_cost_12 : decode cL_cost 12 = .ok (.astore_n 3, 1) := by decide +kernel
theorem dL_cost_13 : decode cL_cost 13 = .ok (.iconst 1, 1) := by decide +kernel
theorem dL_cost_14 : decode cL_cost 14 = .ok (.ireturn, 1) := by decide +kernel
theorem dL_cost_15 : decode cL_cost 15 = .ok (.iconst 0, 1) := by decide +kernel
theorem dL_cost_16 : decode cL_cost 16 = .ok (.ireturn, 1) := by decide +kernel
theorem dL_owed_0 : decode cL_owed 0 = .ok (.aload_n 2, 1) := by decide +kernel
theorem dL_owed_1 : decode cL_owed 1 = .ok (.iconst 0, 1) := by decide +kernel
theorem dL_owed_2 : decode cL_owed 2 = .ok (.aload_n 0, 1) := by decide +kernel
theorem dL_owed_3 : decode cL_owed 3 = .ok (.iload_n 1, 1) := by decide +kernel
theorem dL_owed_4 : decode cL_owed 4 = .ok (.invokevirtual 90, 3) := by decide +kernel
theorem dL_owed_7 : decode cL_owed 7 = .ok (.ifCond .eq 7, 3) := by decide +kernel
theorem dL_owed_10 : decode cL_owed 10 = .ok (.lconst 1, 1) := by decide +kernel
theorem dL_owed_11 : decode cL_owed 11 = .ok (.goto 4, 3) := by decide +kernel
theorem dL_owed_14 : decode cL_owed 14 = .ok (.lconst 0, 1) := by decide +kernel
theorem dL_owed_15 : decode cL_owed 15 = .ok (.lastore, 1) := by decide +kernel
