theorem qd_law_0 : decode code 0 = .ok (.new 8, 3) := by decide +kernel
theorem qd_law_3 : decode code 3 = .ok (.dup, 1) := by decide +kernel
theorem qd_law_4 : decode code 4 = .ok (.invokespecial 49, 3) := by decide +kernel
theorem qd_law_7 : decode code 7 = .ok (.astore_n 1, 1) := by decide +kernel
theorem qd_law_8 : decode code 8 = .ok (.new 50, 3) := by decide +kernel
theorem qd_law_11 : decode code 11 = .ok (.dup, 1) := by decide +kernel
theorem qd_law_12 : decode code 12 = .ok (.invokespecial 52, 3) := by decide +kernel
theorem qd_law_15 : decode code 15 = .ok (.astore_n 2, 1) := by decide +kernel
theorem qd_law_16 : decode code 16 = .ok (.iconst 1, 1) := by decide +kernel
theorem qd_law_17 : decode code 17 = .ok (.newarray .long, 2) := by decide +kernel
theorem qd_law_19 : decode code 19 = .ok (.astore_n 3, 1) := by decide +kernel
theorem qd_law_20 : decode code 20 = .ok (.iconst 0, 1) := by decide +kernel
theorem qd_law_21 : decode code 21 = .ok (.istore 4, 2) := by decide +kernel
theorem qd_law_23 : decode code 23 = .ok (.iload 4, 2) := by decide +kernel
theorem qd_law_25 : decode code 25 = .ok (.aload_n 0, 1) := by decide +kernel
theorem qd_law_26 : decode code 26 = .ok (.arraylength, 1) := by decide +kernel
theorem qd_law_27 : decode code 27 = .ok (.bipush 6, 2) := by decide +kernel
theorem qd_law_29 : decode code 29 = .ok (.isub, 1) := by decide +kernel
theorem qd_law_30 : decode code 30 = .ok (.if_icmp .gt 651, 3) := by decide +kernel
theorem qd_law_33 : decode code 33 = .ok (.aload_n 0, 1) := by decide +kernel
theorem qd_law_34 : decode code 34 = .ok (.iload 4, 2) := by decide +kernel
theorem qd_law_36 : decode code 36 = .ok (.iaload, 1) := by decide +kernel
theorem qd_law_37 : decode code 37 = .ok (.bipush 15, 2) := by decide +kernel
theorem qd_law_39 : decode code 39 = .ok (.iand, 1) := by decide +kernel
theorem qd_law_40 : decode code 40 = .ok (.tableswitch 635 0 8 #[52, 63, 167, 223, 259, 339, 419, 511, 579], 52) := by decide +kernel
theorem qd_law_92 : decode code 92 = .ok (.aload_n 1, 1) := by decide +kernel
theorem qd_law_93 : decode code 93 = .ok (.invokevirtual 53, 3) := by decide +kernel
theorem qd_law_96 : decode code 96 = .ok (.aload_n 2, 1) := by decide +kernel
theorem qd_law_97 : decode code 97 = .ok (.invokevirtual 56, 3) := by decide +kernel
theorem qd_law_100 : decode code 100 = .ok (.goto 575, 3) := by decide +kernel
theorem qd_law_103 : decode code 103 = .ok (.aload_n 1, 1) := by decide +kernel
theorem qd_law_104 : decode code 104 = .ok (.aload_n 0, 1) := by decide +kernel
theorem qd_law_105 : decode code 105 = .ok (.iload 4, 2) := by decide +kernel
theorem qd_law_107 : decode code 107 = .ok (.iconst 1, 1) := by decide +kernel
theorem qd_law_108 : decode code 108 = .ok (.iadd, 1) := by decide +kernel
theorem qd_law_109 : decode code 109 = .ok (.iaload, 1) := by decide +kernel
theorem qd_law_110 : decode code 110 = .ok (.aload_n 0, 1) := by decide +kernel
theorem qd_law_111 : decode code 111 = .ok (.iload 4, 2) := by decide +kernel
theorem qd_law_113 : decode code 113 = .ok (.iconst 2, 1) := by decide +kernel
theorem qd_law_114 : decode code 114 = .ok (.iadd, 1) := by decide +kernel
theorem qd_law_115 : decode code 115 = .ok (.iaload, 1) := by decide +kernel
theorem qd_law_116 : decode code 116 = .ok (.aload_n 0, 1) := by decide +kernel
theorem qd_law_117 : decode code 117 = .ok (.iload 4, 2) := by decide +kernel
theorem qd_law_119 : decode code 119 = .ok (.iconst 3, 1) := by decide +kernel
theorem qd_law_120 : decode code 120 = .ok (.iadd, 1) := by decide +kernel
theorem qd_law_121 : decode code 121 = .ok (.iaload, 1) := by decide +kernel
theorem qd_law_122 : decode code 122 = .ok (.aload_n 0, 1) := by decide +kernel
theorem qd_law_123 : decode code 123 = .ok (.iload 4, 2) := by decide +kernel
theorem qd_law_125 : decode code 125 = .ok (.iconst 4, 1) := by decide +kernel
theorem qd_law_126 : decode code 126 = .ok (.iadd, 1) := by decide +kernel
theorem qd_law_127 : decode code 127 = .ok (.iaload, 1) := by decide +kernel
theorem qd_law_128 : decode code 128 = .ok (.aload_n 0, 1) := by decide +kernel
theorem qd_law_129 : decode code 129 = .ok (.iload 4, 2) := by decide +kernel
theorem qd_law_131 : decode code 131 = .ok (.iconst 5, 1) := by decide +kernel
theorem qd_law_132 : decode code 132 = .ok (.iadd, 1) := by decide +kernel
theorem qd_law_133 : decode code 133 = .ok (.iaload, 1) := by decide +kernel
theorem qd_law_134 : decode code 134 = .ok (.aload_n 3, 1) := by decide +kernel
theorem qd_law_135 : decode code 135 = .ok (.invokestatic 57, 3) := by decide +kernel
theorem qd_law_138 : decode code 138 = .ok (.istore 5, 2) := by decide +kernel
theorem qd_law_140 : decode code 140 = .ok (.aload_n 2, 1) := by decide +kernel
theorem qd_law_141 : decode code 141 = .ok (.aload_n 0, 1) := by decide +kernel
theorem qd_law_142 : decode code 142 = .ok (.iload 4, 2) := by decide +kernel
theorem qd_law_144 : decode code 144 = .ok (.iconst 1, 1) := by decide +kernel
theorem qd_law_145 : decode code 145 = .ok (.iadd, 1) := by decide +kernel
theorem qd_law_146 : decode code 146 = .ok (.iaload, 1) := by decide +kernel
theorem qd_law_147 : decode code 147 = .ok (.aload_n 0, 1) := by decide +kernel
theorem qd_law_148 : decode code 148 = .ok (.iload 4, 2) := by decide +kernel
theorem qd_law_150 : decode code 150 = .ok (.iconst 2, 1) := by decide +kernel
theorem qd_law_151 : decode code 151 = .ok (.iadd, 1) := by decide +kernel
theorem qd_law_152 : decode code 152 = .ok (.iaload, 1) := by decide +kernel
theorem qd_law_153 : decode code 153 = .ok (.aload_n 0, 1) := by decide +kernel
theorem qd_law_154 : decode code 154 = .ok (.iload 4, 2) := by decide +kernel
theorem qd_law_156 : decode code 156 = .ok (.iconst 3, 1) := by decide +kernel
theorem qd_law_157 : decode code 157 = .ok (.iadd, 1) := by decide +kernel
theorem qd_law_158 : decode code 158 = .ok (.iaload, 1) := by decide +kernel
theorem qd_law_159 : decode code 159 = .ok (.aload_n 0, 1) := by decide +kernel
theorem qd_law_160 : decode code 160 = .ok (.iload 4, 2) := by decide +kernel
theorem qd_law_162 : decode code 162 = .ok (.iconst 4, 1) := by decide +kernel
theorem qd_law_163 : decode code 163 = .ok (.iadd, 1) := by decide +kernel
theorem qd_law_164 : decode code 164 = .ok (.iaload, 1) := by decide +kernel
theorem qd_law_165 : decode code 165 = .ok (.aload_n 0, 1) := by decide +kernel
theorem qd_law_166 : decode code 166 = .ok (.iload 4, 2) := by decide +kernel
theorem qd_law_168 : decode code 168 = .ok (.iconst 5, 1) := by decide +kernel
theorem qd_law_169 : decode code 169 = .ok (.iadd, 1) := by decide +kernel
theorem qd_law_170 : decode code 170 = .ok (.iaload, 1) := by decide +kernel
theorem qd_law_171 : decode code 171 = .ok (.invokevirtual 62, 3) := by decide +kernel
theorem qd_law_174 : decode code 174 = .ok (.istore 6, 2) := by decide +kernel
theorem qd_law_176 : decode code 176 = .ok (.aload_n 2, 1) := by decide +kernel
theorem qd_law_177 : decode code 177 = .ok (.invokevirtual 63, 3) := by decide +kernel
theorem qd_law_180 : decode code 180 = .ok (.iload 5, 2) := by decide +kernel
theorem qd_law_182 : decode code 182 = .ok (.if_icmp .eq 5, 3) := by decide +kernel
theorem qd_law_185 : decode code 185 = .ok (.iconst 0, 1) := by decide +kernel
theorem qd_law_186 : decode code 186 = .ok (.ireturn, 1) := by decide +kernel
theorem qd_law_187 : decode code 187 = .ok (.iload 5, 2) := by decide +kernel
theorem qd_law_189 : decode code 189 = .ok (.ifCond .ne 15, 3) := by decide +kernel
theorem qd_law_192 : decode code 192 = .ok (.aload_n 3, 1) := by decide +kernel
theorem qd_law_193 : decode code 193 = .ok (.iconst 0, 1) := by decide +kernel
theorem qd_law_194 : decode code 194 = .ok (.laload, 1) := by decide +kernel
theorem qd_law_195 : decode code 195 = .ok (.iload 6, 2) := by decide +kernel
theorem qd_law_197 : decode code 197 = .ok (.i2l, 1) := by decide +kernel
theorem qd_law_198 : decode code 198 = .ok (.lcmp, 1) := by decide +kernel
theorem qd_law_199 : decode code 199 = .ok (.ifCond .eq 5, 3) := by decide +kernel
theorem qd_law_202 : decode code 202 = .ok (.iconst 0, 1) := by decide +kernel
theorem qd_law_203 : decode code 203 = .ok (.ireturn, 1) := by decide +kernel
theorem qd_law_204 : decode code 204 = .ok (.goto 471, 3) := by decide +kernel
theorem qd_law_207 : decode code 207 = .ok (.aload_n 1, 1) := by decide +kernel
theorem qd_law_208 : decode code 208 = .ok (.aload_n 0, 1) := by decide +kernel
theorem qd_law_209 : decode code 209 = .ok (.iload 4, 2) := by decide +kernel
theorem qd_law_211 : decode code 211 = .ok (.iconst 1, 1) := by decide +kernel
theorem qd_law_212 : decode code 212 = .ok (.iadd, 1) := by decide +kernel
theorem qd_law_213 : decode code 213 = .ok (.iaload, 1) := by decide +kernel
theorem qd_law_214 : decode code 214 = .ok (.aload_n 3, 1) := by decide +kernel
theorem qd_law_215 : decode code 215 = .ok (.invokestatic 67, 3) := by decide +kernel
theorem qd_law_218 : decode code 218 = .ok (.istore 5, 2) := by decide +kernel
theorem qd_law_220 : decode code 220 = .ok (.aload_n 2, 1) := by decide +kernel
theorem qd_law_221 : decode code 221 = .ok (.aload_n 0, 1) := by decide +kernel
theorem qd_law_222 : decode code 222 = .ok (.iload 4, 2) := by decide +kernel
theorem qd_law_224 : decode code 224 = .ok (.iconst 1, 1) := by decide +kernel
theorem qd_law_225 : decode code 225 = .ok (.iadd, 1) := by decide +kernel
theorem qd_law_226 : decode code 226 = .ok (.iaload, 1) := by decide +kernel
theorem qd_law_227 : decode code 227 = .ok (.invokevirtual 70, 3) := by decide +kernel
theorem qd_law_230 : decode code 230 = .ok (.istore 6, 2) := by decide +kernel
theorem qd_law_232 : decode code 232 = .ok (.aload_n 2, 1) := by decide +kernel
theorem qd_law_233 : decode code 233 = .ok (.invokevirtual 63, 3) := by decide +kernel
theorem qd_law_236 : decode code 236 = .ok (.iload 5, 2) := by decide +kernel
theorem qd_law_238 : decode code 238 = .ok (.if_icmp .eq 5, 3) := by decide +kernel
theorem qd_law_241 : decode code 241 = .ok (.iconst 0, 1) := by decide +kernel
theorem qd_law_242 : decode code 242 = .ok (.ireturn, 1) := by decide +kernel
theorem qd_law_243 : decode code 243 = .ok (.iload 5, 2) := by decide +kernel
theorem qd_law_245 : decode code 245 = .ok (.ifCond .ne 15, 3) := by decide +kernel
theorem qd_law_248 : decode code 248 = .ok (.aload_n 3, 1) := by decide +kernel
theorem qd_law_249 : decode code 249 = .ok (.iconst 0, 1) := by decide +kernel
theorem qd_law_250 : decode code 250 = .ok (.laload, 1) := by decide +kernel
theorem qd_law_251 : decode code 251 = .ok (.iload 6, 2) := by decide +kernel
theorem qd_law_253 : decode code 253 = .ok (.i2l, 1) := by decide +kernel
theorem qd_law_254 : decode code 254 = .ok (.lcmp, 1) := by decide +kernel
theorem qd_law_255 : decode code 255 = .ok (.ifCond .eq 5, 3) := by decide +kernel
theorem qd_law_258 : decode code 258 = .ok (.iconst 0, 1) := by decide +kernel
theorem qd_law_259 : decode code 259 = .ok (.ireturn, 1) := by decide +kernel
