theorem dX11_starts_0 : decode cX11_starts 0 = .ok (.aload_n 0, 1) := by decide +kernel
theorem dX11_starts_1 : decode cX11_starts 1 = .ok (.getfield 84, 3) := by decide +kernel
theorem dX11_starts_4 : decode cX11_starts 4 = .ok (.iload_n 1, 1) := by decide +kernel
theorem dX11_starts_5 : decode cX11_starts 5 = .ok (.iconst 0, 1) := by decide +kernel
theorem dX11_starts_6 : decode cX11_starts 6 = .ok (.iastore, 1) := by decide +kernel
theorem dX11_starts_7 : decode cX11_starts 7 = .ok (.aload_n 0, 1) := by decide +kernel
theorem dX11_starts_8 : decode cX11_starts 8 = .ok (.getfield 87, 3) := by decide +kernel
theorem dX11_starts_11 : decode cX11_starts 11 = .ok (.iload_n 1, 1) := by decide +kernel
theorem dX11_starts_12 : decode cX11_starts 12 = .ok (.aload_n 0, 1) := by decide +kernel
theorem dX11_starts_13 : decode cX11_starts 13 = .ok (.getfield 13, 3) := by decide +kernel
theorem dX11_starts_16 : decode cX11_starts 16 = .ok (.bipush 7, 2) := by decide +kernel
theorem dX11_starts_18 : decode cX11_starts 18 = .ok (.iaload, 1) := by decide +kernel
theorem dX11_starts_19 : decode cX11_starts 19 = .ok (.iastore, 1) := by decide +kernel
theorem dX11_starts_20 : decode cX11_starts 20 = .ok (.aload_n 0, 1) := by decide +kernel
theorem dX11_starts_21 : decode cX11_starts 21 = .ok (.getfield 90, 3) := by decide +kernel
theorem dX11_starts_24 : decode cX11_starts 24 = .ok (.iload_n 1, 1) := by decide +kernel
theorem dX11_starts_25 : decode cX11_starts 25 = .ok (.iconst 0, 1) := by decide +kernel
theorem dX11_starts_26 : decode cX11_starts 26 = .ok (.iastore, 1) := by decide +kernel
theorem dX11_starts_27 : decode cX11_starts 27 = .ok (.aload_n 0, 1) := by decide +kernel
theorem dX11_starts_28 : decode cX11_starts 28 = .ok (.getfield 93, 3) := by decide +kernel
theorem dX11_starts_31 : decode cX11_starts 31 = .ok (.iload_n 1, 1) := by decide +kernel
theorem dX11_starts_32 : decode cX11_starts 32 = .ok (.aload_n 0, 1) := by decide +kernel
theorem dX11_starts_33 : decode cX11_starts 33 = .ok (.getfield 13, 3) := by decide +kernel
theorem dX11_starts_36 : decode cX11_starts 36 = .ok (.iconst 3, 1) := by decide +kernel
theorem dX11_starts_37 : decode cX11_starts 37 = .ok (.iaload, 1) := by decide +kernel
theorem dX11_starts_38 : decode cX11_starts 38 = .ok (.iastore, 1) := by decide +kernel
theorem dX11_starts_39 : decode cX11_starts 39 = .ok (.iconst 0, 1) := by decide +kernel
theorem dX11_starts_40 : decode cX11_starts 40 = .ok (.istore_n 2, 1) := by decide +kernel
theorem dX11_starts_41 : decode cX11_starts 41 = .ok (.iload_n 2, 1) := by decide +kernel
theorem dX11_starts_42 : decode cX11_starts 42 = .ok (.iconst 5, 1) := by decide +kernel
theorem dX11_starts_43 : decode cX11_starts 43 = .ok (.if_icmp .ge 84, 3) := by decide +kernel
theorem dX11_starts_46 : decode cX11_starts 46 = .ok (.aload_n 0, 1) := by decide +kernel
theorem dX11_starts_47 : decode cX11_starts 47 = .ok (.getfield 96, 3) := by decide +kernel
theorem dX11_starts_50 : decode cX11_starts 50 = .ok (.iconst 5, 1) := by decide +kernel
theorem dX11_starts_51 : decode cX11_starts 51 = .ok (.iload_n 1, 1) := by decide +kernel
theorem dX11_starts_52 : decode cX11_starts 52 = .ok (.imul, 1) := by decide +kernel
theorem dX11_starts_53 : decode cX11_starts 53 = .ok (.iload_n 2, 1) := by decide +kernel
theorem dX11_starts_54 : decode cX11_starts 54 = .ok (.iadd, 1) := by decide +kernel
theorem dX11_starts_55 : decode cX11_starts 55 = .ok (.iload_n 2, 1) := by decide +kernel
theorem dX11_starts_56 : decode cX11_starts 56 = .ok (.aload_n 0, 1) := by decide +kernel
theorem dX11_starts_57 : decode cX11_starts 57 = .ok (.getfield 13, 3) := by decide +kernel
theorem dX11_starts_60 : decode cX11_starts 60 = .ok (.iconst 0, 1) := by decide +kernel
theorem dX11_starts_61 : decode cX11_starts 61 = .ok (.iaload, 1) := by decide +kernel
theorem dX11_starts_62 : decode cX11_starts 62 = .ok (.if_icmp .ge 12, 3) := by decide +kernel
theorem dX11_starts_65 : decode cX11_starts 65 = .ok (.aload_n 0, 1) := by decide +kernel
theorem dX11_starts_66 : decode cX11_starts 66 = .ok (.getfield 19, 3) := by decide +kernel
theorem dX11_starts_69 : decode cX11_starts 69 = .ok (.iload_n 2, 1) := by decide +kernel
theorem dX11_starts_70 : decode cX11_starts 70 = .ok (.iaload, 1) := by decide +kernel
theorem dX11_starts_71 : decode cX11_starts 71 = .ok (.goto 4, 3) := by decide +kernel
theorem dX11_starts_74 : decode cX11_starts 74 = .ok (.iconst 0, 1) := by decide +kernel
theorem dX11_starts_75 : decode cX11_starts 75 = .ok (.iastore, 1) := by decide +kernel
theorem dX11_starts_76 : decode cX11_starts 76 = .ok (.iconst 0, 1) := by decide +kernel
theorem dX11_starts_77 : decode cX11_starts 77 = .ok (.istore_n 3, 1) := by decide +kernel
theorem dX11_starts_78 : decode cX11_starts 78 = .ok (.iload_n 3, 1) := by decide +kernel
theorem dX11_starts_79 : decode cX11_starts 79 = .ok (.iconst 5, 1) := by decide +kernel
theorem dX11_starts_80 : decode cX11_starts 80 = .ok (.if_icmp .ge 41, 3) := by decide +kernel
theorem dX11_starts_83 : decode cX11_starts 83 = .ok (.aload_n 0, 1) := by decide +kernel
theorem dX11_starts_84 : decode cX11_starts 84 = .ok (.getfield 99, 3) := by decide +kernel
theorem dX11_starts_87 : decode cX11_starts 87 = .ok (.bipush 25, 2) := by decide +kernel
theorem dX11_starts_89 : decode cX11_starts 89 = .ok (.iload_n 1, 1) := by decide +kernel
theorem dX11_starts_90 : decode cX11_starts 90 = .ok (.imul, 1) := by decide +kernel
theorem dX11_starts_91 : decode cX11_starts 91 = .ok (.iconst 5, 1) := by decide +kernel
theorem dX11_starts_92 : decode cX11_starts 92 = .ok (.iload_n 2, 1) := by decide +kernel
theorem dX11_starts_93 : decode cX11_starts 93 = .ok (.imul, 1) := by decide +kernel
theorem dX11_starts_94 : decode cX11_starts 94 = .ok (.iadd, 1) := by decide +kernel
theorem dX11_starts_95 : decode cX11_starts 95 = .ok (.iload_n 3, 1) := by decide +kernel
theorem dX11_starts_96 : decode cX11_starts 96 = .ok (.iadd, 1) := by decide +kernel
theorem dX11_starts_97 : decode cX11_starts 97 = .ok (.iload_n 2, 1) := by decide +kernel
theorem dX11_starts_98 : decode cX11_starts 98 = .ok (.iastore, 1) := by decide +kernel
theorem dX11_starts_99 : decode cX11_starts 99 = .ok (.aload_n 0, 1) := by decide +kernel
theorem dX11_starts_100 : decode cX11_starts 100 = .ok (.getfield 102, 3) := by decide +kernel
theorem dX11_starts_103 : decode cX11_starts 103 = .ok (.bipush 25, 2) := by decide +kernel
theorem dX11_starts_105 : decode cX11_starts 105 = .ok (.iload_n 1, 1) := by decide +kernel
theorem dX11_starts_106 : decode cX11_starts 106 = .ok (.imul, 1) := by decide +kernel
theorem dX11_starts_107 : decode cX11_starts 107 = .ok (.iconst 5, 1) := by decide +kernel
theorem dX11_starts_108 : decode cX11_starts 108 = .ok (.iload_n 2, 1) := by decide +kernel
theorem dX11_starts_109 : decode cX11_starts 109 = .ok (.imul, 1) := by decide +kernel
theorem dX11_starts_110 : decode cX11_starts 110 = .ok (.iadd, 1) := by decide +kernel
theorem dX11_starts_111 : decode cX11_starts 111 = .ok (.iload_n 3, 1) := by decide +kernel
theorem dX11_starts_112 : decode cX11_starts 112 = .ok (.iadd, 1) := by decide +kernel
theorem dX11_starts_113 : decode cX11_starts 113 = .ok (.iconst 0, 1) := by decide +kernel
theorem dX11_starts_114 : decode cX11_starts 114 = .ok (.iastore, 1) := by decide +kernel
theorem dX11_starts_115 : decode cX11_starts 115 = .ok (.iinc 3 1, 3) := by decide +kernel
theorem dX11_starts_118 : decode cX11_starts 118 = .ok (.goto (-40), 3) := by decide +kernel
theorem dX11_starts_121 : decode cX11_starts 121 = .ok (.iinc 2 1, 3) := by decide +kernel
theorem dX11_starts_124 : decode cX11_starts 124 = .ok (.goto (-83), 3) := by decide +kernel
theorem dX11_starts_127 : decode cX11_starts 127 = .ok (.iconst 0, 1) := by decide +kernel
theorem dX11_starts_128 : decode cX11_starts 128 = .ok (.istore_n 2, 1) := by decide +kernel
theorem dX11_starts_129 : decode cX11_starts 129 = .ok (.iload_n 2, 1) := by decide +kernel
theorem dX11_starts_130 : decode cX11_starts 130 = .ok (.bipush 8, 2) := by decide +kernel
theorem dX11_starts_132 : decode cX11_starts 132 = .ok (.if_icmp .ge 21, 3) := by decide +kernel
theorem dX11_starts_135 : decode cX11_starts 135 = .ok (.aload_n 0, 1) := by decide +kernel
theorem dX11_starts_136 : decode cX11_starts 136 = .ok (.getfield 105, 3) := by decide +kernel
theorem dX11_starts_139 : decode cX11_starts 139 = .ok (.bipush 8, 2) := by decide +kernel
theorem dX11_starts_141 : decode cX11_starts 141 = .ok (.iload_n 1, 1) := by decide +kernel
theorem dX11_starts_142 : decode cX11_starts 142 = .ok (.imul, 1) := by decide +kernel
theorem dX11_starts_143 : decode cX11_starts 143 = .ok (.iload_n 2, 1) := by decide +kernel
theorem dX11_starts_144 : decode cX11_starts 144 = .ok (.iadd, 1) := by decide +kernel
theorem dX11_starts_145 : decode cX11_starts 145 = .ok (.iconst 0, 1) := by decide +kernel
theorem dX11_starts_146 : decode cX11_starts 146 = .ok (.iastore, 1) := by decide +kernel
theorem dX11_starts_147 : decode cX11_starts 147 = .ok (.iinc 2 1, 3) := by decide +kernel
theorem dX11_starts_150 : decode cX11_starts 150 = .ok (.goto (-21), 3) := by decide +kernel
theorem dX11_starts_153 : decode cX11_starts 153 = .ok (.iconst 0, 1) := by decide +kernel
theorem dX11_starts_154 : decode cX11_starts 154 = .ok (.istore_n 2, 1) := by decide +kernel
theorem dX11_starts_155 : decode cX11_starts 155 = .ok (.iload_n 2, 1) := by decide +kernel
theorem dX11_starts_156 : decode cX11_starts 156 = .ok (.bipush 12, 2) := by decide +kernel
theorem dX11_starts_158 : decode cX11_starts 158 = .ok (.if_icmp .ge 112, 3) := by decide +kernel
theorem dX11_starts_161 : decode cX11_starts 161 = .ok (.iload_n 2, 1) := by decide +kernel
theorem dX11_starts_162 : decode cX11_starts 162 = .ok (.aload_n 0, 1) := by decide +kernel
theorem dX11_starts_163 : decode cX11_starts 163 = .ok (.getfield 13, 3) := by decide +kernel
theorem dX11_starts_166 : decode cX11_starts 166 = .ok (.iconst 3, 1) := by decide +kernel
theorem dX11_starts_167 : decode cX11_starts 167 = .ok (.iaload, 1) := by decide +kernel
theorem dX11_starts_168 : decode cX11_starts 168 = .ok (.if_icmp .ge 7, 3) := by decide +kernel
theorem dX11_starts_171 : decode cX11_starts 171 = .ok (.iconst 1, 1) := by decide +kernel
theorem dX11_starts_172 : decode cX11_starts 172 = .ok (.goto 4, 3) := by decide +kernel
theorem dX11_starts_175 : decode cX11_starts 175 = .ok (.iconst 0, 1) := by decide +kernel
theorem dX11_starts_176 : decode cX11_starts 176 = .ok (.istore_n 3, 1) := by decide +kernel
theorem dX11_starts_177 : decode cX11_starts 177 = .ok (.aload_n 0, 1) := by decide +kernel
theorem dX11_starts_178 : decode cX11_starts 178 = .ok (.getfield 108, 3) := by decide +kernel
theorem dX11_starts_181 : decode cX11_starts 181 = .ok (.bipush 12, 2) := by decide +kernel
theorem dX11_starts_183 : decode cX11_starts 183 = .ok (.iload_n 1, 1) := by decide +kernel
theorem dX11_starts_184 : decode cX11_starts 184 = .ok (.imul, 1) := by decide +kernel
theorem dX11_starts_185 : decode cX11_starts 185 = .ok (.iload_n 2, 1) := by decide +kernel
theorem dX11_starts_186 : decode cX11_starts 186 = .ok (.iadd, 1) := by decide +kernel
theorem dX11_starts_187 : decode cX11_starts 187 = .ok (.iload_n 3, 1) := by decide +kernel
theorem dX11_starts_188 : decode cX11_starts 188 = .ok (.ifCond .eq 12, 3) := by decide +kernel
theorem dX11_starts_191 : decode cX11_starts 191 = .ok (.aload_n 0, 1) := by decide +kernel
theorem dX11_starts_192 : decode cX11_starts 192 = .ok (.getfield 37, 3) := by decide +kernel
theorem dX11_starts_195 : decode cX11_starts 195 = .ok (.iload_n 2, 1) := by decide +kernel
theorem dX11_starts_196 : decode cX11_starts 196 = .ok (.iaload, 1) := by decide +kernel
theorem dX11_starts_197 : decode cX11_starts 197 = .ok (.goto 4, 3) := by decide +kernel
theorem dX11_starts_200 : decode cX11_starts 200 = .ok (.iconst 0, 1) := by decide +kernel
theorem dX11_starts_201 : decode cX11_starts 201 = .ok (.iastore, 1) := by decide +kernel
theorem dX11_starts_202 : decode cX11_starts 202 = .ok (.aload_n 0, 1) := by decide +kernel
theorem dX11_starts_203 : decode cX11_starts 203 = .ok (.getfield 111, 3) := by decide +kernel
theorem dX11_starts_206 : decode cX11_starts 206 = .ok (.bipush 12, 2) := by decide +kernel
theorem dX11_starts_208 : decode cX11_starts 208 = .ok (.iload_n 1, 1) := by decide +kernel
theorem dX11_starts_209 : decode cX11_starts 209 = .ok (.imul, 1) := by decide +kernel
theorem dX11_starts_210 : decode cX11_starts 210 = .ok (.iload_n 2, 1) := by decide +kernel
theorem dX11_starts_211 : decode cX11_starts 211 = .ok (.iadd, 1) := by decide +kernel
theorem dX11_starts_212 : decode cX11_starts 212 = .ok (.iload_n 3, 1) := by decide +kernel
theorem dX11_starts_213 : decode cX11_starts 213 = .ok (.ifCond .eq 12, 3) := by decide +kernel
theorem dX11_starts_216 : decode cX11_starts 216 = .ok (.aload_n 0, 1) := by decide +kernel
theorem dX11_starts_217 : decode cX11_starts 217 = .ok (.getfield 40, 3) := by decide +kernel
theorem dX11_starts_220 : decode cX11_starts 220 = .ok (.iload_n 2, 1) := by decide +kernel
theorem dX11_starts_221 : decode cX11_starts 221 = .ok (.iaload, 1) := by decide +kernel
theorem dX11_starts_222 : decode cX11_starts 222 = .ok (.goto 4, 3) := by decide +kernel
theorem dX11_starts_225 : decode cX11_starts 225 = .ok (.iconst 0, 1) := by decide +kernel
theorem dX11_starts_226 : decode cX11_starts 226 = .ok (.iastore, 1) := by decide +kernel
theorem dX11_starts_227 : decode cX11_starts 227 = .ok (.aload_n 0, 1) := by decide +kernel
theorem dX11_starts_228 : decode cX11_starts 228 = .ok (.getfield 114, 3) := by decide +kernel
theorem dX11_starts_231 : decode cX11_starts 231 = .ok (.bipush 12, 2) := by decide +kernel
theorem dX11_starts_233 : decode cX11_starts 233 = .ok (.iload_n 1, 1) := by decide +kernel
theorem dX11_starts_234 : decode cX11_starts 234 = .ok (.imul, 1) := by decide +kernel
theorem dX11_starts_235 : decode cX11_starts 235 = .ok (.iload_n 2, 1) := by decide +kernel
theorem dX11_starts_236 : decode cX11_starts 236 = .ok (.iadd, 1) := by decide +kernel
theorem dX11_starts_237 : decode cX11_starts 237 = .ok (.iload_n 3, 1) := by decide +kernel
theorem dX11_starts_238 : decode cX11_starts 238 = .ok (.ifCond .eq 12, 3) := by decide +kernel
theorem dX11_starts_241 : decode cX11_starts 241 = .ok (.aload_n 0, 1) := by decide +kernel
theorem dX11_starts_242 : decode cX11_starts 242 = .ok (.getfield 43, 3) := by decide +kernel
theorem dX11_starts_245 : decode cX11_starts 245 = .ok (.iload_n 2, 1) := by decide +kernel
theorem dX11_starts_246 : decode cX11_starts 246 = .ok (.iaload, 1) := by decide +kernel
theorem dX11_starts_247 : decode cX11_starts 247 = .ok (.goto 4, 3) := by decide +kernel
theorem dX11_starts_250 : decode cX11_starts 250 = .ok (.iconst 0, 1) := by decide +kernel
theorem dX11_starts_251 : decode cX11_starts 251 = .ok (.iastore, 1) := by decide +kernel
theorem dX11_starts_252 : decode cX11_starts 252 = .ok (.aload_n 0, 1) := by decide +kernel
theorem dX11_starts_253 : decode cX11_starts 253 = .ok (.getfield 117, 3) := by decide +kernel
theorem dX11_starts_256 : decode cX11_starts 256 = .ok (.bipush 12, 2) := by decide +kernel
theorem dX11_starts_258 : decode cX11_starts 258 = .ok (.iload_n 1, 1) := by decide +kernel
theorem dX11_starts_259 : decode cX11_starts 259 = .ok (.imul, 1) := by decide +kernel
theorem dX11_starts_260 : decode cX11_starts 260 = .ok (.iload_n 2, 1) := by decide +kernel
theorem dX11_starts_261 : decode cX11_starts 261 = .ok (.iadd, 1) := by decide +kernel
theorem dX11_starts_262 : decode cX11_starts 262 = .ok (.iconst 0, 1) := by decide +kernel
theorem dX11_starts_263 : decode cX11_starts 263 = .ok (.iastore, 1) := by decide +kernel
theorem dX11_starts_264 : decode cX11_starts 264 = .ok (.iinc 2 1, 3) := by decide +kernel
theorem dX11_starts_267 : decode cX11_starts 267 = .ok (.goto (-112), 3) := by decide +kernel
theorem dX11_starts_270 : decode cX11_starts 270 = .ok (.return_, 1) := by decide +kernel
theorem dX11_begins_0 : decode cX11_begins 0 = .ok (.aload_n 0, 1) := by decide +kernel
theorem dX11_begins_1 : decode cX11_begins 1 = .ok (.iconst 0, 1) := by decide +kernel
theorem dX11_begins_2 : decode cX11_begins 2 = .ok (.invokevirtual 343, 3) := by decide +kernel
theorem dX11_begins_5 : decode cX11_begins 5 = .ok (.return_, 1) := by decide +kernel
theorem dX11_text_0 : decode cX11_text 0 = .ok (.aload_n 0, 1) := by decide +kernel
theorem dX11_text_1 : decode cX11_text 1 = .ok (.iconst 0, 1) := by decide +kernel
theorem dX11_text_2 : decode cX11_text 2 = .ok (.putfield 157, 3) := by decide +kernel
theorem dX11_text_5 : decode cX11_text 5 = .ok (.iload_n 1, 1) := by decide +kernel
theorem dX11_text_6 : decode cX11_text 6 = .ok (.ifCond .lt 11, 3) := by decide +kernel
theorem dX11_text_9 : decode cX11_text 9 = .ok (.iload_n 1, 1) := by decide +kernel
theorem dX11_text_10 : decode cX11_text 10 = .ok (.aload_n 0, 1) := by decide +kernel
theorem dX11_text_11 : decode cX11_text 11 = .ok (.getfield 160, 3) := by decide +kernel
theorem dX11_text_14 : decode cX11_text 14 = .ok (.if_icmp .le 6, 3) := by decide +kernel
theorem dX11_text_17 : decode cX11_text 17 = .ok (.bipush (-2), 2) := by decide +kernel
theorem dX11_text_19 : decode cX11_text 19 = .ok (.ireturn, 1) := by decide +kernel
theorem dX11_text_20 : decode cX11_text 20 = .ok (.aload_n 0, 1) := by decide +kernel
theorem dX11_text_21 : decode cX11_text 21 = .ok (.iload_n 1, 1) := by decide +kernel
theorem dX11_text_22 : decode cX11_text 22 = .ok (.putfield 166, 3) := by decide +kernel
theorem dX11_text_25 : decode cX11_text 25 = .ok (.aload_n 0, 1) := by decide +kernel
theorem dX11_text_26 : decode cX11_text 26 = .ok (.iconst 0, 1) := by decide +kernel
theorem dX11_text_27 : decode cX11_text 27 = .ok (.putfield 160, 3) := by decide +kernel
theorem dX11_text_30 : decode cX11_text 30 = .ok (.aload_n 0, 1) := by decide +kernel
theorem dX11_text_31 : decode cX11_text 31 = .ok (.iconst 0, 1) := by decide +kernel
theorem dX11_text_32 : decode cX11_text 32 = .ok (.putfield 163, 3) := by decide +kernel
theorem dX11_text_35 : decode cX11_text 35 = .ok (.aload_n 0, 1) := by decide +kernel
theorem dX11_text_36 : decode cX11_text 36 = .ok (.iconst 0, 1) := by decide +kernel
theorem dX11_text_37 : decode cX11_text 37 = .ok (.putfield 211, 3) := by decide +kernel
theorem dX11_text_40 : decode cX11_text 40 = .ok (.aload_n 0, 1) := by decide +kernel
theorem dX11_text_41 : decode cX11_text 41 = .ok (.iconst (-1), 1) := by decide +kernel
theorem dX11_text_42 : decode cX11_text 42 = .ok (.putfield 214, 3) := by decide +kernel
theorem dX11_text_45 : decode cX11_text 45 = .ok (.iconst 0, 1) := by decide +kernel
theorem dX11_text_46 : decode cX11_text 46 = .ok (.istore_n 2, 1) := by decide +kernel
theorem dX11_text_47 : decode cX11_text 47 = .ok (.iload_n 2, 1) := by decide +kernel
theorem dX11_text_48 : decode cX11_text 48 = .ok (.bipush 9, 2) := by decide +kernel
theorem dX11_text_50 : decode cX11_text 50 = .ok (.if_icmp .ge 25, 3) := by decide +kernel
theorem dX11_text_53 : decode cX11_text 53 = .ok (.aload_n 0, 1) := by decide +kernel
theorem dX11_text_54 : decode cX11_text 54 = .ok (.iload_n 2, 1) := by decide +kernel
theorem dX11_text_55 : decode cX11_text 55 = .ok (.iload_n 2, 1) := by decide +kernel
theorem dX11_text_56 : decode cX11_text 56 = .ok (.iconst 5, 1) := by decide +kernel
theorem dX11_text_57 : decode cX11_text 57 = .ok (.if_icmp .ne 8, 3) := by decide +kernel
theorem dX11_text_60 : decode cX11_text 60 = .ok (.bipush 9, 2) := by decide +kernel
theorem dX11_text_62 : decode cX11_text 62 = .ok (.goto 4, 3) := by decide +kernel
theorem dX11_text_65 : decode cX11_text 65 = .ok (.iconst 0, 1) := by decide +kernel
theorem dX11_text_66 : decode cX11_text 66 = .ok (.invokevirtual 251, 3) := by decide +kernel
theorem dX11_text_69 : decode cX11_text 69 = .ok (.iinc 2 1, 3) := by decide +kernel
theorem dX11_text_72 : decode cX11_text 72 = .ok (.goto (-25), 3) := by decide +kernel
theorem dX11_text_75 : decode cX11_text 75 = .ok (.iconst 3, 1) := by decide +kernel
theorem dX11_text_76 : decode cX11_text 76 = .ok (.istore_n 2, 1) := by decide +kernel
theorem dX11_text_77 : decode cX11_text 77 = .ok (.iload_n 2, 1) := by decide +kernel
theorem dX11_text_78 : decode cX11_text 78 = .ok (.bipush 6, 2) := by decide +kernel
theorem dX11_text_80 : decode cX11_text 80 = .ok (.if_icmp .ge 23, 3) := by decide +kernel
theorem dX11_text_83 : decode cX11_text 83 = .ok (.aload_n 0, 1) := by decide +kernel
theorem dX11_text_84 : decode cX11_text 84 = .ok (.getfield 61, 3) := by decide +kernel
theorem dX11_text_87 : decode cX11_text 87 = .ok (.iload_n 2, 1) := by decide +kernel
theorem dX11_text_88 : decode cX11_text 88 = .ok (.iconst 0, 1) := by decide +kernel
theorem dX11_text_89 : decode cX11_text 89 = .ok (.iastore, 1) := by decide +kernel
theorem dX11_text_90 : decode cX11_text 90 = .ok (.aload_n 0, 1) := by decide +kernel
theorem dX11_text_91 : decode cX11_text 91 = .ok (.getfield 64, 3) := by decide +kernel
theorem dX11_text_94 : decode cX11_text 94 = .ok (.iload_n 2, 1) := by decide +kernel
theorem dX11_text_95 : decode cX11_text 95 = .ok (.iconst 0, 1) := by decide +kernel
theorem dX11_text_96 : decode cX11_text 96 = .ok (.iastore, 1) := by decide +kernel
theorem dX11_text_97 : decode cX11_text 97 = .ok (.iinc 2 1, 3) := by decide +kernel
theorem dX11_text_100 : decode cX11_text 100 = .ok (.goto (-23), 3) := by decide +kernel
theorem dX11_text_103 : decode cX11_text 103 = .ok (.aload_n 0, 1) := by decide +kernel
theorem dX11_text_104 : decode cX11_text 104 = .ok (.iconst 0, 1) := by decide +kernel
theorem dX11_text_105 : decode cX11_text 105 = .ok (.putfield 241, 3) := by decide +kernel
theorem dX11_text_108 : decode cX11_text 108 = .ok (.aload_n 0, 1) := by decide +kernel
theorem dX11_text_109 : decode cX11_text 109 = .ok (.iconst 0, 1) := by decide +kernel
theorem dX11_text_110 : decode cX11_text 110 = .ok (.putfield 267, 3) := by decide +kernel
theorem dX11_text_113 : decode cX11_text 113 = .ok (.aload_n 0, 1) := by decide +kernel
theorem dX11_text_114 : decode cX11_text 114 = .ok (.iconst 0, 1) := by decide +kernel
theorem dX11_text_115 : decode cX11_text 115 = .ok (.putfield 300, 3) := by decide +kernel
theorem dX11_text_118 : decode cX11_text 118 = .ok (.aload_n 0, 1) := by decide +kernel
theorem dX11_text_119 : decode cX11_text 119 = .ok (.iconst 0, 1) := by decide +kernel
theorem dX11_text_120 : decode cX11_text 120 = .ok (.putfield 273, 3) := by decide +kernel
theorem dX11_text_123 : decode cX11_text 123 = .ok (.aload_n 0, 1) := by decide +kernel
theorem dX11_text_124 : decode cX11_text 124 = .ok (.invokevirtual 217, 3) := by decide +kernel
theorem dX11_text_127 : decode cX11_text 127 = .ok (.aload_n 0, 1) := by decide +kernel
theorem dX11_text_128 : decode cX11_text 128 = .ok (.getfield 211, 3) := by decide +kernel
theorem dX11_text_131 : decode cX11_text 131 = .ok (.ifCond .ne 18, 3) := by decide +kernel
theorem dX11_text_134 : decode cX11_text 134 = .ok (.aload_n 0, 1) := by decide +kernel
theorem dX11_text_135 : decode cX11_text 135 = .ok (.getfield 176, 3) := by decide +kernel
theorem dX11_text_138 : decode cX11_text 138 = .ok (.iconst 4, 1) := by decide +kernel
theorem dX11_text_139 : decode cX11_text 139 = .ok (.if_icmp .eq 10, 3) := by decide +kernel
theorem dX11_text_142 : decode cX11_text 142 = .ok (.aload_n 0, 1) := by decide +kernel
theorem dX11_text_143 : decode cX11_text 143 = .ok (.invokevirtual 303, 3) := by decide +kernel
theorem dX11_text_146 : decode cX11_text 146 = .ok (.goto (-19), 3) := by decide +kernel
theorem dX11_text_149 : decode cX11_text 149 = .ok (.aload_n 0, 1) := by decide +kernel
theorem dX11_text_150 : decode cX11_text 150 = .ok (.aload_n 0, 1) := by decide +kernel
theorem dX11_text_151 : decode cX11_text 151 = .ok (.getfield 211, 3) := by decide +kernel
theorem dX11_text_154 : decode cX11_text 154 = .ok (.putfield 306, 3) := by decide +kernel
theorem dX11_text_157 : decode cX11_text 157 = .ok (.aload_n 0, 1) := by decide +kernel
theorem dX11_text_158 : decode cX11_text 158 = .ok (.aload_n 0, 1) := by decide +kernel
theorem dX11_text_159 : decode cX11_text 159 = .ok (.getfield 214, 3) := by decide +kernel
theorem dX11_text_162 : decode cX11_text 162 = .ok (.putfield 73, 3) := by decide +kernel
theorem dX11_text_165 : decode cX11_text 165 = .ok (.aload_n 0, 1) := by decide +kernel
theorem dX11_text_166 : decode cX11_text 166 = .ok (.getfield 211, 3) := by decide +kernel
theorem dX11_text_169 : decode cX11_text 169 = .ok (.ifCond .eq 5, 3) := by decide +kernel
theorem dX11_text_172 : decode cX11_text 172 = .ok (.iconst (-1), 1) := by decide +kernel
theorem dX11_text_173 : decode cX11_text 173 = .ok (.ireturn, 1) := by decide +kernel
theorem dX11_text_174 : decode cX11_text 174 = .ok (.aload_n 0, 1) := by decide +kernel
theorem dX11_text_175 : decode cX11_text 175 = .ok (.getfield 13, 3) := by decide +kernel
theorem dX11_text_178 : decode cX11_text 178 = .ok (.invokestatic 309, 3) := by decide +kernel
theorem dX11_text_181 : decode cX11_text 181 = .ok (.aload_n 0, 1) := by decide +kernel
theorem dX11_text_182 : decode cX11_text 182 = .ok (.getfield 16, 3) := by decide +kernel
theorem dX11_text_185 : decode cX11_text 185 = .ok (.invokestatic 309, 3) := by decide +kernel
theorem dX11_text_188 : decode cX11_text 188 = .ok (.aload_n 0, 1) := by decide +kernel
theorem dX11_text_189 : decode cX11_text 189 = .ok (.getfield 19, 3) := by decide +kernel
theorem dX11_text_192 : decode cX11_text 192 = .ok (.invokestatic 309, 3) := by decide +kernel
theorem dX11_text_195 : decode cX11_text 195 = .ok (.aload_n 0, 1) := by decide +kernel
theorem dX11_text_196 : decode cX11_text 196 = .ok (.getfield 22, 3) := by decide +kernel
theorem dX11_text_199 : decode cX11_text 199 = .ok (.invokestatic 309, 3) := by decide +kernel
theorem dX11_text_202 : decode cX11_text 202 = .ok (.aload_n 0, 1) := by decide +kernel
theorem dX11_text_203 : decode cX11_text 203 = .ok (.getfield 25, 3) := by decide +kernel
theorem dX11_text_206 : decode cX11_text 206 = .ok (.invokestatic 309, 3) := by decide +kernel
theorem dX11_text_209 : decode cX11_text 209 = .ok (.aload_n 0, 1) := by decide +kernel
theorem dX11_text_210 : decode cX11_text 210 = .ok (.getfield 28, 3) := by decide +kernel
theorem dX11_text_213 : decode cX11_text 213 = .ok (.invokestatic 309, 3) := by decide +kernel
theorem dX11_text_216 : decode cX11_text 216 = .ok (.aload_n 0, 1) := by decide +kernel
theorem dX11_text_217 : decode cX11_text 217 = .ok (.getfield 31, 3) := by decide +kernel
theorem dX11_text_220 : decode cX11_text 220 = .ok (.invokestatic 309, 3) := by decide +kernel
theorem dX11_text_223 : decode cX11_text 223 = .ok (.aload_n 0, 1) := by decide +kernel
theorem dX11_text_224 : decode cX11_text 224 = .ok (.getfield 34, 3) := by decide +kernel
theorem dX11_text_227 : decode cX11_text 227 = .ok (.invokestatic 309, 3) := by decide +kernel
theorem dX11_text_230 : decode cX11_text 230 = .ok (.aload_n 0, 1) := by decide +kernel
theorem dX11_text_231 : decode cX11_text 231 = .ok (.getfield 37, 3) := by decide +kernel
theorem dX11_text_234 : decode cX11_text 234 = .ok (.invokestatic 309, 3) := by decide +kernel
theorem dX11_text_237 : decode cX11_text 237 = .ok (.aload_n 0, 1) := by decide +kernel
theorem dX11_text_238 : decode cX11_text 238 = .ok (.getfield 40, 3) := by decide +kernel
theorem dX11_text_241 : decode cX11_text 241 = .ok (.invokestatic 309, 3) := by decide +kernel
theorem dX11_text_244 : decode cX11_text 244 = .ok (.aload_n 0, 1) := by decide +kernel
theorem dX11_text_245 : decode cX11_text 245 = .ok (.getfield 43, 3) := by decide +kernel
theorem dX11_text_248 : decode cX11_text 248 = .ok (.invokestatic 309, 3) := by decide +kernel
theorem dX11_text_251 : decode cX11_text 251 = .ok (.aload_n 0, 1) := by decide +kernel
theorem dX11_text_252 : decode cX11_text 252 = .ok (.getfield 46, 3) := by decide +kernel
theorem dX11_text_255 : decode cX11_text 255 = .ok (.invokestatic 309, 3) := by decide +kernel
theorem dX11_text_258 : decode cX11_text 258 = .ok (.aload_n 0, 1) := by decide +kernel
theorem dX11_text_259 : decode cX11_text 259 = .ok (.getfield 49, 3) := by decide +kernel
theorem dX11_text_262 : decode cX11_text 262 = .ok (.invokestatic 309, 3) := by decide +kernel
theorem dX11_text_265 : decode cX11_text 265 = .ok (.aload_n 0, 1) := by decide +kernel
theorem dX11_text_266 : decode cX11_text 266 = .ok (.getfield 52, 3) := by decide +kernel
theorem dX11_text_269 : decode cX11_text 269 = .ok (.invokestatic 309, 3) := by decide +kernel
theorem dX11_text_272 : decode cX11_text 272 = .ok (.aload_n 0, 1) := by decide +kernel
theorem dX11_text_273 : decode cX11_text 273 = .ok (.getfield 55, 3) := by decide +kernel
theorem dX11_text_276 : decode cX11_text 276 = .ok (.invokestatic 309, 3) := by decide +kernel
theorem dX11_text_279 : decode cX11_text 279 = .ok (.aload_n 0, 1) := by decide +kernel
theorem dX11_text_280 : decode cX11_text 280 = .ok (.getfield 58, 3) := by decide +kernel
theorem dX11_text_283 : decode cX11_text 283 = .ok (.invokestatic 309, 3) := by decide +kernel
theorem dX11_text_286 : decode cX11_text 286 = .ok (.aload_n 0, 1) := by decide +kernel
theorem dX11_text_287 : decode cX11_text 287 = .ok (.getfield 61, 3) := by decide +kernel
theorem dX11_text_290 : decode cX11_text 290 = .ok (.invokestatic 309, 3) := by decide +kernel
theorem dX11_text_293 : decode cX11_text 293 = .ok (.aload_n 0, 1) := by decide +kernel
theorem dX11_text_294 : decode cX11_text 294 = .ok (.getfield 64, 3) := by decide +kernel
theorem dX11_text_297 : decode cX11_text 297 = .ok (.invokestatic 309, 3) := by decide +kernel
theorem dX11_text_300 : decode cX11_text 300 = .ok (.aload_n 0, 1) := by decide +kernel
theorem dX11_text_301 : decode cX11_text 301 = .ok (.getfield 67, 3) := by decide +kernel
theorem dX11_text_304 : decode cX11_text 304 = .ok (.invokestatic 309, 3) := by decide +kernel
theorem dX11_text_307 : decode cX11_text 307 = .ok (.aload_n 0, 1) := by decide +kernel
theorem dX11_text_308 : decode cX11_text 308 = .ok (.getfield 70, 3) := by decide +kernel
theorem dX11_text_311 : decode cX11_text 311 = .ok (.invokestatic 309, 3) := by decide +kernel
theorem dX11_text_314 : decode cX11_text 314 = .ok (.aload_n 0, 1) := by decide +kernel
theorem dX11_text_315 : decode cX11_text 315 = .ok (.iconst 0, 1) := by decide +kernel
theorem dX11_text_316 : decode cX11_text 316 = .ok (.putfield 313, 3) := by decide +kernel
theorem dX11_text_319 : decode cX11_text 319 = .ok (.aload_n 0, 1) := by decide +kernel
theorem dX11_text_320 : decode cX11_text 320 = .ok (.iconst (-1), 1) := by decide +kernel
theorem dX11_text_321 : decode cX11_text 321 = .ok (.putfield 135, 3) := by decide +kernel
theorem dX11_text_324 : decode cX11_text 324 = .ok (.aload_n 0, 1) := by decide +kernel
theorem dX11_text_325 : decode cX11_text 325 = .ok (.iconst 0, 1) := by decide +kernel
theorem dX11_text_326 : decode cX11_text 326 = .ok (.putfield 316, 3) := by decide +kernel
theorem dX11_text_329 : decode cX11_text 329 = .ok (.aload_n 0, 1) := by decide +kernel
theorem dX11_text_330 : decode cX11_text 330 = .ok (.iconst 0, 1) := by decide +kernel
theorem dX11_text_331 : decode cX11_text 331 = .ok (.putfield 320, 3) := by decide +kernel
theorem dX11_text_334 : decode cX11_text 334 = .ok (.aload_n 0, 1) := by decide +kernel
theorem dX11_text_335 : decode cX11_text 335 = .ok (.invokevirtual 154, 3) := by decide +kernel
theorem dX11_text_338 : decode cX11_text 338 = .ok (.aload_n 0, 1) := by decide +kernel
theorem dX11_text_339 : decode cX11_text 339 = .ok (.getfield 267, 3) := by decide +kernel
theorem dX11_text_342 : decode cX11_text 342 = .ok (.ireturn, 1) := by decide +kernel
theorem dX11_fault_0 : decode cX11_fault 0 = .ok (.aload_n 0, 1) := by decide +kernel
theorem dX11_fault_1 : decode cX11_fault 1 = .ok (.iconst 0, 1) := by decide +kernel
theorem dX11_fault_2 : decode cX11_fault 2 = .ok (.putfield 157, 3) := by decide +kernel
theorem dX11_fault_5 : decode cX11_fault 5 = .ok (.iload_n 1, 1) := by decide +kernel
theorem dX11_fault_6 : decode cX11_fault 6 = .ok (.ifCond .ne 10, 3) := by decide +kernel
theorem dX11_fault_9 : decode cX11_fault 9 = .ok (.aload_n 0, 1) := by decide +kernel
theorem dX11_fault_10 : decode cX11_fault 10 = .ok (.getfield 306, 3) := by decide +kernel
theorem dX11_fault_13 : decode cX11_fault 13 = .ok (.goto 16, 3) := by decide +kernel
theorem dX11_fault_16 : decode cX11_fault 16 = .ok (.iload_n 1, 1) := by decide +kernel
theorem dX11_fault_17 : decode cX11_fault 17 = .ok (.iconst 1, 1) := by decide +kernel
theorem dX11_fault_18 : decode cX11_fault 18 = .ok (.if_icmp .ne 10, 3) := by decide +kernel
theorem dX11_fault_21 : decode cX11_fault 21 = .ok (.aload_n 0, 1) := by decide +kernel
theorem dX11_fault_22 : decode cX11_fault 22 = .ok (.getfield 73, 3) := by decide +kernel
theorem dX11_fault_25 : decode cX11_fault 25 = .ok (.goto 4, 3) := by decide +kernel
theorem dX11_fault_28 : decode cX11_fault 28 = .ok (.iconst (-1), 1) := by decide +kernel
theorem dX11_fault_29 : decode cX11_fault 29 = .ok (.ireturn, 1) := by decide +kernel
theorem dX11_named_0 : decode cX11_named 0 = .ok (.aload_n 0, 1) := by decide +kernel
theorem dX11_named_1 : decode cX11_named 1 = .ok (.iconst 0, 1) := by decide +kernel
theorem dX11_named_2 : decode cX11_named 2 = .ok (.putfield 157, 3) := by decide +kernel
theorem dX11_named_5 : decode cX11_named 5 = .ok (.iload_n 1, 1) := by decide +kernel
theorem dX11_named_6 : decode cX11_named 6 = .ok (.tableswitch 74 0 2 #[26, 42, 58], 26) := by decide +kernel
theorem dX11_named_32 : decode cX11_named 32 = .ok (.aload_n 0, 1) := by decide +kernel
theorem dX11_named_33 : decode cX11_named 33 = .ok (.getfield 16, 3) := by decide +kernel
theorem dX11_named_36 : decode cX11_named 36 = .ok (.iconst 0, 1) := by decide +kernel
theorem dX11_named_37 : decode cX11_named 37 = .ok (.aload_n 0, 1) := by decide +kernel
theorem dX11_named_38 : decode cX11_named 38 = .ok (.getfield 13, 3) := by decide +kernel
theorem dX11_named_41 : decode cX11_named 41 = .ok (.iconst 0, 1) := by decide +kernel
theorem dX11_named_42 : decode cX11_named 42 = .ok (.iaload, 1) := by decide +kernel
theorem dX11_named_43 : decode cX11_named 43 = .ok (.iload_n 2, 1) := by decide +kernel
theorem dX11_named_44 : decode cX11_named 44 = .ok (.invokestatic 223, 3) := by decide +kernel
theorem dX11_named_47 : decode cX11_named 47 = .ok (.ireturn, 1) := by decide +kernel
theorem dX11_named_48 : decode cX11_named 48 = .ok (.aload_n 0, 1) := by decide +kernel
theorem dX11_named_49 : decode cX11_named 49 = .ok (.getfield 22, 3) := by decide +kernel
theorem dX11_named_52 : decode cX11_named 52 = .ok (.iconst 0, 1) := by decide +kernel
theorem dX11_named_53 : decode cX11_named 53 = .ok (.aload_n 0, 1) := by decide +kernel
theorem dX11_named_54 : decode cX11_named 54 = .ok (.getfield 13, 3) := by decide +kernel
theorem dX11_named_57 : decode cX11_named 57 = .ok (.iconst 1, 1) := by decide +kernel
theorem dX11_named_58 : decode cX11_named 58 = .ok (.iaload, 1) := by decide +kernel
theorem dX11_named_59 : decode cX11_named 59 = .ok (.iload_n 2, 1) := by decide +kernel
theorem dX11_named_60 : decode cX11_named 60 = .ok (.invokestatic 223, 3) := by decide +kernel
theorem dX11_named_63 : decode cX11_named 63 = .ok (.ireturn, 1) := by decide +kernel
theorem dX11_named_64 : decode cX11_named 64 = .ok (.aload_n 0, 1) := by decide +kernel
theorem dX11_named_65 : decode cX11_named 65 = .ok (.getfield 31, 3) := by decide +kernel
theorem dX11_named_68 : decode cX11_named 68 = .ok (.iconst 0, 1) := by decide +kernel
theorem dX11_named_69 : decode cX11_named 69 = .ok (.aload_n 0, 1) := by decide +kernel
theorem dX11_named_70 : decode cX11_named 70 = .ok (.getfield 13, 3) := by decide +kernel
theorem dX11_named_73 : decode cX11_named 73 = .ok (.iconst 2, 1) := by decide +kernel
theorem dX11_named_74 : decode cX11_named 74 = .ok (.iaload, 1) := by decide +kernel
theorem dX11_named_75 : decode cX11_named 75 = .ok (.iload_n 2, 1) := by decide +kernel
theorem dX11_named_76 : decode cX11_named 76 = .ok (.invokestatic 223, 3) := by decide +kernel
theorem dX11_named_79 : decode cX11_named 79 = .ok (.ireturn, 1) := by decide +kernel
theorem dX11_named_80 : decode cX11_named 80 = .ok (.iconst (-1), 1) := by decide +kernel
theorem dX11_named_81 : decode cX11_named 81 = .ok (.ireturn, 1) := by decide +kernel
theorem dX11_is_0 : decode cX11_is 0 = .ok (.iload_n 0, 1) := by decide +kernel
theorem dX11_is_1 : decode cX11_is 1 = .ok (.ifCond .eq 7, 3) := by decide +kernel
theorem dX11_is_4 : decode cX11_is 4 = .ok (.lconst 1, 1) := by decide +kernel
theorem dX11_is_5 : decode cX11_is 5 = .ok (.goto 4, 3) := by decide +kernel
theorem dX11_is_8 : decode cX11_is 8 = .ok (.lconst 0, 1) := by decide +kernel
theorem dX11_is_9 : decode cX11_is 9 = .ok (.lreturn, 1) := by decide +kernel
theorem dX11_works_0 : decode cX11_works 0 = .ok (.aload_n 0, 1) := by decide +kernel
theorem dX11_works_1 : decode cX11_works 1 = .ok (.getfield 81, 3) := by decide +kernel
theorem dX11_works_4 : decode cX11_works 4 = .ok (.aload_n 0, 1) := by decide +kernel
theorem dX11_works_5 : decode cX11_works 5 = .ok (.getfield 323, 3) := by decide +kernel
theorem dX11_works_8 : decode cX11_works 8 = .ok (.iconst 1, 1) := by decide +kernel
theorem dX11_works_9 : decode cX11_works 9 = .ok (.isub, 1) := by decide +kernel
theorem dX11_works_10 : decode cX11_works 10 = .ok (.laload, 1) := by decide +kernel
theorem dX11_works_11 : decode cX11_works 11 = .ok (.lstore_n 2, 1) := by decide +kernel
theorem dX11_works_12 : decode cX11_works 12 = .ok (.iload_n 1, 1) := by decide +kernel
theorem dX11_works_13 : decode cX11_works 13 = .ok (.sipush 260, 3) := by decide +kernel
theorem dX11_works_16 : decode cX11_works 16 = .ok (.if_icmp .ne 30, 3) := by decide +kernel
theorem dX11_works_19 : decode cX11_works 19 = .ok (.aload_n 0, 1) := by decide +kernel
theorem dX11_works_20 : decode cX11_works 20 = .ok (.getfield 81, 3) := by decide +kernel
theorem dX11_works_23 : decode cX11_works 23 = .ok (.aload_n 0, 1) := by decide +kernel
theorem dX11_works_24 : decode cX11_works 24 = .ok (.getfield 323, 3) := by decide +kernel
theorem dX11_works_27 : decode cX11_works 27 = .ok (.iconst 1, 1) := by decide +kernel
theorem dX11_works_28 : decode cX11_works 28 = .ok (.isub, 1) := by decide +kernel
theorem dX11_works_29 : decode cX11_works 29 = .ok (.lload_n 2, 1) := by decide +kernel
theorem dX11_works_30 : decode cX11_works 30 = .ok (.lconst 0, 1) := by decide +kernel
theorem dX11_works_31 : decode cX11_works 31 = .ok (.lcmp, 1) := by decide +kernel
theorem dX11_works_32 : decode cX11_works 32 = .ok (.ifCond .ne 7, 3) := by decide +kernel
theorem dX11_works_35 : decode cX11_works 35 = .ok (.iconst 1, 1) := by decide +kernel
theorem dX11_works_36 : decode cX11_works 36 = .ok (.goto 4, 3) := by decide +kernel
theorem dX11_works_39 : decode cX11_works 39 = .ok (.iconst 0, 1) := by decide +kernel
theorem dX11_works_40 : decode cX11_works 40 = .ok (.invokestatic 326, 3) := by decide +kernel
theorem dX11_works_43 : decode cX11_works 43 = .ok (.lastore, 1) := by decide +kernel
theorem dX11_works_44 : decode cX11_works 44 = .ok (.iconst 1, 1) := by decide +kernel
theorem dX11_works_45 : decode cX11_works 45 = .ok (.ireturn, 1) := by decide +kernel
theorem dX11_works_46 : decode cX11_works 46 = .ok (.aload_n 0, 1) := by decide +kernel
theorem dX11_works_47 : decode cX11_works 47 = .ok (.getfield 81, 3) := by decide +kernel
theorem dX11_works_50 : decode cX11_works 50 = .ok (.aload_n 0, 1) := by decide +kernel
theorem dX11_works_51 : decode cX11_works 51 = .ok (.getfield 323, 3) := by decide +kernel
theorem dX11_works_54 : decode cX11_works 54 = .ok (.iconst 2, 1) := by decide +kernel
theorem dX11_works_55 : decode cX11_works 55 = .ok (.isub, 1) := by decide +kernel
theorem dX11_works_56 : decode cX11_works 56 = .ok (.laload, 1) := by decide +kernel
theorem dX11_works_57 : decode cX11_works 57 = .ok (.lstore 4, 2) := by decide +kernel
theorem dX11_works_59 : decode cX11_works 59 = .ok (.aload_n 0, 1) := by decide +kernel
theorem dX11_works_60 : decode cX11_works 60 = .ok (.dup, 1) := by decide +kernel
theorem dX11_works_61 : decode cX11_works 61 = .ok (.getfield 323, 3) := by decide +kernel
theorem dX11_works_64 : decode cX11_works 64 = .ok (.iconst 1, 1) := by decide +kernel
theorem dX11_works_65 : decode cX11_works 65 = .ok (.isub, 1) := by decide +kernel
theorem dX11_works_66 : decode cX11_works 66 = .ok (.putfield 323, 3) := by decide +kernel
theorem dX11_works_69 : decode cX11_works 69 = .ok (.iload_n 1, 1) := by decide +kernel
theorem dX11_works_70 : decode cX11_works 70 = .ok (.lookupswitch 314 #[(42, 116), (43, 98), (45, 107), (47, 151), (60, 168), (61, 208), (62, 188), (256, 228), (257, 268), (258, 248), (261, 288)], 98) := by decide +kernel
theorem dX11_works_168 : decode cX11_works 168 = .ok (.lload 4, 2) := by decide +kernel
theorem dX11_works_170 : decode cX11_works 170 = .ok (.lload_n 2, 1) := by decide +kernel
theorem dX11_works_171 : decode cX11_works 171 = .ok (.ladd, 1) := by decide +kernel
theorem dX11_works_172 : decode cX11_works 172 = .ok (.lstore 6, 2) := by decide +kernel
theorem dX11_works_174 : decode cX11_works 174 = .ok (.goto 233, 3) := by decide +kernel
theorem dX11_works_177 : decode cX11_works 177 = .ok (.lload 4, 2) := by decide +kernel
theorem dX11_works_179 : decode cX11_works 179 = .ok (.lload_n 2, 1) := by decide +kernel
theorem dX11_works_180 : decode cX11_works 180 = .ok (.lsub, 1) := by decide +kernel
theorem dX11_works_181 : decode cX11_works 181 = .ok (.lstore 6, 2) := by decide +kernel
theorem dX11_works_183 : decode cX11_works 183 = .ok (.goto 224, 3) := by decide +kernel
theorem dX11_works_186 : decode cX11_works 186 = .ok (.lload 4, 2) := by decide +kernel
theorem dX11_works_188 : decode cX11_works 188 = .ok (.lconst 0, 1) := by decide +kernel
theorem dX11_works_189 : decode cX11_works 189 = .ok (.lcmp, 1) := by decide +kernel
theorem dX11_works_190 : decode cX11_works 190 = .ok (.ifCond .eq 22, 3) := by decide +kernel
theorem dX11_works_193 : decode cX11_works 193 = .ok (.lload_n 2, 1) := by decide +kernel
theorem dX11_works_194 : decode cX11_works 194 = .ok (.invokestatic 330, 3) := by decide +kernel
theorem dX11_works_197 : decode cX11_works 197 = .ok (.ldc2_w 336, 3) := by decide +kernel
theorem dX11_works_200 : decode cX11_works 200 = .ok (.lload 4, 2) := by decide +kernel
theorem dX11_works_202 : decode cX11_works 202 = .ok (.invokestatic 330, 3) := by decide +kernel
theorem dX11_works_205 : decode cX11_works 205 = .ok (.ldiv, 1) := by decide +kernel
theorem dX11_works_206 : decode cX11_works 206 = .ok (.lcmp, 1) := by decide +kernel
theorem dX11_works_207 : decode cX11_works 207 = .ok (.ifCond .le 5, 3) := by decide +kernel
theorem dX11_works_210 : decode cX11_works 210 = .ok (.iconst 0, 1) := by decide +kernel
theorem dX11_works_211 : decode cX11_works 211 = .ok (.ireturn, 1) := by decide +kernel
theorem dX11_works_212 : decode cX11_works 212 = .ok (.lload 4, 2) := by decide +kernel
theorem dX11_works_214 : decode cX11_works 214 = .ok (.lload_n 2, 1) := by decide +kernel
theorem dX11_works_215 : decode cX11_works 215 = .ok (.lmul, 1) := by decide +kernel
theorem dX11_works_216 : decode cX11_works 216 = .ok (.lstore 6, 2) := by decide +kernel
theorem dX11_works_218 : decode cX11_works 218 = .ok (.goto 189, 3) := by decide +kernel
theorem dX11_works_221 : decode cX11_works 221 = .ok (.lload_n 2, 1) := by decide +kernel
theorem dX11_works_222 : decode cX11_works 222 = .ok (.lconst 0, 1) := by decide +kernel
theorem dX11_works_223 : decode cX11_works 223 = .ok (.lcmp, 1) := by decide +kernel
theorem dX11_works_224 : decode cX11_works 224 = .ok (.ifCond .ne 5, 3) := by decide +kernel
theorem dX11_works_227 : decode cX11_works 227 = .ok (.iconst 0, 1) := by decide +kernel
theorem dX11_works_228 : decode cX11_works 228 = .ok (.ireturn, 1) := by decide +kernel
theorem dX11_works_229 : decode cX11_works 229 = .ok (.lload 4, 2) := by decide +kernel
theorem dX11_works_231 : decode cX11_works 231 = .ok (.lload_n 2, 1) := by decide +kernel
theorem dX11_works_232 : decode cX11_works 232 = .ok (.ldiv, 1) := by decide +kernel
theorem dX11_works_233 : decode cX11_works 233 = .ok (.lstore 6, 2) := by decide +kernel
theorem dX11_works_235 : decode cX11_works 235 = .ok (.goto 172, 3) := by decide +kernel
theorem dX11_works_238 : decode cX11_works 238 = .ok (.lload 4, 2) := by decide +kernel
theorem dX11_works_240 : decode cX11_works 240 = .ok (.lload_n 2, 1) := by decide +kernel
theorem dX11_works_241 : decode cX11_works 241 = .ok (.lcmp, 1) := by decide +kernel
theorem dX11_works_242 : decode cX11_works 242 = .ok (.ifCond .ge 7, 3) := by decide +kernel
theorem dX11_works_245 : decode cX11_works 245 = .ok (.iconst 1, 1) := by decide +kernel
theorem dX11_works_246 : decode cX11_works 246 = .ok (.goto 4, 3) := by decide +kernel
theorem dX11_works_249 : decode cX11_works 249 = .ok (.iconst 0, 1) := by decide +kernel
theorem dX11_works_250 : decode cX11_works 250 = .ok (.invokestatic 326, 3) := by decide +kernel
theorem dX11_works_253 : decode cX11_works 253 = .ok (.lstore 6, 2) := by decide +kernel
theorem dX11_works_255 : decode cX11_works 255 = .ok (.goto 152, 3) := by decide +kernel
theorem dX11_works_258 : decode cX11_works 258 = .ok (.lload 4, 2) := by decide +kernel
theorem dX11_works_260 : decode cX11_works 260 = .ok (.lload_n 2, 1) := by decide +kernel
theorem dX11_works_261 : decode cX11_works 261 = .ok (.lcmp, 1) := by decide +kernel
theorem dX11_works_262 : decode cX11_works 262 = .ok (.ifCond .le 7, 3) := by decide +kernel
theorem dX11_works_265 : decode cX11_works 265 = .ok (.iconst 1, 1) := by decide +kernel
theorem dX11_works_266 : decode cX11_works 266 = .ok (.goto 4, 3) := by decide +kernel
theorem dX11_works_269 : decode cX11_works 269 = .ok (.iconst 0, 1) := by decide +kernel
theorem dX11_works_270 : decode cX11_works 270 = .ok (.invokestatic 326, 3) := by decide +kernel
theorem dX11_works_273 : decode cX11_works 273 = .ok (.lstore 6, 2) := by decide +kernel
theorem dX11_works_275 : decode cX11_works 275 = .ok (.goto 132, 3) := by decide +kernel
theorem dX11_works_278 : decode cX11_works 278 = .ok (.lload 4, 2) := by decide +kernel
theorem dX11_works_280 : decode cX11_works 280 = .ok (.lload_n 2, 1) := by decide +kernel
theorem dX11_works_281 : decode cX11_works 281 = .ok (.lcmp, 1) := by decide +kernel
theorem dX11_works_282 : decode cX11_works 282 = .ok (.ifCond .ne 7, 3) := by decide +kernel
theorem dX11_works_285 : decode cX11_works 285 = .ok (.iconst 1, 1) := by decide +kernel
theorem dX11_works_286 : decode cX11_works 286 = .ok (.goto 4, 3) := by decide +kernel
theorem dX11_works_289 : decode cX11_works 289 = .ok (.iconst 0, 1) := by decide +kernel
theorem dX11_works_290 : decode cX11_works 290 = .ok (.invokestatic 326, 3) := by decide +kernel
theorem dX11_works_293 : decode cX11_works 293 = .ok (.lstore 6, 2) := by decide +kernel
theorem dX11_works_295 : decode cX11_works 295 = .ok (.goto 112, 3) := by decide +kernel
theorem dX11_works_298 : decode cX11_works 298 = .ok (.lload 4, 2) := by decide +kernel
theorem dX11_works_300 : decode cX11_works 300 = .ok (.lload_n 2, 1) := by decide +kernel
theorem dX11_works_301 : decode cX11_works 301 = .ok (.lcmp, 1) := by decide +kernel
theorem dX11_works_302 : decode cX11_works 302 = .ok (.ifCond .gt 7, 3) := by decide +kernel
theorem dX11_works_305 : decode cX11_works 305 = .ok (.iconst 1, 1) := by decide +kernel
theorem dX11_works_306 : decode cX11_works 306 = .ok (.goto 4, 3) := by decide +kernel
theorem dX11_works_309 : decode cX11_works 309 = .ok (.iconst 0, 1) := by decide +kernel
theorem dX11_works_310 : decode cX11_works 310 = .ok (.invokestatic 326, 3) := by decide +kernel
theorem dX11_works_313 : decode cX11_works 313 = .ok (.lstore 6, 2) := by decide +kernel
theorem dX11_works_315 : decode cX11_works 315 = .ok (.goto 92, 3) := by decide +kernel
theorem dX11_works_318 : decode cX11_works 318 = .ok (.lload 4, 2) := by decide +kernel
theorem dX11_works_320 : decode cX11_works 320 = .ok (.lload_n 2, 1) := by decide +kernel
theorem dX11_works_321 : decode cX11_works 321 = .ok (.lcmp, 1) := by decide +kernel
theorem dX11_works_322 : decode cX11_works 322 = .ok (.ifCond .lt 7, 3) := by decide +kernel
theorem dX11_works_325 : decode cX11_works 325 = .ok (.iconst 1, 1) := by decide +kernel
theorem dX11_works_326 : decode cX11_works 326 = .ok (.goto 4, 3) := by decide +kernel
theorem dX11_works_329 : decode cX11_works 329 = .ok (.iconst 0, 1) := by decide +kernel
theorem dX11_works_330 : decode cX11_works 330 = .ok (.invokestatic 326, 3) := by decide +kernel
theorem dX11_works_333 : decode cX11_works 333 = .ok (.lstore 6, 2) := by decide +kernel
theorem dX11_works_335 : decode cX11_works 335 = .ok (.goto 72, 3) := by decide +kernel
theorem dX11_works_338 : decode cX11_works 338 = .ok (.lload 4, 2) := by decide +kernel
theorem dX11_works_340 : decode cX11_works 340 = .ok (.lload_n 2, 1) := by decide +kernel
theorem dX11_works_341 : decode cX11_works 341 = .ok (.lcmp, 1) := by decide +kernel
theorem dX11_works_342 : decode cX11_works 342 = .ok (.ifCond .eq 7, 3) := by decide +kernel
theorem dX11_works_345 : decode cX11_works 345 = .ok (.iconst 1, 1) := by decide +kernel
theorem dX11_works_346 : decode cX11_works 346 = .ok (.goto 4, 3) := by decide +kernel
theorem dX11_works_349 : decode cX11_works 349 = .ok (.iconst 0, 1) := by decide +kernel
theorem dX11_works_350 : decode cX11_works 350 = .ok (.invokestatic 326, 3) := by decide +kernel
theorem dX11_works_353 : decode cX11_works 353 = .ok (.lstore 6, 2) := by decide +kernel
theorem dX11_works_355 : decode cX11_works 355 = .ok (.goto 52, 3) := by decide +kernel
theorem dX11_works_358 : decode cX11_works 358 = .ok (.lload 4, 2) := by decide +kernel
theorem dX11_works_360 : decode cX11_works 360 = .ok (.lconst 0, 1) := by decide +kernel
theorem dX11_works_361 : decode cX11_works 361 = .ok (.lcmp, 1) := by decide +kernel
theorem dX11_works_362 : decode cX11_works 362 = .ok (.ifCond .eq 13, 3) := by decide +kernel
theorem dX11_works_365 : decode cX11_works 365 = .ok (.lload_n 2, 1) := by decide +kernel
theorem dX11_works_366 : decode cX11_works 366 = .ok (.lconst 0, 1) := by decide +kernel
theorem dX11_works_367 : decode cX11_works 367 = .ok (.lcmp, 1) := by decide +kernel
theorem dX11_works_368 : decode cX11_works 368 = .ok (.ifCond .eq 7, 3) := by decide +kernel
theorem dX11_works_371 : decode cX11_works 371 = .ok (.iconst 1, 1) := by decide +kernel
theorem dX11_works_372 : decode cX11_works 372 = .ok (.goto 4, 3) := by decide +kernel
theorem dX11_works_375 : decode cX11_works 375 = .ok (.iconst 0, 1) := by decide +kernel
theorem dX11_works_376 : decode cX11_works 376 = .ok (.invokestatic 326, 3) := by decide +kernel
theorem dX11_works_379 : decode cX11_works 379 = .ok (.lstore 6, 2) := by decide +kernel
theorem dX11_works_381 : decode cX11_works 381 = .ok (.goto 26, 3) := by decide +kernel
theorem dX11_works_384 : decode cX11_works 384 = .ok (.lload 4, 2) := by decide +kernel
theorem dX11_works_386 : decode cX11_works 386 = .ok (.lconst 0, 1) := by decide +kernel
theorem dX11_works_387 : decode cX11_works 387 = .ok (.lcmp, 1) := by decide +kernel
theorem dX11_works_388 : decode cX11_works 388 = .ok (.ifCond .ne 9, 3) := by decide +kernel
theorem dX11_works_391 : decode cX11_works 391 = .ok (.lload_n 2, 1) := by decide +kernel
theorem dX11_works_392 : decode cX11_works 392 = .ok (.lconst 0, 1) := by decide +kernel
theorem dX11_works_393 : decode cX11_works 393 = .ok (.lcmp, 1) := by decide +kernel
theorem dX11_works_394 : decode cX11_works 394 = .ok (.ifCond .eq 7, 3) := by decide +kernel
theorem dX11_works_397 : decode cX11_works 397 = .ok (.iconst 1, 1) := by decide +kernel
theorem dX11_works_398 : decode cX11_works 398 = .ok (.goto 4, 3) := by decide +kernel
theorem dX11_works_401 : decode cX11_works 401 = .ok (.iconst 0, 1) := by decide +kernel
theorem dX11_works_402 : decode cX11_works 402 = .ok (.invokestatic 326, 3) := by decide +kernel
theorem dX11_works_405 : decode cX11_works 405 = .ok (.lstore 6, 2) := by decide +kernel
theorem dX11_works_407 : decode cX11_works 407 = .ok (.aload_n 0, 1) := by decide +kernel
theorem dX11_works_408 : decode cX11_works 408 = .ok (.getfield 81, 3) := by decide +kernel
theorem dX11_works_411 : decode cX11_works 411 = .ok (.aload_n 0, 1) := by decide +kernel
theorem dX11_works_412 : decode cX11_works 412 = .ok (.getfield 323, 3) := by decide +kernel
theorem dX11_works_415 : decode cX11_works 415 = .ok (.iconst 1, 1) := by decide +kernel
theorem dX11_works_416 : decode cX11_works 416 = .ok (.isub, 1) := by decide +kernel
theorem dX11_works_417 : decode cX11_works 417 = .ok (.lload 6, 2) := by decide +kernel
theorem dX11_works_419 : decode cX11_works 419 = .ok (.lastore, 1) := by decide +kernel
theorem dX11_works_420 : decode cX11_works 420 = .ok (.lload 6, 2) := by decide +kernel
theorem dX11_works_422 : decode cX11_works 422 = .ok (.ldc2_w 336, 3) := by decide +kernel
theorem dX11_works_425 : decode cX11_works 425 = .ok (.lcmp, 1) := by decide +kernel
theorem dX11_works_426 : decode cX11_works 426 = .ok (.ifCond .gt 16, 3) := by decide +kernel
theorem dX11_works_429 : decode cX11_works 429 = .ok (.lload 6, 2) := by decide +kernel
theorem dX11_works_431 : decode cX11_works 431 = .ok (.ldc2_w 338, 3) := by decide +kernel
theorem dX11_works_434 : decode cX11_works 434 = .ok (.lcmp, 1) := by decide +kernel
theorem dX11_works_435 : decode cX11_works 435 = .ok (.ifCond .lt 7, 3) := by decide +kernel
theorem dX11_works_438 : decode cX11_works 438 = .ok (.iconst 1, 1) := by decide +kernel
theorem dX11_works_439 : decode cX11_works 439 = .ok (.goto 4, 3) := by decide +kernel
theorem dX11_works_442 : decode cX11_works 442 = .ok (.iconst 0, 1) := by decide +kernel
theorem dX11_works_443 : decode cX11_works 443 = .ok (.ireturn, 1) := by decide +kernel
theorem dX11_goes_0 : decode cX11_goes 0 = .ok (.aload_n 0, 1) := by decide +kernel
theorem dX11_goes_1 : decode cX11_goes 1 = .ok (.iconst 0, 1) := by decide +kernel
theorem dX11_goes_2 : decode cX11_goes 2 = .ok (.putfield 323, 3) := by decide +kernel
theorem dX11_goes_5 : decode cX11_goes 5 = .ok (.aload_n 0, 1) := by decide +kernel
theorem dX11_goes_6 : decode cX11_goes 6 = .ok (.getfield 61, 3) := by decide +kernel
theorem dX11_goes_9 : decode cX11_goes 9 = .ok (.iload_n 1, 1) := by decide +kernel
theorem dX11_goes_10 : decode cX11_goes 10 = .ok (.iaload, 1) := by decide +kernel
theorem dX11_goes_11 : decode cX11_goes 11 = .ok (.istore_n 2, 1) := by decide +kernel
theorem dX11_goes_12 : decode cX11_goes 12 = .ok (.iload_n 2, 1) := by decide +kernel
theorem dX11_goes_13 : decode cX11_goes 13 = .ok (.aload_n 0, 1) := by decide +kernel
theorem dX11_goes_14 : decode cX11_goes 14 = .ok (.getfield 64, 3) := by decide +kernel
theorem dX11_goes_17 : decode cX11_goes 17 = .ok (.iload_n 1, 1) := by decide +kernel
theorem dX11_goes_18 : decode cX11_goes 18 = .ok (.iaload, 1) := by decide +kernel
theorem dX11_goes_19 : decode cX11_goes 19 = .ok (.if_icmp .ge 83, 3) := by decide +kernel
theorem dX11_goes_22 : decode cX11_goes 22 = .ok (.aload_n 0, 1) := by decide +kernel
theorem dX11_goes_23 : decode cX11_goes 23 = .ok (.getfield 67, 3) := by decide +kernel
theorem dX11_goes_26 : decode cX11_goes 26 = .ok (.iload_n 2, 1) := by decide +kernel
theorem dX11_goes_27 : decode cX11_goes 27 = .ok (.iaload, 1) := by decide +kernel
theorem dX11_goes_28 : decode cX11_goes 28 = .ok (.iconst 2, 1) := by decide +kernel
theorem dX11_goes_29 : decode cX11_goes 29 = .ok (.if_icmp .ne 18, 3) := by decide +kernel
theorem dX11_goes_32 : decode cX11_goes 32 = .ok (.aload_n 0, 1) := by decide +kernel
theorem dX11_goes_33 : decode cX11_goes 33 = .ok (.aload_n 0, 1) := by decide +kernel
theorem dX11_goes_34 : decode cX11_goes 34 = .ok (.getfield 70, 3) := by decide +kernel
theorem dX11_goes_37 : decode cX11_goes 37 = .ok (.iload_n 2, 1) := by decide +kernel
theorem dX11_goes_38 : decode cX11_goes 38 = .ok (.iaload, 1) := by decide +kernel
theorem dX11_goes_39 : decode cX11_goes 39 = .ok (.invokevirtual 340, 3) := by decide +kernel
theorem dX11_goes_42 : decode cX11_goes 42 = .ok (.ifCond .ne 54, 3) := by decide +kernel
theorem dX11_goes_45 : decode cX11_goes 45 = .ok (.iconst 0, 1) := by decide +kernel
theorem dX11_goes_46 : decode cX11_goes 46 = .ok (.ireturn, 1) := by decide +kernel
theorem dX11_goes_47 : decode cX11_goes 47 = .ok (.aload_n 0, 1) := by decide +kernel
theorem dX11_goes_48 : decode cX11_goes 48 = .ok (.getfield 81, 3) := by decide +kernel
theorem dX11_goes_51 : decode cX11_goes 51 = .ok (.aload_n 0, 1) := by decide +kernel
theorem dX11_goes_52 : decode cX11_goes 52 = .ok (.getfield 323, 3) := by decide +kernel
theorem dX11_goes_55 : decode cX11_goes 55 = .ok (.aload_n 0, 1) := by decide +kernel
theorem dX11_goes_56 : decode cX11_goes 56 = .ok (.getfield 67, 3) := by decide +kernel
theorem dX11_goes_59 : decode cX11_goes 59 = .ok (.iload_n 2, 1) := by decide +kernel
theorem dX11_goes_60 : decode cX11_goes 60 = .ok (.iaload, 1) := by decide +kernel
theorem dX11_goes_61 : decode cX11_goes 61 = .ok (.ifCond .ne 13, 3) := by decide +kernel
theorem dX11_goes_64 : decode cX11_goes 64 = .ok (.aload_n 0, 1) := by decide +kernel
theorem dX11_goes_65 : decode cX11_goes 65 = .ok (.getfield 70, 3) := by decide +kernel
theorem dX11_goes_68 : decode cX11_goes 68 = .ok (.iload_n 2, 1) := by decide +kernel
theorem dX11_goes_69 : decode cX11_goes 69 = .ok (.iaload, 1) := by decide +kernel
theorem dX11_goes_70 : decode cX11_goes 70 = .ok (.i2l, 1) := by decide +kernel
theorem dX11_goes_71 : decode cX11_goes 71 = .ok (.goto 14, 3) := by decide +kernel
theorem dX11_goes_74 : decode cX11_goes 74 = .ok (.aload_n 0, 1) := by decide +kernel
theorem dX11_goes_75 : decode cX11_goes 75 = .ok (.getfield 77, 3) := by decide +kernel
theorem dX11_goes_78 : decode cX11_goes 78 = .ok (.aload_n 0, 1) := by decide +kernel
theorem dX11_goes_79 : decode cX11_goes 79 = .ok (.getfield 70, 3) := by decide +kernel
theorem dX11_goes_82 : decode cX11_goes 82 = .ok (.iload_n 2, 1) := by decide +kernel
theorem dX11_goes_83 : decode cX11_goes 83 = .ok (.iaload, 1) := by decide +kernel
theorem dX11_goes_84 : decode cX11_goes 84 = .ok (.laload, 1) := by decide +kernel
theorem dX11_goes_85 : decode cX11_goes 85 = .ok (.lastore, 1) := by decide +kernel
theorem dX11_goes_86 : decode cX11_goes 86 = .ok (.aload_n 0, 1) := by decide +kernel
theorem dX11_goes_87 : decode cX11_goes 87 = .ok (.dup, 1) := by decide +kernel
theorem dX11_goes_88 : decode cX11_goes 88 = .ok (.getfield 323, 3) := by decide +kernel
theorem dX11_goes_91 : decode cX11_goes 91 = .ok (.iconst 1, 1) := by decide +kernel
theorem dX11_goes_92 : decode cX11_goes 92 = .ok (.iadd, 1) := by decide +kernel
theorem dX11_goes_93 : decode cX11_goes 93 = .ok (.putfield 323, 3) := by decide +kernel
theorem dX11_goes_96 : decode cX11_goes 96 = .ok (.iinc 2 1, 3) := by decide +kernel
theorem dX11_goes_99 : decode cX11_goes 99 = .ok (.goto (-87), 3) := by decide +kernel
theorem dX11_goes_102 : decode cX11_goes 102 = .ok (.iconst 1, 1) := by decide +kernel
theorem dX11_goes_103 : decode cX11_goes 103 = .ok (.ireturn, 1) := by decide +kernel
theorem dX11_hasLaw_0 : decode cX11_hasLaw 0 = .ok (.aload_n 0, 1) := by decide +kernel
theorem dX11_hasLaw_1 : decode cX11_hasLaw 1 = .ok (.getfield 64, 3) := by decide +kernel
theorem dX11_hasLaw_4 : decode cX11_hasLaw 4 = .ok (.iload_n 1, 1) := by decide +kernel
theorem dX11_hasLaw_5 : decode cX11_hasLaw 5 = .ok (.iaload, 1) := by decide +kernel
theorem dX11_hasLaw_6 : decode cX11_hasLaw 6 = .ok (.aload_n 0, 1) := by decide +kernel
theorem dX11_hasLaw_7 : decode cX11_hasLaw 7 = .ok (.getfield 61, 3) := by decide +kernel
theorem dX11_hasLaw_10 : decode cX11_hasLaw 10 = .ok (.iload_n 1, 1) := by decide +kernel
theorem dX11_hasLaw_11 : decode cX11_hasLaw 11 = .ok (.iaload, 1) := by decide +kernel
theorem dX11_hasLaw_12 : decode cX11_hasLaw 12 = .ok (.if_icmp .le 7, 3) := by decide +kernel
theorem dX11_hasLaw_15 : decode cX11_hasLaw 15 = .ok (.iconst 1, 1) := by decide +kernel
theorem dX11_hasLaw_16 : decode cX11_hasLaw 16 = .ok (.goto 4, 3) := by decide +kernel
theorem dX11_hasLaw_19 : decode cX11_hasLaw 19 = .ok (.iconst 0, 1) := by decide +kernel
theorem dX11_hasLaw_20 : decode cX11_hasLaw 20 = .ok (.ireturn, 1) := by decide +kernel
theorem dX11_copies_0 : decode cX11_copies 0 = .ok (.aload_n 0, 1) := by decide +kernel
theorem dX11_copies_1 : decode cX11_copies 1 = .ok (.getfield 84, 3) := by decide +kernel
theorem dX11_copies_4 : decode cX11_copies 4 = .ok (.iload_n 1, 1) := by decide +kernel
theorem dX11_copies_5 : decode cX11_copies 5 = .ok (.aload_n 0, 1) := by decide +kernel
theorem dX11_copies_6 : decode cX11_copies 6 = .ok (.getfield 84, 3) := by decide +kernel
theorem dX11_copies_9 : decode cX11_copies 9 = .ok (.iload_n 2, 1) := by decide +kernel
theorem dX11_copies_10 : decode cX11_copies 10 = .ok (.iaload, 1) := by decide +kernel
theorem dX11_copies_11 : decode cX11_copies 11 = .ok (.iastore, 1) := by decide +kernel
theorem dX11_copies_12 : decode cX11_copies 12 = .ok (.aload_n 0, 1) := by decide +kernel
theorem dX11_copies_13 : decode cX11_copies 13 = .ok (.getfield 87, 3) := by decide +kernel
theorem dX11_copies_16 : decode cX11_copies 16 = .ok (.iload_n 1, 1) := by decide +kernel
theorem dX11_copies_17 : decode cX11_copies 17 = .ok (.aload_n 0, 1) := by decide +kernel
theorem dX11_copies_18 : decode cX11_copies 18 = .ok (.getfield 87, 3) := by decide +kernel
theorem dX11_copies_21 : decode cX11_copies 21 = .ok (.iload_n 2, 1) := by decide +kernel
theorem dX11_copies_22 : decode cX11_copies 22 = .ok (.iaload, 1) := by decide +kernel
theorem dX11_copies_23 : decode cX11_copies 23 = .ok (.iastore, 1) := by decide +kernel
theorem dX11_copies_24 : decode cX11_copies 24 = .ok (.aload_n 0, 1) := by decide +kernel
theorem dX11_copies_25 : decode cX11_copies 25 = .ok (.getfield 90, 3) := by decide +kernel
theorem dX11_copies_28 : decode cX11_copies 28 = .ok (.iload_n 1, 1) := by decide +kernel
theorem dX11_copies_29 : decode cX11_copies 29 = .ok (.aload_n 0, 1) := by decide +kernel
theorem dX11_copies_30 : decode cX11_copies 30 = .ok (.getfield 90, 3) := by decide +kernel
theorem dX11_copies_33 : decode cX11_copies 33 = .ok (.iload_n 2, 1) := by decide +kernel
theorem dX11_copies_34 : decode cX11_copies 34 = .ok (.iaload, 1) := by decide +kernel
theorem dX11_copies_35 : decode cX11_copies 35 = .ok (.iastore, 1) := by decide +kernel
theorem dX11_copies_36 : decode cX11_copies 36 = .ok (.aload_n 0, 1) := by decide +kernel
theorem dX11_copies_37 : decode cX11_copies 37 = .ok (.getfield 93, 3) := by decide +kernel
theorem dX11_copies_40 : decode cX11_copies 40 = .ok (.iload_n 1, 1) := by decide +kernel
theorem dX11_copies_41 : decode cX11_copies 41 = .ok (.aload_n 0, 1) := by decide +kernel
theorem dX11_copies_42 : decode cX11_copies 42 = .ok (.getfield 93, 3) := by decide +kernel
theorem dX11_copies_45 : decode cX11_copies 45 = .ok (.iload_n 2, 1) := by decide +kernel
theorem dX11_copies_46 : decode cX11_copies 46 = .ok (.iaload, 1) := by decide +kernel
theorem dX11_copies_47 : decode cX11_copies 47 = .ok (.iastore, 1) := by decide +kernel
theorem dX11_copies_48 : decode cX11_copies 48 = .ok (.iconst 0, 1) := by decide +kernel
theorem dX11_copies_49 : decode cX11_copies 49 = .ok (.istore_n 3, 1) := by decide +kernel
theorem dX11_copies_50 : decode cX11_copies 50 = .ok (.iload_n 3, 1) := by decide +kernel
theorem dX11_copies_51 : decode cX11_copies 51 = .ok (.iconst 5, 1) := by decide +kernel
theorem dX11_copies_52 : decode cX11_copies 52 = .ok (.if_icmp .ge 29, 3) := by decide +kernel
theorem dX11_copies_55 : decode cX11_copies 55 = .ok (.aload_n 0, 1) := by decide +kernel
theorem dX11_copies_56 : decode cX11_copies 56 = .ok (.getfield 96, 3) := by decide +kernel
theorem dX11_copies_59 : decode cX11_copies 59 = .ok (.iconst 5, 1) := by decide +kernel
theorem dX11_copies_60 : decode cX11_copies 60 = .ok (.iload_n 1, 1) := by decide +kernel
theorem dX11_copies_61 : decode cX11_copies 61 = .ok (.imul, 1) := by decide +kernel
theorem dX11_copies_62 : decode cX11_copies 62 = .ok (.iload_n 3, 1) := by decide +kernel
theorem dX11_copies_63 : decode cX11_copies 63 = .ok (.iadd, 1) := by decide +kernel
theorem dX11_copies_64 : decode cX11_copies 64 = .ok (.aload_n 0, 1) := by decide +kernel
theorem dX11_copies_65 : decode cX11_copies 65 = .ok (.getfield 96, 3) := by decide +kernel
theorem dX11_copies_68 : decode cX11_copies 68 = .ok (.iconst 5, 1) := by decide +kernel
theorem dX11_copies_69 : decode cX11_copies 69 = .ok (.iload_n 2, 1) := by decide +kernel
theorem dX11_copies_70 : decode cX11_copies 70 = .ok (.imul, 1) := by decide +kernel
theorem dX11_copies_71 : decode cX11_copies 71 = .ok (.iload_n 3, 1) := by decide +kernel
theorem dX11_copies_72 : decode cX11_copies 72 = .ok (.iadd, 1) := by decide +kernel
theorem dX11_copies_73 : decode cX11_copies 73 = .ok (.iaload, 1) := by decide +kernel
theorem dX11_copies_74 : decode cX11_copies 74 = .ok (.iastore, 1) := by decide +kernel
theorem dX11_copies_75 : decode cX11_copies 75 = .ok (.iinc 3 1, 3) := by decide +kernel
theorem dX11_copies_78 : decode cX11_copies 78 = .ok (.goto (-28), 3) := by decide +kernel
theorem dX11_copies_81 : decode cX11_copies 81 = .ok (.iconst 0, 1) := by decide +kernel
theorem dX11_copies_82 : decode cX11_copies 82 = .ok (.istore_n 3, 1) := by decide +kernel
theorem dX11_copies_83 : decode cX11_copies 83 = .ok (.iload_n 3, 1) := by decide +kernel
theorem dX11_copies_84 : decode cX11_copies 84 = .ok (.bipush 25, 2) := by decide +kernel
theorem dX11_copies_86 : decode cX11_copies 86 = .ok (.if_icmp .ge 53, 3) := by decide +kernel
theorem dX11_copies_89 : decode cX11_copies 89 = .ok (.aload_n 0, 1) := by decide +kernel
theorem dX11_copies_90 : decode cX11_copies 90 = .ok (.getfield 99, 3) := by decide +kernel
theorem dX11_copies_93 : decode cX11_copies 93 = .ok (.bipush 25, 2) := by decide +kernel
theorem dX11_copies_95 : decode cX11_copies 95 = .ok (.iload_n 1, 1) := by decide +kernel
theorem dX11_copies_96 : decode cX11_copies 96 = .ok (.imul, 1) := by decide +kernel
theorem dX11_copies_97 : decode cX11_copies 97 = .ok (.iload_n 3, 1) := by decide +kernel
theorem dX11_copies_98 : decode cX11_copies 98 = .ok (.iadd, 1) := by decide +kernel
theorem dX11_copies_99 : decode cX11_copies 99 = .ok (.aload_n 0, 1) := by decide +kernel
theorem dX11_copies_100 : decode cX11_copies 100 = .ok (.getfield 99, 3) := by decide +kernel
theorem dX11_copies_103 : decode cX11_copies 103 = .ok (.bipush 25, 2) := by decide +kernel
theorem dX11_copies_105 : decode cX11_copies 105 = .ok (.iload_n 2, 1) := by decide +kernel
theorem dX11_copies_106 : decode cX11_copies 106 = .ok (.imul, 1) := by decide +kernel
theorem dX11_copies_107 : decode cX11_copies 107 = .ok (.iload_n 3, 1) := by decide +kernel
theorem dX11_copies_108 : decode cX11_copies 108 = .ok (.iadd, 1) := by decide +kernel
theorem dX11_copies_109 : decode cX11_copies 109 = .ok (.iaload, 1) := by decide +kernel
theorem dX11_copies_110 : decode cX11_copies 110 = .ok (.iastore, 1) := by decide +kernel
theorem dX11_copies_111 : decode cX11_copies 111 = .ok (.aload_n 0, 1) := by decide +kernel
theorem dX11_copies_112 : decode cX11_copies 112 = .ok (.getfield 102, 3) := by decide +kernel
theorem dX11_copies_115 : decode cX11_copies 115 = .ok (.bipush 25, 2) := by decide +kernel
theorem dX11_copies_117 : decode cX11_copies 117 = .ok (.iload_n 1, 1) := by decide +kernel
theorem dX11_copies_118 : decode cX11_copies 118 = .ok (.imul, 1) := by decide +kernel
theorem dX11_copies_119 : decode cX11_copies 119 = .ok (.iload_n 3, 1) := by decide +kernel
theorem dX11_copies_120 : decode cX11_copies 120 = .ok (.iadd, 1) := by decide +kernel
theorem dX11_copies_121 : decode cX11_copies 121 = .ok (.aload_n 0, 1) := by decide +kernel
theorem dX11_copies_122 : decode cX11_copies 122 = .ok (.getfield 102, 3) := by decide +kernel
theorem dX11_copies_125 : decode cX11_copies 125 = .ok (.bipush 25, 2) := by decide +kernel
theorem dX11_copies_127 : decode cX11_copies 127 = .ok (.iload_n 2, 1) := by decide +kernel
theorem dX11_copies_128 : decode cX11_copies 128 = .ok (.imul, 1) := by decide +kernel
theorem dX11_copies_129 : decode cX11_copies 129 = .ok (.iload_n 3, 1) := by decide +kernel
theorem dX11_copies_130 : decode cX11_copies 130 = .ok (.iadd, 1) := by decide +kernel
theorem dX11_copies_131 : decode cX11_copies 131 = .ok (.iaload, 1) := by decide +kernel
theorem dX11_copies_132 : decode cX11_copies 132 = .ok (.iastore, 1) := by decide +kernel
theorem dX11_copies_133 : decode cX11_copies 133 = .ok (.iinc 3 1, 3) := by decide +kernel
theorem dX11_copies_136 : decode cX11_copies 136 = .ok (.goto (-53), 3) := by decide +kernel
theorem dX11_copies_139 : decode cX11_copies 139 = .ok (.iconst 0, 1) := by decide +kernel
theorem dX11_copies_140 : decode cX11_copies 140 = .ok (.istore_n 3, 1) := by decide +kernel
theorem dX11_copies_141 : decode cX11_copies 141 = .ok (.iload_n 3, 1) := by decide +kernel
theorem dX11_copies_142 : decode cX11_copies 142 = .ok (.bipush 8, 2) := by decide +kernel
theorem dX11_copies_144 : decode cX11_copies 144 = .ok (.if_icmp .ge 31, 3) := by decide +kernel
theorem dX11_copies_147 : decode cX11_copies 147 = .ok (.aload_n 0, 1) := by decide +kernel
theorem dX11_copies_148 : decode cX11_copies 148 = .ok (.getfield 105, 3) := by decide +kernel
theorem dX11_copies_151 : decode cX11_copies 151 = .ok (.bipush 8, 2) := by decide +kernel
theorem dX11_copies_153 : decode cX11_copies 153 = .ok (.iload_n 1, 1) := by decide +kernel
theorem dX11_copies_154 : decode cX11_copies 154 = .ok (.imul, 1) := by decide +kernel
theorem dX11_copies_155 : decode cX11_copies 155 = .ok (.iload_n 3, 1) := by decide +kernel
theorem dX11_copies_156 : decode cX11_copies 156 = .ok (.iadd, 1) := by decide +kernel
theorem dX11_copies_157 : decode cX11_copies 157 = .ok (.aload_n 0, 1) := by decide +kernel
theorem dX11_copies_158 : decode cX11_copies 158 = .ok (.getfield 105, 3) := by decide +kernel
theorem dX11_copies_161 : decode cX11_copies 161 = .ok (.bipush 8, 2) := by decide +kernel
theorem dX11_copies_163 : decode cX11_copies 163 = .ok (.iload_n 2, 1) := by decide +kernel
theorem dX11_copies_164 : decode cX11_copies 164 = .ok (.imul, 1) := by decide +kernel
theorem dX11_copies_165 : decode cX11_copies 165 = .ok (.iload_n 3, 1) := by decide +kernel
theorem dX11_copies_166 : decode cX11_copies 166 = .ok (.iadd, 1) := by decide +kernel
theorem dX11_copies_167 : decode cX11_copies 167 = .ok (.iaload, 1) := by decide +kernel
theorem dX11_copies_168 : decode cX11_copies 168 = .ok (.iastore, 1) := by decide +kernel
theorem dX11_copies_169 : decode cX11_copies 169 = .ok (.iinc 3 1, 3) := by decide +kernel
theorem dX11_copies_172 : decode cX11_copies 172 = .ok (.goto (-31), 3) := by decide +kernel
theorem dX11_copies_175 : decode cX11_copies 175 = .ok (.iconst 0, 1) := by decide +kernel
theorem dX11_copies_176 : decode cX11_copies 176 = .ok (.istore_n 3, 1) := by decide +kernel
theorem dX11_copies_177 : decode cX11_copies 177 = .ok (.iload_n 3, 1) := by decide +kernel
theorem dX11_copies_178 : decode cX11_copies 178 = .ok (.bipush 12, 2) := by decide +kernel
theorem dX11_copies_180 : decode cX11_copies 180 = .ok (.if_icmp .ge 81, 3) := by decide +kernel
theorem dX11_copies_183 : decode cX11_copies 183 = .ok (.bipush 12, 2) := by decide +kernel
theorem dX11_copies_185 : decode cX11_copies 185 = .ok (.iload_n 1, 1) := by decide +kernel
theorem dX11_copies_186 : decode cX11_copies 186 = .ok (.imul, 1) := by decide +kernel
theorem dX11_copies_187 : decode cX11_copies 187 = .ok (.iload_n 3, 1) := by decide +kernel
theorem dX11_copies_188 : decode cX11_copies 188 = .ok (.iadd, 1) := by decide +kernel
theorem dX11_copies_189 : decode cX11_copies 189 = .ok (.istore 4, 2) := by decide +kernel
theorem dX11_copies_191 : decode cX11_copies 191 = .ok (.bipush 12, 2) := by decide +kernel
theorem dX11_copies_193 : decode cX11_copies 193 = .ok (.iload_n 2, 1) := by decide +kernel
theorem dX11_copies_194 : decode cX11_copies 194 = .ok (.imul, 1) := by decide +kernel
theorem dX11_copies_195 : decode cX11_copies 195 = .ok (.iload_n 3, 1) := by decide +kernel
theorem dX11_copies_196 : decode cX11_copies 196 = .ok (.iadd, 1) := by decide +kernel
theorem dX11_copies_197 : decode cX11_copies 197 = .ok (.istore 5, 2) := by decide +kernel
theorem dX11_copies_199 : decode cX11_copies 199 = .ok (.aload_n 0, 1) := by decide +kernel
theorem dX11_copies_200 : decode cX11_copies 200 = .ok (.getfield 108, 3) := by decide +kernel
theorem dX11_copies_203 : decode cX11_copies 203 = .ok (.iload 4, 2) := by decide +kernel
theorem dX11_copies_205 : decode cX11_copies 205 = .ok (.aload_n 0, 1) := by decide +kernel
theorem dX11_copies_206 : decode cX11_copies 206 = .ok (.getfield 108, 3) := by decide +kernel
theorem dX11_copies_209 : decode cX11_copies 209 = .ok (.iload 5, 2) := by decide +kernel
theorem dX11_copies_211 : decode cX11_copies 211 = .ok (.iaload, 1) := by decide +kernel
theorem dX11_copies_212 : decode cX11_copies 212 = .ok (.iastore, 1) := by decide +kernel
theorem dX11_copies_213 : decode cX11_copies 213 = .ok (.aload_n 0, 1) := by decide +kernel
theorem dX11_copies_214 : decode cX11_copies 214 = .ok (.getfield 111, 3) := by decide +kernel
theorem dX11_copies_217 : decode cX11_copies 217 = .ok (.iload 4, 2) := by decide +kernel
theorem dX11_copies_219 : decode cX11_copies 219 = .ok (.aload_n 0, 1) := by decide +kernel
theorem dX11_copies_220 : decode cX11_copies 220 = .ok (.getfield 111, 3) := by decide +kernel
theorem dX11_copies_223 : decode cX11_copies 223 = .ok (.iload 5, 2) := by decide +kernel
theorem dX11_copies_225 : decode cX11_copies 225 = .ok (.iaload, 1) := by decide +kernel
theorem dX11_copies_226 : decode cX11_copies 226 = .ok (.iastore, 1) := by decide +kernel
theorem dX11_copies_227 : decode cX11_copies 227 = .ok (.aload_n 0, 1) := by decide +kernel
theorem dX11_copies_228 : decode cX11_copies 228 = .ok (.getfield 114, 3) := by decide +kernel
theorem dX11_copies_231 : decode cX11_copies 231 = .ok (.iload 4, 2) := by decide +kernel
theorem dX11_copies_233 : decode cX11_copies 233 = .ok (.aload_n 0, 1) := by decide +kernel
theorem dX11_copies_234 : decode cX11_copies 234 = .ok (.getfield 114, 3) := by decide +kernel
theorem dX11_copies_237 : decode cX11_copies 237 = .ok (.iload 5, 2) := by decide +kernel
theorem dX11_copies_239 : decode cX11_copies 239 = .ok (.iaload, 1) := by decide +kernel
theorem dX11_copies_240 : decode cX11_copies 240 = .ok (.iastore, 1) := by decide +kernel
theorem dX11_copies_241 : decode cX11_copies 241 = .ok (.aload_n 0, 1) := by decide +kernel
theorem dX11_copies_242 : decode cX11_copies 242 = .ok (.getfield 117, 3) := by decide +kernel
theorem dX11_copies_245 : decode cX11_copies 245 = .ok (.iload 4, 2) := by decide +kernel
theorem dX11_copies_247 : decode cX11_copies 247 = .ok (.aload_n 0, 1) := by decide +kernel
theorem dX11_copies_248 : decode cX11_copies 248 = .ok (.getfield 117, 3) := by decide +kernel
theorem dX11_copies_251 : decode cX11_copies 251 = .ok (.iload 5, 2) := by decide +kernel
theorem dX11_copies_253 : decode cX11_copies 253 = .ok (.iaload, 1) := by decide +kernel
theorem dX11_copies_254 : decode cX11_copies 254 = .ok (.iastore, 1) := by decide +kernel
theorem dX11_copies_255 : decode cX11_copies 255 = .ok (.iinc 3 1, 3) := by decide +kernel
theorem dX11_copies_258 : decode cX11_copies 258 = .ok (.goto (-81), 3) := by decide +kernel
theorem dX11_copies_261 : decode cX11_copies 261 = .ok (.return_, 1) := by decide +kernel
theorem dX11_isMan_0 : decode cX11_isMan 0 = .ok (.iload_n 1, 1) := by decide +kernel
theorem dX11_isMan_1 : decode cX11_isMan 1 = .ok (.ifCond .lt 17, 3) := by decide +kernel
theorem dX11_isMan_4 : decode cX11_isMan 4 = .ok (.iload_n 1, 1) := by decide +kernel
theorem dX11_isMan_5 : decode cX11_isMan 5 = .ok (.aload_n 0, 1) := by decide +kernel
theorem dX11_isMan_6 : decode cX11_isMan 6 = .ok (.getfield 13, 3) := by decide +kernel
theorem dX11_isMan_9 : decode cX11_isMan 9 = .ok (.iconst 0, 1) := by decide +kernel
theorem dX11_isMan_10 : decode cX11_isMan 10 = .ok (.iaload, 1) := by decide +kernel
theorem dX11_isMan_11 : decode cX11_isMan 11 = .ok (.if_icmp .ge 7, 3) := by decide +kernel
theorem dX11_isMan_14 : decode cX11_isMan 14 = .ok (.iconst 1, 1) := by decide +kernel
theorem dX11_isMan_15 : decode cX11_isMan 15 = .ok (.goto 4, 3) := by decide +kernel
theorem dX11_isMan_18 : decode cX11_isMan 18 = .ok (.iconst 0, 1) := by decide +kernel
theorem dX11_isMan_19 : decode cX11_isMan 19 = .ok (.ireturn, 1) := by decide +kernel
theorem dX11_isSort_0 : decode cX11_isSort 0 = .ok (.iload_n 1, 1) := by decide +kernel
theorem dX11_isSort_1 : decode cX11_isSort 1 = .ok (.ifCond .lt 17, 3) := by decide +kernel
theorem dX11_isSort_4 : decode cX11_isSort 4 = .ok (.iload_n 1, 1) := by decide +kernel
theorem dX11_isSort_5 : decode cX11_isSort 5 = .ok (.aload_n 0, 1) := by decide +kernel
theorem dX11_isSort_6 : decode cX11_isSort 6 = .ok (.getfield 13, 3) := by decide +kernel
theorem dX11_isSort_9 : decode cX11_isSort 9 = .ok (.iconst 1, 1) := by decide +kernel
theorem dX11_isSort_10 : decode cX11_isSort 10 = .ok (.iaload, 1) := by decide +kernel
theorem dX11_isSort_11 : decode cX11_isSort 11 = .ok (.if_icmp .ge 7, 3) := by decide +kernel
theorem dX11_isSort_14 : decode cX11_isSort 14 = .ok (.iconst 1, 1) := by decide +kernel
theorem dX11_isSort_15 : decode cX11_isSort 15 = .ok (.goto 4, 3) := by decide +kernel
theorem dX11_isSort_18 : decode cX11_isSort 18 = .ok (.iconst 0, 1) := by decide +kernel
theorem dX11_isSort_19 : decode cX11_isSort 19 = .ok (.ireturn, 1) := by decide +kernel
theorem dX11_isDeed_0 : decode cX11_isDeed 0 = .ok (.iload_n 1, 1) := by decide +kernel
theorem dX11_isDeed_1 : decode cX11_isDeed 1 = .ok (.ifCond .lt 17, 3) := by decide +kernel
theorem dX11_isDeed_4 : decode cX11_isDeed 4 = .ok (.iload_n 1, 1) := by decide +kernel
theorem dX11_isDeed_5 : decode cX11_isDeed 5 = .ok (.aload_n 0, 1) := by decide +kernel
theorem dX11_isDeed_6 : decode cX11_isDeed 6 = .ok (.getfield 13, 3) := by decide +kernel
theorem dX11_isDeed_9 : decode cX11_isDeed 9 = .ok (.iconst 2, 1) := by decide +kernel
theorem dX11_isDeed_10 : decode cX11_isDeed 10 = .ok (.iaload, 1) := by decide +kernel
theorem dX11_isDeed_11 : decode cX11_isDeed 11 = .ok (.if_icmp .ge 7, 3) := by decide +kernel
theorem dX11_isDeed_14 : decode cX11_isDeed 14 = .ok (.iconst 1, 1) := by decide +kernel
theorem dX11_isDeed_15 : decode cX11_isDeed 15 = .ok (.goto 4, 3) := by decide +kernel
theorem dX11_isDeed_18 : decode cX11_isDeed 18 = .ok (.iconst 0, 1) := by decide +kernel
theorem dX11_isDeed_19 : decode cX11_isDeed 19 = .ok (.ireturn, 1) := by decide +kernel
theorem dX11_isSending_0 : decode cX11_isSending 0 = .ok (.iload_n 1, 1) := by decide +kernel
theorem dX11_isSending_1 : decode cX11_isSending 1 = .ok (.ifCond .lt 17, 3) := by decide +kernel
theorem dX11_isSending_4 : decode cX11_isSending 4 = .ok (.iload_n 1, 1) := by decide +kernel
theorem dX11_isSending_5 : decode cX11_isSending 5 = .ok (.aload_n 0, 1) := by decide +kernel
theorem dX11_isSending_6 : decode cX11_isSending 6 = .ok (.getfield 93, 3) := by decide +kernel
theorem dX11_isSending_9 : decode cX11_isSending 9 = .ok (.iconst 0, 1) := by decide +kernel
theorem dX11_isSending_10 : decode cX11_isSending 10 = .ok (.iaload, 1) := by decide +kernel
theorem dX11_isSending_11 : decode cX11_isSending 11 = .ok (.if_icmp .ge 7, 3) := by decide +kernel
theorem dX11_isSending_14 : decode cX11_isSending 14 = .ok (.iconst 1, 1) := by decide +kernel
theorem dX11_isSending_15 : decode cX11_isSending 15 = .ok (.goto 4, 3) := by decide +kernel
theorem dX11_isSending_18 : decode cX11_isSending 18 = .ok (.iconst 0, 1) := by decide +kernel
theorem dX11_isSending_19 : decode cX11_isSending 19 = .ok (.ireturn, 1) := by decide +kernel
theorem dX11_isPort_0 : decode cX11_isPort 0 = .ok (.iload_n 0, 1) := by decide +kernel
theorem dX11_isPort_1 : decode cX11_isPort 1 = .ok (.ifCond .eq 8, 3) := by decide +kernel
theorem dX11_isPort_4 : decode cX11_isPort 4 = .ok (.iload_n 0, 1) := by decide +kernel
theorem dX11_isPort_5 : decode cX11_isPort 5 = .ok (.iconst 1, 1) := by decide +kernel
theorem dX11_isPort_6 : decode cX11_isPort 6 = .ok (.if_icmp .ne 7, 3) := by decide +kernel
theorem dX11_isPort_9 : decode cX11_isPort 9 = .ok (.iconst 1, 1) := by decide +kernel
theorem dX11_isPort_10 : decode cX11_isPort 10 = .ok (.goto 4, 3) := by decide +kernel
theorem dX11_isPort_13 : decode cX11_isPort 13 = .ok (.iconst 0, 1) := by decide +kernel
theorem dX11_isPort_14 : decode cX11_isPort 14 = .ok (.ireturn, 1) := by decide +kernel
theorem dX11_bitsOf_0 : decode cX11_bitsOf 0 = .ok (.iconst 0, 1) := by decide +kernel
theorem dX11_bitsOf_1 : decode cX11_bitsOf 1 = .ok (.istore_n 1, 1) := by decide +kernel
theorem dX11_bitsOf_2 : decode cX11_bitsOf 2 = .ok (.iconst 0, 1) := by decide +kernel
theorem dX11_bitsOf_3 : decode cX11_bitsOf 3 = .ok (.istore_n 2, 1) := by decide +kernel
theorem dX11_bitsOf_4 : decode cX11_bitsOf 4 = .ok (.iload_n 2, 1) := by decide +kernel
theorem dX11_bitsOf_5 : decode cX11_bitsOf 5 = .ok (.bipush 26, 2) := by decide +kernel
theorem dX11_bitsOf_7 : decode cX11_bitsOf 7 = .ok (.if_icmp .ge 17, 3) := by decide +kernel
theorem dX11_bitsOf_10 : decode cX11_bitsOf 10 = .ok (.iload_n 1, 1) := by decide +kernel
theorem dX11_bitsOf_11 : decode cX11_bitsOf 11 = .ok (.iload_n 0, 1) := by decide +kernel
theorem dX11_bitsOf_12 : decode cX11_bitsOf 12 = .ok (.iload_n 2, 1) := by decide +kernel
theorem dX11_bitsOf_13 : decode cX11_bitsOf 13 = .ok (.ishr, 1) := by decide +kernel
theorem dX11_bitsOf_14 : decode cX11_bitsOf 14 = .ok (.iconst 1, 1) := by decide +kernel
theorem dX11_bitsOf_15 : decode cX11_bitsOf 15 = .ok (.iand, 1) := by decide +kernel
theorem dX11_bitsOf_16 : decode cX11_bitsOf 16 = .ok (.iadd, 1) := by decide +kernel
theorem dX11_bitsOf_17 : decode cX11_bitsOf 17 = .ok (.istore_n 1, 1) := by decide +kernel
theorem dX11_bitsOf_18 : decode cX11_bitsOf 18 = .ok (.iinc 2 1, 3) := by decide +kernel
theorem dX11_bitsOf_21 : decode cX11_bitsOf 21 = .ok (.goto (-17), 3) := by decide +kernel
theorem dX11_bitsOf_24 : decode cX11_bitsOf 24 = .ok (.iload_n 1, 1) := by decide +kernel
theorem dX11_bitsOf_25 : decode cX11_bitsOf 25 = .ok (.ireturn, 1) := by decide +kernel
theorem dX11_awayOf_0 : decode cX11_awayOf 0 = .ok (.iconst 0, 1) := by decide +kernel
theorem dX11_awayOf_1 : decode cX11_awayOf 1 = .ok (.istore_n 3, 1) := by decide +kernel
theorem dX11_awayOf_2 : decode cX11_awayOf 2 = .ok (.iconst 0, 1) := by decide +kernel
theorem dX11_awayOf_3 : decode cX11_awayOf 3 = .ok (.istore 4, 2) := by decide +kernel
theorem dX11_awayOf_5 : decode cX11_awayOf 5 = .ok (.iload 4, 2) := by decide +kernel
theorem dX11_awayOf_7 : decode cX11_awayOf 7 = .ok (.aload_n 0, 1) := by decide +kernel
theorem dX11_awayOf_8 : decode cX11_awayOf 8 = .ok (.getfield 13, 3) := by decide +kernel
theorem dX11_awayOf_11 : decode cX11_awayOf 11 = .ok (.iconst 1, 1) := by decide +kernel
theorem dX11_awayOf_12 : decode cX11_awayOf 12 = .ok (.iaload, 1) := by decide +kernel
theorem dX11_awayOf_13 : decode cX11_awayOf 13 = .ok (.if_icmp .ge 28, 3) := by decide +kernel
theorem dX11_awayOf_16 : decode cX11_awayOf 16 = .ok (.iload_n 3, 1) := by decide +kernel
theorem dX11_awayOf_17 : decode cX11_awayOf 17 = .ok (.aload_n 0, 1) := by decide +kernel
theorem dX11_awayOf_18 : decode cX11_awayOf 18 = .ok (.getfield 102, 3) := by decide +kernel
theorem dX11_awayOf_21 : decode cX11_awayOf 21 = .ok (.bipush 25, 2) := by decide +kernel
theorem dX11_awayOf_23 : decode cX11_awayOf 23 = .ok (.iload_n 1, 1) := by decide +kernel
theorem dX11_awayOf_24 : decode cX11_awayOf 24 = .ok (.imul, 1) := by decide +kernel
theorem dX11_awayOf_25 : decode cX11_awayOf 25 = .ok (.iconst 5, 1) := by decide +kernel
theorem dX11_awayOf_26 : decode cX11_awayOf 26 = .ok (.iload_n 2, 1) := by decide +kernel
theorem dX11_awayOf_27 : decode cX11_awayOf 27 = .ok (.imul, 1) := by decide +kernel
theorem dX11_awayOf_28 : decode cX11_awayOf 28 = .ok (.iadd, 1) := by decide +kernel
theorem dX11_awayOf_29 : decode cX11_awayOf 29 = .ok (.iload 4, 2) := by decide +kernel
theorem dX11_awayOf_31 : decode cX11_awayOf 31 = .ok (.iadd, 1) := by decide +kernel
theorem dX11_awayOf_32 : decode cX11_awayOf 32 = .ok (.iaload, 1) := by decide +kernel
theorem dX11_awayOf_33 : decode cX11_awayOf 33 = .ok (.iadd, 1) := by decide +kernel
theorem dX11_awayOf_34 : decode cX11_awayOf 34 = .ok (.istore_n 3, 1) := by decide +kernel
theorem dX11_awayOf_35 : decode cX11_awayOf 35 = .ok (.iinc 4 1, 3) := by decide +kernel
theorem dX11_awayOf_38 : decode cX11_awayOf 38 = .ok (.goto (-33), 3) := by decide +kernel
theorem dX11_awayOf_41 : decode cX11_awayOf 41 = .ok (.iload_n 3, 1) := by decide +kernel
theorem dX11_awayOf_42 : decode cX11_awayOf 42 = .ok (.ireturn, 1) := by decide +kernel
theorem dX11_boardOf_0 : decode cX11_boardOf 0 = .ok (.iconst 0, 1) := by decide +kernel
theorem dX11_boardOf_1 : decode cX11_boardOf 1 = .ok (.istore_n 2, 1) := by decide +kernel
theorem dX11_boardOf_2 : decode cX11_boardOf 2 = .ok (.iconst 0, 1) := by decide +kernel
theorem dX11_boardOf_3 : decode cX11_boardOf 3 = .ok (.istore_n 3, 1) := by decide +kernel
theorem dX11_boardOf_4 : decode cX11_boardOf 4 = .ok (.iload_n 3, 1) := by decide +kernel
theorem dX11_boardOf_5 : decode cX11_boardOf 5 = .ok (.aload_n 0, 1) := by decide +kernel
theorem dX11_boardOf_6 : decode cX11_boardOf 6 = .ok (.getfield 13, 3) := by decide +kernel
theorem dX11_boardOf_9 : decode cX11_boardOf 9 = .ok (.iconst 0, 1) := by decide +kernel
theorem dX11_boardOf_10 : decode cX11_boardOf 10 = .ok (.iaload, 1) := by decide +kernel
theorem dX11_boardOf_11 : decode cX11_boardOf 11 = .ok (.if_icmp .ge 24, 3) := by decide +kernel
theorem dX11_boardOf_14 : decode cX11_boardOf 14 = .ok (.iload_n 2, 1) := by decide +kernel
theorem dX11_boardOf_15 : decode cX11_boardOf 15 = .ok (.aload_n 0, 1) := by decide +kernel
theorem dX11_boardOf_16 : decode cX11_boardOf 16 = .ok (.getfield 346, 3) := by decide +kernel
theorem dX11_boardOf_19 : decode cX11_boardOf 19 = .ok (.iconst 5, 1) := by decide +kernel
theorem dX11_boardOf_20 : decode cX11_boardOf 20 = .ok (.iload_n 3, 1) := by decide +kernel
theorem dX11_boardOf_21 : decode cX11_boardOf 21 = .ok (.imul, 1) := by decide +kernel
theorem dX11_boardOf_22 : decode cX11_boardOf 22 = .ok (.iload_n 1, 1) := by decide +kernel
theorem dX11_boardOf_23 : decode cX11_boardOf 23 = .ok (.iadd, 1) := by decide +kernel
theorem dX11_boardOf_24 : decode cX11_boardOf 24 = .ok (.ishr, 1) := by decide +kernel
theorem dX11_boardOf_25 : decode cX11_boardOf 25 = .ok (.iconst 1, 1) := by decide +kernel
theorem dX11_boardOf_26 : decode cX11_boardOf 26 = .ok (.iand, 1) := by decide +kernel
theorem dX11_boardOf_27 : decode cX11_boardOf 27 = .ok (.iadd, 1) := by decide +kernel
theorem dX11_boardOf_28 : decode cX11_boardOf 28 = .ok (.istore_n 2, 1) := by decide +kernel
theorem dX11_boardOf_29 : decode cX11_boardOf 29 = .ok (.iinc 3 1, 3) := by decide +kernel
theorem dX11_boardOf_32 : decode cX11_boardOf 32 = .ok (.goto (-28), 3) := by decide +kernel
theorem dX11_boardOf_35 : decode cX11_boardOf 35 = .ok (.iload_n 2, 1) := by decide +kernel
theorem dX11_boardOf_36 : decode cX11_boardOf 36 = .ok (.ireturn, 1) := by decide +kernel
theorem dX11_calls_0 : decode cX11_calls 0 = .ok (.aload_n 0, 1) := by decide +kernel
theorem dX11_calls_1 : decode cX11_calls 1 = .ok (.getfield 77, 3) := by decide +kernel
theorem dX11_calls_4 : decode cX11_calls 4 = .ok (.iconst 0, 1) := by decide +kernel
theorem dX11_calls_5 : decode cX11_calls 5 = .ok (.iload_n 3, 1) := by decide +kernel
theorem dX11_calls_6 : decode cX11_calls 6 = .ok (.iconst (-1), 1) := by decide +kernel
theorem dX11_calls_7 : decode cX11_calls 7 = .ok (.if_icmp .ne 7, 3) := by decide +kernel
theorem dX11_calls_10 : decode cX11_calls 10 = .ok (.lconst 0, 1) := by decide +kernel
theorem dX11_calls_11 : decode cX11_calls 11 = .ok (.goto 10, 3) := by decide +kernel
theorem dX11_calls_14 : decode cX11_calls 14 = .ok (.aload_n 0, 1) := by decide +kernel
theorem dX11_calls_15 : decode cX11_calls 15 = .ok (.getfield 25, 3) := by decide +kernel
theorem dX11_calls_18 : decode cX11_calls 18 = .ok (.iload_n 3, 1) := by decide +kernel
theorem dX11_calls_19 : decode cX11_calls 19 = .ok (.iaload, 1) := by decide +kernel
theorem dX11_calls_20 : decode cX11_calls 20 = .ok (.i2l, 1) := by decide +kernel
theorem dX11_calls_21 : decode cX11_calls 21 = .ok (.lastore, 1) := by decide +kernel
theorem dX11_calls_22 : decode cX11_calls 22 = .ok (.aload_n 0, 1) := by decide +kernel
theorem dX11_calls_23 : decode cX11_calls 23 = .ok (.getfield 77, 3) := by decide +kernel
theorem dX11_calls_26 : decode cX11_calls 26 = .ok (.iconst 1, 1) := by decide +kernel
theorem dX11_calls_27 : decode cX11_calls 27 = .ok (.iload_n 3, 1) := by decide +kernel
theorem dX11_calls_28 : decode cX11_calls 28 = .ok (.iconst (-1), 1) := by decide +kernel
theorem dX11_calls_29 : decode cX11_calls 29 = .ok (.if_icmp .ne 7, 3) := by decide +kernel
theorem dX11_calls_32 : decode cX11_calls 32 = .ok (.lconst 0, 1) := by decide +kernel
theorem dX11_calls_33 : decode cX11_calls 33 = .ok (.goto 10, 3) := by decide +kernel
theorem dX11_calls_36 : decode cX11_calls 36 = .ok (.aload_n 0, 1) := by decide +kernel
theorem dX11_calls_37 : decode cX11_calls 37 = .ok (.getfield 28, 3) := by decide +kernel
theorem dX11_calls_40 : decode cX11_calls 40 = .ok (.iload_n 3, 1) := by decide +kernel
theorem dX11_calls_41 : decode cX11_calls 41 = .ok (.iaload, 1) := by decide +kernel
theorem dX11_calls_42 : decode cX11_calls 42 = .ok (.i2l, 1) := by decide +kernel
theorem dX11_calls_43 : decode cX11_calls 43 = .ok (.lastore, 1) := by decide +kernel
theorem dX11_calls_44 : decode cX11_calls 44 = .ok (.aload_n 0, 1) := by decide +kernel
theorem dX11_calls_45 : decode cX11_calls 45 = .ok (.getfield 77, 3) := by decide +kernel
theorem dX11_calls_48 : decode cX11_calls 48 = .ok (.iconst 2, 1) := by decide +kernel
theorem dX11_calls_49 : decode cX11_calls 49 = .ok (.iload_n 2, 1) := by decide +kernel
theorem dX11_calls_50 : decode cX11_calls 50 = .ok (.iconst (-1), 1) := by decide +kernel
theorem dX11_calls_51 : decode cX11_calls 51 = .ok (.if_icmp .ne 7, 3) := by decide +kernel
theorem dX11_calls_54 : decode cX11_calls 54 = .ok (.lconst 0, 1) := by decide +kernel
theorem dX11_calls_55 : decode cX11_calls 55 = .ok (.goto 14, 3) := by decide +kernel
theorem dX11_calls_58 : decode cX11_calls 58 = .ok (.aload_n 0, 1) := by decide +kernel
theorem dX11_calls_59 : decode cX11_calls 59 = .ok (.getfield 96, 3) := by decide +kernel
theorem dX11_calls_62 : decode cX11_calls 62 = .ok (.iconst 5, 1) := by decide +kernel
theorem dX11_calls_63 : decode cX11_calls 63 = .ok (.iload_n 1, 1) := by decide +kernel
theorem dX11_calls_64 : decode cX11_calls 64 = .ok (.imul, 1) := by decide +kernel
theorem dX11_calls_65 : decode cX11_calls 65 = .ok (.iload_n 2, 1) := by decide +kernel
theorem dX11_calls_66 : decode cX11_calls 66 = .ok (.iadd, 1) := by decide +kernel
theorem dX11_calls_67 : decode cX11_calls 67 = .ok (.iaload, 1) := by decide +kernel
theorem dX11_calls_68 : decode cX11_calls 68 = .ok (.i2l, 1) := by decide +kernel
theorem dX11_calls_69 : decode cX11_calls 69 = .ok (.lastore, 1) := by decide +kernel
theorem dX11_calls_70 : decode cX11_calls 70 = .ok (.aload_n 0, 1) := by decide +kernel
theorem dX11_calls_71 : decode cX11_calls 71 = .ok (.getfield 77, 3) := by decide +kernel
theorem dX11_calls_74 : decode cX11_calls 74 = .ok (.iconst 3, 1) := by decide +kernel
theorem dX11_calls_75 : decode cX11_calls 75 = .ok (.aload_n 0, 1) := by decide +kernel
theorem dX11_calls_76 : decode cX11_calls 76 = .ok (.getfield 346, 3) := by decide +kernel
theorem dX11_calls_79 : decode cX11_calls 79 = .ok (.invokestatic 349, 3) := by decide +kernel
theorem dX11_calls_82 : decode cX11_calls 82 = .ok (.i2l, 1) := by decide +kernel
theorem dX11_calls_83 : decode cX11_calls 83 = .ok (.lastore, 1) := by decide +kernel
theorem dX11_calls_84 : decode cX11_calls 84 = .ok (.aload_n 0, 1) := by decide +kernel
theorem dX11_calls_85 : decode cX11_calls 85 = .ok (.getfield 77, 3) := by decide +kernel
theorem dX11_calls_88 : decode cX11_calls 88 = .ok (.iconst 4, 1) := by decide +kernel
theorem dX11_calls_89 : decode cX11_calls 89 = .ok (.iload 4, 2) := by decide +kernel
theorem dX11_calls_91 : decode cX11_calls 91 = .ok (.i2l, 1) := by decide +kernel
theorem dX11_calls_92 : decode cX11_calls 92 = .ok (.lastore, 1) := by decide +kernel
theorem dX11_calls_93 : decode cX11_calls 93 = .ok (.aload_n 0, 1) := by decide +kernel
theorem dX11_calls_94 : decode cX11_calls 94 = .ok (.getfield 77, 3) := by decide +kernel
theorem dX11_calls_97 : decode cX11_calls 97 = .ok (.iconst 5, 1) := by decide +kernel
theorem dX11_calls_98 : decode cX11_calls 98 = .ok (.iload 5, 2) := by decide +kernel
theorem dX11_calls_100 : decode cX11_calls 100 = .ok (.i2l, 1) := by decide +kernel
theorem dX11_calls_101 : decode cX11_calls 101 = .ok (.lastore, 1) := by decide +kernel
theorem dX11_calls_102 : decode cX11_calls 102 = .ok (.aload_n 0, 1) := by decide +kernel
theorem dX11_calls_103 : decode cX11_calls 103 = .ok (.getfield 77, 3) := by decide +kernel
theorem dX11_calls_106 : decode cX11_calls 106 = .ok (.bipush 6, 2) := by decide +kernel
theorem dX11_calls_108 : decode cX11_calls 108 = .ok (.aload_n 0, 1) := by decide +kernel
theorem dX11_calls_109 : decode cX11_calls 109 = .ok (.getfield 84, 3) := by decide +kernel
theorem dX11_calls_112 : decode cX11_calls 112 = .ok (.iload_n 1, 1) := by decide +kernel
theorem dX11_calls_113 : decode cX11_calls 113 = .ok (.iaload, 1) := by decide +kernel
theorem dX11_calls_114 : decode cX11_calls 114 = .ok (.i2l, 1) := by decide +kernel
theorem dX11_calls_115 : decode cX11_calls 115 = .ok (.lastore, 1) := by decide +kernel
theorem dX11_calls_116 : decode cX11_calls 116 = .ok (.return_, 1) := by decide +kernel
theorem dX11_within_0 : decode cX11_within 0 = .ok (.aload_n 0, 1) := by decide +kernel
theorem dX11_within_1 : decode cX11_within 1 = .ok (.iload_n 1, 1) := by decide +kernel
theorem dX11_within_2 : decode cX11_within 2 = .ok (.invokevirtual 352, 3) := by decide +kernel
theorem dX11_within_5 : decode cX11_within 5 = .ok (.ifCond .eq 11, 3) := by decide +kernel
theorem dX11_within_8 : decode cX11_within 8 = .ok (.aload_n 0, 1) := by decide +kernel
theorem dX11_within_9 : decode cX11_within 9 = .ok (.iload_n 1, 1) := by decide +kernel
theorem dX11_within_10 : decode cX11_within 10 = .ok (.invokevirtual 355, 3) := by decide +kernel
theorem dX11_within_13 : decode cX11_within 13 = .ok (.ifCond .ne 5, 3) := by decide +kernel
theorem dX11_within_16 : decode cX11_within 16 = .ok (.iload_n 3, 1) := by decide +kernel
theorem dX11_within_17 : decode cX11_within 17 = .ok (.ireturn, 1) := by decide +kernel
theorem dX11_within_18 : decode cX11_within 18 = .ok (.lconst 0, 1) := by decide +kernel
theorem dX11_within_19 : decode cX11_within 19 = .ok (.iload_n 2, 1) := by decide +kernel
theorem dX11_within_20 : decode cX11_within 20 = .ok (.i2l, 1) := by decide +kernel
theorem dX11_within_21 : decode cX11_within 21 = .ok (.aload_n 0, 1) := by decide +kernel
theorem dX11_within_22 : decode cX11_within 22 = .ok (.getfield 81, 3) := by decide +kernel
theorem dX11_within_25 : decode cX11_within 25 = .ok (.iconst 0, 1) := by decide +kernel
theorem dX11_within_26 : decode cX11_within 26 = .ok (.laload, 1) := by decide +kernel
theorem dX11_within_27 : decode cX11_within 27 = .ok (.invokestatic 358, 3) := by decide +kernel
theorem dX11_within_30 : decode cX11_within 30 = .ok (.invokestatic 362, 3) := by decide +kernel
theorem dX11_within_33 : decode cX11_within 33 = .ok (.l2i, 1) := by decide +kernel
theorem dX11_within_34 : decode cX11_within 34 = .ok (.ireturn, 1) := by decide +kernel
theorem dX11_canDo_0 : decode cX11_canDo 0 = .ok (.iconst 0, 1) := by decide +kernel
theorem dX11_canDo_1 : decode cX11_canDo 1 = .ok (.istore 5, 2) := by decide +kernel
theorem dX11_canDo_3 : decode cX11_canDo 3 = .ok (.iload 5, 2) := by decide +kernel
theorem dX11_canDo_5 : decode cX11_canDo 5 = .ok (.aload_n 0, 1) := by decide +kernel
theorem dX11_canDo_6 : decode cX11_canDo 6 = .ok (.getfield 13, 3) := by decide +kernel
theorem dX11_canDo_9 : decode cX11_canDo 9 = .ok (.iconst 1, 1) := by decide +kernel
theorem dX11_canDo_10 : decode cX11_canDo 10 = .ok (.iaload, 1) := by decide +kernel
theorem dX11_canDo_11 : decode cX11_canDo 11 = .ok (.if_icmp .ge 47, 3) := by decide +kernel
theorem dX11_canDo_14 : decode cX11_canDo 14 = .ok (.aload_n 0, 1) := by decide +kernel
theorem dX11_canDo_15 : decode cX11_canDo 15 = .ok (.getfield 34, 3) := by decide +kernel
theorem dX11_canDo_18 : decode cX11_canDo 18 = .ok (.iload_n 3, 1) := by decide +kernel
theorem dX11_canDo_19 : decode cX11_canDo 19 = .ok (.iaload, 1) := by decide +kernel
theorem dX11_canDo_20 : decode cX11_canDo 20 = .ok (.iload 5, 2) := by decide +kernel
theorem dX11_canDo_22 : decode cX11_canDo 22 = .ok (.ishr, 1) := by decide +kernel
theorem dX11_canDo_23 : decode cX11_canDo 23 = .ok (.iconst 1, 1) := by decide +kernel
theorem dX11_canDo_24 : decode cX11_canDo 24 = .ok (.iand, 1) := by decide +kernel
theorem dX11_canDo_25 : decode cX11_canDo 25 = .ok (.iconst 1, 1) := by decide +kernel
theorem dX11_canDo_26 : decode cX11_canDo 26 = .ok (.if_icmp .ne 26, 3) := by decide +kernel
theorem dX11_canDo_29 : decode cX11_canDo 29 = .ok (.aload_n 0, 1) := by decide +kernel
theorem dX11_canDo_30 : decode cX11_canDo 30 = .ok (.getfield 102, 3) := by decide +kernel
theorem dX11_canDo_33 : decode cX11_canDo 33 = .ok (.bipush 25, 2) := by decide +kernel
theorem dX11_canDo_35 : decode cX11_canDo 35 = .ok (.iload_n 1, 1) := by decide +kernel
theorem dX11_canDo_36 : decode cX11_canDo 36 = .ok (.imul, 1) := by decide +kernel
theorem dX11_canDo_37 : decode cX11_canDo 37 = .ok (.iconst 5, 1) := by decide +kernel
theorem dX11_canDo_38 : decode cX11_canDo 38 = .ok (.iload_n 2, 1) := by decide +kernel
theorem dX11_canDo_39 : decode cX11_canDo 39 = .ok (.imul, 1) := by decide +kernel
theorem dX11_canDo_40 : decode cX11_canDo 40 = .ok (.iadd, 1) := by decide +kernel
theorem dX11_canDo_41 : decode cX11_canDo 41 = .ok (.iload 5, 2) := by decide +kernel
theorem dX11_canDo_43 : decode cX11_canDo 43 = .ok (.iadd, 1) := by decide +kernel
theorem dX11_canDo_44 : decode cX11_canDo 44 = .ok (.iaload, 1) := by decide +kernel
theorem dX11_canDo_45 : decode cX11_canDo 45 = .ok (.iload 4, 2) := by decide +kernel
theorem dX11_canDo_47 : decode cX11_canDo 47 = .ok (.if_icmp .eq 5, 3) := by decide +kernel
theorem dX11_canDo_50 : decode cX11_canDo 50 = .ok (.iconst 0, 1) := by decide +kernel
theorem dX11_canDo_51 : decode cX11_canDo 51 = .ok (.ireturn, 1) := by decide +kernel
theorem dX11_canDo_52 : decode cX11_canDo 52 = .ok (.iinc 5 1, 3) := by decide +kernel
theorem dX11_canDo_55 : decode cX11_canDo 55 = .ok (.goto (-52), 3) := by decide +kernel
theorem dX11_canDo_58 : decode cX11_canDo 58 = .ok (.iconst 1, 1) := by decide +kernel
theorem dX11_canDo_59 : decode cX11_canDo 59 = .ok (.ireturn, 1) := by decide +kernel
theorem dX11_wants_0 : decode cX11_wants 0 = .ok (.aload_n 0, 1) := by decide +kernel
theorem dX11_wants_1 : decode cX11_wants 1 = .ok (.getfield 46, 3) := by decide +kernel
theorem dX11_wants_4 : decode cX11_wants 4 = .ok (.iload_n 2, 1) := by decide +kernel
theorem dX11_wants_5 : decode cX11_wants 5 = .ok (.iaload, 1) := by decide +kernel
theorem dX11_wants_6 : decode cX11_wants 6 = .ok (.istore_n 3, 1) := by decide +kernel
theorem dX11_wants_7 : decode cX11_wants 7 = .ok (.aload_n 0, 1) := by decide +kernel
theorem dX11_wants_8 : decode cX11_wants 8 = .ok (.iload_n 1, 1) := by decide +kernel
theorem dX11_wants_9 : decode cX11_wants 9 = .ok (.iload_n 3, 1) := by decide +kernel
theorem dX11_wants_10 : decode cX11_wants 10 = .ok (.aload_n 0, 1) := by decide +kernel
theorem dX11_wants_11 : decode cX11_wants 11 = .ok (.getfield 49, 3) := by decide +kernel
theorem dX11_wants_14 : decode cX11_wants 14 = .ok (.iload_n 2, 1) := by decide +kernel
theorem dX11_wants_15 : decode cX11_wants 15 = .ok (.iaload, 1) := by decide +kernel
theorem dX11_wants_16 : decode cX11_wants 16 = .ok (.aload_n 0, 1) := by decide +kernel
theorem dX11_wants_17 : decode cX11_wants 17 = .ok (.getfield 52, 3) := by decide +kernel
theorem dX11_wants_20 : decode cX11_wants 20 = .ok (.iload_n 2, 1) := by decide +kernel
theorem dX11_wants_21 : decode cX11_wants 21 = .ok (.iaload, 1) := by decide +kernel
theorem dX11_wants_22 : decode cX11_wants 22 = .ok (.invokevirtual 365, 3) := by decide +kernel
theorem dX11_wants_25 : decode cX11_wants 25 = .ok (.ifCond .ne 16, 3) := by decide +kernel
theorem dX11_wants_28 : decode cX11_wants 28 = .ok (.aload_n 0, 1) := by decide +kernel
theorem dX11_wants_29 : decode cX11_wants 29 = .ok (.getfield 105, 3) := by decide +kernel
theorem dX11_wants_32 : decode cX11_wants 32 = .ok (.bipush 8, 2) := by decide +kernel
theorem dX11_wants_34 : decode cX11_wants 34 = .ok (.iload_n 1, 1) := by decide +kernel
theorem dX11_wants_35 : decode cX11_wants 35 = .ok (.imul, 1) := by decide +kernel
theorem dX11_wants_36 : decode cX11_wants 36 = .ok (.iload_n 2, 1) := by decide +kernel
theorem dX11_wants_37 : decode cX11_wants 37 = .ok (.iadd, 1) := by decide +kernel
theorem dX11_wants_38 : decode cX11_wants 38 = .ok (.iconst 2, 1) := by decide +kernel
theorem dX11_wants_39 : decode cX11_wants 39 = .ok (.iastore, 1) := by decide +kernel
theorem dX11_wants_40 : decode cX11_wants 40 = .ok (.return_, 1) := by decide +kernel
theorem dX11_wants_41 : decode cX11_wants 41 = .ok (.aload_n 0, 1) := by decide +kernel
theorem dX11_wants_42 : decode cX11_wants 42 = .ok (.getfield 105, 3) := by decide +kernel
theorem dX11_wants_45 : decode cX11_wants 45 = .ok (.bipush 8, 2) := by decide +kernel
theorem dX11_wants_47 : decode cX11_wants 47 = .ok (.iload_n 1, 1) := by decide +kernel
theorem dX11_wants_48 : decode cX11_wants 48 = .ok (.imul, 1) := by decide +kernel
theorem dX11_wants_49 : decode cX11_wants 49 = .ok (.iload_n 2, 1) := by decide +kernel
theorem dX11_wants_50 : decode cX11_wants 50 = .ok (.iadd, 1) := by decide +kernel
theorem dX11_wants_51 : decode cX11_wants 51 = .ok (.iconst 1, 1) := by decide +kernel
theorem dX11_wants_52 : decode cX11_wants 52 = .ok (.iastore, 1) := by decide +kernel
theorem dX11_wants_53 : decode cX11_wants 53 = .ok (.aload_n 0, 1) := by decide +kernel
theorem dX11_wants_54 : decode cX11_wants 54 = .ok (.iload_n 1, 1) := by decide +kernel
theorem dX11_wants_55 : decode cX11_wants 55 = .ok (.iload_n 3, 1) := by decide +kernel
theorem dX11_wants_56 : decode cX11_wants 56 = .ok (.iconst (-1), 1) := by decide +kernel
theorem dX11_wants_57 : decode cX11_wants 57 = .ok (.aload_n 0, 1) := by decide +kernel
theorem dX11_wants_58 : decode cX11_wants 58 = .ok (.iload_n 1, 1) := by decide +kernel
theorem dX11_wants_59 : decode cX11_wants 59 = .ok (.iload_n 3, 1) := by decide +kernel
theorem dX11_wants_60 : decode cX11_wants 60 = .ok (.invokevirtual 369, 3) := by decide +kernel
theorem dX11_wants_63 : decode cX11_wants 63 = .ok (.aload_n 0, 1) := by decide +kernel
theorem dX11_wants_64 : decode cX11_wants 64 = .ok (.getfield 58, 3) := by decide +kernel
theorem dX11_wants_67 : decode cX11_wants 67 = .ok (.iload_n 2, 1) := by decide +kernel
theorem dX11_wants_68 : decode cX11_wants 68 = .ok (.iaload, 1) := by decide +kernel
theorem dX11_wants_69 : decode cX11_wants 69 = .ok (.invokevirtual 372, 3) := by decide +kernel
theorem dX11_wants_72 : decode cX11_wants 72 = .ok (.aload_n 0, 1) := by decide +kernel
theorem dX11_wants_73 : decode cX11_wants 73 = .ok (.getfield 96, 3) := by decide +kernel
theorem dX11_wants_76 : decode cX11_wants 76 = .ok (.iconst 5, 1) := by decide +kernel
theorem dX11_wants_77 : decode cX11_wants 77 = .ok (.iload_n 1, 1) := by decide +kernel
theorem dX11_wants_78 : decode cX11_wants 78 = .ok (.imul, 1) := by decide +kernel
theorem dX11_wants_79 : decode cX11_wants 79 = .ok (.iload_n 3, 1) := by decide +kernel
theorem dX11_wants_80 : decode cX11_wants 80 = .ok (.iadd, 1) := by decide +kernel
theorem dX11_wants_81 : decode cX11_wants 81 = .ok (.ldc 195, 2) := by decide +kernel
theorem dX11_wants_83 : decode cX11_wants 83 = .ok (.aload_n 0, 1) := by decide +kernel
theorem dX11_wants_84 : decode cX11_wants 84 = .ok (.getfield 96, 3) := by decide +kernel
theorem dX11_wants_87 : decode cX11_wants 87 = .ok (.iconst 5, 1) := by decide +kernel
theorem dX11_wants_88 : decode cX11_wants 88 = .ok (.iload_n 1, 1) := by decide +kernel
theorem dX11_wants_89 : decode cX11_wants 89 = .ok (.imul, 1) := by decide +kernel
theorem dX11_wants_90 : decode cX11_wants 90 = .ok (.iload_n 3, 1) := by decide +kernel
theorem dX11_wants_91 : decode cX11_wants 91 = .ok (.iadd, 1) := by decide +kernel
theorem dX11_wants_92 : decode cX11_wants 92 = .ok (.iaload, 1) := by decide +kernel
theorem dX11_wants_93 : decode cX11_wants 93 = .ok (.aload_n 0, 1) := by decide +kernel
theorem dX11_wants_94 : decode cX11_wants 94 = .ok (.iconst 1, 1) := by decide +kernel
theorem dX11_wants_95 : decode cX11_wants 95 = .ok (.sipush 999, 3) := by decide +kernel
theorem dX11_wants_98 : decode cX11_wants 98 = .ok (.aload_n 0, 1) := by decide +kernel
theorem dX11_wants_99 : decode cX11_wants 99 = .ok (.getfield 58, 3) := by decide +kernel
theorem dX11_wants_102 : decode cX11_wants 102 = .ok (.iload_n 2, 1) := by decide +kernel
theorem dX11_wants_103 : decode cX11_wants 103 = .ok (.iaload, 1) := by decide +kernel
theorem dX11_wants_104 : decode cX11_wants 104 = .ok (.invokevirtual 376, 3) := by decide +kernel
theorem dX11_wants_107 : decode cX11_wants 107 = .ok (.iadd, 1) := by decide +kernel
theorem dX11_wants_108 : decode cX11_wants 108 = .ok (.invokestatic 380, 3) := by decide +kernel
theorem dX11_wants_111 : decode cX11_wants 111 = .ok (.iastore, 1) := by decide +kernel
theorem dX11_wants_112 : decode cX11_wants 112 = .ok (.return_, 1) := by decide +kernel
theorem dX11_fareOf_0 : decode cX11_fareOf 0 = .ok (.aload_n 0, 1) := by decide +kernel
theorem dX11_fareOf_1 : decode cX11_fareOf 1 = .ok (.getfield 382, 3) := by decide +kernel
theorem dX11_fareOf_4 : decode cX11_fareOf 4 = .ok (.iconst 4, 1) := by decide +kernel
theorem dX11_fareOf_5 : decode cX11_fareOf 5 = .ok (.if_icmp .ne 5, 3) := by decide +kernel
theorem dX11_fareOf_8 : decode cX11_fareOf 8 = .ok (.iconst 0, 1) := by decide +kernel
theorem dX11_fareOf_9 : decode cX11_fareOf 9 = .ok (.ireturn, 1) := by decide +kernel
theorem dX11_fareOf_10 : decode cX11_fareOf 10 = .ok (.aload_n 0, 1) := by decide +kernel
theorem dX11_fareOf_11 : decode cX11_fareOf 11 = .ok (.iload_n 1, 1) := by decide +kernel
theorem dX11_fareOf_12 : decode cX11_fareOf 12 = .ok (.iload_n 2, 1) := by decide +kernel
theorem dX11_fareOf_13 : decode cX11_fareOf 13 = .ok (.iload_n 3, 1) := by decide +kernel
theorem dX11_fareOf_14 : decode cX11_fareOf 14 = .ok (.aload_n 0, 1) := by decide +kernel
theorem dX11_fareOf_15 : decode cX11_fareOf 15 = .ok (.iload_n 1, 1) := by decide +kernel
theorem dX11_fareOf_16 : decode cX11_fareOf 16 = .ok (.iload_n 2, 1) := by decide +kernel
theorem dX11_fareOf_17 : decode cX11_fareOf 17 = .ok (.invokevirtual 369, 3) := by decide +kernel
theorem dX11_fareOf_20 : decode cX11_fareOf 20 = .ok (.iconst 0, 1) := by decide +kernel
theorem dX11_fareOf_21 : decode cX11_fareOf 21 = .ok (.invokevirtual 372, 3) := by decide +kernel
theorem dX11_fareOf_24 : decode cX11_fareOf 24 = .ok (.aload_n 0, 1) := by decide +kernel
theorem dX11_fareOf_25 : decode cX11_fareOf 25 = .ok (.iconst 0, 1) := by decide +kernel
theorem dX11_fareOf_26 : decode cX11_fareOf 26 = .ok (.sipush 999, 3) := by decide +kernel
theorem dX11_fareOf_29 : decode cX11_fareOf 29 = .ok (.aload_n 0, 1) := by decide +kernel
theorem dX11_fareOf_30 : decode cX11_fareOf 30 = .ok (.getfield 28, 3) := by decide +kernel
theorem dX11_fareOf_33 : decode cX11_fareOf 33 = .ok (.iload_n 3, 1) := by decide +kernel
theorem dX11_fareOf_34 : decode cX11_fareOf 34 = .ok (.iaload, 1) := by decide +kernel
theorem dX11_fareOf_35 : decode cX11_fareOf 35 = .ok (.invokevirtual 376, 3) := by decide +kernel
theorem dX11_fareOf_38 : decode cX11_fareOf 38 = .ok (.ireturn, 1) := by decide +kernel
theorem dX11_isDue_0 : decode cX11_isDue 0 = .ok (.aload_n 0, 1) := by decide +kernel
theorem dX11_isDue_1 : decode cX11_isDue 1 = .ok (.getfield 117, 3) := by decide +kernel
theorem dX11_isDue_4 : decode cX11_isDue 4 = .ok (.bipush 12, 2) := by decide +kernel
theorem dX11_isDue_6 : decode cX11_isDue 6 = .ok (.iload_n 1, 1) := by decide +kernel
theorem dX11_isDue_7 : decode cX11_isDue 7 = .ok (.imul, 1) := by decide +kernel
theorem dX11_isDue_8 : decode cX11_isDue 8 = .ok (.iload_n 2, 1) := by decide +kernel
theorem dX11_isDue_9 : decode cX11_isDue 9 = .ok (.iadd, 1) := by decide +kernel
theorem dX11_isDue_10 : decode cX11_isDue 10 = .ok (.iaload, 1) := by decide +kernel
theorem dX11_isDue_11 : decode cX11_isDue 11 = .ok (.ifCond .ne 27, 3) := by decide +kernel
theorem dX11_isDue_14 : decode cX11_isDue 14 = .ok (.aload_n 0, 1) := by decide +kernel
theorem dX11_isDue_15 : decode cX11_isDue 15 = .ok (.getfield 114, 3) := by decide +kernel
theorem dX11_isDue_18 : decode cX11_isDue 18 = .ok (.bipush 12, 2) := by decide +kernel
theorem dX11_isDue_20 : decode cX11_isDue 20 = .ok (.iload_n 1, 1) := by decide +kernel
theorem dX11_isDue_21 : decode cX11_isDue 21 = .ok (.imul, 1) := by decide +kernel
theorem dX11_isDue_22 : decode cX11_isDue 22 = .ok (.iload_n 2, 1) := by decide +kernel
theorem dX11_isDue_23 : decode cX11_isDue 23 = .ok (.iadd, 1) := by decide +kernel
theorem dX11_isDue_24 : decode cX11_isDue 24 = .ok (.iaload, 1) := by decide +kernel
theorem dX11_isDue_25 : decode cX11_isDue 25 = .ok (.aload_n 0, 1) := by decide +kernel
theorem dX11_isDue_26 : decode cX11_isDue 26 = .ok (.getfield 84, 3) := by decide +kernel
theorem dX11_isDue_29 : decode cX11_isDue 29 = .ok (.iload_n 1, 1) := by decide +kernel
theorem dX11_isDue_30 : decode cX11_isDue 30 = .ok (.iaload, 1) := by decide +kernel
theorem dX11_isDue_31 : decode cX11_isDue 31 = .ok (.if_icmp .gt 7, 3) := by decide +kernel
theorem dX11_isDue_34 : decode cX11_isDue 34 = .ok (.iconst 1, 1) := by decide +kernel
theorem dX11_isDue_35 : decode cX11_isDue 35 = .ok (.goto 4, 3) := by decide +kernel
theorem dX11_isDue_38 : decode cX11_isDue 38 = .ok (.iconst 0, 1) := by decide +kernel
theorem dX11_isDue_39 : decode cX11_isDue 39 = .ok (.ireturn, 1) := by decide +kernel
theorem dX11_isAtBoat_0 : decode cX11_isAtBoat 0 = .ok (.aload_n 0, 1) := by decide +kernel
theorem dX11_isAtBoat_1 : decode cX11_isAtBoat 1 = .ok (.getfield 102, 3) := by decide +kernel
theorem dX11_isAtBoat_4 : decode cX11_isAtBoat 4 = .ok (.bipush 25, 2) := by decide +kernel
theorem dX11_isAtBoat_6 : decode cX11_isAtBoat 6 = .ok (.iload_n 1, 1) := by decide +kernel
theorem dX11_isAtBoat_7 : decode cX11_isAtBoat 7 = .ok (.imul, 1) := by decide +kernel
theorem dX11_isAtBoat_8 : decode cX11_isAtBoat 8 = .ok (.iconst 5, 1) := by decide +kernel
theorem dX11_isAtBoat_9 : decode cX11_isAtBoat 9 = .ok (.iload_n 2, 1) := by decide +kernel
theorem dX11_isAtBoat_10 : decode cX11_isAtBoat 10 = .ok (.imul, 1) := by decide +kernel
theorem dX11_isAtBoat_11 : decode cX11_isAtBoat 11 = .ok (.iadd, 1) := by decide +kernel
theorem dX11_isAtBoat_12 : decode cX11_isAtBoat 12 = .ok (.iload_n 3, 1) := by decide +kernel
theorem dX11_isAtBoat_13 : decode cX11_isAtBoat 13 = .ok (.iadd, 1) := by decide +kernel
theorem dX11_isAtBoat_14 : decode cX11_isAtBoat 14 = .ok (.iaload, 1) := by decide +kernel
theorem dX11_isAtBoat_15 : decode cX11_isAtBoat 15 = .ok (.aload_n 0, 1) := by decide +kernel
theorem dX11_isAtBoat_16 : decode cX11_isAtBoat 16 = .ok (.getfield 84, 3) := by decide +kernel
theorem dX11_isAtBoat_19 : decode cX11_isAtBoat 19 = .ok (.iload_n 1, 1) := by decide +kernel
theorem dX11_isAtBoat_20 : decode cX11_isAtBoat 20 = .ok (.iaload, 1) := by decide +kernel
theorem dX11_isAtBoat_21 : decode cX11_isAtBoat 21 = .ok (.iconst 2, 1) := by decide +kernel
theorem dX11_isAtBoat_22 : decode cX11_isAtBoat 22 = .ok (.irem, 1) := by decide +kernel
theorem dX11_isAtBoat_23 : decode cX11_isAtBoat 23 = .ok (.if_icmp .ne 7, 3) := by decide +kernel
theorem dX11_isAtBoat_26 : decode cX11_isAtBoat 26 = .ok (.iconst 1, 1) := by decide +kernel
theorem dX11_isAtBoat_27 : decode cX11_isAtBoat 27 = .ok (.goto 4, 3) := by decide +kernel
theorem dX11_isAtBoat_30 : decode cX11_isAtBoat 30 = .ok (.iconst 0, 1) := by decide +kernel
theorem dX11_isAtBoat_31 : decode cX11_isAtBoat 31 = .ok (.ireturn, 1) := by decide +kernel
theorem dX11_loads_0 : decode cX11_loads 0 = .ok (.aload_n 0, 1) := by decide +kernel
theorem dX11_loads_1 : decode cX11_loads 1 = .ok (.getfield 382, 3) := by decide +kernel
theorem dX11_loads_4 : decode cX11_loads 4 = .ok (.iconst 3, 1) := by decide +kernel
theorem dX11_loads_5 : decode cX11_loads 5 = .ok (.if_icmp .ne 8, 3) := by decide +kernel
theorem dX11_loads_8 : decode cX11_loads 8 = .ok (.bipush 99, 2) := by decide +kernel
theorem dX11_loads_10 : decode cX11_loads 10 = .ok (.goto 24, 3) := by decide +kernel
theorem dX11_loads_13 : decode cX11_loads 13 = .ok (.aload_n 0, 1) := by decide +kernel
theorem dX11_loads_14 : decode cX11_loads 14 = .ok (.getfield 123, 3) := by decide +kernel
theorem dX11_loads_17 : decode cX11_loads 17 = .ok (.iconst (-1), 1) := by decide +kernel
theorem dX11_loads_18 : decode cX11_loads 18 = .ok (.if_icmp .eq 10, 3) := by decide +kernel
theorem dX11_loads_21 : decode cX11_loads 21 = .ok (.aload_n 0, 1) := by decide +kernel
theorem dX11_loads_22 : decode cX11_loads 22 = .ok (.getfield 123, 3) := by decide +kernel
theorem dX11_loads_25 : decode cX11_loads 25 = .ok (.goto 9, 3) := by decide +kernel
theorem dX11_loads_28 : decode cX11_loads 28 = .ok (.aload_n 0, 1) := by decide +kernel
theorem dX11_loads_29 : decode cX11_loads 29 = .ok (.getfield 13, 3) := by decide +kernel
theorem dX11_loads_32 : decode cX11_loads 32 = .ok (.iconst 5, 1) := by decide +kernel
theorem dX11_loads_33 : decode cX11_loads 33 = .ok (.iaload, 1) := by decide +kernel
theorem dX11_loads_34 : decode cX11_loads 34 = .ok (.istore_n 2, 1) := by decide +kernel
theorem dX11_loads_35 : decode cX11_loads 35 = .ok (.iconst 0, 1) := by decide +kernel
theorem dX11_loads_36 : decode cX11_loads 36 = .ok (.istore_n 3, 1) := by decide +kernel
theorem dX11_loads_37 : decode cX11_loads 37 = .ok (.iload_n 3, 1) := by decide +kernel
theorem dX11_loads_38 : decode cX11_loads 38 = .ok (.aload_n 0, 1) := by decide +kernel
theorem dX11_loads_39 : decode cX11_loads 39 = .ok (.getfield 93, 3) := by decide +kernel
theorem dX11_loads_42 : decode cX11_loads 42 = .ok (.iload_n 1, 1) := by decide +kernel
theorem dX11_loads_43 : decode cX11_loads 43 = .ok (.iaload, 1) := by decide +kernel
theorem dX11_loads_44 : decode cX11_loads 44 = .ok (.if_icmp .ge 191, 3) := by decide +kernel
theorem dX11_loads_47 : decode cX11_loads 47 = .ok (.aload_n 0, 1) := by decide +kernel
theorem dX11_loads_48 : decode cX11_loads 48 = .ok (.getfield 108, 3) := by decide +kernel
theorem dX11_loads_51 : decode cX11_loads 51 = .ok (.bipush 12, 2) := by decide +kernel
theorem dX11_loads_53 : decode cX11_loads 53 = .ok (.iload_n 1, 1) := by decide +kernel
theorem dX11_loads_54 : decode cX11_loads 54 = .ok (.imul, 1) := by decide +kernel
theorem dX11_loads_55 : decode cX11_loads 55 = .ok (.iload_n 3, 1) := by decide +kernel
theorem dX11_loads_56 : decode cX11_loads 56 = .ok (.iadd, 1) := by decide +kernel
theorem dX11_loads_57 : decode cX11_loads 57 = .ok (.iaload, 1) := by decide +kernel
theorem dX11_loads_58 : decode cX11_loads 58 = .ok (.istore 4, 2) := by decide +kernel
theorem dX11_loads_60 : decode cX11_loads 60 = .ok (.aload_n 0, 1) := by decide +kernel
theorem dX11_loads_61 : decode cX11_loads 61 = .ok (.getfield 111, 3) := by decide +kernel
theorem dX11_loads_64 : decode cX11_loads 64 = .ok (.bipush 12, 2) := by decide +kernel
theorem dX11_loads_66 : decode cX11_loads 66 = .ok (.iload_n 1, 1) := by decide +kernel
theorem dX11_loads_67 : decode cX11_loads 67 = .ok (.imul, 1) := by decide +kernel
theorem dX11_loads_68 : decode cX11_loads 68 = .ok (.iload_n 3, 1) := by decide +kernel
theorem dX11_loads_69 : decode cX11_loads 69 = .ok (.iadd, 1) := by decide +kernel
theorem dX11_loads_70 : decode cX11_loads 70 = .ok (.iaload, 1) := by decide +kernel
theorem dX11_loads_71 : decode cX11_loads 71 = .ok (.istore 5, 2) := by decide +kernel
theorem dX11_loads_73 : decode cX11_loads 73 = .ok (.aload_n 0, 1) := by decide +kernel
theorem dX11_loads_74 : decode cX11_loads 74 = .ok (.iload_n 1, 1) := by decide +kernel
theorem dX11_loads_75 : decode cX11_loads 75 = .ok (.iload_n 3, 1) := by decide +kernel
theorem dX11_loads_76 : decode cX11_loads 76 = .ok (.invokevirtual 385, 3) := by decide +kernel
theorem dX11_loads_79 : decode cX11_loads 79 = .ok (.ifCond .eq 150, 3) := by decide +kernel
theorem dX11_loads_82 : decode cX11_loads 82 = .ok (.aload_n 0, 1) := by decide +kernel
theorem dX11_loads_83 : decode cX11_loads 83 = .ok (.getfield 382, 3) := by decide +kernel
theorem dX11_loads_86 : decode cX11_loads 86 = .ok (.iconst 2, 1) := by decide +kernel
theorem dX11_loads_87 : decode cX11_loads 87 = .ok (.if_icmp .ne 12, 3) := by decide +kernel
theorem dX11_loads_90 : decode cX11_loads 90 = .ok (.iload 4, 2) := by decide +kernel
theorem dX11_loads_92 : decode cX11_loads 92 = .ok (.aload_n 0, 1) := by decide +kernel
theorem dX11_loads_93 : decode cX11_loads 93 = .ok (.getfield 120, 3) := by decide +kernel
theorem dX11_loads_96 : decode cX11_loads 96 = .ok (.if_icmp .eq 133, 3) := by decide +kernel
theorem dX11_loads_99 : decode cX11_loads 99 = .ok (.aload_n 0, 1) := by decide +kernel
theorem dX11_loads_100 : decode cX11_loads 100 = .ok (.iload_n 1, 1) := by decide +kernel
theorem dX11_loads_101 : decode cX11_loads 101 = .ok (.iload 4, 2) := by decide +kernel
theorem dX11_loads_103 : decode cX11_loads 103 = .ok (.iload 5, 2) := by decide +kernel
theorem dX11_loads_105 : decode cX11_loads 105 = .ok (.invokevirtual 389, 3) := by decide +kernel
theorem dX11_loads_108 : decode cX11_loads 108 = .ok (.ifCond .eq 121, 3) := by decide +kernel
theorem dX11_loads_111 : decode cX11_loads 111 = .ok (.aload_n 0, 1) := by decide +kernel
theorem dX11_loads_112 : decode cX11_loads 112 = .ok (.getfield 346, 3) := by decide +kernel
theorem dX11_loads_115 : decode cX11_loads 115 = .ok (.iconst 5, 1) := by decide +kernel
theorem dX11_loads_116 : decode cX11_loads 116 = .ok (.iload 4, 2) := by decide +kernel
theorem dX11_loads_118 : decode cX11_loads 118 = .ok (.imul, 1) := by decide +kernel
theorem dX11_loads_119 : decode cX11_loads 119 = .ok (.iload 5, 2) := by decide +kernel
theorem dX11_loads_121 : decode cX11_loads 121 = .ok (.iadd, 1) := by decide +kernel
theorem dX11_loads_122 : decode cX11_loads 122 = .ok (.ishr, 1) := by decide +kernel
theorem dX11_loads_123 : decode cX11_loads 123 = .ok (.iconst 1, 1) := by decide +kernel
theorem dX11_loads_124 : decode cX11_loads 124 = .ok (.iand, 1) := by decide +kernel
theorem dX11_loads_125 : decode cX11_loads 125 = .ok (.iconst 1, 1) := by decide +kernel
theorem dX11_loads_126 : decode cX11_loads 126 = .ok (.if_icmp .eq 103, 3) := by decide +kernel
theorem dX11_loads_129 : decode cX11_loads 129 = .ok (.aload_n 0, 1) := by decide +kernel
theorem dX11_loads_130 : decode cX11_loads 130 = .ok (.getfield 25, 3) := by decide +kernel
theorem dX11_loads_133 : decode cX11_loads 133 = .ok (.iload 5, 2) := by decide +kernel
theorem dX11_loads_135 : decode cX11_loads 135 = .ok (.iaload, 1) := by decide +kernel
theorem dX11_loads_136 : decode cX11_loads 136 = .ok (.iload_n 2, 1) := by decide +kernel
theorem dX11_loads_137 : decode cX11_loads 137 = .ok (.if_icmp .le 6, 3) := by decide +kernel
theorem dX11_loads_140 : decode cX11_loads 140 = .ok (.goto 89, 3) := by decide +kernel
theorem dX11_loads_143 : decode cX11_loads 143 = .ok (.aload_n 0, 1) := by decide +kernel
theorem dX11_loads_144 : decode cX11_loads 144 = .ok (.iload_n 1, 1) := by decide +kernel
theorem dX11_loads_145 : decode cX11_loads 145 = .ok (.iload 4, 2) := by decide +kernel
theorem dX11_loads_147 : decode cX11_loads 147 = .ok (.iload 5, 2) := by decide +kernel
theorem dX11_loads_149 : decode cX11_loads 149 = .ok (.invokevirtual 393, 3) := by decide +kernel
theorem dX11_loads_152 : decode cX11_loads 152 = .ok (.istore 6, 2) := by decide +kernel
theorem dX11_loads_154 : decode cX11_loads 154 = .ok (.aload_n 0, 1) := by decide +kernel
theorem dX11_loads_155 : decode cX11_loads 155 = .ok (.getfield 96, 3) := by decide +kernel
theorem dX11_loads_158 : decode cX11_loads 158 = .ok (.iconst 5, 1) := by decide +kernel
theorem dX11_loads_159 : decode cX11_loads 159 = .ok (.iload_n 1, 1) := by decide +kernel
theorem dX11_loads_160 : decode cX11_loads 160 = .ok (.imul, 1) := by decide +kernel
theorem dX11_loads_161 : decode cX11_loads 161 = .ok (.iload 4, 2) := by decide +kernel
theorem dX11_loads_163 : decode cX11_loads 163 = .ok (.iadd, 1) := by decide +kernel
theorem dX11_loads_164 : decode cX11_loads 164 = .ok (.iaload, 1) := by decide +kernel
theorem dX11_loads_165 : decode cX11_loads 165 = .ok (.iload 6, 2) := by decide +kernel
theorem dX11_loads_167 : decode cX11_loads 167 = .ok (.if_icmp .ge 6, 3) := by decide +kernel
theorem dX11_loads_170 : decode cX11_loads 170 = .ok (.goto 59, 3) := by decide +kernel
theorem dX11_loads_173 : decode cX11_loads 173 = .ok (.aload_n 0, 1) := by decide +kernel
theorem dX11_loads_174 : decode cX11_loads 174 = .ok (.getfield 96, 3) := by decide +kernel
theorem dX11_loads_177 : decode cX11_loads 177 = .ok (.iconst 5, 1) := by decide +kernel
theorem dX11_loads_178 : decode cX11_loads 178 = .ok (.iload_n 1, 1) := by decide +kernel
theorem dX11_loads_179 : decode cX11_loads 179 = .ok (.imul, 1) := by decide +kernel
theorem dX11_loads_180 : decode cX11_loads 180 = .ok (.iload 4, 2) := by decide +kernel
theorem dX11_loads_182 : decode cX11_loads 182 = .ok (.iadd, 1) := by decide +kernel
theorem dX11_loads_183 : decode cX11_loads 183 = .ok (.dup2, 1) := by decide +kernel
theorem dX11_loads_184 : decode cX11_loads 184 = .ok (.iaload, 1) := by decide +kernel
theorem dX11_loads_185 : decode cX11_loads 185 = .ok (.iload 6, 2) := by decide +kernel
theorem dX11_loads_187 : decode cX11_loads 187 = .ok (.isub, 1) := by decide +kernel
theorem dX11_loads_188 : decode cX11_loads 188 = .ok (.iastore, 1) := by decide +kernel
theorem dX11_loads_189 : decode cX11_loads 189 = .ok (.iload_n 2, 1) := by decide +kernel
theorem dX11_loads_190 : decode cX11_loads 190 = .ok (.aload_n 0, 1) := by decide +kernel
theorem dX11_loads_191 : decode cX11_loads 191 = .ok (.getfield 25, 3) := by decide +kernel
theorem dX11_loads_194 : decode cX11_loads 194 = .ok (.iload 5, 2) := by decide +kernel
theorem dX11_loads_196 : decode cX11_loads 196 = .ok (.iaload, 1) := by decide +kernel
theorem dX11_loads_197 : decode cX11_loads 197 = .ok (.isub, 1) := by decide +kernel
theorem dX11_loads_198 : decode cX11_loads 198 = .ok (.istore_n 2, 1) := by decide +kernel
theorem dX11_loads_199 : decode cX11_loads 199 = .ok (.aload_n 0, 1) := by decide +kernel
theorem dX11_loads_200 : decode cX11_loads 200 = .ok (.dup, 1) := by decide +kernel
theorem dX11_loads_201 : decode cX11_loads 201 = .ok (.getfield 346, 3) := by decide +kernel
theorem dX11_loads_204 : decode cX11_loads 204 = .ok (.iconst 1, 1) := by decide +kernel
theorem dX11_loads_205 : decode cX11_loads 205 = .ok (.iconst 5, 1) := by decide +kernel
theorem dX11_loads_206 : decode cX11_loads 206 = .ok (.iload 4, 2) := by decide +kernel
theorem dX11_loads_208 : decode cX11_loads 208 = .ok (.imul, 1) := by decide +kernel
theorem dX11_loads_209 : decode cX11_loads 209 = .ok (.iload 5, 2) := by decide +kernel
theorem dX11_loads_211 : decode cX11_loads 211 = .ok (.iadd, 1) := by decide +kernel
theorem dX11_loads_212 : decode cX11_loads 212 = .ok (.ishl, 1) := by decide +kernel
theorem dX11_loads_213 : decode cX11_loads 213 = .ok (.ior, 1) := by decide +kernel
theorem dX11_loads_214 : decode cX11_loads 214 = .ok (.putfield 346, 3) := by decide +kernel
theorem dX11_loads_217 : decode cX11_loads 217 = .ok (.aload_n 0, 1) := by decide +kernel
theorem dX11_loads_218 : decode cX11_loads 218 = .ok (.getfield 117, 3) := by decide +kernel
theorem dX11_loads_221 : decode cX11_loads 221 = .ok (.bipush 12, 2) := by decide +kernel
theorem dX11_loads_223 : decode cX11_loads 223 = .ok (.iload_n 1, 1) := by decide +kernel
theorem dX11_loads_224 : decode cX11_loads 224 = .ok (.imul, 1) := by decide +kernel
theorem dX11_loads_225 : decode cX11_loads 225 = .ok (.iload_n 3, 1) := by decide +kernel
theorem dX11_loads_226 : decode cX11_loads 226 = .ok (.iadd, 1) := by decide +kernel
theorem dX11_loads_227 : decode cX11_loads 227 = .ok (.iconst 1, 1) := by decide +kernel
theorem dX11_loads_228 : decode cX11_loads 228 = .ok (.iastore, 1) := by decide +kernel
theorem dX11_loads_229 : decode cX11_loads 229 = .ok (.iinc 3 1, 3) := by decide +kernel
theorem dX11_loads_232 : decode cX11_loads 232 = .ok (.goto (-195), 3) := by decide +kernel
theorem dX11_loads_235 : decode cX11_loads 235 = .ok (.return_, 1) := by decide +kernel
theorem dX11_doesStorm_0 : decode cX11_doesStorm 0 = .ok (.aload_n 0, 1) := by decide +kernel
theorem dX11_doesStorm_1 : decode cX11_doesStorm 1 = .ok (.getfield 382, 3) := by decide +kernel
theorem dX11_doesStorm_4 : decode cX11_doesStorm 4 = .ok (.iconst 1, 1) := by decide +kernel
theorem dX11_doesStorm_5 : decode cX11_doesStorm 5 = .ok (.if_icmp .ne 7, 3) := by decide +kernel
theorem dX11_doesStorm_8 : decode cX11_doesStorm 8 = .ok (.iconst 0, 1) := by decide +kernel
theorem dX11_doesStorm_9 : decode cX11_doesStorm 9 = .ok (.goto 10, 3) := by decide +kernel
theorem dX11_doesStorm_12 : decode cX11_doesStorm 12 = .ok (.aload_n 0, 1) := by decide +kernel
theorem dX11_doesStorm_13 : decode cX11_doesStorm 13 = .ok (.getfield 13, 3) := by decide +kernel
theorem dX11_doesStorm_16 : decode cX11_doesStorm 16 = .ok (.bipush 6, 2) := by decide +kernel
theorem dX11_doesStorm_18 : decode cX11_doesStorm 18 = .ok (.iaload, 1) := by decide +kernel
theorem dX11_doesStorm_19 : decode cX11_doesStorm 19 = .ok (.istore_n 3, 1) := by decide +kernel
theorem dX11_doesStorm_20 : decode cX11_doesStorm 20 = .ok (.iload_n 2, 1) := by decide +kernel
theorem dX11_doesStorm_21 : decode cX11_doesStorm 21 = .ok (.ifCond .eq 13, 3) := by decide +kernel
theorem dX11_doesStorm_24 : decode cX11_doesStorm 24 = .ok (.iload_n 3, 1) := by decide +kernel
theorem dX11_doesStorm_25 : decode cX11_doesStorm 25 = .ok (.ifCond .eq 9, 3) := by decide +kernel
theorem dX11_doesStorm_28 : decode cX11_doesStorm 28 = .ok (.iload_n 3, 1) := by decide +kernel
theorem dX11_doesStorm_29 : decode cX11_doesStorm 29 = .ok (.bipush 100, 2) := by decide +kernel
theorem dX11_doesStorm_31 : decode cX11_doesStorm 31 = .ok (.if_icmp .ne 15, 3) := by decide +kernel
theorem dX11_doesStorm_34 : decode cX11_doesStorm 34 = .ok (.iload_n 3, 1) := by decide +kernel
theorem dX11_doesStorm_35 : decode cX11_doesStorm 35 = .ok (.bipush 50, 2) := by decide +kernel
theorem dX11_doesStorm_37 : decode cX11_doesStorm 37 = .ok (.if_icmp .lt 7, 3) := by decide +kernel
theorem dX11_doesStorm_40 : decode cX11_doesStorm 40 = .ok (.iconst 1, 1) := by decide +kernel
theorem dX11_doesStorm_41 : decode cX11_doesStorm 41 = .ok (.goto 4, 3) := by decide +kernel
theorem dX11_doesStorm_44 : decode cX11_doesStorm 44 = .ok (.iconst 0, 1) := by decide +kernel
theorem dX11_doesStorm_45 : decode cX11_doesStorm 45 = .ok (.ireturn, 1) := by decide +kernel
theorem dX11_doesStorm_46 : decode cX11_doesStorm 46 = .ok (.aload_n 0, 1) := by decide +kernel
theorem dX11_doesStorm_47 : decode cX11_doesStorm 47 = .ok (.getfield 87, 3) := by decide +kernel
theorem dX11_doesStorm_50 : decode cX11_doesStorm 50 = .ok (.iload_n 1, 1) := by decide +kernel
theorem dX11_doesStorm_51 : decode cX11_doesStorm 51 = .ok (.aload_n 0, 1) := by decide +kernel
theorem dX11_doesStorm_52 : decode cX11_doesStorm 52 = .ok (.getfield 87, 3) := by decide +kernel
theorem dX11_doesStorm_55 : decode cX11_doesStorm 55 = .ok (.iload_n 1, 1) := by decide +kernel
theorem dX11_doesStorm_56 : decode cX11_doesStorm 56 = .ok (.iaload, 1) := by decide +kernel
theorem dX11_doesStorm_57 : decode cX11_doesStorm 57 = .ok (.ldc_w 396, 3) := by decide +kernel
theorem dX11_doesStorm_60 : decode cX11_doesStorm 60 = .ok (.imul, 1) := by decide +kernel
theorem dX11_doesStorm_61 : decode cX11_doesStorm 61 = .ok (.sipush 12345, 3) := by decide +kernel
theorem dX11_doesStorm_64 : decode cX11_doesStorm 64 = .ok (.iadd, 1) := by decide +kernel
theorem dX11_doesStorm_65 : decode cX11_doesStorm 65 = .ok (.ldc_w 399, 3) := by decide +kernel
theorem dX11_doesStorm_68 : decode cX11_doesStorm 68 = .ok (.iand, 1) := by decide +kernel
theorem dX11_doesStorm_69 : decode cX11_doesStorm 69 = .ok (.iastore, 1) := by decide +kernel
theorem dX11_doesStorm_70 : decode cX11_doesStorm 70 = .ok (.aload_n 0, 1) := by decide +kernel
theorem dX11_doesStorm_71 : decode cX11_doesStorm 71 = .ok (.getfield 87, 3) := by decide +kernel
theorem dX11_doesStorm_74 : decode cX11_doesStorm 74 = .ok (.iload_n 1, 1) := by decide +kernel
theorem dX11_doesStorm_75 : decode cX11_doesStorm 75 = .ok (.iaload, 1) := by decide +kernel
theorem dX11_doesStorm_76 : decode cX11_doesStorm 76 = .ok (.bipush 16, 2) := by decide +kernel
theorem dX11_doesStorm_78 : decode cX11_doesStorm 78 = .ok (.ishr, 1) := by decide +kernel
theorem dX11_doesStorm_79 : decode cX11_doesStorm 79 = .ok (.bipush 100, 2) := by decide +kernel
theorem dX11_doesStorm_81 : decode cX11_doesStorm 81 = .ok (.irem, 1) := by decide +kernel
theorem dX11_doesStorm_82 : decode cX11_doesStorm 82 = .ok (.iload_n 3, 1) := by decide +kernel
theorem dX11_doesStorm_83 : decode cX11_doesStorm 83 = .ok (.if_icmp .ge 7, 3) := by decide +kernel
theorem dX11_doesStorm_86 : decode cX11_doesStorm 86 = .ok (.iconst 1, 1) := by decide +kernel
theorem dX11_doesStorm_87 : decode cX11_doesStorm 87 = .ok (.goto 4, 3) := by decide +kernel
theorem dX11_doesStorm_90 : decode cX11_doesStorm 90 = .ok (.iconst 0, 1) := by decide +kernel
theorem dX11_doesStorm_91 : decode cX11_doesStorm 91 = .ok (.ireturn, 1) := by decide +kernel
section
variable {p : Program} {l : Launch} {e : Env} {s : State} {m : MethodId} {args : Array Value} {below : List Frame} {meth : Method} {c : Code} {D : va_G} {aC : Nat → ClassId} {B : Nat}
set_option maxHeartbeats 4000000 in
set_option maxRecDepth 100000 in
theorem w11_starts_b78_body (E : g_C p s m args c cX11_starts RX11 D aC (g_Zs (g_A B 44))) (hml : c.maxLocals = 4) (hret : meth.sig.returnType = none) (hlk : meth.locks = false) {F : Nat} {q0 : g_M} {a1 : Int32} {s41 : Int32 → g_M → Option (g_M)} (hs41 : ∀ (v2 : Int32) (mem : g_M) (H : Heap) (locs : List Loc) (ls : Array Slot), g_At D aC B yM 44 mem s.heap H locs → lv_has ls 4 [(0, .ref (B + 0)), (1, .int a1), (2, .int v2)] → s41 v2 mem = some q0 → W p l e (g_rm 1) s m args below meth c H locs 0 0 (g_MQ below D aC B yM 44 args s none q0) (F0 m 41 ls [])) {s78 : Int32 → Int32 → g_M → Option (g_M)} (hs78 : ∀ (v2 : Int32) (v3 : Int32) (mem : g_M) (H : Heap) (locs : List Loc) (ls : Array Slot), g_At D aC B yM 44 mem s.heap H locs → lv_has ls 4 [(0, .ref (B + 0)), (1, .int a1), (2, .int v2), (3, .int v3)] → s78 v2 v3 mem = some q0 → W p l e (g_rm 1) s m args below meth c H locs 0 0 (g_MQ below D aC B yM 44 args s none q0) (F0 m 78 ls [])) : ∀ (v2 : Int32) (v3 : Int32) (mem : g_M) (H : Heap) (locs : List Loc) (ls : Array Slot), g_At D aC B yM 44 mem s.heap H locs → lv_has ls 4 [(0, .ref (B + 0)), (1, .int a1), (2, .int v2), (3, .int v3)] → f11_starts_b78_body F a1 s41 s78 v2 v3 mem = some q0 → W p l e (g_rm 1) s m args below meth c H locs 0 0 (g_MQ below D aC B yM 44 args s none q0) (F0 m 78 ls []) := by
  intro v2 v3 mem H locs ls hM hl he
  unfold f11_starts_b78_body at he
  have hx := E.1
  have hb := E.2.1
  have hown := E.2.2.1
  have hts := E.2.2.2.1
  refine lv_iload_n hx hb dX11_starts_78 rfl (lv_at hl 3 rfl) ?_
  refine lv_iconst (v := (5 : Int32)) hx hb dX11_starts_79 rfl ?_
  refine lv_icmp_ge (tgt := 121) hx hb dX11_starts_80 (by decide) (fun h1 => ?_) (fun h1 => ?_)
  · rw [if_neg (Int32.not_lt.mpr h1)] at he
    obtain ⟨x7, hx7, he⟩ := g_let_ex he
    refine lv_iinc (v := x7) (lv' := [(2, .int x7), (0, .ref (B + 0)), (1, .int a1), (3, .int v3)]) hx hb dX11_starts_121 hl (k := 2) rfl (by rw [hx7]; rfl) (by decide) rfl (fun ls hl => ?_)
    refine lv_goto (tgt := 41) hx hb dX11_starts_124 (by decide) ?_
    exact hs41 _ _ _ _ _ hM (lv_sub hl [1, 2, 0] rfl) he
  · rw [if_pos (Int32.not_le.mp h1)] at he
    refine lv_aload_n hx hb dX11_starts_83 rfl (lv_at hl 0 rfl) ?_
    refine g_getP E hM (o := 0) (Nat.le_of_ble_eq_true rfl) rfl fl_X11_99 (q := 29) rfl dX11_starts_84 ?_
    refine lv_bipush (v := (25 : Int32)) hx hb dX11_starts_87 rfl ?_
    refine lv_iload_n hx hb dX11_starts_89 rfl (lv_at hl 1 rfl) ?_
    refine lv_imul hx hb dX11_starts_90 ?_
    refine lv_iconst (v := (5 : Int32)) hx hb dX11_starts_91 rfl ?_
    refine lv_iload_n hx hb dX11_starts_92 rfl (lv_at hl 2 rfl) ?_
    refine lv_imul hx hb dX11_starts_93 ?_
    refine lv_iadd hx hb dX11_starts_94 ?_
    refine lv_iload_n hx hb dX11_starts_95 rfl (lv_at hl 3 rfl) ?_
    refine lv_iadd hx hb dX11_starts_96 ?_
    refine lv_iload_n hx hb dX11_starts_97 rfl (lv_at hl 2 rfl) ?_
    obtain ⟨h2, he⟩ := g_ck_some he
    refine g_iast E hM (o := 29) (Nat.le_of_ble_eq_true rfl) rfl h2 dX11_starts_98 (fun H locs hM => ?_)
    obtain ⟨m3, hm3, he⟩ := g_let_ex he
    rw [← hm3] at hM
    refine lv_aload_n hx hb dX11_starts_99 rfl (lv_at hl 0 rfl) ?_
    refine g_getP E hM (o := 0) (Nat.le_of_ble_eq_true rfl) rfl fl_X11_102 (q := 30) rfl dX11_starts_100 ?_
    refine lv_bipush (v := (25 : Int32)) hx hb dX11_starts_103 rfl ?_
    refine lv_iload_n hx hb dX11_starts_105 rfl (lv_at hl 1 rfl) ?_
    refine lv_imul hx hb dX11_starts_106 ?_
    refine lv_iconst (v := (5 : Int32)) hx hb dX11_starts_107 rfl ?_
    refine lv_iload_n hx hb dX11_starts_108 rfl (lv_at hl 2 rfl) ?_
    refine lv_imul hx hb dX11_starts_109 ?_
    refine lv_iadd hx hb dX11_starts_110 ?_
    refine lv_iload_n hx hb dX11_starts_111 rfl (lv_at hl 3 rfl) ?_
    refine lv_iadd hx hb dX11_starts_112 ?_
    refine lv_iconst (v := (0 : Int32)) hx hb dX11_starts_113 rfl ?_
    obtain ⟨h4, he⟩ := g_ck_some he
    refine g_iast E hM (o := 30) (Nat.le_of_ble_eq_true rfl) rfl h4 dX11_starts_114 (fun H locs hM => ?_)
    obtain ⟨m5, hm5, he⟩ := g_let_ex he
    rw [← hm5] at hM
    obtain ⟨x6, hx6, he⟩ := g_let_ex he
    refine lv_iinc (v := x6) (lv' := [(3, .int x6), (0, .ref (B + 0)), (1, .int a1), (2, .int v2)]) hx hb dX11_starts_115 hl (k := 3) rfl (by rw [hx6]; rfl) (by decide) rfl (fun ls hl => ?_)
    refine lv_goto (tgt := 78) hx hb dX11_starts_118 (by decide) ?_
    exact hs78 _ _ _ _ _ _ hM (lv_sub hl [1, 2, 3, 0] rfl) he

set_option maxHeartbeats 4000000 in
set_option maxRecDepth 100000 in
theorem w11_starts_b78 (E : g_C p s m args c cX11_starts RX11 D aC (g_Zs (g_A B 44))) (hml : c.maxLocals = 4) (hret : meth.sig.returnType = none) (hlk : meth.locks = false) {F : Nat} {q0 : g_M} {a1 : Int32} {s41 : Int32 → g_M → Option (g_M)} (hs41 : ∀ (v2 : Int32) (mem : g_M) (H : Heap) (locs : List Loc) (ls : Array Slot), g_At D aC B yM 44 mem s.heap H locs → lv_has ls 4 [(0, .ref (B + 0)), (1, .int a1), (2, .int v2)] → s41 v2 mem = some q0 → W p l e (g_rm 1) s m args below meth c H locs 0 0 (g_MQ below D aC B yM 44 args s none q0) (F0 m 41 ls [])) : ∀ (v2 : Int32) (v3 : Int32) (mem : g_M) (H : Heap) (locs : List Loc) (ls : Array Slot), g_At D aC B yM 44 mem s.heap H locs → lv_has ls 4 [(0, .ref (B + 0)), (1, .int a1), (2, .int v2), (3, .int v3)] → f11_starts_b78 F a1 s41 v2 v3 mem = some q0 → W p l e (g_rm 1) s m args below meth c H locs 0 0 (g_MQ below D aC B yM 44 args s none q0) (F0 m 78 ls []) := by
  have key : ∀ (nn : Nat) (x : Int32 × Int32 × g_M) (H : Heap) (locs : List Loc) (ls : Array Slot), g_At D aC B yM 44 x.2.2 s.heap H locs → lv_has ls 4 [(0, .ref (B + 0)), (1, .int a1), (2, .int x.1), (3, .int x.2.1)] → g_fix (fun sf x => f11_starts_b78_body F a1 s41 (fun v2 v3 mem => sf (v2, v3, mem)) x.1 x.2.1 x.2.2) nn x = some q0 → W p l e (g_rm 1) s m args below meth c H locs 0 0 (g_MQ below D aC B yM 44 args s none q0) (F0 m 78 ls []) := by
    intro nn
    induction nn with
    | zero => intro x H locs ls hM hl he; simp [g_fix] at he
    | succ nn ih =>
      intro x H locs ls hM hl he
      exact w11_starts_b78_body (F := F) (a1 := a1) E hml hret hlk hs41 (fun v2 v3 mem H locs ls hM hl he => ih (v2, v3, mem) H locs ls hM hl he) x.1 x.2.1 x.2.2 H locs ls hM hl he
  intro v2 v3 mem H locs ls hM hl he
  exact key F (v2, v3, mem) H locs ls hM hl he

set_option maxHeartbeats 4000000 in
set_option maxRecDepth 100000 in
theorem w11_starts_b75 (E : g_C p s m args c cX11_starts RX11 D aC (g_Zs (g_A B 44))) (hml : c.maxLocals = 4) (hret : meth.sig.returnType = none) (hlk : meth.locks = false) {F : Nat} {q0 : g_M} {a1 : Int32} {s41 : Int32 → g_M → Option (g_M)} (hs41 : ∀ (v2 : Int32) (mem : g_M) (H : Heap) (locs : List Loc) (ls : Array Slot), g_At D aC B yM 44 mem s.heap H locs → lv_has ls 4 [(0, .ref (B + 0)), (1, .int a1), (2, .int v2)] → s41 v2 mem = some q0 → W p l e (g_rm 1) s m args below meth c H locs 0 0 (g_MQ below D aC B yM 44 args s none q0) (F0 m 41 ls [])) : ∀ (v2 : Int32) (w1 : Int32) (w2 : Int32) (mem : g_M) (H : Heap) (locs : List Loc) (ls : Array Slot), g_At D aC B yM 44 mem s.heap H locs → lv_has ls 4 [(0, .ref (B + 0)), (1, .int a1), (2, .int v2)] → f11_starts_b75 F a1 s41 v2 w1 w2 mem = some q0 → W p l e (g_rm 1) s m args below meth c H locs 0 0 (g_MQ below D aC B yM 44 args s none q0) (F0 m 75 ls [.int w2, .int w1, .ref (B + 28)]) := by
  intro v2 w1 w2 mem H locs ls hM hl he
  unfold f11_starts_b75 at he
  have hx := E.1
  have hb := E.2.1
  have hown := E.2.2.1
  have hts := E.2.2.2.1
  obtain ⟨h8, he⟩ := g_ck_some he
  refine g_iast E hM (o := 28) (Nat.le_of_ble_eq_true rfl) rfl h8 dX11_starts_75 (fun H locs hM => ?_)
  obtain ⟨m9, hm9, he⟩ := g_let_ex he
  rw [← hm9] at hM
  refine lv_iconst (v := (0 : Int32)) hx hb dX11_starts_76 rfl ?_
  refine lv_istore_n (lv' := [(3, .int (0 : Int32)), (0, .ref (B + 0)), (1, .int a1), (2, .int v2)]) hx hb dX11_starts_77 rfl hl (by decide) rfl (fun ls hl => ?_)
  exact w11_starts_b78 (F := F) (a1 := a1) E hml hret hlk hs41 _ _ _ _ _ _ hM (lv_sub hl [1, 2, 3, 0] rfl) he

set_option maxHeartbeats 4000000 in
set_option maxRecDepth 100000 in
theorem w11_starts_b251 (E : g_C p s m args c cX11_starts RX11 D aC (g_Zs (g_A B 44))) (hml : c.maxLocals = 4) (hret : meth.sig.returnType = none) (hlk : meth.locks = false) {F : Nat} {q0 : g_M} {a1 : Int32} {s155 : Int32 → g_M → Option (g_M)} (hs155 : ∀ (v2 : Int32) (mem : g_M) (H : Heap) (locs : List Loc) (ls : Array Slot), g_At D aC B yM 44 mem s.heap H locs → lv_has ls 4 [(0, .ref (B + 0)), (1, .int a1), (2, .int v2)] → s155 v2 mem = some q0 → W p l e (g_rm 1) s m args below meth c H locs 0 0 (g_MQ below D aC B yM 44 args s none q0) (F0 m 155 ls [])) : ∀ (v2 : Int32) (w1 : Int32) (w2 : Int32) (mem : g_M) (H : Heap) (locs : List Loc) (ls : Array Slot), g_At D aC B yM 44 mem s.heap H locs → lv_has ls 4 [(0, .ref (B + 0)), (1, .int a1), (2, .int v2)] → f11_starts_b251 F a1 s155 v2 w1 w2 mem = some q0 → W p l e (g_rm 1) s m args below meth c H locs 0 0 (g_MQ below D aC B yM 44 args s none q0) (F0 m 251 ls [.int w2, .int w1, .ref (B + 34)]) := by
  intro v2 w1 w2 mem H locs ls hM hl he
  unfold f11_starts_b251 at he
  have hx := E.1
  have hb := E.2.1
  have hown := E.2.2.1
  have hts := E.2.2.2.1
  obtain ⟨h10, he⟩ := g_ck_some he
  refine g_iast E hM (o := 34) (Nat.le_of_ble_eq_true rfl) rfl h10 dX11_starts_251 (fun H locs hM => ?_)
  obtain ⟨m11, hm11, he⟩ := g_let_ex he
  rw [← hm11] at hM
  refine lv_aload_n hx hb dX11_starts_252 rfl (lv_at hl 0 rfl) ?_
  refine g_getP E hM (o := 0) (Nat.le_of_ble_eq_true rfl) rfl fl_X11_117 (q := 35) rfl dX11_starts_253 ?_
  refine lv_bipush (v := (12 : Int32)) hx hb dX11_starts_256 rfl ?_
  refine lv_iload_n hx hb dX11_starts_258 rfl (lv_at hl 1 rfl) ?_
  refine lv_imul hx hb dX11_starts_259 ?_
  refine lv_iload_n hx hb dX11_starts_260 rfl (lv_at hl 2 rfl) ?_
  refine lv_iadd hx hb dX11_starts_261 ?_
  refine lv_iconst (v := (0 : Int32)) hx hb dX11_starts_262 rfl ?_
  obtain ⟨h12, he⟩ := g_ck_some he
  refine g_iast E hM (o := 35) (Nat.le_of_ble_eq_true rfl) rfl h12 dX11_starts_263 (fun H locs hM => ?_)
  obtain ⟨m13, hm13, he⟩ := g_let_ex he
  rw [← hm13] at hM
  obtain ⟨x14, hx14, he⟩ := g_let_ex he
  refine lv_iinc (v := x14) (lv' := [(2, .int x14), (0, .ref (B + 0)), (1, .int a1)]) hx hb dX11_starts_264 hl (k := 2) rfl (by rw [hx14]; rfl) (by decide) rfl (fun ls hl => ?_)
  refine lv_goto (tgt := 155) hx hb dX11_starts_267 (by decide) ?_
  exact hs155 _ _ _ _ _ hM (lv_sub hl [1, 2, 0] rfl) he

set_option maxHeartbeats 4000000 in
set_option maxRecDepth 100000 in
theorem w11_starts_b226 (E : g_C p s m args c cX11_starts RX11 D aC (g_Zs (g_A B 44))) (hml : c.maxLocals = 4) (hret : meth.sig.returnType = none) (hlk : meth.locks = false) {F : Nat} {q0 : g_M} {a1 : Int32} {s155 : Int32 → g_M → Option (g_M)} (hs155 : ∀ (v2 : Int32) (mem : g_M) (H : Heap) (locs : List Loc) (ls : Array Slot), g_At D aC B yM 44 mem s.heap H locs → lv_has ls 4 [(0, .ref (B + 0)), (1, .int a1), (2, .int v2)] → s155 v2 mem = some q0 → W p l e (g_rm 1) s m args below meth c H locs 0 0 (g_MQ below D aC B yM 44 args s none q0) (F0 m 155 ls [])) : ∀ (v2 : Int32) (v3 : Int32) (w1 : Int32) (w2 : Int32) (mem : g_M) (H : Heap) (locs : List Loc) (ls : Array Slot), g_At D aC B yM 44 mem s.heap H locs → lv_has ls 4 [(0, .ref (B + 0)), (1, .int a1), (2, .int v2), (3, .int v3)] → f11_starts_b226 F a1 s155 v2 v3 w1 w2 mem = some q0 → W p l e (g_rm 1) s m args below meth c H locs 0 0 (g_MQ below D aC B yM 44 args s none q0) (F0 m 226 ls [.int w2, .int w1, .ref (B + 33)]) := by
  intro v2 v3 w1 w2 mem H locs ls hM hl he
  unfold f11_starts_b226 at he
  have hx := E.1
  have hb := E.2.1
  have hown := E.2.2.1
  have hts := E.2.2.2.1
  obtain ⟨h15, he⟩ := g_ck_some he
  refine g_iast E hM (o := 33) (Nat.le_of_ble_eq_true rfl) rfl h15 dX11_starts_226 (fun H locs hM => ?_)
  obtain ⟨m16, hm16, he⟩ := g_let_ex he
  rw [← hm16] at hM
  refine lv_aload_n hx hb dX11_starts_227 rfl (lv_at hl 0 rfl) ?_
  refine g_getP E hM (o := 0) (Nat.le_of_ble_eq_true rfl) rfl fl_X11_114 (q := 34) rfl dX11_starts_228 ?_
  refine lv_bipush (v := (12 : Int32)) hx hb dX11_starts_231 rfl ?_
  refine lv_iload_n hx hb dX11_starts_233 rfl (lv_at hl 1 rfl) ?_
  refine lv_imul hx hb dX11_starts_234 ?_
  refine lv_iload_n hx hb dX11_starts_235 rfl (lv_at hl 2 rfl) ?_
  refine lv_iadd hx hb dX11_starts_236 ?_
  refine lv_iload_n hx hb dX11_starts_237 rfl (lv_at hl 3 rfl) ?_
  refine lv_if_eq (tgt := 250) hx hb dX11_starts_238 (by decide) (fun h17 => ?_) (fun h17 => ?_)
  · rw [if_pos h17] at he
    refine lv_iconst (v := (0 : Int32)) hx hb dX11_starts_250 rfl ?_
    exact w11_starts_b251 (F := F) (a1 := a1) E hml hret hlk hs155 _ _ _ _ _ _ _ hM (lv_sub hl [0, 1, 2] rfl) he
  · rw [if_neg h17] at he
    refine lv_aload_n hx hb dX11_starts_241 rfl (lv_at hl 0 rfl) ?_
    refine g_getP E hM (o := 0) (Nat.le_of_ble_eq_true rfl) rfl fl_X11_43 (q := 12) rfl dX11_starts_242 ?_
    refine lv_iload_n hx hb dX11_starts_245 rfl (lv_at hl 2 rfl) ?_
    obtain ⟨h18, he⟩ := g_ck_some he
    refine g_iald E hM (o := 12) (Nat.le_of_ble_eq_true rfl) rfl h18 dX11_starts_246 ?_
    refine lv_goto (tgt := 251) hx hb dX11_starts_247 (by decide) ?_
    exact w11_starts_b251 (F := F) (a1 := a1) E hml hret hlk hs155 _ _ _ _ _ _ _ hM (lv_sub hl [0, 1, 2] rfl) he

set_option maxHeartbeats 4000000 in
set_option maxRecDepth 100000 in
theorem w11_starts_b201 (E : g_C p s m args c cX11_starts RX11 D aC (g_Zs (g_A B 44))) (hml : c.maxLocals = 4) (hret : meth.sig.returnType = none) (hlk : meth.locks = false) {F : Nat} {q0 : g_M} {a1 : Int32} {s155 : Int32 → g_M → Option (g_M)} (hs155 : ∀ (v2 : Int32) (mem : g_M) (H : Heap) (locs : List Loc) (ls : Array Slot), g_At D aC B yM 44 mem s.heap H locs → lv_has ls 4 [(0, .ref (B + 0)), (1, .int a1), (2, .int v2)] → s155 v2 mem = some q0 → W p l e (g_rm 1) s m args below meth c H locs 0 0 (g_MQ below D aC B yM 44 args s none q0) (F0 m 155 ls [])) : ∀ (v2 : Int32) (v3 : Int32) (w1 : Int32) (w2 : Int32) (mem : g_M) (H : Heap) (locs : List Loc) (ls : Array Slot), g_At D aC B yM 44 mem s.heap H locs → lv_has ls 4 [(0, .ref (B + 0)), (1, .int a1), (2, .int v2), (3, .int v3)] → f11_starts_b201 F a1 s155 v2 v3 w1 w2 mem = some q0 → W p l e (g_rm 1) s m args below meth c H locs 0 0 (g_MQ below D aC B yM 44 args s none q0) (F0 m 201 ls [.int w2, .int w1, .ref (B + 32)]) := by
  intro v2 v3 w1 w2 mem H locs ls hM hl he
  unfold f11_starts_b201 at he
  have hx := E.1
  have hb := E.2.1
  have hown := E.2.2.1
  have hts := E.2.2.2.1
  obtain ⟨h19, he⟩ := g_ck_some he
  refine g_iast E hM (o := 32) (Nat.le_of_ble_eq_true rfl) rfl h19 dX11_starts_201 (fun H locs hM => ?_)
  obtain ⟨m20, hm20, he⟩ := g_let_ex he
  rw [← hm20] at hM
  refine lv_aload_n hx hb dX11_starts_202 rfl (lv_at hl 0 rfl) ?_
  refine g_getP E hM (o := 0) (Nat.le_of_ble_eq_true rfl) rfl fl_X11_111 (q := 33) rfl dX11_starts_203 ?_
  refine lv_bipush (v := (12 : Int32)) hx hb dX11_starts_206 rfl ?_
  refine lv_iload_n hx hb dX11_starts_208 rfl (lv_at hl 1 rfl) ?_
  refine lv_imul hx hb dX11_starts_209 ?_
  refine lv_iload_n hx hb dX11_starts_210 rfl (lv_at hl 2 rfl) ?_
  refine lv_iadd hx hb dX11_starts_211 ?_
  refine lv_iload_n hx hb dX11_starts_212 rfl (lv_at hl 3 rfl) ?_
  refine lv_if_eq (tgt := 225) hx hb dX11_starts_213 (by decide) (fun h21 => ?_) (fun h21 => ?_)
  · rw [if_pos h21] at he
    refine lv_iconst (v := (0 : Int32)) hx hb dX11_starts_225 rfl ?_
    exact w11_starts_b226 (F := F) (a1 := a1) E hml hret hlk hs155 _ _ _ _ _ _ _ _ hM (lv_sub hl [0, 1, 2, 3] rfl) he
  · rw [if_neg h21] at he
    refine lv_aload_n hx hb dX11_starts_216 rfl (lv_at hl 0 rfl) ?_
    refine g_getP E hM (o := 0) (Nat.le_of_ble_eq_true rfl) rfl fl_X11_40 (q := 11) rfl dX11_starts_217 ?_
    refine lv_iload_n hx hb dX11_starts_220 rfl (lv_at hl 2 rfl) ?_
    obtain ⟨h22, he⟩ := g_ck_some he
    refine g_iald E hM (o := 11) (Nat.le_of_ble_eq_true rfl) rfl h22 dX11_starts_221 ?_
    refine lv_goto (tgt := 226) hx hb dX11_starts_222 (by decide) ?_
    exact w11_starts_b226 (F := F) (a1 := a1) E hml hret hlk hs155 _ _ _ _ _ _ _ _ hM (lv_sub hl [0, 1, 2, 3] rfl) he

set_option maxHeartbeats 4000000 in
set_option maxRecDepth 100000 in
theorem w11_starts_b176 (E : g_C p s m args c cX11_starts RX11 D aC (g_Zs (g_A B 44))) (hml : c.maxLocals = 4) (hret : meth.sig.returnType = none) (hlk : meth.locks = false) {F : Nat} {q0 : g_M} {a1 : Int32} {s155 : Int32 → g_M → Option (g_M)} (hs155 : ∀ (v2 : Int32) (mem : g_M) (H : Heap) (locs : List Loc) (ls : Array Slot), g_At D aC B yM 44 mem s.heap H locs → lv_has ls 4 [(0, .ref (B + 0)), (1, .int a1), (2, .int v2)] → s155 v2 mem = some q0 → W p l e (g_rm 1) s m args below meth c H locs 0 0 (g_MQ below D aC B yM 44 args s none q0) (F0 m 155 ls [])) : ∀ (v2 : Int32) (w0 : Int32) (mem : g_M) (H : Heap) (locs : List Loc) (ls : Array Slot), g_At D aC B yM 44 mem s.heap H locs → lv_has ls 4 [(0, .ref (B + 0)), (1, .int a1), (2, .int v2)] → f11_starts_b176 F a1 s155 v2 w0 mem = some q0 → W p l e (g_rm 1) s m args below meth c H locs 0 0 (g_MQ below D aC B yM 44 args s none q0) (F0 m 176 ls [.int w0]) := by
  intro v2 w0 mem H locs ls hM hl he
  unfold f11_starts_b176 at he
  have hx := E.1
  have hb := E.2.1
  have hown := E.2.2.1
  have hts := E.2.2.2.1
  refine lv_istore_n (lv' := [(3, .int w0), (0, .ref (B + 0)), (1, .int a1), (2, .int v2)]) hx hb dX11_starts_176 rfl hl (by decide) rfl (fun ls hl => ?_)
  refine lv_aload_n hx hb dX11_starts_177 rfl (lv_at hl 1 rfl) ?_
  refine g_getP E hM (o := 0) (Nat.le_of_ble_eq_true rfl) rfl fl_X11_108 (q := 32) rfl dX11_starts_178 ?_
  refine lv_bipush (v := (12 : Int32)) hx hb dX11_starts_181 rfl ?_
  refine lv_iload_n hx hb dX11_starts_183 rfl (lv_at hl 2 rfl) ?_
  refine lv_imul hx hb dX11_starts_184 ?_
  refine lv_iload_n hx hb dX11_starts_185 rfl (lv_at hl 3 rfl) ?_
  refine lv_iadd hx hb dX11_starts_186 ?_
  refine lv_iload_n hx hb dX11_starts_187 rfl (lv_at hl 0 rfl) ?_
  refine lv_if_eq (tgt := 200) hx hb dX11_starts_188 (by decide) (fun h23 => ?_) (fun h23 => ?_)
  · rw [if_pos h23] at he
    refine lv_iconst (v := (0 : Int32)) hx hb dX11_starts_200 rfl ?_
    exact w11_starts_b201 (F := F) (a1 := a1) E hml hret hlk hs155 _ _ _ _ _ _ _ _ hM (lv_sub hl [1, 2, 3, 0] rfl) he
  · rw [if_neg h23] at he
    refine lv_aload_n hx hb dX11_starts_191 rfl (lv_at hl 1 rfl) ?_
    refine g_getP E hM (o := 0) (Nat.le_of_ble_eq_true rfl) rfl fl_X11_37 (q := 10) rfl dX11_starts_192 ?_
    refine lv_iload_n hx hb dX11_starts_195 rfl (lv_at hl 3 rfl) ?_
    obtain ⟨h24, he⟩ := g_ck_some he
    refine g_iald E hM (o := 10) (Nat.le_of_ble_eq_true rfl) rfl h24 dX11_starts_196 ?_
    refine lv_goto (tgt := 201) hx hb dX11_starts_197 (by decide) ?_
    exact w11_starts_b201 (F := F) (a1 := a1) E hml hret hlk hs155 _ _ _ _ _ _ _ _ hM (lv_sub hl [1, 2, 3, 0] rfl) he

set_option maxHeartbeats 4000000 in
set_option maxRecDepth 100000 in
theorem w11_starts_b155_body (E : g_C p s m args c cX11_starts RX11 D aC (g_Zs (g_A B 44))) (hml : c.maxLocals = 4) (hret : meth.sig.returnType = none) (hlk : meth.locks = false) {F : Nat} {q0 : g_M} {a1 : Int32} {s155 : Int32 → g_M → Option (g_M)} (hs155 : ∀ (v2 : Int32) (mem : g_M) (H : Heap) (locs : List Loc) (ls : Array Slot), g_At D aC B yM 44 mem s.heap H locs → lv_has ls 4 [(0, .ref (B + 0)), (1, .int a1), (2, .int v2)] → s155 v2 mem = some q0 → W p l e (g_rm 1) s m args below meth c H locs 0 0 (g_MQ below D aC B yM 44 args s none q0) (F0 m 155 ls [])) : ∀ (v2 : Int32) (mem : g_M) (H : Heap) (locs : List Loc) (ls : Array Slot), g_At D aC B yM 44 mem s.heap H locs → lv_has ls 4 [(0, .ref (B + 0)), (1, .int a1), (2, .int v2)] → f11_starts_b155_body F a1 s155 v2 mem = some q0 → W p l e (g_rm 1) s m args below meth c H locs 0 0 (g_MQ below D aC B yM 44 args s none q0) (F0 m 155 ls []) := by
  intro v2 mem H locs ls hM hl he
  unfold f11_starts_b155_body at he
  have hx := E.1
  have hb := E.2.1
  have hown := E.2.2.1
  have hts := E.2.2.2.1
  refine lv_iload_n hx hb dX11_starts_155 rfl (lv_at hl 2 rfl) ?_
  refine lv_bipush (v := (12 : Int32)) hx hb dX11_starts_156 rfl ?_
  refine lv_icmp_ge (tgt := 270) hx hb dX11_starts_158 (by decide) (fun h25 => ?_) (fun h25 => ?_)
  · rw [if_neg (Int32.not_lt.mpr h25)] at he
    cases he
    exact g_vret E hM hret hlk dX11_starts_270
  · rw [if_pos (Int32.not_le.mp h25)] at he
    refine lv_iload_n hx hb dX11_starts_161 rfl (lv_at hl 2 rfl) ?_
    refine lv_aload_n hx hb dX11_starts_162 rfl (lv_at hl 0 rfl) ?_
    refine g_getP E hM (o := 0) (Nat.le_of_ble_eq_true rfl) rfl fl_X11_13 (q := 2) rfl dX11_starts_163 ?_
    refine lv_iconst (v := (3 : Int32)) hx hb dX11_starts_166 rfl ?_
    obtain ⟨h26, he⟩ := g_ck_some he
    refine g_iald E hM (o := 2) (Nat.le_of_ble_eq_true rfl) rfl h26 dX11_starts_167 ?_
    refine lv_icmp_ge (tgt := 175) hx hb dX11_starts_168 (by decide) (fun h27 => ?_) (fun h27 => ?_)
    · rw [if_neg (Int32.not_lt.mpr h27)] at he
      refine lv_iconst (v := (0 : Int32)) hx hb dX11_starts_175 rfl ?_
      exact w11_starts_b176 (F := F) (a1 := a1) E hml hret hlk hs155 _ _ _ _ _ _ hM (lv_sub hl [0, 1, 2] rfl) he
    · rw [if_pos (Int32.not_le.mp h27)] at he
      refine lv_iconst (v := (1 : Int32)) hx hb dX11_starts_171 rfl ?_
      refine lv_goto (tgt := 176) hx hb dX11_starts_172 (by decide) ?_
      exact w11_starts_b176 (F := F) (a1 := a1) E hml hret hlk hs155 _ _ _ _ _ _ hM (lv_sub hl [0, 1, 2] rfl) he

set_option maxHeartbeats 4000000 in
set_option maxRecDepth 100000 in
theorem w11_starts_b155 (E : g_C p s m args c cX11_starts RX11 D aC (g_Zs (g_A B 44))) (hml : c.maxLocals = 4) (hret : meth.sig.returnType = none) (hlk : meth.locks = false) {F : Nat} {q0 : g_M} {a1 : Int32} : ∀ (v2 : Int32) (mem : g_M) (H : Heap) (locs : List Loc) (ls : Array Slot), g_At D aC B yM 44 mem s.heap H locs → lv_has ls 4 [(0, .ref (B + 0)), (1, .int a1), (2, .int v2)] → f11_starts_b155 F a1 v2 mem = some q0 → W p l e (g_rm 1) s m args below meth c H locs 0 0 (g_MQ below D aC B yM 44 args s none q0) (F0 m 155 ls []) := by
  have key : ∀ (nn : Nat) (x : Int32 × g_M) (H : Heap) (locs : List Loc) (ls : Array Slot), g_At D aC B yM 44 x.2 s.heap H locs → lv_has ls 4 [(0, .ref (B + 0)), (1, .int a1), (2, .int x.1)] → g_fix (fun sf x => f11_starts_b155_body F a1 (fun v2 mem => sf (v2, mem)) x.1 x.2) nn x = some q0 → W p l e (g_rm 1) s m args below meth c H locs 0 0 (g_MQ below D aC B yM 44 args s none q0) (F0 m 155 ls []) := by
    intro nn
    induction nn with
    | zero => intro x H locs ls hM hl he; simp [g_fix] at he
    | succ nn ih =>
      intro x H locs ls hM hl he
      exact w11_starts_b155_body (F := F) (a1 := a1) E hml hret hlk (fun v2 mem H locs ls hM hl he => ih (v2, mem) H locs ls hM hl he) x.1 x.2 H locs ls hM hl he
  intro v2 mem H locs ls hM hl he
  exact key F (v2, mem) H locs ls hM hl he

set_option maxHeartbeats 4000000 in
set_option maxRecDepth 100000 in
theorem w11_starts_b129_body (E : g_C p s m args c cX11_starts RX11 D aC (g_Zs (g_A B 44))) (hml : c.maxLocals = 4) (hret : meth.sig.returnType = none) (hlk : meth.locks = false) {F : Nat} {q0 : g_M} {a1 : Int32} {s129 : Int32 → g_M → Option (g_M)} (hs129 : ∀ (v2 : Int32) (mem : g_M) (H : Heap) (locs : List Loc) (ls : Array Slot), g_At D aC B yM 44 mem s.heap H locs → lv_has ls 4 [(0, .ref (B + 0)), (1, .int a1), (2, .int v2)] → s129 v2 mem = some q0 → W p l e (g_rm 1) s m args below meth c H locs 0 0 (g_MQ below D aC B yM 44 args s none q0) (F0 m 129 ls [])) : ∀ (v2 : Int32) (mem : g_M) (H : Heap) (locs : List Loc) (ls : Array Slot), g_At D aC B yM 44 mem s.heap H locs → lv_has ls 4 [(0, .ref (B + 0)), (1, .int a1), (2, .int v2)] → f11_starts_b129_body F a1 s129 v2 mem = some q0 → W p l e (g_rm 1) s m args below meth c H locs 0 0 (g_MQ below D aC B yM 44 args s none q0) (F0 m 129 ls []) := by
  intro v2 mem H locs ls hM hl he
  unfold f11_starts_b129_body at he
  have hx := E.1
  have hb := E.2.1
  have hown := E.2.2.1
  have hts := E.2.2.2.1
  refine lv_iload_n hx hb dX11_starts_129 rfl (lv_at hl 2 rfl) ?_
  refine lv_bipush (v := (8 : Int32)) hx hb dX11_starts_130 rfl ?_
  refine lv_icmp_ge (tgt := 153) hx hb dX11_starts_132 (by decide) (fun h28 => ?_) (fun h28 => ?_)
  · rw [if_neg (Int32.not_lt.mpr h28)] at he
    refine lv_iconst (v := (0 : Int32)) hx hb dX11_starts_153 rfl ?_
    refine lv_istore_n (lv' := [(2, .int (0 : Int32)), (0, .ref (B + 0)), (1, .int a1)]) hx hb dX11_starts_154 rfl hl (by decide) rfl (fun ls hl => ?_)
    exact w11_starts_b155 (F := F) (a1 := a1) E hml hret hlk _ _ _ _ _ hM (lv_sub hl [1, 2, 0] rfl) he
  · rw [if_pos (Int32.not_le.mp h28)] at he
    refine lv_aload_n hx hb dX11_starts_135 rfl (lv_at hl 0 rfl) ?_
    refine g_getP E hM (o := 0) (Nat.le_of_ble_eq_true rfl) rfl fl_X11_105 (q := 31) rfl dX11_starts_136 ?_
    refine lv_bipush (v := (8 : Int32)) hx hb dX11_starts_139 rfl ?_
    refine lv_iload_n hx hb dX11_starts_141 rfl (lv_at hl 1 rfl) ?_
    refine lv_imul hx hb dX11_starts_142 ?_
    refine lv_iload_n hx hb dX11_starts_143 rfl (lv_at hl 2 rfl) ?_
    refine lv_iadd hx hb dX11_starts_144 ?_
    refine lv_iconst (v := (0 : Int32)) hx hb dX11_starts_145 rfl ?_
    obtain ⟨h29, he⟩ := g_ck_some he
    refine g_iast E hM (o := 31) (Nat.le_of_ble_eq_true rfl) rfl h29 dX11_starts_146 (fun H locs hM => ?_)
    obtain ⟨m30, hm30, he⟩ := g_let_ex he
    rw [← hm30] at hM
    obtain ⟨x31, hx31, he⟩ := g_let_ex he
    refine lv_iinc (v := x31) (lv' := [(2, .int x31), (0, .ref (B + 0)), (1, .int a1)]) hx hb dX11_starts_147 hl (k := 2) rfl (by rw [hx31]; rfl) (by decide) rfl (fun ls hl => ?_)
    refine lv_goto (tgt := 129) hx hb dX11_starts_150 (by decide) ?_
    exact hs129 _ _ _ _ _ hM (lv_sub hl [1, 2, 0] rfl) he

set_option maxHeartbeats 4000000 in
set_option maxRecDepth 100000 in
theorem w11_starts_b129 (E : g_C p s m args c cX11_starts RX11 D aC (g_Zs (g_A B 44))) (hml : c.maxLocals = 4) (hret : meth.sig.returnType = none) (hlk : meth.locks = false) {F : Nat} {q0 : g_M} {a1 : Int32} : ∀ (v2 : Int32) (mem : g_M) (H : Heap) (locs : List Loc) (ls : Array Slot), g_At D aC B yM 44 mem s.heap H locs → lv_has ls 4 [(0, .ref (B + 0)), (1, .int a1), (2, .int v2)] → f11_starts_b129 F a1 v2 mem = some q0 → W p l e (g_rm 1) s m args below meth c H locs 0 0 (g_MQ below D aC B yM 44 args s none q0) (F0 m 129 ls []) := by
  have key : ∀ (nn : Nat) (x : Int32 × g_M) (H : Heap) (locs : List Loc) (ls : Array Slot), g_At D aC B yM 44 x.2 s.heap H locs → lv_has ls 4 [(0, .ref (B + 0)), (1, .int a1), (2, .int x.1)] → g_fix (fun sf x => f11_starts_b129_body F a1 (fun v2 mem => sf (v2, mem)) x.1 x.2) nn x = some q0 → W p l e (g_rm 1) s m args below meth c H locs 0 0 (g_MQ below D aC B yM 44 args s none q0) (F0 m 129 ls []) := by
    intro nn
    induction nn with
    | zero => intro x H locs ls hM hl he; simp [g_fix] at he
    | succ nn ih =>
      intro x H locs ls hM hl he
      exact w11_starts_b129_body (F := F) (a1 := a1) E hml hret hlk (fun v2 mem H locs ls hM hl he => ih (v2, mem) H locs ls hM hl he) x.1 x.2 H locs ls hM hl he
  intro v2 mem H locs ls hM hl he
  exact key F (v2, mem) H locs ls hM hl he

set_option maxHeartbeats 4000000 in
set_option maxRecDepth 100000 in
theorem w11_starts_b41_body (E : g_C p s m args c cX11_starts RX11 D aC (g_Zs (g_A B 44))) (hml : c.maxLocals = 4) (hret : meth.sig.returnType = none) (hlk : meth.locks = false) {F : Nat} {q0 : g_M} {a1 : Int32} {s41 : Int32 → g_M → Option (g_M)} (hs41 : ∀ (v2 : Int32) (mem : g_M) (H : Heap) (locs : List Loc) (ls : Array Slot), g_At D aC B yM 44 mem s.heap H locs → lv_has ls 4 [(0, .ref (B + 0)), (1, .int a1), (2, .int v2)] → s41 v2 mem = some q0 → W p l e (g_rm 1) s m args below meth c H locs 0 0 (g_MQ below D aC B yM 44 args s none q0) (F0 m 41 ls [])) : ∀ (v2 : Int32) (mem : g_M) (H : Heap) (locs : List Loc) (ls : Array Slot), g_At D aC B yM 44 mem s.heap H locs → lv_has ls 4 [(0, .ref (B + 0)), (1, .int a1), (2, .int v2)] → f11_starts_b41_body F a1 s41 v2 mem = some q0 → W p l e (g_rm 1) s m args below meth c H locs 0 0 (g_MQ below D aC B yM 44 args s none q0) (F0 m 41 ls []) := by
  intro v2 mem H locs ls hM hl he
  unfold f11_starts_b41_body at he
  have hx := E.1
  have hb := E.2.1
  have hown := E.2.2.1
  have hts := E.2.2.2.1
  refine lv_iload_n hx hb dX11_starts_41 rfl (lv_at hl 2 rfl) ?_
  refine lv_iconst (v := (5 : Int32)) hx hb dX11_starts_42 rfl ?_
  refine lv_icmp_ge (tgt := 127) hx hb dX11_starts_43 (by decide) (fun h32 => ?_) (fun h32 => ?_)
  · rw [if_neg (Int32.not_lt.mpr h32)] at he
    refine lv_iconst (v := (0 : Int32)) hx hb dX11_starts_127 rfl ?_
    refine lv_istore_n (lv' := [(2, .int (0 : Int32)), (0, .ref (B + 0)), (1, .int a1)]) hx hb dX11_starts_128 rfl hl (by decide) rfl (fun ls hl => ?_)
    exact w11_starts_b129 (F := F) (a1 := a1) E hml hret hlk _ _ _ _ _ hM (lv_sub hl [1, 2, 0] rfl) he
  · rw [if_pos (Int32.not_le.mp h32)] at he
    refine lv_aload_n hx hb dX11_starts_46 rfl (lv_at hl 0 rfl) ?_
    refine g_getP E hM (o := 0) (Nat.le_of_ble_eq_true rfl) rfl fl_X11_96 (q := 28) rfl dX11_starts_47 ?_
    refine lv_iconst (v := (5 : Int32)) hx hb dX11_starts_50 rfl ?_
    refine lv_iload_n hx hb dX11_starts_51 rfl (lv_at hl 1 rfl) ?_
    refine lv_imul hx hb dX11_starts_52 ?_
    refine lv_iload_n hx hb dX11_starts_53 rfl (lv_at hl 2 rfl) ?_
    refine lv_iadd hx hb dX11_starts_54 ?_
    refine lv_iload_n hx hb dX11_starts_55 rfl (lv_at hl 2 rfl) ?_
    refine lv_aload_n hx hb dX11_starts_56 rfl (lv_at hl 0 rfl) ?_
    refine g_getP E hM (o := 0) (Nat.le_of_ble_eq_true rfl) rfl fl_X11_13 (q := 2) rfl dX11_starts_57 ?_
    refine lv_iconst (v := (0 : Int32)) hx hb dX11_starts_60 rfl ?_
    obtain ⟨h33, he⟩ := g_ck_some he
    refine g_iald E hM (o := 2) (Nat.le_of_ble_eq_true rfl) rfl h33 dX11_starts_61 ?_
    refine lv_icmp_ge (tgt := 74) hx hb dX11_starts_62 (by decide) (fun h34 => ?_) (fun h34 => ?_)
    · rw [if_neg (Int32.not_lt.mpr h34)] at he
      refine lv_iconst (v := (0 : Int32)) hx hb dX11_starts_74 rfl ?_
      exact w11_starts_b75 (F := F) (a1 := a1) E hml hret hlk hs41 _ _ _ _ _ _ _ hM (lv_sub hl [0, 1, 2] rfl) he
    · rw [if_pos (Int32.not_le.mp h34)] at he
      refine lv_aload_n hx hb dX11_starts_65 rfl (lv_at hl 0 rfl) ?_
      refine g_getP E hM (o := 0) (Nat.le_of_ble_eq_true rfl) rfl fl_X11_19 (q := 4) rfl dX11_starts_66 ?_
      refine lv_iload_n hx hb dX11_starts_69 rfl (lv_at hl 2 rfl) ?_
      obtain ⟨h35, he⟩ := g_ck_some he
      refine g_iald E hM (o := 4) (Nat.le_of_ble_eq_true rfl) rfl h35 dX11_starts_70 ?_
      refine lv_goto (tgt := 75) hx hb dX11_starts_71 (by decide) ?_
      exact w11_starts_b75 (F := F) (a1 := a1) E hml hret hlk hs41 _ _ _ _ _ _ _ hM (lv_sub hl [0, 1, 2] rfl) he

set_option maxHeartbeats 4000000 in
set_option maxRecDepth 100000 in
theorem w11_starts_b41 (E : g_C p s m args c cX11_starts RX11 D aC (g_Zs (g_A B 44))) (hml : c.maxLocals = 4) (hret : meth.sig.returnType = none) (hlk : meth.locks = false) {F : Nat} {q0 : g_M} {a1 : Int32} : ∀ (v2 : Int32) (mem : g_M) (H : Heap) (locs : List Loc) (ls : Array Slot), g_At D aC B yM 44 mem s.heap H locs → lv_has ls 4 [(0, .ref (B + 0)), (1, .int a1), (2, .int v2)] → f11_starts_b41 F a1 v2 mem = some q0 → W p l e (g_rm 1) s m args below meth c H locs 0 0 (g_MQ below D aC B yM 44 args s none q0) (F0 m 41 ls []) := by
  have key : ∀ (nn : Nat) (x : Int32 × g_M) (H : Heap) (locs : List Loc) (ls : Array Slot), g_At D aC B yM 44 x.2 s.heap H locs → lv_has ls 4 [(0, .ref (B + 0)), (1, .int a1), (2, .int x.1)] → g_fix (fun sf x => f11_starts_b41_body F a1 (fun v2 mem => sf (v2, mem)) x.1 x.2) nn x = some q0 → W p l e (g_rm 1) s m args below meth c H locs 0 0 (g_MQ below D aC B yM 44 args s none q0) (F0 m 41 ls []) := by
    intro nn
    induction nn with
    | zero => intro x H locs ls hM hl he; simp [g_fix] at he
    | succ nn ih =>
      intro x H locs ls hM hl he
      exact w11_starts_b41_body (F := F) (a1 := a1) E hml hret hlk (fun v2 mem H locs ls hM hl he => ih (v2, mem) H locs ls hM hl he) x.1 x.2 H locs ls hM hl he
  intro v2 mem H locs ls hM hl he
  exact key F (v2, mem) H locs ls hM hl he

set_option maxHeartbeats 4000000 in
set_option maxRecDepth 100000 in
theorem c11_starts (l : Launch) (D : va_G) (aC : Nat → ClassId) (B : Nat) {F : Nat} {a1 : Int32} {mem : g_M} {q0 : g_M} (he : f11_starts F a1 mem = some q0) : g_Met l yX11_starts cX11_starts 4 none 1 D aC B yM 44 mem [.ref (B + 0), .int a1] none q0 := by
  refine g_ofW (by decide) (Nat.le_of_ble_eq_true rfl) ?_
  intro p e s m args below meth c ls E hml hret hlk hM hl
  have E : g_C p s m args c cX11_starts RX11 D aC (g_Zs (g_A B 44)) := E
  have hx := E.1
  have hb := E.2.1
  have hown := E.2.2.1
  have hts := E.2.2.2.1
  have hl : lv_has ls 4 [(0, .ref (B + 0)), (1, .int a1)] := hl
  unfold f11_starts at he
  refine lv_aload_n hx hb dX11_starts_0 rfl (lv_at hl 0 rfl) ?_
  refine g_getP E hM (o := 0) (Nat.le_of_ble_eq_true rfl) rfl fl_X11_84 (q := 24) rfl dX11_starts_1 ?_
  refine lv_iload_n hx hb dX11_starts_4 rfl (lv_at hl 1 rfl) ?_
  refine lv_iconst (v := (0 : Int32)) hx hb dX11_starts_5 rfl ?_
  obtain ⟨h36, he⟩ := g_ck_some he
  refine g_iast E hM (o := 24) (Nat.le_of_ble_eq_true rfl) rfl h36 dX11_starts_6 (fun H locs hM => ?_)
  obtain ⟨m37, hm37, he⟩ := g_let_ex he
  rw [← hm37] at hM
  refine lv_aload_n hx hb dX11_starts_7 rfl (lv_at hl 0 rfl) ?_
  refine g_getP E hM (o := 0) (Nat.le_of_ble_eq_true rfl) rfl fl_X11_87 (q := 25) rfl dX11_starts_8 ?_
  refine lv_iload_n hx hb dX11_starts_11 rfl (lv_at hl 1 rfl) ?_
  refine lv_aload_n hx hb dX11_starts_12 rfl (lv_at hl 0 rfl) ?_
  refine g_getP E hM (o := 0) (Nat.le_of_ble_eq_true rfl) rfl fl_X11_13 (q := 2) rfl dX11_starts_13 ?_
  refine lv_bipush (v := (7 : Int32)) hx hb dX11_starts_16 rfl ?_
  obtain ⟨h38, he⟩ := g_ck_some he
  refine g_iald E hM (o := 2) (Nat.le_of_ble_eq_true rfl) rfl h38 dX11_starts_18 ?_
  obtain ⟨h39, he⟩ := g_ck_some he
  refine g_iast E hM (o := 25) (Nat.le_of_ble_eq_true rfl) rfl h39 dX11_starts_19 (fun H locs hM => ?_)
  obtain ⟨m40, hm40, he⟩ := g_let_ex he
  rw [← hm40] at hM
  refine lv_aload_n hx hb dX11_starts_20 rfl (lv_at hl 0 rfl) ?_
  refine g_getP E hM (o := 0) (Nat.le_of_ble_eq_true rfl) rfl fl_X11_90 (q := 26) rfl dX11_starts_21 ?_
  refine lv_iload_n hx hb dX11_starts_24 rfl (lv_at hl 1 rfl) ?_
  refine lv_iconst (v := (0 : Int32)) hx hb dX11_starts_25 rfl ?_
  obtain ⟨h41, he⟩ := g_ck_some he
  refine g_iast E hM (o := 26) (Nat.le_of_ble_eq_true rfl) rfl h41 dX11_starts_26 (fun H locs hM => ?_)
  obtain ⟨m42, hm42, he⟩ := g_let_ex he
  rw [← hm42] at hM
  refine lv_aload_n hx hb dX11_starts_27 rfl (lv_at hl 0 rfl) ?_
  refine g_getP E hM (o := 0) (Nat.le_of_ble_eq_true rfl) rfl fl_X11_93 (q := 27) rfl dX11_starts_28 ?_
  refine lv_iload_n hx hb dX11_starts_31 rfl (lv_at hl 1 rfl) ?_
  refine lv_aload_n hx hb dX11_starts_32 rfl (lv_at hl 0 rfl) ?_
  refine g_getP E hM (o := 0) (Nat.le_of_ble_eq_true rfl) rfl fl_X11_13 (q := 2) rfl dX11_starts_33 ?_
  refine lv_iconst (v := (3 : Int32)) hx hb dX11_starts_36 rfl ?_
  obtain ⟨h43, he⟩ := g_ck_some he
  refine g_iald E hM (o := 2) (Nat.le_of_ble_eq_true rfl) rfl h43 dX11_starts_37 ?_
  obtain ⟨h44, he⟩ := g_ck_some he
  refine g_iast E hM (o := 27) (Nat.le_of_ble_eq_true rfl) rfl h44 dX11_starts_38 (fun H locs hM => ?_)
  obtain ⟨m45, hm45, he⟩ := g_let_ex he
  rw [← hm45] at hM
  refine lv_iconst (v := (0 : Int32)) hx hb dX11_starts_39 rfl ?_
  refine lv_istore_n (lv' := [(2, .int (0 : Int32)), (0, .ref (B + 0)), (1, .int a1)]) hx hb dX11_starts_40 rfl hl (by decide) rfl (fun ls hl => ?_)
  exact w11_starts_b41 (F := F) (a1 := a1) E hml hret hlk _ _ _ _ _ hM (lv_sub hl [1, 2, 0] rfl) he

set_option maxHeartbeats 4000000 in
set_option maxRecDepth 100000 in
theorem c11_begins (l : Launch) (D : va_G) (aC : Nat → ClassId) (B : Nat) {F : Nat} {mem : g_M} {q0 : g_M} (he : f11_begins F mem = some q0) : g_Met l yX11_begins cX11_begins 1 none 2 D aC B yM 44 mem [.ref (B + 0)] none q0 := by
  refine g_ofW (by decide) (Nat.le_of_ble_eq_true rfl) ?_
  intro p e s m args below meth c ls E hml hret hlk hM hl
  have E : g_C p s m args c cX11_begins RX11 D aC (g_Zs (g_A B 44)) := E
  have hx := E.1
  have hb := E.2.1
  have hown := E.2.2.1
  have hts := E.2.2.2.1
  have hl : lv_has ls 1 [(0, .ref (B + 0))] := hl
  unfold f11_begins at he
  refine lv_aload_n hx hb dX11_begins_0 rfl (lv_at hl 0 rfl) ?_
  refine lv_iconst (v := (0 : Int32)) hx hb dX11_begins_1 rfl ?_
  obtain ⟨r1, hcr1, he⟩ := g_bind he
  refine g_callV [.int (0 : Int32)] (rest := []) E hml hl.1 hM cv_X11_343 (c11_starts l D aC B hcr1) (o := 0) (Nat.le_of_ble_eq_true rfl) rfl (by decide) rfl rfl (Nat.le_of_ble_eq_true rfl) dX11_begins_2 (fun H locs hM => ?_)
  refine W.eq (g2 := F0 m 5 ls []) rfl ?_
  cases he
  exact g_vret E hM hret hlk dX11_begins_5

set_option maxHeartbeats 4000000 in
set_option maxRecDepth 100000 in
theorem w11_text_b66 (E : g_C p s m args c cX11_text RX11 D aC (g_Zs (g_A B 44))) (hml : c.maxLocals = 3) (hret : meth.sig.returnType = (some .int)) (hlk : meth.locks = false) {F : Nat} {q0 : Int32 × g_M} {a1 : Int32} {s47 : Int32 → g_M → Option (Int32 × g_M)} (hs47 : ∀ (v2 : Int32) (mem : g_M) (H : Heap) (locs : List Loc) (ls : Array Slot), g_At D aC B yM 44 mem s.heap H locs → lv_has ls 3 [(0, .ref (B + 0)), (2, .int v2)] → s47 v2 mem = some q0 → W p l e (g_rm 211) s m args below meth c H locs 0 0 (g_MQ below D aC B yM 44 args s (some (.int q0.1)) q0.2) (F0 m 47 ls [])) : ∀ (v2 : Int32) (w1 : Int32) (w2 : Int32) (mem : g_M) (H : Heap) (locs : List Loc) (ls : Array Slot), g_At D aC B yM 44 mem s.heap H locs → lv_has ls 3 [(0, .ref (B + 0)), (2, .int v2)] → f11_text_b66 F a1 s47 v2 w1 w2 mem = some q0 → W p l e (g_rm 211) s m args below meth c H locs 0 0 (g_MQ below D aC B yM 44 args s (some (.int q0.1)) q0.2) (F0 m 66 ls [.int w2, .int w1, .ref (B + 0)]) := by
  intro v2 w1 w2 mem H locs ls hM hl he
  unfold f11_text_b66 at he
  have hx := E.1
  have hb := E.2.1
  have hown := E.2.2.1
  have hts := E.2.2.2.1
  obtain ⟨r1, hcr1, he⟩ := g_bind he
  refine g_callV [.int w1, .int w2] (rest := []) E hml hl.1 hM cv_X11_251 (c11_reads l D aC B hcr1) (o := 0) (Nat.le_of_ble_eq_true rfl) rfl (by decide) rfl rfl (Nat.le_of_ble_eq_true rfl) dX11_text_66 (fun H locs hM => ?_)
  refine W.eq (g2 := F0 m 69 ls []) rfl ?_
  obtain ⟨x2, hx2, he⟩ := g_let_ex he
  refine lv_iinc (v := x2) (lv' := [(2, .int x2), (0, .ref (B + 0))]) hx hb dX11_text_69 hl (k := 1) rfl (by rw [hx2]; rfl) (by decide) rfl (fun ls hl => ?_)
  refine lv_goto (tgt := 47) hx hb dX11_text_72 (by decide) ?_
  exact hs47 _ _ _ _ _ hM (lv_sub hl [1, 0] rfl) he

set_option maxHeartbeats 4000000 in
set_option maxRecDepth 100000 in
theorem w11_text_b149 (E : g_C p s m args c cX11_text RX11 D aC (g_Zs (g_A B 44))) (hml : c.maxLocals = 3) (hret : meth.sig.returnType = (some .int)) (hlk : meth.locks = false) {F : Nat} {q0 : Int32 × g_M} {a1 : Int32} : ∀ (mem : g_M) (H : Heap) (locs : List Loc) (ls : Array Slot), g_At D aC B yM 44 mem s.heap H locs → lv_has ls 3 [(0, .ref (B + 0))] → f11_text_b149 F a1 mem = some q0 → W p l e (g_rm 211) s m args below meth c H locs 0 0 (g_MQ below D aC B yM 44 args s (some (.int q0.1)) q0.2) (F0 m 149 ls []) := by
  intro mem H locs ls hM hl he
  unfold f11_text_b149 at he
  have hx := E.1
  have hb := E.2.1
  have hown := E.2.2.1
  have hts := E.2.2.2.1
  refine lv_aload_n hx hb dX11_text_149 rfl (lv_at hl 0 rfl) ?_
  refine lv_aload_n hx hb dX11_text_150 rfl (lv_at hl 0 rfl) ?_
  refine g_getI E hM (o := 0) (Nat.le_of_ble_eq_true rfl) rfl fl_X11_211 dX11_text_151 ?_
  refine g_putI E hM (o := 0) (Nat.le_of_ble_eq_true rfl) rfl fp_X11_306 dX11_text_154 (fun H locs hM => ?_)
  obtain ⟨m3, hm3, he⟩ := g_let_ex he
  rw [← hm3] at hM
  refine lv_aload_n hx hb dX11_text_157 rfl (lv_at hl 0 rfl) ?_
  refine lv_aload_n hx hb dX11_text_158 rfl (lv_at hl 0 rfl) ?_
  refine g_getI E hM (o := 0) (Nat.le_of_ble_eq_true rfl) rfl fl_X11_214 dX11_text_159 ?_
  refine g_putI E hM (o := 0) (Nat.le_of_ble_eq_true rfl) rfl fp_X11_73 dX11_text_162 (fun H locs hM => ?_)
  obtain ⟨m4, hm4, he⟩ := g_let_ex he
  rw [← hm4] at hM
  refine lv_aload_n hx hb dX11_text_165 rfl (lv_at hl 0 rfl) ?_
  refine g_getI E hM (o := 0) (Nat.le_of_ble_eq_true rfl) rfl fl_X11_211 dX11_text_166 ?_
  refine lv_if_eq (tgt := 174) hx hb dX11_text_169 (by decide) (fun h5 => ?_) (fun h5 => ?_)
  · rw [if_pos h5] at he
    refine lv_aload_n hx hb dX11_text_174 rfl (lv_at hl 0 rfl) ?_
    refine g_getP E hM (o := 0) (Nat.le_of_ble_eq_true rfl) rfl fl_X11_13 (q := 2) rfl dX11_text_175 ?_
    obtain ⟨r6, hcr6, he⟩ := g_bind he
    refine g_callS [.ref (B + 2)] (rest := []) E hml hl.1 hM cs_X11_309 (c11_half l D aC B (Nat.le_of_ble_eq_true rfl) rfl hcr6) (by decide) rfl rfl (Nat.le_of_ble_eq_true rfl) dX11_text_178 (fun H locs hM => ?_)
    refine W.eq (g2 := F0 m 181 ls []) rfl ?_
    refine lv_aload_n hx hb dX11_text_181 rfl (lv_at hl 0 rfl) ?_
    refine g_getP E hM (o := 0) (Nat.le_of_ble_eq_true rfl) rfl fl_X11_16 (q := 3) rfl dX11_text_182 ?_
    obtain ⟨r7, hcr7, he⟩ := g_bind he
    refine g_callS [.ref (B + 3)] (rest := []) E hml hl.1 hM cs_X11_309 (c11_half l D aC B (Nat.le_of_ble_eq_true rfl) rfl hcr7) (by decide) rfl rfl (Nat.le_of_ble_eq_true rfl) dX11_text_185 (fun H locs hM => ?_)
    refine W.eq (g2 := F0 m 188 ls []) rfl ?_
    refine lv_aload_n hx hb dX11_text_188 rfl (lv_at hl 0 rfl) ?_
    refine g_getP E hM (o := 0) (Nat.le_of_ble_eq_true rfl) rfl fl_X11_19 (q := 4) rfl dX11_text_189 ?_
    obtain ⟨r8, hcr8, he⟩ := g_bind he
    refine g_callS [.ref (B + 4)] (rest := []) E hml hl.1 hM cs_X11_309 (c11_half l D aC B (Nat.le_of_ble_eq_true rfl) rfl hcr8) (by decide) rfl rfl (Nat.le_of_ble_eq_true rfl) dX11_text_192 (fun H locs hM => ?_)
    refine W.eq (g2 := F0 m 195 ls []) rfl ?_
    refine lv_aload_n hx hb dX11_text_195 rfl (lv_at hl 0 rfl) ?_
    refine g_getP E hM (o := 0) (Nat.le_of_ble_eq_true rfl) rfl fl_X11_22 (q := 5) rfl dX11_text_196 ?_
    obtain ⟨r9, hcr9, he⟩ := g_bind he
    refine g_callS [.ref (B + 5)] (rest := []) E hml hl.1 hM cs_X11_309 (c11_half l D aC B (Nat.le_of_ble_eq_true rfl) rfl hcr9) (by decide) rfl rfl (Nat.le_of_ble_eq_true rfl) dX11_text_199 (fun H locs hM => ?_)
    refine W.eq (g2 := F0 m 202 ls []) rfl ?_
    refine lv_aload_n hx hb dX11_text_202 rfl (lv_at hl 0 rfl) ?_
    refine g_getP E hM (o := 0) (Nat.le_of_ble_eq_true rfl) rfl fl_X11_25 (q := 6) rfl dX11_text_203 ?_
    obtain ⟨r10, hcr10, he⟩ := g_bind he
    refine g_callS [.ref (B + 6)] (rest := []) E hml hl.1 hM cs_X11_309 (c11_half l D aC B (Nat.le_of_ble_eq_true rfl) rfl hcr10) (by decide) rfl rfl (Nat.le_of_ble_eq_true rfl) dX11_text_206 (fun H locs hM => ?_)
    refine W.eq (g2 := F0 m 209 ls []) rfl ?_
    refine lv_aload_n hx hb dX11_text_209 rfl (lv_at hl 0 rfl) ?_
    refine g_getP E hM (o := 0) (Nat.le_of_ble_eq_true rfl) rfl fl_X11_28 (q := 7) rfl dX11_text_210 ?_
    obtain ⟨r11, hcr11, he⟩ := g_bind he
    refine g_callS [.ref (B + 7)] (rest := []) E hml hl.1 hM cs_X11_309 (c11_half l D aC B (Nat.le_of_ble_eq_true rfl) rfl hcr11) (by decide) rfl rfl (Nat.le_of_ble_eq_true rfl) dX11_text_213 (fun H locs hM => ?_)
    refine W.eq (g2 := F0 m 216 ls []) rfl ?_
    refine lv_aload_n hx hb dX11_text_216 rfl (lv_at hl 0 rfl) ?_
    refine g_getP E hM (o := 0) (Nat.le_of_ble_eq_true rfl) rfl fl_X11_31 (q := 8) rfl dX11_text_217 ?_
    obtain ⟨r12, hcr12, he⟩ := g_bind he
    refine g_callS [.ref (B + 8)] (rest := []) E hml hl.1 hM cs_X11_309 (c11_half l D aC B (Nat.le_of_ble_eq_true rfl) rfl hcr12) (by decide) rfl rfl (Nat.le_of_ble_eq_true rfl) dX11_text_220 (fun H locs hM => ?_)
    refine W.eq (g2 := F0 m 223 ls []) rfl ?_
    refine lv_aload_n hx hb dX11_text_223 rfl (lv_at hl 0 rfl) ?_
    refine g_getP E hM (o := 0) (Nat.le_of_ble_eq_true rfl) rfl fl_X11_34 (q := 9) rfl dX11_text_224 ?_
    obtain ⟨r13, hcr13, he⟩ := g_bind he
    refine g_callS [.ref (B + 9)] (rest := []) E hml hl.1 hM cs_X11_309 (c11_half l D aC B (Nat.le_of_ble_eq_true rfl) rfl hcr13) (by decide) rfl rfl (Nat.le_of_ble_eq_true rfl) dX11_text_227 (fun H locs hM => ?_)
    refine W.eq (g2 := F0 m 230 ls []) rfl ?_
    refine lv_aload_n hx hb dX11_text_230 rfl (lv_at hl 0 rfl) ?_
    refine g_getP E hM (o := 0) (Nat.le_of_ble_eq_true rfl) rfl fl_X11_37 (q := 10) rfl dX11_text_231 ?_
    obtain ⟨r14, hcr14, he⟩ := g_bind he
    refine g_callS [.ref (B + 10)] (rest := []) E hml hl.1 hM cs_X11_309 (c11_half l D aC B (Nat.le_of_ble_eq_true rfl) rfl hcr14) (by decide) rfl rfl (Nat.le_of_ble_eq_true rfl) dX11_text_234 (fun H locs hM => ?_)
    refine W.eq (g2 := F0 m 237 ls []) rfl ?_
    refine lv_aload_n hx hb dX11_text_237 rfl (lv_at hl 0 rfl) ?_
    refine g_getP E hM (o := 0) (Nat.le_of_ble_eq_true rfl) rfl fl_X11_40 (q := 11) rfl dX11_text_238 ?_
    obtain ⟨r15, hcr15, he⟩ := g_bind he
    refine g_callS [.ref (B + 11)] (rest := []) E hml hl.1 hM cs_X11_309 (c11_half l D aC B (Nat.le_of_ble_eq_true rfl) rfl hcr15) (by decide) rfl rfl (Nat.le_of_ble_eq_true rfl) dX11_text_241 (fun H locs hM => ?_)
    refine W.eq (g2 := F0 m 244 ls []) rfl ?_
    refine lv_aload_n hx hb dX11_text_244 rfl (lv_at hl 0 rfl) ?_
    refine g_getP E hM (o := 0) (Nat.le_of_ble_eq_true rfl) rfl fl_X11_43 (q := 12) rfl dX11_text_245 ?_
    obtain ⟨r16, hcr16, he⟩ := g_bind he
    refine g_callS [.ref (B + 12)] (rest := []) E hml hl.1 hM cs_X11_309 (c11_half l D aC B (Nat.le_of_ble_eq_true rfl) rfl hcr16) (by decide) rfl rfl (Nat.le_of_ble_eq_true rfl) dX11_text_248 (fun H locs hM => ?_)
    refine W.eq (g2 := F0 m 251 ls []) rfl ?_
    refine lv_aload_n hx hb dX11_text_251 rfl (lv_at hl 0 rfl) ?_
    refine g_getP E hM (o := 0) (Nat.le_of_ble_eq_true rfl) rfl fl_X11_46 (q := 13) rfl dX11_text_252 ?_
    obtain ⟨r17, hcr17, he⟩ := g_bind he
    refine g_callS [.ref (B + 13)] (rest := []) E hml hl.1 hM cs_X11_309 (c11_half l D aC B (Nat.le_of_ble_eq_true rfl) rfl hcr17) (by decide) rfl rfl (Nat.le_of_ble_eq_true rfl) dX11_text_255 (fun H locs hM => ?_)
    refine W.eq (g2 := F0 m 258 ls []) rfl ?_
    refine lv_aload_n hx hb dX11_text_258 rfl (lv_at hl 0 rfl) ?_
    refine g_getP E hM (o := 0) (Nat.le_of_ble_eq_true rfl) rfl fl_X11_49 (q := 14) rfl dX11_text_259 ?_
    obtain ⟨r18, hcr18, he⟩ := g_bind he
    refine g_callS [.ref (B + 14)] (rest := []) E hml hl.1 hM cs_X11_309 (c11_half l D aC B (Nat.le_of_ble_eq_true rfl) rfl hcr18) (by decide) rfl rfl (Nat.le_of_ble_eq_true rfl) dX11_text_262 (fun H locs hM => ?_)
    refine W.eq (g2 := F0 m 265 ls []) rfl ?_
    refine lv_aload_n hx hb dX11_text_265 rfl (lv_at hl 0 rfl) ?_
    refine g_getP E hM (o := 0) (Nat.le_of_ble_eq_true rfl) rfl fl_X11_52 (q := 15) rfl dX11_text_266 ?_
    obtain ⟨r19, hcr19, he⟩ := g_bind he
    refine g_callS [.ref (B + 15)] (rest := []) E hml hl.1 hM cs_X11_309 (c11_half l D aC B (Nat.le_of_ble_eq_true rfl) rfl hcr19) (by decide) rfl rfl (Nat.le_of_ble_eq_true rfl) dX11_text_269 (fun H locs hM => ?_)
    refine W.eq (g2 := F0 m 272 ls []) rfl ?_
    refine lv_aload_n hx hb dX11_text_272 rfl (lv_at hl 0 rfl) ?_
    refine g_getP E hM (o := 0) (Nat.le_of_ble_eq_true rfl) rfl fl_X11_55 (q := 16) rfl dX11_text_273 ?_
    obtain ⟨r20, hcr20, he⟩ := g_bind he
    refine g_callS [.ref (B + 16)] (rest := []) E hml hl.1 hM cs_X11_309 (c11_half l D aC B (Nat.le_of_ble_eq_true rfl) rfl hcr20) (by decide) rfl rfl (Nat.le_of_ble_eq_true rfl) dX11_text_276 (fun H locs hM => ?_)
    refine W.eq (g2 := F0 m 279 ls []) rfl ?_
    refine lv_aload_n hx hb dX11_text_279 rfl (lv_at hl 0 rfl) ?_
    refine g_getP E hM (o := 0) (Nat.le_of_ble_eq_true rfl) rfl fl_X11_58 (q := 17) rfl dX11_text_280 ?_
    obtain ⟨r21, hcr21, he⟩ := g_bind he
    refine g_callS [.ref (B + 17)] (rest := []) E hml hl.1 hM cs_X11_309 (c11_half l D aC B (Nat.le_of_ble_eq_true rfl) rfl hcr21) (by decide) rfl rfl (Nat.le_of_ble_eq_true rfl) dX11_text_283 (fun H locs hM => ?_)
    refine W.eq (g2 := F0 m 286 ls []) rfl ?_
    refine lv_aload_n hx hb dX11_text_286 rfl (lv_at hl 0 rfl) ?_
    refine g_getP E hM (o := 0) (Nat.le_of_ble_eq_true rfl) rfl fl_X11_61 (q := 18) rfl dX11_text_287 ?_
    obtain ⟨r22, hcr22, he⟩ := g_bind he
    refine g_callS [.ref (B + 18)] (rest := []) E hml hl.1 hM cs_X11_309 (c11_half l D aC B (Nat.le_of_ble_eq_true rfl) rfl hcr22) (by decide) rfl rfl (Nat.le_of_ble_eq_true rfl) dX11_text_290 (fun H locs hM => ?_)
    refine W.eq (g2 := F0 m 293 ls []) rfl ?_
    refine lv_aload_n hx hb dX11_text_293 rfl (lv_at hl 0 rfl) ?_
    refine g_getP E hM (o := 0) (Nat.le_of_ble_eq_true rfl) rfl fl_X11_64 (q := 19) rfl dX11_text_294 ?_
    obtain ⟨r23, hcr23, he⟩ := g_bind he
    refine g_callS [.ref (B + 19)] (rest := []) E hml hl.1 hM cs_X11_309 (c11_half l D aC B (Nat.le_of_ble_eq_true rfl) rfl hcr23) (by decide) rfl rfl (Nat.le_of_ble_eq_true rfl) dX11_text_297 (fun H locs hM => ?_)
    refine W.eq (g2 := F0 m 300 ls []) rfl ?_
    refine lv_aload_n hx hb dX11_text_300 rfl (lv_at hl 0 rfl) ?_
    refine g_getP E hM (o := 0) (Nat.le_of_ble_eq_true rfl) rfl fl_X11_67 (q := 20) rfl dX11_text_301 ?_
    obtain ⟨r24, hcr24, he⟩ := g_bind he
    refine g_callS [.ref (B + 20)] (rest := []) E hml hl.1 hM cs_X11_309 (c11_half l D aC B (Nat.le_of_ble_eq_true rfl) rfl hcr24) (by decide) rfl rfl (Nat.le_of_ble_eq_true rfl) dX11_text_304 (fun H locs hM => ?_)
    refine W.eq (g2 := F0 m 307 ls []) rfl ?_
    refine lv_aload_n hx hb dX11_text_307 rfl (lv_at hl 0 rfl) ?_
    refine g_getP E hM (o := 0) (Nat.le_of_ble_eq_true rfl) rfl fl_X11_70 (q := 21) rfl dX11_text_308 ?_
    obtain ⟨r25, hcr25, he⟩ := g_bind he
    refine g_callS [.ref (B + 21)] (rest := []) E hml hl.1 hM cs_X11_309 (c11_half l D aC B (Nat.le_of_ble_eq_true rfl) rfl hcr25) (by decide) rfl rfl (Nat.le_of_ble_eq_true rfl) dX11_text_311 (fun H locs hM => ?_)
    refine W.eq (g2 := F0 m 314 ls []) rfl ?_
    refine lv_aload_n hx hb dX11_text_314 rfl (lv_at hl 0 rfl) ?_
    refine lv_iconst (v := (0 : Int32)) hx hb dX11_text_315 rfl ?_
    refine g_putI E hM (o := 0) (Nat.le_of_ble_eq_true rfl) rfl fp_X11_313 dX11_text_316 (fun H locs hM => ?_)
    obtain ⟨m26, hm26, he⟩ := g_let_ex he
    rw [← hm26] at hM
    refine lv_aload_n hx hb dX11_text_319 rfl (lv_at hl 0 rfl) ?_
    refine lv_iconst (v := (-1 : Int32)) hx hb dX11_text_320 rfl ?_
    refine g_putI E hM (o := 0) (Nat.le_of_ble_eq_true rfl) rfl fp_X11_135 dX11_text_321 (fun H locs hM => ?_)
    obtain ⟨m27, hm27, he⟩ := g_let_ex he
    rw [← hm27] at hM
    refine lv_aload_n hx hb dX11_text_324 rfl (lv_at hl 0 rfl) ?_
    refine lv_iconst (v := (0 : Int32)) hx hb dX11_text_325 rfl ?_
    refine g_putZ E hM (o := 0) (Nat.le_of_ble_eq_true rfl) rfl fp_X11_316 (Or.inl rfl) dX11_text_326 (fun H locs hM => ?_)
    obtain ⟨m28, hm28, he⟩ := g_let_ex he
    rw [← hm28] at hM
    refine lv_aload_n hx hb dX11_text_329 rfl (lv_at hl 0 rfl) ?_
    refine lv_iconst (v := (0 : Int32)) hx hb dX11_text_330 rfl ?_
    refine g_putI E hM (o := 0) (Nat.le_of_ble_eq_true rfl) rfl fp_X11_320 dX11_text_331 (fun H locs hM => ?_)
    obtain ⟨m29, hm29, he⟩ := g_let_ex he
    rw [← hm29] at hM
    refine lv_aload_n hx hb dX11_text_334 rfl (lv_at hl 0 rfl) ?_
    obtain ⟨r30, hcr30, he⟩ := g_bind he
    refine g_callV [] (rest := []) E hml hl.1 hM cv_X11_154 (c11_begins l D aC B hcr30) (o := 0) (Nat.le_of_ble_eq_true rfl) rfl (by decide) rfl rfl (Nat.le_of_ble_eq_true rfl) dX11_text_335 (fun H locs hM => ?_)
    refine W.eq (g2 := F0 m 338 ls []) rfl ?_
    refine lv_aload_n hx hb dX11_text_338 rfl (lv_at hl 0 rfl) ?_
    refine g_getI E hM (o := 0) (Nat.le_of_ble_eq_true rfl) rfl fl_X11_267 dX11_text_339 ?_
    cases he
    exact g_iret E hM hret hlk dX11_text_342
  · rw [if_neg h5] at he
    refine lv_iconst (v := (-1 : Int32)) hx hb dX11_text_172 rfl ?_
    cases he
    exact g_iret E hM hret hlk dX11_text_173

set_option maxHeartbeats 4000000 in
set_option maxRecDepth 100000 in
theorem w11_text_b127_body (E : g_C p s m args c cX11_text RX11 D aC (g_Zs (g_A B 44))) (hml : c.maxLocals = 3) (hret : meth.sig.returnType = (some .int)) (hlk : meth.locks = false) {F : Nat} {q0 : Int32 × g_M} {a1 : Int32} {s127 : g_M → Option (Int32 × g_M)} (hs127 : ∀ (mem : g_M) (H : Heap) (locs : List Loc) (ls : Array Slot), g_At D aC B yM 44 mem s.heap H locs → lv_has ls 3 [(0, .ref (B + 0))] → s127 mem = some q0 → W p l e (g_rm 211) s m args below meth c H locs 0 0 (g_MQ below D aC B yM 44 args s (some (.int q0.1)) q0.2) (F0 m 127 ls [])) : ∀ (mem : g_M) (H : Heap) (locs : List Loc) (ls : Array Slot), g_At D aC B yM 44 mem s.heap H locs → lv_has ls 3 [(0, .ref (B + 0))] → f11_text_b127_body F a1 s127 mem = some q0 → W p l e (g_rm 211) s m args below meth c H locs 0 0 (g_MQ below D aC B yM 44 args s (some (.int q0.1)) q0.2) (F0 m 127 ls []) := by
  intro mem H locs ls hM hl he
  unfold f11_text_b127_body at he
  have hx := E.1
  have hb := E.2.1
  have hown := E.2.2.1
  have hts := E.2.2.2.1
  refine lv_aload_n hx hb dX11_text_127 rfl (lv_at hl 0 rfl) ?_
  refine g_getI E hM (o := 0) (Nat.le_of_ble_eq_true rfl) rfl fl_X11_211 dX11_text_128 ?_
  refine lv_if_ne (tgt := 149) hx hb dX11_text_131 (by decide) (fun h31 => ?_) (fun h31 => ?_)
  · rw [if_neg h31] at he
    exact w11_text_b149 (F := F) (a1 := a1) E hml hret hlk _ _ _ _ hM (lv_sub hl [0] rfl) he
  · rw [if_pos h31] at he
    refine lv_aload_n hx hb dX11_text_134 rfl (lv_at hl 0 rfl) ?_
    refine g_getI E hM (o := 0) (Nat.le_of_ble_eq_true rfl) rfl fl_X11_176 dX11_text_135 ?_
    refine lv_iconst (v := (4 : Int32)) hx hb dX11_text_138 rfl ?_
    refine lv_icmp_eq (tgt := 149) hx hb dX11_text_139 (by decide) (fun h32 => ?_) (fun h32 => ?_)
    · rw [if_pos h32] at he
      exact w11_text_b149 (F := F) (a1 := a1) E hml hret hlk _ _ _ _ hM (lv_sub hl [0] rfl) he
    · rw [if_neg h32] at he
      refine lv_aload_n hx hb dX11_text_142 rfl (lv_at hl 0 rfl) ?_
      obtain ⟨r33, hcr33, he⟩ := g_bind he
      refine g_callV [] (rest := []) E hml hl.1 hM cv_X11_303 (c11_line l D aC B hcr33) (o := 0) (Nat.le_of_ble_eq_true rfl) rfl (by decide) rfl rfl (Nat.le_of_ble_eq_true rfl) dX11_text_143 (fun H locs hM => ?_)
      refine W.eq (g2 := F0 m 146 ls []) rfl ?_
      refine lv_goto (tgt := 127) hx hb dX11_text_146 (by decide) ?_
      exact hs127 _ _ _ _ hM (lv_sub hl [0] rfl) he

set_option maxHeartbeats 4000000 in
set_option maxRecDepth 100000 in
theorem w11_text_b127 (E : g_C p s m args c cX11_text RX11 D aC (g_Zs (g_A B 44))) (hml : c.maxLocals = 3) (hret : meth.sig.returnType = (some .int)) (hlk : meth.locks = false) {F : Nat} {q0 : Int32 × g_M} {a1 : Int32} : ∀ (mem : g_M) (H : Heap) (locs : List Loc) (ls : Array Slot), g_At D aC B yM 44 mem s.heap H locs → lv_has ls 3 [(0, .ref (B + 0))] → f11_text_b127 F a1 mem = some q0 → W p l e (g_rm 211) s m args below meth c H locs 0 0 (g_MQ below D aC B yM 44 args s (some (.int q0.1)) q0.2) (F0 m 127 ls []) := by
  have key : ∀ (nn : Nat) (x : g_M) (H : Heap) (locs : List Loc) (ls : Array Slot), g_At D aC B yM 44 x s.heap H locs → lv_has ls 3 [(0, .ref (B + 0))] → g_fix (fun sf x => f11_text_b127_body F a1 (fun mem => sf mem) x) nn x = some q0 → W p l e (g_rm 211) s m args below meth c H locs 0 0 (g_MQ below D aC B yM 44 args s (some (.int q0.1)) q0.2) (F0 m 127 ls []) := by
    intro nn
    induction nn with
    | zero => intro x H locs ls hM hl he; simp [g_fix] at he
    | succ nn ih =>
      intro x H locs ls hM hl he
      exact w11_text_b127_body (F := F) (a1 := a1) E hml hret hlk (fun mem H locs ls hM hl he => ih mem H locs ls hM hl he) x H locs ls hM hl he
  intro mem H locs ls hM hl he
  exact key F mem H locs ls hM hl he

set_option maxHeartbeats 4000000 in
set_option maxRecDepth 100000 in
theorem w11_text_b77_body (E : g_C p s m args c cX11_text RX11 D aC (g_Zs (g_A B 44))) (hml : c.maxLocals = 3) (hret : meth.sig.returnType = (some .int)) (hlk : meth.locks = false) {F : Nat} {q0 : Int32 × g_M} {a1 : Int32} {s77 : Int32 → g_M → Option (Int32 × g_M)} (hs77 : ∀ (v2 : Int32) (mem : g_M) (H : Heap) (locs : List Loc) (ls : Array Slot), g_At D aC B yM 44 mem s.heap H locs → lv_has ls 3 [(0, .ref (B + 0)), (2, .int v2)] → s77 v2 mem = some q0 → W p l e (g_rm 211) s m args below meth c H locs 0 0 (g_MQ below D aC B yM 44 args s (some (.int q0.1)) q0.2) (F0 m 77 ls [])) : ∀ (v2 : Int32) (mem : g_M) (H : Heap) (locs : List Loc) (ls : Array Slot), g_At D aC B yM 44 mem s.heap H locs → lv_has ls 3 [(0, .ref (B + 0)), (2, .int v2)] → f11_text_b77_body F a1 s77 v2 mem = some q0 → W p l e (g_rm 211) s m args below meth c H locs 0 0 (g_MQ below D aC B yM 44 args s (some (.int q0.1)) q0.2) (F0 m 77 ls []) := by
  intro v2 mem H locs ls hM hl he
  unfold f11_text_b77_body at he
  have hx := E.1
  have hb := E.2.1
  have hown := E.2.2.1
  have hts := E.2.2.2.1
  refine lv_iload_n hx hb dX11_text_77 rfl (lv_at hl 1 rfl) ?_
  refine lv_bipush (v := (6 : Int32)) hx hb dX11_text_78 rfl ?_
  refine lv_icmp_ge (tgt := 103) hx hb dX11_text_80 (by decide) (fun h34 => ?_) (fun h34 => ?_)
  · rw [if_neg (Int32.not_lt.mpr h34)] at he
    refine lv_aload_n hx hb dX11_text_103 rfl (lv_at hl 0 rfl) ?_
    refine lv_iconst (v := (0 : Int32)) hx hb dX11_text_104 rfl ?_
    refine g_putI E hM (o := 0) (Nat.le_of_ble_eq_true rfl) rfl fp_X11_241 dX11_text_105 (fun H locs hM => ?_)
    obtain ⟨m40, hm40, he⟩ := g_let_ex he
    rw [← hm40] at hM
    refine lv_aload_n hx hb dX11_text_108 rfl (lv_at hl 0 rfl) ?_
    refine lv_iconst (v := (0 : Int32)) hx hb dX11_text_109 rfl ?_
    refine g_putI E hM (o := 0) (Nat.le_of_ble_eq_true rfl) rfl fp_X11_267 dX11_text_110 (fun H locs hM => ?_)
    obtain ⟨m41, hm41, he⟩ := g_let_ex he
    rw [← hm41] at hM
    refine lv_aload_n hx hb dX11_text_113 rfl (lv_at hl 0 rfl) ?_
    refine lv_iconst (v := (0 : Int32)) hx hb dX11_text_114 rfl ?_
    refine g_putI E hM (o := 0) (Nat.le_of_ble_eq_true rfl) rfl fp_X11_300 dX11_text_115 (fun H locs hM => ?_)
    obtain ⟨m42, hm42, he⟩ := g_let_ex he
    rw [← hm42] at hM
    refine lv_aload_n hx hb dX11_text_118 rfl (lv_at hl 0 rfl) ?_
    refine lv_iconst (v := (0 : Int32)) hx hb dX11_text_119 rfl ?_
    refine g_putI E hM (o := 0) (Nat.le_of_ble_eq_true rfl) rfl fp_X11_273 dX11_text_120 (fun H locs hM => ?_)
    obtain ⟨m43, hm43, he⟩ := g_let_ex he
    rw [← hm43] at hM
    refine lv_aload_n hx hb dX11_text_123 rfl (lv_at hl 0 rfl) ?_
    obtain ⟨r44, hcr44, he⟩ := g_bind he
    refine g_callV [] (rest := []) E hml hl.1 hM cv_X11_217 (c11_token l D aC B hcr44) (o := 0) (Nat.le_of_ble_eq_true rfl) rfl (by decide) rfl rfl (Nat.le_of_ble_eq_true rfl) dX11_text_124 (fun H locs hM => ?_)
    refine W.eq (g2 := F0 m 127 ls []) rfl ?_
    exact w11_text_b127 (F := F) (a1 := a1) E hml hret hlk _ _ _ _ hM (lv_sub hl [0] rfl) he
  · rw [if_pos (Int32.not_le.mp h34)] at he
    refine lv_aload_n hx hb dX11_text_83 rfl (lv_at hl 0 rfl) ?_
    refine g_getP E hM (o := 0) (Nat.le_of_ble_eq_true rfl) rfl fl_X11_61 (q := 18) rfl dX11_text_84 ?_
    refine lv_iload_n hx hb dX11_text_87 rfl (lv_at hl 1 rfl) ?_
    refine lv_iconst (v := (0 : Int32)) hx hb dX11_text_88 rfl ?_
    obtain ⟨h35, he⟩ := g_ck_some he
    refine g_iast E hM (o := 18) (Nat.le_of_ble_eq_true rfl) rfl h35 dX11_text_89 (fun H locs hM => ?_)
    obtain ⟨m36, hm36, he⟩ := g_let_ex he
    rw [← hm36] at hM
    refine lv_aload_n hx hb dX11_text_90 rfl (lv_at hl 0 rfl) ?_
    refine g_getP E hM (o := 0) (Nat.le_of_ble_eq_true rfl) rfl fl_X11_64 (q := 19) rfl dX11_text_91 ?_
    refine lv_iload_n hx hb dX11_text_94 rfl (lv_at hl 1 rfl) ?_
    refine lv_iconst (v := (0 : Int32)) hx hb dX11_text_95 rfl ?_
    obtain ⟨h37, he⟩ := g_ck_some he
    refine g_iast E hM (o := 19) (Nat.le_of_ble_eq_true rfl) rfl h37 dX11_text_96 (fun H locs hM => ?_)
    obtain ⟨m38, hm38, he⟩ := g_let_ex he
    rw [← hm38] at hM
    obtain ⟨x39, hx39, he⟩ := g_let_ex he
    refine lv_iinc (v := x39) (lv' := [(2, .int x39), (0, .ref (B + 0))]) hx hb dX11_text_97 hl (k := 1) rfl (by rw [hx39]; rfl) (by decide) rfl (fun ls hl => ?_)
    refine lv_goto (tgt := 77) hx hb dX11_text_100 (by decide) ?_
    exact hs77 _ _ _ _ _ hM (lv_sub hl [1, 0] rfl) he

set_option maxHeartbeats 4000000 in
set_option maxRecDepth 100000 in
theorem w11_text_b77 (E : g_C p s m args c cX11_text RX11 D aC (g_Zs (g_A B 44))) (hml : c.maxLocals = 3) (hret : meth.sig.returnType = (some .int)) (hlk : meth.locks = false) {F : Nat} {q0 : Int32 × g_M} {a1 : Int32} : ∀ (v2 : Int32) (mem : g_M) (H : Heap) (locs : List Loc) (ls : Array Slot), g_At D aC B yM 44 mem s.heap H locs → lv_has ls 3 [(0, .ref (B + 0)), (2, .int v2)] → f11_text_b77 F a1 v2 mem = some q0 → W p l e (g_rm 211) s m args below meth c H locs 0 0 (g_MQ below D aC B yM 44 args s (some (.int q0.1)) q0.2) (F0 m 77 ls []) := by
  have key : ∀ (nn : Nat) (x : Int32 × g_M) (H : Heap) (locs : List Loc) (ls : Array Slot), g_At D aC B yM 44 x.2 s.heap H locs → lv_has ls 3 [(0, .ref (B + 0)), (2, .int x.1)] → g_fix (fun sf x => f11_text_b77_body F a1 (fun v2 mem => sf (v2, mem)) x.1 x.2) nn x = some q0 → W p l e (g_rm 211) s m args below meth c H locs 0 0 (g_MQ below D aC B yM 44 args s (some (.int q0.1)) q0.2) (F0 m 77 ls []) := by
    intro nn
    induction nn with
    | zero => intro x H locs ls hM hl he; simp [g_fix] at he
    | succ nn ih =>
      intro x H locs ls hM hl he
      exact w11_text_b77_body (F := F) (a1 := a1) E hml hret hlk (fun v2 mem H locs ls hM hl he => ih (v2, mem) H locs ls hM hl he) x.1 x.2 H locs ls hM hl he
  intro v2 mem H locs ls hM hl he
  exact key F (v2, mem) H locs ls hM hl he

set_option maxHeartbeats 4000000 in
set_option maxRecDepth 100000 in
theorem w11_text_b47_body (E : g_C p s m args c cX11_text RX11 D aC (g_Zs (g_A B 44))) (hml : c.maxLocals = 3) (hret : meth.sig.returnType = (some .int)) (hlk : meth.locks = false) {F : Nat} {q0 : Int32 × g_M} {a1 : Int32} {s47 : Int32 → g_M → Option (Int32 × g_M)} (hs47 : ∀ (v2 : Int32) (mem : g_M) (H : Heap) (locs : List Loc) (ls : Array Slot), g_At D aC B yM 44 mem s.heap H locs → lv_has ls 3 [(0, .ref (B + 0)), (2, .int v2)] → s47 v2 mem = some q0 → W p l e (g_rm 211) s m args below meth c H locs 0 0 (g_MQ below D aC B yM 44 args s (some (.int q0.1)) q0.2) (F0 m 47 ls [])) : ∀ (v2 : Int32) (mem : g_M) (H : Heap) (locs : List Loc) (ls : Array Slot), g_At D aC B yM 44 mem s.heap H locs → lv_has ls 3 [(0, .ref (B + 0)), (2, .int v2)] → f11_text_b47_body F a1 s47 v2 mem = some q0 → W p l e (g_rm 211) s m args below meth c H locs 0 0 (g_MQ below D aC B yM 44 args s (some (.int q0.1)) q0.2) (F0 m 47 ls []) := by
  intro v2 mem H locs ls hM hl he
  unfold f11_text_b47_body at he
  have hx := E.1
  have hb := E.2.1
  have hown := E.2.2.1
  have hts := E.2.2.2.1
  refine lv_iload_n hx hb dX11_text_47 rfl (lv_at hl 1 rfl) ?_
  refine lv_bipush (v := (9 : Int32)) hx hb dX11_text_48 rfl ?_
  refine lv_icmp_ge (tgt := 75) hx hb dX11_text_50 (by decide) (fun h45 => ?_) (fun h45 => ?_)
  · rw [if_neg (Int32.not_lt.mpr h45)] at he
    refine lv_iconst (v := (3 : Int32)) hx hb dX11_text_75 rfl ?_
    refine lv_istore_n (lv' := [(2, .int (3 : Int32)), (0, .ref (B + 0))]) hx hb dX11_text_76 rfl hl (by decide) rfl (fun ls hl => ?_)
    exact w11_text_b77 (F := F) (a1 := a1) E hml hret hlk _ _ _ _ _ hM (lv_sub hl [1, 0] rfl) he
  · rw [if_pos (Int32.not_le.mp h45)] at he
    refine lv_aload_n hx hb dX11_text_53 rfl (lv_at hl 0 rfl) ?_
    refine lv_iload_n hx hb dX11_text_54 rfl (lv_at hl 1 rfl) ?_
    refine lv_iload_n hx hb dX11_text_55 rfl (lv_at hl 1 rfl) ?_
    refine lv_iconst (v := (5 : Int32)) hx hb dX11_text_56 rfl ?_
    refine lv_icmp_ne (tgt := 65) hx hb dX11_text_57 (by decide) (fun h46 => ?_) (fun h46 => ?_)
    · rw [if_neg h46] at he
      refine lv_iconst (v := (0 : Int32)) hx hb dX11_text_65 rfl ?_
      exact w11_text_b66 (F := F) (a1 := a1) E hml hret hlk hs47 _ _ _ _ _ _ _ hM (lv_sub hl [0, 1] rfl) he
    · rw [if_pos h46] at he
      refine lv_bipush (v := (9 : Int32)) hx hb dX11_text_60 rfl ?_
      refine lv_goto (tgt := 66) hx hb dX11_text_62 (by decide) ?_
      exact w11_text_b66 (F := F) (a1 := a1) E hml hret hlk hs47 _ _ _ _ _ _ _ hM (lv_sub hl [0, 1] rfl) he

set_option maxHeartbeats 4000000 in
set_option maxRecDepth 100000 in
theorem w11_text_b47 (E : g_C p s m args c cX11_text RX11 D aC (g_Zs (g_A B 44))) (hml : c.maxLocals = 3) (hret : meth.sig.returnType = (some .int)) (hlk : meth.locks = false) {F : Nat} {q0 : Int32 × g_M} {a1 : Int32} : ∀ (v2 : Int32) (mem : g_M) (H : Heap) (locs : List Loc) (ls : Array Slot), g_At D aC B yM 44 mem s.heap H locs → lv_has ls 3 [(0, .ref (B + 0)), (2, .int v2)] → f11_text_b47 F a1 v2 mem = some q0 → W p l e (g_rm 211) s m args below meth c H locs 0 0 (g_MQ below D aC B yM 44 args s (some (.int q0.1)) q0.2) (F0 m 47 ls []) := by
  have key : ∀ (nn : Nat) (x : Int32 × g_M) (H : Heap) (locs : List Loc) (ls : Array Slot), g_At D aC B yM 44 x.2 s.heap H locs → lv_has ls 3 [(0, .ref (B + 0)), (2, .int x.1)] → g_fix (fun sf x => f11_text_b47_body F a1 (fun v2 mem => sf (v2, mem)) x.1 x.2) nn x = some q0 → W p l e (g_rm 211) s m args below meth c H locs 0 0 (g_MQ below D aC B yM 44 args s (some (.int q0.1)) q0.2) (F0 m 47 ls []) := by
    intro nn
    induction nn with
    | zero => intro x H locs ls hM hl he; simp [g_fix] at he
    | succ nn ih =>
      intro x H locs ls hM hl he
      exact w11_text_b47_body (F := F) (a1 := a1) E hml hret hlk (fun v2 mem H locs ls hM hl he => ih (v2, mem) H locs ls hM hl he) x.1 x.2 H locs ls hM hl he
  intro v2 mem H locs ls hM hl he
  exact key F (v2, mem) H locs ls hM hl he

set_option maxHeartbeats 4000000 in
set_option maxRecDepth 100000 in
theorem c11_text (l : Launch) (D : va_G) (aC : Nat → ClassId) (B : Nat) {F : Nat} {a1 : Int32} {mem : g_M} {q0 : Int32 × g_M} (he : f11_text F a1 mem = some q0) : g_Met l yX11_text cX11_text 3 (some .int) 211 D aC B yM 44 mem [.ref (B + 0), .int a1] (some (.int q0.1)) q0.2 := by
  refine g_ofW (by decide) (Nat.le_of_ble_eq_true rfl) ?_
  intro p e s m args below meth c ls E hml hret hlk hM hl
  have E : g_C p s m args c cX11_text RX11 D aC (g_Zs (g_A B 44)) := E
  have hx := E.1
  have hb := E.2.1
  have hown := E.2.2.1
  have hts := E.2.2.2.1
  have hl : lv_has ls 3 [(0, .ref (B + 0)), (1, .int a1)] := hl
  unfold f11_text at he
  refine lv_aload_n hx hb dX11_text_0 rfl (lv_at hl 0 rfl) ?_
  refine lv_iconst (v := (0 : Int32)) hx hb dX11_text_1 rfl ?_
  refine g_putI E hM (o := 0) (Nat.le_of_ble_eq_true rfl) rfl fp_X11_157 dX11_text_2 (fun H locs hM => ?_)
  obtain ⟨m47, hm47, he⟩ := g_let_ex he
  rw [← hm47] at hM
  refine lv_iload_n hx hb dX11_text_5 rfl (lv_at hl 1 rfl) ?_
  refine lv_if_lt (tgt := 17) hx hb dX11_text_6 (by decide) (fun h48 => ?_) (fun h48 => ?_)
  · rw [if_neg (Int32.not_le.mpr h48)] at he
    refine lv_bipush (v := (-2 : Int32)) hx hb dX11_text_17 rfl ?_
    cases he
    exact g_iret E hM hret hlk dX11_text_19
  · rw [if_pos (Int32.not_lt.mp h48)] at he
    refine lv_iload_n hx hb dX11_text_9 rfl (lv_at hl 1 rfl) ?_
    refine lv_aload_n hx hb dX11_text_10 rfl (lv_at hl 0 rfl) ?_
    refine g_getI E hM (o := 0) (Nat.le_of_ble_eq_true rfl) rfl fl_X11_160 dX11_text_11 ?_
    refine lv_icmp_le (tgt := 20) hx hb dX11_text_14 (by decide) (fun h49 => ?_) (fun h49 => ?_)
    · rw [if_neg (Int32.not_lt.mpr h49)] at he
      refine lv_aload_n hx hb dX11_text_20 rfl (lv_at hl 0 rfl) ?_
      refine lv_iload_n hx hb dX11_text_21 rfl (lv_at hl 1 rfl) ?_
      refine g_putI E hM (o := 0) (Nat.le_of_ble_eq_true rfl) rfl fp_X11_166 dX11_text_22 (fun H locs hM => ?_)
      obtain ⟨m50, hm50, he⟩ := g_let_ex he
      rw [← hm50] at hM
      refine lv_aload_n hx hb dX11_text_25 rfl (lv_at hl 0 rfl) ?_
      refine lv_iconst (v := (0 : Int32)) hx hb dX11_text_26 rfl ?_
      refine g_putI E hM (o := 0) (Nat.le_of_ble_eq_true rfl) rfl fp_X11_160 dX11_text_27 (fun H locs hM => ?_)
      obtain ⟨m51, hm51, he⟩ := g_let_ex he
      rw [← hm51] at hM
      refine lv_aload_n hx hb dX11_text_30 rfl (lv_at hl 0 rfl) ?_
      refine lv_iconst (v := (0 : Int32)) hx hb dX11_text_31 rfl ?_
      refine g_putI E hM (o := 0) (Nat.le_of_ble_eq_true rfl) rfl fp_X11_163 dX11_text_32 (fun H locs hM => ?_)
      obtain ⟨m52, hm52, he⟩ := g_let_ex he
      rw [← hm52] at hM
      refine lv_aload_n hx hb dX11_text_35 rfl (lv_at hl 0 rfl) ?_
      refine lv_iconst (v := (0 : Int32)) hx hb dX11_text_36 rfl ?_
      refine g_putI E hM (o := 0) (Nat.le_of_ble_eq_true rfl) rfl fp_X11_211 dX11_text_37 (fun H locs hM => ?_)
      obtain ⟨m53, hm53, he⟩ := g_let_ex he
      rw [← hm53] at hM
      refine lv_aload_n hx hb dX11_text_40 rfl (lv_at hl 0 rfl) ?_
      refine lv_iconst (v := (-1 : Int32)) hx hb dX11_text_41 rfl ?_
      refine g_putI E hM (o := 0) (Nat.le_of_ble_eq_true rfl) rfl fp_X11_214 dX11_text_42 (fun H locs hM => ?_)
      obtain ⟨m54, hm54, he⟩ := g_let_ex he
      rw [← hm54] at hM
      refine lv_iconst (v := (0 : Int32)) hx hb dX11_text_45 rfl ?_
      refine lv_istore_n (lv' := [(2, .int (0 : Int32)), (0, .ref (B + 0)), (1, .int a1)]) hx hb dX11_text_46 rfl hl (by decide) rfl (fun ls hl => ?_)
      exact w11_text_b47 (F := F) (a1 := a1) E hml hret hlk _ _ _ _ _ hM (lv_sub hl [1, 0] rfl) he
    · rw [if_pos (Int32.not_le.mp h49)] at he
      refine lv_bipush (v := (-2 : Int32)) hx hb dX11_text_17 rfl ?_
      cases he
      exact g_iret E hM hret hlk dX11_text_19

set_option maxHeartbeats 4000000 in
set_option maxRecDepth 100000 in
theorem c11_fault (l : Launch) (D : va_G) (aC : Nat → ClassId) (B : Nat) {F : Nat} {a1 : Int32} {mem : g_M} {q0 : Int32 × g_M} (he : f11_fault F a1 mem = some q0) : g_Met l yX11_fault cX11_fault 2 (some .int) 1 D aC B yM 44 mem [.ref (B + 0), .int a1] (some (.int q0.1)) q0.2 := by
  refine g_ofW (by decide) (Nat.le_of_ble_eq_true rfl) ?_
  intro p e s m args below meth c ls E hml hret hlk hM hl
  have E : g_C p s m args c cX11_fault RX11 D aC (g_Zs (g_A B 44)) := E
  have hx := E.1
  have hb := E.2.1
  have hown := E.2.2.1
  have hts := E.2.2.2.1
  have hl : lv_has ls 2 [(0, .ref (B + 0)), (1, .int a1)] := hl
  unfold f11_fault at he
  refine lv_aload_n hx hb dX11_fault_0 rfl (lv_at hl 0 rfl) ?_
  refine lv_iconst (v := (0 : Int32)) hx hb dX11_fault_1 rfl ?_
  refine g_putI E hM (o := 0) (Nat.le_of_ble_eq_true rfl) rfl fp_X11_157 dX11_fault_2 (fun H locs hM => ?_)
  obtain ⟨m1, hm1, he⟩ := g_let_ex he
  rw [← hm1] at hM
  refine lv_iload_n hx hb dX11_fault_5 rfl (lv_at hl 1 rfl) ?_
  refine lv_if_ne (tgt := 16) hx hb dX11_fault_6 (by decide) (fun h2 => ?_) (fun h2 => ?_)
  · rw [if_neg h2] at he
    refine lv_iload_n hx hb dX11_fault_16 rfl (lv_at hl 1 rfl) ?_
    refine lv_iconst (v := (1 : Int32)) hx hb dX11_fault_17 rfl ?_
    refine lv_icmp_ne (tgt := 28) hx hb dX11_fault_18 (by decide) (fun h3 => ?_) (fun h3 => ?_)
    · rw [if_neg h3] at he
      refine lv_iconst (v := (-1 : Int32)) hx hb dX11_fault_28 rfl ?_
      cases he
      exact g_iret E hM hret hlk dX11_fault_29
    · rw [if_pos h3] at he
      refine lv_aload_n hx hb dX11_fault_21 rfl (lv_at hl 0 rfl) ?_
      refine g_getI E hM (o := 0) (Nat.le_of_ble_eq_true rfl) rfl fl_X11_73 dX11_fault_22 ?_
      refine lv_goto (tgt := 29) hx hb dX11_fault_25 (by decide) ?_
      cases he
      exact g_iret E hM hret hlk dX11_fault_29
  · rw [if_pos h2] at he
    refine lv_aload_n hx hb dX11_fault_9 rfl (lv_at hl 0 rfl) ?_
    refine g_getI E hM (o := 0) (Nat.le_of_ble_eq_true rfl) rfl fl_X11_306 dX11_fault_10 ?_
    refine lv_goto (tgt := 29) hx hb dX11_fault_13 (by decide) ?_
    cases he
    exact g_iret E hM hret hlk dX11_fault_29

set_option maxHeartbeats 4000000 in
set_option maxRecDepth 100000 in
theorem c11_named (l : Launch) (D : va_G) (aC : Nat → ClassId) (B : Nat) {F : Nat} {a1 : Int32} {a2 : Int32} {mem : g_M} {q0 : Int32 × g_M} (he : f11_named F a1 a2 mem = some q0) : g_Met l yX11_named cX11_named 3 (some .int) 2 D aC B yM 44 mem [.ref (B + 0), .int a1, .int a2] (some (.int q0.1)) q0.2 := by
  refine g_ofW (by decide) (Nat.le_of_ble_eq_true rfl) ?_
  intro p e s m args below meth c ls E hml hret hlk hM hl
  have E : g_C p s m args c cX11_named RX11 D aC (g_Zs (g_A B 44)) := E
  have hx := E.1
  have hb := E.2.1
  have hown := E.2.2.1
  have hts := E.2.2.2.1
  have hl : lv_has ls 3 [(0, .ref (B + 0)), (1, .int a1), (2, .int a2)] := hl
  unfold f11_named at he
  refine lv_aload_n hx hb dX11_named_0 rfl (lv_at hl 0 rfl) ?_
  refine lv_iconst (v := (0 : Int32)) hx hb dX11_named_1 rfl ?_
  refine g_putI E hM (o := 0) (Nat.le_of_ble_eq_true rfl) rfl fp_X11_157 dX11_named_2 (fun H locs hM => ?_)
  obtain ⟨m1, hm1, he⟩ := g_let_ex he
  rw [← hm1] at hM
  refine lv_iload_n hx hb dX11_named_5 rfl (lv_at hl 1 rfl) ?_
  by_cases h2 : a1 = (0 : Int32)
  · rw [if_pos h2] at he
    refine lv_tableIn (tgt := 32) (off := 26) hx hb dX11_named_6 (by rw [h2]; decide) (by rw [h2]; decide) (by rw [h2]; rfl) (by decide) ?_
    refine lv_aload_n hx hb dX11_named_32 rfl (lv_at hl 0 rfl) ?_
    refine g_getP E hM (o := 0) (Nat.le_of_ble_eq_true rfl) rfl fl_X11_16 (q := 3) rfl dX11_named_33 ?_
    refine lv_iconst (v := (0 : Int32)) hx hb dX11_named_36 rfl ?_
    refine lv_aload_n hx hb dX11_named_37 rfl (lv_at hl 0 rfl) ?_
    refine g_getP E hM (o := 0) (Nat.le_of_ble_eq_true rfl) rfl fl_X11_13 (q := 2) rfl dX11_named_38 ?_
    refine lv_iconst (v := (0 : Int32)) hx hb dX11_named_41 rfl ?_
    obtain ⟨h3, he⟩ := g_ck_some he
    refine g_iald E hM (o := 2) (Nat.le_of_ble_eq_true rfl) rfl h3 dX11_named_42 ?_
    refine lv_iload_n hx hb dX11_named_43 rfl (lv_at hl 2 rfl) ?_
    obtain ⟨r4, hcr4, he⟩ := g_bind he
    refine g_callS [.ref (B + 3), .int (0 : Int32), .int (m1.1 2 (0 : Int32).toNatClampNeg), .int a2] (rest := []) E hml hl.1 hM cs_X11_223 (c11_found l D aC B (Nat.le_of_ble_eq_true rfl) rfl hcr4) (by decide) rfl rfl (Nat.le_of_ble_eq_true rfl) dX11_named_44 (fun H locs hM => ?_)
    refine W.eq (g2 := F0 m 47 ls [.int r4]) rfl ?_
    cases he
    exact g_iret E hM hret hlk dX11_named_47
  rw [if_neg h2] at he
  by_cases h5 : a1 = (1 : Int32)
  · rw [if_pos h5] at he
    refine lv_tableIn (tgt := 48) (off := 42) hx hb dX11_named_6 (by rw [h5]; decide) (by rw [h5]; decide) (by rw [h5]; rfl) (by decide) ?_
    refine lv_aload_n hx hb dX11_named_48 rfl (lv_at hl 0 rfl) ?_
    refine g_getP E hM (o := 0) (Nat.le_of_ble_eq_true rfl) rfl fl_X11_22 (q := 5) rfl dX11_named_49 ?_
    refine lv_iconst (v := (0 : Int32)) hx hb dX11_named_52 rfl ?_
    refine lv_aload_n hx hb dX11_named_53 rfl (lv_at hl 0 rfl) ?_
    refine g_getP E hM (o := 0) (Nat.le_of_ble_eq_true rfl) rfl fl_X11_13 (q := 2) rfl dX11_named_54 ?_
    refine lv_iconst (v := (1 : Int32)) hx hb dX11_named_57 rfl ?_
    obtain ⟨h6, he⟩ := g_ck_some he
    refine g_iald E hM (o := 2) (Nat.le_of_ble_eq_true rfl) rfl h6 dX11_named_58 ?_
    refine lv_iload_n hx hb dX11_named_59 rfl (lv_at hl 2 rfl) ?_
    obtain ⟨r7, hcr7, he⟩ := g_bind he
    refine g_callS [.ref (B + 5), .int (0 : Int32), .int (m1.1 2 (1 : Int32).toNatClampNeg), .int a2] (rest := []) E hml hl.1 hM cs_X11_223 (c11_found l D aC B (Nat.le_of_ble_eq_true rfl) rfl hcr7) (by decide) rfl rfl (Nat.le_of_ble_eq_true rfl) dX11_named_60 (fun H locs hM => ?_)
    refine W.eq (g2 := F0 m 63 ls [.int r7]) rfl ?_
    cases he
    exact g_iret E hM hret hlk dX11_named_63
  rw [if_neg h5] at he
  by_cases h8 : a1 = (2 : Int32)
  · rw [if_pos h8] at he
    refine lv_tableIn (tgt := 64) (off := 58) hx hb dX11_named_6 (by rw [h8]; decide) (by rw [h8]; decide) (by rw [h8]; rfl) (by decide) ?_
    refine lv_aload_n hx hb dX11_named_64 rfl (lv_at hl 0 rfl) ?_
    refine g_getP E hM (o := 0) (Nat.le_of_ble_eq_true rfl) rfl fl_X11_31 (q := 8) rfl dX11_named_65 ?_
    refine lv_iconst (v := (0 : Int32)) hx hb dX11_named_68 rfl ?_
    refine lv_aload_n hx hb dX11_named_69 rfl (lv_at hl 0 rfl) ?_
    refine g_getP E hM (o := 0) (Nat.le_of_ble_eq_true rfl) rfl fl_X11_13 (q := 2) rfl dX11_named_70 ?_
    refine lv_iconst (v := (2 : Int32)) hx hb dX11_named_73 rfl ?_
    obtain ⟨h9, he⟩ := g_ck_some he
    refine g_iald E hM (o := 2) (Nat.le_of_ble_eq_true rfl) rfl h9 dX11_named_74 ?_
    refine lv_iload_n hx hb dX11_named_75 rfl (lv_at hl 2 rfl) ?_
    obtain ⟨r10, hcr10, he⟩ := g_bind he
    refine g_callS [.ref (B + 8), .int (0 : Int32), .int (m1.1 2 (2 : Int32).toNatClampNeg), .int a2] (rest := []) E hml hl.1 hM cs_X11_223 (c11_found l D aC B (Nat.le_of_ble_eq_true rfl) rfl hcr10) (by decide) rfl rfl (Nat.le_of_ble_eq_true rfl) dX11_named_76 (fun H locs hM => ?_)
    refine W.eq (g2 := F0 m 79 ls [.int r10]) rfl ?_
    cases he
    exact g_iret E hM hret hlk dX11_named_79
  rw [if_neg h8] at he
  refine lv_tableOut (tgt := 80) hx hb dX11_named_6 (by have zh2 := lv_neT (a := 0) h2 rfl; have zh5 := lv_neT (a := 1) h5 rfl; have zh8 := lv_neT (a := 2) h8 rfl; omega) (by decide) ?_
  refine lv_iconst (v := (-1 : Int32)) hx hb dX11_named_80 rfl ?_
  cases he
  exact g_iret E hM hret hlk dX11_named_81

set_option maxHeartbeats 4000000 in
set_option maxRecDepth 100000 in
theorem c11_is (l : Launch) (D : va_G) (aC : Nat → ClassId) (B : Nat) {F : Nat} {a0 : Int32} {mem : g_M} {q0 : Int64} (he : f11_is F a0 mem = some q0) : g_Met l yX11_is cX11_is 1 (some .long) 1 D aC B yM 44 mem [.int a0] (some (.long q0)) mem := by
  refine g_ofW (by decide) (Nat.le_of_ble_eq_true rfl) ?_
  intro p e s m args below meth c ls E hml hret hlk hM hl
  have E : g_C p s m args c cX11_is RX11 D aC (g_Zs (g_A B 44)) := E
  have hx := E.1
  have hb := E.2.1
  have hown := E.2.2.1
  have hts := E.2.2.2.1
  have hl : lv_has ls 1 [(0, .int a0)] := hl
  unfold f11_is at he
  refine lv_iload_n hx hb dX11_is_0 rfl (lv_at hl 0 rfl) ?_
  refine lv_if_eq (tgt := 8) hx hb dX11_is_1 (by decide) (fun h1 => ?_) (fun h1 => ?_)
  · rw [if_pos h1] at he
    refine lv_lconst (v := (0 : Int64)) hx hb dX11_is_8 rfl ?_
    cases he
    exact g_lret E hM hret hlk dX11_is_9
  · rw [if_neg h1] at he
    refine lv_lconst (v := (1 : Int64)) hx hb dX11_is_4 rfl ?_
    refine lv_goto (tgt := 9) hx hb dX11_is_5 (by decide) ?_
    cases he
    exact g_lret E hM hret hlk dX11_is_9

set_option maxHeartbeats 4000000 in
set_option maxRecDepth 100000 in
theorem w11_works_b40 (E : g_C p s m args c cX11_works RX11 D aC (g_Zs (g_A B 44))) (hml : c.maxLocals = 8) (hret : meth.sig.returnType = (some .boolean)) (hlk : meth.locks = false) {F : Nat} {q0 : Int32 × g_M} {a1 : Int32} : ∀ (w1 : Int32) (w2 : Int32) (mem : g_M) (H : Heap) (locs : List Loc) (ls : Array Slot), g_At D aC B yM 44 mem s.heap H locs → lv_has ls 8 [] → f11_works_b40 F a1 w1 w2 mem = some q0 → W p l e (g_rm 2) s m args below meth c H locs 0 0 (g_MQ below D aC B yM 44 args s (some (.int q0.1)) q0.2) (F0 m 40 ls [.int w2, .int w1, .ref (B + 23)]) := by
  intro w1 w2 mem H locs ls hM hl he
  unfold f11_works_b40 at he
  have hx := E.1
  have hb := E.2.1
  have hown := E.2.2.1
  have hts := E.2.2.2.1
  obtain ⟨r1, hcr1, he⟩ := g_bind he
  refine g_callS [.int w2] (rest := [.int w1, .ref (B + 23)]) E hml hl.1 hM cs_X11_326 (c11_is l D aC B hcr1) (by decide) rfl rfl (Nat.le_of_ble_eq_true rfl) dX11_works_40 (fun H locs hM => ?_)
  refine W.eq (g2 := F0 m 43 ls [.long r1, .int w1, .ref (B + 23)]) rfl ?_
  obtain ⟨h2, he⟩ := g_ck_some he
  refine g_last E hM (o := 23) (Nat.le_of_ble_eq_true rfl) rfl h2 dX11_works_43 (fun H locs hM => ?_)
  obtain ⟨m3, hm3, he⟩ := g_let_ex he
  rw [← hm3] at hM
  refine lv_iconst (v := (1 : Int32)) hx hb dX11_works_44 rfl ?_
  cases he
  exact g_zret E hM hret hlk (Or.inr rfl) dX11_works_45

set_option maxHeartbeats 4000000 in
set_option maxRecDepth 100000 in
theorem w11_works_b407 (E : g_C p s m args c cX11_works RX11 D aC (g_Zs (g_A B 44))) (hml : c.maxLocals = 8) (hret : meth.sig.returnType = (some .boolean)) (hlk : meth.locks = false) {F : Nat} {q0 : Int32 × g_M} {a1 : Int32} : ∀ (v6 : Int64) (mem : g_M) (H : Heap) (locs : List Loc) (ls : Array Slot), g_At D aC B yM 44 mem s.heap H locs → lv_has ls 8 [(0, .ref (B + 0)), (6, .long v6)] → f11_works_b407 F a1 v6 mem = some q0 → W p l e (g_rm 2) s m args below meth c H locs 0 0 (g_MQ below D aC B yM 44 args s (some (.int q0.1)) q0.2) (F0 m 407 ls []) := by
  intro v6 mem H locs ls hM hl he
  unfold f11_works_b407 at he
  have hx := E.1
  have hb := E.2.1
  have hown := E.2.2.1
  have hts := E.2.2.2.1
  refine lv_aload_n hx hb dX11_works_407 rfl (lv_at hl 0 rfl) ?_
  refine g_getP E hM (o := 0) (Nat.le_of_ble_eq_true rfl) rfl fl_X11_81 (q := 23) rfl dX11_works_408 ?_
  refine lv_aload_n hx hb dX11_works_411 rfl (lv_at hl 0 rfl) ?_
  refine g_getI E hM (o := 0) (Nat.le_of_ble_eq_true rfl) rfl fl_X11_323 dX11_works_412 ?_
  refine lv_iconst (v := (1 : Int32)) hx hb dX11_works_415 rfl ?_
  refine lv_isub hx hb dX11_works_416 ?_
  refine lv_lload hx hb dX11_works_417 (lv_at hl 1 rfl) ?_
  obtain ⟨h4, he⟩ := g_ck_some he
  refine g_last E hM (o := 23) (Nat.le_of_ble_eq_true rfl) rfl h4 dX11_works_419 (fun H locs hM => ?_)
  obtain ⟨m5, hm5, he⟩ := g_let_ex he
  rw [← hm5] at hM
  refine lv_lload hx hb dX11_works_420 (lv_at hl 1 rfl) ?_
  refine lv_ldc2 (v := (1000000000000 : Int64)) hx hb hown (hts _ kc_X11_336) dX11_works_422 ?_
  refine W.lcmp hx hb dX11_works_425 ?_
  refine lv_if_gt (tgt := 442) hx hb dX11_works_426 (by decide) (fun h6 => ?_) (fun h6 => ?_)
  · rw [if_neg (Int32.not_le.mpr h6)] at he
    refine lv_iconst (v := (0 : Int32)) hx hb dX11_works_442 rfl ?_
    cases he
    exact g_zret E hM hret hlk (Or.inl rfl) dX11_works_443
  · rw [if_pos (Int32.not_lt.mp h6)] at he
    refine lv_lload hx hb dX11_works_429 (lv_at hl 1 rfl) ?_
    refine lv_ldc2 (v := (-1000000000000 : Int64)) hx hb hown (hts _ kc_X11_338) dX11_works_431 ?_
    refine W.lcmp hx hb dX11_works_434 ?_
    refine lv_if_lt (tgt := 442) hx hb dX11_works_435 (by decide) (fun h7 => ?_) (fun h7 => ?_)
    · rw [if_neg (Int32.not_le.mpr h7)] at he
      refine lv_iconst (v := (0 : Int32)) hx hb dX11_works_442 rfl ?_
      cases he
      exact g_zret E hM hret hlk (Or.inl rfl) dX11_works_443
    · rw [if_pos (Int32.not_lt.mp h7)] at he
      refine lv_iconst (v := (1 : Int32)) hx hb dX11_works_438 rfl ?_
      refine lv_goto (tgt := 443) hx hb dX11_works_439 (by decide) ?_
      cases he
      exact g_zret E hM hret hlk (Or.inr rfl) dX11_works_443

set_option maxHeartbeats 4000000 in
set_option maxRecDepth 100000 in
theorem w11_works_b212 (E : g_C p s m args c cX11_works RX11 D aC (g_Zs (g_A B 44))) (hml : c.maxLocals = 8) (hret : meth.sig.returnType = (some .boolean)) (hlk : meth.locks = false) {F : Nat} {q0 : Int32 × g_M} {a1 : Int32} : ∀ (v2 : Int64) (v4 : Int64) (mem : g_M) (H : Heap) (locs : List Loc) (ls : Array Slot), g_At D aC B yM 44 mem s.heap H locs → lv_has ls 8 [(0, .ref (B + 0)), (2, .long v2), (4, .long v4)] → f11_works_b212 F a1 v2 v4 mem = some q0 → W p l e (g_rm 2) s m args below meth c H locs 0 0 (g_MQ below D aC B yM 44 args s (some (.int q0.1)) q0.2) (F0 m 212 ls []) := by
  intro v2 v4 mem H locs ls hM hl he
  unfold f11_works_b212 at he
  have hx := E.1
  have hb := E.2.1
  have hown := E.2.2.1
  have hts := E.2.2.2.1
  refine lv_lload hx hb dX11_works_212 (lv_at hl 2 rfl) ?_
  refine lv_lload_n hx hb dX11_works_214 rfl (lv_at hl 1 rfl) ?_
  refine lv_lmul hx hb dX11_works_215 ?_
  obtain ⟨x8, hx8, he⟩ := g_let_ex he
  refine g_topJ hx8 ?_
  refine lv_lstore (lv' := [(6, .long x8), (0, .ref (B + 0)), (2, .long v2), (4, .long v4)]) hx hb dX11_works_216 hl (by decide) rfl (fun ls hl => ?_)
  refine lv_goto (tgt := 407) hx hb dX11_works_218 (by decide) ?_
  exact w11_works_b407 (F := F) (a1 := a1) E hml hret hlk _ _ _ _ _ hM (lv_sub hl [1, 0] rfl) he

set_option maxHeartbeats 4000000 in
set_option maxRecDepth 100000 in
theorem w11_works_b250 (E : g_C p s m args c cX11_works RX11 D aC (g_Zs (g_A B 44))) (hml : c.maxLocals = 8) (hret : meth.sig.returnType = (some .boolean)) (hlk : meth.locks = false) {F : Nat} {q0 : Int32 × g_M} {a1 : Int32} : ∀ (w0 : Int32) (mem : g_M) (H : Heap) (locs : List Loc) (ls : Array Slot), g_At D aC B yM 44 mem s.heap H locs → lv_has ls 8 [(0, .ref (B + 0))] → f11_works_b250 F a1 w0 mem = some q0 → W p l e (g_rm 2) s m args below meth c H locs 0 0 (g_MQ below D aC B yM 44 args s (some (.int q0.1)) q0.2) (F0 m 250 ls [.int w0]) := by
  intro w0 mem H locs ls hM hl he
  unfold f11_works_b250 at he
  have hx := E.1
  have hb := E.2.1
  have hown := E.2.2.1
  have hts := E.2.2.2.1
  obtain ⟨r9, hcr9, he⟩ := g_bind he
  refine g_callS [.int w0] (rest := []) E hml hl.1 hM cs_X11_326 (c11_is l D aC B hcr9) (by decide) rfl rfl (Nat.le_of_ble_eq_true rfl) dX11_works_250 (fun H locs hM => ?_)
  refine W.eq (g2 := F0 m 253 ls [.long r9]) rfl ?_
  refine lv_lstore (lv' := [(6, .long r9), (0, .ref (B + 0))]) hx hb dX11_works_253 hl (by decide) rfl (fun ls hl => ?_)
  refine lv_goto (tgt := 407) hx hb dX11_works_255 (by decide) ?_
  exact w11_works_b407 (F := F) (a1 := a1) E hml hret hlk _ _ _ _ _ hM (lv_sub hl [1, 0] rfl) he

set_option maxHeartbeats 4000000 in
set_option maxRecDepth 100000 in
theorem w11_works_b270 (E : g_C p s m args c cX11_works RX11 D aC (g_Zs (g_A B 44))) (hml : c.maxLocals = 8) (hret : meth.sig.returnType = (some .boolean)) (hlk : meth.locks = false) {F : Nat} {q0 : Int32 × g_M} {a1 : Int32} : ∀ (w0 : Int32) (mem : g_M) (H : Heap) (locs : List Loc) (ls : Array Slot), g_At D aC B yM 44 mem s.heap H locs → lv_has ls 8 [(0, .ref (B + 0))] → f11_works_b270 F a1 w0 mem = some q0 → W p l e (g_rm 2) s m args below meth c H locs 0 0 (g_MQ below D aC B yM 44 args s (some (.int q0.1)) q0.2) (F0 m 270 ls [.int w0]) := by
  intro w0 mem H locs ls hM hl he
  unfold f11_works_b270 at he
  have hx := E.1
  have hb := E.2.1
  have hown := E.2.2.1
  have hts := E.2.2.2.1
  obtain ⟨r10, hcr10, he⟩ := g_bind he
  refine g_callS [.int w0] (rest := []) E hml hl.1 hM cs_X11_326 (c11_is l D aC B hcr10) (by decide) rfl rfl (Nat.le_of_ble_eq_true rfl) dX11_works_270 (fun H locs hM => ?_)
  refine W.eq (g2 := F0 m 273 ls [.long r10]) rfl ?_
  refine lv_lstore (lv' := [(6, .long r10), (0, .ref (B + 0))]) hx hb dX11_works_273 hl (by decide) rfl (fun ls hl => ?_)
  refine lv_goto (tgt := 407) hx hb dX11_works_275 (by decide) ?_
  exact w11_works_b407 (F := F) (a1 := a1) E hml hret hlk _ _ _ _ _ hM (lv_sub hl [1, 0] rfl) he

set_option maxHeartbeats 4000000 in
set_option maxRecDepth 100000 in
theorem w11_works_b290 (E : g_C p s m args c cX11_works RX11 D aC (g_Zs (g_A B 44))) (hml : c.maxLocals = 8) (hret : meth.sig.returnType = (some .boolean)) (hlk : meth.locks = false) {F : Nat} {q0 : Int32 × g_M} {a1 : Int32} : ∀ (w0 : Int32) (mem : g_M) (H : Heap) (locs : List Loc) (ls : Array Slot), g_At D aC B yM 44 mem s.heap H locs → lv_has ls 8 [(0, .ref (B + 0))] → f11_works_b290 F a1 w0 mem = some q0 → W p l e (g_rm 2) s m args below meth c H locs 0 0 (g_MQ below D aC B yM 44 args s (some (.int q0.1)) q0.2) (F0 m 290 ls [.int w0]) := by
  intro w0 mem H locs ls hM hl he
  unfold f11_works_b290 at he
  have hx := E.1
  have hb := E.2.1
  have hown := E.2.2.1
  have hts := E.2.2.2.1
  obtain ⟨r11, hcr11, he⟩ := g_bind he
  refine g_callS [.int w0] (rest := []) E hml hl.1 hM cs_X11_326 (c11_is l D aC B hcr11) (by decide) rfl rfl (Nat.le_of_ble_eq_true rfl) dX11_works_290 (fun H locs hM => ?_)
  refine W.eq (g2 := F0 m 293 ls [.long r11]) rfl ?_
  refine lv_lstore (lv' := [(6, .long r11), (0, .ref (B + 0))]) hx hb dX11_works_293 hl (by decide) rfl (fun ls hl => ?_)
  refine lv_goto (tgt := 407) hx hb dX11_works_295 (by decide) ?_
  exact w11_works_b407 (F := F) (a1 := a1) E hml hret hlk _ _ _ _ _ hM (lv_sub hl [1, 0] rfl) he

set_option maxHeartbeats 4000000 in
set_option maxRecDepth 100000 in
theorem w11_works_b310 (E : g_C p s m args c cX11_works RX11 D aC (g_Zs (g_A B 44))) (hml : c.maxLocals = 8) (hret : meth.sig.returnType = (some .boolean)) (hlk : meth.locks = false) {F : Nat} {q0 : Int32 × g_M} {a1 : Int32} : ∀ (w0 : Int32) (mem : g_M) (H : Heap) (locs : List Loc) (ls : Array Slot), g_At D aC B yM 44 mem s.heap H locs → lv_has ls 8 [(0, .ref (B + 0))] → f11_works_b310 F a1 w0 mem = some q0 → W p l e (g_rm 2) s m args below meth c H locs 0 0 (g_MQ below D aC B yM 44 args s (some (.int q0.1)) q0.2) (F0 m 310 ls [.int w0]) := by
  intro w0 mem H locs ls hM hl he
  unfold f11_works_b310 at he
  have hx := E.1
  have hb := E.2.1
  have hown := E.2.2.1
  have hts := E.2.2.2.1
  obtain ⟨r12, hcr12, he⟩ := g_bind he
  refine g_callS [.int w0] (rest := []) E hml hl.1 hM cs_X11_326 (c11_is l D aC B hcr12) (by decide) rfl rfl (Nat.le_of_ble_eq_true rfl) dX11_works_310 (fun H locs hM => ?_)
  refine W.eq (g2 := F0 m 313 ls [.long r12]) rfl ?_
  refine lv_lstore (lv' := [(6, .long r12), (0, .ref (B + 0))]) hx hb dX11_works_313 hl (by decide) rfl (fun ls hl => ?_)
  refine lv_goto (tgt := 407) hx hb dX11_works_315 (by decide) ?_
  exact w11_works_b407 (F := F) (a1 := a1) E hml hret hlk _ _ _ _ _ hM (lv_sub hl [1, 0] rfl) he

set_option maxHeartbeats 4000000 in
set_option maxRecDepth 100000 in
theorem w11_works_b330 (E : g_C p s m args c cX11_works RX11 D aC (g_Zs (g_A B 44))) (hml : c.maxLocals = 8) (hret : meth.sig.returnType = (some .boolean)) (hlk : meth.locks = false) {F : Nat} {q0 : Int32 × g_M} {a1 : Int32} : ∀ (w0 : Int32) (mem : g_M) (H : Heap) (locs : List Loc) (ls : Array Slot), g_At D aC B yM 44 mem s.heap H locs → lv_has ls 8 [(0, .ref (B + 0))] → f11_works_b330 F a1 w0 mem = some q0 → W p l e (g_rm 2) s m args below meth c H locs 0 0 (g_MQ below D aC B yM 44 args s (some (.int q0.1)) q0.2) (F0 m 330 ls [.int w0]) := by
  intro w0 mem H locs ls hM hl he
  unfold f11_works_b330 at he
  have hx := E.1
  have hb := E.2.1
  have hown := E.2.2.1
  have hts := E.2.2.2.1
  obtain ⟨r13, hcr13, he⟩ := g_bind he
  refine g_callS [.int w0] (rest := []) E hml hl.1 hM cs_X11_326 (c11_is l D aC B hcr13) (by decide) rfl rfl (Nat.le_of_ble_eq_true rfl) dX11_works_330 (fun H locs hM => ?_)
  refine W.eq (g2 := F0 m 333 ls [.long r13]) rfl ?_
  refine lv_lstore (lv' := [(6, .long r13), (0, .ref (B + 0))]) hx hb dX11_works_333 hl (by decide) rfl (fun ls hl => ?_)
  refine lv_goto (tgt := 407) hx hb dX11_works_335 (by decide) ?_
  exact w11_works_b407 (F := F) (a1 := a1) E hml hret hlk _ _ _ _ _ hM (lv_sub hl [1, 0] rfl) he

set_option maxHeartbeats 4000000 in
set_option maxRecDepth 100000 in
theorem w11_works_b350 (E : g_C p s m args c cX11_works RX11 D aC (g_Zs (g_A B 44))) (hml : c.maxLocals = 8) (hret : meth.sig.returnType = (some .boolean)) (hlk : meth.locks = false) {F : Nat} {q0 : Int32 × g_M} {a1 : Int32} : ∀ (w0 : Int32) (mem : g_M) (H : Heap) (locs : List Loc) (ls : Array Slot), g_At D aC B yM 44 mem s.heap H locs → lv_has ls 8 [(0, .ref (B + 0))] → f11_works_b350 F a1 w0 mem = some q0 → W p l e (g_rm 2) s m args below meth c H locs 0 0 (g_MQ below D aC B yM 44 args s (some (.int q0.1)) q0.2) (F0 m 350 ls [.int w0]) := by
  intro w0 mem H locs ls hM hl he
  unfold f11_works_b350 at he
  have hx := E.1
  have hb := E.2.1
  have hown := E.2.2.1
  have hts := E.2.2.2.1
  obtain ⟨r14, hcr14, he⟩ := g_bind he
  refine g_callS [.int w0] (rest := []) E hml hl.1 hM cs_X11_326 (c11_is l D aC B hcr14) (by decide) rfl rfl (Nat.le_of_ble_eq_true rfl) dX11_works_350 (fun H locs hM => ?_)
  refine W.eq (g2 := F0 m 353 ls [.long r14]) rfl ?_
  refine lv_lstore (lv' := [(6, .long r14), (0, .ref (B + 0))]) hx hb dX11_works_353 hl (by decide) rfl (fun ls hl => ?_)
  refine lv_goto (tgt := 407) hx hb dX11_works_355 (by decide) ?_
  exact w11_works_b407 (F := F) (a1 := a1) E hml hret hlk _ _ _ _ _ hM (lv_sub hl [1, 0] rfl) he

set_option maxHeartbeats 4000000 in
set_option maxRecDepth 100000 in
theorem w11_works_b376 (E : g_C p s m args c cX11_works RX11 D aC (g_Zs (g_A B 44))) (hml : c.maxLocals = 8) (hret : meth.sig.returnType = (some .boolean)) (hlk : meth.locks = false) {F : Nat} {q0 : Int32 × g_M} {a1 : Int32} : ∀ (w0 : Int32) (mem : g_M) (H : Heap) (locs : List Loc) (ls : Array Slot), g_At D aC B yM 44 mem s.heap H locs → lv_has ls 8 [(0, .ref (B + 0))] → f11_works_b376 F a1 w0 mem = some q0 → W p l e (g_rm 2) s m args below meth c H locs 0 0 (g_MQ below D aC B yM 44 args s (some (.int q0.1)) q0.2) (F0 m 376 ls [.int w0]) := by
  intro w0 mem H locs ls hM hl he
  unfold f11_works_b376 at he
  have hx := E.1
  have hb := E.2.1
  have hown := E.2.2.1
  have hts := E.2.2.2.1
  obtain ⟨r15, hcr15, he⟩ := g_bind he
  refine g_callS [.int w0] (rest := []) E hml hl.1 hM cs_X11_326 (c11_is l D aC B hcr15) (by decide) rfl rfl (Nat.le_of_ble_eq_true rfl) dX11_works_376 (fun H locs hM => ?_)
  refine W.eq (g2 := F0 m 379 ls [.long r15]) rfl ?_
  refine lv_lstore (lv' := [(6, .long r15), (0, .ref (B + 0))]) hx hb dX11_works_379 hl (by decide) rfl (fun ls hl => ?_)
  refine lv_goto (tgt := 407) hx hb dX11_works_381 (by decide) ?_
  exact w11_works_b407 (F := F) (a1 := a1) E hml hret hlk _ _ _ _ _ hM (lv_sub hl [1, 0] rfl) he

set_option maxHeartbeats 4000000 in
set_option maxRecDepth 100000 in
theorem w11_works_b375 (E : g_C p s m args c cX11_works RX11 D aC (g_Zs (g_A B 44))) (hml : c.maxLocals = 8) (hret : meth.sig.returnType = (some .boolean)) (hlk : meth.locks = false) {F : Nat} {q0 : Int32 × g_M} {a1 : Int32} : ∀ (mem : g_M) (H : Heap) (locs : List Loc) (ls : Array Slot), g_At D aC B yM 44 mem s.heap H locs → lv_has ls 8 [(0, .ref (B + 0))] → f11_works_b375 F a1 mem = some q0 → W p l e (g_rm 2) s m args below meth c H locs 0 0 (g_MQ below D aC B yM 44 args s (some (.int q0.1)) q0.2) (F0 m 375 ls []) := by
  intro mem H locs ls hM hl he
  unfold f11_works_b375 at he
  have hx := E.1
  have hb := E.2.1
  have hown := E.2.2.1
  have hts := E.2.2.2.1
  refine lv_iconst (v := (0 : Int32)) hx hb dX11_works_375 rfl ?_
  exact w11_works_b376 (F := F) (a1 := a1) E hml hret hlk _ _ _ _ _ hM (lv_sub hl [0] rfl) he

set_option maxHeartbeats 4000000 in
set_option maxRecDepth 100000 in
theorem w11_works_b402 (E : g_C p s m args c cX11_works RX11 D aC (g_Zs (g_A B 44))) (hml : c.maxLocals = 8) (hret : meth.sig.returnType = (some .boolean)) (hlk : meth.locks = false) {F : Nat} {q0 : Int32 × g_M} {a1 : Int32} : ∀ (w0 : Int32) (mem : g_M) (H : Heap) (locs : List Loc) (ls : Array Slot), g_At D aC B yM 44 mem s.heap H locs → lv_has ls 8 [(0, .ref (B + 0))] → f11_works_b402 F a1 w0 mem = some q0 → W p l e (g_rm 2) s m args below meth c H locs 0 0 (g_MQ below D aC B yM 44 args s (some (.int q0.1)) q0.2) (F0 m 402 ls [.int w0]) := by
  intro w0 mem H locs ls hM hl he
  unfold f11_works_b402 at he
  have hx := E.1
  have hb := E.2.1
  have hown := E.2.2.1
  have hts := E.2.2.2.1
  obtain ⟨r16, hcr16, he⟩ := g_bind he
  refine g_callS [.int w0] (rest := []) E hml hl.1 hM cs_X11_326 (c11_is l D aC B hcr16) (by decide) rfl rfl (Nat.le_of_ble_eq_true rfl) dX11_works_402 (fun H locs hM => ?_)
  refine W.eq (g2 := F0 m 405 ls [.long r16]) rfl ?_
  refine lv_lstore (lv' := [(6, .long r16), (0, .ref (B + 0))]) hx hb dX11_works_405 hl (by decide) rfl (fun ls hl => ?_)
  exact w11_works_b407 (F := F) (a1 := a1) E hml hret hlk _ _ _ _ _ hM (lv_sub hl [1, 0] rfl) he

set_option maxHeartbeats 4000000 in
set_option maxRecDepth 100000 in
theorem w11_works_b397 (E : g_C p s m args c cX11_works RX11 D aC (g_Zs (g_A B 44))) (hml : c.maxLocals = 8) (hret : meth.sig.returnType = (some .boolean)) (hlk : meth.locks = false) {F : Nat} {q0 : Int32 × g_M} {a1 : Int32} : ∀ (mem : g_M) (H : Heap) (locs : List Loc) (ls : Array Slot), g_At D aC B yM 44 mem s.heap H locs → lv_has ls 8 [(0, .ref (B + 0))] → f11_works_b397 F a1 mem = some q0 → W p l e (g_rm 2) s m args below meth c H locs 0 0 (g_MQ below D aC B yM 44 args s (some (.int q0.1)) q0.2) (F0 m 397 ls []) := by
  intro mem H locs ls hM hl he
  unfold f11_works_b397 at he
  have hx := E.1
  have hb := E.2.1
  have hown := E.2.2.1
  have hts := E.2.2.2.1
  refine lv_iconst (v := (1 : Int32)) hx hb dX11_works_397 rfl ?_
  refine lv_goto (tgt := 402) hx hb dX11_works_398 (by decide) ?_
  exact w11_works_b402 (F := F) (a1 := a1) E hml hret hlk _ _ _ _ _ hM (lv_sub hl [0] rfl) he

set_option maxHeartbeats 4000000 in
set_option maxRecDepth 100000 in
theorem c11_works (l : Launch) (D : va_G) (aC : Nat → ClassId) (B : Nat) {F : Nat} {a1 : Int32} {mem : g_M} {q0 : Int32 × g_M} (he : f11_works F a1 mem = some q0) : g_Met l yX11_works cX11_works 8 (some .boolean) 2 D aC B yM 44 mem [.ref (B + 0), .int a1] (some (.int q0.1)) q0.2 := by
  refine g_ofW (by decide) (Nat.le_of_ble_eq_true rfl) ?_
  intro p e s m args below meth c ls E hml hret hlk hM hl
  have E : g_C p s m args c cX11_works RX11 D aC (g_Zs (g_A B 44)) := E
  have hx := E.1
  have hb := E.2.1
  have hown := E.2.2.1
  have hts := E.2.2.2.1
  have hl : lv_has ls 8 [(0, .ref (B + 0)), (1, .int a1)] := hl
  unfold f11_works at he
  refine lv_aload_n hx hb dX11_works_0 rfl (lv_at hl 0 rfl) ?_
  refine g_getP E hM (o := 0) (Nat.le_of_ble_eq_true rfl) rfl fl_X11_81 (q := 23) rfl dX11_works_1 ?_
  refine lv_aload_n hx hb dX11_works_4 rfl (lv_at hl 0 rfl) ?_
  refine g_getI E hM (o := 0) (Nat.le_of_ble_eq_true rfl) rfl fl_X11_323 dX11_works_5 ?_
  refine lv_iconst (v := (1 : Int32)) hx hb dX11_works_8 rfl ?_
  refine lv_isub hx hb dX11_works_9 ?_
  obtain ⟨h17, he⟩ := g_ck_some he
  refine g_lald E hM (o := 23) (Nat.le_of_ble_eq_true rfl) rfl h17 dX11_works_10 ?_
  obtain ⟨x18, hx18, he⟩ := g_let_ex he
  refine g_topJ hx18 ?_
  refine lv_lstore_n (lv' := [(2, .long x18), (0, .ref (B + 0)), (1, .int a1)]) hx hb dX11_works_11 rfl hl (by decide) rfl (fun ls hl => ?_)
  refine lv_iload_n hx hb dX11_works_12 rfl (lv_at hl 2 rfl) ?_
  refine lv_sipush (v := (260 : Int32)) hx hb dX11_works_13 rfl ?_
  refine lv_icmp_ne (tgt := 46) hx hb dX11_works_16 (by decide) (fun h19 => ?_) (fun h19 => ?_)
  · rw [if_neg h19] at he
    refine lv_aload_n hx hb dX11_works_46 rfl (lv_at hl 1 rfl) ?_
    refine g_getP E hM (o := 0) (Nat.le_of_ble_eq_true rfl) rfl fl_X11_81 (q := 23) rfl dX11_works_47 ?_
    refine lv_aload_n hx hb dX11_works_50 rfl (lv_at hl 1 rfl) ?_
    refine g_getI E hM (o := 0) (Nat.le_of_ble_eq_true rfl) rfl fl_X11_323 dX11_works_51 ?_
    refine lv_iconst (v := (2 : Int32)) hx hb dX11_works_54 rfl ?_
    refine lv_isub hx hb dX11_works_55 ?_
    obtain ⟨h21, he⟩ := g_ck_some he
    refine g_lald E hM (o := 23) (Nat.le_of_ble_eq_true rfl) rfl h21 dX11_works_56 ?_
    obtain ⟨x22, hx22, he⟩ := g_let_ex he
    refine g_topJ hx22 ?_
    refine lv_lstore (lv' := [(4, .long x22), (2, .long x18), (0, .ref (B + 0)), (1, .int a1)]) hx hb dX11_works_57 hl (by decide) rfl (fun ls hl => ?_)
    refine lv_aload_n hx hb dX11_works_59 rfl (lv_at hl 2 rfl) ?_
    refine lv_dup hx hb dX11_works_60 rfl ?_
    refine g_getI E hM (o := 0) (Nat.le_of_ble_eq_true rfl) rfl fl_X11_323 dX11_works_61 ?_
    refine lv_iconst (v := (1 : Int32)) hx hb dX11_works_64 rfl ?_
    refine lv_isub hx hb dX11_works_65 ?_
    refine g_putI E hM (o := 0) (Nat.le_of_ble_eq_true rfl) rfl fp_X11_323 dX11_works_66 (fun H locs hM => ?_)
    obtain ⟨m23, hm23, he⟩ := g_let_ex he
    rw [← hm23] at hM
    refine lv_iload_n hx hb dX11_works_69 rfl (lv_at hl 3 rfl) ?_
    by_cases h24 : a1 = (42 : Int32)
    · rw [if_pos h24] at he
      refine lv_lookup (tgt := 186) (off := 116) hx hb dX11_works_70 rfl (by rw [h24]; rfl) (by decide) ?_
      refine lv_lload hx hb dX11_works_186 (lv_at hl 0 rfl) ?_
      refine lv_lconst (v := (0 : Int64)) hx hb dX11_works_188 rfl ?_
      refine W.lcmp hx hb dX11_works_189 ?_
      refine lv_if_eq (tgt := 212) hx hb dX11_works_190 (by decide) (fun h25 => ?_) (fun h25 => ?_)
      · rw [if_pos h25] at he
        exact w11_works_b212 (F := F) (a1 := a1) E hml hret hlk _ _ _ _ _ _ hM (lv_sub hl [2, 1, 0] rfl) he
      · rw [if_neg h25] at he
        refine lv_lload_n hx hb dX11_works_193 rfl (lv_at hl 1 rfl) ?_
        refine va_mabs_long hx hb (hml.trans hl.1.symm) hown (hts _ mm_X11_330) (hts _ km_absL.1) (hts _ ki_Math) (hts _ km_absL.2) (Nat.le_of_ble_eq_true rfl) (Nat.le_of_ble_eq_true rfl) (Nat.zero_le _) (Nat.zero_le _) dX11_works_194 ?_
        refine lv_ldc2 (v := (1000000000000 : Int64)) hx hb hown (hts _ kc_X11_336) dX11_works_197 ?_
        refine lv_lload hx hb dX11_works_200 (lv_at hl 0 rfl) ?_
        refine va_mabs_long hx hb (hml.trans hl.1.symm) hown (hts _ mm_X11_330) (hts _ km_absL.1) (hts _ ki_Math) (hts _ km_absL.2) (Nat.le_of_ble_eq_true rfl) (Nat.le_of_ble_eq_true rfl) (Nat.zero_le _) (Nat.zero_le _) dX11_works_202 ?_
        obtain ⟨h26, he⟩ := g_nzL_some he
        refine lv_ldiv hx hb dX11_works_205 h26 ?_
        refine W.lcmp hx hb dX11_works_206 ?_
        refine lv_if_le (tgt := 212) hx hb dX11_works_207 (by decide) (fun h27 => ?_) (fun h27 => ?_)
        · rw [if_neg (Int32.not_lt.mpr h27)] at he
          exact w11_works_b212 (F := F) (a1 := a1) E hml hret hlk _ _ _ _ _ _ hM (lv_sub hl [2, 1, 0] rfl) he
        · rw [if_pos (Int32.not_le.mp h27)] at he
          refine lv_iconst (v := (0 : Int32)) hx hb dX11_works_210 rfl ?_
          cases he
          exact g_zret E hM hret hlk (Or.inl rfl) dX11_works_211
    rw [if_neg h24] at he
    by_cases h28 : a1 = (43 : Int32)
    · rw [if_pos h28] at he
      refine lv_lookup (tgt := 168) (off := 98) hx hb dX11_works_70 rfl (by rw [h28]; rfl) (by decide) ?_
      refine lv_lload hx hb dX11_works_168 (lv_at hl 0 rfl) ?_
      refine lv_lload_n hx hb dX11_works_170 rfl (lv_at hl 1 rfl) ?_
      refine lv_ladd hx hb dX11_works_171 ?_
      obtain ⟨x29, hx29, he⟩ := g_let_ex he
      refine g_topJ hx29 ?_
      refine lv_lstore (lv' := [(6, .long x29), (4, .long x22), (2, .long x18), (0, .ref (B + 0)), (1, .int a1)]) hx hb dX11_works_172 hl (by decide) rfl (fun ls hl => ?_)
      refine lv_goto (tgt := 407) hx hb dX11_works_174 (by decide) ?_
      exact w11_works_b407 (F := F) (a1 := a1) E hml hret hlk _ _ _ _ _ hM (lv_sub hl [3, 0] rfl) he
    rw [if_neg h28] at he
    by_cases h30 : a1 = (45 : Int32)
    · rw [if_pos h30] at he
      refine lv_lookup (tgt := 177) (off := 107) hx hb dX11_works_70 rfl (by rw [h30]; rfl) (by decide) ?_
      refine lv_lload hx hb dX11_works_177 (lv_at hl 0 rfl) ?_
      refine lv_lload_n hx hb dX11_works_179 rfl (lv_at hl 1 rfl) ?_
      refine lv_lsub hx hb dX11_works_180 ?_
      obtain ⟨x31, hx31, he⟩ := g_let_ex he
      refine g_topJ hx31 ?_
      refine lv_lstore (lv' := [(6, .long x31), (4, .long x22), (2, .long x18), (0, .ref (B + 0)), (1, .int a1)]) hx hb dX11_works_181 hl (by decide) rfl (fun ls hl => ?_)
      refine lv_goto (tgt := 407) hx hb dX11_works_183 (by decide) ?_
      exact w11_works_b407 (F := F) (a1 := a1) E hml hret hlk _ _ _ _ _ hM (lv_sub hl [3, 0] rfl) he
    rw [if_neg h30] at he
    by_cases h32 : a1 = (47 : Int32)
    · rw [if_pos h32] at he
      refine lv_lookup (tgt := 221) (off := 151) hx hb dX11_works_70 rfl (by rw [h32]; rfl) (by decide) ?_
      refine lv_lload_n hx hb dX11_works_221 rfl (lv_at hl 1 rfl) ?_
      refine lv_lconst (v := (0 : Int64)) hx hb dX11_works_222 rfl ?_
      refine W.lcmp hx hb dX11_works_223 ?_
      refine lv_if_ne (tgt := 229) hx hb dX11_works_224 (by decide) (fun h33 => ?_) (fun h33 => ?_)
      · rw [if_neg h33] at he
        refine lv_lload hx hb dX11_works_229 (lv_at hl 0 rfl) ?_
        refine lv_lload_n hx hb dX11_works_231 rfl (lv_at hl 1 rfl) ?_
        obtain ⟨h34, he⟩ := g_nzL_some he
        refine lv_ldiv hx hb dX11_works_232 h34 ?_
        obtain ⟨x35, hx35, he⟩ := g_let_ex he
        refine g_topJ hx35 ?_
        refine lv_lstore (lv' := [(6, .long x35), (4, .long x22), (2, .long x18), (0, .ref (B + 0)), (1, .int a1)]) hx hb dX11_works_233 hl (by decide) rfl (fun ls hl => ?_)
        refine lv_goto (tgt := 407) hx hb dX11_works_235 (by decide) ?_
        exact w11_works_b407 (F := F) (a1 := a1) E hml hret hlk _ _ _ _ _ hM (lv_sub hl [3, 0] rfl) he
      · rw [if_pos h33] at he
        refine lv_iconst (v := (0 : Int32)) hx hb dX11_works_227 rfl ?_
        cases he
        exact g_zret E hM hret hlk (Or.inl rfl) dX11_works_228
    rw [if_neg h32] at he
    by_cases h36 : a1 = (60 : Int32)
    · rw [if_pos h36] at he
      refine lv_lookup (tgt := 238) (off := 168) hx hb dX11_works_70 rfl (by rw [h36]; rfl) (by decide) ?_
      refine lv_lload hx hb dX11_works_238 (lv_at hl 0 rfl) ?_
      refine lv_lload_n hx hb dX11_works_240 rfl (lv_at hl 1 rfl) ?_
      refine W.lcmp hx hb dX11_works_241 ?_
      refine lv_if_ge (tgt := 249) hx hb dX11_works_242 (by decide) (fun h37 => ?_) (fun h37 => ?_)
      · rw [if_neg (Int32.not_lt.mpr h37)] at he
        refine lv_iconst (v := (0 : Int32)) hx hb dX11_works_249 rfl ?_
        exact w11_works_b250 (F := F) (a1 := a1) E hml hret hlk _ _ _ _ _ hM (lv_sub hl [2] rfl) he
      · rw [if_pos (Int32.not_le.mp h37)] at he
        refine lv_iconst (v := (1 : Int32)) hx hb dX11_works_245 rfl ?_
        refine lv_goto (tgt := 250) hx hb dX11_works_246 (by decide) ?_
        exact w11_works_b250 (F := F) (a1 := a1) E hml hret hlk _ _ _ _ _ hM (lv_sub hl [2] rfl) he
    rw [if_neg h36] at he
    by_cases h38 : a1 = (61 : Int32)
    · rw [if_pos h38] at he
      refine lv_lookup (tgt := 278) (off := 208) hx hb dX11_works_70 rfl (by rw [h38]; rfl) (by decide) ?_
      refine lv_lload hx hb dX11_works_278 (lv_at hl 0 rfl) ?_
      refine lv_lload_n hx hb dX11_works_280 rfl (lv_at hl 1 rfl) ?_
      refine W.lcmp hx hb dX11_works_281 ?_
      refine lv_if_ne (tgt := 289) hx hb dX11_works_282 (by decide) (fun h39 => ?_) (fun h39 => ?_)
      · rw [if_neg h39] at he
        refine lv_iconst (v := (0 : Int32)) hx hb dX11_works_289 rfl ?_
        exact w11_works_b290 (F := F) (a1 := a1) E hml hret hlk _ _ _ _ _ hM (lv_sub hl [2] rfl) he
      · rw [if_pos h39] at he
        refine lv_iconst (v := (1 : Int32)) hx hb dX11_works_285 rfl ?_
        refine lv_goto (tgt := 290) hx hb dX11_works_286 (by decide) ?_
        exact w11_works_b290 (F := F) (a1 := a1) E hml hret hlk _ _ _ _ _ hM (lv_sub hl [2] rfl) he
    rw [if_neg h38] at he
    by_cases h40 : a1 = (62 : Int32)
    · rw [if_pos h40] at he
      refine lv_lookup (tgt := 258) (off := 188) hx hb dX11_works_70 rfl (by rw [h40]; rfl) (by decide) ?_
      refine lv_lload hx hb dX11_works_258 (lv_at hl 0 rfl) ?_
      refine lv_lload_n hx hb dX11_works_260 rfl (lv_at hl 1 rfl) ?_
      refine W.lcmp hx hb dX11_works_261 ?_
      refine lv_if_le (tgt := 269) hx hb dX11_works_262 (by decide) (fun h41 => ?_) (fun h41 => ?_)
      · rw [if_neg (Int32.not_lt.mpr h41)] at he
        refine lv_iconst (v := (0 : Int32)) hx hb dX11_works_269 rfl ?_
        exact w11_works_b270 (F := F) (a1 := a1) E hml hret hlk _ _ _ _ _ hM (lv_sub hl [2] rfl) he
      · rw [if_pos (Int32.not_le.mp h41)] at he
        refine lv_iconst (v := (1 : Int32)) hx hb dX11_works_265 rfl ?_
        refine lv_goto (tgt := 270) hx hb dX11_works_266 (by decide) ?_
        exact w11_works_b270 (F := F) (a1 := a1) E hml hret hlk _ _ _ _ _ hM (lv_sub hl [2] rfl) he
    rw [if_neg h40] at he
    by_cases h42 : a1 = (256 : Int32)
    · rw [if_pos h42] at he
      refine lv_lookup (tgt := 298) (off := 228) hx hb dX11_works_70 rfl (by rw [h42]; rfl) (by decide) ?_
      refine lv_lload hx hb dX11_works_298 (lv_at hl 0 rfl) ?_
      refine lv_lload_n hx hb dX11_works_300 rfl (lv_at hl 1 rfl) ?_
      refine W.lcmp hx hb dX11_works_301 ?_
      refine lv_if_gt (tgt := 309) hx hb dX11_works_302 (by decide) (fun h43 => ?_) (fun h43 => ?_)
      · rw [if_neg (Int32.not_le.mpr h43)] at he
        refine lv_iconst (v := (0 : Int32)) hx hb dX11_works_309 rfl ?_
        exact w11_works_b310 (F := F) (a1 := a1) E hml hret hlk _ _ _ _ _ hM (lv_sub hl [2] rfl) he
      · rw [if_pos (Int32.not_lt.mp h43)] at he
        refine lv_iconst (v := (1 : Int32)) hx hb dX11_works_305 rfl ?_
        refine lv_goto (tgt := 310) hx hb dX11_works_306 (by decide) ?_
        exact w11_works_b310 (F := F) (a1 := a1) E hml hret hlk _ _ _ _ _ hM (lv_sub hl [2] rfl) he
    rw [if_neg h42] at he
    by_cases h44 : a1 = (257 : Int32)
    · rw [if_pos h44] at he
      refine lv_lookup (tgt := 338) (off := 268) hx hb dX11_works_70 rfl (by rw [h44]; rfl) (by decide) ?_
      refine lv_lload hx hb dX11_works_338 (lv_at hl 0 rfl) ?_
      refine lv_lload_n hx hb dX11_works_340 rfl (lv_at hl 1 rfl) ?_
      refine W.lcmp hx hb dX11_works_341 ?_
      refine lv_if_eq (tgt := 349) hx hb dX11_works_342 (by decide) (fun h45 => ?_) (fun h45 => ?_)
      · rw [if_pos h45] at he
        refine lv_iconst (v := (0 : Int32)) hx hb dX11_works_349 rfl ?_
        exact w11_works_b350 (F := F) (a1 := a1) E hml hret hlk _ _ _ _ _ hM (lv_sub hl [2] rfl) he
      · rw [if_neg h45] at he
        refine lv_iconst (v := (1 : Int32)) hx hb dX11_works_345 rfl ?_
        refine lv_goto (tgt := 350) hx hb dX11_works_346 (by decide) ?_
        exact w11_works_b350 (F := F) (a1 := a1) E hml hret hlk _ _ _ _ _ hM (lv_sub hl [2] rfl) he
    rw [if_neg h44] at he
    by_cases h46 : a1 = (258 : Int32)
    · rw [if_pos h46] at he
      refine lv_lookup (tgt := 318) (off := 248) hx hb dX11_works_70 rfl (by rw [h46]; rfl) (by decide) ?_
      refine lv_lload hx hb dX11_works_318 (lv_at hl 0 rfl) ?_
      refine lv_lload_n hx hb dX11_works_320 rfl (lv_at hl 1 rfl) ?_
      refine W.lcmp hx hb dX11_works_321 ?_
      refine lv_if_lt (tgt := 329) hx hb dX11_works_322 (by decide) (fun h47 => ?_) (fun h47 => ?_)
      · rw [if_neg (Int32.not_le.mpr h47)] at he
        refine lv_iconst (v := (0 : Int32)) hx hb dX11_works_329 rfl ?_
        exact w11_works_b330 (F := F) (a1 := a1) E hml hret hlk _ _ _ _ _ hM (lv_sub hl [2] rfl) he
      · rw [if_pos (Int32.not_lt.mp h47)] at he
        refine lv_iconst (v := (1 : Int32)) hx hb dX11_works_325 rfl ?_
        refine lv_goto (tgt := 330) hx hb dX11_works_326 (by decide) ?_
        exact w11_works_b330 (F := F) (a1 := a1) E hml hret hlk _ _ _ _ _ hM (lv_sub hl [2] rfl) he
    rw [if_neg h46] at he
    by_cases h48 : a1 = (261 : Int32)
    · rw [if_pos h48] at he
      refine lv_lookup (tgt := 358) (off := 288) hx hb dX11_works_70 rfl (by rw [h48]; rfl) (by decide) ?_
      refine lv_lload hx hb dX11_works_358 (lv_at hl 0 rfl) ?_
      refine lv_lconst (v := (0 : Int64)) hx hb dX11_works_360 rfl ?_
      refine W.lcmp hx hb dX11_works_361 ?_
      refine lv_if_eq (tgt := 375) hx hb dX11_works_362 (by decide) (fun h49 => ?_) (fun h49 => ?_)
      · rw [if_pos h49] at he
        exact w11_works_b375 (F := F) (a1 := a1) E hml hret hlk _ _ _ _ hM (lv_sub hl [2] rfl) he
      · rw [if_neg h49] at he
        refine lv_lload_n hx hb dX11_works_365 rfl (lv_at hl 1 rfl) ?_
        refine lv_lconst (v := (0 : Int64)) hx hb dX11_works_366 rfl ?_
        refine W.lcmp hx hb dX11_works_367 ?_
        refine lv_if_eq (tgt := 375) hx hb dX11_works_368 (by decide) (fun h50 => ?_) (fun h50 => ?_)
        · rw [if_pos h50] at he
          exact w11_works_b375 (F := F) (a1 := a1) E hml hret hlk _ _ _ _ hM (lv_sub hl [2] rfl) he
        · rw [if_neg h50] at he
          refine lv_iconst (v := (1 : Int32)) hx hb dX11_works_371 rfl ?_
          refine lv_goto (tgt := 376) hx hb dX11_works_372 (by decide) ?_
          exact w11_works_b376 (F := F) (a1 := a1) E hml hret hlk _ _ _ _ _ hM (lv_sub hl [2] rfl) he
    rw [if_neg h48] at he
    refine lv_lookup (tgt := 384) (off := 314) hx hb dX11_works_70 rfl ((lv_osw h24 rfl).trans ((lv_osw h28 rfl).trans ((lv_osw h30 rfl).trans ((lv_osw h32 rfl).trans ((lv_osw h36 rfl).trans ((lv_osw h38 rfl).trans ((lv_osw h40 rfl).trans ((lv_osw h42 rfl).trans ((lv_osw h44 rfl).trans ((lv_osw h46 rfl).trans ((lv_osw h48 rfl).trans rfl))))))))))) (by decide) ?_
    refine lv_lload hx hb dX11_works_384 (lv_at hl 0 rfl) ?_
    refine lv_lconst (v := (0 : Int64)) hx hb dX11_works_386 rfl ?_
    refine W.lcmp hx hb dX11_works_387 ?_
    refine lv_if_ne (tgt := 397) hx hb dX11_works_388 (by decide) (fun h51 => ?_) (fun h51 => ?_)
    · rw [if_neg h51] at he
      exact w11_works_b397 (F := F) (a1 := a1) E hml hret hlk _ _ _ _ hM (lv_sub hl [2] rfl) he
    · rw [if_pos h51] at he
      refine lv_lload_n hx hb dX11_works_391 rfl (lv_at hl 1 rfl) ?_
      refine lv_lconst (v := (0 : Int64)) hx hb dX11_works_392 rfl ?_
      refine W.lcmp hx hb dX11_works_393 ?_
      refine lv_if_eq (tgt := 401) hx hb dX11_works_394 (by decide) (fun h52 => ?_) (fun h52 => ?_)
      · rw [if_pos h52] at he
        refine lv_iconst (v := (0 : Int32)) hx hb dX11_works_401 rfl ?_
        exact w11_works_b402 (F := F) (a1 := a1) E hml hret hlk _ _ _ _ _ hM (lv_sub hl [2] rfl) he
      · rw [if_neg h52] at he
        exact w11_works_b397 (F := F) (a1 := a1) E hml hret hlk _ _ _ _ hM (lv_sub hl [2] rfl) he
  · rw [if_pos h19] at he
    refine lv_aload_n hx hb dX11_works_19 rfl (lv_at hl 1 rfl) ?_
    refine g_getP E hM (o := 0) (Nat.le_of_ble_eq_true rfl) rfl fl_X11_81 (q := 23) rfl dX11_works_20 ?_
    refine lv_aload_n hx hb dX11_works_23 rfl (lv_at hl 1 rfl) ?_
    refine g_getI E hM (o := 0) (Nat.le_of_ble_eq_true rfl) rfl fl_X11_323 dX11_works_24 ?_
    refine lv_iconst (v := (1 : Int32)) hx hb dX11_works_27 rfl ?_
    refine lv_isub hx hb dX11_works_28 ?_
    refine lv_lload_n hx hb dX11_works_29 rfl (lv_at hl 0 rfl) ?_
    refine lv_lconst (v := (0 : Int64)) hx hb dX11_works_30 rfl ?_
    refine W.lcmp hx hb dX11_works_31 ?_
    refine lv_if_ne (tgt := 39) hx hb dX11_works_32 (by decide) (fun h20 => ?_) (fun h20 => ?_)
    · rw [if_neg h20] at he
      refine lv_iconst (v := (0 : Int32)) hx hb dX11_works_39 rfl ?_
      exact w11_works_b40 (F := F) (a1 := a1) E hml hret hlk _ _ _ _ _ _ hM (lv_sub hl [] rfl) he
    · rw [if_pos h20] at he
      refine lv_iconst (v := (1 : Int32)) hx hb dX11_works_35 rfl ?_
      refine lv_goto (tgt := 40) hx hb dX11_works_36 (by decide) ?_
      exact w11_works_b40 (F := F) (a1 := a1) E hml hret hlk _ _ _ _ _ _ hM (lv_sub hl [] rfl) he

set_option maxHeartbeats 4000000 in
set_option maxRecDepth 100000 in
theorem w11_goes_b96 (E : g_C p s m args c cX11_goes RX11 D aC (g_Zs (g_A B 44))) (hml : c.maxLocals = 3) (hret : meth.sig.returnType = (some .boolean)) (hlk : meth.locks = false) {F : Nat} {q0 : Int32 × g_M} {a1 : Int32} {s12 : Int32 → g_M → Option (Int32 × g_M)} (hs12 : ∀ (v2 : Int32) (mem : g_M) (H : Heap) (locs : List Loc) (ls : Array Slot), g_At D aC B yM 44 mem s.heap H locs → lv_has ls 3 [(0, .ref (B + 0)), (1, .int a1), (2, .int v2)] → s12 v2 mem = some q0 → W p l e (g_rm 3) s m args below meth c H locs 0 0 (g_MQ below D aC B yM 44 args s (some (.int q0.1)) q0.2) (F0 m 12 ls [])) : ∀ (v2 : Int32) (mem : g_M) (H : Heap) (locs : List Loc) (ls : Array Slot), g_At D aC B yM 44 mem s.heap H locs → lv_has ls 3 [(0, .ref (B + 0)), (1, .int a1), (2, .int v2)] → f11_goes_b96 F a1 s12 v2 mem = some q0 → W p l e (g_rm 3) s m args below meth c H locs 0 0 (g_MQ below D aC B yM 44 args s (some (.int q0.1)) q0.2) (F0 m 96 ls []) := by
  intro v2 mem H locs ls hM hl he
  unfold f11_goes_b96 at he
  have hx := E.1
  have hb := E.2.1
  have hown := E.2.2.1
  have hts := E.2.2.2.1
  obtain ⟨x1, hx1, he⟩ := g_let_ex he
  refine lv_iinc (v := x1) (lv' := [(2, .int x1), (0, .ref (B + 0)), (1, .int a1)]) hx hb dX11_goes_96 hl (k := 2) rfl (by rw [hx1]; rfl) (by decide) rfl (fun ls hl => ?_)
  refine lv_goto (tgt := 12) hx hb dX11_goes_99 (by decide) ?_
  exact hs12 _ _ _ _ _ hM (lv_sub hl [1, 2, 0] rfl) he

set_option maxHeartbeats 4000000 in
set_option maxRecDepth 100000 in
theorem w11_goes_b85 (E : g_C p s m args c cX11_goes RX11 D aC (g_Zs (g_A B 44))) (hml : c.maxLocals = 3) (hret : meth.sig.returnType = (some .boolean)) (hlk : meth.locks = false) {F : Nat} {q0 : Int32 × g_M} {a1 : Int32} {s12 : Int32 → g_M → Option (Int32 × g_M)} (hs12 : ∀ (v2 : Int32) (mem : g_M) (H : Heap) (locs : List Loc) (ls : Array Slot), g_At D aC B yM 44 mem s.heap H locs → lv_has ls 3 [(0, .ref (B + 0)), (1, .int a1), (2, .int v2)] → s12 v2 mem = some q0 → W p l e (g_rm 3) s m args below meth c H locs 0 0 (g_MQ below D aC B yM 44 args s (some (.int q0.1)) q0.2) (F0 m 12 ls [])) : ∀ (v2 : Int32) (w1 : Int32) (w2 : Int64) (mem : g_M) (H : Heap) (locs : List Loc) (ls : Array Slot), g_At D aC B yM 44 mem s.heap H locs → lv_has ls 3 [(0, .ref (B + 0)), (1, .int a1), (2, .int v2)] → f11_goes_b85 F a1 s12 v2 w1 w2 mem = some q0 → W p l e (g_rm 3) s m args below meth c H locs 0 0 (g_MQ below D aC B yM 44 args s (some (.int q0.1)) q0.2) (F0 m 85 ls [.long w2, .int w1, .ref (B + 23)]) := by
  intro v2 w1 w2 mem H locs ls hM hl he
  unfold f11_goes_b85 at he
  have hx := E.1
  have hb := E.2.1
  have hown := E.2.2.1
  have hts := E.2.2.2.1
  obtain ⟨h2, he⟩ := g_ck_some he
  refine g_last E hM (o := 23) (Nat.le_of_ble_eq_true rfl) rfl h2 dX11_goes_85 (fun H locs hM => ?_)
  obtain ⟨m3, hm3, he⟩ := g_let_ex he
  rw [← hm3] at hM
  refine lv_aload_n hx hb dX11_goes_86 rfl (lv_at hl 0 rfl) ?_
  refine lv_dup hx hb dX11_goes_87 rfl ?_
  refine g_getI E hM (o := 0) (Nat.le_of_ble_eq_true rfl) rfl fl_X11_323 dX11_goes_88 ?_
  refine lv_iconst (v := (1 : Int32)) hx hb dX11_goes_91 rfl ?_
  refine lv_iadd hx hb dX11_goes_92 ?_
  refine g_putI E hM (o := 0) (Nat.le_of_ble_eq_true rfl) rfl fp_X11_323 dX11_goes_93 (fun H locs hM => ?_)
  obtain ⟨m4, hm4, he⟩ := g_let_ex he
  rw [← hm4] at hM
  exact w11_goes_b96 (F := F) (a1 := a1) E hml hret hlk hs12 _ _ _ _ _ hM (lv_sub hl [0, 1, 2] rfl) he

set_option maxHeartbeats 4000000 in
set_option maxRecDepth 100000 in
theorem w11_goes_b12_body (E : g_C p s m args c cX11_goes RX11 D aC (g_Zs (g_A B 44))) (hml : c.maxLocals = 3) (hret : meth.sig.returnType = (some .boolean)) (hlk : meth.locks = false) {F : Nat} {q0 : Int32 × g_M} {a1 : Int32} {s12 : Int32 → g_M → Option (Int32 × g_M)} (hs12 : ∀ (v2 : Int32) (mem : g_M) (H : Heap) (locs : List Loc) (ls : Array Slot), g_At D aC B yM 44 mem s.heap H locs → lv_has ls 3 [(0, .ref (B + 0)), (1, .int a1), (2, .int v2)] → s12 v2 mem = some q0 → W p l e (g_rm 3) s m args below meth c H locs 0 0 (g_MQ below D aC B yM 44 args s (some (.int q0.1)) q0.2) (F0 m 12 ls [])) : ∀ (v2 : Int32) (mem : g_M) (H : Heap) (locs : List Loc) (ls : Array Slot), g_At D aC B yM 44 mem s.heap H locs → lv_has ls 3 [(0, .ref (B + 0)), (1, .int a1), (2, .int v2)] → f11_goes_b12_body F a1 s12 v2 mem = some q0 → W p l e (g_rm 3) s m args below meth c H locs 0 0 (g_MQ below D aC B yM 44 args s (some (.int q0.1)) q0.2) (F0 m 12 ls []) := by
  intro v2 mem H locs ls hM hl he
  unfold f11_goes_b12_body at he
  have hx := E.1
  have hb := E.2.1
  have hown := E.2.2.1
  have hts := E.2.2.2.1
  refine lv_iload_n hx hb dX11_goes_12 rfl (lv_at hl 2 rfl) ?_
  refine lv_aload_n hx hb dX11_goes_13 rfl (lv_at hl 0 rfl) ?_
  refine g_getP E hM (o := 0) (Nat.le_of_ble_eq_true rfl) rfl fl_X11_64 (q := 19) rfl dX11_goes_14 ?_
  refine lv_iload_n hx hb dX11_goes_17 rfl (lv_at hl 1 rfl) ?_
  obtain ⟨h5, he⟩ := g_ck_some he
  refine g_iald E hM (o := 19) (Nat.le_of_ble_eq_true rfl) rfl h5 dX11_goes_18 ?_
  refine lv_icmp_ge (tgt := 102) hx hb dX11_goes_19 (by decide) (fun h6 => ?_) (fun h6 => ?_)
  · rw [if_neg (Int32.not_lt.mpr h6)] at he
    refine lv_iconst (v := (1 : Int32)) hx hb dX11_goes_102 rfl ?_
    cases he
    exact g_zret E hM hret hlk (Or.inr rfl) dX11_goes_103
  · rw [if_pos (Int32.not_le.mp h6)] at he
    refine lv_aload_n hx hb dX11_goes_22 rfl (lv_at hl 0 rfl) ?_
    refine g_getP E hM (o := 0) (Nat.le_of_ble_eq_true rfl) rfl fl_X11_67 (q := 20) rfl dX11_goes_23 ?_
    refine lv_iload_n hx hb dX11_goes_26 rfl (lv_at hl 2 rfl) ?_
    obtain ⟨h7, he⟩ := g_ck_some he
    refine g_iald E hM (o := 20) (Nat.le_of_ble_eq_true rfl) rfl h7 dX11_goes_27 ?_
    refine lv_iconst (v := (2 : Int32)) hx hb dX11_goes_28 rfl ?_
    refine lv_icmp_ne (tgt := 47) hx hb dX11_goes_29 (by decide) (fun h8 => ?_) (fun h8 => ?_)
    · rw [if_neg h8] at he
      refine lv_aload_n hx hb dX11_goes_47 rfl (lv_at hl 0 rfl) ?_
      refine g_getP E hM (o := 0) (Nat.le_of_ble_eq_true rfl) rfl fl_X11_81 (q := 23) rfl dX11_goes_48 ?_
      refine lv_aload_n hx hb dX11_goes_51 rfl (lv_at hl 0 rfl) ?_
      refine g_getI E hM (o := 0) (Nat.le_of_ble_eq_true rfl) rfl fl_X11_323 dX11_goes_52 ?_
      refine lv_aload_n hx hb dX11_goes_55 rfl (lv_at hl 0 rfl) ?_
      refine g_getP E hM (o := 0) (Nat.le_of_ble_eq_true rfl) rfl fl_X11_67 (q := 20) rfl dX11_goes_56 ?_
      refine lv_iload_n hx hb dX11_goes_59 rfl (lv_at hl 2 rfl) ?_
      obtain ⟨h12, he⟩ := g_ck_some he
      refine g_iald E hM (o := 20) (Nat.le_of_ble_eq_true rfl) rfl h12 dX11_goes_60 ?_
      refine lv_if_ne (tgt := 74) hx hb dX11_goes_61 (by decide) (fun h13 => ?_) (fun h13 => ?_)
      · rw [if_neg h13] at he
        refine lv_aload_n hx hb dX11_goes_74 rfl (lv_at hl 0 rfl) ?_
        refine g_getP E hM (o := 0) (Nat.le_of_ble_eq_true rfl) rfl fl_X11_77 (q := 22) rfl dX11_goes_75 ?_
        refine lv_aload_n hx hb dX11_goes_78 rfl (lv_at hl 0 rfl) ?_
        refine g_getP E hM (o := 0) (Nat.le_of_ble_eq_true rfl) rfl fl_X11_70 (q := 21) rfl dX11_goes_79 ?_
        refine lv_iload_n hx hb dX11_goes_82 rfl (lv_at hl 2 rfl) ?_
        obtain ⟨h15, he⟩ := g_ck_some he
        refine g_iald E hM (o := 21) (Nat.le_of_ble_eq_true rfl) rfl h15 dX11_goes_83 ?_
        obtain ⟨h16, he⟩ := g_ck_some he
        refine g_lald E hM (o := 22) (Nat.le_of_ble_eq_true rfl) rfl h16 dX11_goes_84 ?_
        exact w11_goes_b85 (F := F) (a1 := a1) E hml hret hlk hs12 _ _ _ _ _ _ _ hM (lv_sub hl [0, 1, 2] rfl) he
      · rw [if_pos h13] at he
        refine lv_aload_n hx hb dX11_goes_64 rfl (lv_at hl 0 rfl) ?_
        refine g_getP E hM (o := 0) (Nat.le_of_ble_eq_true rfl) rfl fl_X11_70 (q := 21) rfl dX11_goes_65 ?_
        refine lv_iload_n hx hb dX11_goes_68 rfl (lv_at hl 2 rfl) ?_
        obtain ⟨h14, he⟩ := g_ck_some he
        refine g_iald E hM (o := 21) (Nat.le_of_ble_eq_true rfl) rfl h14 dX11_goes_69 ?_
        refine lv_i2l hx hb dX11_goes_70 rfl ?_
        refine lv_goto (tgt := 85) hx hb dX11_goes_71 (by decide) ?_
        exact w11_goes_b85 (F := F) (a1 := a1) E hml hret hlk hs12 _ _ _ _ _ _ _ hM (lv_sub hl [0, 1, 2] rfl) he
    · rw [if_pos h8] at he
      refine lv_aload_n hx hb dX11_goes_32 rfl (lv_at hl 0 rfl) ?_
      refine lv_aload_n hx hb dX11_goes_33 rfl (lv_at hl 0 rfl) ?_
      refine g_getP E hM (o := 0) (Nat.le_of_ble_eq_true rfl) rfl fl_X11_70 (q := 21) rfl dX11_goes_34 ?_
      refine lv_iload_n hx hb dX11_goes_37 rfl (lv_at hl 2 rfl) ?_
      obtain ⟨h9, he⟩ := g_ck_some he
      refine g_iald E hM (o := 21) (Nat.le_of_ble_eq_true rfl) rfl h9 dX11_goes_38 ?_
      obtain ⟨r10, hcr10, he⟩ := g_bind he
      refine g_callV [.int (mem.1 21 v2.toNatClampNeg)] (rest := []) E hml hl.1 hM cv_X11_340 (c11_works l D aC B hcr10) (o := 0) (Nat.le_of_ble_eq_true rfl) rfl (by decide) rfl rfl (Nat.le_of_ble_eq_true rfl) dX11_goes_39 (fun H locs hM => ?_)
      refine W.eq (g2 := F0 m 42 ls [.int r10.1]) rfl ?_
      refine lv_if_ne (tgt := 96) hx hb dX11_goes_42 (by decide) (fun h11 => ?_) (fun h11 => ?_)
      · rw [if_neg h11] at he
        exact w11_goes_b96 (F := F) (a1 := a1) E hml hret hlk hs12 _ _ _ _ _ hM (lv_sub hl [0, 1, 2] rfl) he
      · rw [if_pos h11] at he
        refine lv_iconst (v := (0 : Int32)) hx hb dX11_goes_45 rfl ?_
        cases he
        exact g_zret E hM hret hlk (Or.inl rfl) dX11_goes_46

set_option maxHeartbeats 4000000 in
set_option maxRecDepth 100000 in
theorem w11_goes_b12 (E : g_C p s m args c cX11_goes RX11 D aC (g_Zs (g_A B 44))) (hml : c.maxLocals = 3) (hret : meth.sig.returnType = (some .boolean)) (hlk : meth.locks = false) {F : Nat} {q0 : Int32 × g_M} {a1 : Int32} : ∀ (v2 : Int32) (mem : g_M) (H : Heap) (locs : List Loc) (ls : Array Slot), g_At D aC B yM 44 mem s.heap H locs → lv_has ls 3 [(0, .ref (B + 0)), (1, .int a1), (2, .int v2)] → f11_goes_b12 F a1 v2 mem = some q0 → W p l e (g_rm 3) s m args below meth c H locs 0 0 (g_MQ below D aC B yM 44 args s (some (.int q0.1)) q0.2) (F0 m 12 ls []) := by
  have key : ∀ (nn : Nat) (x : Int32 × g_M) (H : Heap) (locs : List Loc) (ls : Array Slot), g_At D aC B yM 44 x.2 s.heap H locs → lv_has ls 3 [(0, .ref (B + 0)), (1, .int a1), (2, .int x.1)] → g_fix (fun sf x => f11_goes_b12_body F a1 (fun v2 mem => sf (v2, mem)) x.1 x.2) nn x = some q0 → W p l e (g_rm 3) s m args below meth c H locs 0 0 (g_MQ below D aC B yM 44 args s (some (.int q0.1)) q0.2) (F0 m 12 ls []) := by
    intro nn
    induction nn with
    | zero => intro x H locs ls hM hl he; simp [g_fix] at he
    | succ nn ih =>
      intro x H locs ls hM hl he
      exact w11_goes_b12_body (F := F) (a1 := a1) E hml hret hlk (fun v2 mem H locs ls hM hl he => ih (v2, mem) H locs ls hM hl he) x.1 x.2 H locs ls hM hl he
  intro v2 mem H locs ls hM hl he
  exact key F (v2, mem) H locs ls hM hl he

set_option maxHeartbeats 4000000 in
set_option maxRecDepth 100000 in
theorem c11_goes (l : Launch) (D : va_G) (aC : Nat → ClassId) (B : Nat) {F : Nat} {a1 : Int32} {mem : g_M} {q0 : Int32 × g_M} (he : f11_goes F a1 mem = some q0) : g_Met l yX11_goes cX11_goes 3 (some .boolean) 3 D aC B yM 44 mem [.ref (B + 0), .int a1] (some (.int q0.1)) q0.2 := by
  refine g_ofW (by decide) (Nat.le_of_ble_eq_true rfl) ?_
  intro p e s m args below meth c ls E hml hret hlk hM hl
  have E : g_C p s m args c cX11_goes RX11 D aC (g_Zs (g_A B 44)) := E
  have hx := E.1
  have hb := E.2.1
  have hown := E.2.2.1
  have hts := E.2.2.2.1
  have hl : lv_has ls 3 [(0, .ref (B + 0)), (1, .int a1)] := hl
  unfold f11_goes at he
  refine lv_aload_n hx hb dX11_goes_0 rfl (lv_at hl 0 rfl) ?_
  refine lv_iconst (v := (0 : Int32)) hx hb dX11_goes_1 rfl ?_
  refine g_putI E hM (o := 0) (Nat.le_of_ble_eq_true rfl) rfl fp_X11_323 dX11_goes_2 (fun H locs hM => ?_)
  obtain ⟨m17, hm17, he⟩ := g_let_ex he
  rw [← hm17] at hM
  refine lv_aload_n hx hb dX11_goes_5 rfl (lv_at hl 0 rfl) ?_
  refine g_getP E hM (o := 0) (Nat.le_of_ble_eq_true rfl) rfl fl_X11_61 (q := 18) rfl dX11_goes_6 ?_
  refine lv_iload_n hx hb dX11_goes_9 rfl (lv_at hl 1 rfl) ?_
  obtain ⟨h18, he⟩ := g_ck_some he
  refine g_iald E hM (o := 18) (Nat.le_of_ble_eq_true rfl) rfl h18 dX11_goes_10 ?_
  obtain ⟨x19, hx19, he⟩ := g_let_ex he
  refine g_topI hx19 ?_
  refine lv_istore_n (lv' := [(2, .int x19), (0, .ref (B + 0)), (1, .int a1)]) hx hb dX11_goes_11 rfl hl (by decide) rfl (fun ls hl => ?_)
  exact w11_goes_b12 (F := F) (a1 := a1) E hml hret hlk _ _ _ _ _ hM (lv_sub hl [1, 2, 0] rfl) he

set_option maxHeartbeats 4000000 in
set_option maxRecDepth 100000 in
theorem c11_hasLaw (l : Launch) (D : va_G) (aC : Nat → ClassId) (B : Nat) {F : Nat} {a1 : Int32} {mem : g_M} {q0 : Int32} (he : f11_hasLaw F a1 mem = some q0) : g_Met l yX11_hasLaw cX11_hasLaw 2 (some .boolean) 1 D aC B yM 44 mem [.ref (B + 0), .int a1] (some (.int q0)) mem := by
  refine g_ofW (by decide) (Nat.le_of_ble_eq_true rfl) ?_
  intro p e s m args below meth c ls E hml hret hlk hM hl
  have E : g_C p s m args c cX11_hasLaw RX11 D aC (g_Zs (g_A B 44)) := E
  have hx := E.1
  have hb := E.2.1
  have hown := E.2.2.1
  have hts := E.2.2.2.1
  have hl : lv_has ls 2 [(0, .ref (B + 0)), (1, .int a1)] := hl
  unfold f11_hasLaw at he
  refine lv_aload_n hx hb dX11_hasLaw_0 rfl (lv_at hl 0 rfl) ?_
  refine g_getP E hM (o := 0) (Nat.le_of_ble_eq_true rfl) rfl fl_X11_64 (q := 19) rfl dX11_hasLaw_1 ?_
  refine lv_iload_n hx hb dX11_hasLaw_4 rfl (lv_at hl 1 rfl) ?_
  obtain ⟨h1, he⟩ := g_ck_some he
  refine g_iald E hM (o := 19) (Nat.le_of_ble_eq_true rfl) rfl h1 dX11_hasLaw_5 ?_
  refine lv_aload_n hx hb dX11_hasLaw_6 rfl (lv_at hl 0 rfl) ?_
  refine g_getP E hM (o := 0) (Nat.le_of_ble_eq_true rfl) rfl fl_X11_61 (q := 18) rfl dX11_hasLaw_7 ?_
  refine lv_iload_n hx hb dX11_hasLaw_10 rfl (lv_at hl 1 rfl) ?_
  obtain ⟨h2, he⟩ := g_ck_some he
  refine g_iald E hM (o := 18) (Nat.le_of_ble_eq_true rfl) rfl h2 dX11_hasLaw_11 ?_
  refine lv_icmp_le (tgt := 19) hx hb dX11_hasLaw_12 (by decide) (fun h3 => ?_) (fun h3 => ?_)
  · rw [if_neg (Int32.not_lt.mpr h3)] at he
    refine lv_iconst (v := (0 : Int32)) hx hb dX11_hasLaw_19 rfl ?_
    cases he
    exact g_zret E hM hret hlk (Or.inl rfl) dX11_hasLaw_20
  · rw [if_pos (Int32.not_le.mp h3)] at he
    refine lv_iconst (v := (1 : Int32)) hx hb dX11_hasLaw_15 rfl ?_
    refine lv_goto (tgt := 20) hx hb dX11_hasLaw_16 (by decide) ?_
    cases he
    exact g_zret E hM hret hlk (Or.inr rfl) dX11_hasLaw_20

set_option maxHeartbeats 4000000 in
set_option maxRecDepth 100000 in
theorem w11_copies_b177_body (E : g_C p s m args c cX11_copies RX11 D aC (g_Zs (g_A B 44))) (hml : c.maxLocals = 6) (hret : meth.sig.returnType = none) (hlk : meth.locks = false) {F : Nat} {q0 : g_M} {a1 : Int32} {a2 : Int32} {s177 : Int32 → g_M → Option (g_M)} (hs177 : ∀ (v3 : Int32) (mem : g_M) (H : Heap) (locs : List Loc) (ls : Array Slot), g_At D aC B yM 44 mem s.heap H locs → lv_has ls 6 [(0, .ref (B + 0)), (1, .int a1), (2, .int a2), (3, .int v3)] → s177 v3 mem = some q0 → W p l e (g_rm 1) s m args below meth c H locs 0 0 (g_MQ below D aC B yM 44 args s none q0) (F0 m 177 ls [])) : ∀ (v3 : Int32) (mem : g_M) (H : Heap) (locs : List Loc) (ls : Array Slot), g_At D aC B yM 44 mem s.heap H locs → lv_has ls 6 [(0, .ref (B + 0)), (1, .int a1), (2, .int a2), (3, .int v3)] → f11_copies_b177_body F a1 a2 s177 v3 mem = some q0 → W p l e (g_rm 1) s m args below meth c H locs 0 0 (g_MQ below D aC B yM 44 args s none q0) (F0 m 177 ls []) := by
  intro v3 mem H locs ls hM hl he
  unfold f11_copies_b177_body at he
  have hx := E.1
  have hb := E.2.1
  have hown := E.2.2.1
  have hts := E.2.2.2.1
  refine lv_iload_n hx hb dX11_copies_177 rfl (lv_at hl 3 rfl) ?_
  refine lv_bipush (v := (12 : Int32)) hx hb dX11_copies_178 rfl ?_
  refine lv_icmp_ge (tgt := 261) hx hb dX11_copies_180 (by decide) (fun h1 => ?_) (fun h1 => ?_)
  · rw [if_neg (Int32.not_lt.mpr h1)] at he
    cases he
    exact g_vret E hM hret hlk dX11_copies_261
  · rw [if_pos (Int32.not_le.mp h1)] at he
    refine lv_bipush (v := (12 : Int32)) hx hb dX11_copies_183 rfl ?_
    refine lv_iload_n hx hb dX11_copies_185 rfl (lv_at hl 1 rfl) ?_
    refine lv_imul hx hb dX11_copies_186 ?_
    refine lv_iload_n hx hb dX11_copies_187 rfl (lv_at hl 3 rfl) ?_
    refine lv_iadd hx hb dX11_copies_188 ?_
    obtain ⟨x2, hx2, he⟩ := g_let_ex he
    refine g_topI hx2 ?_
    refine lv_istore (lv' := [(4, .int x2), (0, .ref (B + 0)), (1, .int a1), (2, .int a2), (3, .int v3)]) hx hb dX11_copies_189 hl (by decide) rfl (fun ls hl => ?_)
    refine lv_bipush (v := (12 : Int32)) hx hb dX11_copies_191 rfl ?_
    refine lv_iload_n hx hb dX11_copies_193 rfl (lv_at hl 3 rfl) ?_
    refine lv_imul hx hb dX11_copies_194 ?_
    refine lv_iload_n hx hb dX11_copies_195 rfl (lv_at hl 4 rfl) ?_
    refine lv_iadd hx hb dX11_copies_196 ?_
    obtain ⟨x3, hx3, he⟩ := g_let_ex he
    refine g_topI hx3 ?_
    refine lv_istore (lv' := [(5, .int x3), (4, .int x2), (0, .ref (B + 0)), (1, .int a1), (2, .int a2), (3, .int v3)]) hx hb dX11_copies_197 hl (by decide) rfl (fun ls hl => ?_)
    refine lv_aload_n hx hb dX11_copies_199 rfl (lv_at hl 2 rfl) ?_
    refine g_getP E hM (o := 0) (Nat.le_of_ble_eq_true rfl) rfl fl_X11_108 (q := 32) rfl dX11_copies_200 ?_
    refine lv_iload hx hb dX11_copies_203 (lv_at hl 1 rfl) ?_
    refine lv_aload_n hx hb dX11_copies_205 rfl (lv_at hl 2 rfl) ?_
    refine g_getP E hM (o := 0) (Nat.le_of_ble_eq_true rfl) rfl fl_X11_108 (q := 32) rfl dX11_copies_206 ?_
    refine lv_iload hx hb dX11_copies_209 (lv_at hl 0 rfl) ?_
    obtain ⟨h4, he⟩ := g_ck_some he
    refine g_iald E hM (o := 32) (Nat.le_of_ble_eq_true rfl) rfl h4 dX11_copies_211 ?_
    obtain ⟨h5, he⟩ := g_ck_some he
    refine g_iast E hM (o := 32) (Nat.le_of_ble_eq_true rfl) rfl h5 dX11_copies_212 (fun H locs hM => ?_)
    obtain ⟨m6, hm6, he⟩ := g_let_ex he
    rw [← hm6] at hM
    refine lv_aload_n hx hb dX11_copies_213 rfl (lv_at hl 2 rfl) ?_
    refine g_getP E hM (o := 0) (Nat.le_of_ble_eq_true rfl) rfl fl_X11_111 (q := 33) rfl dX11_copies_214 ?_
    refine lv_iload hx hb dX11_copies_217 (lv_at hl 1 rfl) ?_
    refine lv_aload_n hx hb dX11_copies_219 rfl (lv_at hl 2 rfl) ?_
    refine g_getP E hM (o := 0) (Nat.le_of_ble_eq_true rfl) rfl fl_X11_111 (q := 33) rfl dX11_copies_220 ?_
    refine lv_iload hx hb dX11_copies_223 (lv_at hl 0 rfl) ?_
    obtain ⟨h7, he⟩ := g_ck_some he
    refine g_iald E hM (o := 33) (Nat.le_of_ble_eq_true rfl) rfl h7 dX11_copies_225 ?_
    obtain ⟨h8, he⟩ := g_ck_some he
    refine g_iast E hM (o := 33) (Nat.le_of_ble_eq_true rfl) rfl h8 dX11_copies_226 (fun H locs hM => ?_)
    obtain ⟨m9, hm9, he⟩ := g_let_ex he
    rw [← hm9] at hM
    refine lv_aload_n hx hb dX11_copies_227 rfl (lv_at hl 2 rfl) ?_
    refine g_getP E hM (o := 0) (Nat.le_of_ble_eq_true rfl) rfl fl_X11_114 (q := 34) rfl dX11_copies_228 ?_
    refine lv_iload hx hb dX11_copies_231 (lv_at hl 1 rfl) ?_
    refine lv_aload_n hx hb dX11_copies_233 rfl (lv_at hl 2 rfl) ?_
    refine g_getP E hM (o := 0) (Nat.le_of_ble_eq_true rfl) rfl fl_X11_114 (q := 34) rfl dX11_copies_234 ?_
    refine lv_iload hx hb dX11_copies_237 (lv_at hl 0 rfl) ?_
    obtain ⟨h10, he⟩ := g_ck_some he
    refine g_iald E hM (o := 34) (Nat.le_of_ble_eq_true rfl) rfl h10 dX11_copies_239 ?_
    obtain ⟨h11, he⟩ := g_ck_some he
    refine g_iast E hM (o := 34) (Nat.le_of_ble_eq_true rfl) rfl h11 dX11_copies_240 (fun H locs hM => ?_)
    obtain ⟨m12, hm12, he⟩ := g_let_ex he
    rw [← hm12] at hM
    refine lv_aload_n hx hb dX11_copies_241 rfl (lv_at hl 2 rfl) ?_
    refine g_getP E hM (o := 0) (Nat.le_of_ble_eq_true rfl) rfl fl_X11_117 (q := 35) rfl dX11_copies_242 ?_
    refine lv_iload hx hb dX11_copies_245 (lv_at hl 1 rfl) ?_
    refine lv_aload_n hx hb dX11_copies_247 rfl (lv_at hl 2 rfl) ?_
    refine g_getP E hM (o := 0) (Nat.le_of_ble_eq_true rfl) rfl fl_X11_117 (q := 35) rfl dX11_copies_248 ?_
    refine lv_iload hx hb dX11_copies_251 (lv_at hl 0 rfl) ?_
    obtain ⟨h13, he⟩ := g_ck_some he
    refine g_iald E hM (o := 35) (Nat.le_of_ble_eq_true rfl) rfl h13 dX11_copies_253 ?_
    obtain ⟨h14, he⟩ := g_ck_some he
    refine g_iast E hM (o := 35) (Nat.le_of_ble_eq_true rfl) rfl h14 dX11_copies_254 (fun H locs hM => ?_)
    obtain ⟨m15, hm15, he⟩ := g_let_ex he
    rw [← hm15] at hM
    obtain ⟨x16, hx16, he⟩ := g_let_ex he
    refine lv_iinc (v := x16) (lv' := [(3, .int x16), (5, .int x3), (4, .int x2), (0, .ref (B + 0)), (1, .int a1), (2, .int a2)]) hx hb dX11_copies_255 hl (k := 5) rfl (by rw [hx16]; rfl) (by decide) rfl (fun ls hl => ?_)
    refine lv_goto (tgt := 177) hx hb dX11_copies_258 (by decide) ?_
    exact hs177 _ _ _ _ _ hM (lv_sub hl [3, 4, 5, 0] rfl) he

set_option maxHeartbeats 4000000 in
set_option maxRecDepth 100000 in
theorem w11_copies_b177 (E : g_C p s m args c cX11_copies RX11 D aC (g_Zs (g_A B 44))) (hml : c.maxLocals = 6) (hret : meth.sig.returnType = none) (hlk : meth.locks = false) {F : Nat} {q0 : g_M} {a1 : Int32} {a2 : Int32} : ∀ (v3 : Int32) (mem : g_M) (H : Heap) (locs : List Loc) (ls : Array Slot), g_At D aC B yM 44 mem s.heap H locs → lv_has ls 6 [(0, .ref (B + 0)), (1, .int a1), (2, .int a2), (3, .int v3)] → f11_copies_b177 F a1 a2 v3 mem = some q0 → W p l e (g_rm 1) s m args below meth c H locs 0 0 (g_MQ below D aC B yM 44 args s none q0) (F0 m 177 ls []) := by
  have key : ∀ (nn : Nat) (x : Int32 × g_M) (H : Heap) (locs : List Loc) (ls : Array Slot), g_At D aC B yM 44 x.2 s.heap H locs → lv_has ls 6 [(0, .ref (B + 0)), (1, .int a1), (2, .int a2), (3, .int x.1)] → g_fix (fun sf x => f11_copies_b177_body F a1 a2 (fun v3 mem => sf (v3, mem)) x.1 x.2) nn x = some q0 → W p l e (g_rm 1) s m args below meth c H locs 0 0 (g_MQ below D aC B yM 44 args s none q0) (F0 m 177 ls []) := by
    intro nn
    induction nn with
    | zero => intro x H locs ls hM hl he; simp [g_fix] at he
    | succ nn ih =>
      intro x H locs ls hM hl he
      exact w11_copies_b177_body (F := F) (a1 := a1) (a2 := a2) E hml hret hlk (fun v3 mem H locs ls hM hl he => ih (v3, mem) H locs ls hM hl he) x.1 x.2 H locs ls hM hl he
  intro v3 mem H locs ls hM hl he
  exact key F (v3, mem) H locs ls hM hl he

set_option maxHeartbeats 4000000 in
set_option maxRecDepth 100000 in
theorem w11_copies_b141_body (E : g_C p s m args c cX11_copies RX11 D aC (g_Zs (g_A B 44))) (hml : c.maxLocals = 6) (hret : meth.sig.returnType = none) (hlk : meth.locks = false) {F : Nat} {q0 : g_M} {a1 : Int32} {a2 : Int32} {s141 : Int32 → g_M → Option (g_M)} (hs141 : ∀ (v3 : Int32) (mem : g_M) (H : Heap) (locs : List Loc) (ls : Array Slot), g_At D aC B yM 44 mem s.heap H locs → lv_has ls 6 [(0, .ref (B + 0)), (1, .int a1), (2, .int a2), (3, .int v3)] → s141 v3 mem = some q0 → W p l e (g_rm 1) s m args below meth c H locs 0 0 (g_MQ below D aC B yM 44 args s none q0) (F0 m 141 ls [])) : ∀ (v3 : Int32) (mem : g_M) (H : Heap) (locs : List Loc) (ls : Array Slot), g_At D aC B yM 44 mem s.heap H locs → lv_has ls 6 [(0, .ref (B + 0)), (1, .int a1), (2, .int a2), (3, .int v3)] → f11_copies_b141_body F a1 a2 s141 v3 mem = some q0 → W p l e (g_rm 1) s m args below meth c H locs 0 0 (g_MQ below D aC B yM 44 args s none q0) (F0 m 141 ls []) := by
  intro v3 mem H locs ls hM hl he
  unfold f11_copies_b141_body at he
  have hx := E.1
  have hb := E.2.1
  have hown := E.2.2.1
  have hts := E.2.2.2.1
  refine lv_iload_n hx hb dX11_copies_141 rfl (lv_at hl 3 rfl) ?_
  refine lv_bipush (v := (8 : Int32)) hx hb dX11_copies_142 rfl ?_
  refine lv_icmp_ge (tgt := 175) hx hb dX11_copies_144 (by decide) (fun h17 => ?_) (fun h17 => ?_)
  · rw [if_neg (Int32.not_lt.mpr h17)] at he
    refine lv_iconst (v := (0 : Int32)) hx hb dX11_copies_175 rfl ?_
    refine lv_istore_n (lv' := [(3, .int (0 : Int32)), (0, .ref (B + 0)), (1, .int a1), (2, .int a2)]) hx hb dX11_copies_176 rfl hl (by decide) rfl (fun ls hl => ?_)
    exact w11_copies_b177 (F := F) (a1 := a1) (a2 := a2) E hml hret hlk _ _ _ _ _ hM (lv_sub hl [1, 2, 3, 0] rfl) he
  · rw [if_pos (Int32.not_le.mp h17)] at he
    refine lv_aload_n hx hb dX11_copies_147 rfl (lv_at hl 0 rfl) ?_
    refine g_getP E hM (o := 0) (Nat.le_of_ble_eq_true rfl) rfl fl_X11_105 (q := 31) rfl dX11_copies_148 ?_
    refine lv_bipush (v := (8 : Int32)) hx hb dX11_copies_151 rfl ?_
    refine lv_iload_n hx hb dX11_copies_153 rfl (lv_at hl 1 rfl) ?_
    refine lv_imul hx hb dX11_copies_154 ?_
    refine lv_iload_n hx hb dX11_copies_155 rfl (lv_at hl 3 rfl) ?_
    refine lv_iadd hx hb dX11_copies_156 ?_
    refine lv_aload_n hx hb dX11_copies_157 rfl (lv_at hl 0 rfl) ?_
    refine g_getP E hM (o := 0) (Nat.le_of_ble_eq_true rfl) rfl fl_X11_105 (q := 31) rfl dX11_copies_158 ?_
    refine lv_bipush (v := (8 : Int32)) hx hb dX11_copies_161 rfl ?_
    refine lv_iload_n hx hb dX11_copies_163 rfl (lv_at hl 2 rfl) ?_
    refine lv_imul hx hb dX11_copies_164 ?_
    refine lv_iload_n hx hb dX11_copies_165 rfl (lv_at hl 3 rfl) ?_
    refine lv_iadd hx hb dX11_copies_166 ?_
    obtain ⟨h18, he⟩ := g_ck_some he
    refine g_iald E hM (o := 31) (Nat.le_of_ble_eq_true rfl) rfl h18 dX11_copies_167 ?_
    obtain ⟨h19, he⟩ := g_ck_some he
    refine g_iast E hM (o := 31) (Nat.le_of_ble_eq_true rfl) rfl h19 dX11_copies_168 (fun H locs hM => ?_)
    obtain ⟨m20, hm20, he⟩ := g_let_ex he
    rw [← hm20] at hM
    obtain ⟨x21, hx21, he⟩ := g_let_ex he
    refine lv_iinc (v := x21) (lv' := [(3, .int x21), (0, .ref (B + 0)), (1, .int a1), (2, .int a2)]) hx hb dX11_copies_169 hl (k := 3) rfl (by rw [hx21]; rfl) (by decide) rfl (fun ls hl => ?_)
    refine lv_goto (tgt := 141) hx hb dX11_copies_172 (by decide) ?_
    exact hs141 _ _ _ _ _ hM (lv_sub hl [1, 2, 3, 0] rfl) he

set_option maxHeartbeats 4000000 in
set_option maxRecDepth 100000 in
theorem w11_copies_b141 (E : g_C p s m args c cX11_copies RX11 D aC (g_Zs (g_A B 44))) (hml : c.maxLocals = 6) (hret : meth.sig.returnType = none) (hlk : meth.locks = false) {F : Nat} {q0 : g_M} {a1 : Int32} {a2 : Int32} : ∀ (v3 : Int32) (mem : g_M) (H : Heap) (locs : List Loc) (ls : Array Slot), g_At D aC B yM 44 mem s.heap H locs → lv_has ls 6 [(0, .ref (B + 0)), (1, .int a1), (2, .int a2), (3, .int v3)] → f11_copies_b141 F a1 a2 v3 mem = some q0 → W p l e (g_rm 1) s m args below meth c H locs 0 0 (g_MQ below D aC B yM 44 args s none q0) (F0 m 141 ls []) := by
  have key : ∀ (nn : Nat) (x : Int32 × g_M) (H : Heap) (locs : List Loc) (ls : Array Slot), g_At D aC B yM 44 x.2 s.heap H locs → lv_has ls 6 [(0, .ref (B + 0)), (1, .int a1), (2, .int a2), (3, .int x.1)] → g_fix (fun sf x => f11_copies_b141_body F a1 a2 (fun v3 mem => sf (v3, mem)) x.1 x.2) nn x = some q0 → W p l e (g_rm 1) s m args below meth c H locs 0 0 (g_MQ below D aC B yM 44 args s none q0) (F0 m 141 ls []) := by
    intro nn
    induction nn with
    | zero => intro x H locs ls hM hl he; simp [g_fix] at he
    | succ nn ih =>
      intro x H locs ls hM hl he
      exact w11_copies_b141_body (F := F) (a1 := a1) (a2 := a2) E hml hret hlk (fun v3 mem H locs ls hM hl he => ih (v3, mem) H locs ls hM hl he) x.1 x.2 H locs ls hM hl he
  intro v3 mem H locs ls hM hl he
  exact key F (v3, mem) H locs ls hM hl he

set_option maxHeartbeats 4000000 in
set_option maxRecDepth 100000 in
theorem w11_copies_b83_body (E : g_C p s m args c cX11_copies RX11 D aC (g_Zs (g_A B 44))) (hml : c.maxLocals = 6) (hret : meth.sig.returnType = none) (hlk : meth.locks = false) {F : Nat} {q0 : g_M} {a1 : Int32} {a2 : Int32} {s83 : Int32 → g_M → Option (g_M)} (hs83 : ∀ (v3 : Int32) (mem : g_M) (H : Heap) (locs : List Loc) (ls : Array Slot), g_At D aC B yM 44 mem s.heap H locs → lv_has ls 6 [(0, .ref (B + 0)), (1, .int a1), (2, .int a2), (3, .int v3)] → s83 v3 mem = some q0 → W p l e (g_rm 1) s m args below meth c H locs 0 0 (g_MQ below D aC B yM 44 args s none q0) (F0 m 83 ls [])) : ∀ (v3 : Int32) (mem : g_M) (H : Heap) (locs : List Loc) (ls : Array Slot), g_At D aC B yM 44 mem s.heap H locs → lv_has ls 6 [(0, .ref (B + 0)), (1, .int a1), (2, .int a2), (3, .int v3)] → f11_copies_b83_body F a1 a2 s83 v3 mem = some q0 → W p l e (g_rm 1) s m args below meth c H locs 0 0 (g_MQ below D aC B yM 44 args s none q0) (F0 m 83 ls []) := by
  intro v3 mem H locs ls hM hl he
  unfold f11_copies_b83_body at he
  have hx := E.1
  have hb := E.2.1
  have hown := E.2.2.1
  have hts := E.2.2.2.1
  refine lv_iload_n hx hb dX11_copies_83 rfl (lv_at hl 3 rfl) ?_
  refine lv_bipush (v := (25 : Int32)) hx hb dX11_copies_84 rfl ?_
  refine lv_icmp_ge (tgt := 139) hx hb dX11_copies_86 (by decide) (fun h22 => ?_) (fun h22 => ?_)
  · rw [if_neg (Int32.not_lt.mpr h22)] at he
    refine lv_iconst (v := (0 : Int32)) hx hb dX11_copies_139 rfl ?_
    refine lv_istore_n (lv' := [(3, .int (0 : Int32)), (0, .ref (B + 0)), (1, .int a1), (2, .int a2)]) hx hb dX11_copies_140 rfl hl (by decide) rfl (fun ls hl => ?_)
    exact w11_copies_b141 (F := F) (a1 := a1) (a2 := a2) E hml hret hlk _ _ _ _ _ hM (lv_sub hl [1, 2, 3, 0] rfl) he
  · rw [if_pos (Int32.not_le.mp h22)] at he
    refine lv_aload_n hx hb dX11_copies_89 rfl (lv_at hl 0 rfl) ?_
    refine g_getP E hM (o := 0) (Nat.le_of_ble_eq_true rfl) rfl fl_X11_99 (q := 29) rfl dX11_copies_90 ?_
    refine lv_bipush (v := (25 : Int32)) hx hb dX11_copies_93 rfl ?_
    refine lv_iload_n hx hb dX11_copies_95 rfl (lv_at hl 1 rfl) ?_
    refine lv_imul hx hb dX11_copies_96 ?_
    refine lv_iload_n hx hb dX11_copies_97 rfl (lv_at hl 3 rfl) ?_
    refine lv_iadd hx hb dX11_copies_98 ?_
    refine lv_aload_n hx hb dX11_copies_99 rfl (lv_at hl 0 rfl) ?_
    refine g_getP E hM (o := 0) (Nat.le_of_ble_eq_true rfl) rfl fl_X11_99 (q := 29) rfl dX11_copies_100 ?_
    refine lv_bipush (v := (25 : Int32)) hx hb dX11_copies_103 rfl ?_
    refine lv_iload_n hx hb dX11_copies_105 rfl (lv_at hl 2 rfl) ?_
    refine lv_imul hx hb dX11_copies_106 ?_
    refine lv_iload_n hx hb dX11_copies_107 rfl (lv_at hl 3 rfl) ?_
    refine lv_iadd hx hb dX11_copies_108 ?_
    obtain ⟨h23, he⟩ := g_ck_some he
    refine g_iald E hM (o := 29) (Nat.le_of_ble_eq_true rfl) rfl h23 dX11_copies_109 ?_
    obtain ⟨h24, he⟩ := g_ck_some he
    refine g_iast E hM (o := 29) (Nat.le_of_ble_eq_true rfl) rfl h24 dX11_copies_110 (fun H locs hM => ?_)
    obtain ⟨m25, hm25, he⟩ := g_let_ex he
    rw [← hm25] at hM
    refine lv_aload_n hx hb dX11_copies_111 rfl (lv_at hl 0 rfl) ?_
    refine g_getP E hM (o := 0) (Nat.le_of_ble_eq_true rfl) rfl fl_X11_102 (q := 30) rfl dX11_copies_112 ?_
    refine lv_bipush (v := (25 : Int32)) hx hb dX11_copies_115 rfl ?_
    refine lv_iload_n hx hb dX11_copies_117 rfl (lv_at hl 1 rfl) ?_
    refine lv_imul hx hb dX11_copies_118 ?_
    refine lv_iload_n hx hb dX11_copies_119 rfl (lv_at hl 3 rfl) ?_
    refine lv_iadd hx hb dX11_copies_120 ?_
    refine lv_aload_n hx hb dX11_copies_121 rfl (lv_at hl 0 rfl) ?_
    refine g_getP E hM (o := 0) (Nat.le_of_ble_eq_true rfl) rfl fl_X11_102 (q := 30) rfl dX11_copies_122 ?_
    refine lv_bipush (v := (25 : Int32)) hx hb dX11_copies_125 rfl ?_
    refine lv_iload_n hx hb dX11_copies_127 rfl (lv_at hl 2 rfl) ?_
    refine lv_imul hx hb dX11_copies_128 ?_
    refine lv_iload_n hx hb dX11_copies_129 rfl (lv_at hl 3 rfl) ?_
    refine lv_iadd hx hb dX11_copies_130 ?_
    obtain ⟨h26, he⟩ := g_ck_some he
    refine g_iald E hM (o := 30) (Nat.le_of_ble_eq_true rfl) rfl h26 dX11_copies_131 ?_
    obtain ⟨h27, he⟩ := g_ck_some he
    refine g_iast E hM (o := 30) (Nat.le_of_ble_eq_true rfl) rfl h27 dX11_copies_132 (fun H locs hM => ?_)
    obtain ⟨m28, hm28, he⟩ := g_let_ex he
    rw [← hm28] at hM
    obtain ⟨x29, hx29, he⟩ := g_let_ex he
    refine lv_iinc (v := x29) (lv' := [(3, .int x29), (0, .ref (B + 0)), (1, .int a1), (2, .int a2)]) hx hb dX11_copies_133 hl (k := 3) rfl (by rw [hx29]; rfl) (by decide) rfl (fun ls hl => ?_)
    refine lv_goto (tgt := 83) hx hb dX11_copies_136 (by decide) ?_
    exact hs83 _ _ _ _ _ hM (lv_sub hl [1, 2, 3, 0] rfl) he

set_option maxHeartbeats 4000000 in
set_option maxRecDepth 100000 in
theorem w11_copies_b83 (E : g_C p s m args c cX11_copies RX11 D aC (g_Zs (g_A B 44))) (hml : c.maxLocals = 6) (hret : meth.sig.returnType = none) (hlk : meth.locks = false) {F : Nat} {q0 : g_M} {a1 : Int32} {a2 : Int32} : ∀ (v3 : Int32) (mem : g_M) (H : Heap) (locs : List Loc) (ls : Array Slot), g_At D aC B yM 44 mem s.heap H locs → lv_has ls 6 [(0, .ref (B + 0)), (1, .int a1), (2, .int a2), (3, .int v3)] → f11_copies_b83 F a1 a2 v3 mem = some q0 → W p l e (g_rm 1) s m args below meth c H locs 0 0 (g_MQ below D aC B yM 44 args s none q0) (F0 m 83 ls []) := by
  have key : ∀ (nn : Nat) (x : Int32 × g_M) (H : Heap) (locs : List Loc) (ls : Array Slot), g_At D aC B yM 44 x.2 s.heap H locs → lv_has ls 6 [(0, .ref (B + 0)), (1, .int a1), (2, .int a2), (3, .int x.1)] → g_fix (fun sf x => f11_copies_b83_body F a1 a2 (fun v3 mem => sf (v3, mem)) x.1 x.2) nn x = some q0 → W p l e (g_rm 1) s m args below meth c H locs 0 0 (g_MQ below D aC B yM 44 args s none q0) (F0 m 83 ls []) := by
    intro nn
    induction nn with
    | zero => intro x H locs ls hM hl he; simp [g_fix] at he
    | succ nn ih =>
      intro x H locs ls hM hl he
      exact w11_copies_b83_body (F := F) (a1 := a1) (a2 := a2) E hml hret hlk (fun v3 mem H locs ls hM hl he => ih (v3, mem) H locs ls hM hl he) x.1 x.2 H locs ls hM hl he
  intro v3 mem H locs ls hM hl he
  exact key F (v3, mem) H locs ls hM hl he

set_option maxHeartbeats 4000000 in
set_option maxRecDepth 100000 in
theorem w11_copies_b50_body (E : g_C p s m args c cX11_copies RX11 D aC (g_Zs (g_A B 44))) (hml : c.maxLocals = 6) (hret : meth.sig.returnType = none) (hlk : meth.locks = false) {F : Nat} {q0 : g_M} {a1 : Int32} {a2 : Int32} {s50 : Int32 → g_M → Option (g_M)} (hs50 : ∀ (v3 : Int32) (mem : g_M) (H : Heap) (locs : List Loc) (ls : Array Slot), g_At D aC B yM 44 mem s.heap H locs → lv_has ls 6 [(0, .ref (B + 0)), (1, .int a1), (2, .int a2), (3, .int v3)] → s50 v3 mem = some q0 → W p l e (g_rm 1) s m args below meth c H locs 0 0 (g_MQ below D aC B yM 44 args s none q0) (F0 m 50 ls [])) : ∀ (v3 : Int32) (mem : g_M) (H : Heap) (locs : List Loc) (ls : Array Slot), g_At D aC B yM 44 mem s.heap H locs → lv_has ls 6 [(0, .ref (B + 0)), (1, .int a1), (2, .int a2), (3, .int v3)] → f11_copies_b50_body F a1 a2 s50 v3 mem = some q0 → W p l e (g_rm 1) s m args below meth c H locs 0 0 (g_MQ below D aC B yM 44 args s none q0) (F0 m 50 ls []) := by
  intro v3 mem H locs ls hM hl he
  unfold f11_copies_b50_body at he
  have hx := E.1
  have hb := E.2.1
  have hown := E.2.2.1
  have hts := E.2.2.2.1
  refine lv_iload_n hx hb dX11_copies_50 rfl (lv_at hl 3 rfl) ?_
  refine lv_iconst (v := (5 : Int32)) hx hb dX11_copies_51 rfl ?_
  refine lv_icmp_ge (tgt := 81) hx hb dX11_copies_52 (by decide) (fun h30 => ?_) (fun h30 => ?_)
  · rw [if_neg (Int32.not_lt.mpr h30)] at he
    refine lv_iconst (v := (0 : Int32)) hx hb dX11_copies_81 rfl ?_
    refine lv_istore_n (lv' := [(3, .int (0 : Int32)), (0, .ref (B + 0)), (1, .int a1), (2, .int a2)]) hx hb dX11_copies_82 rfl hl (by decide) rfl (fun ls hl => ?_)
    exact w11_copies_b83 (F := F) (a1 := a1) (a2 := a2) E hml hret hlk _ _ _ _ _ hM (lv_sub hl [1, 2, 3, 0] rfl) he
  · rw [if_pos (Int32.not_le.mp h30)] at he
    refine lv_aload_n hx hb dX11_copies_55 rfl (lv_at hl 0 rfl) ?_
    refine g_getP E hM (o := 0) (Nat.le_of_ble_eq_true rfl) rfl fl_X11_96 (q := 28) rfl dX11_copies_56 ?_
    refine lv_iconst (v := (5 : Int32)) hx hb dX11_copies_59 rfl ?_
    refine lv_iload_n hx hb dX11_copies_60 rfl (lv_at hl 1 rfl) ?_
    refine lv_imul hx hb dX11_copies_61 ?_
    refine lv_iload_n hx hb dX11_copies_62 rfl (lv_at hl 3 rfl) ?_
    refine lv_iadd hx hb dX11_copies_63 ?_
    refine lv_aload_n hx hb dX11_copies_64 rfl (lv_at hl 0 rfl) ?_
    refine g_getP E hM (o := 0) (Nat.le_of_ble_eq_true rfl) rfl fl_X11_96 (q := 28) rfl dX11_copies_65 ?_
    refine lv_iconst (v := (5 : Int32)) hx hb dX11_copies_68 rfl ?_
    refine lv_iload_n hx hb dX11_copies_69 rfl (lv_at hl 2 rfl) ?_
    refine lv_imul hx hb dX11_copies_70 ?_
    refine lv_iload_n hx hb dX11_copies_71 rfl (lv_at hl 3 rfl) ?_
    refine lv_iadd hx hb dX11_copies_72 ?_
    obtain ⟨h31, he⟩ := g_ck_some he
    refine g_iald E hM (o := 28) (Nat.le_of_ble_eq_true rfl) rfl h31 dX11_copies_73 ?_
    obtain ⟨h32, he⟩ := g_ck_some he
    refine g_iast E hM (o := 28) (Nat.le_of_ble_eq_true rfl) rfl h32 dX11_copies_74 (fun H locs hM => ?_)
    obtain ⟨m33, hm33, he⟩ := g_let_ex he
    rw [← hm33] at hM
    obtain ⟨x34, hx34, he⟩ := g_let_ex he
    refine lv_iinc (v := x34) (lv' := [(3, .int x34), (0, .ref (B + 0)), (1, .int a1), (2, .int a2)]) hx hb dX11_copies_75 hl (k := 3) rfl (by rw [hx34]; rfl) (by decide) rfl (fun ls hl => ?_)
    refine lv_goto (tgt := 50) hx hb dX11_copies_78 (by decide) ?_
    exact hs50 _ _ _ _ _ hM (lv_sub hl [1, 2, 3, 0] rfl) he

set_option maxHeartbeats 4000000 in
set_option maxRecDepth 100000 in
theorem w11_copies_b50 (E : g_C p s m args c cX11_copies RX11 D aC (g_Zs (g_A B 44))) (hml : c.maxLocals = 6) (hret : meth.sig.returnType = none) (hlk : meth.locks = false) {F : Nat} {q0 : g_M} {a1 : Int32} {a2 : Int32} : ∀ (v3 : Int32) (mem : g_M) (H : Heap) (locs : List Loc) (ls : Array Slot), g_At D aC B yM 44 mem s.heap H locs → lv_has ls 6 [(0, .ref (B + 0)), (1, .int a1), (2, .int a2), (3, .int v3)] → f11_copies_b50 F a1 a2 v3 mem = some q0 → W p l e (g_rm 1) s m args below meth c H locs 0 0 (g_MQ below D aC B yM 44 args s none q0) (F0 m 50 ls []) := by
  have key : ∀ (nn : Nat) (x : Int32 × g_M) (H : Heap) (locs : List Loc) (ls : Array Slot), g_At D aC B yM 44 x.2 s.heap H locs → lv_has ls 6 [(0, .ref (B + 0)), (1, .int a1), (2, .int a2), (3, .int x.1)] → g_fix (fun sf x => f11_copies_b50_body F a1 a2 (fun v3 mem => sf (v3, mem)) x.1 x.2) nn x = some q0 → W p l e (g_rm 1) s m args below meth c H locs 0 0 (g_MQ below D aC B yM 44 args s none q0) (F0 m 50 ls []) := by
    intro nn
    induction nn with
    | zero => intro x H locs ls hM hl he; simp [g_fix] at he
    | succ nn ih =>
      intro x H locs ls hM hl he
      exact w11_copies_b50_body (F := F) (a1 := a1) (a2 := a2) E hml hret hlk (fun v3 mem H locs ls hM hl he => ih (v3, mem) H locs ls hM hl he) x.1 x.2 H locs ls hM hl he
  intro v3 mem H locs ls hM hl he
  exact key F (v3, mem) H locs ls hM hl he

set_option maxHeartbeats 4000000 in
set_option maxRecDepth 100000 in
theorem c11_copies (l : Launch) (D : va_G) (aC : Nat → ClassId) (B : Nat) {F : Nat} {a1 : Int32} {a2 : Int32} {mem : g_M} {q0 : g_M} (he : f11_copies F a1 a2 mem = some q0) : g_Met l yX11_copies cX11_copies 6 none 1 D aC B yM 44 mem [.ref (B + 0), .int a1, .int a2] none q0 := by
  refine g_ofW (by decide) (Nat.le_of_ble_eq_true rfl) ?_
  intro p e s m args below meth c ls E hml hret hlk hM hl
  have E : g_C p s m args c cX11_copies RX11 D aC (g_Zs (g_A B 44)) := E
  have hx := E.1
  have hb := E.2.1
  have hown := E.2.2.1
  have hts := E.2.2.2.1
  have hl : lv_has ls 6 [(0, .ref (B + 0)), (1, .int a1), (2, .int a2)] := hl
  unfold f11_copies at he
  refine lv_aload_n hx hb dX11_copies_0 rfl (lv_at hl 0 rfl) ?_
  refine g_getP E hM (o := 0) (Nat.le_of_ble_eq_true rfl) rfl fl_X11_84 (q := 24) rfl dX11_copies_1 ?_
  refine lv_iload_n hx hb dX11_copies_4 rfl (lv_at hl 1 rfl) ?_
  refine lv_aload_n hx hb dX11_copies_5 rfl (lv_at hl 0 rfl) ?_
  refine g_getP E hM (o := 0) (Nat.le_of_ble_eq_true rfl) rfl fl_X11_84 (q := 24) rfl dX11_copies_6 ?_
  refine lv_iload_n hx hb dX11_copies_9 rfl (lv_at hl 2 rfl) ?_
  obtain ⟨h35, he⟩ := g_ck_some he
  refine g_iald E hM (o := 24) (Nat.le_of_ble_eq_true rfl) rfl h35 dX11_copies_10 ?_
  obtain ⟨h36, he⟩ := g_ck_some he
  refine g_iast E hM (o := 24) (Nat.le_of_ble_eq_true rfl) rfl h36 dX11_copies_11 (fun H locs hM => ?_)
  obtain ⟨m37, hm37, he⟩ := g_let_ex he
  rw [← hm37] at hM
  refine lv_aload_n hx hb dX11_copies_12 rfl (lv_at hl 0 rfl) ?_
  refine g_getP E hM (o := 0) (Nat.le_of_ble_eq_true rfl) rfl fl_X11_87 (q := 25) rfl dX11_copies_13 ?_
  refine lv_iload_n hx hb dX11_copies_16 rfl (lv_at hl 1 rfl) ?_
  refine lv_aload_n hx hb dX11_copies_17 rfl (lv_at hl 0 rfl) ?_
  refine g_getP E hM (o := 0) (Nat.le_of_ble_eq_true rfl) rfl fl_X11_87 (q := 25) rfl dX11_copies_18 ?_
  refine lv_iload_n hx hb dX11_copies_21 rfl (lv_at hl 2 rfl) ?_
  obtain ⟨h38, he⟩ := g_ck_some he
  refine g_iald E hM (o := 25) (Nat.le_of_ble_eq_true rfl) rfl h38 dX11_copies_22 ?_
  obtain ⟨h39, he⟩ := g_ck_some he
  refine g_iast E hM (o := 25) (Nat.le_of_ble_eq_true rfl) rfl h39 dX11_copies_23 (fun H locs hM => ?_)
  obtain ⟨m40, hm40, he⟩ := g_let_ex he
  rw [← hm40] at hM
  refine lv_aload_n hx hb dX11_copies_24 rfl (lv_at hl 0 rfl) ?_
  refine g_getP E hM (o := 0) (Nat.le_of_ble_eq_true rfl) rfl fl_X11_90 (q := 26) rfl dX11_copies_25 ?_
  refine lv_iload_n hx hb dX11_copies_28 rfl (lv_at hl 1 rfl) ?_
  refine lv_aload_n hx hb dX11_copies_29 rfl (lv_at hl 0 rfl) ?_
  refine g_getP E hM (o := 0) (Nat.le_of_ble_eq_true rfl) rfl fl_X11_90 (q := 26) rfl dX11_copies_30 ?_
  refine lv_iload_n hx hb dX11_copies_33 rfl (lv_at hl 2 rfl) ?_
  obtain ⟨h41, he⟩ := g_ck_some he
  refine g_iald E hM (o := 26) (Nat.le_of_ble_eq_true rfl) rfl h41 dX11_copies_34 ?_
  obtain ⟨h42, he⟩ := g_ck_some he
  refine g_iast E hM (o := 26) (Nat.le_of_ble_eq_true rfl) rfl h42 dX11_copies_35 (fun H locs hM => ?_)
  obtain ⟨m43, hm43, he⟩ := g_let_ex he
  rw [← hm43] at hM
  refine lv_aload_n hx hb dX11_copies_36 rfl (lv_at hl 0 rfl) ?_
  refine g_getP E hM (o := 0) (Nat.le_of_ble_eq_true rfl) rfl fl_X11_93 (q := 27) rfl dX11_copies_37 ?_
  refine lv_iload_n hx hb dX11_copies_40 rfl (lv_at hl 1 rfl) ?_
  refine lv_aload_n hx hb dX11_copies_41 rfl (lv_at hl 0 rfl) ?_
  refine g_getP E hM (o := 0) (Nat.le_of_ble_eq_true rfl) rfl fl_X11_93 (q := 27) rfl dX11_copies_42 ?_
  refine lv_iload_n hx hb dX11_copies_45 rfl (lv_at hl 2 rfl) ?_
  obtain ⟨h44, he⟩ := g_ck_some he
  refine g_iald E hM (o := 27) (Nat.le_of_ble_eq_true rfl) rfl h44 dX11_copies_46 ?_
  obtain ⟨h45, he⟩ := g_ck_some he
  refine g_iast E hM (o := 27) (Nat.le_of_ble_eq_true rfl) rfl h45 dX11_copies_47 (fun H locs hM => ?_)
  obtain ⟨m46, hm46, he⟩ := g_let_ex he
  rw [← hm46] at hM
  refine lv_iconst (v := (0 : Int32)) hx hb dX11_copies_48 rfl ?_
  refine lv_istore_n (lv' := [(3, .int (0 : Int32)), (0, .ref (B + 0)), (1, .int a1), (2, .int a2)]) hx hb dX11_copies_49 rfl hl (by decide) rfl (fun ls hl => ?_)
  exact w11_copies_b50 (F := F) (a1 := a1) (a2 := a2) E hml hret hlk _ _ _ _ _ hM (lv_sub hl [1, 2, 3, 0] rfl) he

set_option maxHeartbeats 4000000 in
set_option maxRecDepth 100000 in
theorem c11_isMan (l : Launch) (D : va_G) (aC : Nat → ClassId) (B : Nat) {F : Nat} {a1 : Int32} {mem : g_M} {q0 : Int32} (he : f11_isMan F a1 mem = some q0) : g_Met l yX11_isMan cX11_isMan 2 (some .boolean) 1 D aC B yM 44 mem [.ref (B + 0), .int a1] (some (.int q0)) mem := by
  refine g_ofW (by decide) (Nat.le_of_ble_eq_true rfl) ?_
  intro p e s m args below meth c ls E hml hret hlk hM hl
  have E : g_C p s m args c cX11_isMan RX11 D aC (g_Zs (g_A B 44)) := E
  have hx := E.1
  have hb := E.2.1
  have hown := E.2.2.1
  have hts := E.2.2.2.1
  have hl : lv_has ls 2 [(0, .ref (B + 0)), (1, .int a1)] := hl
  unfold f11_isMan at he
  refine lv_iload_n hx hb dX11_isMan_0 rfl (lv_at hl 1 rfl) ?_
  refine lv_if_lt (tgt := 18) hx hb dX11_isMan_1 (by decide) (fun h1 => ?_) (fun h1 => ?_)
  · rw [if_neg (Int32.not_le.mpr h1)] at he
    refine lv_iconst (v := (0 : Int32)) hx hb dX11_isMan_18 rfl ?_
    cases he
    exact g_zret E hM hret hlk (Or.inl rfl) dX11_isMan_19
  · rw [if_pos (Int32.not_lt.mp h1)] at he
    refine lv_iload_n hx hb dX11_isMan_4 rfl (lv_at hl 1 rfl) ?_
    refine lv_aload_n hx hb dX11_isMan_5 rfl (lv_at hl 0 rfl) ?_
    refine g_getP E hM (o := 0) (Nat.le_of_ble_eq_true rfl) rfl fl_X11_13 (q := 2) rfl dX11_isMan_6 ?_
    refine lv_iconst (v := (0 : Int32)) hx hb dX11_isMan_9 rfl ?_
    obtain ⟨h2, he⟩ := g_ck_some he
    refine g_iald E hM (o := 2) (Nat.le_of_ble_eq_true rfl) rfl h2 dX11_isMan_10 ?_
    refine lv_icmp_ge (tgt := 18) hx hb dX11_isMan_11 (by decide) (fun h3 => ?_) (fun h3 => ?_)
    · rw [if_neg (Int32.not_lt.mpr h3)] at he
      refine lv_iconst (v := (0 : Int32)) hx hb dX11_isMan_18 rfl ?_
      cases he
      exact g_zret E hM hret hlk (Or.inl rfl) dX11_isMan_19
    · rw [if_pos (Int32.not_le.mp h3)] at he
      refine lv_iconst (v := (1 : Int32)) hx hb dX11_isMan_14 rfl ?_
      refine lv_goto (tgt := 19) hx hb dX11_isMan_15 (by decide) ?_
      cases he
      exact g_zret E hM hret hlk (Or.inr rfl) dX11_isMan_19

set_option maxHeartbeats 4000000 in
set_option maxRecDepth 100000 in
theorem c11_isSort (l : Launch) (D : va_G) (aC : Nat → ClassId) (B : Nat) {F : Nat} {a1 : Int32} {mem : g_M} {q0 : Int32} (he : f11_isSort F a1 mem = some q0) : g_Met l yX11_isSort cX11_isSort 2 (some .boolean) 1 D aC B yM 44 mem [.ref (B + 0), .int a1] (some (.int q0)) mem := by
  refine g_ofW (by decide) (Nat.le_of_ble_eq_true rfl) ?_
  intro p e s m args below meth c ls E hml hret hlk hM hl
  have E : g_C p s m args c cX11_isSort RX11 D aC (g_Zs (g_A B 44)) := E
  have hx := E.1
  have hb := E.2.1
  have hown := E.2.2.1
  have hts := E.2.2.2.1
  have hl : lv_has ls 2 [(0, .ref (B + 0)), (1, .int a1)] := hl
  unfold f11_isSort at he
  refine lv_iload_n hx hb dX11_isSort_0 rfl (lv_at hl 1 rfl) ?_
  refine lv_if_lt (tgt := 18) hx hb dX11_isSort_1 (by decide) (fun h1 => ?_) (fun h1 => ?_)
  · rw [if_neg (Int32.not_le.mpr h1)] at he
    refine lv_iconst (v := (0 : Int32)) hx hb dX11_isSort_18 rfl ?_
    cases he
    exact g_zret E hM hret hlk (Or.inl rfl) dX11_isSort_19
  · rw [if_pos (Int32.not_lt.mp h1)] at he
    refine lv_iload_n hx hb dX11_isSort_4 rfl (lv_at hl 1 rfl) ?_
    refine lv_aload_n hx hb dX11_isSort_5 rfl (lv_at hl 0 rfl) ?_
    refine g_getP E hM (o := 0) (Nat.le_of_ble_eq_true rfl) rfl fl_X11_13 (q := 2) rfl dX11_isSort_6 ?_
    refine lv_iconst (v := (1 : Int32)) hx hb dX11_isSort_9 rfl ?_
    obtain ⟨h2, he⟩ := g_ck_some he
    refine g_iald E hM (o := 2) (Nat.le_of_ble_eq_true rfl) rfl h2 dX11_isSort_10 ?_
    refine lv_icmp_ge (tgt := 18) hx hb dX11_isSort_11 (by decide) (fun h3 => ?_) (fun h3 => ?_)
    · rw [if_neg (Int32.not_lt.mpr h3)] at he
      refine lv_iconst (v := (0 : Int32)) hx hb dX11_isSort_18 rfl ?_
      cases he
      exact g_zret E hM hret hlk (Or.inl rfl) dX11_isSort_19
    · rw [if_pos (Int32.not_le.mp h3)] at he
      refine lv_iconst (v := (1 : Int32)) hx hb dX11_isSort_14 rfl ?_
      refine lv_goto (tgt := 19) hx hb dX11_isSort_15 (by decide) ?_
      cases he
      exact g_zret E hM hret hlk (Or.inr rfl) dX11_isSort_19

set_option maxHeartbeats 4000000 in
set_option maxRecDepth 100000 in
theorem c11_isDeed (l : Launch) (D : va_G) (aC : Nat → ClassId) (B : Nat) {F : Nat} {a1 : Int32} {mem : g_M} {q0 : Int32} (he : f11_isDeed F a1 mem = some q0) : g_Met l yX11_isDeed cX11_isDeed 2 (some .boolean) 1 D aC B yM 44 mem [.ref (B + 0), .int a1] (some (.int q0)) mem := by
  refine g_ofW (by decide) (Nat.le_of_ble_eq_true rfl) ?_
  intro p e s m args below meth c ls E hml hret hlk hM hl
  have E : g_C p s m args c cX11_isDeed RX11 D aC (g_Zs (g_A B 44)) := E
  have hx := E.1
  have hb := E.2.1
  have hown := E.2.2.1
  have hts := E.2.2.2.1
  have hl : lv_has ls 2 [(0, .ref (B + 0)), (1, .int a1)] := hl
  unfold f11_isDeed at he
  refine lv_iload_n hx hb dX11_isDeed_0 rfl (lv_at hl 1 rfl) ?_
  refine lv_if_lt (tgt := 18) hx hb dX11_isDeed_1 (by decide) (fun h1 => ?_) (fun h1 => ?_)
  · rw [if_neg (Int32.not_le.mpr h1)] at he
    refine lv_iconst (v := (0 : Int32)) hx hb dX11_isDeed_18 rfl ?_
    cases he
    exact g_zret E hM hret hlk (Or.inl rfl) dX11_isDeed_19
  · rw [if_pos (Int32.not_lt.mp h1)] at he
    refine lv_iload_n hx hb dX11_isDeed_4 rfl (lv_at hl 1 rfl) ?_
    refine lv_aload_n hx hb dX11_isDeed_5 rfl (lv_at hl 0 rfl) ?_
    refine g_getP E hM (o := 0) (Nat.le_of_ble_eq_true rfl) rfl fl_X11_13 (q := 2) rfl dX11_isDeed_6 ?_
    refine lv_iconst (v := (2 : Int32)) hx hb dX11_isDeed_9 rfl ?_
    obtain ⟨h2, he⟩ := g_ck_some he
    refine g_iald E hM (o := 2) (Nat.le_of_ble_eq_true rfl) rfl h2 dX11_isDeed_10 ?_
    refine lv_icmp_ge (tgt := 18) hx hb dX11_isDeed_11 (by decide) (fun h3 => ?_) (fun h3 => ?_)
    · rw [if_neg (Int32.not_lt.mpr h3)] at he
      refine lv_iconst (v := (0 : Int32)) hx hb dX11_isDeed_18 rfl ?_
      cases he
      exact g_zret E hM hret hlk (Or.inl rfl) dX11_isDeed_19
    · rw [if_pos (Int32.not_le.mp h3)] at he
      refine lv_iconst (v := (1 : Int32)) hx hb dX11_isDeed_14 rfl ?_
      refine lv_goto (tgt := 19) hx hb dX11_isDeed_15 (by decide) ?_
      cases he
      exact g_zret E hM hret hlk (Or.inr rfl) dX11_isDeed_19

set_option maxHeartbeats 4000000 in
set_option maxRecDepth 100000 in
theorem c11_isSending (l : Launch) (D : va_G) (aC : Nat → ClassId) (B : Nat) {F : Nat} {a1 : Int32} {mem : g_M} {q0 : Int32} (he : f11_isSending F a1 mem = some q0) : g_Met l yX11_isSending cX11_isSending 2 (some .boolean) 1 D aC B yM 44 mem [.ref (B + 0), .int a1] (some (.int q0)) mem := by
  refine g_ofW (by decide) (Nat.le_of_ble_eq_true rfl) ?_
  intro p e s m args below meth c ls E hml hret hlk hM hl
  have E : g_C p s m args c cX11_isSending RX11 D aC (g_Zs (g_A B 44)) := E
  have hx := E.1
  have hb := E.2.1
  have hown := E.2.2.1
  have hts := E.2.2.2.1
  have hl : lv_has ls 2 [(0, .ref (B + 0)), (1, .int a1)] := hl
  unfold f11_isSending at he
  refine lv_iload_n hx hb dX11_isSending_0 rfl (lv_at hl 1 rfl) ?_
  refine lv_if_lt (tgt := 18) hx hb dX11_isSending_1 (by decide) (fun h1 => ?_) (fun h1 => ?_)
  · rw [if_neg (Int32.not_le.mpr h1)] at he
    refine lv_iconst (v := (0 : Int32)) hx hb dX11_isSending_18 rfl ?_
    cases he
    exact g_zret E hM hret hlk (Or.inl rfl) dX11_isSending_19
  · rw [if_pos (Int32.not_lt.mp h1)] at he
    refine lv_iload_n hx hb dX11_isSending_4 rfl (lv_at hl 1 rfl) ?_
    refine lv_aload_n hx hb dX11_isSending_5 rfl (lv_at hl 0 rfl) ?_
    refine g_getP E hM (o := 0) (Nat.le_of_ble_eq_true rfl) rfl fl_X11_93 (q := 27) rfl dX11_isSending_6 ?_
    refine lv_iconst (v := (0 : Int32)) hx hb dX11_isSending_9 rfl ?_
    obtain ⟨h2, he⟩ := g_ck_some he
    refine g_iald E hM (o := 27) (Nat.le_of_ble_eq_true rfl) rfl h2 dX11_isSending_10 ?_
    refine lv_icmp_ge (tgt := 18) hx hb dX11_isSending_11 (by decide) (fun h3 => ?_) (fun h3 => ?_)
    · rw [if_neg (Int32.not_lt.mpr h3)] at he
      refine lv_iconst (v := (0 : Int32)) hx hb dX11_isSending_18 rfl ?_
      cases he
      exact g_zret E hM hret hlk (Or.inl rfl) dX11_isSending_19
    · rw [if_pos (Int32.not_le.mp h3)] at he
      refine lv_iconst (v := (1 : Int32)) hx hb dX11_isSending_14 rfl ?_
      refine lv_goto (tgt := 19) hx hb dX11_isSending_15 (by decide) ?_
      cases he
      exact g_zret E hM hret hlk (Or.inr rfl) dX11_isSending_19

set_option maxHeartbeats 4000000 in
set_option maxRecDepth 100000 in
theorem w11_isPort_b9 (E : g_C p s m args c cX11_isPort RX11 D aC (g_Zs (g_A B 44))) (hml : c.maxLocals = 1) (hret : meth.sig.returnType = (some .boolean)) (hlk : meth.locks = false) {F : Nat} {q0 : Int32} {a0 : Int32} {mem : g_M} : ∀ (H : Heap) (locs : List Loc) (ls : Array Slot), g_At D aC B yM 44 mem s.heap H locs → lv_has ls 1 [] → f11_isPort_b9 F a0 mem = some q0 → W p l e (g_rm 1) s m args below meth c H locs 0 0 (g_MQ below D aC B yM 44 args s (some (.int q0)) mem) (F0 m 9 ls []) := by
  intro H locs ls hM hl he
  unfold f11_isPort_b9 at he
  have hx := E.1
  have hb := E.2.1
  have hown := E.2.2.1
  have hts := E.2.2.2.1
  refine lv_iconst (v := (1 : Int32)) hx hb dX11_isPort_9 rfl ?_
  refine lv_goto (tgt := 14) hx hb dX11_isPort_10 (by decide) ?_
  cases he
  exact g_zret E hM hret hlk (Or.inr rfl) dX11_isPort_14

set_option maxHeartbeats 4000000 in
set_option maxRecDepth 100000 in
theorem c11_isPort (l : Launch) (D : va_G) (aC : Nat → ClassId) (B : Nat) {F : Nat} {a0 : Int32} {mem : g_M} {q0 : Int32} (he : f11_isPort F a0 mem = some q0) : g_Met l yX11_isPort cX11_isPort 1 (some .boolean) 1 D aC B yM 44 mem [.int a0] (some (.int q0)) mem := by
  refine g_ofW (by decide) (Nat.le_of_ble_eq_true rfl) ?_
  intro p e s m args below meth c ls E hml hret hlk hM hl
  have E : g_C p s m args c cX11_isPort RX11 D aC (g_Zs (g_A B 44)) := E
  have hx := E.1
  have hb := E.2.1
  have hown := E.2.2.1
  have hts := E.2.2.2.1
  have hl : lv_has ls 1 [(0, .int a0)] := hl
  unfold f11_isPort at he
  refine lv_iload_n hx hb dX11_isPort_0 rfl (lv_at hl 0 rfl) ?_
  refine lv_if_eq (tgt := 9) hx hb dX11_isPort_1 (by decide) (fun h1 => ?_) (fun h1 => ?_)
  · rw [if_pos h1] at he
    exact w11_isPort_b9 (F := F) (a0 := a0) E hml hret hlk _ _ _ hM (lv_sub hl [] rfl) he
  · rw [if_neg h1] at he
    refine lv_iload_n hx hb dX11_isPort_4 rfl (lv_at hl 0 rfl) ?_
    refine lv_iconst (v := (1 : Int32)) hx hb dX11_isPort_5 rfl ?_
    refine lv_icmp_ne (tgt := 13) hx hb dX11_isPort_6 (by decide) (fun h2 => ?_) (fun h2 => ?_)
    · rw [if_neg h2] at he
      refine lv_iconst (v := (0 : Int32)) hx hb dX11_isPort_13 rfl ?_
      cases he
      exact g_zret E hM hret hlk (Or.inl rfl) dX11_isPort_14
    · rw [if_pos h2] at he
      exact w11_isPort_b9 (F := F) (a0 := a0) E hml hret hlk _ _ _ hM (lv_sub hl [] rfl) he

set_option maxHeartbeats 4000000 in
set_option maxRecDepth 100000 in
theorem w11_bitsOf_b4_body (E : g_C p s m args c cX11_bitsOf RX11 D aC (g_Zs (g_A B 44))) (hml : c.maxLocals = 3) (hret : meth.sig.returnType = (some .int)) (hlk : meth.locks = false) {F : Nat} {q0 : Int32} {a0 : Int32} {mem : g_M} {s4 : Int32 → Int32 → Option (Int32)} (hs4 : ∀ (v1 : Int32) (v2 : Int32) (H : Heap) (locs : List Loc) (ls : Array Slot), g_At D aC B yM 44 mem s.heap H locs → lv_has ls 3 [(0, .int a0), (1, .int v1), (2, .int v2)] → s4 v1 v2 = some q0 → W p l e (g_rm 1) s m args below meth c H locs 0 0 (g_MQ below D aC B yM 44 args s (some (.int q0)) mem) (F0 m 4 ls [])) : ∀ (v1 : Int32) (v2 : Int32) (H : Heap) (locs : List Loc) (ls : Array Slot), g_At D aC B yM 44 mem s.heap H locs → lv_has ls 3 [(0, .int a0), (1, .int v1), (2, .int v2)] → f11_bitsOf_b4_body F a0 s4 mem v1 v2 = some q0 → W p l e (g_rm 1) s m args below meth c H locs 0 0 (g_MQ below D aC B yM 44 args s (some (.int q0)) mem) (F0 m 4 ls []) := by
  intro v1 v2 H locs ls hM hl he
  unfold f11_bitsOf_b4_body at he
  have hx := E.1
  have hb := E.2.1
  have hown := E.2.2.1
  have hts := E.2.2.2.1
  refine lv_iload_n hx hb dX11_bitsOf_4 rfl (lv_at hl 2 rfl) ?_
  refine lv_bipush (v := (26 : Int32)) hx hb dX11_bitsOf_5 rfl ?_
  refine lv_icmp_ge (tgt := 24) hx hb dX11_bitsOf_7 (by decide) (fun h1 => ?_) (fun h1 => ?_)
  · rw [if_neg (Int32.not_lt.mpr h1)] at he
    refine lv_iload_n hx hb dX11_bitsOf_24 rfl (lv_at hl 1 rfl) ?_
    cases he
    exact g_iret E hM hret hlk dX11_bitsOf_25
  · rw [if_pos (Int32.not_le.mp h1)] at he
    refine lv_iload_n hx hb dX11_bitsOf_10 rfl (lv_at hl 1 rfl) ?_
    refine lv_iload_n hx hb dX11_bitsOf_11 rfl (lv_at hl 0 rfl) ?_
    refine lv_iload_n hx hb dX11_bitsOf_12 rfl (lv_at hl 2 rfl) ?_
    refine lv_ishr hx hb dX11_bitsOf_13 ?_
    refine lv_iconst (v := (1 : Int32)) hx hb dX11_bitsOf_14 rfl ?_
    refine lv_iand hx hb dX11_bitsOf_15 ?_
    refine lv_iadd hx hb dX11_bitsOf_16 ?_
    obtain ⟨x2, hx2, he⟩ := g_let_ex he
    refine g_topI hx2 ?_
    refine lv_istore_n (lv' := [(1, .int x2), (0, .int a0), (2, .int v2)]) hx hb dX11_bitsOf_17 rfl hl (by decide) rfl (fun ls hl => ?_)
    obtain ⟨x3, hx3, he⟩ := g_let_ex he
    refine lv_iinc (v := x3) (lv' := [(2, .int x3), (1, .int x2), (0, .int a0)]) hx hb dX11_bitsOf_18 hl (k := 2) rfl (by rw [hx3]; rfl) (by decide) rfl (fun ls hl => ?_)
    refine lv_goto (tgt := 4) hx hb dX11_bitsOf_21 (by decide) ?_
    exact hs4 _ _ _ _ _ hM (lv_sub hl [2, 1, 0] rfl) he

set_option maxHeartbeats 4000000 in
set_option maxRecDepth 100000 in
theorem w11_bitsOf_b4 (E : g_C p s m args c cX11_bitsOf RX11 D aC (g_Zs (g_A B 44))) (hml : c.maxLocals = 3) (hret : meth.sig.returnType = (some .int)) (hlk : meth.locks = false) {F : Nat} {q0 : Int32} {a0 : Int32} {mem : g_M} : ∀ (v1 : Int32) (v2 : Int32) (H : Heap) (locs : List Loc) (ls : Array Slot), g_At D aC B yM 44 mem s.heap H locs → lv_has ls 3 [(0, .int a0), (1, .int v1), (2, .int v2)] → f11_bitsOf_b4 F a0 mem v1 v2 = some q0 → W p l e (g_rm 1) s m args below meth c H locs 0 0 (g_MQ below D aC B yM 44 args s (some (.int q0)) mem) (F0 m 4 ls []) := by
  have key : ∀ (nn : Nat) (x : Int32 × Int32) (H : Heap) (locs : List Loc) (ls : Array Slot), g_At D aC B yM 44 mem s.heap H locs → lv_has ls 3 [(0, .int a0), (1, .int x.1), (2, .int x.2)] → g_fix (fun sf x => f11_bitsOf_b4_body F a0 (fun v1 v2 => sf (v1, v2)) mem x.1 x.2) nn x = some q0 → W p l e (g_rm 1) s m args below meth c H locs 0 0 (g_MQ below D aC B yM 44 args s (some (.int q0)) mem) (F0 m 4 ls []) := by
    intro nn
    induction nn with
    | zero => intro x H locs ls hM hl he; simp [g_fix] at he
    | succ nn ih =>
      intro x H locs ls hM hl he
      exact w11_bitsOf_b4_body (F := F) (a0 := a0) E hml hret hlk (fun v1 v2 H locs ls hM hl he => ih (v1, v2) H locs ls hM hl he) x.1 x.2 H locs ls hM hl he
  intro v1 v2 H locs ls hM hl he
  exact key F (v1, v2) H locs ls hM hl he

set_option maxHeartbeats 4000000 in
set_option maxRecDepth 100000 in
theorem c11_bitsOf (l : Launch) (D : va_G) (aC : Nat → ClassId) (B : Nat) {F : Nat} {a0 : Int32} {mem : g_M} {q0 : Int32} (he : f11_bitsOf F a0 mem = some q0) : g_Met l yX11_bitsOf cX11_bitsOf 3 (some .int) 1 D aC B yM 44 mem [.int a0] (some (.int q0)) mem := by
  refine g_ofW (by decide) (Nat.le_of_ble_eq_true rfl) ?_
  intro p e s m args below meth c ls E hml hret hlk hM hl
  have E : g_C p s m args c cX11_bitsOf RX11 D aC (g_Zs (g_A B 44)) := E
  have hx := E.1
  have hb := E.2.1
  have hown := E.2.2.1
  have hts := E.2.2.2.1
  have hl : lv_has ls 3 [(0, .int a0)] := hl
  unfold f11_bitsOf at he
  refine lv_iconst (v := (0 : Int32)) hx hb dX11_bitsOf_0 rfl ?_
  refine lv_istore_n (lv' := [(1, .int (0 : Int32)), (0, .int a0)]) hx hb dX11_bitsOf_1 rfl hl (by decide) rfl (fun ls hl => ?_)
  refine lv_iconst (v := (0 : Int32)) hx hb dX11_bitsOf_2 rfl ?_
  refine lv_istore_n (lv' := [(2, .int (0 : Int32)), (1, .int (0 : Int32)), (0, .int a0)]) hx hb dX11_bitsOf_3 rfl hl (by decide) rfl (fun ls hl => ?_)
  exact w11_bitsOf_b4 (F := F) (a0 := a0) E hml hret hlk _ _ _ _ _ hM (lv_sub hl [2, 1, 0] rfl) he

set_option maxHeartbeats 4000000 in
set_option maxRecDepth 100000 in
theorem w11_awayOf_b5_body (E : g_C p s m args c cX11_awayOf RX11 D aC (g_Zs (g_A B 44))) (hml : c.maxLocals = 5) (hret : meth.sig.returnType = (some .int)) (hlk : meth.locks = false) {F : Nat} {q0 : Int32} {a1 : Int32} {a2 : Int32} {mem : g_M} {s5 : Int32 → Int32 → Option (Int32)} (hs5 : ∀ (v3 : Int32) (v4 : Int32) (H : Heap) (locs : List Loc) (ls : Array Slot), g_At D aC B yM 44 mem s.heap H locs → lv_has ls 5 [(0, .ref (B + 0)), (1, .int a1), (2, .int a2), (3, .int v3), (4, .int v4)] → s5 v3 v4 = some q0 → W p l e (g_rm 1) s m args below meth c H locs 0 0 (g_MQ below D aC B yM 44 args s (some (.int q0)) mem) (F0 m 5 ls [])) : ∀ (v3 : Int32) (v4 : Int32) (H : Heap) (locs : List Loc) (ls : Array Slot), g_At D aC B yM 44 mem s.heap H locs → lv_has ls 5 [(0, .ref (B + 0)), (1, .int a1), (2, .int a2), (3, .int v3), (4, .int v4)] → f11_awayOf_b5_body F a1 a2 s5 mem v3 v4 = some q0 → W p l e (g_rm 1) s m args below meth c H locs 0 0 (g_MQ below D aC B yM 44 args s (some (.int q0)) mem) (F0 m 5 ls []) := by
  intro v3 v4 H locs ls hM hl he
  unfold f11_awayOf_b5_body at he
  have hx := E.1
  have hb := E.2.1
  have hown := E.2.2.1
  have hts := E.2.2.2.1
  refine lv_iload hx hb dX11_awayOf_5 (lv_at hl 4 rfl) ?_
  refine lv_aload_n hx hb dX11_awayOf_7 rfl (lv_at hl 0 rfl) ?_
  refine g_getP E hM (o := 0) (Nat.le_of_ble_eq_true rfl) rfl fl_X11_13 (q := 2) rfl dX11_awayOf_8 ?_
  refine lv_iconst (v := (1 : Int32)) hx hb dX11_awayOf_11 rfl ?_
  obtain ⟨h1, he⟩ := g_ck_some he
  refine g_iald E hM (o := 2) (Nat.le_of_ble_eq_true rfl) rfl h1 dX11_awayOf_12 ?_
  refine lv_icmp_ge (tgt := 41) hx hb dX11_awayOf_13 (by decide) (fun h2 => ?_) (fun h2 => ?_)
  · rw [if_neg (Int32.not_lt.mpr h2)] at he
    refine lv_iload_n hx hb dX11_awayOf_41 rfl (lv_at hl 3 rfl) ?_
    cases he
    exact g_iret E hM hret hlk dX11_awayOf_42
  · rw [if_pos (Int32.not_le.mp h2)] at he
    refine lv_iload_n hx hb dX11_awayOf_16 rfl (lv_at hl 3 rfl) ?_
    refine lv_aload_n hx hb dX11_awayOf_17 rfl (lv_at hl 0 rfl) ?_
    refine g_getP E hM (o := 0) (Nat.le_of_ble_eq_true rfl) rfl fl_X11_102 (q := 30) rfl dX11_awayOf_18 ?_
    refine lv_bipush (v := (25 : Int32)) hx hb dX11_awayOf_21 rfl ?_
    refine lv_iload_n hx hb dX11_awayOf_23 rfl (lv_at hl 1 rfl) ?_
    refine lv_imul hx hb dX11_awayOf_24 ?_
    refine lv_iconst (v := (5 : Int32)) hx hb dX11_awayOf_25 rfl ?_
    refine lv_iload_n hx hb dX11_awayOf_26 rfl (lv_at hl 2 rfl) ?_
    refine lv_imul hx hb dX11_awayOf_27 ?_
    refine lv_iadd hx hb dX11_awayOf_28 ?_
    refine lv_iload hx hb dX11_awayOf_29 (lv_at hl 4 rfl) ?_
    refine lv_iadd hx hb dX11_awayOf_31 ?_
    obtain ⟨h3, he⟩ := g_ck_some he
    refine g_iald E hM (o := 30) (Nat.le_of_ble_eq_true rfl) rfl h3 dX11_awayOf_32 ?_
    refine lv_iadd hx hb dX11_awayOf_33 ?_
    obtain ⟨x4, hx4, he⟩ := g_let_ex he
    refine g_topI hx4 ?_
    refine lv_istore_n (lv' := [(3, .int x4), (0, .ref (B + 0)), (1, .int a1), (2, .int a2), (4, .int v4)]) hx hb dX11_awayOf_34 rfl hl (by decide) rfl (fun ls hl => ?_)
    obtain ⟨x5, hx5, he⟩ := g_let_ex he
    refine lv_iinc (v := x5) (lv' := [(4, .int x5), (3, .int x4), (0, .ref (B + 0)), (1, .int a1), (2, .int a2)]) hx hb dX11_awayOf_35 hl (k := 4) rfl (by rw [hx5]; rfl) (by decide) rfl (fun ls hl => ?_)
    refine lv_goto (tgt := 5) hx hb dX11_awayOf_38 (by decide) ?_
    exact hs5 _ _ _ _ _ hM (lv_sub hl [2, 3, 4, 1, 0] rfl) he

set_option maxHeartbeats 4000000 in
set_option maxRecDepth 100000 in
theorem w11_awayOf_b5 (E : g_C p s m args c cX11_awayOf RX11 D aC (g_Zs (g_A B 44))) (hml : c.maxLocals = 5) (hret : meth.sig.returnType = (some .int)) (hlk : meth.locks = false) {F : Nat} {q0 : Int32} {a1 : Int32} {a2 : Int32} {mem : g_M} : ∀ (v3 : Int32) (v4 : Int32) (H : Heap) (locs : List Loc) (ls : Array Slot), g_At D aC B yM 44 mem s.heap H locs → lv_has ls 5 [(0, .ref (B + 0)), (1, .int a1), (2, .int a2), (3, .int v3), (4, .int v4)] → f11_awayOf_b5 F a1 a2 mem v3 v4 = some q0 → W p l e (g_rm 1) s m args below meth c H locs 0 0 (g_MQ below D aC B yM 44 args s (some (.int q0)) mem) (F0 m 5 ls []) := by
  have key : ∀ (nn : Nat) (x : Int32 × Int32) (H : Heap) (locs : List Loc) (ls : Array Slot), g_At D aC B yM 44 mem s.heap H locs → lv_has ls 5 [(0, .ref (B + 0)), (1, .int a1), (2, .int a2), (3, .int x.1), (4, .int x.2)] → g_fix (fun sf x => f11_awayOf_b5_body F a1 a2 (fun v3 v4 => sf (v3, v4)) mem x.1 x.2) nn x = some q0 → W p l e (g_rm 1) s m args below meth c H locs 0 0 (g_MQ below D aC B yM 44 args s (some (.int q0)) mem) (F0 m 5 ls []) := by
    intro nn
    induction nn with
    | zero => intro x H locs ls hM hl he; simp [g_fix] at he
    | succ nn ih =>
      intro x H locs ls hM hl he
      exact w11_awayOf_b5_body (F := F) (a1 := a1) (a2 := a2) E hml hret hlk (fun v3 v4 H locs ls hM hl he => ih (v3, v4) H locs ls hM hl he) x.1 x.2 H locs ls hM hl he
  intro v3 v4 H locs ls hM hl he
  exact key F (v3, v4) H locs ls hM hl he

set_option maxHeartbeats 4000000 in
set_option maxRecDepth 100000 in
theorem c11_awayOf (l : Launch) (D : va_G) (aC : Nat → ClassId) (B : Nat) {F : Nat} {a1 : Int32} {a2 : Int32} {mem : g_M} {q0 : Int32} (he : f11_awayOf F a1 a2 mem = some q0) : g_Met l yX11_awayOf cX11_awayOf 5 (some .int) 1 D aC B yM 44 mem [.ref (B + 0), .int a1, .int a2] (some (.int q0)) mem := by
  refine g_ofW (by decide) (Nat.le_of_ble_eq_true rfl) ?_
  intro p e s m args below meth c ls E hml hret hlk hM hl
  have E : g_C p s m args c cX11_awayOf RX11 D aC (g_Zs (g_A B 44)) := E
  have hx := E.1
  have hb := E.2.1
  have hown := E.2.2.1
  have hts := E.2.2.2.1
  have hl : lv_has ls 5 [(0, .ref (B + 0)), (1, .int a1), (2, .int a2)] := hl
  unfold f11_awayOf at he
  refine lv_iconst (v := (0 : Int32)) hx hb dX11_awayOf_0 rfl ?_
  refine lv_istore_n (lv' := [(3, .int (0 : Int32)), (0, .ref (B + 0)), (1, .int a1), (2, .int a2)]) hx hb dX11_awayOf_1 rfl hl (by decide) rfl (fun ls hl => ?_)
  refine lv_iconst (v := (0 : Int32)) hx hb dX11_awayOf_2 rfl ?_
  refine lv_istore (lv' := [(4, .int (0 : Int32)), (3, .int (0 : Int32)), (0, .ref (B + 0)), (1, .int a1), (2, .int a2)]) hx hb dX11_awayOf_3 hl (by decide) rfl (fun ls hl => ?_)
  exact w11_awayOf_b5 (F := F) (a1 := a1) (a2 := a2) E hml hret hlk _ _ _ _ _ hM (lv_sub hl [2, 3, 4, 1, 0] rfl) he

set_option maxHeartbeats 4000000 in
set_option maxRecDepth 100000 in
theorem w11_boardOf_b4_body (E : g_C p s m args c cX11_boardOf RX11 D aC (g_Zs (g_A B 44))) (hml : c.maxLocals = 4) (hret : meth.sig.returnType = (some .int)) (hlk : meth.locks = false) {F : Nat} {q0 : Int32} {a1 : Int32} {mem : g_M} {s4 : Int32 → Int32 → Option (Int32)} (hs4 : ∀ (v2 : Int32) (v3 : Int32) (H : Heap) (locs : List Loc) (ls : Array Slot), g_At D aC B yM 44 mem s.heap H locs → lv_has ls 4 [(0, .ref (B + 0)), (1, .int a1), (2, .int v2), (3, .int v3)] → s4 v2 v3 = some q0 → W p l e (g_rm 1) s m args below meth c H locs 0 0 (g_MQ below D aC B yM 44 args s (some (.int q0)) mem) (F0 m 4 ls [])) : ∀ (v2 : Int32) (v3 : Int32) (H : Heap) (locs : List Loc) (ls : Array Slot), g_At D aC B yM 44 mem s.heap H locs → lv_has ls 4 [(0, .ref (B + 0)), (1, .int a1), (2, .int v2), (3, .int v3)] → f11_boardOf_b4_body F a1 s4 mem v2 v3 = some q0 → W p l e (g_rm 1) s m args below meth c H locs 0 0 (g_MQ below D aC B yM 44 args s (some (.int q0)) mem) (F0 m 4 ls []) := by
  intro v2 v3 H locs ls hM hl he
  unfold f11_boardOf_b4_body at he
  have hx := E.1
  have hb := E.2.1
  have hown := E.2.2.1
  have hts := E.2.2.2.1
  refine lv_iload_n hx hb dX11_boardOf_4 rfl (lv_at hl 3 rfl) ?_
  refine lv_aload_n hx hb dX11_boardOf_5 rfl (lv_at hl 0 rfl) ?_
  refine g_getP E hM (o := 0) (Nat.le_of_ble_eq_true rfl) rfl fl_X11_13 (q := 2) rfl dX11_boardOf_6 ?_
  refine lv_iconst (v := (0 : Int32)) hx hb dX11_boardOf_9 rfl ?_
  obtain ⟨h1, he⟩ := g_ck_some he
  refine g_iald E hM (o := 2) (Nat.le_of_ble_eq_true rfl) rfl h1 dX11_boardOf_10 ?_
  refine lv_icmp_ge (tgt := 35) hx hb dX11_boardOf_11 (by decide) (fun h2 => ?_) (fun h2 => ?_)
  · rw [if_neg (Int32.not_lt.mpr h2)] at he
    refine lv_iload_n hx hb dX11_boardOf_35 rfl (lv_at hl 2 rfl) ?_
    cases he
    exact g_iret E hM hret hlk dX11_boardOf_36
  · rw [if_pos (Int32.not_le.mp h2)] at he
    refine lv_iload_n hx hb dX11_boardOf_14 rfl (lv_at hl 2 rfl) ?_
    refine lv_aload_n hx hb dX11_boardOf_15 rfl (lv_at hl 0 rfl) ?_
    refine g_getI E hM (o := 0) (Nat.le_of_ble_eq_true rfl) rfl fl_X11_346 dX11_boardOf_16 ?_
    refine lv_iconst (v := (5 : Int32)) hx hb dX11_boardOf_19 rfl ?_
    refine lv_iload_n hx hb dX11_boardOf_20 rfl (lv_at hl 3 rfl) ?_
    refine lv_imul hx hb dX11_boardOf_21 ?_
    refine lv_iload_n hx hb dX11_boardOf_22 rfl (lv_at hl 1 rfl) ?_
    refine lv_iadd hx hb dX11_boardOf_23 ?_
    refine lv_ishr hx hb dX11_boardOf_24 ?_
    refine lv_iconst (v := (1 : Int32)) hx hb dX11_boardOf_25 rfl ?_
    refine lv_iand hx hb dX11_boardOf_26 ?_
    refine lv_iadd hx hb dX11_boardOf_27 ?_
    obtain ⟨x3, hx3, he⟩ := g_let_ex he
    refine g_topI hx3 ?_
    refine lv_istore_n (lv' := [(2, .int x3), (0, .ref (B + 0)), (1, .int a1), (3, .int v3)]) hx hb dX11_boardOf_28 rfl hl (by decide) rfl (fun ls hl => ?_)
    obtain ⟨x4, hx4, he⟩ := g_let_ex he
    refine lv_iinc (v := x4) (lv' := [(3, .int x4), (2, .int x3), (0, .ref (B + 0)), (1, .int a1)]) hx hb dX11_boardOf_29 hl (k := 3) rfl (by rw [hx4]; rfl) (by decide) rfl (fun ls hl => ?_)
    refine lv_goto (tgt := 4) hx hb dX11_boardOf_32 (by decide) ?_
    exact hs4 _ _ _ _ _ hM (lv_sub hl [2, 3, 1, 0] rfl) he

set_option maxHeartbeats 4000000 in
set_option maxRecDepth 100000 in
theorem w11_boardOf_b4 (E : g_C p s m args c cX11_boardOf RX11 D aC (g_Zs (g_A B 44))) (hml : c.maxLocals = 4) (hret : meth.sig.returnType = (some .int)) (hlk : meth.locks = false) {F : Nat} {q0 : Int32} {a1 : Int32} {mem : g_M} : ∀ (v2 : Int32) (v3 : Int32) (H : Heap) (locs : List Loc) (ls : Array Slot), g_At D aC B yM 44 mem s.heap H locs → lv_has ls 4 [(0, .ref (B + 0)), (1, .int a1), (2, .int v2), (3, .int v3)] → f11_boardOf_b4 F a1 mem v2 v3 = some q0 → W p l e (g_rm 1) s m args below meth c H locs 0 0 (g_MQ below D aC B yM 44 args s (some (.int q0)) mem) (F0 m 4 ls []) := by
  have key : ∀ (nn : Nat) (x : Int32 × Int32) (H : Heap) (locs : List Loc) (ls : Array Slot), g_At D aC B yM 44 mem s.heap H locs → lv_has ls 4 [(0, .ref (B + 0)), (1, .int a1), (2, .int x.1), (3, .int x.2)] → g_fix (fun sf x => f11_boardOf_b4_body F a1 (fun v2 v3 => sf (v2, v3)) mem x.1 x.2) nn x = some q0 → W p l e (g_rm 1) s m args below meth c H locs 0 0 (g_MQ below D aC B yM 44 args s (some (.int q0)) mem) (F0 m 4 ls []) := by
    intro nn
    induction nn with
    | zero => intro x H locs ls hM hl he; simp [g_fix] at he
    | succ nn ih =>
      intro x H locs ls hM hl he
      exact w11_boardOf_b4_body (F := F) (a1 := a1) E hml hret hlk (fun v2 v3 H locs ls hM hl he => ih (v2, v3) H locs ls hM hl he) x.1 x.2 H locs ls hM hl he
  intro v2 v3 H locs ls hM hl he
  exact key F (v2, v3) H locs ls hM hl he

set_option maxHeartbeats 4000000 in
set_option maxRecDepth 100000 in
theorem c11_boardOf (l : Launch) (D : va_G) (aC : Nat → ClassId) (B : Nat) {F : Nat} {a1 : Int32} {mem : g_M} {q0 : Int32} (he : f11_boardOf F a1 mem = some q0) : g_Met l yX11_boardOf cX11_boardOf 4 (some .int) 1 D aC B yM 44 mem [.ref (B + 0), .int a1] (some (.int q0)) mem := by
  refine g_ofW (by decide) (Nat.le_of_ble_eq_true rfl) ?_
  intro p e s m args below meth c ls E hml hret hlk hM hl
  have E : g_C p s m args c cX11_boardOf RX11 D aC (g_Zs (g_A B 44)) := E
  have hx := E.1
  have hb := E.2.1
  have hown := E.2.2.1
  have hts := E.2.2.2.1
  have hl : lv_has ls 4 [(0, .ref (B + 0)), (1, .int a1)] := hl
  unfold f11_boardOf at he
  refine lv_iconst (v := (0 : Int32)) hx hb dX11_boardOf_0 rfl ?_
  refine lv_istore_n (lv' := [(2, .int (0 : Int32)), (0, .ref (B + 0)), (1, .int a1)]) hx hb dX11_boardOf_1 rfl hl (by decide) rfl (fun ls hl => ?_)
  refine lv_iconst (v := (0 : Int32)) hx hb dX11_boardOf_2 rfl ?_
  refine lv_istore_n (lv' := [(3, .int (0 : Int32)), (2, .int (0 : Int32)), (0, .ref (B + 0)), (1, .int a1)]) hx hb dX11_boardOf_3 rfl hl (by decide) rfl (fun ls hl => ?_)
  exact w11_boardOf_b4 (F := F) (a1 := a1) E hml hret hlk _ _ _ _ _ hM (lv_sub hl [2, 3, 1, 0] rfl) he

set_option maxHeartbeats 4000000 in
set_option maxRecDepth 100000 in
theorem w11_calls_b69 (E : g_C p s m args c cX11_calls RX11 D aC (g_Zs (g_A B 44))) (hml : c.maxLocals = 6) (hret : meth.sig.returnType = none) (hlk : meth.locks = false) {F : Nat} {q0 : g_M} {a1 : Int32} {a2 : Int32} {a3 : Int32} {a4 : Int32} {a5 : Int32} : ∀ (w1 : Int32) (w2 : Int64) (mem : g_M) (H : Heap) (locs : List Loc) (ls : Array Slot), g_At D aC B yM 44 mem s.heap H locs → lv_has ls 6 [(0, .ref (B + 0)), (1, .int a1), (4, .int a4), (5, .int a5)] → f11_calls_b69 F a1 a2 a3 a4 a5 w1 w2 mem = some q0 → W p l e (g_rm 2) s m args below meth c H locs 0 0 (g_MQ below D aC B yM 44 args s none q0) (F0 m 69 ls [.long w2, .int w1, .ref (B + 22)]) := by
  intro w1 w2 mem H locs ls hM hl he
  unfold f11_calls_b69 at he
  have hx := E.1
  have hb := E.2.1
  have hown := E.2.2.1
  have hts := E.2.2.2.1
  obtain ⟨h1, he⟩ := g_ck_some he
  refine g_last E hM (o := 22) (Nat.le_of_ble_eq_true rfl) rfl h1 dX11_calls_69 (fun H locs hM => ?_)
  obtain ⟨m2, hm2, he⟩ := g_let_ex he
  rw [← hm2] at hM
  refine lv_aload_n hx hb dX11_calls_70 rfl (lv_at hl 0 rfl) ?_
  refine g_getP E hM (o := 0) (Nat.le_of_ble_eq_true rfl) rfl fl_X11_77 (q := 22) rfl dX11_calls_71 ?_
  refine lv_iconst (v := (3 : Int32)) hx hb dX11_calls_74 rfl ?_
  refine lv_aload_n hx hb dX11_calls_75 rfl (lv_at hl 0 rfl) ?_
  refine g_getI E hM (o := 0) (Nat.le_of_ble_eq_true rfl) rfl fl_X11_346 dX11_calls_76 ?_
  obtain ⟨r3, hcr3, he⟩ := g_bind he
  refine g_callS [.int (m2.1 0 56)] (rest := [.int (3 : Int32), .ref (B + 22)]) E hml hl.1 hM cs_X11_349 (c11_bitsOf l D aC B hcr3) (by decide) rfl rfl (Nat.le_of_ble_eq_true rfl) dX11_calls_79 (fun H locs hM => ?_)
  refine W.eq (g2 := F0 m 82 ls [.int r3, .int (3 : Int32), .ref (B + 22)]) rfl ?_
  refine lv_i2l hx hb dX11_calls_82 rfl ?_
  obtain ⟨h4, he⟩ := g_ck_some he
  refine g_last E hM (o := 22) (Nat.le_of_ble_eq_true rfl) rfl h4 dX11_calls_83 (fun H locs hM => ?_)
  obtain ⟨m5, hm5, he⟩ := g_let_ex he
  rw [← hm5] at hM
  refine lv_aload_n hx hb dX11_calls_84 rfl (lv_at hl 0 rfl) ?_
  refine g_getP E hM (o := 0) (Nat.le_of_ble_eq_true rfl) rfl fl_X11_77 (q := 22) rfl dX11_calls_85 ?_
  refine lv_iconst (v := (4 : Int32)) hx hb dX11_calls_88 rfl ?_
  refine lv_iload hx hb dX11_calls_89 (lv_at hl 2 rfl) ?_
  refine lv_i2l hx hb dX11_calls_91 rfl ?_
  obtain ⟨h6, he⟩ := g_ck_some he
  refine g_last E hM (o := 22) (Nat.le_of_ble_eq_true rfl) rfl h6 dX11_calls_92 (fun H locs hM => ?_)
  obtain ⟨m7, hm7, he⟩ := g_let_ex he
  rw [← hm7] at hM
  refine lv_aload_n hx hb dX11_calls_93 rfl (lv_at hl 0 rfl) ?_
  refine g_getP E hM (o := 0) (Nat.le_of_ble_eq_true rfl) rfl fl_X11_77 (q := 22) rfl dX11_calls_94 ?_
  refine lv_iconst (v := (5 : Int32)) hx hb dX11_calls_97 rfl ?_
  refine lv_iload hx hb dX11_calls_98 (lv_at hl 3 rfl) ?_
  refine lv_i2l hx hb dX11_calls_100 rfl ?_
  obtain ⟨h8, he⟩ := g_ck_some he
  refine g_last E hM (o := 22) (Nat.le_of_ble_eq_true rfl) rfl h8 dX11_calls_101 (fun H locs hM => ?_)
  obtain ⟨m9, hm9, he⟩ := g_let_ex he
  rw [← hm9] at hM
  refine lv_aload_n hx hb dX11_calls_102 rfl (lv_at hl 0 rfl) ?_
  refine g_getP E hM (o := 0) (Nat.le_of_ble_eq_true rfl) rfl fl_X11_77 (q := 22) rfl dX11_calls_103 ?_
  refine lv_bipush (v := (6 : Int32)) hx hb dX11_calls_106 rfl ?_
  refine lv_aload_n hx hb dX11_calls_108 rfl (lv_at hl 0 rfl) ?_
  refine g_getP E hM (o := 0) (Nat.le_of_ble_eq_true rfl) rfl fl_X11_84 (q := 24) rfl dX11_calls_109 ?_
  refine lv_iload_n hx hb dX11_calls_112 rfl (lv_at hl 1 rfl) ?_
  obtain ⟨h10, he⟩ := g_ck_some he
  refine g_iald E hM (o := 24) (Nat.le_of_ble_eq_true rfl) rfl h10 dX11_calls_113 ?_
  refine lv_i2l hx hb dX11_calls_114 rfl ?_
  obtain ⟨h11, he⟩ := g_ck_some he
  refine g_last E hM (o := 22) (Nat.le_of_ble_eq_true rfl) rfl h11 dX11_calls_115 (fun H locs hM => ?_)
  obtain ⟨m12, hm12, he⟩ := g_let_ex he
  rw [← hm12] at hM
  cases he
  exact g_vret E hM hret hlk dX11_calls_116

set_option maxHeartbeats 4000000 in
set_option maxRecDepth 100000 in
theorem w11_calls_b43 (E : g_C p s m args c cX11_calls RX11 D aC (g_Zs (g_A B 44))) (hml : c.maxLocals = 6) (hret : meth.sig.returnType = none) (hlk : meth.locks = false) {F : Nat} {q0 : g_M} {a1 : Int32} {a2 : Int32} {a3 : Int32} {a4 : Int32} {a5 : Int32} : ∀ (w1 : Int32) (w2 : Int64) (mem : g_M) (H : Heap) (locs : List Loc) (ls : Array Slot), g_At D aC B yM 44 mem s.heap H locs → lv_has ls 6 [(0, .ref (B + 0)), (1, .int a1), (2, .int a2), (4, .int a4), (5, .int a5)] → f11_calls_b43 F a1 a2 a3 a4 a5 w1 w2 mem = some q0 → W p l e (g_rm 2) s m args below meth c H locs 0 0 (g_MQ below D aC B yM 44 args s none q0) (F0 m 43 ls [.long w2, .int w1, .ref (B + 22)]) := by
  intro w1 w2 mem H locs ls hM hl he
  unfold f11_calls_b43 at he
  have hx := E.1
  have hb := E.2.1
  have hown := E.2.2.1
  have hts := E.2.2.2.1
  obtain ⟨h13, he⟩ := g_ck_some he
  refine g_last E hM (o := 22) (Nat.le_of_ble_eq_true rfl) rfl h13 dX11_calls_43 (fun H locs hM => ?_)
  obtain ⟨m14, hm14, he⟩ := g_let_ex he
  rw [← hm14] at hM
  refine lv_aload_n hx hb dX11_calls_44 rfl (lv_at hl 0 rfl) ?_
  refine g_getP E hM (o := 0) (Nat.le_of_ble_eq_true rfl) rfl fl_X11_77 (q := 22) rfl dX11_calls_45 ?_
  refine lv_iconst (v := (2 : Int32)) hx hb dX11_calls_48 rfl ?_
  refine lv_iload_n hx hb dX11_calls_49 rfl (lv_at hl 2 rfl) ?_
  refine lv_iconst (v := (-1 : Int32)) hx hb dX11_calls_50 rfl ?_
  refine lv_icmp_ne (tgt := 58) hx hb dX11_calls_51 (by decide) (fun h15 => ?_) (fun h15 => ?_)
  · rw [if_neg h15] at he
    refine lv_aload_n hx hb dX11_calls_58 rfl (lv_at hl 0 rfl) ?_
    refine g_getP E hM (o := 0) (Nat.le_of_ble_eq_true rfl) rfl fl_X11_96 (q := 28) rfl dX11_calls_59 ?_
    refine lv_iconst (v := (5 : Int32)) hx hb dX11_calls_62 rfl ?_
    refine lv_iload_n hx hb dX11_calls_63 rfl (lv_at hl 1 rfl) ?_
    refine lv_imul hx hb dX11_calls_64 ?_
    refine lv_iload_n hx hb dX11_calls_65 rfl (lv_at hl 2 rfl) ?_
    refine lv_iadd hx hb dX11_calls_66 ?_
    obtain ⟨h16, he⟩ := g_ck_some he
    refine g_iald E hM (o := 28) (Nat.le_of_ble_eq_true rfl) rfl h16 dX11_calls_67 ?_
    refine lv_i2l hx hb dX11_calls_68 rfl ?_
    exact w11_calls_b69 (F := F) (a1 := a1) (a2 := a2) (a3 := a3) (a4 := a4) (a5 := a5) E hml hret hlk _ _ _ _ _ _ hM (lv_sub hl [0, 1, 3, 4] rfl) he
  · rw [if_pos h15] at he
    refine lv_lconst (v := (0 : Int64)) hx hb dX11_calls_54 rfl ?_
    refine lv_goto (tgt := 69) hx hb dX11_calls_55 (by decide) ?_
    exact w11_calls_b69 (F := F) (a1 := a1) (a2 := a2) (a3 := a3) (a4 := a4) (a5 := a5) E hml hret hlk _ _ _ _ _ _ hM (lv_sub hl [0, 1, 3, 4] rfl) he

set_option maxHeartbeats 4000000 in
set_option maxRecDepth 100000 in
theorem w11_calls_b21 (E : g_C p s m args c cX11_calls RX11 D aC (g_Zs (g_A B 44))) (hml : c.maxLocals = 6) (hret : meth.sig.returnType = none) (hlk : meth.locks = false) {F : Nat} {q0 : g_M} {a1 : Int32} {a2 : Int32} {a3 : Int32} {a4 : Int32} {a5 : Int32} : ∀ (w1 : Int32) (w2 : Int64) (mem : g_M) (H : Heap) (locs : List Loc) (ls : Array Slot), g_At D aC B yM 44 mem s.heap H locs → lv_has ls 6 [(0, .ref (B + 0)), (1, .int a1), (2, .int a2), (3, .int a3), (4, .int a4), (5, .int a5)] → f11_calls_b21 F a1 a2 a3 a4 a5 w1 w2 mem = some q0 → W p l e (g_rm 2) s m args below meth c H locs 0 0 (g_MQ below D aC B yM 44 args s none q0) (F0 m 21 ls [.long w2, .int w1, .ref (B + 22)]) := by
  intro w1 w2 mem H locs ls hM hl he
  unfold f11_calls_b21 at he
  have hx := E.1
  have hb := E.2.1
  have hown := E.2.2.1
  have hts := E.2.2.2.1
  obtain ⟨h17, he⟩ := g_ck_some he
  refine g_last E hM (o := 22) (Nat.le_of_ble_eq_true rfl) rfl h17 dX11_calls_21 (fun H locs hM => ?_)
  obtain ⟨m18, hm18, he⟩ := g_let_ex he
  rw [← hm18] at hM
  refine lv_aload_n hx hb dX11_calls_22 rfl (lv_at hl 0 rfl) ?_
  refine g_getP E hM (o := 0) (Nat.le_of_ble_eq_true rfl) rfl fl_X11_77 (q := 22) rfl dX11_calls_23 ?_
  refine lv_iconst (v := (1 : Int32)) hx hb dX11_calls_26 rfl ?_
  refine lv_iload_n hx hb dX11_calls_27 rfl (lv_at hl 3 rfl) ?_
  refine lv_iconst (v := (-1 : Int32)) hx hb dX11_calls_28 rfl ?_
  refine lv_icmp_ne (tgt := 36) hx hb dX11_calls_29 (by decide) (fun h19 => ?_) (fun h19 => ?_)
  · rw [if_neg h19] at he
    refine lv_aload_n hx hb dX11_calls_36 rfl (lv_at hl 0 rfl) ?_
    refine g_getP E hM (o := 0) (Nat.le_of_ble_eq_true rfl) rfl fl_X11_28 (q := 7) rfl dX11_calls_37 ?_
    refine lv_iload_n hx hb dX11_calls_40 rfl (lv_at hl 3 rfl) ?_
    obtain ⟨h20, he⟩ := g_ck_some he
    refine g_iald E hM (o := 7) (Nat.le_of_ble_eq_true rfl) rfl h20 dX11_calls_41 ?_
    refine lv_i2l hx hb dX11_calls_42 rfl ?_
    exact w11_calls_b43 (F := F) (a1 := a1) (a2 := a2) (a3 := a3) (a4 := a4) (a5 := a5) E hml hret hlk _ _ _ _ _ _ hM (lv_sub hl [0, 1, 2, 4, 5] rfl) he
  · rw [if_pos h19] at he
    refine lv_lconst (v := (0 : Int64)) hx hb dX11_calls_32 rfl ?_
    refine lv_goto (tgt := 43) hx hb dX11_calls_33 (by decide) ?_
    exact w11_calls_b43 (F := F) (a1 := a1) (a2 := a2) (a3 := a3) (a4 := a4) (a5 := a5) E hml hret hlk _ _ _ _ _ _ hM (lv_sub hl [0, 1, 2, 4, 5] rfl) he

set_option maxHeartbeats 4000000 in
set_option maxRecDepth 100000 in
theorem c11_calls (l : Launch) (D : va_G) (aC : Nat → ClassId) (B : Nat) {F : Nat} {a1 : Int32} {a2 : Int32} {a3 : Int32} {a4 : Int32} {a5 : Int32} {mem : g_M} {q0 : g_M} (he : f11_calls F a1 a2 a3 a4 a5 mem = some q0) : g_Met l yX11_calls cX11_calls 6 none 2 D aC B yM 44 mem [.ref (B + 0), .int a1, .int a2, .int a3, .int a4, .int a5] none q0 := by
  refine g_ofW (by decide) (Nat.le_of_ble_eq_true rfl) ?_
  intro p e s m args below meth c ls E hml hret hlk hM hl
  have E : g_C p s m args c cX11_calls RX11 D aC (g_Zs (g_A B 44)) := E
  have hx := E.1
  have hb := E.2.1
  have hown := E.2.2.1
  have hts := E.2.2.2.1
  have hl : lv_has ls 6 [(0, .ref (B + 0)), (1, .int a1), (2, .int a2), (3, .int a3), (4, .int a4), (5, .int a5)] := hl
  unfold f11_calls at he
  refine lv_aload_n hx hb dX11_calls_0 rfl (lv_at hl 0 rfl) ?_
  refine g_getP E hM (o := 0) (Nat.le_of_ble_eq_true rfl) rfl fl_X11_77 (q := 22) rfl dX11_calls_1 ?_
  refine lv_iconst (v := (0 : Int32)) hx hb dX11_calls_4 rfl ?_
  refine lv_iload_n hx hb dX11_calls_5 rfl (lv_at hl 3 rfl) ?_
  refine lv_iconst (v := (-1 : Int32)) hx hb dX11_calls_6 rfl ?_
  refine lv_icmp_ne (tgt := 14) hx hb dX11_calls_7 (by decide) (fun h21 => ?_) (fun h21 => ?_)
  · rw [if_neg h21] at he
    refine lv_aload_n hx hb dX11_calls_14 rfl (lv_at hl 0 rfl) ?_
    refine g_getP E hM (o := 0) (Nat.le_of_ble_eq_true rfl) rfl fl_X11_25 (q := 6) rfl dX11_calls_15 ?_
    refine lv_iload_n hx hb dX11_calls_18 rfl (lv_at hl 3 rfl) ?_
    obtain ⟨h22, he⟩ := g_ck_some he
    refine g_iald E hM (o := 6) (Nat.le_of_ble_eq_true rfl) rfl h22 dX11_calls_19 ?_
    refine lv_i2l hx hb dX11_calls_20 rfl ?_
    exact w11_calls_b21 (F := F) (a1 := a1) (a2 := a2) (a3 := a3) (a4 := a4) (a5 := a5) E hml hret hlk _ _ _ _ _ _ hM (lv_sub hl [0, 1, 2, 3, 4, 5] rfl) he
  · rw [if_pos h21] at he
    refine lv_lconst (v := (0 : Int64)) hx hb dX11_calls_10 rfl ?_
    refine lv_goto (tgt := 21) hx hb dX11_calls_11 (by decide) ?_
    exact w11_calls_b21 (F := F) (a1 := a1) (a2 := a2) (a3 := a3) (a4 := a4) (a5 := a5) E hml hret hlk _ _ _ _ _ _ hM (lv_sub hl [0, 1, 2, 3, 4, 5] rfl) he

set_option maxHeartbeats 4000000 in
set_option maxRecDepth 100000 in
theorem c11_within (l : Launch) (D : va_G) (aC : Nat → ClassId) (B : Nat) {F : Nat} {a1 : Int32} {a2 : Int32} {a3 : Int32} {mem : g_M} {q0 : Int32 × g_M} (he : f11_within F a1 a2 a3 mem = some q0) : g_Met l yX11_within cX11_within 4 (some .int) 4 D aC B yM 44 mem [.ref (B + 0), .int a1, .int a2, .int a3] (some (.int q0.1)) q0.2 := by
  refine g_ofW (by decide) (Nat.le_of_ble_eq_true rfl) ?_
  intro p e s m args below meth c ls E hml hret hlk hM hl
  have E : g_C p s m args c cX11_within RX11 D aC (g_Zs (g_A B 44)) := E
  have hx := E.1
  have hb := E.2.1
  have hown := E.2.2.1
  have hts := E.2.2.2.1
  have hl : lv_has ls 4 [(0, .ref (B + 0)), (1, .int a1), (2, .int a2), (3, .int a3)] := hl
  unfold f11_within at he
  refine lv_aload_n hx hb dX11_within_0 rfl (lv_at hl 0 rfl) ?_
  refine lv_iload_n hx hb dX11_within_1 rfl (lv_at hl 1 rfl) ?_
  obtain ⟨r1, hcr1, he⟩ := g_bind he
  refine g_callV [.int a1] (rest := []) E hml hl.1 hM cv_X11_352 (c11_hasLaw l D aC B hcr1) (o := 0) (Nat.le_of_ble_eq_true rfl) rfl (by decide) rfl rfl (Nat.le_of_ble_eq_true rfl) dX11_within_2 (fun H locs hM => ?_)
  refine W.eq (g2 := F0 m 5 ls [.int r1]) rfl ?_
  refine lv_if_eq (tgt := 16) hx hb dX11_within_5 (by decide) (fun h2 => ?_) (fun h2 => ?_)
  · rw [if_pos h2] at he
    refine lv_iload_n hx hb dX11_within_16 rfl (lv_at hl 3 rfl) ?_
    cases he
    exact g_iret E hM hret hlk dX11_within_17
  · rw [if_neg h2] at he
    refine lv_aload_n hx hb dX11_within_8 rfl (lv_at hl 0 rfl) ?_
    refine lv_iload_n hx hb dX11_within_9 rfl (lv_at hl 1 rfl) ?_
    obtain ⟨r3, hcr3, he⟩ := g_bind he
    refine g_callV [.int a1] (rest := []) E hml hl.1 hM cv_X11_355 (c11_goes l D aC B hcr3) (o := 0) (Nat.le_of_ble_eq_true rfl) rfl (by decide) rfl rfl (Nat.le_of_ble_eq_true rfl) dX11_within_10 (fun H locs hM => ?_)
    refine W.eq (g2 := F0 m 13 ls [.int r3.1]) rfl ?_
    refine lv_if_ne (tgt := 18) hx hb dX11_within_13 (by decide) (fun h4 => ?_) (fun h4 => ?_)
    · rw [if_neg h4] at he
      refine lv_lconst (v := (0 : Int64)) hx hb dX11_within_18 rfl ?_
      refine lv_iload_n hx hb dX11_within_19 rfl (lv_at hl 2 rfl) ?_
      refine lv_i2l hx hb dX11_within_20 rfl ?_
      refine lv_aload_n hx hb dX11_within_21 rfl (lv_at hl 0 rfl) ?_
      refine g_getP E hM (o := 0) (Nat.le_of_ble_eq_true rfl) rfl fl_X11_81 (q := 23) rfl dX11_within_22 ?_
      refine lv_iconst (v := (0 : Int32)) hx hb dX11_within_25 rfl ?_
      obtain ⟨h5, he⟩ := g_ck_some he
      refine g_lald E hM (o := 23) (Nat.le_of_ble_eq_true rfl) rfl h5 dX11_within_26 ?_
      refine va_mmin_long hx hb (hml.trans hl.1.symm) hown (hts _ mm_X11_358) (hts _ km_minL.1) (hts _ ki_Math) (hts _ km_minL.2) (Nat.le_of_ble_eq_true rfl) (Nat.le_of_ble_eq_true rfl) (Nat.zero_le _) (Nat.zero_le _) dX11_within_27 ?_
      refine va_mmax_long hx hb (hml.trans hl.1.symm) hown (hts _ mm_X11_362) (hts _ km_maxL.1) (hts _ ki_Math) (hts _ km_maxL.2) (Nat.le_of_ble_eq_true rfl) (Nat.le_of_ble_eq_true rfl) (Nat.zero_le _) (Nat.zero_le _) dX11_within_30 ?_
      refine lv_l2i hx hb dX11_within_33 rfl ?_
      cases he
      exact g_iret E hM hret hlk dX11_within_34
    · rw [if_pos h4] at he
      refine lv_iload_n hx hb dX11_within_16 rfl (lv_at hl 3 rfl) ?_
      cases he
      exact g_iret E hM hret hlk dX11_within_17

set_option maxHeartbeats 4000000 in
set_option maxRecDepth 100000 in
theorem w11_canDo_b52 (E : g_C p s m args c cX11_canDo RX11 D aC (g_Zs (g_A B 44))) (hml : c.maxLocals = 6) (hret : meth.sig.returnType = (some .boolean)) (hlk : meth.locks = false) {F : Nat} {q0 : Int32} {a1 : Int32} {a2 : Int32} {a3 : Int32} {a4 : Int32} {mem : g_M} {s3 : Int32 → Option (Int32)} (hs3 : ∀ (v5 : Int32) (H : Heap) (locs : List Loc) (ls : Array Slot), g_At D aC B yM 44 mem s.heap H locs → lv_has ls 6 [(0, .ref (B + 0)), (1, .int a1), (2, .int a2), (3, .int a3), (4, .int a4), (5, .int v5)] → s3 v5 = some q0 → W p l e (g_rm 1) s m args below meth c H locs 0 0 (g_MQ below D aC B yM 44 args s (some (.int q0)) mem) (F0 m 3 ls [])) : ∀ (v5 : Int32) (H : Heap) (locs : List Loc) (ls : Array Slot), g_At D aC B yM 44 mem s.heap H locs → lv_has ls 6 [(0, .ref (B + 0)), (1, .int a1), (2, .int a2), (3, .int a3), (4, .int a4), (5, .int v5)] → f11_canDo_b52 F a1 a2 a3 a4 s3 mem v5 = some q0 → W p l e (g_rm 1) s m args below meth c H locs 0 0 (g_MQ below D aC B yM 44 args s (some (.int q0)) mem) (F0 m 52 ls []) := by
  intro v5 H locs ls hM hl he
  unfold f11_canDo_b52 at he
  have hx := E.1
  have hb := E.2.1
  have hown := E.2.2.1
  have hts := E.2.2.2.1
  obtain ⟨x1, hx1, he⟩ := g_let_ex he
  refine lv_iinc (v := x1) (lv' := [(5, .int x1), (0, .ref (B + 0)), (1, .int a1), (2, .int a2), (3, .int a3), (4, .int a4)]) hx hb dX11_canDo_52 hl (k := 5) rfl (by rw [hx1]; rfl) (by decide) rfl (fun ls hl => ?_)
  refine lv_goto (tgt := 3) hx hb dX11_canDo_55 (by decide) ?_
  exact hs3 _ _ _ _ hM (lv_sub hl [1, 2, 3, 4, 5, 0] rfl) he

set_option maxHeartbeats 4000000 in
set_option maxRecDepth 100000 in
theorem w11_canDo_b3_body (E : g_C p s m args c cX11_canDo RX11 D aC (g_Zs (g_A B 44))) (hml : c.maxLocals = 6) (hret : meth.sig.returnType = (some .boolean)) (hlk : meth.locks = false) {F : Nat} {q0 : Int32} {a1 : Int32} {a2 : Int32} {a3 : Int32} {a4 : Int32} {mem : g_M} {s3 : Int32 → Option (Int32)} (hs3 : ∀ (v5 : Int32) (H : Heap) (locs : List Loc) (ls : Array Slot), g_At D aC B yM 44 mem s.heap H locs → lv_has ls 6 [(0, .ref (B + 0)), (1, .int a1), (2, .int a2), (3, .int a3), (4, .int a4), (5, .int v5)] → s3 v5 = some q0 → W p l e (g_rm 1) s m args below meth c H locs 0 0 (g_MQ below D aC B yM 44 args s (some (.int q0)) mem) (F0 m 3 ls [])) : ∀ (v5 : Int32) (H : Heap) (locs : List Loc) (ls : Array Slot), g_At D aC B yM 44 mem s.heap H locs → lv_has ls 6 [(0, .ref (B + 0)), (1, .int a1), (2, .int a2), (3, .int a3), (4, .int a4), (5, .int v5)] → f11_canDo_b3_body F a1 a2 a3 a4 s3 mem v5 = some q0 → W p l e (g_rm 1) s m args below meth c H locs 0 0 (g_MQ below D aC B yM 44 args s (some (.int q0)) mem) (F0 m 3 ls []) := by
  intro v5 H locs ls hM hl he
  unfold f11_canDo_b3_body at he
  have hx := E.1
  have hb := E.2.1
  have hown := E.2.2.1
  have hts := E.2.2.2.1
  refine lv_iload hx hb dX11_canDo_3 (lv_at hl 5 rfl) ?_
  refine lv_aload_n hx hb dX11_canDo_5 rfl (lv_at hl 0 rfl) ?_
  refine g_getP E hM (o := 0) (Nat.le_of_ble_eq_true rfl) rfl fl_X11_13 (q := 2) rfl dX11_canDo_6 ?_
  refine lv_iconst (v := (1 : Int32)) hx hb dX11_canDo_9 rfl ?_
  obtain ⟨h2, he⟩ := g_ck_some he
  refine g_iald E hM (o := 2) (Nat.le_of_ble_eq_true rfl) rfl h2 dX11_canDo_10 ?_
  refine lv_icmp_ge (tgt := 58) hx hb dX11_canDo_11 (by decide) (fun h3 => ?_) (fun h3 => ?_)
  · rw [if_neg (Int32.not_lt.mpr h3)] at he
    refine lv_iconst (v := (1 : Int32)) hx hb dX11_canDo_58 rfl ?_
    cases he
    exact g_zret E hM hret hlk (Or.inr rfl) dX11_canDo_59
  · rw [if_pos (Int32.not_le.mp h3)] at he
    refine lv_aload_n hx hb dX11_canDo_14 rfl (lv_at hl 0 rfl) ?_
    refine g_getP E hM (o := 0) (Nat.le_of_ble_eq_true rfl) rfl fl_X11_34 (q := 9) rfl dX11_canDo_15 ?_
    refine lv_iload_n hx hb dX11_canDo_18 rfl (lv_at hl 3 rfl) ?_
    obtain ⟨h4, he⟩ := g_ck_some he
    refine g_iald E hM (o := 9) (Nat.le_of_ble_eq_true rfl) rfl h4 dX11_canDo_19 ?_
    refine lv_iload hx hb dX11_canDo_20 (lv_at hl 5 rfl) ?_
    refine lv_ishr hx hb dX11_canDo_22 ?_
    refine lv_iconst (v := (1 : Int32)) hx hb dX11_canDo_23 rfl ?_
    refine lv_iand hx hb dX11_canDo_24 ?_
    refine lv_iconst (v := (1 : Int32)) hx hb dX11_canDo_25 rfl ?_
    refine lv_icmp_ne (tgt := 52) hx hb dX11_canDo_26 (by decide) (fun h5 => ?_) (fun h5 => ?_)
    · rw [if_neg h5] at he
      exact w11_canDo_b52 (F := F) (a1 := a1) (a2 := a2) (a3 := a3) (a4 := a4) E hml hret hlk hs3 _ _ _ _ hM (lv_sub hl [0, 1, 2, 3, 4, 5] rfl) he
    · rw [if_pos h5] at he
      refine lv_aload_n hx hb dX11_canDo_29 rfl (lv_at hl 0 rfl) ?_
      refine g_getP E hM (o := 0) (Nat.le_of_ble_eq_true rfl) rfl fl_X11_102 (q := 30) rfl dX11_canDo_30 ?_
      refine lv_bipush (v := (25 : Int32)) hx hb dX11_canDo_33 rfl ?_
      refine lv_iload_n hx hb dX11_canDo_35 rfl (lv_at hl 1 rfl) ?_
      refine lv_imul hx hb dX11_canDo_36 ?_
      refine lv_iconst (v := (5 : Int32)) hx hb dX11_canDo_37 rfl ?_
      refine lv_iload_n hx hb dX11_canDo_38 rfl (lv_at hl 2 rfl) ?_
      refine lv_imul hx hb dX11_canDo_39 ?_
      refine lv_iadd hx hb dX11_canDo_40 ?_
      refine lv_iload hx hb dX11_canDo_41 (lv_at hl 5 rfl) ?_
      refine lv_iadd hx hb dX11_canDo_43 ?_
      obtain ⟨h6, he⟩ := g_ck_some he
      refine g_iald E hM (o := 30) (Nat.le_of_ble_eq_true rfl) rfl h6 dX11_canDo_44 ?_
      refine lv_iload hx hb dX11_canDo_45 (lv_at hl 4 rfl) ?_
      refine lv_icmp_eq (tgt := 52) hx hb dX11_canDo_47 (by decide) (fun h7 => ?_) (fun h7 => ?_)
      · rw [if_pos h7] at he
        exact w11_canDo_b52 (F := F) (a1 := a1) (a2 := a2) (a3 := a3) (a4 := a4) E hml hret hlk hs3 _ _ _ _ hM (lv_sub hl [0, 1, 2, 3, 4, 5] rfl) he
      · rw [if_neg h7] at he
        refine lv_iconst (v := (0 : Int32)) hx hb dX11_canDo_50 rfl ?_
        cases he
        exact g_zret E hM hret hlk (Or.inl rfl) dX11_canDo_51

set_option maxHeartbeats 4000000 in
set_option maxRecDepth 100000 in
theorem w11_canDo_b3 (E : g_C p s m args c cX11_canDo RX11 D aC (g_Zs (g_A B 44))) (hml : c.maxLocals = 6) (hret : meth.sig.returnType = (some .boolean)) (hlk : meth.locks = false) {F : Nat} {q0 : Int32} {a1 : Int32} {a2 : Int32} {a3 : Int32} {a4 : Int32} {mem : g_M} : ∀ (v5 : Int32) (H : Heap) (locs : List Loc) (ls : Array Slot), g_At D aC B yM 44 mem s.heap H locs → lv_has ls 6 [(0, .ref (B + 0)), (1, .int a1), (2, .int a2), (3, .int a3), (4, .int a4), (5, .int v5)] → f11_canDo_b3 F a1 a2 a3 a4 mem v5 = some q0 → W p l e (g_rm 1) s m args below meth c H locs 0 0 (g_MQ below D aC B yM 44 args s (some (.int q0)) mem) (F0 m 3 ls []) := by
  have key : ∀ (nn : Nat) (x : Int32) (H : Heap) (locs : List Loc) (ls : Array Slot), g_At D aC B yM 44 mem s.heap H locs → lv_has ls 6 [(0, .ref (B + 0)), (1, .int a1), (2, .int a2), (3, .int a3), (4, .int a4), (5, .int x)] → g_fix (fun sf x => f11_canDo_b3_body F a1 a2 a3 a4 (fun v5 => sf v5) mem x) nn x = some q0 → W p l e (g_rm 1) s m args below meth c H locs 0 0 (g_MQ below D aC B yM 44 args s (some (.int q0)) mem) (F0 m 3 ls []) := by
    intro nn
    induction nn with
    | zero => intro x H locs ls hM hl he; simp [g_fix] at he
    | succ nn ih =>
      intro x H locs ls hM hl he
      exact w11_canDo_b3_body (F := F) (a1 := a1) (a2 := a2) (a3 := a3) (a4 := a4) E hml hret hlk (fun v5 H locs ls hM hl he => ih v5 H locs ls hM hl he) x H locs ls hM hl he
  intro v5 H locs ls hM hl he
  exact key F v5 H locs ls hM hl he

set_option maxHeartbeats 4000000 in
set_option maxRecDepth 100000 in
theorem c11_canDo (l : Launch) (D : va_G) (aC : Nat → ClassId) (B : Nat) {F : Nat} {a1 : Int32} {a2 : Int32} {a3 : Int32} {a4 : Int32} {mem : g_M} {q0 : Int32} (he : f11_canDo F a1 a2 a3 a4 mem = some q0) : g_Met l yX11_canDo cX11_canDo 6 (some .boolean) 1 D aC B yM 44 mem [.ref (B + 0), .int a1, .int a2, .int a3, .int a4] (some (.int q0)) mem := by
  refine g_ofW (by decide) (Nat.le_of_ble_eq_true rfl) ?_
  intro p e s m args below meth c ls E hml hret hlk hM hl
  have E : g_C p s m args c cX11_canDo RX11 D aC (g_Zs (g_A B 44)) := E
  have hx := E.1
  have hb := E.2.1
  have hown := E.2.2.1
  have hts := E.2.2.2.1
  have hl : lv_has ls 6 [(0, .ref (B + 0)), (1, .int a1), (2, .int a2), (3, .int a3), (4, .int a4)] := hl
  unfold f11_canDo at he
  refine lv_iconst (v := (0 : Int32)) hx hb dX11_canDo_0 rfl ?_
  refine lv_istore (lv' := [(5, .int (0 : Int32)), (0, .ref (B + 0)), (1, .int a1), (2, .int a2), (3, .int a3), (4, .int a4)]) hx hb dX11_canDo_1 hl (by decide) rfl (fun ls hl => ?_)
  exact w11_canDo_b3 (F := F) (a1 := a1) (a2 := a2) (a3 := a3) (a4 := a4) E hml hret hlk _ _ _ _ hM (lv_sub hl [1, 2, 3, 4, 5, 0] rfl) he

set_option maxHeartbeats 4000000 in
set_option maxRecDepth 100000 in
theorem c11_wants (l : Launch) (D : va_G) (aC : Nat → ClassId) (B : Nat) {F : Nat} {a1 : Int32} {a2 : Int32} {mem : g_M} {q0 : g_M} (he : f11_wants F a1 a2 mem = some q0) : g_Met l yX11_wants cX11_wants 4 none 5 D aC B yM 44 mem [.ref (B + 0), .int a1, .int a2] none q0 := by
  refine g_ofW (by decide) (Nat.le_of_ble_eq_true rfl) ?_
  intro p e s m args below meth c ls E hml hret hlk hM hl
  have E : g_C p s m args c cX11_wants RX11 D aC (g_Zs (g_A B 44)) := E
  have hx := E.1
  have hb := E.2.1
  have hown := E.2.2.1
  have hts := E.2.2.2.1
  have hl : lv_has ls 4 [(0, .ref (B + 0)), (1, .int a1), (2, .int a2)] := hl
  unfold f11_wants at he
  refine lv_aload_n hx hb dX11_wants_0 rfl (lv_at hl 0 rfl) ?_
  refine g_getP E hM (o := 0) (Nat.le_of_ble_eq_true rfl) rfl fl_X11_46 (q := 13) rfl dX11_wants_1 ?_
  refine lv_iload_n hx hb dX11_wants_4 rfl (lv_at hl 2 rfl) ?_
  obtain ⟨h1, he⟩ := g_ck_some he
  refine g_iald E hM (o := 13) (Nat.le_of_ble_eq_true rfl) rfl h1 dX11_wants_5 ?_
  obtain ⟨x2, hx2, he⟩ := g_let_ex he
  refine g_topI hx2 ?_
  refine lv_istore_n (lv' := [(3, .int x2), (0, .ref (B + 0)), (1, .int a1), (2, .int a2)]) hx hb dX11_wants_6 rfl hl (by decide) rfl (fun ls hl => ?_)
  refine lv_aload_n hx hb dX11_wants_7 rfl (lv_at hl 1 rfl) ?_
  refine lv_iload_n hx hb dX11_wants_8 rfl (lv_at hl 2 rfl) ?_
  refine lv_iload_n hx hb dX11_wants_9 rfl (lv_at hl 0 rfl) ?_
  refine lv_aload_n hx hb dX11_wants_10 rfl (lv_at hl 1 rfl) ?_
  refine g_getP E hM (o := 0) (Nat.le_of_ble_eq_true rfl) rfl fl_X11_49 (q := 14) rfl dX11_wants_11 ?_
  refine lv_iload_n hx hb dX11_wants_14 rfl (lv_at hl 3 rfl) ?_
  obtain ⟨h3, he⟩ := g_ck_some he
  refine g_iald E hM (o := 14) (Nat.le_of_ble_eq_true rfl) rfl h3 dX11_wants_15 ?_
  refine lv_aload_n hx hb dX11_wants_16 rfl (lv_at hl 1 rfl) ?_
  refine g_getP E hM (o := 0) (Nat.le_of_ble_eq_true rfl) rfl fl_X11_52 (q := 15) rfl dX11_wants_17 ?_
  refine lv_iload_n hx hb dX11_wants_20 rfl (lv_at hl 3 rfl) ?_
  obtain ⟨h4, he⟩ := g_ck_some he
  refine g_iald E hM (o := 15) (Nat.le_of_ble_eq_true rfl) rfl h4 dX11_wants_21 ?_
  obtain ⟨r5, hcr5, he⟩ := g_bind he
  refine g_callV [.int a1, .int x2, .int (mem.1 14 a2.toNatClampNeg), .int (mem.1 15 a2.toNatClampNeg)] (rest := []) E hml hl.1 hM cv_X11_365 (c11_canDo l D aC B hcr5) (o := 0) (Nat.le_of_ble_eq_true rfl) rfl (by decide) rfl rfl (Nat.le_of_ble_eq_true rfl) dX11_wants_22 (fun H locs hM => ?_)
  refine W.eq (g2 := F0 m 25 ls [.int r5]) rfl ?_
  refine lv_if_ne (tgt := 41) hx hb dX11_wants_25 (by decide) (fun h6 => ?_) (fun h6 => ?_)
  · rw [if_neg h6] at he
    refine lv_aload_n hx hb dX11_wants_41 rfl (lv_at hl 1 rfl) ?_
    refine g_getP E hM (o := 0) (Nat.le_of_ble_eq_true rfl) rfl fl_X11_105 (q := 31) rfl dX11_wants_42 ?_
    refine lv_bipush (v := (8 : Int32)) hx hb dX11_wants_45 rfl ?_
    refine lv_iload_n hx hb dX11_wants_47 rfl (lv_at hl 2 rfl) ?_
    refine lv_imul hx hb dX11_wants_48 ?_
    refine lv_iload_n hx hb dX11_wants_49 rfl (lv_at hl 3 rfl) ?_
    refine lv_iadd hx hb dX11_wants_50 ?_
    refine lv_iconst (v := (1 : Int32)) hx hb dX11_wants_51 rfl ?_
    obtain ⟨h9, he⟩ := g_ck_some he
    refine g_iast E hM (o := 31) (Nat.le_of_ble_eq_true rfl) rfl h9 dX11_wants_52 (fun H locs hM => ?_)
    obtain ⟨m10, hm10, he⟩ := g_let_ex he
    rw [← hm10] at hM
    refine lv_aload_n hx hb dX11_wants_53 rfl (lv_at hl 1 rfl) ?_
    refine lv_iload_n hx hb dX11_wants_54 rfl (lv_at hl 2 rfl) ?_
    refine lv_iload_n hx hb dX11_wants_55 rfl (lv_at hl 0 rfl) ?_
    refine lv_iconst (v := (-1 : Int32)) hx hb dX11_wants_56 rfl ?_
    refine lv_aload_n hx hb dX11_wants_57 rfl (lv_at hl 1 rfl) ?_
    refine lv_iload_n hx hb dX11_wants_58 rfl (lv_at hl 2 rfl) ?_
    refine lv_iload_n hx hb dX11_wants_59 rfl (lv_at hl 0 rfl) ?_
    obtain ⟨r11, hcr11, he⟩ := g_bind he
    refine g_callV [.int a1, .int x2] (rest := [.int (-1 : Int32), .int x2, .int a1, .ref (B + 0)]) E hml hl.1 hM cv_X11_369 (c11_awayOf l D aC B hcr11) (o := 0) (Nat.le_of_ble_eq_true rfl) rfl (by decide) rfl rfl (Nat.le_of_ble_eq_true rfl) dX11_wants_60 (fun H locs hM => ?_)
    refine W.eq (g2 := F0 m 63 ls [.int r11, .int (-1 : Int32), .int x2, .int a1, .ref (B + 0)]) rfl ?_
    refine lv_aload_n hx hb dX11_wants_63 rfl (lv_at hl 1 rfl) ?_
    refine g_getP E hM (o := 0) (Nat.le_of_ble_eq_true rfl) rfl fl_X11_58 (q := 17) rfl dX11_wants_64 ?_
    refine lv_iload_n hx hb dX11_wants_67 rfl (lv_at hl 3 rfl) ?_
    obtain ⟨h12, he⟩ := g_ck_some he
    refine g_iald E hM (o := 17) (Nat.le_of_ble_eq_true rfl) rfl h12 dX11_wants_68 ?_
    obtain ⟨r13, hcr13, he⟩ := g_bind he
    refine g_callV [.int a1, .int x2, .int (-1 : Int32), .int r11, .int (m10.1 17 a2.toNatClampNeg)] (rest := []) E hml hl.1 hM cv_X11_372 (c11_calls l D aC B hcr13) (o := 0) (Nat.le_of_ble_eq_true rfl) rfl (by decide) rfl rfl (Nat.le_of_ble_eq_true rfl) dX11_wants_69 (fun H locs hM => ?_)
    refine W.eq (g2 := F0 m 72 ls []) rfl ?_
    refine lv_aload_n hx hb dX11_wants_72 rfl (lv_at hl 1 rfl) ?_
    refine g_getP E hM (o := 0) (Nat.le_of_ble_eq_true rfl) rfl fl_X11_96 (q := 28) rfl dX11_wants_73 ?_
    refine lv_iconst (v := (5 : Int32)) hx hb dX11_wants_76 rfl ?_
    refine lv_iload_n hx hb dX11_wants_77 rfl (lv_at hl 2 rfl) ?_
    refine lv_imul hx hb dX11_wants_78 ?_
    refine lv_iload_n hx hb dX11_wants_79 rfl (lv_at hl 0 rfl) ?_
    refine lv_iadd hx hb dX11_wants_80 ?_
    refine lv_ldc (v := (99999 : Int32)) hx hb hown (hts _ kc_X11_195) dX11_wants_81 ?_
    refine lv_aload_n hx hb dX11_wants_83 rfl (lv_at hl 1 rfl) ?_
    refine g_getP E hM (o := 0) (Nat.le_of_ble_eq_true rfl) rfl fl_X11_96 (q := 28) rfl dX11_wants_84 ?_
    refine lv_iconst (v := (5 : Int32)) hx hb dX11_wants_87 rfl ?_
    refine lv_iload_n hx hb dX11_wants_88 rfl (lv_at hl 2 rfl) ?_
    refine lv_imul hx hb dX11_wants_89 ?_
    refine lv_iload_n hx hb dX11_wants_90 rfl (lv_at hl 0 rfl) ?_
    refine lv_iadd hx hb dX11_wants_91 ?_
    obtain ⟨h14, he⟩ := g_ck_some he
    refine g_iald E hM (o := 28) (Nat.le_of_ble_eq_true rfl) rfl h14 dX11_wants_92 ?_
    refine lv_aload_n hx hb dX11_wants_93 rfl (lv_at hl 1 rfl) ?_
    refine lv_iconst (v := (1 : Int32)) hx hb dX11_wants_94 rfl ?_
    refine lv_sipush (v := (999 : Int32)) hx hb dX11_wants_95 rfl ?_
    refine lv_aload_n hx hb dX11_wants_98 rfl (lv_at hl 1 rfl) ?_
    refine g_getP E hM (o := 0) (Nat.le_of_ble_eq_true rfl) rfl fl_X11_58 (q := 17) rfl dX11_wants_99 ?_
    refine lv_iload_n hx hb dX11_wants_102 rfl (lv_at hl 3 rfl) ?_
    obtain ⟨h15, he⟩ := g_ck_some he
    refine g_iald E hM (o := 17) (Nat.le_of_ble_eq_true rfl) rfl h15 dX11_wants_103 ?_
    obtain ⟨r16, hcr16, he⟩ := g_bind he
    refine g_callV [.int (1 : Int32), .int (999 : Int32), .int (r13.1 17 a2.toNatClampNeg)] (rest := [.int (r13.1 28 (((5 : Int32) * a1) + x2).toNatClampNeg), .int (99999 : Int32), .int (((5 : Int32) * a1) + x2), .ref (B + 28)]) E hml hl.1 hM cv_X11_376 (c11_within l D aC B hcr16) (o := 0) (Nat.le_of_ble_eq_true rfl) rfl (by decide) rfl rfl (Nat.le_of_ble_eq_true rfl) dX11_wants_104 (fun H locs hM => ?_)
    refine W.eq (g2 := F0 m 107 ls [.int r16.1, .int (r13.1 28 (((5 : Int32) * a1) + x2).toNatClampNeg), .int (99999 : Int32), .int (((5 : Int32) * a1) + x2), .ref (B + 28)]) rfl ?_
    refine lv_iadd hx hb dX11_wants_107 ?_
    refine va_mmin hx hb (hml.trans hl.1.symm) hown (hts _ mm_X11_380) (hts _ km_min.1) (hts _ ki_Math) (hts _ km_min.2) (Nat.le_of_ble_eq_true rfl) (Nat.le_of_ble_eq_true rfl) (Nat.zero_le _) (Nat.zero_le _) dX11_wants_108 ?_
    obtain ⟨h17, he⟩ := g_ck_some he
    refine g_iast E hM (o := 28) (Nat.le_of_ble_eq_true rfl) rfl h17 dX11_wants_111 (fun H locs hM => ?_)
    obtain ⟨m18, hm18, he⟩ := g_let_ex he
    rw [← hm18] at hM
    cases he
    exact g_vret E hM hret hlk dX11_wants_112
  · rw [if_pos h6] at he
    refine lv_aload_n hx hb dX11_wants_28 rfl (lv_at hl 1 rfl) ?_
    refine g_getP E hM (o := 0) (Nat.le_of_ble_eq_true rfl) rfl fl_X11_105 (q := 31) rfl dX11_wants_29 ?_
    refine lv_bipush (v := (8 : Int32)) hx hb dX11_wants_32 rfl ?_
    refine lv_iload_n hx hb dX11_wants_34 rfl (lv_at hl 2 rfl) ?_
    refine lv_imul hx hb dX11_wants_35 ?_
    refine lv_iload_n hx hb dX11_wants_36 rfl (lv_at hl 3 rfl) ?_
    refine lv_iadd hx hb dX11_wants_37 ?_
    refine lv_iconst (v := (2 : Int32)) hx hb dX11_wants_38 rfl ?_
    obtain ⟨h7, he⟩ := g_ck_some he
    refine g_iast E hM (o := 31) (Nat.le_of_ble_eq_true rfl) rfl h7 dX11_wants_39 (fun H locs hM => ?_)
    obtain ⟨m8, hm8, he⟩ := g_let_ex he
    rw [← hm8] at hM
    cases he
    exact g_vret E hM hret hlk dX11_wants_40

set_option maxHeartbeats 4000000 in
set_option maxRecDepth 100000 in
theorem c11_fareOf (l : Launch) (D : va_G) (aC : Nat → ClassId) (B : Nat) {F : Nat} {a1 : Int32} {a2 : Int32} {a3 : Int32} {mem : g_M} {q0 : Int32 × g_M} (he : f11_fareOf F a1 a2 a3 mem = some q0) : g_Met l yX11_fareOf cX11_fareOf 4 (some .int) 5 D aC B yM 44 mem [.ref (B + 0), .int a1, .int a2, .int a3] (some (.int q0.1)) q0.2 := by
  refine g_ofW (by decide) (Nat.le_of_ble_eq_true rfl) ?_
  intro p e s m args below meth c ls E hml hret hlk hM hl
  have E : g_C p s m args c cX11_fareOf RX11 D aC (g_Zs (g_A B 44)) := E
  have hx := E.1
  have hb := E.2.1
  have hown := E.2.2.1
  have hts := E.2.2.2.1
  have hl : lv_has ls 4 [(0, .ref (B + 0)), (1, .int a1), (2, .int a2), (3, .int a3)] := hl
  unfold f11_fareOf at he
  refine lv_aload_n hx hb dX11_fareOf_0 rfl (lv_at hl 0 rfl) ?_
  refine g_getI E hM (o := 0) (Nat.le_of_ble_eq_true rfl) rfl fl_X11_382 dX11_fareOf_1 ?_
  refine lv_iconst (v := (4 : Int32)) hx hb dX11_fareOf_4 rfl ?_
  refine lv_icmp_ne (tgt := 10) hx hb dX11_fareOf_5 (by decide) (fun h1 => ?_) (fun h1 => ?_)
  · rw [if_neg h1] at he
    refine lv_aload_n hx hb dX11_fareOf_10 rfl (lv_at hl 0 rfl) ?_
    refine lv_iload_n hx hb dX11_fareOf_11 rfl (lv_at hl 1 rfl) ?_
    refine lv_iload_n hx hb dX11_fareOf_12 rfl (lv_at hl 2 rfl) ?_
    refine lv_iload_n hx hb dX11_fareOf_13 rfl (lv_at hl 3 rfl) ?_
    refine lv_aload_n hx hb dX11_fareOf_14 rfl (lv_at hl 0 rfl) ?_
    refine lv_iload_n hx hb dX11_fareOf_15 rfl (lv_at hl 1 rfl) ?_
    refine lv_iload_n hx hb dX11_fareOf_16 rfl (lv_at hl 2 rfl) ?_
    obtain ⟨r2, hcr2, he⟩ := g_bind he
    refine g_callV [.int a1, .int a2] (rest := [.int a3, .int a2, .int a1, .ref (B + 0)]) E hml hl.1 hM cv_X11_369 (c11_awayOf l D aC B hcr2) (o := 0) (Nat.le_of_ble_eq_true rfl) rfl (by decide) rfl rfl (Nat.le_of_ble_eq_true rfl) dX11_fareOf_17 (fun H locs hM => ?_)
    refine W.eq (g2 := F0 m 20 ls [.int r2, .int a3, .int a2, .int a1, .ref (B + 0)]) rfl ?_
    refine lv_iconst (v := (0 : Int32)) hx hb dX11_fareOf_20 rfl ?_
    obtain ⟨r3, hcr3, he⟩ := g_bind he
    refine g_callV [.int a1, .int a2, .int a3, .int r2, .int (0 : Int32)] (rest := []) E hml hl.1 hM cv_X11_372 (c11_calls l D aC B hcr3) (o := 0) (Nat.le_of_ble_eq_true rfl) rfl (by decide) rfl rfl (Nat.le_of_ble_eq_true rfl) dX11_fareOf_21 (fun H locs hM => ?_)
    refine W.eq (g2 := F0 m 24 ls []) rfl ?_
    refine lv_aload_n hx hb dX11_fareOf_24 rfl (lv_at hl 0 rfl) ?_
    refine lv_iconst (v := (0 : Int32)) hx hb dX11_fareOf_25 rfl ?_
    refine lv_sipush (v := (999 : Int32)) hx hb dX11_fareOf_26 rfl ?_
    refine lv_aload_n hx hb dX11_fareOf_29 rfl (lv_at hl 0 rfl) ?_
    refine g_getP E hM (o := 0) (Nat.le_of_ble_eq_true rfl) rfl fl_X11_28 (q := 7) rfl dX11_fareOf_30 ?_
    refine lv_iload_n hx hb dX11_fareOf_33 rfl (lv_at hl 3 rfl) ?_
    obtain ⟨h4, he⟩ := g_ck_some he
    refine g_iald E hM (o := 7) (Nat.le_of_ble_eq_true rfl) rfl h4 dX11_fareOf_34 ?_
    obtain ⟨r5, hcr5, he⟩ := g_bind he
    refine g_callV [.int (0 : Int32), .int (999 : Int32), .int (r3.1 7 a3.toNatClampNeg)] (rest := []) E hml hl.1 hM cv_X11_376 (c11_within l D aC B hcr5) (o := 0) (Nat.le_of_ble_eq_true rfl) rfl (by decide) rfl rfl (Nat.le_of_ble_eq_true rfl) dX11_fareOf_35 (fun H locs hM => ?_)
    refine W.eq (g2 := F0 m 38 ls [.int r5.1]) rfl ?_
    cases he
    exact g_iret E hM hret hlk dX11_fareOf_38
  · rw [if_pos h1] at he
    refine lv_iconst (v := (0 : Int32)) hx hb dX11_fareOf_8 rfl ?_
    cases he
    exact g_iret E hM hret hlk dX11_fareOf_9

set_option maxHeartbeats 4000000 in
set_option maxRecDepth 100000 in
theorem c11_isDue (l : Launch) (D : va_G) (aC : Nat → ClassId) (B : Nat) {F : Nat} {a1 : Int32} {a2 : Int32} {mem : g_M} {q0 : Int32} (he : f11_isDue F a1 a2 mem = some q0) : g_Met l yX11_isDue cX11_isDue 3 (some .boolean) 1 D aC B yM 44 mem [.ref (B + 0), .int a1, .int a2] (some (.int q0)) mem := by
  refine g_ofW (by decide) (Nat.le_of_ble_eq_true rfl) ?_
  intro p e s m args below meth c ls E hml hret hlk hM hl
  have E : g_C p s m args c cX11_isDue RX11 D aC (g_Zs (g_A B 44)) := E
  have hx := E.1
  have hb := E.2.1
  have hown := E.2.2.1
  have hts := E.2.2.2.1
  have hl : lv_has ls 3 [(0, .ref (B + 0)), (1, .int a1), (2, .int a2)] := hl
  unfold f11_isDue at he
  refine lv_aload_n hx hb dX11_isDue_0 rfl (lv_at hl 0 rfl) ?_
  refine g_getP E hM (o := 0) (Nat.le_of_ble_eq_true rfl) rfl fl_X11_117 (q := 35) rfl dX11_isDue_1 ?_
  refine lv_bipush (v := (12 : Int32)) hx hb dX11_isDue_4 rfl ?_
  refine lv_iload_n hx hb dX11_isDue_6 rfl (lv_at hl 1 rfl) ?_
  refine lv_imul hx hb dX11_isDue_7 ?_
  refine lv_iload_n hx hb dX11_isDue_8 rfl (lv_at hl 2 rfl) ?_
  refine lv_iadd hx hb dX11_isDue_9 ?_
  obtain ⟨h1, he⟩ := g_ck_some he
  refine g_iald E hM (o := 35) (Nat.le_of_ble_eq_true rfl) rfl h1 dX11_isDue_10 ?_
  refine lv_if_ne (tgt := 38) hx hb dX11_isDue_11 (by decide) (fun h2 => ?_) (fun h2 => ?_)
  · rw [if_neg h2] at he
    refine lv_iconst (v := (0 : Int32)) hx hb dX11_isDue_38 rfl ?_
    cases he
    exact g_zret E hM hret hlk (Or.inl rfl) dX11_isDue_39
  · rw [if_pos h2] at he
    refine lv_aload_n hx hb dX11_isDue_14 rfl (lv_at hl 0 rfl) ?_
    refine g_getP E hM (o := 0) (Nat.le_of_ble_eq_true rfl) rfl fl_X11_114 (q := 34) rfl dX11_isDue_15 ?_
    refine lv_bipush (v := (12 : Int32)) hx hb dX11_isDue_18 rfl ?_
    refine lv_iload_n hx hb dX11_isDue_20 rfl (lv_at hl 1 rfl) ?_
    refine lv_imul hx hb dX11_isDue_21 ?_
    refine lv_iload_n hx hb dX11_isDue_22 rfl (lv_at hl 2 rfl) ?_
    refine lv_iadd hx hb dX11_isDue_23 ?_
    obtain ⟨h3, he⟩ := g_ck_some he
    refine g_iald E hM (o := 34) (Nat.le_of_ble_eq_true rfl) rfl h3 dX11_isDue_24 ?_
    refine lv_aload_n hx hb dX11_isDue_25 rfl (lv_at hl 0 rfl) ?_
    refine g_getP E hM (o := 0) (Nat.le_of_ble_eq_true rfl) rfl fl_X11_84 (q := 24) rfl dX11_isDue_26 ?_
    refine lv_iload_n hx hb dX11_isDue_29 rfl (lv_at hl 1 rfl) ?_
    obtain ⟨h4, he⟩ := g_ck_some he
    refine g_iald E hM (o := 24) (Nat.le_of_ble_eq_true rfl) rfl h4 dX11_isDue_30 ?_
    refine lv_icmp_gt (tgt := 38) hx hb dX11_isDue_31 (by decide) (fun h5 => ?_) (fun h5 => ?_)
    · rw [if_neg (Int32.not_le.mpr h5)] at he
      refine lv_iconst (v := (0 : Int32)) hx hb dX11_isDue_38 rfl ?_
      cases he
      exact g_zret E hM hret hlk (Or.inl rfl) dX11_isDue_39
    · rw [if_pos (Int32.not_lt.mp h5)] at he
      refine lv_iconst (v := (1 : Int32)) hx hb dX11_isDue_34 rfl ?_
      refine lv_goto (tgt := 39) hx hb dX11_isDue_35 (by decide) ?_
      cases he
      exact g_zret E hM hret hlk (Or.inr rfl) dX11_isDue_39

set_option maxHeartbeats 4000000 in
set_option maxRecDepth 100000 in
theorem c11_isAtBoat (l : Launch) (D : va_G) (aC : Nat → ClassId) (B : Nat) {F : Nat} {a1 : Int32} {a2 : Int32} {a3 : Int32} {mem : g_M} {q0 : Int32} (he : f11_isAtBoat F a1 a2 a3 mem = some q0) : g_Met l yX11_isAtBoat cX11_isAtBoat 4 (some .boolean) 1 D aC B yM 44 mem [.ref (B + 0), .int a1, .int a2, .int a3] (some (.int q0)) mem := by
  refine g_ofW (by decide) (Nat.le_of_ble_eq_true rfl) ?_
  intro p e s m args below meth c ls E hml hret hlk hM hl
  have E : g_C p s m args c cX11_isAtBoat RX11 D aC (g_Zs (g_A B 44)) := E
  have hx := E.1
  have hb := E.2.1
  have hown := E.2.2.1
  have hts := E.2.2.2.1
  have hl : lv_has ls 4 [(0, .ref (B + 0)), (1, .int a1), (2, .int a2), (3, .int a3)] := hl
  unfold f11_isAtBoat at he
  refine lv_aload_n hx hb dX11_isAtBoat_0 rfl (lv_at hl 0 rfl) ?_
  refine g_getP E hM (o := 0) (Nat.le_of_ble_eq_true rfl) rfl fl_X11_102 (q := 30) rfl dX11_isAtBoat_1 ?_
  refine lv_bipush (v := (25 : Int32)) hx hb dX11_isAtBoat_4 rfl ?_
  refine lv_iload_n hx hb dX11_isAtBoat_6 rfl (lv_at hl 1 rfl) ?_
  refine lv_imul hx hb dX11_isAtBoat_7 ?_
  refine lv_iconst (v := (5 : Int32)) hx hb dX11_isAtBoat_8 rfl ?_
  refine lv_iload_n hx hb dX11_isAtBoat_9 rfl (lv_at hl 2 rfl) ?_
  refine lv_imul hx hb dX11_isAtBoat_10 ?_
  refine lv_iadd hx hb dX11_isAtBoat_11 ?_
  refine lv_iload_n hx hb dX11_isAtBoat_12 rfl (lv_at hl 3 rfl) ?_
  refine lv_iadd hx hb dX11_isAtBoat_13 ?_
  obtain ⟨h1, he⟩ := g_ck_some he
  refine g_iald E hM (o := 30) (Nat.le_of_ble_eq_true rfl) rfl h1 dX11_isAtBoat_14 ?_
  refine lv_aload_n hx hb dX11_isAtBoat_15 rfl (lv_at hl 0 rfl) ?_
  refine g_getP E hM (o := 0) (Nat.le_of_ble_eq_true rfl) rfl fl_X11_84 (q := 24) rfl dX11_isAtBoat_16 ?_
  refine lv_iload_n hx hb dX11_isAtBoat_19 rfl (lv_at hl 1 rfl) ?_
  obtain ⟨h2, he⟩ := g_ck_some he
  refine g_iald E hM (o := 24) (Nat.le_of_ble_eq_true rfl) rfl h2 dX11_isAtBoat_20 ?_
  refine lv_iconst (v := (2 : Int32)) hx hb dX11_isAtBoat_21 rfl ?_
  refine lv_irem hx hb dX11_isAtBoat_22 (by decide) ?_
  refine lv_icmp_ne (tgt := 30) hx hb dX11_isAtBoat_23 (by decide) (fun h3 => ?_) (fun h3 => ?_)
  · rw [if_neg h3] at he
    refine lv_iconst (v := (0 : Int32)) hx hb dX11_isAtBoat_30 rfl ?_
    cases he
    exact g_zret E hM hret hlk (Or.inl rfl) dX11_isAtBoat_31
  · rw [if_pos h3] at he
    refine lv_iconst (v := (1 : Int32)) hx hb dX11_isAtBoat_26 rfl ?_
    refine lv_goto (tgt := 31) hx hb dX11_isAtBoat_27 (by decide) ?_
    cases he
    exact g_zret E hM hret hlk (Or.inr rfl) dX11_isAtBoat_31

set_option maxHeartbeats 4000000 in
set_option maxRecDepth 100000 in
theorem w11_loads_b229 (E : g_C p s m args c cX11_loads RX11 D aC (g_Zs (g_A B 44))) (hml : c.maxLocals = 7) (hret : meth.sig.returnType = none) (hlk : meth.locks = false) {F : Nat} {q0 : g_M} {a1 : Int32} {s37 : Int32 → Int32 → g_M → Option (g_M)} (hs37 : ∀ (v2 : Int32) (v3 : Int32) (mem : g_M) (H : Heap) (locs : List Loc) (ls : Array Slot), g_At D aC B yM 44 mem s.heap H locs → lv_has ls 7 [(0, .ref (B + 0)), (1, .int a1), (2, .int v2), (3, .int v3)] → s37 v2 v3 mem = some q0 → W p l e (g_rm 6) s m args below meth c H locs 0 0 (g_MQ below D aC B yM 44 args s none q0) (F0 m 37 ls [])) : ∀ (v2 : Int32) (v3 : Int32) (mem : g_M) (H : Heap) (locs : List Loc) (ls : Array Slot), g_At D aC B yM 44 mem s.heap H locs → lv_has ls 7 [(0, .ref (B + 0)), (1, .int a1), (2, .int v2), (3, .int v3)] → f11_loads_b229 F a1 s37 v2 v3 mem = some q0 → W p l e (g_rm 6) s m args below meth c H locs 0 0 (g_MQ below D aC B yM 44 args s none q0) (F0 m 229 ls []) := by
  intro v2 v3 mem H locs ls hM hl he
  unfold f11_loads_b229 at he
  have hx := E.1
  have hb := E.2.1
  have hown := E.2.2.1
  have hts := E.2.2.2.1
  obtain ⟨x1, hx1, he⟩ := g_let_ex he
  refine lv_iinc (v := x1) (lv' := [(3, .int x1), (0, .ref (B + 0)), (1, .int a1), (2, .int v2)]) hx hb dX11_loads_229 hl (k := 3) rfl (by rw [hx1]; rfl) (by decide) rfl (fun ls hl => ?_)
  refine lv_goto (tgt := 37) hx hb dX11_loads_232 (by decide) ?_
  exact hs37 _ _ _ _ _ _ hM (lv_sub hl [1, 2, 3, 0] rfl) he

set_option maxHeartbeats 4000000 in
set_option maxRecDepth 100000 in
theorem w11_loads_b99 (E : g_C p s m args c cX11_loads RX11 D aC (g_Zs (g_A B 44))) (hml : c.maxLocals = 7) (hret : meth.sig.returnType = none) (hlk : meth.locks = false) {F : Nat} {q0 : g_M} {a1 : Int32} {s37 : Int32 → Int32 → g_M → Option (g_M)} (hs37 : ∀ (v2 : Int32) (v3 : Int32) (mem : g_M) (H : Heap) (locs : List Loc) (ls : Array Slot), g_At D aC B yM 44 mem s.heap H locs → lv_has ls 7 [(0, .ref (B + 0)), (1, .int a1), (2, .int v2), (3, .int v3)] → s37 v2 v3 mem = some q0 → W p l e (g_rm 6) s m args below meth c H locs 0 0 (g_MQ below D aC B yM 44 args s none q0) (F0 m 37 ls [])) : ∀ (v2 : Int32) (v3 : Int32) (v4 : Int32) (v5 : Int32) (mem : g_M) (H : Heap) (locs : List Loc) (ls : Array Slot), g_At D aC B yM 44 mem s.heap H locs → lv_has ls 7 [(0, .ref (B + 0)), (1, .int a1), (2, .int v2), (3, .int v3), (4, .int v4), (5, .int v5)] → f11_loads_b99 F a1 s37 v2 v3 v4 v5 mem = some q0 → W p l e (g_rm 6) s m args below meth c H locs 0 0 (g_MQ below D aC B yM 44 args s none q0) (F0 m 99 ls []) := by
  intro v2 v3 v4 v5 mem H locs ls hM hl he
  unfold f11_loads_b99 at he
  have hx := E.1
  have hb := E.2.1
  have hown := E.2.2.1
  have hts := E.2.2.2.1
  refine lv_aload_n hx hb dX11_loads_99 rfl (lv_at hl 0 rfl) ?_
  refine lv_iload_n hx hb dX11_loads_100 rfl (lv_at hl 1 rfl) ?_
  refine lv_iload hx hb dX11_loads_101 (lv_at hl 4 rfl) ?_
  refine lv_iload hx hb dX11_loads_103 (lv_at hl 5 rfl) ?_
  obtain ⟨r2, hcr2, he⟩ := g_bind he
  refine g_callV [.int a1, .int v4, .int v5] (rest := []) E hml hl.1 hM cv_X11_389 (c11_isAtBoat l D aC B hcr2) (o := 0) (Nat.le_of_ble_eq_true rfl) rfl (by decide) rfl rfl (Nat.le_of_ble_eq_true rfl) dX11_loads_105 (fun H locs hM => ?_)
  refine W.eq (g2 := F0 m 108 ls [.int r2]) rfl ?_
  refine lv_if_eq (tgt := 229) hx hb dX11_loads_108 (by decide) (fun h3 => ?_) (fun h3 => ?_)
  · rw [if_pos h3] at he
    exact w11_loads_b229 (F := F) (a1 := a1) E hml hret hlk hs37 _ _ _ _ _ _ hM (lv_sub hl [0, 1, 2, 3] rfl) he
  · rw [if_neg h3] at he
    refine lv_aload_n hx hb dX11_loads_111 rfl (lv_at hl 0 rfl) ?_
    refine g_getI E hM (o := 0) (Nat.le_of_ble_eq_true rfl) rfl fl_X11_346 dX11_loads_112 ?_
    refine lv_iconst (v := (5 : Int32)) hx hb dX11_loads_115 rfl ?_
    refine lv_iload hx hb dX11_loads_116 (lv_at hl 4 rfl) ?_
    refine lv_imul hx hb dX11_loads_118 ?_
    refine lv_iload hx hb dX11_loads_119 (lv_at hl 5 rfl) ?_
    refine lv_iadd hx hb dX11_loads_121 ?_
    refine lv_ishr hx hb dX11_loads_122 ?_
    refine lv_iconst (v := (1 : Int32)) hx hb dX11_loads_123 rfl ?_
    refine lv_iand hx hb dX11_loads_124 ?_
    refine lv_iconst (v := (1 : Int32)) hx hb dX11_loads_125 rfl ?_
    refine lv_icmp_eq (tgt := 229) hx hb dX11_loads_126 (by decide) (fun h4 => ?_) (fun h4 => ?_)
    · rw [if_pos h4] at he
      exact w11_loads_b229 (F := F) (a1 := a1) E hml hret hlk hs37 _ _ _ _ _ _ hM (lv_sub hl [0, 1, 2, 3] rfl) he
    · rw [if_neg h4] at he
      refine lv_aload_n hx hb dX11_loads_129 rfl (lv_at hl 0 rfl) ?_
      refine g_getP E hM (o := 0) (Nat.le_of_ble_eq_true rfl) rfl fl_X11_25 (q := 6) rfl dX11_loads_130 ?_
      refine lv_iload hx hb dX11_loads_133 (lv_at hl 5 rfl) ?_
      obtain ⟨h5, he⟩ := g_ck_some he
      refine g_iald E hM (o := 6) (Nat.le_of_ble_eq_true rfl) rfl h5 dX11_loads_135 ?_
      refine lv_iload_n hx hb dX11_loads_136 rfl (lv_at hl 2 rfl) ?_
      refine lv_icmp_le (tgt := 143) hx hb dX11_loads_137 (by decide) (fun h6 => ?_) (fun h6 => ?_)
      · rw [if_neg (Int32.not_lt.mpr h6)] at he
        refine lv_aload_n hx hb dX11_loads_143 rfl (lv_at hl 0 rfl) ?_
        refine lv_iload_n hx hb dX11_loads_144 rfl (lv_at hl 1 rfl) ?_
        refine lv_iload hx hb dX11_loads_145 (lv_at hl 4 rfl) ?_
        refine lv_iload hx hb dX11_loads_147 (lv_at hl 5 rfl) ?_
        obtain ⟨r7, hcr7, he⟩ := g_bind he
        refine g_callV [.int a1, .int v4, .int v5] (rest := []) E hml hl.1 hM cv_X11_393 (c11_fareOf l D aC B hcr7) (o := 0) (Nat.le_of_ble_eq_true rfl) rfl (by decide) rfl rfl (Nat.le_of_ble_eq_true rfl) dX11_loads_149 (fun H locs hM => ?_)
        refine W.eq (g2 := F0 m 152 ls [.int r7.1]) rfl ?_
        obtain ⟨x8, hx8, he⟩ := g_let_ex he
        refine g_topI hx8 ?_
        refine lv_istore (lv' := [(6, .int x8), (0, .ref (B + 0)), (1, .int a1), (2, .int v2), (3, .int v3), (4, .int v4), (5, .int v5)]) hx hb dX11_loads_152 hl (by decide) rfl (fun ls hl => ?_)
        refine lv_aload_n hx hb dX11_loads_154 rfl (lv_at hl 1 rfl) ?_
        refine g_getP E hM (o := 0) (Nat.le_of_ble_eq_true rfl) rfl fl_X11_96 (q := 28) rfl dX11_loads_155 ?_
        refine lv_iconst (v := (5 : Int32)) hx hb dX11_loads_158 rfl ?_
        refine lv_iload_n hx hb dX11_loads_159 rfl (lv_at hl 2 rfl) ?_
        refine lv_imul hx hb dX11_loads_160 ?_
        refine lv_iload hx hb dX11_loads_161 (lv_at hl 5 rfl) ?_
        refine lv_iadd hx hb dX11_loads_163 ?_
        obtain ⟨h9, he⟩ := g_ck_some he
        refine g_iald E hM (o := 28) (Nat.le_of_ble_eq_true rfl) rfl h9 dX11_loads_164 ?_
        refine lv_iload hx hb dX11_loads_165 (lv_at hl 0 rfl) ?_
        refine lv_icmp_ge (tgt := 173) hx hb dX11_loads_167 (by decide) (fun h10 => ?_) (fun h10 => ?_)
        · rw [if_neg (Int32.not_lt.mpr h10)] at he
          refine lv_aload_n hx hb dX11_loads_173 rfl (lv_at hl 1 rfl) ?_
          refine g_getP E hM (o := 0) (Nat.le_of_ble_eq_true rfl) rfl fl_X11_96 (q := 28) rfl dX11_loads_174 ?_
          refine lv_iconst (v := (5 : Int32)) hx hb dX11_loads_177 rfl ?_
          refine lv_iload_n hx hb dX11_loads_178 rfl (lv_at hl 2 rfl) ?_
          refine lv_imul hx hb dX11_loads_179 ?_
          refine lv_iload hx hb dX11_loads_180 (lv_at hl 5 rfl) ?_
          refine lv_iadd hx hb dX11_loads_182 ?_
          refine lv_dup2_11 hx hb dX11_loads_183 rfl rfl ?_
          obtain ⟨h11, he⟩ := g_ck_some he
          refine g_iald E hM (o := 28) (Nat.le_of_ble_eq_true rfl) rfl h11 dX11_loads_184 ?_
          refine lv_iload hx hb dX11_loads_185 (lv_at hl 0 rfl) ?_
          refine lv_isub hx hb dX11_loads_187 ?_
          obtain ⟨h12, he⟩ := g_ck_some he
          refine g_iast E hM (o := 28) (Nat.le_of_ble_eq_true rfl) rfl h12 dX11_loads_188 (fun H locs hM => ?_)
          obtain ⟨m13, hm13, he⟩ := g_let_ex he
          rw [← hm13] at hM
          refine lv_iload_n hx hb dX11_loads_189 rfl (lv_at hl 3 rfl) ?_
          refine lv_aload_n hx hb dX11_loads_190 rfl (lv_at hl 1 rfl) ?_
          refine g_getP E hM (o := 0) (Nat.le_of_ble_eq_true rfl) rfl fl_X11_25 (q := 6) rfl dX11_loads_191 ?_
          refine lv_iload hx hb dX11_loads_194 (lv_at hl 6 rfl) ?_
          obtain ⟨h14, he⟩ := g_ck_some he
          refine g_iald E hM (o := 6) (Nat.le_of_ble_eq_true rfl) rfl h14 dX11_loads_196 ?_
          refine lv_isub hx hb dX11_loads_197 ?_
          obtain ⟨x15, hx15, he⟩ := g_let_ex he
          refine g_topI hx15 ?_
          refine lv_istore_n (lv' := [(2, .int x15), (6, .int x8), (0, .ref (B + 0)), (1, .int a1), (3, .int v3), (4, .int v4), (5, .int v5)]) hx hb dX11_loads_198 rfl hl (by decide) rfl (fun ls hl => ?_)
          refine lv_aload_n hx hb dX11_loads_199 rfl (lv_at hl 2 rfl) ?_
          refine lv_dup hx hb dX11_loads_200 rfl ?_
          refine g_getI E hM (o := 0) (Nat.le_of_ble_eq_true rfl) rfl fl_X11_346 dX11_loads_201 ?_
          refine lv_iconst (v := (1 : Int32)) hx hb dX11_loads_204 rfl ?_
          refine lv_iconst (v := (5 : Int32)) hx hb dX11_loads_205 rfl ?_
          refine lv_iload hx hb dX11_loads_206 (lv_at hl 5 rfl) ?_
          refine lv_imul hx hb dX11_loads_208 ?_
          refine lv_iload hx hb dX11_loads_209 (lv_at hl 6 rfl) ?_
          refine lv_iadd hx hb dX11_loads_211 ?_
          refine lv_ishl hx hb dX11_loads_212 ?_
          refine lv_ior hx hb dX11_loads_213 ?_
          refine g_putI E hM (o := 0) (Nat.le_of_ble_eq_true rfl) rfl fp_X11_346 dX11_loads_214 (fun H locs hM => ?_)
          obtain ⟨m16, hm16, he⟩ := g_let_ex he
          rw [← hm16] at hM
          refine lv_aload_n hx hb dX11_loads_217 rfl (lv_at hl 2 rfl) ?_
          refine g_getP E hM (o := 0) (Nat.le_of_ble_eq_true rfl) rfl fl_X11_117 (q := 35) rfl dX11_loads_218 ?_
          refine lv_bipush (v := (12 : Int32)) hx hb dX11_loads_221 rfl ?_
          refine lv_iload_n hx hb dX11_loads_223 rfl (lv_at hl 3 rfl) ?_
          refine lv_imul hx hb dX11_loads_224 ?_
          refine lv_iload_n hx hb dX11_loads_225 rfl (lv_at hl 4 rfl) ?_
          refine lv_iadd hx hb dX11_loads_226 ?_
          refine lv_iconst (v := (1 : Int32)) hx hb dX11_loads_227 rfl ?_
          obtain ⟨h17, he⟩ := g_ck_some he
          refine g_iast E hM (o := 35) (Nat.le_of_ble_eq_true rfl) rfl h17 dX11_loads_228 (fun H locs hM => ?_)
          obtain ⟨m18, hm18, he⟩ := g_let_ex he
          rw [← hm18] at hM
          exact w11_loads_b229 (F := F) (a1 := a1) E hml hret hlk hs37 _ _ _ _ _ _ hM (lv_sub hl [2, 3, 0, 4] rfl) he
        · rw [if_pos (Int32.not_le.mp h10)] at he
          refine lv_goto (tgt := 229) hx hb dX11_loads_170 (by decide) ?_
          exact w11_loads_b229 (F := F) (a1 := a1) E hml hret hlk hs37 _ _ _ _ _ _ hM (lv_sub hl [1, 2, 3, 4] rfl) he
      · rw [if_pos (Int32.not_le.mp h6)] at he
        refine lv_goto (tgt := 229) hx hb dX11_loads_140 (by decide) ?_
        exact w11_loads_b229 (F := F) (a1 := a1) E hml hret hlk hs37 _ _ _ _ _ _ hM (lv_sub hl [0, 1, 2, 3] rfl) he

set_option maxHeartbeats 4000000 in
set_option maxRecDepth 100000 in
theorem w11_loads_b37_body (E : g_C p s m args c cX11_loads RX11 D aC (g_Zs (g_A B 44))) (hml : c.maxLocals = 7) (hret : meth.sig.returnType = none) (hlk : meth.locks = false) {F : Nat} {q0 : g_M} {a1 : Int32} {s37 : Int32 → Int32 → g_M → Option (g_M)} (hs37 : ∀ (v2 : Int32) (v3 : Int32) (mem : g_M) (H : Heap) (locs : List Loc) (ls : Array Slot), g_At D aC B yM 44 mem s.heap H locs → lv_has ls 7 [(0, .ref (B + 0)), (1, .int a1), (2, .int v2), (3, .int v3)] → s37 v2 v3 mem = some q0 → W p l e (g_rm 6) s m args below meth c H locs 0 0 (g_MQ below D aC B yM 44 args s none q0) (F0 m 37 ls [])) : ∀ (v2 : Int32) (v3 : Int32) (mem : g_M) (H : Heap) (locs : List Loc) (ls : Array Slot), g_At D aC B yM 44 mem s.heap H locs → lv_has ls 7 [(0, .ref (B + 0)), (1, .int a1), (2, .int v2), (3, .int v3)] → f11_loads_b37_body F a1 s37 v2 v3 mem = some q0 → W p l e (g_rm 6) s m args below meth c H locs 0 0 (g_MQ below D aC B yM 44 args s none q0) (F0 m 37 ls []) := by
  intro v2 v3 mem H locs ls hM hl he
  unfold f11_loads_b37_body at he
  have hx := E.1
  have hb := E.2.1
  have hown := E.2.2.1
  have hts := E.2.2.2.1
  refine lv_iload_n hx hb dX11_loads_37 rfl (lv_at hl 3 rfl) ?_
  refine lv_aload_n hx hb dX11_loads_38 rfl (lv_at hl 0 rfl) ?_
  refine g_getP E hM (o := 0) (Nat.le_of_ble_eq_true rfl) rfl fl_X11_93 (q := 27) rfl dX11_loads_39 ?_
  refine lv_iload_n hx hb dX11_loads_42 rfl (lv_at hl 1 rfl) ?_
  obtain ⟨h19, he⟩ := g_ck_some he
  refine g_iald E hM (o := 27) (Nat.le_of_ble_eq_true rfl) rfl h19 dX11_loads_43 ?_
  refine lv_icmp_ge (tgt := 235) hx hb dX11_loads_44 (by decide) (fun h20 => ?_) (fun h20 => ?_)
  · rw [if_neg (Int32.not_lt.mpr h20)] at he
    cases he
    exact g_vret E hM hret hlk dX11_loads_235
  · rw [if_pos (Int32.not_le.mp h20)] at he
    refine lv_aload_n hx hb dX11_loads_47 rfl (lv_at hl 0 rfl) ?_
    refine g_getP E hM (o := 0) (Nat.le_of_ble_eq_true rfl) rfl fl_X11_108 (q := 32) rfl dX11_loads_48 ?_
    refine lv_bipush (v := (12 : Int32)) hx hb dX11_loads_51 rfl ?_
    refine lv_iload_n hx hb dX11_loads_53 rfl (lv_at hl 1 rfl) ?_
    refine lv_imul hx hb dX11_loads_54 ?_
    refine lv_iload_n hx hb dX11_loads_55 rfl (lv_at hl 3 rfl) ?_
    refine lv_iadd hx hb dX11_loads_56 ?_
    obtain ⟨h21, he⟩ := g_ck_some he
    refine g_iald E hM (o := 32) (Nat.le_of_ble_eq_true rfl) rfl h21 dX11_loads_57 ?_
    obtain ⟨x22, hx22, he⟩ := g_let_ex he
    refine g_topI hx22 ?_
    refine lv_istore (lv' := [(4, .int x22), (0, .ref (B + 0)), (1, .int a1), (2, .int v2), (3, .int v3)]) hx hb dX11_loads_58 hl (by decide) rfl (fun ls hl => ?_)
    refine lv_aload_n hx hb dX11_loads_60 rfl (lv_at hl 1 rfl) ?_
    refine g_getP E hM (o := 0) (Nat.le_of_ble_eq_true rfl) rfl fl_X11_111 (q := 33) rfl dX11_loads_61 ?_
    refine lv_bipush (v := (12 : Int32)) hx hb dX11_loads_64 rfl ?_
    refine lv_iload_n hx hb dX11_loads_66 rfl (lv_at hl 2 rfl) ?_
    refine lv_imul hx hb dX11_loads_67 ?_
    refine lv_iload_n hx hb dX11_loads_68 rfl (lv_at hl 4 rfl) ?_
    refine lv_iadd hx hb dX11_loads_69 ?_
    obtain ⟨h23, he⟩ := g_ck_some he
    refine g_iald E hM (o := 33) (Nat.le_of_ble_eq_true rfl) rfl h23 dX11_loads_70 ?_
    obtain ⟨x24, hx24, he⟩ := g_let_ex he
    refine g_topI hx24 ?_
    refine lv_istore (lv' := [(5, .int x24), (4, .int x22), (0, .ref (B + 0)), (1, .int a1), (2, .int v2), (3, .int v3)]) hx hb dX11_loads_71 hl (by decide) rfl (fun ls hl => ?_)
    refine lv_aload_n hx hb dX11_loads_73 rfl (lv_at hl 2 rfl) ?_
    refine lv_iload_n hx hb dX11_loads_74 rfl (lv_at hl 3 rfl) ?_
    refine lv_iload_n hx hb dX11_loads_75 rfl (lv_at hl 5 rfl) ?_
    obtain ⟨r25, hcr25, he⟩ := g_bind he
    refine g_callV [.int a1, .int v3] (rest := []) E hml hl.1 hM cv_X11_385 (c11_isDue l D aC B hcr25) (o := 0) (Nat.le_of_ble_eq_true rfl) rfl (by decide) rfl rfl (Nat.le_of_ble_eq_true rfl) dX11_loads_76 (fun H locs hM => ?_)
    refine W.eq (g2 := F0 m 79 ls [.int r25]) rfl ?_
    refine lv_if_eq (tgt := 229) hx hb dX11_loads_79 (by decide) (fun h26 => ?_) (fun h26 => ?_)
    · rw [if_pos h26] at he
      exact w11_loads_b229 (F := F) (a1 := a1) E hml hret hlk hs37 _ _ _ _ _ _ hM (lv_sub hl [2, 3, 4, 5] rfl) he
    · rw [if_neg h26] at he
      refine lv_aload_n hx hb dX11_loads_82 rfl (lv_at hl 2 rfl) ?_
      refine g_getI E hM (o := 0) (Nat.le_of_ble_eq_true rfl) rfl fl_X11_382 dX11_loads_83 ?_
      refine lv_iconst (v := (2 : Int32)) hx hb dX11_loads_86 rfl ?_
      refine lv_icmp_ne (tgt := 99) hx hb dX11_loads_87 (by decide) (fun h27 => ?_) (fun h27 => ?_)
      · rw [if_neg h27] at he
        exact w11_loads_b99 (F := F) (a1 := a1) E hml hret hlk hs37 _ _ _ _ _ _ _ _ hM (lv_sub hl [2, 3, 4, 5, 1, 0] rfl) he
      · rw [if_pos h27] at he
        refine lv_iload hx hb dX11_loads_90 (lv_at hl 1 rfl) ?_
        refine lv_aload_n hx hb dX11_loads_92 rfl (lv_at hl 2 rfl) ?_
        refine g_getI E hM (o := 0) (Nat.le_of_ble_eq_true rfl) rfl fl_X11_120 dX11_loads_93 ?_
        refine lv_icmp_eq (tgt := 229) hx hb dX11_loads_96 (by decide) (fun h28 => ?_) (fun h28 => ?_)
        · rw [if_pos h28] at he
          exact w11_loads_b229 (F := F) (a1 := a1) E hml hret hlk hs37 _ _ _ _ _ _ hM (lv_sub hl [2, 3, 4, 5] rfl) he
        · rw [if_neg h28] at he
          exact w11_loads_b99 (F := F) (a1 := a1) E hml hret hlk hs37 _ _ _ _ _ _ _ _ hM (lv_sub hl [2, 3, 4, 5, 1, 0] rfl) he

set_option maxHeartbeats 4000000 in
set_option maxRecDepth 100000 in
theorem w11_loads_b37 (E : g_C p s m args c cX11_loads RX11 D aC (g_Zs (g_A B 44))) (hml : c.maxLocals = 7) (hret : meth.sig.returnType = none) (hlk : meth.locks = false) {F : Nat} {q0 : g_M} {a1 : Int32} : ∀ (v2 : Int32) (v3 : Int32) (mem : g_M) (H : Heap) (locs : List Loc) (ls : Array Slot), g_At D aC B yM 44 mem s.heap H locs → lv_has ls 7 [(0, .ref (B + 0)), (1, .int a1), (2, .int v2), (3, .int v3)] → f11_loads_b37 F a1 v2 v3 mem = some q0 → W p l e (g_rm 6) s m args below meth c H locs 0 0 (g_MQ below D aC B yM 44 args s none q0) (F0 m 37 ls []) := by
  have key : ∀ (nn : Nat) (x : Int32 × Int32 × g_M) (H : Heap) (locs : List Loc) (ls : Array Slot), g_At D aC B yM 44 x.2.2 s.heap H locs → lv_has ls 7 [(0, .ref (B + 0)), (1, .int a1), (2, .int x.1), (3, .int x.2.1)] → g_fix (fun sf x => f11_loads_b37_body F a1 (fun v2 v3 mem => sf (v2, v3, mem)) x.1 x.2.1 x.2.2) nn x = some q0 → W p l e (g_rm 6) s m args below meth c H locs 0 0 (g_MQ below D aC B yM 44 args s none q0) (F0 m 37 ls []) := by
    intro nn
    induction nn with
    | zero => intro x H locs ls hM hl he; simp [g_fix] at he
    | succ nn ih =>
      intro x H locs ls hM hl he
      exact w11_loads_b37_body (F := F) (a1 := a1) E hml hret hlk (fun v2 v3 mem H locs ls hM hl he => ih (v2, v3, mem) H locs ls hM hl he) x.1 x.2.1 x.2.2 H locs ls hM hl he
  intro v2 v3 mem H locs ls hM hl he
  exact key F (v2, v3, mem) H locs ls hM hl he

set_option maxHeartbeats 4000000 in
set_option maxRecDepth 100000 in
theorem w11_loads_b34 (E : g_C p s m args c cX11_loads RX11 D aC (g_Zs (g_A B 44))) (hml : c.maxLocals = 7) (hret : meth.sig.returnType = none) (hlk : meth.locks = false) {F : Nat} {q0 : g_M} {a1 : Int32} : ∀ (w0 : Int32) (mem : g_M) (H : Heap) (locs : List Loc) (ls : Array Slot), g_At D aC B yM 44 mem s.heap H locs → lv_has ls 7 [(0, .ref (B + 0)), (1, .int a1)] → f11_loads_b34 F a1 w0 mem = some q0 → W p l e (g_rm 6) s m args below meth c H locs 0 0 (g_MQ below D aC B yM 44 args s none q0) (F0 m 34 ls [.int w0]) := by
  intro w0 mem H locs ls hM hl he
  unfold f11_loads_b34 at he
  have hx := E.1
  have hb := E.2.1
  have hown := E.2.2.1
  have hts := E.2.2.2.1
  refine lv_istore_n (lv' := [(2, .int w0), (0, .ref (B + 0)), (1, .int a1)]) hx hb dX11_loads_34 rfl hl (by decide) rfl (fun ls hl => ?_)
  refine lv_iconst (v := (0 : Int32)) hx hb dX11_loads_35 rfl ?_
  refine lv_istore_n (lv' := [(3, .int (0 : Int32)), (2, .int w0), (0, .ref (B + 0)), (1, .int a1)]) hx hb dX11_loads_36 rfl hl (by decide) rfl (fun ls hl => ?_)
  exact w11_loads_b37 (F := F) (a1 := a1) E hml hret hlk _ _ _ _ _ _ hM (lv_sub hl [2, 3, 1, 0] rfl) he

set_option maxHeartbeats 4000000 in
set_option maxRecDepth 100000 in
theorem c11_loads (l : Launch) (D : va_G) (aC : Nat → ClassId) (B : Nat) {F : Nat} {a1 : Int32} {mem : g_M} {q0 : g_M} (he : f11_loads F a1 mem = some q0) : g_Met l yX11_loads cX11_loads 7 none 6 D aC B yM 44 mem [.ref (B + 0), .int a1] none q0 := by
  refine g_ofW (by decide) (Nat.le_of_ble_eq_true rfl) ?_
  intro p e s m args below meth c ls E hml hret hlk hM hl
  have E : g_C p s m args c cX11_loads RX11 D aC (g_Zs (g_A B 44)) := E
  have hx := E.1
  have hb := E.2.1
  have hown := E.2.2.1
  have hts := E.2.2.2.1
  have hl : lv_has ls 7 [(0, .ref (B + 0)), (1, .int a1)] := hl
  unfold f11_loads at he
  refine lv_aload_n hx hb dX11_loads_0 rfl (lv_at hl 0 rfl) ?_
  refine g_getI E hM (o := 0) (Nat.le_of_ble_eq_true rfl) rfl fl_X11_382 dX11_loads_1 ?_
  refine lv_iconst (v := (3 : Int32)) hx hb dX11_loads_4 rfl ?_
  refine lv_icmp_ne (tgt := 13) hx hb dX11_loads_5 (by decide) (fun h29 => ?_) (fun h29 => ?_)
  · rw [if_neg h29] at he
    refine lv_aload_n hx hb dX11_loads_13 rfl (lv_at hl 0 rfl) ?_
    refine g_getI E hM (o := 0) (Nat.le_of_ble_eq_true rfl) rfl fl_X11_123 dX11_loads_14 ?_
    refine lv_iconst (v := (-1 : Int32)) hx hb dX11_loads_17 rfl ?_
    refine lv_icmp_eq (tgt := 28) hx hb dX11_loads_18 (by decide) (fun h30 => ?_) (fun h30 => ?_)
    · rw [if_pos h30] at he
      refine lv_aload_n hx hb dX11_loads_28 rfl (lv_at hl 0 rfl) ?_
      refine g_getP E hM (o := 0) (Nat.le_of_ble_eq_true rfl) rfl fl_X11_13 (q := 2) rfl dX11_loads_29 ?_
      refine lv_iconst (v := (5 : Int32)) hx hb dX11_loads_32 rfl ?_
      obtain ⟨h31, he⟩ := g_ck_some he
      refine g_iald E hM (o := 2) (Nat.le_of_ble_eq_true rfl) rfl h31 dX11_loads_33 ?_
      exact w11_loads_b34 (F := F) (a1 := a1) E hml hret hlk _ _ _ _ _ hM (lv_sub hl [0, 1] rfl) he
    · rw [if_neg h30] at he
      refine lv_aload_n hx hb dX11_loads_21 rfl (lv_at hl 0 rfl) ?_
      refine g_getI E hM (o := 0) (Nat.le_of_ble_eq_true rfl) rfl fl_X11_123 dX11_loads_22 ?_
      refine lv_goto (tgt := 34) hx hb dX11_loads_25 (by decide) ?_
      exact w11_loads_b34 (F := F) (a1 := a1) E hml hret hlk _ _ _ _ _ hM (lv_sub hl [0, 1] rfl) he
  · rw [if_pos h29] at he
    refine lv_bipush (v := (99 : Int32)) hx hb dX11_loads_8 rfl ?_
    refine lv_goto (tgt := 34) hx hb dX11_loads_10 (by decide) ?_
    exact w11_loads_b34 (F := F) (a1 := a1) E hml hret hlk _ _ _ _ _ hM (lv_sub hl [0, 1] rfl) he

set_option maxHeartbeats 4000000 in
set_option maxRecDepth 100000 in
theorem w11_doesStorm_b34 (E : g_C p s m args c cX11_doesStorm RX11 D aC (g_Zs (g_A B 44))) (hml : c.maxLocals = 4) (hret : meth.sig.returnType = (some .boolean)) (hlk : meth.locks = false) {F : Nat} {q0 : Int32 × g_M} {a1 : Int32} {a2 : Int32} : ∀ (v3 : Int32) (mem : g_M) (H : Heap) (locs : List Loc) (ls : Array Slot), g_At D aC B yM 44 mem s.heap H locs → lv_has ls 4 [(3, .int v3)] → f11_doesStorm_b34 F a1 a2 v3 mem = some q0 → W p l e (g_rm 1) s m args below meth c H locs 0 0 (g_MQ below D aC B yM 44 args s (some (.int q0.1)) q0.2) (F0 m 34 ls []) := by
  intro v3 mem H locs ls hM hl he
  unfold f11_doesStorm_b34 at he
  have hx := E.1
  have hb := E.2.1
  have hown := E.2.2.1
  have hts := E.2.2.2.1
  refine lv_iload_n hx hb dX11_doesStorm_34 rfl (lv_at hl 0 rfl) ?_
  refine lv_bipush (v := (50 : Int32)) hx hb dX11_doesStorm_35 rfl ?_
  refine lv_icmp_lt (tgt := 44) hx hb dX11_doesStorm_37 (by decide) (fun h1 => ?_) (fun h1 => ?_)
  · rw [if_neg (Int32.not_le.mpr h1)] at he
    refine lv_iconst (v := (0 : Int32)) hx hb dX11_doesStorm_44 rfl ?_
    cases he
    exact g_zret E hM hret hlk (Or.inl rfl) dX11_doesStorm_45
  · rw [if_pos (Int32.not_lt.mp h1)] at he
    refine lv_iconst (v := (1 : Int32)) hx hb dX11_doesStorm_40 rfl ?_
    refine lv_goto (tgt := 45) hx hb dX11_doesStorm_41 (by decide) ?_
    cases he
    exact g_zret E hM hret hlk (Or.inr rfl) dX11_doesStorm_45

set_option maxHeartbeats 4000000 in
set_option maxRecDepth 100000 in
theorem w11_doesStorm_b19 (E : g_C p s m args c cX11_doesStorm RX11 D aC (g_Zs (g_A B 44))) (hml : c.maxLocals = 4) (hret : meth.sig.returnType = (some .boolean)) (hlk : meth.locks = false) {F : Nat} {q0 : Int32 × g_M} {a1 : Int32} {a2 : Int32} : ∀ (w0 : Int32) (mem : g_M) (H : Heap) (locs : List Loc) (ls : Array Slot), g_At D aC B yM 44 mem s.heap H locs → lv_has ls 4 [(0, .ref (B + 0)), (1, .int a1), (2, .int a2)] → f11_doesStorm_b19 F a1 a2 w0 mem = some q0 → W p l e (g_rm 1) s m args below meth c H locs 0 0 (g_MQ below D aC B yM 44 args s (some (.int q0.1)) q0.2) (F0 m 19 ls [.int w0]) := by
  intro w0 mem H locs ls hM hl he
  unfold f11_doesStorm_b19 at he
  have hx := E.1
  have hb := E.2.1
  have hown := E.2.2.1
  have hts := E.2.2.2.1
  refine lv_istore_n (lv' := [(3, .int w0), (0, .ref (B + 0)), (1, .int a1), (2, .int a2)]) hx hb dX11_doesStorm_19 rfl hl (by decide) rfl (fun ls hl => ?_)
  refine lv_iload_n hx hb dX11_doesStorm_20 rfl (lv_at hl 3 rfl) ?_
  refine lv_if_eq (tgt := 34) hx hb dX11_doesStorm_21 (by decide) (fun h2 => ?_) (fun h2 => ?_)
  · rw [if_pos h2] at he
    exact w11_doesStorm_b34 (F := F) (a1 := a1) (a2 := a2) E hml hret hlk _ _ _ _ _ hM (lv_sub hl [0] rfl) he
  · rw [if_neg h2] at he
    refine lv_iload_n hx hb dX11_doesStorm_24 rfl (lv_at hl 0 rfl) ?_
    refine lv_if_eq (tgt := 34) hx hb dX11_doesStorm_25 (by decide) (fun h3 => ?_) (fun h3 => ?_)
    · rw [if_pos h3] at he
      exact w11_doesStorm_b34 (F := F) (a1 := a1) (a2 := a2) E hml hret hlk _ _ _ _ _ hM (lv_sub hl [0] rfl) he
    · rw [if_neg h3] at he
      refine lv_iload_n hx hb dX11_doesStorm_28 rfl (lv_at hl 0 rfl) ?_
      refine lv_bipush (v := (100 : Int32)) hx hb dX11_doesStorm_29 rfl ?_
      refine lv_icmp_ne (tgt := 46) hx hb dX11_doesStorm_31 (by decide) (fun h4 => ?_) (fun h4 => ?_)
      · rw [if_neg h4] at he
        refine lv_aload_n hx hb dX11_doesStorm_46 rfl (lv_at hl 1 rfl) ?_
        refine g_getP E hM (o := 0) (Nat.le_of_ble_eq_true rfl) rfl fl_X11_87 (q := 25) rfl dX11_doesStorm_47 ?_
        refine lv_iload_n hx hb dX11_doesStorm_50 rfl (lv_at hl 2 rfl) ?_
        refine lv_aload_n hx hb dX11_doesStorm_51 rfl (lv_at hl 1 rfl) ?_
        refine g_getP E hM (o := 0) (Nat.le_of_ble_eq_true rfl) rfl fl_X11_87 (q := 25) rfl dX11_doesStorm_52 ?_
        refine lv_iload_n hx hb dX11_doesStorm_55 rfl (lv_at hl 2 rfl) ?_
        obtain ⟨h5, he⟩ := g_ck_some he
        refine g_iald E hM (o := 25) (Nat.le_of_ble_eq_true rfl) rfl h5 dX11_doesStorm_56 ?_
        refine lv_ldcw (v := (1103515245 : Int32)) hx hb hown (hts _ kc_X11_396) dX11_doesStorm_57 ?_
        refine lv_imul hx hb dX11_doesStorm_60 ?_
        refine lv_sipush (v := (12345 : Int32)) hx hb dX11_doesStorm_61 rfl ?_
        refine lv_iadd hx hb dX11_doesStorm_64 ?_
        refine lv_ldcw (v := (2147483647 : Int32)) hx hb hown (hts _ kc_X11_399) dX11_doesStorm_65 ?_
        refine lv_iand hx hb dX11_doesStorm_68 ?_
        obtain ⟨h6, he⟩ := g_ck_some he
        refine g_iast E hM (o := 25) (Nat.le_of_ble_eq_true rfl) rfl h6 dX11_doesStorm_69 (fun H locs hM => ?_)
        obtain ⟨m7, hm7, he⟩ := g_let_ex he
        rw [← hm7] at hM
        refine lv_aload_n hx hb dX11_doesStorm_70 rfl (lv_at hl 1 rfl) ?_
        refine g_getP E hM (o := 0) (Nat.le_of_ble_eq_true rfl) rfl fl_X11_87 (q := 25) rfl dX11_doesStorm_71 ?_
        refine lv_iload_n hx hb dX11_doesStorm_74 rfl (lv_at hl 2 rfl) ?_
        obtain ⟨h8, he⟩ := g_ck_some he
        refine g_iald E hM (o := 25) (Nat.le_of_ble_eq_true rfl) rfl h8 dX11_doesStorm_75 ?_
        refine lv_bipush (v := (16 : Int32)) hx hb dX11_doesStorm_76 rfl ?_
        refine lv_ishr hx hb dX11_doesStorm_78 ?_
        refine lv_bipush (v := (100 : Int32)) hx hb dX11_doesStorm_79 rfl ?_
        refine lv_irem hx hb dX11_doesStorm_81 (by decide) ?_
        refine lv_iload_n hx hb dX11_doesStorm_82 rfl (lv_at hl 0 rfl) ?_
        refine lv_icmp_ge (tgt := 90) hx hb dX11_doesStorm_83 (by decide) (fun h9 => ?_) (fun h9 => ?_)
        · rw [if_neg (Int32.not_lt.mpr h9)] at he
          refine lv_iconst (v := (0 : Int32)) hx hb dX11_doesStorm_90 rfl ?_
          cases he
          exact g_zret E hM hret hlk (Or.inl rfl) dX11_doesStorm_91
        · rw [if_pos (Int32.not_le.mp h9)] at he
          refine lv_iconst (v := (1 : Int32)) hx hb dX11_doesStorm_86 rfl ?_
          refine lv_goto (tgt := 91) hx hb dX11_doesStorm_87 (by decide) ?_
          cases he
          exact g_zret E hM hret hlk (Or.inr rfl) dX11_doesStorm_91
      · rw [if_pos h4] at he
        exact w11_doesStorm_b34 (F := F) (a1 := a1) (a2 := a2) E hml hret hlk _ _ _ _ _ hM (lv_sub hl [0] rfl) he

set_option maxHeartbeats 4000000 in
set_option maxRecDepth 100000 in
theorem c11_doesStorm (l : Launch) (D : va_G) (aC : Nat → ClassId) (B : Nat) {F : Nat} {a1 : Int32} {a2 : Int32} {mem : g_M} {q0 : Int32 × g_M} (he : f11_doesStorm F a1 a2 mem = some q0) : g_Met l yX11_doesStorm cX11_doesStorm 4 (some .boolean) 1 D aC B yM 44 mem [.ref (B + 0), .int a1, .int a2] (some (.int q0.1)) q0.2 := by
  refine g_ofW (by decide) (Nat.le_of_ble_eq_true rfl) ?_
  intro p e s m args below meth c ls E hml hret hlk hM hl
  have E : g_C p s m args c cX11_doesStorm RX11 D aC (g_Zs (g_A B 44)) := E
  have hx := E.1
  have hb := E.2.1
  have hown := E.2.2.1
  have hts := E.2.2.2.1
  have hl : lv_has ls 4 [(0, .ref (B + 0)), (1, .int a1), (2, .int a2)] := hl
  unfold f11_doesStorm at he
  refine lv_aload_n hx hb dX11_doesStorm_0 rfl (lv_at hl 0 rfl) ?_
  refine g_getI E hM (o := 0) (Nat.le_of_ble_eq_true rfl) rfl fl_X11_382 dX11_doesStorm_1 ?_
  refine lv_iconst (v := (1 : Int32)) hx hb dX11_doesStorm_4 rfl ?_
  refine lv_icmp_ne (tgt := 12) hx hb dX11_doesStorm_5 (by decide) (fun h10 => ?_) (fun h10 => ?_)
  · rw [if_neg h10] at he
    refine lv_aload_n hx hb dX11_doesStorm_12 rfl (lv_at hl 0 rfl) ?_
    refine g_getP E hM (o := 0) (Nat.le_of_ble_eq_true rfl) rfl fl_X11_13 (q := 2) rfl dX11_doesStorm_13 ?_
    refine lv_bipush (v := (6 : Int32)) hx hb dX11_doesStorm_16 rfl ?_
    obtain ⟨h11, he⟩ := g_ck_some he
    refine g_iald E hM (o := 2) (Nat.le_of_ble_eq_true rfl) rfl h11 dX11_doesStorm_18 ?_
    exact w11_doesStorm_b19 (F := F) (a1 := a1) (a2 := a2) E hml hret hlk _ _ _ _ _ hM (lv_sub hl [0, 1, 2] rfl) he
  · rw [if_pos h10] at he
    refine lv_iconst (v := (0 : Int32)) hx hb dX11_doesStorm_8 rfl ?_
    refine lv_goto (tgt := 19) hx hb dX11_doesStorm_9 (by decide) ?_
    exact w11_doesStorm_b19 (F := F) (a1 := a1) (a2 := a2) E hml hret hlk _ _ _ _ _ hM (lv_sub hl [0, 1, 2] rfl) he

end
