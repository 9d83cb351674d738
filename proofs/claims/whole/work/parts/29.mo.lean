theorem mo_0 : sw_mo 0 = (10, false, 0) := rfl
theorem mo_1 : sw_mo 1 = (4, false, 0) := rfl
theorem mo_2 : sw_mo 2 = (9, false, 0) := rfl
theorem mo_3 : sw_mo 3 = (3, false, 0) := rfl
theorem mo_4 : sw_mo 4 = (5, false, 0) := rfl
theorem mo_5 : sw_mo 5 = (8, false, 0) := rfl
theorem mo_6 : sw_mo 6 = (6, false, 0) := rfl
theorem mo_7 : sw_mo 7 = (2, false, 0) := rfl
theorem mo_8 : sw_mo 8 = (7, false, 0) := rfl
theorem mo_9 : sw_mo 9 = (1, false, 0) := rfl
theorem mo_10 : sw_mo 10 = (0, false, 0) := rfl
theorem mo_11 : sw_mo 11 = (10, false, 5) := rfl
theorem mo_12 : sw_mo 12 = (9, false, 1) := rfl
theorem mo_13 : sw_mo 13 = (10, false, 0) := rfl
theorem mo_14 : sw_mo 14 = (10, false, 0) := rfl
theorem mo_15 : sw_mo 15 = (10, false, 1) := rfl
theorem mo_16 : sw_mo 16 = (8, false, 0) := rfl
theorem mo_17 : sw_mo 17 = (14, true, 2) := rfl
theorem mo_18 : sw_mo 18 = (10, false, 2) := rfl
theorem mo_19 : sw_mo 19 = (6, false, 2) := rfl
theorem mo_20 : sw_mo 20 = (3, false, 2) := rfl
theorem mo_21 : sw_mo 21 = (6, false, 3) := rfl
theorem mo_22 : sw_mo 22 = (3, false, 0) := rfl
theorem mo_23 : sw_mo 23 = (6, false, 3) := rfl
theorem mo_24 : sw_mo 24 = (6, false, 2) := rfl
theorem mo_25 : sw_mo 25 = (13, true, 1) := rfl
theorem mo_26 : sw_mo 26 = (6, false, 3) := rfl
theorem mo_27 : sw_mo 27 = (6, false, 2) := rfl
theorem mo_28 : sw_mo 28 = (8, false, 2) := rfl
theorem mo_29 : sw_mo 29 = (6, false, 1) := rfl
theorem mo_30 : sw_mo 30 = (2, false, 1) := rfl
theorem mo_31 : sw_mo 31 = (8, false, 1) := rfl
theorem mo_32 : sw_mo 32 = (10, false, 0) := rfl
theorem mo_33 : sw_mo 33 = (10, false, 3) := rfl
theorem mo_34 : sw_mo 34 = (6, false, 1) := rfl
theorem mo_35 : sw_mo 35 = (6, false, 2) := rfl
theorem mo_36 : sw_mo 36 = (10, false, 3) := rfl
theorem mo_37 : sw_mo 37 = (8, false, 1) := rfl
theorem mo_38 : sw_mo 38 = (2, false, 4) := rfl
theorem mo_39 : sw_mo 39 = (2, false, 3) := rfl
theorem mo_40 : sw_mo 40 = (2, false, 1) := rfl
theorem mo_41 : sw_mo 41 = (2, false, 1) := rfl
theorem mo_42 : sw_mo 42 = (2, false, 0) := rfl
theorem mo_43 : sw_mo 43 = (5, true, 3) := rfl
theorem mo_44 : sw_mo 44 = (10, false, 1) := rfl
theorem mo_45 : sw_mo 45 = (10, false, 0) := rfl
theorem mo_46 : sw_mo 46 = (8, false, 1) := rfl
theorem mo_47 : sw_mo 47 = (8, false, 3) := rfl
theorem mo_48 : sw_mo 48 = (10, false, 0) := rfl
theorem mo_49 : sw_mo 49 = (8, false, 0) := rfl
theorem mo_50 : sw_mo 50 = (10, false, 0) := rfl
theorem mo_51 : sw_mo 51 = (10, false, 1) := rfl
theorem mo_52 : sw_mo 52 = (10, false, 0) := rfl
theorem mo_53 : sw_mo 53 = (10, false, 0) := rfl
theorem mo_54 : sw_mo 54 = (7, false, 2) := rfl
theorem mo_55 : sw_mo 55 = (7, true, 4) := rfl
theorem mo_56 : sw_mo 56 = (10, false, 2) := rfl
theorem mo_57 : sw_mo 57 = (10, false, 0) := rfl
theorem mo_58 : sw_mo 58 = (10, false, 0) := rfl
theorem mo_59 : sw_mo 59 = (10, false, 0) := rfl
theorem mo_60 : sw_mo 60 = (10, false, 0) := rfl
theorem mo_61 : sw_mo 61 = (6, false, 1) := rfl
theorem mo_62 : sw_mo 62 = (10, false, 0) := rfl
theorem mo_63 : sw_mo 63 = (10, false, 0) := rfl
theorem mo_64 : sw_mo 64 = (1, false, 3) := rfl
theorem mo_65 : sw_mo 65 = (1, false, 2) := rfl
theorem mo_66 : sw_mo 66 = (1, false, 2) := rfl
theorem mo_67 : sw_mo 67 = (10, false, 0) := rfl
theorem mo_68 : sw_mo 68 = (10, false, 2) := rfl
theorem mo_69 : sw_mo 69 = (8, false, 3) := rfl
theorem mo_70 : sw_mo 70 = (8, false, 1) := rfl
theorem mo_71 : sw_mo 71 = (10, false, 2) := rfl
theorem mo_72 : sw_mo 72 = (10, false, 0) := rfl
theorem mo_73 : sw_mo 73 = (8, false, 1) := rfl
theorem mo_74 : sw_mo 74 = (10, false, 0) := rfl
theorem mo_75 : sw_mo 75 = (10, false, 1) := rfl
theorem mo_76 : sw_mo 76 = (4, false, 2) := rfl
theorem mo_77 : sw_mo 77 = (3, false, 0) := rfl
theorem mo_78 : sw_mo 78 = (9, false, 1) := rfl
theorem mo_79 : sw_mo 79 = (14, true, 2) := rfl
theorem mo_80 : sw_mo 80 = (9, false, 0) := rfl
theorem mo_81 : sw_mo 81 = (9, true, 3) := rfl
theorem mo_82 : sw_mo 82 = (9, false, 2) := rfl
theorem mo_83 : sw_mo 83 = (9, false, 0) := rfl
theorem mo_84 : sw_mo 84 = (9, true, 1) := rfl
theorem mo_85 : sw_mo 85 = (14, true, 2) := rfl
theorem mo_86 : sw_mo 86 = (9, false, 0) := rfl
theorem mo_87 : sw_mo 87 = (4, false, 1) := rfl
theorem mo_88 : sw_mo 88 = (9, false, 1) := rfl
theorem mo_89 : sw_mo 89 = (4, false, 1) := rfl
theorem mo_90 : sw_mo 90 = (9, false, 1) := rfl
theorem mo_91 : sw_mo 91 = (9, false, 2) := rfl
theorem mo_92 : sw_mo 92 = (9, false, 2) := rfl
theorem mo_93 : sw_mo 93 = (9, false, 0) := rfl
theorem mo_94 : sw_mo 94 = (4, false, 1) := rfl
theorem mo_95 : sw_mo 95 = (4, false, 1) := rfl
theorem mo_96 : sw_mo 96 = (4, false, 1) := rfl
theorem mo_97 : sw_mo 97 = (3, false, 1) := rfl
theorem mo_98 : sw_mo 98 = (4, false, 1) := rfl
theorem mo_99 : sw_mo 99 = (4, false, 1) := rfl
theorem mo_100 : sw_mo 100 = (4, false, 2) := rfl
theorem mo_101 : sw_mo 101 = (9, false, 0) := rfl
theorem mo_102 : sw_mo 102 = (9, false, 1) := rfl
theorem mo_103 : sw_mo 103 = (4, false, 2) := rfl
theorem mo_104 : sw_mo 104 = (4, false, 2) := rfl
theorem mo_105 : sw_mo 105 = (4, false, 2) := rfl
theorem mo_106 : sw_mo 106 = (4, false, 2) := rfl
theorem mo_107 : sw_mo 107 = (4, false, 2) := rfl
theorem mo_108 : sw_mo 108 = (4, false, 2) := rfl
theorem mo_109 : sw_mo 109 = (9, false, 1) := rfl
theorem mo_110 : sw_mo 110 = (4, false, 0) := rfl
theorem mo_111 : sw_mo 111 = (5, false, 1) := rfl
theorem mo_112 : sw_mo 112 = (8, false, 1) := rfl
theorem mo_113 : sw_mo 113 = (10, false, 1) := rfl
theorem mo_114 : sw_mo 114 = (10, false, 0) := rfl
theorem mo_115 : sw_mo 115 = (10, false, 0) := rfl
theorem mo_116 : sw_mo 116 = (3, false, 1) := rfl
theorem mo_117 : sw_mo 117 = (3, false, 0) := rfl
theorem mo_118 : sw_mo 118 = (10, false, 2) := rfl
theorem mo_119 : sw_mo 119 = (10, false, 1) := rfl
theorem mo_120 : sw_mo 120 = (3, false, 1) := rfl
theorem mo_121 : sw_mo 121 = (10, false, 2) := rfl
theorem mo_122 : sw_mo 122 = (10, false, 1) := rfl
theorem mo_123 : sw_mo 123 = (8, false, 1) := rfl
theorem mo_124 : sw_mo 124 = (10, false, 1) := rfl
theorem mo_125 : sw_mo 125 = (8, false, 2) := rfl
theorem mo_126 : sw_mo 126 = (10, false, 3) := rfl
theorem mo_127 : sw_mo 127 = (10, false, 1) := rfl
theorem mo_128 : sw_mo 128 = (8, false, 2) := rfl
theorem mo_129 : sw_mo 129 = (10, false, 2) := rfl
theorem mo_130 : sw_mo 130 = (8, false, 2) := rfl
theorem mo_131 : sw_mo 131 = (10, false, 2) := rfl
theorem mo_132 : sw_mo 132 = (10, false, 1) := rfl
theorem mo_133 : sw_mo 133 = (10, false, 1) := rfl
theorem mo_134 : sw_mo 134 = (10, false, 3) := rfl
theorem mo_135 : sw_mo 135 = (10, false, 1) := rfl
theorem mo_136 : sw_mo 136 = (7, false, 2) := rfl
theorem mo_137 : sw_mo 137 = (7, false, 1) := rfl
theorem mo_138 : sw_mo 138 = (3, false, 1) := rfl
theorem mo_139 : sw_mo 139 = (10, false, 3) := rfl
theorem mo_140 : sw_mo 140 = (10, false, 2) := rfl
theorem mo_141 : sw_mo 141 = (7, false, 2) := rfl
theorem mo_142 : sw_mo 142 = (7, false, 1) := rfl
theorem mo_143 : sw_mo 143 = (7, false, 1) := rfl
theorem mo_144 : sw_mo 144 = (10, false, 1) := rfl
theorem mo_145 : sw_mo 145 = (10, false, 1) := rfl
theorem mo_146 : sw_mo 146 = (10, false, 2) := rfl
theorem mo_147 : sw_mo 147 = (10, false, 1) := rfl
theorem mo_148 : sw_mo 148 = (6, false, 2) := rfl
theorem mo_149 : sw_mo 149 = (10, false, 2) := rfl
theorem mo_150 : sw_mo 150 = (10, false, 1) := rfl
theorem mo_151 : sw_mo 151 = (10, false, 2) := rfl
theorem mo_152 : sw_mo 152 = (10, false, 2) := rfl
theorem mo_153 : sw_mo 153 = (8, false, 2) := rfl
theorem mo_154 : sw_mo 154 = (10, false, 1) := rfl
theorem mo_155 : sw_mo 155 = (10, false, 0) := rfl
theorem mo_156 : sw_mo 156 = (10, false, 1) := rfl
theorem mo_157 : sw_mo 157 = (10, false, 2) := rfl
theorem mo_158 : sw_mo 158 = (10, false, 3) := rfl
theorem mo_159 : sw_mo 159 = (0, false, 3) := rfl
theorem mo_160 : sw_mo 160 = (0, true, 3) := rfl
theorem mo_161 : sw_mo 161 = (0, true, 2) := rfl
theorem mo_162 : sw_mo 162 = (0, true, 4) := rfl
theorem mo_163 : sw_mo 163 = (0, true, 3) := rfl
theorem mo_164 : sw_mo 164 = (10, false, 3) := rfl
theorem mo_165 : sw_mo 165 = (10, false, 1) := rfl
theorem mo_166 : sw_mo 166 = (10, false, 1) := rfl
theorem mo_167 : sw_mo 167 = (1, false, 2) := rfl
theorem mo_168 : sw_mo 168 = (1, false, 3) := rfl
theorem mo_169 : sw_mo 169 = (10, false, 1) := rfl
theorem mo_170 : sw_mo 170 = (10, false, 1) := rfl
theorem mo_171 : sw_mo 171 = (10, false, 1) := rfl
theorem mo_172 : sw_mo 172 = (10, false, 2) := rfl
theorem mo_173 : sw_mo 173 = (10, false, 1) := rfl
theorem mo_174 : sw_mo 174 = (10, false, 1) := rfl
theorem mo_175 : sw_mo 175 = (10, false, 3) := rfl
theorem mo_176 : sw_mo 176 = (11, false, 0) := rfl
theorem mo_177 : sw_mo 177 = (11, false, 0) := rfl
theorem mo_178 : sw_mo 178 = (11, false, 5) := rfl
theorem mo_179 : sw_mo 179 = (11, false, 1) := rfl
theorem mo_180 : sw_mo 180 = (11, false, 1) := rfl
theorem mo_181 : sw_mo 181 = (11, false, 2) := rfl
theorem mo_182 : sw_mo 182 = (11, false, 0) := rfl
theorem mo_183 : sw_mo 183 = (11, false, 1) := rfl
theorem mo_184 : sw_mo 184 = (11, true, 1) := rfl
theorem mo_185 : sw_mo 185 = (11, true, 1) := rfl
theorem mo_186 : sw_mo 186 = (11, false, 0) := rfl
theorem mo_187 : sw_mo 187 = (11, false, 0) := rfl
theorem mo_188 : sw_mo 188 = (11, false, 0) := rfl
theorem mo_189 : sw_mo 189 = (11, true, 1) := rfl
theorem mo_190 : sw_mo 190 = (11, true, 6) := rfl
theorem mo_191 : sw_mo 191 = (11, false, 0) := rfl
theorem mo_192 : sw_mo 192 = (11, false, 1) := rfl
theorem mo_193 : sw_mo 193 = (11, false, 2) := rfl
theorem mo_194 : sw_mo 194 = (11, false, 2) := rfl
theorem mo_195 : sw_mo 195 = (11, false, 0) := rfl
theorem mo_196 : sw_mo 196 = (11, false, 0) := rfl
theorem mo_197 : sw_mo 197 = (11, false, 0) := rfl
theorem mo_198 : sw_mo 198 = (11, false, 0) := rfl
theorem mo_199 : sw_mo 199 = (11, false, 0) := rfl
theorem mo_200 : sw_mo 200 = (11, false, 1) := rfl
theorem mo_201 : sw_mo 201 = (11, false, 1) := rfl
theorem mo_202 : sw_mo 202 = (11, false, 1) := rfl
theorem mo_203 : sw_mo 203 = (11, false, 0) := rfl
theorem mo_204 : sw_mo 204 = (11, false, 1) := rfl
theorem mo_205 : sw_mo 205 = (11, false, 1) := rfl
theorem mo_206 : sw_mo 206 = (11, true, 1) := rfl
theorem mo_207 : sw_mo 207 = (11, true, 1) := rfl
theorem mo_208 : sw_mo 208 = (11, false, 0) := rfl
theorem mo_209 : sw_mo 209 = (11, false, 0) := rfl
theorem mo_210 : sw_mo 210 = (11, false, 1) := rfl
theorem mo_211 : sw_mo 211 = (11, false, 2) := rfl
theorem mo_212 : sw_mo 212 = (11, false, 0) := rfl
theorem mo_213 : sw_mo 213 = (11, false, 0) := rfl
theorem mo_214 : sw_mo 214 = (11, false, 1) := rfl
theorem mo_215 : sw_mo 215 = (11, true, 3) := rfl
theorem mo_216 : sw_mo 216 = (11, false, 1) := rfl
theorem mo_217 : sw_mo 217 = (11, false, 2) := rfl
theorem mo_218 : sw_mo 218 = (11, false, 2) := rfl
theorem mo_219 : sw_mo 219 = (11, false, 0) := rfl
theorem mo_220 : sw_mo 220 = (11, false, 0) := rfl
theorem mo_221 : sw_mo 221 = (11, false, 1) := rfl
theorem mo_222 : sw_mo 222 = (11, false, 2) := rfl
theorem mo_223 : sw_mo 223 = (11, false, 1) := rfl
theorem mo_224 : sw_mo 224 = (11, false, 0) := rfl
theorem mo_225 : sw_mo 225 = (11, false, 1) := rfl
theorem mo_226 : sw_mo 226 = (11, false, 2) := rfl
theorem mo_227 : sw_mo 227 = (11, false, 1) := rfl
theorem mo_228 : sw_mo 228 = (11, false, 2) := rfl
theorem mo_229 : sw_mo 229 = (11, false, 2) := rfl
theorem mo_230 : sw_mo 230 = (11, false, 0) := rfl
theorem mo_231 : sw_mo 231 = (11, false, 2) := rfl
theorem mo_232 : sw_mo 232 = (11, false, 1) := rfl
theorem mo_233 : sw_mo 233 = (11, false, 1) := rfl
theorem mo_234 : sw_mo 234 = (11, false, 2) := rfl
theorem mo_235 : sw_mo 235 = (11, false, 1) := rfl
theorem mo_236 : sw_mo 236 = (11, false, 0) := rfl
theorem mo_237 : sw_mo 237 = (11, true, 3) := rfl
theorem mo_238 : sw_mo 238 = (11, false, 1) := rfl
theorem mo_239 : sw_mo 239 = (11, false, 1) := rfl
theorem mo_240 : sw_mo 240 = (11, false, 0) := rfl
theorem mo_241 : sw_mo 241 = (11, false, 1) := rfl
theorem mo_242 : sw_mo 242 = (11, false, 2) := rfl
theorem mo_243 : sw_mo 243 = (11, false, 3) := rfl
theorem mo_244 : sw_mo 244 = (11, false, 1) := rfl
theorem mo_245 : sw_mo 245 = (11, false, 3) := rfl
theorem mo_246 : sw_mo 246 = (11, false, 2) := rfl
theorem mo_247 : sw_mo 247 = (11, false, 1) := rfl
theorem mo_248 : sw_mo 248 = (11, false, 2) := rfl
theorem mo_249 : sw_mo 249 = (11, false, 1) := rfl
theorem mo_250 : sw_mo 250 = (11, false, 0) := rfl
theorem mo_251 : sw_mo 251 = (11, false, 0) := rfl
theorem mo_252 : sw_mo 252 = (11, false, 1) := rfl
theorem mo_253 : sw_mo 253 = (11, false, 3) := rfl
theorem mo_254 : sw_mo 254 = (11, false, 3) := rfl
theorem mo_255 : sw_mo 255 = (11, false, 0) := rfl
theorem mo_256 : sw_mo 256 = (11, false, 1) := rfl
theorem mo_257 : sw_mo 257 = (11, false, 1) := rfl
theorem mo_258 : sw_mo 258 = (11, false, 1) := rfl
theorem mo_259 : sw_mo 259 = (11, false, 1) := rfl
theorem mo_260 : sw_mo 260 = (11, false, 2) := rfl
theorem mo_261 : sw_mo 261 = (11, false, 2) := rfl
theorem mo_262 : sw_mo 262 = (11, false, 2) := rfl
theorem mo_263 : sw_mo 263 = (11, false, 0) := rfl
theorem mo_264 : sw_mo 264 = (11, false, 2) := rfl
theorem mo_265 : sw_mo 265 = (11, false, 0) := rfl
theorem mo_266 : sw_mo 266 = (11, false, 0) := rfl
theorem mo_267 : sw_mo 267 = (11, false, 0) := rfl
theorem mo_268 : sw_mo 268 = (11, false, 0) := rfl
theorem mo_269 : sw_mo 269 = (11, false, 0) := rfl
theorem mo_270 : sw_mo 270 = (11, false, 0) := rfl
theorem mo_271 : sw_mo 271 = (11, false, 2) := rfl
theorem mo_272 : sw_mo 272 = (11, false, 1) := rfl
theorem mo_273 : sw_mo 273 = (11, false, 1) := rfl
theorem mo_274 : sw_mo 274 = (11, false, 1) := rfl
theorem mo_275 : sw_mo 275 = (11, false, 1) := rfl
theorem mo_276 : sw_mo 276 = (11, false, 2) := rfl
theorem mo_277 : sw_mo 277 = (11, false, 1) := rfl
theorem mo_278 : sw_mo 278 = (11, false, 1) := rfl
theorem mo_279 : sw_mo 279 = (11, false, 3) := rfl
theorem mo_280 : sw_mo 280 = (11, false, 2) := rfl
theorem mo_281 : sw_mo 281 = (11, false, 0) := rfl
theorem mo_282 : sw_mo 282 = (11, false, 1) := rfl
theorem mo_283 : sw_mo 283 = (11, false, 1) := rfl
theorem mo_284 : sw_mo 284 = (11, false, 1) := rfl
theorem mo_285 : sw_mo 285 = (11, false, 3) := rfl
theorem mo_286 : sw_mo 286 = (11, false, 2) := rfl
theorem mo_287 : sw_mo 287 = (11, true, 3) := rfl
theorem mo_288 : sw_mo 288 = (11, false, 3) := rfl
theorem mo_289 : sw_mo 289 = (11, false, 1) := rfl
theorem mo_290 : sw_mo 290 = (11, false, 0) := rfl
theorem mo_291 : sw_mo 291 = (11, false, 0) := rfl
theorem mo_292 : sw_mo 292 = (15, false, 1) := rfl
theorem mo_293 : sw_mo 293 = (15, false, 2) := rfl
theorem mo_294 : sw_mo 294 = (15, false, 0) := rfl
theorem mo_295 : sw_mo 295 = (15, false, 0) := rfl
theorem mo_296 : sw_mo 296 = (15, false, 0) := rfl
theorem mo_297 : sw_mo 297 = (15, false, 1) := rfl
theorem mo_298 : sw_mo 298 = (15, true, 2) := rfl
theorem mo_299 : sw_mo 299 = (16, true, 4) := rfl
theorem mo_300 : sw_mo 300 = (16, true, 1) := rfl
theorem mo_301 : sw_mo 301 = (16, true, 4) := rfl
theorem mo_302 : sw_mo 302 = (16, true, 2) := rfl
theorem mo_303 : sw_mo 303 = (17, true, 3) := rfl
theorem kdf_0 : (sw_kd 0).1 = 0 := rfl
theorem kds_0 : (sw_kd 0).2 = 10 := rfl
theorem kdf_1 : (sw_kd 1).1 = 0 := rfl
theorem kds_1 : (sw_kd 1).2 = 4 := rfl
theorem kdf_2 : (sw_kd 2).1 = 0 := rfl
theorem kds_2 : (sw_kd 2).2 = 9 := rfl
theorem kdf_3 : (sw_kd 3).1 = 1 := rfl
theorem kds_3 : (sw_kd 3).2 = 700 := rfl
theorem kdf_4 : (sw_kd 4).1 = 0 := rfl
theorem kds_4 : (sw_kd 4).2 = 3 := rfl
theorem kdf_5 : (sw_kd 5).1 = 1 := rfl
theorem kds_5 : (sw_kd 5).2 = 12 := rfl
theorem kdf_6 : (sw_kd 6).1 = 1 := rfl
theorem kds_6 : (sw_kd 6).2 = 12 := rfl
theorem kdf_7 : (sw_kd 7).1 = 1 := rfl
theorem kds_7 : (sw_kd 7).2 = 12 := rfl
theorem kdf_8 : (sw_kd 8).1 = 1 := rfl
theorem kds_8 : (sw_kd 8).2 = 14 := rfl
theorem kdf_9 : (sw_kd 9).1 = 1 := rfl
theorem kds_9 : (sw_kd 9).2 = 14 := rfl
theorem kdf_10 : (sw_kd 10).1 = 1 := rfl
theorem kds_10 : (sw_kd 10).2 = 14 := rfl
theorem kdf_11 : (sw_kd 11).1 = 1 := rfl
theorem kds_11 : (sw_kd 11).2 = 14 := rfl
theorem kdf_12 : (sw_kd 12).1 = 1 := rfl
theorem kds_12 : (sw_kd 12).2 = 14 := rfl
theorem kdf_13 : (sw_kd 13).1 = 1 := rfl
theorem kds_13 : (sw_kd 13).2 = 8 := rfl
theorem kdf_14 : (sw_kd 14).1 = 0 := rfl
theorem kds_14 : (sw_kd 14).2 = 5 := rfl
theorem kdf_15 : (sw_kd 15).1 = 1 := rfl
theorem kds_15 : (sw_kd 15).2 = 700 := rfl
theorem kdf_16 : (sw_kd 16).1 = 0 := rfl
theorem kds_16 : (sw_kd 16).2 = 3 := rfl
theorem kdf_17 : (sw_kd 17).1 = 1 := rfl
theorem kds_17 : (sw_kd 17).2 = 12 := rfl
theorem kdf_18 : (sw_kd 18).1 = 1 := rfl
theorem kds_18 : (sw_kd 18).2 = 12 := rfl
theorem kdf_19 : (sw_kd 19).1 = 1 := rfl
theorem kds_19 : (sw_kd 19).2 = 12 := rfl
theorem kdf_20 : (sw_kd 20).1 = 1 := rfl
theorem kds_20 : (sw_kd 20).2 = 14 := rfl
theorem kdf_21 : (sw_kd 21).1 = 1 := rfl
theorem kds_21 : (sw_kd 21).2 = 14 := rfl
theorem kdf_22 : (sw_kd 22).1 = 1 := rfl
theorem kds_22 : (sw_kd 22).2 = 14 := rfl
theorem kdf_23 : (sw_kd 23).1 = 1 := rfl
theorem kds_23 : (sw_kd 23).2 = 14 := rfl
theorem kdf_24 : (sw_kd 24).1 = 1 := rfl
theorem kds_24 : (sw_kd 24).2 = 14 := rfl
theorem kdf_25 : (sw_kd 25).1 = 1 := rfl
theorem kds_25 : (sw_kd 25).2 = 8 := rfl
theorem kdf_26 : (sw_kd 26).1 = 0 := rfl
theorem kds_26 : (sw_kd 26).2 = 5 := rfl
theorem kdf_27 : (sw_kd 27).1 = 1 := rfl
theorem kds_27 : (sw_kd 27).2 = 700 := rfl
theorem kdf_28 : (sw_kd 28).1 = 0 := rfl
theorem kds_28 : (sw_kd 28).2 = 8 := rfl
theorem kdf_29 : (sw_kd 29).1 = 1 := rfl
theorem kds_29 : (sw_kd 29).2 = 12 := rfl
theorem kdf_30 : (sw_kd 30).1 = 1 := rfl
theorem kds_30 : (sw_kd 30).2 = 12 := rfl
theorem kdf_31 : (sw_kd 31).1 = 1 := rfl
theorem kds_31 : (sw_kd 31).2 = 12 := rfl
theorem kdf_32 : (sw_kd 32).1 = 1 := rfl
theorem kds_32 : (sw_kd 32).2 = 40 := rfl
theorem kdf_33 : (sw_kd 33).1 = 1 := rfl
theorem kds_33 : (sw_kd 33).2 = 40 := rfl
theorem kdf_34 : (sw_kd 34).1 = 1 := rfl
theorem kds_34 : (sw_kd 34).2 = 40 := rfl
theorem kdf_35 : (sw_kd 35).1 = 1 := rfl
theorem kds_35 : (sw_kd 35).2 = 8 := rfl
theorem kdf_36 : (sw_kd 36).1 = 1 := rfl
theorem kds_36 : (sw_kd 36).2 = 8 := rfl
theorem kdf_37 : (sw_kd 37).1 = 0 := rfl
theorem kds_37 : (sw_kd 37).2 = 8 := rfl
theorem kdf_38 : (sw_kd 38).1 = 1 := rfl
theorem kds_38 : (sw_kd 38).2 = 12 := rfl
theorem kdf_39 : (sw_kd 39).1 = 1 := rfl
theorem kds_39 : (sw_kd 39).2 = 12 := rfl
theorem kdf_40 : (sw_kd 40).1 = 1 := rfl
theorem kds_40 : (sw_kd 40).2 = 12 := rfl
theorem kdf_41 : (sw_kd 41).1 = 1 := rfl
theorem kds_41 : (sw_kd 41).2 = 40 := rfl
theorem kdf_42 : (sw_kd 42).1 = 1 := rfl
theorem kds_42 : (sw_kd 42).2 = 40 := rfl
theorem kdf_43 : (sw_kd 43).1 = 1 := rfl
theorem kds_43 : (sw_kd 43).2 = 40 := rfl
theorem kdf_44 : (sw_kd 44).1 = 1 := rfl
theorem kds_44 : (sw_kd 44).2 = 8 := rfl
theorem kdf_45 : (sw_kd 45).1 = 1 := rfl
theorem kds_45 : (sw_kd 45).2 = 8 := rfl
theorem kdf_46 : (sw_kd 46).1 = 0 := rfl
theorem kds_46 : (sw_kd 46).2 = 8 := rfl
theorem kdf_47 : (sw_kd 47).1 = 1 := rfl
theorem kds_47 : (sw_kd 47).2 = 12 := rfl
theorem kdf_48 : (sw_kd 48).1 = 1 := rfl
theorem kds_48 : (sw_kd 48).2 = 12 := rfl
theorem kdf_49 : (sw_kd 49).1 = 1 := rfl
theorem kds_49 : (sw_kd 49).2 = 12 := rfl
theorem kdf_50 : (sw_kd 50).1 = 1 := rfl
theorem kds_50 : (sw_kd 50).2 = 40 := rfl
theorem kdf_51 : (sw_kd 51).1 = 1 := rfl
theorem kds_51 : (sw_kd 51).2 = 40 := rfl
theorem kdf_52 : (sw_kd 52).1 = 1 := rfl
theorem kds_52 : (sw_kd 52).2 = 40 := rfl
theorem kdf_53 : (sw_kd 53).1 = 1 := rfl
theorem kds_53 : (sw_kd 53).2 = 8 := rfl
theorem kdf_54 : (sw_kd 54).1 = 1 := rfl
theorem kds_54 : (sw_kd 54).2 = 8 := rfl
theorem kdf_55 : (sw_kd 55).1 = 0 := rfl
theorem kds_55 : (sw_kd 55).2 = 6 := rfl
theorem kdf_56 : (sw_kd 56).1 = 1 := rfl
theorem kds_56 : (sw_kd 56).2 = 32 := rfl
theorem kdf_57 : (sw_kd 57).1 = 1 := rfl
theorem kds_57 : (sw_kd 57).2 = 256 := rfl
theorem kdf_58 : (sw_kd 58).1 = 1 := rfl
theorem kds_58 : (sw_kd 58).2 = 256 := rfl
theorem kdf_59 : (sw_kd 59).1 = 1 := rfl
theorem kds_59 : (sw_kd 59).2 = 280 := rfl
theorem kdf_60 : (sw_kd 60).1 = 1 := rfl
theorem kds_60 : (sw_kd 60).2 = 280 := rfl
theorem kdf_61 : (sw_kd 61).1 = 0 := rfl
theorem kds_61 : (sw_kd 61).2 = 2 := rfl
theorem kdf_62 : (sw_kd 62).1 = 1 := rfl
theorem kds_62 : (sw_kd 62).2 = 4 := rfl
theorem kdf_63 : (sw_kd 63).1 = 1 := rfl
theorem kds_63 : (sw_kd 63).2 = 2028 := rfl
theorem kdf_64 : (sw_kd 64).1 = 1 := rfl
theorem kds_64 : (sw_kd 64).2 = 7 := rfl
theorem kdf_65 : (sw_kd 65).1 = 1 := rfl
theorem kds_65 : (sw_kd 65).2 = 32 := rfl
theorem kdf_66 : (sw_kd 66).1 = 0 := rfl
theorem kds_66 : (sw_kd 66).2 = 7 := rfl
theorem kdf_67 : (sw_kd 67).1 = 2 := rfl
theorem kds_67 : (sw_kd 67).2 = 4096 := rfl
theorem kdf_68 : (sw_kd 68).1 = 1 := rfl
theorem kds_68 : (sw_kd 68).2 = 924 := rfl
theorem kdf_69 : (sw_kd 69).1 = 0 := rfl
theorem kds_69 : (sw_kd 69).2 = 1 := rfl
theorem kdf_70 : (sw_kd 70).1 = 1 := rfl
theorem kds_70 : (sw_kd 70).2 = 56 := rfl
theorem kdf_71 : (sw_kd 71).1 = 0 := rfl
theorem kds_71 : (sw_kd 71).2 = 0 := rfl
theorem kdf_72 : (sw_kd 72).1 = 1 := rfl
theorem kds_72 : (sw_kd 72).2 = 5 := rfl
theorem kdf_73 : (sw_kd 73).1 = 1 := rfl
theorem kds_73 : (sw_kd 73).2 = 5 := rfl
theorem kdf_74 : (sw_kd 74).1 = 1 := rfl
theorem kds_74 : (sw_kd 74).2 = 8 := rfl
theorem kdf_75 : (sw_kd 75).1 = 0 := rfl
theorem kds_75 : (sw_kd 75).2 = 11 := rfl
theorem kdf_76 : (sw_kd 76).1 = 1 := rfl
theorem kds_76 : (sw_kd 76).2 = 12 := rfl
theorem kdf_77 : (sw_kd 77).1 = 1 := rfl
theorem kds_77 : (sw_kd 77).2 = 12 := rfl
theorem kdf_78 : (sw_kd 78).1 = 1 := rfl
theorem kds_78 : (sw_kd 78).2 = 70 := rfl
theorem kdf_79 : (sw_kd 79).1 = 1 := rfl
theorem kds_79 : (sw_kd 79).2 = 1900 := rfl
theorem kdf_80 : (sw_kd 80).1 = 1 := rfl
theorem kds_80 : (sw_kd 80).2 = 4096 := rfl
theorem kdf_81 : (sw_kd 81).1 = 1 := rfl
theorem kds_81 : (sw_kd 81).2 = 700 := rfl
theorem kdf_82 : (sw_kd 82).1 = 1 := rfl
theorem kds_82 : (sw_kd 82).2 = 3 := rfl
theorem kdf_83 : (sw_kd 83).1 = 1 := rfl
theorem kds_83 : (sw_kd 83).2 = 12 := rfl
theorem kdf_84 : (sw_kd 84).1 = 1 := rfl
theorem kds_84 : (sw_kd 84).2 = 12 := rfl
theorem kdf_85 : (sw_kd 85).1 = 1 := rfl
theorem kds_85 : (sw_kd 85).2 = 70 := rfl
theorem kdf_86 : (sw_kd 86).1 = 1 := rfl
theorem kds_86 : (sw_kd 86).2 = 12 := rfl
theorem kdf_87 : (sw_kd 87).1 = 1 := rfl
theorem kds_87 : (sw_kd 87).2 = 12 := rfl
theorem kdf_88 : (sw_kd 88).1 = 1 := rfl
theorem kds_88 : (sw_kd 88).2 = 1900 := rfl
theorem kdf_89 : (sw_kd 89).1 = 1 := rfl
theorem kds_89 : (sw_kd 89).2 = 950 := rfl
theorem kdf_90 : (sw_kd 90).1 = 3 := rfl
theorem kds_90 : (sw_kd 90).2 = 9 := rfl
theorem kdf_91 : (sw_kd 91).1 = 1 := rfl
theorem kds_91 : (sw_kd 91).2 = 38 := rfl
theorem kdf_92 : (sw_kd 92).1 = 1 := rfl
theorem kds_92 : (sw_kd 92).2 = 38 := rfl
theorem kdf_93 : (sw_kd 93).1 = 1 := rfl
theorem kds_93 : (sw_kd 93).2 = 1520 := rfl
theorem kdf_94 : (sw_kd 94).1 = 1 := rfl
theorem kds_94 : (sw_kd 94).2 = 7 := rfl
theorem kdf_95 : (sw_kd 95).1 = 1 := rfl
theorem kds_95 : (sw_kd 95).2 = 950 := rfl
theorem kdf_96 : (sw_kd 96).1 = 1 := rfl
theorem kds_96 : (sw_kd 96).2 = 32 := rfl
theorem kdf_97 : (sw_kd 97).1 = 1 := rfl
theorem kds_97 : (sw_kd 97).2 = 1024 := rfl
theorem kdf_98 : (sw_kd 98).1 = 1 := rfl
theorem kds_98 : (sw_kd 98).2 = 1024 := rfl
theorem kdf_99 : (sw_kd 99).1 = 1 := rfl
theorem kds_99 : (sw_kd 99).2 = 5 := rfl
theorem kdf_100 : (sw_kd 100).1 = 3 := rfl
theorem kds_100 : (sw_kd 100).2 = 4096 := rfl
theorem kdf_101 : (sw_kd 101).1 = 1 := rfl
theorem kds_101 : (sw_kd 101).2 = 4096 := rfl
theorem kdf_102 : (sw_kd 102).1 = 1 := rfl
theorem kds_102 : (sw_kd 102).2 = 56 := rfl
theorem kdf_103 : (sw_kd 103).1 = 1 := rfl
theorem kds_103 : (sw_kd 103).2 = 56 := rfl
theorem kdf_104 : (sw_kd 104).1 = 2 := rfl
theorem kds_104 : (sw_kd 104).2 = 4096 := rfl
theorem kdf_105 : (sw_kd 105).1 = 1 := rfl
theorem kds_105 : (sw_kd 105).2 = 16 := rfl
theorem kdf_106 : (sw_kd 106).1 = 1 := rfl
theorem kds_106 : (sw_kd 106).2 = 5 := rfl
theorem kdf_107 : (sw_kd 107).1 = 1 := rfl
theorem kds_107 : (sw_kd 107).2 = 5 := rfl
theorem kdf_108 : (sw_kd 108).1 = 1 := rfl
theorem kds_108 : (sw_kd 108).2 = 38 := rfl
theorem kdf_109 : (sw_kd 109).1 = 1 := rfl
theorem kds_109 : (sw_kd 109).2 = 1520 := rfl
theorem kdf_110 : (sw_kd 110).1 = 1 := rfl
theorem kds_110 : (sw_kd 110).2 = 16 := rfl
theorem kdf_111 : (sw_kd 111).1 = 2 := rfl
theorem kds_111 : (sw_kd 111).2 = 1 := rfl
