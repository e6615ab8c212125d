theorem d_Model_lay_150 : decode prog_10_method_15_code 150 = .ok (.iastore, 1) := by decide +kernel
theorem d_Model_lay_151 : decode prog_10_method_15_code 151 = .ok (.aload_n 0, 1) := by decide +kernel
theorem d_Model_lay_152 : decode prog_10_method_15_code 152 = .ok (.getfield 31, 3) := by decide +kernel
theorem d_Model_lay_155 : decode prog_10_method_15_code 155 = .ok (.iload_n 1, 1) := by decide +kernel
theorem d_Model_lay_156 : decode prog_10_method_15_code 156 = .ok (.aload_n 0, 1) := by decide +kernel
theorem d_Model_lay_157 : decode prog_10_method_15_code 157 = .ok (.getfield 31, 3) := by decide +kernel
theorem d_Model_lay_160 : decode prog_10_method_15_code 160 = .ok (.bipush 10, 2) := by decide +kernel
theorem d_Model_lay_162 : decode prog_10_method_15_code 162 = .ok (.iload_n 1, 1) := by decide +kernel
theorem d_Model_lay_163 : decode prog_10_method_15_code 163 = .ok (.iadd, 1) := by decide +kernel
theorem d_Model_lay_164 : decode prog_10_method_15_code 164 = .ok (.iaload, 1) := by decide +kernel
theorem d_Model_lay_165 : decode prog_10_method_15_code 165 = .ok (.iastore, 1) := by decide +kernel
theorem d_Model_lay_166 : decode prog_10_method_15_code 166 = .ok (.aload_n 0, 1) := by decide +kernel
theorem d_Model_lay_167 : decode prog_10_method_15_code 167 = .ok (.getfield 55, 3) := by decide +kernel
theorem d_Model_lay_170 : decode prog_10_method_15_code 170 = .ok (.iload_n 1, 1) := by decide +kernel
theorem d_Model_lay_171 : decode prog_10_method_15_code 171 = .ok (.iconst 0, 1) := by decide +kernel
theorem d_Model_lay_172 : decode prog_10_method_15_code 172 = .ok (.iastore, 1) := by decide +kernel
theorem d_Model_lay_173 : decode prog_10_method_15_code 173 = .ok (.iinc 1 1, 3) := by decide +kernel
theorem d_Model_lay_176 : decode prog_10_method_15_code 176 = .ok (.goto (-76), 3) := by decide +kernel
theorem d_Model_lay_179 : decode prog_10_method_15_code 179 = .ok (.iconst 0, 1) := by decide +kernel
theorem d_Model_lay_180 : decode prog_10_method_15_code 180 = .ok (.istore_n 1, 1) := by decide +kernel
theorem d_Model_lay_181 : decode prog_10_method_15_code 181 = .ok (.iload_n 1, 1) := by decide +kernel
theorem d_Model_lay_182 : decode prog_10_method_15_code 182 = .ok (.bipush 60, 2) := by decide +kernel
theorem d_Model_lay_184 : decode prog_10_method_15_code 184 = .ok (.if_icmp .ge 31, 3) := by decide +kernel
theorem d_Model_lay_187 : decode prog_10_method_15_code 187 = .ok (.aload_n 0, 1) := by decide +kernel
theorem d_Model_lay_188 : decode prog_10_method_15_code 188 = .ok (.getfield 34, 3) := by decide +kernel
theorem d_Model_lay_191 : decode prog_10_method_15_code 191 = .ok (.iload_n 1, 1) := by decide +kernel
theorem d_Model_lay_192 : decode prog_10_method_15_code 192 = .ok (.aload_n 0, 1) := by decide +kernel
theorem d_Model_lay_193 : decode prog_10_method_15_code 193 = .ok (.getfield 34, 3) := by decide +kernel
theorem d_Model_lay_196 : decode prog_10_method_15_code 196 = .ok (.bipush 60, 2) := by decide +kernel
theorem d_Model_lay_198 : decode prog_10_method_15_code 198 = .ok (.iload_n 1, 1) := by decide +kernel
theorem d_Model_lay_199 : decode prog_10_method_15_code 199 = .ok (.iadd, 1) := by decide +kernel
theorem d_Model_lay_200 : decode prog_10_method_15_code 200 = .ok (.iaload, 1) := by decide +kernel
theorem d_Model_lay_201 : decode prog_10_method_15_code 201 = .ok (.iastore, 1) := by decide +kernel
theorem d_Model_lay_202 : decode prog_10_method_15_code 202 = .ok (.aload_n 0, 1) := by decide +kernel
theorem d_Model_lay_203 : decode prog_10_method_15_code 203 = .ok (.getfield 52, 3) := by decide +kernel
theorem d_Model_lay_206 : decode prog_10_method_15_code 206 = .ok (.iload_n 1, 1) := by decide +kernel
theorem d_Model_lay_207 : decode prog_10_method_15_code 207 = .ok (.iconst 0, 1) := by decide +kernel
theorem d_Model_lay_208 : decode prog_10_method_15_code 208 = .ok (.iastore, 1) := by decide +kernel
theorem d_Model_lay_209 : decode prog_10_method_15_code 209 = .ok (.iinc 1 1, 3) := by decide +kernel
theorem d_Model_lay_212 : decode prog_10_method_15_code 212 = .ok (.goto (-31), 3) := by decide +kernel
theorem d_Model_lay_215 : decode prog_10_method_15_code 215 = .ok (.iconst 0, 1) := by decide +kernel
theorem d_Model_lay_216 : decode prog_10_method_15_code 216 = .ok (.istore_n 1, 1) := by decide +kernel
theorem d_Model_lay_217 : decode prog_10_method_15_code 217 = .ok (.iload_n 1, 1) := by decide +kernel
theorem d_Model_lay_218 : decode prog_10_method_15_code 218 = .ok (.iconst 4, 1) := by decide +kernel
theorem d_Model_lay_219 : decode prog_10_method_15_code 219 = .ok (.if_icmp .ge 51, 3) := by decide +kernel
theorem d_Model_lay_222 : decode prog_10_method_15_code 222 = .ok (.aload_n 0, 1) := by decide +kernel
theorem d_Model_lay_223 : decode prog_10_method_15_code 223 = .ok (.getfield 40, 3) := by decide +kernel
theorem d_Model_lay_226 : decode prog_10_method_15_code 226 = .ok (.iload_n 1, 1) := by decide +kernel
theorem d_Model_lay_227 : decode prog_10_method_15_code 227 = .ok (.aload_n 0, 1) := by decide +kernel
theorem d_Model_lay_228 : decode prog_10_method_15_code 228 = .ok (.getfield 40, 3) := by decide +kernel
theorem d_Model_lay_231 : decode prog_10_method_15_code 231 = .ok (.iconst 4, 1) := by decide +kernel
theorem d_Model_lay_232 : decode prog_10_method_15_code 232 = .ok (.iload_n 1, 1) := by decide +kernel
theorem d_Model_lay_233 : decode prog_10_method_15_code 233 = .ok (.iadd, 1) := by decide +kernel
theorem d_Model_lay_234 : decode prog_10_method_15_code 234 = .ok (.iaload, 1) := by decide +kernel
theorem d_Model_lay_235 : decode prog_10_method_15_code 235 = .ok (.iastore, 1) := by decide +kernel
theorem d_Model_lay_236 : decode prog_10_method_15_code 236 = .ok (.aload_n 0, 1) := by decide +kernel
theorem d_Model_lay_237 : decode prog_10_method_15_code 237 = .ok (.getfield 43, 3) := by decide +kernel
theorem d_Model_lay_240 : decode prog_10_method_15_code 240 = .ok (.iload_n 1, 1) := by decide +kernel
theorem d_Model_lay_241 : decode prog_10_method_15_code 241 = .ok (.aload_n 0, 1) := by decide +kernel
theorem d_Model_lay_242 : decode prog_10_method_15_code 242 = .ok (.getfield 43, 3) := by decide +kernel
theorem d_Model_lay_245 : decode prog_10_method_15_code 245 = .ok (.iconst 4, 1) := by decide +kernel
theorem d_Model_lay_246 : decode prog_10_method_15_code 246 = .ok (.iload_n 1, 1) := by decide +kernel
theorem d_Model_lay_247 : decode prog_10_method_15_code 247 = .ok (.iadd, 1) := by decide +kernel
theorem d_Model_lay_248 : decode prog_10_method_15_code 248 = .ok (.iaload, 1) := by decide +kernel
theorem d_Model_lay_249 : decode prog_10_method_15_code 249 = .ok (.iastore, 1) := by decide +kernel
theorem d_Model_lay_250 : decode prog_10_method_15_code 250 = .ok (.aload_n 0, 1) := by decide +kernel
theorem d_Model_lay_251 : decode prog_10_method_15_code 251 = .ok (.getfield 46, 3) := by decide +kernel
theorem d_Model_lay_254 : decode prog_10_method_15_code 254 = .ok (.iload_n 1, 1) := by decide +kernel
theorem d_Model_lay_255 : decode prog_10_method_15_code 255 = .ok (.aload_n 0, 1) := by decide +kernel
theorem d_Model_lay_256 : decode prog_10_method_15_code 256 = .ok (.getfield 46, 3) := by decide +kernel
theorem d_Model_lay_259 : decode prog_10_method_15_code 259 = .ok (.iconst 4, 1) := by decide +kernel
theorem d_Model_lay_260 : decode prog_10_method_15_code 260 = .ok (.iload_n 1, 1) := by decide +kernel
theorem d_Model_lay_261 : decode prog_10_method_15_code 261 = .ok (.iadd, 1) := by decide +kernel
theorem d_Model_lay_262 : decode prog_10_method_15_code 262 = .ok (.iaload, 1) := by decide +kernel
theorem d_Model_lay_263 : decode prog_10_method_15_code 263 = .ok (.iastore, 1) := by decide +kernel
theorem d_Model_lay_264 : decode prog_10_method_15_code 264 = .ok (.iinc 1 1, 3) := by decide +kernel
theorem d_Model_lay_267 : decode prog_10_method_15_code 267 = .ok (.goto (-50), 3) := by decide +kernel
theorem d_Model_lay_270 : decode prog_10_method_15_code 270 = .ok (.iconst 0, 1) := by decide +kernel
theorem d_Model_lay_271 : decode prog_10_method_15_code 271 = .ok (.istore_n 1, 1) := by decide +kernel
theorem d_Model_lay_272 : decode prog_10_method_15_code 272 = .ok (.iload_n 1, 1) := by decide +kernel
theorem d_Model_lay_273 : decode prog_10_method_15_code 273 = .ok (.bipush 36, 2) := by decide +kernel
theorem d_Model_lay_275 : decode prog_10_method_15_code 275 = .ok (.if_icmp .ge 31, 3) := by decide +kernel
theorem d_Model_lay_278 : decode prog_10_method_15_code 278 = .ok (.aload_n 0, 1) := by decide +kernel
theorem d_Model_lay_279 : decode prog_10_method_15_code 279 = .ok (.getfield 49, 3) := by decide +kernel
theorem d_Model_lay_282 : decode prog_10_method_15_code 282 = .ok (.iload_n 1, 1) := by decide +kernel
theorem d_Model_lay_283 : decode prog_10_method_15_code 283 = .ok (.aload_n 0, 1) := by decide +kernel
theorem d_Model_lay_284 : decode prog_10_method_15_code 284 = .ok (.getfield 49, 3) := by decide +kernel
theorem d_Model_lay_287 : decode prog_10_method_15_code 287 = .ok (.bipush 36, 2) := by decide +kernel
theorem d_Model_lay_289 : decode prog_10_method_15_code 289 = .ok (.iload_n 1, 1) := by decide +kernel
theorem d_Model_lay_290 : decode prog_10_method_15_code 290 = .ok (.iadd, 1) := by decide +kernel
theorem d_Model_lay_291 : decode prog_10_method_15_code 291 = .ok (.iaload, 1) := by decide +kernel
theorem d_Model_lay_292 : decode prog_10_method_15_code 292 = .ok (.iastore, 1) := by decide +kernel
theorem d_Model_lay_293 : decode prog_10_method_15_code 293 = .ok (.aload_n 0, 1) := by decide +kernel
theorem d_Model_lay_294 : decode prog_10_method_15_code 294 = .ok (.getfield 58, 3) := by decide +kernel
theorem d_Model_lay_297 : decode prog_10_method_15_code 297 = .ok (.iload_n 1, 1) := by decide +kernel
theorem d_Model_lay_298 : decode prog_10_method_15_code 298 = .ok (.iconst 0, 1) := by decide +kernel
theorem d_Model_lay_299 : decode prog_10_method_15_code 299 = .ok (.iastore, 1) := by decide +kernel
theorem d_Model_lay_300 : decode prog_10_method_15_code 300 = .ok (.iinc 1 1, 3) := by decide +kernel
theorem d_Model_lay_303 : decode prog_10_method_15_code 303 = .ok (.goto (-31), 3) := by decide +kernel
theorem d_Model_lay_306 : decode prog_10_method_15_code 306 = .ok (.aload_n 0, 1) := by decide +kernel
theorem d_Model_lay_307 : decode prog_10_method_15_code 307 = .ok (.getfield 61, 3) := by decide +kernel
theorem d_Model_lay_310 : decode prog_10_method_15_code 310 = .ok (.iconst 0, 1) := by decide +kernel
theorem d_Model_lay_311 : decode prog_10_method_15_code 311 = .ok (.iconst 0, 1) := by decide +kernel
theorem d_Model_lay_312 : decode prog_10_method_15_code 312 = .ok (.iastore, 1) := by decide +kernel
theorem d_Model_lay_313 : decode prog_10_method_15_code 313 = .ok (.aload_n 0, 1) := by decide +kernel
theorem d_Model_lay_314 : decode prog_10_method_15_code 314 = .ok (.iconst 0, 1) := by decide +kernel
theorem d_Model_lay_315 : decode prog_10_method_15_code 315 = .ok (.putfield 128, 3) := by decide +kernel
theorem d_Model_lay_318 : decode prog_10_method_15_code 318 = .ok (.aload_n 0, 1) := by decide +kernel
theorem d_Model_lay_319 : decode prog_10_method_15_code 319 = .ok (.getfield 19, 3) := by decide +kernel
theorem d_Model_lay_322 : decode prog_10_method_15_code 322 = .ok (.iconst 0, 1) := by decide +kernel
theorem d_Model_lay_323 : decode prog_10_method_15_code 323 = .ok (.iaload, 1) := by decide +kernel
theorem d_Model_lay_324 : decode prog_10_method_15_code 324 = .ok (.ireturn, 1) := by decide +kernel
theorem d_Model_isSort_0 : decode prog_10_method_16_code 0 = .ok (.iload_n 1, 1) := by decide +kernel
theorem d_Model_isSort_1 : decode prog_10_method_16_code 1 = .ok (.i2l, 1) := by decide +kernel
theorem d_Model_isSort_2 : decode prog_10_method_16_code 2 = .ok (.lconst 0, 1) := by decide +kernel
theorem d_Model_isSort_3 : decode prog_10_method_16_code 3 = .ok (.aload_n 0, 1) := by decide +kernel
theorem d_Model_isSort_4 : decode prog_10_method_16_code 4 = .ok (.getfield 13, 3) := by decide +kernel
theorem d_Model_isSort_7 : decode prog_10_method_16_code 7 = .ok (.iconst 0, 1) := by decide +kernel
theorem d_Model_isSort_8 : decode prog_10_method_16_code 8 = .ok (.iaload, 1) := by decide +kernel
theorem d_Model_isSort_9 : decode prog_10_method_16_code 9 = .ok (.iconst 1, 1) := by decide +kernel
theorem d_Model_isSort_10 : decode prog_10_method_16_code 10 = .ok (.isub, 1) := by decide +kernel
theorem d_Model_isSort_11 : decode prog_10_method_16_code 11 = .ok (.i2l, 1) := by decide +kernel
theorem d_Model_isSort_12 : decode prog_10_method_16_code 12 = .ok (.invokestatic 82, 3) := by decide +kernel
theorem d_Model_isSort_15 : decode prog_10_method_16_code 15 = .ok (.ireturn, 1) := by decide +kernel
theorem d_Model_isFace_0 : decode prog_10_method_17_code 0 = .ok (.iload_n 1, 1) := by decide +kernel
theorem d_Model_isFace_1 : decode prog_10_method_17_code 1 = .ok (.i2l, 1) := by decide +kernel
theorem d_Model_isFace_2 : decode prog_10_method_17_code 2 = .ok (.lconst 0, 1) := by decide +kernel
theorem d_Model_isFace_3 : decode prog_10_method_17_code 3 = .ok (.aload_n 0, 1) := by decide +kernel
theorem d_Model_isFace_4 : decode prog_10_method_17_code 4 = .ok (.getfield 19, 3) := by decide +kernel
theorem d_Model_isFace_7 : decode prog_10_method_17_code 7 = .ok (.iconst 0, 1) := by decide +kernel
theorem d_Model_isFace_8 : decode prog_10_method_17_code 8 = .ok (.iaload, 1) := by decide +kernel
theorem d_Model_isFace_9 : decode prog_10_method_17_code 9 = .ok (.iconst 1, 1) := by decide +kernel
theorem d_Model_isFace_10 : decode prog_10_method_17_code 10 = .ok (.isub, 1) := by decide +kernel
theorem d_Model_isFace_11 : decode prog_10_method_17_code 11 = .ok (.i2l, 1) := by decide +kernel
theorem d_Model_isFace_12 : decode prog_10_method_17_code 12 = .ok (.invokestatic 82, 3) := by decide +kernel
theorem d_Model_isFace_15 : decode prog_10_method_17_code 15 = .ok (.ireturn, 1) := by decide +kernel
theorem d_Model_face_0 : decode prog_10_method_18_code 0 = .ok (.aload_n 0, 1) := by decide +kernel
theorem d_Model_face_1 : decode prog_10_method_18_code 1 = .ok (.iload_n 1, 1) := by decide +kernel
theorem d_Model_face_2 : decode prog_10_method_18_code 2 = .ok (.invokevirtual 131, 3) := by decide +kernel
theorem d_Model_face_5 : decode prog_10_method_18_code 5 = .ok (.ifCond .eq 15, 3) := by decide +kernel
theorem d_Model_face_8 : decode prog_10_method_18_code 8 = .ok (.iload_n 2, 1) := by decide +kernel
theorem d_Model_face_9 : decode prog_10_method_18_code 9 = .ok (.i2l, 1) := by decide +kernel
theorem d_Model_face_10 : decode prog_10_method_18_code 10 = .ok (.lconst 0, 1) := by decide +kernel
theorem d_Model_face_11 : decode prog_10_method_18_code 11 = .ok (.ldc2_w 134, 3) := by decide +kernel
theorem d_Model_face_14 : decode prog_10_method_18_code 14 = .ok (.invokestatic 82, 3) := by decide +kernel
theorem d_Model_face_17 : decode prog_10_method_18_code 17 = .ok (.ifCond .ne 5, 3) := by decide +kernel
theorem d_Model_face_20 : decode prog_10_method_18_code 20 = .ok (.iconst (-1), 1) := by decide +kernel
theorem d_Model_face_21 : decode prog_10_method_18_code 21 = .ok (.ireturn, 1) := by decide +kernel
theorem d_Model_face_22 : decode prog_10_method_18_code 22 = .ok (.iload_n 2, 1) := by decide +kernel
theorem d_Model_face_23 : decode prog_10_method_18_code 23 = .ok (.tableswitch 57 0 3 #[29, 36, 43, 50], 29) := by decide +kernel
theorem d_Model_face_52 : decode prog_10_method_18_code 52 = .ok (.aload_n 0, 1) := by decide +kernel
theorem d_Model_face_53 : decode prog_10_method_18_code 53 = .ok (.getfield 22, 3) := by decide +kernel
theorem d_Model_face_56 : decode prog_10_method_18_code 56 = .ok (.iload_n 1, 1) := by decide +kernel
theorem d_Model_face_57 : decode prog_10_method_18_code 57 = .ok (.iaload, 1) := by decide +kernel
theorem d_Model_face_58 : decode prog_10_method_18_code 58 = .ok (.ireturn, 1) := by decide +kernel
theorem d_Model_face_59 : decode prog_10_method_18_code 59 = .ok (.aload_n 0, 1) := by decide +kernel
theorem d_Model_face_60 : decode prog_10_method_18_code 60 = .ok (.getfield 25, 3) := by decide +kernel
theorem d_Model_face_63 : decode prog_10_method_18_code 63 = .ok (.iload_n 1, 1) := by decide +kernel
theorem d_Model_face_64 : decode prog_10_method_18_code 64 = .ok (.iaload, 1) := by decide +kernel
theorem d_Model_face_65 : decode prog_10_method_18_code 65 = .ok (.ireturn, 1) := by decide +kernel
theorem d_Model_face_66 : decode prog_10_method_18_code 66 = .ok (.aload_n 0, 1) := by decide +kernel
theorem d_Model_face_67 : decode prog_10_method_18_code 67 = .ok (.getfield 28, 3) := by decide +kernel
theorem d_Model_face_70 : decode prog_10_method_18_code 70 = .ok (.iload_n 1, 1) := by decide +kernel
theorem d_Model_face_71 : decode prog_10_method_18_code 71 = .ok (.iaload, 1) := by decide +kernel
theorem d_Model_face_72 : decode prog_10_method_18_code 72 = .ok (.ireturn, 1) := by decide +kernel
theorem d_Model_face_73 : decode prog_10_method_18_code 73 = .ok (.aload_n 0, 1) := by decide +kernel
theorem d_Model_face_74 : decode prog_10_method_18_code 74 = .ok (.getfield 31, 3) := by decide +kernel
theorem d_Model_face_77 : decode prog_10_method_18_code 77 = .ok (.iload_n 1, 1) := by decide +kernel
theorem d_Model_face_78 : decode prog_10_method_18_code 78 = .ok (.iaload, 1) := by decide +kernel
theorem d_Model_face_79 : decode prog_10_method_18_code 79 = .ok (.ireturn, 1) := by decide +kernel
theorem d_Model_face_80 : decode prog_10_method_18_code 80 = .ok (.aload_n 0, 1) := by decide +kernel
theorem d_Model_face_81 : decode prog_10_method_18_code 81 = .ok (.getfield 55, 3) := by decide +kernel
theorem d_Model_face_84 : decode prog_10_method_18_code 84 = .ok (.iload_n 1, 1) := by decide +kernel
theorem d_Model_face_85 : decode prog_10_method_18_code 85 = .ok (.iaload, 1) := by decide +kernel
theorem d_Model_face_86 : decode prog_10_method_18_code 86 = .ok (.ireturn, 1) := by decide +kernel
theorem d_Model_liesOf_0 : decode prog_10_method_19_code 0 = .ok (.iload_n 3, 1) := by decide +kernel
theorem d_Model_liesOf_1 : decode prog_10_method_19_code 1 = .ok (.iconst 4, 1) := by decide +kernel
theorem d_Model_liesOf_2 : decode prog_10_method_19_code 2 = .ok (.if_icmp .ne 17, 3) := by decide +kernel
theorem d_Model_liesOf_5 : decode prog_10_method_19_code 5 = .ok (.aload_n 0, 1) := by decide +kernel
theorem d_Model_liesOf_6 : decode prog_10_method_19_code 6 = .ok (.getfield 34, 3) := by decide +kernel
theorem d_Model_liesOf_9 : decode prog_10_method_19_code 9 = .ok (.bipush 6, 2) := by decide +kernel
theorem d_Model_liesOf_11 : decode prog_10_method_19_code 11 = .ok (.iload_n 1, 1) := by decide +kernel
theorem d_Model_liesOf_12 : decode prog_10_method_19_code 12 = .ok (.imul, 1) := by decide +kernel
theorem d_Model_liesOf_13 : decode prog_10_method_19_code 13 = .ok (.iload_n 2, 1) := by decide +kernel
theorem d_Model_liesOf_14 : decode prog_10_method_19_code 14 = .ok (.iadd, 1) := by decide +kernel
theorem d_Model_liesOf_15 : decode prog_10_method_19_code 15 = .ok (.iaload, 1) := by decide +kernel
theorem d_Model_liesOf_16 : decode prog_10_method_19_code 16 = .ok (.goto 4, 3) := by decide +kernel
theorem d_Model_liesOf_19 : decode prog_10_method_19_code 19 = .ok (.iconst 0, 1) := by decide +kernel
theorem d_Model_liesOf_20 : decode prog_10_method_19_code 20 = .ok (.istore 4, 2) := by decide +kernel
theorem d_Model_liesOf_22 : decode prog_10_method_19_code 22 = .ok (.iconst 0, 1) := by decide +kernel
theorem d_Model_liesOf_23 : decode prog_10_method_19_code 23 = .ok (.istore 5, 2) := by decide +kernel
theorem d_Model_liesOf_25 : decode prog_10_method_19_code 25 = .ok (.iload 5, 2) := by decide +kernel
theorem d_Model_liesOf_27 : decode prog_10_method_19_code 27 = .ok (.iconst 4, 1) := by decide +kernel
theorem d_Model_liesOf_28 : decode prog_10_method_19_code 28 = .ok (.if_icmp .ge 75, 3) := by decide +kernel
theorem d_Model_liesOf_31 : decode prog_10_method_19_code 31 = .ok (.aload_n 0, 1) := by decide +kernel
theorem d_Model_liesOf_32 : decode prog_10_method_19_code 32 = .ok (.getfield 31, 3) := by decide +kernel
theorem d_Model_liesOf_35 : decode prog_10_method_19_code 35 = .ok (.iload_n 1, 1) := by decide +kernel
theorem d_Model_liesOf_36 : decode prog_10_method_19_code 36 = .ok (.iaload, 1) := by decide +kernel
theorem d_Model_liesOf_37 : decode prog_10_method_19_code 37 = .ok (.iload 5, 2) := by decide +kernel
theorem d_Model_liesOf_39 : decode prog_10_method_19_code 39 = .ok (.invokestatic 136, 3) := by decide +kernel
theorem d_Model_liesOf_42 : decode prog_10_method_19_code 42 = .ok (.ifCond .eq 55, 3) := by decide +kernel
theorem d_Model_liesOf_45 : decode prog_10_method_19_code 45 = .ok (.iload 4, 2) := by decide +kernel
theorem d_Model_liesOf_47 : decode prog_10_method_19_code 47 = .ok (.iload 4, 2) := by decide +kernel
theorem d_Model_liesOf_49 : decode prog_10_method_19_code 49 = .ok (.aload_n 0, 1) := by decide +kernel
theorem d_Model_liesOf_50 : decode prog_10_method_19_code 50 = .ok (.getfield 40, 3) := by decide +kernel
theorem d_Model_liesOf_53 : decode prog_10_method_19_code 53 = .ok (.iload 5, 2) := by decide +kernel
theorem d_Model_liesOf_55 : decode prog_10_method_19_code 55 = .ok (.iaload, 1) := by decide +kernel
theorem d_Model_liesOf_56 : decode prog_10_method_19_code 56 = .ok (.imul, 1) := by decide +kernel
theorem d_Model_liesOf_57 : decode prog_10_method_19_code 57 = .ok (.bipush 100, 2) := by decide +kernel
theorem d_Model_liesOf_59 : decode prog_10_method_19_code 59 = .ok (.idiv, 1) := by decide +kernel
theorem d_Model_liesOf_60 : decode prog_10_method_19_code 60 = .ok (.isub, 1) := by decide +kernel
theorem d_Model_liesOf_61 : decode prog_10_method_19_code 61 = .ok (.istore 4, 2) := by decide +kernel
theorem d_Model_liesOf_63 : decode prog_10_method_19_code 63 = .ok (.iload 4, 2) := by decide +kernel
theorem d_Model_liesOf_65 : decode prog_10_method_19_code 65 = .ok (.iload_n 3, 1) := by decide +kernel
theorem d_Model_liesOf_66 : decode prog_10_method_19_code 66 = .ok (.iload 5, 2) := by decide +kernel
theorem d_Model_liesOf_68 : decode prog_10_method_19_code 68 = .ok (.if_icmp .ne 25, 3) := by decide +kernel
theorem d_Model_liesOf_71 : decode prog_10_method_19_code 71 = .ok (.aload_n 0, 1) := by decide +kernel
theorem d_Model_liesOf_72 : decode prog_10_method_19_code 72 = .ok (.getfield 37, 3) := by decide +kernel
theorem d_Model_liesOf_75 : decode prog_10_method_19_code 75 = .ok (.bipush 6, 2) := by decide +kernel
theorem d_Model_liesOf_77 : decode prog_10_method_19_code 77 = .ok (.iload 5, 2) := by decide +kernel
theorem d_Model_liesOf_79 : decode prog_10_method_19_code 79 = .ok (.imul, 1) := by decide +kernel
theorem d_Model_liesOf_80 : decode prog_10_method_19_code 80 = .ok (.iload_n 2, 1) := by decide +kernel
theorem d_Model_liesOf_81 : decode prog_10_method_19_code 81 = .ok (.iadd, 1) := by decide +kernel
theorem d_Model_liesOf_82 : decode prog_10_method_19_code 82 = .ok (.iaload, 1) := by decide +kernel
theorem d_Model_liesOf_83 : decode prog_10_method_19_code 83 = .ok (.aload_n 0, 1) := by decide +kernel
theorem d_Model_liesOf_84 : decode prog_10_method_19_code 84 = .ok (.getfield 28, 3) := by decide +kernel
theorem d_Model_liesOf_87 : decode prog_10_method_19_code 87 = .ok (.iload_n 1, 1) := by decide +kernel
theorem d_Model_liesOf_88 : decode prog_10_method_19_code 88 = .ok (.iaload, 1) := by decide +kernel
theorem d_Model_liesOf_89 : decode prog_10_method_19_code 89 = .ok (.imul, 1) := by decide +kernel
theorem d_Model_liesOf_90 : decode prog_10_method_19_code 90 = .ok (.goto 4, 3) := by decide +kernel
theorem d_Model_liesOf_93 : decode prog_10_method_19_code 93 = .ok (.iconst 0, 1) := by decide +kernel
theorem d_Model_liesOf_94 : decode prog_10_method_19_code 94 = .ok (.iadd, 1) := by decide +kernel
theorem d_Model_liesOf_95 : decode prog_10_method_19_code 95 = .ok (.istore 4, 2) := by decide +kernel
theorem d_Model_liesOf_97 : decode prog_10_method_19_code 97 = .ok (.iinc 5 1, 3) := by decide +kernel
theorem d_Model_liesOf_100 : decode prog_10_method_19_code 100 = .ok (.goto (-75), 3) := by decide +kernel
theorem d_Model_liesOf_103 : decode prog_10_method_19_code 103 = .ok (.iload 4, 2) := by decide +kernel
theorem d_Model_liesOf_105 : decode prog_10_method_19_code 105 = .ok (.ireturn, 1) := by decide +kernel
theorem d_Model_allOf_0 : decode prog_10_method_20_code 0 = .ok (.iconst 0, 1) := by decide +kernel
theorem d_Model_allOf_1 : decode prog_10_method_20_code 1 = .ok (.istore_n 3, 1) := by decide +kernel
theorem d_Model_allOf_2 : decode prog_10_method_20_code 2 = .ok (.iconst 0, 1) := by decide +kernel
theorem d_Model_allOf_3 : decode prog_10_method_20_code 3 = .ok (.istore 4, 2) := by decide +kernel
theorem d_Model_allOf_5 : decode prog_10_method_20_code 5 = .ok (.iload 4, 2) := by decide +kernel
theorem d_Model_allOf_7 : decode prog_10_method_20_code 7 = .ok (.iconst 5, 1) := by decide +kernel
theorem d_Model_allOf_8 : decode prog_10_method_20_code 8 = .ok (.if_icmp .ge 20, 3) := by decide +kernel
theorem d_Model_allOf_11 : decode prog_10_method_20_code 11 = .ok (.iload_n 3, 1) := by decide +kernel
theorem d_Model_allOf_12 : decode prog_10_method_20_code 12 = .ok (.aload_n 0, 1) := by decide +kernel
theorem d_Model_allOf_13 : decode prog_10_method_20_code 13 = .ok (.iload_n 1, 1) := by decide +kernel
theorem d_Model_allOf_14 : decode prog_10_method_20_code 14 = .ok (.iload_n 2, 1) := by decide +kernel
theorem d_Model_allOf_15 : decode prog_10_method_20_code 15 = .ok (.iload 4, 2) := by decide +kernel
theorem d_Model_allOf_17 : decode prog_10_method_20_code 17 = .ok (.invokevirtual 140, 3) := by decide +kernel
theorem d_Model_allOf_20 : decode prog_10_method_20_code 20 = .ok (.iadd, 1) := by decide +kernel
theorem d_Model_allOf_21 : decode prog_10_method_20_code 21 = .ok (.istore_n 3, 1) := by decide +kernel
theorem d_Model_allOf_22 : decode prog_10_method_20_code 22 = .ok (.iinc 4 1, 3) := by decide +kernel
theorem d_Model_allOf_25 : decode prog_10_method_20_code 25 = .ok (.goto (-20), 3) := by decide +kernel
theorem d_Model_allOf_28 : decode prog_10_method_20_code 28 = .ok (.iload_n 3, 1) := by decide +kernel
theorem d_Model_allOf_29 : decode prog_10_method_20_code 29 = .ok (.ireturn, 1) := by decide +kernel
theorem d_Model_lies_0 : decode prog_10_method_21_code 0 = .ok (.aload_n 0, 1) := by decide +kernel
theorem d_Model_lies_1 : decode prog_10_method_21_code 1 = .ok (.iload_n 1, 1) := by decide +kernel
theorem d_Model_lies_2 : decode prog_10_method_21_code 2 = .ok (.invokevirtual 131, 3) := by decide +kernel
theorem d_Model_lies_5 : decode prog_10_method_21_code 5 = .ok (.ifCond .eq 25, 3) := by decide +kernel
theorem d_Model_lies_8 : decode prog_10_method_21_code 8 = .ok (.aload_n 0, 1) := by decide +kernel
theorem d_Model_lies_9 : decode prog_10_method_21_code 9 = .ok (.iload_n 2, 1) := by decide +kernel
theorem d_Model_lies_10 : decode prog_10_method_21_code 10 = .ok (.invokevirtual 144, 3) := by decide +kernel
theorem d_Model_lies_13 : decode prog_10_method_21_code 13 = .ok (.ifCond .eq 17, 3) := by decide +kernel
theorem d_Model_lies_16 : decode prog_10_method_21_code 16 = .ok (.iload_n 3, 1) := by decide +kernel
theorem d_Model_lies_17 : decode prog_10_method_21_code 17 = .ok (.i2l, 1) := by decide +kernel
theorem d_Model_lies_18 : decode prog_10_method_21_code 18 = .ok (.ldc2_w 147, 3) := by decide +kernel
theorem d_Model_lies_21 : decode prog_10_method_21_code 21 = .ok (.ldc2_w 134, 3) := by decide +kernel
theorem d_Model_lies_24 : decode prog_10_method_21_code 24 = .ok (.invokestatic 82, 3) := by decide +kernel
theorem d_Model_lies_27 : decode prog_10_method_21_code 27 = .ok (.ifCond .ne 5, 3) := by decide +kernel
theorem d_Model_lies_30 : decode prog_10_method_21_code 30 = .ok (.iconst (-1), 1) := by decide +kernel
theorem d_Model_lies_31 : decode prog_10_method_21_code 31 = .ok (.ireturn, 1) := by decide +kernel
theorem d_Model_lies_32 : decode prog_10_method_21_code 32 = .ok (.iload_n 3, 1) := by decide +kernel
theorem d_Model_lies_33 : decode prog_10_method_21_code 33 = .ok (.ifCond .ge 12, 3) := by decide +kernel
theorem d_Model_lies_36 : decode prog_10_method_21_code 36 = .ok (.aload_n 0, 1) := by decide +kernel
theorem d_Model_lies_37 : decode prog_10_method_21_code 37 = .ok (.iload_n 1, 1) := by decide +kernel
theorem d_Model_lies_38 : decode prog_10_method_21_code 38 = .ok (.iload_n 2, 1) := by decide +kernel
theorem d_Model_lies_39 : decode prog_10_method_21_code 39 = .ok (.invokevirtual 149, 3) := by decide +kernel
theorem d_Model_lies_42 : decode prog_10_method_21_code 42 = .ok (.goto 10, 3) := by decide +kernel
theorem d_Model_lies_45 : decode prog_10_method_21_code 45 = .ok (.aload_n 0, 1) := by decide +kernel
theorem d_Model_lies_46 : decode prog_10_method_21_code 46 = .ok (.iload_n 1, 1) := by decide +kernel
theorem d_Model_lies_47 : decode prog_10_method_21_code 47 = .ok (.iload_n 2, 1) := by decide +kernel
theorem d_Model_lies_48 : decode prog_10_method_21_code 48 = .ok (.iload_n 3, 1) := by decide +kernel
theorem d_Model_lies_49 : decode prog_10_method_21_code 49 = .ok (.invokevirtual 140, 3) := by decide +kernel
theorem d_Model_lies_52 : decode prog_10_method_21_code 52 = .ok (.ireturn, 1) := by decide +kernel
theorem d_Model_draw_0 : decode prog_10_method_22_code 0 = .ok (.ldc2_w 153, 3) := by decide +kernel
theorem d_Model_draw_3 : decode prog_10_method_22_code 3 = .ok (.iload_n 0, 1) := by decide +kernel
theorem d_Model_draw_4 : decode prog_10_method_22_code 4 = .ok (.i2l, 1) := by decide +kernel
theorem d_Model_draw_5 : decode prog_10_method_22_code 5 = .ok (.lmul, 1) := by decide +kernel
theorem d_Model_draw_6 : decode prog_10_method_22_code 6 = .ok (.ldc2_w 155, 3) := by decide +kernel
theorem d_Model_draw_9 : decode prog_10_method_22_code 9 = .ok (.iload_n 1, 1) := by decide +kernel
theorem d_Model_draw_10 : decode prog_10_method_22_code 10 = .ok (.i2l, 1) := by decide +kernel
theorem d_Model_draw_11 : decode prog_10_method_22_code 11 = .ok (.lmul, 1) := by decide +kernel
theorem d_Model_draw_12 : decode prog_10_method_22_code 12 = .ok (.ladd, 1) := by decide +kernel
theorem d_Model_draw_13 : decode prog_10_method_22_code 13 = .ok (.ldc2_w 157, 3) := by decide +kernel
theorem d_Model_draw_16 : decode prog_10_method_22_code 16 = .ok (.iload_n 2, 1) := by decide +kernel
theorem d_Model_draw_17 : decode prog_10_method_22_code 17 = .ok (.i2l, 1) := by decide +kernel
theorem d_Model_draw_18 : decode prog_10_method_22_code 18 = .ok (.lmul, 1) := by decide +kernel
theorem d_Model_draw_19 : decode prog_10_method_22_code 19 = .ok (.ladd, 1) := by decide +kernel
theorem d_Model_draw_20 : decode prog_10_method_22_code 20 = .ok (.lconst 1, 1) := by decide +kernel
theorem d_Model_draw_21 : decode prog_10_method_22_code 21 = .ok (.ladd, 1) := by decide +kernel
theorem d_Model_draw_22 : decode prog_10_method_22_code 22 = .ok (.lstore_n 3, 1) := by decide +kernel
theorem d_Model_draw_23 : decode prog_10_method_22_code 23 = .ok (.lload_n 3, 1) := by decide +kernel
theorem d_Model_draw_24 : decode prog_10_method_22_code 24 = .ok (.lload_n 3, 1) := by decide +kernel
theorem d_Model_draw_25 : decode prog_10_method_22_code 25 = .ok (.lmul, 1) := by decide +kernel
theorem d_Model_draw_26 : decode prog_10_method_22_code 26 = .ok (.ldc2_w 159, 3) := by decide +kernel
theorem d_Model_draw_29 : decode prog_10_method_22_code 29 = .ok (.lrem, 1) := by decide +kernel
theorem d_Model_draw_30 : decode prog_10_method_22_code 30 = .ok (.ldc2_w 161, 3) := by decide +kernel
theorem d_Model_draw_33 : decode prog_10_method_22_code 33 = .ok (.lrem, 1) := by decide +kernel
theorem d_Model_draw_34 : decode prog_10_method_22_code 34 = .ok (.l2i, 1) := by decide +kernel
theorem d_Model_draw_35 : decode prog_10_method_22_code 35 = .ok (.ireturn, 1) := by decide +kernel
theorem d_Model_calledBy_0 : decode prog_10_method_23_code 0 = .ok (.iconst 0, 1) := by decide +kernel
theorem d_Model_calledBy_1 : decode prog_10_method_23_code 1 = .ok (.istore_n 3, 1) := by decide +kernel
theorem d_Model_calledBy_2 : decode prog_10_method_23_code 2 = .ok (.iconst 0, 1) := by decide +kernel
theorem d_Model_calledBy_3 : decode prog_10_method_23_code 3 = .ok (.istore 4, 2) := by decide +kernel
theorem d_Model_calledBy_5 : decode prog_10_method_23_code 5 = .ok (.iload 4, 2) := by decide +kernel
theorem d_Model_calledBy_7 : decode prog_10_method_23_code 7 = .ok (.aload_n 0, 1) := by decide +kernel
theorem d_Model_calledBy_8 : decode prog_10_method_23_code 8 = .ok (.getfield 13, 3) := by decide +kernel
theorem d_Model_calledBy_11 : decode prog_10_method_23_code 11 = .ok (.iconst 0, 1) := by decide +kernel
theorem d_Model_calledBy_12 : decode prog_10_method_23_code 12 = .ok (.iaload, 1) := by decide +kernel
theorem d_Model_calledBy_13 : decode prog_10_method_23_code 13 = .ok (.if_icmp .ge 48, 3) := by decide +kernel
theorem d_Model_calledBy_16 : decode prog_10_method_23_code 16 = .ok (.iload_n 3, 1) := by decide +kernel
theorem d_Model_calledBy_17 : decode prog_10_method_23_code 17 = .ok (.iload 4, 2) := by decide +kernel
theorem d_Model_calledBy_19 : decode prog_10_method_23_code 19 = .ok (.iload_n 1, 1) := by decide +kernel
theorem d_Model_calledBy_20 : decode prog_10_method_23_code 20 = .ok (.if_icmp .ne 7, 3) := by decide +kernel
theorem d_Model_calledBy_23 : decode prog_10_method_23_code 23 = .ok (.iconst 0, 1) := by decide +kernel
theorem d_Model_calledBy_24 : decode prog_10_method_23_code 24 = .ok (.goto 15, 3) := by decide +kernel
theorem d_Model_calledBy_27 : decode prog_10_method_23_code 27 = .ok (.aload_n 0, 1) := by decide +kernel
theorem d_Model_calledBy_28 : decode prog_10_method_23_code 28 = .ok (.getfield 49, 3) := by decide +kernel
theorem d_Model_calledBy_31 : decode prog_10_method_23_code 31 = .ok (.bipush 6, 2) := by decide +kernel
theorem d_Model_calledBy_33 : decode prog_10_method_23_code 33 = .ok (.iload_n 1, 1) := by decide +kernel
theorem d_Model_calledBy_34 : decode prog_10_method_23_code 34 = .ok (.imul, 1) := by decide +kernel
theorem d_Model_calledBy_35 : decode prog_10_method_23_code 35 = .ok (.iload 4, 2) := by decide +kernel
theorem d_Model_calledBy_37 : decode prog_10_method_23_code 37 = .ok (.iadd, 1) := by decide +kernel
theorem d_Model_calledBy_38 : decode prog_10_method_23_code 38 = .ok (.iaload, 1) := by decide +kernel
theorem d_Model_calledBy_39 : decode prog_10_method_23_code 39 = .ok (.iadd, 1) := by decide +kernel
theorem d_Model_calledBy_40 : decode prog_10_method_23_code 40 = .ok (.istore_n 3, 1) := by decide +kernel
theorem d_Model_calledBy_41 : decode prog_10_method_23_code 41 = .ok (.iload 4, 2) := by decide +kernel
theorem d_Model_calledBy_43 : decode prog_10_method_23_code 43 = .ok (.iload_n 1, 1) := by decide +kernel
theorem d_Model_calledBy_44 : decode prog_10_method_23_code 44 = .ok (.if_icmp .eq 11, 3) := by decide +kernel
theorem d_Model_calledBy_47 : decode prog_10_method_23_code 47 = .ok (.iload_n 2, 1) := by decide +kernel
theorem d_Model_calledBy_48 : decode prog_10_method_23_code 48 = .ok (.iload_n 3, 1) := by decide +kernel
theorem d_Model_calledBy_49 : decode prog_10_method_23_code 49 = .ok (.if_icmp .ge 6, 3) := by decide +kernel
theorem d_Model_calledBy_52 : decode prog_10_method_23_code 52 = .ok (.iload 4, 2) := by decide +kernel
theorem d_Model_calledBy_54 : decode prog_10_method_23_code 54 = .ok (.ireturn, 1) := by decide +kernel
theorem d_Model_calledBy_55 : decode prog_10_method_23_code 55 = .ok (.iinc 4 1, 3) := by decide +kernel
theorem d_Model_calledBy_58 : decode prog_10_method_23_code 58 = .ok (.goto (-53), 3) := by decide +kernel
theorem d_Model_calledBy_61 : decode prog_10_method_23_code 61 = .ok (.iload_n 1, 1) := by decide +kernel
theorem d_Model_calledBy_62 : decode prog_10_method_23_code 62 = .ok (.ireturn, 1) := by decide +kernel
theorem d_Model_read_0 : decode prog_10_method_24_code 0 = .ok (.aload_n 0, 1) := by decide +kernel
theorem d_Model_read_1 : decode prog_10_method_24_code 1 = .ok (.iload_n 1, 1) := by decide +kernel
theorem d_Model_read_2 : decode prog_10_method_24_code 2 = .ok (.invokevirtual 131, 3) := by decide +kernel
theorem d_Model_read_5 : decode prog_10_method_24_code 5 = .ok (.ifCond .eq 23, 3) := by decide +kernel
theorem d_Model_read_8 : decode prog_10_method_24_code 8 = .ok (.iload_n 2, 1) := by decide +kernel
theorem d_Model_read_9 : decode prog_10_method_24_code 9 = .ok (.i2l, 1) := by decide +kernel
theorem d_Model_read_10 : decode prog_10_method_24_code 10 = .ok (.lconst 0, 1) := by decide +kernel
theorem d_Model_read_11 : decode prog_10_method_24_code 11 = .ok (.ldc2_w 163, 3) := by decide +kernel
theorem d_Model_read_14 : decode prog_10_method_24_code 14 = .ok (.invokestatic 82, 3) := by decide +kernel
theorem d_Model_read_17 : decode prog_10_method_24_code 17 = .ok (.ifCond .eq 11, 3) := by decide +kernel
theorem d_Model_read_20 : decode prog_10_method_24_code 20 = .ok (.aload_n 0, 1) := by decide +kernel
theorem d_Model_read_21 : decode prog_10_method_24_code 21 = .ok (.iload_n 3, 1) := by decide +kernel
theorem d_Model_read_22 : decode prog_10_method_24_code 22 = .ok (.invokevirtual 144, 3) := by decide +kernel
theorem d_Model_read_25 : decode prog_10_method_24_code 25 = .ok (.ifCond .ne 5, 3) := by decide +kernel
theorem d_Model_read_28 : decode prog_10_method_24_code 28 = .ok (.iconst (-1), 1) := by decide +kernel
theorem d_Model_read_29 : decode prog_10_method_24_code 29 = .ok (.ireturn, 1) := by decide +kernel
theorem d_Model_read_30 : decode prog_10_method_24_code 30 = .ok (.iconst 0, 1) := by decide +kernel
theorem d_Model_read_31 : decode prog_10_method_24_code 31 = .ok (.istore 4, 2) := by decide +kernel
theorem d_Model_read_33 : decode prog_10_method_24_code 33 = .ok (.iconst 0, 1) := by decide +kernel
theorem d_Model_read_34 : decode prog_10_method_24_code 34 = .ok (.istore 5, 2) := by decide +kernel
theorem d_Model_read_36 : decode prog_10_method_24_code 36 = .ok (.iconst 0, 1) := by decide +kernel
theorem d_Model_read_37 : decode prog_10_method_24_code 37 = .ok (.istore 6, 2) := by decide +kernel
theorem d_Model_read_39 : decode prog_10_method_24_code 39 = .ok (.iload 6, 2) := by decide +kernel
theorem d_Model_read_41 : decode prog_10_method_24_code 41 = .ok (.aload_n 0, 1) := by decide +kernel
theorem d_Model_read_42 : decode prog_10_method_24_code 42 = .ok (.getfield 13, 3) := by decide +kernel
theorem d_Model_read_45 : decode prog_10_method_24_code 45 = .ok (.iconst 0, 1) := by decide +kernel
theorem d_Model_read_46 : decode prog_10_method_24_code 46 = .ok (.iaload, 1) := by decide +kernel
theorem d_Model_read_47 : decode prog_10_method_24_code 47 = .ok (.if_icmp .ge 64, 3) := by decide +kernel
theorem d_Model_read_50 : decode prog_10_method_24_code 50 = .ok (.aload_n 0, 1) := by decide +kernel
theorem d_Model_read_51 : decode prog_10_method_24_code 51 = .ok (.iload_n 1, 1) := by decide +kernel
theorem d_Model_read_52 : decode prog_10_method_24_code 52 = .ok (.iload 6, 2) := by decide +kernel
theorem d_Model_read_54 : decode prog_10_method_24_code 54 = .ok (.invokevirtual 149, 3) := by decide +kernel
theorem d_Model_read_57 : decode prog_10_method_24_code 57 = .ok (.istore 7, 2) := by decide +kernel
theorem d_Model_read_59 : decode prog_10_method_24_code 59 = .ok (.iconst 0, 1) := by decide +kernel
theorem d_Model_read_60 : decode prog_10_method_24_code 60 = .ok (.istore 8, 2) := by decide +kernel
theorem d_Model_read_62 : decode prog_10_method_24_code 62 = .ok (.iload 8, 2) := by decide +kernel
theorem d_Model_read_64 : decode prog_10_method_24_code 64 = .ok (.iload 7, 2) := by decide +kernel
theorem d_Model_read_66 : decode prog_10_method_24_code 66 = .ok (.if_icmp .ge 39, 3) := by decide +kernel
theorem d_Model_read_69 : decode prog_10_method_24_code 69 = .ok (.iload 4, 2) := by decide +kernel
theorem d_Model_read_71 : decode prog_10_method_24_code 71 = .ok (.aload_n 0, 1) := by decide +kernel
theorem d_Model_read_72 : decode prog_10_method_24_code 72 = .ok (.iload 6, 2) := by decide +kernel
theorem d_Model_read_74 : decode prog_10_method_24_code 74 = .ok (.iload_n 2, 1) := by decide +kernel
theorem d_Model_read_75 : decode prog_10_method_24_code 75 = .ok (.iload 5, 2) := by decide +kernel
theorem d_Model_read_77 : decode prog_10_method_24_code 77 = .ok (.iload_n 1, 1) := by decide +kernel
theorem d_Model_read_78 : decode prog_10_method_24_code 78 = .ok (.invokestatic 165, 3) := by decide +kernel
theorem d_Model_read_81 : decode prog_10_method_24_code 81 = .ok (.invokevirtual 168, 3) := by decide +kernel
theorem d_Model_read_84 : decode prog_10_method_24_code 84 = .ok (.iload_n 3, 1) := by decide +kernel
theorem d_Model_read_85 : decode prog_10_method_24_code 85 = .ok (.if_icmp .ne 7, 3) := by decide +kernel
theorem d_Model_read_88 : decode prog_10_method_24_code 88 = .ok (.iconst 1, 1) := by decide +kernel
theorem d_Model_read_89 : decode prog_10_method_24_code 89 = .ok (.goto 4, 3) := by decide +kernel
theorem d_Model_read_92 : decode prog_10_method_24_code 92 = .ok (.iconst 0, 1) := by decide +kernel
theorem d_Model_read_93 : decode prog_10_method_24_code 93 = .ok (.iadd, 1) := by decide +kernel
theorem d_Model_read_94 : decode prog_10_method_24_code 94 = .ok (.istore 4, 2) := by decide +kernel
theorem d_Model_read_96 : decode prog_10_method_24_code 96 = .ok (.iinc 5 1, 3) := by decide +kernel
theorem d_Model_read_99 : decode prog_10_method_24_code 99 = .ok (.iinc 8 1, 3) := by decide +kernel
theorem d_Model_read_102 : decode prog_10_method_24_code 102 = .ok (.goto (-40), 3) := by decide +kernel
theorem d_Model_read_105 : decode prog_10_method_24_code 105 = .ok (.iinc 6 1, 3) := by decide +kernel
theorem d_Model_read_108 : decode prog_10_method_24_code 108 = .ok (.goto (-69), 3) := by decide +kernel
theorem d_Model_read_111 : decode prog_10_method_24_code 111 = .ok (.iload 4, 2) := by decide +kernel
theorem d_Model_read_113 : decode prog_10_method_24_code 113 = .ok (.ireturn, 1) := by decide +kernel
theorem d_Model_power_0 : decode prog_10_method_25_code 0 = .ok (.lconst 1, 1) := by decide +kernel
theorem d_Model_power_1 : decode prog_10_method_25_code 1 = .ok (.lstore_n 3, 1) := by decide +kernel
theorem d_Model_power_2 : decode prog_10_method_25_code 2 = .ok (.iconst 0, 1) := by decide +kernel
theorem d_Model_power_3 : decode prog_10_method_25_code 3 = .ok (.istore 5, 2) := by decide +kernel
theorem d_Model_power_5 : decode prog_10_method_25_code 5 = .ok (.iload 5, 2) := by decide +kernel
theorem d_Model_power_7 : decode prog_10_method_25_code 7 = .ok (.iload_n 2, 1) := by decide +kernel
theorem d_Model_power_8 : decode prog_10_method_25_code 8 = .ok (.if_icmp .ge 13, 3) := by decide +kernel
theorem d_Model_power_11 : decode prog_10_method_25_code 11 = .ok (.lload_n 3, 1) := by decide +kernel
theorem d_Model_power_12 : decode prog_10_method_25_code 12 = .ok (.lload_n 0, 1) := by decide +kernel
theorem d_Model_power_13 : decode prog_10_method_25_code 13 = .ok (.lmul, 1) := by decide +kernel
theorem d_Model_power_14 : decode prog_10_method_25_code 14 = .ok (.lstore_n 3, 1) := by decide +kernel
theorem d_Model_power_15 : decode prog_10_method_25_code 15 = .ok (.iinc 5 1, 3) := by decide +kernel
theorem d_Model_power_18 : decode prog_10_method_25_code 18 = .ok (.goto (-13), 3) := by decide +kernel
theorem d_Model_power_21 : decode prog_10_method_25_code 21 = .ok (.lload_n 3, 1) := by decide +kernel
theorem d_Model_power_22 : decode prog_10_method_25_code 22 = .ok (.lreturn, 1) := by decide +kernel
theorem d_Model_common_0 : decode prog_10_method_26_code 0 = .ok (.lload_n 0, 1) := by decide +kernel
theorem d_Model_common_1 : decode prog_10_method_26_code 1 = .ok (.lstore 4, 2) := by decide +kernel
theorem d_Model_common_3 : decode prog_10_method_26_code 3 = .ok (.lload_n 2, 1) := by decide +kernel
theorem d_Model_common_4 : decode prog_10_method_26_code 4 = .ok (.lstore 6, 2) := by decide +kernel
theorem d_Model_common_6 : decode prog_10_method_26_code 6 = .ok (.lload 6, 2) := by decide +kernel
theorem d_Model_common_8 : decode prog_10_method_26_code 8 = .ok (.lconst 0, 1) := by decide +kernel
theorem d_Model_common_9 : decode prog_10_method_26_code 9 = .ok (.lcmp, 1) := by decide +kernel
theorem d_Model_common_10 : decode prog_10_method_26_code 10 = .ok (.ifCond .eq 21, 3) := by decide +kernel
theorem d_Model_common_13 : decode prog_10_method_26_code 13 = .ok (.lload 4, 2) := by decide +kernel
theorem d_Model_common_15 : decode prog_10_method_26_code 15 = .ok (.lload 6, 2) := by decide +kernel
theorem d_Model_common_17 : decode prog_10_method_26_code 17 = .ok (.lrem, 1) := by decide +kernel
theorem d_Model_common_18 : decode prog_10_method_26_code 18 = .ok (.lstore 8, 2) := by decide +kernel
theorem d_Model_common_20 : decode prog_10_method_26_code 20 = .ok (.lload 6, 2) := by decide +kernel
theorem d_Model_common_22 : decode prog_10_method_26_code 22 = .ok (.lstore 4, 2) := by decide +kernel
theorem d_Model_common_24 : decode prog_10_method_26_code 24 = .ok (.lload 8, 2) := by decide +kernel
theorem d_Model_common_26 : decode prog_10_method_26_code 26 = .ok (.lstore 6, 2) := by decide +kernel
theorem d_Model_common_28 : decode prog_10_method_26_code 28 = .ok (.goto (-22), 3) := by decide +kernel
theorem d_Model_common_31 : decode prog_10_method_26_code 31 = .ok (.lload 4, 2) := by decide +kernel
theorem d_Model_common_33 : decode prog_10_method_26_code 33 = .ok (.lreturn, 1) := by decide +kernel
theorem d_Model_isArea_0 : decode prog_10_method_27_code 0 = .ok (.iload_n 0, 1) := by decide +kernel
theorem d_Model_isArea_1 : decode prog_10_method_27_code 1 = .ok (.i2l, 1) := by decide +kernel
theorem d_Model_isArea_2 : decode prog_10_method_27_code 2 = .ok (.lconst 1, 1) := by decide +kernel
theorem d_Model_isArea_3 : decode prog_10_method_27_code 3 = .ok (.ldc2_w 109, 3) := by decide +kernel
theorem d_Model_isArea_6 : decode prog_10_method_27_code 6 = .ok (.invokestatic 82, 3) := by decide +kernel
theorem d_Model_isArea_9 : decode prog_10_method_27_code 9 = .ok (.ireturn, 1) := by decide +kernel
theorem d_Model_more_0 : decode prog_10_method_28_code 0 = .ok (.iload_n 1, 1) := by decide +kernel
theorem d_Model_more_1 : decode prog_10_method_28_code 1 = .ok (.i2l, 1) := by decide +kernel
theorem d_Model_more_2 : decode prog_10_method_28_code 2 = .ok (.lconst 0, 1) := by decide +kernel
theorem d_Model_more_3 : decode prog_10_method_28_code 3 = .ok (.ldc2_w 171, 3) := by decide +kernel
theorem d_Model_more_6 : decode prog_10_method_28_code 6 = .ok (.invokestatic 82, 3) := by decide +kernel
theorem d_Model_more_9 : decode prog_10_method_28_code 9 = .ok (.ifCond .eq 43, 3) := by decide +kernel
theorem d_Model_more_12 : decode prog_10_method_28_code 12 = .ok (.iload_n 2, 1) := by decide +kernel
theorem d_Model_more_13 : decode prog_10_method_28_code 13 = .ok (.invokestatic 173, 3) := by decide +kernel
theorem d_Model_more_16 : decode prog_10_method_28_code 16 = .ok (.ifCond .eq 36, 3) := by decide +kernel
theorem d_Model_more_19 : decode prog_10_method_28_code 19 = .ok (.iload_n 3, 1) := by decide +kernel
theorem d_Model_more_20 : decode prog_10_method_28_code 20 = .ok (.i2l, 1) := by decide +kernel
theorem d_Model_more_21 : decode prog_10_method_28_code 21 = .ok (.lconst 0, 1) := by decide +kernel
theorem d_Model_more_22 : decode prog_10_method_28_code 22 = .ok (.bipush 12, 2) := by decide +kernel
theorem d_Model_more_24 : decode prog_10_method_28_code 24 = .ok (.iload_n 1, 1) := by decide +kernel
theorem d_Model_more_25 : decode prog_10_method_28_code 25 = .ok (.isub, 1) := by decide +kernel
theorem d_Model_more_26 : decode prog_10_method_28_code 26 = .ok (.i2l, 1) := by decide +kernel
theorem d_Model_more_27 : decode prog_10_method_28_code 27 = .ok (.invokestatic 82, 3) := by decide +kernel
theorem d_Model_more_30 : decode prog_10_method_28_code 30 = .ok (.ifCond .eq 22, 3) := by decide +kernel
theorem d_Model_more_33 : decode prog_10_method_28_code 33 = .ok (.iload 4, 2) := by decide +kernel
theorem d_Model_more_35 : decode prog_10_method_28_code 35 = .ok (.invokestatic 173, 3) := by decide +kernel
theorem d_Model_more_38 : decode prog_10_method_28_code 38 = .ok (.ifCond .eq 14, 3) := by decide +kernel
theorem d_Model_more_41 : decode prog_10_method_28_code 41 = .ok (.iload 5, 2) := by decide +kernel
theorem d_Model_more_43 : decode prog_10_method_28_code 43 = .ok (.i2l, 1) := by decide +kernel
theorem d_Model_more_44 : decode prog_10_method_28_code 44 = .ok (.lconst 0, 1) := by decide +kernel
theorem d_Model_more_45 : decode prog_10_method_28_code 45 = .ok (.lconst 1, 1) := by decide +kernel
theorem d_Model_more_46 : decode prog_10_method_28_code 46 = .ok (.invokestatic 82, 3) := by decide +kernel
theorem d_Model_more_49 : decode prog_10_method_28_code 49 = .ok (.ifCond .ne 7, 3) := by decide +kernel
theorem d_Model_more_52 : decode prog_10_method_28_code 52 = .ok (.ldc2_w 147, 3) := by decide +kernel
theorem d_Model_more_55 : decode prog_10_method_28_code 55 = .ok (.lreturn, 1) := by decide +kernel
theorem d_Model_more_56 : decode prog_10_method_28_code 56 = .ok (.iload_n 1, 1) := by decide +kernel
theorem d_Model_more_57 : decode prog_10_method_28_code 57 = .ok (.iload_n 3, 1) := by decide +kernel
theorem d_Model_more_58 : decode prog_10_method_28_code 58 = .ok (.iadd, 1) := by decide +kernel
theorem d_Model_more_59 : decode prog_10_method_28_code 59 = .ok (.istore 6, 2) := by decide +kernel
theorem d_Model_more_61 : decode prog_10_method_28_code 61 = .ok (.lconst 0, 1) := by decide +kernel
theorem d_Model_more_62 : decode prog_10_method_28_code 62 = .ok (.lstore 7, 2) := by decide +kernel
theorem d_Model_more_64 : decode prog_10_method_28_code 64 = .ok (.lconst 1, 1) := by decide +kernel
theorem d_Model_more_65 : decode prog_10_method_28_code 65 = .ok (.lstore 9, 2) := by decide +kernel
theorem d_Model_more_67 : decode prog_10_method_28_code 67 = .ok (.iconst 0, 1) := by decide +kernel
theorem d_Model_more_68 : decode prog_10_method_28_code 68 = .ok (.istore 11, 2) := by decide +kernel
theorem d_Model_more_70 : decode prog_10_method_28_code 70 = .ok (.iload 11, 2) := by decide +kernel
theorem d_Model_more_72 : decode prog_10_method_28_code 72 = .ok (.iload 6, 2) := by decide +kernel
theorem d_Model_more_74 : decode prog_10_method_28_code 74 = .ok (.if_icmp .gt 63, 3) := by decide +kernel
theorem d_Model_more_77 : decode prog_10_method_28_code 77 = .ok (.lload 7, 2) := by decide +kernel
theorem d_Model_more_79 : decode prog_10_method_28_code 79 = .ok (.iload 11, 2) := by decide +kernel
theorem d_Model_more_81 : decode prog_10_method_28_code 81 = .ok (.iload_n 1, 1) := by decide +kernel
theorem d_Model_more_82 : decode prog_10_method_28_code 82 = .ok (.if_icmp .lt 28, 3) := by decide +kernel
theorem d_Model_more_85 : decode prog_10_method_28_code 85 = .ok (.lload 9, 2) := by decide +kernel
theorem d_Model_more_87 : decode prog_10_method_28_code 87 = .ok (.iload_n 2, 1) := by decide +kernel
theorem d_Model_more_88 : decode prog_10_method_28_code 88 = .ok (.i2l, 1) := by decide +kernel
theorem d_Model_more_89 : decode prog_10_method_28_code 89 = .ok (.iload 11, 2) := by decide +kernel
theorem d_Model_more_91 : decode prog_10_method_28_code 91 = .ok (.invokestatic 176, 3) := by decide +kernel
theorem d_Model_more_94 : decode prog_10_method_28_code 94 = .ok (.lmul, 1) := by decide +kernel
theorem d_Model_more_95 : decode prog_10_method_28_code 95 = .ok (.iload 4, 2) := by decide +kernel
theorem d_Model_more_97 : decode prog_10_method_28_code 97 = .ok (.i2l, 1) := by decide +kernel
theorem d_Model_more_98 : decode prog_10_method_28_code 98 = .ok (.iload 6, 2) := by decide +kernel
theorem d_Model_more_100 : decode prog_10_method_28_code 100 = .ok (.iload 11, 2) := by decide +kernel
theorem d_Model_more_102 : decode prog_10_method_28_code 102 = .ok (.isub, 1) := by decide +kernel
theorem d_Model_more_103 : decode prog_10_method_28_code 103 = .ok (.invokestatic 176, 3) := by decide +kernel
theorem d_Model_more_106 : decode prog_10_method_28_code 106 = .ok (.lmul, 1) := by decide +kernel
theorem d_Model_more_107 : decode prog_10_method_28_code 107 = .ok (.goto 4, 3) := by decide +kernel
theorem d_Model_more_110 : decode prog_10_method_28_code 110 = .ok (.lconst 0, 1) := by decide +kernel
theorem d_Model_more_111 : decode prog_10_method_28_code 111 = .ok (.ladd, 1) := by decide +kernel
theorem d_Model_more_112 : decode prog_10_method_28_code 112 = .ok (.lstore 7, 2) := by decide +kernel
theorem d_Model_more_114 : decode prog_10_method_28_code 114 = .ok (.lload 9, 2) := by decide +kernel
theorem d_Model_more_116 : decode prog_10_method_28_code 116 = .ok (.iload 6, 2) := by decide +kernel
theorem d_Model_more_118 : decode prog_10_method_28_code 118 = .ok (.iload 11, 2) := by decide +kernel
theorem d_Model_more_120 : decode prog_10_method_28_code 120 = .ok (.isub, 1) := by decide +kernel
theorem d_Model_more_121 : decode prog_10_method_28_code 121 = .ok (.i2l, 1) := by decide +kernel
theorem d_Model_more_122 : decode prog_10_method_28_code 122 = .ok (.lmul, 1) := by decide +kernel
theorem d_Model_more_123 : decode prog_10_method_28_code 123 = .ok (.iload 11, 2) := by decide +kernel
theorem d_Model_more_125 : decode prog_10_method_28_code 125 = .ok (.iconst 1, 1) := by decide +kernel
theorem d_Model_more_126 : decode prog_10_method_28_code 126 = .ok (.iadd, 1) := by decide +kernel
theorem d_Model_more_127 : decode prog_10_method_28_code 127 = .ok (.i2l, 1) := by decide +kernel
theorem d_Model_more_128 : decode prog_10_method_28_code 128 = .ok (.ldiv, 1) := by decide +kernel
theorem d_Model_more_129 : decode prog_10_method_28_code 129 = .ok (.lstore 9, 2) := by decide +kernel
theorem d_Model_more_131 : decode prog_10_method_28_code 131 = .ok (.iinc 11 1, 3) := by decide +kernel
theorem d_Model_more_134 : decode prog_10_method_28_code 134 = .ok (.goto (-64), 3) := by decide +kernel
theorem d_Model_more_137 : decode prog_10_method_28_code 137 = .ok (.iload_n 2, 1) := by decide +kernel
theorem d_Model_more_138 : decode prog_10_method_28_code 138 = .ok (.iload 4, 2) := by decide +kernel
theorem d_Model_more_140 : decode prog_10_method_28_code 140 = .ok (.iadd, 1) := by decide +kernel
theorem d_Model_more_141 : decode prog_10_method_28_code 141 = .ok (.i2l, 1) := by decide +kernel
theorem d_Model_more_142 : decode prog_10_method_28_code 142 = .ok (.iload 6, 2) := by decide +kernel
theorem d_Model_more_144 : decode prog_10_method_28_code 144 = .ok (.invokestatic 176, 3) := by decide +kernel
theorem d_Model_more_147 : decode prog_10_method_28_code 147 = .ok (.lstore 11, 2) := by decide +kernel
theorem d_Model_more_149 : decode prog_10_method_28_code 149 = .ok (.lload 7, 2) := by decide +kernel
theorem d_Model_more_151 : decode prog_10_method_28_code 151 = .ok (.lload 11, 2) := by decide +kernel
theorem d_Model_more_153 : decode prog_10_method_28_code 153 = .ok (.invokestatic 180, 3) := by decide +kernel
theorem d_Model_more_156 : decode prog_10_method_28_code 156 = .ok (.lstore 13, 2) := by decide +kernel
theorem d_Model_more_158 : decode prog_10_method_28_code 158 = .ok (.iload 5, 2) := by decide +kernel
theorem d_Model_more_160 : decode prog_10_method_28_code 160 = .ok (.ifCond .ne 11, 3) := by decide +kernel
theorem d_Model_more_163 : decode prog_10_method_28_code 163 = .ok (.lload 7, 2) := by decide +kernel
theorem d_Model_more_165 : decode prog_10_method_28_code 165 = .ok (.lload 13, 2) := by decide +kernel
theorem d_Model_more_167 : decode prog_10_method_28_code 167 = .ok (.ldiv, 1) := by decide +kernel
theorem d_Model_more_168 : decode prog_10_method_28_code 168 = .ok (.goto 8, 3) := by decide +kernel
theorem d_Model_more_171 : decode prog_10_method_28_code 171 = .ok (.lload 11, 2) := by decide +kernel
theorem d_Model_more_173 : decode prog_10_method_28_code 173 = .ok (.lload 13, 2) := by decide +kernel
theorem d_Model_more_175 : decode prog_10_method_28_code 175 = .ok (.ldiv, 1) := by decide +kernel
theorem d_Model_more_176 : decode prog_10_method_28_code 176 = .ok (.lreturn, 1) := by decide +kernel
theorem d_Model_isRare_0 : decode prog_10_method_29_code 0 = .ok (.iload_n 3, 1) := by decide +kernel
theorem d_Model_isRare_1 : decode prog_10_method_29_code 1 = .ok (.i2l, 1) := by decide +kernel
theorem d_Model_isRare_2 : decode prog_10_method_29_code 2 = .ok (.iload_n 1, 1) := by decide +kernel
theorem d_Model_isRare_3 : decode prog_10_method_29_code 3 = .ok (.i2l, 1) := by decide +kernel
theorem d_Model_isRare_4 : decode prog_10_method_29_code 4 = .ok (.iload_n 0, 1) := by decide +kernel
theorem d_Model_isRare_5 : decode prog_10_method_29_code 5 = .ok (.invokestatic 176, 3) := by decide +kernel
theorem d_Model_isRare_8 : decode prog_10_method_29_code 8 = .ok (.lmul, 1) := by decide +kernel
theorem d_Model_isRare_9 : decode prog_10_method_29_code 9 = .ok (.iload_n 1, 1) := by decide +kernel
theorem d_Model_isRare_10 : decode prog_10_method_29_code 10 = .ok (.iload_n 2, 1) := by decide +kernel
theorem d_Model_isRare_11 : decode prog_10_method_29_code 11 = .ok (.iadd, 1) := by decide +kernel
theorem d_Model_isRare_12 : decode prog_10_method_29_code 12 = .ok (.i2l, 1) := by decide +kernel
theorem d_Model_isRare_13 : decode prog_10_method_29_code 13 = .ok (.iload_n 0, 1) := by decide +kernel
theorem d_Model_isRare_14 : decode prog_10_method_29_code 14 = .ok (.invokestatic 176, 3) := by decide +kernel
theorem d_Model_isRare_17 : decode prog_10_method_29_code 17 = .ok (.lcmp, 1) := by decide +kernel
theorem d_Model_isRare_18 : decode prog_10_method_29_code 18 = .ok (.ifCond .gt 7, 3) := by decide +kernel
theorem d_Model_isRare_21 : decode prog_10_method_29_code 21 = .ok (.iconst 1, 1) := by decide +kernel
theorem d_Model_isRare_22 : decode prog_10_method_29_code 22 = .ok (.goto 4, 3) := by decide +kernel
theorem d_Model_isRare_25 : decode prog_10_method_29_code 25 = .ok (.iconst 0, 1) := by decide +kernel
theorem d_Model_isRare_26 : decode prog_10_method_29_code 26 = .ok (.ireturn, 1) := by decide +kernel
theorem d_Model_says_0 : decode prog_10_method_30_code 0 = .ok (.iload_n 1, 1) := by decide +kernel
theorem d_Model_says_1 : decode prog_10_method_30_code 1 = .ok (.invokestatic 173, 3) := by decide +kernel
theorem d_Model_says_4 : decode prog_10_method_30_code 4 = .ok (.ifCond .eq 22, 3) := by decide +kernel
theorem d_Model_says_7 : decode prog_10_method_30_code 7 = .ok (.iload_n 2, 1) := by decide +kernel
theorem d_Model_says_8 : decode prog_10_method_30_code 8 = .ok (.invokestatic 173, 3) := by decide +kernel
theorem d_Model_says_11 : decode prog_10_method_30_code 11 = .ok (.ifCond .eq 15, 3) := by decide +kernel
theorem d_Model_says_14 : decode prog_10_method_30_code 14 = .ok (.iload_n 3, 1) := by decide +kernel
theorem d_Model_says_15 : decode prog_10_method_30_code 15 = .ok (.i2l, 1) := by decide +kernel
theorem d_Model_says_16 : decode prog_10_method_30_code 16 = .ok (.lconst 1, 1) := by decide +kernel
theorem d_Model_says_17 : decode prog_10_method_30_code 17 = .ok (.ldc2_w 184, 3) := by decide +kernel
theorem d_Model_says_20 : decode prog_10_method_30_code 20 = .ok (.invokestatic 82, 3) := by decide +kernel
theorem d_Model_says_23 : decode prog_10_method_30_code 23 = .ok (.ifCond .ne 5, 3) := by decide +kernel
theorem d_Model_says_26 : decode prog_10_method_30_code 26 = .ok (.iconst (-1), 1) := by decide +kernel
theorem d_Model_says_27 : decode prog_10_method_30_code 27 = .ok (.ireturn, 1) := by decide +kernel
theorem d_Model_says_28 : decode prog_10_method_30_code 28 = .ok (.iconst 0, 1) := by decide +kernel
theorem d_Model_says_29 : decode prog_10_method_30_code 29 = .ok (.istore 4, 2) := by decide +kernel
theorem d_Model_says_31 : decode prog_10_method_30_code 31 = .ok (.iload 4, 2) := by decide +kernel
theorem d_Model_says_33 : decode prog_10_method_30_code 33 = .ok (.bipush 12, 2) := by decide +kernel
theorem d_Model_says_35 : decode prog_10_method_30_code 35 = .ok (.if_icmp .gt 23, 3) := by decide +kernel
theorem d_Model_says_38 : decode prog_10_method_30_code 38 = .ok (.iload 4, 2) := by decide +kernel
theorem d_Model_says_40 : decode prog_10_method_30_code 40 = .ok (.iload_n 1, 1) := by decide +kernel
theorem d_Model_says_41 : decode prog_10_method_30_code 41 = .ok (.iload_n 2, 1) := by decide +kernel
theorem d_Model_says_42 : decode prog_10_method_30_code 42 = .ok (.iload_n 3, 1) := by decide +kernel
theorem d_Model_says_43 : decode prog_10_method_30_code 43 = .ok (.invokestatic 186, 3) := by decide +kernel
theorem d_Model_says_46 : decode prog_10_method_30_code 46 = .ok (.ifCond .eq 6, 3) := by decide +kernel
theorem d_Model_says_49 : decode prog_10_method_30_code 49 = .ok (.iload 4, 2) := by decide +kernel
theorem d_Model_says_51 : decode prog_10_method_30_code 51 = .ok (.ireturn, 1) := by decide +kernel
theorem d_Model_says_52 : decode prog_10_method_30_code 52 = .ok (.iinc 4 1, 3) := by decide +kernel
theorem d_Model_says_55 : decode prog_10_method_30_code 55 = .ok (.goto (-24), 3) := by decide +kernel
theorem d_Model_says_58 : decode prog_10_method_30_code 58 = .ok (.bipush (-4), 2) := by decide +kernel
theorem d_Model_says_60 : decode prog_10_method_30_code 60 = .ok (.ireturn, 1) := by decide +kernel
theorem d_Model_controls_0 : decode prog_10_method_31_code 0 = .ok (.iload_n 1, 1) := by decide +kernel
theorem d_Model_controls_1 : decode prog_10_method_31_code 1 = .ok (.i2l, 1) := by decide +kernel
theorem d_Model_controls_2 : decode prog_10_method_31_code 2 = .ok (.lconst 1, 1) := by decide +kernel
theorem d_Model_controls_3 : decode prog_10_method_31_code 3 = .ok (.ldc2_w 109, 3) := by decide +kernel
theorem d_Model_controls_6 : decode prog_10_method_31_code 6 = .ok (.invokestatic 82, 3) := by decide +kernel
theorem d_Model_controls_9 : decode prog_10_method_31_code 9 = .ok (.ifCond .eq 22, 3) := by decide +kernel
theorem d_Model_controls_12 : decode prog_10_method_31_code 12 = .ok (.iload_n 2, 1) := by decide +kernel
theorem d_Model_controls_13 : decode prog_10_method_31_code 13 = .ok (.invokestatic 173, 3) := by decide +kernel
theorem d_Model_controls_16 : decode prog_10_method_31_code 16 = .ok (.ifCond .eq 15, 3) := by decide +kernel
theorem d_Model_controls_19 : decode prog_10_method_31_code 19 = .ok (.iload_n 3, 1) := by decide +kernel
theorem d_Model_controls_20 : decode prog_10_method_31_code 20 = .ok (.i2l, 1) := by decide +kernel
theorem d_Model_controls_21 : decode prog_10_method_31_code 21 = .ok (.lconst 1, 1) := by decide +kernel
theorem d_Model_controls_22 : decode prog_10_method_31_code 22 = .ok (.ldc2_w 184, 3) := by decide +kernel
theorem d_Model_controls_25 : decode prog_10_method_31_code 25 = .ok (.invokestatic 82, 3) := by decide +kernel
theorem d_Model_controls_28 : decode prog_10_method_31_code 28 = .ok (.ifCond .ne 5, 3) := by decide +kernel
theorem d_Model_controls_31 : decode prog_10_method_31_code 31 = .ok (.iconst (-1), 1) := by decide +kernel
theorem d_Model_controls_32 : decode prog_10_method_31_code 32 = .ok (.ireturn, 1) := by decide +kernel
theorem d_Model_controls_33 : decode prog_10_method_31_code 33 = .ok (.iconst 1, 1) := by decide +kernel
theorem d_Model_controls_34 : decode prog_10_method_31_code 34 = .ok (.istore 4, 2) := by decide +kernel
theorem d_Model_controls_36 : decode prog_10_method_31_code 36 = .ok (.iload 4, 2) := by decide +kernel
theorem d_Model_controls_38 : decode prog_10_method_31_code 38 = .ok (.bipush 99, 2) := by decide +kernel
theorem d_Model_controls_40 : decode prog_10_method_31_code 40 = .ok (.if_icmp .gt 23, 3) := by decide +kernel
theorem d_Model_controls_43 : decode prog_10_method_31_code 43 = .ok (.iload_n 1, 1) := by decide +kernel
theorem d_Model_controls_44 : decode prog_10_method_31_code 44 = .ok (.iload_n 2, 1) := by decide +kernel
theorem d_Model_controls_45 : decode prog_10_method_31_code 45 = .ok (.iload 4, 2) := by decide +kernel
theorem d_Model_controls_47 : decode prog_10_method_31_code 47 = .ok (.iload_n 3, 1) := by decide +kernel
theorem d_Model_controls_48 : decode prog_10_method_31_code 48 = .ok (.invokestatic 186, 3) := by decide +kernel
theorem d_Model_controls_51 : decode prog_10_method_31_code 51 = .ok (.ifCond .eq 6, 3) := by decide +kernel
theorem d_Model_controls_54 : decode prog_10_method_31_code 54 = .ok (.iload 4, 2) := by decide +kernel
theorem d_Model_controls_56 : decode prog_10_method_31_code 56 = .ok (.ireturn, 1) := by decide +kernel
theorem d_Model_controls_57 : decode prog_10_method_31_code 57 = .ok (.iinc 4 1, 3) := by decide +kernel
theorem d_Model_controls_60 : decode prog_10_method_31_code 60 = .ok (.goto (-24), 3) := by decide +kernel
theorem d_Model_controls_63 : decode prog_10_method_31_code 63 = .ok (.bipush (-4), 2) := by decide +kernel
theorem d_Model_controls_65 : decode prog_10_method_31_code 65 = .ok (.ireturn, 1) := by decide +kernel
theorem d_Model_isHeap_0 : decode prog_10_method_32_code 0 = .ok (.aload_n 0, 1) := by decide +kernel
theorem d_Model_isHeap_1 : decode prog_10_method_32_code 1 = .ok (.getfield 67, 3) := by decide +kernel
theorem d_Model_isHeap_4 : decode prog_10_method_32_code 4 = .ok (.iconst 0, 1) := by decide +kernel
theorem d_Model_isHeap_5 : decode prog_10_method_32_code 5 = .ok (.iload_n 1, 1) := by decide +kernel
theorem d_Model_isHeap_6 : decode prog_10_method_32_code 6 = .ok (.iastore, 1) := by decide +kernel
theorem d_Model_isHeap_7 : decode prog_10_method_32_code 7 = .ok (.aload_n 0, 1) := by decide +kernel
theorem d_Model_isHeap_8 : decode prog_10_method_32_code 8 = .ok (.getfield 67, 3) := by decide +kernel
theorem d_Model_isHeap_11 : decode prog_10_method_32_code 11 = .ok (.iconst 1, 1) := by decide +kernel
theorem d_Model_isHeap_12 : decode prog_10_method_32_code 12 = .ok (.iload_n 2, 1) := by decide +kernel
theorem d_Model_isHeap_13 : decode prog_10_method_32_code 13 = .ok (.iastore, 1) := by decide +kernel
theorem d_Model_isHeap_14 : decode prog_10_method_32_code 14 = .ok (.aload_n 0, 1) := by decide +kernel
theorem d_Model_isHeap_15 : decode prog_10_method_32_code 15 = .ok (.getfield 67, 3) := by decide +kernel
theorem d_Model_isHeap_18 : decode prog_10_method_32_code 18 = .ok (.iconst 2, 1) := by decide +kernel
theorem d_Model_isHeap_19 : decode prog_10_method_32_code 19 = .ok (.iload_n 3, 1) := by decide +kernel
theorem d_Model_isHeap_20 : decode prog_10_method_32_code 20 = .ok (.iastore, 1) := by decide +kernel
theorem d_Model_isHeap_21 : decode prog_10_method_32_code 21 = .ok (.aload_n 0, 1) := by decide +kernel
theorem d_Model_isHeap_22 : decode prog_10_method_32_code 22 = .ok (.getfield 67, 3) := by decide +kernel
theorem d_Model_isHeap_25 : decode prog_10_method_32_code 25 = .ok (.iconst 3, 1) := by decide +kernel
theorem d_Model_isHeap_26 : decode prog_10_method_32_code 26 = .ok (.iload 4, 2) := by decide +kernel
theorem d_Model_isHeap_28 : decode prog_10_method_32_code 28 = .ok (.iastore, 1) := by decide +kernel
theorem d_Model_isHeap_29 : decode prog_10_method_32_code 29 = .ok (.iload_n 1, 1) := by decide +kernel
theorem d_Model_isHeap_30 : decode prog_10_method_32_code 30 = .ok (.i2l, 1) := by decide +kernel
theorem d_Model_isHeap_31 : decode prog_10_method_32_code 31 = .ok (.lconst 0, 1) := by decide +kernel
theorem d_Model_isHeap_32 : decode prog_10_method_32_code 32 = .ok (.iload 5, 2) := by decide +kernel
theorem d_Model_isHeap_34 : decode prog_10_method_32_code 34 = .ok (.i2l, 1) := by decide +kernel
theorem d_Model_isHeap_35 : decode prog_10_method_32_code 35 = .ok (.invokestatic 82, 3) := by decide +kernel
theorem d_Model_isHeap_38 : decode prog_10_method_32_code 38 = .ok (.ifCond .eq 57, 3) := by decide +kernel
theorem d_Model_isHeap_41 : decode prog_10_method_32_code 41 = .ok (.iload_n 2, 1) := by decide +kernel
theorem d_Model_isHeap_42 : decode prog_10_method_32_code 42 = .ok (.i2l, 1) := by decide +kernel
theorem d_Model_isHeap_43 : decode prog_10_method_32_code 43 = .ok (.lconst 0, 1) := by decide +kernel
theorem d_Model_isHeap_44 : decode prog_10_method_32_code 44 = .ok (.iload 5, 2) := by decide +kernel
theorem d_Model_isHeap_46 : decode prog_10_method_32_code 46 = .ok (.i2l, 1) := by decide +kernel
theorem d_Model_isHeap_47 : decode prog_10_method_32_code 47 = .ok (.invokestatic 82, 3) := by decide +kernel
theorem d_Model_isHeap_50 : decode prog_10_method_32_code 50 = .ok (.ifCond .eq 45, 3) := by decide +kernel
theorem d_Model_isHeap_53 : decode prog_10_method_32_code 53 = .ok (.iload_n 3, 1) := by decide +kernel
theorem d_Model_isHeap_54 : decode prog_10_method_32_code 54 = .ok (.i2l, 1) := by decide +kernel
theorem d_Model_isHeap_55 : decode prog_10_method_32_code 55 = .ok (.lconst 0, 1) := by decide +kernel
theorem d_Model_isHeap_56 : decode prog_10_method_32_code 56 = .ok (.iload 5, 2) := by decide +kernel
theorem d_Model_isHeap_58 : decode prog_10_method_32_code 58 = .ok (.i2l, 1) := by decide +kernel
theorem d_Model_isHeap_59 : decode prog_10_method_32_code 59 = .ok (.invokestatic 82, 3) := by decide +kernel
theorem d_Model_isHeap_62 : decode prog_10_method_32_code 62 = .ok (.ifCond .eq 33, 3) := by decide +kernel
theorem d_Model_isHeap_65 : decode prog_10_method_32_code 65 = .ok (.iload 4, 2) := by decide +kernel
theorem d_Model_isHeap_67 : decode prog_10_method_32_code 67 = .ok (.i2l, 1) := by decide +kernel
theorem d_Model_isHeap_68 : decode prog_10_method_32_code 68 = .ok (.lconst 0, 1) := by decide +kernel
theorem d_Model_isHeap_69 : decode prog_10_method_32_code 69 = .ok (.iload 5, 2) := by decide +kernel
theorem d_Model_isHeap_71 : decode prog_10_method_32_code 71 = .ok (.i2l, 1) := by decide +kernel
theorem d_Model_isHeap_72 : decode prog_10_method_32_code 72 = .ok (.invokestatic 82, 3) := by decide +kernel
theorem d_Model_isHeap_75 : decode prog_10_method_32_code 75 = .ok (.ifCond .eq 20, 3) := by decide +kernel
theorem d_Model_isHeap_78 : decode prog_10_method_32_code 78 = .ok (.iload_n 1, 1) := by decide +kernel
theorem d_Model_isHeap_79 : decode prog_10_method_32_code 79 = .ok (.iload_n 2, 1) := by decide +kernel
theorem d_Model_isHeap_80 : decode prog_10_method_32_code 80 = .ok (.iadd, 1) := by decide +kernel
theorem d_Model_isHeap_81 : decode prog_10_method_32_code 81 = .ok (.iload_n 3, 1) := by decide +kernel
theorem d_Model_isHeap_82 : decode prog_10_method_32_code 82 = .ok (.iadd, 1) := by decide +kernel
theorem d_Model_isHeap_83 : decode prog_10_method_32_code 83 = .ok (.iload 4, 2) := by decide +kernel
theorem d_Model_isHeap_85 : decode prog_10_method_32_code 85 = .ok (.iadd, 1) := by decide +kernel
theorem d_Model_isHeap_86 : decode prog_10_method_32_code 86 = .ok (.iload 5, 2) := by decide +kernel
theorem d_Model_isHeap_88 : decode prog_10_method_32_code 88 = .ok (.if_icmp .gt 7, 3) := by decide +kernel
theorem d_Model_isHeap_91 : decode prog_10_method_32_code 91 = .ok (.iconst 1, 1) := by decide +kernel
theorem d_Model_isHeap_92 : decode prog_10_method_32_code 92 = .ok (.goto 4, 3) := by decide +kernel
theorem d_Model_isHeap_95 : decode prog_10_method_32_code 95 = .ok (.iconst 0, 1) := by decide +kernel
theorem d_Model_isHeap_96 : decode prog_10_method_32_code 96 = .ok (.ireturn, 1) := by decide +kernel
theorem d_Model_likely_0 : decode prog_10_method_33_code 0 = .ok (.lconst 1, 1) := by decide +kernel
theorem d_Model_likely_1 : decode prog_10_method_33_code 1 = .ok (.lstore_n 2, 1) := by decide +kernel
theorem d_Model_likely_2 : decode prog_10_method_33_code 2 = .ok (.iconst 0, 1) := by decide +kernel
theorem d_Model_likely_3 : decode prog_10_method_33_code 3 = .ok (.istore 4, 2) := by decide +kernel
theorem d_Model_likely_5 : decode prog_10_method_33_code 5 = .ok (.iload 4, 2) := by decide +kernel
theorem d_Model_likely_7 : decode prog_10_method_33_code 7 = .ok (.iconst 4, 1) := by decide +kernel
theorem d_Model_likely_8 : decode prog_10_method_33_code 8 = .ok (.if_icmp .ge 34, 3) := by decide +kernel
theorem d_Model_likely_11 : decode prog_10_method_33_code 11 = .ok (.lload_n 2, 1) := by decide +kernel
theorem d_Model_likely_12 : decode prog_10_method_33_code 12 = .ok (.aload_n 0, 1) := by decide +kernel
theorem d_Model_likely_13 : decode prog_10_method_33_code 13 = .ok (.getfield 16, 3) := by decide +kernel
theorem d_Model_likely_16 : decode prog_10_method_33_code 16 = .ok (.iconst 4, 1) := by decide +kernel
theorem d_Model_likely_17 : decode prog_10_method_33_code 17 = .ok (.iload_n 1, 1) := by decide +kernel
theorem d_Model_likely_18 : decode prog_10_method_33_code 18 = .ok (.imul, 1) := by decide +kernel
theorem d_Model_likely_19 : decode prog_10_method_33_code 19 = .ok (.iload 4, 2) := by decide +kernel
theorem d_Model_likely_21 : decode prog_10_method_33_code 21 = .ok (.iadd, 1) := by decide +kernel
theorem d_Model_likely_22 : decode prog_10_method_33_code 22 = .ok (.iaload, 1) := by decide +kernel
theorem d_Model_likely_23 : decode prog_10_method_33_code 23 = .ok (.i2l, 1) := by decide +kernel
theorem d_Model_likely_24 : decode prog_10_method_33_code 24 = .ok (.aload_n 0, 1) := by decide +kernel
theorem d_Model_likely_25 : decode prog_10_method_33_code 25 = .ok (.getfield 67, 3) := by decide +kernel
theorem d_Model_likely_28 : decode prog_10_method_33_code 28 = .ok (.iload 4, 2) := by decide +kernel
theorem d_Model_likely_30 : decode prog_10_method_33_code 30 = .ok (.iaload, 1) := by decide +kernel
theorem d_Model_likely_31 : decode prog_10_method_33_code 31 = .ok (.invokestatic 176, 3) := by decide +kernel
theorem d_Model_likely_34 : decode prog_10_method_33_code 34 = .ok (.lmul, 1) := by decide +kernel
theorem d_Model_likely_35 : decode prog_10_method_33_code 35 = .ok (.lstore_n 2, 1) := by decide +kernel
theorem d_Model_likely_36 : decode prog_10_method_33_code 36 = .ok (.iinc 4 1, 3) := by decide +kernel
theorem d_Model_likely_39 : decode prog_10_method_33_code 39 = .ok (.goto (-34), 3) := by decide +kernel
theorem d_Model_likely_42 : decode prog_10_method_33_code 42 = .ok (.lload_n 2, 1) := by decide +kernel
theorem d_Model_likely_43 : decode prog_10_method_33_code 43 = .ok (.lreturn, 1) := by decide +kernel
theorem d_Model_heap_0 : decode prog_10_method_34_code 0 = .ok (.aload_n 0, 1) := by decide +kernel
theorem d_Model_heap_1 : decode prog_10_method_34_code 1 = .ok (.iload_n 1, 1) := by decide +kernel
theorem d_Model_heap_2 : decode prog_10_method_34_code 2 = .ok (.invokevirtual 144, 3) := by decide +kernel
theorem d_Model_heap_5 : decode prog_10_method_34_code 5 = .ok (.ifCond .eq 29, 3) := by decide +kernel
theorem d_Model_heap_8 : decode prog_10_method_34_code 8 = .ok (.aload_n 0, 1) := by decide +kernel
theorem d_Model_heap_9 : decode prog_10_method_34_code 9 = .ok (.iload_n 2, 1) := by decide +kernel
theorem d_Model_heap_10 : decode prog_10_method_34_code 10 = .ok (.iload_n 3, 1) := by decide +kernel
theorem d_Model_heap_11 : decode prog_10_method_34_code 11 = .ok (.iload 4, 2) := by decide +kernel
theorem d_Model_heap_13 : decode prog_10_method_34_code 13 = .ok (.iload 5, 2) := by decide +kernel
theorem d_Model_heap_15 : decode prog_10_method_34_code 15 = .ok (.bipush 8, 2) := by decide +kernel
theorem d_Model_heap_17 : decode prog_10_method_34_code 17 = .ok (.invokevirtual 190, 3) := by decide +kernel
theorem d_Model_heap_20 : decode prog_10_method_34_code 20 = .ok (.ifCond .eq 14, 3) := by decide +kernel
theorem d_Model_heap_23 : decode prog_10_method_34_code 23 = .ok (.iload 6, 2) := by decide +kernel
theorem d_Model_heap_25 : decode prog_10_method_34_code 25 = .ok (.i2l, 1) := by decide +kernel
theorem d_Model_heap_26 : decode prog_10_method_34_code 26 = .ok (.lconst 0, 1) := by decide +kernel
theorem d_Model_heap_27 : decode prog_10_method_34_code 27 = .ok (.lconst 1, 1) := by decide +kernel
theorem d_Model_heap_28 : decode prog_10_method_34_code 28 = .ok (.invokestatic 82, 3) := by decide +kernel
theorem d_Model_heap_31 : decode prog_10_method_34_code 31 = .ok (.ifCond .ne 7, 3) := by decide +kernel
theorem d_Model_heap_34 : decode prog_10_method_34_code 34 = .ok (.ldc2_w 147, 3) := by decide +kernel
theorem d_Model_heap_37 : decode prog_10_method_34_code 37 = .ok (.lreturn, 1) := by decide +kernel
theorem d_Model_heap_38 : decode prog_10_method_34_code 38 = .ok (.lconst 0, 1) := by decide +kernel
theorem d_Model_heap_39 : decode prog_10_method_34_code 39 = .ok (.lstore 7, 2) := by decide +kernel
theorem d_Model_heap_41 : decode prog_10_method_34_code 41 = .ok (.iconst 0, 1) := by decide +kernel
theorem d_Model_heap_42 : decode prog_10_method_34_code 42 = .ok (.istore 9, 2) := by decide +kernel
theorem d_Model_heap_44 : decode prog_10_method_34_code 44 = .ok (.iload 9, 2) := by decide +kernel
theorem d_Model_heap_46 : decode prog_10_method_34_code 46 = .ok (.aload_n 0, 1) := by decide +kernel
theorem d_Model_heap_47 : decode prog_10_method_34_code 47 = .ok (.getfield 13, 3) := by decide +kernel
theorem d_Model_heap_50 : decode prog_10_method_34_code 50 = .ok (.iconst 0, 1) := by decide +kernel
theorem d_Model_heap_51 : decode prog_10_method_34_code 51 = .ok (.iaload, 1) := by decide +kernel
theorem d_Model_heap_52 : decode prog_10_method_34_code 52 = .ok (.if_icmp .ge 20, 3) := by decide +kernel
theorem d_Model_heap_55 : decode prog_10_method_34_code 55 = .ok (.lload 7, 2) := by decide +kernel
theorem d_Model_heap_57 : decode prog_10_method_34_code 57 = .ok (.aload_n 0, 1) := by decide +kernel
theorem d_Model_heap_58 : decode prog_10_method_34_code 58 = .ok (.iload 9, 2) := by decide +kernel
theorem d_Model_heap_60 : decode prog_10_method_34_code 60 = .ok (.invokevirtual 194, 3) := by decide +kernel
theorem d_Model_heap_63 : decode prog_10_method_34_code 63 = .ok (.ladd, 1) := by decide +kernel
theorem d_Model_heap_64 : decode prog_10_method_34_code 64 = .ok (.lstore 7, 2) := by decide +kernel
theorem d_Model_heap_66 : decode prog_10_method_34_code 66 = .ok (.iinc 9 1, 3) := by decide +kernel
theorem d_Model_heap_69 : decode prog_10_method_34_code 69 = .ok (.goto (-25), 3) := by decide +kernel
theorem d_Model_heap_72 : decode prog_10_method_34_code 72 = .ok (.lload 7, 2) := by decide +kernel
theorem d_Model_heap_74 : decode prog_10_method_34_code 74 = .ok (.lconst 0, 1) := by decide +kernel
theorem d_Model_heap_75 : decode prog_10_method_34_code 75 = .ok (.lcmp, 1) := by decide +kernel
theorem d_Model_heap_76 : decode prog_10_method_34_code 76 = .ok (.ifCond .ne 7, 3) := by decide +kernel
theorem d_Model_heap_79 : decode prog_10_method_34_code 79 = .ok (.ldc2_w 198, 3) := by decide +kernel
theorem d_Model_heap_82 : decode prog_10_method_34_code 82 = .ok (.lreturn, 1) := by decide +kernel
theorem d_Model_heap_83 : decode prog_10_method_34_code 83 = .ok (.aload_n 0, 1) := by decide +kernel
theorem d_Model_heap_84 : decode prog_10_method_34_code 84 = .ok (.iload_n 1, 1) := by decide +kernel
theorem d_Model_heap_85 : decode prog_10_method_34_code 85 = .ok (.invokevirtual 194, 3) := by decide +kernel
theorem d_Model_heap_88 : decode prog_10_method_34_code 88 = .ok (.lload 7, 2) := by decide +kernel
theorem d_Model_heap_90 : decode prog_10_method_34_code 90 = .ok (.invokestatic 180, 3) := by decide +kernel
theorem d_Model_heap_93 : decode prog_10_method_34_code 93 = .ok (.lstore 9, 2) := by decide +kernel
theorem d_Model_heap_95 : decode prog_10_method_34_code 95 = .ok (.iload 6, 2) := by decide +kernel
theorem d_Model_heap_97 : decode prog_10_method_34_code 97 = .ok (.ifCond .ne 14, 3) := by decide +kernel
theorem d_Model_heap_100 : decode prog_10_method_34_code 100 = .ok (.aload_n 0, 1) := by decide +kernel
theorem d_Model_heap_101 : decode prog_10_method_34_code 101 = .ok (.iload_n 1, 1) := by decide +kernel
theorem d_Model_heap_102 : decode prog_10_method_34_code 102 = .ok (.invokevirtual 194, 3) := by decide +kernel
theorem d_Model_heap_105 : decode prog_10_method_34_code 105 = .ok (.lload 9, 2) := by decide +kernel
theorem d_Model_heap_107 : decode prog_10_method_34_code 107 = .ok (.ldiv, 1) := by decide +kernel
theorem d_Model_heap_108 : decode prog_10_method_34_code 108 = .ok (.goto 8, 3) := by decide +kernel
theorem d_Model_heap_111 : decode prog_10_method_34_code 111 = .ok (.lload 7, 2) := by decide +kernel
theorem d_Model_heap_113 : decode prog_10_method_34_code 113 = .ok (.lload 9, 2) := by decide +kernel
theorem d_Model_heap_115 : decode prog_10_method_34_code 115 = .ok (.ldiv, 1) := by decide +kernel
theorem d_Model_heap_116 : decode prog_10_method_34_code 116 = .ok (.lreturn, 1) := by decide +kernel
theorem d_Model_most_0 : decode prog_10_method_35_code 0 = .ok (.aload_n 0, 1) := by decide +kernel
theorem d_Model_most_1 : decode prog_10_method_35_code 1 = .ok (.iload_n 1, 1) := by decide +kernel
theorem d_Model_most_2 : decode prog_10_method_35_code 2 = .ok (.iload_n 2, 1) := by decide +kernel
theorem d_Model_most_3 : decode prog_10_method_35_code 3 = .ok (.iload_n 3, 1) := by decide +kernel
theorem d_Model_most_4 : decode prog_10_method_35_code 4 = .ok (.iload 4, 2) := by decide +kernel
theorem d_Model_most_6 : decode prog_10_method_35_code 6 = .ok (.bipush 8, 2) := by decide +kernel
theorem d_Model_most_8 : decode prog_10_method_35_code 8 = .ok (.invokevirtual 190, 3) := by decide +kernel
theorem d_Model_most_11 : decode prog_10_method_35_code 11 = .ok (.ifCond .ne 5, 3) := by decide +kernel
theorem d_Model_most_14 : decode prog_10_method_35_code 14 = .ok (.iconst (-1), 1) := by decide +kernel
theorem d_Model_most_15 : decode prog_10_method_35_code 15 = .ok (.ireturn, 1) := by decide +kernel
theorem d_Model_most_16 : decode prog_10_method_35_code 16 = .ok (.iconst 0, 1) := by decide +kernel
theorem d_Model_most_17 : decode prog_10_method_35_code 17 = .ok (.istore 5, 2) := by decide +kernel
theorem d_Model_most_19 : decode prog_10_method_35_code 19 = .ok (.iconst 1, 1) := by decide +kernel
theorem d_Model_most_20 : decode prog_10_method_35_code 20 = .ok (.istore 6, 2) := by decide +kernel
theorem d_Model_most_22 : decode prog_10_method_35_code 22 = .ok (.iload 6, 2) := by decide +kernel
theorem d_Model_most_24 : decode prog_10_method_35_code 24 = .ok (.aload_n 0, 1) := by decide +kernel
theorem d_Model_most_25 : decode prog_10_method_35_code 25 = .ok (.getfield 13, 3) := by decide +kernel
theorem d_Model_most_28 : decode prog_10_method_35_code 28 = .ok (.iconst 0, 1) := by decide +kernel
theorem d_Model_most_29 : decode prog_10_method_35_code 29 = .ok (.iaload, 1) := by decide +kernel
theorem d_Model_most_30 : decode prog_10_method_35_code 30 = .ok (.if_icmp .ge 34, 3) := by decide +kernel
theorem d_Model_most_33 : decode prog_10_method_35_code 33 = .ok (.aload_n 0, 1) := by decide +kernel
theorem d_Model_most_34 : decode prog_10_method_35_code 34 = .ok (.iload 6, 2) := by decide +kernel
theorem d_Model_most_36 : decode prog_10_method_35_code 36 = .ok (.invokevirtual 194, 3) := by decide +kernel
theorem d_Model_most_39 : decode prog_10_method_35_code 39 = .ok (.aload_n 0, 1) := by decide +kernel
theorem d_Model_most_40 : decode prog_10_method_35_code 40 = .ok (.iload 5, 2) := by decide +kernel
theorem d_Model_most_42 : decode prog_10_method_35_code 42 = .ok (.invokevirtual 194, 3) := by decide +kernel
theorem d_Model_most_45 : decode prog_10_method_35_code 45 = .ok (.lcmp, 1) := by decide +kernel
theorem d_Model_most_46 : decode prog_10_method_35_code 46 = .ok (.ifCond .le 8, 3) := by decide +kernel
theorem d_Model_most_49 : decode prog_10_method_35_code 49 = .ok (.iload 6, 2) := by decide +kernel
theorem d_Model_most_51 : decode prog_10_method_35_code 51 = .ok (.goto 5, 3) := by decide +kernel
theorem d_Model_most_54 : decode prog_10_method_35_code 54 = .ok (.iload 5, 2) := by decide +kernel
theorem d_Model_most_56 : decode prog_10_method_35_code 56 = .ok (.istore 5, 2) := by decide +kernel
theorem d_Model_most_58 : decode prog_10_method_35_code 58 = .ok (.iinc 6 1, 3) := by decide +kernel
theorem d_Model_most_61 : decode prog_10_method_35_code 61 = .ok (.goto (-39), 3) := by decide +kernel
theorem d_Model_most_64 : decode prog_10_method_35_code 64 = .ok (.aload_n 0, 1) := by decide +kernel
theorem d_Model_most_65 : decode prog_10_method_35_code 65 = .ok (.iload 5, 2) := by decide +kernel
theorem d_Model_most_67 : decode prog_10_method_35_code 67 = .ok (.invokevirtual 194, 3) := by decide +kernel
theorem d_Model_most_70 : decode prog_10_method_35_code 70 = .ok (.lconst 0, 1) := by decide +kernel
theorem d_Model_most_71 : decode prog_10_method_35_code 71 = .ok (.lcmp, 1) := by decide +kernel
theorem d_Model_most_72 : decode prog_10_method_35_code 72 = .ok (.ifCond .ne 8, 3) := by decide +kernel
theorem d_Model_most_75 : decode prog_10_method_35_code 75 = .ok (.bipush (-4), 2) := by decide +kernel
theorem d_Model_most_77 : decode prog_10_method_35_code 77 = .ok (.goto 5, 3) := by decide +kernel
theorem d_Model_most_80 : decode prog_10_method_35_code 80 = .ok (.iload 5, 2) := by decide +kernel
theorem d_Model_most_82 : decode prog_10_method_35_code 82 = .ok (.ireturn, 1) := by decide +kernel
theorem d_Model_shares_0 : decode prog_10_method_36_code 0 = .ok (.aload_n 0, 1) := by decide +kernel
theorem d_Model_shares_1 : decode prog_10_method_36_code 1 = .ok (.iload_n 1, 1) := by decide +kernel
theorem d_Model_shares_2 : decode prog_10_method_36_code 2 = .ok (.invokevirtual 144, 3) := by decide +kernel
theorem d_Model_shares_5 : decode prog_10_method_36_code 5 = .ok (.ifCond .eq 32, 3) := by decide +kernel
theorem d_Model_shares_8 : decode prog_10_method_36_code 8 = .ok (.aload_n 0, 1) := by decide +kernel
theorem d_Model_shares_9 : decode prog_10_method_36_code 9 = .ok (.iload_n 2, 1) := by decide +kernel
theorem d_Model_shares_10 : decode prog_10_method_36_code 10 = .ok (.invokevirtual 144, 3) := by decide +kernel
theorem d_Model_shares_13 : decode prog_10_method_36_code 13 = .ok (.ifCond .eq 24, 3) := by decide +kernel
theorem d_Model_shares_16 : decode prog_10_method_36_code 16 = .ok (.iload_n 1, 1) := by decide +kernel
theorem d_Model_shares_17 : decode prog_10_method_36_code 17 = .ok (.iload_n 2, 1) := by decide +kernel
theorem d_Model_shares_18 : decode prog_10_method_36_code 18 = .ok (.if_icmp .eq 19, 3) := by decide +kernel
theorem d_Model_shares_21 : decode prog_10_method_36_code 21 = .ok (.aload_n 0, 1) := by decide +kernel
theorem d_Model_shares_22 : decode prog_10_method_36_code 22 = .ok (.iload_n 3, 1) := by decide +kernel
theorem d_Model_shares_23 : decode prog_10_method_36_code 23 = .ok (.iload 4, 2) := by decide +kernel
theorem d_Model_shares_25 : decode prog_10_method_36_code 25 = .ok (.iload 5, 2) := by decide +kernel
theorem d_Model_shares_27 : decode prog_10_method_36_code 27 = .ok (.iload 6, 2) := by decide +kernel
theorem d_Model_shares_29 : decode prog_10_method_36_code 29 = .ok (.bipush 6, 2) := by decide +kernel
theorem d_Model_shares_31 : decode prog_10_method_36_code 31 = .ok (.invokevirtual 190, 3) := by decide +kernel
theorem d_Model_shares_34 : decode prog_10_method_36_code 34 = .ok (.ifCond .ne 5, 3) := by decide +kernel
theorem d_Model_shares_37 : decode prog_10_method_36_code 37 = .ok (.iconst (-1), 1) := by decide +kernel
theorem d_Model_shares_38 : decode prog_10_method_36_code 38 = .ok (.ireturn, 1) := by decide +kernel
theorem d_Model_shares_39 : decode prog_10_method_36_code 39 = .ok (.iconst 0, 1) := by decide +kernel
theorem d_Model_shares_40 : decode prog_10_method_36_code 40 = .ok (.istore 7, 2) := by decide +kernel
theorem d_Model_shares_42 : decode prog_10_method_36_code 42 = .ok (.ldc2_w 147, 3) := by decide +kernel
theorem d_Model_shares_45 : decode prog_10_method_36_code 45 = .ok (.lstore 8, 2) := by decide +kernel
theorem d_Model_shares_47 : decode prog_10_method_36_code 47 = .ok (.iconst 0, 1) := by decide +kernel
theorem d_Model_shares_48 : decode prog_10_method_36_code 48 = .ok (.istore 10, 2) := by decide +kernel
theorem d_Model_shares_50 : decode prog_10_method_36_code 50 = .ok (.iload 10, 2) := by decide +kernel
theorem d_Model_shares_52 : decode prog_10_method_36_code 52 = .ok (.bipush 10, 2) := by decide +kernel
theorem d_Model_shares_54 : decode prog_10_method_36_code 54 = .ok (.if_icmp .gt 109, 3) := by decide +kernel
theorem d_Model_shares_57 : decode prog_10_method_36_code 57 = .ok (.lconst 1, 1) := by decide +kernel
theorem d_Model_shares_58 : decode prog_10_method_36_code 58 = .ok (.lstore 11, 2) := by decide +kernel
theorem d_Model_shares_60 : decode prog_10_method_36_code 60 = .ok (.iconst 0, 1) := by decide +kernel
theorem d_Model_shares_61 : decode prog_10_method_36_code 61 = .ok (.istore 13, 2) := by decide +kernel
theorem d_Model_shares_63 : decode prog_10_method_36_code 63 = .ok (.iload 13, 2) := by decide +kernel
theorem d_Model_shares_65 : decode prog_10_method_36_code 65 = .ok (.iconst 4, 1) := by decide +kernel
theorem d_Model_shares_66 : decode prog_10_method_36_code 66 = .ok (.if_icmp .ge 57, 3) := by decide +kernel
theorem d_Model_shares_69 : decode prog_10_method_36_code 69 = .ok (.lload 11, 2) := by decide +kernel
theorem d_Model_shares_71 : decode prog_10_method_36_code 71 = .ok (.iload 10, 2) := by decide +kernel
theorem d_Model_shares_73 : decode prog_10_method_36_code 73 = .ok (.aload_n 0, 1) := by decide +kernel
theorem d_Model_shares_74 : decode prog_10_method_36_code 74 = .ok (.getfield 16, 3) := by decide +kernel
theorem d_Model_shares_77 : decode prog_10_method_36_code 77 = .ok (.iconst 4, 1) := by decide +kernel
theorem d_Model_shares_78 : decode prog_10_method_36_code 78 = .ok (.iload_n 1, 1) := by decide +kernel
theorem d_Model_shares_79 : decode prog_10_method_36_code 79 = .ok (.imul, 1) := by decide +kernel
theorem d_Model_shares_80 : decode prog_10_method_36_code 80 = .ok (.iload 13, 2) := by decide +kernel
theorem d_Model_shares_82 : decode prog_10_method_36_code 82 = .ok (.iadd, 1) := by decide +kernel
theorem d_Model_shares_83 : decode prog_10_method_36_code 83 = .ok (.iaload, 1) := by decide +kernel
theorem d_Model_shares_84 : decode prog_10_method_36_code 84 = .ok (.imul, 1) := by decide +kernel
theorem d_Model_shares_85 : decode prog_10_method_36_code 85 = .ok (.bipush 10, 2) := by decide +kernel
theorem d_Model_shares_87 : decode prog_10_method_36_code 87 = .ok (.iload 10, 2) := by decide +kernel
theorem d_Model_shares_89 : decode prog_10_method_36_code 89 = .ok (.isub, 1) := by decide +kernel
theorem d_Model_shares_90 : decode prog_10_method_36_code 90 = .ok (.aload_n 0, 1) := by decide +kernel
theorem d_Model_shares_91 : decode prog_10_method_36_code 91 = .ok (.getfield 16, 3) := by decide +kernel
theorem d_Model_shares_94 : decode prog_10_method_36_code 94 = .ok (.iconst 4, 1) := by decide +kernel
theorem d_Model_shares_95 : decode prog_10_method_36_code 95 = .ok (.iload_n 2, 1) := by decide +kernel
theorem d_Model_shares_96 : decode prog_10_method_36_code 96 = .ok (.imul, 1) := by decide +kernel
theorem d_Model_shares_97 : decode prog_10_method_36_code 97 = .ok (.iload 13, 2) := by decide +kernel
theorem d_Model_shares_99 : decode prog_10_method_36_code 99 = .ok (.iadd, 1) := by decide +kernel
theorem d_Model_shares_100 : decode prog_10_method_36_code 100 = .ok (.iaload, 1) := by decide +kernel
theorem d_Model_shares_101 : decode prog_10_method_36_code 101 = .ok (.imul, 1) := by decide +kernel
theorem d_Model_shares_102 : decode prog_10_method_36_code 102 = .ok (.iadd, 1) := by decide +kernel
theorem d_Model_shares_103 : decode prog_10_method_36_code 103 = .ok (.i2l, 1) := by decide +kernel
theorem d_Model_shares_104 : decode prog_10_method_36_code 104 = .ok (.aload_n 0, 1) := by decide +kernel
theorem d_Model_shares_105 : decode prog_10_method_36_code 105 = .ok (.getfield 67, 3) := by decide +kernel
theorem d_Model_shares_108 : decode prog_10_method_36_code 108 = .ok (.iload 13, 2) := by decide +kernel
theorem d_Model_shares_110 : decode prog_10_method_36_code 110 = .ok (.iaload, 1) := by decide +kernel
theorem d_Model_shares_111 : decode prog_10_method_36_code 111 = .ok (.invokestatic 176, 3) := by decide +kernel
theorem d_Model_shares_114 : decode prog_10_method_36_code 114 = .ok (.lmul, 1) := by decide +kernel
theorem d_Model_shares_115 : decode prog_10_method_36_code 115 = .ok (.lstore 11, 2) := by decide +kernel
theorem d_Model_shares_117 : decode prog_10_method_36_code 117 = .ok (.iinc 13 1, 3) := by decide +kernel
theorem d_Model_shares_120 : decode prog_10_method_36_code 120 = .ok (.goto (-57), 3) := by decide +kernel
theorem d_Model_shares_123 : decode prog_10_method_36_code 123 = .ok (.lload 11, 2) := by decide +kernel
theorem d_Model_shares_125 : decode prog_10_method_36_code 125 = .ok (.lload 8, 2) := by decide +kernel
theorem d_Model_shares_127 : decode prog_10_method_36_code 127 = .ok (.lcmp, 1) := by decide +kernel
theorem d_Model_shares_128 : decode prog_10_method_36_code 128 = .ok (.ifCond .le 8, 3) := by decide +kernel
theorem d_Model_shares_131 : decode prog_10_method_36_code 131 = .ok (.iload 10, 2) := by decide +kernel
theorem d_Model_shares_133 : decode prog_10_method_36_code 133 = .ok (.goto 5, 3) := by decide +kernel
theorem d_Model_shares_136 : decode prog_10_method_36_code 136 = .ok (.iload 7, 2) := by decide +kernel
theorem d_Model_shares_138 : decode prog_10_method_36_code 138 = .ok (.istore 7, 2) := by decide +kernel
theorem d_Model_shares_140 : decode prog_10_method_36_code 140 = .ok (.lload 11, 2) := by decide +kernel
theorem d_Model_shares_142 : decode prog_10_method_36_code 142 = .ok (.lload 8, 2) := by decide +kernel
theorem d_Model_shares_144 : decode prog_10_method_36_code 144 = .ok (.lcmp, 1) := by decide +kernel
theorem d_Model_shares_145 : decode prog_10_method_36_code 145 = .ok (.ifCond .le 8, 3) := by decide +kernel
theorem d_Model_shares_148 : decode prog_10_method_36_code 148 = .ok (.lload 11, 2) := by decide +kernel
theorem d_Model_shares_150 : decode prog_10_method_36_code 150 = .ok (.goto 5, 3) := by decide +kernel
theorem d_Model_shares_153 : decode prog_10_method_36_code 153 = .ok (.lload 8, 2) := by decide +kernel
theorem d_Model_shares_155 : decode prog_10_method_36_code 155 = .ok (.lstore 8, 2) := by decide +kernel
theorem d_Model_shares_157 : decode prog_10_method_36_code 157 = .ok (.iinc 10 1, 3) := by decide +kernel
theorem d_Model_shares_160 : decode prog_10_method_36_code 160 = .ok (.goto (-110), 3) := by decide +kernel
theorem d_Model_shares_163 : decode prog_10_method_36_code 163 = .ok (.iload 7, 2) := by decide +kernel
theorem d_Model_shares_165 : decode prog_10_method_36_code 165 = .ok (.ireturn, 1) := by decide +kernel
theorem d_Model_apart_0 : decode prog_10_method_37_code 0 = .ok (.iconst 0, 1) := by decide +kernel
theorem d_Model_apart_1 : decode prog_10_method_37_code 1 = .ok (.istore_n 3, 1) := by decide +kernel
theorem d_Model_apart_2 : decode prog_10_method_37_code 2 = .ok (.iconst 0, 1) := by decide +kernel
theorem d_Model_apart_3 : decode prog_10_method_37_code 3 = .ok (.istore 4, 2) := by decide +kernel
theorem d_Model_apart_5 : decode prog_10_method_37_code 5 = .ok (.iload 4, 2) := by decide +kernel
theorem d_Model_apart_7 : decode prog_10_method_37_code 7 = .ok (.iconst 4, 1) := by decide +kernel
theorem d_Model_apart_8 : decode prog_10_method_37_code 8 = .ok (.if_icmp .ge 43, 3) := by decide +kernel
theorem d_Model_apart_11 : decode prog_10_method_37_code 11 = .ok (.aload_n 0, 1) := by decide +kernel
theorem d_Model_apart_12 : decode prog_10_method_37_code 12 = .ok (.getfield 16, 3) := by decide +kernel
theorem d_Model_apart_15 : decode prog_10_method_37_code 15 = .ok (.iconst 4, 1) := by decide +kernel
theorem d_Model_apart_16 : decode prog_10_method_37_code 16 = .ok (.iload_n 1, 1) := by decide +kernel
theorem d_Model_apart_17 : decode prog_10_method_37_code 17 = .ok (.imul, 1) := by decide +kernel
theorem d_Model_apart_18 : decode prog_10_method_37_code 18 = .ok (.iload 4, 2) := by decide +kernel
theorem d_Model_apart_20 : decode prog_10_method_37_code 20 = .ok (.iadd, 1) := by decide +kernel
theorem d_Model_apart_21 : decode prog_10_method_37_code 21 = .ok (.iaload, 1) := by decide +kernel
theorem d_Model_apart_22 : decode prog_10_method_37_code 22 = .ok (.aload_n 2, 1) := by decide +kernel
theorem d_Model_apart_23 : decode prog_10_method_37_code 23 = .ok (.iload 4, 2) := by decide +kernel
theorem d_Model_apart_25 : decode prog_10_method_37_code 25 = .ok (.iaload, 1) := by decide +kernel
theorem d_Model_apart_26 : decode prog_10_method_37_code 26 = .ok (.isub, 1) := by decide +kernel
theorem d_Model_apart_27 : decode prog_10_method_37_code 27 = .ok (.istore 5, 2) := by decide +kernel
theorem d_Model_apart_29 : decode prog_10_method_37_code 29 = .ok (.iload_n 3, 1) := by decide +kernel
theorem d_Model_apart_30 : decode prog_10_method_37_code 30 = .ok (.iload 5, 2) := by decide +kernel
theorem d_Model_apart_32 : decode prog_10_method_37_code 32 = .ok (.ifCond .ge 9, 3) := by decide +kernel
theorem d_Model_apart_35 : decode prog_10_method_37_code 35 = .ok (.iload 5, 2) := by decide +kernel
theorem d_Model_apart_37 : decode prog_10_method_37_code 37 = .ok (.ineg, 1) := by decide +kernel
theorem d_Model_apart_38 : decode prog_10_method_37_code 38 = .ok (.goto 5, 3) := by decide +kernel
theorem d_Model_apart_41 : decode prog_10_method_37_code 41 = .ok (.iload 5, 2) := by decide +kernel
theorem d_Model_apart_43 : decode prog_10_method_37_code 43 = .ok (.iadd, 1) := by decide +kernel
theorem d_Model_apart_44 : decode prog_10_method_37_code 44 = .ok (.istore_n 3, 1) := by decide +kernel
theorem d_Model_apart_45 : decode prog_10_method_37_code 45 = .ok (.iinc 4 1, 3) := by decide +kernel
theorem d_Model_apart_48 : decode prog_10_method_37_code 48 = .ok (.goto (-43), 3) := by decide +kernel
theorem d_Model_apart_51 : decode prog_10_method_37_code 51 = .ok (.iload_n 3, 1) := by decide +kernel
theorem d_Model_apart_52 : decode prog_10_method_37_code 52 = .ok (.ireturn, 1) := by decide +kernel
theorem d_Model_areNear_0 : decode prog_10_method_38_code 0 = .ok (.iconst 0, 1) := by decide +kernel
theorem d_Model_areNear_1 : decode prog_10_method_38_code 1 = .ok (.istore 4, 2) := by decide +kernel
theorem d_Model_areNear_3 : decode prog_10_method_38_code 3 = .ok (.iload 4, 2) := by decide +kernel
theorem d_Model_areNear_5 : decode prog_10_method_38_code 5 = .ok (.iconst 4, 1) := by decide +kernel
theorem d_Model_areNear_6 : decode prog_10_method_38_code 6 = .ok (.if_icmp .ge 27, 3) := by decide +kernel
theorem d_Model_areNear_9 : decode prog_10_method_38_code 9 = .ok (.aload_n 0, 1) := by decide +kernel
theorem d_Model_areNear_10 : decode prog_10_method_38_code 10 = .ok (.getfield 73, 3) := by decide +kernel
theorem d_Model_areNear_13 : decode prog_10_method_38_code 13 = .ok (.iload 4, 2) := by decide +kernel
theorem d_Model_areNear_15 : decode prog_10_method_38_code 15 = .ok (.aload_n 0, 1) := by decide +kernel
theorem d_Model_areNear_16 : decode prog_10_method_38_code 16 = .ok (.getfield 16, 3) := by decide +kernel
theorem d_Model_areNear_19 : decode prog_10_method_38_code 19 = .ok (.iconst 4, 1) := by decide +kernel
theorem d_Model_areNear_20 : decode prog_10_method_38_code 20 = .ok (.iload_n 2, 1) := by decide +kernel
theorem d_Model_areNear_21 : decode prog_10_method_38_code 21 = .ok (.imul, 1) := by decide +kernel
theorem d_Model_areNear_22 : decode prog_10_method_38_code 22 = .ok (.iload 4, 2) := by decide +kernel
theorem d_Model_areNear_24 : decode prog_10_method_38_code 24 = .ok (.iadd, 1) := by decide +kernel
theorem d_Model_areNear_25 : decode prog_10_method_38_code 25 = .ok (.iaload, 1) := by decide +kernel
theorem d_Model_areNear_26 : decode prog_10_method_38_code 26 = .ok (.iastore, 1) := by decide +kernel
theorem d_Model_areNear_27 : decode prog_10_method_38_code 27 = .ok (.iinc 4 1, 3) := by decide +kernel
theorem d_Model_areNear_30 : decode prog_10_method_38_code 30 = .ok (.goto (-27), 3) := by decide +kernel
theorem d_Model_areNear_33 : decode prog_10_method_38_code 33 = .ok (.aload_n 0, 1) := by decide +kernel
theorem d_Model_areNear_34 : decode prog_10_method_38_code 34 = .ok (.iload_n 1, 1) := by decide +kernel
theorem d_Model_areNear_35 : decode prog_10_method_38_code 35 = .ok (.aload_n 0, 1) := by decide +kernel
theorem d_Model_areNear_36 : decode prog_10_method_38_code 36 = .ok (.getfield 73, 3) := by decide +kernel
theorem d_Model_areNear_39 : decode prog_10_method_38_code 39 = .ok (.invokevirtual 200, 3) := by decide +kernel
theorem d_Model_areNear_42 : decode prog_10_method_38_code 42 = .ok (.iload_n 3, 1) := by decide +kernel
theorem d_Model_areNear_43 : decode prog_10_method_38_code 43 = .ok (.if_icmp .gt 7, 3) := by decide +kernel
theorem d_Model_areNear_46 : decode prog_10_method_38_code 46 = .ok (.iconst 1, 1) := by decide +kernel
theorem d_Model_areNear_47 : decode prog_10_method_38_code 47 = .ok (.goto 4, 3) := by decide +kernel
theorem d_Model_areNear_50 : decode prog_10_method_38_code 50 = .ok (.iconst 0, 1) := by decide +kernel
theorem d_Model_areNear_51 : decode prog_10_method_38_code 51 = .ok (.ireturn, 1) := by decide +kernel
theorem d_Model_kin_0 : decode prog_10_method_39_code 0 = .ok (.iload_n 1, 1) := by decide +kernel
theorem d_Model_kin_1 : decode prog_10_method_39_code 1 = .ok (.i2l, 1) := by decide +kernel
theorem d_Model_kin_2 : decode prog_10_method_39_code 2 = .ok (.lconst 0, 1) := by decide +kernel
theorem d_Model_kin_3 : decode prog_10_method_39_code 3 = .ok (.ldc2_w 204, 3) := by decide +kernel
theorem d_Model_kin_6 : decode prog_10_method_39_code 6 = .ok (.invokestatic 82, 3) := by decide +kernel
theorem d_Model_kin_9 : decode prog_10_method_39_code 9 = .ok (.ifCond .eq 16, 3) := by decide +kernel
theorem d_Model_kin_12 : decode prog_10_method_39_code 12 = .ok (.iload_n 2, 1) := by decide +kernel
theorem d_Model_kin_13 : decode prog_10_method_39_code 13 = .ok (.iconst (-1), 1) := by decide +kernel
theorem d_Model_kin_14 : decode prog_10_method_39_code 14 = .ok (.if_icmp .eq 13, 3) := by decide +kernel
theorem d_Model_kin_17 : decode prog_10_method_39_code 17 = .ok (.aload_n 0, 1) := by decide +kernel
theorem d_Model_kin_18 : decode prog_10_method_39_code 18 = .ok (.iload_n 2, 1) := by decide +kernel
theorem d_Model_kin_19 : decode prog_10_method_39_code 19 = .ok (.invokevirtual 144, 3) := by decide +kernel
theorem d_Model_kin_22 : decode prog_10_method_39_code 22 = .ok (.ifCond .ne 5, 3) := by decide +kernel
theorem d_Model_kin_25 : decode prog_10_method_39_code 25 = .ok (.iconst (-1), 1) := by decide +kernel
theorem d_Model_kin_26 : decode prog_10_method_39_code 26 = .ok (.ireturn, 1) := by decide +kernel
theorem d_Model_kin_27 : decode prog_10_method_39_code 27 = .ok (.iconst 0, 1) := by decide +kernel
theorem d_Model_kin_28 : decode prog_10_method_39_code 28 = .ok (.istore_n 3, 1) := by decide +kernel
theorem d_Model_kin_29 : decode prog_10_method_39_code 29 = .ok (.iload_n 3, 1) := by decide +kernel
theorem d_Model_kin_30 : decode prog_10_method_39_code 30 = .ok (.aload_n 0, 1) := by decide +kernel
theorem d_Model_kin_31 : decode prog_10_method_39_code 31 = .ok (.getfield 13, 3) := by decide +kernel
theorem d_Model_kin_34 : decode prog_10_method_39_code 34 = .ok (.iconst 0, 1) := by decide +kernel
theorem d_Model_kin_35 : decode prog_10_method_39_code 35 = .ok (.iaload, 1) := by decide +kernel
theorem d_Model_kin_36 : decode prog_10_method_39_code 36 = .ok (.if_icmp .ge 16, 3) := by decide +kernel
theorem d_Model_kin_39 : decode prog_10_method_39_code 39 = .ok (.aload_n 0, 1) := by decide +kernel
theorem d_Model_kin_40 : decode prog_10_method_39_code 40 = .ok (.getfield 70, 3) := by decide +kernel
theorem d_Model_kin_43 : decode prog_10_method_39_code 43 = .ok (.iload_n 3, 1) := by decide +kernel
theorem d_Model_kin_44 : decode prog_10_method_39_code 44 = .ok (.iload_n 3, 1) := by decide +kernel
theorem d_Model_kin_45 : decode prog_10_method_39_code 45 = .ok (.iastore, 1) := by decide +kernel
theorem d_Model_kin_46 : decode prog_10_method_39_code 46 = .ok (.iinc 3 1, 3) := by decide +kernel
theorem d_Model_kin_49 : decode prog_10_method_39_code 49 = .ok (.goto (-20), 3) := by decide +kernel
theorem d_Model_kin_52 : decode prog_10_method_39_code 52 = .ok (.iconst 0, 1) := by decide +kernel
theorem d_Model_kin_53 : decode prog_10_method_39_code 53 = .ok (.istore_n 3, 1) := by decide +kernel
theorem d_Model_kin_54 : decode prog_10_method_39_code 54 = .ok (.iload_n 3, 1) := by decide +kernel
theorem d_Model_kin_55 : decode prog_10_method_39_code 55 = .ok (.bipush 6, 2) := by decide +kernel
theorem d_Model_kin_57 : decode prog_10_method_39_code 57 = .ok (.if_icmp .ge 102, 3) := by decide +kernel
theorem d_Model_kin_60 : decode prog_10_method_39_code 60 = .ok (.iconst 0, 1) := by decide +kernel
theorem d_Model_kin_61 : decode prog_10_method_39_code 61 = .ok (.istore 4, 2) := by decide +kernel
theorem d_Model_kin_63 : decode prog_10_method_39_code 63 = .ok (.iload 4, 2) := by decide +kernel
theorem d_Model_kin_65 : decode prog_10_method_39_code 65 = .ok (.aload_n 0, 1) := by decide +kernel
theorem d_Model_kin_66 : decode prog_10_method_39_code 66 = .ok (.getfield 13, 3) := by decide +kernel
theorem d_Model_kin_69 : decode prog_10_method_39_code 69 = .ok (.iconst 0, 1) := by decide +kernel
theorem d_Model_kin_70 : decode prog_10_method_39_code 70 = .ok (.iaload, 1) := by decide +kernel
theorem d_Model_kin_71 : decode prog_10_method_39_code 71 = .ok (.if_icmp .ge 82, 3) := by decide +kernel
theorem d_Model_kin_74 : decode prog_10_method_39_code 74 = .ok (.iconst 0, 1) := by decide +kernel
theorem d_Model_kin_75 : decode prog_10_method_39_code 75 = .ok (.istore 5, 2) := by decide +kernel
theorem d_Model_kin_77 : decode prog_10_method_39_code 77 = .ok (.iload 5, 2) := by decide +kernel
theorem d_Model_kin_79 : decode prog_10_method_39_code 79 = .ok (.aload_n 0, 1) := by decide +kernel
theorem d_Model_kin_80 : decode prog_10_method_39_code 80 = .ok (.getfield 13, 3) := by decide +kernel
theorem d_Model_kin_83 : decode prog_10_method_39_code 83 = .ok (.iconst 0, 1) := by decide +kernel
theorem d_Model_kin_84 : decode prog_10_method_39_code 84 = .ok (.iaload, 1) := by decide +kernel
theorem d_Model_kin_85 : decode prog_10_method_39_code 85 = .ok (.if_icmp .ge 62, 3) := by decide +kernel
theorem d_Model_kin_88 : decode prog_10_method_39_code 88 = .ok (.aload_n 0, 1) := by decide +kernel
theorem d_Model_kin_89 : decode prog_10_method_39_code 89 = .ok (.getfield 70, 3) := by decide +kernel
theorem d_Model_kin_92 : decode prog_10_method_39_code 92 = .ok (.iload 4, 2) := by decide +kernel
theorem d_Model_kin_94 : decode prog_10_method_39_code 94 = .ok (.aload_n 0, 1) := by decide +kernel
theorem d_Model_kin_95 : decode prog_10_method_39_code 95 = .ok (.iload 4, 2) := by decide +kernel
theorem d_Model_kin_97 : decode prog_10_method_39_code 97 = .ok (.iload 5, 2) := by decide +kernel
theorem d_Model_kin_99 : decode prog_10_method_39_code 99 = .ok (.iload_n 1, 1) := by decide +kernel
theorem d_Model_kin_100 : decode prog_10_method_39_code 100 = .ok (.invokevirtual 206, 3) := by decide +kernel
theorem d_Model_kin_103 : decode prog_10_method_39_code 103 = .ok (.ifCond .eq 30, 3) := by decide +kernel
theorem d_Model_kin_106 : decode prog_10_method_39_code 106 = .ok (.aload_n 0, 1) := by decide +kernel
theorem d_Model_kin_107 : decode prog_10_method_39_code 107 = .ok (.getfield 70, 3) := by decide +kernel
theorem d_Model_kin_110 : decode prog_10_method_39_code 110 = .ok (.iload 5, 2) := by decide +kernel
theorem d_Model_kin_112 : decode prog_10_method_39_code 112 = .ok (.iaload, 1) := by decide +kernel
theorem d_Model_kin_113 : decode prog_10_method_39_code 113 = .ok (.aload_n 0, 1) := by decide +kernel
theorem d_Model_kin_114 : decode prog_10_method_39_code 114 = .ok (.getfield 70, 3) := by decide +kernel
theorem d_Model_kin_117 : decode prog_10_method_39_code 117 = .ok (.iload 4, 2) := by decide +kernel
theorem d_Model_kin_119 : decode prog_10_method_39_code 119 = .ok (.iaload, 1) := by decide +kernel
theorem d_Model_kin_120 : decode prog_10_method_39_code 120 = .ok (.if_icmp .ge 13, 3) := by decide +kernel
theorem d_Model_kin_123 : decode prog_10_method_39_code 123 = .ok (.aload_n 0, 1) := by decide +kernel
theorem d_Model_kin_124 : decode prog_10_method_39_code 124 = .ok (.getfield 70, 3) := by decide +kernel
theorem d_Model_kin_127 : decode prog_10_method_39_code 127 = .ok (.iload 5, 2) := by decide +kernel
theorem d_Model_kin_129 : decode prog_10_method_39_code 129 = .ok (.iaload, 1) := by decide +kernel
theorem d_Model_kin_130 : decode prog_10_method_39_code 130 = .ok (.goto 10, 3) := by decide +kernel
theorem d_Model_kin_133 : decode prog_10_method_39_code 133 = .ok (.aload_n 0, 1) := by decide +kernel
theorem d_Model_kin_134 : decode prog_10_method_39_code 134 = .ok (.getfield 70, 3) := by decide +kernel
theorem d_Model_kin_137 : decode prog_10_method_39_code 137 = .ok (.iload 4, 2) := by decide +kernel
theorem d_Model_kin_139 : decode prog_10_method_39_code 139 = .ok (.iaload, 1) := by decide +kernel
theorem d_Model_kin_140 : decode prog_10_method_39_code 140 = .ok (.iastore, 1) := by decide +kernel
theorem d_Model_kin_141 : decode prog_10_method_39_code 141 = .ok (.iinc 5 1, 3) := by decide +kernel
theorem d_Model_kin_144 : decode prog_10_method_39_code 144 = .ok (.goto (-67), 3) := by decide +kernel
theorem d_Model_kin_147 : decode prog_10_method_39_code 147 = .ok (.iinc 4 1, 3) := by decide +kernel
theorem d_Model_kin_150 : decode prog_10_method_39_code 150 = .ok (.goto (-87), 3) := by decide +kernel
theorem d_Model_kin_153 : decode prog_10_method_39_code 153 = .ok (.iinc 3 1, 3) := by decide +kernel
theorem d_Model_kin_156 : decode prog_10_method_39_code 156 = .ok (.goto (-102), 3) := by decide +kernel
theorem d_Model_kin_159 : decode prog_10_method_39_code 159 = .ok (.iload_n 2, 1) := by decide +kernel
theorem d_Model_kin_160 : decode prog_10_method_39_code 160 = .ok (.ifCond .lt 10, 3) := by decide +kernel
theorem d_Model_kin_163 : decode prog_10_method_39_code 163 = .ok (.aload_n 0, 1) := by decide +kernel
theorem d_Model_kin_164 : decode prog_10_method_39_code 164 = .ok (.getfield 70, 3) := by decide +kernel
theorem d_Model_kin_167 : decode prog_10_method_39_code 167 = .ok (.iload_n 2, 1) := by decide +kernel
theorem d_Model_kin_168 : decode prog_10_method_39_code 168 = .ok (.iaload, 1) := by decide +kernel
theorem d_Model_kin_169 : decode prog_10_method_39_code 169 = .ok (.ireturn, 1) := by decide +kernel
theorem d_Model_kin_170 : decode prog_10_method_39_code 170 = .ok (.iconst 0, 1) := by decide +kernel
theorem d_Model_kin_171 : decode prog_10_method_39_code 171 = .ok (.istore_n 3, 1) := by decide +kernel
theorem d_Model_kin_172 : decode prog_10_method_39_code 172 = .ok (.iconst 0, 1) := by decide +kernel
theorem d_Model_kin_173 : decode prog_10_method_39_code 173 = .ok (.istore 4, 2) := by decide +kernel
theorem d_Model_kin_175 : decode prog_10_method_39_code 175 = .ok (.iload 4, 2) := by decide +kernel
theorem d_Model_kin_177 : decode prog_10_method_39_code 177 = .ok (.aload_n 0, 1) := by decide +kernel
theorem d_Model_kin_178 : decode prog_10_method_39_code 178 = .ok (.getfield 13, 3) := by decide +kernel
theorem d_Model_kin_181 : decode prog_10_method_39_code 181 = .ok (.iconst 0, 1) := by decide +kernel
theorem d_Model_kin_182 : decode prog_10_method_39_code 182 = .ok (.iaload, 1) := by decide +kernel
theorem d_Model_kin_183 : decode prog_10_method_39_code 183 = .ok (.if_icmp .ge 29, 3) := by decide +kernel
theorem d_Model_kin_186 : decode prog_10_method_39_code 186 = .ok (.iload_n 3, 1) := by decide +kernel
theorem d_Model_kin_187 : decode prog_10_method_39_code 187 = .ok (.aload_n 0, 1) := by decide +kernel
theorem d_Model_kin_188 : decode prog_10_method_39_code 188 = .ok (.getfield 70, 3) := by decide +kernel
theorem d_Model_kin_191 : decode prog_10_method_39_code 191 = .ok (.iload 4, 2) := by decide +kernel
theorem d_Model_kin_193 : decode prog_10_method_39_code 193 = .ok (.iaload, 1) := by decide +kernel
theorem d_Model_kin_194 : decode prog_10_method_39_code 194 = .ok (.iload 4, 2) := by decide +kernel
theorem d_Model_kin_196 : decode prog_10_method_39_code 196 = .ok (.if_icmp .ne 7, 3) := by decide +kernel
theorem d_Model_kin_199 : decode prog_10_method_39_code 199 = .ok (.iconst 1, 1) := by decide +kernel
theorem d_Model_kin_200 : decode prog_10_method_39_code 200 = .ok (.goto 4, 3) := by decide +kernel
theorem d_Model_kin_203 : decode prog_10_method_39_code 203 = .ok (.iconst 0, 1) := by decide +kernel
theorem d_Model_kin_204 : decode prog_10_method_39_code 204 = .ok (.iadd, 1) := by decide +kernel
theorem d_Model_kin_205 : decode prog_10_method_39_code 205 = .ok (.istore_n 3, 1) := by decide +kernel
theorem d_Model_kin_206 : decode prog_10_method_39_code 206 = .ok (.iinc 4 1, 3) := by decide +kernel
theorem d_Model_kin_209 : decode prog_10_method_39_code 209 = .ok (.goto (-34), 3) := by decide +kernel
theorem d_Model_kin_212 : decode prog_10_method_39_code 212 = .ok (.iload_n 3, 1) := by decide +kernel
theorem d_Model_kin_213 : decode prog_10_method_39_code 213 = .ok (.ireturn, 1) := by decide +kernel
theorem d_Model_cooked_0 : decode prog_10_method_40_code 0 = .ok (.aload_n 0, 1) := by decide +kernel
theorem d_Model_cooked_1 : decode prog_10_method_40_code 1 = .ok (.iload_n 1, 1) := by decide +kernel
theorem d_Model_cooked_2 : decode prog_10_method_40_code 2 = .ok (.invokevirtual 144, 3) := by decide +kernel
theorem d_Model_cooked_5 : decode prog_10_method_40_code 5 = .ok (.ifCond .eq 27, 3) := by decide +kernel
theorem d_Model_cooked_8 : decode prog_10_method_40_code 8 = .ok (.iload_n 2, 1) := by decide +kernel
theorem d_Model_cooked_9 : decode prog_10_method_40_code 9 = .ok (.i2l, 1) := by decide +kernel
theorem d_Model_cooked_10 : decode prog_10_method_40_code 10 = .ok (.lconst 0, 1) := by decide +kernel
theorem d_Model_cooked_11 : decode prog_10_method_40_code 11 = .ok (.ldc2_w 161, 3) := by decide +kernel
theorem d_Model_cooked_14 : decode prog_10_method_40_code 14 = .ok (.invokestatic 82, 3) := by decide +kernel
theorem d_Model_cooked_17 : decode prog_10_method_40_code 17 = .ok (.ifCond .eq 15, 3) := by decide +kernel
theorem d_Model_cooked_20 : decode prog_10_method_40_code 20 = .ok (.iload_n 3, 1) := by decide +kernel
theorem d_Model_cooked_21 : decode prog_10_method_40_code 21 = .ok (.i2l, 1) := by decide +kernel
theorem d_Model_cooked_22 : decode prog_10_method_40_code 22 = .ok (.lconst 0, 1) := by decide +kernel
theorem d_Model_cooked_23 : decode prog_10_method_40_code 23 = .ok (.ldc2_w 134, 3) := by decide +kernel
theorem d_Model_cooked_26 : decode prog_10_method_40_code 26 = .ok (.invokestatic 82, 3) := by decide +kernel
theorem d_Model_cooked_29 : decode prog_10_method_40_code 29 = .ok (.ifCond .ne 5, 3) := by decide +kernel
theorem d_Model_cooked_32 : decode prog_10_method_40_code 32 = .ok (.iconst (-1), 1) := by decide +kernel
theorem d_Model_cooked_33 : decode prog_10_method_40_code 33 = .ok (.ireturn, 1) := by decide +kernel
theorem d_Model_cooked_34 : decode prog_10_method_40_code 34 = .ok (.iconst 0, 1) := by decide +kernel
theorem d_Model_cooked_35 : decode prog_10_method_40_code 35 = .ok (.istore 4, 2) := by decide +kernel
theorem d_Model_cooked_37 : decode prog_10_method_40_code 37 = .ok (.iconst 0, 1) := by decide +kernel
theorem d_Model_cooked_38 : decode prog_10_method_40_code 38 = .ok (.istore 5, 2) := by decide +kernel
theorem d_Model_cooked_40 : decode prog_10_method_40_code 40 = .ok (.iload 5, 2) := by decide +kernel
theorem d_Model_cooked_42 : decode prog_10_method_40_code 42 = .ok (.iconst 4, 1) := by decide +kernel
theorem d_Model_cooked_43 : decode prog_10_method_40_code 43 = .ok (.if_icmp .ge 60, 3) := by decide +kernel
theorem d_Model_cooked_46 : decode prog_10_method_40_code 46 = .ok (.aload_n 0, 1) := by decide +kernel
theorem d_Model_cooked_47 : decode prog_10_method_40_code 47 = .ok (.getfield 16, 3) := by decide +kernel
theorem d_Model_cooked_50 : decode prog_10_method_40_code 50 = .ok (.iconst 4, 1) := by decide +kernel
theorem d_Model_cooked_51 : decode prog_10_method_40_code 51 = .ok (.iload_n 1, 1) := by decide +kernel
theorem d_Model_cooked_52 : decode prog_10_method_40_code 52 = .ok (.imul, 1) := by decide +kernel
theorem d_Model_cooked_53 : decode prog_10_method_40_code 53 = .ok (.iload 5, 2) := by decide +kernel
theorem d_Model_cooked_55 : decode prog_10_method_40_code 55 = .ok (.iadd, 1) := by decide +kernel
theorem d_Model_cooked_56 : decode prog_10_method_40_code 56 = .ok (.iaload, 1) := by decide +kernel
theorem d_Model_cooked_57 : decode prog_10_method_40_code 57 = .ok (.istore 6, 2) := by decide +kernel
theorem d_Model_cooked_59 : decode prog_10_method_40_code 59 = .ok (.iload 5, 2) := by decide +kernel
theorem d_Model_cooked_61 : decode prog_10_method_40_code 61 = .ok (.iconst 3, 1) := by decide +kernel
theorem d_Model_cooked_62 : decode prog_10_method_40_code 62 = .ok (.if_icmp .ge 13, 3) := by decide +kernel
theorem d_Model_cooked_65 : decode prog_10_method_40_code 65 = .ok (.iload 6, 2) := by decide +kernel
theorem d_Model_cooked_67 : decode prog_10_method_40_code 67 = .ok (.iload_n 2, 1) := by decide +kernel
theorem d_Model_cooked_68 : decode prog_10_method_40_code 68 = .ok (.imul, 1) := by decide +kernel
theorem d_Model_cooked_69 : decode prog_10_method_40_code 69 = .ok (.bipush 100, 2) := by decide +kernel
theorem d_Model_cooked_71 : decode prog_10_method_40_code 71 = .ok (.idiv, 1) := by decide +kernel
theorem d_Model_cooked_72 : decode prog_10_method_40_code 72 = .ok (.goto 4, 3) := by decide +kernel
theorem d_Model_cooked_75 : decode prog_10_method_40_code 75 = .ok (.iconst 0, 1) := by decide +kernel
theorem d_Model_cooked_76 : decode prog_10_method_40_code 76 = .ok (.istore 7, 2) := by decide +kernel
theorem d_Model_cooked_78 : decode prog_10_method_40_code 78 = .ok (.aload_n 0, 1) := by decide +kernel
theorem d_Model_cooked_79 : decode prog_10_method_40_code 79 = .ok (.getfield 73, 3) := by decide +kernel
theorem d_Model_cooked_82 : decode prog_10_method_40_code 82 = .ok (.iload 5, 2) := by decide +kernel
theorem d_Model_cooked_84 : decode prog_10_method_40_code 84 = .ok (.iload 6, 2) := by decide +kernel
theorem d_Model_cooked_86 : decode prog_10_method_40_code 86 = .ok (.iload 7, 2) := by decide +kernel
theorem d_Model_cooked_88 : decode prog_10_method_40_code 88 = .ok (.isub, 1) := by decide +kernel
theorem d_Model_cooked_89 : decode prog_10_method_40_code 89 = .ok (.iload 4, 2) := by decide +kernel
theorem d_Model_cooked_91 : decode prog_10_method_40_code 91 = .ok (.iadd, 1) := by decide +kernel
theorem d_Model_cooked_92 : decode prog_10_method_40_code 92 = .ok (.iastore, 1) := by decide +kernel
theorem d_Model_cooked_93 : decode prog_10_method_40_code 93 = .ok (.iload 7, 2) := by decide +kernel
theorem d_Model_cooked_95 : decode prog_10_method_40_code 95 = .ok (.istore 4, 2) := by decide +kernel
theorem d_Model_cooked_97 : decode prog_10_method_40_code 97 = .ok (.iinc 5 1, 3) := by decide +kernel
theorem d_Model_cooked_100 : decode prog_10_method_40_code 100 = .ok (.goto (-60), 3) := by decide +kernel
theorem d_Model_cooked_103 : decode prog_10_method_40_code 103 = .ok (.iload_n 3, 1) := by decide +kernel
theorem d_Model_cooked_104 : decode prog_10_method_40_code 104 = .ok (.iconst 4, 1) := by decide +kernel
theorem d_Model_cooked_105 : decode prog_10_method_40_code 105 = .ok (.if_icmp .ge 10, 3) := by decide +kernel
theorem d_Model_cooked_108 : decode prog_10_method_40_code 108 = .ok (.aload_n 0, 1) := by decide +kernel
theorem d_Model_cooked_109 : decode prog_10_method_40_code 109 = .ok (.getfield 73, 3) := by decide +kernel
theorem d_Model_cooked_112 : decode prog_10_method_40_code 112 = .ok (.iload_n 3, 1) := by decide +kernel
theorem d_Model_cooked_113 : decode prog_10_method_40_code 113 = .ok (.iaload, 1) := by decide +kernel
theorem d_Model_cooked_114 : decode prog_10_method_40_code 114 = .ok (.ireturn, 1) := by decide +kernel
theorem d_Model_cooked_115 : decode prog_10_method_40_code 115 = .ok (.iconst 0, 1) := by decide +kernel
theorem d_Model_cooked_116 : decode prog_10_method_40_code 116 = .ok (.istore 5, 2) := by decide +kernel
theorem d_Model_cooked_118 : decode prog_10_method_40_code 118 = .ok (.iconst 1, 1) := by decide +kernel
theorem d_Model_cooked_119 : decode prog_10_method_40_code 119 = .ok (.istore 6, 2) := by decide +kernel
theorem d_Model_cooked_121 : decode prog_10_method_40_code 121 = .ok (.iload 6, 2) := by decide +kernel
theorem d_Model_cooked_123 : decode prog_10_method_40_code 123 = .ok (.aload_n 0, 1) := by decide +kernel
theorem d_Model_cooked_124 : decode prog_10_method_40_code 124 = .ok (.getfield 13, 3) := by decide +kernel
theorem d_Model_cooked_127 : decode prog_10_method_40_code 127 = .ok (.iconst 0, 1) := by decide +kernel
theorem d_Model_cooked_128 : decode prog_10_method_40_code 128 = .ok (.iaload, 1) := by decide +kernel
theorem d_Model_cooked_129 : decode prog_10_method_40_code 129 = .ok (.if_icmp .ge 41, 3) := by decide +kernel
theorem d_Model_cooked_132 : decode prog_10_method_40_code 132 = .ok (.aload_n 0, 1) := by decide +kernel
theorem d_Model_cooked_133 : decode prog_10_method_40_code 133 = .ok (.iload 6, 2) := by decide +kernel
theorem d_Model_cooked_135 : decode prog_10_method_40_code 135 = .ok (.aload_n 0, 1) := by decide +kernel
theorem d_Model_cooked_136 : decode prog_10_method_40_code 136 = .ok (.getfield 73, 3) := by decide +kernel
theorem d_Model_cooked_139 : decode prog_10_method_40_code 139 = .ok (.invokevirtual 200, 3) := by decide +kernel
theorem d_Model_cooked_142 : decode prog_10_method_40_code 142 = .ok (.aload_n 0, 1) := by decide +kernel
theorem d_Model_cooked_143 : decode prog_10_method_40_code 143 = .ok (.iload 5, 2) := by decide +kernel
theorem d_Model_cooked_145 : decode prog_10_method_40_code 145 = .ok (.aload_n 0, 1) := by decide +kernel
theorem d_Model_cooked_146 : decode prog_10_method_40_code 146 = .ok (.getfield 73, 3) := by decide +kernel
theorem d_Model_cooked_149 : decode prog_10_method_40_code 149 = .ok (.invokevirtual 200, 3) := by decide +kernel
theorem d_Model_cooked_152 : decode prog_10_method_40_code 152 = .ok (.if_icmp .ge 8, 3) := by decide +kernel
theorem d_Model_cooked_155 : decode prog_10_method_40_code 155 = .ok (.iload 6, 2) := by decide +kernel
theorem d_Model_cooked_157 : decode prog_10_method_40_code 157 = .ok (.goto 5, 3) := by decide +kernel
theorem d_Model_cooked_160 : decode prog_10_method_40_code 160 = .ok (.iload 5, 2) := by decide +kernel
theorem d_Model_cooked_162 : decode prog_10_method_40_code 162 = .ok (.istore 5, 2) := by decide +kernel
theorem d_Model_cooked_164 : decode prog_10_method_40_code 164 = .ok (.iinc 6 1, 3) := by decide +kernel
theorem d_Model_cooked_167 : decode prog_10_method_40_code 167 = .ok (.goto (-46), 3) := by decide +kernel
theorem d_Model_cooked_170 : decode prog_10_method_40_code 170 = .ok (.iload 5, 2) := by decide +kernel
theorem d_Model_cooked_172 : decode prog_10_method_40_code 172 = .ok (.ireturn, 1) := by decide +kernel
theorem d_Model_count_0 : decode prog_10_method_41_code 0 = .ok (.aload_n 0, 1) := by decide +kernel
theorem d_Model_count_1 : decode prog_10_method_41_code 1 = .ok (.iload_n 1, 1) := by decide +kernel
theorem d_Model_count_2 : decode prog_10_method_41_code 2 = .ok (.invokevirtual 131, 3) := by decide +kernel
theorem d_Model_count_5 : decode prog_10_method_41_code 5 = .ok (.ifCond .eq 23, 3) := by decide +kernel
theorem d_Model_count_8 : decode prog_10_method_41_code 8 = .ok (.aload_n 0, 1) := by decide +kernel
theorem d_Model_count_9 : decode prog_10_method_41_code 9 = .ok (.iload_n 2, 1) := by decide +kernel
theorem d_Model_count_10 : decode prog_10_method_41_code 10 = .ok (.invokevirtual 144, 3) := by decide +kernel
theorem d_Model_count_13 : decode prog_10_method_41_code 13 = .ok (.ifCond .eq 15, 3) := by decide +kernel
theorem d_Model_count_16 : decode prog_10_method_41_code 16 = .ok (.iload_n 3, 1) := by decide +kernel
theorem d_Model_count_17 : decode prog_10_method_41_code 17 = .ok (.i2l, 1) := by decide +kernel
theorem d_Model_count_18 : decode prog_10_method_41_code 18 = .ok (.lconst 0, 1) := by decide +kernel
theorem d_Model_count_19 : decode prog_10_method_41_code 19 = .ok (.ldc2_w 210, 3) := by decide +kernel
theorem d_Model_count_22 : decode prog_10_method_41_code 22 = .ok (.invokestatic 82, 3) := by decide +kernel
theorem d_Model_count_25 : decode prog_10_method_41_code 25 = .ok (.ifCond .ne 5, 3) := by decide +kernel
theorem d_Model_count_28 : decode prog_10_method_41_code 28 = .ok (.iconst (-1), 1) := by decide +kernel
theorem d_Model_count_29 : decode prog_10_method_41_code 29 = .ok (.ireturn, 1) := by decide +kernel
theorem d_Model_count_30 : decode prog_10_method_41_code 30 = .ok (.aload_n 0, 1) := by decide +kernel
theorem d_Model_count_31 : decode prog_10_method_41_code 31 = .ok (.getfield 52, 3) := by decide +kernel
theorem d_Model_count_34 : decode prog_10_method_41_code 34 = .ok (.bipush 6, 2) := by decide +kernel
theorem d_Model_count_36 : decode prog_10_method_41_code 36 = .ok (.iload_n 1, 1) := by decide +kernel
theorem d_Model_count_37 : decode prog_10_method_41_code 37 = .ok (.imul, 1) := by decide +kernel
theorem d_Model_count_38 : decode prog_10_method_41_code 38 = .ok (.iload_n 2, 1) := by decide +kernel
theorem d_Model_count_39 : decode prog_10_method_41_code 39 = .ok (.iadd, 1) := by decide +kernel
theorem d_Model_count_40 : decode prog_10_method_41_code 40 = .ok (.iaload, 1) := by decide +kernel
theorem d_Model_count_41 : decode prog_10_method_41_code 41 = .ok (.istore 4, 2) := by decide +kernel
theorem d_Model_count_43 : decode prog_10_method_41_code 43 = .ok (.aload_n 0, 1) := by decide +kernel
theorem d_Model_count_44 : decode prog_10_method_41_code 44 = .ok (.getfield 52, 3) := by decide +kernel
theorem d_Model_count_47 : decode prog_10_method_41_code 47 = .ok (.bipush 6, 2) := by decide +kernel
theorem d_Model_count_49 : decode prog_10_method_41_code 49 = .ok (.iload_n 1, 1) := by decide +kernel
theorem d_Model_count_50 : decode prog_10_method_41_code 50 = .ok (.imul, 1) := by decide +kernel
theorem d_Model_count_51 : decode prog_10_method_41_code 51 = .ok (.iload_n 2, 1) := by decide +kernel
theorem d_Model_count_52 : decode prog_10_method_41_code 52 = .ok (.iadd, 1) := by decide +kernel
theorem d_Model_count_53 : decode prog_10_method_41_code 53 = .ok (.iload_n 3, 1) := by decide +kernel
theorem d_Model_count_54 : decode prog_10_method_41_code 54 = .ok (.iastore, 1) := by decide +kernel
theorem d_Model_count_55 : decode prog_10_method_41_code 55 = .ok (.aload_n 0, 1) := by decide +kernel
theorem d_Model_count_56 : decode prog_10_method_41_code 56 = .ok (.getfield 55, 3) := by decide +kernel
theorem d_Model_count_59 : decode prog_10_method_41_code 59 = .ok (.iload_n 1, 1) := by decide +kernel
theorem d_Model_count_60 : decode prog_10_method_41_code 60 = .ok (.iconst 1, 1) := by decide +kernel
theorem d_Model_count_61 : decode prog_10_method_41_code 61 = .ok (.iastore, 1) := by decide +kernel
theorem d_Model_count_62 : decode prog_10_method_41_code 62 = .ok (.iload 4, 2) := by decide +kernel
theorem d_Model_count_64 : decode prog_10_method_41_code 64 = .ok (.ireturn, 1) := by decide +kernel
theorem d_Model_laidBy_0 : decode prog_10_method_42_code 0 = .ok (.iconst 0, 1) := by decide +kernel
theorem d_Model_laidBy_1 : decode prog_10_method_42_code 1 = .ok (.istore_n 3, 1) := by decide +kernel
theorem d_Model_laidBy_2 : decode prog_10_method_42_code 2 = .ok (.iload_n 1, 1) := by decide +kernel
theorem d_Model_laidBy_3 : decode prog_10_method_42_code 3 = .ok (.istore 4, 2) := by decide +kernel
theorem d_Model_laidBy_5 : decode prog_10_method_42_code 5 = .ok (.iconst 3, 1) := by decide +kernel
theorem d_Model_laidBy_6 : decode prog_10_method_42_code 6 = .ok (.istore 5, 2) := by decide +kernel
theorem d_Model_laidBy_8 : decode prog_10_method_42_code 8 = .ok (.iload 5, 2) := by decide +kernel
theorem d_Model_laidBy_10 : decode prog_10_method_42_code 10 = .ok (.ifCond .lt 42, 3) := by decide +kernel
theorem d_Model_laidBy_13 : decode prog_10_method_42_code 13 = .ok (.iload_n 3, 1) := by decide +kernel
theorem d_Model_laidBy_14 : decode prog_10_method_42_code 14 = .ok (.aload_n 0, 1) := by decide +kernel
theorem d_Model_laidBy_15 : decode prog_10_method_42_code 15 = .ok (.getfield 31, 3) := by decide +kernel
theorem d_Model_laidBy_18 : decode prog_10_method_42_code 18 = .ok (.iload_n 2, 1) := by decide +kernel
theorem d_Model_laidBy_19 : decode prog_10_method_42_code 19 = .ok (.iaload, 1) := by decide +kernel
theorem d_Model_laidBy_20 : decode prog_10_method_42_code 20 = .ok (.iload 5, 2) := by decide +kernel
theorem d_Model_laidBy_22 : decode prog_10_method_42_code 22 = .ok (.invokestatic 136, 3) := by decide +kernel
theorem d_Model_laidBy_25 : decode prog_10_method_42_code 25 = .ok (.ifCond .eq 11, 3) := by decide +kernel
theorem d_Model_laidBy_28 : decode prog_10_method_42_code 28 = .ok (.iload 4, 2) := by decide +kernel
theorem d_Model_laidBy_30 : decode prog_10_method_42_code 30 = .ok (.bipush 10, 2) := by decide +kernel
theorem d_Model_laidBy_32 : decode prog_10_method_42_code 32 = .ok (.irem, 1) := by decide +kernel
theorem d_Model_laidBy_33 : decode prog_10_method_42_code 33 = .ok (.goto 4, 3) := by decide +kernel
theorem d_Model_laidBy_36 : decode prog_10_method_42_code 36 = .ok (.iconst 0, 1) := by decide +kernel
theorem d_Model_laidBy_37 : decode prog_10_method_42_code 37 = .ok (.iadd, 1) := by decide +kernel
theorem d_Model_laidBy_38 : decode prog_10_method_42_code 38 = .ok (.istore_n 3, 1) := by decide +kernel
theorem d_Model_laidBy_39 : decode prog_10_method_42_code 39 = .ok (.iload 4, 2) := by decide +kernel
theorem d_Model_laidBy_41 : decode prog_10_method_42_code 41 = .ok (.bipush 10, 2) := by decide +kernel
theorem d_Model_laidBy_43 : decode prog_10_method_42_code 43 = .ok (.idiv, 1) := by decide +kernel
theorem d_Model_laidBy_44 : decode prog_10_method_42_code 44 = .ok (.istore 4, 2) := by decide +kernel
theorem d_Model_laidBy_46 : decode prog_10_method_42_code 46 = .ok (.iinc 5 (-1), 3) := by decide +kernel
theorem d_Model_laidBy_49 : decode prog_10_method_42_code 49 = .ok (.goto (-41), 3) := by decide +kernel
theorem d_Model_laidBy_52 : decode prog_10_method_42_code 52 = .ok (.iload_n 3, 1) := by decide +kernel
theorem d_Model_laidBy_53 : decode prog_10_method_42_code 53 = .ok (.aload_n 0, 1) := by decide +kernel
theorem d_Model_laidBy_54 : decode prog_10_method_42_code 54 = .ok (.getfield 28, 3) := by decide +kernel
theorem d_Model_laidBy_57 : decode prog_10_method_42_code 57 = .ok (.iload_n 2, 1) := by decide +kernel
theorem d_Model_laidBy_58 : decode prog_10_method_42_code 58 = .ok (.iaload, 1) := by decide +kernel
theorem d_Model_laidBy_59 : decode prog_10_method_42_code 59 = .ok (.imul, 1) := by decide +kernel
theorem d_Model_laidBy_60 : decode prog_10_method_42_code 60 = .ok (.ireturn, 1) := by decide +kernel
theorem d_Model_fits_0 : decode prog_10_method_43_code 0 = .ok (.iconst 0, 1) := by decide +kernel
theorem d_Model_fits_1 : decode prog_10_method_43_code 1 = .ok (.istore 4, 2) := by decide +kernel
theorem d_Model_fits_3 : decode prog_10_method_43_code 3 = .ok (.iload 4, 2) := by decide +kernel
theorem d_Model_fits_5 : decode prog_10_method_43_code 5 = .ok (.aload_n 0, 1) := by decide +kernel
theorem d_Model_fits_6 : decode prog_10_method_43_code 6 = .ok (.getfield 19, 3) := by decide +kernel
theorem d_Model_fits_9 : decode prog_10_method_43_code 9 = .ok (.iconst 0, 1) := by decide +kernel
theorem d_Model_fits_10 : decode prog_10_method_43_code 10 = .ok (.iaload, 1) := by decide +kernel
theorem d_Model_fits_11 : decode prog_10_method_43_code 11 = .ok (.if_icmp .ge 69, 3) := by decide +kernel
theorem d_Model_fits_14 : decode prog_10_method_43_code 14 = .ok (.aload_n 0, 1) := by decide +kernel
theorem d_Model_fits_15 : decode prog_10_method_43_code 15 = .ok (.getfield 52, 3) := by decide +kernel
theorem d_Model_fits_18 : decode prog_10_method_43_code 18 = .ok (.bipush 6, 2) := by decide +kernel
theorem d_Model_fits_20 : decode prog_10_method_43_code 20 = .ok (.iload 4, 2) := by decide +kernel
theorem d_Model_fits_22 : decode prog_10_method_43_code 22 = .ok (.imul, 1) := by decide +kernel
theorem d_Model_fits_23 : decode prog_10_method_43_code 23 = .ok (.iload_n 2, 1) := by decide +kernel
theorem d_Model_fits_24 : decode prog_10_method_43_code 24 = .ok (.iadd, 1) := by decide +kernel
theorem d_Model_fits_25 : decode prog_10_method_43_code 25 = .ok (.iaload, 1) := by decide +kernel
theorem d_Model_fits_26 : decode prog_10_method_43_code 26 = .ok (.aload_n 0, 1) := by decide +kernel
theorem d_Model_fits_27 : decode prog_10_method_43_code 27 = .ok (.iload_n 1, 1) := by decide +kernel
theorem d_Model_fits_28 : decode prog_10_method_43_code 28 = .ok (.iload 4, 2) := by decide +kernel
theorem d_Model_fits_30 : decode prog_10_method_43_code 30 = .ok (.invokevirtual 212, 3) := by decide +kernel
theorem d_Model_fits_33 : decode prog_10_method_43_code 33 = .ok (.isub, 1) := by decide +kernel
theorem d_Model_fits_34 : decode prog_10_method_43_code 34 = .ok (.istore 5, 2) := by decide +kernel
theorem d_Model_fits_36 : decode prog_10_method_43_code 36 = .ok (.aload_n 0, 1) := by decide +kernel
theorem d_Model_fits_37 : decode prog_10_method_43_code 37 = .ok (.getfield 25, 3) := by decide +kernel
theorem d_Model_fits_40 : decode prog_10_method_43_code 40 = .ok (.iload 4, 2) := by decide +kernel
theorem d_Model_fits_42 : decode prog_10_method_43_code 42 = .ok (.iaload, 1) := by decide +kernel
theorem d_Model_fits_43 : decode prog_10_method_43_code 43 = .ok (.iconst 3, 1) := by decide +kernel
theorem d_Model_fits_44 : decode prog_10_method_43_code 44 = .ok (.if_icmp .ne 30, 3) := by decide +kernel
theorem d_Model_fits_47 : decode prog_10_method_43_code 47 = .ok (.aload_n 0, 1) := by decide +kernel
theorem d_Model_fits_48 : decode prog_10_method_43_code 48 = .ok (.getfield 55, 3) := by decide +kernel
