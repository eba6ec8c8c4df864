/-! THE LAW: places and mirrors (printed by wip/gen/gen_law.py) -/
theorem cal_13_13 : zm_cal 13 13 = some (0, 1, 3014, 3015, 1001, 3016) := rfl
theorem cal_13_17 : zm_cal 13 17 = some (0, 154, 6124, 6125, 1017, 6126) := rfl
theorem cal_13_18 : zm_cal 13 18 = some (0, 3, 3026, 3027, 1001, 3028) := rfl
theorem cal_13_22 : zm_cal 13 22 = some (0, 157, 6136, 6137, 1017, 6138) := rfl
theorem cal_13_23 : zm_cal 13 23 = some (0, 5, 3034, 3035, 1001, 3036) := rfl
theorem cal_13_27 : zm_cal 13 27 = some (0, 158, 6140, 6141, 1017, 6142) := rfl
theorem cal_13_28 : zm_cal 13 28 = some (0, 6, 3202, 3203, 1001, 3204) := rfl
theorem cal_13_32 : zm_cal 13 32 = some (0, 198, 7080, 7081, 1017, 7082) := rfl
theorem cal_13_33 : zm_cal 13 33 = some (0, 7, 3206, 3207, 1001, 3208) := rfl
theorem cal_13_36 : zm_cal 13 36 = some (0, 203, 7100, 7101, 1017, 7102) := rfl
theorem cal_13_37 : zm_cal 13 37 = some (0, 10, 4038, 4039, 1001, 4040) := rfl
theorem cal_13_41 : zm_cal 13 41 = some (0, 216, 7152, 7153, 1017, 7154) := rfl
theorem cal_13_42 : zm_cal 13 42 = some (0, 13, 4050, 4051, 1001, 4052) := rfl
theorem cal_13_46 : zm_cal 13 46 = some (0, 217, 7157, 7158, 1017, 7159) := rfl
theorem cal_13_47 : zm_cal 13 47 = some (0, 14, 4062, 4063, 1001, 4064) := rfl
theorem cal_13_50 : zm_cal 13 50 = some (0, 220, 7169, 7170, 1017, 7171) := rfl
theorem cal_13_51 : zm_cal 13 51 = some (0, 16, 4074, 4075, 1001, 4076) := rfl
theorem cal_13_54 : zm_cal 13 54 = some (0, 222, 7177, 7178, 1017, 7179) := rfl
theorem cal_13_55 : zm_cal 13 55 = some (0, 19, 4108, 4109, 1001, 4110) := rfl
theorem cal_13_58 : zm_cal 13 58 = some (0, 229, 7205, 7206, 1017, 7207) := rfl
theorem cal_13_59 : zm_cal 13 59 = some (0, 20, 4112, 4113, 1001, 4114) := rfl
theorem cal_13_62 : zm_cal 13 62 = some (0, 230, 7209, 7210, 1017, 7211) := rfl
theorem cal_13_63 : zm_cal 13 63 = some (0, 22, 4120, 4121, 1001, 4122) := rfl
theorem cal_13_66 : zm_cal 13 66 = some (0, 232, 7217, 7218, 1017, 7219) := rfl
theorem cal_13_67 : zm_cal 13 67 = some (0, 23, 4135, 4136, 1001, 4137) := rfl
theorem cal_13_70 : zm_cal 13 70 = some (0, 238, 8000, 8001, 1017, 8002) := rfl
theorem cal_13_71 : zm_cal 13 71 = some (0, 24, 4144, 4145, 1001, 4146) := rfl
theorem cal_13_74 : zm_cal 13 74 = some (0, 240, 8008, 8009, 1017, 8010) := rfl
theorem cal_13_75 : zm_cal 13 75 = some (0, 27, 4156, 4157, 1001, 4158) := rfl
theorem cal_13_78 : zm_cal 13 78 = some (0, 243, 8020, 8021, 1017, 8022) := rfl
theorem cal_13_79 : zm_cal 13 79 = some (0, 29, 4164, 4165, 1001, 4166) := rfl
theorem cal_13_82 : zm_cal 13 82 = some (0, 244, 8024, 8025, 1017, 8026) := rfl
theorem cal_13_83 : zm_cal 13 83 = some (0, 30, 4184, 4185, 1001, 4186) := rfl
theorem cal_13_86 : zm_cal 13 86 = some (0, 246, 8032, 8033, 1017, 8034) := rfl
theorem cal_13_87 : zm_cal 13 87 = some (0, 36, 4231, 4232, 1001, 4233) := rfl
theorem cal_13_90 : zm_cal 13 90 = some (0, 253, 8064, 8065, 1017, 8066) := rfl
theorem cal_13_91 : zm_cal 13 91 = some (0, 37, 4235, 4236, 1001, 4237) := rfl
theorem cal_13_94 : zm_cal 13 94 = some (0, 254, 8068, 8069, 1017, 8070) := rfl
theorem cal_13_95 : zm_cal 13 95 = some (0, 38, 4239, 5000, 1001, 5001) := rfl
theorem cal_13_99 : zm_cal 13 99 = some (0, 255, 8072, 8073, 1017, 8074) := rfl
theorem cal_13_100 : zm_cal 13 100 = some (0, 40, 5007, 5008, 1001, 5009) := rfl
theorem cal_13_104 : zm_cal 13 104 = some (0, 256, 8076, 8077, 1017, 8078) := rfl
theorem cal_13_105 : zm_cal 13 105 = some (0, 41, 5011, 5012, 1001, 5013) := rfl
theorem cal_13_108 : zm_cal 13 108 = some (0, 257, 8080, 8081, 1017, 8082) := rfl
theorem cal_13_109 : zm_cal 13 109 = some (0, 43, 5019, 5020, 1001, 5021) := rfl
theorem cal_13_113 : zm_cal 13 113 = some (0, 200, 7088, 7089, 1017, 7090) := rfl
theorem cal_13_114 : zm_cal 13 114 = some (0, 44, 5027, 5028, 1001, 5029) := rfl
theorem cal_13_117 : zm_cal 13 117 = some (0, 258, 8084, 8085, 1017, 8086) := rfl
theorem cal_13_118 : zm_cal 13 118 = some (0, 45, 5031, 5032, 1001, 5033) := rfl
theorem cal_13_121 : zm_cal 13 121 = some (0, 259, 8088, 8089, 1017, 8090) := rfl
theorem cal_13_122 : zm_cal 13 122 = some (0, 46, 5040, 5041, 1001, 5042) := rfl
theorem cal_13_125 : zm_cal 13 125 = some (0, 260, 8092, 8093, 1017, 8094) := rfl
theorem cal_13_126 : zm_cal 13 126 = some (0, 49, 5053, 5054, 1001, 5055) := rfl
theorem cal_13_129 : zm_cal 13 129 = some (0, 262, 8100, 8101, 1017, 8102) := rfl
theorem cal_13_130 : zm_cal 13 130 = some (0, 50, 5057, 5058, 1001, 5059) := rfl
theorem cal_13_133 : zm_cal 13 133 = some (0, 263, 8104, 8105, 1017, 8106) := rfl
theorem cal_13_134 : zm_cal 13 134 = some (0, 51, 5077, 5078, 1001, 5079) := rfl
theorem cal_13_137 : zm_cal 13 137 = some (0, 268, 8124, 8125, 1017, 8126) := rfl
theorem cal_13_138 : zm_cal 13 138 = some (0, 52, 5096, 5097, 1001, 5098) := rfl
theorem cal_13_141 : zm_cal 13 141 = some (0, 271, 8136, 8137, 1017, 8138) := rfl
theorem cal_13_142 : zm_cal 13 142 = some (0, 53, 5100, 5101, 1001, 5102) := rfl
theorem cal_13_145 : zm_cal 13 145 = some (0, 272, 8140, 8141, 1017, 8142) := rfl
theorem cal_13_146 : zm_cal 13 146 = some (0, 54, 5117, 5118, 1001, 5119) := rfl
theorem cal_13_149 : zm_cal 13 149 = some (0, 199, 7084, 7085, 1017, 7086) := rfl
theorem ow_275 : zm_own 275 = 13 := rfl
theorem na_275 : zm_na 275 = 1 := rfl
theorem mx_275 : zm_mx 275 = 4 := rfl
theorem rt_275 : zm_ret 275 = 1 := rfl
theorem rk_275 (as : List zm_V) : zm_rk 275 as = 95 := rfl
theorem d_275_18 : decode (zm_code 275) 18 = .ok (.iload_n 3, 1) := by decide +kernel
theorem d_275_19 : decode (zm_code 275) 19 = .ok (.aload_n 0, 1) := by decide +kernel
theorem d_275_20 : decode (zm_code 275) 20 = .ok (.arraylength, 1) := by decide +kernel
theorem d_275_21 : decode (zm_code 275) 21 = .ok (.bipush 6, 2) := by decide +kernel
theorem d_275_23 : decode (zm_code 275) 23 = .ok (.isub, 1) := by decide +kernel
theorem d_275_24 : decode (zm_code 275) 24 = .ok (.if_icmp .gt 1074, 3) := by decide +kernel
theorem d_275_27 : decode (zm_code 275) 27 = .ok (.aload_n 0, 1) := by decide +kernel
theorem d_275_28 : decode (zm_code 275) 28 = .ok (.iload_n 3, 1) := by decide +kernel
theorem d_275_29 : decode (zm_code 275) 29 = .ok (.iaload, 1) := by decide +kernel
theorem d_275_30 : decode (zm_code 275) 30 = .ok (.bipush 31, 2) := by decide +kernel
theorem d_275_32 : decode (zm_code 275) 32 = .ok (.iand, 1) := by decide +kernel
theorem d_275_33 : decode (zm_code 275) 33 = .ok (.tableswitch 1059 0 31 #[143, 206, 229, 242, 265, 288, 331, 364, 397, 430, 473, 506, 539, 562, 595, 618, 651, 674, 687, 730, 763, 816, 839, 852, 875, 908, 921, 954, 987, 1000, 1023, 1036], 143) := by decide +kernel
theorem d_275_176 : decode (zm_code 275) 176 = .ok (.aload_n 1, 1) := by decide +kernel
theorem d_275_177 : decode (zm_code 275) 177 = .ok (.aload_n 0, 1) := by decide +kernel
theorem d_275_178 : decode (zm_code 275) 178 = .ok (.iload_n 3, 1) := by decide +kernel
theorem d_275_179 : decode (zm_code 275) 179 = .ok (.iconst 1, 1) := by decide +kernel
theorem d_275_180 : decode (zm_code 275) 180 = .ok (.iadd, 1) := by decide +kernel
theorem d_275_181 : decode (zm_code 275) 181 = .ok (.iaload, 1) := by decide +kernel
theorem d_275_182 : decode (zm_code 275) 182 = .ok (.aload_n 0, 1) := by decide +kernel
theorem d_275_183 : decode (zm_code 275) 183 = .ok (.iload_n 3, 1) := by decide +kernel
theorem d_275_184 : decode (zm_code 275) 184 = .ok (.iconst 2, 1) := by decide +kernel
theorem d_275_185 : decode (zm_code 275) 185 = .ok (.iadd, 1) := by decide +kernel
theorem d_275_186 : decode (zm_code 275) 186 = .ok (.iaload, 1) := by decide +kernel
theorem d_275_187 : decode (zm_code 275) 187 = .ok (.aload_n 0, 1) := by decide +kernel
theorem d_275_188 : decode (zm_code 275) 188 = .ok (.iload_n 3, 1) := by decide +kernel
theorem d_275_189 : decode (zm_code 275) 189 = .ok (.iconst 3, 1) := by decide +kernel
theorem d_275_190 : decode (zm_code 275) 190 = .ok (.iadd, 1) := by decide +kernel
theorem d_275_191 : decode (zm_code 275) 191 = .ok (.iaload, 1) := by decide +kernel
theorem d_275_192 : decode (zm_code 275) 192 = .ok (.aload_n 0, 1) := by decide +kernel
theorem d_275_193 : decode (zm_code 275) 193 = .ok (.iload_n 3, 1) := by decide +kernel
theorem d_275_194 : decode (zm_code 275) 194 = .ok (.iconst 4, 1) := by decide +kernel
theorem d_275_195 : decode (zm_code 275) 195 = .ok (.iadd, 1) := by decide +kernel
theorem d_275_196 : decode (zm_code 275) 196 = .ok (.iaload, 1) := by decide +kernel
theorem d_275_197 : decode (zm_code 275) 197 = .ok (.aload_n 0, 1) := by decide +kernel
theorem d_275_198 : decode (zm_code 275) 198 = .ok (.iload_n 3, 1) := by decide +kernel
theorem d_275_199 : decode (zm_code 275) 199 = .ok (.iconst 5, 1) := by decide +kernel
theorem d_275_200 : decode (zm_code 275) 200 = .ok (.iadd, 1) := by decide +kernel
theorem d_275_201 : decode (zm_code 275) 201 = .ok (.iaload, 1) := by decide +kernel
theorem d_275_202 : decode (zm_code 275) 202 = .ok (.invokevirtual 13, 3) := by decide +kernel
theorem d_275_205 : decode (zm_code 275) 205 = .ok (.aload_n 2, 1) := by decide +kernel
theorem d_275_206 : decode (zm_code 275) 206 = .ok (.aload_n 0, 1) := by decide +kernel
theorem d_275_207 : decode (zm_code 275) 207 = .ok (.iload_n 3, 1) := by decide +kernel
theorem d_275_208 : decode (zm_code 275) 208 = .ok (.iconst 1, 1) := by decide +kernel
theorem d_275_209 : decode (zm_code 275) 209 = .ok (.iadd, 1) := by decide +kernel
theorem d_275_210 : decode (zm_code 275) 210 = .ok (.iaload, 1) := by decide +kernel
theorem d_275_211 : decode (zm_code 275) 211 = .ok (.aload_n 0, 1) := by decide +kernel
theorem d_275_212 : decode (zm_code 275) 212 = .ok (.iload_n 3, 1) := by decide +kernel
theorem d_275_213 : decode (zm_code 275) 213 = .ok (.iconst 2, 1) := by decide +kernel
theorem d_275_214 : decode (zm_code 275) 214 = .ok (.iadd, 1) := by decide +kernel
theorem d_275_215 : decode (zm_code 275) 215 = .ok (.iaload, 1) := by decide +kernel
theorem d_275_216 : decode (zm_code 275) 216 = .ok (.aload_n 0, 1) := by decide +kernel
theorem d_275_217 : decode (zm_code 275) 217 = .ok (.iload_n 3, 1) := by decide +kernel
theorem d_275_218 : decode (zm_code 275) 218 = .ok (.iconst 3, 1) := by decide +kernel
theorem d_275_219 : decode (zm_code 275) 219 = .ok (.iadd, 1) := by decide +kernel
theorem d_275_220 : decode (zm_code 275) 220 = .ok (.iaload, 1) := by decide +kernel
theorem d_275_221 : decode (zm_code 275) 221 = .ok (.aload_n 0, 1) := by decide +kernel
theorem d_275_222 : decode (zm_code 275) 222 = .ok (.iload_n 3, 1) := by decide +kernel
theorem d_275_223 : decode (zm_code 275) 223 = .ok (.iconst 4, 1) := by decide +kernel
theorem d_275_224 : decode (zm_code 275) 224 = .ok (.iadd, 1) := by decide +kernel
theorem d_275_225 : decode (zm_code 275) 225 = .ok (.iaload, 1) := by decide +kernel
theorem d_275_226 : decode (zm_code 275) 226 = .ok (.aload_n 0, 1) := by decide +kernel
theorem d_275_227 : decode (zm_code 275) 227 = .ok (.iload_n 3, 1) := by decide +kernel
theorem d_275_228 : decode (zm_code 275) 228 = .ok (.iconst 5, 1) := by decide +kernel
theorem d_275_229 : decode (zm_code 275) 229 = .ok (.iadd, 1) := by decide +kernel
theorem d_275_230 : decode (zm_code 275) 230 = .ok (.iaload, 1) := by decide +kernel
theorem d_275_231 : decode (zm_code 275) 231 = .ok (.invokevirtual 17, 3) := by decide +kernel
theorem d_275_234 : decode (zm_code 275) 234 = .ok (.if_icmp .eq 858, 3) := by decide +kernel
theorem d_275_237 : decode (zm_code 275) 237 = .ok (.iconst 0, 1) := by decide +kernel
theorem d_275_238 : decode (zm_code 275) 238 = .ok (.ireturn, 1) := by decide +kernel
theorem d_275_239 : decode (zm_code 275) 239 = .ok (.aload_n 1, 1) := by decide +kernel
theorem d_275_240 : decode (zm_code 275) 240 = .ok (.aload_n 0, 1) := by decide +kernel
theorem d_275_241 : decode (zm_code 275) 241 = .ok (.iload_n 3, 1) := by decide +kernel
theorem d_275_242 : decode (zm_code 275) 242 = .ok (.iconst 1, 1) := by decide +kernel
theorem d_275_243 : decode (zm_code 275) 243 = .ok (.iadd, 1) := by decide +kernel
theorem d_275_244 : decode (zm_code 275) 244 = .ok (.iaload, 1) := by decide +kernel
theorem d_275_245 : decode (zm_code 275) 245 = .ok (.invokevirtual 18, 3) := by decide +kernel
theorem d_275_248 : decode (zm_code 275) 248 = .ok (.aload_n 2, 1) := by decide +kernel
theorem d_275_249 : decode (zm_code 275) 249 = .ok (.aload_n 0, 1) := by decide +kernel
theorem d_275_250 : decode (zm_code 275) 250 = .ok (.iload_n 3, 1) := by decide +kernel
theorem d_275_251 : decode (zm_code 275) 251 = .ok (.iconst 1, 1) := by decide +kernel
theorem d_275_252 : decode (zm_code 275) 252 = .ok (.iadd, 1) := by decide +kernel
theorem d_275_253 : decode (zm_code 275) 253 = .ok (.iaload, 1) := by decide +kernel
theorem d_275_254 : decode (zm_code 275) 254 = .ok (.invokevirtual 22, 3) := by decide +kernel
theorem d_275_257 : decode (zm_code 275) 257 = .ok (.if_icmp .eq 835, 3) := by decide +kernel
theorem d_275_260 : decode (zm_code 275) 260 = .ok (.iconst 0, 1) := by decide +kernel
theorem d_275_261 : decode (zm_code 275) 261 = .ok (.ireturn, 1) := by decide +kernel
theorem d_275_262 : decode (zm_code 275) 262 = .ok (.aload_n 1, 1) := by decide +kernel
theorem d_275_263 : decode (zm_code 275) 263 = .ok (.invokevirtual 23, 3) := by decide +kernel
theorem d_275_266 : decode (zm_code 275) 266 = .ok (.aload_n 2, 1) := by decide +kernel
theorem d_275_267 : decode (zm_code 275) 267 = .ok (.invokevirtual 27, 3) := by decide +kernel
theorem d_275_270 : decode (zm_code 275) 270 = .ok (.if_icmp .eq 822, 3) := by decide +kernel
theorem d_275_273 : decode (zm_code 275) 273 = .ok (.iconst 0, 1) := by decide +kernel
theorem d_275_274 : decode (zm_code 275) 274 = .ok (.ireturn, 1) := by decide +kernel
theorem d_275_275 : decode (zm_code 275) 275 = .ok (.aload_n 1, 1) := by decide +kernel
theorem d_275_276 : decode (zm_code 275) 276 = .ok (.aload_n 0, 1) := by decide +kernel
theorem d_275_277 : decode (zm_code 275) 277 = .ok (.iload_n 3, 1) := by decide +kernel
theorem d_275_278 : decode (zm_code 275) 278 = .ok (.iconst 1, 1) := by decide +kernel
theorem d_275_279 : decode (zm_code 275) 279 = .ok (.iadd, 1) := by decide +kernel
theorem d_275_280 : decode (zm_code 275) 280 = .ok (.iaload, 1) := by decide +kernel
theorem d_275_281 : decode (zm_code 275) 281 = .ok (.invokevirtual 28, 3) := by decide +kernel
theorem d_275_284 : decode (zm_code 275) 284 = .ok (.aload_n 2, 1) := by decide +kernel
theorem d_275_285 : decode (zm_code 275) 285 = .ok (.aload_n 0, 1) := by decide +kernel
theorem d_275_286 : decode (zm_code 275) 286 = .ok (.iload_n 3, 1) := by decide +kernel
theorem d_275_287 : decode (zm_code 275) 287 = .ok (.iconst 1, 1) := by decide +kernel
theorem d_275_288 : decode (zm_code 275) 288 = .ok (.iadd, 1) := by decide +kernel
theorem d_275_289 : decode (zm_code 275) 289 = .ok (.iaload, 1) := by decide +kernel
theorem d_275_290 : decode (zm_code 275) 290 = .ok (.invokevirtual 32, 3) := by decide +kernel
theorem d_275_293 : decode (zm_code 275) 293 = .ok (.if_icmp .eq 799, 3) := by decide +kernel
theorem d_275_296 : decode (zm_code 275) 296 = .ok (.iconst 0, 1) := by decide +kernel
theorem d_275_297 : decode (zm_code 275) 297 = .ok (.ireturn, 1) := by decide +kernel
theorem d_275_298 : decode (zm_code 275) 298 = .ok (.aload_n 1, 1) := by decide +kernel
theorem d_275_299 : decode (zm_code 275) 299 = .ok (.aload_n 0, 1) := by decide +kernel
theorem d_275_300 : decode (zm_code 275) 300 = .ok (.iload_n 3, 1) := by decide +kernel
theorem d_275_301 : decode (zm_code 275) 301 = .ok (.iconst 1, 1) := by decide +kernel
theorem d_275_302 : decode (zm_code 275) 302 = .ok (.iadd, 1) := by decide +kernel
theorem d_275_303 : decode (zm_code 275) 303 = .ok (.iaload, 1) := by decide +kernel
theorem d_275_304 : decode (zm_code 275) 304 = .ok (.invokevirtual 33, 3) := by decide +kernel
theorem d_275_307 : decode (zm_code 275) 307 = .ok (.aload_n 2, 1) := by decide +kernel
theorem d_275_308 : decode (zm_code 275) 308 = .ok (.aload_n 0, 1) := by decide +kernel
theorem d_275_309 : decode (zm_code 275) 309 = .ok (.iload_n 3, 1) := by decide +kernel
theorem d_275_310 : decode (zm_code 275) 310 = .ok (.iconst 1, 1) := by decide +kernel
theorem d_275_311 : decode (zm_code 275) 311 = .ok (.iadd, 1) := by decide +kernel
theorem d_275_312 : decode (zm_code 275) 312 = .ok (.iaload, 1) := by decide +kernel
theorem d_275_313 : decode (zm_code 275) 313 = .ok (.invokevirtual 36, 3) := by decide +kernel
theorem d_275_316 : decode (zm_code 275) 316 = .ok (.if_icmp .eq 776, 3) := by decide +kernel
theorem d_275_319 : decode (zm_code 275) 319 = .ok (.iconst 0, 1) := by decide +kernel
theorem d_275_320 : decode (zm_code 275) 320 = .ok (.ireturn, 1) := by decide +kernel
theorem d_275_321 : decode (zm_code 275) 321 = .ok (.aload_n 1, 1) := by decide +kernel
theorem d_275_322 : decode (zm_code 275) 322 = .ok (.aload_n 0, 1) := by decide +kernel
theorem d_275_323 : decode (zm_code 275) 323 = .ok (.iload_n 3, 1) := by decide +kernel
theorem d_275_324 : decode (zm_code 275) 324 = .ok (.iconst 1, 1) := by decide +kernel
theorem d_275_325 : decode (zm_code 275) 325 = .ok (.iadd, 1) := by decide +kernel
theorem d_275_326 : decode (zm_code 275) 326 = .ok (.iaload, 1) := by decide +kernel
theorem d_275_327 : decode (zm_code 275) 327 = .ok (.aload_n 0, 1) := by decide +kernel
theorem d_275_328 : decode (zm_code 275) 328 = .ok (.iload_n 3, 1) := by decide +kernel
theorem d_275_329 : decode (zm_code 275) 329 = .ok (.iconst 2, 1) := by decide +kernel
theorem d_275_330 : decode (zm_code 275) 330 = .ok (.iadd, 1) := by decide +kernel
theorem d_275_331 : decode (zm_code 275) 331 = .ok (.iaload, 1) := by decide +kernel
theorem d_275_332 : decode (zm_code 275) 332 = .ok (.aload_n 0, 1) := by decide +kernel
theorem d_275_333 : decode (zm_code 275) 333 = .ok (.iload_n 3, 1) := by decide +kernel
theorem d_275_334 : decode (zm_code 275) 334 = .ok (.iconst 3, 1) := by decide +kernel
theorem d_275_335 : decode (zm_code 275) 335 = .ok (.iadd, 1) := by decide +kernel
theorem d_275_336 : decode (zm_code 275) 336 = .ok (.iaload, 1) := by decide +kernel
theorem d_275_337 : decode (zm_code 275) 337 = .ok (.invokevirtual 37, 3) := by decide +kernel
theorem d_275_340 : decode (zm_code 275) 340 = .ok (.aload_n 2, 1) := by decide +kernel
theorem d_275_341 : decode (zm_code 275) 341 = .ok (.aload_n 0, 1) := by decide +kernel
theorem d_275_342 : decode (zm_code 275) 342 = .ok (.iload_n 3, 1) := by decide +kernel
theorem d_275_343 : decode (zm_code 275) 343 = .ok (.iconst 1, 1) := by decide +kernel
theorem d_275_344 : decode (zm_code 275) 344 = .ok (.iadd, 1) := by decide +kernel
theorem d_275_345 : decode (zm_code 275) 345 = .ok (.iaload, 1) := by decide +kernel
theorem d_275_346 : decode (zm_code 275) 346 = .ok (.aload_n 0, 1) := by decide +kernel
theorem d_275_347 : decode (zm_code 275) 347 = .ok (.iload_n 3, 1) := by decide +kernel
theorem d_275_348 : decode (zm_code 275) 348 = .ok (.iconst 2, 1) := by decide +kernel
theorem d_275_349 : decode (zm_code 275) 349 = .ok (.iadd, 1) := by decide +kernel
theorem d_275_350 : decode (zm_code 275) 350 = .ok (.iaload, 1) := by decide +kernel
theorem d_275_351 : decode (zm_code 275) 351 = .ok (.aload_n 0, 1) := by decide +kernel
theorem d_275_352 : decode (zm_code 275) 352 = .ok (.iload_n 3, 1) := by decide +kernel
theorem d_275_353 : decode (zm_code 275) 353 = .ok (.iconst 3, 1) := by decide +kernel
theorem d_275_354 : decode (zm_code 275) 354 = .ok (.iadd, 1) := by decide +kernel
theorem d_275_355 : decode (zm_code 275) 355 = .ok (.iaload, 1) := by decide +kernel
theorem d_275_356 : decode (zm_code 275) 356 = .ok (.invokevirtual 41, 3) := by decide +kernel
theorem d_275_359 : decode (zm_code 275) 359 = .ok (.if_icmp .eq 733, 3) := by decide +kernel
theorem d_275_362 : decode (zm_code 275) 362 = .ok (.iconst 0, 1) := by decide +kernel
theorem d_275_363 : decode (zm_code 275) 363 = .ok (.ireturn, 1) := by decide +kernel
theorem d_275_364 : decode (zm_code 275) 364 = .ok (.aload_n 1, 1) := by decide +kernel
theorem d_275_365 : decode (zm_code 275) 365 = .ok (.aload_n 0, 1) := by decide +kernel
theorem d_275_366 : decode (zm_code 275) 366 = .ok (.iload_n 3, 1) := by decide +kernel
theorem d_275_367 : decode (zm_code 275) 367 = .ok (.iconst 1, 1) := by decide +kernel
theorem d_275_368 : decode (zm_code 275) 368 = .ok (.iadd, 1) := by decide +kernel
theorem d_275_369 : decode (zm_code 275) 369 = .ok (.iaload, 1) := by decide +kernel
theorem d_275_370 : decode (zm_code 275) 370 = .ok (.aload_n 0, 1) := by decide +kernel
theorem d_275_371 : decode (zm_code 275) 371 = .ok (.iload_n 3, 1) := by decide +kernel
theorem d_275_372 : decode (zm_code 275) 372 = .ok (.iconst 2, 1) := by decide +kernel
theorem d_275_373 : decode (zm_code 275) 373 = .ok (.iadd, 1) := by decide +kernel
theorem d_275_374 : decode (zm_code 275) 374 = .ok (.iaload, 1) := by decide +kernel
theorem d_275_375 : decode (zm_code 275) 375 = .ok (.invokevirtual 42, 3) := by decide +kernel
theorem d_275_378 : decode (zm_code 275) 378 = .ok (.aload_n 2, 1) := by decide +kernel
theorem d_275_379 : decode (zm_code 275) 379 = .ok (.aload_n 0, 1) := by decide +kernel
theorem d_275_380 : decode (zm_code 275) 380 = .ok (.iload_n 3, 1) := by decide +kernel
theorem d_275_381 : decode (zm_code 275) 381 = .ok (.iconst 1, 1) := by decide +kernel
theorem d_275_382 : decode (zm_code 275) 382 = .ok (.iadd, 1) := by decide +kernel
theorem d_275_383 : decode (zm_code 275) 383 = .ok (.iaload, 1) := by decide +kernel
theorem d_275_384 : decode (zm_code 275) 384 = .ok (.aload_n 0, 1) := by decide +kernel
theorem d_275_385 : decode (zm_code 275) 385 = .ok (.iload_n 3, 1) := by decide +kernel
theorem d_275_386 : decode (zm_code 275) 386 = .ok (.iconst 2, 1) := by decide +kernel
theorem d_275_387 : decode (zm_code 275) 387 = .ok (.iadd, 1) := by decide +kernel
theorem d_275_388 : decode (zm_code 275) 388 = .ok (.iaload, 1) := by decide +kernel
theorem d_275_389 : decode (zm_code 275) 389 = .ok (.invokevirtual 46, 3) := by decide +kernel
theorem d_275_392 : decode (zm_code 275) 392 = .ok (.if_icmp .eq 700, 3) := by decide +kernel
theorem d_275_395 : decode (zm_code 275) 395 = .ok (.iconst 0, 1) := by decide +kernel
theorem d_275_396 : decode (zm_code 275) 396 = .ok (.ireturn, 1) := by decide +kernel
theorem d_275_397 : decode (zm_code 275) 397 = .ok (.aload_n 1, 1) := by decide +kernel
theorem d_275_398 : decode (zm_code 275) 398 = .ok (.aload_n 0, 1) := by decide +kernel
theorem d_275_399 : decode (zm_code 275) 399 = .ok (.iload_n 3, 1) := by decide +kernel
theorem d_275_400 : decode (zm_code 275) 400 = .ok (.iconst 1, 1) := by decide +kernel
theorem d_275_401 : decode (zm_code 275) 401 = .ok (.iadd, 1) := by decide +kernel
theorem d_275_402 : decode (zm_code 275) 402 = .ok (.iaload, 1) := by decide +kernel
theorem d_275_403 : decode (zm_code 275) 403 = .ok (.aload_n 0, 1) := by decide +kernel
theorem d_275_404 : decode (zm_code 275) 404 = .ok (.iload_n 3, 1) := by decide +kernel
theorem d_275_405 : decode (zm_code 275) 405 = .ok (.iconst 2, 1) := by decide +kernel
theorem d_275_406 : decode (zm_code 275) 406 = .ok (.iadd, 1) := by decide +kernel
theorem d_275_407 : decode (zm_code 275) 407 = .ok (.iaload, 1) := by decide +kernel
theorem d_275_408 : decode (zm_code 275) 408 = .ok (.invokevirtual 47, 3) := by decide +kernel
theorem d_275_411 : decode (zm_code 275) 411 = .ok (.aload_n 2, 1) := by decide +kernel
theorem d_275_412 : decode (zm_code 275) 412 = .ok (.aload_n 0, 1) := by decide +kernel
theorem d_275_413 : decode (zm_code 275) 413 = .ok (.iload_n 3, 1) := by decide +kernel
theorem d_275_414 : decode (zm_code 275) 414 = .ok (.iconst 1, 1) := by decide +kernel
theorem d_275_415 : decode (zm_code 275) 415 = .ok (.iadd, 1) := by decide +kernel
theorem d_275_416 : decode (zm_code 275) 416 = .ok (.iaload, 1) := by decide +kernel
theorem d_275_417 : decode (zm_code 275) 417 = .ok (.aload_n 0, 1) := by decide +kernel
theorem d_275_418 : decode (zm_code 275) 418 = .ok (.iload_n 3, 1) := by decide +kernel
theorem d_275_419 : decode (zm_code 275) 419 = .ok (.iconst 2, 1) := by decide +kernel
theorem d_275_420 : decode (zm_code 275) 420 = .ok (.iadd, 1) := by decide +kernel
theorem d_275_421 : decode (zm_code 275) 421 = .ok (.iaload, 1) := by decide +kernel
theorem d_275_422 : decode (zm_code 275) 422 = .ok (.invokevirtual 50, 3) := by decide +kernel
theorem d_275_425 : decode (zm_code 275) 425 = .ok (.if_icmp .eq 667, 3) := by decide +kernel
theorem d_275_428 : decode (zm_code 275) 428 = .ok (.iconst 0, 1) := by decide +kernel
theorem d_275_429 : decode (zm_code 275) 429 = .ok (.ireturn, 1) := by decide +kernel
theorem d_275_430 : decode (zm_code 275) 430 = .ok (.aload_n 1, 1) := by decide +kernel
theorem d_275_431 : decode (zm_code 275) 431 = .ok (.aload_n 0, 1) := by decide +kernel
theorem d_275_432 : decode (zm_code 275) 432 = .ok (.iload_n 3, 1) := by decide +kernel
theorem d_275_433 : decode (zm_code 275) 433 = .ok (.iconst 1, 1) := by decide +kernel
theorem d_275_434 : decode (zm_code 275) 434 = .ok (.iadd, 1) := by decide +kernel
theorem d_275_435 : decode (zm_code 275) 435 = .ok (.iaload, 1) := by decide +kernel
theorem d_275_436 : decode (zm_code 275) 436 = .ok (.aload_n 0, 1) := by decide +kernel
theorem d_275_437 : decode (zm_code 275) 437 = .ok (.iload_n 3, 1) := by decide +kernel
theorem d_275_438 : decode (zm_code 275) 438 = .ok (.iconst 2, 1) := by decide +kernel
theorem d_275_439 : decode (zm_code 275) 439 = .ok (.iadd, 1) := by decide +kernel
theorem d_275_440 : decode (zm_code 275) 440 = .ok (.iaload, 1) := by decide +kernel
theorem d_275_441 : decode (zm_code 275) 441 = .ok (.invokevirtual 51, 3) := by decide +kernel
theorem d_275_444 : decode (zm_code 275) 444 = .ok (.aload_n 2, 1) := by decide +kernel
theorem d_275_445 : decode (zm_code 275) 445 = .ok (.aload_n 0, 1) := by decide +kernel
theorem d_275_446 : decode (zm_code 275) 446 = .ok (.iload_n 3, 1) := by decide +kernel
theorem d_275_447 : decode (zm_code 275) 447 = .ok (.iconst 1, 1) := by decide +kernel
theorem d_275_448 : decode (zm_code 275) 448 = .ok (.iadd, 1) := by decide +kernel
theorem d_275_449 : decode (zm_code 275) 449 = .ok (.iaload, 1) := by decide +kernel
theorem d_275_450 : decode (zm_code 275) 450 = .ok (.aload_n 0, 1) := by decide +kernel
theorem d_275_451 : decode (zm_code 275) 451 = .ok (.iload_n 3, 1) := by decide +kernel
theorem d_275_452 : decode (zm_code 275) 452 = .ok (.iconst 2, 1) := by decide +kernel
theorem d_275_453 : decode (zm_code 275) 453 = .ok (.iadd, 1) := by decide +kernel
theorem d_275_454 : decode (zm_code 275) 454 = .ok (.iaload, 1) := by decide +kernel
theorem d_275_455 : decode (zm_code 275) 455 = .ok (.invokevirtual 54, 3) := by decide +kernel
theorem d_275_458 : decode (zm_code 275) 458 = .ok (.if_icmp .eq 634, 3) := by decide +kernel
theorem d_275_461 : decode (zm_code 275) 461 = .ok (.iconst 0, 1) := by decide +kernel
theorem d_275_462 : decode (zm_code 275) 462 = .ok (.ireturn, 1) := by decide +kernel
theorem d_275_463 : decode (zm_code 275) 463 = .ok (.aload_n 1, 1) := by decide +kernel
theorem d_275_464 : decode (zm_code 275) 464 = .ok (.aload_n 0, 1) := by decide +kernel
theorem d_275_465 : decode (zm_code 275) 465 = .ok (.iload_n 3, 1) := by decide +kernel
theorem d_275_466 : decode (zm_code 275) 466 = .ok (.iconst 1, 1) := by decide +kernel
theorem d_275_467 : decode (zm_code 275) 467 = .ok (.iadd, 1) := by decide +kernel
theorem d_275_468 : decode (zm_code 275) 468 = .ok (.iaload, 1) := by decide +kernel
theorem d_275_469 : decode (zm_code 275) 469 = .ok (.aload_n 0, 1) := by decide +kernel
theorem d_275_470 : decode (zm_code 275) 470 = .ok (.iload_n 3, 1) := by decide +kernel
theorem d_275_471 : decode (zm_code 275) 471 = .ok (.iconst 2, 1) := by decide +kernel
theorem d_275_472 : decode (zm_code 275) 472 = .ok (.iadd, 1) := by decide +kernel
theorem d_275_473 : decode (zm_code 275) 473 = .ok (.iaload, 1) := by decide +kernel
theorem d_275_474 : decode (zm_code 275) 474 = .ok (.aload_n 0, 1) := by decide +kernel
theorem d_275_475 : decode (zm_code 275) 475 = .ok (.iload_n 3, 1) := by decide +kernel
theorem d_275_476 : decode (zm_code 275) 476 = .ok (.iconst 3, 1) := by decide +kernel
theorem d_275_477 : decode (zm_code 275) 477 = .ok (.iadd, 1) := by decide +kernel
theorem d_275_478 : decode (zm_code 275) 478 = .ok (.iaload, 1) := by decide +kernel
theorem d_275_479 : decode (zm_code 275) 479 = .ok (.invokevirtual 55, 3) := by decide +kernel
theorem d_275_482 : decode (zm_code 275) 482 = .ok (.aload_n 2, 1) := by decide +kernel
theorem d_275_483 : decode (zm_code 275) 483 = .ok (.aload_n 0, 1) := by decide +kernel
theorem d_275_484 : decode (zm_code 275) 484 = .ok (.iload_n 3, 1) := by decide +kernel
theorem d_275_485 : decode (zm_code 275) 485 = .ok (.iconst 1, 1) := by decide +kernel
theorem d_275_486 : decode (zm_code 275) 486 = .ok (.iadd, 1) := by decide +kernel
theorem d_275_487 : decode (zm_code 275) 487 = .ok (.iaload, 1) := by decide +kernel
theorem d_275_488 : decode (zm_code 275) 488 = .ok (.aload_n 0, 1) := by decide +kernel
theorem d_275_489 : decode (zm_code 275) 489 = .ok (.iload_n 3, 1) := by decide +kernel
theorem d_275_490 : decode (zm_code 275) 490 = .ok (.iconst 2, 1) := by decide +kernel
theorem d_275_491 : decode (zm_code 275) 491 = .ok (.iadd, 1) := by decide +kernel
theorem d_275_492 : decode (zm_code 275) 492 = .ok (.iaload, 1) := by decide +kernel
theorem d_275_493 : decode (zm_code 275) 493 = .ok (.aload_n 0, 1) := by decide +kernel
theorem d_275_494 : decode (zm_code 275) 494 = .ok (.iload_n 3, 1) := by decide +kernel
theorem d_275_495 : decode (zm_code 275) 495 = .ok (.iconst 3, 1) := by decide +kernel
theorem d_275_496 : decode (zm_code 275) 496 = .ok (.iadd, 1) := by decide +kernel
theorem d_275_497 : decode (zm_code 275) 497 = .ok (.iaload, 1) := by decide +kernel
theorem d_275_498 : decode (zm_code 275) 498 = .ok (.invokevirtual 58, 3) := by decide +kernel
theorem d_275_501 : decode (zm_code 275) 501 = .ok (.if_icmp .eq 591, 3) := by decide +kernel
theorem d_275_504 : decode (zm_code 275) 504 = .ok (.iconst 0, 1) := by decide +kernel
theorem d_275_505 : decode (zm_code 275) 505 = .ok (.ireturn, 1) := by decide +kernel
theorem d_275_506 : decode (zm_code 275) 506 = .ok (.aload_n 1, 1) := by decide +kernel
theorem d_275_507 : decode (zm_code 275) 507 = .ok (.aload_n 0, 1) := by decide +kernel
theorem d_275_508 : decode (zm_code 275) 508 = .ok (.iload_n 3, 1) := by decide +kernel
theorem d_275_509 : decode (zm_code 275) 509 = .ok (.iconst 1, 1) := by decide +kernel
theorem d_275_510 : decode (zm_code 275) 510 = .ok (.iadd, 1) := by decide +kernel
theorem d_275_511 : decode (zm_code 275) 511 = .ok (.iaload, 1) := by decide +kernel
theorem d_275_512 : decode (zm_code 275) 512 = .ok (.aload_n 0, 1) := by decide +kernel
theorem d_275_513 : decode (zm_code 275) 513 = .ok (.iload_n 3, 1) := by decide +kernel
theorem d_275_514 : decode (zm_code 275) 514 = .ok (.iconst 2, 1) := by decide +kernel
theorem d_275_515 : decode (zm_code 275) 515 = .ok (.iadd, 1) := by decide +kernel
theorem d_275_516 : decode (zm_code 275) 516 = .ok (.iaload, 1) := by decide +kernel
theorem d_275_517 : decode (zm_code 275) 517 = .ok (.invokevirtual 59, 3) := by decide +kernel
theorem d_275_520 : decode (zm_code 275) 520 = .ok (.aload_n 2, 1) := by decide +kernel
theorem d_275_521 : decode (zm_code 275) 521 = .ok (.aload_n 0, 1) := by decide +kernel
theorem d_275_522 : decode (zm_code 275) 522 = .ok (.iload_n 3, 1) := by decide +kernel
theorem d_275_523 : decode (zm_code 275) 523 = .ok (.iconst 1, 1) := by decide +kernel
theorem d_275_524 : decode (zm_code 275) 524 = .ok (.iadd, 1) := by decide +kernel
theorem d_275_525 : decode (zm_code 275) 525 = .ok (.iaload, 1) := by decide +kernel
theorem d_275_526 : decode (zm_code 275) 526 = .ok (.aload_n 0, 1) := by decide +kernel
theorem d_275_527 : decode (zm_code 275) 527 = .ok (.iload_n 3, 1) := by decide +kernel
theorem d_275_528 : decode (zm_code 275) 528 = .ok (.iconst 2, 1) := by decide +kernel
theorem d_275_529 : decode (zm_code 275) 529 = .ok (.iadd, 1) := by decide +kernel
theorem d_275_530 : decode (zm_code 275) 530 = .ok (.iaload, 1) := by decide +kernel
theorem d_275_531 : decode (zm_code 275) 531 = .ok (.invokevirtual 62, 3) := by decide +kernel
theorem d_275_534 : decode (zm_code 275) 534 = .ok (.if_icmp .eq 558, 3) := by decide +kernel
theorem d_275_537 : decode (zm_code 275) 537 = .ok (.iconst 0, 1) := by decide +kernel
theorem d_275_538 : decode (zm_code 275) 538 = .ok (.ireturn, 1) := by decide +kernel
theorem d_275_539 : decode (zm_code 275) 539 = .ok (.aload_n 1, 1) := by decide +kernel
theorem d_275_540 : decode (zm_code 275) 540 = .ok (.aload_n 0, 1) := by decide +kernel
theorem d_275_541 : decode (zm_code 275) 541 = .ok (.iload_n 3, 1) := by decide +kernel
theorem d_275_542 : decode (zm_code 275) 542 = .ok (.iconst 1, 1) := by decide +kernel
theorem d_275_543 : decode (zm_code 275) 543 = .ok (.iadd, 1) := by decide +kernel
theorem d_275_544 : decode (zm_code 275) 544 = .ok (.iaload, 1) := by decide +kernel
theorem d_275_545 : decode (zm_code 275) 545 = .ok (.aload_n 0, 1) := by decide +kernel
theorem d_275_546 : decode (zm_code 275) 546 = .ok (.iload_n 3, 1) := by decide +kernel
theorem d_275_547 : decode (zm_code 275) 547 = .ok (.iconst 2, 1) := by decide +kernel
theorem d_275_548 : decode (zm_code 275) 548 = .ok (.iadd, 1) := by decide +kernel
theorem d_275_549 : decode (zm_code 275) 549 = .ok (.iaload, 1) := by decide +kernel
theorem d_275_550 : decode (zm_code 275) 550 = .ok (.invokevirtual 63, 3) := by decide +kernel
theorem d_275_553 : decode (zm_code 275) 553 = .ok (.aload_n 2, 1) := by decide +kernel
theorem d_275_554 : decode (zm_code 275) 554 = .ok (.aload_n 0, 1) := by decide +kernel
theorem d_275_555 : decode (zm_code 275) 555 = .ok (.iload_n 3, 1) := by decide +kernel
theorem d_275_556 : decode (zm_code 275) 556 = .ok (.iconst 1, 1) := by decide +kernel
theorem d_275_557 : decode (zm_code 275) 557 = .ok (.iadd, 1) := by decide +kernel
theorem d_275_558 : decode (zm_code 275) 558 = .ok (.iaload, 1) := by decide +kernel
theorem d_275_559 : decode (zm_code 275) 559 = .ok (.aload_n 0, 1) := by decide +kernel
theorem d_275_560 : decode (zm_code 275) 560 = .ok (.iload_n 3, 1) := by decide +kernel
theorem d_275_561 : decode (zm_code 275) 561 = .ok (.iconst 2, 1) := by decide +kernel
theorem d_275_562 : decode (zm_code 275) 562 = .ok (.iadd, 1) := by decide +kernel
theorem d_275_563 : decode (zm_code 275) 563 = .ok (.iaload, 1) := by decide +kernel
theorem d_275_564 : decode (zm_code 275) 564 = .ok (.invokevirtual 66, 3) := by decide +kernel
theorem d_275_567 : decode (zm_code 275) 567 = .ok (.if_icmp .eq 525, 3) := by decide +kernel
theorem d_275_570 : decode (zm_code 275) 570 = .ok (.iconst 0, 1) := by decide +kernel
theorem d_275_571 : decode (zm_code 275) 571 = .ok (.ireturn, 1) := by decide +kernel
theorem d_275_572 : decode (zm_code 275) 572 = .ok (.aload_n 1, 1) := by decide +kernel
theorem d_275_573 : decode (zm_code 275) 573 = .ok (.aload_n 0, 1) := by decide +kernel
theorem d_275_574 : decode (zm_code 275) 574 = .ok (.iload_n 3, 1) := by decide +kernel
theorem d_275_575 : decode (zm_code 275) 575 = .ok (.iconst 1, 1) := by decide +kernel
theorem d_275_576 : decode (zm_code 275) 576 = .ok (.iadd, 1) := by decide +kernel
theorem d_275_577 : decode (zm_code 275) 577 = .ok (.iaload, 1) := by decide +kernel
theorem d_275_578 : decode (zm_code 275) 578 = .ok (.invokevirtual 67, 3) := by decide +kernel
theorem d_275_581 : decode (zm_code 275) 581 = .ok (.aload_n 2, 1) := by decide +kernel
theorem d_275_582 : decode (zm_code 275) 582 = .ok (.aload_n 0, 1) := by decide +kernel
theorem d_275_583 : decode (zm_code 275) 583 = .ok (.iload_n 3, 1) := by decide +kernel
theorem d_275_584 : decode (zm_code 275) 584 = .ok (.iconst 1, 1) := by decide +kernel
theorem d_275_585 : decode (zm_code 275) 585 = .ok (.iadd, 1) := by decide +kernel
theorem d_275_586 : decode (zm_code 275) 586 = .ok (.iaload, 1) := by decide +kernel
theorem d_275_587 : decode (zm_code 275) 587 = .ok (.invokevirtual 70, 3) := by decide +kernel
theorem d_275_590 : decode (zm_code 275) 590 = .ok (.if_icmp .eq 502, 3) := by decide +kernel
theorem d_275_593 : decode (zm_code 275) 593 = .ok (.iconst 0, 1) := by decide +kernel
theorem d_275_594 : decode (zm_code 275) 594 = .ok (.ireturn, 1) := by decide +kernel
theorem d_275_595 : decode (zm_code 275) 595 = .ok (.aload_n 1, 1) := by decide +kernel
theorem d_275_596 : decode (zm_code 275) 596 = .ok (.aload_n 0, 1) := by decide +kernel
theorem d_275_597 : decode (zm_code 275) 597 = .ok (.iload_n 3, 1) := by decide +kernel
theorem d_275_598 : decode (zm_code 275) 598 = .ok (.iconst 1, 1) := by decide +kernel
theorem d_275_599 : decode (zm_code 275) 599 = .ok (.iadd, 1) := by decide +kernel
theorem d_275_600 : decode (zm_code 275) 600 = .ok (.iaload, 1) := by decide +kernel
theorem d_275_601 : decode (zm_code 275) 601 = .ok (.aload_n 0, 1) := by decide +kernel
theorem d_275_602 : decode (zm_code 275) 602 = .ok (.iload_n 3, 1) := by decide +kernel
theorem d_275_603 : decode (zm_code 275) 603 = .ok (.iconst 2, 1) := by decide +kernel
theorem d_275_604 : decode (zm_code 275) 604 = .ok (.iadd, 1) := by decide +kernel
theorem d_275_605 : decode (zm_code 275) 605 = .ok (.iaload, 1) := by decide +kernel
theorem d_275_606 : decode (zm_code 275) 606 = .ok (.invokevirtual 71, 3) := by decide +kernel
theorem d_275_609 : decode (zm_code 275) 609 = .ok (.aload_n 2, 1) := by decide +kernel
theorem d_275_610 : decode (zm_code 275) 610 = .ok (.aload_n 0, 1) := by decide +kernel
theorem d_275_611 : decode (zm_code 275) 611 = .ok (.iload_n 3, 1) := by decide +kernel
theorem d_275_612 : decode (zm_code 275) 612 = .ok (.iconst 1, 1) := by decide +kernel
theorem d_275_613 : decode (zm_code 275) 613 = .ok (.iadd, 1) := by decide +kernel
theorem d_275_614 : decode (zm_code 275) 614 = .ok (.iaload, 1) := by decide +kernel
theorem d_275_615 : decode (zm_code 275) 615 = .ok (.aload_n 0, 1) := by decide +kernel
theorem d_275_616 : decode (zm_code 275) 616 = .ok (.iload_n 3, 1) := by decide +kernel
theorem d_275_617 : decode (zm_code 275) 617 = .ok (.iconst 2, 1) := by decide +kernel
theorem d_275_618 : decode (zm_code 275) 618 = .ok (.iadd, 1) := by decide +kernel
theorem d_275_619 : decode (zm_code 275) 619 = .ok (.iaload, 1) := by decide +kernel
theorem d_275_620 : decode (zm_code 275) 620 = .ok (.invokevirtual 74, 3) := by decide +kernel
theorem d_275_623 : decode (zm_code 275) 623 = .ok (.if_icmp .eq 469, 3) := by decide +kernel
theorem d_275_626 : decode (zm_code 275) 626 = .ok (.iconst 0, 1) := by decide +kernel
theorem d_275_627 : decode (zm_code 275) 627 = .ok (.ireturn, 1) := by decide +kernel
theorem d_275_628 : decode (zm_code 275) 628 = .ok (.aload_n 1, 1) := by decide +kernel
theorem d_275_629 : decode (zm_code 275) 629 = .ok (.aload_n 0, 1) := by decide +kernel
theorem d_275_630 : decode (zm_code 275) 630 = .ok (.iload_n 3, 1) := by decide +kernel
theorem d_275_631 : decode (zm_code 275) 631 = .ok (.iconst 1, 1) := by decide +kernel
theorem d_275_632 : decode (zm_code 275) 632 = .ok (.iadd, 1) := by decide +kernel
theorem d_275_633 : decode (zm_code 275) 633 = .ok (.iaload, 1) := by decide +kernel
theorem d_275_634 : decode (zm_code 275) 634 = .ok (.invokevirtual 75, 3) := by decide +kernel
theorem d_275_637 : decode (zm_code 275) 637 = .ok (.aload_n 2, 1) := by decide +kernel
theorem d_275_638 : decode (zm_code 275) 638 = .ok (.aload_n 0, 1) := by decide +kernel
theorem d_275_639 : decode (zm_code 275) 639 = .ok (.iload_n 3, 1) := by decide +kernel
theorem d_275_640 : decode (zm_code 275) 640 = .ok (.iconst 1, 1) := by decide +kernel
theorem d_275_641 : decode (zm_code 275) 641 = .ok (.iadd, 1) := by decide +kernel
theorem d_275_642 : decode (zm_code 275) 642 = .ok (.iaload, 1) := by decide +kernel
theorem d_275_643 : decode (zm_code 275) 643 = .ok (.invokevirtual 78, 3) := by decide +kernel
theorem d_275_646 : decode (zm_code 275) 646 = .ok (.if_icmp .eq 446, 3) := by decide +kernel
theorem d_275_649 : decode (zm_code 275) 649 = .ok (.iconst 0, 1) := by decide +kernel
theorem d_275_650 : decode (zm_code 275) 650 = .ok (.ireturn, 1) := by decide +kernel
theorem d_275_651 : decode (zm_code 275) 651 = .ok (.aload_n 1, 1) := by decide +kernel
theorem d_275_652 : decode (zm_code 275) 652 = .ok (.aload_n 0, 1) := by decide +kernel
theorem d_275_653 : decode (zm_code 275) 653 = .ok (.iload_n 3, 1) := by decide +kernel
theorem d_275_654 : decode (zm_code 275) 654 = .ok (.iconst 1, 1) := by decide +kernel
theorem d_275_655 : decode (zm_code 275) 655 = .ok (.iadd, 1) := by decide +kernel
theorem d_275_656 : decode (zm_code 275) 656 = .ok (.iaload, 1) := by decide +kernel
theorem d_275_657 : decode (zm_code 275) 657 = .ok (.aload_n 0, 1) := by decide +kernel
theorem d_275_658 : decode (zm_code 275) 658 = .ok (.iload_n 3, 1) := by decide +kernel
theorem d_275_659 : decode (zm_code 275) 659 = .ok (.iconst 2, 1) := by decide +kernel
theorem d_275_660 : decode (zm_code 275) 660 = .ok (.iadd, 1) := by decide +kernel
theorem d_275_661 : decode (zm_code 275) 661 = .ok (.iaload, 1) := by decide +kernel
theorem d_275_662 : decode (zm_code 275) 662 = .ok (.invokevirtual 79, 3) := by decide +kernel
theorem d_275_665 : decode (zm_code 275) 665 = .ok (.aload_n 2, 1) := by decide +kernel
theorem d_275_666 : decode (zm_code 275) 666 = .ok (.aload_n 0, 1) := by decide +kernel
theorem d_275_667 : decode (zm_code 275) 667 = .ok (.iload_n 3, 1) := by decide +kernel
theorem d_275_668 : decode (zm_code 275) 668 = .ok (.iconst 1, 1) := by decide +kernel
theorem d_275_669 : decode (zm_code 275) 669 = .ok (.iadd, 1) := by decide +kernel
theorem d_275_670 : decode (zm_code 275) 670 = .ok (.iaload, 1) := by decide +kernel
theorem d_275_671 : decode (zm_code 275) 671 = .ok (.aload_n 0, 1) := by decide +kernel
theorem d_275_672 : decode (zm_code 275) 672 = .ok (.iload_n 3, 1) := by decide +kernel
theorem d_275_673 : decode (zm_code 275) 673 = .ok (.iconst 2, 1) := by decide +kernel
theorem d_275_674 : decode (zm_code 275) 674 = .ok (.iadd, 1) := by decide +kernel
theorem d_275_675 : decode (zm_code 275) 675 = .ok (.iaload, 1) := by decide +kernel
theorem d_275_676 : decode (zm_code 275) 676 = .ok (.invokevirtual 82, 3) := by decide +kernel
theorem d_275_679 : decode (zm_code 275) 679 = .ok (.if_icmp .eq 413, 3) := by decide +kernel
theorem d_275_682 : decode (zm_code 275) 682 = .ok (.iconst 0, 1) := by decide +kernel
theorem d_275_683 : decode (zm_code 275) 683 = .ok (.ireturn, 1) := by decide +kernel
theorem d_275_684 : decode (zm_code 275) 684 = .ok (.aload_n 1, 1) := by decide +kernel
theorem d_275_685 : decode (zm_code 275) 685 = .ok (.aload_n 0, 1) := by decide +kernel
theorem d_275_686 : decode (zm_code 275) 686 = .ok (.iload_n 3, 1) := by decide +kernel
theorem d_275_687 : decode (zm_code 275) 687 = .ok (.iconst 1, 1) := by decide +kernel
theorem d_275_688 : decode (zm_code 275) 688 = .ok (.iadd, 1) := by decide +kernel
theorem d_275_689 : decode (zm_code 275) 689 = .ok (.iaload, 1) := by decide +kernel
theorem d_275_690 : decode (zm_code 275) 690 = .ok (.invokevirtual 83, 3) := by decide +kernel
theorem d_275_693 : decode (zm_code 275) 693 = .ok (.aload_n 2, 1) := by decide +kernel
theorem d_275_694 : decode (zm_code 275) 694 = .ok (.aload_n 0, 1) := by decide +kernel
theorem d_275_695 : decode (zm_code 275) 695 = .ok (.iload_n 3, 1) := by decide +kernel
theorem d_275_696 : decode (zm_code 275) 696 = .ok (.iconst 1, 1) := by decide +kernel
theorem d_275_697 : decode (zm_code 275) 697 = .ok (.iadd, 1) := by decide +kernel
theorem d_275_698 : decode (zm_code 275) 698 = .ok (.iaload, 1) := by decide +kernel
theorem d_275_699 : decode (zm_code 275) 699 = .ok (.invokevirtual 86, 3) := by decide +kernel
theorem d_275_702 : decode (zm_code 275) 702 = .ok (.if_icmp .eq 390, 3) := by decide +kernel
theorem d_275_705 : decode (zm_code 275) 705 = .ok (.iconst 0, 1) := by decide +kernel
theorem d_275_706 : decode (zm_code 275) 706 = .ok (.ireturn, 1) := by decide +kernel
theorem d_275_707 : decode (zm_code 275) 707 = .ok (.aload_n 1, 1) := by decide +kernel
theorem d_275_708 : decode (zm_code 275) 708 = .ok (.invokevirtual 87, 3) := by decide +kernel
theorem d_275_711 : decode (zm_code 275) 711 = .ok (.aload_n 2, 1) := by decide +kernel
theorem d_275_712 : decode (zm_code 275) 712 = .ok (.invokevirtual 90, 3) := by decide +kernel
theorem d_275_715 : decode (zm_code 275) 715 = .ok (.if_icmp .eq 377, 3) := by decide +kernel
theorem d_275_718 : decode (zm_code 275) 718 = .ok (.iconst 0, 1) := by decide +kernel
theorem d_275_719 : decode (zm_code 275) 719 = .ok (.ireturn, 1) := by decide +kernel
theorem d_275_720 : decode (zm_code 275) 720 = .ok (.aload_n 1, 1) := by decide +kernel
theorem d_275_721 : decode (zm_code 275) 721 = .ok (.aload_n 0, 1) := by decide +kernel
theorem d_275_722 : decode (zm_code 275) 722 = .ok (.iload_n 3, 1) := by decide +kernel
theorem d_275_723 : decode (zm_code 275) 723 = .ok (.iconst 1, 1) := by decide +kernel
theorem d_275_724 : decode (zm_code 275) 724 = .ok (.iadd, 1) := by decide +kernel
theorem d_275_725 : decode (zm_code 275) 725 = .ok (.iaload, 1) := by decide +kernel
theorem d_275_726 : decode (zm_code 275) 726 = .ok (.aload_n 0, 1) := by decide +kernel
theorem d_275_727 : decode (zm_code 275) 727 = .ok (.iload_n 3, 1) := by decide +kernel
theorem d_275_728 : decode (zm_code 275) 728 = .ok (.iconst 2, 1) := by decide +kernel
theorem d_275_729 : decode (zm_code 275) 729 = .ok (.iadd, 1) := by decide +kernel
theorem d_275_730 : decode (zm_code 275) 730 = .ok (.iaload, 1) := by decide +kernel
theorem d_275_731 : decode (zm_code 275) 731 = .ok (.aload_n 0, 1) := by decide +kernel
theorem d_275_732 : decode (zm_code 275) 732 = .ok (.iload_n 3, 1) := by decide +kernel
theorem d_275_733 : decode (zm_code 275) 733 = .ok (.iconst 3, 1) := by decide +kernel
theorem d_275_734 : decode (zm_code 275) 734 = .ok (.iadd, 1) := by decide +kernel
theorem d_275_735 : decode (zm_code 275) 735 = .ok (.iaload, 1) := by decide +kernel
theorem d_275_736 : decode (zm_code 275) 736 = .ok (.invokevirtual 91, 3) := by decide +kernel
theorem d_275_739 : decode (zm_code 275) 739 = .ok (.aload_n 2, 1) := by decide +kernel
theorem d_275_740 : decode (zm_code 275) 740 = .ok (.aload_n 0, 1) := by decide +kernel
theorem d_275_741 : decode (zm_code 275) 741 = .ok (.iload_n 3, 1) := by decide +kernel
theorem d_275_742 : decode (zm_code 275) 742 = .ok (.iconst 1, 1) := by decide +kernel
theorem d_275_743 : decode (zm_code 275) 743 = .ok (.iadd, 1) := by decide +kernel
theorem d_275_744 : decode (zm_code 275) 744 = .ok (.iaload, 1) := by decide +kernel
theorem d_275_745 : decode (zm_code 275) 745 = .ok (.aload_n 0, 1) := by decide +kernel
theorem d_275_746 : decode (zm_code 275) 746 = .ok (.iload_n 3, 1) := by decide +kernel
theorem d_275_747 : decode (zm_code 275) 747 = .ok (.iconst 2, 1) := by decide +kernel
theorem d_275_748 : decode (zm_code 275) 748 = .ok (.iadd, 1) := by decide +kernel
theorem d_275_749 : decode (zm_code 275) 749 = .ok (.iaload, 1) := by decide +kernel
theorem d_275_750 : decode (zm_code 275) 750 = .ok (.aload_n 0, 1) := by decide +kernel
theorem d_275_751 : decode (zm_code 275) 751 = .ok (.iload_n 3, 1) := by decide +kernel
theorem d_275_752 : decode (zm_code 275) 752 = .ok (.iconst 3, 1) := by decide +kernel
theorem d_275_753 : decode (zm_code 275) 753 = .ok (.iadd, 1) := by decide +kernel
theorem d_275_754 : decode (zm_code 275) 754 = .ok (.iaload, 1) := by decide +kernel
theorem d_275_755 : decode (zm_code 275) 755 = .ok (.invokevirtual 94, 3) := by decide +kernel
theorem d_275_758 : decode (zm_code 275) 758 = .ok (.if_icmp .eq 334, 3) := by decide +kernel
theorem d_275_761 : decode (zm_code 275) 761 = .ok (.iconst 0, 1) := by decide +kernel
theorem d_275_762 : decode (zm_code 275) 762 = .ok (.ireturn, 1) := by decide +kernel
theorem d_275_763 : decode (zm_code 275) 763 = .ok (.aload_n 1, 1) := by decide +kernel
theorem d_275_764 : decode (zm_code 275) 764 = .ok (.aload_n 0, 1) := by decide +kernel
theorem d_275_765 : decode (zm_code 275) 765 = .ok (.iload_n 3, 1) := by decide +kernel
theorem d_275_766 : decode (zm_code 275) 766 = .ok (.iconst 1, 1) := by decide +kernel
theorem d_275_767 : decode (zm_code 275) 767 = .ok (.iadd, 1) := by decide +kernel
theorem d_275_768 : decode (zm_code 275) 768 = .ok (.iaload, 1) := by decide +kernel
theorem d_275_769 : decode (zm_code 275) 769 = .ok (.aload_n 0, 1) := by decide +kernel
theorem d_275_770 : decode (zm_code 275) 770 = .ok (.iload_n 3, 1) := by decide +kernel
theorem d_275_771 : decode (zm_code 275) 771 = .ok (.iconst 2, 1) := by decide +kernel
theorem d_275_772 : decode (zm_code 275) 772 = .ok (.iadd, 1) := by decide +kernel
theorem d_275_773 : decode (zm_code 275) 773 = .ok (.iaload, 1) := by decide +kernel
theorem d_275_774 : decode (zm_code 275) 774 = .ok (.invokevirtual 95, 3) := by decide +kernel
theorem d_275_777 : decode (zm_code 275) 777 = .ok (.aload_n 2, 1) := by decide +kernel
theorem d_275_778 : decode (zm_code 275) 778 = .ok (.aload_n 0, 1) := by decide +kernel
theorem d_275_779 : decode (zm_code 275) 779 = .ok (.iload_n 3, 1) := by decide +kernel
theorem d_275_780 : decode (zm_code 275) 780 = .ok (.iconst 1, 1) := by decide +kernel
theorem d_275_781 : decode (zm_code 275) 781 = .ok (.iadd, 1) := by decide +kernel
theorem d_275_782 : decode (zm_code 275) 782 = .ok (.iaload, 1) := by decide +kernel
theorem d_275_783 : decode (zm_code 275) 783 = .ok (.aload_n 0, 1) := by decide +kernel
theorem d_275_784 : decode (zm_code 275) 784 = .ok (.iload_n 3, 1) := by decide +kernel
theorem d_275_785 : decode (zm_code 275) 785 = .ok (.iconst 2, 1) := by decide +kernel
theorem d_275_786 : decode (zm_code 275) 786 = .ok (.iadd, 1) := by decide +kernel
theorem d_275_787 : decode (zm_code 275) 787 = .ok (.iaload, 1) := by decide +kernel
theorem d_275_788 : decode (zm_code 275) 788 = .ok (.invokevirtual 99, 3) := by decide +kernel
theorem d_275_791 : decode (zm_code 275) 791 = .ok (.if_icmp .eq 301, 3) := by decide +kernel
theorem d_275_794 : decode (zm_code 275) 794 = .ok (.iconst 0, 1) := by decide +kernel
theorem d_275_795 : decode (zm_code 275) 795 = .ok (.ireturn, 1) := by decide +kernel
theorem d_275_796 : decode (zm_code 275) 796 = .ok (.aload_n 1, 1) := by decide +kernel
theorem d_275_797 : decode (zm_code 275) 797 = .ok (.aload_n 0, 1) := by decide +kernel
theorem d_275_798 : decode (zm_code 275) 798 = .ok (.iload_n 3, 1) := by decide +kernel
theorem d_275_799 : decode (zm_code 275) 799 = .ok (.iconst 1, 1) := by decide +kernel
theorem d_275_800 : decode (zm_code 275) 800 = .ok (.iadd, 1) := by decide +kernel
theorem d_275_801 : decode (zm_code 275) 801 = .ok (.iaload, 1) := by decide +kernel
theorem d_275_802 : decode (zm_code 275) 802 = .ok (.aload_n 0, 1) := by decide +kernel
theorem d_275_803 : decode (zm_code 275) 803 = .ok (.iload_n 3, 1) := by decide +kernel
theorem d_275_804 : decode (zm_code 275) 804 = .ok (.iconst 2, 1) := by decide +kernel
theorem d_275_805 : decode (zm_code 275) 805 = .ok (.iadd, 1) := by decide +kernel
theorem d_275_806 : decode (zm_code 275) 806 = .ok (.iaload, 1) := by decide +kernel
theorem d_275_807 : decode (zm_code 275) 807 = .ok (.aload_n 0, 1) := by decide +kernel
theorem d_275_808 : decode (zm_code 275) 808 = .ok (.iload_n 3, 1) := by decide +kernel
theorem d_275_809 : decode (zm_code 275) 809 = .ok (.iconst 3, 1) := by decide +kernel
theorem d_275_810 : decode (zm_code 275) 810 = .ok (.iadd, 1) := by decide +kernel
theorem d_275_811 : decode (zm_code 275) 811 = .ok (.iaload, 1) := by decide +kernel
theorem d_275_812 : decode (zm_code 275) 812 = .ok (.aload_n 0, 1) := by decide +kernel
theorem d_275_813 : decode (zm_code 275) 813 = .ok (.iload_n 3, 1) := by decide +kernel
theorem d_275_814 : decode (zm_code 275) 814 = .ok (.iconst 4, 1) := by decide +kernel
theorem d_275_815 : decode (zm_code 275) 815 = .ok (.iadd, 1) := by decide +kernel
theorem d_275_816 : decode (zm_code 275) 816 = .ok (.iaload, 1) := by decide +kernel
theorem d_275_817 : decode (zm_code 275) 817 = .ok (.invokevirtual 100, 3) := by decide +kernel
theorem d_275_820 : decode (zm_code 275) 820 = .ok (.aload_n 2, 1) := by decide +kernel
theorem d_275_821 : decode (zm_code 275) 821 = .ok (.aload_n 0, 1) := by decide +kernel
theorem d_275_822 : decode (zm_code 275) 822 = .ok (.iload_n 3, 1) := by decide +kernel
theorem d_275_823 : decode (zm_code 275) 823 = .ok (.iconst 1, 1) := by decide +kernel
theorem d_275_824 : decode (zm_code 275) 824 = .ok (.iadd, 1) := by decide +kernel
theorem d_275_825 : decode (zm_code 275) 825 = .ok (.iaload, 1) := by decide +kernel
theorem d_275_826 : decode (zm_code 275) 826 = .ok (.aload_n 0, 1) := by decide +kernel
theorem d_275_827 : decode (zm_code 275) 827 = .ok (.iload_n 3, 1) := by decide +kernel
theorem d_275_828 : decode (zm_code 275) 828 = .ok (.iconst 2, 1) := by decide +kernel
theorem d_275_829 : decode (zm_code 275) 829 = .ok (.iadd, 1) := by decide +kernel
theorem d_275_830 : decode (zm_code 275) 830 = .ok (.iaload, 1) := by decide +kernel
theorem d_275_831 : decode (zm_code 275) 831 = .ok (.aload_n 0, 1) := by decide +kernel
theorem d_275_832 : decode (zm_code 275) 832 = .ok (.iload_n 3, 1) := by decide +kernel
theorem d_275_833 : decode (zm_code 275) 833 = .ok (.iconst 3, 1) := by decide +kernel
theorem d_275_834 : decode (zm_code 275) 834 = .ok (.iadd, 1) := by decide +kernel
theorem d_275_835 : decode (zm_code 275) 835 = .ok (.iaload, 1) := by decide +kernel
theorem d_275_836 : decode (zm_code 275) 836 = .ok (.aload_n 0, 1) := by decide +kernel
theorem d_275_837 : decode (zm_code 275) 837 = .ok (.iload_n 3, 1) := by decide +kernel
theorem d_275_838 : decode (zm_code 275) 838 = .ok (.iconst 4, 1) := by decide +kernel
theorem d_275_839 : decode (zm_code 275) 839 = .ok (.iadd, 1) := by decide +kernel
theorem d_275_840 : decode (zm_code 275) 840 = .ok (.iaload, 1) := by decide +kernel
theorem d_275_841 : decode (zm_code 275) 841 = .ok (.invokevirtual 104, 3) := by decide +kernel
theorem d_275_844 : decode (zm_code 275) 844 = .ok (.if_icmp .eq 248, 3) := by decide +kernel
theorem d_275_847 : decode (zm_code 275) 847 = .ok (.iconst 0, 1) := by decide +kernel
theorem d_275_848 : decode (zm_code 275) 848 = .ok (.ireturn, 1) := by decide +kernel
theorem d_275_849 : decode (zm_code 275) 849 = .ok (.aload_n 1, 1) := by decide +kernel
theorem d_275_850 : decode (zm_code 275) 850 = .ok (.aload_n 0, 1) := by decide +kernel
theorem d_275_851 : decode (zm_code 275) 851 = .ok (.iload_n 3, 1) := by decide +kernel
theorem d_275_852 : decode (zm_code 275) 852 = .ok (.iconst 1, 1) := by decide +kernel
theorem d_275_853 : decode (zm_code 275) 853 = .ok (.iadd, 1) := by decide +kernel
theorem d_275_854 : decode (zm_code 275) 854 = .ok (.iaload, 1) := by decide +kernel
theorem d_275_855 : decode (zm_code 275) 855 = .ok (.invokevirtual 105, 3) := by decide +kernel
theorem d_275_858 : decode (zm_code 275) 858 = .ok (.aload_n 2, 1) := by decide +kernel
theorem d_275_859 : decode (zm_code 275) 859 = .ok (.aload_n 0, 1) := by decide +kernel
theorem d_275_860 : decode (zm_code 275) 860 = .ok (.iload_n 3, 1) := by decide +kernel
theorem d_275_861 : decode (zm_code 275) 861 = .ok (.iconst 1, 1) := by decide +kernel
theorem d_275_862 : decode (zm_code 275) 862 = .ok (.iadd, 1) := by decide +kernel
theorem d_275_863 : decode (zm_code 275) 863 = .ok (.iaload, 1) := by decide +kernel
theorem d_275_864 : decode (zm_code 275) 864 = .ok (.invokevirtual 108, 3) := by decide +kernel
theorem d_275_867 : decode (zm_code 275) 867 = .ok (.if_icmp .eq 225, 3) := by decide +kernel
theorem d_275_870 : decode (zm_code 275) 870 = .ok (.iconst 0, 1) := by decide +kernel
theorem d_275_871 : decode (zm_code 275) 871 = .ok (.ireturn, 1) := by decide +kernel
theorem d_275_872 : decode (zm_code 275) 872 = .ok (.aload_n 1, 1) := by decide +kernel
theorem d_275_873 : decode (zm_code 275) 873 = .ok (.invokevirtual 109, 3) := by decide +kernel
theorem d_275_876 : decode (zm_code 275) 876 = .ok (.aload_n 2, 1) := by decide +kernel
theorem d_275_877 : decode (zm_code 275) 877 = .ok (.invokevirtual 113, 3) := by decide +kernel
theorem d_275_880 : decode (zm_code 275) 880 = .ok (.if_icmp .eq 212, 3) := by decide +kernel
theorem d_275_883 : decode (zm_code 275) 883 = .ok (.iconst 0, 1) := by decide +kernel
theorem d_275_884 : decode (zm_code 275) 884 = .ok (.ireturn, 1) := by decide +kernel
theorem d_275_885 : decode (zm_code 275) 885 = .ok (.aload_n 1, 1) := by decide +kernel
theorem d_275_886 : decode (zm_code 275) 886 = .ok (.aload_n 0, 1) := by decide +kernel
theorem d_275_887 : decode (zm_code 275) 887 = .ok (.iload_n 3, 1) := by decide +kernel
theorem d_275_888 : decode (zm_code 275) 888 = .ok (.iconst 1, 1) := by decide +kernel
theorem d_275_889 : decode (zm_code 275) 889 = .ok (.iadd, 1) := by decide +kernel
theorem d_275_890 : decode (zm_code 275) 890 = .ok (.iaload, 1) := by decide +kernel
theorem d_275_891 : decode (zm_code 275) 891 = .ok (.invokevirtual 114, 3) := by decide +kernel
theorem d_275_894 : decode (zm_code 275) 894 = .ok (.aload_n 2, 1) := by decide +kernel
theorem d_275_895 : decode (zm_code 275) 895 = .ok (.aload_n 0, 1) := by decide +kernel
theorem d_275_896 : decode (zm_code 275) 896 = .ok (.iload_n 3, 1) := by decide +kernel
theorem d_275_897 : decode (zm_code 275) 897 = .ok (.iconst 1, 1) := by decide +kernel
theorem d_275_898 : decode (zm_code 275) 898 = .ok (.iadd, 1) := by decide +kernel
theorem d_275_899 : decode (zm_code 275) 899 = .ok (.iaload, 1) := by decide +kernel
theorem d_275_900 : decode (zm_code 275) 900 = .ok (.invokevirtual 117, 3) := by decide +kernel
theorem d_275_903 : decode (zm_code 275) 903 = .ok (.if_icmp .eq 189, 3) := by decide +kernel
theorem d_275_906 : decode (zm_code 275) 906 = .ok (.iconst 0, 1) := by decide +kernel
theorem d_275_907 : decode (zm_code 275) 907 = .ok (.ireturn, 1) := by decide +kernel
theorem d_275_908 : decode (zm_code 275) 908 = .ok (.aload_n 1, 1) := by decide +kernel
theorem d_275_909 : decode (zm_code 275) 909 = .ok (.aload_n 0, 1) := by decide +kernel
theorem d_275_910 : decode (zm_code 275) 910 = .ok (.iload_n 3, 1) := by decide +kernel
theorem d_275_911 : decode (zm_code 275) 911 = .ok (.iconst 1, 1) := by decide +kernel
theorem d_275_912 : decode (zm_code 275) 912 = .ok (.iadd, 1) := by decide +kernel
theorem d_275_913 : decode (zm_code 275) 913 = .ok (.iaload, 1) := by decide +kernel
theorem d_275_914 : decode (zm_code 275) 914 = .ok (.aload_n 0, 1) := by decide +kernel
theorem d_275_915 : decode (zm_code 275) 915 = .ok (.iload_n 3, 1) := by decide +kernel
theorem d_275_916 : decode (zm_code 275) 916 = .ok (.iconst 2, 1) := by decide +kernel
theorem d_275_917 : decode (zm_code 275) 917 = .ok (.iadd, 1) := by decide +kernel
theorem d_275_918 : decode (zm_code 275) 918 = .ok (.iaload, 1) := by decide +kernel
theorem d_275_919 : decode (zm_code 275) 919 = .ok (.invokevirtual 118, 3) := by decide +kernel
theorem d_275_922 : decode (zm_code 275) 922 = .ok (.aload_n 2, 1) := by decide +kernel
theorem d_275_923 : decode (zm_code 275) 923 = .ok (.aload_n 0, 1) := by decide +kernel
theorem d_275_924 : decode (zm_code 275) 924 = .ok (.iload_n 3, 1) := by decide +kernel
theorem d_275_925 : decode (zm_code 275) 925 = .ok (.iconst 1, 1) := by decide +kernel
theorem d_275_926 : decode (zm_code 275) 926 = .ok (.iadd, 1) := by decide +kernel
theorem d_275_927 : decode (zm_code 275) 927 = .ok (.iaload, 1) := by decide +kernel
theorem d_275_928 : decode (zm_code 275) 928 = .ok (.aload_n 0, 1) := by decide +kernel
theorem d_275_929 : decode (zm_code 275) 929 = .ok (.iload_n 3, 1) := by decide +kernel
theorem d_275_930 : decode (zm_code 275) 930 = .ok (.iconst 2, 1) := by decide +kernel
theorem d_275_931 : decode (zm_code 275) 931 = .ok (.iadd, 1) := by decide +kernel
theorem d_275_932 : decode (zm_code 275) 932 = .ok (.iaload, 1) := by decide +kernel
theorem d_275_933 : decode (zm_code 275) 933 = .ok (.invokevirtual 121, 3) := by decide +kernel
theorem d_275_936 : decode (zm_code 275) 936 = .ok (.if_icmp .eq 156, 3) := by decide +kernel
theorem d_275_939 : decode (zm_code 275) 939 = .ok (.iconst 0, 1) := by decide +kernel
theorem d_275_940 : decode (zm_code 275) 940 = .ok (.ireturn, 1) := by decide +kernel
theorem d_275_941 : decode (zm_code 275) 941 = .ok (.aload_n 1, 1) := by decide +kernel
theorem d_275_942 : decode (zm_code 275) 942 = .ok (.invokevirtual 122, 3) := by decide +kernel
theorem d_275_945 : decode (zm_code 275) 945 = .ok (.aload_n 2, 1) := by decide +kernel
theorem d_275_946 : decode (zm_code 275) 946 = .ok (.invokevirtual 125, 3) := by decide +kernel
theorem d_275_949 : decode (zm_code 275) 949 = .ok (.if_icmp .eq 143, 3) := by decide +kernel
theorem d_275_952 : decode (zm_code 275) 952 = .ok (.iconst 0, 1) := by decide +kernel
theorem d_275_953 : decode (zm_code 275) 953 = .ok (.ireturn, 1) := by decide +kernel
theorem d_275_954 : decode (zm_code 275) 954 = .ok (.aload_n 1, 1) := by decide +kernel
theorem d_275_955 : decode (zm_code 275) 955 = .ok (.aload_n 0, 1) := by decide +kernel
theorem d_275_956 : decode (zm_code 275) 956 = .ok (.iload_n 3, 1) := by decide +kernel
theorem d_275_957 : decode (zm_code 275) 957 = .ok (.iconst 1, 1) := by decide +kernel
theorem d_275_958 : decode (zm_code 275) 958 = .ok (.iadd, 1) := by decide +kernel
theorem d_275_959 : decode (zm_code 275) 959 = .ok (.iaload, 1) := by decide +kernel
theorem d_275_960 : decode (zm_code 275) 960 = .ok (.aload_n 0, 1) := by decide +kernel
theorem d_275_961 : decode (zm_code 275) 961 = .ok (.iload_n 3, 1) := by decide +kernel
theorem d_275_962 : decode (zm_code 275) 962 = .ok (.iconst 2, 1) := by decide +kernel
theorem d_275_963 : decode (zm_code 275) 963 = .ok (.iadd, 1) := by decide +kernel
theorem d_275_964 : decode (zm_code 275) 964 = .ok (.iaload, 1) := by decide +kernel
theorem d_275_965 : decode (zm_code 275) 965 = .ok (.invokevirtual 126, 3) := by decide +kernel
theorem d_275_968 : decode (zm_code 275) 968 = .ok (.aload_n 2, 1) := by decide +kernel
theorem d_275_969 : decode (zm_code 275) 969 = .ok (.aload_n 0, 1) := by decide +kernel
theorem d_275_970 : decode (zm_code 275) 970 = .ok (.iload_n 3, 1) := by decide +kernel
theorem d_275_971 : decode (zm_code 275) 971 = .ok (.iconst 1, 1) := by decide +kernel
theorem d_275_972 : decode (zm_code 275) 972 = .ok (.iadd, 1) := by decide +kernel
theorem d_275_973 : decode (zm_code 275) 973 = .ok (.iaload, 1) := by decide +kernel
theorem d_275_974 : decode (zm_code 275) 974 = .ok (.aload_n 0, 1) := by decide +kernel
theorem d_275_975 : decode (zm_code 275) 975 = .ok (.iload_n 3, 1) := by decide +kernel
theorem d_275_976 : decode (zm_code 275) 976 = .ok (.iconst 2, 1) := by decide +kernel
theorem d_275_977 : decode (zm_code 275) 977 = .ok (.iadd, 1) := by decide +kernel
theorem d_275_978 : decode (zm_code 275) 978 = .ok (.iaload, 1) := by decide +kernel
theorem d_275_979 : decode (zm_code 275) 979 = .ok (.invokevirtual 129, 3) := by decide +kernel
theorem d_275_982 : decode (zm_code 275) 982 = .ok (.if_icmp .eq 110, 3) := by decide +kernel
theorem d_275_985 : decode (zm_code 275) 985 = .ok (.iconst 0, 1) := by decide +kernel
theorem d_275_986 : decode (zm_code 275) 986 = .ok (.ireturn, 1) := by decide +kernel
theorem d_275_987 : decode (zm_code 275) 987 = .ok (.aload_n 1, 1) := by decide +kernel
theorem d_275_988 : decode (zm_code 275) 988 = .ok (.aload_n 0, 1) := by decide +kernel
theorem d_275_989 : decode (zm_code 275) 989 = .ok (.iload_n 3, 1) := by decide +kernel
theorem d_275_990 : decode (zm_code 275) 990 = .ok (.iconst 1, 1) := by decide +kernel
theorem d_275_991 : decode (zm_code 275) 991 = .ok (.iadd, 1) := by decide +kernel
theorem d_275_992 : decode (zm_code 275) 992 = .ok (.iaload, 1) := by decide +kernel
theorem d_275_993 : decode (zm_code 275) 993 = .ok (.aload_n 0, 1) := by decide +kernel
theorem d_275_994 : decode (zm_code 275) 994 = .ok (.iload_n 3, 1) := by decide +kernel
theorem d_275_995 : decode (zm_code 275) 995 = .ok (.iconst 2, 1) := by decide +kernel
theorem d_275_996 : decode (zm_code 275) 996 = .ok (.iadd, 1) := by decide +kernel
theorem d_275_997 : decode (zm_code 275) 997 = .ok (.iaload, 1) := by decide +kernel
theorem d_275_998 : decode (zm_code 275) 998 = .ok (.invokevirtual 130, 3) := by decide +kernel
theorem d_275_1001 : decode (zm_code 275) 1001 = .ok (.aload_n 2, 1) := by decide +kernel
theorem d_275_1002 : decode (zm_code 275) 1002 = .ok (.aload_n 0, 1) := by decide +kernel
theorem d_275_1003 : decode (zm_code 275) 1003 = .ok (.iload_n 3, 1) := by decide +kernel
theorem d_275_1004 : decode (zm_code 275) 1004 = .ok (.iconst 1, 1) := by decide +kernel
theorem d_275_1005 : decode (zm_code 275) 1005 = .ok (.iadd, 1) := by decide +kernel
theorem d_275_1006 : decode (zm_code 275) 1006 = .ok (.iaload, 1) := by decide +kernel
theorem d_275_1007 : decode (zm_code 275) 1007 = .ok (.aload_n 0, 1) := by decide +kernel
theorem d_275_1008 : decode (zm_code 275) 1008 = .ok (.iload_n 3, 1) := by decide +kernel
theorem d_275_1009 : decode (zm_code 275) 1009 = .ok (.iconst 2, 1) := by decide +kernel
theorem d_275_1010 : decode (zm_code 275) 1010 = .ok (.iadd, 1) := by decide +kernel
theorem d_275_1011 : decode (zm_code 275) 1011 = .ok (.iaload, 1) := by decide +kernel
theorem d_275_1012 : decode (zm_code 275) 1012 = .ok (.invokevirtual 133, 3) := by decide +kernel
theorem d_275_1015 : decode (zm_code 275) 1015 = .ok (.if_icmp .eq 77, 3) := by decide +kernel
theorem d_275_1018 : decode (zm_code 275) 1018 = .ok (.iconst 0, 1) := by decide +kernel
theorem d_275_1019 : decode (zm_code 275) 1019 = .ok (.ireturn, 1) := by decide +kernel
theorem d_275_1020 : decode (zm_code 275) 1020 = .ok (.aload_n 1, 1) := by decide +kernel
theorem d_275_1021 : decode (zm_code 275) 1021 = .ok (.invokevirtual 134, 3) := by decide +kernel
theorem d_275_1024 : decode (zm_code 275) 1024 = .ok (.aload_n 2, 1) := by decide +kernel
theorem d_275_1025 : decode (zm_code 275) 1025 = .ok (.invokevirtual 137, 3) := by decide +kernel
theorem d_275_1028 : decode (zm_code 275) 1028 = .ok (.if_icmp .eq 64, 3) := by decide +kernel
theorem d_275_1031 : decode (zm_code 275) 1031 = .ok (.iconst 0, 1) := by decide +kernel
theorem d_275_1032 : decode (zm_code 275) 1032 = .ok (.ireturn, 1) := by decide +kernel
theorem d_275_1033 : decode (zm_code 275) 1033 = .ok (.aload_n 1, 1) := by decide +kernel
theorem d_275_1034 : decode (zm_code 275) 1034 = .ok (.aload_n 0, 1) := by decide +kernel
theorem d_275_1035 : decode (zm_code 275) 1035 = .ok (.iload_n 3, 1) := by decide +kernel
theorem d_275_1036 : decode (zm_code 275) 1036 = .ok (.iconst 1, 1) := by decide +kernel
theorem d_275_1037 : decode (zm_code 275) 1037 = .ok (.iadd, 1) := by decide +kernel
theorem d_275_1038 : decode (zm_code 275) 1038 = .ok (.iaload, 1) := by decide +kernel
theorem d_275_1039 : decode (zm_code 275) 1039 = .ok (.invokevirtual 138, 3) := by decide +kernel
theorem d_275_1042 : decode (zm_code 275) 1042 = .ok (.aload_n 2, 1) := by decide +kernel
theorem d_275_1043 : decode (zm_code 275) 1043 = .ok (.aload_n 0, 1) := by decide +kernel
theorem d_275_1044 : decode (zm_code 275) 1044 = .ok (.iload_n 3, 1) := by decide +kernel
theorem d_275_1045 : decode (zm_code 275) 1045 = .ok (.iconst 1, 1) := by decide +kernel
theorem d_275_1046 : decode (zm_code 275) 1046 = .ok (.iadd, 1) := by decide +kernel
theorem d_275_1047 : decode (zm_code 275) 1047 = .ok (.iaload, 1) := by decide +kernel
theorem d_275_1048 : decode (zm_code 275) 1048 = .ok (.invokevirtual 141, 3) := by decide +kernel
theorem d_275_1051 : decode (zm_code 275) 1051 = .ok (.if_icmp .eq 41, 3) := by decide +kernel
theorem d_275_1054 : decode (zm_code 275) 1054 = .ok (.iconst 0, 1) := by decide +kernel
theorem d_275_1055 : decode (zm_code 275) 1055 = .ok (.ireturn, 1) := by decide +kernel
theorem d_275_1056 : decode (zm_code 275) 1056 = .ok (.aload_n 1, 1) := by decide +kernel
theorem d_275_1057 : decode (zm_code 275) 1057 = .ok (.invokevirtual 142, 3) := by decide +kernel
theorem d_275_1060 : decode (zm_code 275) 1060 = .ok (.aload_n 2, 1) := by decide +kernel
theorem d_275_1061 : decode (zm_code 275) 1061 = .ok (.invokevirtual 145, 3) := by decide +kernel
theorem d_275_1064 : decode (zm_code 275) 1064 = .ok (.if_icmp .eq 28, 3) := by decide +kernel
theorem d_275_1067 : decode (zm_code 275) 1067 = .ok (.iconst 0, 1) := by decide +kernel
theorem d_275_1068 : decode (zm_code 275) 1068 = .ok (.ireturn, 1) := by decide +kernel
theorem d_275_1069 : decode (zm_code 275) 1069 = .ok (.aload_n 1, 1) := by decide +kernel
theorem d_275_1070 : decode (zm_code 275) 1070 = .ok (.aload_n 0, 1) := by decide +kernel
theorem d_275_1071 : decode (zm_code 275) 1071 = .ok (.iload_n 3, 1) := by decide +kernel
theorem d_275_1072 : decode (zm_code 275) 1072 = .ok (.iconst 1, 1) := by decide +kernel
theorem d_275_1073 : decode (zm_code 275) 1073 = .ok (.iadd, 1) := by decide +kernel
theorem d_275_1074 : decode (zm_code 275) 1074 = .ok (.iaload, 1) := by decide +kernel
theorem d_275_1075 : decode (zm_code 275) 1075 = .ok (.invokevirtual 146, 3) := by decide +kernel
theorem d_275_1078 : decode (zm_code 275) 1078 = .ok (.aload_n 2, 1) := by decide +kernel
theorem d_275_1079 : decode (zm_code 275) 1079 = .ok (.aload_n 0, 1) := by decide +kernel
theorem d_275_1080 : decode (zm_code 275) 1080 = .ok (.iload_n 3, 1) := by decide +kernel
theorem d_275_1081 : decode (zm_code 275) 1081 = .ok (.iconst 1, 1) := by decide +kernel
theorem d_275_1082 : decode (zm_code 275) 1082 = .ok (.iadd, 1) := by decide +kernel
theorem d_275_1083 : decode (zm_code 275) 1083 = .ok (.iaload, 1) := by decide +kernel
theorem d_275_1084 : decode (zm_code 275) 1084 = .ok (.invokevirtual 149, 3) := by decide +kernel
theorem d_275_1087 : decode (zm_code 275) 1087 = .ok (.if_icmp .eq 5, 3) := by decide +kernel
theorem d_275_1090 : decode (zm_code 275) 1090 = .ok (.iconst 0, 1) := by decide +kernel
theorem d_275_1091 : decode (zm_code 275) 1091 = .ok (.ireturn, 1) := by decide +kernel
theorem d_275_1092 : decode (zm_code 275) 1092 = .ok (.iinc 3 6, 3) := by decide +kernel
theorem d_275_1095 : decode (zm_code 275) 1095 = .ok (.goto (-1077), 3) := by decide +kernel
theorem d_275_1098 : decode (zm_code 275) 1098 = .ok (.iconst 1, 1) := by decide +kernel
theorem d_275_1099 : decode (zm_code 275) 1099 = .ok (.ireturn, 1) := by decide +kernel
-- BranTubLaw.law, from 18
set_option maxRecDepth 20000 in
theorem e_275_18 {h : zm_H} {x3 : Int} {n : Nat} {xs : Int → Int} : zl (zm_ck (zm_i32 (((n : Int)) - 6)) (if (((n : Int)) - 6) < x3 then (zm_ck (zm_bit 1) (some (zm_I 1, h))) else (zm_ck (0 ≤ x3 ∧ x3 < (n : Int)) (if (zb_iand (xs x3) 31) = 0 then (zr (some (n, xs)) 95 275 176 [zm_A 3, zm_A 4, zm_A 146, zm_I x3] [] h) else (if (zb_iand (xs x3) 31) = 1 then (zr (some (n, xs)) 95 275 239 [zm_A 3, zm_A 4, zm_A 146, zm_I x3] [] h) else (if (zb_iand (xs x3) 31) = 2 then (zr (some (n, xs)) 95 275 262 [zm_A 3, zm_A 4, zm_A 146, zm_I x3] [] h) else (if (zb_iand (xs x3) 31) = 3 then (zr (some (n, xs)) 95 275 275 [zm_A 3, zm_A 4, zm_A 146, zm_I x3] [] h) else (if (zb_iand (xs x3) 31) = 4 then (zr (some (n, xs)) 95 275 298 [zm_A 3, zm_A 4, zm_A 146, zm_I x3] [] h) else (if (zb_iand (xs x3) 31) = 5 then (zr (some (n, xs)) 95 275 321 [zm_A 3, zm_A 4, zm_A 146, zm_I x3] [] h) else (if (zb_iand (xs x3) 31) = 6 then (zr (some (n, xs)) 95 275 364 [zm_A 3, zm_A 4, zm_A 146, zm_I x3] [] h) else (if (zb_iand (xs x3) 31) = 7 then (zr (some (n, xs)) 95 275 397 [zm_A 3, zm_A 4, zm_A 146, zm_I x3] [] h) else (if (zb_iand (xs x3) 31) = 8 then (zr (some (n, xs)) 95 275 430 [zm_A 3, zm_A 4, zm_A 146, zm_I x3] [] h) else (if (zb_iand (xs x3) 31) = 9 then (zr (some (n, xs)) 95 275 463 [zm_A 3, zm_A 4, zm_A 146, zm_I x3] [] h) else (if (zb_iand (xs x3) 31) = 10 then (zr (some (n, xs)) 95 275 506 [zm_A 3, zm_A 4, zm_A 146, zm_I x3] [] h) else (if (zb_iand (xs x3) 31) = 11 then (zr (some (n, xs)) 95 275 539 [zm_A 3, zm_A 4, zm_A 146, zm_I x3] [] h) else (if (zb_iand (xs x3) 31) = 12 then (zr (some (n, xs)) 95 275 572 [zm_A 3, zm_A 4, zm_A 146, zm_I x3] [] h) else (if (zb_iand (xs x3) 31) = 13 then (zr (some (n, xs)) 95 275 595 [zm_A 3, zm_A 4, zm_A 146, zm_I x3] [] h) else (if (zb_iand (xs x3) 31) = 14 then (zr (some (n, xs)) 95 275 628 [zm_A 3, zm_A 4, zm_A 146, zm_I x3] [] h) else (if (zb_iand (xs x3) 31) = 15 then (zr (some (n, xs)) 95 275 651 [zm_A 3, zm_A 4, zm_A 146, zm_I x3] [] h) else (if (zb_iand (xs x3) 31) = 16 then (zr (some (n, xs)) 95 275 684 [zm_A 3, zm_A 4, zm_A 146, zm_I x3] [] h) else (if (zb_iand (xs x3) 31) = 17 then (zr (some (n, xs)) 95 275 707 [zm_A 3, zm_A 4, zm_A 146, zm_I x3] [] h) else (if (zb_iand (xs x3) 31) = 18 then (zr (some (n, xs)) 95 275 720 [zm_A 3, zm_A 4, zm_A 146, zm_I x3] [] h) else (if (zb_iand (xs x3) 31) = 19 then (zr (some (n, xs)) 95 275 763 [zm_A 3, zm_A 4, zm_A 146, zm_I x3] [] h) else (if (zb_iand (xs x3) 31) = 20 then (zr (some (n, xs)) 95 275 796 [zm_A 3, zm_A 4, zm_A 146, zm_I x3] [] h) else (if (zb_iand (xs x3) 31) = 21 then (zr (some (n, xs)) 95 275 849 [zm_A 3, zm_A 4, zm_A 146, zm_I x3] [] h) else (if (zb_iand (xs x3) 31) = 22 then (zr (some (n, xs)) 95 275 872 [zm_A 3, zm_A 4, zm_A 146, zm_I x3] [] h) else (if (zb_iand (xs x3) 31) = 23 then (zr (some (n, xs)) 95 275 885 [zm_A 3, zm_A 4, zm_A 146, zm_I x3] [] h) else (if (zb_iand (xs x3) 31) = 24 then (zr (some (n, xs)) 95 275 908 [zm_A 3, zm_A 4, zm_A 146, zm_I x3] [] h) else (if (zb_iand (xs x3) 31) = 25 then (zr (some (n, xs)) 95 275 941 [zm_A 3, zm_A 4, zm_A 146, zm_I x3] [] h) else (if (zb_iand (xs x3) 31) = 26 then (zr (some (n, xs)) 95 275 954 [zm_A 3, zm_A 4, zm_A 146, zm_I x3] [] h) else (if (zb_iand (xs x3) 31) = 27 then (zr (some (n, xs)) 95 275 987 [zm_A 3, zm_A 4, zm_A 146, zm_I x3] [] h) else (if (zb_iand (xs x3) 31) = 28 then (zr (some (n, xs)) 95 275 1020 [zm_A 3, zm_A 4, zm_A 146, zm_I x3] [] h) else (if (zb_iand (xs x3) 31) = 29 then (zr (some (n, xs)) 95 275 1033 [zm_A 3, zm_A 4, zm_A 146, zm_I x3] [] h) else (if (zb_iand (xs x3) 31) = 30 then (zr (some (n, xs)) 95 275 1056 [zm_A 3, zm_A 4, zm_A 146, zm_I x3] [] h) else (if (zb_iand (xs x3) 31) = 31 then (zr (some (n, xs)) 95 275 1069 [zm_A 3, zm_A 4, zm_A 146, zm_I x3] [] h) else (zm_ck (zm_i32 (x3 + 6)) (zr (some (n, xs)) 95 275 18 [zm_A 3, zm_A 4, zm_A 146, zm_I (x3 + 6)] [] h))))))))))))))))))))))))))))))))))))) (zr (some (n, xs)) 95 275 18 [zm_A 3, zm_A 4, zm_A 146, zm_I x3] [] h) := by
  refine zl_tr (r_iload_n d_275_18 rfl) ?_
  refine zl_tr (r_aload_n d_275_19 rfl) ?_
  refine zl_tr (r_alen3 d_275_20) ?_
  refine zl_tr (r_bipush d_275_21 (by decide)) ?_
  refine zl_tr (r_isub d_275_23) (zl_ck ?_)
  refine zl_tr (r_icmp_gt (tgt := 1098) d_275_24 (by decide)) (zl_if ?_ ?_)
  · skip
    refine zl_tr (r_iconst d_275_1098 (by decide)) ?_
    exact r_zret d_275_1099 rt_275
  · skip
    refine zl_tr (r_aload_n d_275_27 rfl) ?_
    refine zl_tr (r_iload_n d_275_28 rfl) ?_
    refine zl_tr (r_iaload3 d_275_29) (zl_ck ?_)
    refine zl_tr (r_bipush d_275_30 (by decide)) ?_
    refine zl_tr (r_iand d_275_32) ?_
    refine zl_eq 0 (fun hx => ?_) (fun hx0 => ?_)
    · refine zl_tr (r_tsw (tgt := 176) d_275_33 (by rw [hx]; decide) (by decide)) ?_
      exact zl_rf
    refine zl_eq 1 (fun hx => ?_) (fun hx1 => ?_)
    · refine zl_tr (r_tsw (tgt := 239) d_275_33 (by rw [hx]; decide) (by decide)) ?_
      exact zl_rf
    refine zl_eq 2 (fun hx => ?_) (fun hx2 => ?_)
    · refine zl_tr (r_tsw (tgt := 262) d_275_33 (by rw [hx]; decide) (by decide)) ?_
      exact zl_rf
    refine zl_eq 3 (fun hx => ?_) (fun hx3 => ?_)
    · refine zl_tr (r_tsw (tgt := 275) d_275_33 (by rw [hx]; decide) (by decide)) ?_
      exact zl_rf
    refine zl_eq 4 (fun hx => ?_) (fun hx4 => ?_)
    · refine zl_tr (r_tsw (tgt := 298) d_275_33 (by rw [hx]; decide) (by decide)) ?_
      exact zl_rf
    refine zl_eq 5 (fun hx => ?_) (fun hx5 => ?_)
    · refine zl_tr (r_tsw (tgt := 321) d_275_33 (by rw [hx]; decide) (by decide)) ?_
      exact zl_rf
    refine zl_eq 6 (fun hx => ?_) (fun hx6 => ?_)
    · refine zl_tr (r_tsw (tgt := 364) d_275_33 (by rw [hx]; decide) (by decide)) ?_
      exact zl_rf
    refine zl_eq 7 (fun hx => ?_) (fun hx7 => ?_)
    · refine zl_tr (r_tsw (tgt := 397) d_275_33 (by rw [hx]; decide) (by decide)) ?_
      exact zl_rf
    refine zl_eq 8 (fun hx => ?_) (fun hx8 => ?_)
    · refine zl_tr (r_tsw (tgt := 430) d_275_33 (by rw [hx]; decide) (by decide)) ?_
      exact zl_rf
    refine zl_eq 9 (fun hx => ?_) (fun hx9 => ?_)
    · refine zl_tr (r_tsw (tgt := 463) d_275_33 (by rw [hx]; decide) (by decide)) ?_
      exact zl_rf
    refine zl_eq 10 (fun hx => ?_) (fun hx10 => ?_)
    · refine zl_tr (r_tsw (tgt := 506) d_275_33 (by rw [hx]; decide) (by decide)) ?_
      exact zl_rf
    refine zl_eq 11 (fun hx => ?_) (fun hx11 => ?_)
    · refine zl_tr (r_tsw (tgt := 539) d_275_33 (by rw [hx]; decide) (by decide)) ?_
      exact zl_rf
    refine zl_eq 12 (fun hx => ?_) (fun hx12 => ?_)
    · refine zl_tr (r_tsw (tgt := 572) d_275_33 (by rw [hx]; decide) (by decide)) ?_
      exact zl_rf
    refine zl_eq 13 (fun hx => ?_) (fun hx13 => ?_)
    · refine zl_tr (r_tsw (tgt := 595) d_275_33 (by rw [hx]; decide) (by decide)) ?_
      exact zl_rf
    refine zl_eq 14 (fun hx => ?_) (fun hx14 => ?_)
    · refine zl_tr (r_tsw (tgt := 628) d_275_33 (by rw [hx]; decide) (by decide)) ?_
      exact zl_rf
    refine zl_eq 15 (fun hx => ?_) (fun hx15 => ?_)
    · refine zl_tr (r_tsw (tgt := 651) d_275_33 (by rw [hx]; decide) (by decide)) ?_
      exact zl_rf
    refine zl_eq 16 (fun hx => ?_) (fun hx16 => ?_)
    · refine zl_tr (r_tsw (tgt := 684) d_275_33 (by rw [hx]; decide) (by decide)) ?_
      exact zl_rf
    refine zl_eq 17 (fun hx => ?_) (fun hx17 => ?_)
    · refine zl_tr (r_tsw (tgt := 707) d_275_33 (by rw [hx]; decide) (by decide)) ?_
      exact zl_rf
    refine zl_eq 18 (fun hx => ?_) (fun hx18 => ?_)
    · refine zl_tr (r_tsw (tgt := 720) d_275_33 (by rw [hx]; decide) (by decide)) ?_
      exact zl_rf
    refine zl_eq 19 (fun hx => ?_) (fun hx19 => ?_)
    · refine zl_tr (r_tsw (tgt := 763) d_275_33 (by rw [hx]; decide) (by decide)) ?_
      exact zl_rf
    refine zl_eq 20 (fun hx => ?_) (fun hx20 => ?_)
    · refine zl_tr (r_tsw (tgt := 796) d_275_33 (by rw [hx]; decide) (by decide)) ?_
      exact zl_rf
    refine zl_eq 21 (fun hx => ?_) (fun hx21 => ?_)
    · refine zl_tr (r_tsw (tgt := 849) d_275_33 (by rw [hx]; decide) (by decide)) ?_
      exact zl_rf
    refine zl_eq 22 (fun hx => ?_) (fun hx22 => ?_)
    · refine zl_tr (r_tsw (tgt := 872) d_275_33 (by rw [hx]; decide) (by decide)) ?_
      exact zl_rf
    refine zl_eq 23 (fun hx => ?_) (fun hx23 => ?_)
    · refine zl_tr (r_tsw (tgt := 885) d_275_33 (by rw [hx]; decide) (by decide)) ?_
      exact zl_rf
    refine zl_eq 24 (fun hx => ?_) (fun hx24 => ?_)
    · refine zl_tr (r_tsw (tgt := 908) d_275_33 (by rw [hx]; decide) (by decide)) ?_
      exact zl_rf
    refine zl_eq 25 (fun hx => ?_) (fun hx25 => ?_)
    · refine zl_tr (r_tsw (tgt := 941) d_275_33 (by rw [hx]; decide) (by decide)) ?_
      exact zl_rf
    refine zl_eq 26 (fun hx => ?_) (fun hx26 => ?_)
    · refine zl_tr (r_tsw (tgt := 954) d_275_33 (by rw [hx]; decide) (by decide)) ?_
      exact zl_rf
    refine zl_eq 27 (fun hx => ?_) (fun hx27 => ?_)
    · refine zl_tr (r_tsw (tgt := 987) d_275_33 (by rw [hx]; decide) (by decide)) ?_
      exact zl_rf
    refine zl_eq 28 (fun hx => ?_) (fun hx28 => ?_)
    · refine zl_tr (r_tsw (tgt := 1020) d_275_33 (by rw [hx]; decide) (by decide)) ?_
      exact zl_rf
    refine zl_eq 29 (fun hx => ?_) (fun hx29 => ?_)
    · refine zl_tr (r_tsw (tgt := 1033) d_275_33 (by rw [hx]; decide) (by decide)) ?_
      exact zl_rf
    refine zl_eq 30 (fun hx => ?_) (fun hx30 => ?_)
    · refine zl_tr (r_tsw (tgt := 1056) d_275_33 (by rw [hx]; decide) (by decide)) ?_
      exact zl_rf
    refine zl_eq 31 (fun hx => ?_) (fun hx31 => ?_)
    · refine zl_tr (r_tsw (tgt := 1069) d_275_33 (by rw [hx]; decide) (by decide)) ?_
      exact zl_rf
    refine zl_tr (r_tsw (tgt := 1092) d_275_33 (by rw [if_pos (by omega)]; decide) (by decide)) ?_
    refine zl_tr (r_iinc (loc' := [zm_A 3, zm_A 4, zm_A 146, zm_I (x3 + 6)]) d_275_1092 rfl (Nat.le_of_ble_eq_true rfl) rfl) (zl_ck ?_)
    refine zl_tr (r_goto (tgt := 18) d_275_1095 (by decide)) ?_
    exact zl_rf
-- BranTubLaw.law, from 176
set_option maxRecDepth 20000 in
theorem e_275_176 {h : zm_H} {x3 : Int} {n : Nat} {xs : Int → Int} : zl (zm_ck (zm_i32 (x3 + 1)) (zm_ck (0 ≤ (x3 + 1) ∧ (x3 + 1) < (n : Int)) (zm_ck (zm_i32 (x3 + 2)) (zm_ck (0 ≤ (x3 + 2) ∧ (x3 + 2) < (n : Int)) (zm_ck (zm_i32 (x3 + 3)) (zm_ck (0 ≤ (x3 + 3) ∧ (x3 + 3) < (n : Int)) (zm_ck (zm_i32 (x3 + 4)) (zm_ck (0 ≤ (x3 + 4) ∧ (x3 + 4) < (n : Int)) (zm_ck (zm_i32 (x3 + 5)) (zm_ck (0 ≤ (x3 + 5) ∧ (x3 + 5) < (n : Int)) (zk_I (zc 1 [zm_A 4, zm_I (xs (x3 + 1)), zm_I (xs (x3 + 2)), zm_I (xs (x3 + 3)), zm_I (xs (x3 + 4)), zm_I (xs (x3 + 5))] h) (fun v1 h2 => zm_ck (zm_i32 (x3 + 1)) (zm_ck (0 ≤ (x3 + 1) ∧ (x3 + 1) < (n : Int)) (zm_ck (zm_i32 (x3 + 2)) (zm_ck (0 ≤ (x3 + 2) ∧ (x3 + 2) < (n : Int)) (zm_ck (zm_i32 (x3 + 3)) (zm_ck (0 ≤ (x3 + 3) ∧ (x3 + 3) < (n : Int)) (zm_ck (zm_i32 (x3 + 4)) (zm_ck (0 ≤ (x3 + 4) ∧ (x3 + 4) < (n : Int)) (zm_ck (zm_i32 (x3 + 5)) (zm_ck (0 ≤ (x3 + 5) ∧ (x3 + 5) < (n : Int)) (zk_I (zc 154 [zm_A 146, zm_I (xs (x3 + 1)), zm_I (xs (x3 + 2)), zm_I (xs (x3 + 3)), zm_I (xs (x3 + 4)), zm_I (xs (x3 + 5))] h2) (fun v3 h4 => if v1 = v3 then (zm_ck (zm_i32 (x3 + 6)) (zr (some (n, xs)) 95 275 18 [zm_A 3, zm_A 4, zm_A 146, zm_I (x3 + 6)] [] h4)) else (zm_ck (zm_bit 0) (some (zm_I 0, h4)))))))))))))))))))))))))) (zr (some (n, xs)) 95 275 176 [zm_A 3, zm_A 4, zm_A 146, zm_I x3] [] h) := by
  refine zl_tr (r_aload_n d_275_176 rfl) ?_
  refine zl_tr (r_aload_n d_275_177 rfl) ?_
  refine zl_tr (r_iload_n d_275_178 rfl) ?_
  refine zl_tr (r_iconst d_275_179 (by decide)) ?_
  refine zl_tr (r_iadd d_275_180) (zl_ck ?_)
  refine zl_tr (r_iaload3 d_275_181) (zl_ck ?_)
  refine zl_tr (r_aload_n d_275_182 rfl) ?_
  refine zl_tr (r_iload_n d_275_183 rfl) ?_
  refine zl_tr (r_iconst d_275_184 (by decide)) ?_
  refine zl_tr (r_iadd d_275_185) (zl_ck ?_)
  refine zl_tr (r_iaload3 d_275_186) (zl_ck ?_)
  refine zl_tr (r_aload_n d_275_187 rfl) ?_
  refine zl_tr (r_iload_n d_275_188 rfl) ?_
  refine zl_tr (r_iconst d_275_189 (by decide)) ?_
  refine zl_tr (r_iadd d_275_190) (zl_ck ?_)
  refine zl_tr (r_iaload3 d_275_191) (zl_ck ?_)
  refine zl_tr (r_aload_n d_275_192 rfl) ?_
  refine zl_tr (r_iload_n d_275_193 rfl) ?_
  refine zl_tr (r_iconst d_275_194 (by decide)) ?_
  refine zl_tr (r_iadd d_275_195) (zl_ck ?_)
  refine zl_tr (r_iaload3 d_275_196) (zl_ck ?_)
  refine zl_tr (r_aload_n d_275_197 rfl) ?_
  refine zl_tr (r_iload_n d_275_198 rfl) ?_
  refine zl_tr (r_iconst d_275_199 (by decide)) ?_
  refine zl_tr (r_iadd d_275_200) (zl_ck ?_)
  refine zl_tr (r_iaload3 d_275_201) (zl_ck ?_)
  refine zl_tr (r_VI [zm_A 4, zm_I (xs (x3 + 1)), zm_I (xs (x3 + 2)), zm_I (xs (x3 + 3)), zm_I (xs (x3 + 4)), zm_I (xs (x3 + 5))] d_275_202 ow_275 cal_13_13 na_1 rfl rfl (Nat.le_of_ble_eq_true rfl) (by rw [rk_1]; decide) (zr_rcv la_4 ow_1) (zr_im mx_1 rfl (Nat.le_of_ble_eq_true rfl)) (by rw [rt_1]; decide)) (zl_I (fun v1 h2 => ?_))
  refine zl_tr (r_aload_n d_275_205 rfl) ?_
  refine zl_tr (r_aload_n d_275_206 rfl) ?_
  refine zl_tr (r_iload_n d_275_207 rfl) ?_
  refine zl_tr (r_iconst d_275_208 (by decide)) ?_
  refine zl_tr (r_iadd d_275_209) (zl_ck ?_)
  refine zl_tr (r_iaload3 d_275_210) (zl_ck ?_)
  refine zl_tr (r_aload_n d_275_211 rfl) ?_
  refine zl_tr (r_iload_n d_275_212 rfl) ?_
  refine zl_tr (r_iconst d_275_213 (by decide)) ?_
  refine zl_tr (r_iadd d_275_214) (zl_ck ?_)
  refine zl_tr (r_iaload3 d_275_215) (zl_ck ?_)
  refine zl_tr (r_aload_n d_275_216 rfl) ?_
  refine zl_tr (r_iload_n d_275_217 rfl) ?_
  refine zl_tr (r_iconst d_275_218 (by decide)) ?_
  refine zl_tr (r_iadd d_275_219) (zl_ck ?_)
  refine zl_tr (r_iaload3 d_275_220) (zl_ck ?_)
  refine zl_tr (r_aload_n d_275_221 rfl) ?_
  refine zl_tr (r_iload_n d_275_222 rfl) ?_
  refine zl_tr (r_iconst d_275_223 (by decide)) ?_
  refine zl_tr (r_iadd d_275_224) (zl_ck ?_)
  refine zl_tr (r_iaload3 d_275_225) (zl_ck ?_)
  refine zl_tr (r_aload_n d_275_226 rfl) ?_
  refine zl_tr (r_iload_n d_275_227 rfl) ?_
  refine zl_tr (r_iconst d_275_228 (by decide)) ?_
  refine zl_tr (r_iadd d_275_229) (zl_ck ?_)
  refine zl_tr (r_iaload3 d_275_230) (zl_ck ?_)
  refine zl_tr (r_VI [zm_A 146, zm_I (xs (x3 + 1)), zm_I (xs (x3 + 2)), zm_I (xs (x3 + 3)), zm_I (xs (x3 + 4)), zm_I (xs (x3 + 5))] d_275_231 ow_275 cal_13_17 na_154 rfl rfl (Nat.le_of_ble_eq_true rfl) (by rw [rk_154]; decide) (zr_rcv la_146 ow_154) (zr_im mx_154 rfl (Nat.le_of_ble_eq_true rfl)) (by rw [rt_154]; decide)) (zl_I (fun v3 h4 => ?_))
  refine zl_tr (r_icmp_eq (tgt := 1092) d_275_234 (by decide)) (zl_if ?_ ?_)
  · skip
    refine zl_tr (r_iinc (loc' := [zm_A 3, zm_A 4, zm_A 146, zm_I (x3 + 6)]) d_275_1092 rfl (Nat.le_of_ble_eq_true rfl) rfl) (zl_ck ?_)
    refine zl_tr (r_goto (tgt := 18) d_275_1095 (by decide)) ?_
    exact zl_rf
  · skip
    refine zl_tr (r_iconst d_275_237 (by decide)) ?_
    exact r_zret d_275_238 rt_275
-- BranTubLaw.law, from 239
set_option maxRecDepth 20000 in
theorem e_275_239 {h : zm_H} {x3 : Int} {n : Nat} {xs : Int → Int} : zl (zm_ck (zm_i32 (x3 + 1)) (zm_ck (0 ≤ (x3 + 1) ∧ (x3 + 1) < (n : Int)) (zk_I (zc 3 [zm_A 4, zm_I (xs (x3 + 1))] h) (fun v1 h2 => zm_ck (zm_i32 (x3 + 1)) (zm_ck (0 ≤ (x3 + 1) ∧ (x3 + 1) < (n : Int)) (zk_I (zc 157 [zm_A 146, zm_I (xs (x3 + 1))] h2) (fun v3 h4 => if v1 = v3 then (zm_ck (zm_i32 (x3 + 6)) (zr (some (n, xs)) 95 275 18 [zm_A 3, zm_A 4, zm_A 146, zm_I (x3 + 6)] [] h4)) else (zm_ck (zm_bit 0) (some (zm_I 0, h4)))))))))) (zr (some (n, xs)) 95 275 239 [zm_A 3, zm_A 4, zm_A 146, zm_I x3] [] h) := by
  refine zl_tr (r_aload_n d_275_239 rfl) ?_
  refine zl_tr (r_aload_n d_275_240 rfl) ?_
  refine zl_tr (r_iload_n d_275_241 rfl) ?_
  refine zl_tr (r_iconst d_275_242 (by decide)) ?_
  refine zl_tr (r_iadd d_275_243) (zl_ck ?_)
  refine zl_tr (r_iaload3 d_275_244) (zl_ck ?_)
  refine zl_tr (r_VI [zm_A 4, zm_I (xs (x3 + 1))] d_275_245 ow_275 cal_13_18 na_3 rfl rfl (Nat.le_of_ble_eq_true rfl) (by rw [rk_3]; decide) (zr_rcv la_4 ow_3) (zr_im mx_3 rfl (Nat.le_of_ble_eq_true rfl)) (by rw [rt_3]; decide)) (zl_I (fun v1 h2 => ?_))
  refine zl_tr (r_aload_n d_275_248 rfl) ?_
  refine zl_tr (r_aload_n d_275_249 rfl) ?_
  refine zl_tr (r_iload_n d_275_250 rfl) ?_
  refine zl_tr (r_iconst d_275_251 (by decide)) ?_
  refine zl_tr (r_iadd d_275_252) (zl_ck ?_)
  refine zl_tr (r_iaload3 d_275_253) (zl_ck ?_)
  refine zl_tr (r_VI [zm_A 146, zm_I (xs (x3 + 1))] d_275_254 ow_275 cal_13_22 na_157 rfl rfl (Nat.le_of_ble_eq_true rfl) (by rw [rk_157]; decide) (zr_rcv la_146 ow_157) (zr_im mx_157 rfl (Nat.le_of_ble_eq_true rfl)) (by rw [rt_157]; decide)) (zl_I (fun v3 h4 => ?_))
  refine zl_tr (r_icmp_eq (tgt := 1092) d_275_257 (by decide)) (zl_if ?_ ?_)
  · skip
    refine zl_tr (r_iinc (loc' := [zm_A 3, zm_A 4, zm_A 146, zm_I (x3 + 6)]) d_275_1092 rfl (Nat.le_of_ble_eq_true rfl) rfl) (zl_ck ?_)
    refine zl_tr (r_goto (tgt := 18) d_275_1095 (by decide)) ?_
    exact zl_rf
  · skip
    refine zl_tr (r_iconst d_275_260 (by decide)) ?_
    exact r_zret d_275_261 rt_275
-- BranTubLaw.law, from 262
set_option maxRecDepth 20000 in
theorem e_275_262 {h : zm_H} {x3 : Int} {n : Nat} {xs : Int → Int} : zl (zk_I (zc 5 [zm_A 4] h) (fun v1 h2 => zk_I (zc 158 [zm_A 146] h2) (fun v3 h4 => if v1 = v3 then (zm_ck (zm_i32 (x3 + 6)) (zr (some (n, xs)) 95 275 18 [zm_A 3, zm_A 4, zm_A 146, zm_I (x3 + 6)] [] h4)) else (zm_ck (zm_bit 0) (some (zm_I 0, h4)))))) (zr (some (n, xs)) 95 275 262 [zm_A 3, zm_A 4, zm_A 146, zm_I x3] [] h) := by
  refine zl_tr (r_aload_n d_275_262 rfl) ?_
  refine zl_tr (r_VI [zm_A 4] d_275_263 ow_275 cal_13_23 na_5 rfl rfl (Nat.le_of_ble_eq_true rfl) (by rw [rk_5]; decide) (zr_rcv la_4 ow_5) (zr_im mx_5 rfl (Nat.le_of_ble_eq_true rfl)) (by rw [rt_5]; decide)) (zl_I (fun v1 h2 => ?_))
  refine zl_tr (r_aload_n d_275_266 rfl) ?_
  refine zl_tr (r_VI [zm_A 146] d_275_267 ow_275 cal_13_27 na_158 rfl rfl (Nat.le_of_ble_eq_true rfl) (by rw [rk_158]; decide) (zr_rcv la_146 ow_158) (zr_im mx_158 rfl (Nat.le_of_ble_eq_true rfl)) (by rw [rt_158]; decide)) (zl_I (fun v3 h4 => ?_))
  refine zl_tr (r_icmp_eq (tgt := 1092) d_275_270 (by decide)) (zl_if ?_ ?_)
  · skip
    refine zl_tr (r_iinc (loc' := [zm_A 3, zm_A 4, zm_A 146, zm_I (x3 + 6)]) d_275_1092 rfl (Nat.le_of_ble_eq_true rfl) rfl) (zl_ck ?_)
    refine zl_tr (r_goto (tgt := 18) d_275_1095 (by decide)) ?_
    exact zl_rf
  · skip
    refine zl_tr (r_iconst d_275_273 (by decide)) ?_
    exact r_zret d_275_274 rt_275
-- BranTubLaw.law, from 275
set_option maxRecDepth 20000 in
theorem e_275_275 {h : zm_H} {x3 : Int} {n : Nat} {xs : Int → Int} : zl (zm_ck (zm_i32 (x3 + 1)) (zm_ck (0 ≤ (x3 + 1) ∧ (x3 + 1) < (n : Int)) (zk_I (zc 6 [zm_A 4, zm_I (xs (x3 + 1))] h) (fun v1 h2 => zm_ck (zm_i32 (x3 + 1)) (zm_ck (0 ≤ (x3 + 1) ∧ (x3 + 1) < (n : Int)) (zk_I (zc 198 [zm_A 146, zm_I (xs (x3 + 1))] h2) (fun v3 h4 => if v1 = v3 then (zm_ck (zm_i32 (x3 + 6)) (zr (some (n, xs)) 95 275 18 [zm_A 3, zm_A 4, zm_A 146, zm_I (x3 + 6)] [] h4)) else (zm_ck (zm_bit 0) (some (zm_I 0, h4)))))))))) (zr (some (n, xs)) 95 275 275 [zm_A 3, zm_A 4, zm_A 146, zm_I x3] [] h) := by
  refine zl_tr (r_aload_n d_275_275 rfl) ?_
  refine zl_tr (r_aload_n d_275_276 rfl) ?_
  refine zl_tr (r_iload_n d_275_277 rfl) ?_
  refine zl_tr (r_iconst d_275_278 (by decide)) ?_
  refine zl_tr (r_iadd d_275_279) (zl_ck ?_)
  refine zl_tr (r_iaload3 d_275_280) (zl_ck ?_)
  refine zl_tr (r_VI [zm_A 4, zm_I (xs (x3 + 1))] d_275_281 ow_275 cal_13_28 na_6 rfl rfl (Nat.le_of_ble_eq_true rfl) (by rw [rk_6]; decide) (zr_rcv la_4 ow_6) (zr_im mx_6 rfl (Nat.le_of_ble_eq_true rfl)) (by rw [rt_6]; decide)) (zl_I (fun v1 h2 => ?_))
  refine zl_tr (r_aload_n d_275_284 rfl) ?_
  refine zl_tr (r_aload_n d_275_285 rfl) ?_
  refine zl_tr (r_iload_n d_275_286 rfl) ?_
  refine zl_tr (r_iconst d_275_287 (by decide)) ?_
  refine zl_tr (r_iadd d_275_288) (zl_ck ?_)
  refine zl_tr (r_iaload3 d_275_289) (zl_ck ?_)
  refine zl_tr (r_VI [zm_A 146, zm_I (xs (x3 + 1))] d_275_290 ow_275 cal_13_32 na_198 rfl rfl (Nat.le_of_ble_eq_true rfl) (by rw [rk_198]; decide) (zr_rcv la_146 ow_198) (zr_im mx_198 rfl (Nat.le_of_ble_eq_true rfl)) (by rw [rt_198]; decide)) (zl_I (fun v3 h4 => ?_))
  refine zl_tr (r_icmp_eq (tgt := 1092) d_275_293 (by decide)) (zl_if ?_ ?_)
  · skip
    refine zl_tr (r_iinc (loc' := [zm_A 3, zm_A 4, zm_A 146, zm_I (x3 + 6)]) d_275_1092 rfl (Nat.le_of_ble_eq_true rfl) rfl) (zl_ck ?_)
    refine zl_tr (r_goto (tgt := 18) d_275_1095 (by decide)) ?_
    exact zl_rf
  · skip
    refine zl_tr (r_iconst d_275_296 (by decide)) ?_
    exact r_zret d_275_297 rt_275
-- BranTubLaw.law, from 298
set_option maxRecDepth 20000 in
theorem e_275_298 {h : zm_H} {x3 : Int} {n : Nat} {xs : Int → Int} : zl (zm_ck (zm_i32 (x3 + 1)) (zm_ck (0 ≤ (x3 + 1) ∧ (x3 + 1) < (n : Int)) (zk_I (zc 7 [zm_A 4, zm_I (xs (x3 + 1))] h) (fun v1 h2 => zm_ck (zm_i32 (x3 + 1)) (zm_ck (0 ≤ (x3 + 1) ∧ (x3 + 1) < (n : Int)) (zk_I (zc 203 [zm_A 146, zm_I (xs (x3 + 1))] h2) (fun v3 h4 => if v1 = v3 then (zm_ck (zm_i32 (x3 + 6)) (zr (some (n, xs)) 95 275 18 [zm_A 3, zm_A 4, zm_A 146, zm_I (x3 + 6)] [] h4)) else (zm_ck (zm_bit 0) (some (zm_I 0, h4)))))))))) (zr (some (n, xs)) 95 275 298 [zm_A 3, zm_A 4, zm_A 146, zm_I x3] [] h) := by
  refine zl_tr (r_aload_n d_275_298 rfl) ?_
  refine zl_tr (r_aload_n d_275_299 rfl) ?_
  refine zl_tr (r_iload_n d_275_300 rfl) ?_
  refine zl_tr (r_iconst d_275_301 (by decide)) ?_
  refine zl_tr (r_iadd d_275_302) (zl_ck ?_)
  refine zl_tr (r_iaload3 d_275_303) (zl_ck ?_)
  refine zl_tr (r_VI [zm_A 4, zm_I (xs (x3 + 1))] d_275_304 ow_275 cal_13_33 na_7 rfl rfl (Nat.le_of_ble_eq_true rfl) (by rw [rk_7]; decide) (zr_rcv la_4 ow_7) (zr_im mx_7 rfl (Nat.le_of_ble_eq_true rfl)) (by rw [rt_7]; decide)) (zl_I (fun v1 h2 => ?_))
  refine zl_tr (r_aload_n d_275_307 rfl) ?_
  refine zl_tr (r_aload_n d_275_308 rfl) ?_
  refine zl_tr (r_iload_n d_275_309 rfl) ?_
  refine zl_tr (r_iconst d_275_310 (by decide)) ?_
  refine zl_tr (r_iadd d_275_311) (zl_ck ?_)
  refine zl_tr (r_iaload3 d_275_312) (zl_ck ?_)
  refine zl_tr (r_VI [zm_A 146, zm_I (xs (x3 + 1))] d_275_313 ow_275 cal_13_36 na_203 rfl rfl (Nat.le_of_ble_eq_true rfl) (by rw [rk_203]; decide) (zr_rcv la_146 ow_203) (zr_im mx_203 rfl (Nat.le_of_ble_eq_true rfl)) (by rw [rt_203]; decide)) (zl_I (fun v3 h4 => ?_))
  refine zl_tr (r_icmp_eq (tgt := 1092) d_275_316 (by decide)) (zl_if ?_ ?_)
  · skip
    refine zl_tr (r_iinc (loc' := [zm_A 3, zm_A 4, zm_A 146, zm_I (x3 + 6)]) d_275_1092 rfl (Nat.le_of_ble_eq_true rfl) rfl) (zl_ck ?_)
    refine zl_tr (r_goto (tgt := 18) d_275_1095 (by decide)) ?_
    exact zl_rf
  · skip
    refine zl_tr (r_iconst d_275_319 (by decide)) ?_
    exact r_zret d_275_320 rt_275
-- BranTubLaw.law, from 321
set_option maxRecDepth 20000 in
theorem e_275_321 {h : zm_H} {x3 : Int} {n : Nat} {xs : Int → Int} : zl (zm_ck (zm_i32 (x3 + 1)) (zm_ck (0 ≤ (x3 + 1) ∧ (x3 + 1) < (n : Int)) (zm_ck (zm_i32 (x3 + 2)) (zm_ck (0 ≤ (x3 + 2) ∧ (x3 + 2) < (n : Int)) (zm_ck (zm_i32 (x3 + 3)) (zm_ck (0 ≤ (x3 + 3) ∧ (x3 + 3) < (n : Int)) (zk_I (zc 10 [zm_A 4, zm_I (xs (x3 + 1)), zm_I (xs (x3 + 2)), zm_I (xs (x3 + 3))] h) (fun v1 h2 => zm_ck (zm_i32 (x3 + 1)) (zm_ck (0 ≤ (x3 + 1) ∧ (x3 + 1) < (n : Int)) (zm_ck (zm_i32 (x3 + 2)) (zm_ck (0 ≤ (x3 + 2) ∧ (x3 + 2) < (n : Int)) (zm_ck (zm_i32 (x3 + 3)) (zm_ck (0 ≤ (x3 + 3) ∧ (x3 + 3) < (n : Int)) (zk_I (zc 216 [zm_A 146, zm_I (xs (x3 + 1)), zm_I (xs (x3 + 2)), zm_I (xs (x3 + 3))] h2) (fun v3 h4 => if v1 = v3 then (zm_ck (zm_i32 (x3 + 6)) (zr (some (n, xs)) 95 275 18 [zm_A 3, zm_A 4, zm_A 146, zm_I (x3 + 6)] [] h4)) else (zm_ck (zm_bit 0) (some (zm_I 0, h4)))))))))))))))))) (zr (some (n, xs)) 95 275 321 [zm_A 3, zm_A 4, zm_A 146, zm_I x3] [] h) := by
  refine zl_tr (r_aload_n d_275_321 rfl) ?_
  refine zl_tr (r_aload_n d_275_322 rfl) ?_
  refine zl_tr (r_iload_n d_275_323 rfl) ?_
  refine zl_tr (r_iconst d_275_324 (by decide)) ?_
  refine zl_tr (r_iadd d_275_325) (zl_ck ?_)
  refine zl_tr (r_iaload3 d_275_326) (zl_ck ?_)
  refine zl_tr (r_aload_n d_275_327 rfl) ?_
  refine zl_tr (r_iload_n d_275_328 rfl) ?_
  refine zl_tr (r_iconst d_275_329 (by decide)) ?_
  refine zl_tr (r_iadd d_275_330) (zl_ck ?_)
  refine zl_tr (r_iaload3 d_275_331) (zl_ck ?_)
  refine zl_tr (r_aload_n d_275_332 rfl) ?_
  refine zl_tr (r_iload_n d_275_333 rfl) ?_
  refine zl_tr (r_iconst d_275_334 (by decide)) ?_
  refine zl_tr (r_iadd d_275_335) (zl_ck ?_)
  refine zl_tr (r_iaload3 d_275_336) (zl_ck ?_)
  refine zl_tr (r_VI [zm_A 4, zm_I (xs (x3 + 1)), zm_I (xs (x3 + 2)), zm_I (xs (x3 + 3))] d_275_337 ow_275 cal_13_37 na_10 rfl rfl (Nat.le_of_ble_eq_true rfl) (by rw [rk_10]; decide) (zr_rcv la_4 ow_10) (zr_im mx_10 rfl (Nat.le_of_ble_eq_true rfl)) (by rw [rt_10]; decide)) (zl_I (fun v1 h2 => ?_))
  refine zl_tr (r_aload_n d_275_340 rfl) ?_
  refine zl_tr (r_aload_n d_275_341 rfl) ?_
  refine zl_tr (r_iload_n d_275_342 rfl) ?_
  refine zl_tr (r_iconst d_275_343 (by decide)) ?_
  refine zl_tr (r_iadd d_275_344) (zl_ck ?_)
  refine zl_tr (r_iaload3 d_275_345) (zl_ck ?_)
  refine zl_tr (r_aload_n d_275_346 rfl) ?_
  refine zl_tr (r_iload_n d_275_347 rfl) ?_
  refine zl_tr (r_iconst d_275_348 (by decide)) ?_
  refine zl_tr (r_iadd d_275_349) (zl_ck ?_)
  refine zl_tr (r_iaload3 d_275_350) (zl_ck ?_)
  refine zl_tr (r_aload_n d_275_351 rfl) ?_
  refine zl_tr (r_iload_n d_275_352 rfl) ?_
  refine zl_tr (r_iconst d_275_353 (by decide)) ?_
  refine zl_tr (r_iadd d_275_354) (zl_ck ?_)
  refine zl_tr (r_iaload3 d_275_355) (zl_ck ?_)
  refine zl_tr (r_VI [zm_A 146, zm_I (xs (x3 + 1)), zm_I (xs (x3 + 2)), zm_I (xs (x3 + 3))] d_275_356 ow_275 cal_13_41 na_216 rfl rfl (Nat.le_of_ble_eq_true rfl) (by rw [rk_216]; decide) (zr_rcv la_146 ow_216) (zr_im mx_216 rfl (Nat.le_of_ble_eq_true rfl)) (by rw [rt_216]; decide)) (zl_I (fun v3 h4 => ?_))
  refine zl_tr (r_icmp_eq (tgt := 1092) d_275_359 (by decide)) (zl_if ?_ ?_)
  · skip
    refine zl_tr (r_iinc (loc' := [zm_A 3, zm_A 4, zm_A 146, zm_I (x3 + 6)]) d_275_1092 rfl (Nat.le_of_ble_eq_true rfl) rfl) (zl_ck ?_)
    refine zl_tr (r_goto (tgt := 18) d_275_1095 (by decide)) ?_
    exact zl_rf
  · skip
    refine zl_tr (r_iconst d_275_362 (by decide)) ?_
    exact r_zret d_275_363 rt_275
-- BranTubLaw.law, from 364
set_option maxRecDepth 20000 in
theorem e_275_364 {h : zm_H} {x3 : Int} {n : Nat} {xs : Int → Int} : zl (zm_ck (zm_i32 (x3 + 1)) (zm_ck (0 ≤ (x3 + 1) ∧ (x3 + 1) < (n : Int)) (zm_ck (zm_i32 (x3 + 2)) (zm_ck (0 ≤ (x3 + 2) ∧ (x3 + 2) < (n : Int)) (zk_I (zc 13 [zm_A 4, zm_I (xs (x3 + 1)), zm_I (xs (x3 + 2))] h) (fun v1 h2 => zm_ck (zm_i32 (x3 + 1)) (zm_ck (0 ≤ (x3 + 1) ∧ (x3 + 1) < (n : Int)) (zm_ck (zm_i32 (x3 + 2)) (zm_ck (0 ≤ (x3 + 2) ∧ (x3 + 2) < (n : Int)) (zk_I (zc 217 [zm_A 146, zm_I (xs (x3 + 1)), zm_I (xs (x3 + 2))] h2) (fun v3 h4 => if v1 = v3 then (zm_ck (zm_i32 (x3 + 6)) (zr (some (n, xs)) 95 275 18 [zm_A 3, zm_A 4, zm_A 146, zm_I (x3 + 6)] [] h4)) else (zm_ck (zm_bit 0) (some (zm_I 0, h4)))))))))))))) (zr (some (n, xs)) 95 275 364 [zm_A 3, zm_A 4, zm_A 146, zm_I x3] [] h) := by
  refine zl_tr (r_aload_n d_275_364 rfl) ?_
  refine zl_tr (r_aload_n d_275_365 rfl) ?_
  refine zl_tr (r_iload_n d_275_366 rfl) ?_
  refine zl_tr (r_iconst d_275_367 (by decide)) ?_
  refine zl_tr (r_iadd d_275_368) (zl_ck ?_)
  refine zl_tr (r_iaload3 d_275_369) (zl_ck ?_)
  refine zl_tr (r_aload_n d_275_370 rfl) ?_
  refine zl_tr (r_iload_n d_275_371 rfl) ?_
  refine zl_tr (r_iconst d_275_372 (by decide)) ?_
  refine zl_tr (r_iadd d_275_373) (zl_ck ?_)
  refine zl_tr (r_iaload3 d_275_374) (zl_ck ?_)
  refine zl_tr (r_VI [zm_A 4, zm_I (xs (x3 + 1)), zm_I (xs (x3 + 2))] d_275_375 ow_275 cal_13_42 na_13 rfl rfl (Nat.le_of_ble_eq_true rfl) (by rw [rk_13]; decide) (zr_rcv la_4 ow_13) (zr_im mx_13 rfl (Nat.le_of_ble_eq_true rfl)) (by rw [rt_13]; decide)) (zl_I (fun v1 h2 => ?_))
  refine zl_tr (r_aload_n d_275_378 rfl) ?_
  refine zl_tr (r_aload_n d_275_379 rfl) ?_
  refine zl_tr (r_iload_n d_275_380 rfl) ?_
  refine zl_tr (r_iconst d_275_381 (by decide)) ?_
  refine zl_tr (r_iadd d_275_382) (zl_ck ?_)
  refine zl_tr (r_iaload3 d_275_383) (zl_ck ?_)
  refine zl_tr (r_aload_n d_275_384 rfl) ?_
  refine zl_tr (r_iload_n d_275_385 rfl) ?_
  refine zl_tr (r_iconst d_275_386 (by decide)) ?_
  refine zl_tr (r_iadd d_275_387) (zl_ck ?_)
  refine zl_tr (r_iaload3 d_275_388) (zl_ck ?_)
  refine zl_tr (r_VI [zm_A 146, zm_I (xs (x3 + 1)), zm_I (xs (x3 + 2))] d_275_389 ow_275 cal_13_46 na_217 rfl rfl (Nat.le_of_ble_eq_true rfl) (by rw [rk_217]; decide) (zr_rcv la_146 ow_217) (zr_im mx_217 rfl (Nat.le_of_ble_eq_true rfl)) (by rw [rt_217]; decide)) (zl_I (fun v3 h4 => ?_))
  refine zl_tr (r_icmp_eq (tgt := 1092) d_275_392 (by decide)) (zl_if ?_ ?_)
  · skip
    refine zl_tr (r_iinc (loc' := [zm_A 3, zm_A 4, zm_A 146, zm_I (x3 + 6)]) d_275_1092 rfl (Nat.le_of_ble_eq_true rfl) rfl) (zl_ck ?_)
    refine zl_tr (r_goto (tgt := 18) d_275_1095 (by decide)) ?_
    exact zl_rf
  · skip
    refine zl_tr (r_iconst d_275_395 (by decide)) ?_
    exact r_zret d_275_396 rt_275
-- BranTubLaw.law, from 397
set_option maxRecDepth 20000 in
theorem e_275_397 {h : zm_H} {x3 : Int} {n : Nat} {xs : Int → Int} : zl (zm_ck (zm_i32 (x3 + 1)) (zm_ck (0 ≤ (x3 + 1) ∧ (x3 + 1) < (n : Int)) (zm_ck (zm_i32 (x3 + 2)) (zm_ck (0 ≤ (x3 + 2) ∧ (x3 + 2) < (n : Int)) (zk_I (zc 14 [zm_A 4, zm_I (xs (x3 + 1)), zm_I (xs (x3 + 2))] h) (fun v1 h2 => zm_ck (zm_i32 (x3 + 1)) (zm_ck (0 ≤ (x3 + 1) ∧ (x3 + 1) < (n : Int)) (zm_ck (zm_i32 (x3 + 2)) (zm_ck (0 ≤ (x3 + 2) ∧ (x3 + 2) < (n : Int)) (zk_I (zc 220 [zm_A 146, zm_I (xs (x3 + 1)), zm_I (xs (x3 + 2))] h2) (fun v3 h4 => if v1 = v3 then (zm_ck (zm_i32 (x3 + 6)) (zr (some (n, xs)) 95 275 18 [zm_A 3, zm_A 4, zm_A 146, zm_I (x3 + 6)] [] h4)) else (zm_ck (zm_bit 0) (some (zm_I 0, h4)))))))))))))) (zr (some (n, xs)) 95 275 397 [zm_A 3, zm_A 4, zm_A 146, zm_I x3] [] h) := by
  refine zl_tr (r_aload_n d_275_397 rfl) ?_
  refine zl_tr (r_aload_n d_275_398 rfl) ?_
  refine zl_tr (r_iload_n d_275_399 rfl) ?_
  refine zl_tr (r_iconst d_275_400 (by decide)) ?_
  refine zl_tr (r_iadd d_275_401) (zl_ck ?_)
  refine zl_tr (r_iaload3 d_275_402) (zl_ck ?_)
  refine zl_tr (r_aload_n d_275_403 rfl) ?_
  refine zl_tr (r_iload_n d_275_404 rfl) ?_
  refine zl_tr (r_iconst d_275_405 (by decide)) ?_
  refine zl_tr (r_iadd d_275_406) (zl_ck ?_)
  refine zl_tr (r_iaload3 d_275_407) (zl_ck ?_)
  refine zl_tr (r_VI [zm_A 4, zm_I (xs (x3 + 1)), zm_I (xs (x3 + 2))] d_275_408 ow_275 cal_13_47 na_14 rfl rfl (Nat.le_of_ble_eq_true rfl) (by rw [rk_14]; decide) (zr_rcv la_4 ow_14) (zr_im mx_14 rfl (Nat.le_of_ble_eq_true rfl)) (by rw [rt_14]; decide)) (zl_I (fun v1 h2 => ?_))
  refine zl_tr (r_aload_n d_275_411 rfl) ?_
  refine zl_tr (r_aload_n d_275_412 rfl) ?_
  refine zl_tr (r_iload_n d_275_413 rfl) ?_
  refine zl_tr (r_iconst d_275_414 (by decide)) ?_
  refine zl_tr (r_iadd d_275_415) (zl_ck ?_)
  refine zl_tr (r_iaload3 d_275_416) (zl_ck ?_)
  refine zl_tr (r_aload_n d_275_417 rfl) ?_
  refine zl_tr (r_iload_n d_275_418 rfl) ?_
  refine zl_tr (r_iconst d_275_419 (by decide)) ?_
  refine zl_tr (r_iadd d_275_420) (zl_ck ?_)
  refine zl_tr (r_iaload3 d_275_421) (zl_ck ?_)
  refine zl_tr (r_VI [zm_A 146, zm_I (xs (x3 + 1)), zm_I (xs (x3 + 2))] d_275_422 ow_275 cal_13_50 na_220 rfl rfl (Nat.le_of_ble_eq_true rfl) (by rw [rk_220]; decide) (zr_rcv la_146 ow_220) (zr_im mx_220 rfl (Nat.le_of_ble_eq_true rfl)) (by rw [rt_220]; decide)) (zl_I (fun v3 h4 => ?_))
  refine zl_tr (r_icmp_eq (tgt := 1092) d_275_425 (by decide)) (zl_if ?_ ?_)
  · skip
    refine zl_tr (r_iinc (loc' := [zm_A 3, zm_A 4, zm_A 146, zm_I (x3 + 6)]) d_275_1092 rfl (Nat.le_of_ble_eq_true rfl) rfl) (zl_ck ?_)
    refine zl_tr (r_goto (tgt := 18) d_275_1095 (by decide)) ?_
    exact zl_rf
  · skip
    refine zl_tr (r_iconst d_275_428 (by decide)) ?_
    exact r_zret d_275_429 rt_275
-- BranTubLaw.law, from 430
set_option maxRecDepth 20000 in
theorem e_275_430 {h : zm_H} {x3 : Int} {n : Nat} {xs : Int → Int} : zl (zm_ck (zm_i32 (x3 + 1)) (zm_ck (0 ≤ (x3 + 1) ∧ (x3 + 1) < (n : Int)) (zm_ck (zm_i32 (x3 + 2)) (zm_ck (0 ≤ (x3 + 2) ∧ (x3 + 2) < (n : Int)) (zk_I (zc 16 [zm_A 4, zm_I (xs (x3 + 1)), zm_I (xs (x3 + 2))] h) (fun v1 h2 => zm_ck (zm_i32 (x3 + 1)) (zm_ck (0 ≤ (x3 + 1) ∧ (x3 + 1) < (n : Int)) (zm_ck (zm_i32 (x3 + 2)) (zm_ck (0 ≤ (x3 + 2) ∧ (x3 + 2) < (n : Int)) (zk_I (zc 222 [zm_A 146, zm_I (xs (x3 + 1)), zm_I (xs (x3 + 2))] h2) (fun v3 h4 => if v1 = v3 then (zm_ck (zm_i32 (x3 + 6)) (zr (some (n, xs)) 95 275 18 [zm_A 3, zm_A 4, zm_A 146, zm_I (x3 + 6)] [] h4)) else (zm_ck (zm_bit 0) (some (zm_I 0, h4)))))))))))))) (zr (some (n, xs)) 95 275 430 [zm_A 3, zm_A 4, zm_A 146, zm_I x3] [] h) := by
  refine zl_tr (r_aload_n d_275_430 rfl) ?_
  refine zl_tr (r_aload_n d_275_431 rfl) ?_
  refine zl_tr (r_iload_n d_275_432 rfl) ?_
  refine zl_tr (r_iconst d_275_433 (by decide)) ?_
  refine zl_tr (r_iadd d_275_434) (zl_ck ?_)
  refine zl_tr (r_iaload3 d_275_435) (zl_ck ?_)
  refine zl_tr (r_aload_n d_275_436 rfl) ?_
  refine zl_tr (r_iload_n d_275_437 rfl) ?_
  refine zl_tr (r_iconst d_275_438 (by decide)) ?_
  refine zl_tr (r_iadd d_275_439) (zl_ck ?_)
  refine zl_tr (r_iaload3 d_275_440) (zl_ck ?_)
  refine zl_tr (r_VI [zm_A 4, zm_I (xs (x3 + 1)), zm_I (xs (x3 + 2))] d_275_441 ow_275 cal_13_51 na_16 rfl rfl (Nat.le_of_ble_eq_true rfl) (by rw [rk_16]; decide) (zr_rcv la_4 ow_16) (zr_im mx_16 rfl (Nat.le_of_ble_eq_true rfl)) (by rw [rt_16]; decide)) (zl_I (fun v1 h2 => ?_))
  refine zl_tr (r_aload_n d_275_444 rfl) ?_
  refine zl_tr (r_aload_n d_275_445 rfl) ?_
  refine zl_tr (r_iload_n d_275_446 rfl) ?_
  refine zl_tr (r_iconst d_275_447 (by decide)) ?_
  refine zl_tr (r_iadd d_275_448) (zl_ck ?_)
  refine zl_tr (r_iaload3 d_275_449) (zl_ck ?_)
  refine zl_tr (r_aload_n d_275_450 rfl) ?_
  refine zl_tr (r_iload_n d_275_451 rfl) ?_
  refine zl_tr (r_iconst d_275_452 (by decide)) ?_
  refine zl_tr (r_iadd d_275_453) (zl_ck ?_)
  refine zl_tr (r_iaload3 d_275_454) (zl_ck ?_)
  refine zl_tr (r_VI [zm_A 146, zm_I (xs (x3 + 1)), zm_I (xs (x3 + 2))] d_275_455 ow_275 cal_13_54 na_222 rfl rfl (Nat.le_of_ble_eq_true rfl) (by rw [rk_222]; decide) (zr_rcv la_146 ow_222) (zr_im mx_222 rfl (Nat.le_of_ble_eq_true rfl)) (by rw [rt_222]; decide)) (zl_I (fun v3 h4 => ?_))
  refine zl_tr (r_icmp_eq (tgt := 1092) d_275_458 (by decide)) (zl_if ?_ ?_)
  · skip
    refine zl_tr (r_iinc (loc' := [zm_A 3, zm_A 4, zm_A 146, zm_I (x3 + 6)]) d_275_1092 rfl (Nat.le_of_ble_eq_true rfl) rfl) (zl_ck ?_)
    refine zl_tr (r_goto (tgt := 18) d_275_1095 (by decide)) ?_
    exact zl_rf
  · skip
    refine zl_tr (r_iconst d_275_461 (by decide)) ?_
    exact r_zret d_275_462 rt_275
-- BranTubLaw.law, from 463
set_option maxRecDepth 20000 in
theorem e_275_463 {h : zm_H} {x3 : Int} {n : Nat} {xs : Int → Int} : zl (zm_ck (zm_i32 (x3 + 1)) (zm_ck (0 ≤ (x3 + 1) ∧ (x3 + 1) < (n : Int)) (zm_ck (zm_i32 (x3 + 2)) (zm_ck (0 ≤ (x3 + 2) ∧ (x3 + 2) < (n : Int)) (zm_ck (zm_i32 (x3 + 3)) (zm_ck (0 ≤ (x3 + 3) ∧ (x3 + 3) < (n : Int)) (zk_I (zc 19 [zm_A 4, zm_I (xs (x3 + 1)), zm_I (xs (x3 + 2)), zm_I (xs (x3 + 3))] h) (fun v1 h2 => zm_ck (zm_i32 (x3 + 1)) (zm_ck (0 ≤ (x3 + 1) ∧ (x3 + 1) < (n : Int)) (zm_ck (zm_i32 (x3 + 2)) (zm_ck (0 ≤ (x3 + 2) ∧ (x3 + 2) < (n : Int)) (zm_ck (zm_i32 (x3 + 3)) (zm_ck (0 ≤ (x3 + 3) ∧ (x3 + 3) < (n : Int)) (zk_I (zc 229 [zm_A 146, zm_I (xs (x3 + 1)), zm_I (xs (x3 + 2)), zm_I (xs (x3 + 3))] h2) (fun v3 h4 => if v1 = v3 then (zm_ck (zm_i32 (x3 + 6)) (zr (some (n, xs)) 95 275 18 [zm_A 3, zm_A 4, zm_A 146, zm_I (x3 + 6)] [] h4)) else (zm_ck (zm_bit 0) (some (zm_I 0, h4)))))))))))))))))) (zr (some (n, xs)) 95 275 463 [zm_A 3, zm_A 4, zm_A 146, zm_I x3] [] h) := by
  refine zl_tr (r_aload_n d_275_463 rfl) ?_
  refine zl_tr (r_aload_n d_275_464 rfl) ?_
  refine zl_tr (r_iload_n d_275_465 rfl) ?_
  refine zl_tr (r_iconst d_275_466 (by decide)) ?_
  refine zl_tr (r_iadd d_275_467) (zl_ck ?_)
  refine zl_tr (r_iaload3 d_275_468) (zl_ck ?_)
  refine zl_tr (r_aload_n d_275_469 rfl) ?_
  refine zl_tr (r_iload_n d_275_470 rfl) ?_
  refine zl_tr (r_iconst d_275_471 (by decide)) ?_
  refine zl_tr (r_iadd d_275_472) (zl_ck ?_)
  refine zl_tr (r_iaload3 d_275_473) (zl_ck ?_)
  refine zl_tr (r_aload_n d_275_474 rfl) ?_
  refine zl_tr (r_iload_n d_275_475 rfl) ?_
  refine zl_tr (r_iconst d_275_476 (by decide)) ?_
  refine zl_tr (r_iadd d_275_477) (zl_ck ?_)
  refine zl_tr (r_iaload3 d_275_478) (zl_ck ?_)
  refine zl_tr (r_VI [zm_A 4, zm_I (xs (x3 + 1)), zm_I (xs (x3 + 2)), zm_I (xs (x3 + 3))] d_275_479 ow_275 cal_13_55 na_19 rfl rfl (Nat.le_of_ble_eq_true rfl) (by rw [rk_19]; decide) (zr_rcv la_4 ow_19) (zr_im mx_19 rfl (Nat.le_of_ble_eq_true rfl)) (by rw [rt_19]; decide)) (zl_I (fun v1 h2 => ?_))
  refine zl_tr (r_aload_n d_275_482 rfl) ?_
  refine zl_tr (r_aload_n d_275_483 rfl) ?_
  refine zl_tr (r_iload_n d_275_484 rfl) ?_
  refine zl_tr (r_iconst d_275_485 (by decide)) ?_
  refine zl_tr (r_iadd d_275_486) (zl_ck ?_)
  refine zl_tr (r_iaload3 d_275_487) (zl_ck ?_)
  refine zl_tr (r_aload_n d_275_488 rfl) ?_
  refine zl_tr (r_iload_n d_275_489 rfl) ?_
  refine zl_tr (r_iconst d_275_490 (by decide)) ?_
  refine zl_tr (r_iadd d_275_491) (zl_ck ?_)
  refine zl_tr (r_iaload3 d_275_492) (zl_ck ?_)
  refine zl_tr (r_aload_n d_275_493 rfl) ?_
  refine zl_tr (r_iload_n d_275_494 rfl) ?_
  refine zl_tr (r_iconst d_275_495 (by decide)) ?_
  refine zl_tr (r_iadd d_275_496) (zl_ck ?_)
  refine zl_tr (r_iaload3 d_275_497) (zl_ck ?_)
  refine zl_tr (r_VI [zm_A 146, zm_I (xs (x3 + 1)), zm_I (xs (x3 + 2)), zm_I (xs (x3 + 3))] d_275_498 ow_275 cal_13_58 na_229 rfl rfl (Nat.le_of_ble_eq_true rfl) (by rw [rk_229]; decide) (zr_rcv la_146 ow_229) (zr_im mx_229 rfl (Nat.le_of_ble_eq_true rfl)) (by rw [rt_229]; decide)) (zl_I (fun v3 h4 => ?_))
  refine zl_tr (r_icmp_eq (tgt := 1092) d_275_501 (by decide)) (zl_if ?_ ?_)
  · skip
    refine zl_tr (r_iinc (loc' := [zm_A 3, zm_A 4, zm_A 146, zm_I (x3 + 6)]) d_275_1092 rfl (Nat.le_of_ble_eq_true rfl) rfl) (zl_ck ?_)
    refine zl_tr (r_goto (tgt := 18) d_275_1095 (by decide)) ?_
    exact zl_rf
  · skip
    refine zl_tr (r_iconst d_275_504 (by decide)) ?_
    exact r_zret d_275_505 rt_275
-- BranTubLaw.law, from 506
set_option maxRecDepth 20000 in
theorem e_275_506 {h : zm_H} {x3 : Int} {n : Nat} {xs : Int → Int} : zl (zm_ck (zm_i32 (x3 + 1)) (zm_ck (0 ≤ (x3 + 1) ∧ (x3 + 1) < (n : Int)) (zm_ck (zm_i32 (x3 + 2)) (zm_ck (0 ≤ (x3 + 2) ∧ (x3 + 2) < (n : Int)) (zk_I (zc 20 [zm_A 4, zm_I (xs (x3 + 1)), zm_I (xs (x3 + 2))] h) (fun v1 h2 => zm_ck (zm_i32 (x3 + 1)) (zm_ck (0 ≤ (x3 + 1) ∧ (x3 + 1) < (n : Int)) (zm_ck (zm_i32 (x3 + 2)) (zm_ck (0 ≤ (x3 + 2) ∧ (x3 + 2) < (n : Int)) (zk_I (zc 230 [zm_A 146, zm_I (xs (x3 + 1)), zm_I (xs (x3 + 2))] h2) (fun v3 h4 => if v1 = v3 then (zm_ck (zm_i32 (x3 + 6)) (zr (some (n, xs)) 95 275 18 [zm_A 3, zm_A 4, zm_A 146, zm_I (x3 + 6)] [] h4)) else (zm_ck (zm_bit 0) (some (zm_I 0, h4)))))))))))))) (zr (some (n, xs)) 95 275 506 [zm_A 3, zm_A 4, zm_A 146, zm_I x3] [] h) := by
  refine zl_tr (r_aload_n d_275_506 rfl) ?_
  refine zl_tr (r_aload_n d_275_507 rfl) ?_
  refine zl_tr (r_iload_n d_275_508 rfl) ?_
  refine zl_tr (r_iconst d_275_509 (by decide)) ?_
  refine zl_tr (r_iadd d_275_510) (zl_ck ?_)
  refine zl_tr (r_iaload3 d_275_511) (zl_ck ?_)
  refine zl_tr (r_aload_n d_275_512 rfl) ?_
  refine zl_tr (r_iload_n d_275_513 rfl) ?_
  refine zl_tr (r_iconst d_275_514 (by decide)) ?_
  refine zl_tr (r_iadd d_275_515) (zl_ck ?_)
  refine zl_tr (r_iaload3 d_275_516) (zl_ck ?_)
  refine zl_tr (r_VI [zm_A 4, zm_I (xs (x3 + 1)), zm_I (xs (x3 + 2))] d_275_517 ow_275 cal_13_59 na_20 rfl rfl (Nat.le_of_ble_eq_true rfl) (by rw [rk_20]; decide) (zr_rcv la_4 ow_20) (zr_im mx_20 rfl (Nat.le_of_ble_eq_true rfl)) (by rw [rt_20]; decide)) (zl_I (fun v1 h2 => ?_))
  refine zl_tr (r_aload_n d_275_520 rfl) ?_
  refine zl_tr (r_aload_n d_275_521 rfl) ?_
  refine zl_tr (r_iload_n d_275_522 rfl) ?_
  refine zl_tr (r_iconst d_275_523 (by decide)) ?_
  refine zl_tr (r_iadd d_275_524) (zl_ck ?_)
  refine zl_tr (r_iaload3 d_275_525) (zl_ck ?_)
  refine zl_tr (r_aload_n d_275_526 rfl) ?_
  refine zl_tr (r_iload_n d_275_527 rfl) ?_
  refine zl_tr (r_iconst d_275_528 (by decide)) ?_
  refine zl_tr (r_iadd d_275_529) (zl_ck ?_)
  refine zl_tr (r_iaload3 d_275_530) (zl_ck ?_)
  refine zl_tr (r_VI [zm_A 146, zm_I (xs (x3 + 1)), zm_I (xs (x3 + 2))] d_275_531 ow_275 cal_13_62 na_230 rfl rfl (Nat.le_of_ble_eq_true rfl) (by rw [rk_230]; decide) (zr_rcv la_146 ow_230) (zr_im mx_230 rfl (Nat.le_of_ble_eq_true rfl)) (by rw [rt_230]; decide)) (zl_I (fun v3 h4 => ?_))
  refine zl_tr (r_icmp_eq (tgt := 1092) d_275_534 (by decide)) (zl_if ?_ ?_)
  · skip
    refine zl_tr (r_iinc (loc' := [zm_A 3, zm_A 4, zm_A 146, zm_I (x3 + 6)]) d_275_1092 rfl (Nat.le_of_ble_eq_true rfl) rfl) (zl_ck ?_)
    refine zl_tr (r_goto (tgt := 18) d_275_1095 (by decide)) ?_
    exact zl_rf
  · skip
    refine zl_tr (r_iconst d_275_537 (by decide)) ?_
    exact r_zret d_275_538 rt_275
-- BranTubLaw.law, from 539
set_option maxRecDepth 20000 in
theorem e_275_539 {h : zm_H} {x3 : Int} {n : Nat} {xs : Int → Int} : zl (zm_ck (zm_i32 (x3 + 1)) (zm_ck (0 ≤ (x3 + 1) ∧ (x3 + 1) < (n : Int)) (zm_ck (zm_i32 (x3 + 2)) (zm_ck (0 ≤ (x3 + 2) ∧ (x3 + 2) < (n : Int)) (zk_I (zc 22 [zm_A 4, zm_I (xs (x3 + 1)), zm_I (xs (x3 + 2))] h) (fun v1 h2 => zm_ck (zm_i32 (x3 + 1)) (zm_ck (0 ≤ (x3 + 1) ∧ (x3 + 1) < (n : Int)) (zm_ck (zm_i32 (x3 + 2)) (zm_ck (0 ≤ (x3 + 2) ∧ (x3 + 2) < (n : Int)) (zk_I (zc 232 [zm_A 146, zm_I (xs (x3 + 1)), zm_I (xs (x3 + 2))] h2) (fun v3 h4 => if v1 = v3 then (zm_ck (zm_i32 (x3 + 6)) (zr (some (n, xs)) 95 275 18 [zm_A 3, zm_A 4, zm_A 146, zm_I (x3 + 6)] [] h4)) else (zm_ck (zm_bit 0) (some (zm_I 0, h4)))))))))))))) (zr (some (n, xs)) 95 275 539 [zm_A 3, zm_A 4, zm_A 146, zm_I x3] [] h) := by
  refine zl_tr (r_aload_n d_275_539 rfl) ?_
  refine zl_tr (r_aload_n d_275_540 rfl) ?_
  refine zl_tr (r_iload_n d_275_541 rfl) ?_
  refine zl_tr (r_iconst d_275_542 (by decide)) ?_
  refine zl_tr (r_iadd d_275_543) (zl_ck ?_)
  refine zl_tr (r_iaload3 d_275_544) (zl_ck ?_)
  refine zl_tr (r_aload_n d_275_545 rfl) ?_
  refine zl_tr (r_iload_n d_275_546 rfl) ?_
  refine zl_tr (r_iconst d_275_547 (by decide)) ?_
  refine zl_tr (r_iadd d_275_548) (zl_ck ?_)
  refine zl_tr (r_iaload3 d_275_549) (zl_ck ?_)
  refine zl_tr (r_VI [zm_A 4, zm_I (xs (x3 + 1)), zm_I (xs (x3 + 2))] d_275_550 ow_275 cal_13_63 na_22 rfl rfl (Nat.le_of_ble_eq_true rfl) (by rw [rk_22]; decide) (zr_rcv la_4 ow_22) (zr_im mx_22 rfl (Nat.le_of_ble_eq_true rfl)) (by rw [rt_22]; decide)) (zl_I (fun v1 h2 => ?_))
  refine zl_tr (r_aload_n d_275_553 rfl) ?_
  refine zl_tr (r_aload_n d_275_554 rfl) ?_
  refine zl_tr (r_iload_n d_275_555 rfl) ?_
  refine zl_tr (r_iconst d_275_556 (by decide)) ?_
  refine zl_tr (r_iadd d_275_557) (zl_ck ?_)
  refine zl_tr (r_iaload3 d_275_558) (zl_ck ?_)
  refine zl_tr (r_aload_n d_275_559 rfl) ?_
  refine zl_tr (r_iload_n d_275_560 rfl) ?_
  refine zl_tr (r_iconst d_275_561 (by decide)) ?_
  refine zl_tr (r_iadd d_275_562) (zl_ck ?_)
  refine zl_tr (r_iaload3 d_275_563) (zl_ck ?_)
  refine zl_tr (r_VI [zm_A 146, zm_I (xs (x3 + 1)), zm_I (xs (x3 + 2))] d_275_564 ow_275 cal_13_66 na_232 rfl rfl (Nat.le_of_ble_eq_true rfl) (by rw [rk_232]; decide) (zr_rcv la_146 ow_232) (zr_im mx_232 rfl (Nat.le_of_ble_eq_true rfl)) (by rw [rt_232]; decide)) (zl_I (fun v3 h4 => ?_))
  refine zl_tr (r_icmp_eq (tgt := 1092) d_275_567 (by decide)) (zl_if ?_ ?_)
  · skip
    refine zl_tr (r_iinc (loc' := [zm_A 3, zm_A 4, zm_A 146, zm_I (x3 + 6)]) d_275_1092 rfl (Nat.le_of_ble_eq_true rfl) rfl) (zl_ck ?_)
    refine zl_tr (r_goto (tgt := 18) d_275_1095 (by decide)) ?_
    exact zl_rf
  · skip
    refine zl_tr (r_iconst d_275_570 (by decide)) ?_
    exact r_zret d_275_571 rt_275
-- BranTubLaw.law, from 572
set_option maxRecDepth 20000 in
theorem e_275_572 {h : zm_H} {x3 : Int} {n : Nat} {xs : Int → Int} : zl (zm_ck (zm_i32 (x3 + 1)) (zm_ck (0 ≤ (x3 + 1) ∧ (x3 + 1) < (n : Int)) (zk_I (zc 23 [zm_A 4, zm_I (xs (x3 + 1))] h) (fun v1 h2 => zm_ck (zm_i32 (x3 + 1)) (zm_ck (0 ≤ (x3 + 1) ∧ (x3 + 1) < (n : Int)) (zk_I (zc 238 [zm_A 146, zm_I (xs (x3 + 1))] h2) (fun v3 h4 => if v1 = v3 then (zm_ck (zm_i32 (x3 + 6)) (zr (some (n, xs)) 95 275 18 [zm_A 3, zm_A 4, zm_A 146, zm_I (x3 + 6)] [] h4)) else (zm_ck (zm_bit 0) (some (zm_I 0, h4)))))))))) (zr (some (n, xs)) 95 275 572 [zm_A 3, zm_A 4, zm_A 146, zm_I x3] [] h) := by
  refine zl_tr (r_aload_n d_275_572 rfl) ?_
  refine zl_tr (r_aload_n d_275_573 rfl) ?_
  refine zl_tr (r_iload_n d_275_574 rfl) ?_
  refine zl_tr (r_iconst d_275_575 (by decide)) ?_
  refine zl_tr (r_iadd d_275_576) (zl_ck ?_)
  refine zl_tr (r_iaload3 d_275_577) (zl_ck ?_)
  refine zl_tr (r_VI [zm_A 4, zm_I (xs (x3 + 1))] d_275_578 ow_275 cal_13_67 na_23 rfl rfl (Nat.le_of_ble_eq_true rfl) (by rw [rk_23]; decide) (zr_rcv la_4 ow_23) (zr_im mx_23 rfl (Nat.le_of_ble_eq_true rfl)) (by rw [rt_23]; decide)) (zl_I (fun v1 h2 => ?_))
  refine zl_tr (r_aload_n d_275_581 rfl) ?_
  refine zl_tr (r_aload_n d_275_582 rfl) ?_
  refine zl_tr (r_iload_n d_275_583 rfl) ?_
  refine zl_tr (r_iconst d_275_584 (by decide)) ?_
  refine zl_tr (r_iadd d_275_585) (zl_ck ?_)
  refine zl_tr (r_iaload3 d_275_586) (zl_ck ?_)
  refine zl_tr (r_VI [zm_A 146, zm_I (xs (x3 + 1))] d_275_587 ow_275 cal_13_70 na_238 rfl rfl (Nat.le_of_ble_eq_true rfl) (by rw [rk_238]; decide) (zr_rcv la_146 ow_238) (zr_im mx_238 rfl (Nat.le_of_ble_eq_true rfl)) (by rw [rt_238]; decide)) (zl_I (fun v3 h4 => ?_))
  refine zl_tr (r_icmp_eq (tgt := 1092) d_275_590 (by decide)) (zl_if ?_ ?_)
  · skip
    refine zl_tr (r_iinc (loc' := [zm_A 3, zm_A 4, zm_A 146, zm_I (x3 + 6)]) d_275_1092 rfl (Nat.le_of_ble_eq_true rfl) rfl) (zl_ck ?_)
    refine zl_tr (r_goto (tgt := 18) d_275_1095 (by decide)) ?_
    exact zl_rf
  · skip
    refine zl_tr (r_iconst d_275_593 (by decide)) ?_
    exact r_zret d_275_594 rt_275
-- BranTubLaw.law, from 595
set_option maxRecDepth 20000 in
theorem e_275_595 {h : zm_H} {x3 : Int} {n : Nat} {xs : Int → Int} : zl (zm_ck (zm_i32 (x3 + 1)) (zm_ck (0 ≤ (x3 + 1) ∧ (x3 + 1) < (n : Int)) (zm_ck (zm_i32 (x3 + 2)) (zm_ck (0 ≤ (x3 + 2) ∧ (x3 + 2) < (n : Int)) (zk_I (zc 24 [zm_A 4, zm_I (xs (x3 + 1)), zm_I (xs (x3 + 2))] h) (fun v1 h2 => zm_ck (zm_i32 (x3 + 1)) (zm_ck (0 ≤ (x3 + 1) ∧ (x3 + 1) < (n : Int)) (zm_ck (zm_i32 (x3 + 2)) (zm_ck (0 ≤ (x3 + 2) ∧ (x3 + 2) < (n : Int)) (zk_I (zc 240 [zm_A 146, zm_I (xs (x3 + 1)), zm_I (xs (x3 + 2))] h2) (fun v3 h4 => if v1 = v3 then (zm_ck (zm_i32 (x3 + 6)) (zr (some (n, xs)) 95 275 18 [zm_A 3, zm_A 4, zm_A 146, zm_I (x3 + 6)] [] h4)) else (zm_ck (zm_bit 0) (some (zm_I 0, h4)))))))))))))) (zr (some (n, xs)) 95 275 595 [zm_A 3, zm_A 4, zm_A 146, zm_I x3] [] h) := by
  refine zl_tr (r_aload_n d_275_595 rfl) ?_
  refine zl_tr (r_aload_n d_275_596 rfl) ?_
  refine zl_tr (r_iload_n d_275_597 rfl) ?_
  refine zl_tr (r_iconst d_275_598 (by decide)) ?_
  refine zl_tr (r_iadd d_275_599) (zl_ck ?_)
  refine zl_tr (r_iaload3 d_275_600) (zl_ck ?_)
  refine zl_tr (r_aload_n d_275_601 rfl) ?_
  refine zl_tr (r_iload_n d_275_602 rfl) ?_
  refine zl_tr (r_iconst d_275_603 (by decide)) ?_
  refine zl_tr (r_iadd d_275_604) (zl_ck ?_)
  refine zl_tr (r_iaload3 d_275_605) (zl_ck ?_)
  refine zl_tr (r_VI [zm_A 4, zm_I (xs (x3 + 1)), zm_I (xs (x3 + 2))] d_275_606 ow_275 cal_13_71 na_24 rfl rfl (Nat.le_of_ble_eq_true rfl) (by rw [rk_24]; decide) (zr_rcv la_4 ow_24) (zr_im mx_24 rfl (Nat.le_of_ble_eq_true rfl)) (by rw [rt_24]; decide)) (zl_I (fun v1 h2 => ?_))
  refine zl_tr (r_aload_n d_275_609 rfl) ?_
  refine zl_tr (r_aload_n d_275_610 rfl) ?_
  refine zl_tr (r_iload_n d_275_611 rfl) ?_
  refine zl_tr (r_iconst d_275_612 (by decide)) ?_
  refine zl_tr (r_iadd d_275_613) (zl_ck ?_)
  refine zl_tr (r_iaload3 d_275_614) (zl_ck ?_)
  refine zl_tr (r_aload_n d_275_615 rfl) ?_
  refine zl_tr (r_iload_n d_275_616 rfl) ?_
  refine zl_tr (r_iconst d_275_617 (by decide)) ?_
  refine zl_tr (r_iadd d_275_618) (zl_ck ?_)
  refine zl_tr (r_iaload3 d_275_619) (zl_ck ?_)
  refine zl_tr (r_VI [zm_A 146, zm_I (xs (x3 + 1)), zm_I (xs (x3 + 2))] d_275_620 ow_275 cal_13_74 na_240 rfl rfl (Nat.le_of_ble_eq_true rfl) (by rw [rk_240]; decide) (zr_rcv la_146 ow_240) (zr_im mx_240 rfl (Nat.le_of_ble_eq_true rfl)) (by rw [rt_240]; decide)) (zl_I (fun v3 h4 => ?_))
  refine zl_tr (r_icmp_eq (tgt := 1092) d_275_623 (by decide)) (zl_if ?_ ?_)
  · skip
    refine zl_tr (r_iinc (loc' := [zm_A 3, zm_A 4, zm_A 146, zm_I (x3 + 6)]) d_275_1092 rfl (Nat.le_of_ble_eq_true rfl) rfl) (zl_ck ?_)
    refine zl_tr (r_goto (tgt := 18) d_275_1095 (by decide)) ?_
    exact zl_rf
  · skip
    refine zl_tr (r_iconst d_275_626 (by decide)) ?_
    exact r_zret d_275_627 rt_275
-- BranTubLaw.law, from 628
set_option maxRecDepth 20000 in
theorem e_275_628 {h : zm_H} {x3 : Int} {n : Nat} {xs : Int → Int} : zl (zm_ck (zm_i32 (x3 + 1)) (zm_ck (0 ≤ (x3 + 1) ∧ (x3 + 1) < (n : Int)) (zk_I (zc 27 [zm_A 4, zm_I (xs (x3 + 1))] h) (fun v1 h2 => zm_ck (zm_i32 (x3 + 1)) (zm_ck (0 ≤ (x3 + 1) ∧ (x3 + 1) < (n : Int)) (zk_I (zc 243 [zm_A 146, zm_I (xs (x3 + 1))] h2) (fun v3 h4 => if v1 = v3 then (zm_ck (zm_i32 (x3 + 6)) (zr (some (n, xs)) 95 275 18 [zm_A 3, zm_A 4, zm_A 146, zm_I (x3 + 6)] [] h4)) else (zm_ck (zm_bit 0) (some (zm_I 0, h4)))))))))) (zr (some (n, xs)) 95 275 628 [zm_A 3, zm_A 4, zm_A 146, zm_I x3] [] h) := by
  refine zl_tr (r_aload_n d_275_628 rfl) ?_
  refine zl_tr (r_aload_n d_275_629 rfl) ?_
  refine zl_tr (r_iload_n d_275_630 rfl) ?_
  refine zl_tr (r_iconst d_275_631 (by decide)) ?_
  refine zl_tr (r_iadd d_275_632) (zl_ck ?_)
  refine zl_tr (r_iaload3 d_275_633) (zl_ck ?_)
  refine zl_tr (r_VI [zm_A 4, zm_I (xs (x3 + 1))] d_275_634 ow_275 cal_13_75 na_27 rfl rfl (Nat.le_of_ble_eq_true rfl) (by rw [rk_27]; decide) (zr_rcv la_4 ow_27) (zr_im mx_27 rfl (Nat.le_of_ble_eq_true rfl)) (by rw [rt_27]; decide)) (zl_I (fun v1 h2 => ?_))
  refine zl_tr (r_aload_n d_275_637 rfl) ?_
  refine zl_tr (r_aload_n d_275_638 rfl) ?_
  refine zl_tr (r_iload_n d_275_639 rfl) ?_
  refine zl_tr (r_iconst d_275_640 (by decide)) ?_
  refine zl_tr (r_iadd d_275_641) (zl_ck ?_)
  refine zl_tr (r_iaload3 d_275_642) (zl_ck ?_)
  refine zl_tr (r_VI [zm_A 146, zm_I (xs (x3 + 1))] d_275_643 ow_275 cal_13_78 na_243 rfl rfl (Nat.le_of_ble_eq_true rfl) (by rw [rk_243]; decide) (zr_rcv la_146 ow_243) (zr_im mx_243 rfl (Nat.le_of_ble_eq_true rfl)) (by rw [rt_243]; decide)) (zl_I (fun v3 h4 => ?_))
  refine zl_tr (r_icmp_eq (tgt := 1092) d_275_646 (by decide)) (zl_if ?_ ?_)
  · skip
    refine zl_tr (r_iinc (loc' := [zm_A 3, zm_A 4, zm_A 146, zm_I (x3 + 6)]) d_275_1092 rfl (Nat.le_of_ble_eq_true rfl) rfl) (zl_ck ?_)
    refine zl_tr (r_goto (tgt := 18) d_275_1095 (by decide)) ?_
    exact zl_rf
  · skip
    refine zl_tr (r_iconst d_275_649 (by decide)) ?_
    exact r_zret d_275_650 rt_275
-- BranTubLaw.law, from 651
set_option maxRecDepth 20000 in
theorem e_275_651 {h : zm_H} {x3 : Int} {n : Nat} {xs : Int → Int} : zl (zm_ck (zm_i32 (x3 + 1)) (zm_ck (0 ≤ (x3 + 1) ∧ (x3 + 1) < (n : Int)) (zm_ck (zm_i32 (x3 + 2)) (zm_ck (0 ≤ (x3 + 2) ∧ (x3 + 2) < (n : Int)) (zk_I (zc 29 [zm_A 4, zm_I (xs (x3 + 1)), zm_I (xs (x3 + 2))] h) (fun v1 h2 => zm_ck (zm_i32 (x3 + 1)) (zm_ck (0 ≤ (x3 + 1) ∧ (x3 + 1) < (n : Int)) (zm_ck (zm_i32 (x3 + 2)) (zm_ck (0 ≤ (x3 + 2) ∧ (x3 + 2) < (n : Int)) (zk_I (zc 244 [zm_A 146, zm_I (xs (x3 + 1)), zm_I (xs (x3 + 2))] h2) (fun v3 h4 => if v1 = v3 then (zm_ck (zm_i32 (x3 + 6)) (zr (some (n, xs)) 95 275 18 [zm_A 3, zm_A 4, zm_A 146, zm_I (x3 + 6)] [] h4)) else (zm_ck (zm_bit 0) (some (zm_I 0, h4)))))))))))))) (zr (some (n, xs)) 95 275 651 [zm_A 3, zm_A 4, zm_A 146, zm_I x3] [] h) := by
  refine zl_tr (r_aload_n d_275_651 rfl) ?_
  refine zl_tr (r_aload_n d_275_652 rfl) ?_
  refine zl_tr (r_iload_n d_275_653 rfl) ?_
  refine zl_tr (r_iconst d_275_654 (by decide)) ?_
  refine zl_tr (r_iadd d_275_655) (zl_ck ?_)
  refine zl_tr (r_iaload3 d_275_656) (zl_ck ?_)
  refine zl_tr (r_aload_n d_275_657 rfl) ?_
  refine zl_tr (r_iload_n d_275_658 rfl) ?_
  refine zl_tr (r_iconst d_275_659 (by decide)) ?_
  refine zl_tr (r_iadd d_275_660) (zl_ck ?_)
  refine zl_tr (r_iaload3 d_275_661) (zl_ck ?_)
  refine zl_tr (r_VI [zm_A 4, zm_I (xs (x3 + 1)), zm_I (xs (x3 + 2))] d_275_662 ow_275 cal_13_79 na_29 rfl rfl (Nat.le_of_ble_eq_true rfl) (by rw [rk_29]; decide) (zr_rcv la_4 ow_29) (zr_im mx_29 rfl (Nat.le_of_ble_eq_true rfl)) (by rw [rt_29]; decide)) (zl_I (fun v1 h2 => ?_))
  refine zl_tr (r_aload_n d_275_665 rfl) ?_
  refine zl_tr (r_aload_n d_275_666 rfl) ?_
  refine zl_tr (r_iload_n d_275_667 rfl) ?_
  refine zl_tr (r_iconst d_275_668 (by decide)) ?_
  refine zl_tr (r_iadd d_275_669) (zl_ck ?_)
  refine zl_tr (r_iaload3 d_275_670) (zl_ck ?_)
  refine zl_tr (r_aload_n d_275_671 rfl) ?_
  refine zl_tr (r_iload_n d_275_672 rfl) ?_
  refine zl_tr (r_iconst d_275_673 (by decide)) ?_
  refine zl_tr (r_iadd d_275_674) (zl_ck ?_)
  refine zl_tr (r_iaload3 d_275_675) (zl_ck ?_)
  refine zl_tr (r_VI [zm_A 146, zm_I (xs (x3 + 1)), zm_I (xs (x3 + 2))] d_275_676 ow_275 cal_13_82 na_244 rfl rfl (Nat.le_of_ble_eq_true rfl) (by rw [rk_244]; decide) (zr_rcv la_146 ow_244) (zr_im mx_244 rfl (Nat.le_of_ble_eq_true rfl)) (by rw [rt_244]; decide)) (zl_I (fun v3 h4 => ?_))
  refine zl_tr (r_icmp_eq (tgt := 1092) d_275_679 (by decide)) (zl_if ?_ ?_)
  · skip
    refine zl_tr (r_iinc (loc' := [zm_A 3, zm_A 4, zm_A 146, zm_I (x3 + 6)]) d_275_1092 rfl (Nat.le_of_ble_eq_true rfl) rfl) (zl_ck ?_)
    refine zl_tr (r_goto (tgt := 18) d_275_1095 (by decide)) ?_
    exact zl_rf
  · skip
    refine zl_tr (r_iconst d_275_682 (by decide)) ?_
    exact r_zret d_275_683 rt_275
-- BranTubLaw.law, from 684
set_option maxRecDepth 20000 in
theorem e_275_684 {h : zm_H} {x3 : Int} {n : Nat} {xs : Int → Int} : zl (zm_ck (zm_i32 (x3 + 1)) (zm_ck (0 ≤ (x3 + 1) ∧ (x3 + 1) < (n : Int)) (zk_I (zc 30 [zm_A 4, zm_I (xs (x3 + 1))] h) (fun v1 h2 => zm_ck (zm_i32 (x3 + 1)) (zm_ck (0 ≤ (x3 + 1) ∧ (x3 + 1) < (n : Int)) (zk_I (zc 246 [zm_A 146, zm_I (xs (x3 + 1))] h2) (fun v3 h4 => if v1 = v3 then (zm_ck (zm_i32 (x3 + 6)) (zr (some (n, xs)) 95 275 18 [zm_A 3, zm_A 4, zm_A 146, zm_I (x3 + 6)] [] h4)) else (zm_ck (zm_bit 0) (some (zm_I 0, h4)))))))))) (zr (some (n, xs)) 95 275 684 [zm_A 3, zm_A 4, zm_A 146, zm_I x3] [] h) := by
  refine zl_tr (r_aload_n d_275_684 rfl) ?_
  refine zl_tr (r_aload_n d_275_685 rfl) ?_
  refine zl_tr (r_iload_n d_275_686 rfl) ?_
  refine zl_tr (r_iconst d_275_687 (by decide)) ?_
  refine zl_tr (r_iadd d_275_688) (zl_ck ?_)
  refine zl_tr (r_iaload3 d_275_689) (zl_ck ?_)
  refine zl_tr (r_VI [zm_A 4, zm_I (xs (x3 + 1))] d_275_690 ow_275 cal_13_83 na_30 rfl rfl (Nat.le_of_ble_eq_true rfl) (by rw [rk_30]; decide) (zr_rcv la_4 ow_30) (zr_im mx_30 rfl (Nat.le_of_ble_eq_true rfl)) (by rw [rt_30]; decide)) (zl_I (fun v1 h2 => ?_))
  refine zl_tr (r_aload_n d_275_693 rfl) ?_
  refine zl_tr (r_aload_n d_275_694 rfl) ?_
  refine zl_tr (r_iload_n d_275_695 rfl) ?_
  refine zl_tr (r_iconst d_275_696 (by decide)) ?_
  refine zl_tr (r_iadd d_275_697) (zl_ck ?_)
  refine zl_tr (r_iaload3 d_275_698) (zl_ck ?_)
  refine zl_tr (r_VI [zm_A 146, zm_I (xs (x3 + 1))] d_275_699 ow_275 cal_13_86 na_246 rfl rfl (Nat.le_of_ble_eq_true rfl) (by rw [rk_246]; decide) (zr_rcv la_146 ow_246) (zr_im mx_246 rfl (Nat.le_of_ble_eq_true rfl)) (by rw [rt_246]; decide)) (zl_I (fun v3 h4 => ?_))
  refine zl_tr (r_icmp_eq (tgt := 1092) d_275_702 (by decide)) (zl_if ?_ ?_)
  · skip
    refine zl_tr (r_iinc (loc' := [zm_A 3, zm_A 4, zm_A 146, zm_I (x3 + 6)]) d_275_1092 rfl (Nat.le_of_ble_eq_true rfl) rfl) (zl_ck ?_)
    refine zl_tr (r_goto (tgt := 18) d_275_1095 (by decide)) ?_
    exact zl_rf
  · skip
    refine zl_tr (r_iconst d_275_705 (by decide)) ?_
    exact r_zret d_275_706 rt_275
-- BranTubLaw.law, from 707
set_option maxRecDepth 20000 in
theorem e_275_707 {h : zm_H} {x3 : Int} {n : Nat} {xs : Int → Int} : zl (zk_I (zc 36 [zm_A 4] h) (fun v1 h2 => zk_I (zc 253 [zm_A 146] h2) (fun v3 h4 => if v1 = v3 then (zm_ck (zm_i32 (x3 + 6)) (zr (some (n, xs)) 95 275 18 [zm_A 3, zm_A 4, zm_A 146, zm_I (x3 + 6)] [] h4)) else (zm_ck (zm_bit 0) (some (zm_I 0, h4)))))) (zr (some (n, xs)) 95 275 707 [zm_A 3, zm_A 4, zm_A 146, zm_I x3] [] h) := by
  refine zl_tr (r_aload_n d_275_707 rfl) ?_
  refine zl_tr (r_VI [zm_A 4] d_275_708 ow_275 cal_13_87 na_36 rfl rfl (Nat.le_of_ble_eq_true rfl) (by rw [rk_36]; decide) (zr_rcv la_4 ow_36) (zr_im mx_36 rfl (Nat.le_of_ble_eq_true rfl)) (by rw [rt_36]; decide)) (zl_I (fun v1 h2 => ?_))
  refine zl_tr (r_aload_n d_275_711 rfl) ?_
  refine zl_tr (r_VI [zm_A 146] d_275_712 ow_275 cal_13_90 na_253 rfl rfl (Nat.le_of_ble_eq_true rfl) (by rw [rk_253]; decide) (zr_rcv la_146 ow_253) (zr_im mx_253 rfl (Nat.le_of_ble_eq_true rfl)) (by rw [rt_253]; decide)) (zl_I (fun v3 h4 => ?_))
  refine zl_tr (r_icmp_eq (tgt := 1092) d_275_715 (by decide)) (zl_if ?_ ?_)
  · skip
    refine zl_tr (r_iinc (loc' := [zm_A 3, zm_A 4, zm_A 146, zm_I (x3 + 6)]) d_275_1092 rfl (Nat.le_of_ble_eq_true rfl) rfl) (zl_ck ?_)
    refine zl_tr (r_goto (tgt := 18) d_275_1095 (by decide)) ?_
    exact zl_rf
  · skip
    refine zl_tr (r_iconst d_275_718 (by decide)) ?_
    exact r_zret d_275_719 rt_275
-- BranTubLaw.law, from 720
set_option maxRecDepth 20000 in
theorem e_275_720 {h : zm_H} {x3 : Int} {n : Nat} {xs : Int → Int} : zl (zm_ck (zm_i32 (x3 + 1)) (zm_ck (0 ≤ (x3 + 1) ∧ (x3 + 1) < (n : Int)) (zm_ck (zm_i32 (x3 + 2)) (zm_ck (0 ≤ (x3 + 2) ∧ (x3 + 2) < (n : Int)) (zm_ck (zm_i32 (x3 + 3)) (zm_ck (0 ≤ (x3 + 3) ∧ (x3 + 3) < (n : Int)) (zk_I (zc 37 [zm_A 4, zm_I (xs (x3 + 1)), zm_I (xs (x3 + 2)), zm_I (xs (x3 + 3))] h) (fun v1 h2 => zm_ck (zm_i32 (x3 + 1)) (zm_ck (0 ≤ (x3 + 1) ∧ (x3 + 1) < (n : Int)) (zm_ck (zm_i32 (x3 + 2)) (zm_ck (0 ≤ (x3 + 2) ∧ (x3 + 2) < (n : Int)) (zm_ck (zm_i32 (x3 + 3)) (zm_ck (0 ≤ (x3 + 3) ∧ (x3 + 3) < (n : Int)) (zk_I (zc 254 [zm_A 146, zm_I (xs (x3 + 1)), zm_I (xs (x3 + 2)), zm_I (xs (x3 + 3))] h2) (fun v3 h4 => if v1 = v3 then (zm_ck (zm_i32 (x3 + 6)) (zr (some (n, xs)) 95 275 18 [zm_A 3, zm_A 4, zm_A 146, zm_I (x3 + 6)] [] h4)) else (zm_ck (zm_bit 0) (some (zm_I 0, h4)))))))))))))))))) (zr (some (n, xs)) 95 275 720 [zm_A 3, zm_A 4, zm_A 146, zm_I x3] [] h) := by
  refine zl_tr (r_aload_n d_275_720 rfl) ?_
  refine zl_tr (r_aload_n d_275_721 rfl) ?_
  refine zl_tr (r_iload_n d_275_722 rfl) ?_
  refine zl_tr (r_iconst d_275_723 (by decide)) ?_
  refine zl_tr (r_iadd d_275_724) (zl_ck ?_)
  refine zl_tr (r_iaload3 d_275_725) (zl_ck ?_)
  refine zl_tr (r_aload_n d_275_726 rfl) ?_
  refine zl_tr (r_iload_n d_275_727 rfl) ?_
  refine zl_tr (r_iconst d_275_728 (by decide)) ?_
  refine zl_tr (r_iadd d_275_729) (zl_ck ?_)
  refine zl_tr (r_iaload3 d_275_730) (zl_ck ?_)
  refine zl_tr (r_aload_n d_275_731 rfl) ?_
  refine zl_tr (r_iload_n d_275_732 rfl) ?_
  refine zl_tr (r_iconst d_275_733 (by decide)) ?_
  refine zl_tr (r_iadd d_275_734) (zl_ck ?_)
  refine zl_tr (r_iaload3 d_275_735) (zl_ck ?_)
  refine zl_tr (r_VI [zm_A 4, zm_I (xs (x3 + 1)), zm_I (xs (x3 + 2)), zm_I (xs (x3 + 3))] d_275_736 ow_275 cal_13_91 na_37 rfl rfl (Nat.le_of_ble_eq_true rfl) (by rw [rk_37]; decide) (zr_rcv la_4 ow_37) (zr_im mx_37 rfl (Nat.le_of_ble_eq_true rfl)) (by rw [rt_37]; decide)) (zl_I (fun v1 h2 => ?_))
  refine zl_tr (r_aload_n d_275_739 rfl) ?_
  refine zl_tr (r_aload_n d_275_740 rfl) ?_
  refine zl_tr (r_iload_n d_275_741 rfl) ?_
  refine zl_tr (r_iconst d_275_742 (by decide)) ?_
  refine zl_tr (r_iadd d_275_743) (zl_ck ?_)
  refine zl_tr (r_iaload3 d_275_744) (zl_ck ?_)
  refine zl_tr (r_aload_n d_275_745 rfl) ?_
  refine zl_tr (r_iload_n d_275_746 rfl) ?_
  refine zl_tr (r_iconst d_275_747 (by decide)) ?_
  refine zl_tr (r_iadd d_275_748) (zl_ck ?_)
  refine zl_tr (r_iaload3 d_275_749) (zl_ck ?_)
  refine zl_tr (r_aload_n d_275_750 rfl) ?_
  refine zl_tr (r_iload_n d_275_751 rfl) ?_
  refine zl_tr (r_iconst d_275_752 (by decide)) ?_
  refine zl_tr (r_iadd d_275_753) (zl_ck ?_)
  refine zl_tr (r_iaload3 d_275_754) (zl_ck ?_)
  refine zl_tr (r_VI [zm_A 146, zm_I (xs (x3 + 1)), zm_I (xs (x3 + 2)), zm_I (xs (x3 + 3))] d_275_755 ow_275 cal_13_94 na_254 rfl rfl (Nat.le_of_ble_eq_true rfl) (by rw [rk_254]; decide) (zr_rcv la_146 ow_254) (zr_im mx_254 rfl (Nat.le_of_ble_eq_true rfl)) (by rw [rt_254]; decide)) (zl_I (fun v3 h4 => ?_))
  refine zl_tr (r_icmp_eq (tgt := 1092) d_275_758 (by decide)) (zl_if ?_ ?_)
  · skip
    refine zl_tr (r_iinc (loc' := [zm_A 3, zm_A 4, zm_A 146, zm_I (x3 + 6)]) d_275_1092 rfl (Nat.le_of_ble_eq_true rfl) rfl) (zl_ck ?_)
    refine zl_tr (r_goto (tgt := 18) d_275_1095 (by decide)) ?_
    exact zl_rf
  · skip
    refine zl_tr (r_iconst d_275_761 (by decide)) ?_
    exact r_zret d_275_762 rt_275
-- BranTubLaw.law, from 763
set_option maxRecDepth 20000 in
theorem e_275_763 {h : zm_H} {x3 : Int} {n : Nat} {xs : Int → Int} : zl (zm_ck (zm_i32 (x3 + 1)) (zm_ck (0 ≤ (x3 + 1) ∧ (x3 + 1) < (n : Int)) (zm_ck (zm_i32 (x3 + 2)) (zm_ck (0 ≤ (x3 + 2) ∧ (x3 + 2) < (n : Int)) (zk_I (zc 38 [zm_A 4, zm_I (xs (x3 + 1)), zm_I (xs (x3 + 2))] h) (fun v1 h2 => zm_ck (zm_i32 (x3 + 1)) (zm_ck (0 ≤ (x3 + 1) ∧ (x3 + 1) < (n : Int)) (zm_ck (zm_i32 (x3 + 2)) (zm_ck (0 ≤ (x3 + 2) ∧ (x3 + 2) < (n : Int)) (zk_I (zc 255 [zm_A 146, zm_I (xs (x3 + 1)), zm_I (xs (x3 + 2))] h2) (fun v3 h4 => if v1 = v3 then (zm_ck (zm_i32 (x3 + 6)) (zr (some (n, xs)) 95 275 18 [zm_A 3, zm_A 4, zm_A 146, zm_I (x3 + 6)] [] h4)) else (zm_ck (zm_bit 0) (some (zm_I 0, h4)))))))))))))) (zr (some (n, xs)) 95 275 763 [zm_A 3, zm_A 4, zm_A 146, zm_I x3] [] h) := by
  refine zl_tr (r_aload_n d_275_763 rfl) ?_
  refine zl_tr (r_aload_n d_275_764 rfl) ?_
  refine zl_tr (r_iload_n d_275_765 rfl) ?_
  refine zl_tr (r_iconst d_275_766 (by decide)) ?_
  refine zl_tr (r_iadd d_275_767) (zl_ck ?_)
  refine zl_tr (r_iaload3 d_275_768) (zl_ck ?_)
  refine zl_tr (r_aload_n d_275_769 rfl) ?_
  refine zl_tr (r_iload_n d_275_770 rfl) ?_
  refine zl_tr (r_iconst d_275_771 (by decide)) ?_
  refine zl_tr (r_iadd d_275_772) (zl_ck ?_)
  refine zl_tr (r_iaload3 d_275_773) (zl_ck ?_)
  refine zl_tr (r_VI [zm_A 4, zm_I (xs (x3 + 1)), zm_I (xs (x3 + 2))] d_275_774 ow_275 cal_13_95 na_38 rfl rfl (Nat.le_of_ble_eq_true rfl) (by rw [rk_38]; decide) (zr_rcv la_4 ow_38) (zr_im mx_38 rfl (Nat.le_of_ble_eq_true rfl)) (by rw [rt_38]; decide)) (zl_I (fun v1 h2 => ?_))
  refine zl_tr (r_aload_n d_275_777 rfl) ?_
  refine zl_tr (r_aload_n d_275_778 rfl) ?_
  refine zl_tr (r_iload_n d_275_779 rfl) ?_
  refine zl_tr (r_iconst d_275_780 (by decide)) ?_
  refine zl_tr (r_iadd d_275_781) (zl_ck ?_)
  refine zl_tr (r_iaload3 d_275_782) (zl_ck ?_)
  refine zl_tr (r_aload_n d_275_783 rfl) ?_
  refine zl_tr (r_iload_n d_275_784 rfl) ?_
  refine zl_tr (r_iconst d_275_785 (by decide)) ?_
  refine zl_tr (r_iadd d_275_786) (zl_ck ?_)
  refine zl_tr (r_iaload3 d_275_787) (zl_ck ?_)
  refine zl_tr (r_VI [zm_A 146, zm_I (xs (x3 + 1)), zm_I (xs (x3 + 2))] d_275_788 ow_275 cal_13_99 na_255 rfl rfl (Nat.le_of_ble_eq_true rfl) (by rw [rk_255]; decide) (zr_rcv la_146 ow_255) (zr_im mx_255 rfl (Nat.le_of_ble_eq_true rfl)) (by rw [rt_255]; decide)) (zl_I (fun v3 h4 => ?_))
  refine zl_tr (r_icmp_eq (tgt := 1092) d_275_791 (by decide)) (zl_if ?_ ?_)
  · skip
    refine zl_tr (r_iinc (loc' := [zm_A 3, zm_A 4, zm_A 146, zm_I (x3 + 6)]) d_275_1092 rfl (Nat.le_of_ble_eq_true rfl) rfl) (zl_ck ?_)
    refine zl_tr (r_goto (tgt := 18) d_275_1095 (by decide)) ?_
    exact zl_rf
  · skip
    refine zl_tr (r_iconst d_275_794 (by decide)) ?_
    exact r_zret d_275_795 rt_275
-- BranTubLaw.law, from 796
set_option maxRecDepth 20000 in
theorem e_275_796 {h : zm_H} {x3 : Int} {n : Nat} {xs : Int → Int} : zl (zm_ck (zm_i32 (x3 + 1)) (zm_ck (0 ≤ (x3 + 1) ∧ (x3 + 1) < (n : Int)) (zm_ck (zm_i32 (x3 + 2)) (zm_ck (0 ≤ (x3 + 2) ∧ (x3 + 2) < (n : Int)) (zm_ck (zm_i32 (x3 + 3)) (zm_ck (0 ≤ (x3 + 3) ∧ (x3 + 3) < (n : Int)) (zm_ck (zm_i32 (x3 + 4)) (zm_ck (0 ≤ (x3 + 4) ∧ (x3 + 4) < (n : Int)) (zk_I (zc 40 [zm_A 4, zm_I (xs (x3 + 1)), zm_I (xs (x3 + 2)), zm_I (xs (x3 + 3)), zm_I (xs (x3 + 4))] h) (fun v1 h2 => zm_ck (zm_i32 (x3 + 1)) (zm_ck (0 ≤ (x3 + 1) ∧ (x3 + 1) < (n : Int)) (zm_ck (zm_i32 (x3 + 2)) (zm_ck (0 ≤ (x3 + 2) ∧ (x3 + 2) < (n : Int)) (zm_ck (zm_i32 (x3 + 3)) (zm_ck (0 ≤ (x3 + 3) ∧ (x3 + 3) < (n : Int)) (zm_ck (zm_i32 (x3 + 4)) (zm_ck (0 ≤ (x3 + 4) ∧ (x3 + 4) < (n : Int)) (zk_I (zc 256 [zm_A 146, zm_I (xs (x3 + 1)), zm_I (xs (x3 + 2)), zm_I (xs (x3 + 3)), zm_I (xs (x3 + 4))] h2) (fun v3 h4 => if v1 = v3 then (zm_ck (zm_i32 (x3 + 6)) (zr (some (n, xs)) 95 275 18 [zm_A 3, zm_A 4, zm_A 146, zm_I (x3 + 6)] [] h4)) else (zm_ck (zm_bit 0) (some (zm_I 0, h4)))))))))))))))))))))) (zr (some (n, xs)) 95 275 796 [zm_A 3, zm_A 4, zm_A 146, zm_I x3] [] h) := by
  refine zl_tr (r_aload_n d_275_796 rfl) ?_
  refine zl_tr (r_aload_n d_275_797 rfl) ?_
  refine zl_tr (r_iload_n d_275_798 rfl) ?_
  refine zl_tr (r_iconst d_275_799 (by decide)) ?_
  refine zl_tr (r_iadd d_275_800) (zl_ck ?_)
  refine zl_tr (r_iaload3 d_275_801) (zl_ck ?_)
  refine zl_tr (r_aload_n d_275_802 rfl) ?_
  refine zl_tr (r_iload_n d_275_803 rfl) ?_
  refine zl_tr (r_iconst d_275_804 (by decide)) ?_
  refine zl_tr (r_iadd d_275_805) (zl_ck ?_)
  refine zl_tr (r_iaload3 d_275_806) (zl_ck ?_)
  refine zl_tr (r_aload_n d_275_807 rfl) ?_
  refine zl_tr (r_iload_n d_275_808 rfl) ?_
  refine zl_tr (r_iconst d_275_809 (by decide)) ?_
  refine zl_tr (r_iadd d_275_810) (zl_ck ?_)
  refine zl_tr (r_iaload3 d_275_811) (zl_ck ?_)
  refine zl_tr (r_aload_n d_275_812 rfl) ?_
  refine zl_tr (r_iload_n d_275_813 rfl) ?_
  refine zl_tr (r_iconst d_275_814 (by decide)) ?_
  refine zl_tr (r_iadd d_275_815) (zl_ck ?_)
  refine zl_tr (r_iaload3 d_275_816) (zl_ck ?_)
  refine zl_tr (r_VI [zm_A 4, zm_I (xs (x3 + 1)), zm_I (xs (x3 + 2)), zm_I (xs (x3 + 3)), zm_I (xs (x3 + 4))] d_275_817 ow_275 cal_13_100 na_40 rfl rfl (Nat.le_of_ble_eq_true rfl) (by rw [rk_40]; decide) (zr_rcv la_4 ow_40) (zr_im mx_40 rfl (Nat.le_of_ble_eq_true rfl)) (by rw [rt_40]; decide)) (zl_I (fun v1 h2 => ?_))
  refine zl_tr (r_aload_n d_275_820 rfl) ?_
  refine zl_tr (r_aload_n d_275_821 rfl) ?_
  refine zl_tr (r_iload_n d_275_822 rfl) ?_
  refine zl_tr (r_iconst d_275_823 (by decide)) ?_
  refine zl_tr (r_iadd d_275_824) (zl_ck ?_)
  refine zl_tr (r_iaload3 d_275_825) (zl_ck ?_)
  refine zl_tr (r_aload_n d_275_826 rfl) ?_
  refine zl_tr (r_iload_n d_275_827 rfl) ?_
  refine zl_tr (r_iconst d_275_828 (by decide)) ?_
  refine zl_tr (r_iadd d_275_829) (zl_ck ?_)
  refine zl_tr (r_iaload3 d_275_830) (zl_ck ?_)
  refine zl_tr (r_aload_n d_275_831 rfl) ?_
  refine zl_tr (r_iload_n d_275_832 rfl) ?_
  refine zl_tr (r_iconst d_275_833 (by decide)) ?_
  refine zl_tr (r_iadd d_275_834) (zl_ck ?_)
  refine zl_tr (r_iaload3 d_275_835) (zl_ck ?_)
  refine zl_tr (r_aload_n d_275_836 rfl) ?_
  refine zl_tr (r_iload_n d_275_837 rfl) ?_
  refine zl_tr (r_iconst d_275_838 (by decide)) ?_
  refine zl_tr (r_iadd d_275_839) (zl_ck ?_)
  refine zl_tr (r_iaload3 d_275_840) (zl_ck ?_)
  refine zl_tr (r_VI [zm_A 146, zm_I (xs (x3 + 1)), zm_I (xs (x3 + 2)), zm_I (xs (x3 + 3)), zm_I (xs (x3 + 4))] d_275_841 ow_275 cal_13_104 na_256 rfl rfl (Nat.le_of_ble_eq_true rfl) (by rw [rk_256]; decide) (zr_rcv la_146 ow_256) (zr_im mx_256 rfl (Nat.le_of_ble_eq_true rfl)) (by rw [rt_256]; decide)) (zl_I (fun v3 h4 => ?_))
  refine zl_tr (r_icmp_eq (tgt := 1092) d_275_844 (by decide)) (zl_if ?_ ?_)
  · skip
    refine zl_tr (r_iinc (loc' := [zm_A 3, zm_A 4, zm_A 146, zm_I (x3 + 6)]) d_275_1092 rfl (Nat.le_of_ble_eq_true rfl) rfl) (zl_ck ?_)
    refine zl_tr (r_goto (tgt := 18) d_275_1095 (by decide)) ?_
    exact zl_rf
  · skip
    refine zl_tr (r_iconst d_275_847 (by decide)) ?_
    exact r_zret d_275_848 rt_275
-- BranTubLaw.law, from 849
set_option maxRecDepth 20000 in
theorem e_275_849 {h : zm_H} {x3 : Int} {n : Nat} {xs : Int → Int} : zl (zm_ck (zm_i32 (x3 + 1)) (zm_ck (0 ≤ (x3 + 1) ∧ (x3 + 1) < (n : Int)) (zk_I (zc 41 [zm_A 4, zm_I (xs (x3 + 1))] h) (fun v1 h2 => zm_ck (zm_i32 (x3 + 1)) (zm_ck (0 ≤ (x3 + 1) ∧ (x3 + 1) < (n : Int)) (zk_I (zc 257 [zm_A 146, zm_I (xs (x3 + 1))] h2) (fun v3 h4 => if v1 = v3 then (zm_ck (zm_i32 (x3 + 6)) (zr (some (n, xs)) 95 275 18 [zm_A 3, zm_A 4, zm_A 146, zm_I (x3 + 6)] [] h4)) else (zm_ck (zm_bit 0) (some (zm_I 0, h4)))))))))) (zr (some (n, xs)) 95 275 849 [zm_A 3, zm_A 4, zm_A 146, zm_I x3] [] h) := by
  refine zl_tr (r_aload_n d_275_849 rfl) ?_
  refine zl_tr (r_aload_n d_275_850 rfl) ?_
  refine zl_tr (r_iload_n d_275_851 rfl) ?_
  refine zl_tr (r_iconst d_275_852 (by decide)) ?_
  refine zl_tr (r_iadd d_275_853) (zl_ck ?_)
  refine zl_tr (r_iaload3 d_275_854) (zl_ck ?_)
  refine zl_tr (r_VI [zm_A 4, zm_I (xs (x3 + 1))] d_275_855 ow_275 cal_13_105 na_41 rfl rfl (Nat.le_of_ble_eq_true rfl) (by rw [rk_41]; decide) (zr_rcv la_4 ow_41) (zr_im mx_41 rfl (Nat.le_of_ble_eq_true rfl)) (by rw [rt_41]; decide)) (zl_I (fun v1 h2 => ?_))
  refine zl_tr (r_aload_n d_275_858 rfl) ?_
  refine zl_tr (r_aload_n d_275_859 rfl) ?_
  refine zl_tr (r_iload_n d_275_860 rfl) ?_
  refine zl_tr (r_iconst d_275_861 (by decide)) ?_
  refine zl_tr (r_iadd d_275_862) (zl_ck ?_)
  refine zl_tr (r_iaload3 d_275_863) (zl_ck ?_)
  refine zl_tr (r_VI [zm_A 146, zm_I (xs (x3 + 1))] d_275_864 ow_275 cal_13_108 na_257 rfl rfl (Nat.le_of_ble_eq_true rfl) (by rw [rk_257]; decide) (zr_rcv la_146 ow_257) (zr_im mx_257 rfl (Nat.le_of_ble_eq_true rfl)) (by rw [rt_257]; decide)) (zl_I (fun v3 h4 => ?_))
  refine zl_tr (r_icmp_eq (tgt := 1092) d_275_867 (by decide)) (zl_if ?_ ?_)
  · skip
    refine zl_tr (r_iinc (loc' := [zm_A 3, zm_A 4, zm_A 146, zm_I (x3 + 6)]) d_275_1092 rfl (Nat.le_of_ble_eq_true rfl) rfl) (zl_ck ?_)
    refine zl_tr (r_goto (tgt := 18) d_275_1095 (by decide)) ?_
    exact zl_rf
  · skip
    refine zl_tr (r_iconst d_275_870 (by decide)) ?_
    exact r_zret d_275_871 rt_275
-- BranTubLaw.law, from 872
set_option maxRecDepth 20000 in
theorem e_275_872 {h : zm_H} {x3 : Int} {n : Nat} {xs : Int → Int} : zl (zk_I (zc 43 [zm_A 4] h) (fun v1 h2 => zk_I (zc 200 [zm_A 146] h2) (fun v3 h4 => if v1 = v3 then (zm_ck (zm_i32 (x3 + 6)) (zr (some (n, xs)) 95 275 18 [zm_A 3, zm_A 4, zm_A 146, zm_I (x3 + 6)] [] h4)) else (zm_ck (zm_bit 0) (some (zm_I 0, h4)))))) (zr (some (n, xs)) 95 275 872 [zm_A 3, zm_A 4, zm_A 146, zm_I x3] [] h) := by
  refine zl_tr (r_aload_n d_275_872 rfl) ?_
  refine zl_tr (r_VI [zm_A 4] d_275_873 ow_275 cal_13_109 na_43 rfl rfl (Nat.le_of_ble_eq_true rfl) (by rw [rk_43]; decide) (zr_rcv la_4 ow_43) (zr_im mx_43 rfl (Nat.le_of_ble_eq_true rfl)) (by rw [rt_43]; decide)) (zl_I (fun v1 h2 => ?_))
  refine zl_tr (r_aload_n d_275_876 rfl) ?_
  refine zl_tr (r_VI [zm_A 146] d_275_877 ow_275 cal_13_113 na_200 rfl rfl (Nat.le_of_ble_eq_true rfl) (by rw [rk_200]; decide) (zr_rcv la_146 ow_200) (zr_im mx_200 rfl (Nat.le_of_ble_eq_true rfl)) (by rw [rt_200]; decide)) (zl_I (fun v3 h4 => ?_))
  refine zl_tr (r_icmp_eq (tgt := 1092) d_275_880 (by decide)) (zl_if ?_ ?_)
  · skip
    refine zl_tr (r_iinc (loc' := [zm_A 3, zm_A 4, zm_A 146, zm_I (x3 + 6)]) d_275_1092 rfl (Nat.le_of_ble_eq_true rfl) rfl) (zl_ck ?_)
    refine zl_tr (r_goto (tgt := 18) d_275_1095 (by decide)) ?_
    exact zl_rf
  · skip
    refine zl_tr (r_iconst d_275_883 (by decide)) ?_
    exact r_zret d_275_884 rt_275
-- BranTubLaw.law, from 885
set_option maxRecDepth 20000 in
theorem e_275_885 {h : zm_H} {x3 : Int} {n : Nat} {xs : Int → Int} : zl (zm_ck (zm_i32 (x3 + 1)) (zm_ck (0 ≤ (x3 + 1) ∧ (x3 + 1) < (n : Int)) (zk_I (zc 44 [zm_A 4, zm_I (xs (x3 + 1))] h) (fun v1 h2 => zm_ck (zm_i32 (x3 + 1)) (zm_ck (0 ≤ (x3 + 1) ∧ (x3 + 1) < (n : Int)) (zk_I (zc 258 [zm_A 146, zm_I (xs (x3 + 1))] h2) (fun v3 h4 => if v1 = v3 then (zm_ck (zm_i32 (x3 + 6)) (zr (some (n, xs)) 95 275 18 [zm_A 3, zm_A 4, zm_A 146, zm_I (x3 + 6)] [] h4)) else (zm_ck (zm_bit 0) (some (zm_I 0, h4)))))))))) (zr (some (n, xs)) 95 275 885 [zm_A 3, zm_A 4, zm_A 146, zm_I x3] [] h) := by
  refine zl_tr (r_aload_n d_275_885 rfl) ?_
  refine zl_tr (r_aload_n d_275_886 rfl) ?_
  refine zl_tr (r_iload_n d_275_887 rfl) ?_
  refine zl_tr (r_iconst d_275_888 (by decide)) ?_
  refine zl_tr (r_iadd d_275_889) (zl_ck ?_)
  refine zl_tr (r_iaload3 d_275_890) (zl_ck ?_)
  refine zl_tr (r_VI [zm_A 4, zm_I (xs (x3 + 1))] d_275_891 ow_275 cal_13_114 na_44 rfl rfl (Nat.le_of_ble_eq_true rfl) (by rw [rk_44]; decide) (zr_rcv la_4 ow_44) (zr_im mx_44 rfl (Nat.le_of_ble_eq_true rfl)) (by rw [rt_44]; decide)) (zl_I (fun v1 h2 => ?_))
  refine zl_tr (r_aload_n d_275_894 rfl) ?_
  refine zl_tr (r_aload_n d_275_895 rfl) ?_
  refine zl_tr (r_iload_n d_275_896 rfl) ?_
  refine zl_tr (r_iconst d_275_897 (by decide)) ?_
  refine zl_tr (r_iadd d_275_898) (zl_ck ?_)
  refine zl_tr (r_iaload3 d_275_899) (zl_ck ?_)
  refine zl_tr (r_VI [zm_A 146, zm_I (xs (x3 + 1))] d_275_900 ow_275 cal_13_117 na_258 rfl rfl (Nat.le_of_ble_eq_true rfl) (by rw [rk_258]; decide) (zr_rcv la_146 ow_258) (zr_im mx_258 rfl (Nat.le_of_ble_eq_true rfl)) (by rw [rt_258]; decide)) (zl_I (fun v3 h4 => ?_))
  refine zl_tr (r_icmp_eq (tgt := 1092) d_275_903 (by decide)) (zl_if ?_ ?_)
  · skip
    refine zl_tr (r_iinc (loc' := [zm_A 3, zm_A 4, zm_A 146, zm_I (x3 + 6)]) d_275_1092 rfl (Nat.le_of_ble_eq_true rfl) rfl) (zl_ck ?_)
    refine zl_tr (r_goto (tgt := 18) d_275_1095 (by decide)) ?_
    exact zl_rf
  · skip
    refine zl_tr (r_iconst d_275_906 (by decide)) ?_
    exact r_zret d_275_907 rt_275
-- BranTubLaw.law, from 908
set_option maxRecDepth 20000 in
theorem e_275_908 {h : zm_H} {x3 : Int} {n : Nat} {xs : Int → Int} : zl (zm_ck (zm_i32 (x3 + 1)) (zm_ck (0 ≤ (x3 + 1) ∧ (x3 + 1) < (n : Int)) (zm_ck (zm_i32 (x3 + 2)) (zm_ck (0 ≤ (x3 + 2) ∧ (x3 + 2) < (n : Int)) (zk_I (zc 45 [zm_A 4, zm_I (xs (x3 + 1)), zm_I (xs (x3 + 2))] h) (fun v1 h2 => zm_ck (zm_i32 (x3 + 1)) (zm_ck (0 ≤ (x3 + 1) ∧ (x3 + 1) < (n : Int)) (zm_ck (zm_i32 (x3 + 2)) (zm_ck (0 ≤ (x3 + 2) ∧ (x3 + 2) < (n : Int)) (zk_I (zc 259 [zm_A 146, zm_I (xs (x3 + 1)), zm_I (xs (x3 + 2))] h2) (fun v3 h4 => if v1 = v3 then (zm_ck (zm_i32 (x3 + 6)) (zr (some (n, xs)) 95 275 18 [zm_A 3, zm_A 4, zm_A 146, zm_I (x3 + 6)] [] h4)) else (zm_ck (zm_bit 0) (some (zm_I 0, h4)))))))))))))) (zr (some (n, xs)) 95 275 908 [zm_A 3, zm_A 4, zm_A 146, zm_I x3] [] h) := by
  refine zl_tr (r_aload_n d_275_908 rfl) ?_
  refine zl_tr (r_aload_n d_275_909 rfl) ?_
  refine zl_tr (r_iload_n d_275_910 rfl) ?_
  refine zl_tr (r_iconst d_275_911 (by decide)) ?_
  refine zl_tr (r_iadd d_275_912) (zl_ck ?_)
  refine zl_tr (r_iaload3 d_275_913) (zl_ck ?_)
  refine zl_tr (r_aload_n d_275_914 rfl) ?_
  refine zl_tr (r_iload_n d_275_915 rfl) ?_
  refine zl_tr (r_iconst d_275_916 (by decide)) ?_
  refine zl_tr (r_iadd d_275_917) (zl_ck ?_)
  refine zl_tr (r_iaload3 d_275_918) (zl_ck ?_)
  refine zl_tr (r_VI [zm_A 4, zm_I (xs (x3 + 1)), zm_I (xs (x3 + 2))] d_275_919 ow_275 cal_13_118 na_45 rfl rfl (Nat.le_of_ble_eq_true rfl) (by rw [rk_45]; decide) (zr_rcv la_4 ow_45) (zr_im mx_45 rfl (Nat.le_of_ble_eq_true rfl)) (by rw [rt_45]; decide)) (zl_I (fun v1 h2 => ?_))
  refine zl_tr (r_aload_n d_275_922 rfl) ?_
  refine zl_tr (r_aload_n d_275_923 rfl) ?_
  refine zl_tr (r_iload_n d_275_924 rfl) ?_
  refine zl_tr (r_iconst d_275_925 (by decide)) ?_
  refine zl_tr (r_iadd d_275_926) (zl_ck ?_)
  refine zl_tr (r_iaload3 d_275_927) (zl_ck ?_)
  refine zl_tr (r_aload_n d_275_928 rfl) ?_
  refine zl_tr (r_iload_n d_275_929 rfl) ?_
  refine zl_tr (r_iconst d_275_930 (by decide)) ?_
  refine zl_tr (r_iadd d_275_931) (zl_ck ?_)
  refine zl_tr (r_iaload3 d_275_932) (zl_ck ?_)
  refine zl_tr (r_VI [zm_A 146, zm_I (xs (x3 + 1)), zm_I (xs (x3 + 2))] d_275_933 ow_275 cal_13_121 na_259 rfl rfl (Nat.le_of_ble_eq_true rfl) (by rw [rk_259]; decide) (zr_rcv la_146 ow_259) (zr_im mx_259 rfl (Nat.le_of_ble_eq_true rfl)) (by rw [rt_259]; decide)) (zl_I (fun v3 h4 => ?_))
  refine zl_tr (r_icmp_eq (tgt := 1092) d_275_936 (by decide)) (zl_if ?_ ?_)
  · skip
    refine zl_tr (r_iinc (loc' := [zm_A 3, zm_A 4, zm_A 146, zm_I (x3 + 6)]) d_275_1092 rfl (Nat.le_of_ble_eq_true rfl) rfl) (zl_ck ?_)
    refine zl_tr (r_goto (tgt := 18) d_275_1095 (by decide)) ?_
    exact zl_rf
  · skip
    refine zl_tr (r_iconst d_275_939 (by decide)) ?_
    exact r_zret d_275_940 rt_275
-- BranTubLaw.law, from 941
set_option maxRecDepth 20000 in
theorem e_275_941 {h : zm_H} {x3 : Int} {n : Nat} {xs : Int → Int} : zl (zk_I (zc 46 [zm_A 4] h) (fun v1 h2 => zk_I (zc 260 [zm_A 146] h2) (fun v3 h4 => if v1 = v3 then (zm_ck (zm_i32 (x3 + 6)) (zr (some (n, xs)) 95 275 18 [zm_A 3, zm_A 4, zm_A 146, zm_I (x3 + 6)] [] h4)) else (zm_ck (zm_bit 0) (some (zm_I 0, h4)))))) (zr (some (n, xs)) 95 275 941 [zm_A 3, zm_A 4, zm_A 146, zm_I x3] [] h) := by
  refine zl_tr (r_aload_n d_275_941 rfl) ?_
  refine zl_tr (r_VI [zm_A 4] d_275_942 ow_275 cal_13_122 na_46 rfl rfl (Nat.le_of_ble_eq_true rfl) (by rw [rk_46]; decide) (zr_rcv la_4 ow_46) (zr_im mx_46 rfl (Nat.le_of_ble_eq_true rfl)) (by rw [rt_46]; decide)) (zl_I (fun v1 h2 => ?_))
  refine zl_tr (r_aload_n d_275_945 rfl) ?_
  refine zl_tr (r_VI [zm_A 146] d_275_946 ow_275 cal_13_125 na_260 rfl rfl (Nat.le_of_ble_eq_true rfl) (by rw [rk_260]; decide) (zr_rcv la_146 ow_260) (zr_im mx_260 rfl (Nat.le_of_ble_eq_true rfl)) (by rw [rt_260]; decide)) (zl_I (fun v3 h4 => ?_))
  refine zl_tr (r_icmp_eq (tgt := 1092) d_275_949 (by decide)) (zl_if ?_ ?_)
  · skip
    refine zl_tr (r_iinc (loc' := [zm_A 3, zm_A 4, zm_A 146, zm_I (x3 + 6)]) d_275_1092 rfl (Nat.le_of_ble_eq_true rfl) rfl) (zl_ck ?_)
    refine zl_tr (r_goto (tgt := 18) d_275_1095 (by decide)) ?_
    exact zl_rf
  · skip
    refine zl_tr (r_iconst d_275_952 (by decide)) ?_
    exact r_zret d_275_953 rt_275
-- BranTubLaw.law, from 954
set_option maxRecDepth 20000 in
theorem e_275_954 {h : zm_H} {x3 : Int} {n : Nat} {xs : Int → Int} : zl (zm_ck (zm_i32 (x3 + 1)) (zm_ck (0 ≤ (x3 + 1) ∧ (x3 + 1) < (n : Int)) (zm_ck (zm_i32 (x3 + 2)) (zm_ck (0 ≤ (x3 + 2) ∧ (x3 + 2) < (n : Int)) (zk_I (zc 49 [zm_A 4, zm_I (xs (x3 + 1)), zm_I (xs (x3 + 2))] h) (fun v1 h2 => zm_ck (zm_i32 (x3 + 1)) (zm_ck (0 ≤ (x3 + 1) ∧ (x3 + 1) < (n : Int)) (zm_ck (zm_i32 (x3 + 2)) (zm_ck (0 ≤ (x3 + 2) ∧ (x3 + 2) < (n : Int)) (zk_I (zc 262 [zm_A 146, zm_I (xs (x3 + 1)), zm_I (xs (x3 + 2))] h2) (fun v3 h4 => if v1 = v3 then (zm_ck (zm_i32 (x3 + 6)) (zr (some (n, xs)) 95 275 18 [zm_A 3, zm_A 4, zm_A 146, zm_I (x3 + 6)] [] h4)) else (zm_ck (zm_bit 0) (some (zm_I 0, h4)))))))))))))) (zr (some (n, xs)) 95 275 954 [zm_A 3, zm_A 4, zm_A 146, zm_I x3] [] h) := by
  refine zl_tr (r_aload_n d_275_954 rfl) ?_
  refine zl_tr (r_aload_n d_275_955 rfl) ?_
  refine zl_tr (r_iload_n d_275_956 rfl) ?_
  refine zl_tr (r_iconst d_275_957 (by decide)) ?_
  refine zl_tr (r_iadd d_275_958) (zl_ck ?_)
  refine zl_tr (r_iaload3 d_275_959) (zl_ck ?_)
  refine zl_tr (r_aload_n d_275_960 rfl) ?_
  refine zl_tr (r_iload_n d_275_961 rfl) ?_
  refine zl_tr (r_iconst d_275_962 (by decide)) ?_
  refine zl_tr (r_iadd d_275_963) (zl_ck ?_)
  refine zl_tr (r_iaload3 d_275_964) (zl_ck ?_)
  refine zl_tr (r_VI [zm_A 4, zm_I (xs (x3 + 1)), zm_I (xs (x3 + 2))] d_275_965 ow_275 cal_13_126 na_49 rfl rfl (Nat.le_of_ble_eq_true rfl) (by rw [rk_49]; decide) (zr_rcv la_4 ow_49) (zr_im mx_49 rfl (Nat.le_of_ble_eq_true rfl)) (by rw [rt_49]; decide)) (zl_I (fun v1 h2 => ?_))
  refine zl_tr (r_aload_n d_275_968 rfl) ?_
  refine zl_tr (r_aload_n d_275_969 rfl) ?_
  refine zl_tr (r_iload_n d_275_970 rfl) ?_
  refine zl_tr (r_iconst d_275_971 (by decide)) ?_
  refine zl_tr (r_iadd d_275_972) (zl_ck ?_)
  refine zl_tr (r_iaload3 d_275_973) (zl_ck ?_)
  refine zl_tr (r_aload_n d_275_974 rfl) ?_
  refine zl_tr (r_iload_n d_275_975 rfl) ?_
  refine zl_tr (r_iconst d_275_976 (by decide)) ?_
  refine zl_tr (r_iadd d_275_977) (zl_ck ?_)
  refine zl_tr (r_iaload3 d_275_978) (zl_ck ?_)
  refine zl_tr (r_VI [zm_A 146, zm_I (xs (x3 + 1)), zm_I (xs (x3 + 2))] d_275_979 ow_275 cal_13_129 na_262 rfl rfl (Nat.le_of_ble_eq_true rfl) (by rw [rk_262]; decide) (zr_rcv la_146 ow_262) (zr_im mx_262 rfl (Nat.le_of_ble_eq_true rfl)) (by rw [rt_262]; decide)) (zl_I (fun v3 h4 => ?_))
  refine zl_tr (r_icmp_eq (tgt := 1092) d_275_982 (by decide)) (zl_if ?_ ?_)
  · skip
    refine zl_tr (r_iinc (loc' := [zm_A 3, zm_A 4, zm_A 146, zm_I (x3 + 6)]) d_275_1092 rfl (Nat.le_of_ble_eq_true rfl) rfl) (zl_ck ?_)
    refine zl_tr (r_goto (tgt := 18) d_275_1095 (by decide)) ?_
    exact zl_rf
  · skip
    refine zl_tr (r_iconst d_275_985 (by decide)) ?_
    exact r_zret d_275_986 rt_275
-- BranTubLaw.law, from 987
set_option maxRecDepth 20000 in
theorem e_275_987 {h : zm_H} {x3 : Int} {n : Nat} {xs : Int → Int} : zl (zm_ck (zm_i32 (x3 + 1)) (zm_ck (0 ≤ (x3 + 1) ∧ (x3 + 1) < (n : Int)) (zm_ck (zm_i32 (x3 + 2)) (zm_ck (0 ≤ (x3 + 2) ∧ (x3 + 2) < (n : Int)) (zk_I (zc 50 [zm_A 4, zm_I (xs (x3 + 1)), zm_I (xs (x3 + 2))] h) (fun v1 h2 => zm_ck (zm_i32 (x3 + 1)) (zm_ck (0 ≤ (x3 + 1) ∧ (x3 + 1) < (n : Int)) (zm_ck (zm_i32 (x3 + 2)) (zm_ck (0 ≤ (x3 + 2) ∧ (x3 + 2) < (n : Int)) (zk_I (zc 263 [zm_A 146, zm_I (xs (x3 + 1)), zm_I (xs (x3 + 2))] h2) (fun v3 h4 => if v1 = v3 then (zm_ck (zm_i32 (x3 + 6)) (zr (some (n, xs)) 95 275 18 [zm_A 3, zm_A 4, zm_A 146, zm_I (x3 + 6)] [] h4)) else (zm_ck (zm_bit 0) (some (zm_I 0, h4)))))))))))))) (zr (some (n, xs)) 95 275 987 [zm_A 3, zm_A 4, zm_A 146, zm_I x3] [] h) := by
  refine zl_tr (r_aload_n d_275_987 rfl) ?_
  refine zl_tr (r_aload_n d_275_988 rfl) ?_
  refine zl_tr (r_iload_n d_275_989 rfl) ?_
  refine zl_tr (r_iconst d_275_990 (by decide)) ?_
  refine zl_tr (r_iadd d_275_991) (zl_ck ?_)
  refine zl_tr (r_iaload3 d_275_992) (zl_ck ?_)
  refine zl_tr (r_aload_n d_275_993 rfl) ?_
  refine zl_tr (r_iload_n d_275_994 rfl) ?_
  refine zl_tr (r_iconst d_275_995 (by decide)) ?_
  refine zl_tr (r_iadd d_275_996) (zl_ck ?_)
  refine zl_tr (r_iaload3 d_275_997) (zl_ck ?_)
  refine zl_tr (r_VI [zm_A 4, zm_I (xs (x3 + 1)), zm_I (xs (x3 + 2))] d_275_998 ow_275 cal_13_130 na_50 rfl rfl (Nat.le_of_ble_eq_true rfl) (by rw [rk_50]; decide) (zr_rcv la_4 ow_50) (zr_im mx_50 rfl (Nat.le_of_ble_eq_true rfl)) (by rw [rt_50]; decide)) (zl_I (fun v1 h2 => ?_))
  refine zl_tr (r_aload_n d_275_1001 rfl) ?_
  refine zl_tr (r_aload_n d_275_1002 rfl) ?_
  refine zl_tr (r_iload_n d_275_1003 rfl) ?_
  refine zl_tr (r_iconst d_275_1004 (by decide)) ?_
  refine zl_tr (r_iadd d_275_1005) (zl_ck ?_)
  refine zl_tr (r_iaload3 d_275_1006) (zl_ck ?_)
  refine zl_tr (r_aload_n d_275_1007 rfl) ?_
  refine zl_tr (r_iload_n d_275_1008 rfl) ?_
  refine zl_tr (r_iconst d_275_1009 (by decide)) ?_
  refine zl_tr (r_iadd d_275_1010) (zl_ck ?_)
  refine zl_tr (r_iaload3 d_275_1011) (zl_ck ?_)
  refine zl_tr (r_VI [zm_A 146, zm_I (xs (x3 + 1)), zm_I (xs (x3 + 2))] d_275_1012 ow_275 cal_13_133 na_263 rfl rfl (Nat.le_of_ble_eq_true rfl) (by rw [rk_263]; decide) (zr_rcv la_146 ow_263) (zr_im mx_263 rfl (Nat.le_of_ble_eq_true rfl)) (by rw [rt_263]; decide)) (zl_I (fun v3 h4 => ?_))
  refine zl_tr (r_icmp_eq (tgt := 1092) d_275_1015 (by decide)) (zl_if ?_ ?_)
  · skip
    refine zl_tr (r_iinc (loc' := [zm_A 3, zm_A 4, zm_A 146, zm_I (x3 + 6)]) d_275_1092 rfl (Nat.le_of_ble_eq_true rfl) rfl) (zl_ck ?_)
    refine zl_tr (r_goto (tgt := 18) d_275_1095 (by decide)) ?_
    exact zl_rf
  · skip
    refine zl_tr (r_iconst d_275_1018 (by decide)) ?_
    exact r_zret d_275_1019 rt_275
-- BranTubLaw.law, from 1020
set_option maxRecDepth 20000 in
theorem e_275_1020 {h : zm_H} {x3 : Int} {n : Nat} {xs : Int → Int} : zl (zk_I (zc 51 [zm_A 4] h) (fun v1 h2 => zk_I (zc 268 [zm_A 146] h2) (fun v3 h4 => if v1 = v3 then (zm_ck (zm_i32 (x3 + 6)) (zr (some (n, xs)) 95 275 18 [zm_A 3, zm_A 4, zm_A 146, zm_I (x3 + 6)] [] h4)) else (zm_ck (zm_bit 0) (some (zm_I 0, h4)))))) (zr (some (n, xs)) 95 275 1020 [zm_A 3, zm_A 4, zm_A 146, zm_I x3] [] h) := by
  refine zl_tr (r_aload_n d_275_1020 rfl) ?_
  refine zl_tr (r_VI [zm_A 4] d_275_1021 ow_275 cal_13_134 na_51 rfl rfl (Nat.le_of_ble_eq_true rfl) (by rw [rk_51]; decide) (zr_rcv la_4 ow_51) (zr_im mx_51 rfl (Nat.le_of_ble_eq_true rfl)) (by rw [rt_51]; decide)) (zl_I (fun v1 h2 => ?_))
  refine zl_tr (r_aload_n d_275_1024 rfl) ?_
  refine zl_tr (r_VI [zm_A 146] d_275_1025 ow_275 cal_13_137 na_268 rfl rfl (Nat.le_of_ble_eq_true rfl) (by rw [rk_268]; decide) (zr_rcv la_146 ow_268) (zr_im mx_268 rfl (Nat.le_of_ble_eq_true rfl)) (by rw [rt_268]; decide)) (zl_I (fun v3 h4 => ?_))
  refine zl_tr (r_icmp_eq (tgt := 1092) d_275_1028 (by decide)) (zl_if ?_ ?_)
  · skip
    refine zl_tr (r_iinc (loc' := [zm_A 3, zm_A 4, zm_A 146, zm_I (x3 + 6)]) d_275_1092 rfl (Nat.le_of_ble_eq_true rfl) rfl) (zl_ck ?_)
    refine zl_tr (r_goto (tgt := 18) d_275_1095 (by decide)) ?_
    exact zl_rf
  · skip
    refine zl_tr (r_iconst d_275_1031 (by decide)) ?_
    exact r_zret d_275_1032 rt_275
-- BranTubLaw.law, from 1033
set_option maxRecDepth 20000 in
theorem e_275_1033 {h : zm_H} {x3 : Int} {n : Nat} {xs : Int → Int} : zl (zm_ck (zm_i32 (x3 + 1)) (zm_ck (0 ≤ (x3 + 1) ∧ (x3 + 1) < (n : Int)) (zk_I (zc 52 [zm_A 4, zm_I (xs (x3 + 1))] h) (fun v1 h2 => zm_ck (zm_i32 (x3 + 1)) (zm_ck (0 ≤ (x3 + 1) ∧ (x3 + 1) < (n : Int)) (zk_I (zc 271 [zm_A 146, zm_I (xs (x3 + 1))] h2) (fun v3 h4 => if v1 = v3 then (zm_ck (zm_i32 (x3 + 6)) (zr (some (n, xs)) 95 275 18 [zm_A 3, zm_A 4, zm_A 146, zm_I (x3 + 6)] [] h4)) else (zm_ck (zm_bit 0) (some (zm_I 0, h4)))))))))) (zr (some (n, xs)) 95 275 1033 [zm_A 3, zm_A 4, zm_A 146, zm_I x3] [] h) := by
  refine zl_tr (r_aload_n d_275_1033 rfl) ?_
  refine zl_tr (r_aload_n d_275_1034 rfl) ?_
  refine zl_tr (r_iload_n d_275_1035 rfl) ?_
  refine zl_tr (r_iconst d_275_1036 (by decide)) ?_
  refine zl_tr (r_iadd d_275_1037) (zl_ck ?_)
  refine zl_tr (r_iaload3 d_275_1038) (zl_ck ?_)
  refine zl_tr (r_VI [zm_A 4, zm_I (xs (x3 + 1))] d_275_1039 ow_275 cal_13_138 na_52 rfl rfl (Nat.le_of_ble_eq_true rfl) (by rw [rk_52]; decide) (zr_rcv la_4 ow_52) (zr_im mx_52 rfl (Nat.le_of_ble_eq_true rfl)) (by rw [rt_52]; decide)) (zl_I (fun v1 h2 => ?_))
  refine zl_tr (r_aload_n d_275_1042 rfl) ?_
  refine zl_tr (r_aload_n d_275_1043 rfl) ?_
  refine zl_tr (r_iload_n d_275_1044 rfl) ?_
  refine zl_tr (r_iconst d_275_1045 (by decide)) ?_
  refine zl_tr (r_iadd d_275_1046) (zl_ck ?_)
  refine zl_tr (r_iaload3 d_275_1047) (zl_ck ?_)
  refine zl_tr (r_VI [zm_A 146, zm_I (xs (x3 + 1))] d_275_1048 ow_275 cal_13_141 na_271 rfl rfl (Nat.le_of_ble_eq_true rfl) (by rw [rk_271]; decide) (zr_rcv la_146 ow_271) (zr_im mx_271 rfl (Nat.le_of_ble_eq_true rfl)) (by rw [rt_271]; decide)) (zl_I (fun v3 h4 => ?_))
  refine zl_tr (r_icmp_eq (tgt := 1092) d_275_1051 (by decide)) (zl_if ?_ ?_)
  · skip
    refine zl_tr (r_iinc (loc' := [zm_A 3, zm_A 4, zm_A 146, zm_I (x3 + 6)]) d_275_1092 rfl (Nat.le_of_ble_eq_true rfl) rfl) (zl_ck ?_)
    refine zl_tr (r_goto (tgt := 18) d_275_1095 (by decide)) ?_
    exact zl_rf
  · skip
    refine zl_tr (r_iconst d_275_1054 (by decide)) ?_
    exact r_zret d_275_1055 rt_275
-- BranTubLaw.law, from 1056
set_option maxRecDepth 20000 in
theorem e_275_1056 {h : zm_H} {x3 : Int} {n : Nat} {xs : Int → Int} : zl (zk_I (zc 53 [zm_A 4] h) (fun v1 h2 => zk_I (zc 272 [zm_A 146] h2) (fun v3 h4 => if v1 = v3 then (zm_ck (zm_i32 (x3 + 6)) (zr (some (n, xs)) 95 275 18 [zm_A 3, zm_A 4, zm_A 146, zm_I (x3 + 6)] [] h4)) else (zm_ck (zm_bit 0) (some (zm_I 0, h4)))))) (zr (some (n, xs)) 95 275 1056 [zm_A 3, zm_A 4, zm_A 146, zm_I x3] [] h) := by
  refine zl_tr (r_aload_n d_275_1056 rfl) ?_
  refine zl_tr (r_VI [zm_A 4] d_275_1057 ow_275 cal_13_142 na_53 rfl rfl (Nat.le_of_ble_eq_true rfl) (by rw [rk_53]; decide) (zr_rcv la_4 ow_53) (zr_im mx_53 rfl (Nat.le_of_ble_eq_true rfl)) (by rw [rt_53]; decide)) (zl_I (fun v1 h2 => ?_))
  refine zl_tr (r_aload_n d_275_1060 rfl) ?_
  refine zl_tr (r_VI [zm_A 146] d_275_1061 ow_275 cal_13_145 na_272 rfl rfl (Nat.le_of_ble_eq_true rfl) (by rw [rk_272]; decide) (zr_rcv la_146 ow_272) (zr_im mx_272 rfl (Nat.le_of_ble_eq_true rfl)) (by rw [rt_272]; decide)) (zl_I (fun v3 h4 => ?_))
  refine zl_tr (r_icmp_eq (tgt := 1092) d_275_1064 (by decide)) (zl_if ?_ ?_)
  · skip
    refine zl_tr (r_iinc (loc' := [zm_A 3, zm_A 4, zm_A 146, zm_I (x3 + 6)]) d_275_1092 rfl (Nat.le_of_ble_eq_true rfl) rfl) (zl_ck ?_)
    refine zl_tr (r_goto (tgt := 18) d_275_1095 (by decide)) ?_
    exact zl_rf
  · skip
    refine zl_tr (r_iconst d_275_1067 (by decide)) ?_
    exact r_zret d_275_1068 rt_275
-- BranTubLaw.law, from 1069
set_option maxRecDepth 20000 in
theorem e_275_1069 {h : zm_H} {x3 : Int} {n : Nat} {xs : Int → Int} : zl (zm_ck (zm_i32 (x3 + 1)) (zm_ck (0 ≤ (x3 + 1) ∧ (x3 + 1) < (n : Int)) (zk_I (zc 54 [zm_A 4, zm_I (xs (x3 + 1))] h) (fun v1 h2 => zm_ck (zm_i32 (x3 + 1)) (zm_ck (0 ≤ (x3 + 1) ∧ (x3 + 1) < (n : Int)) (zk_I (zc 199 [zm_A 146, zm_I (xs (x3 + 1))] h2) (fun v3 h4 => if v1 = v3 then (zm_ck (zm_i32 (x3 + 6)) (zr (some (n, xs)) 95 275 18 [zm_A 3, zm_A 4, zm_A 146, zm_I (x3 + 6)] [] h4)) else (zm_ck (zm_bit 0) (some (zm_I 0, h4)))))))))) (zr (some (n, xs)) 95 275 1069 [zm_A 3, zm_A 4, zm_A 146, zm_I x3] [] h) := by
  refine zl_tr (r_aload_n d_275_1069 rfl) ?_
  refine zl_tr (r_aload_n d_275_1070 rfl) ?_
  refine zl_tr (r_iload_n d_275_1071 rfl) ?_
  refine zl_tr (r_iconst d_275_1072 (by decide)) ?_
  refine zl_tr (r_iadd d_275_1073) (zl_ck ?_)
  refine zl_tr (r_iaload3 d_275_1074) (zl_ck ?_)
  refine zl_tr (r_VI [zm_A 4, zm_I (xs (x3 + 1))] d_275_1075 ow_275 cal_13_146 na_54 rfl rfl (Nat.le_of_ble_eq_true rfl) (by rw [rk_54]; decide) (zr_rcv la_4 ow_54) (zr_im mx_54 rfl (Nat.le_of_ble_eq_true rfl)) (by rw [rt_54]; decide)) (zl_I (fun v1 h2 => ?_))
  refine zl_tr (r_aload_n d_275_1078 rfl) ?_
  refine zl_tr (r_aload_n d_275_1079 rfl) ?_
  refine zl_tr (r_iload_n d_275_1080 rfl) ?_
  refine zl_tr (r_iconst d_275_1081 (by decide)) ?_
  refine zl_tr (r_iadd d_275_1082) (zl_ck ?_)
  refine zl_tr (r_iaload3 d_275_1083) (zl_ck ?_)
  refine zl_tr (r_VI [zm_A 146, zm_I (xs (x3 + 1))] d_275_1084 ow_275 cal_13_149 na_199 rfl rfl (Nat.le_of_ble_eq_true rfl) (by rw [rk_199]; decide) (zr_rcv la_146 ow_199) (zr_im mx_199 rfl (Nat.le_of_ble_eq_true rfl)) (by rw [rt_199]; decide)) (zl_I (fun v3 h4 => ?_))
  refine zl_tr (r_icmp_eq (tgt := 1092) d_275_1087 (by decide)) (zl_if ?_ ?_)
  · skip
    refine zl_tr (r_iinc (loc' := [zm_A 3, zm_A 4, zm_A 146, zm_I (x3 + 6)]) d_275_1092 rfl (Nat.le_of_ble_eq_true rfl) rfl) (zl_ck ?_)
    refine zl_tr (r_goto (tgt := 18) d_275_1095 (by decide)) ?_
    exact zl_rf
  · skip
    refine zl_tr (r_iconst d_275_1090 (by decide)) ?_
    exact r_zret d_275_1091 rt_275
