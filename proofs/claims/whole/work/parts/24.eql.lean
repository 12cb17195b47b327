/-! The equations of the instructions. -/
theorem e178_0 : decode (ma_cd 178) 0 = .ok (.new 7, 3) := (congrArg (fun b => decode b 0) cd_178).trans dL_law_0
theorem e178_3 : decode (ma_cd 178) 3 = .ok (.dup, 1) := (congrArg (fun b => decode b 3) cd_178).trans dL_law_3
theorem e178_4 : decode (ma_cd 178) 4 = .ok (.invokespecial 9, 3) := (congrArg (fun b => decode b 4) cd_178).trans dL_law_4
theorem e178_7 : decode (ma_cd 178) 7 = .ok (.astore_n 1, 1) := (congrArg (fun b => decode b 7) cd_178).trans dL_law_7
theorem e178_8 : decode (ma_cd 178) 8 = .ok (.new 10, 3) := (congrArg (fun b => decode b 8) cd_178).trans dL_law_8
theorem e178_11 : decode (ma_cd 178) 11 = .ok (.dup, 1) := (congrArg (fun b => decode b 11) cd_178).trans dL_law_11
theorem e178_12 : decode (ma_cd 178) 12 = .ok (.invokespecial 12, 3) := (congrArg (fun b => decode b 12) cd_178).trans dL_law_12
theorem e178_15 : decode (ma_cd 178) 15 = .ok (.astore_n 2, 1) := (congrArg (fun b => decode b 15) cd_178).trans dL_law_15
theorem e178_16 : decode (ma_cd 178) 16 = .ok (.iconst 0, 1) := (congrArg (fun b => decode b 16) cd_178).trans dL_law_16
theorem e178_17 : decode (ma_cd 178) 17 = .ok (.istore_n 3, 1) := (congrArg (fun b => decode b 17) cd_178).trans dL_law_17
theorem e178_18 : decode (ma_cd 178) 18 = .ok (.iload_n 3, 1) := (congrArg (fun b => decode b 18) cd_178).trans dL_law_18
theorem e178_19 : decode (ma_cd 178) 19 = .ok (.aload_n 0, 1) := (congrArg (fun b => decode b 19) cd_178).trans dL_law_19
theorem e178_20 : decode (ma_cd 178) 20 = .ok (.arraylength, 1) := (congrArg (fun b => decode b 20) cd_178).trans dL_law_20
theorem e178_21 : decode (ma_cd 178) 21 = .ok (.iconst 4, 1) := (congrArg (fun b => decode b 21) cd_178).trans dL_law_21
theorem e178_22 : decode (ma_cd 178) 22 = .ok (.isub, 1) := (congrArg (fun b => decode b 22) cd_178).trans dL_law_22
theorem e178_23 : decode (ma_cd 178) 23 = .ok (.if_icmp .gt 1029, 3) := (congrArg (fun b => decode b 23) cd_178).trans dL_law_23
theorem e178_26 : decode (ma_cd 178) 26 = .ok (.aload_n 0, 1) := (congrArg (fun b => decode b 26) cd_178).trans dL_law_26
theorem e178_27 : decode (ma_cd 178) 27 = .ok (.iload_n 3, 1) := (congrArg (fun b => decode b 27) cd_178).trans dL_law_27
theorem e178_28 : decode (ma_cd 178) 28 = .ok (.iaload, 1) := (congrArg (fun b => decode b 28) cd_178).trans dL_law_28
theorem e178_29 : decode (ma_cd 178) 29 = .ok (.bipush 31, 2) := (congrArg (fun b => decode b 29) cd_178).trans dL_law_29
theorem e178_31 : decode (ma_cd 178) 31 = .ok (.iand, 1) := (congrArg (fun b => decode b 31) cd_178).trans dL_law_31
theorem e178_32 : decode (ma_cd 178) 32 = .ok (.tableswitch 1014 0 29 #[136, 159, 172, 205, 238, 281, 324, 347, 370, 403, 426, 449, 482, 515, 558, 617, 640, 673, 696, 740, 764, 797, 820, 853, 866, 909, 932, 965, 978, 991], 136) := (congrArg (fun b => decode b 32) cd_178).trans dL_law_32
theorem e178_168 : decode (ma_cd 178) 168 = .ok (.aload_n 1, 1) := (congrArg (fun b => decode b 168) cd_178).trans dL_law_168
theorem e178_169 : decode (ma_cd 178) 169 = .ok (.aload_n 0, 1) := (congrArg (fun b => decode b 169) cd_178).trans dL_law_169
theorem e178_170 : decode (ma_cd 178) 170 = .ok (.iload_n 3, 1) := (congrArg (fun b => decode b 170) cd_178).trans dL_law_170
theorem e178_171 : decode (ma_cd 178) 171 = .ok (.iconst 1, 1) := (congrArg (fun b => decode b 171) cd_178).trans dL_law_171
theorem e178_172 : decode (ma_cd 178) 172 = .ok (.iadd, 1) := (congrArg (fun b => decode b 172) cd_178).trans dL_law_172
theorem e178_173 : decode (ma_cd 178) 173 = .ok (.iaload, 1) := (congrArg (fun b => decode b 173) cd_178).trans dL_law_173
theorem e178_174 : decode (ma_cd 178) 174 = .ok (.invokevirtual 13, 3) := (congrArg (fun b => decode b 174) cd_178).trans dL_law_174
theorem e178_177 : decode (ma_cd 178) 177 = .ok (.aload_n 2, 1) := (congrArg (fun b => decode b 177) cd_178).trans dL_law_177
theorem e178_178 : decode (ma_cd 178) 178 = .ok (.aload_n 0, 1) := (congrArg (fun b => decode b 178) cd_178).trans dL_law_178
theorem e178_179 : decode (ma_cd 178) 179 = .ok (.iload_n 3, 1) := (congrArg (fun b => decode b 179) cd_178).trans dL_law_179
theorem e178_180 : decode (ma_cd 178) 180 = .ok (.iconst 1, 1) := (congrArg (fun b => decode b 180) cd_178).trans dL_law_180
theorem e178_181 : decode (ma_cd 178) 181 = .ok (.iadd, 1) := (congrArg (fun b => decode b 181) cd_178).trans dL_law_181
theorem e178_182 : decode (ma_cd 178) 182 = .ok (.iaload, 1) := (congrArg (fun b => decode b 182) cd_178).trans dL_law_182
theorem e178_183 : decode (ma_cd 178) 183 = .ok (.invokevirtual 17, 3) := (congrArg (fun b => decode b 183) cd_178).trans dL_law_183
theorem e178_186 : decode (ma_cd 178) 186 = .ok (.if_icmp .eq 860, 3) := (congrArg (fun b => decode b 186) cd_178).trans dL_law_186
theorem e178_189 : decode (ma_cd 178) 189 = .ok (.iconst 0, 1) := (congrArg (fun b => decode b 189) cd_178).trans dL_law_189
theorem e178_190 : decode (ma_cd 178) 190 = .ok (.ireturn, 1) := (congrArg (fun b => decode b 190) cd_178).trans dL_law_190
theorem e178_191 : decode (ma_cd 178) 191 = .ok (.aload_n 1, 1) := (congrArg (fun b => decode b 191) cd_178).trans dL_law_191
theorem e178_192 : decode (ma_cd 178) 192 = .ok (.invokevirtual 18, 3) := (congrArg (fun b => decode b 192) cd_178).trans dL_law_192
theorem e178_195 : decode (ma_cd 178) 195 = .ok (.aload_n 2, 1) := (congrArg (fun b => decode b 195) cd_178).trans dL_law_195
theorem e178_196 : decode (ma_cd 178) 196 = .ok (.invokevirtual 22, 3) := (congrArg (fun b => decode b 196) cd_178).trans dL_law_196
theorem e178_199 : decode (ma_cd 178) 199 = .ok (.if_icmp .eq 847, 3) := (congrArg (fun b => decode b 199) cd_178).trans dL_law_199
theorem e178_202 : decode (ma_cd 178) 202 = .ok (.iconst 0, 1) := (congrArg (fun b => decode b 202) cd_178).trans dL_law_202
theorem e178_203 : decode (ma_cd 178) 203 = .ok (.ireturn, 1) := (congrArg (fun b => decode b 203) cd_178).trans dL_law_203
theorem e178_204 : decode (ma_cd 178) 204 = .ok (.aload_n 1, 1) := (congrArg (fun b => decode b 204) cd_178).trans dL_law_204
theorem e178_205 : decode (ma_cd 178) 205 = .ok (.aload_n 0, 1) := (congrArg (fun b => decode b 205) cd_178).trans dL_law_205
theorem e178_206 : decode (ma_cd 178) 206 = .ok (.iload_n 3, 1) := (congrArg (fun b => decode b 206) cd_178).trans dL_law_206
theorem e178_207 : decode (ma_cd 178) 207 = .ok (.iconst 1, 1) := (congrArg (fun b => decode b 207) cd_178).trans dL_law_207
theorem e178_208 : decode (ma_cd 178) 208 = .ok (.iadd, 1) := (congrArg (fun b => decode b 208) cd_178).trans dL_law_208
theorem e178_209 : decode (ma_cd 178) 209 = .ok (.iaload, 1) := (congrArg (fun b => decode b 209) cd_178).trans dL_law_209
theorem e178_210 : decode (ma_cd 178) 210 = .ok (.aload_n 0, 1) := (congrArg (fun b => decode b 210) cd_178).trans dL_law_210
theorem e178_211 : decode (ma_cd 178) 211 = .ok (.iload_n 3, 1) := (congrArg (fun b => decode b 211) cd_178).trans dL_law_211
theorem e178_212 : decode (ma_cd 178) 212 = .ok (.iconst 2, 1) := (congrArg (fun b => decode b 212) cd_178).trans dL_law_212
theorem e178_213 : decode (ma_cd 178) 213 = .ok (.iadd, 1) := (congrArg (fun b => decode b 213) cd_178).trans dL_law_213
theorem e178_214 : decode (ma_cd 178) 214 = .ok (.iaload, 1) := (congrArg (fun b => decode b 214) cd_178).trans dL_law_214
theorem e178_215 : decode (ma_cd 178) 215 = .ok (.invokevirtual 23, 3) := (congrArg (fun b => decode b 215) cd_178).trans dL_law_215
theorem e178_218 : decode (ma_cd 178) 218 = .ok (.aload_n 2, 1) := (congrArg (fun b => decode b 218) cd_178).trans dL_law_218
theorem e178_219 : decode (ma_cd 178) 219 = .ok (.aload_n 0, 1) := (congrArg (fun b => decode b 219) cd_178).trans dL_law_219
theorem e178_220 : decode (ma_cd 178) 220 = .ok (.iload_n 3, 1) := (congrArg (fun b => decode b 220) cd_178).trans dL_law_220
theorem e178_221 : decode (ma_cd 178) 221 = .ok (.iconst 1, 1) := (congrArg (fun b => decode b 221) cd_178).trans dL_law_221
theorem e178_222 : decode (ma_cd 178) 222 = .ok (.iadd, 1) := (congrArg (fun b => decode b 222) cd_178).trans dL_law_222
theorem e178_223 : decode (ma_cd 178) 223 = .ok (.iaload, 1) := (congrArg (fun b => decode b 223) cd_178).trans dL_law_223
theorem e178_224 : decode (ma_cd 178) 224 = .ok (.aload_n 0, 1) := (congrArg (fun b => decode b 224) cd_178).trans dL_law_224
theorem e178_225 : decode (ma_cd 178) 225 = .ok (.iload_n 3, 1) := (congrArg (fun b => decode b 225) cd_178).trans dL_law_225
theorem e178_226 : decode (ma_cd 178) 226 = .ok (.iconst 2, 1) := (congrArg (fun b => decode b 226) cd_178).trans dL_law_226
theorem e178_227 : decode (ma_cd 178) 227 = .ok (.iadd, 1) := (congrArg (fun b => decode b 227) cd_178).trans dL_law_227
theorem e178_228 : decode (ma_cd 178) 228 = .ok (.iaload, 1) := (congrArg (fun b => decode b 228) cd_178).trans dL_law_228
theorem e178_229 : decode (ma_cd 178) 229 = .ok (.invokevirtual 27, 3) := (congrArg (fun b => decode b 229) cd_178).trans dL_law_229
theorem e178_232 : decode (ma_cd 178) 232 = .ok (.if_icmp .eq 814, 3) := (congrArg (fun b => decode b 232) cd_178).trans dL_law_232
theorem e178_235 : decode (ma_cd 178) 235 = .ok (.iconst 0, 1) := (congrArg (fun b => decode b 235) cd_178).trans dL_law_235
theorem e178_236 : decode (ma_cd 178) 236 = .ok (.ireturn, 1) := (congrArg (fun b => decode b 236) cd_178).trans dL_law_236
theorem e178_237 : decode (ma_cd 178) 237 = .ok (.aload_n 1, 1) := (congrArg (fun b => decode b 237) cd_178).trans dL_law_237
theorem e178_238 : decode (ma_cd 178) 238 = .ok (.aload_n 0, 1) := (congrArg (fun b => decode b 238) cd_178).trans dL_law_238
theorem e178_239 : decode (ma_cd 178) 239 = .ok (.iload_n 3, 1) := (congrArg (fun b => decode b 239) cd_178).trans dL_law_239
theorem e178_240 : decode (ma_cd 178) 240 = .ok (.iconst 1, 1) := (congrArg (fun b => decode b 240) cd_178).trans dL_law_240
theorem e178_241 : decode (ma_cd 178) 241 = .ok (.iadd, 1) := (congrArg (fun b => decode b 241) cd_178).trans dL_law_241
theorem e178_242 : decode (ma_cd 178) 242 = .ok (.iaload, 1) := (congrArg (fun b => decode b 242) cd_178).trans dL_law_242
theorem e178_243 : decode (ma_cd 178) 243 = .ok (.aload_n 0, 1) := (congrArg (fun b => decode b 243) cd_178).trans dL_law_243
theorem e178_244 : decode (ma_cd 178) 244 = .ok (.iload_n 3, 1) := (congrArg (fun b => decode b 244) cd_178).trans dL_law_244
theorem e178_245 : decode (ma_cd 178) 245 = .ok (.iconst 2, 1) := (congrArg (fun b => decode b 245) cd_178).trans dL_law_245
theorem e178_246 : decode (ma_cd 178) 246 = .ok (.iadd, 1) := (congrArg (fun b => decode b 246) cd_178).trans dL_law_246
theorem e178_247 : decode (ma_cd 178) 247 = .ok (.iaload, 1) := (congrArg (fun b => decode b 247) cd_178).trans dL_law_247
theorem e178_248 : decode (ma_cd 178) 248 = .ok (.invokevirtual 28, 3) := (congrArg (fun b => decode b 248) cd_178).trans dL_law_248
theorem e178_251 : decode (ma_cd 178) 251 = .ok (.aload_n 2, 1) := (congrArg (fun b => decode b 251) cd_178).trans dL_law_251
theorem e178_252 : decode (ma_cd 178) 252 = .ok (.aload_n 0, 1) := (congrArg (fun b => decode b 252) cd_178).trans dL_law_252
theorem e178_253 : decode (ma_cd 178) 253 = .ok (.iload_n 3, 1) := (congrArg (fun b => decode b 253) cd_178).trans dL_law_253
theorem e178_254 : decode (ma_cd 178) 254 = .ok (.iconst 1, 1) := (congrArg (fun b => decode b 254) cd_178).trans dL_law_254
theorem e178_255 : decode (ma_cd 178) 255 = .ok (.iadd, 1) := (congrArg (fun b => decode b 255) cd_178).trans dL_law_255
theorem e178_256 : decode (ma_cd 178) 256 = .ok (.iaload, 1) := (congrArg (fun b => decode b 256) cd_178).trans dL_law_256
theorem e178_257 : decode (ma_cd 178) 257 = .ok (.aload_n 0, 1) := (congrArg (fun b => decode b 257) cd_178).trans dL_law_257
theorem e178_258 : decode (ma_cd 178) 258 = .ok (.iload_n 3, 1) := (congrArg (fun b => decode b 258) cd_178).trans dL_law_258
theorem e178_259 : decode (ma_cd 178) 259 = .ok (.iconst 2, 1) := (congrArg (fun b => decode b 259) cd_178).trans dL_law_259
theorem e178_260 : decode (ma_cd 178) 260 = .ok (.iadd, 1) := (congrArg (fun b => decode b 260) cd_178).trans dL_law_260
theorem e178_261 : decode (ma_cd 178) 261 = .ok (.iaload, 1) := (congrArg (fun b => decode b 261) cd_178).trans dL_law_261
theorem e178_262 : decode (ma_cd 178) 262 = .ok (.invokevirtual 31, 3) := (congrArg (fun b => decode b 262) cd_178).trans dL_law_262
theorem e178_265 : decode (ma_cd 178) 265 = .ok (.if_icmp .eq 781, 3) := (congrArg (fun b => decode b 265) cd_178).trans dL_law_265
theorem e178_268 : decode (ma_cd 178) 268 = .ok (.iconst 0, 1) := (congrArg (fun b => decode b 268) cd_178).trans dL_law_268
theorem e178_269 : decode (ma_cd 178) 269 = .ok (.ireturn, 1) := (congrArg (fun b => decode b 269) cd_178).trans dL_law_269
theorem e178_270 : decode (ma_cd 178) 270 = .ok (.aload_n 1, 1) := (congrArg (fun b => decode b 270) cd_178).trans dL_law_270
theorem e178_271 : decode (ma_cd 178) 271 = .ok (.aload_n 0, 1) := (congrArg (fun b => decode b 271) cd_178).trans dL_law_271
theorem e178_272 : decode (ma_cd 178) 272 = .ok (.iload_n 3, 1) := (congrArg (fun b => decode b 272) cd_178).trans dL_law_272
theorem e178_273 : decode (ma_cd 178) 273 = .ok (.iconst 1, 1) := (congrArg (fun b => decode b 273) cd_178).trans dL_law_273
theorem e178_274 : decode (ma_cd 178) 274 = .ok (.iadd, 1) := (congrArg (fun b => decode b 274) cd_178).trans dL_law_274
theorem e178_275 : decode (ma_cd 178) 275 = .ok (.iaload, 1) := (congrArg (fun b => decode b 275) cd_178).trans dL_law_275
theorem e178_276 : decode (ma_cd 178) 276 = .ok (.aload_n 0, 1) := (congrArg (fun b => decode b 276) cd_178).trans dL_law_276
theorem e178_277 : decode (ma_cd 178) 277 = .ok (.iload_n 3, 1) := (congrArg (fun b => decode b 277) cd_178).trans dL_law_277
theorem e178_278 : decode (ma_cd 178) 278 = .ok (.iconst 2, 1) := (congrArg (fun b => decode b 278) cd_178).trans dL_law_278
theorem e178_279 : decode (ma_cd 178) 279 = .ok (.iadd, 1) := (congrArg (fun b => decode b 279) cd_178).trans dL_law_279
theorem e178_280 : decode (ma_cd 178) 280 = .ok (.iaload, 1) := (congrArg (fun b => decode b 280) cd_178).trans dL_law_280
theorem e178_281 : decode (ma_cd 178) 281 = .ok (.aload_n 0, 1) := (congrArg (fun b => decode b 281) cd_178).trans dL_law_281
theorem e178_282 : decode (ma_cd 178) 282 = .ok (.iload_n 3, 1) := (congrArg (fun b => decode b 282) cd_178).trans dL_law_282
theorem e178_283 : decode (ma_cd 178) 283 = .ok (.iconst 3, 1) := (congrArg (fun b => decode b 283) cd_178).trans dL_law_283
theorem e178_284 : decode (ma_cd 178) 284 = .ok (.iadd, 1) := (congrArg (fun b => decode b 284) cd_178).trans dL_law_284
theorem e178_285 : decode (ma_cd 178) 285 = .ok (.iaload, 1) := (congrArg (fun b => decode b 285) cd_178).trans dL_law_285
theorem e178_286 : decode (ma_cd 178) 286 = .ok (.invokevirtual 32, 3) := (congrArg (fun b => decode b 286) cd_178).trans dL_law_286
theorem e178_289 : decode (ma_cd 178) 289 = .ok (.aload_n 2, 1) := (congrArg (fun b => decode b 289) cd_178).trans dL_law_289
theorem e178_290 : decode (ma_cd 178) 290 = .ok (.aload_n 0, 1) := (congrArg (fun b => decode b 290) cd_178).trans dL_law_290
theorem e178_291 : decode (ma_cd 178) 291 = .ok (.iload_n 3, 1) := (congrArg (fun b => decode b 291) cd_178).trans dL_law_291
theorem e178_292 : decode (ma_cd 178) 292 = .ok (.iconst 1, 1) := (congrArg (fun b => decode b 292) cd_178).trans dL_law_292
theorem e178_293 : decode (ma_cd 178) 293 = .ok (.iadd, 1) := (congrArg (fun b => decode b 293) cd_178).trans dL_law_293
theorem e178_294 : decode (ma_cd 178) 294 = .ok (.iaload, 1) := (congrArg (fun b => decode b 294) cd_178).trans dL_law_294
theorem e178_295 : decode (ma_cd 178) 295 = .ok (.aload_n 0, 1) := (congrArg (fun b => decode b 295) cd_178).trans dL_law_295
theorem e178_296 : decode (ma_cd 178) 296 = .ok (.iload_n 3, 1) := (congrArg (fun b => decode b 296) cd_178).trans dL_law_296
theorem e178_297 : decode (ma_cd 178) 297 = .ok (.iconst 2, 1) := (congrArg (fun b => decode b 297) cd_178).trans dL_law_297
theorem e178_298 : decode (ma_cd 178) 298 = .ok (.iadd, 1) := (congrArg (fun b => decode b 298) cd_178).trans dL_law_298
theorem e178_299 : decode (ma_cd 178) 299 = .ok (.iaload, 1) := (congrArg (fun b => decode b 299) cd_178).trans dL_law_299
theorem e178_300 : decode (ma_cd 178) 300 = .ok (.aload_n 0, 1) := (congrArg (fun b => decode b 300) cd_178).trans dL_law_300
theorem e178_301 : decode (ma_cd 178) 301 = .ok (.iload_n 3, 1) := (congrArg (fun b => decode b 301) cd_178).trans dL_law_301
theorem e178_302 : decode (ma_cd 178) 302 = .ok (.iconst 3, 1) := (congrArg (fun b => decode b 302) cd_178).trans dL_law_302
theorem e178_303 : decode (ma_cd 178) 303 = .ok (.iadd, 1) := (congrArg (fun b => decode b 303) cd_178).trans dL_law_303
theorem e178_304 : decode (ma_cd 178) 304 = .ok (.iaload, 1) := (congrArg (fun b => decode b 304) cd_178).trans dL_law_304
theorem e178_305 : decode (ma_cd 178) 305 = .ok (.invokevirtual 36, 3) := (congrArg (fun b => decode b 305) cd_178).trans dL_law_305
theorem e178_308 : decode (ma_cd 178) 308 = .ok (.if_icmp .eq 738, 3) := (congrArg (fun b => decode b 308) cd_178).trans dL_law_308
theorem e178_311 : decode (ma_cd 178) 311 = .ok (.iconst 0, 1) := (congrArg (fun b => decode b 311) cd_178).trans dL_law_311
theorem e178_312 : decode (ma_cd 178) 312 = .ok (.ireturn, 1) := (congrArg (fun b => decode b 312) cd_178).trans dL_law_312
theorem e178_313 : decode (ma_cd 178) 313 = .ok (.aload_n 1, 1) := (congrArg (fun b => decode b 313) cd_178).trans dL_law_313
theorem e178_314 : decode (ma_cd 178) 314 = .ok (.aload_n 0, 1) := (congrArg (fun b => decode b 314) cd_178).trans dL_law_314
theorem e178_315 : decode (ma_cd 178) 315 = .ok (.iload_n 3, 1) := (congrArg (fun b => decode b 315) cd_178).trans dL_law_315
theorem e178_316 : decode (ma_cd 178) 316 = .ok (.iconst 1, 1) := (congrArg (fun b => decode b 316) cd_178).trans dL_law_316
theorem e178_317 : decode (ma_cd 178) 317 = .ok (.iadd, 1) := (congrArg (fun b => decode b 317) cd_178).trans dL_law_317
theorem e178_318 : decode (ma_cd 178) 318 = .ok (.iaload, 1) := (congrArg (fun b => decode b 318) cd_178).trans dL_law_318
theorem e178_319 : decode (ma_cd 178) 319 = .ok (.aload_n 0, 1) := (congrArg (fun b => decode b 319) cd_178).trans dL_law_319
theorem e178_320 : decode (ma_cd 178) 320 = .ok (.iload_n 3, 1) := (congrArg (fun b => decode b 320) cd_178).trans dL_law_320
theorem e178_321 : decode (ma_cd 178) 321 = .ok (.iconst 2, 1) := (congrArg (fun b => decode b 321) cd_178).trans dL_law_321
theorem e178_322 : decode (ma_cd 178) 322 = .ok (.iadd, 1) := (congrArg (fun b => decode b 322) cd_178).trans dL_law_322
theorem e178_323 : decode (ma_cd 178) 323 = .ok (.iaload, 1) := (congrArg (fun b => decode b 323) cd_178).trans dL_law_323
theorem e178_324 : decode (ma_cd 178) 324 = .ok (.aload_n 0, 1) := (congrArg (fun b => decode b 324) cd_178).trans dL_law_324
theorem e178_325 : decode (ma_cd 178) 325 = .ok (.iload_n 3, 1) := (congrArg (fun b => decode b 325) cd_178).trans dL_law_325
theorem e178_326 : decode (ma_cd 178) 326 = .ok (.iconst 3, 1) := (congrArg (fun b => decode b 326) cd_178).trans dL_law_326
theorem e178_327 : decode (ma_cd 178) 327 = .ok (.iadd, 1) := (congrArg (fun b => decode b 327) cd_178).trans dL_law_327
theorem e178_328 : decode (ma_cd 178) 328 = .ok (.iaload, 1) := (congrArg (fun b => decode b 328) cd_178).trans dL_law_328
theorem e178_329 : decode (ma_cd 178) 329 = .ok (.invokevirtual 37, 3) := (congrArg (fun b => decode b 329) cd_178).trans dL_law_329
theorem e178_332 : decode (ma_cd 178) 332 = .ok (.aload_n 2, 1) := (congrArg (fun b => decode b 332) cd_178).trans dL_law_332
theorem e178_333 : decode (ma_cd 178) 333 = .ok (.aload_n 0, 1) := (congrArg (fun b => decode b 333) cd_178).trans dL_law_333
theorem e178_334 : decode (ma_cd 178) 334 = .ok (.iload_n 3, 1) := (congrArg (fun b => decode b 334) cd_178).trans dL_law_334
theorem e178_335 : decode (ma_cd 178) 335 = .ok (.iconst 1, 1) := (congrArg (fun b => decode b 335) cd_178).trans dL_law_335
theorem e178_336 : decode (ma_cd 178) 336 = .ok (.iadd, 1) := (congrArg (fun b => decode b 336) cd_178).trans dL_law_336
theorem e178_337 : decode (ma_cd 178) 337 = .ok (.iaload, 1) := (congrArg (fun b => decode b 337) cd_178).trans dL_law_337
theorem e178_338 : decode (ma_cd 178) 338 = .ok (.aload_n 0, 1) := (congrArg (fun b => decode b 338) cd_178).trans dL_law_338
theorem e178_339 : decode (ma_cd 178) 339 = .ok (.iload_n 3, 1) := (congrArg (fun b => decode b 339) cd_178).trans dL_law_339
theorem e178_340 : decode (ma_cd 178) 340 = .ok (.iconst 2, 1) := (congrArg (fun b => decode b 340) cd_178).trans dL_law_340
theorem e178_341 : decode (ma_cd 178) 341 = .ok (.iadd, 1) := (congrArg (fun b => decode b 341) cd_178).trans dL_law_341
theorem e178_342 : decode (ma_cd 178) 342 = .ok (.iaload, 1) := (congrArg (fun b => decode b 342) cd_178).trans dL_law_342
theorem e178_343 : decode (ma_cd 178) 343 = .ok (.aload_n 0, 1) := (congrArg (fun b => decode b 343) cd_178).trans dL_law_343
theorem e178_344 : decode (ma_cd 178) 344 = .ok (.iload_n 3, 1) := (congrArg (fun b => decode b 344) cd_178).trans dL_law_344
theorem e178_345 : decode (ma_cd 178) 345 = .ok (.iconst 3, 1) := (congrArg (fun b => decode b 345) cd_178).trans dL_law_345
theorem e178_346 : decode (ma_cd 178) 346 = .ok (.iadd, 1) := (congrArg (fun b => decode b 346) cd_178).trans dL_law_346
theorem e178_347 : decode (ma_cd 178) 347 = .ok (.iaload, 1) := (congrArg (fun b => decode b 347) cd_178).trans dL_law_347
theorem e178_348 : decode (ma_cd 178) 348 = .ok (.invokevirtual 40, 3) := (congrArg (fun b => decode b 348) cd_178).trans dL_law_348
theorem e178_351 : decode (ma_cd 178) 351 = .ok (.if_icmp .eq 695, 3) := (congrArg (fun b => decode b 351) cd_178).trans dL_law_351
theorem e178_354 : decode (ma_cd 178) 354 = .ok (.iconst 0, 1) := (congrArg (fun b => decode b 354) cd_178).trans dL_law_354
theorem e178_355 : decode (ma_cd 178) 355 = .ok (.ireturn, 1) := (congrArg (fun b => decode b 355) cd_178).trans dL_law_355
theorem e178_356 : decode (ma_cd 178) 356 = .ok (.aload_n 1, 1) := (congrArg (fun b => decode b 356) cd_178).trans dL_law_356
theorem e178_357 : decode (ma_cd 178) 357 = .ok (.aload_n 0, 1) := (congrArg (fun b => decode b 357) cd_178).trans dL_law_357
theorem e178_358 : decode (ma_cd 178) 358 = .ok (.iload_n 3, 1) := (congrArg (fun b => decode b 358) cd_178).trans dL_law_358
theorem e178_359 : decode (ma_cd 178) 359 = .ok (.iconst 1, 1) := (congrArg (fun b => decode b 359) cd_178).trans dL_law_359
theorem e178_360 : decode (ma_cd 178) 360 = .ok (.iadd, 1) := (congrArg (fun b => decode b 360) cd_178).trans dL_law_360
theorem e178_361 : decode (ma_cd 178) 361 = .ok (.iaload, 1) := (congrArg (fun b => decode b 361) cd_178).trans dL_law_361
theorem e178_362 : decode (ma_cd 178) 362 = .ok (.invokevirtual 41, 3) := (congrArg (fun b => decode b 362) cd_178).trans dL_law_362
theorem e178_365 : decode (ma_cd 178) 365 = .ok (.aload_n 2, 1) := (congrArg (fun b => decode b 365) cd_178).trans dL_law_365
theorem e178_366 : decode (ma_cd 178) 366 = .ok (.aload_n 0, 1) := (congrArg (fun b => decode b 366) cd_178).trans dL_law_366
theorem e178_367 : decode (ma_cd 178) 367 = .ok (.iload_n 3, 1) := (congrArg (fun b => decode b 367) cd_178).trans dL_law_367
theorem e178_368 : decode (ma_cd 178) 368 = .ok (.iconst 1, 1) := (congrArg (fun b => decode b 368) cd_178).trans dL_law_368
theorem e178_369 : decode (ma_cd 178) 369 = .ok (.iadd, 1) := (congrArg (fun b => decode b 369) cd_178).trans dL_law_369
theorem e178_370 : decode (ma_cd 178) 370 = .ok (.iaload, 1) := (congrArg (fun b => decode b 370) cd_178).trans dL_law_370
theorem e178_371 : decode (ma_cd 178) 371 = .ok (.invokevirtual 44, 3) := (congrArg (fun b => decode b 371) cd_178).trans dL_law_371
theorem e178_374 : decode (ma_cd 178) 374 = .ok (.if_icmp .eq 672, 3) := (congrArg (fun b => decode b 374) cd_178).trans dL_law_374
theorem e178_377 : decode (ma_cd 178) 377 = .ok (.iconst 0, 1) := (congrArg (fun b => decode b 377) cd_178).trans dL_law_377
theorem e178_378 : decode (ma_cd 178) 378 = .ok (.ireturn, 1) := (congrArg (fun b => decode b 378) cd_178).trans dL_law_378
theorem e178_379 : decode (ma_cd 178) 379 = .ok (.aload_n 1, 1) := (congrArg (fun b => decode b 379) cd_178).trans dL_law_379
theorem e178_380 : decode (ma_cd 178) 380 = .ok (.aload_n 0, 1) := (congrArg (fun b => decode b 380) cd_178).trans dL_law_380
theorem e178_381 : decode (ma_cd 178) 381 = .ok (.iload_n 3, 1) := (congrArg (fun b => decode b 381) cd_178).trans dL_law_381
theorem e178_382 : decode (ma_cd 178) 382 = .ok (.iconst 1, 1) := (congrArg (fun b => decode b 382) cd_178).trans dL_law_382
theorem e178_383 : decode (ma_cd 178) 383 = .ok (.iadd, 1) := (congrArg (fun b => decode b 383) cd_178).trans dL_law_383
theorem e178_384 : decode (ma_cd 178) 384 = .ok (.iaload, 1) := (congrArg (fun b => decode b 384) cd_178).trans dL_law_384
theorem e178_385 : decode (ma_cd 178) 385 = .ok (.invokevirtual 45, 3) := (congrArg (fun b => decode b 385) cd_178).trans dL_law_385
theorem e178_388 : decode (ma_cd 178) 388 = .ok (.aload_n 2, 1) := (congrArg (fun b => decode b 388) cd_178).trans dL_law_388
theorem e178_389 : decode (ma_cd 178) 389 = .ok (.aload_n 0, 1) := (congrArg (fun b => decode b 389) cd_178).trans dL_law_389
theorem e178_390 : decode (ma_cd 178) 390 = .ok (.iload_n 3, 1) := (congrArg (fun b => decode b 390) cd_178).trans dL_law_390
theorem e178_391 : decode (ma_cd 178) 391 = .ok (.iconst 1, 1) := (congrArg (fun b => decode b 391) cd_178).trans dL_law_391
theorem e178_392 : decode (ma_cd 178) 392 = .ok (.iadd, 1) := (congrArg (fun b => decode b 392) cd_178).trans dL_law_392
theorem e178_393 : decode (ma_cd 178) 393 = .ok (.iaload, 1) := (congrArg (fun b => decode b 393) cd_178).trans dL_law_393
theorem e178_394 : decode (ma_cd 178) 394 = .ok (.invokevirtual 48, 3) := (congrArg (fun b => decode b 394) cd_178).trans dL_law_394
theorem e178_397 : decode (ma_cd 178) 397 = .ok (.if_icmp .eq 649, 3) := (congrArg (fun b => decode b 397) cd_178).trans dL_law_397
theorem e178_400 : decode (ma_cd 178) 400 = .ok (.iconst 0, 1) := (congrArg (fun b => decode b 400) cd_178).trans dL_law_400
theorem e178_401 : decode (ma_cd 178) 401 = .ok (.ireturn, 1) := (congrArg (fun b => decode b 401) cd_178).trans dL_law_401
theorem e178_402 : decode (ma_cd 178) 402 = .ok (.aload_n 1, 1) := (congrArg (fun b => decode b 402) cd_178).trans dL_law_402
theorem e178_403 : decode (ma_cd 178) 403 = .ok (.aload_n 0, 1) := (congrArg (fun b => decode b 403) cd_178).trans dL_law_403
theorem e178_404 : decode (ma_cd 178) 404 = .ok (.iload_n 3, 1) := (congrArg (fun b => decode b 404) cd_178).trans dL_law_404
theorem e178_405 : decode (ma_cd 178) 405 = .ok (.iconst 1, 1) := (congrArg (fun b => decode b 405) cd_178).trans dL_law_405
theorem e178_406 : decode (ma_cd 178) 406 = .ok (.iadd, 1) := (congrArg (fun b => decode b 406) cd_178).trans dL_law_406
theorem e178_407 : decode (ma_cd 178) 407 = .ok (.iaload, 1) := (congrArg (fun b => decode b 407) cd_178).trans dL_law_407
theorem e178_408 : decode (ma_cd 178) 408 = .ok (.aload_n 0, 1) := (congrArg (fun b => decode b 408) cd_178).trans dL_law_408
theorem e178_409 : decode (ma_cd 178) 409 = .ok (.iload_n 3, 1) := (congrArg (fun b => decode b 409) cd_178).trans dL_law_409
theorem e178_410 : decode (ma_cd 178) 410 = .ok (.iconst 2, 1) := (congrArg (fun b => decode b 410) cd_178).trans dL_law_410
theorem e178_411 : decode (ma_cd 178) 411 = .ok (.iadd, 1) := (congrArg (fun b => decode b 411) cd_178).trans dL_law_411
theorem e178_412 : decode (ma_cd 178) 412 = .ok (.iaload, 1) := (congrArg (fun b => decode b 412) cd_178).trans dL_law_412
theorem e178_413 : decode (ma_cd 178) 413 = .ok (.invokevirtual 49, 3) := (congrArg (fun b => decode b 413) cd_178).trans dL_law_413
theorem e178_416 : decode (ma_cd 178) 416 = .ok (.aload_n 2, 1) := (congrArg (fun b => decode b 416) cd_178).trans dL_law_416
theorem e178_417 : decode (ma_cd 178) 417 = .ok (.aload_n 0, 1) := (congrArg (fun b => decode b 417) cd_178).trans dL_law_417
theorem e178_418 : decode (ma_cd 178) 418 = .ok (.iload_n 3, 1) := (congrArg (fun b => decode b 418) cd_178).trans dL_law_418
theorem e178_419 : decode (ma_cd 178) 419 = .ok (.iconst 1, 1) := (congrArg (fun b => decode b 419) cd_178).trans dL_law_419
theorem e178_420 : decode (ma_cd 178) 420 = .ok (.iadd, 1) := (congrArg (fun b => decode b 420) cd_178).trans dL_law_420
theorem e178_421 : decode (ma_cd 178) 421 = .ok (.iaload, 1) := (congrArg (fun b => decode b 421) cd_178).trans dL_law_421
theorem e178_422 : decode (ma_cd 178) 422 = .ok (.aload_n 0, 1) := (congrArg (fun b => decode b 422) cd_178).trans dL_law_422
theorem e178_423 : decode (ma_cd 178) 423 = .ok (.iload_n 3, 1) := (congrArg (fun b => decode b 423) cd_178).trans dL_law_423
theorem e178_424 : decode (ma_cd 178) 424 = .ok (.iconst 2, 1) := (congrArg (fun b => decode b 424) cd_178).trans dL_law_424
theorem e178_425 : decode (ma_cd 178) 425 = .ok (.iadd, 1) := (congrArg (fun b => decode b 425) cd_178).trans dL_law_425
theorem e178_426 : decode (ma_cd 178) 426 = .ok (.iaload, 1) := (congrArg (fun b => decode b 426) cd_178).trans dL_law_426
theorem e178_427 : decode (ma_cd 178) 427 = .ok (.invokevirtual 52, 3) := (congrArg (fun b => decode b 427) cd_178).trans dL_law_427
theorem e178_430 : decode (ma_cd 178) 430 = .ok (.if_icmp .eq 616, 3) := (congrArg (fun b => decode b 430) cd_178).trans dL_law_430
theorem e178_433 : decode (ma_cd 178) 433 = .ok (.iconst 0, 1) := (congrArg (fun b => decode b 433) cd_178).trans dL_law_433
theorem e178_434 : decode (ma_cd 178) 434 = .ok (.ireturn, 1) := (congrArg (fun b => decode b 434) cd_178).trans dL_law_434
theorem e178_435 : decode (ma_cd 178) 435 = .ok (.aload_n 1, 1) := (congrArg (fun b => decode b 435) cd_178).trans dL_law_435
theorem e178_436 : decode (ma_cd 178) 436 = .ok (.aload_n 0, 1) := (congrArg (fun b => decode b 436) cd_178).trans dL_law_436
theorem e178_437 : decode (ma_cd 178) 437 = .ok (.iload_n 3, 1) := (congrArg (fun b => decode b 437) cd_178).trans dL_law_437
theorem e178_438 : decode (ma_cd 178) 438 = .ok (.iconst 1, 1) := (congrArg (fun b => decode b 438) cd_178).trans dL_law_438
theorem e178_439 : decode (ma_cd 178) 439 = .ok (.iadd, 1) := (congrArg (fun b => decode b 439) cd_178).trans dL_law_439
theorem e178_440 : decode (ma_cd 178) 440 = .ok (.iaload, 1) := (congrArg (fun b => decode b 440) cd_178).trans dL_law_440
theorem e178_441 : decode (ma_cd 178) 441 = .ok (.invokevirtual 53, 3) := (congrArg (fun b => decode b 441) cd_178).trans dL_law_441
theorem e178_444 : decode (ma_cd 178) 444 = .ok (.aload_n 2, 1) := (congrArg (fun b => decode b 444) cd_178).trans dL_law_444
theorem e178_445 : decode (ma_cd 178) 445 = .ok (.aload_n 0, 1) := (congrArg (fun b => decode b 445) cd_178).trans dL_law_445
theorem e178_446 : decode (ma_cd 178) 446 = .ok (.iload_n 3, 1) := (congrArg (fun b => decode b 446) cd_178).trans dL_law_446
theorem e178_447 : decode (ma_cd 178) 447 = .ok (.iconst 1, 1) := (congrArg (fun b => decode b 447) cd_178).trans dL_law_447
theorem e178_448 : decode (ma_cd 178) 448 = .ok (.iadd, 1) := (congrArg (fun b => decode b 448) cd_178).trans dL_law_448
theorem e178_449 : decode (ma_cd 178) 449 = .ok (.iaload, 1) := (congrArg (fun b => decode b 449) cd_178).trans dL_law_449
theorem e178_450 : decode (ma_cd 178) 450 = .ok (.invokevirtual 56, 3) := (congrArg (fun b => decode b 450) cd_178).trans dL_law_450
theorem e178_453 : decode (ma_cd 178) 453 = .ok (.if_icmp .eq 593, 3) := (congrArg (fun b => decode b 453) cd_178).trans dL_law_453
theorem e178_456 : decode (ma_cd 178) 456 = .ok (.iconst 0, 1) := (congrArg (fun b => decode b 456) cd_178).trans dL_law_456
theorem e178_457 : decode (ma_cd 178) 457 = .ok (.ireturn, 1) := (congrArg (fun b => decode b 457) cd_178).trans dL_law_457
theorem e178_458 : decode (ma_cd 178) 458 = .ok (.aload_n 1, 1) := (congrArg (fun b => decode b 458) cd_178).trans dL_law_458
theorem e178_459 : decode (ma_cd 178) 459 = .ok (.aload_n 0, 1) := (congrArg (fun b => decode b 459) cd_178).trans dL_law_459
theorem e178_460 : decode (ma_cd 178) 460 = .ok (.iload_n 3, 1) := (congrArg (fun b => decode b 460) cd_178).trans dL_law_460
theorem e178_461 : decode (ma_cd 178) 461 = .ok (.iconst 1, 1) := (congrArg (fun b => decode b 461) cd_178).trans dL_law_461
theorem e178_462 : decode (ma_cd 178) 462 = .ok (.iadd, 1) := (congrArg (fun b => decode b 462) cd_178).trans dL_law_462
theorem e178_463 : decode (ma_cd 178) 463 = .ok (.iaload, 1) := (congrArg (fun b => decode b 463) cd_178).trans dL_law_463
theorem e178_464 : decode (ma_cd 178) 464 = .ok (.invokevirtual 57, 3) := (congrArg (fun b => decode b 464) cd_178).trans dL_law_464
theorem e178_467 : decode (ma_cd 178) 467 = .ok (.aload_n 2, 1) := (congrArg (fun b => decode b 467) cd_178).trans dL_law_467
theorem e178_468 : decode (ma_cd 178) 468 = .ok (.aload_n 0, 1) := (congrArg (fun b => decode b 468) cd_178).trans dL_law_468
theorem e178_469 : decode (ma_cd 178) 469 = .ok (.iload_n 3, 1) := (congrArg (fun b => decode b 469) cd_178).trans dL_law_469
theorem e178_470 : decode (ma_cd 178) 470 = .ok (.iconst 1, 1) := (congrArg (fun b => decode b 470) cd_178).trans dL_law_470
theorem e178_471 : decode (ma_cd 178) 471 = .ok (.iadd, 1) := (congrArg (fun b => decode b 471) cd_178).trans dL_law_471
theorem e178_472 : decode (ma_cd 178) 472 = .ok (.iaload, 1) := (congrArg (fun b => decode b 472) cd_178).trans dL_law_472
theorem e178_473 : decode (ma_cd 178) 473 = .ok (.invokevirtual 60, 3) := (congrArg (fun b => decode b 473) cd_178).trans dL_law_473
theorem e178_476 : decode (ma_cd 178) 476 = .ok (.if_icmp .eq 570, 3) := (congrArg (fun b => decode b 476) cd_178).trans dL_law_476
theorem e178_479 : decode (ma_cd 178) 479 = .ok (.iconst 0, 1) := (congrArg (fun b => decode b 479) cd_178).trans dL_law_479
theorem e178_480 : decode (ma_cd 178) 480 = .ok (.ireturn, 1) := (congrArg (fun b => decode b 480) cd_178).trans dL_law_480
theorem e178_481 : decode (ma_cd 178) 481 = .ok (.aload_n 1, 1) := (congrArg (fun b => decode b 481) cd_178).trans dL_law_481
theorem e178_482 : decode (ma_cd 178) 482 = .ok (.aload_n 0, 1) := (congrArg (fun b => decode b 482) cd_178).trans dL_law_482
theorem e178_483 : decode (ma_cd 178) 483 = .ok (.iload_n 3, 1) := (congrArg (fun b => decode b 483) cd_178).trans dL_law_483
theorem e178_484 : decode (ma_cd 178) 484 = .ok (.iconst 1, 1) := (congrArg (fun b => decode b 484) cd_178).trans dL_law_484
theorem e178_485 : decode (ma_cd 178) 485 = .ok (.iadd, 1) := (congrArg (fun b => decode b 485) cd_178).trans dL_law_485
theorem e178_486 : decode (ma_cd 178) 486 = .ok (.iaload, 1) := (congrArg (fun b => decode b 486) cd_178).trans dL_law_486
theorem e178_487 : decode (ma_cd 178) 487 = .ok (.aload_n 0, 1) := (congrArg (fun b => decode b 487) cd_178).trans dL_law_487
theorem e178_488 : decode (ma_cd 178) 488 = .ok (.iload_n 3, 1) := (congrArg (fun b => decode b 488) cd_178).trans dL_law_488
theorem e178_489 : decode (ma_cd 178) 489 = .ok (.iconst 2, 1) := (congrArg (fun b => decode b 489) cd_178).trans dL_law_489
theorem e178_490 : decode (ma_cd 178) 490 = .ok (.iadd, 1) := (congrArg (fun b => decode b 490) cd_178).trans dL_law_490
theorem e178_491 : decode (ma_cd 178) 491 = .ok (.iaload, 1) := (congrArg (fun b => decode b 491) cd_178).trans dL_law_491
theorem e178_492 : decode (ma_cd 178) 492 = .ok (.invokevirtual 61, 3) := (congrArg (fun b => decode b 492) cd_178).trans dL_law_492
theorem e178_495 : decode (ma_cd 178) 495 = .ok (.aload_n 2, 1) := (congrArg (fun b => decode b 495) cd_178).trans dL_law_495
theorem e178_496 : decode (ma_cd 178) 496 = .ok (.aload_n 0, 1) := (congrArg (fun b => decode b 496) cd_178).trans dL_law_496
theorem e178_497 : decode (ma_cd 178) 497 = .ok (.iload_n 3, 1) := (congrArg (fun b => decode b 497) cd_178).trans dL_law_497
theorem e178_498 : decode (ma_cd 178) 498 = .ok (.iconst 1, 1) := (congrArg (fun b => decode b 498) cd_178).trans dL_law_498
theorem e178_499 : decode (ma_cd 178) 499 = .ok (.iadd, 1) := (congrArg (fun b => decode b 499) cd_178).trans dL_law_499
theorem e178_500 : decode (ma_cd 178) 500 = .ok (.iaload, 1) := (congrArg (fun b => decode b 500) cd_178).trans dL_law_500
theorem e178_501 : decode (ma_cd 178) 501 = .ok (.aload_n 0, 1) := (congrArg (fun b => decode b 501) cd_178).trans dL_law_501
theorem e178_502 : decode (ma_cd 178) 502 = .ok (.iload_n 3, 1) := (congrArg (fun b => decode b 502) cd_178).trans dL_law_502
theorem e178_503 : decode (ma_cd 178) 503 = .ok (.iconst 2, 1) := (congrArg (fun b => decode b 503) cd_178).trans dL_law_503
theorem e178_504 : decode (ma_cd 178) 504 = .ok (.iadd, 1) := (congrArg (fun b => decode b 504) cd_178).trans dL_law_504
theorem e178_505 : decode (ma_cd 178) 505 = .ok (.iaload, 1) := (congrArg (fun b => decode b 505) cd_178).trans dL_law_505
theorem e178_506 : decode (ma_cd 178) 506 = .ok (.invokevirtual 64, 3) := (congrArg (fun b => decode b 506) cd_178).trans dL_law_506
theorem e178_509 : decode (ma_cd 178) 509 = .ok (.if_icmp .eq 537, 3) := (congrArg (fun b => decode b 509) cd_178).trans dL_law_509
theorem e178_512 : decode (ma_cd 178) 512 = .ok (.iconst 0, 1) := (congrArg (fun b => decode b 512) cd_178).trans dL_law_512
theorem e178_513 : decode (ma_cd 178) 513 = .ok (.ireturn, 1) := (congrArg (fun b => decode b 513) cd_178).trans dL_law_513
theorem e178_514 : decode (ma_cd 178) 514 = .ok (.aload_n 1, 1) := (congrArg (fun b => decode b 514) cd_178).trans dL_law_514
theorem e178_515 : decode (ma_cd 178) 515 = .ok (.aload_n 0, 1) := (congrArg (fun b => decode b 515) cd_178).trans dL_law_515
theorem e178_516 : decode (ma_cd 178) 516 = .ok (.iload_n 3, 1) := (congrArg (fun b => decode b 516) cd_178).trans dL_law_516
theorem e178_517 : decode (ma_cd 178) 517 = .ok (.iconst 1, 1) := (congrArg (fun b => decode b 517) cd_178).trans dL_law_517
theorem e178_518 : decode (ma_cd 178) 518 = .ok (.iadd, 1) := (congrArg (fun b => decode b 518) cd_178).trans dL_law_518
theorem e178_519 : decode (ma_cd 178) 519 = .ok (.iaload, 1) := (congrArg (fun b => decode b 519) cd_178).trans dL_law_519
theorem e178_520 : decode (ma_cd 178) 520 = .ok (.aload_n 0, 1) := (congrArg (fun b => decode b 520) cd_178).trans dL_law_520
theorem e178_521 : decode (ma_cd 178) 521 = .ok (.iload_n 3, 1) := (congrArg (fun b => decode b 521) cd_178).trans dL_law_521
theorem e178_522 : decode (ma_cd 178) 522 = .ok (.iconst 2, 1) := (congrArg (fun b => decode b 522) cd_178).trans dL_law_522
theorem e178_523 : decode (ma_cd 178) 523 = .ok (.iadd, 1) := (congrArg (fun b => decode b 523) cd_178).trans dL_law_523
theorem e178_524 : decode (ma_cd 178) 524 = .ok (.iaload, 1) := (congrArg (fun b => decode b 524) cd_178).trans dL_law_524
theorem e178_525 : decode (ma_cd 178) 525 = .ok (.invokevirtual 65, 3) := (congrArg (fun b => decode b 525) cd_178).trans dL_law_525
theorem e178_528 : decode (ma_cd 178) 528 = .ok (.aload_n 2, 1) := (congrArg (fun b => decode b 528) cd_178).trans dL_law_528
theorem e178_529 : decode (ma_cd 178) 529 = .ok (.aload_n 0, 1) := (congrArg (fun b => decode b 529) cd_178).trans dL_law_529
theorem e178_530 : decode (ma_cd 178) 530 = .ok (.iload_n 3, 1) := (congrArg (fun b => decode b 530) cd_178).trans dL_law_530
theorem e178_531 : decode (ma_cd 178) 531 = .ok (.iconst 1, 1) := (congrArg (fun b => decode b 531) cd_178).trans dL_law_531
theorem e178_532 : decode (ma_cd 178) 532 = .ok (.iadd, 1) := (congrArg (fun b => decode b 532) cd_178).trans dL_law_532
theorem e178_533 : decode (ma_cd 178) 533 = .ok (.iaload, 1) := (congrArg (fun b => decode b 533) cd_178).trans dL_law_533
theorem e178_534 : decode (ma_cd 178) 534 = .ok (.aload_n 0, 1) := (congrArg (fun b => decode b 534) cd_178).trans dL_law_534
theorem e178_535 : decode (ma_cd 178) 535 = .ok (.iload_n 3, 1) := (congrArg (fun b => decode b 535) cd_178).trans dL_law_535
theorem e178_536 : decode (ma_cd 178) 536 = .ok (.iconst 2, 1) := (congrArg (fun b => decode b 536) cd_178).trans dL_law_536
theorem e178_537 : decode (ma_cd 178) 537 = .ok (.iadd, 1) := (congrArg (fun b => decode b 537) cd_178).trans dL_law_537
theorem e178_538 : decode (ma_cd 178) 538 = .ok (.iaload, 1) := (congrArg (fun b => decode b 538) cd_178).trans dL_law_538
theorem e178_539 : decode (ma_cd 178) 539 = .ok (.invokevirtual 68, 3) := (congrArg (fun b => decode b 539) cd_178).trans dL_law_539
theorem e178_542 : decode (ma_cd 178) 542 = .ok (.if_icmp .eq 504, 3) := (congrArg (fun b => decode b 542) cd_178).trans dL_law_542
theorem e178_545 : decode (ma_cd 178) 545 = .ok (.iconst 0, 1) := (congrArg (fun b => decode b 545) cd_178).trans dL_law_545
theorem e178_546 : decode (ma_cd 178) 546 = .ok (.ireturn, 1) := (congrArg (fun b => decode b 546) cd_178).trans dL_law_546
theorem e178_547 : decode (ma_cd 178) 547 = .ok (.aload_n 1, 1) := (congrArg (fun b => decode b 547) cd_178).trans dL_law_547
theorem e178_548 : decode (ma_cd 178) 548 = .ok (.aload_n 0, 1) := (congrArg (fun b => decode b 548) cd_178).trans dL_law_548
theorem e178_549 : decode (ma_cd 178) 549 = .ok (.iload_n 3, 1) := (congrArg (fun b => decode b 549) cd_178).trans dL_law_549
theorem e178_550 : decode (ma_cd 178) 550 = .ok (.iconst 1, 1) := (congrArg (fun b => decode b 550) cd_178).trans dL_law_550
theorem e178_551 : decode (ma_cd 178) 551 = .ok (.iadd, 1) := (congrArg (fun b => decode b 551) cd_178).trans dL_law_551
theorem e178_552 : decode (ma_cd 178) 552 = .ok (.iaload, 1) := (congrArg (fun b => decode b 552) cd_178).trans dL_law_552
theorem e178_553 : decode (ma_cd 178) 553 = .ok (.aload_n 0, 1) := (congrArg (fun b => decode b 553) cd_178).trans dL_law_553
theorem e178_554 : decode (ma_cd 178) 554 = .ok (.iload_n 3, 1) := (congrArg (fun b => decode b 554) cd_178).trans dL_law_554
theorem e178_555 : decode (ma_cd 178) 555 = .ok (.iconst 2, 1) := (congrArg (fun b => decode b 555) cd_178).trans dL_law_555
theorem e178_556 : decode (ma_cd 178) 556 = .ok (.iadd, 1) := (congrArg (fun b => decode b 556) cd_178).trans dL_law_556
theorem e178_557 : decode (ma_cd 178) 557 = .ok (.iaload, 1) := (congrArg (fun b => decode b 557) cd_178).trans dL_law_557
theorem e178_558 : decode (ma_cd 178) 558 = .ok (.aload_n 0, 1) := (congrArg (fun b => decode b 558) cd_178).trans dL_law_558
theorem e178_559 : decode (ma_cd 178) 559 = .ok (.iload_n 3, 1) := (congrArg (fun b => decode b 559) cd_178).trans dL_law_559
theorem e178_560 : decode (ma_cd 178) 560 = .ok (.iconst 3, 1) := (congrArg (fun b => decode b 560) cd_178).trans dL_law_560
theorem e178_561 : decode (ma_cd 178) 561 = .ok (.iadd, 1) := (congrArg (fun b => decode b 561) cd_178).trans dL_law_561
theorem e178_562 : decode (ma_cd 178) 562 = .ok (.iaload, 1) := (congrArg (fun b => decode b 562) cd_178).trans dL_law_562
theorem e178_563 : decode (ma_cd 178) 563 = .ok (.invokevirtual 69, 3) := (congrArg (fun b => decode b 563) cd_178).trans dL_law_563
theorem e178_566 : decode (ma_cd 178) 566 = .ok (.aload_n 2, 1) := (congrArg (fun b => decode b 566) cd_178).trans dL_law_566
theorem e178_567 : decode (ma_cd 178) 567 = .ok (.aload_n 0, 1) := (congrArg (fun b => decode b 567) cd_178).trans dL_law_567
theorem e178_568 : decode (ma_cd 178) 568 = .ok (.iload_n 3, 1) := (congrArg (fun b => decode b 568) cd_178).trans dL_law_568
theorem e178_569 : decode (ma_cd 178) 569 = .ok (.iconst 1, 1) := (congrArg (fun b => decode b 569) cd_178).trans dL_law_569
theorem e178_570 : decode (ma_cd 178) 570 = .ok (.iadd, 1) := (congrArg (fun b => decode b 570) cd_178).trans dL_law_570
theorem e178_571 : decode (ma_cd 178) 571 = .ok (.iaload, 1) := (congrArg (fun b => decode b 571) cd_178).trans dL_law_571
theorem e178_572 : decode (ma_cd 178) 572 = .ok (.aload_n 0, 1) := (congrArg (fun b => decode b 572) cd_178).trans dL_law_572
theorem e178_573 : decode (ma_cd 178) 573 = .ok (.iload_n 3, 1) := (congrArg (fun b => decode b 573) cd_178).trans dL_law_573
theorem e178_574 : decode (ma_cd 178) 574 = .ok (.iconst 2, 1) := (congrArg (fun b => decode b 574) cd_178).trans dL_law_574
theorem e178_575 : decode (ma_cd 178) 575 = .ok (.iadd, 1) := (congrArg (fun b => decode b 575) cd_178).trans dL_law_575
theorem e178_576 : decode (ma_cd 178) 576 = .ok (.iaload, 1) := (congrArg (fun b => decode b 576) cd_178).trans dL_law_576
theorem e178_577 : decode (ma_cd 178) 577 = .ok (.aload_n 0, 1) := (congrArg (fun b => decode b 577) cd_178).trans dL_law_577
theorem e178_578 : decode (ma_cd 178) 578 = .ok (.iload_n 3, 1) := (congrArg (fun b => decode b 578) cd_178).trans dL_law_578
theorem e178_579 : decode (ma_cd 178) 579 = .ok (.iconst 3, 1) := (congrArg (fun b => decode b 579) cd_178).trans dL_law_579
theorem e178_580 : decode (ma_cd 178) 580 = .ok (.iadd, 1) := (congrArg (fun b => decode b 580) cd_178).trans dL_law_580
theorem e178_581 : decode (ma_cd 178) 581 = .ok (.iaload, 1) := (congrArg (fun b => decode b 581) cd_178).trans dL_law_581
theorem e178_582 : decode (ma_cd 178) 582 = .ok (.invokevirtual 72, 3) := (congrArg (fun b => decode b 582) cd_178).trans dL_law_582
theorem e178_585 : decode (ma_cd 178) 585 = .ok (.if_icmp .eq 461, 3) := (congrArg (fun b => decode b 585) cd_178).trans dL_law_585
theorem e178_588 : decode (ma_cd 178) 588 = .ok (.iconst 0, 1) := (congrArg (fun b => decode b 588) cd_178).trans dL_law_588
theorem e178_589 : decode (ma_cd 178) 589 = .ok (.ireturn, 1) := (congrArg (fun b => decode b 589) cd_178).trans dL_law_589
theorem e178_590 : decode (ma_cd 178) 590 = .ok (.aload_n 1, 1) := (congrArg (fun b => decode b 590) cd_178).trans dL_law_590
theorem e178_591 : decode (ma_cd 178) 591 = .ok (.aload_n 0, 1) := (congrArg (fun b => decode b 591) cd_178).trans dL_law_591
theorem e178_592 : decode (ma_cd 178) 592 = .ok (.iload_n 3, 1) := (congrArg (fun b => decode b 592) cd_178).trans dL_law_592
theorem e178_593 : decode (ma_cd 178) 593 = .ok (.iconst 1, 1) := (congrArg (fun b => decode b 593) cd_178).trans dL_law_593
theorem e178_594 : decode (ma_cd 178) 594 = .ok (.iadd, 1) := (congrArg (fun b => decode b 594) cd_178).trans dL_law_594
theorem e178_595 : decode (ma_cd 178) 595 = .ok (.iaload, 1) := (congrArg (fun b => decode b 595) cd_178).trans dL_law_595
theorem e178_596 : decode (ma_cd 178) 596 = .ok (.aload_n 0, 1) := (congrArg (fun b => decode b 596) cd_178).trans dL_law_596
theorem e178_597 : decode (ma_cd 178) 597 = .ok (.iload_n 3, 1) := (congrArg (fun b => decode b 597) cd_178).trans dL_law_597
theorem e178_598 : decode (ma_cd 178) 598 = .ok (.iconst 2, 1) := (congrArg (fun b => decode b 598) cd_178).trans dL_law_598
theorem e178_599 : decode (ma_cd 178) 599 = .ok (.iadd, 1) := (congrArg (fun b => decode b 599) cd_178).trans dL_law_599
theorem e178_600 : decode (ma_cd 178) 600 = .ok (.iaload, 1) := (congrArg (fun b => decode b 600) cd_178).trans dL_law_600
theorem e178_601 : decode (ma_cd 178) 601 = .ok (.aload_n 0, 1) := (congrArg (fun b => decode b 601) cd_178).trans dL_law_601
theorem e178_602 : decode (ma_cd 178) 602 = .ok (.iload_n 3, 1) := (congrArg (fun b => decode b 602) cd_178).trans dL_law_602
theorem e178_603 : decode (ma_cd 178) 603 = .ok (.iconst 3, 1) := (congrArg (fun b => decode b 603) cd_178).trans dL_law_603
theorem e178_604 : decode (ma_cd 178) 604 = .ok (.iadd, 1) := (congrArg (fun b => decode b 604) cd_178).trans dL_law_604
theorem e178_605 : decode (ma_cd 178) 605 = .ok (.iaload, 1) := (congrArg (fun b => decode b 605) cd_178).trans dL_law_605
theorem e178_606 : decode (ma_cd 178) 606 = .ok (.ifCond .eq 7, 3) := (congrArg (fun b => decode b 606) cd_178).trans dL_law_606
theorem e178_609 : decode (ma_cd 178) 609 = .ok (.iconst 1, 1) := (congrArg (fun b => decode b 609) cd_178).trans dL_law_609
theorem e178_610 : decode (ma_cd 178) 610 = .ok (.goto 4, 3) := (congrArg (fun b => decode b 610) cd_178).trans dL_law_610
theorem e178_613 : decode (ma_cd 178) 613 = .ok (.iconst 0, 1) := (congrArg (fun b => decode b 613) cd_178).trans dL_law_613
theorem e178_614 : decode (ma_cd 178) 614 = .ok (.invokevirtual 73, 3) := (congrArg (fun b => decode b 614) cd_178).trans dL_law_614
theorem e178_617 : decode (ma_cd 178) 617 = .ok (.aload_n 2, 1) := (congrArg (fun b => decode b 617) cd_178).trans dL_law_617
theorem e178_618 : decode (ma_cd 178) 618 = .ok (.aload_n 0, 1) := (congrArg (fun b => decode b 618) cd_178).trans dL_law_618
theorem e178_619 : decode (ma_cd 178) 619 = .ok (.iload_n 3, 1) := (congrArg (fun b => decode b 619) cd_178).trans dL_law_619
theorem e178_620 : decode (ma_cd 178) 620 = .ok (.iconst 1, 1) := (congrArg (fun b => decode b 620) cd_178).trans dL_law_620
theorem e178_621 : decode (ma_cd 178) 621 = .ok (.iadd, 1) := (congrArg (fun b => decode b 621) cd_178).trans dL_law_621
theorem e178_622 : decode (ma_cd 178) 622 = .ok (.iaload, 1) := (congrArg (fun b => decode b 622) cd_178).trans dL_law_622
theorem e178_623 : decode (ma_cd 178) 623 = .ok (.aload_n 0, 1) := (congrArg (fun b => decode b 623) cd_178).trans dL_law_623
theorem e178_624 : decode (ma_cd 178) 624 = .ok (.iload_n 3, 1) := (congrArg (fun b => decode b 624) cd_178).trans dL_law_624
theorem e178_625 : decode (ma_cd 178) 625 = .ok (.iconst 2, 1) := (congrArg (fun b => decode b 625) cd_178).trans dL_law_625
theorem e178_626 : decode (ma_cd 178) 626 = .ok (.iadd, 1) := (congrArg (fun b => decode b 626) cd_178).trans dL_law_626
theorem e178_627 : decode (ma_cd 178) 627 = .ok (.iaload, 1) := (congrArg (fun b => decode b 627) cd_178).trans dL_law_627
theorem e178_628 : decode (ma_cd 178) 628 = .ok (.aload_n 0, 1) := (congrArg (fun b => decode b 628) cd_178).trans dL_law_628
theorem e178_629 : decode (ma_cd 178) 629 = .ok (.iload_n 3, 1) := (congrArg (fun b => decode b 629) cd_178).trans dL_law_629
theorem e178_630 : decode (ma_cd 178) 630 = .ok (.iconst 3, 1) := (congrArg (fun b => decode b 630) cd_178).trans dL_law_630
theorem e178_631 : decode (ma_cd 178) 631 = .ok (.iadd, 1) := (congrArg (fun b => decode b 631) cd_178).trans dL_law_631
theorem e178_632 : decode (ma_cd 178) 632 = .ok (.iaload, 1) := (congrArg (fun b => decode b 632) cd_178).trans dL_law_632
theorem e178_633 : decode (ma_cd 178) 633 = .ok (.ifCond .eq 7, 3) := (congrArg (fun b => decode b 633) cd_178).trans dL_law_633
theorem e178_636 : decode (ma_cd 178) 636 = .ok (.iconst 1, 1) := (congrArg (fun b => decode b 636) cd_178).trans dL_law_636
theorem e178_637 : decode (ma_cd 178) 637 = .ok (.goto 4, 3) := (congrArg (fun b => decode b 637) cd_178).trans dL_law_637
theorem e178_640 : decode (ma_cd 178) 640 = .ok (.iconst 0, 1) := (congrArg (fun b => decode b 640) cd_178).trans dL_law_640
theorem e178_641 : decode (ma_cd 178) 641 = .ok (.invokevirtual 77, 3) := (congrArg (fun b => decode b 641) cd_178).trans dL_law_641
theorem e178_644 : decode (ma_cd 178) 644 = .ok (.if_icmp .eq 402, 3) := (congrArg (fun b => decode b 644) cd_178).trans dL_law_644
theorem e178_647 : decode (ma_cd 178) 647 = .ok (.iconst 0, 1) := (congrArg (fun b => decode b 647) cd_178).trans dL_law_647
theorem e178_648 : decode (ma_cd 178) 648 = .ok (.ireturn, 1) := (congrArg (fun b => decode b 648) cd_178).trans dL_law_648
theorem e178_649 : decode (ma_cd 178) 649 = .ok (.aload_n 1, 1) := (congrArg (fun b => decode b 649) cd_178).trans dL_law_649
theorem e178_650 : decode (ma_cd 178) 650 = .ok (.aload_n 0, 1) := (congrArg (fun b => decode b 650) cd_178).trans dL_law_650
theorem e178_651 : decode (ma_cd 178) 651 = .ok (.iload_n 3, 1) := (congrArg (fun b => decode b 651) cd_178).trans dL_law_651
theorem e178_652 : decode (ma_cd 178) 652 = .ok (.iconst 1, 1) := (congrArg (fun b => decode b 652) cd_178).trans dL_law_652
theorem e178_653 : decode (ma_cd 178) 653 = .ok (.iadd, 1) := (congrArg (fun b => decode b 653) cd_178).trans dL_law_653
theorem e178_654 : decode (ma_cd 178) 654 = .ok (.iaload, 1) := (congrArg (fun b => decode b 654) cd_178).trans dL_law_654
theorem e178_655 : decode (ma_cd 178) 655 = .ok (.invokevirtual 78, 3) := (congrArg (fun b => decode b 655) cd_178).trans dL_law_655
theorem e178_658 : decode (ma_cd 178) 658 = .ok (.aload_n 2, 1) := (congrArg (fun b => decode b 658) cd_178).trans dL_law_658
theorem e178_659 : decode (ma_cd 178) 659 = .ok (.aload_n 0, 1) := (congrArg (fun b => decode b 659) cd_178).trans dL_law_659
theorem e178_660 : decode (ma_cd 178) 660 = .ok (.iload_n 3, 1) := (congrArg (fun b => decode b 660) cd_178).trans dL_law_660
theorem e178_661 : decode (ma_cd 178) 661 = .ok (.iconst 1, 1) := (congrArg (fun b => decode b 661) cd_178).trans dL_law_661
theorem e178_662 : decode (ma_cd 178) 662 = .ok (.iadd, 1) := (congrArg (fun b => decode b 662) cd_178).trans dL_law_662
theorem e178_663 : decode (ma_cd 178) 663 = .ok (.iaload, 1) := (congrArg (fun b => decode b 663) cd_178).trans dL_law_663
theorem e178_664 : decode (ma_cd 178) 664 = .ok (.invokevirtual 81, 3) := (congrArg (fun b => decode b 664) cd_178).trans dL_law_664
theorem e178_667 : decode (ma_cd 178) 667 = .ok (.if_icmp .eq 379, 3) := (congrArg (fun b => decode b 667) cd_178).trans dL_law_667
theorem e178_670 : decode (ma_cd 178) 670 = .ok (.iconst 0, 1) := (congrArg (fun b => decode b 670) cd_178).trans dL_law_670
theorem e178_671 : decode (ma_cd 178) 671 = .ok (.ireturn, 1) := (congrArg (fun b => decode b 671) cd_178).trans dL_law_671
theorem e178_672 : decode (ma_cd 178) 672 = .ok (.aload_n 1, 1) := (congrArg (fun b => decode b 672) cd_178).trans dL_law_672
theorem e178_673 : decode (ma_cd 178) 673 = .ok (.aload_n 0, 1) := (congrArg (fun b => decode b 673) cd_178).trans dL_law_673
theorem e178_674 : decode (ma_cd 178) 674 = .ok (.iload_n 3, 1) := (congrArg (fun b => decode b 674) cd_178).trans dL_law_674
theorem e178_675 : decode (ma_cd 178) 675 = .ok (.iconst 1, 1) := (congrArg (fun b => decode b 675) cd_178).trans dL_law_675
theorem e178_676 : decode (ma_cd 178) 676 = .ok (.iadd, 1) := (congrArg (fun b => decode b 676) cd_178).trans dL_law_676
theorem e178_677 : decode (ma_cd 178) 677 = .ok (.iaload, 1) := (congrArg (fun b => decode b 677) cd_178).trans dL_law_677
theorem e178_678 : decode (ma_cd 178) 678 = .ok (.aload_n 0, 1) := (congrArg (fun b => decode b 678) cd_178).trans dL_law_678
theorem e178_679 : decode (ma_cd 178) 679 = .ok (.iload_n 3, 1) := (congrArg (fun b => decode b 679) cd_178).trans dL_law_679
theorem e178_680 : decode (ma_cd 178) 680 = .ok (.iconst 2, 1) := (congrArg (fun b => decode b 680) cd_178).trans dL_law_680
theorem e178_681 : decode (ma_cd 178) 681 = .ok (.iadd, 1) := (congrArg (fun b => decode b 681) cd_178).trans dL_law_681
theorem e178_682 : decode (ma_cd 178) 682 = .ok (.iaload, 1) := (congrArg (fun b => decode b 682) cd_178).trans dL_law_682
theorem e178_683 : decode (ma_cd 178) 683 = .ok (.invokevirtual 82, 3) := (congrArg (fun b => decode b 683) cd_178).trans dL_law_683
theorem e178_686 : decode (ma_cd 178) 686 = .ok (.aload_n 2, 1) := (congrArg (fun b => decode b 686) cd_178).trans dL_law_686
theorem e178_687 : decode (ma_cd 178) 687 = .ok (.aload_n 0, 1) := (congrArg (fun b => decode b 687) cd_178).trans dL_law_687
theorem e178_688 : decode (ma_cd 178) 688 = .ok (.iload_n 3, 1) := (congrArg (fun b => decode b 688) cd_178).trans dL_law_688
theorem e178_689 : decode (ma_cd 178) 689 = .ok (.iconst 1, 1) := (congrArg (fun b => decode b 689) cd_178).trans dL_law_689
theorem e178_690 : decode (ma_cd 178) 690 = .ok (.iadd, 1) := (congrArg (fun b => decode b 690) cd_178).trans dL_law_690
theorem e178_691 : decode (ma_cd 178) 691 = .ok (.iaload, 1) := (congrArg (fun b => decode b 691) cd_178).trans dL_law_691
theorem e178_692 : decode (ma_cd 178) 692 = .ok (.aload_n 0, 1) := (congrArg (fun b => decode b 692) cd_178).trans dL_law_692
theorem e178_693 : decode (ma_cd 178) 693 = .ok (.iload_n 3, 1) := (congrArg (fun b => decode b 693) cd_178).trans dL_law_693
theorem e178_694 : decode (ma_cd 178) 694 = .ok (.iconst 2, 1) := (congrArg (fun b => decode b 694) cd_178).trans dL_law_694
theorem e178_695 : decode (ma_cd 178) 695 = .ok (.iadd, 1) := (congrArg (fun b => decode b 695) cd_178).trans dL_law_695
theorem e178_696 : decode (ma_cd 178) 696 = .ok (.iaload, 1) := (congrArg (fun b => decode b 696) cd_178).trans dL_law_696
theorem e178_697 : decode (ma_cd 178) 697 = .ok (.invokevirtual 85, 3) := (congrArg (fun b => decode b 697) cd_178).trans dL_law_697
theorem e178_700 : decode (ma_cd 178) 700 = .ok (.if_icmp .eq 346, 3) := (congrArg (fun b => decode b 700) cd_178).trans dL_law_700
theorem e178_703 : decode (ma_cd 178) 703 = .ok (.iconst 0, 1) := (congrArg (fun b => decode b 703) cd_178).trans dL_law_703
theorem e178_704 : decode (ma_cd 178) 704 = .ok (.ireturn, 1) := (congrArg (fun b => decode b 704) cd_178).trans dL_law_704
theorem e178_705 : decode (ma_cd 178) 705 = .ok (.aload_n 1, 1) := (congrArg (fun b => decode b 705) cd_178).trans dL_law_705
theorem e178_706 : decode (ma_cd 178) 706 = .ok (.aload_n 0, 1) := (congrArg (fun b => decode b 706) cd_178).trans dL_law_706
theorem e178_707 : decode (ma_cd 178) 707 = .ok (.iload_n 3, 1) := (congrArg (fun b => decode b 707) cd_178).trans dL_law_707
theorem e178_708 : decode (ma_cd 178) 708 = .ok (.iconst 1, 1) := (congrArg (fun b => decode b 708) cd_178).trans dL_law_708
theorem e178_709 : decode (ma_cd 178) 709 = .ok (.iadd, 1) := (congrArg (fun b => decode b 709) cd_178).trans dL_law_709
theorem e178_710 : decode (ma_cd 178) 710 = .ok (.iaload, 1) := (congrArg (fun b => decode b 710) cd_178).trans dL_law_710
theorem e178_711 : decode (ma_cd 178) 711 = .ok (.invokevirtual 86, 3) := (congrArg (fun b => decode b 711) cd_178).trans dL_law_711
theorem e178_714 : decode (ma_cd 178) 714 = .ok (.aload_n 2, 1) := (congrArg (fun b => decode b 714) cd_178).trans dL_law_714
theorem e178_715 : decode (ma_cd 178) 715 = .ok (.aload_n 0, 1) := (congrArg (fun b => decode b 715) cd_178).trans dL_law_715
theorem e178_716 : decode (ma_cd 178) 716 = .ok (.iload_n 3, 1) := (congrArg (fun b => decode b 716) cd_178).trans dL_law_716
theorem e178_717 : decode (ma_cd 178) 717 = .ok (.iconst 1, 1) := (congrArg (fun b => decode b 717) cd_178).trans dL_law_717
theorem e178_718 : decode (ma_cd 178) 718 = .ok (.iadd, 1) := (congrArg (fun b => decode b 718) cd_178).trans dL_law_718
theorem e178_719 : decode (ma_cd 178) 719 = .ok (.iaload, 1) := (congrArg (fun b => decode b 719) cd_178).trans dL_law_719
theorem e178_720 : decode (ma_cd 178) 720 = .ok (.invokevirtual 89, 3) := (congrArg (fun b => decode b 720) cd_178).trans dL_law_720
theorem e178_723 : decode (ma_cd 178) 723 = .ok (.if_icmp .eq 323, 3) := (congrArg (fun b => decode b 723) cd_178).trans dL_law_723
theorem e178_726 : decode (ma_cd 178) 726 = .ok (.iconst 0, 1) := (congrArg (fun b => decode b 726) cd_178).trans dL_law_726
theorem e178_727 : decode (ma_cd 178) 727 = .ok (.ireturn, 1) := (congrArg (fun b => decode b 727) cd_178).trans dL_law_727
theorem e178_728 : decode (ma_cd 178) 728 = .ok (.aload_n 1, 1) := (congrArg (fun b => decode b 728) cd_178).trans dL_law_728
theorem e178_729 : decode (ma_cd 178) 729 = .ok (.aload_n 0, 1) := (congrArg (fun b => decode b 729) cd_178).trans dL_law_729
theorem e178_730 : decode (ma_cd 178) 730 = .ok (.iload_n 3, 1) := (congrArg (fun b => decode b 730) cd_178).trans dL_law_730
theorem e178_731 : decode (ma_cd 178) 731 = .ok (.iconst 1, 1) := (congrArg (fun b => decode b 731) cd_178).trans dL_law_731
theorem e178_732 : decode (ma_cd 178) 732 = .ok (.iadd, 1) := (congrArg (fun b => decode b 732) cd_178).trans dL_law_732
theorem e178_733 : decode (ma_cd 178) 733 = .ok (.iaload, 1) := (congrArg (fun b => decode b 733) cd_178).trans dL_law_733
theorem e178_734 : decode (ma_cd 178) 734 = .ok (.aload_n 0, 1) := (congrArg (fun b => decode b 734) cd_178).trans dL_law_734
theorem e178_735 : decode (ma_cd 178) 735 = .ok (.iload_n 3, 1) := (congrArg (fun b => decode b 735) cd_178).trans dL_law_735
theorem e178_736 : decode (ma_cd 178) 736 = .ok (.iconst 2, 1) := (congrArg (fun b => decode b 736) cd_178).trans dL_law_736
theorem e178_737 : decode (ma_cd 178) 737 = .ok (.iadd, 1) := (congrArg (fun b => decode b 737) cd_178).trans dL_law_737
theorem e178_738 : decode (ma_cd 178) 738 = .ok (.iaload, 1) := (congrArg (fun b => decode b 738) cd_178).trans dL_law_738
theorem e178_739 : decode (ma_cd 178) 739 = .ok (.aload_n 0, 1) := (congrArg (fun b => decode b 739) cd_178).trans dL_law_739
theorem e178_740 : decode (ma_cd 178) 740 = .ok (.iload_n 3, 1) := (congrArg (fun b => decode b 740) cd_178).trans dL_law_740
theorem e178_741 : decode (ma_cd 178) 741 = .ok (.iconst 3, 1) := (congrArg (fun b => decode b 741) cd_178).trans dL_law_741
theorem e178_742 : decode (ma_cd 178) 742 = .ok (.iadd, 1) := (congrArg (fun b => decode b 742) cd_178).trans dL_law_742
theorem e178_743 : decode (ma_cd 178) 743 = .ok (.iaload, 1) := (congrArg (fun b => decode b 743) cd_178).trans dL_law_743
theorem e178_744 : decode (ma_cd 178) 744 = .ok (.invokevirtual 90, 3) := (congrArg (fun b => decode b 744) cd_178).trans dL_law_744
theorem e178_747 : decode (ma_cd 178) 747 = .ok (.aload_n 2, 1) := (congrArg (fun b => decode b 747) cd_178).trans dL_law_747
theorem e178_748 : decode (ma_cd 178) 748 = .ok (.aload_n 0, 1) := (congrArg (fun b => decode b 748) cd_178).trans dL_law_748
theorem e178_749 : decode (ma_cd 178) 749 = .ok (.iload_n 3, 1) := (congrArg (fun b => decode b 749) cd_178).trans dL_law_749
theorem e178_750 : decode (ma_cd 178) 750 = .ok (.iconst 1, 1) := (congrArg (fun b => decode b 750) cd_178).trans dL_law_750
theorem e178_751 : decode (ma_cd 178) 751 = .ok (.iadd, 1) := (congrArg (fun b => decode b 751) cd_178).trans dL_law_751
theorem e178_752 : decode (ma_cd 178) 752 = .ok (.iaload, 1) := (congrArg (fun b => decode b 752) cd_178).trans dL_law_752
theorem e178_753 : decode (ma_cd 178) 753 = .ok (.aload_n 0, 1) := (congrArg (fun b => decode b 753) cd_178).trans dL_law_753
theorem e178_754 : decode (ma_cd 178) 754 = .ok (.iload_n 3, 1) := (congrArg (fun b => decode b 754) cd_178).trans dL_law_754
theorem e178_755 : decode (ma_cd 178) 755 = .ok (.iconst 2, 1) := (congrArg (fun b => decode b 755) cd_178).trans dL_law_755
theorem e178_756 : decode (ma_cd 178) 756 = .ok (.iadd, 1) := (congrArg (fun b => decode b 756) cd_178).trans dL_law_756
theorem e178_757 : decode (ma_cd 178) 757 = .ok (.iaload, 1) := (congrArg (fun b => decode b 757) cd_178).trans dL_law_757
theorem e178_758 : decode (ma_cd 178) 758 = .ok (.aload_n 0, 1) := (congrArg (fun b => decode b 758) cd_178).trans dL_law_758
theorem e178_759 : decode (ma_cd 178) 759 = .ok (.iload_n 3, 1) := (congrArg (fun b => decode b 759) cd_178).trans dL_law_759
theorem e178_760 : decode (ma_cd 178) 760 = .ok (.iconst 3, 1) := (congrArg (fun b => decode b 760) cd_178).trans dL_law_760
theorem e178_761 : decode (ma_cd 178) 761 = .ok (.iadd, 1) := (congrArg (fun b => decode b 761) cd_178).trans dL_law_761
theorem e178_762 : decode (ma_cd 178) 762 = .ok (.iaload, 1) := (congrArg (fun b => decode b 762) cd_178).trans dL_law_762
theorem e178_763 : decode (ma_cd 178) 763 = .ok (.invokevirtual 94, 3) := (congrArg (fun b => decode b 763) cd_178).trans dL_law_763
theorem e178_766 : decode (ma_cd 178) 766 = .ok (.lcmp, 1) := (congrArg (fun b => decode b 766) cd_178).trans dL_law_766
theorem e178_767 : decode (ma_cd 178) 767 = .ok (.ifCond .eq 279, 3) := (congrArg (fun b => decode b 767) cd_178).trans dL_law_767
theorem e178_770 : decode (ma_cd 178) 770 = .ok (.iconst 0, 1) := (congrArg (fun b => decode b 770) cd_178).trans dL_law_770
theorem e178_771 : decode (ma_cd 178) 771 = .ok (.ireturn, 1) := (congrArg (fun b => decode b 771) cd_178).trans dL_law_771
theorem e178_772 : decode (ma_cd 178) 772 = .ok (.aload_n 1, 1) := (congrArg (fun b => decode b 772) cd_178).trans dL_law_772
theorem e178_773 : decode (ma_cd 178) 773 = .ok (.aload_n 0, 1) := (congrArg (fun b => decode b 773) cd_178).trans dL_law_773
theorem e178_774 : decode (ma_cd 178) 774 = .ok (.iload_n 3, 1) := (congrArg (fun b => decode b 774) cd_178).trans dL_law_774
theorem e178_775 : decode (ma_cd 178) 775 = .ok (.iconst 1, 1) := (congrArg (fun b => decode b 775) cd_178).trans dL_law_775
theorem e178_776 : decode (ma_cd 178) 776 = .ok (.iadd, 1) := (congrArg (fun b => decode b 776) cd_178).trans dL_law_776
theorem e178_777 : decode (ma_cd 178) 777 = .ok (.iaload, 1) := (congrArg (fun b => decode b 777) cd_178).trans dL_law_777
theorem e178_778 : decode (ma_cd 178) 778 = .ok (.invokevirtual 95, 3) := (congrArg (fun b => decode b 778) cd_178).trans dL_law_778
theorem e178_781 : decode (ma_cd 178) 781 = .ok (.aload_n 2, 1) := (congrArg (fun b => decode b 781) cd_178).trans dL_law_781
theorem e178_782 : decode (ma_cd 178) 782 = .ok (.aload_n 0, 1) := (congrArg (fun b => decode b 782) cd_178).trans dL_law_782
theorem e178_783 : decode (ma_cd 178) 783 = .ok (.iload_n 3, 1) := (congrArg (fun b => decode b 783) cd_178).trans dL_law_783
theorem e178_784 : decode (ma_cd 178) 784 = .ok (.iconst 1, 1) := (congrArg (fun b => decode b 784) cd_178).trans dL_law_784
theorem e178_785 : decode (ma_cd 178) 785 = .ok (.iadd, 1) := (congrArg (fun b => decode b 785) cd_178).trans dL_law_785
theorem e178_786 : decode (ma_cd 178) 786 = .ok (.iaload, 1) := (congrArg (fun b => decode b 786) cd_178).trans dL_law_786
theorem e178_787 : decode (ma_cd 178) 787 = .ok (.invokevirtual 99, 3) := (congrArg (fun b => decode b 787) cd_178).trans dL_law_787
theorem e178_790 : decode (ma_cd 178) 790 = .ok (.lcmp, 1) := (congrArg (fun b => decode b 790) cd_178).trans dL_law_790
theorem e178_791 : decode (ma_cd 178) 791 = .ok (.ifCond .eq 255, 3) := (congrArg (fun b => decode b 791) cd_178).trans dL_law_791
theorem e178_794 : decode (ma_cd 178) 794 = .ok (.iconst 0, 1) := (congrArg (fun b => decode b 794) cd_178).trans dL_law_794
theorem e178_795 : decode (ma_cd 178) 795 = .ok (.ireturn, 1) := (congrArg (fun b => decode b 795) cd_178).trans dL_law_795
theorem e178_796 : decode (ma_cd 178) 796 = .ok (.aload_n 1, 1) := (congrArg (fun b => decode b 796) cd_178).trans dL_law_796
theorem e178_797 : decode (ma_cd 178) 797 = .ok (.aload_n 0, 1) := (congrArg (fun b => decode b 797) cd_178).trans dL_law_797
theorem e178_798 : decode (ma_cd 178) 798 = .ok (.iload_n 3, 1) := (congrArg (fun b => decode b 798) cd_178).trans dL_law_798
theorem e178_799 : decode (ma_cd 178) 799 = .ok (.iconst 1, 1) := (congrArg (fun b => decode b 799) cd_178).trans dL_law_799
theorem e178_800 : decode (ma_cd 178) 800 = .ok (.iadd, 1) := (congrArg (fun b => decode b 800) cd_178).trans dL_law_800
theorem e178_801 : decode (ma_cd 178) 801 = .ok (.iaload, 1) := (congrArg (fun b => decode b 801) cd_178).trans dL_law_801
theorem e178_802 : decode (ma_cd 178) 802 = .ok (.aload_n 0, 1) := (congrArg (fun b => decode b 802) cd_178).trans dL_law_802
theorem e178_803 : decode (ma_cd 178) 803 = .ok (.iload_n 3, 1) := (congrArg (fun b => decode b 803) cd_178).trans dL_law_803
theorem e178_804 : decode (ma_cd 178) 804 = .ok (.iconst 2, 1) := (congrArg (fun b => decode b 804) cd_178).trans dL_law_804
theorem e178_805 : decode (ma_cd 178) 805 = .ok (.iadd, 1) := (congrArg (fun b => decode b 805) cd_178).trans dL_law_805
theorem e178_806 : decode (ma_cd 178) 806 = .ok (.iaload, 1) := (congrArg (fun b => decode b 806) cd_178).trans dL_law_806
theorem e178_807 : decode (ma_cd 178) 807 = .ok (.invokevirtual 100, 3) := (congrArg (fun b => decode b 807) cd_178).trans dL_law_807
theorem e178_810 : decode (ma_cd 178) 810 = .ok (.aload_n 2, 1) := (congrArg (fun b => decode b 810) cd_178).trans dL_law_810
theorem e178_811 : decode (ma_cd 178) 811 = .ok (.aload_n 0, 1) := (congrArg (fun b => decode b 811) cd_178).trans dL_law_811
theorem e178_812 : decode (ma_cd 178) 812 = .ok (.iload_n 3, 1) := (congrArg (fun b => decode b 812) cd_178).trans dL_law_812
theorem e178_813 : decode (ma_cd 178) 813 = .ok (.iconst 1, 1) := (congrArg (fun b => decode b 813) cd_178).trans dL_law_813
theorem e178_814 : decode (ma_cd 178) 814 = .ok (.iadd, 1) := (congrArg (fun b => decode b 814) cd_178).trans dL_law_814
theorem e178_815 : decode (ma_cd 178) 815 = .ok (.iaload, 1) := (congrArg (fun b => decode b 815) cd_178).trans dL_law_815
theorem e178_816 : decode (ma_cd 178) 816 = .ok (.aload_n 0, 1) := (congrArg (fun b => decode b 816) cd_178).trans dL_law_816
theorem e178_817 : decode (ma_cd 178) 817 = .ok (.iload_n 3, 1) := (congrArg (fun b => decode b 817) cd_178).trans dL_law_817
theorem e178_818 : decode (ma_cd 178) 818 = .ok (.iconst 2, 1) := (congrArg (fun b => decode b 818) cd_178).trans dL_law_818
theorem e178_819 : decode (ma_cd 178) 819 = .ok (.iadd, 1) := (congrArg (fun b => decode b 819) cd_178).trans dL_law_819
theorem e178_820 : decode (ma_cd 178) 820 = .ok (.iaload, 1) := (congrArg (fun b => decode b 820) cd_178).trans dL_law_820
theorem e178_821 : decode (ma_cd 178) 821 = .ok (.invokevirtual 103, 3) := (congrArg (fun b => decode b 821) cd_178).trans dL_law_821
theorem e178_824 : decode (ma_cd 178) 824 = .ok (.if_icmp .eq 222, 3) := (congrArg (fun b => decode b 824) cd_178).trans dL_law_824
theorem e178_827 : decode (ma_cd 178) 827 = .ok (.iconst 0, 1) := (congrArg (fun b => decode b 827) cd_178).trans dL_law_827
theorem e178_828 : decode (ma_cd 178) 828 = .ok (.ireturn, 1) := (congrArg (fun b => decode b 828) cd_178).trans dL_law_828
theorem e178_829 : decode (ma_cd 178) 829 = .ok (.aload_n 1, 1) := (congrArg (fun b => decode b 829) cd_178).trans dL_law_829
theorem e178_830 : decode (ma_cd 178) 830 = .ok (.aload_n 0, 1) := (congrArg (fun b => decode b 830) cd_178).trans dL_law_830
theorem e178_831 : decode (ma_cd 178) 831 = .ok (.iload_n 3, 1) := (congrArg (fun b => decode b 831) cd_178).trans dL_law_831
theorem e178_832 : decode (ma_cd 178) 832 = .ok (.iconst 1, 1) := (congrArg (fun b => decode b 832) cd_178).trans dL_law_832
theorem e178_833 : decode (ma_cd 178) 833 = .ok (.iadd, 1) := (congrArg (fun b => decode b 833) cd_178).trans dL_law_833
theorem e178_834 : decode (ma_cd 178) 834 = .ok (.iaload, 1) := (congrArg (fun b => decode b 834) cd_178).trans dL_law_834
theorem e178_835 : decode (ma_cd 178) 835 = .ok (.invokevirtual 104, 3) := (congrArg (fun b => decode b 835) cd_178).trans dL_law_835
theorem e178_838 : decode (ma_cd 178) 838 = .ok (.aload_n 2, 1) := (congrArg (fun b => decode b 838) cd_178).trans dL_law_838
theorem e178_839 : decode (ma_cd 178) 839 = .ok (.aload_n 0, 1) := (congrArg (fun b => decode b 839) cd_178).trans dL_law_839
theorem e178_840 : decode (ma_cd 178) 840 = .ok (.iload_n 3, 1) := (congrArg (fun b => decode b 840) cd_178).trans dL_law_840
theorem e178_841 : decode (ma_cd 178) 841 = .ok (.iconst 1, 1) := (congrArg (fun b => decode b 841) cd_178).trans dL_law_841
theorem e178_842 : decode (ma_cd 178) 842 = .ok (.iadd, 1) := (congrArg (fun b => decode b 842) cd_178).trans dL_law_842
theorem e178_843 : decode (ma_cd 178) 843 = .ok (.iaload, 1) := (congrArg (fun b => decode b 843) cd_178).trans dL_law_843
theorem e178_844 : decode (ma_cd 178) 844 = .ok (.invokevirtual 107, 3) := (congrArg (fun b => decode b 844) cd_178).trans dL_law_844
theorem e178_847 : decode (ma_cd 178) 847 = .ok (.if_icmp .eq 199, 3) := (congrArg (fun b => decode b 847) cd_178).trans dL_law_847
theorem e178_850 : decode (ma_cd 178) 850 = .ok (.iconst 0, 1) := (congrArg (fun b => decode b 850) cd_178).trans dL_law_850
theorem e178_851 : decode (ma_cd 178) 851 = .ok (.ireturn, 1) := (congrArg (fun b => decode b 851) cd_178).trans dL_law_851
theorem e178_852 : decode (ma_cd 178) 852 = .ok (.aload_n 1, 1) := (congrArg (fun b => decode b 852) cd_178).trans dL_law_852
theorem e178_853 : decode (ma_cd 178) 853 = .ok (.aload_n 0, 1) := (congrArg (fun b => decode b 853) cd_178).trans dL_law_853
theorem e178_854 : decode (ma_cd 178) 854 = .ok (.iload_n 3, 1) := (congrArg (fun b => decode b 854) cd_178).trans dL_law_854
theorem e178_855 : decode (ma_cd 178) 855 = .ok (.iconst 1, 1) := (congrArg (fun b => decode b 855) cd_178).trans dL_law_855
theorem e178_856 : decode (ma_cd 178) 856 = .ok (.iadd, 1) := (congrArg (fun b => decode b 856) cd_178).trans dL_law_856
theorem e178_857 : decode (ma_cd 178) 857 = .ok (.iaload, 1) := (congrArg (fun b => decode b 857) cd_178).trans dL_law_857
theorem e178_858 : decode (ma_cd 178) 858 = .ok (.aload_n 0, 1) := (congrArg (fun b => decode b 858) cd_178).trans dL_law_858
theorem e178_859 : decode (ma_cd 178) 859 = .ok (.iload_n 3, 1) := (congrArg (fun b => decode b 859) cd_178).trans dL_law_859
theorem e178_860 : decode (ma_cd 178) 860 = .ok (.iconst 2, 1) := (congrArg (fun b => decode b 860) cd_178).trans dL_law_860
theorem e178_861 : decode (ma_cd 178) 861 = .ok (.iadd, 1) := (congrArg (fun b => decode b 861) cd_178).trans dL_law_861
theorem e178_862 : decode (ma_cd 178) 862 = .ok (.iaload, 1) := (congrArg (fun b => decode b 862) cd_178).trans dL_law_862
theorem e178_863 : decode (ma_cd 178) 863 = .ok (.invokevirtual 108, 3) := (congrArg (fun b => decode b 863) cd_178).trans dL_law_863
theorem e178_866 : decode (ma_cd 178) 866 = .ok (.aload_n 2, 1) := (congrArg (fun b => decode b 866) cd_178).trans dL_law_866
theorem e178_867 : decode (ma_cd 178) 867 = .ok (.aload_n 0, 1) := (congrArg (fun b => decode b 867) cd_178).trans dL_law_867
theorem e178_868 : decode (ma_cd 178) 868 = .ok (.iload_n 3, 1) := (congrArg (fun b => decode b 868) cd_178).trans dL_law_868
theorem e178_869 : decode (ma_cd 178) 869 = .ok (.iconst 1, 1) := (congrArg (fun b => decode b 869) cd_178).trans dL_law_869
theorem e178_870 : decode (ma_cd 178) 870 = .ok (.iadd, 1) := (congrArg (fun b => decode b 870) cd_178).trans dL_law_870
theorem e178_871 : decode (ma_cd 178) 871 = .ok (.iaload, 1) := (congrArg (fun b => decode b 871) cd_178).trans dL_law_871
theorem e178_872 : decode (ma_cd 178) 872 = .ok (.aload_n 0, 1) := (congrArg (fun b => decode b 872) cd_178).trans dL_law_872
theorem e178_873 : decode (ma_cd 178) 873 = .ok (.iload_n 3, 1) := (congrArg (fun b => decode b 873) cd_178).trans dL_law_873
theorem e178_874 : decode (ma_cd 178) 874 = .ok (.iconst 2, 1) := (congrArg (fun b => decode b 874) cd_178).trans dL_law_874
theorem e178_875 : decode (ma_cd 178) 875 = .ok (.iadd, 1) := (congrArg (fun b => decode b 875) cd_178).trans dL_law_875
theorem e178_876 : decode (ma_cd 178) 876 = .ok (.iaload, 1) := (congrArg (fun b => decode b 876) cd_178).trans dL_law_876
theorem e178_877 : decode (ma_cd 178) 877 = .ok (.invokevirtual 111, 3) := (congrArg (fun b => decode b 877) cd_178).trans dL_law_877
theorem e178_880 : decode (ma_cd 178) 880 = .ok (.if_icmp .eq 166, 3) := (congrArg (fun b => decode b 880) cd_178).trans dL_law_880
theorem e178_883 : decode (ma_cd 178) 883 = .ok (.iconst 0, 1) := (congrArg (fun b => decode b 883) cd_178).trans dL_law_883
theorem e178_884 : decode (ma_cd 178) 884 = .ok (.ireturn, 1) := (congrArg (fun b => decode b 884) cd_178).trans dL_law_884
theorem e178_885 : decode (ma_cd 178) 885 = .ok (.aload_n 1, 1) := (congrArg (fun b => decode b 885) cd_178).trans dL_law_885
theorem e178_886 : decode (ma_cd 178) 886 = .ok (.invokevirtual 112, 3) := (congrArg (fun b => decode b 886) cd_178).trans dL_law_886
theorem e178_889 : decode (ma_cd 178) 889 = .ok (.aload_n 2, 1) := (congrArg (fun b => decode b 889) cd_178).trans dL_law_889
theorem e178_890 : decode (ma_cd 178) 890 = .ok (.invokevirtual 115, 3) := (congrArg (fun b => decode b 890) cd_178).trans dL_law_890
theorem e178_893 : decode (ma_cd 178) 893 = .ok (.if_icmp .eq 153, 3) := (congrArg (fun b => decode b 893) cd_178).trans dL_law_893
theorem e178_896 : decode (ma_cd 178) 896 = .ok (.iconst 0, 1) := (congrArg (fun b => decode b 896) cd_178).trans dL_law_896
theorem e178_897 : decode (ma_cd 178) 897 = .ok (.ireturn, 1) := (congrArg (fun b => decode b 897) cd_178).trans dL_law_897
theorem e178_898 : decode (ma_cd 178) 898 = .ok (.aload_n 1, 1) := (congrArg (fun b => decode b 898) cd_178).trans dL_law_898
theorem e178_899 : decode (ma_cd 178) 899 = .ok (.aload_n 0, 1) := (congrArg (fun b => decode b 899) cd_178).trans dL_law_899
theorem e178_900 : decode (ma_cd 178) 900 = .ok (.iload_n 3, 1) := (congrArg (fun b => decode b 900) cd_178).trans dL_law_900
theorem e178_901 : decode (ma_cd 178) 901 = .ok (.iconst 1, 1) := (congrArg (fun b => decode b 901) cd_178).trans dL_law_901
theorem e178_902 : decode (ma_cd 178) 902 = .ok (.iadd, 1) := (congrArg (fun b => decode b 902) cd_178).trans dL_law_902
theorem e178_903 : decode (ma_cd 178) 903 = .ok (.iaload, 1) := (congrArg (fun b => decode b 903) cd_178).trans dL_law_903
theorem e178_904 : decode (ma_cd 178) 904 = .ok (.aload_n 0, 1) := (congrArg (fun b => decode b 904) cd_178).trans dL_law_904
theorem e178_905 : decode (ma_cd 178) 905 = .ok (.iload_n 3, 1) := (congrArg (fun b => decode b 905) cd_178).trans dL_law_905
theorem e178_906 : decode (ma_cd 178) 906 = .ok (.iconst 2, 1) := (congrArg (fun b => decode b 906) cd_178).trans dL_law_906
theorem e178_907 : decode (ma_cd 178) 907 = .ok (.iadd, 1) := (congrArg (fun b => decode b 907) cd_178).trans dL_law_907
theorem e178_908 : decode (ma_cd 178) 908 = .ok (.iaload, 1) := (congrArg (fun b => decode b 908) cd_178).trans dL_law_908
theorem e178_909 : decode (ma_cd 178) 909 = .ok (.aload_n 0, 1) := (congrArg (fun b => decode b 909) cd_178).trans dL_law_909
theorem e178_910 : decode (ma_cd 178) 910 = .ok (.iload_n 3, 1) := (congrArg (fun b => decode b 910) cd_178).trans dL_law_910
theorem e178_911 : decode (ma_cd 178) 911 = .ok (.iconst 3, 1) := (congrArg (fun b => decode b 911) cd_178).trans dL_law_911
theorem e178_912 : decode (ma_cd 178) 912 = .ok (.iadd, 1) := (congrArg (fun b => decode b 912) cd_178).trans dL_law_912
theorem e178_913 : decode (ma_cd 178) 913 = .ok (.iaload, 1) := (congrArg (fun b => decode b 913) cd_178).trans dL_law_913
theorem e178_914 : decode (ma_cd 178) 914 = .ok (.invokevirtual 116, 3) := (congrArg (fun b => decode b 914) cd_178).trans dL_law_914
theorem e178_917 : decode (ma_cd 178) 917 = .ok (.aload_n 2, 1) := (congrArg (fun b => decode b 917) cd_178).trans dL_law_917
theorem e178_918 : decode (ma_cd 178) 918 = .ok (.aload_n 0, 1) := (congrArg (fun b => decode b 918) cd_178).trans dL_law_918
theorem e178_919 : decode (ma_cd 178) 919 = .ok (.iload_n 3, 1) := (congrArg (fun b => decode b 919) cd_178).trans dL_law_919
theorem e178_920 : decode (ma_cd 178) 920 = .ok (.iconst 1, 1) := (congrArg (fun b => decode b 920) cd_178).trans dL_law_920
theorem e178_921 : decode (ma_cd 178) 921 = .ok (.iadd, 1) := (congrArg (fun b => decode b 921) cd_178).trans dL_law_921
theorem e178_922 : decode (ma_cd 178) 922 = .ok (.iaload, 1) := (congrArg (fun b => decode b 922) cd_178).trans dL_law_922
theorem e178_923 : decode (ma_cd 178) 923 = .ok (.aload_n 0, 1) := (congrArg (fun b => decode b 923) cd_178).trans dL_law_923
theorem e178_924 : decode (ma_cd 178) 924 = .ok (.iload_n 3, 1) := (congrArg (fun b => decode b 924) cd_178).trans dL_law_924
theorem e178_925 : decode (ma_cd 178) 925 = .ok (.iconst 2, 1) := (congrArg (fun b => decode b 925) cd_178).trans dL_law_925
theorem e178_926 : decode (ma_cd 178) 926 = .ok (.iadd, 1) := (congrArg (fun b => decode b 926) cd_178).trans dL_law_926
theorem e178_927 : decode (ma_cd 178) 927 = .ok (.iaload, 1) := (congrArg (fun b => decode b 927) cd_178).trans dL_law_927
theorem e178_928 : decode (ma_cd 178) 928 = .ok (.aload_n 0, 1) := (congrArg (fun b => decode b 928) cd_178).trans dL_law_928
theorem e178_929 : decode (ma_cd 178) 929 = .ok (.iload_n 3, 1) := (congrArg (fun b => decode b 929) cd_178).trans dL_law_929
theorem e178_930 : decode (ma_cd 178) 930 = .ok (.iconst 3, 1) := (congrArg (fun b => decode b 930) cd_178).trans dL_law_930
theorem e178_931 : decode (ma_cd 178) 931 = .ok (.iadd, 1) := (congrArg (fun b => decode b 931) cd_178).trans dL_law_931
theorem e178_932 : decode (ma_cd 178) 932 = .ok (.iaload, 1) := (congrArg (fun b => decode b 932) cd_178).trans dL_law_932
theorem e178_933 : decode (ma_cd 178) 933 = .ok (.invokevirtual 119, 3) := (congrArg (fun b => decode b 933) cd_178).trans dL_law_933
theorem e178_936 : decode (ma_cd 178) 936 = .ok (.if_icmp .eq 110, 3) := (congrArg (fun b => decode b 936) cd_178).trans dL_law_936
theorem e178_939 : decode (ma_cd 178) 939 = .ok (.iconst 0, 1) := (congrArg (fun b => decode b 939) cd_178).trans dL_law_939
theorem e178_940 : decode (ma_cd 178) 940 = .ok (.ireturn, 1) := (congrArg (fun b => decode b 940) cd_178).trans dL_law_940
theorem e178_941 : decode (ma_cd 178) 941 = .ok (.aload_n 1, 1) := (congrArg (fun b => decode b 941) cd_178).trans dL_law_941
theorem e178_942 : decode (ma_cd 178) 942 = .ok (.aload_n 0, 1) := (congrArg (fun b => decode b 942) cd_178).trans dL_law_942
theorem e178_943 : decode (ma_cd 178) 943 = .ok (.iload_n 3, 1) := (congrArg (fun b => decode b 943) cd_178).trans dL_law_943
theorem e178_944 : decode (ma_cd 178) 944 = .ok (.iconst 1, 1) := (congrArg (fun b => decode b 944) cd_178).trans dL_law_944
theorem e178_945 : decode (ma_cd 178) 945 = .ok (.iadd, 1) := (congrArg (fun b => decode b 945) cd_178).trans dL_law_945
theorem e178_946 : decode (ma_cd 178) 946 = .ok (.iaload, 1) := (congrArg (fun b => decode b 946) cd_178).trans dL_law_946
theorem e178_947 : decode (ma_cd 178) 947 = .ok (.invokevirtual 120, 3) := (congrArg (fun b => decode b 947) cd_178).trans dL_law_947
theorem e178_950 : decode (ma_cd 178) 950 = .ok (.aload_n 2, 1) := (congrArg (fun b => decode b 950) cd_178).trans dL_law_950
theorem e178_951 : decode (ma_cd 178) 951 = .ok (.aload_n 0, 1) := (congrArg (fun b => decode b 951) cd_178).trans dL_law_951
theorem e178_952 : decode (ma_cd 178) 952 = .ok (.iload_n 3, 1) := (congrArg (fun b => decode b 952) cd_178).trans dL_law_952
theorem e178_953 : decode (ma_cd 178) 953 = .ok (.iconst 1, 1) := (congrArg (fun b => decode b 953) cd_178).trans dL_law_953
theorem e178_954 : decode (ma_cd 178) 954 = .ok (.iadd, 1) := (congrArg (fun b => decode b 954) cd_178).trans dL_law_954
theorem e178_955 : decode (ma_cd 178) 955 = .ok (.iaload, 1) := (congrArg (fun b => decode b 955) cd_178).trans dL_law_955
theorem e178_956 : decode (ma_cd 178) 956 = .ok (.invokevirtual 123, 3) := (congrArg (fun b => decode b 956) cd_178).trans dL_law_956
theorem e178_959 : decode (ma_cd 178) 959 = .ok (.if_icmp .eq 87, 3) := (congrArg (fun b => decode b 959) cd_178).trans dL_law_959
theorem e178_962 : decode (ma_cd 178) 962 = .ok (.iconst 0, 1) := (congrArg (fun b => decode b 962) cd_178).trans dL_law_962
theorem e178_963 : decode (ma_cd 178) 963 = .ok (.ireturn, 1) := (congrArg (fun b => decode b 963) cd_178).trans dL_law_963
theorem e178_964 : decode (ma_cd 178) 964 = .ok (.aload_n 1, 1) := (congrArg (fun b => decode b 964) cd_178).trans dL_law_964
theorem e178_965 : decode (ma_cd 178) 965 = .ok (.aload_n 0, 1) := (congrArg (fun b => decode b 965) cd_178).trans dL_law_965
theorem e178_966 : decode (ma_cd 178) 966 = .ok (.iload_n 3, 1) := (congrArg (fun b => decode b 966) cd_178).trans dL_law_966
theorem e178_967 : decode (ma_cd 178) 967 = .ok (.iconst 1, 1) := (congrArg (fun b => decode b 967) cd_178).trans dL_law_967
theorem e178_968 : decode (ma_cd 178) 968 = .ok (.iadd, 1) := (congrArg (fun b => decode b 968) cd_178).trans dL_law_968
theorem e178_969 : decode (ma_cd 178) 969 = .ok (.iaload, 1) := (congrArg (fun b => decode b 969) cd_178).trans dL_law_969
theorem e178_970 : decode (ma_cd 178) 970 = .ok (.aload_n 0, 1) := (congrArg (fun b => decode b 970) cd_178).trans dL_law_970
theorem e178_971 : decode (ma_cd 178) 971 = .ok (.iload_n 3, 1) := (congrArg (fun b => decode b 971) cd_178).trans dL_law_971
theorem e178_972 : decode (ma_cd 178) 972 = .ok (.iconst 2, 1) := (congrArg (fun b => decode b 972) cd_178).trans dL_law_972
theorem e178_973 : decode (ma_cd 178) 973 = .ok (.iadd, 1) := (congrArg (fun b => decode b 973) cd_178).trans dL_law_973
theorem e178_974 : decode (ma_cd 178) 974 = .ok (.iaload, 1) := (congrArg (fun b => decode b 974) cd_178).trans dL_law_974
theorem e178_975 : decode (ma_cd 178) 975 = .ok (.invokevirtual 124, 3) := (congrArg (fun b => decode b 975) cd_178).trans dL_law_975
theorem e178_978 : decode (ma_cd 178) 978 = .ok (.aload_n 2, 1) := (congrArg (fun b => decode b 978) cd_178).trans dL_law_978
theorem e178_979 : decode (ma_cd 178) 979 = .ok (.aload_n 0, 1) := (congrArg (fun b => decode b 979) cd_178).trans dL_law_979
theorem e178_980 : decode (ma_cd 178) 980 = .ok (.iload_n 3, 1) := (congrArg (fun b => decode b 980) cd_178).trans dL_law_980
theorem e178_981 : decode (ma_cd 178) 981 = .ok (.iconst 1, 1) := (congrArg (fun b => decode b 981) cd_178).trans dL_law_981
theorem e178_982 : decode (ma_cd 178) 982 = .ok (.iadd, 1) := (congrArg (fun b => decode b 982) cd_178).trans dL_law_982
theorem e178_983 : decode (ma_cd 178) 983 = .ok (.iaload, 1) := (congrArg (fun b => decode b 983) cd_178).trans dL_law_983
theorem e178_984 : decode (ma_cd 178) 984 = .ok (.aload_n 0, 1) := (congrArg (fun b => decode b 984) cd_178).trans dL_law_984
theorem e178_985 : decode (ma_cd 178) 985 = .ok (.iload_n 3, 1) := (congrArg (fun b => decode b 985) cd_178).trans dL_law_985
theorem e178_986 : decode (ma_cd 178) 986 = .ok (.iconst 2, 1) := (congrArg (fun b => decode b 986) cd_178).trans dL_law_986
theorem e178_987 : decode (ma_cd 178) 987 = .ok (.iadd, 1) := (congrArg (fun b => decode b 987) cd_178).trans dL_law_987
theorem e178_988 : decode (ma_cd 178) 988 = .ok (.iaload, 1) := (congrArg (fun b => decode b 988) cd_178).trans dL_law_988
theorem e178_989 : decode (ma_cd 178) 989 = .ok (.invokevirtual 127, 3) := (congrArg (fun b => decode b 989) cd_178).trans dL_law_989
theorem e178_992 : decode (ma_cd 178) 992 = .ok (.if_icmp .eq 54, 3) := (congrArg (fun b => decode b 992) cd_178).trans dL_law_992
theorem e178_995 : decode (ma_cd 178) 995 = .ok (.iconst 0, 1) := (congrArg (fun b => decode b 995) cd_178).trans dL_law_995
theorem e178_996 : decode (ma_cd 178) 996 = .ok (.ireturn, 1) := (congrArg (fun b => decode b 996) cd_178).trans dL_law_996
theorem e178_997 : decode (ma_cd 178) 997 = .ok (.aload_n 1, 1) := (congrArg (fun b => decode b 997) cd_178).trans dL_law_997
theorem e178_998 : decode (ma_cd 178) 998 = .ok (.invokevirtual 128, 3) := (congrArg (fun b => decode b 998) cd_178).trans dL_law_998
theorem e178_1001 : decode (ma_cd 178) 1001 = .ok (.aload_n 2, 1) := (congrArg (fun b => decode b 1001) cd_178).trans dL_law_1001
theorem e178_1002 : decode (ma_cd 178) 1002 = .ok (.invokevirtual 131, 3) := (congrArg (fun b => decode b 1002) cd_178).trans dL_law_1002
theorem e178_1005 : decode (ma_cd 178) 1005 = .ok (.if_icmp .eq 41, 3) := (congrArg (fun b => decode b 1005) cd_178).trans dL_law_1005
theorem e178_1008 : decode (ma_cd 178) 1008 = .ok (.iconst 0, 1) := (congrArg (fun b => decode b 1008) cd_178).trans dL_law_1008
theorem e178_1009 : decode (ma_cd 178) 1009 = .ok (.ireturn, 1) := (congrArg (fun b => decode b 1009) cd_178).trans dL_law_1009
theorem e178_1010 : decode (ma_cd 178) 1010 = .ok (.aload_n 1, 1) := (congrArg (fun b => decode b 1010) cd_178).trans dL_law_1010
theorem e178_1011 : decode (ma_cd 178) 1011 = .ok (.invokevirtual 132, 3) := (congrArg (fun b => decode b 1011) cd_178).trans dL_law_1011
theorem e178_1014 : decode (ma_cd 178) 1014 = .ok (.aload_n 2, 1) := (congrArg (fun b => decode b 1014) cd_178).trans dL_law_1014
theorem e178_1015 : decode (ma_cd 178) 1015 = .ok (.invokevirtual 135, 3) := (congrArg (fun b => decode b 1015) cd_178).trans dL_law_1015
theorem e178_1018 : decode (ma_cd 178) 1018 = .ok (.if_icmp .eq 28, 3) := (congrArg (fun b => decode b 1018) cd_178).trans dL_law_1018
theorem e178_1021 : decode (ma_cd 178) 1021 = .ok (.iconst 0, 1) := (congrArg (fun b => decode b 1021) cd_178).trans dL_law_1021
theorem e178_1022 : decode (ma_cd 178) 1022 = .ok (.ireturn, 1) := (congrArg (fun b => decode b 1022) cd_178).trans dL_law_1022
theorem e178_1023 : decode (ma_cd 178) 1023 = .ok (.aload_n 1, 1) := (congrArg (fun b => decode b 1023) cd_178).trans dL_law_1023
theorem e178_1024 : decode (ma_cd 178) 1024 = .ok (.aload_n 0, 1) := (congrArg (fun b => decode b 1024) cd_178).trans dL_law_1024
theorem e178_1025 : decode (ma_cd 178) 1025 = .ok (.iload_n 3, 1) := (congrArg (fun b => decode b 1025) cd_178).trans dL_law_1025
theorem e178_1026 : decode (ma_cd 178) 1026 = .ok (.iconst 1, 1) := (congrArg (fun b => decode b 1026) cd_178).trans dL_law_1026
theorem e178_1027 : decode (ma_cd 178) 1027 = .ok (.iadd, 1) := (congrArg (fun b => decode b 1027) cd_178).trans dL_law_1027
theorem e178_1028 : decode (ma_cd 178) 1028 = .ok (.iaload, 1) := (congrArg (fun b => decode b 1028) cd_178).trans dL_law_1028
theorem e178_1029 : decode (ma_cd 178) 1029 = .ok (.invokevirtual 136, 3) := (congrArg (fun b => decode b 1029) cd_178).trans dL_law_1029
theorem e178_1032 : decode (ma_cd 178) 1032 = .ok (.aload_n 2, 1) := (congrArg (fun b => decode b 1032) cd_178).trans dL_law_1032
theorem e178_1033 : decode (ma_cd 178) 1033 = .ok (.aload_n 0, 1) := (congrArg (fun b => decode b 1033) cd_178).trans dL_law_1033
theorem e178_1034 : decode (ma_cd 178) 1034 = .ok (.iload_n 3, 1) := (congrArg (fun b => decode b 1034) cd_178).trans dL_law_1034
theorem e178_1035 : decode (ma_cd 178) 1035 = .ok (.iconst 1, 1) := (congrArg (fun b => decode b 1035) cd_178).trans dL_law_1035
theorem e178_1036 : decode (ma_cd 178) 1036 = .ok (.iadd, 1) := (congrArg (fun b => decode b 1036) cd_178).trans dL_law_1036
theorem e178_1037 : decode (ma_cd 178) 1037 = .ok (.iaload, 1) := (congrArg (fun b => decode b 1037) cd_178).trans dL_law_1037
theorem e178_1038 : decode (ma_cd 178) 1038 = .ok (.invokevirtual 139, 3) := (congrArg (fun b => decode b 1038) cd_178).trans dL_law_1038
theorem e178_1041 : decode (ma_cd 178) 1041 = .ok (.if_icmp .eq 5, 3) := (congrArg (fun b => decode b 1041) cd_178).trans dL_law_1041
theorem e178_1044 : decode (ma_cd 178) 1044 = .ok (.iconst 0, 1) := (congrArg (fun b => decode b 1044) cd_178).trans dL_law_1044
theorem e178_1045 : decode (ma_cd 178) 1045 = .ok (.ireturn, 1) := (congrArg (fun b => decode b 1045) cd_178).trans dL_law_1045
theorem e178_1046 : decode (ma_cd 178) 1046 = .ok (.iinc 3 4, 3) := (congrArg (fun b => decode b 1046) cd_178).trans dL_law_1046
theorem e178_1049 : decode (ma_cd 178) 1049 = .ok (.goto (-1031), 3) := (congrArg (fun b => decode b 1049) cd_178).trans dL_law_1049
theorem e178_1052 : decode (ma_cd 178) 1052 = .ok (.iconst 1, 1) := (congrArg (fun b => decode b 1052) cd_178).trans dL_law_1052
theorem e178_1053 : decode (ma_cd 178) 1053 = .ok (.ireturn, 1) := (congrArg (fun b => decode b 1053) cd_178).trans dL_law_1053
theorem Sh178_18 {ro : ma_RO} {d : Nat} : (∀ (v0 : Option Value) (v1 : Option Value) (v2 : Option Value) (x1 : Int32) (st : List Value) (σ : ma_H), ma_rn ro d 178 (18, [v0, v1, v2, some (.int x1)], st, SH, σ) = ma_rn ro d 178 (19, [v0, v1, v2, some (.int x1)], .int x1 :: st, SH, σ)) := fun v0 v1 v2 x1 st σ => q_go e178_18 rfl rfl
set_option maxRecDepth 100000 in
theorem S178 {ro : ma_RO} {d : Nat} : (∀ (v0 : Option Value) (v1 : Option Value) (v2 : Option Value) (v3 : Option Value) (a1 : Nat) (st : List Value) (σ : ma_H), ma_rn ro d 178 (3, [v0, v1, v2, v3], .ref a1 :: st, SH, σ) = ma_rn ro d 178 (4, [v0, v1, v2, v3], .ref a1 :: .ref a1 :: st, SH, σ)) ∧
  (∀ (v1 : Option Value) (v2 : Option Value) (v3 : Option Value) (a9 : Nat) (a1 : Nat) (st : List Value) (σ : ma_H), ma_rn ro d 178 (7, [some (.ref a9), v1, v2, v3], .ref a1 :: st, SH, σ) = ma_rn ro d 178 (8, [some (.ref a9), some (.ref a1), v2, v3], st, SH, σ)) ∧
  (∀ (v0 : Option Value) (v1 : Option Value) (v2 : Option Value) (v3 : Option Value) (a1 : Nat) (st : List Value) (σ : ma_H), ma_rn ro d 178 (11, [v0, v1, v2, v3], .ref a1 :: st, SH, σ) = ma_rn ro d 178 (12, [v0, v1, v2, v3], .ref a1 :: .ref a1 :: st, SH, σ)) ∧
  (∀ (v0 : Option Value) (v2 : Option Value) (v3 : Option Value) (a9 : Nat) (a1 : Nat) (st : List Value) (σ : ma_H), ma_rn ro d 178 (15, [v0, some (.ref a9), v2, v3], .ref a1 :: st, SH, σ) = ma_rn ro d 178 (16, [v0, some (.ref a9), some (.ref a1), v3], st, SH, σ)) ∧
  (∀ (v0 : Option Value) (v1 : Option Value) (v2 : Option Value) (v3 : Option Value) (st : List Value) (σ : ma_H), ma_rn ro d 178 (16, [v0, v1, v2, v3], st, SH, σ) = ma_rn ro d 178 (17, [v0, v1, v2, v3], .int (nI 0) :: st, SH, σ)) ∧
  (∀ (v0 : Option Value) (v1 : Option Value) (v3 : Option Value) (a9 : Nat) (x1 : Int32) (st : List Value) (σ : ma_H), ma_rn ro d 178 (17, [v0, v1, some (.ref a9), v3], .int x1 :: st, SH, σ) = ma_rn ro d 178 (18, [v0, v1, some (.ref a9), some (.int x1)], st, SH, σ)) ∧
  (∀ (v1 : Option Value) (v2 : Option Value) (v3 : Option Value) (a1 : Nat) (st : List Value) (σ : ma_H), ma_rn ro d 178 (19, [some (.ref a1), v1, v2, v3], st, SH, σ) = ma_rn ro d 178 (20, [some (.ref a1), v1, v2, v3], .ref a1 :: st, SH, σ)) ∧
  (∀ (v0 : Option Value) (v1 : Option Value) (v2 : Option Value) (v3 : Option Value) (a1 : Nat) (st : List Value) (σ : ma_H) (hn : 0 < hk_alen a1), ma_rn ro d 178 (20, [v0, v1, v2, v3], .ref a1 :: st, SH, σ) = ma_rn ro d 178 (21, [v0, v1, v2, v3], .int (nI (hk_alen a1)) :: st, SH, σ)) ∧
  (∀ (v0 : Option Value) (v1 : Option Value) (v2 : Option Value) (v3 : Option Value) (st : List Value) (σ : ma_H), ma_rn ro d 178 (21, [v0, v1, v2, v3], st, SH, σ) = ma_rn ro d 178 (22, [v0, v1, v2, v3], .int (nI 4) :: st, SH, σ)) ∧
  (∀ (v0 : Option Value) (v1 : Option Value) (v2 : Option Value) (v3 : Option Value) (x1 : Int32) (x2 : Int32) (st : List Value) (σ : ma_H), ma_rn ro d 178 (22, [v0, v1, v2, v3], .int x1 :: .int x2 :: st, SH, σ) = ma_rn ro d 178 (23, [v0, v1, v2, v3], .int (x2 - x1) :: st, SH, σ)) ∧
  (∀ (v0 : Option Value) (v1 : Option Value) (v2 : Option Value) (v3 : Option Value) (x1 : Int32) (x2 : Int32) (st : List Value) (σ : ma_H), ma_rn ro d 178 (23, [v0, v1, v2, v3], .int x1 :: .int x2 :: st, SH, σ) = if x1 < x2 then ma_rn ro d 178 (1052, [v0, v1, v2, v3], st, SH, σ) else ma_rn ro d 178 (26, [v0, v1, v2, v3], st, SH, σ)) ∧
  (∀ (v1 : Option Value) (v2 : Option Value) (v3 : Option Value) (a1 : Nat) (st : List Value) (σ : ma_H), ma_rn ro d 178 (26, [some (.ref a1), v1, v2, v3], st, SH, σ) = ma_rn ro d 178 (27, [some (.ref a1), v1, v2, v3], .ref a1 :: st, SH, σ)) ∧
  (∀ (v0 : Option Value) (v1 : Option Value) (v2 : Option Value) (x1 : Int32) (st : List Value) (σ : ma_H), ma_rn ro d 178 (27, [v0, v1, v2, some (.int x1)], st, SH, σ) = ma_rn ro d 178 (28, [v0, v1, v2, some (.int x1)], .int x1 :: st, SH, σ)) ∧
  (∀ (v0 : Option Value) (v1 : Option Value) (v2 : Option Value) (v3 : Option Value) (k : Nat) (a2 : Nat) (st : List Value) (σ : ma_H) (hk : k < hk_len a2), ma_rn ro d 178 (28, [v0, v1, v2, v3], .int (nI k) :: .ref a2 :: st, SH, σ) = ma_rn ro d 178 (29, [v0, v1, v2, v3], .int (σ a2 k) :: st, SH, σ)) ∧
  (∀ (v0 : Option Value) (v1 : Option Value) (v2 : Option Value) (v3 : Option Value) (st : List Value) (σ : ma_H), ma_rn ro d 178 (29, [v0, v1, v2, v3], st, SH, σ) = ma_rn ro d 178 (31, [v0, v1, v2, v3], .int (nI 31) :: st, SH, σ)) ∧
  (∀ (v0 : Option Value) (v1 : Option Value) (v2 : Option Value) (v3 : Option Value) (x1 : Int32) (x2 : Int32) (st : List Value) (σ : ma_H), ma_rn ro d 178 (31, [v0, v1, v2, v3], .int x1 :: .int x2 :: st, SH, σ) = ma_rn ro d 178 (32, [v0, v1, v2, v3], .int (x2 &&& x1) :: st, SH, σ)) ∧
  (∀ (v0 : Option Value) (v1 : Option Value) (v2 : Option Value) (v3 : Option Value) (x1 : Int32) (st : List Value) (σ : ma_H), ma_rn ro d 178 (32, [v0, v1, v2, v3], .int x1 :: st, SH, σ) = if x1 = nI 0 then ma_rn ro d 178 (168, [v0, v1, v2, v3], st, SH, σ) else if x1 = nI 1 then ma_rn ro d 178 (191, [v0, v1, v2, v3], st, SH, σ) else if x1 = nI 2 then ma_rn ro d 178 (204, [v0, v1, v2, v3], st, SH, σ) else if x1 = nI 3 then ma_rn ro d 178 (237, [v0, v1, v2, v3], st, SH, σ) else if x1 = nI 4 then ma_rn ro d 178 (270, [v0, v1, v2, v3], st, SH, σ) else if x1 = nI 5 then ma_rn ro d 178 (313, [v0, v1, v2, v3], st, SH, σ) else if x1 = nI 6 then ma_rn ro d 178 (356, [v0, v1, v2, v3], st, SH, σ) else if x1 = nI 7 then ma_rn ro d 178 (379, [v0, v1, v2, v3], st, SH, σ) else if x1 = nI 8 then ma_rn ro d 178 (402, [v0, v1, v2, v3], st, SH, σ) else if x1 = nI 9 then ma_rn ro d 178 (435, [v0, v1, v2, v3], st, SH, σ) else if x1 = nI 10 then ma_rn ro d 178 (458, [v0, v1, v2, v3], st, SH, σ) else if x1 = nI 11 then ma_rn ro d 178 (481, [v0, v1, v2, v3], st, SH, σ) else if x1 = nI 12 then ma_rn ro d 178 (514, [v0, v1, v2, v3], st, SH, σ) else if x1 = nI 13 then ma_rn ro d 178 (547, [v0, v1, v2, v3], st, SH, σ) else if x1 = nI 14 then ma_rn ro d 178 (590, [v0, v1, v2, v3], st, SH, σ) else if x1 = nI 15 then ma_rn ro d 178 (649, [v0, v1, v2, v3], st, SH, σ) else if x1 = nI 16 then ma_rn ro d 178 (672, [v0, v1, v2, v3], st, SH, σ) else if x1 = nI 17 then ma_rn ro d 178 (705, [v0, v1, v2, v3], st, SH, σ) else if x1 = nI 18 then ma_rn ro d 178 (728, [v0, v1, v2, v3], st, SH, σ) else if x1 = nI 19 then ma_rn ro d 178 (772, [v0, v1, v2, v3], st, SH, σ) else if x1 = nI 20 then ma_rn ro d 178 (796, [v0, v1, v2, v3], st, SH, σ) else if x1 = nI 21 then ma_rn ro d 178 (829, [v0, v1, v2, v3], st, SH, σ) else if x1 = nI 22 then ma_rn ro d 178 (852, [v0, v1, v2, v3], st, SH, σ) else if x1 = nI 23 then ma_rn ro d 178 (885, [v0, v1, v2, v3], st, SH, σ) else if x1 = nI 24 then ma_rn ro d 178 (898, [v0, v1, v2, v3], st, SH, σ) else if x1 = nI 25 then ma_rn ro d 178 (941, [v0, v1, v2, v3], st, SH, σ) else if x1 = nI 26 then ma_rn ro d 178 (964, [v0, v1, v2, v3], st, SH, σ) else if x1 = nI 27 then ma_rn ro d 178 (997, [v0, v1, v2, v3], st, SH, σ) else if x1 = nI 28 then ma_rn ro d 178 (1010, [v0, v1, v2, v3], st, SH, σ) else if x1 = nI 29 then ma_rn ro d 178 (1023, [v0, v1, v2, v3], st, SH, σ) else ma_rn ro d 178 (1046, [v0, v1, v2, v3], st, SH, σ)) ∧
  (∀ (v0 : Option Value) (v2 : Option Value) (v3 : Option Value) (a1 : Nat) (st : List Value) (σ : ma_H), ma_rn ro d 178 (168, [v0, some (.ref a1), v2, v3], st, SH, σ) = ma_rn ro d 178 (169, [v0, some (.ref a1), v2, v3], .ref a1 :: st, SH, σ)) ∧
  (∀ (v1 : Option Value) (v2 : Option Value) (v3 : Option Value) (a1 : Nat) (st : List Value) (σ : ma_H), ma_rn ro d 178 (169, [some (.ref a1), v1, v2, v3], st, SH, σ) = ma_rn ro d 178 (170, [some (.ref a1), v1, v2, v3], .ref a1 :: st, SH, σ)) ∧
  (∀ (v0 : Option Value) (v1 : Option Value) (v2 : Option Value) (x1 : Int32) (st : List Value) (σ : ma_H), ma_rn ro d 178 (170, [v0, v1, v2, some (.int x1)], st, SH, σ) = ma_rn ro d 178 (171, [v0, v1, v2, some (.int x1)], .int x1 :: st, SH, σ)) ∧
  (∀ (v0 : Option Value) (v1 : Option Value) (v2 : Option Value) (v3 : Option Value) (st : List Value) (σ : ma_H), ma_rn ro d 178 (171, [v0, v1, v2, v3], st, SH, σ) = ma_rn ro d 178 (172, [v0, v1, v2, v3], .int (nI 1) :: st, SH, σ)) ∧
  (∀ (v0 : Option Value) (v1 : Option Value) (v2 : Option Value) (v3 : Option Value) (x1 : Int32) (x2 : Int32) (st : List Value) (σ : ma_H), ma_rn ro d 178 (172, [v0, v1, v2, v3], .int x1 :: .int x2 :: st, SH, σ) = ma_rn ro d 178 (173, [v0, v1, v2, v3], .int (x2 + x1) :: st, SH, σ)) ∧
  (∀ (v0 : Option Value) (v1 : Option Value) (v2 : Option Value) (v3 : Option Value) (k : Nat) (a2 : Nat) (st : List Value) (σ : ma_H) (hk : k < hk_len a2), ma_rn ro d 178 (173, [v0, v1, v2, v3], .int (nI k) :: .ref a2 :: st, SH, σ) = ma_rn ro d 178 (174, [v0, v1, v2, v3], .int (σ a2 k) :: st, SH, σ)) ∧
  (∀ (v0 : Option Value) (v1 : Option Value) (v2 : Option Value) (v3 : Option Value) (x1 : Int32) (a0 : Nat) (σ : ma_H) (hc : hk_cls a0 = 7), ma_rn ro (d + 1) 178 (174, [v0, v1, v2, v3], .int x1 :: .ref a0 :: [], SH, σ) = (ma_ev ro d 58 [.ref a0, .int x1] SH σ).bind (fun q => ma_rn ro (d + 1) 178 (177, [v0, v1, v2, v3], (q.1.toList ++ []), q.2.1, q.2.2))) ∧
  (∀ (v0 : Option Value) (v1 : Option Value) (v3 : Option Value) (a1 : Nat) (st : List Value) (σ : ma_H), ma_rn ro d 178 (177, [v0, v1, some (.ref a1), v3], st, SH, σ) = ma_rn ro d 178 (178, [v0, v1, some (.ref a1), v3], .ref a1 :: st, SH, σ)) ∧
  (∀ (v1 : Option Value) (v2 : Option Value) (v3 : Option Value) (a1 : Nat) (st : List Value) (σ : ma_H), ma_rn ro d 178 (178, [some (.ref a1), v1, v2, v3], st, SH, σ) = ma_rn ro d 178 (179, [some (.ref a1), v1, v2, v3], .ref a1 :: st, SH, σ)) ∧
  (∀ (v0 : Option Value) (v1 : Option Value) (v2 : Option Value) (x1 : Int32) (st : List Value) (σ : ma_H), ma_rn ro d 178 (179, [v0, v1, v2, some (.int x1)], st, SH, σ) = ma_rn ro d 178 (180, [v0, v1, v2, some (.int x1)], .int x1 :: st, SH, σ)) ∧
  (∀ (v0 : Option Value) (v1 : Option Value) (v2 : Option Value) (v3 : Option Value) (st : List Value) (σ : ma_H), ma_rn ro d 178 (180, [v0, v1, v2, v3], st, SH, σ) = ma_rn ro d 178 (181, [v0, v1, v2, v3], .int (nI 1) :: st, SH, σ)) ∧
  (∀ (v0 : Option Value) (v1 : Option Value) (v2 : Option Value) (v3 : Option Value) (x1 : Int32) (x2 : Int32) (st : List Value) (σ : ma_H), ma_rn ro d 178 (181, [v0, v1, v2, v3], .int x1 :: .int x2 :: st, SH, σ) = ma_rn ro d 178 (182, [v0, v1, v2, v3], .int (x2 + x1) :: st, SH, σ)) ∧
  (∀ (v0 : Option Value) (v1 : Option Value) (v2 : Option Value) (v3 : Option Value) (k : Nat) (a2 : Nat) (st : List Value) (σ : ma_H) (hk : k < hk_len a2), ma_rn ro d 178 (182, [v0, v1, v2, v3], .int (nI k) :: .ref a2 :: st, SH, σ) = ma_rn ro d 178 (183, [v0, v1, v2, v3], .int (σ a2 k) :: st, SH, σ)) ∧
  (∀ (v0 : Option Value) (v1 : Option Value) (v2 : Option Value) (v3 : Option Value) (x20 : Int32) (x1 : Int32) (a0 : Nat) (σ : ma_H) (hc : hk_cls a0 = 8), ma_rn ro (d + 1) 178 (183, [v0, v1, v2, v3], .int x1 :: .ref a0 :: .int x20 :: [], SH, σ) = (ma_ev ro d 107 [.ref a0, .int x1] SH σ).bind (fun q => ma_rn ro (d + 1) 178 (186, [v0, v1, v2, v3], (q.1.toList ++ (.int x20 :: [])), q.2.1, q.2.2))) ∧
  (∀ (v0 : Option Value) (v1 : Option Value) (v2 : Option Value) (v3 : Option Value) (x1 : Int32) (x2 : Int32) (st : List Value) (σ : ma_H), ma_rn ro d 178 (186, [v0, v1, v2, v3], .int x1 :: .int x2 :: st, SH, σ) = if x2 = x1 then ma_rn ro d 178 (1046, [v0, v1, v2, v3], st, SH, σ) else ma_rn ro d 178 (189, [v0, v1, v2, v3], st, SH, σ)) ∧
  (∀ (v0 : Option Value) (v1 : Option Value) (v2 : Option Value) (v3 : Option Value) (st : List Value) (σ : ma_H), ma_rn ro d 178 (189, [v0, v1, v2, v3], st, SH, σ) = ma_rn ro d 178 (190, [v0, v1, v2, v3], .int (nI 0) :: st, SH, σ)) ∧
  (∀ (v0 : Option Value) (v1 : Option Value) (v2 : Option Value) (v3 : Option Value) (x1 : Int32) (σ : ma_H) (hx : ma_fitI .boolean x1 = true), ma_rn ro d 178 (190, [v0, v1, v2, v3], [.int x1], SH, σ) = some (some (.int x1), SH, σ)) ∧
  (∀ (v0 : Option Value) (v2 : Option Value) (v3 : Option Value) (a1 : Nat) (st : List Value) (σ : ma_H), ma_rn ro d 178 (191, [v0, some (.ref a1), v2, v3], st, SH, σ) = ma_rn ro d 178 (192, [v0, some (.ref a1), v2, v3], .ref a1 :: st, SH, σ)) ∧
  (∀ (v0 : Option Value) (v1 : Option Value) (v2 : Option Value) (v3 : Option Value) (a0 : Nat) (σ : ma_H) (hc : hk_cls a0 = 7), ma_rn ro (d + 1) 178 (192, [v0, v1, v2, v3], .ref a0 :: [], SH, σ) = (ma_ev ro d 59 [.ref a0] SH σ).bind (fun q => ma_rn ro (d + 1) 178 (195, [v0, v1, v2, v3], (q.1.toList ++ []), q.2.1, q.2.2))) ∧
  (∀ (v0 : Option Value) (v1 : Option Value) (v3 : Option Value) (a1 : Nat) (st : List Value) (σ : ma_H), ma_rn ro d 178 (195, [v0, v1, some (.ref a1), v3], st, SH, σ) = ma_rn ro d 178 (196, [v0, v1, some (.ref a1), v3], .ref a1 :: st, SH, σ)) ∧
  (∀ (v0 : Option Value) (v1 : Option Value) (v2 : Option Value) (v3 : Option Value) (x20 : Int32) (a0 : Nat) (σ : ma_H) (hc : hk_cls a0 = 8), ma_rn ro (d + 1) 178 (196, [v0, v1, v2, v3], .ref a0 :: .int x20 :: [], SH, σ) = (ma_ev ro d 121 [.ref a0] SH σ).bind (fun q => ma_rn ro (d + 1) 178 (199, [v0, v1, v2, v3], (q.1.toList ++ (.int x20 :: [])), q.2.1, q.2.2))) ∧
  (∀ (v0 : Option Value) (v1 : Option Value) (v2 : Option Value) (v3 : Option Value) (x1 : Int32) (x2 : Int32) (st : List Value) (σ : ma_H), ma_rn ro d 178 (199, [v0, v1, v2, v3], .int x1 :: .int x2 :: st, SH, σ) = if x2 = x1 then ma_rn ro d 178 (1046, [v0, v1, v2, v3], st, SH, σ) else ma_rn ro d 178 (202, [v0, v1, v2, v3], st, SH, σ)) ∧
  (∀ (v0 : Option Value) (v1 : Option Value) (v2 : Option Value) (v3 : Option Value) (st : List Value) (σ : ma_H), ma_rn ro d 178 (202, [v0, v1, v2, v3], st, SH, σ) = ma_rn ro d 178 (203, [v0, v1, v2, v3], .int (nI 0) :: st, SH, σ)) ∧
  (∀ (v0 : Option Value) (v1 : Option Value) (v2 : Option Value) (v3 : Option Value) (x1 : Int32) (σ : ma_H) (hx : ma_fitI .boolean x1 = true), ma_rn ro d 178 (203, [v0, v1, v2, v3], [.int x1], SH, σ) = some (some (.int x1), SH, σ)) ∧
  (∀ (v0 : Option Value) (v2 : Option Value) (v3 : Option Value) (a1 : Nat) (st : List Value) (σ : ma_H), ma_rn ro d 178 (204, [v0, some (.ref a1), v2, v3], st, SH, σ) = ma_rn ro d 178 (205, [v0, some (.ref a1), v2, v3], .ref a1 :: st, SH, σ)) ∧
  (∀ (v1 : Option Value) (v2 : Option Value) (v3 : Option Value) (a1 : Nat) (st : List Value) (σ : ma_H), ma_rn ro d 178 (205, [some (.ref a1), v1, v2, v3], st, SH, σ) = ma_rn ro d 178 (206, [some (.ref a1), v1, v2, v3], .ref a1 :: st, SH, σ)) ∧
  (∀ (v0 : Option Value) (v1 : Option Value) (v2 : Option Value) (x1 : Int32) (st : List Value) (σ : ma_H), ma_rn ro d 178 (206, [v0, v1, v2, some (.int x1)], st, SH, σ) = ma_rn ro d 178 (207, [v0, v1, v2, some (.int x1)], .int x1 :: st, SH, σ)) ∧
  (∀ (v0 : Option Value) (v1 : Option Value) (v2 : Option Value) (v3 : Option Value) (st : List Value) (σ : ma_H), ma_rn ro d 178 (207, [v0, v1, v2, v3], st, SH, σ) = ma_rn ro d 178 (208, [v0, v1, v2, v3], .int (nI 1) :: st, SH, σ)) ∧
  (∀ (v0 : Option Value) (v1 : Option Value) (v2 : Option Value) (v3 : Option Value) (x1 : Int32) (x2 : Int32) (st : List Value) (σ : ma_H), ma_rn ro d 178 (208, [v0, v1, v2, v3], .int x1 :: .int x2 :: st, SH, σ) = ma_rn ro d 178 (209, [v0, v1, v2, v3], .int (x2 + x1) :: st, SH, σ)) ∧
  (∀ (v0 : Option Value) (v1 : Option Value) (v2 : Option Value) (v3 : Option Value) (k : Nat) (a2 : Nat) (st : List Value) (σ : ma_H) (hk : k < hk_len a2), ma_rn ro d 178 (209, [v0, v1, v2, v3], .int (nI k) :: .ref a2 :: st, SH, σ) = ma_rn ro d 178 (210, [v0, v1, v2, v3], .int (σ a2 k) :: st, SH, σ)) ∧
  (∀ (v1 : Option Value) (v2 : Option Value) (v3 : Option Value) (a1 : Nat) (st : List Value) (σ : ma_H), ma_rn ro d 178 (210, [some (.ref a1), v1, v2, v3], st, SH, σ) = ma_rn ro d 178 (211, [some (.ref a1), v1, v2, v3], .ref a1 :: st, SH, σ)) ∧
  (∀ (v0 : Option Value) (v1 : Option Value) (v2 : Option Value) (x1 : Int32) (st : List Value) (σ : ma_H), ma_rn ro d 178 (211, [v0, v1, v2, some (.int x1)], st, SH, σ) = ma_rn ro d 178 (212, [v0, v1, v2, some (.int x1)], .int x1 :: st, SH, σ)) ∧
  (∀ (v0 : Option Value) (v1 : Option Value) (v2 : Option Value) (v3 : Option Value) (st : List Value) (σ : ma_H), ma_rn ro d 178 (212, [v0, v1, v2, v3], st, SH, σ) = ma_rn ro d 178 (213, [v0, v1, v2, v3], .int (nI 2) :: st, SH, σ)) ∧
  (∀ (v0 : Option Value) (v1 : Option Value) (v2 : Option Value) (v3 : Option Value) (x1 : Int32) (x2 : Int32) (st : List Value) (σ : ma_H), ma_rn ro d 178 (213, [v0, v1, v2, v3], .int x1 :: .int x2 :: st, SH, σ) = ma_rn ro d 178 (214, [v0, v1, v2, v3], .int (x2 + x1) :: st, SH, σ)) ∧
  (∀ (v0 : Option Value) (v1 : Option Value) (v2 : Option Value) (v3 : Option Value) (k : Nat) (a2 : Nat) (st : List Value) (σ : ma_H) (hk : k < hk_len a2), ma_rn ro d 178 (214, [v0, v1, v2, v3], .int (nI k) :: .ref a2 :: st, SH, σ) = ma_rn ro d 178 (215, [v0, v1, v2, v3], .int (σ a2 k) :: st, SH, σ)) ∧
  (∀ (v0 : Option Value) (v1 : Option Value) (v2 : Option Value) (v3 : Option Value) (x1 : Int32) (x2 : Int32) (a0 : Nat) (σ : ma_H) (hc : hk_cls a0 = 7), ma_rn ro (d + 1) 178 (215, [v0, v1, v2, v3], .int x2 :: .int x1 :: .ref a0 :: [], SH, σ) = (ma_ev ro d 60 [.ref a0, .int x1, .int x2] SH σ).bind (fun q => ma_rn ro (d + 1) 178 (218, [v0, v1, v2, v3], (q.1.toList ++ []), q.2.1, q.2.2))) ∧
  (∀ (v0 : Option Value) (v1 : Option Value) (v3 : Option Value) (a1 : Nat) (st : List Value) (σ : ma_H), ma_rn ro d 178 (218, [v0, v1, some (.ref a1), v3], st, SH, σ) = ma_rn ro d 178 (219, [v0, v1, some (.ref a1), v3], .ref a1 :: st, SH, σ)) ∧
  (∀ (v1 : Option Value) (v2 : Option Value) (v3 : Option Value) (a1 : Nat) (st : List Value) (σ : ma_H), ma_rn ro d 178 (219, [some (.ref a1), v1, v2, v3], st, SH, σ) = ma_rn ro d 178 (220, [some (.ref a1), v1, v2, v3], .ref a1 :: st, SH, σ)) ∧
  (∀ (v0 : Option Value) (v1 : Option Value) (v2 : Option Value) (x1 : Int32) (st : List Value) (σ : ma_H), ma_rn ro d 178 (220, [v0, v1, v2, some (.int x1)], st, SH, σ) = ma_rn ro d 178 (221, [v0, v1, v2, some (.int x1)], .int x1 :: st, SH, σ)) ∧
  (∀ (v0 : Option Value) (v1 : Option Value) (v2 : Option Value) (v3 : Option Value) (st : List Value) (σ : ma_H), ma_rn ro d 178 (221, [v0, v1, v2, v3], st, SH, σ) = ma_rn ro d 178 (222, [v0, v1, v2, v3], .int (nI 1) :: st, SH, σ)) ∧
  (∀ (v0 : Option Value) (v1 : Option Value) (v2 : Option Value) (v3 : Option Value) (x1 : Int32) (x2 : Int32) (st : List Value) (σ : ma_H), ma_rn ro d 178 (222, [v0, v1, v2, v3], .int x1 :: .int x2 :: st, SH, σ) = ma_rn ro d 178 (223, [v0, v1, v2, v3], .int (x2 + x1) :: st, SH, σ)) ∧
  (∀ (v0 : Option Value) (v1 : Option Value) (v2 : Option Value) (v3 : Option Value) (k : Nat) (a2 : Nat) (st : List Value) (σ : ma_H) (hk : k < hk_len a2), ma_rn ro d 178 (223, [v0, v1, v2, v3], .int (nI k) :: .ref a2 :: st, SH, σ) = ma_rn ro d 178 (224, [v0, v1, v2, v3], .int (σ a2 k) :: st, SH, σ)) ∧
  (∀ (v1 : Option Value) (v2 : Option Value) (v3 : Option Value) (a1 : Nat) (st : List Value) (σ : ma_H), ma_rn ro d 178 (224, [some (.ref a1), v1, v2, v3], st, SH, σ) = ma_rn ro d 178 (225, [some (.ref a1), v1, v2, v3], .ref a1 :: st, SH, σ)) ∧
  (∀ (v0 : Option Value) (v1 : Option Value) (v2 : Option Value) (x1 : Int32) (st : List Value) (σ : ma_H), ma_rn ro d 178 (225, [v0, v1, v2, some (.int x1)], st, SH, σ) = ma_rn ro d 178 (226, [v0, v1, v2, some (.int x1)], .int x1 :: st, SH, σ)) ∧
  (∀ (v0 : Option Value) (v1 : Option Value) (v2 : Option Value) (v3 : Option Value) (st : List Value) (σ : ma_H), ma_rn ro d 178 (226, [v0, v1, v2, v3], st, SH, σ) = ma_rn ro d 178 (227, [v0, v1, v2, v3], .int (nI 2) :: st, SH, σ)) ∧
  (∀ (v0 : Option Value) (v1 : Option Value) (v2 : Option Value) (v3 : Option Value) (x1 : Int32) (x2 : Int32) (st : List Value) (σ : ma_H), ma_rn ro d 178 (227, [v0, v1, v2, v3], .int x1 :: .int x2 :: st, SH, σ) = ma_rn ro d 178 (228, [v0, v1, v2, v3], .int (x2 + x1) :: st, SH, σ)) ∧
  (∀ (v0 : Option Value) (v1 : Option Value) (v2 : Option Value) (v3 : Option Value) (k : Nat) (a2 : Nat) (st : List Value) (σ : ma_H) (hk : k < hk_len a2), ma_rn ro d 178 (228, [v0, v1, v2, v3], .int (nI k) :: .ref a2 :: st, SH, σ) = ma_rn ro d 178 (229, [v0, v1, v2, v3], .int (σ a2 k) :: st, SH, σ)) ∧
  (∀ (v0 : Option Value) (v1 : Option Value) (v2 : Option Value) (v3 : Option Value) (x20 : Int32) (x1 : Int32) (x2 : Int32) (a0 : Nat) (σ : ma_H) (hc : hk_cls a0 = 8), ma_rn ro (d + 1) 178 (229, [v0, v1, v2, v3], .int x2 :: .int x1 :: .ref a0 :: .int x20 :: [], SH, σ) = (ma_ev ro d 128 [.ref a0, .int x1, .int x2] SH σ).bind (fun q => ma_rn ro (d + 1) 178 (232, [v0, v1, v2, v3], (q.1.toList ++ (.int x20 :: [])), q.2.1, q.2.2))) ∧
  (∀ (v0 : Option Value) (v1 : Option Value) (v2 : Option Value) (v3 : Option Value) (x1 : Int32) (x2 : Int32) (st : List Value) (σ : ma_H), ma_rn ro d 178 (232, [v0, v1, v2, v3], .int x1 :: .int x2 :: st, SH, σ) = if x2 = x1 then ma_rn ro d 178 (1046, [v0, v1, v2, v3], st, SH, σ) else ma_rn ro d 178 (235, [v0, v1, v2, v3], st, SH, σ)) ∧
  (∀ (v0 : Option Value) (v1 : Option Value) (v2 : Option Value) (v3 : Option Value) (st : List Value) (σ : ma_H), ma_rn ro d 178 (235, [v0, v1, v2, v3], st, SH, σ) = ma_rn ro d 178 (236, [v0, v1, v2, v3], .int (nI 0) :: st, SH, σ)) ∧
  (∀ (v0 : Option Value) (v1 : Option Value) (v2 : Option Value) (v3 : Option Value) (x1 : Int32) (σ : ma_H) (hx : ma_fitI .boolean x1 = true), ma_rn ro d 178 (236, [v0, v1, v2, v3], [.int x1], SH, σ) = some (some (.int x1), SH, σ)) ∧
  (∀ (v0 : Option Value) (v2 : Option Value) (v3 : Option Value) (a1 : Nat) (st : List Value) (σ : ma_H), ma_rn ro d 178 (237, [v0, some (.ref a1), v2, v3], st, SH, σ) = ma_rn ro d 178 (238, [v0, some (.ref a1), v2, v3], .ref a1 :: st, SH, σ)) ∧
  (∀ (v1 : Option Value) (v2 : Option Value) (v3 : Option Value) (a1 : Nat) (st : List Value) (σ : ma_H), ma_rn ro d 178 (238, [some (.ref a1), v1, v2, v3], st, SH, σ) = ma_rn ro d 178 (239, [some (.ref a1), v1, v2, v3], .ref a1 :: st, SH, σ)) ∧
  (∀ (v0 : Option Value) (v1 : Option Value) (v2 : Option Value) (x1 : Int32) (st : List Value) (σ : ma_H), ma_rn ro d 178 (239, [v0, v1, v2, some (.int x1)], st, SH, σ) = ma_rn ro d 178 (240, [v0, v1, v2, some (.int x1)], .int x1 :: st, SH, σ)) ∧
  (∀ (v0 : Option Value) (v1 : Option Value) (v2 : Option Value) (v3 : Option Value) (st : List Value) (σ : ma_H), ma_rn ro d 178 (240, [v0, v1, v2, v3], st, SH, σ) = ma_rn ro d 178 (241, [v0, v1, v2, v3], .int (nI 1) :: st, SH, σ)) ∧
  (∀ (v0 : Option Value) (v1 : Option Value) (v2 : Option Value) (v3 : Option Value) (x1 : Int32) (x2 : Int32) (st : List Value) (σ : ma_H), ma_rn ro d 178 (241, [v0, v1, v2, v3], .int x1 :: .int x2 :: st, SH, σ) = ma_rn ro d 178 (242, [v0, v1, v2, v3], .int (x2 + x1) :: st, SH, σ)) ∧
  (∀ (v0 : Option Value) (v1 : Option Value) (v2 : Option Value) (v3 : Option Value) (k : Nat) (a2 : Nat) (st : List Value) (σ : ma_H) (hk : k < hk_len a2), ma_rn ro d 178 (242, [v0, v1, v2, v3], .int (nI k) :: .ref a2 :: st, SH, σ) = ma_rn ro d 178 (243, [v0, v1, v2, v3], .int (σ a2 k) :: st, SH, σ)) ∧
  (∀ (v1 : Option Value) (v2 : Option Value) (v3 : Option Value) (a1 : Nat) (st : List Value) (σ : ma_H), ma_rn ro d 178 (243, [some (.ref a1), v1, v2, v3], st, SH, σ) = ma_rn ro d 178 (244, [some (.ref a1), v1, v2, v3], .ref a1 :: st, SH, σ)) ∧
  (∀ (v0 : Option Value) (v1 : Option Value) (v2 : Option Value) (x1 : Int32) (st : List Value) (σ : ma_H), ma_rn ro d 178 (244, [v0, v1, v2, some (.int x1)], st, SH, σ) = ma_rn ro d 178 (245, [v0, v1, v2, some (.int x1)], .int x1 :: st, SH, σ)) ∧
  (∀ (v0 : Option Value) (v1 : Option Value) (v2 : Option Value) (v3 : Option Value) (st : List Value) (σ : ma_H), ma_rn ro d 178 (245, [v0, v1, v2, v3], st, SH, σ) = ma_rn ro d 178 (246, [v0, v1, v2, v3], .int (nI 2) :: st, SH, σ)) ∧
  (∀ (v0 : Option Value) (v1 : Option Value) (v2 : Option Value) (v3 : Option Value) (x1 : Int32) (x2 : Int32) (st : List Value) (σ : ma_H), ma_rn ro d 178 (246, [v0, v1, v2, v3], .int x1 :: .int x2 :: st, SH, σ) = ma_rn ro d 178 (247, [v0, v1, v2, v3], .int (x2 + x1) :: st, SH, σ)) ∧
  (∀ (v0 : Option Value) (v1 : Option Value) (v2 : Option Value) (v3 : Option Value) (k : Nat) (a2 : Nat) (st : List Value) (σ : ma_H) (hk : k < hk_len a2), ma_rn ro d 178 (247, [v0, v1, v2, v3], .int (nI k) :: .ref a2 :: st, SH, σ) = ma_rn ro d 178 (248, [v0, v1, v2, v3], .int (σ a2 k) :: st, SH, σ)) ∧
  (∀ (v0 : Option Value) (v1 : Option Value) (v2 : Option Value) (v3 : Option Value) (x1 : Int32) (x2 : Int32) (a0 : Nat) (σ : ma_H) (hc : hk_cls a0 = 7), ma_rn ro (d + 1) 178 (248, [v0, v1, v2, v3], .int x2 :: .int x1 :: .ref a0 :: [], SH, σ) = (ma_ev ro d 61 [.ref a0, .int x1, .int x2] SH σ).bind (fun q => ma_rn ro (d + 1) 178 (251, [v0, v1, v2, v3], (q.1.toList ++ []), q.2.1, q.2.2))) ∧
  (∀ (v0 : Option Value) (v1 : Option Value) (v3 : Option Value) (a1 : Nat) (st : List Value) (σ : ma_H), ma_rn ro d 178 (251, [v0, v1, some (.ref a1), v3], st, SH, σ) = ma_rn ro d 178 (252, [v0, v1, some (.ref a1), v3], .ref a1 :: st, SH, σ)) ∧
  (∀ (v1 : Option Value) (v2 : Option Value) (v3 : Option Value) (a1 : Nat) (st : List Value) (σ : ma_H), ma_rn ro d 178 (252, [some (.ref a1), v1, v2, v3], st, SH, σ) = ma_rn ro d 178 (253, [some (.ref a1), v1, v2, v3], .ref a1 :: st, SH, σ)) ∧
  (∀ (v0 : Option Value) (v1 : Option Value) (v2 : Option Value) (x1 : Int32) (st : List Value) (σ : ma_H), ma_rn ro d 178 (253, [v0, v1, v2, some (.int x1)], st, SH, σ) = ma_rn ro d 178 (254, [v0, v1, v2, some (.int x1)], .int x1 :: st, SH, σ)) ∧
  (∀ (v0 : Option Value) (v1 : Option Value) (v2 : Option Value) (v3 : Option Value) (st : List Value) (σ : ma_H), ma_rn ro d 178 (254, [v0, v1, v2, v3], st, SH, σ) = ma_rn ro d 178 (255, [v0, v1, v2, v3], .int (nI 1) :: st, SH, σ)) ∧
  (∀ (v0 : Option Value) (v1 : Option Value) (v2 : Option Value) (v3 : Option Value) (x1 : Int32) (x2 : Int32) (st : List Value) (σ : ma_H), ma_rn ro d 178 (255, [v0, v1, v2, v3], .int x1 :: .int x2 :: st, SH, σ) = ma_rn ro d 178 (256, [v0, v1, v2, v3], .int (x2 + x1) :: st, SH, σ)) ∧
  (∀ (v0 : Option Value) (v1 : Option Value) (v2 : Option Value) (v3 : Option Value) (k : Nat) (a2 : Nat) (st : List Value) (σ : ma_H) (hk : k < hk_len a2), ma_rn ro d 178 (256, [v0, v1, v2, v3], .int (nI k) :: .ref a2 :: st, SH, σ) = ma_rn ro d 178 (257, [v0, v1, v2, v3], .int (σ a2 k) :: st, SH, σ)) ∧
  (∀ (v1 : Option Value) (v2 : Option Value) (v3 : Option Value) (a1 : Nat) (st : List Value) (σ : ma_H), ma_rn ro d 178 (257, [some (.ref a1), v1, v2, v3], st, SH, σ) = ma_rn ro d 178 (258, [some (.ref a1), v1, v2, v3], .ref a1 :: st, SH, σ)) ∧
  (∀ (v0 : Option Value) (v1 : Option Value) (v2 : Option Value) (x1 : Int32) (st : List Value) (σ : ma_H), ma_rn ro d 178 (258, [v0, v1, v2, some (.int x1)], st, SH, σ) = ma_rn ro d 178 (259, [v0, v1, v2, some (.int x1)], .int x1 :: st, SH, σ)) ∧
  (∀ (v0 : Option Value) (v1 : Option Value) (v2 : Option Value) (v3 : Option Value) (st : List Value) (σ : ma_H), ma_rn ro d 178 (259, [v0, v1, v2, v3], st, SH, σ) = ma_rn ro d 178 (260, [v0, v1, v2, v3], .int (nI 2) :: st, SH, σ)) ∧
  (∀ (v0 : Option Value) (v1 : Option Value) (v2 : Option Value) (v3 : Option Value) (x1 : Int32) (x2 : Int32) (st : List Value) (σ : ma_H), ma_rn ro d 178 (260, [v0, v1, v2, v3], .int x1 :: .int x2 :: st, SH, σ) = ma_rn ro d 178 (261, [v0, v1, v2, v3], .int (x2 + x1) :: st, SH, σ)) ∧
  (∀ (v0 : Option Value) (v1 : Option Value) (v2 : Option Value) (v3 : Option Value) (k : Nat) (a2 : Nat) (st : List Value) (σ : ma_H) (hk : k < hk_len a2), ma_rn ro d 178 (261, [v0, v1, v2, v3], .int (nI k) :: .ref a2 :: st, SH, σ) = ma_rn ro d 178 (262, [v0, v1, v2, v3], .int (σ a2 k) :: st, SH, σ)) ∧
  (∀ (v0 : Option Value) (v1 : Option Value) (v2 : Option Value) (v3 : Option Value) (x20 : Int32) (x1 : Int32) (x2 : Int32) (a0 : Nat) (σ : ma_H) (hc : hk_cls a0 = 8), ma_rn ro (d + 1) 178 (262, [v0, v1, v2, v3], .int x2 :: .int x1 :: .ref a0 :: .int x20 :: [], SH, σ) = (ma_ev ro d 129 [.ref a0, .int x1, .int x2] SH σ).bind (fun q => ma_rn ro (d + 1) 178 (265, [v0, v1, v2, v3], (q.1.toList ++ (.int x20 :: [])), q.2.1, q.2.2))) ∧
  (∀ (v0 : Option Value) (v1 : Option Value) (v2 : Option Value) (v3 : Option Value) (x1 : Int32) (x2 : Int32) (st : List Value) (σ : ma_H), ma_rn ro d 178 (265, [v0, v1, v2, v3], .int x1 :: .int x2 :: st, SH, σ) = if x2 = x1 then ma_rn ro d 178 (1046, [v0, v1, v2, v3], st, SH, σ) else ma_rn ro d 178 (268, [v0, v1, v2, v3], st, SH, σ)) ∧
  (∀ (v0 : Option Value) (v1 : Option Value) (v2 : Option Value) (v3 : Option Value) (st : List Value) (σ : ma_H), ma_rn ro d 178 (268, [v0, v1, v2, v3], st, SH, σ) = ma_rn ro d 178 (269, [v0, v1, v2, v3], .int (nI 0) :: st, SH, σ)) ∧
  (∀ (v0 : Option Value) (v1 : Option Value) (v2 : Option Value) (v3 : Option Value) (x1 : Int32) (σ : ma_H) (hx : ma_fitI .boolean x1 = true), ma_rn ro d 178 (269, [v0, v1, v2, v3], [.int x1], SH, σ) = some (some (.int x1), SH, σ)) ∧
  (∀ (v0 : Option Value) (v2 : Option Value) (v3 : Option Value) (a1 : Nat) (st : List Value) (σ : ma_H), ma_rn ro d 178 (270, [v0, some (.ref a1), v2, v3], st, SH, σ) = ma_rn ro d 178 (271, [v0, some (.ref a1), v2, v3], .ref a1 :: st, SH, σ)) ∧
  (∀ (v1 : Option Value) (v2 : Option Value) (v3 : Option Value) (a1 : Nat) (st : List Value) (σ : ma_H), ma_rn ro d 178 (271, [some (.ref a1), v1, v2, v3], st, SH, σ) = ma_rn ro d 178 (272, [some (.ref a1), v1, v2, v3], .ref a1 :: st, SH, σ)) ∧
  (∀ (v0 : Option Value) (v1 : Option Value) (v2 : Option Value) (x1 : Int32) (st : List Value) (σ : ma_H), ma_rn ro d 178 (272, [v0, v1, v2, some (.int x1)], st, SH, σ) = ma_rn ro d 178 (273, [v0, v1, v2, some (.int x1)], .int x1 :: st, SH, σ)) ∧
  (∀ (v0 : Option Value) (v1 : Option Value) (v2 : Option Value) (v3 : Option Value) (st : List Value) (σ : ma_H), ma_rn ro d 178 (273, [v0, v1, v2, v3], st, SH, σ) = ma_rn ro d 178 (274, [v0, v1, v2, v3], .int (nI 1) :: st, SH, σ)) ∧
  (∀ (v0 : Option Value) (v1 : Option Value) (v2 : Option Value) (v3 : Option Value) (x1 : Int32) (x2 : Int32) (st : List Value) (σ : ma_H), ma_rn ro d 178 (274, [v0, v1, v2, v3], .int x1 :: .int x2 :: st, SH, σ) = ma_rn ro d 178 (275, [v0, v1, v2, v3], .int (x2 + x1) :: st, SH, σ)) ∧
  (∀ (v0 : Option Value) (v1 : Option Value) (v2 : Option Value) (v3 : Option Value) (k : Nat) (a2 : Nat) (st : List Value) (σ : ma_H) (hk : k < hk_len a2), ma_rn ro d 178 (275, [v0, v1, v2, v3], .int (nI k) :: .ref a2 :: st, SH, σ) = ma_rn ro d 178 (276, [v0, v1, v2, v3], .int (σ a2 k) :: st, SH, σ)) ∧
  (∀ (v1 : Option Value) (v2 : Option Value) (v3 : Option Value) (a1 : Nat) (st : List Value) (σ : ma_H), ma_rn ro d 178 (276, [some (.ref a1), v1, v2, v3], st, SH, σ) = ma_rn ro d 178 (277, [some (.ref a1), v1, v2, v3], .ref a1 :: st, SH, σ)) ∧
  (∀ (v0 : Option Value) (v1 : Option Value) (v2 : Option Value) (x1 : Int32) (st : List Value) (σ : ma_H), ma_rn ro d 178 (277, [v0, v1, v2, some (.int x1)], st, SH, σ) = ma_rn ro d 178 (278, [v0, v1, v2, some (.int x1)], .int x1 :: st, SH, σ)) ∧
  (∀ (v0 : Option Value) (v1 : Option Value) (v2 : Option Value) (v3 : Option Value) (st : List Value) (σ : ma_H), ma_rn ro d 178 (278, [v0, v1, v2, v3], st, SH, σ) = ma_rn ro d 178 (279, [v0, v1, v2, v3], .int (nI 2) :: st, SH, σ)) ∧
  (∀ (v0 : Option Value) (v1 : Option Value) (v2 : Option Value) (v3 : Option Value) (x1 : Int32) (x2 : Int32) (st : List Value) (σ : ma_H), ma_rn ro d 178 (279, [v0, v1, v2, v3], .int x1 :: .int x2 :: st, SH, σ) = ma_rn ro d 178 (280, [v0, v1, v2, v3], .int (x2 + x1) :: st, SH, σ)) ∧
  (∀ (v0 : Option Value) (v1 : Option Value) (v2 : Option Value) (v3 : Option Value) (k : Nat) (a2 : Nat) (st : List Value) (σ : ma_H) (hk : k < hk_len a2), ma_rn ro d 178 (280, [v0, v1, v2, v3], .int (nI k) :: .ref a2 :: st, SH, σ) = ma_rn ro d 178 (281, [v0, v1, v2, v3], .int (σ a2 k) :: st, SH, σ)) ∧
  (∀ (v1 : Option Value) (v2 : Option Value) (v3 : Option Value) (a1 : Nat) (st : List Value) (σ : ma_H), ma_rn ro d 178 (281, [some (.ref a1), v1, v2, v3], st, SH, σ) = ma_rn ro d 178 (282, [some (.ref a1), v1, v2, v3], .ref a1 :: st, SH, σ)) ∧
  (∀ (v0 : Option Value) (v1 : Option Value) (v2 : Option Value) (x1 : Int32) (st : List Value) (σ : ma_H), ma_rn ro d 178 (282, [v0, v1, v2, some (.int x1)], st, SH, σ) = ma_rn ro d 178 (283, [v0, v1, v2, some (.int x1)], .int x1 :: st, SH, σ)) ∧
  (∀ (v0 : Option Value) (v1 : Option Value) (v2 : Option Value) (v3 : Option Value) (st : List Value) (σ : ma_H), ma_rn ro d 178 (283, [v0, v1, v2, v3], st, SH, σ) = ma_rn ro d 178 (284, [v0, v1, v2, v3], .int (nI 3) :: st, SH, σ)) ∧
  (∀ (v0 : Option Value) (v1 : Option Value) (v2 : Option Value) (v3 : Option Value) (x1 : Int32) (x2 : Int32) (st : List Value) (σ : ma_H), ma_rn ro d 178 (284, [v0, v1, v2, v3], .int x1 :: .int x2 :: st, SH, σ) = ma_rn ro d 178 (285, [v0, v1, v2, v3], .int (x2 + x1) :: st, SH, σ)) ∧
  (∀ (v0 : Option Value) (v1 : Option Value) (v2 : Option Value) (v3 : Option Value) (k : Nat) (a2 : Nat) (st : List Value) (σ : ma_H) (hk : k < hk_len a2), ma_rn ro d 178 (285, [v0, v1, v2, v3], .int (nI k) :: .ref a2 :: st, SH, σ) = ma_rn ro d 178 (286, [v0, v1, v2, v3], .int (σ a2 k) :: st, SH, σ)) ∧
  (∀ (v0 : Option Value) (v1 : Option Value) (v2 : Option Value) (v3 : Option Value) (x1 : Int32) (x2 : Int32) (x3 : Int32) (a0 : Nat) (σ : ma_H) (hc : hk_cls a0 = 7), ma_rn ro (d + 1) 178 (286, [v0, v1, v2, v3], .int x3 :: .int x2 :: .int x1 :: .ref a0 :: [], SH, σ) = (ma_ev ro d 62 [.ref a0, .int x1, .int x2, .int x3] SH σ).bind (fun q => ma_rn ro (d + 1) 178 (289, [v0, v1, v2, v3], (q.1.toList ++ []), q.2.1, q.2.2))) ∧
  (∀ (v0 : Option Value) (v1 : Option Value) (v3 : Option Value) (a1 : Nat) (st : List Value) (σ : ma_H), ma_rn ro d 178 (289, [v0, v1, some (.ref a1), v3], st, SH, σ) = ma_rn ro d 178 (290, [v0, v1, some (.ref a1), v3], .ref a1 :: st, SH, σ)) ∧
  (∀ (v1 : Option Value) (v2 : Option Value) (v3 : Option Value) (a1 : Nat) (st : List Value) (σ : ma_H), ma_rn ro d 178 (290, [some (.ref a1), v1, v2, v3], st, SH, σ) = ma_rn ro d 178 (291, [some (.ref a1), v1, v2, v3], .ref a1 :: st, SH, σ)) ∧
  (∀ (v0 : Option Value) (v1 : Option Value) (v2 : Option Value) (x1 : Int32) (st : List Value) (σ : ma_H), ma_rn ro d 178 (291, [v0, v1, v2, some (.int x1)], st, SH, σ) = ma_rn ro d 178 (292, [v0, v1, v2, some (.int x1)], .int x1 :: st, SH, σ)) ∧
  (∀ (v0 : Option Value) (v1 : Option Value) (v2 : Option Value) (v3 : Option Value) (st : List Value) (σ : ma_H), ma_rn ro d 178 (292, [v0, v1, v2, v3], st, SH, σ) = ma_rn ro d 178 (293, [v0, v1, v2, v3], .int (nI 1) :: st, SH, σ)) ∧
  (∀ (v0 : Option Value) (v1 : Option Value) (v2 : Option Value) (v3 : Option Value) (x1 : Int32) (x2 : Int32) (st : List Value) (σ : ma_H), ma_rn ro d 178 (293, [v0, v1, v2, v3], .int x1 :: .int x2 :: st, SH, σ) = ma_rn ro d 178 (294, [v0, v1, v2, v3], .int (x2 + x1) :: st, SH, σ)) ∧
  (∀ (v0 : Option Value) (v1 : Option Value) (v2 : Option Value) (v3 : Option Value) (k : Nat) (a2 : Nat) (st : List Value) (σ : ma_H) (hk : k < hk_len a2), ma_rn ro d 178 (294, [v0, v1, v2, v3], .int (nI k) :: .ref a2 :: st, SH, σ) = ma_rn ro d 178 (295, [v0, v1, v2, v3], .int (σ a2 k) :: st, SH, σ)) ∧
  (∀ (v1 : Option Value) (v2 : Option Value) (v3 : Option Value) (a1 : Nat) (st : List Value) (σ : ma_H), ma_rn ro d 178 (295, [some (.ref a1), v1, v2, v3], st, SH, σ) = ma_rn ro d 178 (296, [some (.ref a1), v1, v2, v3], .ref a1 :: st, SH, σ)) ∧
  (∀ (v0 : Option Value) (v1 : Option Value) (v2 : Option Value) (x1 : Int32) (st : List Value) (σ : ma_H), ma_rn ro d 178 (296, [v0, v1, v2, some (.int x1)], st, SH, σ) = ma_rn ro d 178 (297, [v0, v1, v2, some (.int x1)], .int x1 :: st, SH, σ)) ∧
  (∀ (v0 : Option Value) (v1 : Option Value) (v2 : Option Value) (v3 : Option Value) (st : List Value) (σ : ma_H), ma_rn ro d 178 (297, [v0, v1, v2, v3], st, SH, σ) = ma_rn ro d 178 (298, [v0, v1, v2, v3], .int (nI 2) :: st, SH, σ)) ∧
  (∀ (v0 : Option Value) (v1 : Option Value) (v2 : Option Value) (v3 : Option Value) (x1 : Int32) (x2 : Int32) (st : List Value) (σ : ma_H), ma_rn ro d 178 (298, [v0, v1, v2, v3], .int x1 :: .int x2 :: st, SH, σ) = ma_rn ro d 178 (299, [v0, v1, v2, v3], .int (x2 + x1) :: st, SH, σ)) ∧
  (∀ (v0 : Option Value) (v1 : Option Value) (v2 : Option Value) (v3 : Option Value) (k : Nat) (a2 : Nat) (st : List Value) (σ : ma_H) (hk : k < hk_len a2), ma_rn ro d 178 (299, [v0, v1, v2, v3], .int (nI k) :: .ref a2 :: st, SH, σ) = ma_rn ro d 178 (300, [v0, v1, v2, v3], .int (σ a2 k) :: st, SH, σ)) ∧
  (∀ (v1 : Option Value) (v2 : Option Value) (v3 : Option Value) (a1 : Nat) (st : List Value) (σ : ma_H), ma_rn ro d 178 (300, [some (.ref a1), v1, v2, v3], st, SH, σ) = ma_rn ro d 178 (301, [some (.ref a1), v1, v2, v3], .ref a1 :: st, SH, σ)) ∧
  (∀ (v0 : Option Value) (v1 : Option Value) (v2 : Option Value) (x1 : Int32) (st : List Value) (σ : ma_H), ma_rn ro d 178 (301, [v0, v1, v2, some (.int x1)], st, SH, σ) = ma_rn ro d 178 (302, [v0, v1, v2, some (.int x1)], .int x1 :: st, SH, σ)) ∧
  (∀ (v0 : Option Value) (v1 : Option Value) (v2 : Option Value) (v3 : Option Value) (st : List Value) (σ : ma_H), ma_rn ro d 178 (302, [v0, v1, v2, v3], st, SH, σ) = ma_rn ro d 178 (303, [v0, v1, v2, v3], .int (nI 3) :: st, SH, σ)) ∧
  (∀ (v0 : Option Value) (v1 : Option Value) (v2 : Option Value) (v3 : Option Value) (x1 : Int32) (x2 : Int32) (st : List Value) (σ : ma_H), ma_rn ro d 178 (303, [v0, v1, v2, v3], .int x1 :: .int x2 :: st, SH, σ) = ma_rn ro d 178 (304, [v0, v1, v2, v3], .int (x2 + x1) :: st, SH, σ)) ∧
  (∀ (v0 : Option Value) (v1 : Option Value) (v2 : Option Value) (v3 : Option Value) (k : Nat) (a2 : Nat) (st : List Value) (σ : ma_H) (hk : k < hk_len a2), ma_rn ro d 178 (304, [v0, v1, v2, v3], .int (nI k) :: .ref a2 :: st, SH, σ) = ma_rn ro d 178 (305, [v0, v1, v2, v3], .int (σ a2 k) :: st, SH, σ)) ∧
  (∀ (v0 : Option Value) (v1 : Option Value) (v2 : Option Value) (v3 : Option Value) (x20 : Int32) (x1 : Int32) (x2 : Int32) (x3 : Int32) (a0 : Nat) (σ : ma_H) (hc : hk_cls a0 = 8), ma_rn ro (d + 1) 178 (305, [v0, v1, v2, v3], .int x3 :: .int x2 :: .int x1 :: .ref a0 :: .int x20 :: [], SH, σ) = (ma_ev ro d 130 [.ref a0, .int x1, .int x2, .int x3] SH σ).bind (fun q => ma_rn ro (d + 1) 178 (308, [v0, v1, v2, v3], (q.1.toList ++ (.int x20 :: [])), q.2.1, q.2.2))) ∧
  (∀ (v0 : Option Value) (v1 : Option Value) (v2 : Option Value) (v3 : Option Value) (x1 : Int32) (x2 : Int32) (st : List Value) (σ : ma_H), ma_rn ro d 178 (308, [v0, v1, v2, v3], .int x1 :: .int x2 :: st, SH, σ) = if x2 = x1 then ma_rn ro d 178 (1046, [v0, v1, v2, v3], st, SH, σ) else ma_rn ro d 178 (311, [v0, v1, v2, v3], st, SH, σ)) ∧
  (∀ (v0 : Option Value) (v1 : Option Value) (v2 : Option Value) (v3 : Option Value) (st : List Value) (σ : ma_H), ma_rn ro d 178 (311, [v0, v1, v2, v3], st, SH, σ) = ma_rn ro d 178 (312, [v0, v1, v2, v3], .int (nI 0) :: st, SH, σ)) ∧
  (∀ (v0 : Option Value) (v1 : Option Value) (v2 : Option Value) (v3 : Option Value) (x1 : Int32) (σ : ma_H) (hx : ma_fitI .boolean x1 = true), ma_rn ro d 178 (312, [v0, v1, v2, v3], [.int x1], SH, σ) = some (some (.int x1), SH, σ)) ∧
  (∀ (v0 : Option Value) (v2 : Option Value) (v3 : Option Value) (a1 : Nat) (st : List Value) (σ : ma_H), ma_rn ro d 178 (313, [v0, some (.ref a1), v2, v3], st, SH, σ) = ma_rn ro d 178 (314, [v0, some (.ref a1), v2, v3], .ref a1 :: st, SH, σ)) ∧
  (∀ (v1 : Option Value) (v2 : Option Value) (v3 : Option Value) (a1 : Nat) (st : List Value) (σ : ma_H), ma_rn ro d 178 (314, [some (.ref a1), v1, v2, v3], st, SH, σ) = ma_rn ro d 178 (315, [some (.ref a1), v1, v2, v3], .ref a1 :: st, SH, σ)) ∧
  (∀ (v0 : Option Value) (v1 : Option Value) (v2 : Option Value) (x1 : Int32) (st : List Value) (σ : ma_H), ma_rn ro d 178 (315, [v0, v1, v2, some (.int x1)], st, SH, σ) = ma_rn ro d 178 (316, [v0, v1, v2, some (.int x1)], .int x1 :: st, SH, σ)) ∧
  (∀ (v0 : Option Value) (v1 : Option Value) (v2 : Option Value) (v3 : Option Value) (st : List Value) (σ : ma_H), ma_rn ro d 178 (316, [v0, v1, v2, v3], st, SH, σ) = ma_rn ro d 178 (317, [v0, v1, v2, v3], .int (nI 1) :: st, SH, σ)) ∧
  (∀ (v0 : Option Value) (v1 : Option Value) (v2 : Option Value) (v3 : Option Value) (x1 : Int32) (x2 : Int32) (st : List Value) (σ : ma_H), ma_rn ro d 178 (317, [v0, v1, v2, v3], .int x1 :: .int x2 :: st, SH, σ) = ma_rn ro d 178 (318, [v0, v1, v2, v3], .int (x2 + x1) :: st, SH, σ)) ∧
  (∀ (v0 : Option Value) (v1 : Option Value) (v2 : Option Value) (v3 : Option Value) (k : Nat) (a2 : Nat) (st : List Value) (σ : ma_H) (hk : k < hk_len a2), ma_rn ro d 178 (318, [v0, v1, v2, v3], .int (nI k) :: .ref a2 :: st, SH, σ) = ma_rn ro d 178 (319, [v0, v1, v2, v3], .int (σ a2 k) :: st, SH, σ)) ∧
  (∀ (v1 : Option Value) (v2 : Option Value) (v3 : Option Value) (a1 : Nat) (st : List Value) (σ : ma_H), ma_rn ro d 178 (319, [some (.ref a1), v1, v2, v3], st, SH, σ) = ma_rn ro d 178 (320, [some (.ref a1), v1, v2, v3], .ref a1 :: st, SH, σ)) ∧
  (∀ (v0 : Option Value) (v1 : Option Value) (v2 : Option Value) (x1 : Int32) (st : List Value) (σ : ma_H), ma_rn ro d 178 (320, [v0, v1, v2, some (.int x1)], st, SH, σ) = ma_rn ro d 178 (321, [v0, v1, v2, some (.int x1)], .int x1 :: st, SH, σ)) ∧
  (∀ (v0 : Option Value) (v1 : Option Value) (v2 : Option Value) (v3 : Option Value) (st : List Value) (σ : ma_H), ma_rn ro d 178 (321, [v0, v1, v2, v3], st, SH, σ) = ma_rn ro d 178 (322, [v0, v1, v2, v3], .int (nI 2) :: st, SH, σ)) ∧
  (∀ (v0 : Option Value) (v1 : Option Value) (v2 : Option Value) (v3 : Option Value) (x1 : Int32) (x2 : Int32) (st : List Value) (σ : ma_H), ma_rn ro d 178 (322, [v0, v1, v2, v3], .int x1 :: .int x2 :: st, SH, σ) = ma_rn ro d 178 (323, [v0, v1, v2, v3], .int (x2 + x1) :: st, SH, σ)) ∧
  (∀ (v0 : Option Value) (v1 : Option Value) (v2 : Option Value) (v3 : Option Value) (k : Nat) (a2 : Nat) (st : List Value) (σ : ma_H) (hk : k < hk_len a2), ma_rn ro d 178 (323, [v0, v1, v2, v3], .int (nI k) :: .ref a2 :: st, SH, σ) = ma_rn ro d 178 (324, [v0, v1, v2, v3], .int (σ a2 k) :: st, SH, σ)) ∧
  (∀ (v1 : Option Value) (v2 : Option Value) (v3 : Option Value) (a1 : Nat) (st : List Value) (σ : ma_H), ma_rn ro d 178 (324, [some (.ref a1), v1, v2, v3], st, SH, σ) = ma_rn ro d 178 (325, [some (.ref a1), v1, v2, v3], .ref a1 :: st, SH, σ)) ∧
  (∀ (v0 : Option Value) (v1 : Option Value) (v2 : Option Value) (x1 : Int32) (st : List Value) (σ : ma_H), ma_rn ro d 178 (325, [v0, v1, v2, some (.int x1)], st, SH, σ) = ma_rn ro d 178 (326, [v0, v1, v2, some (.int x1)], .int x1 :: st, SH, σ)) ∧
  (∀ (v0 : Option Value) (v1 : Option Value) (v2 : Option Value) (v3 : Option Value) (st : List Value) (σ : ma_H), ma_rn ro d 178 (326, [v0, v1, v2, v3], st, SH, σ) = ma_rn ro d 178 (327, [v0, v1, v2, v3], .int (nI 3) :: st, SH, σ)) ∧
  (∀ (v0 : Option Value) (v1 : Option Value) (v2 : Option Value) (v3 : Option Value) (x1 : Int32) (x2 : Int32) (st : List Value) (σ : ma_H), ma_rn ro d 178 (327, [v0, v1, v2, v3], .int x1 :: .int x2 :: st, SH, σ) = ma_rn ro d 178 (328, [v0, v1, v2, v3], .int (x2 + x1) :: st, SH, σ)) ∧
  (∀ (v0 : Option Value) (v1 : Option Value) (v2 : Option Value) (v3 : Option Value) (k : Nat) (a2 : Nat) (st : List Value) (σ : ma_H) (hk : k < hk_len a2), ma_rn ro d 178 (328, [v0, v1, v2, v3], .int (nI k) :: .ref a2 :: st, SH, σ) = ma_rn ro d 178 (329, [v0, v1, v2, v3], .int (σ a2 k) :: st, SH, σ)) ∧
  (∀ (v0 : Option Value) (v1 : Option Value) (v2 : Option Value) (v3 : Option Value) (x1 : Int32) (x2 : Int32) (x3 : Int32) (a0 : Nat) (σ : ma_H) (hc : hk_cls a0 = 7), ma_rn ro (d + 1) 178 (329, [v0, v1, v2, v3], .int x3 :: .int x2 :: .int x1 :: .ref a0 :: [], SH, σ) = (ma_ev ro d 63 [.ref a0, .int x1, .int x2, .int x3] SH σ).bind (fun q => ma_rn ro (d + 1) 178 (332, [v0, v1, v2, v3], (q.1.toList ++ []), q.2.1, q.2.2))) ∧
  (∀ (v0 : Option Value) (v1 : Option Value) (v3 : Option Value) (a1 : Nat) (st : List Value) (σ : ma_H), ma_rn ro d 178 (332, [v0, v1, some (.ref a1), v3], st, SH, σ) = ma_rn ro d 178 (333, [v0, v1, some (.ref a1), v3], .ref a1 :: st, SH, σ)) ∧
  (∀ (v1 : Option Value) (v2 : Option Value) (v3 : Option Value) (a1 : Nat) (st : List Value) (σ : ma_H), ma_rn ro d 178 (333, [some (.ref a1), v1, v2, v3], st, SH, σ) = ma_rn ro d 178 (334, [some (.ref a1), v1, v2, v3], .ref a1 :: st, SH, σ)) ∧
  (∀ (v0 : Option Value) (v1 : Option Value) (v2 : Option Value) (x1 : Int32) (st : List Value) (σ : ma_H), ma_rn ro d 178 (334, [v0, v1, v2, some (.int x1)], st, SH, σ) = ma_rn ro d 178 (335, [v0, v1, v2, some (.int x1)], .int x1 :: st, SH, σ)) ∧
  (∀ (v0 : Option Value) (v1 : Option Value) (v2 : Option Value) (v3 : Option Value) (st : List Value) (σ : ma_H), ma_rn ro d 178 (335, [v0, v1, v2, v3], st, SH, σ) = ma_rn ro d 178 (336, [v0, v1, v2, v3], .int (nI 1) :: st, SH, σ)) ∧
  (∀ (v0 : Option Value) (v1 : Option Value) (v2 : Option Value) (v3 : Option Value) (x1 : Int32) (x2 : Int32) (st : List Value) (σ : ma_H), ma_rn ro d 178 (336, [v0, v1, v2, v3], .int x1 :: .int x2 :: st, SH, σ) = ma_rn ro d 178 (337, [v0, v1, v2, v3], .int (x2 + x1) :: st, SH, σ)) ∧
  (∀ (v0 : Option Value) (v1 : Option Value) (v2 : Option Value) (v3 : Option Value) (k : Nat) (a2 : Nat) (st : List Value) (σ : ma_H) (hk : k < hk_len a2), ma_rn ro d 178 (337, [v0, v1, v2, v3], .int (nI k) :: .ref a2 :: st, SH, σ) = ma_rn ro d 178 (338, [v0, v1, v2, v3], .int (σ a2 k) :: st, SH, σ)) ∧
  (∀ (v1 : Option Value) (v2 : Option Value) (v3 : Option Value) (a1 : Nat) (st : List Value) (σ : ma_H), ma_rn ro d 178 (338, [some (.ref a1), v1, v2, v3], st, SH, σ) = ma_rn ro d 178 (339, [some (.ref a1), v1, v2, v3], .ref a1 :: st, SH, σ)) ∧
  (∀ (v0 : Option Value) (v1 : Option Value) (v2 : Option Value) (x1 : Int32) (st : List Value) (σ : ma_H), ma_rn ro d 178 (339, [v0, v1, v2, some (.int x1)], st, SH, σ) = ma_rn ro d 178 (340, [v0, v1, v2, some (.int x1)], .int x1 :: st, SH, σ)) ∧
  (∀ (v0 : Option Value) (v1 : Option Value) (v2 : Option Value) (v3 : Option Value) (st : List Value) (σ : ma_H), ma_rn ro d 178 (340, [v0, v1, v2, v3], st, SH, σ) = ma_rn ro d 178 (341, [v0, v1, v2, v3], .int (nI 2) :: st, SH, σ)) ∧
  (∀ (v0 : Option Value) (v1 : Option Value) (v2 : Option Value) (v3 : Option Value) (x1 : Int32) (x2 : Int32) (st : List Value) (σ : ma_H), ma_rn ro d 178 (341, [v0, v1, v2, v3], .int x1 :: .int x2 :: st, SH, σ) = ma_rn ro d 178 (342, [v0, v1, v2, v3], .int (x2 + x1) :: st, SH, σ)) ∧
  (∀ (v0 : Option Value) (v1 : Option Value) (v2 : Option Value) (v3 : Option Value) (k : Nat) (a2 : Nat) (st : List Value) (σ : ma_H) (hk : k < hk_len a2), ma_rn ro d 178 (342, [v0, v1, v2, v3], .int (nI k) :: .ref a2 :: st, SH, σ) = ma_rn ro d 178 (343, [v0, v1, v2, v3], .int (σ a2 k) :: st, SH, σ)) ∧
  (∀ (v1 : Option Value) (v2 : Option Value) (v3 : Option Value) (a1 : Nat) (st : List Value) (σ : ma_H), ma_rn ro d 178 (343, [some (.ref a1), v1, v2, v3], st, SH, σ) = ma_rn ro d 178 (344, [some (.ref a1), v1, v2, v3], .ref a1 :: st, SH, σ)) ∧
  (∀ (v0 : Option Value) (v1 : Option Value) (v2 : Option Value) (x1 : Int32) (st : List Value) (σ : ma_H), ma_rn ro d 178 (344, [v0, v1, v2, some (.int x1)], st, SH, σ) = ma_rn ro d 178 (345, [v0, v1, v2, some (.int x1)], .int x1 :: st, SH, σ)) ∧
  (∀ (v0 : Option Value) (v1 : Option Value) (v2 : Option Value) (v3 : Option Value) (st : List Value) (σ : ma_H), ma_rn ro d 178 (345, [v0, v1, v2, v3], st, SH, σ) = ma_rn ro d 178 (346, [v0, v1, v2, v3], .int (nI 3) :: st, SH, σ)) ∧
  (∀ (v0 : Option Value) (v1 : Option Value) (v2 : Option Value) (v3 : Option Value) (x1 : Int32) (x2 : Int32) (st : List Value) (σ : ma_H), ma_rn ro d 178 (346, [v0, v1, v2, v3], .int x1 :: .int x2 :: st, SH, σ) = ma_rn ro d 178 (347, [v0, v1, v2, v3], .int (x2 + x1) :: st, SH, σ)) ∧
  (∀ (v0 : Option Value) (v1 : Option Value) (v2 : Option Value) (v3 : Option Value) (k : Nat) (a2 : Nat) (st : List Value) (σ : ma_H) (hk : k < hk_len a2), ma_rn ro d 178 (347, [v0, v1, v2, v3], .int (nI k) :: .ref a2 :: st, SH, σ) = ma_rn ro d 178 (348, [v0, v1, v2, v3], .int (σ a2 k) :: st, SH, σ)) ∧
  (∀ (v0 : Option Value) (v1 : Option Value) (v2 : Option Value) (v3 : Option Value) (x20 : Int32) (x1 : Int32) (x2 : Int32) (x3 : Int32) (a0 : Nat) (σ : ma_H) (hc : hk_cls a0 = 8), ma_rn ro (d + 1) 178 (348, [v0, v1, v2, v3], .int x3 :: .int x2 :: .int x1 :: .ref a0 :: .int x20 :: [], SH, σ) = (ma_ev ro d 131 [.ref a0, .int x1, .int x2, .int x3] SH σ).bind (fun q => ma_rn ro (d + 1) 178 (351, [v0, v1, v2, v3], (q.1.toList ++ (.int x20 :: [])), q.2.1, q.2.2))) ∧
  (∀ (v0 : Option Value) (v1 : Option Value) (v2 : Option Value) (v3 : Option Value) (x1 : Int32) (x2 : Int32) (st : List Value) (σ : ma_H), ma_rn ro d 178 (351, [v0, v1, v2, v3], .int x1 :: .int x2 :: st, SH, σ) = if x2 = x1 then ma_rn ro d 178 (1046, [v0, v1, v2, v3], st, SH, σ) else ma_rn ro d 178 (354, [v0, v1, v2, v3], st, SH, σ)) ∧
  (∀ (v0 : Option Value) (v1 : Option Value) (v2 : Option Value) (v3 : Option Value) (st : List Value) (σ : ma_H), ma_rn ro d 178 (354, [v0, v1, v2, v3], st, SH, σ) = ma_rn ro d 178 (355, [v0, v1, v2, v3], .int (nI 0) :: st, SH, σ)) ∧
  (∀ (v0 : Option Value) (v1 : Option Value) (v2 : Option Value) (v3 : Option Value) (x1 : Int32) (σ : ma_H) (hx : ma_fitI .boolean x1 = true), ma_rn ro d 178 (355, [v0, v1, v2, v3], [.int x1], SH, σ) = some (some (.int x1), SH, σ)) ∧
  (∀ (v0 : Option Value) (v2 : Option Value) (v3 : Option Value) (a1 : Nat) (st : List Value) (σ : ma_H), ma_rn ro d 178 (356, [v0, some (.ref a1), v2, v3], st, SH, σ) = ma_rn ro d 178 (357, [v0, some (.ref a1), v2, v3], .ref a1 :: st, SH, σ)) ∧
  (∀ (v1 : Option Value) (v2 : Option Value) (v3 : Option Value) (a1 : Nat) (st : List Value) (σ : ma_H), ma_rn ro d 178 (357, [some (.ref a1), v1, v2, v3], st, SH, σ) = ma_rn ro d 178 (358, [some (.ref a1), v1, v2, v3], .ref a1 :: st, SH, σ)) ∧
  (∀ (v0 : Option Value) (v1 : Option Value) (v2 : Option Value) (x1 : Int32) (st : List Value) (σ : ma_H), ma_rn ro d 178 (358, [v0, v1, v2, some (.int x1)], st, SH, σ) = ma_rn ro d 178 (359, [v0, v1, v2, some (.int x1)], .int x1 :: st, SH, σ)) ∧
  (∀ (v0 : Option Value) (v1 : Option Value) (v2 : Option Value) (v3 : Option Value) (st : List Value) (σ : ma_H), ma_rn ro d 178 (359, [v0, v1, v2, v3], st, SH, σ) = ma_rn ro d 178 (360, [v0, v1, v2, v3], .int (nI 1) :: st, SH, σ)) ∧
  (∀ (v0 : Option Value) (v1 : Option Value) (v2 : Option Value) (v3 : Option Value) (x1 : Int32) (x2 : Int32) (st : List Value) (σ : ma_H), ma_rn ro d 178 (360, [v0, v1, v2, v3], .int x1 :: .int x2 :: st, SH, σ) = ma_rn ro d 178 (361, [v0, v1, v2, v3], .int (x2 + x1) :: st, SH, σ)) ∧
  (∀ (v0 : Option Value) (v1 : Option Value) (v2 : Option Value) (v3 : Option Value) (k : Nat) (a2 : Nat) (st : List Value) (σ : ma_H) (hk : k < hk_len a2), ma_rn ro d 178 (361, [v0, v1, v2, v3], .int (nI k) :: .ref a2 :: st, SH, σ) = ma_rn ro d 178 (362, [v0, v1, v2, v3], .int (σ a2 k) :: st, SH, σ)) ∧
  (∀ (v0 : Option Value) (v1 : Option Value) (v2 : Option Value) (v3 : Option Value) (x1 : Int32) (a0 : Nat) (σ : ma_H) (hc : hk_cls a0 = 7), ma_rn ro (d + 1) 178 (362, [v0, v1, v2, v3], .int x1 :: .ref a0 :: [], SH, σ) = (ma_ev ro d 64 [.ref a0, .int x1] SH σ).bind (fun q => ma_rn ro (d + 1) 178 (365, [v0, v1, v2, v3], (q.1.toList ++ []), q.2.1, q.2.2))) ∧
  (∀ (v0 : Option Value) (v1 : Option Value) (v3 : Option Value) (a1 : Nat) (st : List Value) (σ : ma_H), ma_rn ro d 178 (365, [v0, v1, some (.ref a1), v3], st, SH, σ) = ma_rn ro d 178 (366, [v0, v1, some (.ref a1), v3], .ref a1 :: st, SH, σ)) ∧
  (∀ (v1 : Option Value) (v2 : Option Value) (v3 : Option Value) (a1 : Nat) (st : List Value) (σ : ma_H), ma_rn ro d 178 (366, [some (.ref a1), v1, v2, v3], st, SH, σ) = ma_rn ro d 178 (367, [some (.ref a1), v1, v2, v3], .ref a1 :: st, SH, σ)) ∧
  (∀ (v0 : Option Value) (v1 : Option Value) (v2 : Option Value) (x1 : Int32) (st : List Value) (σ : ma_H), ma_rn ro d 178 (367, [v0, v1, v2, some (.int x1)], st, SH, σ) = ma_rn ro d 178 (368, [v0, v1, v2, some (.int x1)], .int x1 :: st, SH, σ)) ∧
  (∀ (v0 : Option Value) (v1 : Option Value) (v2 : Option Value) (v3 : Option Value) (st : List Value) (σ : ma_H), ma_rn ro d 178 (368, [v0, v1, v2, v3], st, SH, σ) = ma_rn ro d 178 (369, [v0, v1, v2, v3], .int (nI 1) :: st, SH, σ)) ∧
  (∀ (v0 : Option Value) (v1 : Option Value) (v2 : Option Value) (v3 : Option Value) (x1 : Int32) (x2 : Int32) (st : List Value) (σ : ma_H), ma_rn ro d 178 (369, [v0, v1, v2, v3], .int x1 :: .int x2 :: st, SH, σ) = ma_rn ro d 178 (370, [v0, v1, v2, v3], .int (x2 + x1) :: st, SH, σ)) ∧
  (∀ (v0 : Option Value) (v1 : Option Value) (v2 : Option Value) (v3 : Option Value) (k : Nat) (a2 : Nat) (st : List Value) (σ : ma_H) (hk : k < hk_len a2), ma_rn ro d 178 (370, [v0, v1, v2, v3], .int (nI k) :: .ref a2 :: st, SH, σ) = ma_rn ro d 178 (371, [v0, v1, v2, v3], .int (σ a2 k) :: st, SH, σ)) ∧
  (∀ (v0 : Option Value) (v1 : Option Value) (v2 : Option Value) (v3 : Option Value) (x20 : Int32) (x1 : Int32) (a0 : Nat) (σ : ma_H) (hc : hk_cls a0 = 8), ma_rn ro (d + 1) 178 (371, [v0, v1, v2, v3], .int x1 :: .ref a0 :: .int x20 :: [], SH, σ) = (ma_ev ro d 132 [.ref a0, .int x1] SH σ).bind (fun q => ma_rn ro (d + 1) 178 (374, [v0, v1, v2, v3], (q.1.toList ++ (.int x20 :: [])), q.2.1, q.2.2))) ∧
  (∀ (v0 : Option Value) (v1 : Option Value) (v2 : Option Value) (v3 : Option Value) (x1 : Int32) (x2 : Int32) (st : List Value) (σ : ma_H), ma_rn ro d 178 (374, [v0, v1, v2, v3], .int x1 :: .int x2 :: st, SH, σ) = if x2 = x1 then ma_rn ro d 178 (1046, [v0, v1, v2, v3], st, SH, σ) else ma_rn ro d 178 (377, [v0, v1, v2, v3], st, SH, σ)) ∧
  (∀ (v0 : Option Value) (v1 : Option Value) (v2 : Option Value) (v3 : Option Value) (st : List Value) (σ : ma_H), ma_rn ro d 178 (377, [v0, v1, v2, v3], st, SH, σ) = ma_rn ro d 178 (378, [v0, v1, v2, v3], .int (nI 0) :: st, SH, σ)) ∧
  (∀ (v0 : Option Value) (v1 : Option Value) (v2 : Option Value) (v3 : Option Value) (x1 : Int32) (σ : ma_H) (hx : ma_fitI .boolean x1 = true), ma_rn ro d 178 (378, [v0, v1, v2, v3], [.int x1], SH, σ) = some (some (.int x1), SH, σ)) ∧
  (∀ (v0 : Option Value) (v2 : Option Value) (v3 : Option Value) (a1 : Nat) (st : List Value) (σ : ma_H), ma_rn ro d 178 (379, [v0, some (.ref a1), v2, v3], st, SH, σ) = ma_rn ro d 178 (380, [v0, some (.ref a1), v2, v3], .ref a1 :: st, SH, σ)) ∧
  (∀ (v1 : Option Value) (v2 : Option Value) (v3 : Option Value) (a1 : Nat) (st : List Value) (σ : ma_H), ma_rn ro d 178 (380, [some (.ref a1), v1, v2, v3], st, SH, σ) = ma_rn ro d 178 (381, [some (.ref a1), v1, v2, v3], .ref a1 :: st, SH, σ)) ∧
  (∀ (v0 : Option Value) (v1 : Option Value) (v2 : Option Value) (x1 : Int32) (st : List Value) (σ : ma_H), ma_rn ro d 178 (381, [v0, v1, v2, some (.int x1)], st, SH, σ) = ma_rn ro d 178 (382, [v0, v1, v2, some (.int x1)], .int x1 :: st, SH, σ)) ∧
  (∀ (v0 : Option Value) (v1 : Option Value) (v2 : Option Value) (v3 : Option Value) (st : List Value) (σ : ma_H), ma_rn ro d 178 (382, [v0, v1, v2, v3], st, SH, σ) = ma_rn ro d 178 (383, [v0, v1, v2, v3], .int (nI 1) :: st, SH, σ)) ∧
  (∀ (v0 : Option Value) (v1 : Option Value) (v2 : Option Value) (v3 : Option Value) (x1 : Int32) (x2 : Int32) (st : List Value) (σ : ma_H), ma_rn ro d 178 (383, [v0, v1, v2, v3], .int x1 :: .int x2 :: st, SH, σ) = ma_rn ro d 178 (384, [v0, v1, v2, v3], .int (x2 + x1) :: st, SH, σ)) ∧
  (∀ (v0 : Option Value) (v1 : Option Value) (v2 : Option Value) (v3 : Option Value) (k : Nat) (a2 : Nat) (st : List Value) (σ : ma_H) (hk : k < hk_len a2), ma_rn ro d 178 (384, [v0, v1, v2, v3], .int (nI k) :: .ref a2 :: st, SH, σ) = ma_rn ro d 178 (385, [v0, v1, v2, v3], .int (σ a2 k) :: st, SH, σ)) ∧
  (∀ (v0 : Option Value) (v1 : Option Value) (v2 : Option Value) (v3 : Option Value) (x1 : Int32) (a0 : Nat) (σ : ma_H) (hc : hk_cls a0 = 7), ma_rn ro (d + 1) 178 (385, [v0, v1, v2, v3], .int x1 :: .ref a0 :: [], SH, σ) = (ma_ev ro d 65 [.ref a0, .int x1] SH σ).bind (fun q => ma_rn ro (d + 1) 178 (388, [v0, v1, v2, v3], (q.1.toList ++ []), q.2.1, q.2.2))) ∧
  (∀ (v0 : Option Value) (v1 : Option Value) (v3 : Option Value) (a1 : Nat) (st : List Value) (σ : ma_H), ma_rn ro d 178 (388, [v0, v1, some (.ref a1), v3], st, SH, σ) = ma_rn ro d 178 (389, [v0, v1, some (.ref a1), v3], .ref a1 :: st, SH, σ)) ∧
  (∀ (v1 : Option Value) (v2 : Option Value) (v3 : Option Value) (a1 : Nat) (st : List Value) (σ : ma_H), ma_rn ro d 178 (389, [some (.ref a1), v1, v2, v3], st, SH, σ) = ma_rn ro d 178 (390, [some (.ref a1), v1, v2, v3], .ref a1 :: st, SH, σ)) ∧
  (∀ (v0 : Option Value) (v1 : Option Value) (v2 : Option Value) (x1 : Int32) (st : List Value) (σ : ma_H), ma_rn ro d 178 (390, [v0, v1, v2, some (.int x1)], st, SH, σ) = ma_rn ro d 178 (391, [v0, v1, v2, some (.int x1)], .int x1 :: st, SH, σ)) ∧
  (∀ (v0 : Option Value) (v1 : Option Value) (v2 : Option Value) (v3 : Option Value) (st : List Value) (σ : ma_H), ma_rn ro d 178 (391, [v0, v1, v2, v3], st, SH, σ) = ma_rn ro d 178 (392, [v0, v1, v2, v3], .int (nI 1) :: st, SH, σ)) ∧
  (∀ (v0 : Option Value) (v1 : Option Value) (v2 : Option Value) (v3 : Option Value) (x1 : Int32) (x2 : Int32) (st : List Value) (σ : ma_H), ma_rn ro d 178 (392, [v0, v1, v2, v3], .int x1 :: .int x2 :: st, SH, σ) = ma_rn ro d 178 (393, [v0, v1, v2, v3], .int (x2 + x1) :: st, SH, σ)) ∧
  (∀ (v0 : Option Value) (v1 : Option Value) (v2 : Option Value) (v3 : Option Value) (k : Nat) (a2 : Nat) (st : List Value) (σ : ma_H) (hk : k < hk_len a2), ma_rn ro d 178 (393, [v0, v1, v2, v3], .int (nI k) :: .ref a2 :: st, SH, σ) = ma_rn ro d 178 (394, [v0, v1, v2, v3], .int (σ a2 k) :: st, SH, σ)) ∧
  (∀ (v0 : Option Value) (v1 : Option Value) (v2 : Option Value) (v3 : Option Value) (x20 : Int32) (x1 : Int32) (a0 : Nat) (σ : ma_H) (hc : hk_cls a0 = 8), ma_rn ro (d + 1) 178 (394, [v0, v1, v2, v3], .int x1 :: .ref a0 :: .int x20 :: [], SH, σ) = (ma_ev ro d 134 [.ref a0, .int x1] SH σ).bind (fun q => ma_rn ro (d + 1) 178 (397, [v0, v1, v2, v3], (q.1.toList ++ (.int x20 :: [])), q.2.1, q.2.2))) ∧
  (∀ (v0 : Option Value) (v1 : Option Value) (v2 : Option Value) (v3 : Option Value) (x1 : Int32) (x2 : Int32) (st : List Value) (σ : ma_H), ma_rn ro d 178 (397, [v0, v1, v2, v3], .int x1 :: .int x2 :: st, SH, σ) = if x2 = x1 then ma_rn ro d 178 (1046, [v0, v1, v2, v3], st, SH, σ) else ma_rn ro d 178 (400, [v0, v1, v2, v3], st, SH, σ)) ∧
  (∀ (v0 : Option Value) (v1 : Option Value) (v2 : Option Value) (v3 : Option Value) (st : List Value) (σ : ma_H), ma_rn ro d 178 (400, [v0, v1, v2, v3], st, SH, σ) = ma_rn ro d 178 (401, [v0, v1, v2, v3], .int (nI 0) :: st, SH, σ)) ∧
  (∀ (v0 : Option Value) (v1 : Option Value) (v2 : Option Value) (v3 : Option Value) (x1 : Int32) (σ : ma_H) (hx : ma_fitI .boolean x1 = true), ma_rn ro d 178 (401, [v0, v1, v2, v3], [.int x1], SH, σ) = some (some (.int x1), SH, σ)) ∧
  (∀ (v0 : Option Value) (v2 : Option Value) (v3 : Option Value) (a1 : Nat) (st : List Value) (σ : ma_H), ma_rn ro d 178 (402, [v0, some (.ref a1), v2, v3], st, SH, σ) = ma_rn ro d 178 (403, [v0, some (.ref a1), v2, v3], .ref a1 :: st, SH, σ)) ∧
  (∀ (v1 : Option Value) (v2 : Option Value) (v3 : Option Value) (a1 : Nat) (st : List Value) (σ : ma_H), ma_rn ro d 178 (403, [some (.ref a1), v1, v2, v3], st, SH, σ) = ma_rn ro d 178 (404, [some (.ref a1), v1, v2, v3], .ref a1 :: st, SH, σ)) ∧
  (∀ (v0 : Option Value) (v1 : Option Value) (v2 : Option Value) (x1 : Int32) (st : List Value) (σ : ma_H), ma_rn ro d 178 (404, [v0, v1, v2, some (.int x1)], st, SH, σ) = ma_rn ro d 178 (405, [v0, v1, v2, some (.int x1)], .int x1 :: st, SH, σ)) ∧
  (∀ (v0 : Option Value) (v1 : Option Value) (v2 : Option Value) (v3 : Option Value) (st : List Value) (σ : ma_H), ma_rn ro d 178 (405, [v0, v1, v2, v3], st, SH, σ) = ma_rn ro d 178 (406, [v0, v1, v2, v3], .int (nI 1) :: st, SH, σ)) ∧
  (∀ (v0 : Option Value) (v1 : Option Value) (v2 : Option Value) (v3 : Option Value) (x1 : Int32) (x2 : Int32) (st : List Value) (σ : ma_H), ma_rn ro d 178 (406, [v0, v1, v2, v3], .int x1 :: .int x2 :: st, SH, σ) = ma_rn ro d 178 (407, [v0, v1, v2, v3], .int (x2 + x1) :: st, SH, σ)) ∧
  (∀ (v0 : Option Value) (v1 : Option Value) (v2 : Option Value) (v3 : Option Value) (k : Nat) (a2 : Nat) (st : List Value) (σ : ma_H) (hk : k < hk_len a2), ma_rn ro d 178 (407, [v0, v1, v2, v3], .int (nI k) :: .ref a2 :: st, SH, σ) = ma_rn ro d 178 (408, [v0, v1, v2, v3], .int (σ a2 k) :: st, SH, σ)) ∧
  (∀ (v1 : Option Value) (v2 : Option Value) (v3 : Option Value) (a1 : Nat) (st : List Value) (σ : ma_H), ma_rn ro d 178 (408, [some (.ref a1), v1, v2, v3], st, SH, σ) = ma_rn ro d 178 (409, [some (.ref a1), v1, v2, v3], .ref a1 :: st, SH, σ)) ∧
  (∀ (v0 : Option Value) (v1 : Option Value) (v2 : Option Value) (x1 : Int32) (st : List Value) (σ : ma_H), ma_rn ro d 178 (409, [v0, v1, v2, some (.int x1)], st, SH, σ) = ma_rn ro d 178 (410, [v0, v1, v2, some (.int x1)], .int x1 :: st, SH, σ)) ∧
  (∀ (v0 : Option Value) (v1 : Option Value) (v2 : Option Value) (v3 : Option Value) (st : List Value) (σ : ma_H), ma_rn ro d 178 (410, [v0, v1, v2, v3], st, SH, σ) = ma_rn ro d 178 (411, [v0, v1, v2, v3], .int (nI 2) :: st, SH, σ)) ∧
  (∀ (v0 : Option Value) (v1 : Option Value) (v2 : Option Value) (v3 : Option Value) (x1 : Int32) (x2 : Int32) (st : List Value) (σ : ma_H), ma_rn ro d 178 (411, [v0, v1, v2, v3], .int x1 :: .int x2 :: st, SH, σ) = ma_rn ro d 178 (412, [v0, v1, v2, v3], .int (x2 + x1) :: st, SH, σ)) ∧
  (∀ (v0 : Option Value) (v1 : Option Value) (v2 : Option Value) (v3 : Option Value) (k : Nat) (a2 : Nat) (st : List Value) (σ : ma_H) (hk : k < hk_len a2), ma_rn ro d 178 (412, [v0, v1, v2, v3], .int (nI k) :: .ref a2 :: st, SH, σ) = ma_rn ro d 178 (413, [v0, v1, v2, v3], .int (σ a2 k) :: st, SH, σ)) ∧
  (∀ (v0 : Option Value) (v1 : Option Value) (v2 : Option Value) (v3 : Option Value) (x1 : Int32) (x2 : Int32) (a0 : Nat) (σ : ma_H) (hc : hk_cls a0 = 7), ma_rn ro (d + 1) 178 (413, [v0, v1, v2, v3], .int x2 :: .int x1 :: .ref a0 :: [], SH, σ) = (ma_ev ro d 66 [.ref a0, .int x1, .int x2] SH σ).bind (fun q => ma_rn ro (d + 1) 178 (416, [v0, v1, v2, v3], (q.1.toList ++ []), q.2.1, q.2.2))) ∧
  (∀ (v0 : Option Value) (v1 : Option Value) (v3 : Option Value) (a1 : Nat) (st : List Value) (σ : ma_H), ma_rn ro d 178 (416, [v0, v1, some (.ref a1), v3], st, SH, σ) = ma_rn ro d 178 (417, [v0, v1, some (.ref a1), v3], .ref a1 :: st, SH, σ)) ∧
  (∀ (v1 : Option Value) (v2 : Option Value) (v3 : Option Value) (a1 : Nat) (st : List Value) (σ : ma_H), ma_rn ro d 178 (417, [some (.ref a1), v1, v2, v3], st, SH, σ) = ma_rn ro d 178 (418, [some (.ref a1), v1, v2, v3], .ref a1 :: st, SH, σ)) ∧
  (∀ (v0 : Option Value) (v1 : Option Value) (v2 : Option Value) (x1 : Int32) (st : List Value) (σ : ma_H), ma_rn ro d 178 (418, [v0, v1, v2, some (.int x1)], st, SH, σ) = ma_rn ro d 178 (419, [v0, v1, v2, some (.int x1)], .int x1 :: st, SH, σ)) ∧
  (∀ (v0 : Option Value) (v1 : Option Value) (v2 : Option Value) (v3 : Option Value) (st : List Value) (σ : ma_H), ma_rn ro d 178 (419, [v0, v1, v2, v3], st, SH, σ) = ma_rn ro d 178 (420, [v0, v1, v2, v3], .int (nI 1) :: st, SH, σ)) ∧
  (∀ (v0 : Option Value) (v1 : Option Value) (v2 : Option Value) (v3 : Option Value) (x1 : Int32) (x2 : Int32) (st : List Value) (σ : ma_H), ma_rn ro d 178 (420, [v0, v1, v2, v3], .int x1 :: .int x2 :: st, SH, σ) = ma_rn ro d 178 (421, [v0, v1, v2, v3], .int (x2 + x1) :: st, SH, σ)) ∧
  (∀ (v0 : Option Value) (v1 : Option Value) (v2 : Option Value) (v3 : Option Value) (k : Nat) (a2 : Nat) (st : List Value) (σ : ma_H) (hk : k < hk_len a2), ma_rn ro d 178 (421, [v0, v1, v2, v3], .int (nI k) :: .ref a2 :: st, SH, σ) = ma_rn ro d 178 (422, [v0, v1, v2, v3], .int (σ a2 k) :: st, SH, σ)) ∧
  (∀ (v1 : Option Value) (v2 : Option Value) (v3 : Option Value) (a1 : Nat) (st : List Value) (σ : ma_H), ma_rn ro d 178 (422, [some (.ref a1), v1, v2, v3], st, SH, σ) = ma_rn ro d 178 (423, [some (.ref a1), v1, v2, v3], .ref a1 :: st, SH, σ)) ∧
  (∀ (v0 : Option Value) (v1 : Option Value) (v2 : Option Value) (x1 : Int32) (st : List Value) (σ : ma_H), ma_rn ro d 178 (423, [v0, v1, v2, some (.int x1)], st, SH, σ) = ma_rn ro d 178 (424, [v0, v1, v2, some (.int x1)], .int x1 :: st, SH, σ)) ∧
  (∀ (v0 : Option Value) (v1 : Option Value) (v2 : Option Value) (v3 : Option Value) (st : List Value) (σ : ma_H), ma_rn ro d 178 (424, [v0, v1, v2, v3], st, SH, σ) = ma_rn ro d 178 (425, [v0, v1, v2, v3], .int (nI 2) :: st, SH, σ)) ∧
  (∀ (v0 : Option Value) (v1 : Option Value) (v2 : Option Value) (v3 : Option Value) (x1 : Int32) (x2 : Int32) (st : List Value) (σ : ma_H), ma_rn ro d 178 (425, [v0, v1, v2, v3], .int x1 :: .int x2 :: st, SH, σ) = ma_rn ro d 178 (426, [v0, v1, v2, v3], .int (x2 + x1) :: st, SH, σ)) ∧
  (∀ (v0 : Option Value) (v1 : Option Value) (v2 : Option Value) (v3 : Option Value) (k : Nat) (a2 : Nat) (st : List Value) (σ : ma_H) (hk : k < hk_len a2), ma_rn ro d 178 (426, [v0, v1, v2, v3], .int (nI k) :: .ref a2 :: st, SH, σ) = ma_rn ro d 178 (427, [v0, v1, v2, v3], .int (σ a2 k) :: st, SH, σ)) ∧
  (∀ (v0 : Option Value) (v1 : Option Value) (v2 : Option Value) (v3 : Option Value) (x20 : Int32) (x1 : Int32) (x2 : Int32) (a0 : Nat) (σ : ma_H) (hc : hk_cls a0 = 8), ma_rn ro (d + 1) 178 (427, [v0, v1, v2, v3], .int x2 :: .int x1 :: .ref a0 :: .int x20 :: [], SH, σ) = (ma_ev ro d 135 [.ref a0, .int x1, .int x2] SH σ).bind (fun q => ma_rn ro (d + 1) 178 (430, [v0, v1, v2, v3], (q.1.toList ++ (.int x20 :: [])), q.2.1, q.2.2))) ∧
  (∀ (v0 : Option Value) (v1 : Option Value) (v2 : Option Value) (v3 : Option Value) (x1 : Int32) (x2 : Int32) (st : List Value) (σ : ma_H), ma_rn ro d 178 (430, [v0, v1, v2, v3], .int x1 :: .int x2 :: st, SH, σ) = if x2 = x1 then ma_rn ro d 178 (1046, [v0, v1, v2, v3], st, SH, σ) else ma_rn ro d 178 (433, [v0, v1, v2, v3], st, SH, σ)) ∧
  (∀ (v0 : Option Value) (v1 : Option Value) (v2 : Option Value) (v3 : Option Value) (st : List Value) (σ : ma_H), ma_rn ro d 178 (433, [v0, v1, v2, v3], st, SH, σ) = ma_rn ro d 178 (434, [v0, v1, v2, v3], .int (nI 0) :: st, SH, σ)) ∧
  (∀ (v0 : Option Value) (v1 : Option Value) (v2 : Option Value) (v3 : Option Value) (x1 : Int32) (σ : ma_H) (hx : ma_fitI .boolean x1 = true), ma_rn ro d 178 (434, [v0, v1, v2, v3], [.int x1], SH, σ) = some (some (.int x1), SH, σ)) ∧
  (∀ (v0 : Option Value) (v2 : Option Value) (v3 : Option Value) (a1 : Nat) (st : List Value) (σ : ma_H), ma_rn ro d 178 (435, [v0, some (.ref a1), v2, v3], st, SH, σ) = ma_rn ro d 178 (436, [v0, some (.ref a1), v2, v3], .ref a1 :: st, SH, σ)) ∧
  (∀ (v1 : Option Value) (v2 : Option Value) (v3 : Option Value) (a1 : Nat) (st : List Value) (σ : ma_H), ma_rn ro d 178 (436, [some (.ref a1), v1, v2, v3], st, SH, σ) = ma_rn ro d 178 (437, [some (.ref a1), v1, v2, v3], .ref a1 :: st, SH, σ)) ∧
  (∀ (v0 : Option Value) (v1 : Option Value) (v2 : Option Value) (x1 : Int32) (st : List Value) (σ : ma_H), ma_rn ro d 178 (437, [v0, v1, v2, some (.int x1)], st, SH, σ) = ma_rn ro d 178 (438, [v0, v1, v2, some (.int x1)], .int x1 :: st, SH, σ)) ∧
  (∀ (v0 : Option Value) (v1 : Option Value) (v2 : Option Value) (v3 : Option Value) (st : List Value) (σ : ma_H), ma_rn ro d 178 (438, [v0, v1, v2, v3], st, SH, σ) = ma_rn ro d 178 (439, [v0, v1, v2, v3], .int (nI 1) :: st, SH, σ)) ∧
  (∀ (v0 : Option Value) (v1 : Option Value) (v2 : Option Value) (v3 : Option Value) (x1 : Int32) (x2 : Int32) (st : List Value) (σ : ma_H), ma_rn ro d 178 (439, [v0, v1, v2, v3], .int x1 :: .int x2 :: st, SH, σ) = ma_rn ro d 178 (440, [v0, v1, v2, v3], .int (x2 + x1) :: st, SH, σ)) ∧
  (∀ (v0 : Option Value) (v1 : Option Value) (v2 : Option Value) (v3 : Option Value) (k : Nat) (a2 : Nat) (st : List Value) (σ : ma_H) (hk : k < hk_len a2), ma_rn ro d 178 (440, [v0, v1, v2, v3], .int (nI k) :: .ref a2 :: st, SH, σ) = ma_rn ro d 178 (441, [v0, v1, v2, v3], .int (σ a2 k) :: st, SH, σ)) ∧
  (∀ (v0 : Option Value) (v1 : Option Value) (v2 : Option Value) (v3 : Option Value) (x1 : Int32) (a0 : Nat) (σ : ma_H) (hc : hk_cls a0 = 7), ma_rn ro (d + 1) 178 (441, [v0, v1, v2, v3], .int x1 :: .ref a0 :: [], SH, σ) = (ma_ev ro d 67 [.ref a0, .int x1] SH σ).bind (fun q => ma_rn ro (d + 1) 178 (444, [v0, v1, v2, v3], (q.1.toList ++ []), q.2.1, q.2.2))) ∧
  (∀ (v0 : Option Value) (v1 : Option Value) (v3 : Option Value) (a1 : Nat) (st : List Value) (σ : ma_H), ma_rn ro d 178 (444, [v0, v1, some (.ref a1), v3], st, SH, σ) = ma_rn ro d 178 (445, [v0, v1, some (.ref a1), v3], .ref a1 :: st, SH, σ)) ∧
  (∀ (v1 : Option Value) (v2 : Option Value) (v3 : Option Value) (a1 : Nat) (st : List Value) (σ : ma_H), ma_rn ro d 178 (445, [some (.ref a1), v1, v2, v3], st, SH, σ) = ma_rn ro d 178 (446, [some (.ref a1), v1, v2, v3], .ref a1 :: st, SH, σ)) ∧
  (∀ (v0 : Option Value) (v1 : Option Value) (v2 : Option Value) (x1 : Int32) (st : List Value) (σ : ma_H), ma_rn ro d 178 (446, [v0, v1, v2, some (.int x1)], st, SH, σ) = ma_rn ro d 178 (447, [v0, v1, v2, some (.int x1)], .int x1 :: st, SH, σ)) ∧
  (∀ (v0 : Option Value) (v1 : Option Value) (v2 : Option Value) (v3 : Option Value) (st : List Value) (σ : ma_H), ma_rn ro d 178 (447, [v0, v1, v2, v3], st, SH, σ) = ma_rn ro d 178 (448, [v0, v1, v2, v3], .int (nI 1) :: st, SH, σ)) ∧
  (∀ (v0 : Option Value) (v1 : Option Value) (v2 : Option Value) (v3 : Option Value) (x1 : Int32) (x2 : Int32) (st : List Value) (σ : ma_H), ma_rn ro d 178 (448, [v0, v1, v2, v3], .int x1 :: .int x2 :: st, SH, σ) = ma_rn ro d 178 (449, [v0, v1, v2, v3], .int (x2 + x1) :: st, SH, σ)) ∧
  (∀ (v0 : Option Value) (v1 : Option Value) (v2 : Option Value) (v3 : Option Value) (k : Nat) (a2 : Nat) (st : List Value) (σ : ma_H) (hk : k < hk_len a2), ma_rn ro d 178 (449, [v0, v1, v2, v3], .int (nI k) :: .ref a2 :: st, SH, σ) = ma_rn ro d 178 (450, [v0, v1, v2, v3], .int (σ a2 k) :: st, SH, σ)) ∧
  (∀ (v0 : Option Value) (v1 : Option Value) (v2 : Option Value) (v3 : Option Value) (x20 : Int32) (x1 : Int32) (a0 : Nat) (σ : ma_H) (hc : hk_cls a0 = 8), ma_rn ro (d + 1) 178 (450, [v0, v1, v2, v3], .int x1 :: .ref a0 :: .int x20 :: [], SH, σ) = (ma_ev ro d 137 [.ref a0, .int x1] SH σ).bind (fun q => ma_rn ro (d + 1) 178 (453, [v0, v1, v2, v3], (q.1.toList ++ (.int x20 :: [])), q.2.1, q.2.2))) ∧
  (∀ (v0 : Option Value) (v1 : Option Value) (v2 : Option Value) (v3 : Option Value) (x1 : Int32) (x2 : Int32) (st : List Value) (σ : ma_H), ma_rn ro d 178 (453, [v0, v1, v2, v3], .int x1 :: .int x2 :: st, SH, σ) = if x2 = x1 then ma_rn ro d 178 (1046, [v0, v1, v2, v3], st, SH, σ) else ma_rn ro d 178 (456, [v0, v1, v2, v3], st, SH, σ)) ∧
  (∀ (v0 : Option Value) (v1 : Option Value) (v2 : Option Value) (v3 : Option Value) (st : List Value) (σ : ma_H), ma_rn ro d 178 (456, [v0, v1, v2, v3], st, SH, σ) = ma_rn ro d 178 (457, [v0, v1, v2, v3], .int (nI 0) :: st, SH, σ)) ∧
  (∀ (v0 : Option Value) (v1 : Option Value) (v2 : Option Value) (v3 : Option Value) (x1 : Int32) (σ : ma_H) (hx : ma_fitI .boolean x1 = true), ma_rn ro d 178 (457, [v0, v1, v2, v3], [.int x1], SH, σ) = some (some (.int x1), SH, σ)) ∧
  (∀ (v0 : Option Value) (v2 : Option Value) (v3 : Option Value) (a1 : Nat) (st : List Value) (σ : ma_H), ma_rn ro d 178 (458, [v0, some (.ref a1), v2, v3], st, SH, σ) = ma_rn ro d 178 (459, [v0, some (.ref a1), v2, v3], .ref a1 :: st, SH, σ)) ∧
  (∀ (v1 : Option Value) (v2 : Option Value) (v3 : Option Value) (a1 : Nat) (st : List Value) (σ : ma_H), ma_rn ro d 178 (459, [some (.ref a1), v1, v2, v3], st, SH, σ) = ma_rn ro d 178 (460, [some (.ref a1), v1, v2, v3], .ref a1 :: st, SH, σ)) ∧
  (∀ (v0 : Option Value) (v1 : Option Value) (v2 : Option Value) (x1 : Int32) (st : List Value) (σ : ma_H), ma_rn ro d 178 (460, [v0, v1, v2, some (.int x1)], st, SH, σ) = ma_rn ro d 178 (461, [v0, v1, v2, some (.int x1)], .int x1 :: st, SH, σ)) ∧
  (∀ (v0 : Option Value) (v1 : Option Value) (v2 : Option Value) (v3 : Option Value) (st : List Value) (σ : ma_H), ma_rn ro d 178 (461, [v0, v1, v2, v3], st, SH, σ) = ma_rn ro d 178 (462, [v0, v1, v2, v3], .int (nI 1) :: st, SH, σ)) ∧
  (∀ (v0 : Option Value) (v1 : Option Value) (v2 : Option Value) (v3 : Option Value) (x1 : Int32) (x2 : Int32) (st : List Value) (σ : ma_H), ma_rn ro d 178 (462, [v0, v1, v2, v3], .int x1 :: .int x2 :: st, SH, σ) = ma_rn ro d 178 (463, [v0, v1, v2, v3], .int (x2 + x1) :: st, SH, σ)) ∧
  (∀ (v0 : Option Value) (v1 : Option Value) (v2 : Option Value) (v3 : Option Value) (k : Nat) (a2 : Nat) (st : List Value) (σ : ma_H) (hk : k < hk_len a2), ma_rn ro d 178 (463, [v0, v1, v2, v3], .int (nI k) :: .ref a2 :: st, SH, σ) = ma_rn ro d 178 (464, [v0, v1, v2, v3], .int (σ a2 k) :: st, SH, σ)) ∧
  (∀ (v0 : Option Value) (v1 : Option Value) (v2 : Option Value) (v3 : Option Value) (x1 : Int32) (a0 : Nat) (σ : ma_H) (hc : hk_cls a0 = 7), ma_rn ro (d + 1) 178 (464, [v0, v1, v2, v3], .int x1 :: .ref a0 :: [], SH, σ) = (ma_ev ro d 68 [.ref a0, .int x1] SH σ).bind (fun q => ma_rn ro (d + 1) 178 (467, [v0, v1, v2, v3], (q.1.toList ++ []), q.2.1, q.2.2))) ∧
  (∀ (v0 : Option Value) (v1 : Option Value) (v3 : Option Value) (a1 : Nat) (st : List Value) (σ : ma_H), ma_rn ro d 178 (467, [v0, v1, some (.ref a1), v3], st, SH, σ) = ma_rn ro d 178 (468, [v0, v1, some (.ref a1), v3], .ref a1 :: st, SH, σ)) ∧
  (∀ (v1 : Option Value) (v2 : Option Value) (v3 : Option Value) (a1 : Nat) (st : List Value) (σ : ma_H), ma_rn ro d 178 (468, [some (.ref a1), v1, v2, v3], st, SH, σ) = ma_rn ro d 178 (469, [some (.ref a1), v1, v2, v3], .ref a1 :: st, SH, σ)) ∧
  (∀ (v0 : Option Value) (v1 : Option Value) (v2 : Option Value) (x1 : Int32) (st : List Value) (σ : ma_H), ma_rn ro d 178 (469, [v0, v1, v2, some (.int x1)], st, SH, σ) = ma_rn ro d 178 (470, [v0, v1, v2, some (.int x1)], .int x1 :: st, SH, σ)) ∧
  (∀ (v0 : Option Value) (v1 : Option Value) (v2 : Option Value) (v3 : Option Value) (st : List Value) (σ : ma_H), ma_rn ro d 178 (470, [v0, v1, v2, v3], st, SH, σ) = ma_rn ro d 178 (471, [v0, v1, v2, v3], .int (nI 1) :: st, SH, σ)) ∧
  (∀ (v0 : Option Value) (v1 : Option Value) (v2 : Option Value) (v3 : Option Value) (x1 : Int32) (x2 : Int32) (st : List Value) (σ : ma_H), ma_rn ro d 178 (471, [v0, v1, v2, v3], .int x1 :: .int x2 :: st, SH, σ) = ma_rn ro d 178 (472, [v0, v1, v2, v3], .int (x2 + x1) :: st, SH, σ)) ∧
  (∀ (v0 : Option Value) (v1 : Option Value) (v2 : Option Value) (v3 : Option Value) (k : Nat) (a2 : Nat) (st : List Value) (σ : ma_H) (hk : k < hk_len a2), ma_rn ro d 178 (472, [v0, v1, v2, v3], .int (nI k) :: .ref a2 :: st, SH, σ) = ma_rn ro d 178 (473, [v0, v1, v2, v3], .int (σ a2 k) :: st, SH, σ)) ∧
  (∀ (v0 : Option Value) (v1 : Option Value) (v2 : Option Value) (v3 : Option Value) (x20 : Int32) (x1 : Int32) (a0 : Nat) (σ : ma_H) (hc : hk_cls a0 = 8), ma_rn ro (d + 1) 178 (473, [v0, v1, v2, v3], .int x1 :: .ref a0 :: .int x20 :: [], SH, σ) = (ma_ev ro d 142 [.ref a0, .int x1] SH σ).bind (fun q => ma_rn ro (d + 1) 178 (476, [v0, v1, v2, v3], (q.1.toList ++ (.int x20 :: [])), q.2.1, q.2.2))) ∧
  (∀ (v0 : Option Value) (v1 : Option Value) (v2 : Option Value) (v3 : Option Value) (x1 : Int32) (x2 : Int32) (st : List Value) (σ : ma_H), ma_rn ro d 178 (476, [v0, v1, v2, v3], .int x1 :: .int x2 :: st, SH, σ) = if x2 = x1 then ma_rn ro d 178 (1046, [v0, v1, v2, v3], st, SH, σ) else ma_rn ro d 178 (479, [v0, v1, v2, v3], st, SH, σ)) ∧
  (∀ (v0 : Option Value) (v1 : Option Value) (v2 : Option Value) (v3 : Option Value) (st : List Value) (σ : ma_H), ma_rn ro d 178 (479, [v0, v1, v2, v3], st, SH, σ) = ma_rn ro d 178 (480, [v0, v1, v2, v3], .int (nI 0) :: st, SH, σ)) ∧
  (∀ (v0 : Option Value) (v1 : Option Value) (v2 : Option Value) (v3 : Option Value) (x1 : Int32) (σ : ma_H) (hx : ma_fitI .boolean x1 = true), ma_rn ro d 178 (480, [v0, v1, v2, v3], [.int x1], SH, σ) = some (some (.int x1), SH, σ)) ∧
  (∀ (v0 : Option Value) (v2 : Option Value) (v3 : Option Value) (a1 : Nat) (st : List Value) (σ : ma_H), ma_rn ro d 178 (481, [v0, some (.ref a1), v2, v3], st, SH, σ) = ma_rn ro d 178 (482, [v0, some (.ref a1), v2, v3], .ref a1 :: st, SH, σ)) ∧
  (∀ (v1 : Option Value) (v2 : Option Value) (v3 : Option Value) (a1 : Nat) (st : List Value) (σ : ma_H), ma_rn ro d 178 (482, [some (.ref a1), v1, v2, v3], st, SH, σ) = ma_rn ro d 178 (483, [some (.ref a1), v1, v2, v3], .ref a1 :: st, SH, σ)) ∧
  (∀ (v0 : Option Value) (v1 : Option Value) (v2 : Option Value) (x1 : Int32) (st : List Value) (σ : ma_H), ma_rn ro d 178 (483, [v0, v1, v2, some (.int x1)], st, SH, σ) = ma_rn ro d 178 (484, [v0, v1, v2, some (.int x1)], .int x1 :: st, SH, σ)) ∧
  (∀ (v0 : Option Value) (v1 : Option Value) (v2 : Option Value) (v3 : Option Value) (st : List Value) (σ : ma_H), ma_rn ro d 178 (484, [v0, v1, v2, v3], st, SH, σ) = ma_rn ro d 178 (485, [v0, v1, v2, v3], .int (nI 1) :: st, SH, σ)) ∧
  (∀ (v0 : Option Value) (v1 : Option Value) (v2 : Option Value) (v3 : Option Value) (x1 : Int32) (x2 : Int32) (st : List Value) (σ : ma_H), ma_rn ro d 178 (485, [v0, v1, v2, v3], .int x1 :: .int x2 :: st, SH, σ) = ma_rn ro d 178 (486, [v0, v1, v2, v3], .int (x2 + x1) :: st, SH, σ)) ∧
  (∀ (v0 : Option Value) (v1 : Option Value) (v2 : Option Value) (v3 : Option Value) (k : Nat) (a2 : Nat) (st : List Value) (σ : ma_H) (hk : k < hk_len a2), ma_rn ro d 178 (486, [v0, v1, v2, v3], .int (nI k) :: .ref a2 :: st, SH, σ) = ma_rn ro d 178 (487, [v0, v1, v2, v3], .int (σ a2 k) :: st, SH, σ)) ∧
  (∀ (v1 : Option Value) (v2 : Option Value) (v3 : Option Value) (a1 : Nat) (st : List Value) (σ : ma_H), ma_rn ro d 178 (487, [some (.ref a1), v1, v2, v3], st, SH, σ) = ma_rn ro d 178 (488, [some (.ref a1), v1, v2, v3], .ref a1 :: st, SH, σ)) ∧
  (∀ (v0 : Option Value) (v1 : Option Value) (v2 : Option Value) (x1 : Int32) (st : List Value) (σ : ma_H), ma_rn ro d 178 (488, [v0, v1, v2, some (.int x1)], st, SH, σ) = ma_rn ro d 178 (489, [v0, v1, v2, some (.int x1)], .int x1 :: st, SH, σ)) ∧
  (∀ (v0 : Option Value) (v1 : Option Value) (v2 : Option Value) (v3 : Option Value) (st : List Value) (σ : ma_H), ma_rn ro d 178 (489, [v0, v1, v2, v3], st, SH, σ) = ma_rn ro d 178 (490, [v0, v1, v2, v3], .int (nI 2) :: st, SH, σ)) ∧
  (∀ (v0 : Option Value) (v1 : Option Value) (v2 : Option Value) (v3 : Option Value) (x1 : Int32) (x2 : Int32) (st : List Value) (σ : ma_H), ma_rn ro d 178 (490, [v0, v1, v2, v3], .int x1 :: .int x2 :: st, SH, σ) = ma_rn ro d 178 (491, [v0, v1, v2, v3], .int (x2 + x1) :: st, SH, σ)) ∧
  (∀ (v0 : Option Value) (v1 : Option Value) (v2 : Option Value) (v3 : Option Value) (k : Nat) (a2 : Nat) (st : List Value) (σ : ma_H) (hk : k < hk_len a2), ma_rn ro d 178 (491, [v0, v1, v2, v3], .int (nI k) :: .ref a2 :: st, SH, σ) = ma_rn ro d 178 (492, [v0, v1, v2, v3], .int (σ a2 k) :: st, SH, σ)) ∧
  (∀ (v0 : Option Value) (v1 : Option Value) (v2 : Option Value) (v3 : Option Value) (x1 : Int32) (x2 : Int32) (a0 : Nat) (σ : ma_H) (hc : hk_cls a0 = 7), ma_rn ro (d + 1) 178 (492, [v0, v1, v2, v3], .int x2 :: .int x1 :: .ref a0 :: [], SH, σ) = (ma_ev ro d 69 [.ref a0, .int x1, .int x2] SH σ).bind (fun q => ma_rn ro (d + 1) 178 (495, [v0, v1, v2, v3], (q.1.toList ++ []), q.2.1, q.2.2))) ∧
  (∀ (v0 : Option Value) (v1 : Option Value) (v3 : Option Value) (a1 : Nat) (st : List Value) (σ : ma_H), ma_rn ro d 178 (495, [v0, v1, some (.ref a1), v3], st, SH, σ) = ma_rn ro d 178 (496, [v0, v1, some (.ref a1), v3], .ref a1 :: st, SH, σ)) ∧
  (∀ (v1 : Option Value) (v2 : Option Value) (v3 : Option Value) (a1 : Nat) (st : List Value) (σ : ma_H), ma_rn ro d 178 (496, [some (.ref a1), v1, v2, v3], st, SH, σ) = ma_rn ro d 178 (497, [some (.ref a1), v1, v2, v3], .ref a1 :: st, SH, σ)) ∧
  (∀ (v0 : Option Value) (v1 : Option Value) (v2 : Option Value) (x1 : Int32) (st : List Value) (σ : ma_H), ma_rn ro d 178 (497, [v0, v1, v2, some (.int x1)], st, SH, σ) = ma_rn ro d 178 (498, [v0, v1, v2, some (.int x1)], .int x1 :: st, SH, σ)) ∧
  (∀ (v0 : Option Value) (v1 : Option Value) (v2 : Option Value) (v3 : Option Value) (st : List Value) (σ : ma_H), ma_rn ro d 178 (498, [v0, v1, v2, v3], st, SH, σ) = ma_rn ro d 178 (499, [v0, v1, v2, v3], .int (nI 1) :: st, SH, σ)) ∧
  (∀ (v0 : Option Value) (v1 : Option Value) (v2 : Option Value) (v3 : Option Value) (x1 : Int32) (x2 : Int32) (st : List Value) (σ : ma_H), ma_rn ro d 178 (499, [v0, v1, v2, v3], .int x1 :: .int x2 :: st, SH, σ) = ma_rn ro d 178 (500, [v0, v1, v2, v3], .int (x2 + x1) :: st, SH, σ)) ∧
  (∀ (v0 : Option Value) (v1 : Option Value) (v2 : Option Value) (v3 : Option Value) (k : Nat) (a2 : Nat) (st : List Value) (σ : ma_H) (hk : k < hk_len a2), ma_rn ro d 178 (500, [v0, v1, v2, v3], .int (nI k) :: .ref a2 :: st, SH, σ) = ma_rn ro d 178 (501, [v0, v1, v2, v3], .int (σ a2 k) :: st, SH, σ)) ∧
  (∀ (v1 : Option Value) (v2 : Option Value) (v3 : Option Value) (a1 : Nat) (st : List Value) (σ : ma_H), ma_rn ro d 178 (501, [some (.ref a1), v1, v2, v3], st, SH, σ) = ma_rn ro d 178 (502, [some (.ref a1), v1, v2, v3], .ref a1 :: st, SH, σ)) ∧
  (∀ (v0 : Option Value) (v1 : Option Value) (v2 : Option Value) (x1 : Int32) (st : List Value) (σ : ma_H), ma_rn ro d 178 (502, [v0, v1, v2, some (.int x1)], st, SH, σ) = ma_rn ro d 178 (503, [v0, v1, v2, some (.int x1)], .int x1 :: st, SH, σ)) ∧
  (∀ (v0 : Option Value) (v1 : Option Value) (v2 : Option Value) (v3 : Option Value) (st : List Value) (σ : ma_H), ma_rn ro d 178 (503, [v0, v1, v2, v3], st, SH, σ) = ma_rn ro d 178 (504, [v0, v1, v2, v3], .int (nI 2) :: st, SH, σ)) ∧
  (∀ (v0 : Option Value) (v1 : Option Value) (v2 : Option Value) (v3 : Option Value) (x1 : Int32) (x2 : Int32) (st : List Value) (σ : ma_H), ma_rn ro d 178 (504, [v0, v1, v2, v3], .int x1 :: .int x2 :: st, SH, σ) = ma_rn ro d 178 (505, [v0, v1, v2, v3], .int (x2 + x1) :: st, SH, σ)) ∧
  (∀ (v0 : Option Value) (v1 : Option Value) (v2 : Option Value) (v3 : Option Value) (k : Nat) (a2 : Nat) (st : List Value) (σ : ma_H) (hk : k < hk_len a2), ma_rn ro d 178 (505, [v0, v1, v2, v3], .int (nI k) :: .ref a2 :: st, SH, σ) = ma_rn ro d 178 (506, [v0, v1, v2, v3], .int (σ a2 k) :: st, SH, σ)) ∧
  (∀ (v0 : Option Value) (v1 : Option Value) (v2 : Option Value) (v3 : Option Value) (x20 : Int32) (x1 : Int32) (x2 : Int32) (a0 : Nat) (σ : ma_H) (hc : hk_cls a0 = 8), ma_rn ro (d + 1) 178 (506, [v0, v1, v2, v3], .int x2 :: .int x1 :: .ref a0 :: .int x20 :: [], SH, σ) = (ma_ev ro d 143 [.ref a0, .int x1, .int x2] SH σ).bind (fun q => ma_rn ro (d + 1) 178 (509, [v0, v1, v2, v3], (q.1.toList ++ (.int x20 :: [])), q.2.1, q.2.2))) ∧
  (∀ (v0 : Option Value) (v1 : Option Value) (v2 : Option Value) (v3 : Option Value) (x1 : Int32) (x2 : Int32) (st : List Value) (σ : ma_H), ma_rn ro d 178 (509, [v0, v1, v2, v3], .int x1 :: .int x2 :: st, SH, σ) = if x2 = x1 then ma_rn ro d 178 (1046, [v0, v1, v2, v3], st, SH, σ) else ma_rn ro d 178 (512, [v0, v1, v2, v3], st, SH, σ)) ∧
  (∀ (v0 : Option Value) (v1 : Option Value) (v2 : Option Value) (v3 : Option Value) (st : List Value) (σ : ma_H), ma_rn ro d 178 (512, [v0, v1, v2, v3], st, SH, σ) = ma_rn ro d 178 (513, [v0, v1, v2, v3], .int (nI 0) :: st, SH, σ)) ∧
  (∀ (v0 : Option Value) (v1 : Option Value) (v2 : Option Value) (v3 : Option Value) (x1 : Int32) (σ : ma_H) (hx : ma_fitI .boolean x1 = true), ma_rn ro d 178 (513, [v0, v1, v2, v3], [.int x1], SH, σ) = some (some (.int x1), SH, σ)) ∧
  (∀ (v0 : Option Value) (v2 : Option Value) (v3 : Option Value) (a1 : Nat) (st : List Value) (σ : ma_H), ma_rn ro d 178 (514, [v0, some (.ref a1), v2, v3], st, SH, σ) = ma_rn ro d 178 (515, [v0, some (.ref a1), v2, v3], .ref a1 :: st, SH, σ)) ∧
  (∀ (v1 : Option Value) (v2 : Option Value) (v3 : Option Value) (a1 : Nat) (st : List Value) (σ : ma_H), ma_rn ro d 178 (515, [some (.ref a1), v1, v2, v3], st, SH, σ) = ma_rn ro d 178 (516, [some (.ref a1), v1, v2, v3], .ref a1 :: st, SH, σ)) ∧
  (∀ (v0 : Option Value) (v1 : Option Value) (v2 : Option Value) (x1 : Int32) (st : List Value) (σ : ma_H), ma_rn ro d 178 (516, [v0, v1, v2, some (.int x1)], st, SH, σ) = ma_rn ro d 178 (517, [v0, v1, v2, some (.int x1)], .int x1 :: st, SH, σ)) ∧
  (∀ (v0 : Option Value) (v1 : Option Value) (v2 : Option Value) (v3 : Option Value) (st : List Value) (σ : ma_H), ma_rn ro d 178 (517, [v0, v1, v2, v3], st, SH, σ) = ma_rn ro d 178 (518, [v0, v1, v2, v3], .int (nI 1) :: st, SH, σ)) ∧
  (∀ (v0 : Option Value) (v1 : Option Value) (v2 : Option Value) (v3 : Option Value) (x1 : Int32) (x2 : Int32) (st : List Value) (σ : ma_H), ma_rn ro d 178 (518, [v0, v1, v2, v3], .int x1 :: .int x2 :: st, SH, σ) = ma_rn ro d 178 (519, [v0, v1, v2, v3], .int (x2 + x1) :: st, SH, σ)) ∧
  (∀ (v0 : Option Value) (v1 : Option Value) (v2 : Option Value) (v3 : Option Value) (k : Nat) (a2 : Nat) (st : List Value) (σ : ma_H) (hk : k < hk_len a2), ma_rn ro d 178 (519, [v0, v1, v2, v3], .int (nI k) :: .ref a2 :: st, SH, σ) = ma_rn ro d 178 (520, [v0, v1, v2, v3], .int (σ a2 k) :: st, SH, σ)) ∧
  (∀ (v1 : Option Value) (v2 : Option Value) (v3 : Option Value) (a1 : Nat) (st : List Value) (σ : ma_H), ma_rn ro d 178 (520, [some (.ref a1), v1, v2, v3], st, SH, σ) = ma_rn ro d 178 (521, [some (.ref a1), v1, v2, v3], .ref a1 :: st, SH, σ)) ∧
  (∀ (v0 : Option Value) (v1 : Option Value) (v2 : Option Value) (x1 : Int32) (st : List Value) (σ : ma_H), ma_rn ro d 178 (521, [v0, v1, v2, some (.int x1)], st, SH, σ) = ma_rn ro d 178 (522, [v0, v1, v2, some (.int x1)], .int x1 :: st, SH, σ)) ∧
  (∀ (v0 : Option Value) (v1 : Option Value) (v2 : Option Value) (v3 : Option Value) (st : List Value) (σ : ma_H), ma_rn ro d 178 (522, [v0, v1, v2, v3], st, SH, σ) = ma_rn ro d 178 (523, [v0, v1, v2, v3], .int (nI 2) :: st, SH, σ)) ∧
  (∀ (v0 : Option Value) (v1 : Option Value) (v2 : Option Value) (v3 : Option Value) (x1 : Int32) (x2 : Int32) (st : List Value) (σ : ma_H), ma_rn ro d 178 (523, [v0, v1, v2, v3], .int x1 :: .int x2 :: st, SH, σ) = ma_rn ro d 178 (524, [v0, v1, v2, v3], .int (x2 + x1) :: st, SH, σ)) ∧
  (∀ (v0 : Option Value) (v1 : Option Value) (v2 : Option Value) (v3 : Option Value) (k : Nat) (a2 : Nat) (st : List Value) (σ : ma_H) (hk : k < hk_len a2), ma_rn ro d 178 (524, [v0, v1, v2, v3], .int (nI k) :: .ref a2 :: st, SH, σ) = ma_rn ro d 178 (525, [v0, v1, v2, v3], .int (σ a2 k) :: st, SH, σ)) ∧
  (∀ (v0 : Option Value) (v1 : Option Value) (v2 : Option Value) (v3 : Option Value) (x1 : Int32) (x2 : Int32) (a0 : Nat) (σ : ma_H) (hc : hk_cls a0 = 7), ma_rn ro (d + 1) 178 (525, [v0, v1, v2, v3], .int x2 :: .int x1 :: .ref a0 :: [], SH, σ) = (ma_ev ro d 70 [.ref a0, .int x1, .int x2] SH σ).bind (fun q => ma_rn ro (d + 1) 178 (528, [v0, v1, v2, v3], (q.1.toList ++ []), q.2.1, q.2.2))) ∧
  (∀ (v0 : Option Value) (v1 : Option Value) (v3 : Option Value) (a1 : Nat) (st : List Value) (σ : ma_H), ma_rn ro d 178 (528, [v0, v1, some (.ref a1), v3], st, SH, σ) = ma_rn ro d 178 (529, [v0, v1, some (.ref a1), v3], .ref a1 :: st, SH, σ)) ∧
  (∀ (v1 : Option Value) (v2 : Option Value) (v3 : Option Value) (a1 : Nat) (st : List Value) (σ : ma_H), ma_rn ro d 178 (529, [some (.ref a1), v1, v2, v3], st, SH, σ) = ma_rn ro d 178 (530, [some (.ref a1), v1, v2, v3], .ref a1 :: st, SH, σ)) ∧
  (∀ (v0 : Option Value) (v1 : Option Value) (v2 : Option Value) (x1 : Int32) (st : List Value) (σ : ma_H), ma_rn ro d 178 (530, [v0, v1, v2, some (.int x1)], st, SH, σ) = ma_rn ro d 178 (531, [v0, v1, v2, some (.int x1)], .int x1 :: st, SH, σ)) ∧
  (∀ (v0 : Option Value) (v1 : Option Value) (v2 : Option Value) (v3 : Option Value) (st : List Value) (σ : ma_H), ma_rn ro d 178 (531, [v0, v1, v2, v3], st, SH, σ) = ma_rn ro d 178 (532, [v0, v1, v2, v3], .int (nI 1) :: st, SH, σ)) ∧
  (∀ (v0 : Option Value) (v1 : Option Value) (v2 : Option Value) (v3 : Option Value) (x1 : Int32) (x2 : Int32) (st : List Value) (σ : ma_H), ma_rn ro d 178 (532, [v0, v1, v2, v3], .int x1 :: .int x2 :: st, SH, σ) = ma_rn ro d 178 (533, [v0, v1, v2, v3], .int (x2 + x1) :: st, SH, σ)) ∧
  (∀ (v0 : Option Value) (v1 : Option Value) (v2 : Option Value) (v3 : Option Value) (k : Nat) (a2 : Nat) (st : List Value) (σ : ma_H) (hk : k < hk_len a2), ma_rn ro d 178 (533, [v0, v1, v2, v3], .int (nI k) :: .ref a2 :: st, SH, σ) = ma_rn ro d 178 (534, [v0, v1, v2, v3], .int (σ a2 k) :: st, SH, σ)) ∧
  (∀ (v1 : Option Value) (v2 : Option Value) (v3 : Option Value) (a1 : Nat) (st : List Value) (σ : ma_H), ma_rn ro d 178 (534, [some (.ref a1), v1, v2, v3], st, SH, σ) = ma_rn ro d 178 (535, [some (.ref a1), v1, v2, v3], .ref a1 :: st, SH, σ)) ∧
  (∀ (v0 : Option Value) (v1 : Option Value) (v2 : Option Value) (x1 : Int32) (st : List Value) (σ : ma_H), ma_rn ro d 178 (535, [v0, v1, v2, some (.int x1)], st, SH, σ) = ma_rn ro d 178 (536, [v0, v1, v2, some (.int x1)], .int x1 :: st, SH, σ)) ∧
  (∀ (v0 : Option Value) (v1 : Option Value) (v2 : Option Value) (v3 : Option Value) (st : List Value) (σ : ma_H), ma_rn ro d 178 (536, [v0, v1, v2, v3], st, SH, σ) = ma_rn ro d 178 (537, [v0, v1, v2, v3], .int (nI 2) :: st, SH, σ)) ∧
  (∀ (v0 : Option Value) (v1 : Option Value) (v2 : Option Value) (v3 : Option Value) (x1 : Int32) (x2 : Int32) (st : List Value) (σ : ma_H), ma_rn ro d 178 (537, [v0, v1, v2, v3], .int x1 :: .int x2 :: st, SH, σ) = ma_rn ro d 178 (538, [v0, v1, v2, v3], .int (x2 + x1) :: st, SH, σ)) ∧
  (∀ (v0 : Option Value) (v1 : Option Value) (v2 : Option Value) (v3 : Option Value) (k : Nat) (a2 : Nat) (st : List Value) (σ : ma_H) (hk : k < hk_len a2), ma_rn ro d 178 (538, [v0, v1, v2, v3], .int (nI k) :: .ref a2 :: st, SH, σ) = ma_rn ro d 178 (539, [v0, v1, v2, v3], .int (σ a2 k) :: st, SH, σ)) ∧
  (∀ (v0 : Option Value) (v1 : Option Value) (v2 : Option Value) (v3 : Option Value) (x20 : Int32) (x1 : Int32) (x2 : Int32) (a0 : Nat) (σ : ma_H) (hc : hk_cls a0 = 8), ma_rn ro (d + 1) 178 (539, [v0, v1, v2, v3], .int x2 :: .int x1 :: .ref a0 :: .int x20 :: [], SH, σ) = (ma_ev ro d 146 [.ref a0, .int x1, .int x2] SH σ).bind (fun q => ma_rn ro (d + 1) 178 (542, [v0, v1, v2, v3], (q.1.toList ++ (.int x20 :: [])), q.2.1, q.2.2))) ∧
  (∀ (v0 : Option Value) (v1 : Option Value) (v2 : Option Value) (v3 : Option Value) (x1 : Int32) (x2 : Int32) (st : List Value) (σ : ma_H), ma_rn ro d 178 (542, [v0, v1, v2, v3], .int x1 :: .int x2 :: st, SH, σ) = if x2 = x1 then ma_rn ro d 178 (1046, [v0, v1, v2, v3], st, SH, σ) else ma_rn ro d 178 (545, [v0, v1, v2, v3], st, SH, σ)) ∧
  (∀ (v0 : Option Value) (v1 : Option Value) (v2 : Option Value) (v3 : Option Value) (st : List Value) (σ : ma_H), ma_rn ro d 178 (545, [v0, v1, v2, v3], st, SH, σ) = ma_rn ro d 178 (546, [v0, v1, v2, v3], .int (nI 0) :: st, SH, σ)) ∧
  (∀ (v0 : Option Value) (v1 : Option Value) (v2 : Option Value) (v3 : Option Value) (x1 : Int32) (σ : ma_H) (hx : ma_fitI .boolean x1 = true), ma_rn ro d 178 (546, [v0, v1, v2, v3], [.int x1], SH, σ) = some (some (.int x1), SH, σ)) ∧
  (∀ (v0 : Option Value) (v2 : Option Value) (v3 : Option Value) (a1 : Nat) (st : List Value) (σ : ma_H), ma_rn ro d 178 (547, [v0, some (.ref a1), v2, v3], st, SH, σ) = ma_rn ro d 178 (548, [v0, some (.ref a1), v2, v3], .ref a1 :: st, SH, σ)) ∧
  (∀ (v1 : Option Value) (v2 : Option Value) (v3 : Option Value) (a1 : Nat) (st : List Value) (σ : ma_H), ma_rn ro d 178 (548, [some (.ref a1), v1, v2, v3], st, SH, σ) = ma_rn ro d 178 (549, [some (.ref a1), v1, v2, v3], .ref a1 :: st, SH, σ)) ∧
  (∀ (v0 : Option Value) (v1 : Option Value) (v2 : Option Value) (x1 : Int32) (st : List Value) (σ : ma_H), ma_rn ro d 178 (549, [v0, v1, v2, some (.int x1)], st, SH, σ) = ma_rn ro d 178 (550, [v0, v1, v2, some (.int x1)], .int x1 :: st, SH, σ)) ∧
  (∀ (v0 : Option Value) (v1 : Option Value) (v2 : Option Value) (v3 : Option Value) (st : List Value) (σ : ma_H), ma_rn ro d 178 (550, [v0, v1, v2, v3], st, SH, σ) = ma_rn ro d 178 (551, [v0, v1, v2, v3], .int (nI 1) :: st, SH, σ)) ∧
  (∀ (v0 : Option Value) (v1 : Option Value) (v2 : Option Value) (v3 : Option Value) (x1 : Int32) (x2 : Int32) (st : List Value) (σ : ma_H), ma_rn ro d 178 (551, [v0, v1, v2, v3], .int x1 :: .int x2 :: st, SH, σ) = ma_rn ro d 178 (552, [v0, v1, v2, v3], .int (x2 + x1) :: st, SH, σ)) ∧
  (∀ (v0 : Option Value) (v1 : Option Value) (v2 : Option Value) (v3 : Option Value) (k : Nat) (a2 : Nat) (st : List Value) (σ : ma_H) (hk : k < hk_len a2), ma_rn ro d 178 (552, [v0, v1, v2, v3], .int (nI k) :: .ref a2 :: st, SH, σ) = ma_rn ro d 178 (553, [v0, v1, v2, v3], .int (σ a2 k) :: st, SH, σ)) ∧
  (∀ (v1 : Option Value) (v2 : Option Value) (v3 : Option Value) (a1 : Nat) (st : List Value) (σ : ma_H), ma_rn ro d 178 (553, [some (.ref a1), v1, v2, v3], st, SH, σ) = ma_rn ro d 178 (554, [some (.ref a1), v1, v2, v3], .ref a1 :: st, SH, σ)) ∧
  (∀ (v0 : Option Value) (v1 : Option Value) (v2 : Option Value) (x1 : Int32) (st : List Value) (σ : ma_H), ma_rn ro d 178 (554, [v0, v1, v2, some (.int x1)], st, SH, σ) = ma_rn ro d 178 (555, [v0, v1, v2, some (.int x1)], .int x1 :: st, SH, σ)) ∧
  (∀ (v0 : Option Value) (v1 : Option Value) (v2 : Option Value) (v3 : Option Value) (st : List Value) (σ : ma_H), ma_rn ro d 178 (555, [v0, v1, v2, v3], st, SH, σ) = ma_rn ro d 178 (556, [v0, v1, v2, v3], .int (nI 2) :: st, SH, σ)) ∧
  (∀ (v0 : Option Value) (v1 : Option Value) (v2 : Option Value) (v3 : Option Value) (x1 : Int32) (x2 : Int32) (st : List Value) (σ : ma_H), ma_rn ro d 178 (556, [v0, v1, v2, v3], .int x1 :: .int x2 :: st, SH, σ) = ma_rn ro d 178 (557, [v0, v1, v2, v3], .int (x2 + x1) :: st, SH, σ)) ∧
  (∀ (v0 : Option Value) (v1 : Option Value) (v2 : Option Value) (v3 : Option Value) (k : Nat) (a2 : Nat) (st : List Value) (σ : ma_H) (hk : k < hk_len a2), ma_rn ro d 178 (557, [v0, v1, v2, v3], .int (nI k) :: .ref a2 :: st, SH, σ) = ma_rn ro d 178 (558, [v0, v1, v2, v3], .int (σ a2 k) :: st, SH, σ)) ∧
  (∀ (v1 : Option Value) (v2 : Option Value) (v3 : Option Value) (a1 : Nat) (st : List Value) (σ : ma_H), ma_rn ro d 178 (558, [some (.ref a1), v1, v2, v3], st, SH, σ) = ma_rn ro d 178 (559, [some (.ref a1), v1, v2, v3], .ref a1 :: st, SH, σ)) ∧
  (∀ (v0 : Option Value) (v1 : Option Value) (v2 : Option Value) (x1 : Int32) (st : List Value) (σ : ma_H), ma_rn ro d 178 (559, [v0, v1, v2, some (.int x1)], st, SH, σ) = ma_rn ro d 178 (560, [v0, v1, v2, some (.int x1)], .int x1 :: st, SH, σ)) ∧
  (∀ (v0 : Option Value) (v1 : Option Value) (v2 : Option Value) (v3 : Option Value) (st : List Value) (σ : ma_H), ma_rn ro d 178 (560, [v0, v1, v2, v3], st, SH, σ) = ma_rn ro d 178 (561, [v0, v1, v2, v3], .int (nI 3) :: st, SH, σ)) ∧
  (∀ (v0 : Option Value) (v1 : Option Value) (v2 : Option Value) (v3 : Option Value) (x1 : Int32) (x2 : Int32) (st : List Value) (σ : ma_H), ma_rn ro d 178 (561, [v0, v1, v2, v3], .int x1 :: .int x2 :: st, SH, σ) = ma_rn ro d 178 (562, [v0, v1, v2, v3], .int (x2 + x1) :: st, SH, σ)) ∧
  (∀ (v0 : Option Value) (v1 : Option Value) (v2 : Option Value) (v3 : Option Value) (k : Nat) (a2 : Nat) (st : List Value) (σ : ma_H) (hk : k < hk_len a2), ma_rn ro d 178 (562, [v0, v1, v2, v3], .int (nI k) :: .ref a2 :: st, SH, σ) = ma_rn ro d 178 (563, [v0, v1, v2, v3], .int (σ a2 k) :: st, SH, σ)) ∧
  (∀ (v0 : Option Value) (v1 : Option Value) (v2 : Option Value) (v3 : Option Value) (x1 : Int32) (x2 : Int32) (x3 : Int32) (a0 : Nat) (σ : ma_H) (hc : hk_cls a0 = 7), ma_rn ro (d + 1) 178 (563, [v0, v1, v2, v3], .int x3 :: .int x2 :: .int x1 :: .ref a0 :: [], SH, σ) = (ma_ev ro d 71 [.ref a0, .int x1, .int x2, .int x3] SH σ).bind (fun q => ma_rn ro (d + 1) 178 (566, [v0, v1, v2, v3], (q.1.toList ++ []), q.2.1, q.2.2))) ∧
  (∀ (v0 : Option Value) (v1 : Option Value) (v3 : Option Value) (a1 : Nat) (st : List Value) (σ : ma_H), ma_rn ro d 178 (566, [v0, v1, some (.ref a1), v3], st, SH, σ) = ma_rn ro d 178 (567, [v0, v1, some (.ref a1), v3], .ref a1 :: st, SH, σ)) ∧
  (∀ (v1 : Option Value) (v2 : Option Value) (v3 : Option Value) (a1 : Nat) (st : List Value) (σ : ma_H), ma_rn ro d 178 (567, [some (.ref a1), v1, v2, v3], st, SH, σ) = ma_rn ro d 178 (568, [some (.ref a1), v1, v2, v3], .ref a1 :: st, SH, σ)) ∧
  (∀ (v0 : Option Value) (v1 : Option Value) (v2 : Option Value) (x1 : Int32) (st : List Value) (σ : ma_H), ma_rn ro d 178 (568, [v0, v1, v2, some (.int x1)], st, SH, σ) = ma_rn ro d 178 (569, [v0, v1, v2, some (.int x1)], .int x1 :: st, SH, σ)) ∧
  (∀ (v0 : Option Value) (v1 : Option Value) (v2 : Option Value) (v3 : Option Value) (st : List Value) (σ : ma_H), ma_rn ro d 178 (569, [v0, v1, v2, v3], st, SH, σ) = ma_rn ro d 178 (570, [v0, v1, v2, v3], .int (nI 1) :: st, SH, σ)) ∧
  (∀ (v0 : Option Value) (v1 : Option Value) (v2 : Option Value) (v3 : Option Value) (x1 : Int32) (x2 : Int32) (st : List Value) (σ : ma_H), ma_rn ro d 178 (570, [v0, v1, v2, v3], .int x1 :: .int x2 :: st, SH, σ) = ma_rn ro d 178 (571, [v0, v1, v2, v3], .int (x2 + x1) :: st, SH, σ)) ∧
  (∀ (v0 : Option Value) (v1 : Option Value) (v2 : Option Value) (v3 : Option Value) (k : Nat) (a2 : Nat) (st : List Value) (σ : ma_H) (hk : k < hk_len a2), ma_rn ro d 178 (571, [v0, v1, v2, v3], .int (nI k) :: .ref a2 :: st, SH, σ) = ma_rn ro d 178 (572, [v0, v1, v2, v3], .int (σ a2 k) :: st, SH, σ)) ∧
  (∀ (v1 : Option Value) (v2 : Option Value) (v3 : Option Value) (a1 : Nat) (st : List Value) (σ : ma_H), ma_rn ro d 178 (572, [some (.ref a1), v1, v2, v3], st, SH, σ) = ma_rn ro d 178 (573, [some (.ref a1), v1, v2, v3], .ref a1 :: st, SH, σ)) ∧
  (∀ (v0 : Option Value) (v1 : Option Value) (v2 : Option Value) (x1 : Int32) (st : List Value) (σ : ma_H), ma_rn ro d 178 (573, [v0, v1, v2, some (.int x1)], st, SH, σ) = ma_rn ro d 178 (574, [v0, v1, v2, some (.int x1)], .int x1 :: st, SH, σ)) ∧
  (∀ (v0 : Option Value) (v1 : Option Value) (v2 : Option Value) (v3 : Option Value) (st : List Value) (σ : ma_H), ma_rn ro d 178 (574, [v0, v1, v2, v3], st, SH, σ) = ma_rn ro d 178 (575, [v0, v1, v2, v3], .int (nI 2) :: st, SH, σ)) ∧
  (∀ (v0 : Option Value) (v1 : Option Value) (v2 : Option Value) (v3 : Option Value) (x1 : Int32) (x2 : Int32) (st : List Value) (σ : ma_H), ma_rn ro d 178 (575, [v0, v1, v2, v3], .int x1 :: .int x2 :: st, SH, σ) = ma_rn ro d 178 (576, [v0, v1, v2, v3], .int (x2 + x1) :: st, SH, σ)) ∧
  (∀ (v0 : Option Value) (v1 : Option Value) (v2 : Option Value) (v3 : Option Value) (k : Nat) (a2 : Nat) (st : List Value) (σ : ma_H) (hk : k < hk_len a2), ma_rn ro d 178 (576, [v0, v1, v2, v3], .int (nI k) :: .ref a2 :: st, SH, σ) = ma_rn ro d 178 (577, [v0, v1, v2, v3], .int (σ a2 k) :: st, SH, σ)) ∧
  (∀ (v1 : Option Value) (v2 : Option Value) (v3 : Option Value) (a1 : Nat) (st : List Value) (σ : ma_H), ma_rn ro d 178 (577, [some (.ref a1), v1, v2, v3], st, SH, σ) = ma_rn ro d 178 (578, [some (.ref a1), v1, v2, v3], .ref a1 :: st, SH, σ)) ∧
  (∀ (v0 : Option Value) (v1 : Option Value) (v2 : Option Value) (x1 : Int32) (st : List Value) (σ : ma_H), ma_rn ro d 178 (578, [v0, v1, v2, some (.int x1)], st, SH, σ) = ma_rn ro d 178 (579, [v0, v1, v2, some (.int x1)], .int x1 :: st, SH, σ)) ∧
  (∀ (v0 : Option Value) (v1 : Option Value) (v2 : Option Value) (v3 : Option Value) (st : List Value) (σ : ma_H), ma_rn ro d 178 (579, [v0, v1, v2, v3], st, SH, σ) = ma_rn ro d 178 (580, [v0, v1, v2, v3], .int (nI 3) :: st, SH, σ)) ∧
  (∀ (v0 : Option Value) (v1 : Option Value) (v2 : Option Value) (v3 : Option Value) (x1 : Int32) (x2 : Int32) (st : List Value) (σ : ma_H), ma_rn ro d 178 (580, [v0, v1, v2, v3], .int x1 :: .int x2 :: st, SH, σ) = ma_rn ro d 178 (581, [v0, v1, v2, v3], .int (x2 + x1) :: st, SH, σ)) ∧
  (∀ (v0 : Option Value) (v1 : Option Value) (v2 : Option Value) (v3 : Option Value) (k : Nat) (a2 : Nat) (st : List Value) (σ : ma_H) (hk : k < hk_len a2), ma_rn ro d 178 (581, [v0, v1, v2, v3], .int (nI k) :: .ref a2 :: st, SH, σ) = ma_rn ro d 178 (582, [v0, v1, v2, v3], .int (σ a2 k) :: st, SH, σ)) ∧
  (∀ (v0 : Option Value) (v1 : Option Value) (v2 : Option Value) (v3 : Option Value) (x20 : Int32) (x1 : Int32) (x2 : Int32) (x3 : Int32) (a0 : Nat) (σ : ma_H) (hc : hk_cls a0 = 8), ma_rn ro (d + 1) 178 (582, [v0, v1, v2, v3], .int x3 :: .int x2 :: .int x1 :: .ref a0 :: .int x20 :: [], SH, σ) = (ma_ev ro d 149 [.ref a0, .int x1, .int x2, .int x3] SH σ).bind (fun q => ma_rn ro (d + 1) 178 (585, [v0, v1, v2, v3], (q.1.toList ++ (.int x20 :: [])), q.2.1, q.2.2))) ∧
  (∀ (v0 : Option Value) (v1 : Option Value) (v2 : Option Value) (v3 : Option Value) (x1 : Int32) (x2 : Int32) (st : List Value) (σ : ma_H), ma_rn ro d 178 (585, [v0, v1, v2, v3], .int x1 :: .int x2 :: st, SH, σ) = if x2 = x1 then ma_rn ro d 178 (1046, [v0, v1, v2, v3], st, SH, σ) else ma_rn ro d 178 (588, [v0, v1, v2, v3], st, SH, σ)) ∧
  (∀ (v0 : Option Value) (v1 : Option Value) (v2 : Option Value) (v3 : Option Value) (st : List Value) (σ : ma_H), ma_rn ro d 178 (588, [v0, v1, v2, v3], st, SH, σ) = ma_rn ro d 178 (589, [v0, v1, v2, v3], .int (nI 0) :: st, SH, σ)) ∧
  (∀ (v0 : Option Value) (v1 : Option Value) (v2 : Option Value) (v3 : Option Value) (x1 : Int32) (σ : ma_H) (hx : ma_fitI .boolean x1 = true), ma_rn ro d 178 (589, [v0, v1, v2, v3], [.int x1], SH, σ) = some (some (.int x1), SH, σ)) ∧
  (∀ (v0 : Option Value) (v2 : Option Value) (v3 : Option Value) (a1 : Nat) (st : List Value) (σ : ma_H), ma_rn ro d 178 (590, [v0, some (.ref a1), v2, v3], st, SH, σ) = ma_rn ro d 178 (591, [v0, some (.ref a1), v2, v3], .ref a1 :: st, SH, σ)) ∧
  (∀ (v1 : Option Value) (v2 : Option Value) (v3 : Option Value) (a1 : Nat) (st : List Value) (σ : ma_H), ma_rn ro d 178 (591, [some (.ref a1), v1, v2, v3], st, SH, σ) = ma_rn ro d 178 (592, [some (.ref a1), v1, v2, v3], .ref a1 :: st, SH, σ)) ∧
  (∀ (v0 : Option Value) (v1 : Option Value) (v2 : Option Value) (x1 : Int32) (st : List Value) (σ : ma_H), ma_rn ro d 178 (592, [v0, v1, v2, some (.int x1)], st, SH, σ) = ma_rn ro d 178 (593, [v0, v1, v2, some (.int x1)], .int x1 :: st, SH, σ)) ∧
  (∀ (v0 : Option Value) (v1 : Option Value) (v2 : Option Value) (v3 : Option Value) (st : List Value) (σ : ma_H), ma_rn ro d 178 (593, [v0, v1, v2, v3], st, SH, σ) = ma_rn ro d 178 (594, [v0, v1, v2, v3], .int (nI 1) :: st, SH, σ)) ∧
  (∀ (v0 : Option Value) (v1 : Option Value) (v2 : Option Value) (v3 : Option Value) (x1 : Int32) (x2 : Int32) (st : List Value) (σ : ma_H), ma_rn ro d 178 (594, [v0, v1, v2, v3], .int x1 :: .int x2 :: st, SH, σ) = ma_rn ro d 178 (595, [v0, v1, v2, v3], .int (x2 + x1) :: st, SH, σ)) ∧
  (∀ (v0 : Option Value) (v1 : Option Value) (v2 : Option Value) (v3 : Option Value) (k : Nat) (a2 : Nat) (st : List Value) (σ : ma_H) (hk : k < hk_len a2), ma_rn ro d 178 (595, [v0, v1, v2, v3], .int (nI k) :: .ref a2 :: st, SH, σ) = ma_rn ro d 178 (596, [v0, v1, v2, v3], .int (σ a2 k) :: st, SH, σ)) ∧
  (∀ (v1 : Option Value) (v2 : Option Value) (v3 : Option Value) (a1 : Nat) (st : List Value) (σ : ma_H), ma_rn ro d 178 (596, [some (.ref a1), v1, v2, v3], st, SH, σ) = ma_rn ro d 178 (597, [some (.ref a1), v1, v2, v3], .ref a1 :: st, SH, σ)) ∧
  (∀ (v0 : Option Value) (v1 : Option Value) (v2 : Option Value) (x1 : Int32) (st : List Value) (σ : ma_H), ma_rn ro d 178 (597, [v0, v1, v2, some (.int x1)], st, SH, σ) = ma_rn ro d 178 (598, [v0, v1, v2, some (.int x1)], .int x1 :: st, SH, σ)) ∧
  (∀ (v0 : Option Value) (v1 : Option Value) (v2 : Option Value) (v3 : Option Value) (st : List Value) (σ : ma_H), ma_rn ro d 178 (598, [v0, v1, v2, v3], st, SH, σ) = ma_rn ro d 178 (599, [v0, v1, v2, v3], .int (nI 2) :: st, SH, σ)) ∧
  (∀ (v0 : Option Value) (v1 : Option Value) (v2 : Option Value) (v3 : Option Value) (x1 : Int32) (x2 : Int32) (st : List Value) (σ : ma_H), ma_rn ro d 178 (599, [v0, v1, v2, v3], .int x1 :: .int x2 :: st, SH, σ) = ma_rn ro d 178 (600, [v0, v1, v2, v3], .int (x2 + x1) :: st, SH, σ)) ∧
  (∀ (v0 : Option Value) (v1 : Option Value) (v2 : Option Value) (v3 : Option Value) (k : Nat) (a2 : Nat) (st : List Value) (σ : ma_H) (hk : k < hk_len a2), ma_rn ro d 178 (600, [v0, v1, v2, v3], .int (nI k) :: .ref a2 :: st, SH, σ) = ma_rn ro d 178 (601, [v0, v1, v2, v3], .int (σ a2 k) :: st, SH, σ)) ∧
  (∀ (v1 : Option Value) (v2 : Option Value) (v3 : Option Value) (a1 : Nat) (st : List Value) (σ : ma_H), ma_rn ro d 178 (601, [some (.ref a1), v1, v2, v3], st, SH, σ) = ma_rn ro d 178 (602, [some (.ref a1), v1, v2, v3], .ref a1 :: st, SH, σ)) ∧
  (∀ (v0 : Option Value) (v1 : Option Value) (v2 : Option Value) (x1 : Int32) (st : List Value) (σ : ma_H), ma_rn ro d 178 (602, [v0, v1, v2, some (.int x1)], st, SH, σ) = ma_rn ro d 178 (603, [v0, v1, v2, some (.int x1)], .int x1 :: st, SH, σ)) ∧
  (∀ (v0 : Option Value) (v1 : Option Value) (v2 : Option Value) (v3 : Option Value) (st : List Value) (σ : ma_H), ma_rn ro d 178 (603, [v0, v1, v2, v3], st, SH, σ) = ma_rn ro d 178 (604, [v0, v1, v2, v3], .int (nI 3) :: st, SH, σ)) ∧
  (∀ (v0 : Option Value) (v1 : Option Value) (v2 : Option Value) (v3 : Option Value) (x1 : Int32) (x2 : Int32) (st : List Value) (σ : ma_H), ma_rn ro d 178 (604, [v0, v1, v2, v3], .int x1 :: .int x2 :: st, SH, σ) = ma_rn ro d 178 (605, [v0, v1, v2, v3], .int (x2 + x1) :: st, SH, σ)) ∧
  (∀ (v0 : Option Value) (v1 : Option Value) (v2 : Option Value) (v3 : Option Value) (k : Nat) (a2 : Nat) (st : List Value) (σ : ma_H) (hk : k < hk_len a2), ma_rn ro d 178 (605, [v0, v1, v2, v3], .int (nI k) :: .ref a2 :: st, SH, σ) = ma_rn ro d 178 (606, [v0, v1, v2, v3], .int (σ a2 k) :: st, SH, σ)) ∧
  (∀ (v0 : Option Value) (v1 : Option Value) (v2 : Option Value) (v3 : Option Value) (x1 : Int32) (st : List Value) (σ : ma_H), ma_rn ro d 178 (606, [v0, v1, v2, v3], .int x1 :: st, SH, σ) = if x1 = nI 0 then ma_rn ro d 178 (613, [v0, v1, v2, v3], st, SH, σ) else ma_rn ro d 178 (609, [v0, v1, v2, v3], st, SH, σ)) ∧
  (∀ (v0 : Option Value) (v1 : Option Value) (v2 : Option Value) (v3 : Option Value) (st : List Value) (σ : ma_H), ma_rn ro d 178 (609, [v0, v1, v2, v3], st, SH, σ) = ma_rn ro d 178 (610, [v0, v1, v2, v3], .int (nI 1) :: st, SH, σ)) ∧
  (∀ (v0 : Option Value) (v1 : Option Value) (v2 : Option Value) (v3 : Option Value) (st : List Value) (σ : ma_H), ma_rn ro d 178 (610, [v0, v1, v2, v3], st, SH, σ) = ma_rn ro d 178 (614, [v0, v1, v2, v3], st, SH, σ)) ∧
  (∀ (v0 : Option Value) (v1 : Option Value) (v2 : Option Value) (v3 : Option Value) (st : List Value) (σ : ma_H), ma_rn ro d 178 (613, [v0, v1, v2, v3], st, SH, σ) = ma_rn ro d 178 (614, [v0, v1, v2, v3], .int (nI 0) :: st, SH, σ)) ∧
  (∀ (v0 : Option Value) (v1 : Option Value) (v2 : Option Value) (v3 : Option Value) (x1 : Int32) (x2 : Int32) (x3 : Int32) (a0 : Nat) (σ : ma_H) (hc : hk_cls a0 = 7), ma_rn ro (d + 1) 178 (614, [v0, v1, v2, v3], .int x3 :: .int x2 :: .int x1 :: .ref a0 :: [], SH, σ) = (ma_ev ro d 72 [.ref a0, .int x1, .int x2, .int x3] SH σ).bind (fun q => ma_rn ro (d + 1) 178 (617, [v0, v1, v2, v3], (q.1.toList ++ []), q.2.1, q.2.2))) ∧
  (∀ (v0 : Option Value) (v1 : Option Value) (v3 : Option Value) (a1 : Nat) (st : List Value) (σ : ma_H), ma_rn ro d 178 (617, [v0, v1, some (.ref a1), v3], st, SH, σ) = ma_rn ro d 178 (618, [v0, v1, some (.ref a1), v3], .ref a1 :: st, SH, σ)) ∧
  (∀ (v1 : Option Value) (v2 : Option Value) (v3 : Option Value) (a1 : Nat) (st : List Value) (σ : ma_H), ma_rn ro d 178 (618, [some (.ref a1), v1, v2, v3], st, SH, σ) = ma_rn ro d 178 (619, [some (.ref a1), v1, v2, v3], .ref a1 :: st, SH, σ)) ∧
  (∀ (v0 : Option Value) (v1 : Option Value) (v2 : Option Value) (x1 : Int32) (st : List Value) (σ : ma_H), ma_rn ro d 178 (619, [v0, v1, v2, some (.int x1)], st, SH, σ) = ma_rn ro d 178 (620, [v0, v1, v2, some (.int x1)], .int x1 :: st, SH, σ)) ∧
  (∀ (v0 : Option Value) (v1 : Option Value) (v2 : Option Value) (v3 : Option Value) (st : List Value) (σ : ma_H), ma_rn ro d 178 (620, [v0, v1, v2, v3], st, SH, σ) = ma_rn ro d 178 (621, [v0, v1, v2, v3], .int (nI 1) :: st, SH, σ)) ∧
  (∀ (v0 : Option Value) (v1 : Option Value) (v2 : Option Value) (v3 : Option Value) (x1 : Int32) (x2 : Int32) (st : List Value) (σ : ma_H), ma_rn ro d 178 (621, [v0, v1, v2, v3], .int x1 :: .int x2 :: st, SH, σ) = ma_rn ro d 178 (622, [v0, v1, v2, v3], .int (x2 + x1) :: st, SH, σ)) ∧
  (∀ (v0 : Option Value) (v1 : Option Value) (v2 : Option Value) (v3 : Option Value) (k : Nat) (a2 : Nat) (st : List Value) (σ : ma_H) (hk : k < hk_len a2), ma_rn ro d 178 (622, [v0, v1, v2, v3], .int (nI k) :: .ref a2 :: st, SH, σ) = ma_rn ro d 178 (623, [v0, v1, v2, v3], .int (σ a2 k) :: st, SH, σ)) ∧
  (∀ (v1 : Option Value) (v2 : Option Value) (v3 : Option Value) (a1 : Nat) (st : List Value) (σ : ma_H), ma_rn ro d 178 (623, [some (.ref a1), v1, v2, v3], st, SH, σ) = ma_rn ro d 178 (624, [some (.ref a1), v1, v2, v3], .ref a1 :: st, SH, σ)) ∧
  (∀ (v0 : Option Value) (v1 : Option Value) (v2 : Option Value) (x1 : Int32) (st : List Value) (σ : ma_H), ma_rn ro d 178 (624, [v0, v1, v2, some (.int x1)], st, SH, σ) = ma_rn ro d 178 (625, [v0, v1, v2, some (.int x1)], .int x1 :: st, SH, σ)) ∧
  (∀ (v0 : Option Value) (v1 : Option Value) (v2 : Option Value) (v3 : Option Value) (st : List Value) (σ : ma_H), ma_rn ro d 178 (625, [v0, v1, v2, v3], st, SH, σ) = ma_rn ro d 178 (626, [v0, v1, v2, v3], .int (nI 2) :: st, SH, σ)) ∧
  (∀ (v0 : Option Value) (v1 : Option Value) (v2 : Option Value) (v3 : Option Value) (x1 : Int32) (x2 : Int32) (st : List Value) (σ : ma_H), ma_rn ro d 178 (626, [v0, v1, v2, v3], .int x1 :: .int x2 :: st, SH, σ) = ma_rn ro d 178 (627, [v0, v1, v2, v3], .int (x2 + x1) :: st, SH, σ)) ∧
  (∀ (v0 : Option Value) (v1 : Option Value) (v2 : Option Value) (v3 : Option Value) (k : Nat) (a2 : Nat) (st : List Value) (σ : ma_H) (hk : k < hk_len a2), ma_rn ro d 178 (627, [v0, v1, v2, v3], .int (nI k) :: .ref a2 :: st, SH, σ) = ma_rn ro d 178 (628, [v0, v1, v2, v3], .int (σ a2 k) :: st, SH, σ)) ∧
  (∀ (v1 : Option Value) (v2 : Option Value) (v3 : Option Value) (a1 : Nat) (st : List Value) (σ : ma_H), ma_rn ro d 178 (628, [some (.ref a1), v1, v2, v3], st, SH, σ) = ma_rn ro d 178 (629, [some (.ref a1), v1, v2, v3], .ref a1 :: st, SH, σ)) ∧
  (∀ (v0 : Option Value) (v1 : Option Value) (v2 : Option Value) (x1 : Int32) (st : List Value) (σ : ma_H), ma_rn ro d 178 (629, [v0, v1, v2, some (.int x1)], st, SH, σ) = ma_rn ro d 178 (630, [v0, v1, v2, some (.int x1)], .int x1 :: st, SH, σ)) ∧
  (∀ (v0 : Option Value) (v1 : Option Value) (v2 : Option Value) (v3 : Option Value) (st : List Value) (σ : ma_H), ma_rn ro d 178 (630, [v0, v1, v2, v3], st, SH, σ) = ma_rn ro d 178 (631, [v0, v1, v2, v3], .int (nI 3) :: st, SH, σ)) ∧
  (∀ (v0 : Option Value) (v1 : Option Value) (v2 : Option Value) (v3 : Option Value) (x1 : Int32) (x2 : Int32) (st : List Value) (σ : ma_H), ma_rn ro d 178 (631, [v0, v1, v2, v3], .int x1 :: .int x2 :: st, SH, σ) = ma_rn ro d 178 (632, [v0, v1, v2, v3], .int (x2 + x1) :: st, SH, σ)) ∧
  (∀ (v0 : Option Value) (v1 : Option Value) (v2 : Option Value) (v3 : Option Value) (k : Nat) (a2 : Nat) (st : List Value) (σ : ma_H) (hk : k < hk_len a2), ma_rn ro d 178 (632, [v0, v1, v2, v3], .int (nI k) :: .ref a2 :: st, SH, σ) = ma_rn ro d 178 (633, [v0, v1, v2, v3], .int (σ a2 k) :: st, SH, σ)) ∧
  (∀ (v0 : Option Value) (v1 : Option Value) (v2 : Option Value) (v3 : Option Value) (x1 : Int32) (st : List Value) (σ : ma_H), ma_rn ro d 178 (633, [v0, v1, v2, v3], .int x1 :: st, SH, σ) = if x1 = nI 0 then ma_rn ro d 178 (640, [v0, v1, v2, v3], st, SH, σ) else ma_rn ro d 178 (636, [v0, v1, v2, v3], st, SH, σ)) ∧
  (∀ (v0 : Option Value) (v1 : Option Value) (v2 : Option Value) (v3 : Option Value) (st : List Value) (σ : ma_H), ma_rn ro d 178 (636, [v0, v1, v2, v3], st, SH, σ) = ma_rn ro d 178 (637, [v0, v1, v2, v3], .int (nI 1) :: st, SH, σ)) ∧
  (∀ (v0 : Option Value) (v1 : Option Value) (v2 : Option Value) (v3 : Option Value) (st : List Value) (σ : ma_H), ma_rn ro d 178 (637, [v0, v1, v2, v3], st, SH, σ) = ma_rn ro d 178 (641, [v0, v1, v2, v3], st, SH, σ)) ∧
  (∀ (v0 : Option Value) (v1 : Option Value) (v2 : Option Value) (v3 : Option Value) (st : List Value) (σ : ma_H), ma_rn ro d 178 (640, [v0, v1, v2, v3], st, SH, σ) = ma_rn ro d 178 (641, [v0, v1, v2, v3], .int (nI 0) :: st, SH, σ)) ∧
  (∀ (v0 : Option Value) (v1 : Option Value) (v2 : Option Value) (v3 : Option Value) (x20 : Int32) (x1 : Int32) (x2 : Int32) (x3 : Int32) (a0 : Nat) (σ : ma_H) (hc : hk_cls a0 = 8), ma_rn ro (d + 1) 178 (641, [v0, v1, v2, v3], .int x3 :: .int x2 :: .int x1 :: .ref a0 :: .int x20 :: [], SH, σ) = (ma_ev ro d 150 [.ref a0, .int x1, .int x2, .int x3] SH σ).bind (fun q => ma_rn ro (d + 1) 178 (644, [v0, v1, v2, v3], (q.1.toList ++ (.int x20 :: [])), q.2.1, q.2.2))) ∧
  (∀ (v0 : Option Value) (v1 : Option Value) (v2 : Option Value) (v3 : Option Value) (x1 : Int32) (x2 : Int32) (st : List Value) (σ : ma_H), ma_rn ro d 178 (644, [v0, v1, v2, v3], .int x1 :: .int x2 :: st, SH, σ) = if x2 = x1 then ma_rn ro d 178 (1046, [v0, v1, v2, v3], st, SH, σ) else ma_rn ro d 178 (647, [v0, v1, v2, v3], st, SH, σ)) ∧
  (∀ (v0 : Option Value) (v1 : Option Value) (v2 : Option Value) (v3 : Option Value) (st : List Value) (σ : ma_H), ma_rn ro d 178 (647, [v0, v1, v2, v3], st, SH, σ) = ma_rn ro d 178 (648, [v0, v1, v2, v3], .int (nI 0) :: st, SH, σ)) ∧
  (∀ (v0 : Option Value) (v1 : Option Value) (v2 : Option Value) (v3 : Option Value) (x1 : Int32) (σ : ma_H) (hx : ma_fitI .boolean x1 = true), ma_rn ro d 178 (648, [v0, v1, v2, v3], [.int x1], SH, σ) = some (some (.int x1), SH, σ)) ∧
  (∀ (v0 : Option Value) (v2 : Option Value) (v3 : Option Value) (a1 : Nat) (st : List Value) (σ : ma_H), ma_rn ro d 178 (649, [v0, some (.ref a1), v2, v3], st, SH, σ) = ma_rn ro d 178 (650, [v0, some (.ref a1), v2, v3], .ref a1 :: st, SH, σ)) ∧
  (∀ (v1 : Option Value) (v2 : Option Value) (v3 : Option Value) (a1 : Nat) (st : List Value) (σ : ma_H), ma_rn ro d 178 (650, [some (.ref a1), v1, v2, v3], st, SH, σ) = ma_rn ro d 178 (651, [some (.ref a1), v1, v2, v3], .ref a1 :: st, SH, σ)) ∧
  (∀ (v0 : Option Value) (v1 : Option Value) (v2 : Option Value) (x1 : Int32) (st : List Value) (σ : ma_H), ma_rn ro d 178 (651, [v0, v1, v2, some (.int x1)], st, SH, σ) = ma_rn ro d 178 (652, [v0, v1, v2, some (.int x1)], .int x1 :: st, SH, σ)) ∧
  (∀ (v0 : Option Value) (v1 : Option Value) (v2 : Option Value) (v3 : Option Value) (st : List Value) (σ : ma_H), ma_rn ro d 178 (652, [v0, v1, v2, v3], st, SH, σ) = ma_rn ro d 178 (653, [v0, v1, v2, v3], .int (nI 1) :: st, SH, σ)) ∧
  (∀ (v0 : Option Value) (v1 : Option Value) (v2 : Option Value) (v3 : Option Value) (x1 : Int32) (x2 : Int32) (st : List Value) (σ : ma_H), ma_rn ro d 178 (653, [v0, v1, v2, v3], .int x1 :: .int x2 :: st, SH, σ) = ma_rn ro d 178 (654, [v0, v1, v2, v3], .int (x2 + x1) :: st, SH, σ)) ∧
  (∀ (v0 : Option Value) (v1 : Option Value) (v2 : Option Value) (v3 : Option Value) (k : Nat) (a2 : Nat) (st : List Value) (σ : ma_H) (hk : k < hk_len a2), ma_rn ro d 178 (654, [v0, v1, v2, v3], .int (nI k) :: .ref a2 :: st, SH, σ) = ma_rn ro d 178 (655, [v0, v1, v2, v3], .int (σ a2 k) :: st, SH, σ)) ∧
  (∀ (v0 : Option Value) (v1 : Option Value) (v2 : Option Value) (v3 : Option Value) (x1 : Int32) (a0 : Nat) (σ : ma_H) (hc : hk_cls a0 = 7), ma_rn ro (d + 1) 178 (655, [v0, v1, v2, v3], .int x1 :: .ref a0 :: [], SH, σ) = (ma_ev ro d 73 [.ref a0, .int x1] SH σ).bind (fun q => ma_rn ro (d + 1) 178 (658, [v0, v1, v2, v3], (q.1.toList ++ []), q.2.1, q.2.2))) ∧
  (∀ (v0 : Option Value) (v1 : Option Value) (v3 : Option Value) (a1 : Nat) (st : List Value) (σ : ma_H), ma_rn ro d 178 (658, [v0, v1, some (.ref a1), v3], st, SH, σ) = ma_rn ro d 178 (659, [v0, v1, some (.ref a1), v3], .ref a1 :: st, SH, σ)) ∧
  (∀ (v1 : Option Value) (v2 : Option Value) (v3 : Option Value) (a1 : Nat) (st : List Value) (σ : ma_H), ma_rn ro d 178 (659, [some (.ref a1), v1, v2, v3], st, SH, σ) = ma_rn ro d 178 (660, [some (.ref a1), v1, v2, v3], .ref a1 :: st, SH, σ)) ∧
  (∀ (v0 : Option Value) (v1 : Option Value) (v2 : Option Value) (x1 : Int32) (st : List Value) (σ : ma_H), ma_rn ro d 178 (660, [v0, v1, v2, some (.int x1)], st, SH, σ) = ma_rn ro d 178 (661, [v0, v1, v2, some (.int x1)], .int x1 :: st, SH, σ)) ∧
  (∀ (v0 : Option Value) (v1 : Option Value) (v2 : Option Value) (v3 : Option Value) (st : List Value) (σ : ma_H), ma_rn ro d 178 (661, [v0, v1, v2, v3], st, SH, σ) = ma_rn ro d 178 (662, [v0, v1, v2, v3], .int (nI 1) :: st, SH, σ)) ∧
  (∀ (v0 : Option Value) (v1 : Option Value) (v2 : Option Value) (v3 : Option Value) (x1 : Int32) (x2 : Int32) (st : List Value) (σ : ma_H), ma_rn ro d 178 (662, [v0, v1, v2, v3], .int x1 :: .int x2 :: st, SH, σ) = ma_rn ro d 178 (663, [v0, v1, v2, v3], .int (x2 + x1) :: st, SH, σ)) ∧
  (∀ (v0 : Option Value) (v1 : Option Value) (v2 : Option Value) (v3 : Option Value) (k : Nat) (a2 : Nat) (st : List Value) (σ : ma_H) (hk : k < hk_len a2), ma_rn ro d 178 (663, [v0, v1, v2, v3], .int (nI k) :: .ref a2 :: st, SH, σ) = ma_rn ro d 178 (664, [v0, v1, v2, v3], .int (σ a2 k) :: st, SH, σ)) ∧
  (∀ (v0 : Option Value) (v1 : Option Value) (v2 : Option Value) (v3 : Option Value) (x20 : Int32) (x1 : Int32) (a0 : Nat) (σ : ma_H) (hc : hk_cls a0 = 8), ma_rn ro (d + 1) 178 (664, [v0, v1, v2, v3], .int x1 :: .ref a0 :: .int x20 :: [], SH, σ) = (ma_ev ro d 153 [.ref a0, .int x1] SH σ).bind (fun q => ma_rn ro (d + 1) 178 (667, [v0, v1, v2, v3], (q.1.toList ++ (.int x20 :: [])), q.2.1, q.2.2))) ∧
  (∀ (v0 : Option Value) (v1 : Option Value) (v2 : Option Value) (v3 : Option Value) (x1 : Int32) (x2 : Int32) (st : List Value) (σ : ma_H), ma_rn ro d 178 (667, [v0, v1, v2, v3], .int x1 :: .int x2 :: st, SH, σ) = if x2 = x1 then ma_rn ro d 178 (1046, [v0, v1, v2, v3], st, SH, σ) else ma_rn ro d 178 (670, [v0, v1, v2, v3], st, SH, σ)) ∧
  (∀ (v0 : Option Value) (v1 : Option Value) (v2 : Option Value) (v3 : Option Value) (st : List Value) (σ : ma_H), ma_rn ro d 178 (670, [v0, v1, v2, v3], st, SH, σ) = ma_rn ro d 178 (671, [v0, v1, v2, v3], .int (nI 0) :: st, SH, σ)) ∧
  (∀ (v0 : Option Value) (v1 : Option Value) (v2 : Option Value) (v3 : Option Value) (x1 : Int32) (σ : ma_H) (hx : ma_fitI .boolean x1 = true), ma_rn ro d 178 (671, [v0, v1, v2, v3], [.int x1], SH, σ) = some (some (.int x1), SH, σ)) ∧
  (∀ (v0 : Option Value) (v2 : Option Value) (v3 : Option Value) (a1 : Nat) (st : List Value) (σ : ma_H), ma_rn ro d 178 (672, [v0, some (.ref a1), v2, v3], st, SH, σ) = ma_rn ro d 178 (673, [v0, some (.ref a1), v2, v3], .ref a1 :: st, SH, σ)) ∧
  (∀ (v1 : Option Value) (v2 : Option Value) (v3 : Option Value) (a1 : Nat) (st : List Value) (σ : ma_H), ma_rn ro d 178 (673, [some (.ref a1), v1, v2, v3], st, SH, σ) = ma_rn ro d 178 (674, [some (.ref a1), v1, v2, v3], .ref a1 :: st, SH, σ)) ∧
  (∀ (v0 : Option Value) (v1 : Option Value) (v2 : Option Value) (x1 : Int32) (st : List Value) (σ : ma_H), ma_rn ro d 178 (674, [v0, v1, v2, some (.int x1)], st, SH, σ) = ma_rn ro d 178 (675, [v0, v1, v2, some (.int x1)], .int x1 :: st, SH, σ)) ∧
  (∀ (v0 : Option Value) (v1 : Option Value) (v2 : Option Value) (v3 : Option Value) (st : List Value) (σ : ma_H), ma_rn ro d 178 (675, [v0, v1, v2, v3], st, SH, σ) = ma_rn ro d 178 (676, [v0, v1, v2, v3], .int (nI 1) :: st, SH, σ)) ∧
  (∀ (v0 : Option Value) (v1 : Option Value) (v2 : Option Value) (v3 : Option Value) (x1 : Int32) (x2 : Int32) (st : List Value) (σ : ma_H), ma_rn ro d 178 (676, [v0, v1, v2, v3], .int x1 :: .int x2 :: st, SH, σ) = ma_rn ro d 178 (677, [v0, v1, v2, v3], .int (x2 + x1) :: st, SH, σ)) ∧
  (∀ (v0 : Option Value) (v1 : Option Value) (v2 : Option Value) (v3 : Option Value) (k : Nat) (a2 : Nat) (st : List Value) (σ : ma_H) (hk : k < hk_len a2), ma_rn ro d 178 (677, [v0, v1, v2, v3], .int (nI k) :: .ref a2 :: st, SH, σ) = ma_rn ro d 178 (678, [v0, v1, v2, v3], .int (σ a2 k) :: st, SH, σ)) ∧
  (∀ (v1 : Option Value) (v2 : Option Value) (v3 : Option Value) (a1 : Nat) (st : List Value) (σ : ma_H), ma_rn ro d 178 (678, [some (.ref a1), v1, v2, v3], st, SH, σ) = ma_rn ro d 178 (679, [some (.ref a1), v1, v2, v3], .ref a1 :: st, SH, σ)) ∧
  (∀ (v0 : Option Value) (v1 : Option Value) (v2 : Option Value) (x1 : Int32) (st : List Value) (σ : ma_H), ma_rn ro d 178 (679, [v0, v1, v2, some (.int x1)], st, SH, σ) = ma_rn ro d 178 (680, [v0, v1, v2, some (.int x1)], .int x1 :: st, SH, σ)) ∧
  (∀ (v0 : Option Value) (v1 : Option Value) (v2 : Option Value) (v3 : Option Value) (st : List Value) (σ : ma_H), ma_rn ro d 178 (680, [v0, v1, v2, v3], st, SH, σ) = ma_rn ro d 178 (681, [v0, v1, v2, v3], .int (nI 2) :: st, SH, σ)) ∧
  (∀ (v0 : Option Value) (v1 : Option Value) (v2 : Option Value) (v3 : Option Value) (x1 : Int32) (x2 : Int32) (st : List Value) (σ : ma_H), ma_rn ro d 178 (681, [v0, v1, v2, v3], .int x1 :: .int x2 :: st, SH, σ) = ma_rn ro d 178 (682, [v0, v1, v2, v3], .int (x2 + x1) :: st, SH, σ)) ∧
  (∀ (v0 : Option Value) (v1 : Option Value) (v2 : Option Value) (v3 : Option Value) (k : Nat) (a2 : Nat) (st : List Value) (σ : ma_H) (hk : k < hk_len a2), ma_rn ro d 178 (682, [v0, v1, v2, v3], .int (nI k) :: .ref a2 :: st, SH, σ) = ma_rn ro d 178 (683, [v0, v1, v2, v3], .int (σ a2 k) :: st, SH, σ)) ∧
  (∀ (v0 : Option Value) (v1 : Option Value) (v2 : Option Value) (v3 : Option Value) (x1 : Int32) (x2 : Int32) (a0 : Nat) (σ : ma_H) (hc : hk_cls a0 = 7), ma_rn ro (d + 1) 178 (683, [v0, v1, v2, v3], .int x2 :: .int x1 :: .ref a0 :: [], SH, σ) = (ma_ev ro d 74 [.ref a0, .int x1, .int x2] SH σ).bind (fun q => ma_rn ro (d + 1) 178 (686, [v0, v1, v2, v3], (q.1.toList ++ []), q.2.1, q.2.2))) ∧
  (∀ (v0 : Option Value) (v1 : Option Value) (v3 : Option Value) (a1 : Nat) (st : List Value) (σ : ma_H), ma_rn ro d 178 (686, [v0, v1, some (.ref a1), v3], st, SH, σ) = ma_rn ro d 178 (687, [v0, v1, some (.ref a1), v3], .ref a1 :: st, SH, σ)) ∧
  (∀ (v1 : Option Value) (v2 : Option Value) (v3 : Option Value) (a1 : Nat) (st : List Value) (σ : ma_H), ma_rn ro d 178 (687, [some (.ref a1), v1, v2, v3], st, SH, σ) = ma_rn ro d 178 (688, [some (.ref a1), v1, v2, v3], .ref a1 :: st, SH, σ)) ∧
  (∀ (v0 : Option Value) (v1 : Option Value) (v2 : Option Value) (x1 : Int32) (st : List Value) (σ : ma_H), ma_rn ro d 178 (688, [v0, v1, v2, some (.int x1)], st, SH, σ) = ma_rn ro d 178 (689, [v0, v1, v2, some (.int x1)], .int x1 :: st, SH, σ)) ∧
  (∀ (v0 : Option Value) (v1 : Option Value) (v2 : Option Value) (v3 : Option Value) (st : List Value) (σ : ma_H), ma_rn ro d 178 (689, [v0, v1, v2, v3], st, SH, σ) = ma_rn ro d 178 (690, [v0, v1, v2, v3], .int (nI 1) :: st, SH, σ)) ∧
  (∀ (v0 : Option Value) (v1 : Option Value) (v2 : Option Value) (v3 : Option Value) (x1 : Int32) (x2 : Int32) (st : List Value) (σ : ma_H), ma_rn ro d 178 (690, [v0, v1, v2, v3], .int x1 :: .int x2 :: st, SH, σ) = ma_rn ro d 178 (691, [v0, v1, v2, v3], .int (x2 + x1) :: st, SH, σ)) ∧
  (∀ (v0 : Option Value) (v1 : Option Value) (v2 : Option Value) (v3 : Option Value) (k : Nat) (a2 : Nat) (st : List Value) (σ : ma_H) (hk : k < hk_len a2), ma_rn ro d 178 (691, [v0, v1, v2, v3], .int (nI k) :: .ref a2 :: st, SH, σ) = ma_rn ro d 178 (692, [v0, v1, v2, v3], .int (σ a2 k) :: st, SH, σ)) ∧
  (∀ (v1 : Option Value) (v2 : Option Value) (v3 : Option Value) (a1 : Nat) (st : List Value) (σ : ma_H), ma_rn ro d 178 (692, [some (.ref a1), v1, v2, v3], st, SH, σ) = ma_rn ro d 178 (693, [some (.ref a1), v1, v2, v3], .ref a1 :: st, SH, σ)) ∧
  (∀ (v0 : Option Value) (v1 : Option Value) (v2 : Option Value) (x1 : Int32) (st : List Value) (σ : ma_H), ma_rn ro d 178 (693, [v0, v1, v2, some (.int x1)], st, SH, σ) = ma_rn ro d 178 (694, [v0, v1, v2, some (.int x1)], .int x1 :: st, SH, σ)) ∧
  (∀ (v0 : Option Value) (v1 : Option Value) (v2 : Option Value) (v3 : Option Value) (st : List Value) (σ : ma_H), ma_rn ro d 178 (694, [v0, v1, v2, v3], st, SH, σ) = ma_rn ro d 178 (695, [v0, v1, v2, v3], .int (nI 2) :: st, SH, σ)) ∧
  (∀ (v0 : Option Value) (v1 : Option Value) (v2 : Option Value) (v3 : Option Value) (x1 : Int32) (x2 : Int32) (st : List Value) (σ : ma_H), ma_rn ro d 178 (695, [v0, v1, v2, v3], .int x1 :: .int x2 :: st, SH, σ) = ma_rn ro d 178 (696, [v0, v1, v2, v3], .int (x2 + x1) :: st, SH, σ)) ∧
  (∀ (v0 : Option Value) (v1 : Option Value) (v2 : Option Value) (v3 : Option Value) (k : Nat) (a2 : Nat) (st : List Value) (σ : ma_H) (hk : k < hk_len a2), ma_rn ro d 178 (696, [v0, v1, v2, v3], .int (nI k) :: .ref a2 :: st, SH, σ) = ma_rn ro d 178 (697, [v0, v1, v2, v3], .int (σ a2 k) :: st, SH, σ)) ∧
  (∀ (v0 : Option Value) (v1 : Option Value) (v2 : Option Value) (v3 : Option Value) (x20 : Int32) (x1 : Int32) (x2 : Int32) (a0 : Nat) (σ : ma_H) (hc : hk_cls a0 = 8), ma_rn ro (d + 1) 178 (697, [v0, v1, v2, v3], .int x2 :: .int x1 :: .ref a0 :: .int x20 :: [], SH, σ) = (ma_ev ro d 154 [.ref a0, .int x1, .int x2] SH σ).bind (fun q => ma_rn ro (d + 1) 178 (700, [v0, v1, v2, v3], (q.1.toList ++ (.int x20 :: [])), q.2.1, q.2.2))) ∧
  (∀ (v0 : Option Value) (v1 : Option Value) (v2 : Option Value) (v3 : Option Value) (x1 : Int32) (x2 : Int32) (st : List Value) (σ : ma_H), ma_rn ro d 178 (700, [v0, v1, v2, v3], .int x1 :: .int x2 :: st, SH, σ) = if x2 = x1 then ma_rn ro d 178 (1046, [v0, v1, v2, v3], st, SH, σ) else ma_rn ro d 178 (703, [v0, v1, v2, v3], st, SH, σ)) ∧
  (∀ (v0 : Option Value) (v1 : Option Value) (v2 : Option Value) (v3 : Option Value) (st : List Value) (σ : ma_H), ma_rn ro d 178 (703, [v0, v1, v2, v3], st, SH, σ) = ma_rn ro d 178 (704, [v0, v1, v2, v3], .int (nI 0) :: st, SH, σ)) ∧
  (∀ (v0 : Option Value) (v1 : Option Value) (v2 : Option Value) (v3 : Option Value) (x1 : Int32) (σ : ma_H) (hx : ma_fitI .boolean x1 = true), ma_rn ro d 178 (704, [v0, v1, v2, v3], [.int x1], SH, σ) = some (some (.int x1), SH, σ)) ∧
  (∀ (v0 : Option Value) (v2 : Option Value) (v3 : Option Value) (a1 : Nat) (st : List Value) (σ : ma_H), ma_rn ro d 178 (705, [v0, some (.ref a1), v2, v3], st, SH, σ) = ma_rn ro d 178 (706, [v0, some (.ref a1), v2, v3], .ref a1 :: st, SH, σ)) ∧
  (∀ (v1 : Option Value) (v2 : Option Value) (v3 : Option Value) (a1 : Nat) (st : List Value) (σ : ma_H), ma_rn ro d 178 (706, [some (.ref a1), v1, v2, v3], st, SH, σ) = ma_rn ro d 178 (707, [some (.ref a1), v1, v2, v3], .ref a1 :: st, SH, σ)) ∧
  (∀ (v0 : Option Value) (v1 : Option Value) (v2 : Option Value) (x1 : Int32) (st : List Value) (σ : ma_H), ma_rn ro d 178 (707, [v0, v1, v2, some (.int x1)], st, SH, σ) = ma_rn ro d 178 (708, [v0, v1, v2, some (.int x1)], .int x1 :: st, SH, σ)) ∧
  (∀ (v0 : Option Value) (v1 : Option Value) (v2 : Option Value) (v3 : Option Value) (st : List Value) (σ : ma_H), ma_rn ro d 178 (708, [v0, v1, v2, v3], st, SH, σ) = ma_rn ro d 178 (709, [v0, v1, v2, v3], .int (nI 1) :: st, SH, σ)) ∧
  (∀ (v0 : Option Value) (v1 : Option Value) (v2 : Option Value) (v3 : Option Value) (x1 : Int32) (x2 : Int32) (st : List Value) (σ : ma_H), ma_rn ro d 178 (709, [v0, v1, v2, v3], .int x1 :: .int x2 :: st, SH, σ) = ma_rn ro d 178 (710, [v0, v1, v2, v3], .int (x2 + x1) :: st, SH, σ)) ∧
  (∀ (v0 : Option Value) (v1 : Option Value) (v2 : Option Value) (v3 : Option Value) (k : Nat) (a2 : Nat) (st : List Value) (σ : ma_H) (hk : k < hk_len a2), ma_rn ro d 178 (710, [v0, v1, v2, v3], .int (nI k) :: .ref a2 :: st, SH, σ) = ma_rn ro d 178 (711, [v0, v1, v2, v3], .int (σ a2 k) :: st, SH, σ)) ∧
  (∀ (v0 : Option Value) (v1 : Option Value) (v2 : Option Value) (v3 : Option Value) (x1 : Int32) (a0 : Nat) (σ : ma_H) (hc : hk_cls a0 = 7), ma_rn ro (d + 1) 178 (711, [v0, v1, v2, v3], .int x1 :: .ref a0 :: [], SH, σ) = (ma_ev ro d 75 [.ref a0, .int x1] SH σ).bind (fun q => ma_rn ro (d + 1) 178 (714, [v0, v1, v2, v3], (q.1.toList ++ []), q.2.1, q.2.2))) ∧
  (∀ (v0 : Option Value) (v1 : Option Value) (v3 : Option Value) (a1 : Nat) (st : List Value) (σ : ma_H), ma_rn ro d 178 (714, [v0, v1, some (.ref a1), v3], st, SH, σ) = ma_rn ro d 178 (715, [v0, v1, some (.ref a1), v3], .ref a1 :: st, SH, σ)) ∧
  (∀ (v1 : Option Value) (v2 : Option Value) (v3 : Option Value) (a1 : Nat) (st : List Value) (σ : ma_H), ma_rn ro d 178 (715, [some (.ref a1), v1, v2, v3], st, SH, σ) = ma_rn ro d 178 (716, [some (.ref a1), v1, v2, v3], .ref a1 :: st, SH, σ)) ∧
  (∀ (v0 : Option Value) (v1 : Option Value) (v2 : Option Value) (x1 : Int32) (st : List Value) (σ : ma_H), ma_rn ro d 178 (716, [v0, v1, v2, some (.int x1)], st, SH, σ) = ma_rn ro d 178 (717, [v0, v1, v2, some (.int x1)], .int x1 :: st, SH, σ)) ∧
  (∀ (v0 : Option Value) (v1 : Option Value) (v2 : Option Value) (v3 : Option Value) (st : List Value) (σ : ma_H), ma_rn ro d 178 (717, [v0, v1, v2, v3], st, SH, σ) = ma_rn ro d 178 (718, [v0, v1, v2, v3], .int (nI 1) :: st, SH, σ)) ∧
  (∀ (v0 : Option Value) (v1 : Option Value) (v2 : Option Value) (v3 : Option Value) (x1 : Int32) (x2 : Int32) (st : List Value) (σ : ma_H), ma_rn ro d 178 (718, [v0, v1, v2, v3], .int x1 :: .int x2 :: st, SH, σ) = ma_rn ro d 178 (719, [v0, v1, v2, v3], .int (x2 + x1) :: st, SH, σ)) ∧
  (∀ (v0 : Option Value) (v1 : Option Value) (v2 : Option Value) (v3 : Option Value) (k : Nat) (a2 : Nat) (st : List Value) (σ : ma_H) (hk : k < hk_len a2), ma_rn ro d 178 (719, [v0, v1, v2, v3], .int (nI k) :: .ref a2 :: st, SH, σ) = ma_rn ro d 178 (720, [v0, v1, v2, v3], .int (σ a2 k) :: st, SH, σ)) ∧
  (∀ (v0 : Option Value) (v1 : Option Value) (v2 : Option Value) (v3 : Option Value) (x20 : Int32) (x1 : Int32) (a0 : Nat) (σ : ma_H) (hc : hk_cls a0 = 8), ma_rn ro (d + 1) 178 (720, [v0, v1, v2, v3], .int x1 :: .ref a0 :: .int x20 :: [], SH, σ) = (ma_ev ro d 155 [.ref a0, .int x1] SH σ).bind (fun q => ma_rn ro (d + 1) 178 (723, [v0, v1, v2, v3], (q.1.toList ++ (.int x20 :: [])), q.2.1, q.2.2))) ∧
  (∀ (v0 : Option Value) (v1 : Option Value) (v2 : Option Value) (v3 : Option Value) (x1 : Int32) (x2 : Int32) (st : List Value) (σ : ma_H), ma_rn ro d 178 (723, [v0, v1, v2, v3], .int x1 :: .int x2 :: st, SH, σ) = if x2 = x1 then ma_rn ro d 178 (1046, [v0, v1, v2, v3], st, SH, σ) else ma_rn ro d 178 (726, [v0, v1, v2, v3], st, SH, σ)) ∧
  (∀ (v0 : Option Value) (v1 : Option Value) (v2 : Option Value) (v3 : Option Value) (st : List Value) (σ : ma_H), ma_rn ro d 178 (726, [v0, v1, v2, v3], st, SH, σ) = ma_rn ro d 178 (727, [v0, v1, v2, v3], .int (nI 0) :: st, SH, σ)) ∧
  (∀ (v0 : Option Value) (v1 : Option Value) (v2 : Option Value) (v3 : Option Value) (x1 : Int32) (σ : ma_H) (hx : ma_fitI .boolean x1 = true), ma_rn ro d 178 (727, [v0, v1, v2, v3], [.int x1], SH, σ) = some (some (.int x1), SH, σ)) ∧
  (∀ (v0 : Option Value) (v2 : Option Value) (v3 : Option Value) (a1 : Nat) (st : List Value) (σ : ma_H), ma_rn ro d 178 (728, [v0, some (.ref a1), v2, v3], st, SH, σ) = ma_rn ro d 178 (729, [v0, some (.ref a1), v2, v3], .ref a1 :: st, SH, σ)) ∧
  (∀ (v1 : Option Value) (v2 : Option Value) (v3 : Option Value) (a1 : Nat) (st : List Value) (σ : ma_H), ma_rn ro d 178 (729, [some (.ref a1), v1, v2, v3], st, SH, σ) = ma_rn ro d 178 (730, [some (.ref a1), v1, v2, v3], .ref a1 :: st, SH, σ)) ∧
  (∀ (v0 : Option Value) (v1 : Option Value) (v2 : Option Value) (x1 : Int32) (st : List Value) (σ : ma_H), ma_rn ro d 178 (730, [v0, v1, v2, some (.int x1)], st, SH, σ) = ma_rn ro d 178 (731, [v0, v1, v2, some (.int x1)], .int x1 :: st, SH, σ)) ∧
  (∀ (v0 : Option Value) (v1 : Option Value) (v2 : Option Value) (v3 : Option Value) (st : List Value) (σ : ma_H), ma_rn ro d 178 (731, [v0, v1, v2, v3], st, SH, σ) = ma_rn ro d 178 (732, [v0, v1, v2, v3], .int (nI 1) :: st, SH, σ)) ∧
  (∀ (v0 : Option Value) (v1 : Option Value) (v2 : Option Value) (v3 : Option Value) (x1 : Int32) (x2 : Int32) (st : List Value) (σ : ma_H), ma_rn ro d 178 (732, [v0, v1, v2, v3], .int x1 :: .int x2 :: st, SH, σ) = ma_rn ro d 178 (733, [v0, v1, v2, v3], .int (x2 + x1) :: st, SH, σ)) ∧
  (∀ (v0 : Option Value) (v1 : Option Value) (v2 : Option Value) (v3 : Option Value) (k : Nat) (a2 : Nat) (st : List Value) (σ : ma_H) (hk : k < hk_len a2), ma_rn ro d 178 (733, [v0, v1, v2, v3], .int (nI k) :: .ref a2 :: st, SH, σ) = ma_rn ro d 178 (734, [v0, v1, v2, v3], .int (σ a2 k) :: st, SH, σ)) ∧
  (∀ (v1 : Option Value) (v2 : Option Value) (v3 : Option Value) (a1 : Nat) (st : List Value) (σ : ma_H), ma_rn ro d 178 (734, [some (.ref a1), v1, v2, v3], st, SH, σ) = ma_rn ro d 178 (735, [some (.ref a1), v1, v2, v3], .ref a1 :: st, SH, σ)) ∧
  (∀ (v0 : Option Value) (v1 : Option Value) (v2 : Option Value) (x1 : Int32) (st : List Value) (σ : ma_H), ma_rn ro d 178 (735, [v0, v1, v2, some (.int x1)], st, SH, σ) = ma_rn ro d 178 (736, [v0, v1, v2, some (.int x1)], .int x1 :: st, SH, σ)) ∧
  (∀ (v0 : Option Value) (v1 : Option Value) (v2 : Option Value) (v3 : Option Value) (st : List Value) (σ : ma_H), ma_rn ro d 178 (736, [v0, v1, v2, v3], st, SH, σ) = ma_rn ro d 178 (737, [v0, v1, v2, v3], .int (nI 2) :: st, SH, σ)) ∧
  (∀ (v0 : Option Value) (v1 : Option Value) (v2 : Option Value) (v3 : Option Value) (x1 : Int32) (x2 : Int32) (st : List Value) (σ : ma_H), ma_rn ro d 178 (737, [v0, v1, v2, v3], .int x1 :: .int x2 :: st, SH, σ) = ma_rn ro d 178 (738, [v0, v1, v2, v3], .int (x2 + x1) :: st, SH, σ)) ∧
  (∀ (v0 : Option Value) (v1 : Option Value) (v2 : Option Value) (v3 : Option Value) (k : Nat) (a2 : Nat) (st : List Value) (σ : ma_H) (hk : k < hk_len a2), ma_rn ro d 178 (738, [v0, v1, v2, v3], .int (nI k) :: .ref a2 :: st, SH, σ) = ma_rn ro d 178 (739, [v0, v1, v2, v3], .int (σ a2 k) :: st, SH, σ)) ∧
  (∀ (v1 : Option Value) (v2 : Option Value) (v3 : Option Value) (a1 : Nat) (st : List Value) (σ : ma_H), ma_rn ro d 178 (739, [some (.ref a1), v1, v2, v3], st, SH, σ) = ma_rn ro d 178 (740, [some (.ref a1), v1, v2, v3], .ref a1 :: st, SH, σ)) ∧
  (∀ (v0 : Option Value) (v1 : Option Value) (v2 : Option Value) (x1 : Int32) (st : List Value) (σ : ma_H), ma_rn ro d 178 (740, [v0, v1, v2, some (.int x1)], st, SH, σ) = ma_rn ro d 178 (741, [v0, v1, v2, some (.int x1)], .int x1 :: st, SH, σ)) ∧
  (∀ (v0 : Option Value) (v1 : Option Value) (v2 : Option Value) (v3 : Option Value) (st : List Value) (σ : ma_H), ma_rn ro d 178 (741, [v0, v1, v2, v3], st, SH, σ) = ma_rn ro d 178 (742, [v0, v1, v2, v3], .int (nI 3) :: st, SH, σ)) ∧
  (∀ (v0 : Option Value) (v1 : Option Value) (v2 : Option Value) (v3 : Option Value) (x1 : Int32) (x2 : Int32) (st : List Value) (σ : ma_H), ma_rn ro d 178 (742, [v0, v1, v2, v3], .int x1 :: .int x2 :: st, SH, σ) = ma_rn ro d 178 (743, [v0, v1, v2, v3], .int (x2 + x1) :: st, SH, σ)) ∧
  (∀ (v0 : Option Value) (v1 : Option Value) (v2 : Option Value) (v3 : Option Value) (k : Nat) (a2 : Nat) (st : List Value) (σ : ma_H) (hk : k < hk_len a2), ma_rn ro d 178 (743, [v0, v1, v2, v3], .int (nI k) :: .ref a2 :: st, SH, σ) = ma_rn ro d 178 (744, [v0, v1, v2, v3], .int (σ a2 k) :: st, SH, σ)) ∧
  (∀ (v0 : Option Value) (v1 : Option Value) (v2 : Option Value) (v3 : Option Value) (x1 : Int32) (x2 : Int32) (x3 : Int32) (a0 : Nat) (σ : ma_H) (hc : hk_cls a0 = 7), ma_rn ro (d + 1) 178 (744, [v0, v1, v2, v3], .int x3 :: .int x2 :: .int x1 :: .ref a0 :: [], SH, σ) = (ma_ev ro d 76 [.ref a0, .int x1, .int x2, .int x3] SH σ).bind (fun q => ma_rn ro (d + 1) 178 (747, [v0, v1, v2, v3], (q.1.toList ++ []), q.2.1, q.2.2))) ∧
  (∀ (v0 : Option Value) (v1 : Option Value) (v3 : Option Value) (a1 : Nat) (st : List Value) (σ : ma_H), ma_rn ro d 178 (747, [v0, v1, some (.ref a1), v3], st, SH, σ) = ma_rn ro d 178 (748, [v0, v1, some (.ref a1), v3], .ref a1 :: st, SH, σ)) ∧
  (∀ (v1 : Option Value) (v2 : Option Value) (v3 : Option Value) (a1 : Nat) (st : List Value) (σ : ma_H), ma_rn ro d 178 (748, [some (.ref a1), v1, v2, v3], st, SH, σ) = ma_rn ro d 178 (749, [some (.ref a1), v1, v2, v3], .ref a1 :: st, SH, σ)) ∧
  (∀ (v0 : Option Value) (v1 : Option Value) (v2 : Option Value) (x1 : Int32) (st : List Value) (σ : ma_H), ma_rn ro d 178 (749, [v0, v1, v2, some (.int x1)], st, SH, σ) = ma_rn ro d 178 (750, [v0, v1, v2, some (.int x1)], .int x1 :: st, SH, σ)) ∧
  (∀ (v0 : Option Value) (v1 : Option Value) (v2 : Option Value) (v3 : Option Value) (st : List Value) (σ : ma_H), ma_rn ro d 178 (750, [v0, v1, v2, v3], st, SH, σ) = ma_rn ro d 178 (751, [v0, v1, v2, v3], .int (nI 1) :: st, SH, σ)) ∧
  (∀ (v0 : Option Value) (v1 : Option Value) (v2 : Option Value) (v3 : Option Value) (x1 : Int32) (x2 : Int32) (st : List Value) (σ : ma_H), ma_rn ro d 178 (751, [v0, v1, v2, v3], .int x1 :: .int x2 :: st, SH, σ) = ma_rn ro d 178 (752, [v0, v1, v2, v3], .int (x2 + x1) :: st, SH, σ)) ∧
  (∀ (v0 : Option Value) (v1 : Option Value) (v2 : Option Value) (v3 : Option Value) (k : Nat) (a2 : Nat) (st : List Value) (σ : ma_H) (hk : k < hk_len a2), ma_rn ro d 178 (752, [v0, v1, v2, v3], .int (nI k) :: .ref a2 :: st, SH, σ) = ma_rn ro d 178 (753, [v0, v1, v2, v3], .int (σ a2 k) :: st, SH, σ)) ∧
  (∀ (v1 : Option Value) (v2 : Option Value) (v3 : Option Value) (a1 : Nat) (st : List Value) (σ : ma_H), ma_rn ro d 178 (753, [some (.ref a1), v1, v2, v3], st, SH, σ) = ma_rn ro d 178 (754, [some (.ref a1), v1, v2, v3], .ref a1 :: st, SH, σ)) ∧
  (∀ (v0 : Option Value) (v1 : Option Value) (v2 : Option Value) (x1 : Int32) (st : List Value) (σ : ma_H), ma_rn ro d 178 (754, [v0, v1, v2, some (.int x1)], st, SH, σ) = ma_rn ro d 178 (755, [v0, v1, v2, some (.int x1)], .int x1 :: st, SH, σ)) ∧
  (∀ (v0 : Option Value) (v1 : Option Value) (v2 : Option Value) (v3 : Option Value) (st : List Value) (σ : ma_H), ma_rn ro d 178 (755, [v0, v1, v2, v3], st, SH, σ) = ma_rn ro d 178 (756, [v0, v1, v2, v3], .int (nI 2) :: st, SH, σ)) ∧
  (∀ (v0 : Option Value) (v1 : Option Value) (v2 : Option Value) (v3 : Option Value) (x1 : Int32) (x2 : Int32) (st : List Value) (σ : ma_H), ma_rn ro d 178 (756, [v0, v1, v2, v3], .int x1 :: .int x2 :: st, SH, σ) = ma_rn ro d 178 (757, [v0, v1, v2, v3], .int (x2 + x1) :: st, SH, σ)) ∧
  (∀ (v0 : Option Value) (v1 : Option Value) (v2 : Option Value) (v3 : Option Value) (k : Nat) (a2 : Nat) (st : List Value) (σ : ma_H) (hk : k < hk_len a2), ma_rn ro d 178 (757, [v0, v1, v2, v3], .int (nI k) :: .ref a2 :: st, SH, σ) = ma_rn ro d 178 (758, [v0, v1, v2, v3], .int (σ a2 k) :: st, SH, σ)) ∧
  (∀ (v1 : Option Value) (v2 : Option Value) (v3 : Option Value) (a1 : Nat) (st : List Value) (σ : ma_H), ma_rn ro d 178 (758, [some (.ref a1), v1, v2, v3], st, SH, σ) = ma_rn ro d 178 (759, [some (.ref a1), v1, v2, v3], .ref a1 :: st, SH, σ)) ∧
  (∀ (v0 : Option Value) (v1 : Option Value) (v2 : Option Value) (x1 : Int32) (st : List Value) (σ : ma_H), ma_rn ro d 178 (759, [v0, v1, v2, some (.int x1)], st, SH, σ) = ma_rn ro d 178 (760, [v0, v1, v2, some (.int x1)], .int x1 :: st, SH, σ)) ∧
  (∀ (v0 : Option Value) (v1 : Option Value) (v2 : Option Value) (v3 : Option Value) (st : List Value) (σ : ma_H), ma_rn ro d 178 (760, [v0, v1, v2, v3], st, SH, σ) = ma_rn ro d 178 (761, [v0, v1, v2, v3], .int (nI 3) :: st, SH, σ)) ∧
  (∀ (v0 : Option Value) (v1 : Option Value) (v2 : Option Value) (v3 : Option Value) (x1 : Int32) (x2 : Int32) (st : List Value) (σ : ma_H), ma_rn ro d 178 (761, [v0, v1, v2, v3], .int x1 :: .int x2 :: st, SH, σ) = ma_rn ro d 178 (762, [v0, v1, v2, v3], .int (x2 + x1) :: st, SH, σ)) ∧
  (∀ (v0 : Option Value) (v1 : Option Value) (v2 : Option Value) (v3 : Option Value) (k : Nat) (a2 : Nat) (st : List Value) (σ : ma_H) (hk : k < hk_len a2), ma_rn ro d 178 (762, [v0, v1, v2, v3], .int (nI k) :: .ref a2 :: st, SH, σ) = ma_rn ro d 178 (763, [v0, v1, v2, v3], .int (σ a2 k) :: st, SH, σ)) ∧
  (∀ (v0 : Option Value) (v1 : Option Value) (v2 : Option Value) (v3 : Option Value) (j20 : Int64) (x1 : Int32) (x2 : Int32) (x3 : Int32) (a0 : Nat) (σ : ma_H) (hc : hk_cls a0 = 8), ma_rn ro (d + 1) 178 (763, [v0, v1, v2, v3], .int x3 :: .int x2 :: .int x1 :: .ref a0 :: .long j20 :: [], SH, σ) = (ma_ev ro d 157 [.ref a0, .int x1, .int x2, .int x3] SH σ).bind (fun q => ma_rn ro (d + 1) 178 (766, [v0, v1, v2, v3], (q.1.toList ++ (.long j20 :: [])), q.2.1, q.2.2))) ∧
  (∀ (v0 : Option Value) (v1 : Option Value) (v2 : Option Value) (v3 : Option Value) (j1 : Int64) (j2 : Int64) (st : List Value) (σ : ma_H), ma_rn ro d 178 (766, [v0, v1, v2, v3], .long j1 :: .long j2 :: st, SH, σ) = ma_rn ro d 178 (767, [v0, v1, v2, v3], .int (lg_cmp j2 j1) :: st, SH, σ)) ∧
  (∀ (v0 : Option Value) (v1 : Option Value) (v2 : Option Value) (v3 : Option Value) (x1 : Int32) (st : List Value) (σ : ma_H), ma_rn ro d 178 (767, [v0, v1, v2, v3], .int x1 :: st, SH, σ) = if x1 = nI 0 then ma_rn ro d 178 (1046, [v0, v1, v2, v3], st, SH, σ) else ma_rn ro d 178 (770, [v0, v1, v2, v3], st, SH, σ)) ∧
  (∀ (v0 : Option Value) (v1 : Option Value) (v2 : Option Value) (v3 : Option Value) (st : List Value) (σ : ma_H), ma_rn ro d 178 (770, [v0, v1, v2, v3], st, SH, σ) = ma_rn ro d 178 (771, [v0, v1, v2, v3], .int (nI 0) :: st, SH, σ)) ∧
  (∀ (v0 : Option Value) (v1 : Option Value) (v2 : Option Value) (v3 : Option Value) (x1 : Int32) (σ : ma_H) (hx : ma_fitI .boolean x1 = true), ma_rn ro d 178 (771, [v0, v1, v2, v3], [.int x1], SH, σ) = some (some (.int x1), SH, σ)) ∧
  (∀ (v0 : Option Value) (v2 : Option Value) (v3 : Option Value) (a1 : Nat) (st : List Value) (σ : ma_H), ma_rn ro d 178 (772, [v0, some (.ref a1), v2, v3], st, SH, σ) = ma_rn ro d 178 (773, [v0, some (.ref a1), v2, v3], .ref a1 :: st, SH, σ)) ∧
  (∀ (v1 : Option Value) (v2 : Option Value) (v3 : Option Value) (a1 : Nat) (st : List Value) (σ : ma_H), ma_rn ro d 178 (773, [some (.ref a1), v1, v2, v3], st, SH, σ) = ma_rn ro d 178 (774, [some (.ref a1), v1, v2, v3], .ref a1 :: st, SH, σ)) ∧
  (∀ (v0 : Option Value) (v1 : Option Value) (v2 : Option Value) (x1 : Int32) (st : List Value) (σ : ma_H), ma_rn ro d 178 (774, [v0, v1, v2, some (.int x1)], st, SH, σ) = ma_rn ro d 178 (775, [v0, v1, v2, some (.int x1)], .int x1 :: st, SH, σ)) ∧
  (∀ (v0 : Option Value) (v1 : Option Value) (v2 : Option Value) (v3 : Option Value) (st : List Value) (σ : ma_H), ma_rn ro d 178 (775, [v0, v1, v2, v3], st, SH, σ) = ma_rn ro d 178 (776, [v0, v1, v2, v3], .int (nI 1) :: st, SH, σ)) ∧
  (∀ (v0 : Option Value) (v1 : Option Value) (v2 : Option Value) (v3 : Option Value) (x1 : Int32) (x2 : Int32) (st : List Value) (σ : ma_H), ma_rn ro d 178 (776, [v0, v1, v2, v3], .int x1 :: .int x2 :: st, SH, σ) = ma_rn ro d 178 (777, [v0, v1, v2, v3], .int (x2 + x1) :: st, SH, σ)) ∧
  (∀ (v0 : Option Value) (v1 : Option Value) (v2 : Option Value) (v3 : Option Value) (k : Nat) (a2 : Nat) (st : List Value) (σ : ma_H) (hk : k < hk_len a2), ma_rn ro d 178 (777, [v0, v1, v2, v3], .int (nI k) :: .ref a2 :: st, SH, σ) = ma_rn ro d 178 (778, [v0, v1, v2, v3], .int (σ a2 k) :: st, SH, σ)) ∧
  (∀ (v0 : Option Value) (v1 : Option Value) (v2 : Option Value) (v3 : Option Value) (x1 : Int32) (a0 : Nat) (σ : ma_H) (hc : hk_cls a0 = 7), ma_rn ro (d + 1) 178 (778, [v0, v1, v2, v3], .int x1 :: .ref a0 :: [], SH, σ) = (ma_ev ro d 77 [.ref a0, .int x1] SH σ).bind (fun q => ma_rn ro (d + 1) 178 (781, [v0, v1, v2, v3], (q.1.toList ++ []), q.2.1, q.2.2))) ∧
  (∀ (v0 : Option Value) (v1 : Option Value) (v3 : Option Value) (a1 : Nat) (st : List Value) (σ : ma_H), ma_rn ro d 178 (781, [v0, v1, some (.ref a1), v3], st, SH, σ) = ma_rn ro d 178 (782, [v0, v1, some (.ref a1), v3], .ref a1 :: st, SH, σ)) ∧
  (∀ (v1 : Option Value) (v2 : Option Value) (v3 : Option Value) (a1 : Nat) (st : List Value) (σ : ma_H), ma_rn ro d 178 (782, [some (.ref a1), v1, v2, v3], st, SH, σ) = ma_rn ro d 178 (783, [some (.ref a1), v1, v2, v3], .ref a1 :: st, SH, σ)) ∧
  (∀ (v0 : Option Value) (v1 : Option Value) (v2 : Option Value) (x1 : Int32) (st : List Value) (σ : ma_H), ma_rn ro d 178 (783, [v0, v1, v2, some (.int x1)], st, SH, σ) = ma_rn ro d 178 (784, [v0, v1, v2, some (.int x1)], .int x1 :: st, SH, σ)) ∧
  (∀ (v0 : Option Value) (v1 : Option Value) (v2 : Option Value) (v3 : Option Value) (st : List Value) (σ : ma_H), ma_rn ro d 178 (784, [v0, v1, v2, v3], st, SH, σ) = ma_rn ro d 178 (785, [v0, v1, v2, v3], .int (nI 1) :: st, SH, σ)) ∧
  (∀ (v0 : Option Value) (v1 : Option Value) (v2 : Option Value) (v3 : Option Value) (x1 : Int32) (x2 : Int32) (st : List Value) (σ : ma_H), ma_rn ro d 178 (785, [v0, v1, v2, v3], .int x1 :: .int x2 :: st, SH, σ) = ma_rn ro d 178 (786, [v0, v1, v2, v3], .int (x2 + x1) :: st, SH, σ)) ∧
  (∀ (v0 : Option Value) (v1 : Option Value) (v2 : Option Value) (v3 : Option Value) (k : Nat) (a2 : Nat) (st : List Value) (σ : ma_H) (hk : k < hk_len a2), ma_rn ro d 178 (786, [v0, v1, v2, v3], .int (nI k) :: .ref a2 :: st, SH, σ) = ma_rn ro d 178 (787, [v0, v1, v2, v3], .int (σ a2 k) :: st, SH, σ)) ∧
  (∀ (v0 : Option Value) (v1 : Option Value) (v2 : Option Value) (v3 : Option Value) (j20 : Int64) (x1 : Int32) (a0 : Nat) (σ : ma_H) (hc : hk_cls a0 = 8), ma_rn ro (d + 1) 178 (787, [v0, v1, v2, v3], .int x1 :: .ref a0 :: .long j20 :: [], SH, σ) = (ma_ev ro d 158 [.ref a0, .int x1] SH σ).bind (fun q => ma_rn ro (d + 1) 178 (790, [v0, v1, v2, v3], (q.1.toList ++ (.long j20 :: [])), q.2.1, q.2.2))) ∧
  (∀ (v0 : Option Value) (v1 : Option Value) (v2 : Option Value) (v3 : Option Value) (j1 : Int64) (j2 : Int64) (st : List Value) (σ : ma_H), ma_rn ro d 178 (790, [v0, v1, v2, v3], .long j1 :: .long j2 :: st, SH, σ) = ma_rn ro d 178 (791, [v0, v1, v2, v3], .int (lg_cmp j2 j1) :: st, SH, σ)) ∧
  (∀ (v0 : Option Value) (v1 : Option Value) (v2 : Option Value) (v3 : Option Value) (x1 : Int32) (st : List Value) (σ : ma_H), ma_rn ro d 178 (791, [v0, v1, v2, v3], .int x1 :: st, SH, σ) = if x1 = nI 0 then ma_rn ro d 178 (1046, [v0, v1, v2, v3], st, SH, σ) else ma_rn ro d 178 (794, [v0, v1, v2, v3], st, SH, σ)) ∧
  (∀ (v0 : Option Value) (v1 : Option Value) (v2 : Option Value) (v3 : Option Value) (st : List Value) (σ : ma_H), ma_rn ro d 178 (794, [v0, v1, v2, v3], st, SH, σ) = ma_rn ro d 178 (795, [v0, v1, v2, v3], .int (nI 0) :: st, SH, σ)) ∧
  (∀ (v0 : Option Value) (v1 : Option Value) (v2 : Option Value) (v3 : Option Value) (x1 : Int32) (σ : ma_H) (hx : ma_fitI .boolean x1 = true), ma_rn ro d 178 (795, [v0, v1, v2, v3], [.int x1], SH, σ) = some (some (.int x1), SH, σ)) ∧
  (∀ (v0 : Option Value) (v2 : Option Value) (v3 : Option Value) (a1 : Nat) (st : List Value) (σ : ma_H), ma_rn ro d 178 (796, [v0, some (.ref a1), v2, v3], st, SH, σ) = ma_rn ro d 178 (797, [v0, some (.ref a1), v2, v3], .ref a1 :: st, SH, σ)) ∧
  (∀ (v1 : Option Value) (v2 : Option Value) (v3 : Option Value) (a1 : Nat) (st : List Value) (σ : ma_H), ma_rn ro d 178 (797, [some (.ref a1), v1, v2, v3], st, SH, σ) = ma_rn ro d 178 (798, [some (.ref a1), v1, v2, v3], .ref a1 :: st, SH, σ)) ∧
  (∀ (v0 : Option Value) (v1 : Option Value) (v2 : Option Value) (x1 : Int32) (st : List Value) (σ : ma_H), ma_rn ro d 178 (798, [v0, v1, v2, some (.int x1)], st, SH, σ) = ma_rn ro d 178 (799, [v0, v1, v2, some (.int x1)], .int x1 :: st, SH, σ)) ∧
  (∀ (v0 : Option Value) (v1 : Option Value) (v2 : Option Value) (v3 : Option Value) (st : List Value) (σ : ma_H), ma_rn ro d 178 (799, [v0, v1, v2, v3], st, SH, σ) = ma_rn ro d 178 (800, [v0, v1, v2, v3], .int (nI 1) :: st, SH, σ)) ∧
  (∀ (v0 : Option Value) (v1 : Option Value) (v2 : Option Value) (v3 : Option Value) (x1 : Int32) (x2 : Int32) (st : List Value) (σ : ma_H), ma_rn ro d 178 (800, [v0, v1, v2, v3], .int x1 :: .int x2 :: st, SH, σ) = ma_rn ro d 178 (801, [v0, v1, v2, v3], .int (x2 + x1) :: st, SH, σ)) ∧
  (∀ (v0 : Option Value) (v1 : Option Value) (v2 : Option Value) (v3 : Option Value) (k : Nat) (a2 : Nat) (st : List Value) (σ : ma_H) (hk : k < hk_len a2), ma_rn ro d 178 (801, [v0, v1, v2, v3], .int (nI k) :: .ref a2 :: st, SH, σ) = ma_rn ro d 178 (802, [v0, v1, v2, v3], .int (σ a2 k) :: st, SH, σ)) ∧
  (∀ (v1 : Option Value) (v2 : Option Value) (v3 : Option Value) (a1 : Nat) (st : List Value) (σ : ma_H), ma_rn ro d 178 (802, [some (.ref a1), v1, v2, v3], st, SH, σ) = ma_rn ro d 178 (803, [some (.ref a1), v1, v2, v3], .ref a1 :: st, SH, σ)) ∧
  (∀ (v0 : Option Value) (v1 : Option Value) (v2 : Option Value) (x1 : Int32) (st : List Value) (σ : ma_H), ma_rn ro d 178 (803, [v0, v1, v2, some (.int x1)], st, SH, σ) = ma_rn ro d 178 (804, [v0, v1, v2, some (.int x1)], .int x1 :: st, SH, σ)) ∧
  (∀ (v0 : Option Value) (v1 : Option Value) (v2 : Option Value) (v3 : Option Value) (st : List Value) (σ : ma_H), ma_rn ro d 178 (804, [v0, v1, v2, v3], st, SH, σ) = ma_rn ro d 178 (805, [v0, v1, v2, v3], .int (nI 2) :: st, SH, σ)) ∧
  (∀ (v0 : Option Value) (v1 : Option Value) (v2 : Option Value) (v3 : Option Value) (x1 : Int32) (x2 : Int32) (st : List Value) (σ : ma_H), ma_rn ro d 178 (805, [v0, v1, v2, v3], .int x1 :: .int x2 :: st, SH, σ) = ma_rn ro d 178 (806, [v0, v1, v2, v3], .int (x2 + x1) :: st, SH, σ)) ∧
  (∀ (v0 : Option Value) (v1 : Option Value) (v2 : Option Value) (v3 : Option Value) (k : Nat) (a2 : Nat) (st : List Value) (σ : ma_H) (hk : k < hk_len a2), ma_rn ro d 178 (806, [v0, v1, v2, v3], .int (nI k) :: .ref a2 :: st, SH, σ) = ma_rn ro d 178 (807, [v0, v1, v2, v3], .int (σ a2 k) :: st, SH, σ)) ∧
  (∀ (v0 : Option Value) (v1 : Option Value) (v2 : Option Value) (v3 : Option Value) (x1 : Int32) (x2 : Int32) (a0 : Nat) (σ : ma_H) (hc : hk_cls a0 = 7), ma_rn ro (d + 1) 178 (807, [v0, v1, v2, v3], .int x2 :: .int x1 :: .ref a0 :: [], SH, σ) = (ma_ev ro d 78 [.ref a0, .int x1, .int x2] SH σ).bind (fun q => ma_rn ro (d + 1) 178 (810, [v0, v1, v2, v3], (q.1.toList ++ []), q.2.1, q.2.2))) ∧
  (∀ (v0 : Option Value) (v1 : Option Value) (v3 : Option Value) (a1 : Nat) (st : List Value) (σ : ma_H), ma_rn ro d 178 (810, [v0, v1, some (.ref a1), v3], st, SH, σ) = ma_rn ro d 178 (811, [v0, v1, some (.ref a1), v3], .ref a1 :: st, SH, σ)) ∧
  (∀ (v1 : Option Value) (v2 : Option Value) (v3 : Option Value) (a1 : Nat) (st : List Value) (σ : ma_H), ma_rn ro d 178 (811, [some (.ref a1), v1, v2, v3], st, SH, σ) = ma_rn ro d 178 (812, [some (.ref a1), v1, v2, v3], .ref a1 :: st, SH, σ)) ∧
  (∀ (v0 : Option Value) (v1 : Option Value) (v2 : Option Value) (x1 : Int32) (st : List Value) (σ : ma_H), ma_rn ro d 178 (812, [v0, v1, v2, some (.int x1)], st, SH, σ) = ma_rn ro d 178 (813, [v0, v1, v2, some (.int x1)], .int x1 :: st, SH, σ)) ∧
  (∀ (v0 : Option Value) (v1 : Option Value) (v2 : Option Value) (v3 : Option Value) (st : List Value) (σ : ma_H), ma_rn ro d 178 (813, [v0, v1, v2, v3], st, SH, σ) = ma_rn ro d 178 (814, [v0, v1, v2, v3], .int (nI 1) :: st, SH, σ)) ∧
  (∀ (v0 : Option Value) (v1 : Option Value) (v2 : Option Value) (v3 : Option Value) (x1 : Int32) (x2 : Int32) (st : List Value) (σ : ma_H), ma_rn ro d 178 (814, [v0, v1, v2, v3], .int x1 :: .int x2 :: st, SH, σ) = ma_rn ro d 178 (815, [v0, v1, v2, v3], .int (x2 + x1) :: st, SH, σ)) ∧
  (∀ (v0 : Option Value) (v1 : Option Value) (v2 : Option Value) (v3 : Option Value) (k : Nat) (a2 : Nat) (st : List Value) (σ : ma_H) (hk : k < hk_len a2), ma_rn ro d 178 (815, [v0, v1, v2, v3], .int (nI k) :: .ref a2 :: st, SH, σ) = ma_rn ro d 178 (816, [v0, v1, v2, v3], .int (σ a2 k) :: st, SH, σ)) ∧
  (∀ (v1 : Option Value) (v2 : Option Value) (v3 : Option Value) (a1 : Nat) (st : List Value) (σ : ma_H), ma_rn ro d 178 (816, [some (.ref a1), v1, v2, v3], st, SH, σ) = ma_rn ro d 178 (817, [some (.ref a1), v1, v2, v3], .ref a1 :: st, SH, σ)) ∧
  (∀ (v0 : Option Value) (v1 : Option Value) (v2 : Option Value) (x1 : Int32) (st : List Value) (σ : ma_H), ma_rn ro d 178 (817, [v0, v1, v2, some (.int x1)], st, SH, σ) = ma_rn ro d 178 (818, [v0, v1, v2, some (.int x1)], .int x1 :: st, SH, σ)) ∧
  (∀ (v0 : Option Value) (v1 : Option Value) (v2 : Option Value) (v3 : Option Value) (st : List Value) (σ : ma_H), ma_rn ro d 178 (818, [v0, v1, v2, v3], st, SH, σ) = ma_rn ro d 178 (819, [v0, v1, v2, v3], .int (nI 2) :: st, SH, σ)) ∧
  (∀ (v0 : Option Value) (v1 : Option Value) (v2 : Option Value) (v3 : Option Value) (x1 : Int32) (x2 : Int32) (st : List Value) (σ : ma_H), ma_rn ro d 178 (819, [v0, v1, v2, v3], .int x1 :: .int x2 :: st, SH, σ) = ma_rn ro d 178 (820, [v0, v1, v2, v3], .int (x2 + x1) :: st, SH, σ)) ∧
  (∀ (v0 : Option Value) (v1 : Option Value) (v2 : Option Value) (v3 : Option Value) (k : Nat) (a2 : Nat) (st : List Value) (σ : ma_H) (hk : k < hk_len a2), ma_rn ro d 178 (820, [v0, v1, v2, v3], .int (nI k) :: .ref a2 :: st, SH, σ) = ma_rn ro d 178 (821, [v0, v1, v2, v3], .int (σ a2 k) :: st, SH, σ)) ∧
  (∀ (v0 : Option Value) (v1 : Option Value) (v2 : Option Value) (v3 : Option Value) (x20 : Int32) (x1 : Int32) (x2 : Int32) (a0 : Nat) (σ : ma_H) (hc : hk_cls a0 = 8), ma_rn ro (d + 1) 178 (821, [v0, v1, v2, v3], .int x2 :: .int x1 :: .ref a0 :: .int x20 :: [], SH, σ) = (ma_ev ro d 159 [.ref a0, .int x1, .int x2] SH σ).bind (fun q => ma_rn ro (d + 1) 178 (824, [v0, v1, v2, v3], (q.1.toList ++ (.int x20 :: [])), q.2.1, q.2.2))) ∧
  (∀ (v0 : Option Value) (v1 : Option Value) (v2 : Option Value) (v3 : Option Value) (x1 : Int32) (x2 : Int32) (st : List Value) (σ : ma_H), ma_rn ro d 178 (824, [v0, v1, v2, v3], .int x1 :: .int x2 :: st, SH, σ) = if x2 = x1 then ma_rn ro d 178 (1046, [v0, v1, v2, v3], st, SH, σ) else ma_rn ro d 178 (827, [v0, v1, v2, v3], st, SH, σ)) ∧
  (∀ (v0 : Option Value) (v1 : Option Value) (v2 : Option Value) (v3 : Option Value) (st : List Value) (σ : ma_H), ma_rn ro d 178 (827, [v0, v1, v2, v3], st, SH, σ) = ma_rn ro d 178 (828, [v0, v1, v2, v3], .int (nI 0) :: st, SH, σ)) ∧
  (∀ (v0 : Option Value) (v1 : Option Value) (v2 : Option Value) (v3 : Option Value) (x1 : Int32) (σ : ma_H) (hx : ma_fitI .boolean x1 = true), ma_rn ro d 178 (828, [v0, v1, v2, v3], [.int x1], SH, σ) = some (some (.int x1), SH, σ)) ∧
  (∀ (v0 : Option Value) (v2 : Option Value) (v3 : Option Value) (a1 : Nat) (st : List Value) (σ : ma_H), ma_rn ro d 178 (829, [v0, some (.ref a1), v2, v3], st, SH, σ) = ma_rn ro d 178 (830, [v0, some (.ref a1), v2, v3], .ref a1 :: st, SH, σ)) ∧
  (∀ (v1 : Option Value) (v2 : Option Value) (v3 : Option Value) (a1 : Nat) (st : List Value) (σ : ma_H), ma_rn ro d 178 (830, [some (.ref a1), v1, v2, v3], st, SH, σ) = ma_rn ro d 178 (831, [some (.ref a1), v1, v2, v3], .ref a1 :: st, SH, σ)) ∧
  (∀ (v0 : Option Value) (v1 : Option Value) (v2 : Option Value) (x1 : Int32) (st : List Value) (σ : ma_H), ma_rn ro d 178 (831, [v0, v1, v2, some (.int x1)], st, SH, σ) = ma_rn ro d 178 (832, [v0, v1, v2, some (.int x1)], .int x1 :: st, SH, σ)) ∧
  (∀ (v0 : Option Value) (v1 : Option Value) (v2 : Option Value) (v3 : Option Value) (st : List Value) (σ : ma_H), ma_rn ro d 178 (832, [v0, v1, v2, v3], st, SH, σ) = ma_rn ro d 178 (833, [v0, v1, v2, v3], .int (nI 1) :: st, SH, σ)) ∧
  (∀ (v0 : Option Value) (v1 : Option Value) (v2 : Option Value) (v3 : Option Value) (x1 : Int32) (x2 : Int32) (st : List Value) (σ : ma_H), ma_rn ro d 178 (833, [v0, v1, v2, v3], .int x1 :: .int x2 :: st, SH, σ) = ma_rn ro d 178 (834, [v0, v1, v2, v3], .int (x2 + x1) :: st, SH, σ)) ∧
  (∀ (v0 : Option Value) (v1 : Option Value) (v2 : Option Value) (v3 : Option Value) (k : Nat) (a2 : Nat) (st : List Value) (σ : ma_H) (hk : k < hk_len a2), ma_rn ro d 178 (834, [v0, v1, v2, v3], .int (nI k) :: .ref a2 :: st, SH, σ) = ma_rn ro d 178 (835, [v0, v1, v2, v3], .int (σ a2 k) :: st, SH, σ)) ∧
  (∀ (v0 : Option Value) (v1 : Option Value) (v2 : Option Value) (v3 : Option Value) (x1 : Int32) (a0 : Nat) (σ : ma_H) (hc : hk_cls a0 = 7), ma_rn ro (d + 1) 178 (835, [v0, v1, v2, v3], .int x1 :: .ref a0 :: [], SH, σ) = (ma_ev ro d 79 [.ref a0, .int x1] SH σ).bind (fun q => ma_rn ro (d + 1) 178 (838, [v0, v1, v2, v3], (q.1.toList ++ []), q.2.1, q.2.2))) ∧
  (∀ (v0 : Option Value) (v1 : Option Value) (v3 : Option Value) (a1 : Nat) (st : List Value) (σ : ma_H), ma_rn ro d 178 (838, [v0, v1, some (.ref a1), v3], st, SH, σ) = ma_rn ro d 178 (839, [v0, v1, some (.ref a1), v3], .ref a1 :: st, SH, σ)) ∧
  (∀ (v1 : Option Value) (v2 : Option Value) (v3 : Option Value) (a1 : Nat) (st : List Value) (σ : ma_H), ma_rn ro d 178 (839, [some (.ref a1), v1, v2, v3], st, SH, σ) = ma_rn ro d 178 (840, [some (.ref a1), v1, v2, v3], .ref a1 :: st, SH, σ)) ∧
  (∀ (v0 : Option Value) (v1 : Option Value) (v2 : Option Value) (x1 : Int32) (st : List Value) (σ : ma_H), ma_rn ro d 178 (840, [v0, v1, v2, some (.int x1)], st, SH, σ) = ma_rn ro d 178 (841, [v0, v1, v2, some (.int x1)], .int x1 :: st, SH, σ)) ∧
  (∀ (v0 : Option Value) (v1 : Option Value) (v2 : Option Value) (v3 : Option Value) (st : List Value) (σ : ma_H), ma_rn ro d 178 (841, [v0, v1, v2, v3], st, SH, σ) = ma_rn ro d 178 (842, [v0, v1, v2, v3], .int (nI 1) :: st, SH, σ)) ∧
  (∀ (v0 : Option Value) (v1 : Option Value) (v2 : Option Value) (v3 : Option Value) (x1 : Int32) (x2 : Int32) (st : List Value) (σ : ma_H), ma_rn ro d 178 (842, [v0, v1, v2, v3], .int x1 :: .int x2 :: st, SH, σ) = ma_rn ro d 178 (843, [v0, v1, v2, v3], .int (x2 + x1) :: st, SH, σ)) ∧
  (∀ (v0 : Option Value) (v1 : Option Value) (v2 : Option Value) (v3 : Option Value) (k : Nat) (a2 : Nat) (st : List Value) (σ : ma_H) (hk : k < hk_len a2), ma_rn ro d 178 (843, [v0, v1, v2, v3], .int (nI k) :: .ref a2 :: st, SH, σ) = ma_rn ro d 178 (844, [v0, v1, v2, v3], .int (σ a2 k) :: st, SH, σ)) ∧
  (∀ (v0 : Option Value) (v1 : Option Value) (v2 : Option Value) (v3 : Option Value) (x20 : Int32) (x1 : Int32) (a0 : Nat) (σ : ma_H) (hc : hk_cls a0 = 8), ma_rn ro (d + 1) 178 (844, [v0, v1, v2, v3], .int x1 :: .ref a0 :: .int x20 :: [], SH, σ) = (ma_ev ro d 161 [.ref a0, .int x1] SH σ).bind (fun q => ma_rn ro (d + 1) 178 (847, [v0, v1, v2, v3], (q.1.toList ++ (.int x20 :: [])), q.2.1, q.2.2))) ∧
  (∀ (v0 : Option Value) (v1 : Option Value) (v2 : Option Value) (v3 : Option Value) (x1 : Int32) (x2 : Int32) (st : List Value) (σ : ma_H), ma_rn ro d 178 (847, [v0, v1, v2, v3], .int x1 :: .int x2 :: st, SH, σ) = if x2 = x1 then ma_rn ro d 178 (1046, [v0, v1, v2, v3], st, SH, σ) else ma_rn ro d 178 (850, [v0, v1, v2, v3], st, SH, σ)) ∧
  (∀ (v0 : Option Value) (v1 : Option Value) (v2 : Option Value) (v3 : Option Value) (st : List Value) (σ : ma_H), ma_rn ro d 178 (850, [v0, v1, v2, v3], st, SH, σ) = ma_rn ro d 178 (851, [v0, v1, v2, v3], .int (nI 0) :: st, SH, σ)) ∧
  (∀ (v0 : Option Value) (v1 : Option Value) (v2 : Option Value) (v3 : Option Value) (x1 : Int32) (σ : ma_H) (hx : ma_fitI .boolean x1 = true), ma_rn ro d 178 (851, [v0, v1, v2, v3], [.int x1], SH, σ) = some (some (.int x1), SH, σ)) ∧
  (∀ (v0 : Option Value) (v2 : Option Value) (v3 : Option Value) (a1 : Nat) (st : List Value) (σ : ma_H), ma_rn ro d 178 (852, [v0, some (.ref a1), v2, v3], st, SH, σ) = ma_rn ro d 178 (853, [v0, some (.ref a1), v2, v3], .ref a1 :: st, SH, σ)) ∧
  (∀ (v1 : Option Value) (v2 : Option Value) (v3 : Option Value) (a1 : Nat) (st : List Value) (σ : ma_H), ma_rn ro d 178 (853, [some (.ref a1), v1, v2, v3], st, SH, σ) = ma_rn ro d 178 (854, [some (.ref a1), v1, v2, v3], .ref a1 :: st, SH, σ)) ∧
  (∀ (v0 : Option Value) (v1 : Option Value) (v2 : Option Value) (x1 : Int32) (st : List Value) (σ : ma_H), ma_rn ro d 178 (854, [v0, v1, v2, some (.int x1)], st, SH, σ) = ma_rn ro d 178 (855, [v0, v1, v2, some (.int x1)], .int x1 :: st, SH, σ)) ∧
  (∀ (v0 : Option Value) (v1 : Option Value) (v2 : Option Value) (v3 : Option Value) (st : List Value) (σ : ma_H), ma_rn ro d 178 (855, [v0, v1, v2, v3], st, SH, σ) = ma_rn ro d 178 (856, [v0, v1, v2, v3], .int (nI 1) :: st, SH, σ)) ∧
  (∀ (v0 : Option Value) (v1 : Option Value) (v2 : Option Value) (v3 : Option Value) (x1 : Int32) (x2 : Int32) (st : List Value) (σ : ma_H), ma_rn ro d 178 (856, [v0, v1, v2, v3], .int x1 :: .int x2 :: st, SH, σ) = ma_rn ro d 178 (857, [v0, v1, v2, v3], .int (x2 + x1) :: st, SH, σ)) ∧
  (∀ (v0 : Option Value) (v1 : Option Value) (v2 : Option Value) (v3 : Option Value) (k : Nat) (a2 : Nat) (st : List Value) (σ : ma_H) (hk : k < hk_len a2), ma_rn ro d 178 (857, [v0, v1, v2, v3], .int (nI k) :: .ref a2 :: st, SH, σ) = ma_rn ro d 178 (858, [v0, v1, v2, v3], .int (σ a2 k) :: st, SH, σ)) ∧
  (∀ (v1 : Option Value) (v2 : Option Value) (v3 : Option Value) (a1 : Nat) (st : List Value) (σ : ma_H), ma_rn ro d 178 (858, [some (.ref a1), v1, v2, v3], st, SH, σ) = ma_rn ro d 178 (859, [some (.ref a1), v1, v2, v3], .ref a1 :: st, SH, σ)) ∧
  (∀ (v0 : Option Value) (v1 : Option Value) (v2 : Option Value) (x1 : Int32) (st : List Value) (σ : ma_H), ma_rn ro d 178 (859, [v0, v1, v2, some (.int x1)], st, SH, σ) = ma_rn ro d 178 (860, [v0, v1, v2, some (.int x1)], .int x1 :: st, SH, σ)) ∧
  (∀ (v0 : Option Value) (v1 : Option Value) (v2 : Option Value) (v3 : Option Value) (st : List Value) (σ : ma_H), ma_rn ro d 178 (860, [v0, v1, v2, v3], st, SH, σ) = ma_rn ro d 178 (861, [v0, v1, v2, v3], .int (nI 2) :: st, SH, σ)) ∧
  (∀ (v0 : Option Value) (v1 : Option Value) (v2 : Option Value) (v3 : Option Value) (x1 : Int32) (x2 : Int32) (st : List Value) (σ : ma_H), ma_rn ro d 178 (861, [v0, v1, v2, v3], .int x1 :: .int x2 :: st, SH, σ) = ma_rn ro d 178 (862, [v0, v1, v2, v3], .int (x2 + x1) :: st, SH, σ)) ∧
  (∀ (v0 : Option Value) (v1 : Option Value) (v2 : Option Value) (v3 : Option Value) (k : Nat) (a2 : Nat) (st : List Value) (σ : ma_H) (hk : k < hk_len a2), ma_rn ro d 178 (862, [v0, v1, v2, v3], .int (nI k) :: .ref a2 :: st, SH, σ) = ma_rn ro d 178 (863, [v0, v1, v2, v3], .int (σ a2 k) :: st, SH, σ)) ∧
  (∀ (v0 : Option Value) (v1 : Option Value) (v2 : Option Value) (v3 : Option Value) (x1 : Int32) (x2 : Int32) (a0 : Nat) (σ : ma_H) (hc : hk_cls a0 = 7), ma_rn ro (d + 1) 178 (863, [v0, v1, v2, v3], .int x2 :: .int x1 :: .ref a0 :: [], SH, σ) = (ma_ev ro d 80 [.ref a0, .int x1, .int x2] SH σ).bind (fun q => ma_rn ro (d + 1) 178 (866, [v0, v1, v2, v3], (q.1.toList ++ []), q.2.1, q.2.2))) ∧
  (∀ (v0 : Option Value) (v1 : Option Value) (v3 : Option Value) (a1 : Nat) (st : List Value) (σ : ma_H), ma_rn ro d 178 (866, [v0, v1, some (.ref a1), v3], st, SH, σ) = ma_rn ro d 178 (867, [v0, v1, some (.ref a1), v3], .ref a1 :: st, SH, σ)) ∧
  (∀ (v1 : Option Value) (v2 : Option Value) (v3 : Option Value) (a1 : Nat) (st : List Value) (σ : ma_H), ma_rn ro d 178 (867, [some (.ref a1), v1, v2, v3], st, SH, σ) = ma_rn ro d 178 (868, [some (.ref a1), v1, v2, v3], .ref a1 :: st, SH, σ)) ∧
  (∀ (v0 : Option Value) (v1 : Option Value) (v2 : Option Value) (x1 : Int32) (st : List Value) (σ : ma_H), ma_rn ro d 178 (868, [v0, v1, v2, some (.int x1)], st, SH, σ) = ma_rn ro d 178 (869, [v0, v1, v2, some (.int x1)], .int x1 :: st, SH, σ)) ∧
  (∀ (v0 : Option Value) (v1 : Option Value) (v2 : Option Value) (v3 : Option Value) (st : List Value) (σ : ma_H), ma_rn ro d 178 (869, [v0, v1, v2, v3], st, SH, σ) = ma_rn ro d 178 (870, [v0, v1, v2, v3], .int (nI 1) :: st, SH, σ)) ∧
  (∀ (v0 : Option Value) (v1 : Option Value) (v2 : Option Value) (v3 : Option Value) (x1 : Int32) (x2 : Int32) (st : List Value) (σ : ma_H), ma_rn ro d 178 (870, [v0, v1, v2, v3], .int x1 :: .int x2 :: st, SH, σ) = ma_rn ro d 178 (871, [v0, v1, v2, v3], .int (x2 + x1) :: st, SH, σ)) ∧
  (∀ (v0 : Option Value) (v1 : Option Value) (v2 : Option Value) (v3 : Option Value) (k : Nat) (a2 : Nat) (st : List Value) (σ : ma_H) (hk : k < hk_len a2), ma_rn ro d 178 (871, [v0, v1, v2, v3], .int (nI k) :: .ref a2 :: st, SH, σ) = ma_rn ro d 178 (872, [v0, v1, v2, v3], .int (σ a2 k) :: st, SH, σ)) ∧
  (∀ (v1 : Option Value) (v2 : Option Value) (v3 : Option Value) (a1 : Nat) (st : List Value) (σ : ma_H), ma_rn ro d 178 (872, [some (.ref a1), v1, v2, v3], st, SH, σ) = ma_rn ro d 178 (873, [some (.ref a1), v1, v2, v3], .ref a1 :: st, SH, σ)) ∧
  (∀ (v0 : Option Value) (v1 : Option Value) (v2 : Option Value) (x1 : Int32) (st : List Value) (σ : ma_H), ma_rn ro d 178 (873, [v0, v1, v2, some (.int x1)], st, SH, σ) = ma_rn ro d 178 (874, [v0, v1, v2, some (.int x1)], .int x1 :: st, SH, σ)) ∧
  (∀ (v0 : Option Value) (v1 : Option Value) (v2 : Option Value) (v3 : Option Value) (st : List Value) (σ : ma_H), ma_rn ro d 178 (874, [v0, v1, v2, v3], st, SH, σ) = ma_rn ro d 178 (875, [v0, v1, v2, v3], .int (nI 2) :: st, SH, σ)) ∧
  (∀ (v0 : Option Value) (v1 : Option Value) (v2 : Option Value) (v3 : Option Value) (x1 : Int32) (x2 : Int32) (st : List Value) (σ : ma_H), ma_rn ro d 178 (875, [v0, v1, v2, v3], .int x1 :: .int x2 :: st, SH, σ) = ma_rn ro d 178 (876, [v0, v1, v2, v3], .int (x2 + x1) :: st, SH, σ)) ∧
  (∀ (v0 : Option Value) (v1 : Option Value) (v2 : Option Value) (v3 : Option Value) (k : Nat) (a2 : Nat) (st : List Value) (σ : ma_H) (hk : k < hk_len a2), ma_rn ro d 178 (876, [v0, v1, v2, v3], .int (nI k) :: .ref a2 :: st, SH, σ) = ma_rn ro d 178 (877, [v0, v1, v2, v3], .int (σ a2 k) :: st, SH, σ)) ∧
  (∀ (v0 : Option Value) (v1 : Option Value) (v2 : Option Value) (v3 : Option Value) (x20 : Int32) (x1 : Int32) (x2 : Int32) (a0 : Nat) (σ : ma_H) (hc : hk_cls a0 = 8), ma_rn ro (d + 1) 178 (877, [v0, v1, v2, v3], .int x2 :: .int x1 :: .ref a0 :: .int x20 :: [], SH, σ) = (ma_ev ro d 162 [.ref a0, .int x1, .int x2] SH σ).bind (fun q => ma_rn ro (d + 1) 178 (880, [v0, v1, v2, v3], (q.1.toList ++ (.int x20 :: [])), q.2.1, q.2.2))) ∧
  (∀ (v0 : Option Value) (v1 : Option Value) (v2 : Option Value) (v3 : Option Value) (x1 : Int32) (x2 : Int32) (st : List Value) (σ : ma_H), ma_rn ro d 178 (880, [v0, v1, v2, v3], .int x1 :: .int x2 :: st, SH, σ) = if x2 = x1 then ma_rn ro d 178 (1046, [v0, v1, v2, v3], st, SH, σ) else ma_rn ro d 178 (883, [v0, v1, v2, v3], st, SH, σ)) ∧
  (∀ (v0 : Option Value) (v1 : Option Value) (v2 : Option Value) (v3 : Option Value) (st : List Value) (σ : ma_H), ma_rn ro d 178 (883, [v0, v1, v2, v3], st, SH, σ) = ma_rn ro d 178 (884, [v0, v1, v2, v3], .int (nI 0) :: st, SH, σ)) ∧
  (∀ (v0 : Option Value) (v1 : Option Value) (v2 : Option Value) (v3 : Option Value) (x1 : Int32) (σ : ma_H) (hx : ma_fitI .boolean x1 = true), ma_rn ro d 178 (884, [v0, v1, v2, v3], [.int x1], SH, σ) = some (some (.int x1), SH, σ)) ∧
  (∀ (v0 : Option Value) (v2 : Option Value) (v3 : Option Value) (a1 : Nat) (st : List Value) (σ : ma_H), ma_rn ro d 178 (885, [v0, some (.ref a1), v2, v3], st, SH, σ) = ma_rn ro d 178 (886, [v0, some (.ref a1), v2, v3], .ref a1 :: st, SH, σ)) ∧
  (∀ (v0 : Option Value) (v1 : Option Value) (v2 : Option Value) (v3 : Option Value) (a0 : Nat) (σ : ma_H) (hc : hk_cls a0 = 7), ma_rn ro (d + 1) 178 (886, [v0, v1, v2, v3], .ref a0 :: [], SH, σ) = (ma_ev ro d 81 [.ref a0] SH σ).bind (fun q => ma_rn ro (d + 1) 178 (889, [v0, v1, v2, v3], (q.1.toList ++ []), q.2.1, q.2.2))) ∧
  (∀ (v0 : Option Value) (v1 : Option Value) (v3 : Option Value) (a1 : Nat) (st : List Value) (σ : ma_H), ma_rn ro d 178 (889, [v0, v1, some (.ref a1), v3], st, SH, σ) = ma_rn ro d 178 (890, [v0, v1, some (.ref a1), v3], .ref a1 :: st, SH, σ)) ∧
  (∀ (v0 : Option Value) (v1 : Option Value) (v2 : Option Value) (v3 : Option Value) (x20 : Int32) (a0 : Nat) (σ : ma_H) (hc : hk_cls a0 = 8), ma_rn ro (d + 1) 178 (890, [v0, v1, v2, v3], .ref a0 :: .int x20 :: [], SH, σ) = (ma_ev ro d 163 [.ref a0] SH σ).bind (fun q => ma_rn ro (d + 1) 178 (893, [v0, v1, v2, v3], (q.1.toList ++ (.int x20 :: [])), q.2.1, q.2.2))) ∧
  (∀ (v0 : Option Value) (v1 : Option Value) (v2 : Option Value) (v3 : Option Value) (x1 : Int32) (x2 : Int32) (st : List Value) (σ : ma_H), ma_rn ro d 178 (893, [v0, v1, v2, v3], .int x1 :: .int x2 :: st, SH, σ) = if x2 = x1 then ma_rn ro d 178 (1046, [v0, v1, v2, v3], st, SH, σ) else ma_rn ro d 178 (896, [v0, v1, v2, v3], st, SH, σ)) ∧
  (∀ (v0 : Option Value) (v1 : Option Value) (v2 : Option Value) (v3 : Option Value) (st : List Value) (σ : ma_H), ma_rn ro d 178 (896, [v0, v1, v2, v3], st, SH, σ) = ma_rn ro d 178 (897, [v0, v1, v2, v3], .int (nI 0) :: st, SH, σ)) ∧
  (∀ (v0 : Option Value) (v1 : Option Value) (v2 : Option Value) (v3 : Option Value) (x1 : Int32) (σ : ma_H) (hx : ma_fitI .boolean x1 = true), ma_rn ro d 178 (897, [v0, v1, v2, v3], [.int x1], SH, σ) = some (some (.int x1), SH, σ)) ∧
  (∀ (v0 : Option Value) (v2 : Option Value) (v3 : Option Value) (a1 : Nat) (st : List Value) (σ : ma_H), ma_rn ro d 178 (898, [v0, some (.ref a1), v2, v3], st, SH, σ) = ma_rn ro d 178 (899, [v0, some (.ref a1), v2, v3], .ref a1 :: st, SH, σ)) ∧
  (∀ (v1 : Option Value) (v2 : Option Value) (v3 : Option Value) (a1 : Nat) (st : List Value) (σ : ma_H), ma_rn ro d 178 (899, [some (.ref a1), v1, v2, v3], st, SH, σ) = ma_rn ro d 178 (900, [some (.ref a1), v1, v2, v3], .ref a1 :: st, SH, σ)) ∧
  (∀ (v0 : Option Value) (v1 : Option Value) (v2 : Option Value) (x1 : Int32) (st : List Value) (σ : ma_H), ma_rn ro d 178 (900, [v0, v1, v2, some (.int x1)], st, SH, σ) = ma_rn ro d 178 (901, [v0, v1, v2, some (.int x1)], .int x1 :: st, SH, σ)) ∧
  (∀ (v0 : Option Value) (v1 : Option Value) (v2 : Option Value) (v3 : Option Value) (st : List Value) (σ : ma_H), ma_rn ro d 178 (901, [v0, v1, v2, v3], st, SH, σ) = ma_rn ro d 178 (902, [v0, v1, v2, v3], .int (nI 1) :: st, SH, σ)) ∧
  (∀ (v0 : Option Value) (v1 : Option Value) (v2 : Option Value) (v3 : Option Value) (x1 : Int32) (x2 : Int32) (st : List Value) (σ : ma_H), ma_rn ro d 178 (902, [v0, v1, v2, v3], .int x1 :: .int x2 :: st, SH, σ) = ma_rn ro d 178 (903, [v0, v1, v2, v3], .int (x2 + x1) :: st, SH, σ)) ∧
  (∀ (v0 : Option Value) (v1 : Option Value) (v2 : Option Value) (v3 : Option Value) (k : Nat) (a2 : Nat) (st : List Value) (σ : ma_H) (hk : k < hk_len a2), ma_rn ro d 178 (903, [v0, v1, v2, v3], .int (nI k) :: .ref a2 :: st, SH, σ) = ma_rn ro d 178 (904, [v0, v1, v2, v3], .int (σ a2 k) :: st, SH, σ)) ∧
  (∀ (v1 : Option Value) (v2 : Option Value) (v3 : Option Value) (a1 : Nat) (st : List Value) (σ : ma_H), ma_rn ro d 178 (904, [some (.ref a1), v1, v2, v3], st, SH, σ) = ma_rn ro d 178 (905, [some (.ref a1), v1, v2, v3], .ref a1 :: st, SH, σ)) ∧
  (∀ (v0 : Option Value) (v1 : Option Value) (v2 : Option Value) (x1 : Int32) (st : List Value) (σ : ma_H), ma_rn ro d 178 (905, [v0, v1, v2, some (.int x1)], st, SH, σ) = ma_rn ro d 178 (906, [v0, v1, v2, some (.int x1)], .int x1 :: st, SH, σ)) ∧
  (∀ (v0 : Option Value) (v1 : Option Value) (v2 : Option Value) (v3 : Option Value) (st : List Value) (σ : ma_H), ma_rn ro d 178 (906, [v0, v1, v2, v3], st, SH, σ) = ma_rn ro d 178 (907, [v0, v1, v2, v3], .int (nI 2) :: st, SH, σ)) ∧
  (∀ (v0 : Option Value) (v1 : Option Value) (v2 : Option Value) (v3 : Option Value) (x1 : Int32) (x2 : Int32) (st : List Value) (σ : ma_H), ma_rn ro d 178 (907, [v0, v1, v2, v3], .int x1 :: .int x2 :: st, SH, σ) = ma_rn ro d 178 (908, [v0, v1, v2, v3], .int (x2 + x1) :: st, SH, σ)) ∧
  (∀ (v0 : Option Value) (v1 : Option Value) (v2 : Option Value) (v3 : Option Value) (k : Nat) (a2 : Nat) (st : List Value) (σ : ma_H) (hk : k < hk_len a2), ma_rn ro d 178 (908, [v0, v1, v2, v3], .int (nI k) :: .ref a2 :: st, SH, σ) = ma_rn ro d 178 (909, [v0, v1, v2, v3], .int (σ a2 k) :: st, SH, σ)) ∧
  (∀ (v1 : Option Value) (v2 : Option Value) (v3 : Option Value) (a1 : Nat) (st : List Value) (σ : ma_H), ma_rn ro d 178 (909, [some (.ref a1), v1, v2, v3], st, SH, σ) = ma_rn ro d 178 (910, [some (.ref a1), v1, v2, v3], .ref a1 :: st, SH, σ)) ∧
  (∀ (v0 : Option Value) (v1 : Option Value) (v2 : Option Value) (x1 : Int32) (st : List Value) (σ : ma_H), ma_rn ro d 178 (910, [v0, v1, v2, some (.int x1)], st, SH, σ) = ma_rn ro d 178 (911, [v0, v1, v2, some (.int x1)], .int x1 :: st, SH, σ)) ∧
  (∀ (v0 : Option Value) (v1 : Option Value) (v2 : Option Value) (v3 : Option Value) (st : List Value) (σ : ma_H), ma_rn ro d 178 (911, [v0, v1, v2, v3], st, SH, σ) = ma_rn ro d 178 (912, [v0, v1, v2, v3], .int (nI 3) :: st, SH, σ)) ∧
  (∀ (v0 : Option Value) (v1 : Option Value) (v2 : Option Value) (v3 : Option Value) (x1 : Int32) (x2 : Int32) (st : List Value) (σ : ma_H), ma_rn ro d 178 (912, [v0, v1, v2, v3], .int x1 :: .int x2 :: st, SH, σ) = ma_rn ro d 178 (913, [v0, v1, v2, v3], .int (x2 + x1) :: st, SH, σ)) ∧
  (∀ (v0 : Option Value) (v1 : Option Value) (v2 : Option Value) (v3 : Option Value) (k : Nat) (a2 : Nat) (st : List Value) (σ : ma_H) (hk : k < hk_len a2), ma_rn ro d 178 (913, [v0, v1, v2, v3], .int (nI k) :: .ref a2 :: st, SH, σ) = ma_rn ro d 178 (914, [v0, v1, v2, v3], .int (σ a2 k) :: st, SH, σ)) ∧
  (∀ (v0 : Option Value) (v1 : Option Value) (v2 : Option Value) (v3 : Option Value) (x1 : Int32) (x2 : Int32) (x3 : Int32) (a0 : Nat) (σ : ma_H) (hc : hk_cls a0 = 7), ma_rn ro (d + 1) 178 (914, [v0, v1, v2, v3], .int x3 :: .int x2 :: .int x1 :: .ref a0 :: [], SH, σ) = (ma_ev ro d 82 [.ref a0, .int x1, .int x2, .int x3] SH σ).bind (fun q => ma_rn ro (d + 1) 178 (917, [v0, v1, v2, v3], (q.1.toList ++ []), q.2.1, q.2.2))) ∧
  (∀ (v0 : Option Value) (v1 : Option Value) (v3 : Option Value) (a1 : Nat) (st : List Value) (σ : ma_H), ma_rn ro d 178 (917, [v0, v1, some (.ref a1), v3], st, SH, σ) = ma_rn ro d 178 (918, [v0, v1, some (.ref a1), v3], .ref a1 :: st, SH, σ)) ∧
  (∀ (v1 : Option Value) (v2 : Option Value) (v3 : Option Value) (a1 : Nat) (st : List Value) (σ : ma_H), ma_rn ro d 178 (918, [some (.ref a1), v1, v2, v3], st, SH, σ) = ma_rn ro d 178 (919, [some (.ref a1), v1, v2, v3], .ref a1 :: st, SH, σ)) ∧
  (∀ (v0 : Option Value) (v1 : Option Value) (v2 : Option Value) (x1 : Int32) (st : List Value) (σ : ma_H), ma_rn ro d 178 (919, [v0, v1, v2, some (.int x1)], st, SH, σ) = ma_rn ro d 178 (920, [v0, v1, v2, some (.int x1)], .int x1 :: st, SH, σ)) ∧
  (∀ (v0 : Option Value) (v1 : Option Value) (v2 : Option Value) (v3 : Option Value) (st : List Value) (σ : ma_H), ma_rn ro d 178 (920, [v0, v1, v2, v3], st, SH, σ) = ma_rn ro d 178 (921, [v0, v1, v2, v3], .int (nI 1) :: st, SH, σ)) ∧
  (∀ (v0 : Option Value) (v1 : Option Value) (v2 : Option Value) (v3 : Option Value) (x1 : Int32) (x2 : Int32) (st : List Value) (σ : ma_H), ma_rn ro d 178 (921, [v0, v1, v2, v3], .int x1 :: .int x2 :: st, SH, σ) = ma_rn ro d 178 (922, [v0, v1, v2, v3], .int (x2 + x1) :: st, SH, σ)) ∧
  (∀ (v0 : Option Value) (v1 : Option Value) (v2 : Option Value) (v3 : Option Value) (k : Nat) (a2 : Nat) (st : List Value) (σ : ma_H) (hk : k < hk_len a2), ma_rn ro d 178 (922, [v0, v1, v2, v3], .int (nI k) :: .ref a2 :: st, SH, σ) = ma_rn ro d 178 (923, [v0, v1, v2, v3], .int (σ a2 k) :: st, SH, σ)) ∧
  (∀ (v1 : Option Value) (v2 : Option Value) (v3 : Option Value) (a1 : Nat) (st : List Value) (σ : ma_H), ma_rn ro d 178 (923, [some (.ref a1), v1, v2, v3], st, SH, σ) = ma_rn ro d 178 (924, [some (.ref a1), v1, v2, v3], .ref a1 :: st, SH, σ)) ∧
  (∀ (v0 : Option Value) (v1 : Option Value) (v2 : Option Value) (x1 : Int32) (st : List Value) (σ : ma_H), ma_rn ro d 178 (924, [v0, v1, v2, some (.int x1)], st, SH, σ) = ma_rn ro d 178 (925, [v0, v1, v2, some (.int x1)], .int x1 :: st, SH, σ)) ∧
  (∀ (v0 : Option Value) (v1 : Option Value) (v2 : Option Value) (v3 : Option Value) (st : List Value) (σ : ma_H), ma_rn ro d 178 (925, [v0, v1, v2, v3], st, SH, σ) = ma_rn ro d 178 (926, [v0, v1, v2, v3], .int (nI 2) :: st, SH, σ)) ∧
  (∀ (v0 : Option Value) (v1 : Option Value) (v2 : Option Value) (v3 : Option Value) (x1 : Int32) (x2 : Int32) (st : List Value) (σ : ma_H), ma_rn ro d 178 (926, [v0, v1, v2, v3], .int x1 :: .int x2 :: st, SH, σ) = ma_rn ro d 178 (927, [v0, v1, v2, v3], .int (x2 + x1) :: st, SH, σ)) ∧
  (∀ (v0 : Option Value) (v1 : Option Value) (v2 : Option Value) (v3 : Option Value) (k : Nat) (a2 : Nat) (st : List Value) (σ : ma_H) (hk : k < hk_len a2), ma_rn ro d 178 (927, [v0, v1, v2, v3], .int (nI k) :: .ref a2 :: st, SH, σ) = ma_rn ro d 178 (928, [v0, v1, v2, v3], .int (σ a2 k) :: st, SH, σ)) ∧
  (∀ (v1 : Option Value) (v2 : Option Value) (v3 : Option Value) (a1 : Nat) (st : List Value) (σ : ma_H), ma_rn ro d 178 (928, [some (.ref a1), v1, v2, v3], st, SH, σ) = ma_rn ro d 178 (929, [some (.ref a1), v1, v2, v3], .ref a1 :: st, SH, σ)) ∧
  (∀ (v0 : Option Value) (v1 : Option Value) (v2 : Option Value) (x1 : Int32) (st : List Value) (σ : ma_H), ma_rn ro d 178 (929, [v0, v1, v2, some (.int x1)], st, SH, σ) = ma_rn ro d 178 (930, [v0, v1, v2, some (.int x1)], .int x1 :: st, SH, σ)) ∧
  (∀ (v0 : Option Value) (v1 : Option Value) (v2 : Option Value) (v3 : Option Value) (st : List Value) (σ : ma_H), ma_rn ro d 178 (930, [v0, v1, v2, v3], st, SH, σ) = ma_rn ro d 178 (931, [v0, v1, v2, v3], .int (nI 3) :: st, SH, σ)) ∧
  (∀ (v0 : Option Value) (v1 : Option Value) (v2 : Option Value) (v3 : Option Value) (x1 : Int32) (x2 : Int32) (st : List Value) (σ : ma_H), ma_rn ro d 178 (931, [v0, v1, v2, v3], .int x1 :: .int x2 :: st, SH, σ) = ma_rn ro d 178 (932, [v0, v1, v2, v3], .int (x2 + x1) :: st, SH, σ)) ∧
  (∀ (v0 : Option Value) (v1 : Option Value) (v2 : Option Value) (v3 : Option Value) (k : Nat) (a2 : Nat) (st : List Value) (σ : ma_H) (hk : k < hk_len a2), ma_rn ro d 178 (932, [v0, v1, v2, v3], .int (nI k) :: .ref a2 :: st, SH, σ) = ma_rn ro d 178 (933, [v0, v1, v2, v3], .int (σ a2 k) :: st, SH, σ)) ∧
  (∀ (v0 : Option Value) (v1 : Option Value) (v2 : Option Value) (v3 : Option Value) (x20 : Int32) (x1 : Int32) (x2 : Int32) (x3 : Int32) (a0 : Nat) (σ : ma_H) (hc : hk_cls a0 = 8), ma_rn ro (d + 1) 178 (933, [v0, v1, v2, v3], .int x3 :: .int x2 :: .int x1 :: .ref a0 :: .int x20 :: [], SH, σ) = (ma_ev ro d 172 [.ref a0, .int x1, .int x2, .int x3] SH σ).bind (fun q => ma_rn ro (d + 1) 178 (936, [v0, v1, v2, v3], (q.1.toList ++ (.int x20 :: [])), q.2.1, q.2.2))) ∧
  (∀ (v0 : Option Value) (v1 : Option Value) (v2 : Option Value) (v3 : Option Value) (x1 : Int32) (x2 : Int32) (st : List Value) (σ : ma_H), ma_rn ro d 178 (936, [v0, v1, v2, v3], .int x1 :: .int x2 :: st, SH, σ) = if x2 = x1 then ma_rn ro d 178 (1046, [v0, v1, v2, v3], st, SH, σ) else ma_rn ro d 178 (939, [v0, v1, v2, v3], st, SH, σ)) ∧
  (∀ (v0 : Option Value) (v1 : Option Value) (v2 : Option Value) (v3 : Option Value) (st : List Value) (σ : ma_H), ma_rn ro d 178 (939, [v0, v1, v2, v3], st, SH, σ) = ma_rn ro d 178 (940, [v0, v1, v2, v3], .int (nI 0) :: st, SH, σ)) ∧
  (∀ (v0 : Option Value) (v1 : Option Value) (v2 : Option Value) (v3 : Option Value) (x1 : Int32) (σ : ma_H) (hx : ma_fitI .boolean x1 = true), ma_rn ro d 178 (940, [v0, v1, v2, v3], [.int x1], SH, σ) = some (some (.int x1), SH, σ)) ∧
  (∀ (v0 : Option Value) (v2 : Option Value) (v3 : Option Value) (a1 : Nat) (st : List Value) (σ : ma_H), ma_rn ro d 178 (941, [v0, some (.ref a1), v2, v3], st, SH, σ) = ma_rn ro d 178 (942, [v0, some (.ref a1), v2, v3], .ref a1 :: st, SH, σ)) ∧
  (∀ (v1 : Option Value) (v2 : Option Value) (v3 : Option Value) (a1 : Nat) (st : List Value) (σ : ma_H), ma_rn ro d 178 (942, [some (.ref a1), v1, v2, v3], st, SH, σ) = ma_rn ro d 178 (943, [some (.ref a1), v1, v2, v3], .ref a1 :: st, SH, σ)) ∧
  (∀ (v0 : Option Value) (v1 : Option Value) (v2 : Option Value) (x1 : Int32) (st : List Value) (σ : ma_H), ma_rn ro d 178 (943, [v0, v1, v2, some (.int x1)], st, SH, σ) = ma_rn ro d 178 (944, [v0, v1, v2, some (.int x1)], .int x1 :: st, SH, σ)) ∧
  (∀ (v0 : Option Value) (v1 : Option Value) (v2 : Option Value) (v3 : Option Value) (st : List Value) (σ : ma_H), ma_rn ro d 178 (944, [v0, v1, v2, v3], st, SH, σ) = ma_rn ro d 178 (945, [v0, v1, v2, v3], .int (nI 1) :: st, SH, σ)) ∧
  (∀ (v0 : Option Value) (v1 : Option Value) (v2 : Option Value) (v3 : Option Value) (x1 : Int32) (x2 : Int32) (st : List Value) (σ : ma_H), ma_rn ro d 178 (945, [v0, v1, v2, v3], .int x1 :: .int x2 :: st, SH, σ) = ma_rn ro d 178 (946, [v0, v1, v2, v3], .int (x2 + x1) :: st, SH, σ)) ∧
  (∀ (v0 : Option Value) (v1 : Option Value) (v2 : Option Value) (v3 : Option Value) (k : Nat) (a2 : Nat) (st : List Value) (σ : ma_H) (hk : k < hk_len a2), ma_rn ro d 178 (946, [v0, v1, v2, v3], .int (nI k) :: .ref a2 :: st, SH, σ) = ma_rn ro d 178 (947, [v0, v1, v2, v3], .int (σ a2 k) :: st, SH, σ)) ∧
  (∀ (v0 : Option Value) (v1 : Option Value) (v2 : Option Value) (v3 : Option Value) (x1 : Int32) (a0 : Nat) (σ : ma_H) (hc : hk_cls a0 = 7), ma_rn ro (d + 1) 178 (947, [v0, v1, v2, v3], .int x1 :: .ref a0 :: [], SH, σ) = (ma_ev ro d 83 [.ref a0, .int x1] SH σ).bind (fun q => ma_rn ro (d + 1) 178 (950, [v0, v1, v2, v3], (q.1.toList ++ []), q.2.1, q.2.2))) ∧
  (∀ (v0 : Option Value) (v1 : Option Value) (v3 : Option Value) (a1 : Nat) (st : List Value) (σ : ma_H), ma_rn ro d 178 (950, [v0, v1, some (.ref a1), v3], st, SH, σ) = ma_rn ro d 178 (951, [v0, v1, some (.ref a1), v3], .ref a1 :: st, SH, σ)) ∧
  (∀ (v1 : Option Value) (v2 : Option Value) (v3 : Option Value) (a1 : Nat) (st : List Value) (σ : ma_H), ma_rn ro d 178 (951, [some (.ref a1), v1, v2, v3], st, SH, σ) = ma_rn ro d 178 (952, [some (.ref a1), v1, v2, v3], .ref a1 :: st, SH, σ)) ∧
  (∀ (v0 : Option Value) (v1 : Option Value) (v2 : Option Value) (x1 : Int32) (st : List Value) (σ : ma_H), ma_rn ro d 178 (952, [v0, v1, v2, some (.int x1)], st, SH, σ) = ma_rn ro d 178 (953, [v0, v1, v2, some (.int x1)], .int x1 :: st, SH, σ)) ∧
  (∀ (v0 : Option Value) (v1 : Option Value) (v2 : Option Value) (v3 : Option Value) (st : List Value) (σ : ma_H), ma_rn ro d 178 (953, [v0, v1, v2, v3], st, SH, σ) = ma_rn ro d 178 (954, [v0, v1, v2, v3], .int (nI 1) :: st, SH, σ)) ∧
  (∀ (v0 : Option Value) (v1 : Option Value) (v2 : Option Value) (v3 : Option Value) (x1 : Int32) (x2 : Int32) (st : List Value) (σ : ma_H), ma_rn ro d 178 (954, [v0, v1, v2, v3], .int x1 :: .int x2 :: st, SH, σ) = ma_rn ro d 178 (955, [v0, v1, v2, v3], .int (x2 + x1) :: st, SH, σ)) ∧
  (∀ (v0 : Option Value) (v1 : Option Value) (v2 : Option Value) (v3 : Option Value) (k : Nat) (a2 : Nat) (st : List Value) (σ : ma_H) (hk : k < hk_len a2), ma_rn ro d 178 (955, [v0, v1, v2, v3], .int (nI k) :: .ref a2 :: st, SH, σ) = ma_rn ro d 178 (956, [v0, v1, v2, v3], .int (σ a2 k) :: st, SH, σ)) ∧
  (∀ (v0 : Option Value) (v1 : Option Value) (v2 : Option Value) (v3 : Option Value) (x20 : Int32) (x1 : Int32) (a0 : Nat) (σ : ma_H) (hc : hk_cls a0 = 8), ma_rn ro (d + 1) 178 (956, [v0, v1, v2, v3], .int x1 :: .ref a0 :: .int x20 :: [], SH, σ) = (ma_ev ro d 173 [.ref a0, .int x1] SH σ).bind (fun q => ma_rn ro (d + 1) 178 (959, [v0, v1, v2, v3], (q.1.toList ++ (.int x20 :: [])), q.2.1, q.2.2))) ∧
  (∀ (v0 : Option Value) (v1 : Option Value) (v2 : Option Value) (v3 : Option Value) (x1 : Int32) (x2 : Int32) (st : List Value) (σ : ma_H), ma_rn ro d 178 (959, [v0, v1, v2, v3], .int x1 :: .int x2 :: st, SH, σ) = if x2 = x1 then ma_rn ro d 178 (1046, [v0, v1, v2, v3], st, SH, σ) else ma_rn ro d 178 (962, [v0, v1, v2, v3], st, SH, σ)) ∧
  (∀ (v0 : Option Value) (v1 : Option Value) (v2 : Option Value) (v3 : Option Value) (st : List Value) (σ : ma_H), ma_rn ro d 178 (962, [v0, v1, v2, v3], st, SH, σ) = ma_rn ro d 178 (963, [v0, v1, v2, v3], .int (nI 0) :: st, SH, σ)) ∧
  (∀ (v0 : Option Value) (v1 : Option Value) (v2 : Option Value) (v3 : Option Value) (x1 : Int32) (σ : ma_H) (hx : ma_fitI .boolean x1 = true), ma_rn ro d 178 (963, [v0, v1, v2, v3], [.int x1], SH, σ) = some (some (.int x1), SH, σ)) ∧
  (∀ (v0 : Option Value) (v2 : Option Value) (v3 : Option Value) (a1 : Nat) (st : List Value) (σ : ma_H), ma_rn ro d 178 (964, [v0, some (.ref a1), v2, v3], st, SH, σ) = ma_rn ro d 178 (965, [v0, some (.ref a1), v2, v3], .ref a1 :: st, SH, σ)) ∧
  (∀ (v1 : Option Value) (v2 : Option Value) (v3 : Option Value) (a1 : Nat) (st : List Value) (σ : ma_H), ma_rn ro d 178 (965, [some (.ref a1), v1, v2, v3], st, SH, σ) = ma_rn ro d 178 (966, [some (.ref a1), v1, v2, v3], .ref a1 :: st, SH, σ)) ∧
  (∀ (v0 : Option Value) (v1 : Option Value) (v2 : Option Value) (x1 : Int32) (st : List Value) (σ : ma_H), ma_rn ro d 178 (966, [v0, v1, v2, some (.int x1)], st, SH, σ) = ma_rn ro d 178 (967, [v0, v1, v2, some (.int x1)], .int x1 :: st, SH, σ)) ∧
  (∀ (v0 : Option Value) (v1 : Option Value) (v2 : Option Value) (v3 : Option Value) (st : List Value) (σ : ma_H), ma_rn ro d 178 (967, [v0, v1, v2, v3], st, SH, σ) = ma_rn ro d 178 (968, [v0, v1, v2, v3], .int (nI 1) :: st, SH, σ)) ∧
  (∀ (v0 : Option Value) (v1 : Option Value) (v2 : Option Value) (v3 : Option Value) (x1 : Int32) (x2 : Int32) (st : List Value) (σ : ma_H), ma_rn ro d 178 (968, [v0, v1, v2, v3], .int x1 :: .int x2 :: st, SH, σ) = ma_rn ro d 178 (969, [v0, v1, v2, v3], .int (x2 + x1) :: st, SH, σ)) ∧
  (∀ (v0 : Option Value) (v1 : Option Value) (v2 : Option Value) (v3 : Option Value) (k : Nat) (a2 : Nat) (st : List Value) (σ : ma_H) (hk : k < hk_len a2), ma_rn ro d 178 (969, [v0, v1, v2, v3], .int (nI k) :: .ref a2 :: st, SH, σ) = ma_rn ro d 178 (970, [v0, v1, v2, v3], .int (σ a2 k) :: st, SH, σ)) ∧
  (∀ (v1 : Option Value) (v2 : Option Value) (v3 : Option Value) (a1 : Nat) (st : List Value) (σ : ma_H), ma_rn ro d 178 (970, [some (.ref a1), v1, v2, v3], st, SH, σ) = ma_rn ro d 178 (971, [some (.ref a1), v1, v2, v3], .ref a1 :: st, SH, σ)) ∧
  (∀ (v0 : Option Value) (v1 : Option Value) (v2 : Option Value) (x1 : Int32) (st : List Value) (σ : ma_H), ma_rn ro d 178 (971, [v0, v1, v2, some (.int x1)], st, SH, σ) = ma_rn ro d 178 (972, [v0, v1, v2, some (.int x1)], .int x1 :: st, SH, σ)) ∧
  (∀ (v0 : Option Value) (v1 : Option Value) (v2 : Option Value) (v3 : Option Value) (st : List Value) (σ : ma_H), ma_rn ro d 178 (972, [v0, v1, v2, v3], st, SH, σ) = ma_rn ro d 178 (973, [v0, v1, v2, v3], .int (nI 2) :: st, SH, σ)) ∧
  (∀ (v0 : Option Value) (v1 : Option Value) (v2 : Option Value) (v3 : Option Value) (x1 : Int32) (x2 : Int32) (st : List Value) (σ : ma_H), ma_rn ro d 178 (973, [v0, v1, v2, v3], .int x1 :: .int x2 :: st, SH, σ) = ma_rn ro d 178 (974, [v0, v1, v2, v3], .int (x2 + x1) :: st, SH, σ)) ∧
  (∀ (v0 : Option Value) (v1 : Option Value) (v2 : Option Value) (v3 : Option Value) (k : Nat) (a2 : Nat) (st : List Value) (σ : ma_H) (hk : k < hk_len a2), ma_rn ro d 178 (974, [v0, v1, v2, v3], .int (nI k) :: .ref a2 :: st, SH, σ) = ma_rn ro d 178 (975, [v0, v1, v2, v3], .int (σ a2 k) :: st, SH, σ)) ∧
  (∀ (v0 : Option Value) (v1 : Option Value) (v2 : Option Value) (v3 : Option Value) (x1 : Int32) (x2 : Int32) (a0 : Nat) (σ : ma_H) (hc : hk_cls a0 = 7), ma_rn ro (d + 1) 178 (975, [v0, v1, v2, v3], .int x2 :: .int x1 :: .ref a0 :: [], SH, σ) = (ma_ev ro d 84 [.ref a0, .int x1, .int x2] SH σ).bind (fun q => ma_rn ro (d + 1) 178 (978, [v0, v1, v2, v3], (q.1.toList ++ []), q.2.1, q.2.2))) ∧
  (∀ (v0 : Option Value) (v1 : Option Value) (v3 : Option Value) (a1 : Nat) (st : List Value) (σ : ma_H), ma_rn ro d 178 (978, [v0, v1, some (.ref a1), v3], st, SH, σ) = ma_rn ro d 178 (979, [v0, v1, some (.ref a1), v3], .ref a1 :: st, SH, σ)) ∧
  (∀ (v1 : Option Value) (v2 : Option Value) (v3 : Option Value) (a1 : Nat) (st : List Value) (σ : ma_H), ma_rn ro d 178 (979, [some (.ref a1), v1, v2, v3], st, SH, σ) = ma_rn ro d 178 (980, [some (.ref a1), v1, v2, v3], .ref a1 :: st, SH, σ)) ∧
  (∀ (v0 : Option Value) (v1 : Option Value) (v2 : Option Value) (x1 : Int32) (st : List Value) (σ : ma_H), ma_rn ro d 178 (980, [v0, v1, v2, some (.int x1)], st, SH, σ) = ma_rn ro d 178 (981, [v0, v1, v2, some (.int x1)], .int x1 :: st, SH, σ)) ∧
  (∀ (v0 : Option Value) (v1 : Option Value) (v2 : Option Value) (v3 : Option Value) (st : List Value) (σ : ma_H), ma_rn ro d 178 (981, [v0, v1, v2, v3], st, SH, σ) = ma_rn ro d 178 (982, [v0, v1, v2, v3], .int (nI 1) :: st, SH, σ)) ∧
  (∀ (v0 : Option Value) (v1 : Option Value) (v2 : Option Value) (v3 : Option Value) (x1 : Int32) (x2 : Int32) (st : List Value) (σ : ma_H), ma_rn ro d 178 (982, [v0, v1, v2, v3], .int x1 :: .int x2 :: st, SH, σ) = ma_rn ro d 178 (983, [v0, v1, v2, v3], .int (x2 + x1) :: st, SH, σ)) ∧
  (∀ (v0 : Option Value) (v1 : Option Value) (v2 : Option Value) (v3 : Option Value) (k : Nat) (a2 : Nat) (st : List Value) (σ : ma_H) (hk : k < hk_len a2), ma_rn ro d 178 (983, [v0, v1, v2, v3], .int (nI k) :: .ref a2 :: st, SH, σ) = ma_rn ro d 178 (984, [v0, v1, v2, v3], .int (σ a2 k) :: st, SH, σ)) ∧
  (∀ (v1 : Option Value) (v2 : Option Value) (v3 : Option Value) (a1 : Nat) (st : List Value) (σ : ma_H), ma_rn ro d 178 (984, [some (.ref a1), v1, v2, v3], st, SH, σ) = ma_rn ro d 178 (985, [some (.ref a1), v1, v2, v3], .ref a1 :: st, SH, σ)) ∧
  (∀ (v0 : Option Value) (v1 : Option Value) (v2 : Option Value) (x1 : Int32) (st : List Value) (σ : ma_H), ma_rn ro d 178 (985, [v0, v1, v2, some (.int x1)], st, SH, σ) = ma_rn ro d 178 (986, [v0, v1, v2, some (.int x1)], .int x1 :: st, SH, σ)) ∧
  (∀ (v0 : Option Value) (v1 : Option Value) (v2 : Option Value) (v3 : Option Value) (st : List Value) (σ : ma_H), ma_rn ro d 178 (986, [v0, v1, v2, v3], st, SH, σ) = ma_rn ro d 178 (987, [v0, v1, v2, v3], .int (nI 2) :: st, SH, σ)) ∧
  (∀ (v0 : Option Value) (v1 : Option Value) (v2 : Option Value) (v3 : Option Value) (x1 : Int32) (x2 : Int32) (st : List Value) (σ : ma_H), ma_rn ro d 178 (987, [v0, v1, v2, v3], .int x1 :: .int x2 :: st, SH, σ) = ma_rn ro d 178 (988, [v0, v1, v2, v3], .int (x2 + x1) :: st, SH, σ)) ∧
  (∀ (v0 : Option Value) (v1 : Option Value) (v2 : Option Value) (v3 : Option Value) (k : Nat) (a2 : Nat) (st : List Value) (σ : ma_H) (hk : k < hk_len a2), ma_rn ro d 178 (988, [v0, v1, v2, v3], .int (nI k) :: .ref a2 :: st, SH, σ) = ma_rn ro d 178 (989, [v0, v1, v2, v3], .int (σ a2 k) :: st, SH, σ)) ∧
  (∀ (v0 : Option Value) (v1 : Option Value) (v2 : Option Value) (v3 : Option Value) (x20 : Int32) (x1 : Int32) (x2 : Int32) (a0 : Nat) (σ : ma_H) (hc : hk_cls a0 = 8), ma_rn ro (d + 1) 178 (989, [v0, v1, v2, v3], .int x2 :: .int x1 :: .ref a0 :: .int x20 :: [], SH, σ) = (ma_ev ro d 174 [.ref a0, .int x1, .int x2] SH σ).bind (fun q => ma_rn ro (d + 1) 178 (992, [v0, v1, v2, v3], (q.1.toList ++ (.int x20 :: [])), q.2.1, q.2.2))) ∧
  (∀ (v0 : Option Value) (v1 : Option Value) (v2 : Option Value) (v3 : Option Value) (x1 : Int32) (x2 : Int32) (st : List Value) (σ : ma_H), ma_rn ro d 178 (992, [v0, v1, v2, v3], .int x1 :: .int x2 :: st, SH, σ) = if x2 = x1 then ma_rn ro d 178 (1046, [v0, v1, v2, v3], st, SH, σ) else ma_rn ro d 178 (995, [v0, v1, v2, v3], st, SH, σ)) ∧
  (∀ (v0 : Option Value) (v1 : Option Value) (v2 : Option Value) (v3 : Option Value) (st : List Value) (σ : ma_H), ma_rn ro d 178 (995, [v0, v1, v2, v3], st, SH, σ) = ma_rn ro d 178 (996, [v0, v1, v2, v3], .int (nI 0) :: st, SH, σ)) ∧
  (∀ (v0 : Option Value) (v1 : Option Value) (v2 : Option Value) (v3 : Option Value) (x1 : Int32) (σ : ma_H) (hx : ma_fitI .boolean x1 = true), ma_rn ro d 178 (996, [v0, v1, v2, v3], [.int x1], SH, σ) = some (some (.int x1), SH, σ)) ∧
  (∀ (v0 : Option Value) (v2 : Option Value) (v3 : Option Value) (a1 : Nat) (st : List Value) (σ : ma_H), ma_rn ro d 178 (997, [v0, some (.ref a1), v2, v3], st, SH, σ) = ma_rn ro d 178 (998, [v0, some (.ref a1), v2, v3], .ref a1 :: st, SH, σ)) ∧
  (∀ (v0 : Option Value) (v1 : Option Value) (v2 : Option Value) (v3 : Option Value) (a0 : Nat) (σ : ma_H) (hc : hk_cls a0 = 7), ma_rn ro (d + 1) 178 (998, [v0, v1, v2, v3], .ref a0 :: [], SH, σ) = (ma_ev ro d 85 [.ref a0] SH σ).bind (fun q => ma_rn ro (d + 1) 178 (1001, [v0, v1, v2, v3], (q.1.toList ++ []), q.2.1, q.2.2))) ∧
  (∀ (v0 : Option Value) (v1 : Option Value) (v3 : Option Value) (a1 : Nat) (st : List Value) (σ : ma_H), ma_rn ro d 178 (1001, [v0, v1, some (.ref a1), v3], st, SH, σ) = ma_rn ro d 178 (1002, [v0, v1, some (.ref a1), v3], .ref a1 :: st, SH, σ)) ∧
  (∀ (v0 : Option Value) (v1 : Option Value) (v2 : Option Value) (v3 : Option Value) (x20 : Int32) (a0 : Nat) (σ : ma_H) (hc : hk_cls a0 = 8), ma_rn ro (d + 1) 178 (1002, [v0, v1, v2, v3], .ref a0 :: .int x20 :: [], SH, σ) = (ma_ev ro d 175 [.ref a0] SH σ).bind (fun q => ma_rn ro (d + 1) 178 (1005, [v0, v1, v2, v3], (q.1.toList ++ (.int x20 :: [])), q.2.1, q.2.2))) ∧
  (∀ (v0 : Option Value) (v1 : Option Value) (v2 : Option Value) (v3 : Option Value) (x1 : Int32) (x2 : Int32) (st : List Value) (σ : ma_H), ma_rn ro d 178 (1005, [v0, v1, v2, v3], .int x1 :: .int x2 :: st, SH, σ) = if x2 = x1 then ma_rn ro d 178 (1046, [v0, v1, v2, v3], st, SH, σ) else ma_rn ro d 178 (1008, [v0, v1, v2, v3], st, SH, σ)) ∧
  (∀ (v0 : Option Value) (v1 : Option Value) (v2 : Option Value) (v3 : Option Value) (st : List Value) (σ : ma_H), ma_rn ro d 178 (1008, [v0, v1, v2, v3], st, SH, σ) = ma_rn ro d 178 (1009, [v0, v1, v2, v3], .int (nI 0) :: st, SH, σ)) ∧
  (∀ (v0 : Option Value) (v1 : Option Value) (v2 : Option Value) (v3 : Option Value) (x1 : Int32) (σ : ma_H) (hx : ma_fitI .boolean x1 = true), ma_rn ro d 178 (1009, [v0, v1, v2, v3], [.int x1], SH, σ) = some (some (.int x1), SH, σ)) ∧
  (∀ (v0 : Option Value) (v2 : Option Value) (v3 : Option Value) (a1 : Nat) (st : List Value) (σ : ma_H), ma_rn ro d 178 (1010, [v0, some (.ref a1), v2, v3], st, SH, σ) = ma_rn ro d 178 (1011, [v0, some (.ref a1), v2, v3], .ref a1 :: st, SH, σ)) ∧
  (∀ (v0 : Option Value) (v1 : Option Value) (v2 : Option Value) (v3 : Option Value) (a0 : Nat) (σ : ma_H) (hc : hk_cls a0 = 7), ma_rn ro (d + 1) 178 (1011, [v0, v1, v2, v3], .ref a0 :: [], SH, σ) = (ma_ev ro d 86 [.ref a0] SH σ).bind (fun q => ma_rn ro (d + 1) 178 (1014, [v0, v1, v2, v3], (q.1.toList ++ []), q.2.1, q.2.2))) ∧
  (∀ (v0 : Option Value) (v1 : Option Value) (v3 : Option Value) (a1 : Nat) (st : List Value) (σ : ma_H), ma_rn ro d 178 (1014, [v0, v1, some (.ref a1), v3], st, SH, σ) = ma_rn ro d 178 (1015, [v0, v1, some (.ref a1), v3], .ref a1 :: st, SH, σ)) ∧
  (∀ (v0 : Option Value) (v1 : Option Value) (v2 : Option Value) (v3 : Option Value) (x20 : Int32) (a0 : Nat) (σ : ma_H) (hc : hk_cls a0 = 8), ma_rn ro (d + 1) 178 (1015, [v0, v1, v2, v3], .ref a0 :: .int x20 :: [], SH, σ) = (ma_ev ro d 176 [.ref a0] SH σ).bind (fun q => ma_rn ro (d + 1) 178 (1018, [v0, v1, v2, v3], (q.1.toList ++ (.int x20 :: [])), q.2.1, q.2.2))) ∧
  (∀ (v0 : Option Value) (v1 : Option Value) (v2 : Option Value) (v3 : Option Value) (x1 : Int32) (x2 : Int32) (st : List Value) (σ : ma_H), ma_rn ro d 178 (1018, [v0, v1, v2, v3], .int x1 :: .int x2 :: st, SH, σ) = if x2 = x1 then ma_rn ro d 178 (1046, [v0, v1, v2, v3], st, SH, σ) else ma_rn ro d 178 (1021, [v0, v1, v2, v3], st, SH, σ)) ∧
  (∀ (v0 : Option Value) (v1 : Option Value) (v2 : Option Value) (v3 : Option Value) (st : List Value) (σ : ma_H), ma_rn ro d 178 (1021, [v0, v1, v2, v3], st, SH, σ) = ma_rn ro d 178 (1022, [v0, v1, v2, v3], .int (nI 0) :: st, SH, σ)) ∧
  (∀ (v0 : Option Value) (v1 : Option Value) (v2 : Option Value) (v3 : Option Value) (x1 : Int32) (σ : ma_H) (hx : ma_fitI .boolean x1 = true), ma_rn ro d 178 (1022, [v0, v1, v2, v3], [.int x1], SH, σ) = some (some (.int x1), SH, σ)) ∧
  (∀ (v0 : Option Value) (v2 : Option Value) (v3 : Option Value) (a1 : Nat) (st : List Value) (σ : ma_H), ma_rn ro d 178 (1023, [v0, some (.ref a1), v2, v3], st, SH, σ) = ma_rn ro d 178 (1024, [v0, some (.ref a1), v2, v3], .ref a1 :: st, SH, σ)) ∧
  (∀ (v1 : Option Value) (v2 : Option Value) (v3 : Option Value) (a1 : Nat) (st : List Value) (σ : ma_H), ma_rn ro d 178 (1024, [some (.ref a1), v1, v2, v3], st, SH, σ) = ma_rn ro d 178 (1025, [some (.ref a1), v1, v2, v3], .ref a1 :: st, SH, σ)) ∧
  (∀ (v0 : Option Value) (v1 : Option Value) (v2 : Option Value) (x1 : Int32) (st : List Value) (σ : ma_H), ma_rn ro d 178 (1025, [v0, v1, v2, some (.int x1)], st, SH, σ) = ma_rn ro d 178 (1026, [v0, v1, v2, some (.int x1)], .int x1 :: st, SH, σ)) ∧
  (∀ (v0 : Option Value) (v1 : Option Value) (v2 : Option Value) (v3 : Option Value) (st : List Value) (σ : ma_H), ma_rn ro d 178 (1026, [v0, v1, v2, v3], st, SH, σ) = ma_rn ro d 178 (1027, [v0, v1, v2, v3], .int (nI 1) :: st, SH, σ)) ∧
  (∀ (v0 : Option Value) (v1 : Option Value) (v2 : Option Value) (v3 : Option Value) (x1 : Int32) (x2 : Int32) (st : List Value) (σ : ma_H), ma_rn ro d 178 (1027, [v0, v1, v2, v3], .int x1 :: .int x2 :: st, SH, σ) = ma_rn ro d 178 (1028, [v0, v1, v2, v3], .int (x2 + x1) :: st, SH, σ)) ∧
  (∀ (v0 : Option Value) (v1 : Option Value) (v2 : Option Value) (v3 : Option Value) (k : Nat) (a2 : Nat) (st : List Value) (σ : ma_H) (hk : k < hk_len a2), ma_rn ro d 178 (1028, [v0, v1, v2, v3], .int (nI k) :: .ref a2 :: st, SH, σ) = ma_rn ro d 178 (1029, [v0, v1, v2, v3], .int (σ a2 k) :: st, SH, σ)) ∧
  (∀ (v0 : Option Value) (v1 : Option Value) (v2 : Option Value) (v3 : Option Value) (x1 : Int32) (a0 : Nat) (σ : ma_H) (hc : hk_cls a0 = 7), ma_rn ro (d + 1) 178 (1029, [v0, v1, v2, v3], .int x1 :: .ref a0 :: [], SH, σ) = (ma_ev ro d 87 [.ref a0, .int x1] SH σ).bind (fun q => ma_rn ro (d + 1) 178 (1032, [v0, v1, v2, v3], (q.1.toList ++ []), q.2.1, q.2.2))) ∧
  (∀ (v0 : Option Value) (v1 : Option Value) (v3 : Option Value) (a1 : Nat) (st : List Value) (σ : ma_H), ma_rn ro d 178 (1032, [v0, v1, some (.ref a1), v3], st, SH, σ) = ma_rn ro d 178 (1033, [v0, v1, some (.ref a1), v3], .ref a1 :: st, SH, σ)) ∧
  (∀ (v1 : Option Value) (v2 : Option Value) (v3 : Option Value) (a1 : Nat) (st : List Value) (σ : ma_H), ma_rn ro d 178 (1033, [some (.ref a1), v1, v2, v3], st, SH, σ) = ma_rn ro d 178 (1034, [some (.ref a1), v1, v2, v3], .ref a1 :: st, SH, σ)) ∧
  (∀ (v0 : Option Value) (v1 : Option Value) (v2 : Option Value) (x1 : Int32) (st : List Value) (σ : ma_H), ma_rn ro d 178 (1034, [v0, v1, v2, some (.int x1)], st, SH, σ) = ma_rn ro d 178 (1035, [v0, v1, v2, some (.int x1)], .int x1 :: st, SH, σ)) ∧
  (∀ (v0 : Option Value) (v1 : Option Value) (v2 : Option Value) (v3 : Option Value) (st : List Value) (σ : ma_H), ma_rn ro d 178 (1035, [v0, v1, v2, v3], st, SH, σ) = ma_rn ro d 178 (1036, [v0, v1, v2, v3], .int (nI 1) :: st, SH, σ)) ∧
  (∀ (v0 : Option Value) (v1 : Option Value) (v2 : Option Value) (v3 : Option Value) (x1 : Int32) (x2 : Int32) (st : List Value) (σ : ma_H), ma_rn ro d 178 (1036, [v0, v1, v2, v3], .int x1 :: .int x2 :: st, SH, σ) = ma_rn ro d 178 (1037, [v0, v1, v2, v3], .int (x2 + x1) :: st, SH, σ)) ∧
  (∀ (v0 : Option Value) (v1 : Option Value) (v2 : Option Value) (v3 : Option Value) (k : Nat) (a2 : Nat) (st : List Value) (σ : ma_H) (hk : k < hk_len a2), ma_rn ro d 178 (1037, [v0, v1, v2, v3], .int (nI k) :: .ref a2 :: st, SH, σ) = ma_rn ro d 178 (1038, [v0, v1, v2, v3], .int (σ a2 k) :: st, SH, σ)) ∧
  (∀ (v0 : Option Value) (v1 : Option Value) (v2 : Option Value) (v3 : Option Value) (x20 : Int32) (x1 : Int32) (a0 : Nat) (σ : ma_H) (hc : hk_cls a0 = 8), ma_rn ro (d + 1) 178 (1038, [v0, v1, v2, v3], .int x1 :: .ref a0 :: .int x20 :: [], SH, σ) = (ma_ev ro d 177 [.ref a0, .int x1] SH σ).bind (fun q => ma_rn ro (d + 1) 178 (1041, [v0, v1, v2, v3], (q.1.toList ++ (.int x20 :: [])), q.2.1, q.2.2))) ∧
  (∀ (v0 : Option Value) (v1 : Option Value) (v2 : Option Value) (v3 : Option Value) (x1 : Int32) (x2 : Int32) (st : List Value) (σ : ma_H), ma_rn ro d 178 (1041, [v0, v1, v2, v3], .int x1 :: .int x2 :: st, SH, σ) = if x2 = x1 then ma_rn ro d 178 (1046, [v0, v1, v2, v3], st, SH, σ) else ma_rn ro d 178 (1044, [v0, v1, v2, v3], st, SH, σ)) ∧
  (∀ (v0 : Option Value) (v1 : Option Value) (v2 : Option Value) (v3 : Option Value) (st : List Value) (σ : ma_H), ma_rn ro d 178 (1044, [v0, v1, v2, v3], st, SH, σ) = ma_rn ro d 178 (1045, [v0, v1, v2, v3], .int (nI 0) :: st, SH, σ)) ∧
  (∀ (v0 : Option Value) (v1 : Option Value) (v2 : Option Value) (v3 : Option Value) (x1 : Int32) (σ : ma_H) (hx : ma_fitI .boolean x1 = true), ma_rn ro d 178 (1045, [v0, v1, v2, v3], [.int x1], SH, σ) = some (some (.int x1), SH, σ)) ∧
  (∀ (v0 : Option Value) (v1 : Option Value) (x1 : Int32) (a9 : Nat) (st : List Value) (σ : ma_H), ma_rn ro d 178 (1046, [v0, v1, some (.ref a9), some (.int x1)], st, SH, σ) = ma_rn ro d 178 (1049, [v0, v1, some (.ref a9), some (.int (x1 + nI 4))], st, SH, σ)) ∧
  (∀ (v0 : Option Value) (v1 : Option Value) (v2 : Option Value) (v3 : Option Value) (st : List Value) (σ : ma_H), ma_rn ro d 178 (1049, [v0, v1, v2, v3], st, SH, σ) = ma_rn ro d 178 (18, [v0, v1, v2, v3], st, SH, σ)) ∧
  (∀ (v0 : Option Value) (v1 : Option Value) (v2 : Option Value) (v3 : Option Value) (st : List Value) (σ : ma_H), ma_rn ro d 178 (1052, [v0, v1, v2, v3], st, SH, σ) = ma_rn ro d 178 (1053, [v0, v1, v2, v3], .int (nI 1) :: st, SH, σ)) ∧
  (∀ (v0 : Option Value) (v1 : Option Value) (v2 : Option Value) (v3 : Option Value) (x1 : Int32) (σ : ma_H) (hx : ma_fitI .boolean x1 = true), ma_rn ro d 178 (1053, [v0, v1, v2, v3], [.int x1], SH, σ) = some (some (.int x1), SH, σ)) := ⟨fun v0 v1 v2 v3 a1 st σ => q_go e178_3 rfl rfl,
  fun v1 v2 v3 a9 a1 st σ => q_go e178_7 rfl rfl,
  fun v0 v1 v2 v3 a1 st σ => q_go e178_11 rfl rfl,
  fun v0 v2 v3 a9 a1 st σ => q_go e178_15 rfl rfl,
  fun v0 v1 v2 v3 st σ => q_iconst e178_16 (by decide),
  fun v0 v1 v3 a9 x1 st σ => q_go e178_17 rfl rfl,
  fun v1 v2 v3 a1 st σ => q_go e178_19 rfl rfl,
  fun v0 v1 v2 v3 a1 st σ hn => q_alen e178_20 rfl hn,
  fun v0 v1 v2 v3 st σ => q_iconst e178_21 (by decide),
  fun v0 v1 v2 v3 x1 x2 st σ => q_go e178_22 rfl rfl,
  fun v0 v1 v2 v3 x1 x2 st σ => (q_cmp e178_23 rfl).trans q_gt,
  fun v1 v2 v3 a1 st σ => q_go e178_26 rfl rfl,
  fun v0 v1 v2 x1 st σ => q_go e178_27 rfl rfl,
  fun v0 v1 v2 v3 k a2 st σ hk => q_iald e178_28 hk,
  fun v0 v1 v2 v3 st σ => q_bipush e178_29 (by decide),
  fun v0 v1 v2 v3 x1 x2 st σ => q_go e178_31 rfl rfl,
  fun v0 v1 v2 v3 x1 st σ => by
    by_cases h0 : x1 = nI 0
    · rw [if_pos h0]; exact q_tswIn e178_32 h0 (k := 0) (by decide) (by decide) (by decide) rfl rfl
    rw [if_neg h0]
    by_cases h1 : x1 = nI 1
    · rw [if_pos h1]; exact q_tswIn e178_32 h1 (k := 1) (by decide) (by decide) (by decide) rfl rfl
    rw [if_neg h1]
    by_cases h2 : x1 = nI 2
    · rw [if_pos h2]; exact q_tswIn e178_32 h2 (k := 2) (by decide) (by decide) (by decide) rfl rfl
    rw [if_neg h2]
    by_cases h3 : x1 = nI 3
    · rw [if_pos h3]; exact q_tswIn e178_32 h3 (k := 3) (by decide) (by decide) (by decide) rfl rfl
    rw [if_neg h3]
    by_cases h4 : x1 = nI 4
    · rw [if_pos h4]; exact q_tswIn e178_32 h4 (k := 4) (by decide) (by decide) (by decide) rfl rfl
    rw [if_neg h4]
    by_cases h5 : x1 = nI 5
    · rw [if_pos h5]; exact q_tswIn e178_32 h5 (k := 5) (by decide) (by decide) (by decide) rfl rfl
    rw [if_neg h5]
    by_cases h6 : x1 = nI 6
    · rw [if_pos h6]; exact q_tswIn e178_32 h6 (k := 6) (by decide) (by decide) (by decide) rfl rfl
    rw [if_neg h6]
    by_cases h7 : x1 = nI 7
    · rw [if_pos h7]; exact q_tswIn e178_32 h7 (k := 7) (by decide) (by decide) (by decide) rfl rfl
    rw [if_neg h7]
    by_cases h8 : x1 = nI 8
    · rw [if_pos h8]; exact q_tswIn e178_32 h8 (k := 8) (by decide) (by decide) (by decide) rfl rfl
    rw [if_neg h8]
    by_cases h9 : x1 = nI 9
    · rw [if_pos h9]; exact q_tswIn e178_32 h9 (k := 9) (by decide) (by decide) (by decide) rfl rfl
    rw [if_neg h9]
    by_cases h10 : x1 = nI 10
    · rw [if_pos h10]; exact q_tswIn e178_32 h10 (k := 10) (by decide) (by decide) (by decide) rfl rfl
    rw [if_neg h10]
    by_cases h11 : x1 = nI 11
    · rw [if_pos h11]; exact q_tswIn e178_32 h11 (k := 11) (by decide) (by decide) (by decide) rfl rfl
    rw [if_neg h11]
    by_cases h12 : x1 = nI 12
    · rw [if_pos h12]; exact q_tswIn e178_32 h12 (k := 12) (by decide) (by decide) (by decide) rfl rfl
    rw [if_neg h12]
    by_cases h13 : x1 = nI 13
    · rw [if_pos h13]; exact q_tswIn e178_32 h13 (k := 13) (by decide) (by decide) (by decide) rfl rfl
    rw [if_neg h13]
    by_cases h14 : x1 = nI 14
    · rw [if_pos h14]; exact q_tswIn e178_32 h14 (k := 14) (by decide) (by decide) (by decide) rfl rfl
    rw [if_neg h14]
    by_cases h15 : x1 = nI 15
    · rw [if_pos h15]; exact q_tswIn e178_32 h15 (k := 15) (by decide) (by decide) (by decide) rfl rfl
    rw [if_neg h15]
    by_cases h16 : x1 = nI 16
    · rw [if_pos h16]; exact q_tswIn e178_32 h16 (k := 16) (by decide) (by decide) (by decide) rfl rfl
    rw [if_neg h16]
    by_cases h17 : x1 = nI 17
    · rw [if_pos h17]; exact q_tswIn e178_32 h17 (k := 17) (by decide) (by decide) (by decide) rfl rfl
    rw [if_neg h17]
    by_cases h18 : x1 = nI 18
    · rw [if_pos h18]; exact q_tswIn e178_32 h18 (k := 18) (by decide) (by decide) (by decide) rfl rfl
    rw [if_neg h18]
    by_cases h19 : x1 = nI 19
    · rw [if_pos h19]; exact q_tswIn e178_32 h19 (k := 19) (by decide) (by decide) (by decide) rfl rfl
    rw [if_neg h19]
    by_cases h20 : x1 = nI 20
    · rw [if_pos h20]; exact q_tswIn e178_32 h20 (k := 20) (by decide) (by decide) (by decide) rfl rfl
    rw [if_neg h20]
    by_cases h21 : x1 = nI 21
    · rw [if_pos h21]; exact q_tswIn e178_32 h21 (k := 21) (by decide) (by decide) (by decide) rfl rfl
    rw [if_neg h21]
    by_cases h22 : x1 = nI 22
    · rw [if_pos h22]; exact q_tswIn e178_32 h22 (k := 22) (by decide) (by decide) (by decide) rfl rfl
    rw [if_neg h22]
    by_cases h23 : x1 = nI 23
    · rw [if_pos h23]; exact q_tswIn e178_32 h23 (k := 23) (by decide) (by decide) (by decide) rfl rfl
    rw [if_neg h23]
    by_cases h24 : x1 = nI 24
    · rw [if_pos h24]; exact q_tswIn e178_32 h24 (k := 24) (by decide) (by decide) (by decide) rfl rfl
    rw [if_neg h24]
    by_cases h25 : x1 = nI 25
    · rw [if_pos h25]; exact q_tswIn e178_32 h25 (k := 25) (by decide) (by decide) (by decide) rfl rfl
    rw [if_neg h25]
    by_cases h26 : x1 = nI 26
    · rw [if_pos h26]; exact q_tswIn e178_32 h26 (k := 26) (by decide) (by decide) (by decide) rfl rfl
    rw [if_neg h26]
    by_cases h27 : x1 = nI 27
    · rw [if_pos h27]; exact q_tswIn e178_32 h27 (k := 27) (by decide) (by decide) (by decide) rfl rfl
    rw [if_neg h27]
    by_cases h28 : x1 = nI 28
    · rw [if_pos h28]; exact q_tswIn e178_32 h28 (k := 28) (by decide) (by decide) (by decide) rfl rfl
    rw [if_neg h28]
    by_cases h29 : x1 = nI 29
    · rw [if_pos h29]; exact q_tswIn e178_32 h29 (k := 29) (by decide) (by decide) (by decide) rfl rfl
    rw [if_neg h29]
    have g0 := q_nnI h0 (by decide)
    have g1 := q_nnI h1 (by decide)
    have g2 := q_nnI h2 (by decide)
    have g3 := q_nnI h3 (by decide)
    have g4 := q_nnI h4 (by decide)
    have g5 := q_nnI h5 (by decide)
    have g6 := q_nnI h6 (by decide)
    have g7 := q_nnI h7 (by decide)
    have g8 := q_nnI h8 (by decide)
    have g9 := q_nnI h9 (by decide)
    have g10 := q_nnI h10 (by decide)
    have g11 := q_nnI h11 (by decide)
    have g12 := q_nnI h12 (by decide)
    have g13 := q_nnI h13 (by decide)
    have g14 := q_nnI h14 (by decide)
    have g15 := q_nnI h15 (by decide)
    have g16 := q_nnI h16 (by decide)
    have g17 := q_nnI h17 (by decide)
    have g18 := q_nnI h18 (by decide)
    have g19 := q_nnI h19 (by decide)
    have g20 := q_nnI h20 (by decide)
    have g21 := q_nnI h21 (by decide)
    have g22 := q_nnI h22 (by decide)
    have g23 := q_nnI h23 (by decide)
    have g24 := q_nnI h24 (by decide)
    have g25 := q_nnI h25 (by decide)
    have g26 := q_nnI h26 (by decide)
    have g27 := q_nnI h27 (by decide)
    have g28 := q_nnI h28 (by decide)
    have g29 := q_nnI h29 (by decide)
    exact q_tswOut e178_32 (by omega) rfl,
  fun v0 v2 v3 a1 st σ => q_go e178_168 rfl rfl,
  fun v1 v2 v3 a1 st σ => q_go e178_169 rfl rfl,
  fun v0 v1 v2 x1 st σ => q_go e178_170 rfl rfl,
  fun v0 v1 v2 v3 st σ => q_iconst e178_171 (by decide),
  fun v0 v1 v2 v3 x1 x2 st σ => q_go e178_172 rfl rfl,
  fun v0 v1 v2 v3 k a2 st σ hk => q_iald e178_173 hk,
  fun v0 v1 v2 v3 x1 a0 σ hc => q_invV (as := [.int x1]) (rest := []) e178_174 o_178 bn_9_13 c_9_13 m_58 (by decide) rfl rfl (Nat.le_of_ble_eq_true rfl) (Nat.le_of_ble_eq_true rfl) hc,
  fun v0 v1 v3 a1 st σ => q_go e178_177 rfl rfl,
  fun v1 v2 v3 a1 st σ => q_go e178_178 rfl rfl,
  fun v0 v1 v2 x1 st σ => q_go e178_179 rfl rfl,
  fun v0 v1 v2 v3 st σ => q_iconst e178_180 (by decide),
  fun v0 v1 v2 v3 x1 x2 st σ => q_go e178_181 rfl rfl,
  fun v0 v1 v2 v3 k a2 st σ hk => q_iald e178_182 hk,
  fun v0 v1 v2 v3 x20 x1 a0 σ hc => q_invV (as := [.int x1]) (rest := .int x20 :: []) e178_183 o_178 bn_9_17 c_9_17 m_107 (by decide) rfl rfl (Nat.le_of_ble_eq_true rfl) (Nat.le_of_ble_eq_true rfl) hc,
  fun v0 v1 v2 v3 x1 x2 st σ => (q_cmp e178_186 rfl).trans q_eq,
  fun v0 v1 v2 v3 st σ => q_iconst e178_189 (by decide),
  fun v0 v1 v2 v3 x1 σ hx => q_zret e178_190 r_178 hx,
  fun v0 v2 v3 a1 st σ => q_go e178_191 rfl rfl,
  fun v0 v1 v2 v3 a0 σ hc => q_invV (as := []) (rest := []) e178_192 o_178 bn_9_18 c_9_18 m_59 (by decide) rfl rfl (Nat.le_of_ble_eq_true rfl) (Nat.le_of_ble_eq_true rfl) hc,
  fun v0 v1 v3 a1 st σ => q_go e178_195 rfl rfl,
  fun v0 v1 v2 v3 x20 a0 σ hc => q_invV (as := []) (rest := .int x20 :: []) e178_196 o_178 bn_9_22 c_9_22 m_121 (by decide) rfl rfl (Nat.le_of_ble_eq_true rfl) (Nat.le_of_ble_eq_true rfl) hc,
  fun v0 v1 v2 v3 x1 x2 st σ => (q_cmp e178_199 rfl).trans q_eq,
  fun v0 v1 v2 v3 st σ => q_iconst e178_202 (by decide),
  fun v0 v1 v2 v3 x1 σ hx => q_zret e178_203 r_178 hx,
  fun v0 v2 v3 a1 st σ => q_go e178_204 rfl rfl,
  fun v1 v2 v3 a1 st σ => q_go e178_205 rfl rfl,
  fun v0 v1 v2 x1 st σ => q_go e178_206 rfl rfl,
  fun v0 v1 v2 v3 st σ => q_iconst e178_207 (by decide),
  fun v0 v1 v2 v3 x1 x2 st σ => q_go e178_208 rfl rfl,
  fun v0 v1 v2 v3 k a2 st σ hk => q_iald e178_209 hk,
  fun v1 v2 v3 a1 st σ => q_go e178_210 rfl rfl,
  fun v0 v1 v2 x1 st σ => q_go e178_211 rfl rfl,
  fun v0 v1 v2 v3 st σ => q_iconst e178_212 (by decide),
  fun v0 v1 v2 v3 x1 x2 st σ => q_go e178_213 rfl rfl,
  fun v0 v1 v2 v3 k a2 st σ hk => q_iald e178_214 hk,
  fun v0 v1 v2 v3 x1 x2 a0 σ hc => q_invV (as := [.int x1, .int x2]) (rest := []) e178_215 o_178 bn_9_23 c_9_23 m_60 (by decide) rfl rfl (Nat.le_of_ble_eq_true rfl) (Nat.le_of_ble_eq_true rfl) hc,
  fun v0 v1 v3 a1 st σ => q_go e178_218 rfl rfl,
  fun v1 v2 v3 a1 st σ => q_go e178_219 rfl rfl,
  fun v0 v1 v2 x1 st σ => q_go e178_220 rfl rfl,
  fun v0 v1 v2 v3 st σ => q_iconst e178_221 (by decide),
  fun v0 v1 v2 v3 x1 x2 st σ => q_go e178_222 rfl rfl,
  fun v0 v1 v2 v3 k a2 st σ hk => q_iald e178_223 hk,
  fun v1 v2 v3 a1 st σ => q_go e178_224 rfl rfl,
  fun v0 v1 v2 x1 st σ => q_go e178_225 rfl rfl,
  fun v0 v1 v2 v3 st σ => q_iconst e178_226 (by decide),
  fun v0 v1 v2 v3 x1 x2 st σ => q_go e178_227 rfl rfl,
  fun v0 v1 v2 v3 k a2 st σ hk => q_iald e178_228 hk,
  fun v0 v1 v2 v3 x20 x1 x2 a0 σ hc => q_invV (as := [.int x1, .int x2]) (rest := .int x20 :: []) e178_229 o_178 bn_9_27 c_9_27 m_128 (by decide) rfl rfl (Nat.le_of_ble_eq_true rfl) (Nat.le_of_ble_eq_true rfl) hc,
  fun v0 v1 v2 v3 x1 x2 st σ => (q_cmp e178_232 rfl).trans q_eq,
  fun v0 v1 v2 v3 st σ => q_iconst e178_235 (by decide),
  fun v0 v1 v2 v3 x1 σ hx => q_zret e178_236 r_178 hx,
  fun v0 v2 v3 a1 st σ => q_go e178_237 rfl rfl,
  fun v1 v2 v3 a1 st σ => q_go e178_238 rfl rfl,
  fun v0 v1 v2 x1 st σ => q_go e178_239 rfl rfl,
  fun v0 v1 v2 v3 st σ => q_iconst e178_240 (by decide),
  fun v0 v1 v2 v3 x1 x2 st σ => q_go e178_241 rfl rfl,
  fun v0 v1 v2 v3 k a2 st σ hk => q_iald e178_242 hk,
  fun v1 v2 v3 a1 st σ => q_go e178_243 rfl rfl,
  fun v0 v1 v2 x1 st σ => q_go e178_244 rfl rfl,
  fun v0 v1 v2 v3 st σ => q_iconst e178_245 (by decide),
  fun v0 v1 v2 v3 x1 x2 st σ => q_go e178_246 rfl rfl,
  fun v0 v1 v2 v3 k a2 st σ hk => q_iald e178_247 hk,
  fun v0 v1 v2 v3 x1 x2 a0 σ hc => q_invV (as := [.int x1, .int x2]) (rest := []) e178_248 o_178 bn_9_28 c_9_28 m_61 (by decide) rfl rfl (Nat.le_of_ble_eq_true rfl) (Nat.le_of_ble_eq_true rfl) hc,
  fun v0 v1 v3 a1 st σ => q_go e178_251 rfl rfl,
  fun v1 v2 v3 a1 st σ => q_go e178_252 rfl rfl,
  fun v0 v1 v2 x1 st σ => q_go e178_253 rfl rfl,
  fun v0 v1 v2 v3 st σ => q_iconst e178_254 (by decide),
  fun v0 v1 v2 v3 x1 x2 st σ => q_go e178_255 rfl rfl,
  fun v0 v1 v2 v3 k a2 st σ hk => q_iald e178_256 hk,
  fun v1 v2 v3 a1 st σ => q_go e178_257 rfl rfl,
  fun v0 v1 v2 x1 st σ => q_go e178_258 rfl rfl,
  fun v0 v1 v2 v3 st σ => q_iconst e178_259 (by decide),
  fun v0 v1 v2 v3 x1 x2 st σ => q_go e178_260 rfl rfl,
  fun v0 v1 v2 v3 k a2 st σ hk => q_iald e178_261 hk,
  fun v0 v1 v2 v3 x20 x1 x2 a0 σ hc => q_invV (as := [.int x1, .int x2]) (rest := .int x20 :: []) e178_262 o_178 bn_9_31 c_9_31 m_129 (by decide) rfl rfl (Nat.le_of_ble_eq_true rfl) (Nat.le_of_ble_eq_true rfl) hc,
  fun v0 v1 v2 v3 x1 x2 st σ => (q_cmp e178_265 rfl).trans q_eq,
  fun v0 v1 v2 v3 st σ => q_iconst e178_268 (by decide),
  fun v0 v1 v2 v3 x1 σ hx => q_zret e178_269 r_178 hx,
  fun v0 v2 v3 a1 st σ => q_go e178_270 rfl rfl,
  fun v1 v2 v3 a1 st σ => q_go e178_271 rfl rfl,
  fun v0 v1 v2 x1 st σ => q_go e178_272 rfl rfl,
  fun v0 v1 v2 v3 st σ => q_iconst e178_273 (by decide),
  fun v0 v1 v2 v3 x1 x2 st σ => q_go e178_274 rfl rfl,
  fun v0 v1 v2 v3 k a2 st σ hk => q_iald e178_275 hk,
  fun v1 v2 v3 a1 st σ => q_go e178_276 rfl rfl,
  fun v0 v1 v2 x1 st σ => q_go e178_277 rfl rfl,
  fun v0 v1 v2 v3 st σ => q_iconst e178_278 (by decide),
  fun v0 v1 v2 v3 x1 x2 st σ => q_go e178_279 rfl rfl,
  fun v0 v1 v2 v3 k a2 st σ hk => q_iald e178_280 hk,
  fun v1 v2 v3 a1 st σ => q_go e178_281 rfl rfl,
  fun v0 v1 v2 x1 st σ => q_go e178_282 rfl rfl,
  fun v0 v1 v2 v3 st σ => q_iconst e178_283 (by decide),
  fun v0 v1 v2 v3 x1 x2 st σ => q_go e178_284 rfl rfl,
  fun v0 v1 v2 v3 k a2 st σ hk => q_iald e178_285 hk,
  fun v0 v1 v2 v3 x1 x2 x3 a0 σ hc => q_invV (as := [.int x1, .int x2, .int x3]) (rest := []) e178_286 o_178 bn_9_32 c_9_32 m_62 (by decide) rfl rfl (Nat.le_of_ble_eq_true rfl) (Nat.le_of_ble_eq_true rfl) hc,
  fun v0 v1 v3 a1 st σ => q_go e178_289 rfl rfl,
  fun v1 v2 v3 a1 st σ => q_go e178_290 rfl rfl,
  fun v0 v1 v2 x1 st σ => q_go e178_291 rfl rfl,
  fun v0 v1 v2 v3 st σ => q_iconst e178_292 (by decide),
  fun v0 v1 v2 v3 x1 x2 st σ => q_go e178_293 rfl rfl,
  fun v0 v1 v2 v3 k a2 st σ hk => q_iald e178_294 hk,
  fun v1 v2 v3 a1 st σ => q_go e178_295 rfl rfl,
  fun v0 v1 v2 x1 st σ => q_go e178_296 rfl rfl,
  fun v0 v1 v2 v3 st σ => q_iconst e178_297 (by decide),
  fun v0 v1 v2 v3 x1 x2 st σ => q_go e178_298 rfl rfl,
  fun v0 v1 v2 v3 k a2 st σ hk => q_iald e178_299 hk,
  fun v1 v2 v3 a1 st σ => q_go e178_300 rfl rfl,
  fun v0 v1 v2 x1 st σ => q_go e178_301 rfl rfl,
  fun v0 v1 v2 v3 st σ => q_iconst e178_302 (by decide),
  fun v0 v1 v2 v3 x1 x2 st σ => q_go e178_303 rfl rfl,
  fun v0 v1 v2 v3 k a2 st σ hk => q_iald e178_304 hk,
  fun v0 v1 v2 v3 x20 x1 x2 x3 a0 σ hc => q_invV (as := [.int x1, .int x2, .int x3]) (rest := .int x20 :: []) e178_305 o_178 bn_9_36 c_9_36 m_130 (by decide) rfl rfl (Nat.le_of_ble_eq_true rfl) (Nat.le_of_ble_eq_true rfl) hc,
  fun v0 v1 v2 v3 x1 x2 st σ => (q_cmp e178_308 rfl).trans q_eq,
  fun v0 v1 v2 v3 st σ => q_iconst e178_311 (by decide),
  fun v0 v1 v2 v3 x1 σ hx => q_zret e178_312 r_178 hx,
  fun v0 v2 v3 a1 st σ => q_go e178_313 rfl rfl,
  fun v1 v2 v3 a1 st σ => q_go e178_314 rfl rfl,
  fun v0 v1 v2 x1 st σ => q_go e178_315 rfl rfl,
  fun v0 v1 v2 v3 st σ => q_iconst e178_316 (by decide),
  fun v0 v1 v2 v3 x1 x2 st σ => q_go e178_317 rfl rfl,
  fun v0 v1 v2 v3 k a2 st σ hk => q_iald e178_318 hk,
  fun v1 v2 v3 a1 st σ => q_go e178_319 rfl rfl,
  fun v0 v1 v2 x1 st σ => q_go e178_320 rfl rfl,
  fun v0 v1 v2 v3 st σ => q_iconst e178_321 (by decide),
  fun v0 v1 v2 v3 x1 x2 st σ => q_go e178_322 rfl rfl,
  fun v0 v1 v2 v3 k a2 st σ hk => q_iald e178_323 hk,
  fun v1 v2 v3 a1 st σ => q_go e178_324 rfl rfl,
  fun v0 v1 v2 x1 st σ => q_go e178_325 rfl rfl,
  fun v0 v1 v2 v3 st σ => q_iconst e178_326 (by decide),
  fun v0 v1 v2 v3 x1 x2 st σ => q_go e178_327 rfl rfl,
  fun v0 v1 v2 v3 k a2 st σ hk => q_iald e178_328 hk,
  fun v0 v1 v2 v3 x1 x2 x3 a0 σ hc => q_invV (as := [.int x1, .int x2, .int x3]) (rest := []) e178_329 o_178 bn_9_37 c_9_37 m_63 (by decide) rfl rfl (Nat.le_of_ble_eq_true rfl) (Nat.le_of_ble_eq_true rfl) hc,
  fun v0 v1 v3 a1 st σ => q_go e178_332 rfl rfl,
  fun v1 v2 v3 a1 st σ => q_go e178_333 rfl rfl,
  fun v0 v1 v2 x1 st σ => q_go e178_334 rfl rfl,
  fun v0 v1 v2 v3 st σ => q_iconst e178_335 (by decide),
  fun v0 v1 v2 v3 x1 x2 st σ => q_go e178_336 rfl rfl,
  fun v0 v1 v2 v3 k a2 st σ hk => q_iald e178_337 hk,
  fun v1 v2 v3 a1 st σ => q_go e178_338 rfl rfl,
  fun v0 v1 v2 x1 st σ => q_go e178_339 rfl rfl,
  fun v0 v1 v2 v3 st σ => q_iconst e178_340 (by decide),
  fun v0 v1 v2 v3 x1 x2 st σ => q_go e178_341 rfl rfl,
  fun v0 v1 v2 v3 k a2 st σ hk => q_iald e178_342 hk,
  fun v1 v2 v3 a1 st σ => q_go e178_343 rfl rfl,
  fun v0 v1 v2 x1 st σ => q_go e178_344 rfl rfl,
  fun v0 v1 v2 v3 st σ => q_iconst e178_345 (by decide),
  fun v0 v1 v2 v3 x1 x2 st σ => q_go e178_346 rfl rfl,
  fun v0 v1 v2 v3 k a2 st σ hk => q_iald e178_347 hk,
  fun v0 v1 v2 v3 x20 x1 x2 x3 a0 σ hc => q_invV (as := [.int x1, .int x2, .int x3]) (rest := .int x20 :: []) e178_348 o_178 bn_9_40 c_9_40 m_131 (by decide) rfl rfl (Nat.le_of_ble_eq_true rfl) (Nat.le_of_ble_eq_true rfl) hc,
  fun v0 v1 v2 v3 x1 x2 st σ => (q_cmp e178_351 rfl).trans q_eq,
  fun v0 v1 v2 v3 st σ => q_iconst e178_354 (by decide),
  fun v0 v1 v2 v3 x1 σ hx => q_zret e178_355 r_178 hx,
  fun v0 v2 v3 a1 st σ => q_go e178_356 rfl rfl,
  fun v1 v2 v3 a1 st σ => q_go e178_357 rfl rfl,
  fun v0 v1 v2 x1 st σ => q_go e178_358 rfl rfl,
  fun v0 v1 v2 v3 st σ => q_iconst e178_359 (by decide),
  fun v0 v1 v2 v3 x1 x2 st σ => q_go e178_360 rfl rfl,
  fun v0 v1 v2 v3 k a2 st σ hk => q_iald e178_361 hk,
  fun v0 v1 v2 v3 x1 a0 σ hc => q_invV (as := [.int x1]) (rest := []) e178_362 o_178 bn_9_41 c_9_41 m_64 (by decide) rfl rfl (Nat.le_of_ble_eq_true rfl) (Nat.le_of_ble_eq_true rfl) hc,
  fun v0 v1 v3 a1 st σ => q_go e178_365 rfl rfl,
  fun v1 v2 v3 a1 st σ => q_go e178_366 rfl rfl,
  fun v0 v1 v2 x1 st σ => q_go e178_367 rfl rfl,
  fun v0 v1 v2 v3 st σ => q_iconst e178_368 (by decide),
  fun v0 v1 v2 v3 x1 x2 st σ => q_go e178_369 rfl rfl,
  fun v0 v1 v2 v3 k a2 st σ hk => q_iald e178_370 hk,
  fun v0 v1 v2 v3 x20 x1 a0 σ hc => q_invV (as := [.int x1]) (rest := .int x20 :: []) e178_371 o_178 bn_9_44 c_9_44 m_132 (by decide) rfl rfl (Nat.le_of_ble_eq_true rfl) (Nat.le_of_ble_eq_true rfl) hc,
  fun v0 v1 v2 v3 x1 x2 st σ => (q_cmp e178_374 rfl).trans q_eq,
  fun v0 v1 v2 v3 st σ => q_iconst e178_377 (by decide),
  fun v0 v1 v2 v3 x1 σ hx => q_zret e178_378 r_178 hx,
  fun v0 v2 v3 a1 st σ => q_go e178_379 rfl rfl,
  fun v1 v2 v3 a1 st σ => q_go e178_380 rfl rfl,
  fun v0 v1 v2 x1 st σ => q_go e178_381 rfl rfl,
  fun v0 v1 v2 v3 st σ => q_iconst e178_382 (by decide),
  fun v0 v1 v2 v3 x1 x2 st σ => q_go e178_383 rfl rfl,
  fun v0 v1 v2 v3 k a2 st σ hk => q_iald e178_384 hk,
  fun v0 v1 v2 v3 x1 a0 σ hc => q_invV (as := [.int x1]) (rest := []) e178_385 o_178 bn_9_45 c_9_45 m_65 (by decide) rfl rfl (Nat.le_of_ble_eq_true rfl) (Nat.le_of_ble_eq_true rfl) hc,
  fun v0 v1 v3 a1 st σ => q_go e178_388 rfl rfl,
  fun v1 v2 v3 a1 st σ => q_go e178_389 rfl rfl,
  fun v0 v1 v2 x1 st σ => q_go e178_390 rfl rfl,
  fun v0 v1 v2 v3 st σ => q_iconst e178_391 (by decide),
  fun v0 v1 v2 v3 x1 x2 st σ => q_go e178_392 rfl rfl,
  fun v0 v1 v2 v3 k a2 st σ hk => q_iald e178_393 hk,
  fun v0 v1 v2 v3 x20 x1 a0 σ hc => q_invV (as := [.int x1]) (rest := .int x20 :: []) e178_394 o_178 bn_9_48 c_9_48 m_134 (by decide) rfl rfl (Nat.le_of_ble_eq_true rfl) (Nat.le_of_ble_eq_true rfl) hc,
  fun v0 v1 v2 v3 x1 x2 st σ => (q_cmp e178_397 rfl).trans q_eq,
  fun v0 v1 v2 v3 st σ => q_iconst e178_400 (by decide),
  fun v0 v1 v2 v3 x1 σ hx => q_zret e178_401 r_178 hx,
  fun v0 v2 v3 a1 st σ => q_go e178_402 rfl rfl,
  fun v1 v2 v3 a1 st σ => q_go e178_403 rfl rfl,
  fun v0 v1 v2 x1 st σ => q_go e178_404 rfl rfl,
  fun v0 v1 v2 v3 st σ => q_iconst e178_405 (by decide),
  fun v0 v1 v2 v3 x1 x2 st σ => q_go e178_406 rfl rfl,
  fun v0 v1 v2 v3 k a2 st σ hk => q_iald e178_407 hk,
  fun v1 v2 v3 a1 st σ => q_go e178_408 rfl rfl,
  fun v0 v1 v2 x1 st σ => q_go e178_409 rfl rfl,
  fun v0 v1 v2 v3 st σ => q_iconst e178_410 (by decide),
  fun v0 v1 v2 v3 x1 x2 st σ => q_go e178_411 rfl rfl,
  fun v0 v1 v2 v3 k a2 st σ hk => q_iald e178_412 hk,
  fun v0 v1 v2 v3 x1 x2 a0 σ hc => q_invV (as := [.int x1, .int x2]) (rest := []) e178_413 o_178 bn_9_49 c_9_49 m_66 (by decide) rfl rfl (Nat.le_of_ble_eq_true rfl) (Nat.le_of_ble_eq_true rfl) hc,
  fun v0 v1 v3 a1 st σ => q_go e178_416 rfl rfl,
  fun v1 v2 v3 a1 st σ => q_go e178_417 rfl rfl,
  fun v0 v1 v2 x1 st σ => q_go e178_418 rfl rfl,
  fun v0 v1 v2 v3 st σ => q_iconst e178_419 (by decide),
  fun v0 v1 v2 v3 x1 x2 st σ => q_go e178_420 rfl rfl,
  fun v0 v1 v2 v3 k a2 st σ hk => q_iald e178_421 hk,
  fun v1 v2 v3 a1 st σ => q_go e178_422 rfl rfl,
  fun v0 v1 v2 x1 st σ => q_go e178_423 rfl rfl,
  fun v0 v1 v2 v3 st σ => q_iconst e178_424 (by decide),
  fun v0 v1 v2 v3 x1 x2 st σ => q_go e178_425 rfl rfl,
  fun v0 v1 v2 v3 k a2 st σ hk => q_iald e178_426 hk,
  fun v0 v1 v2 v3 x20 x1 x2 a0 σ hc => q_invV (as := [.int x1, .int x2]) (rest := .int x20 :: []) e178_427 o_178 bn_9_52 c_9_52 m_135 (by decide) rfl rfl (Nat.le_of_ble_eq_true rfl) (Nat.le_of_ble_eq_true rfl) hc,
  fun v0 v1 v2 v3 x1 x2 st σ => (q_cmp e178_430 rfl).trans q_eq,
  fun v0 v1 v2 v3 st σ => q_iconst e178_433 (by decide),
  fun v0 v1 v2 v3 x1 σ hx => q_zret e178_434 r_178 hx,
  fun v0 v2 v3 a1 st σ => q_go e178_435 rfl rfl,
  fun v1 v2 v3 a1 st σ => q_go e178_436 rfl rfl,
  fun v0 v1 v2 x1 st σ => q_go e178_437 rfl rfl,
  fun v0 v1 v2 v3 st σ => q_iconst e178_438 (by decide),
  fun v0 v1 v2 v3 x1 x2 st σ => q_go e178_439 rfl rfl,
  fun v0 v1 v2 v3 k a2 st σ hk => q_iald e178_440 hk,
  fun v0 v1 v2 v3 x1 a0 σ hc => q_invV (as := [.int x1]) (rest := []) e178_441 o_178 bn_9_53 c_9_53 m_67 (by decide) rfl rfl (Nat.le_of_ble_eq_true rfl) (Nat.le_of_ble_eq_true rfl) hc,
  fun v0 v1 v3 a1 st σ => q_go e178_444 rfl rfl,
  fun v1 v2 v3 a1 st σ => q_go e178_445 rfl rfl,
  fun v0 v1 v2 x1 st σ => q_go e178_446 rfl rfl,
  fun v0 v1 v2 v3 st σ => q_iconst e178_447 (by decide),
  fun v0 v1 v2 v3 x1 x2 st σ => q_go e178_448 rfl rfl,
  fun v0 v1 v2 v3 k a2 st σ hk => q_iald e178_449 hk,
  fun v0 v1 v2 v3 x20 x1 a0 σ hc => q_invV (as := [.int x1]) (rest := .int x20 :: []) e178_450 o_178 bn_9_56 c_9_56 m_137 (by decide) rfl rfl (Nat.le_of_ble_eq_true rfl) (Nat.le_of_ble_eq_true rfl) hc,
  fun v0 v1 v2 v3 x1 x2 st σ => (q_cmp e178_453 rfl).trans q_eq,
  fun v0 v1 v2 v3 st σ => q_iconst e178_456 (by decide),
  fun v0 v1 v2 v3 x1 σ hx => q_zret e178_457 r_178 hx,
  fun v0 v2 v3 a1 st σ => q_go e178_458 rfl rfl,
  fun v1 v2 v3 a1 st σ => q_go e178_459 rfl rfl,
  fun v0 v1 v2 x1 st σ => q_go e178_460 rfl rfl,
  fun v0 v1 v2 v3 st σ => q_iconst e178_461 (by decide),
  fun v0 v1 v2 v3 x1 x2 st σ => q_go e178_462 rfl rfl,
  fun v0 v1 v2 v3 k a2 st σ hk => q_iald e178_463 hk,
  fun v0 v1 v2 v3 x1 a0 σ hc => q_invV (as := [.int x1]) (rest := []) e178_464 o_178 bn_9_57 c_9_57 m_68 (by decide) rfl rfl (Nat.le_of_ble_eq_true rfl) (Nat.le_of_ble_eq_true rfl) hc,
  fun v0 v1 v3 a1 st σ => q_go e178_467 rfl rfl,
  fun v1 v2 v3 a1 st σ => q_go e178_468 rfl rfl,
  fun v0 v1 v2 x1 st σ => q_go e178_469 rfl rfl,
  fun v0 v1 v2 v3 st σ => q_iconst e178_470 (by decide),
  fun v0 v1 v2 v3 x1 x2 st σ => q_go e178_471 rfl rfl,
  fun v0 v1 v2 v3 k a2 st σ hk => q_iald e178_472 hk,
  fun v0 v1 v2 v3 x20 x1 a0 σ hc => q_invV (as := [.int x1]) (rest := .int x20 :: []) e178_473 o_178 bn_9_60 c_9_60 m_142 (by decide) rfl rfl (Nat.le_of_ble_eq_true rfl) (Nat.le_of_ble_eq_true rfl) hc,
  fun v0 v1 v2 v3 x1 x2 st σ => (q_cmp e178_476 rfl).trans q_eq,
  fun v0 v1 v2 v3 st σ => q_iconst e178_479 (by decide),
  fun v0 v1 v2 v3 x1 σ hx => q_zret e178_480 r_178 hx,
  fun v0 v2 v3 a1 st σ => q_go e178_481 rfl rfl,
  fun v1 v2 v3 a1 st σ => q_go e178_482 rfl rfl,
  fun v0 v1 v2 x1 st σ => q_go e178_483 rfl rfl,
  fun v0 v1 v2 v3 st σ => q_iconst e178_484 (by decide),
  fun v0 v1 v2 v3 x1 x2 st σ => q_go e178_485 rfl rfl,
  fun v0 v1 v2 v3 k a2 st σ hk => q_iald e178_486 hk,
  fun v1 v2 v3 a1 st σ => q_go e178_487 rfl rfl,
  fun v0 v1 v2 x1 st σ => q_go e178_488 rfl rfl,
  fun v0 v1 v2 v3 st σ => q_iconst e178_489 (by decide),
  fun v0 v1 v2 v3 x1 x2 st σ => q_go e178_490 rfl rfl,
  fun v0 v1 v2 v3 k a2 st σ hk => q_iald e178_491 hk,
  fun v0 v1 v2 v3 x1 x2 a0 σ hc => q_invV (as := [.int x1, .int x2]) (rest := []) e178_492 o_178 bn_9_61 c_9_61 m_69 (by decide) rfl rfl (Nat.le_of_ble_eq_true rfl) (Nat.le_of_ble_eq_true rfl) hc,
  fun v0 v1 v3 a1 st σ => q_go e178_495 rfl rfl,
  fun v1 v2 v3 a1 st σ => q_go e178_496 rfl rfl,
  fun v0 v1 v2 x1 st σ => q_go e178_497 rfl rfl,
  fun v0 v1 v2 v3 st σ => q_iconst e178_498 (by decide),
  fun v0 v1 v2 v3 x1 x2 st σ => q_go e178_499 rfl rfl,
  fun v0 v1 v2 v3 k a2 st σ hk => q_iald e178_500 hk,
  fun v1 v2 v3 a1 st σ => q_go e178_501 rfl rfl,
  fun v0 v1 v2 x1 st σ => q_go e178_502 rfl rfl,
  fun v0 v1 v2 v3 st σ => q_iconst e178_503 (by decide),
  fun v0 v1 v2 v3 x1 x2 st σ => q_go e178_504 rfl rfl,
  fun v0 v1 v2 v3 k a2 st σ hk => q_iald e178_505 hk,
  fun v0 v1 v2 v3 x20 x1 x2 a0 σ hc => q_invV (as := [.int x1, .int x2]) (rest := .int x20 :: []) e178_506 o_178 bn_9_64 c_9_64 m_143 (by decide) rfl rfl (Nat.le_of_ble_eq_true rfl) (Nat.le_of_ble_eq_true rfl) hc,
  fun v0 v1 v2 v3 x1 x2 st σ => (q_cmp e178_509 rfl).trans q_eq,
  fun v0 v1 v2 v3 st σ => q_iconst e178_512 (by decide),
  fun v0 v1 v2 v3 x1 σ hx => q_zret e178_513 r_178 hx,
  fun v0 v2 v3 a1 st σ => q_go e178_514 rfl rfl,
  fun v1 v2 v3 a1 st σ => q_go e178_515 rfl rfl,
  fun v0 v1 v2 x1 st σ => q_go e178_516 rfl rfl,
  fun v0 v1 v2 v3 st σ => q_iconst e178_517 (by decide),
  fun v0 v1 v2 v3 x1 x2 st σ => q_go e178_518 rfl rfl,
  fun v0 v1 v2 v3 k a2 st σ hk => q_iald e178_519 hk,
  fun v1 v2 v3 a1 st σ => q_go e178_520 rfl rfl,
  fun v0 v1 v2 x1 st σ => q_go e178_521 rfl rfl,
  fun v0 v1 v2 v3 st σ => q_iconst e178_522 (by decide),
  fun v0 v1 v2 v3 x1 x2 st σ => q_go e178_523 rfl rfl,
  fun v0 v1 v2 v3 k a2 st σ hk => q_iald e178_524 hk,
  fun v0 v1 v2 v3 x1 x2 a0 σ hc => q_invV (as := [.int x1, .int x2]) (rest := []) e178_525 o_178 bn_9_65 c_9_65 m_70 (by decide) rfl rfl (Nat.le_of_ble_eq_true rfl) (Nat.le_of_ble_eq_true rfl) hc,
  fun v0 v1 v3 a1 st σ => q_go e178_528 rfl rfl,
  fun v1 v2 v3 a1 st σ => q_go e178_529 rfl rfl,
  fun v0 v1 v2 x1 st σ => q_go e178_530 rfl rfl,
  fun v0 v1 v2 v3 st σ => q_iconst e178_531 (by decide),
  fun v0 v1 v2 v3 x1 x2 st σ => q_go e178_532 rfl rfl,
  fun v0 v1 v2 v3 k a2 st σ hk => q_iald e178_533 hk,
  fun v1 v2 v3 a1 st σ => q_go e178_534 rfl rfl,
  fun v0 v1 v2 x1 st σ => q_go e178_535 rfl rfl,
  fun v0 v1 v2 v3 st σ => q_iconst e178_536 (by decide),
  fun v0 v1 v2 v3 x1 x2 st σ => q_go e178_537 rfl rfl,
  fun v0 v1 v2 v3 k a2 st σ hk => q_iald e178_538 hk,
  fun v0 v1 v2 v3 x20 x1 x2 a0 σ hc => q_invV (as := [.int x1, .int x2]) (rest := .int x20 :: []) e178_539 o_178 bn_9_68 c_9_68 m_146 (by decide) rfl rfl (Nat.le_of_ble_eq_true rfl) (Nat.le_of_ble_eq_true rfl) hc,
  fun v0 v1 v2 v3 x1 x2 st σ => (q_cmp e178_542 rfl).trans q_eq,
  fun v0 v1 v2 v3 st σ => q_iconst e178_545 (by decide),
  fun v0 v1 v2 v3 x1 σ hx => q_zret e178_546 r_178 hx,
  fun v0 v2 v3 a1 st σ => q_go e178_547 rfl rfl,
  fun v1 v2 v3 a1 st σ => q_go e178_548 rfl rfl,
  fun v0 v1 v2 x1 st σ => q_go e178_549 rfl rfl,
  fun v0 v1 v2 v3 st σ => q_iconst e178_550 (by decide),
  fun v0 v1 v2 v3 x1 x2 st σ => q_go e178_551 rfl rfl,
  fun v0 v1 v2 v3 k a2 st σ hk => q_iald e178_552 hk,
  fun v1 v2 v3 a1 st σ => q_go e178_553 rfl rfl,
  fun v0 v1 v2 x1 st σ => q_go e178_554 rfl rfl,
  fun v0 v1 v2 v3 st σ => q_iconst e178_555 (by decide),
  fun v0 v1 v2 v3 x1 x2 st σ => q_go e178_556 rfl rfl,
  fun v0 v1 v2 v3 k a2 st σ hk => q_iald e178_557 hk,
  fun v1 v2 v3 a1 st σ => q_go e178_558 rfl rfl,
  fun v0 v1 v2 x1 st σ => q_go e178_559 rfl rfl,
  fun v0 v1 v2 v3 st σ => q_iconst e178_560 (by decide),
  fun v0 v1 v2 v3 x1 x2 st σ => q_go e178_561 rfl rfl,
  fun v0 v1 v2 v3 k a2 st σ hk => q_iald e178_562 hk,
  fun v0 v1 v2 v3 x1 x2 x3 a0 σ hc => q_invV (as := [.int x1, .int x2, .int x3]) (rest := []) e178_563 o_178 bn_9_69 c_9_69 m_71 (by decide) rfl rfl (Nat.le_of_ble_eq_true rfl) (Nat.le_of_ble_eq_true rfl) hc,
  fun v0 v1 v3 a1 st σ => q_go e178_566 rfl rfl,
  fun v1 v2 v3 a1 st σ => q_go e178_567 rfl rfl,
  fun v0 v1 v2 x1 st σ => q_go e178_568 rfl rfl,
  fun v0 v1 v2 v3 st σ => q_iconst e178_569 (by decide),
  fun v0 v1 v2 v3 x1 x2 st σ => q_go e178_570 rfl rfl,
  fun v0 v1 v2 v3 k a2 st σ hk => q_iald e178_571 hk,
  fun v1 v2 v3 a1 st σ => q_go e178_572 rfl rfl,
  fun v0 v1 v2 x1 st σ => q_go e178_573 rfl rfl,
  fun v0 v1 v2 v3 st σ => q_iconst e178_574 (by decide),
  fun v0 v1 v2 v3 x1 x2 st σ => q_go e178_575 rfl rfl,
  fun v0 v1 v2 v3 k a2 st σ hk => q_iald e178_576 hk,
  fun v1 v2 v3 a1 st σ => q_go e178_577 rfl rfl,
  fun v0 v1 v2 x1 st σ => q_go e178_578 rfl rfl,
  fun v0 v1 v2 v3 st σ => q_iconst e178_579 (by decide),
  fun v0 v1 v2 v3 x1 x2 st σ => q_go e178_580 rfl rfl,
  fun v0 v1 v2 v3 k a2 st σ hk => q_iald e178_581 hk,
  fun v0 v1 v2 v3 x20 x1 x2 x3 a0 σ hc => q_invV (as := [.int x1, .int x2, .int x3]) (rest := .int x20 :: []) e178_582 o_178 bn_9_72 c_9_72 m_149 (by decide) rfl rfl (Nat.le_of_ble_eq_true rfl) (Nat.le_of_ble_eq_true rfl) hc,
  fun v0 v1 v2 v3 x1 x2 st σ => (q_cmp e178_585 rfl).trans q_eq,
  fun v0 v1 v2 v3 st σ => q_iconst e178_588 (by decide),
  fun v0 v1 v2 v3 x1 σ hx => q_zret e178_589 r_178 hx,
  fun v0 v2 v3 a1 st σ => q_go e178_590 rfl rfl,
  fun v1 v2 v3 a1 st σ => q_go e178_591 rfl rfl,
  fun v0 v1 v2 x1 st σ => q_go e178_592 rfl rfl,
  fun v0 v1 v2 v3 st σ => q_iconst e178_593 (by decide),
  fun v0 v1 v2 v3 x1 x2 st σ => q_go e178_594 rfl rfl,
  fun v0 v1 v2 v3 k a2 st σ hk => q_iald e178_595 hk,
  fun v1 v2 v3 a1 st σ => q_go e178_596 rfl rfl,
  fun v0 v1 v2 x1 st σ => q_go e178_597 rfl rfl,
  fun v0 v1 v2 v3 st σ => q_iconst e178_598 (by decide),
  fun v0 v1 v2 v3 x1 x2 st σ => q_go e178_599 rfl rfl,
  fun v0 v1 v2 v3 k a2 st σ hk => q_iald e178_600 hk,
  fun v1 v2 v3 a1 st σ => q_go e178_601 rfl rfl,
  fun v0 v1 v2 x1 st σ => q_go e178_602 rfl rfl,
  fun v0 v1 v2 v3 st σ => q_iconst e178_603 (by decide),
  fun v0 v1 v2 v3 x1 x2 st σ => q_go e178_604 rfl rfl,
  fun v0 v1 v2 v3 k a2 st σ hk => q_iald e178_605 hk,
  fun v0 v1 v2 v3 x1 st σ => (q_if e178_606 rfl).trans q_eq,
  fun v0 v1 v2 v3 st σ => q_iconst e178_609 (by decide),
  fun v0 v1 v2 v3 st σ => q_goto e178_610 rfl,
  fun v0 v1 v2 v3 st σ => q_iconst e178_613 (by decide),
  fun v0 v1 v2 v3 x1 x2 x3 a0 σ hc => q_invV (as := [.int x1, .int x2, .int x3]) (rest := []) e178_614 o_178 bn_9_73 c_9_73 m_72 (by decide) rfl rfl (Nat.le_of_ble_eq_true rfl) (Nat.le_of_ble_eq_true rfl) hc,
  fun v0 v1 v3 a1 st σ => q_go e178_617 rfl rfl,
  fun v1 v2 v3 a1 st σ => q_go e178_618 rfl rfl,
  fun v0 v1 v2 x1 st σ => q_go e178_619 rfl rfl,
  fun v0 v1 v2 v3 st σ => q_iconst e178_620 (by decide),
  fun v0 v1 v2 v3 x1 x2 st σ => q_go e178_621 rfl rfl,
  fun v0 v1 v2 v3 k a2 st σ hk => q_iald e178_622 hk,
  fun v1 v2 v3 a1 st σ => q_go e178_623 rfl rfl,
  fun v0 v1 v2 x1 st σ => q_go e178_624 rfl rfl,
  fun v0 v1 v2 v3 st σ => q_iconst e178_625 (by decide),
  fun v0 v1 v2 v3 x1 x2 st σ => q_go e178_626 rfl rfl,
  fun v0 v1 v2 v3 k a2 st σ hk => q_iald e178_627 hk,
  fun v1 v2 v3 a1 st σ => q_go e178_628 rfl rfl,
  fun v0 v1 v2 x1 st σ => q_go e178_629 rfl rfl,
  fun v0 v1 v2 v3 st σ => q_iconst e178_630 (by decide),
  fun v0 v1 v2 v3 x1 x2 st σ => q_go e178_631 rfl rfl,
  fun v0 v1 v2 v3 k a2 st σ hk => q_iald e178_632 hk,
  fun v0 v1 v2 v3 x1 st σ => (q_if e178_633 rfl).trans q_eq,
  fun v0 v1 v2 v3 st σ => q_iconst e178_636 (by decide),
  fun v0 v1 v2 v3 st σ => q_goto e178_637 rfl,
  fun v0 v1 v2 v3 st σ => q_iconst e178_640 (by decide),
  fun v0 v1 v2 v3 x20 x1 x2 x3 a0 σ hc => q_invV (as := [.int x1, .int x2, .int x3]) (rest := .int x20 :: []) e178_641 o_178 bn_9_77 c_9_77 m_150 (by decide) rfl rfl (Nat.le_of_ble_eq_true rfl) (Nat.le_of_ble_eq_true rfl) hc,
  fun v0 v1 v2 v3 x1 x2 st σ => (q_cmp e178_644 rfl).trans q_eq,
  fun v0 v1 v2 v3 st σ => q_iconst e178_647 (by decide),
  fun v0 v1 v2 v3 x1 σ hx => q_zret e178_648 r_178 hx,
  fun v0 v2 v3 a1 st σ => q_go e178_649 rfl rfl,
  fun v1 v2 v3 a1 st σ => q_go e178_650 rfl rfl,
  fun v0 v1 v2 x1 st σ => q_go e178_651 rfl rfl,
  fun v0 v1 v2 v3 st σ => q_iconst e178_652 (by decide),
  fun v0 v1 v2 v3 x1 x2 st σ => q_go e178_653 rfl rfl,
  fun v0 v1 v2 v3 k a2 st σ hk => q_iald e178_654 hk,
  fun v0 v1 v2 v3 x1 a0 σ hc => q_invV (as := [.int x1]) (rest := []) e178_655 o_178 bn_9_78 c_9_78 m_73 (by decide) rfl rfl (Nat.le_of_ble_eq_true rfl) (Nat.le_of_ble_eq_true rfl) hc,
  fun v0 v1 v3 a1 st σ => q_go e178_658 rfl rfl,
  fun v1 v2 v3 a1 st σ => q_go e178_659 rfl rfl,
  fun v0 v1 v2 x1 st σ => q_go e178_660 rfl rfl,
  fun v0 v1 v2 v3 st σ => q_iconst e178_661 (by decide),
  fun v0 v1 v2 v3 x1 x2 st σ => q_go e178_662 rfl rfl,
  fun v0 v1 v2 v3 k a2 st σ hk => q_iald e178_663 hk,
  fun v0 v1 v2 v3 x20 x1 a0 σ hc => q_invV (as := [.int x1]) (rest := .int x20 :: []) e178_664 o_178 bn_9_81 c_9_81 m_153 (by decide) rfl rfl (Nat.le_of_ble_eq_true rfl) (Nat.le_of_ble_eq_true rfl) hc,
  fun v0 v1 v2 v3 x1 x2 st σ => (q_cmp e178_667 rfl).trans q_eq,
  fun v0 v1 v2 v3 st σ => q_iconst e178_670 (by decide),
  fun v0 v1 v2 v3 x1 σ hx => q_zret e178_671 r_178 hx,
  fun v0 v2 v3 a1 st σ => q_go e178_672 rfl rfl,
  fun v1 v2 v3 a1 st σ => q_go e178_673 rfl rfl,
  fun v0 v1 v2 x1 st σ => q_go e178_674 rfl rfl,
  fun v0 v1 v2 v3 st σ => q_iconst e178_675 (by decide),
  fun v0 v1 v2 v3 x1 x2 st σ => q_go e178_676 rfl rfl,
  fun v0 v1 v2 v3 k a2 st σ hk => q_iald e178_677 hk,
  fun v1 v2 v3 a1 st σ => q_go e178_678 rfl rfl,
  fun v0 v1 v2 x1 st σ => q_go e178_679 rfl rfl,
  fun v0 v1 v2 v3 st σ => q_iconst e178_680 (by decide),
  fun v0 v1 v2 v3 x1 x2 st σ => q_go e178_681 rfl rfl,
  fun v0 v1 v2 v3 k a2 st σ hk => q_iald e178_682 hk,
  fun v0 v1 v2 v3 x1 x2 a0 σ hc => q_invV (as := [.int x1, .int x2]) (rest := []) e178_683 o_178 bn_9_82 c_9_82 m_74 (by decide) rfl rfl (Nat.le_of_ble_eq_true rfl) (Nat.le_of_ble_eq_true rfl) hc,
  fun v0 v1 v3 a1 st σ => q_go e178_686 rfl rfl,
  fun v1 v2 v3 a1 st σ => q_go e178_687 rfl rfl,
  fun v0 v1 v2 x1 st σ => q_go e178_688 rfl rfl,
  fun v0 v1 v2 v3 st σ => q_iconst e178_689 (by decide),
  fun v0 v1 v2 v3 x1 x2 st σ => q_go e178_690 rfl rfl,
  fun v0 v1 v2 v3 k a2 st σ hk => q_iald e178_691 hk,
  fun v1 v2 v3 a1 st σ => q_go e178_692 rfl rfl,
  fun v0 v1 v2 x1 st σ => q_go e178_693 rfl rfl,
  fun v0 v1 v2 v3 st σ => q_iconst e178_694 (by decide),
  fun v0 v1 v2 v3 x1 x2 st σ => q_go e178_695 rfl rfl,
  fun v0 v1 v2 v3 k a2 st σ hk => q_iald e178_696 hk,
  fun v0 v1 v2 v3 x20 x1 x2 a0 σ hc => q_invV (as := [.int x1, .int x2]) (rest := .int x20 :: []) e178_697 o_178 bn_9_85 c_9_85 m_154 (by decide) rfl rfl (Nat.le_of_ble_eq_true rfl) (Nat.le_of_ble_eq_true rfl) hc,
  fun v0 v1 v2 v3 x1 x2 st σ => (q_cmp e178_700 rfl).trans q_eq,
  fun v0 v1 v2 v3 st σ => q_iconst e178_703 (by decide),
  fun v0 v1 v2 v3 x1 σ hx => q_zret e178_704 r_178 hx,
  fun v0 v2 v3 a1 st σ => q_go e178_705 rfl rfl,
  fun v1 v2 v3 a1 st σ => q_go e178_706 rfl rfl,
  fun v0 v1 v2 x1 st σ => q_go e178_707 rfl rfl,
  fun v0 v1 v2 v3 st σ => q_iconst e178_708 (by decide),
  fun v0 v1 v2 v3 x1 x2 st σ => q_go e178_709 rfl rfl,
  fun v0 v1 v2 v3 k a2 st σ hk => q_iald e178_710 hk,
  fun v0 v1 v2 v3 x1 a0 σ hc => q_invV (as := [.int x1]) (rest := []) e178_711 o_178 bn_9_86 c_9_86 m_75 (by decide) rfl rfl (Nat.le_of_ble_eq_true rfl) (Nat.le_of_ble_eq_true rfl) hc,
  fun v0 v1 v3 a1 st σ => q_go e178_714 rfl rfl,
  fun v1 v2 v3 a1 st σ => q_go e178_715 rfl rfl,
  fun v0 v1 v2 x1 st σ => q_go e178_716 rfl rfl,
  fun v0 v1 v2 v3 st σ => q_iconst e178_717 (by decide),
  fun v0 v1 v2 v3 x1 x2 st σ => q_go e178_718 rfl rfl,
  fun v0 v1 v2 v3 k a2 st σ hk => q_iald e178_719 hk,
  fun v0 v1 v2 v3 x20 x1 a0 σ hc => q_invV (as := [.int x1]) (rest := .int x20 :: []) e178_720 o_178 bn_9_89 c_9_89 m_155 (by decide) rfl rfl (Nat.le_of_ble_eq_true rfl) (Nat.le_of_ble_eq_true rfl) hc,
  fun v0 v1 v2 v3 x1 x2 st σ => (q_cmp e178_723 rfl).trans q_eq,
  fun v0 v1 v2 v3 st σ => q_iconst e178_726 (by decide),
  fun v0 v1 v2 v3 x1 σ hx => q_zret e178_727 r_178 hx,
  fun v0 v2 v3 a1 st σ => q_go e178_728 rfl rfl,
  fun v1 v2 v3 a1 st σ => q_go e178_729 rfl rfl,
  fun v0 v1 v2 x1 st σ => q_go e178_730 rfl rfl,
  fun v0 v1 v2 v3 st σ => q_iconst e178_731 (by decide),
  fun v0 v1 v2 v3 x1 x2 st σ => q_go e178_732 rfl rfl,
  fun v0 v1 v2 v3 k a2 st σ hk => q_iald e178_733 hk,
  fun v1 v2 v3 a1 st σ => q_go e178_734 rfl rfl,
  fun v0 v1 v2 x1 st σ => q_go e178_735 rfl rfl,
  fun v0 v1 v2 v3 st σ => q_iconst e178_736 (by decide),
  fun v0 v1 v2 v3 x1 x2 st σ => q_go e178_737 rfl rfl,
  fun v0 v1 v2 v3 k a2 st σ hk => q_iald e178_738 hk,
  fun v1 v2 v3 a1 st σ => q_go e178_739 rfl rfl,
  fun v0 v1 v2 x1 st σ => q_go e178_740 rfl rfl,
  fun v0 v1 v2 v3 st σ => q_iconst e178_741 (by decide),
  fun v0 v1 v2 v3 x1 x2 st σ => q_go e178_742 rfl rfl,
  fun v0 v1 v2 v3 k a2 st σ hk => q_iald e178_743 hk,
  fun v0 v1 v2 v3 x1 x2 x3 a0 σ hc => q_invV (as := [.int x1, .int x2, .int x3]) (rest := []) e178_744 o_178 bn_9_90 c_9_90 m_76 (by decide) rfl rfl (Nat.le_of_ble_eq_true rfl) (Nat.le_of_ble_eq_true rfl) hc,
  fun v0 v1 v3 a1 st σ => q_go e178_747 rfl rfl,
  fun v1 v2 v3 a1 st σ => q_go e178_748 rfl rfl,
  fun v0 v1 v2 x1 st σ => q_go e178_749 rfl rfl,
  fun v0 v1 v2 v3 st σ => q_iconst e178_750 (by decide),
  fun v0 v1 v2 v3 x1 x2 st σ => q_go e178_751 rfl rfl,
  fun v0 v1 v2 v3 k a2 st σ hk => q_iald e178_752 hk,
  fun v1 v2 v3 a1 st σ => q_go e178_753 rfl rfl,
  fun v0 v1 v2 x1 st σ => q_go e178_754 rfl rfl,
  fun v0 v1 v2 v3 st σ => q_iconst e178_755 (by decide),
  fun v0 v1 v2 v3 x1 x2 st σ => q_go e178_756 rfl rfl,
  fun v0 v1 v2 v3 k a2 st σ hk => q_iald e178_757 hk,
  fun v1 v2 v3 a1 st σ => q_go e178_758 rfl rfl,
  fun v0 v1 v2 x1 st σ => q_go e178_759 rfl rfl,
  fun v0 v1 v2 v3 st σ => q_iconst e178_760 (by decide),
  fun v0 v1 v2 v3 x1 x2 st σ => q_go e178_761 rfl rfl,
  fun v0 v1 v2 v3 k a2 st σ hk => q_iald e178_762 hk,
  fun v0 v1 v2 v3 j20 x1 x2 x3 a0 σ hc => q_invV (as := [.int x1, .int x2, .int x3]) (rest := .long j20 :: []) e178_763 o_178 bn_9_94 c_9_94 m_157 (by decide) rfl rfl (Nat.le_of_ble_eq_true rfl) (Nat.le_of_ble_eq_true rfl) hc,
  fun v0 v1 v2 v3 j1 j2 st σ => q_go e178_766 rfl rfl,
  fun v0 v1 v2 v3 x1 st σ => (q_if e178_767 rfl).trans q_eq,
  fun v0 v1 v2 v3 st σ => q_iconst e178_770 (by decide),
  fun v0 v1 v2 v3 x1 σ hx => q_zret e178_771 r_178 hx,
  fun v0 v2 v3 a1 st σ => q_go e178_772 rfl rfl,
  fun v1 v2 v3 a1 st σ => q_go e178_773 rfl rfl,
  fun v0 v1 v2 x1 st σ => q_go e178_774 rfl rfl,
  fun v0 v1 v2 v3 st σ => q_iconst e178_775 (by decide),
  fun v0 v1 v2 v3 x1 x2 st σ => q_go e178_776 rfl rfl,
  fun v0 v1 v2 v3 k a2 st σ hk => q_iald e178_777 hk,
  fun v0 v1 v2 v3 x1 a0 σ hc => q_invV (as := [.int x1]) (rest := []) e178_778 o_178 bn_9_95 c_9_95 m_77 (by decide) rfl rfl (Nat.le_of_ble_eq_true rfl) (Nat.le_of_ble_eq_true rfl) hc,
  fun v0 v1 v3 a1 st σ => q_go e178_781 rfl rfl,
  fun v1 v2 v3 a1 st σ => q_go e178_782 rfl rfl,
  fun v0 v1 v2 x1 st σ => q_go e178_783 rfl rfl,
  fun v0 v1 v2 v3 st σ => q_iconst e178_784 (by decide),
  fun v0 v1 v2 v3 x1 x2 st σ => q_go e178_785 rfl rfl,
  fun v0 v1 v2 v3 k a2 st σ hk => q_iald e178_786 hk,
  fun v0 v1 v2 v3 j20 x1 a0 σ hc => q_invV (as := [.int x1]) (rest := .long j20 :: []) e178_787 o_178 bn_9_99 c_9_99 m_158 (by decide) rfl rfl (Nat.le_of_ble_eq_true rfl) (Nat.le_of_ble_eq_true rfl) hc,
  fun v0 v1 v2 v3 j1 j2 st σ => q_go e178_790 rfl rfl,
  fun v0 v1 v2 v3 x1 st σ => (q_if e178_791 rfl).trans q_eq,
  fun v0 v1 v2 v3 st σ => q_iconst e178_794 (by decide),
  fun v0 v1 v2 v3 x1 σ hx => q_zret e178_795 r_178 hx,
  fun v0 v2 v3 a1 st σ => q_go e178_796 rfl rfl,
  fun v1 v2 v3 a1 st σ => q_go e178_797 rfl rfl,
  fun v0 v1 v2 x1 st σ => q_go e178_798 rfl rfl,
  fun v0 v1 v2 v3 st σ => q_iconst e178_799 (by decide),
  fun v0 v1 v2 v3 x1 x2 st σ => q_go e178_800 rfl rfl,
  fun v0 v1 v2 v3 k a2 st σ hk => q_iald e178_801 hk,
  fun v1 v2 v3 a1 st σ => q_go e178_802 rfl rfl,
  fun v0 v1 v2 x1 st σ => q_go e178_803 rfl rfl,
  fun v0 v1 v2 v3 st σ => q_iconst e178_804 (by decide),
  fun v0 v1 v2 v3 x1 x2 st σ => q_go e178_805 rfl rfl,
  fun v0 v1 v2 v3 k a2 st σ hk => q_iald e178_806 hk,
  fun v0 v1 v2 v3 x1 x2 a0 σ hc => q_invV (as := [.int x1, .int x2]) (rest := []) e178_807 o_178 bn_9_100 c_9_100 m_78 (by decide) rfl rfl (Nat.le_of_ble_eq_true rfl) (Nat.le_of_ble_eq_true rfl) hc,
  fun v0 v1 v3 a1 st σ => q_go e178_810 rfl rfl,
  fun v1 v2 v3 a1 st σ => q_go e178_811 rfl rfl,
  fun v0 v1 v2 x1 st σ => q_go e178_812 rfl rfl,
  fun v0 v1 v2 v3 st σ => q_iconst e178_813 (by decide),
  fun v0 v1 v2 v3 x1 x2 st σ => q_go e178_814 rfl rfl,
  fun v0 v1 v2 v3 k a2 st σ hk => q_iald e178_815 hk,
  fun v1 v2 v3 a1 st σ => q_go e178_816 rfl rfl,
  fun v0 v1 v2 x1 st σ => q_go e178_817 rfl rfl,
  fun v0 v1 v2 v3 st σ => q_iconst e178_818 (by decide),
  fun v0 v1 v2 v3 x1 x2 st σ => q_go e178_819 rfl rfl,
  fun v0 v1 v2 v3 k a2 st σ hk => q_iald e178_820 hk,
  fun v0 v1 v2 v3 x20 x1 x2 a0 σ hc => q_invV (as := [.int x1, .int x2]) (rest := .int x20 :: []) e178_821 o_178 bn_9_103 c_9_103 m_159 (by decide) rfl rfl (Nat.le_of_ble_eq_true rfl) (Nat.le_of_ble_eq_true rfl) hc,
  fun v0 v1 v2 v3 x1 x2 st σ => (q_cmp e178_824 rfl).trans q_eq,
  fun v0 v1 v2 v3 st σ => q_iconst e178_827 (by decide),
  fun v0 v1 v2 v3 x1 σ hx => q_zret e178_828 r_178 hx,
  fun v0 v2 v3 a1 st σ => q_go e178_829 rfl rfl,
  fun v1 v2 v3 a1 st σ => q_go e178_830 rfl rfl,
  fun v0 v1 v2 x1 st σ => q_go e178_831 rfl rfl,
  fun v0 v1 v2 v3 st σ => q_iconst e178_832 (by decide),
  fun v0 v1 v2 v3 x1 x2 st σ => q_go e178_833 rfl rfl,
  fun v0 v1 v2 v3 k a2 st σ hk => q_iald e178_834 hk,
  fun v0 v1 v2 v3 x1 a0 σ hc => q_invV (as := [.int x1]) (rest := []) e178_835 o_178 bn_9_104 c_9_104 m_79 (by decide) rfl rfl (Nat.le_of_ble_eq_true rfl) (Nat.le_of_ble_eq_true rfl) hc,
  fun v0 v1 v3 a1 st σ => q_go e178_838 rfl rfl,
  fun v1 v2 v3 a1 st σ => q_go e178_839 rfl rfl,
  fun v0 v1 v2 x1 st σ => q_go e178_840 rfl rfl,
  fun v0 v1 v2 v3 st σ => q_iconst e178_841 (by decide),
  fun v0 v1 v2 v3 x1 x2 st σ => q_go e178_842 rfl rfl,
  fun v0 v1 v2 v3 k a2 st σ hk => q_iald e178_843 hk,
  fun v0 v1 v2 v3 x20 x1 a0 σ hc => q_invV (as := [.int x1]) (rest := .int x20 :: []) e178_844 o_178 bn_9_107 c_9_107 m_161 (by decide) rfl rfl (Nat.le_of_ble_eq_true rfl) (Nat.le_of_ble_eq_true rfl) hc,
  fun v0 v1 v2 v3 x1 x2 st σ => (q_cmp e178_847 rfl).trans q_eq,
  fun v0 v1 v2 v3 st σ => q_iconst e178_850 (by decide),
  fun v0 v1 v2 v3 x1 σ hx => q_zret e178_851 r_178 hx,
  fun v0 v2 v3 a1 st σ => q_go e178_852 rfl rfl,
  fun v1 v2 v3 a1 st σ => q_go e178_853 rfl rfl,
  fun v0 v1 v2 x1 st σ => q_go e178_854 rfl rfl,
  fun v0 v1 v2 v3 st σ => q_iconst e178_855 (by decide),
  fun v0 v1 v2 v3 x1 x2 st σ => q_go e178_856 rfl rfl,
  fun v0 v1 v2 v3 k a2 st σ hk => q_iald e178_857 hk,
  fun v1 v2 v3 a1 st σ => q_go e178_858 rfl rfl,
  fun v0 v1 v2 x1 st σ => q_go e178_859 rfl rfl,
  fun v0 v1 v2 v3 st σ => q_iconst e178_860 (by decide),
  fun v0 v1 v2 v3 x1 x2 st σ => q_go e178_861 rfl rfl,
  fun v0 v1 v2 v3 k a2 st σ hk => q_iald e178_862 hk,
  fun v0 v1 v2 v3 x1 x2 a0 σ hc => q_invV (as := [.int x1, .int x2]) (rest := []) e178_863 o_178 bn_9_108 c_9_108 m_80 (by decide) rfl rfl (Nat.le_of_ble_eq_true rfl) (Nat.le_of_ble_eq_true rfl) hc,
  fun v0 v1 v3 a1 st σ => q_go e178_866 rfl rfl,
  fun v1 v2 v3 a1 st σ => q_go e178_867 rfl rfl,
  fun v0 v1 v2 x1 st σ => q_go e178_868 rfl rfl,
  fun v0 v1 v2 v3 st σ => q_iconst e178_869 (by decide),
  fun v0 v1 v2 v3 x1 x2 st σ => q_go e178_870 rfl rfl,
  fun v0 v1 v2 v3 k a2 st σ hk => q_iald e178_871 hk,
  fun v1 v2 v3 a1 st σ => q_go e178_872 rfl rfl,
  fun v0 v1 v2 x1 st σ => q_go e178_873 rfl rfl,
  fun v0 v1 v2 v3 st σ => q_iconst e178_874 (by decide),
  fun v0 v1 v2 v3 x1 x2 st σ => q_go e178_875 rfl rfl,
  fun v0 v1 v2 v3 k a2 st σ hk => q_iald e178_876 hk,
  fun v0 v1 v2 v3 x20 x1 x2 a0 σ hc => q_invV (as := [.int x1, .int x2]) (rest := .int x20 :: []) e178_877 o_178 bn_9_111 c_9_111 m_162 (by decide) rfl rfl (Nat.le_of_ble_eq_true rfl) (Nat.le_of_ble_eq_true rfl) hc,
  fun v0 v1 v2 v3 x1 x2 st σ => (q_cmp e178_880 rfl).trans q_eq,
  fun v0 v1 v2 v3 st σ => q_iconst e178_883 (by decide),
  fun v0 v1 v2 v3 x1 σ hx => q_zret e178_884 r_178 hx,
  fun v0 v2 v3 a1 st σ => q_go e178_885 rfl rfl,
  fun v0 v1 v2 v3 a0 σ hc => q_invV (as := []) (rest := []) e178_886 o_178 bn_9_112 c_9_112 m_81 (by decide) rfl rfl (Nat.le_of_ble_eq_true rfl) (Nat.le_of_ble_eq_true rfl) hc,
  fun v0 v1 v3 a1 st σ => q_go e178_889 rfl rfl,
  fun v0 v1 v2 v3 x20 a0 σ hc => q_invV (as := []) (rest := .int x20 :: []) e178_890 o_178 bn_9_115 c_9_115 m_163 (by decide) rfl rfl (Nat.le_of_ble_eq_true rfl) (Nat.le_of_ble_eq_true rfl) hc,
  fun v0 v1 v2 v3 x1 x2 st σ => (q_cmp e178_893 rfl).trans q_eq,
  fun v0 v1 v2 v3 st σ => q_iconst e178_896 (by decide),
  fun v0 v1 v2 v3 x1 σ hx => q_zret e178_897 r_178 hx,
  fun v0 v2 v3 a1 st σ => q_go e178_898 rfl rfl,
  fun v1 v2 v3 a1 st σ => q_go e178_899 rfl rfl,
  fun v0 v1 v2 x1 st σ => q_go e178_900 rfl rfl,
  fun v0 v1 v2 v3 st σ => q_iconst e178_901 (by decide),
  fun v0 v1 v2 v3 x1 x2 st σ => q_go e178_902 rfl rfl,
  fun v0 v1 v2 v3 k a2 st σ hk => q_iald e178_903 hk,
  fun v1 v2 v3 a1 st σ => q_go e178_904 rfl rfl,
  fun v0 v1 v2 x1 st σ => q_go e178_905 rfl rfl,
  fun v0 v1 v2 v3 st σ => q_iconst e178_906 (by decide),
  fun v0 v1 v2 v3 x1 x2 st σ => q_go e178_907 rfl rfl,
  fun v0 v1 v2 v3 k a2 st σ hk => q_iald e178_908 hk,
  fun v1 v2 v3 a1 st σ => q_go e178_909 rfl rfl,
  fun v0 v1 v2 x1 st σ => q_go e178_910 rfl rfl,
  fun v0 v1 v2 v3 st σ => q_iconst e178_911 (by decide),
  fun v0 v1 v2 v3 x1 x2 st σ => q_go e178_912 rfl rfl,
  fun v0 v1 v2 v3 k a2 st σ hk => q_iald e178_913 hk,
  fun v0 v1 v2 v3 x1 x2 x3 a0 σ hc => q_invV (as := [.int x1, .int x2, .int x3]) (rest := []) e178_914 o_178 bn_9_116 c_9_116 m_82 (by decide) rfl rfl (Nat.le_of_ble_eq_true rfl) (Nat.le_of_ble_eq_true rfl) hc,
  fun v0 v1 v3 a1 st σ => q_go e178_917 rfl rfl,
  fun v1 v2 v3 a1 st σ => q_go e178_918 rfl rfl,
  fun v0 v1 v2 x1 st σ => q_go e178_919 rfl rfl,
  fun v0 v1 v2 v3 st σ => q_iconst e178_920 (by decide),
  fun v0 v1 v2 v3 x1 x2 st σ => q_go e178_921 rfl rfl,
  fun v0 v1 v2 v3 k a2 st σ hk => q_iald e178_922 hk,
  fun v1 v2 v3 a1 st σ => q_go e178_923 rfl rfl,
  fun v0 v1 v2 x1 st σ => q_go e178_924 rfl rfl,
  fun v0 v1 v2 v3 st σ => q_iconst e178_925 (by decide),
  fun v0 v1 v2 v3 x1 x2 st σ => q_go e178_926 rfl rfl,
  fun v0 v1 v2 v3 k a2 st σ hk => q_iald e178_927 hk,
  fun v1 v2 v3 a1 st σ => q_go e178_928 rfl rfl,
  fun v0 v1 v2 x1 st σ => q_go e178_929 rfl rfl,
  fun v0 v1 v2 v3 st σ => q_iconst e178_930 (by decide),
  fun v0 v1 v2 v3 x1 x2 st σ => q_go e178_931 rfl rfl,
  fun v0 v1 v2 v3 k a2 st σ hk => q_iald e178_932 hk,
  fun v0 v1 v2 v3 x20 x1 x2 x3 a0 σ hc => q_invV (as := [.int x1, .int x2, .int x3]) (rest := .int x20 :: []) e178_933 o_178 bn_9_119 c_9_119 m_172 (by decide) rfl rfl (Nat.le_of_ble_eq_true rfl) (Nat.le_of_ble_eq_true rfl) hc,
  fun v0 v1 v2 v3 x1 x2 st σ => (q_cmp e178_936 rfl).trans q_eq,
  fun v0 v1 v2 v3 st σ => q_iconst e178_939 (by decide),
  fun v0 v1 v2 v3 x1 σ hx => q_zret e178_940 r_178 hx,
  fun v0 v2 v3 a1 st σ => q_go e178_941 rfl rfl,
  fun v1 v2 v3 a1 st σ => q_go e178_942 rfl rfl,
  fun v0 v1 v2 x1 st σ => q_go e178_943 rfl rfl,
  fun v0 v1 v2 v3 st σ => q_iconst e178_944 (by decide),
  fun v0 v1 v2 v3 x1 x2 st σ => q_go e178_945 rfl rfl,
  fun v0 v1 v2 v3 k a2 st σ hk => q_iald e178_946 hk,
  fun v0 v1 v2 v3 x1 a0 σ hc => q_invV (as := [.int x1]) (rest := []) e178_947 o_178 bn_9_120 c_9_120 m_83 (by decide) rfl rfl (Nat.le_of_ble_eq_true rfl) (Nat.le_of_ble_eq_true rfl) hc,
  fun v0 v1 v3 a1 st σ => q_go e178_950 rfl rfl,
  fun v1 v2 v3 a1 st σ => q_go e178_951 rfl rfl,
  fun v0 v1 v2 x1 st σ => q_go e178_952 rfl rfl,
  fun v0 v1 v2 v3 st σ => q_iconst e178_953 (by decide),
  fun v0 v1 v2 v3 x1 x2 st σ => q_go e178_954 rfl rfl,
  fun v0 v1 v2 v3 k a2 st σ hk => q_iald e178_955 hk,
  fun v0 v1 v2 v3 x20 x1 a0 σ hc => q_invV (as := [.int x1]) (rest := .int x20 :: []) e178_956 o_178 bn_9_123 c_9_123 m_173 (by decide) rfl rfl (Nat.le_of_ble_eq_true rfl) (Nat.le_of_ble_eq_true rfl) hc,
  fun v0 v1 v2 v3 x1 x2 st σ => (q_cmp e178_959 rfl).trans q_eq,
  fun v0 v1 v2 v3 st σ => q_iconst e178_962 (by decide),
  fun v0 v1 v2 v3 x1 σ hx => q_zret e178_963 r_178 hx,
  fun v0 v2 v3 a1 st σ => q_go e178_964 rfl rfl,
  fun v1 v2 v3 a1 st σ => q_go e178_965 rfl rfl,
  fun v0 v1 v2 x1 st σ => q_go e178_966 rfl rfl,
  fun v0 v1 v2 v3 st σ => q_iconst e178_967 (by decide),
  fun v0 v1 v2 v3 x1 x2 st σ => q_go e178_968 rfl rfl,
  fun v0 v1 v2 v3 k a2 st σ hk => q_iald e178_969 hk,
  fun v1 v2 v3 a1 st σ => q_go e178_970 rfl rfl,
  fun v0 v1 v2 x1 st σ => q_go e178_971 rfl rfl,
  fun v0 v1 v2 v3 st σ => q_iconst e178_972 (by decide),
  fun v0 v1 v2 v3 x1 x2 st σ => q_go e178_973 rfl rfl,
  fun v0 v1 v2 v3 k a2 st σ hk => q_iald e178_974 hk,
  fun v0 v1 v2 v3 x1 x2 a0 σ hc => q_invV (as := [.int x1, .int x2]) (rest := []) e178_975 o_178 bn_9_124 c_9_124 m_84 (by decide) rfl rfl (Nat.le_of_ble_eq_true rfl) (Nat.le_of_ble_eq_true rfl) hc,
  fun v0 v1 v3 a1 st σ => q_go e178_978 rfl rfl,
  fun v1 v2 v3 a1 st σ => q_go e178_979 rfl rfl,
  fun v0 v1 v2 x1 st σ => q_go e178_980 rfl rfl,
  fun v0 v1 v2 v3 st σ => q_iconst e178_981 (by decide),
  fun v0 v1 v2 v3 x1 x2 st σ => q_go e178_982 rfl rfl,
  fun v0 v1 v2 v3 k a2 st σ hk => q_iald e178_983 hk,
  fun v1 v2 v3 a1 st σ => q_go e178_984 rfl rfl,
  fun v0 v1 v2 x1 st σ => q_go e178_985 rfl rfl,
  fun v0 v1 v2 v3 st σ => q_iconst e178_986 (by decide),
  fun v0 v1 v2 v3 x1 x2 st σ => q_go e178_987 rfl rfl,
  fun v0 v1 v2 v3 k a2 st σ hk => q_iald e178_988 hk,
  fun v0 v1 v2 v3 x20 x1 x2 a0 σ hc => q_invV (as := [.int x1, .int x2]) (rest := .int x20 :: []) e178_989 o_178 bn_9_127 c_9_127 m_174 (by decide) rfl rfl (Nat.le_of_ble_eq_true rfl) (Nat.le_of_ble_eq_true rfl) hc,
  fun v0 v1 v2 v3 x1 x2 st σ => (q_cmp e178_992 rfl).trans q_eq,
  fun v0 v1 v2 v3 st σ => q_iconst e178_995 (by decide),
  fun v0 v1 v2 v3 x1 σ hx => q_zret e178_996 r_178 hx,
  fun v0 v2 v3 a1 st σ => q_go e178_997 rfl rfl,
  fun v0 v1 v2 v3 a0 σ hc => q_invV (as := []) (rest := []) e178_998 o_178 bn_9_128 c_9_128 m_85 (by decide) rfl rfl (Nat.le_of_ble_eq_true rfl) (Nat.le_of_ble_eq_true rfl) hc,
  fun v0 v1 v3 a1 st σ => q_go e178_1001 rfl rfl,
  fun v0 v1 v2 v3 x20 a0 σ hc => q_invV (as := []) (rest := .int x20 :: []) e178_1002 o_178 bn_9_131 c_9_131 m_175 (by decide) rfl rfl (Nat.le_of_ble_eq_true rfl) (Nat.le_of_ble_eq_true rfl) hc,
  fun v0 v1 v2 v3 x1 x2 st σ => (q_cmp e178_1005 rfl).trans q_eq,
  fun v0 v1 v2 v3 st σ => q_iconst e178_1008 (by decide),
  fun v0 v1 v2 v3 x1 σ hx => q_zret e178_1009 r_178 hx,
  fun v0 v2 v3 a1 st σ => q_go e178_1010 rfl rfl,
  fun v0 v1 v2 v3 a0 σ hc => q_invV (as := []) (rest := []) e178_1011 o_178 bn_9_132 c_9_132 m_86 (by decide) rfl rfl (Nat.le_of_ble_eq_true rfl) (Nat.le_of_ble_eq_true rfl) hc,
  fun v0 v1 v3 a1 st σ => q_go e178_1014 rfl rfl,
  fun v0 v1 v2 v3 x20 a0 σ hc => q_invV (as := []) (rest := .int x20 :: []) e178_1015 o_178 bn_9_135 c_9_135 m_176 (by decide) rfl rfl (Nat.le_of_ble_eq_true rfl) (Nat.le_of_ble_eq_true rfl) hc,
  fun v0 v1 v2 v3 x1 x2 st σ => (q_cmp e178_1018 rfl).trans q_eq,
  fun v0 v1 v2 v3 st σ => q_iconst e178_1021 (by decide),
  fun v0 v1 v2 v3 x1 σ hx => q_zret e178_1022 r_178 hx,
  fun v0 v2 v3 a1 st σ => q_go e178_1023 rfl rfl,
  fun v1 v2 v3 a1 st σ => q_go e178_1024 rfl rfl,
  fun v0 v1 v2 x1 st σ => q_go e178_1025 rfl rfl,
  fun v0 v1 v2 v3 st σ => q_iconst e178_1026 (by decide),
  fun v0 v1 v2 v3 x1 x2 st σ => q_go e178_1027 rfl rfl,
  fun v0 v1 v2 v3 k a2 st σ hk => q_iald e178_1028 hk,
  fun v0 v1 v2 v3 x1 a0 σ hc => q_invV (as := [.int x1]) (rest := []) e178_1029 o_178 bn_9_136 c_9_136 m_87 (by decide) rfl rfl (Nat.le_of_ble_eq_true rfl) (Nat.le_of_ble_eq_true rfl) hc,
  fun v0 v1 v3 a1 st σ => q_go e178_1032 rfl rfl,
  fun v1 v2 v3 a1 st σ => q_go e178_1033 rfl rfl,
  fun v0 v1 v2 x1 st σ => q_go e178_1034 rfl rfl,
  fun v0 v1 v2 v3 st σ => q_iconst e178_1035 (by decide),
  fun v0 v1 v2 v3 x1 x2 st σ => q_go e178_1036 rfl rfl,
  fun v0 v1 v2 v3 k a2 st σ hk => q_iald e178_1037 hk,
  fun v0 v1 v2 v3 x20 x1 a0 σ hc => q_invV (as := [.int x1]) (rest := .int x20 :: []) e178_1038 o_178 bn_9_139 c_9_139 m_177 (by decide) rfl rfl (Nat.le_of_ble_eq_true rfl) (Nat.le_of_ble_eq_true rfl) hc,
  fun v0 v1 v2 v3 x1 x2 st σ => (q_cmp e178_1041 rfl).trans q_eq,
  fun v0 v1 v2 v3 st σ => q_iconst e178_1044 (by decide),
  fun v0 v1 v2 v3 x1 σ hx => q_zret e178_1045 r_178 hx,
  fun v0 v1 x1 a9 st σ => q_iinc e178_1046 rfl rfl (by decide),
  fun v0 v1 v2 v3 st σ => q_goto e178_1049 rfl,
  fun v0 v1 v2 v3 st σ => q_iconst e178_1052 (by decide),
  fun v0 v1 v2 v3 x1 σ hx => q_zret e178_1053 r_178 hx⟩
theorem E178 {ro : ma_RO} {d : Nat} (a1 : Nat) (sh : List ma_Sh) (σ : ma_H) : ma_ev ro d 178 [.ref a1] sh σ = ma_rn ro d 178 (0, [some (.ref a1), none, none, none], [], sh, σ) := q_ent x_178 rfl
