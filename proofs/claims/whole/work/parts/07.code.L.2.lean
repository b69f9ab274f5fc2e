/-! ===== the law, lookups ===== -/
theorem lL_law_0 (E : am_E) : tL_law E 3 = some (a_dup 4) ∧
  tL_law E 7 = some (a_astore 1 8) ∧
  tL_law E 11 = some (a_dup 12) ∧
  tL_law E 15 = some (a_astore 2 16) ∧
  tL_law E 16 = some (a_const (nI 0) 17) ∧
  tL_law E 17 = some (a_istore 3 18) ∧
  tL_law E 18 = some (a_iload 3 19) ∧
  tL_law E 19 = some (a_aload 0 20) ∧
  tL_law E 20 = some (a_slen (E.2.2.2 401) 21) ∧
  tL_law E 21 = some (a_const (nI 7) 23) ∧
  tL_law E 23 = some (a_bin (fun x y => x - y) 24) ∧
  tL_law E 24 = some (a_cmp (fun x y => y < x) 1105 27) ∧
  tL_law E 27 = some (a_aload 0 28) ∧
  tL_law E 28 = some (a_iload 3 29) ∧
  tL_law E 29 = some (a_sld (fun j => nI (E.2.2.2 (500 + j))) (E.2.2.2 401) 30) ∧
  tL_law E 30 = some (a_const (nI 31) 32) ∧
  tL_law E 32 = some (a_bin (fun x y => x &&& y) 33) ∧
  tL_law E 33 = some (a_sw [(nI 0, 164), (nI 1, 187), (nI 2, 220), (nI 3, 253), (nI 4, 286), (nI 5, 319), (nI 6, 362), (nI 7, 425), (nI 8, 448), (nI 9, 461), (nI 10, 484), (nI 11, 517), (nI 12, 560), (nI 13, 573), (nI 14, 606), (nI 15, 639), (nI 16, 672), (nI 17, 705), (nI 18, 728), (nI 19, 751), (nI 20, 774), (nI 21, 849), (nI 22, 892), (nI 23, 915), (nI 24, 948), (nI 25, 981), (nI 26, 1024), (nI 27, 1037), (nI 28, 1076)] 1099) ∧
  tL_law E 164 = some (a_aload 1 165) ∧
  tL_law E 165 = some (a_aload 0 166) ∧
  tL_law E 166 = some (a_iload 3 167) ∧
  tL_law E 167 = some (a_const (nI 1) 168) ∧
  tL_law E 168 = some (a_bin (fun x y => x + y) 169) ∧
  tL_law E 169 = some (a_sld (fun j => nI (E.2.2.2 (500 + j))) (E.2.2.2 401) 170) := ⟨rfl, rfl, rfl, rfl, rfl, rfl, rfl, rfl, rfl, rfl, rfl, rfl, rfl, rfl, rfl, rfl, rfl, rfl, rfl, rfl, rfl, rfl, rfl, rfl⟩
theorem lL_law_1 (E : am_E) : tL_law E 170 = some (a_cvI tT mX11_state 11 1 173) ∧
  tL_law E 173 = some (a_aload 2 174) ∧
  tL_law E 174 = some (a_aload 0 175) ∧
  tL_law E 175 = some (a_iload 3 176) ∧
  tL_law E 176 = some (a_const (nI 1) 177) ∧
  tL_law E 177 = some (a_bin (fun x y => x + y) 178) ∧
  tL_law E 178 = some (a_sld (fun j => nI (E.2.2.2 (500 + j))) (E.2.2.2 401) 179) ∧
  tL_law E 179 = some (a_cvI tT mX12_state 12 1 182) ∧
  tL_law E 182 = some (a_cmp (fun x y => x = y) 1099 185) ∧
  tL_law E 185 = some (a_const (nI 0) 186) ∧
  tL_law E 186 = some (a_zret) ∧
  tL_law E 187 = some (a_aload 1 188) ∧
  tL_law E 188 = some (a_aload 0 189) ∧
  tL_law E 189 = some (a_iload 3 190) ∧
  tL_law E 190 = some (a_const (nI 1) 191) ∧
  tL_law E 191 = some (a_bin (fun x y => x + y) 192) ∧
  tL_law E 192 = some (a_sld (fun j => nI (E.2.2.2 (500 + j))) (E.2.2.2 401) 193) ∧
  tL_law E 193 = some (a_aload 0 194) ∧
  tL_law E 194 = some (a_iload 3 195) ∧
  tL_law E 195 = some (a_const (nI 2) 196) ∧
  tL_law E 196 = some (a_bin (fun x y => x + y) 197) ∧
  tL_law E 197 = some (a_sld (fun j => nI (E.2.2.2 (500 + j))) (E.2.2.2 401) 198) ∧
  tL_law E 198 = some (a_cvI tT mX11_name 11 2 201) ∧
  tL_law E 201 = some (a_aload 2 202) := ⟨rfl, rfl, rfl, rfl, rfl, rfl, rfl, rfl, rfl, rfl, rfl, rfl, rfl, rfl, rfl, rfl, rfl, rfl, rfl, rfl, rfl, rfl, rfl, rfl⟩
theorem lL_law_2 (E : am_E) : tL_law E 202 = some (a_aload 0 203) ∧
  tL_law E 203 = some (a_iload 3 204) ∧
  tL_law E 204 = some (a_const (nI 1) 205) ∧
  tL_law E 205 = some (a_bin (fun x y => x + y) 206) ∧
  tL_law E 206 = some (a_sld (fun j => nI (E.2.2.2 (500 + j))) (E.2.2.2 401) 207) ∧
  tL_law E 207 = some (a_aload 0 208) ∧
  tL_law E 208 = some (a_iload 3 209) ∧
  tL_law E 209 = some (a_const (nI 2) 210) ∧
  tL_law E 210 = some (a_bin (fun x y => x + y) 211) ∧
  tL_law E 211 = some (a_sld (fun j => nI (E.2.2.2 (500 + j))) (E.2.2.2 401) 212) ∧
  tL_law E 212 = some (a_cvI tT mX12_name 12 2 215) ∧
  tL_law E 215 = some (a_cmp (fun x y => x = y) 1099 218) ∧
  tL_law E 218 = some (a_const (nI 0) 219) ∧
  tL_law E 219 = some (a_zret) ∧
  tL_law E 220 = some (a_aload 1 221) ∧
  tL_law E 221 = some (a_aload 0 222) ∧
  tL_law E 222 = some (a_iload 3 223) ∧
  tL_law E 223 = some (a_const (nI 1) 224) ∧
  tL_law E 224 = some (a_bin (fun x y => x + y) 225) ∧
  tL_law E 225 = some (a_sld (fun j => nI (E.2.2.2 (500 + j))) (E.2.2.2 401) 226) ∧
  tL_law E 226 = some (a_aload 0 227) ∧
  tL_law E 227 = some (a_iload 3 228) ∧
  tL_law E 228 = some (a_const (nI 2) 229) ∧
  tL_law E 229 = some (a_bin (fun x y => x + y) 230) := ⟨rfl, rfl, rfl, rfl, rfl, rfl, rfl, rfl, rfl, rfl, rfl, rfl, rfl, rfl, rfl, rfl, rfl, rfl, rfl, rfl, rfl, rfl, rfl, rfl⟩
theorem lL_law_3 (E : am_E) : tL_law E 230 = some (a_sld (fun j => nI (E.2.2.2 (500 + j))) (E.2.2.2 401) 231) ∧
  tL_law E 231 = some (a_cvI tT mX11_person 11 2 234) ∧
  tL_law E 234 = some (a_aload 2 235) ∧
  tL_law E 235 = some (a_aload 0 236) ∧
  tL_law E 236 = some (a_iload 3 237) ∧
  tL_law E 237 = some (a_const (nI 1) 238) ∧
  tL_law E 238 = some (a_bin (fun x y => x + y) 239) ∧
  tL_law E 239 = some (a_sld (fun j => nI (E.2.2.2 (500 + j))) (E.2.2.2 401) 240) ∧
  tL_law E 240 = some (a_aload 0 241) ∧
  tL_law E 241 = some (a_iload 3 242) ∧
  tL_law E 242 = some (a_const (nI 2) 243) ∧
  tL_law E 243 = some (a_bin (fun x y => x + y) 244) ∧
  tL_law E 244 = some (a_sld (fun j => nI (E.2.2.2 (500 + j))) (E.2.2.2 401) 245) ∧
  tL_law E 245 = some (a_cvI tT mX12_person 12 2 248) ∧
  tL_law E 248 = some (a_cmp (fun x y => x = y) 1099 251) ∧
  tL_law E 251 = some (a_const (nI 0) 252) ∧
  tL_law E 252 = some (a_zret) ∧
  tL_law E 253 = some (a_aload 1 254) ∧
  tL_law E 254 = some (a_aload 0 255) ∧
  tL_law E 255 = some (a_iload 3 256) ∧
  tL_law E 256 = some (a_const (nI 1) 257) ∧
  tL_law E 257 = some (a_bin (fun x y => x + y) 258) ∧
  tL_law E 258 = some (a_sld (fun j => nI (E.2.2.2 (500 + j))) (E.2.2.2 401) 259) ∧
  tL_law E 259 = some (a_aload 0 260) := ⟨rfl, rfl, rfl, rfl, rfl, rfl, rfl, rfl, rfl, rfl, rfl, rfl, rfl, rfl, rfl, rfl, rfl, rfl, rfl, rfl, rfl, rfl, rfl, rfl⟩
theorem lL_law_4 (E : am_E) : tL_law E 260 = some (a_iload 3 261) ∧
  tL_law E 261 = some (a_const (nI 2) 262) ∧
  tL_law E 262 = some (a_bin (fun x y => x + y) 263) ∧
  tL_law E 263 = some (a_sld (fun j => nI (E.2.2.2 (500 + j))) (E.2.2.2 401) 264) ∧
  tL_law E 264 = some (a_cvI tT mX11_bridge 11 2 267) ∧
  tL_law E 267 = some (a_aload 2 268) ∧
  tL_law E 268 = some (a_aload 0 269) ∧
  tL_law E 269 = some (a_iload 3 270) ∧
  tL_law E 270 = some (a_const (nI 1) 271) ∧
  tL_law E 271 = some (a_bin (fun x y => x + y) 272) ∧
  tL_law E 272 = some (a_sld (fun j => nI (E.2.2.2 (500 + j))) (E.2.2.2 401) 273) ∧
  tL_law E 273 = some (a_aload 0 274) ∧
  tL_law E 274 = some (a_iload 3 275) ∧
  tL_law E 275 = some (a_const (nI 2) 276) ∧
  tL_law E 276 = some (a_bin (fun x y => x + y) 277) ∧
  tL_law E 277 = some (a_sld (fun j => nI (E.2.2.2 (500 + j))) (E.2.2.2 401) 278) ∧
  tL_law E 278 = some (a_cvI tT mX12_bridge 12 2 281) ∧
  tL_law E 281 = some (a_cmp (fun x y => x = y) 1099 284) ∧
  tL_law E 284 = some (a_const (nI 0) 285) ∧
  tL_law E 285 = some (a_zret) ∧
  tL_law E 286 = some (a_aload 1 287) ∧
  tL_law E 287 = some (a_aload 0 288) ∧
  tL_law E 288 = some (a_iload 3 289) ∧
  tL_law E 289 = some (a_const (nI 1) 290) := ⟨rfl, rfl, rfl, rfl, rfl, rfl, rfl, rfl, rfl, rfl, rfl, rfl, rfl, rfl, rfl, rfl, rfl, rfl, rfl, rfl, rfl, rfl, rfl, rfl⟩
theorem lL_law_5 (E : am_E) : tL_law E 290 = some (a_bin (fun x y => x + y) 291) ∧
  tL_law E 291 = some (a_sld (fun j => nI (E.2.2.2 (500 + j))) (E.2.2.2 401) 292) ∧
  tL_law E 292 = some (a_aload 0 293) ∧
  tL_law E 293 = some (a_iload 3 294) ∧
  tL_law E 294 = some (a_const (nI 2) 295) ∧
  tL_law E 295 = some (a_bin (fun x y => x + y) 296) ∧
  tL_law E 296 = some (a_sld (fun j => nI (E.2.2.2 (500 + j))) (E.2.2.2 401) 297) ∧
  tL_law E 297 = some (a_cvI tT mX11_christen 11 2 300) ∧
  tL_law E 300 = some (a_aload 2 301) ∧
  tL_law E 301 = some (a_aload 0 302) ∧
  tL_law E 302 = some (a_iload 3 303) ∧
  tL_law E 303 = some (a_const (nI 1) 304) ∧
  tL_law E 304 = some (a_bin (fun x y => x + y) 305) ∧
  tL_law E 305 = some (a_sld (fun j => nI (E.2.2.2 (500 + j))) (E.2.2.2 401) 306) ∧
  tL_law E 306 = some (a_aload 0 307) ∧
  tL_law E 307 = some (a_iload 3 308) ∧
  tL_law E 308 = some (a_const (nI 2) 309) ∧
  tL_law E 309 = some (a_bin (fun x y => x + y) 310) ∧
  tL_law E 310 = some (a_sld (fun j => nI (E.2.2.2 (500 + j))) (E.2.2.2 401) 311) ∧
  tL_law E 311 = some (a_cvI tT mX12_christen 12 2 314) ∧
  tL_law E 314 = some (a_cmp (fun x y => x = y) 1099 317) ∧
  tL_law E 317 = some (a_const (nI 0) 318) ∧
  tL_law E 318 = some (a_zret) ∧
  tL_law E 319 = some (a_aload 1 320) := ⟨rfl, rfl, rfl, rfl, rfl, rfl, rfl, rfl, rfl, rfl, rfl, rfl, rfl, rfl, rfl, rfl, rfl, rfl, rfl, rfl, rfl, rfl, rfl, rfl⟩
theorem lL_law_6 (E : am_E) : tL_law E 320 = some (a_aload 0 321) ∧
  tL_law E 321 = some (a_iload 3 322) ∧
  tL_law E 322 = some (a_const (nI 1) 323) ∧
  tL_law E 323 = some (a_bin (fun x y => x + y) 324) ∧
  tL_law E 324 = some (a_sld (fun j => nI (E.2.2.2 (500 + j))) (E.2.2.2 401) 325) ∧
  tL_law E 325 = some (a_aload 0 326) ∧
  tL_law E 326 = some (a_iload 3 327) ∧
  tL_law E 327 = some (a_const (nI 2) 328) ∧
  tL_law E 328 = some (a_bin (fun x y => x + y) 329) ∧
  tL_law E 329 = some (a_sld (fun j => nI (E.2.2.2 (500 + j))) (E.2.2.2 401) 330) ∧
  tL_law E 330 = some (a_aload 0 331) ∧
  tL_law E 331 = some (a_iload 3 332) ∧
  tL_law E 332 = some (a_const (nI 3) 333) ∧
  tL_law E 333 = some (a_bin (fun x y => x + y) 334) ∧
  tL_law E 334 = some (a_sld (fun j => nI (E.2.2.2 (500 + j))) (E.2.2.2 401) 335) ∧
  tL_law E 335 = some (a_cvI tT mX11_set 11 3 338) ∧
  tL_law E 338 = some (a_aload 2 339) ∧
  tL_law E 339 = some (a_aload 0 340) ∧
  tL_law E 340 = some (a_iload 3 341) ∧
  tL_law E 341 = some (a_const (nI 1) 342) ∧
  tL_law E 342 = some (a_bin (fun x y => x + y) 343) ∧
  tL_law E 343 = some (a_sld (fun j => nI (E.2.2.2 (500 + j))) (E.2.2.2 401) 344) ∧
  tL_law E 344 = some (a_aload 0 345) ∧
  tL_law E 345 = some (a_iload 3 346) := ⟨rfl, rfl, rfl, rfl, rfl, rfl, rfl, rfl, rfl, rfl, rfl, rfl, rfl, rfl, rfl, rfl, rfl, rfl, rfl, rfl, rfl, rfl, rfl, rfl⟩
theorem lL_law_7 (E : am_E) : tL_law E 346 = some (a_const (nI 2) 347) ∧
  tL_law E 347 = some (a_bin (fun x y => x + y) 348) ∧
  tL_law E 348 = some (a_sld (fun j => nI (E.2.2.2 (500 + j))) (E.2.2.2 401) 349) ∧
  tL_law E 349 = some (a_aload 0 350) ∧
  tL_law E 350 = some (a_iload 3 351) ∧
  tL_law E 351 = some (a_const (nI 3) 352) ∧
  tL_law E 352 = some (a_bin (fun x y => x + y) 353) ∧
  tL_law E 353 = some (a_sld (fun j => nI (E.2.2.2 (500 + j))) (E.2.2.2 401) 354) ∧
  tL_law E 354 = some (a_cvI tT mX12_set 12 3 357) ∧
  tL_law E 357 = some (a_cmp (fun x y => x = y) 1099 360) ∧
  tL_law E 360 = some (a_const (nI 0) 361) ∧
  tL_law E 361 = some (a_zret) ∧
  tL_law E 362 = some (a_aload 1 363) ∧
  tL_law E 363 = some (a_aload 0 364) ∧
  tL_law E 364 = some (a_iload 3 365) ∧
  tL_law E 365 = some (a_const (nI 1) 366) ∧
  tL_law E 366 = some (a_bin (fun x y => x + y) 367) ∧
  tL_law E 367 = some (a_sld (fun j => nI (E.2.2.2 (500 + j))) (E.2.2.2 401) 368) ∧
  tL_law E 368 = some (a_aload 0 369) ∧
  tL_law E 369 = some (a_iload 3 370) ∧
  tL_law E 370 = some (a_const (nI 2) 371) ∧
  tL_law E 371 = some (a_bin (fun x y => x + y) 372) ∧
  tL_law E 372 = some (a_sld (fun j => nI (E.2.2.2 (500 + j))) (E.2.2.2 401) 373) ∧
  tL_law E 373 = some (a_aload 0 374) := ⟨rfl, rfl, rfl, rfl, rfl, rfl, rfl, rfl, rfl, rfl, rfl, rfl, rfl, rfl, rfl, rfl, rfl, rfl, rfl, rfl, rfl, rfl, rfl, rfl⟩
theorem lL_law_8 (E : am_E) : tL_law E 374 = some (a_iload 3 375) ∧
  tL_law E 375 = some (a_const (nI 3) 376) ∧
  tL_law E 376 = some (a_bin (fun x y => x + y) 377) ∧
  tL_law E 377 = some (a_sld (fun j => nI (E.2.2.2 (500 + j))) (E.2.2.2 401) 378) ∧
  tL_law E 378 = some (a_aload 0 379) ∧
  tL_law E 379 = some (a_iload 3 380) ∧
  tL_law E 380 = some (a_const (nI 4) 381) ∧
  tL_law E 381 = some (a_bin (fun x y => x + y) 382) ∧
  tL_law E 382 = some (a_sld (fun j => nI (E.2.2.2 (500 + j))) (E.2.2.2 401) 383) ∧
  tL_law E 383 = some (a_aload 0 384) ∧
  tL_law E 384 = some (a_iload 3 385) ∧
  tL_law E 385 = some (a_const (nI 5) 386) ∧
  tL_law E 386 = some (a_bin (fun x y => x + y) 387) ∧
  tL_law E 387 = some (a_sld (fun j => nI (E.2.2.2 (500 + j))) (E.2.2.2 401) 388) ∧
  tL_law E 388 = some (a_cvI tT mX11_feed 11 5 391) ∧
  tL_law E 391 = some (a_aload 2 392) ∧
  tL_law E 392 = some (a_aload 0 393) ∧
  tL_law E 393 = some (a_iload 3 394) ∧
  tL_law E 394 = some (a_const (nI 1) 395) ∧
  tL_law E 395 = some (a_bin (fun x y => x + y) 396) ∧
  tL_law E 396 = some (a_sld (fun j => nI (E.2.2.2 (500 + j))) (E.2.2.2 401) 397) ∧
  tL_law E 397 = some (a_aload 0 398) ∧
  tL_law E 398 = some (a_iload 3 399) ∧
  tL_law E 399 = some (a_const (nI 2) 400) := ⟨rfl, rfl, rfl, rfl, rfl, rfl, rfl, rfl, rfl, rfl, rfl, rfl, rfl, rfl, rfl, rfl, rfl, rfl, rfl, rfl, rfl, rfl, rfl, rfl⟩
theorem lL_law_9 (E : am_E) : tL_law E 400 = some (a_bin (fun x y => x + y) 401) ∧
  tL_law E 401 = some (a_sld (fun j => nI (E.2.2.2 (500 + j))) (E.2.2.2 401) 402) ∧
  tL_law E 402 = some (a_aload 0 403) ∧
  tL_law E 403 = some (a_iload 3 404) ∧
  tL_law E 404 = some (a_const (nI 3) 405) ∧
  tL_law E 405 = some (a_bin (fun x y => x + y) 406) ∧
  tL_law E 406 = some (a_sld (fun j => nI (E.2.2.2 (500 + j))) (E.2.2.2 401) 407) ∧
  tL_law E 407 = some (a_aload 0 408) ∧
  tL_law E 408 = some (a_iload 3 409) ∧
  tL_law E 409 = some (a_const (nI 4) 410) ∧
  tL_law E 410 = some (a_bin (fun x y => x + y) 411) ∧
  tL_law E 411 = some (a_sld (fun j => nI (E.2.2.2 (500 + j))) (E.2.2.2 401) 412) ∧
  tL_law E 412 = some (a_aload 0 413) ∧
  tL_law E 413 = some (a_iload 3 414) ∧
  tL_law E 414 = some (a_const (nI 5) 415) ∧
  tL_law E 415 = some (a_bin (fun x y => x + y) 416) ∧
  tL_law E 416 = some (a_sld (fun j => nI (E.2.2.2 (500 + j))) (E.2.2.2 401) 417) ∧
  tL_law E 417 = some (a_cvI tT mX12_feed 12 5 420) ∧
  tL_law E 420 = some (a_cmp (fun x y => x = y) 1099 423) ∧
  tL_law E 423 = some (a_const (nI 0) 424) ∧
  tL_law E 424 = some (a_zret) ∧
  tL_law E 425 = some (a_aload 1 426) ∧
  tL_law E 426 = some (a_aload 0 427) ∧
  tL_law E 427 = some (a_iload 3 428) := ⟨rfl, rfl, rfl, rfl, rfl, rfl, rfl, rfl, rfl, rfl, rfl, rfl, rfl, rfl, rfl, rfl, rfl, rfl, rfl, rfl, rfl, rfl, rfl, rfl⟩
theorem lL_law_10 (E : am_E) : tL_law E 428 = some (a_const (nI 1) 429) ∧
  tL_law E 429 = some (a_bin (fun x y => x + y) 430) ∧
  tL_law E 430 = some (a_sld (fun j => nI (E.2.2.2 (500 + j))) (E.2.2.2 401) 431) ∧
  tL_law E 431 = some (a_cvI tT mX11_end 11 1 434) ∧
  tL_law E 434 = some (a_aload 2 435) ∧
  tL_law E 435 = some (a_aload 0 436) ∧
  tL_law E 436 = some (a_iload 3 437) ∧
  tL_law E 437 = some (a_const (nI 1) 438) ∧
  tL_law E 438 = some (a_bin (fun x y => x + y) 439) ∧
  tL_law E 439 = some (a_sld (fun j => nI (E.2.2.2 (500 + j))) (E.2.2.2 401) 440) ∧
  tL_law E 440 = some (a_cvI tT mX12_end 12 1 443) ∧
  tL_law E 443 = some (a_cmp (fun x y => x = y) 1099 446) ∧
  tL_law E 446 = some (a_const (nI 0) 447) ∧
  tL_law E 447 = some (a_zret) ∧
  tL_law E 448 = some (a_aload 1 449) ∧
  tL_law E 449 = some (a_cvI tT mX11_text 11 0 452) ∧
  tL_law E 452 = some (a_aload 2 453) ∧
  tL_law E 453 = some (a_cvI tT mX12_text 12 0 456) ∧
  tL_law E 456 = some (a_cmp (fun x y => x = y) 1099 459) ∧
  tL_law E 459 = some (a_const (nI 0) 460) ∧
  tL_law E 460 = some (a_zret) ∧
  tL_law E 461 = some (a_aload 1 462) ∧
  tL_law E 462 = some (a_aload 0 463) ∧
  tL_law E 463 = some (a_iload 3 464) := ⟨rfl, rfl, rfl, rfl, rfl, rfl, rfl, rfl, rfl, rfl, rfl, rfl, rfl, rfl, rfl, rfl, rfl, rfl, rfl, rfl, rfl, rfl, rfl, rfl⟩
theorem lL_law_11 (E : am_E) : tL_law E 464 = some (a_const (nI 1) 465) ∧
  tL_law E 465 = some (a_bin (fun x y => x + y) 466) ∧
  tL_law E 466 = some (a_sld (fun j => nI (E.2.2.2 (500 + j))) (E.2.2.2 401) 467) ∧
  tL_law E 467 = some (a_cvI tT mX11_fault 11 1 470) ∧
  tL_law E 470 = some (a_aload 2 471) ∧
  tL_law E 471 = some (a_aload 0 472) ∧
  tL_law E 472 = some (a_iload 3 473) ∧
  tL_law E 473 = some (a_const (nI 1) 474) ∧
  tL_law E 474 = some (a_bin (fun x y => x + y) 475) ∧
  tL_law E 475 = some (a_sld (fun j => nI (E.2.2.2 (500 + j))) (E.2.2.2 401) 476) ∧
  tL_law E 476 = some (a_cvI tT mX12_fault 12 1 479) ∧
  tL_law E 479 = some (a_cmp (fun x y => x = y) 1099 482) ∧
  tL_law E 482 = some (a_const (nI 0) 483) ∧
  tL_law E 483 = some (a_zret) ∧
  tL_law E 484 = some (a_aload 1 485) ∧
  tL_law E 485 = some (a_aload 0 486) ∧
  tL_law E 486 = some (a_iload 3 487) ∧
  tL_law E 487 = some (a_const (nI 1) 488) ∧
  tL_law E 488 = some (a_bin (fun x y => x + y) 489) ∧
  tL_law E 489 = some (a_sld (fun j => nI (E.2.2.2 (500 + j))) (E.2.2.2 401) 490) ∧
  tL_law E 490 = some (a_aload 0 491) ∧
  tL_law E 491 = some (a_iload 3 492) ∧
  tL_law E 492 = some (a_const (nI 2) 493) ∧
  tL_law E 493 = some (a_bin (fun x y => x + y) 494) := ⟨rfl, rfl, rfl, rfl, rfl, rfl, rfl, rfl, rfl, rfl, rfl, rfl, rfl, rfl, rfl, rfl, rfl, rfl, rfl, rfl, rfl, rfl, rfl, rfl⟩
theorem lL_law_12 (E : am_E) : tL_law E 494 = some (a_sld (fun j => nI (E.2.2.2 (500 + j))) (E.2.2.2 401) 495) ∧
  tL_law E 495 = some (a_cvI tT mX11_cross 11 2 498) ∧
  tL_law E 498 = some (a_aload 2 499) ∧
  tL_law E 499 = some (a_aload 0 500) ∧
  tL_law E 500 = some (a_iload 3 501) ∧
  tL_law E 501 = some (a_const (nI 1) 502) ∧
  tL_law E 502 = some (a_bin (fun x y => x + y) 503) ∧
  tL_law E 503 = some (a_sld (fun j => nI (E.2.2.2 (500 + j))) (E.2.2.2 401) 504) ∧
  tL_law E 504 = some (a_aload 0 505) ∧
  tL_law E 505 = some (a_iload 3 506) ∧
  tL_law E 506 = some (a_const (nI 2) 507) ∧
  tL_law E 507 = some (a_bin (fun x y => x + y) 508) ∧
  tL_law E 508 = some (a_sld (fun j => nI (E.2.2.2 (500 + j))) (E.2.2.2 401) 509) ∧
  tL_law E 509 = some (a_cvI tT mX12_cross 12 2 512) ∧
  tL_law E 512 = some (a_cmp (fun x y => x = y) 1099 515) ∧
  tL_law E 515 = some (a_const (nI 0) 516) ∧
  tL_law E 516 = some (a_zret) ∧
  tL_law E 517 = some (a_aload 1 518) ∧
  tL_law E 518 = some (a_aload 0 519) ∧
  tL_law E 519 = some (a_iload 3 520) ∧
  tL_law E 520 = some (a_const (nI 1) 521) ∧
  tL_law E 521 = some (a_bin (fun x y => x + y) 522) ∧
  tL_law E 522 = some (a_sld (fun j => nI (E.2.2.2 (500 + j))) (E.2.2.2 401) 523) ∧
  tL_law E 523 = some (a_aload 0 524) := ⟨rfl, rfl, rfl, rfl, rfl, rfl, rfl, rfl, rfl, rfl, rfl, rfl, rfl, rfl, rfl, rfl, rfl, rfl, rfl, rfl, rfl, rfl, rfl, rfl⟩
theorem lL_law_13 (E : am_E) : tL_law E 524 = some (a_iload 3 525) ∧
  tL_law E 525 = some (a_const (nI 2) 526) ∧
  tL_law E 526 = some (a_bin (fun x y => x + y) 527) ∧
  tL_law E 527 = some (a_sld (fun j => nI (E.2.2.2 (500 + j))) (E.2.2.2 401) 528) ∧
  tL_law E 528 = some (a_aload 0 529) ∧
  tL_law E 529 = some (a_iload 3 530) ∧
  tL_law E 530 = some (a_const (nI 3) 531) ∧
  tL_law E 531 = some (a_bin (fun x y => x + y) 532) ∧
  tL_law E 532 = some (a_sld (fun j => nI (E.2.2.2 (500 + j))) (E.2.2.2 401) 533) ∧
  tL_law E 533 = some (a_cvI tT mX11_take 11 3 536) ∧
  tL_law E 536 = some (a_aload 2 537) ∧
  tL_law E 537 = some (a_aload 0 538) ∧
  tL_law E 538 = some (a_iload 3 539) ∧
  tL_law E 539 = some (a_const (nI 1) 540) ∧
  tL_law E 540 = some (a_bin (fun x y => x + y) 541) ∧
  tL_law E 541 = some (a_sld (fun j => nI (E.2.2.2 (500 + j))) (E.2.2.2 401) 542) ∧
  tL_law E 542 = some (a_aload 0 543) ∧
  tL_law E 543 = some (a_iload 3 544) ∧
  tL_law E 544 = some (a_const (nI 2) 545) ∧
  tL_law E 545 = some (a_bin (fun x y => x + y) 546) ∧
  tL_law E 546 = some (a_sld (fun j => nI (E.2.2.2 (500 + j))) (E.2.2.2 401) 547) ∧
  tL_law E 547 = some (a_aload 0 548) ∧
  tL_law E 548 = some (a_iload 3 549) ∧
  tL_law E 549 = some (a_const (nI 3) 550) := ⟨rfl, rfl, rfl, rfl, rfl, rfl, rfl, rfl, rfl, rfl, rfl, rfl, rfl, rfl, rfl, rfl, rfl, rfl, rfl, rfl, rfl, rfl, rfl, rfl⟩
theorem lL_law_14 (E : am_E) : tL_law E 550 = some (a_bin (fun x y => x + y) 551) ∧
  tL_law E 551 = some (a_sld (fun j => nI (E.2.2.2 (500 + j))) (E.2.2.2 401) 552) ∧
  tL_law E 552 = some (a_cvI tT mX12_take 12 3 555) ∧
  tL_law E 555 = some (a_cmp (fun x y => x = y) 1099 558) ∧
  tL_law E 558 = some (a_const (nI 0) 559) ∧
  tL_law E 559 = some (a_zret) ∧
  tL_law E 560 = some (a_aload 1 561) ∧
  tL_law E 561 = some (a_cvI tT mX11_day 11 0 564) ∧
  tL_law E 564 = some (a_aload 2 565) ∧
  tL_law E 565 = some (a_cvI tT mX12_day 12 0 568) ∧
  tL_law E 568 = some (a_cmp (fun x y => x = y) 1099 571) ∧
  tL_law E 571 = some (a_const (nI 0) 572) ∧
  tL_law E 572 = some (a_zret) ∧
  tL_law E 573 = some (a_aload 1 574) ∧
  tL_law E 574 = some (a_aload 0 575) ∧
  tL_law E 575 = some (a_iload 3 576) ∧
  tL_law E 576 = some (a_const (nI 1) 577) ∧
  tL_law E 577 = some (a_bin (fun x y => x + y) 578) ∧
  tL_law E 578 = some (a_sld (fun j => nI (E.2.2.2 (500 + j))) (E.2.2.2 401) 579) ∧
  tL_law E 579 = some (a_aload 0 580) ∧
  tL_law E 580 = some (a_iload 3 581) ∧
  tL_law E 581 = some (a_const (nI 2) 582) ∧
  tL_law E 582 = some (a_bin (fun x y => x + y) 583) ∧
  tL_law E 583 = some (a_sld (fun j => nI (E.2.2.2 (500 + j))) (E.2.2.2 401) 584) := ⟨rfl, rfl, rfl, rfl, rfl, rfl, rfl, rfl, rfl, rfl, rfl, rfl, rfl, rfl, rfl, rfl, rfl, rfl, rfl, rfl, rfl, rfl, rfl, rfl⟩
theorem lL_law_15 (E : am_E) : tL_law E 584 = some (a_cvI tT mX11_of 11 2 587) ∧
  tL_law E 587 = some (a_aload 2 588) ∧
  tL_law E 588 = some (a_aload 0 589) ∧
  tL_law E 589 = some (a_iload 3 590) ∧
  tL_law E 590 = some (a_const (nI 1) 591) ∧
  tL_law E 591 = some (a_bin (fun x y => x + y) 592) ∧
  tL_law E 592 = some (a_sld (fun j => nI (E.2.2.2 (500 + j))) (E.2.2.2 401) 593) ∧
  tL_law E 593 = some (a_aload 0 594) ∧
  tL_law E 594 = some (a_iload 3 595) ∧
  tL_law E 595 = some (a_const (nI 2) 596) ∧
  tL_law E 596 = some (a_bin (fun x y => x + y) 597) ∧
  tL_law E 597 = some (a_sld (fun j => nI (E.2.2.2 (500 + j))) (E.2.2.2 401) 598) ∧
  tL_law E 598 = some (a_cvI tT mX12_of 12 2 601) ∧
  tL_law E 601 = some (a_cmp (fun x y => x = y) 1099 604) ∧
  tL_law E 604 = some (a_const (nI 0) 605) ∧
  tL_law E 605 = some (a_zret) ∧
  tL_law E 606 = some (a_aload 1 607) ∧
  tL_law E 607 = some (a_aload 0 608) ∧
  tL_law E 608 = some (a_iload 3 609) ∧
  tL_law E 609 = some (a_const (nI 1) 610) ∧
  tL_law E 610 = some (a_bin (fun x y => x + y) 611) ∧
  tL_law E 611 = some (a_sld (fun j => nI (E.2.2.2 (500 + j))) (E.2.2.2 401) 612) ∧
  tL_law E 612 = some (a_aload 0 613) ∧
  tL_law E 613 = some (a_iload 3 614) := ⟨rfl, rfl, rfl, rfl, rfl, rfl, rfl, rfl, rfl, rfl, rfl, rfl, rfl, rfl, rfl, rfl, rfl, rfl, rfl, rfl, rfl, rfl, rfl, rfl⟩
theorem lL_law_16 (E : am_E) : tL_law E 614 = some (a_const (nI 2) 615) ∧
  tL_law E 615 = some (a_bin (fun x y => x + y) 616) ∧
  tL_law E 616 = some (a_sld (fun j => nI (E.2.2.2 (500 + j))) (E.2.2.2 401) 617) ∧
  tL_law E 617 = some (a_cvI tT mX11_kept 11 2 620) ∧
  tL_law E 620 = some (a_aload 2 621) ∧
  tL_law E 621 = some (a_aload 0 622) ∧
  tL_law E 622 = some (a_iload 3 623) ∧
  tL_law E 623 = some (a_const (nI 1) 624) ∧
  tL_law E 624 = some (a_bin (fun x y => x + y) 625) ∧
  tL_law E 625 = some (a_sld (fun j => nI (E.2.2.2 (500 + j))) (E.2.2.2 401) 626) ∧
  tL_law E 626 = some (a_aload 0 627) ∧
  tL_law E 627 = some (a_iload 3 628) ∧
  tL_law E 628 = some (a_const (nI 2) 629) ∧
  tL_law E 629 = some (a_bin (fun x y => x + y) 630) ∧
  tL_law E 630 = some (a_sld (fun j => nI (E.2.2.2 (500 + j))) (E.2.2.2 401) 631) ∧
  tL_law E 631 = some (a_cvI tT mX12_kept 12 2 634) ∧
  tL_law E 634 = some (a_cmp (fun x y => x = y) 1099 637) ∧
  tL_law E 637 = some (a_const (nI 0) 638) ∧
  tL_law E 638 = some (a_zret) ∧
  tL_law E 639 = some (a_aload 1 640) ∧
  tL_law E 640 = some (a_aload 0 641) ∧
  tL_law E 641 = some (a_iload 3 642) ∧
  tL_law E 642 = some (a_const (nI 1) 643) ∧
  tL_law E 643 = some (a_bin (fun x y => x + y) 644) := ⟨rfl, rfl, rfl, rfl, rfl, rfl, rfl, rfl, rfl, rfl, rfl, rfl, rfl, rfl, rfl, rfl, rfl, rfl, rfl, rfl, rfl, rfl, rfl, rfl⟩
theorem lL_law_17 (E : am_E) : tL_law E 644 = some (a_sld (fun j => nI (E.2.2.2 (500 + j))) (E.2.2.2 401) 645) ∧
  tL_law E 645 = some (a_aload 0 646) ∧
  tL_law E 646 = some (a_iload 3 647) ∧
  tL_law E 647 = some (a_const (nI 2) 648) ∧
  tL_law E 648 = some (a_bin (fun x y => x + y) 649) ∧
  tL_law E 649 = some (a_sld (fun j => nI (E.2.2.2 (500 + j))) (E.2.2.2 401) 650) ∧
  tL_law E 650 = some (a_cvI tT mX11_book 11 2 653) ∧
  tL_law E 653 = some (a_aload 2 654) ∧
  tL_law E 654 = some (a_aload 0 655) ∧
  tL_law E 655 = some (a_iload 3 656) ∧
  tL_law E 656 = some (a_const (nI 1) 657) ∧
  tL_law E 657 = some (a_bin (fun x y => x + y) 658) ∧
  tL_law E 658 = some (a_sld (fun j => nI (E.2.2.2 (500 + j))) (E.2.2.2 401) 659) ∧
  tL_law E 659 = some (a_aload 0 660) ∧
  tL_law E 660 = some (a_iload 3 661) ∧
  tL_law E 661 = some (a_const (nI 2) 662) ∧
  tL_law E 662 = some (a_bin (fun x y => x + y) 663) ∧
  tL_law E 663 = some (a_sld (fun j => nI (E.2.2.2 (500 + j))) (E.2.2.2 401) 664) ∧
  tL_law E 664 = some (a_cvI tT mX12_book 12 2 667) ∧
  tL_law E 667 = some (a_cmp (fun x y => x = y) 1099 670) ∧
  tL_law E 670 = some (a_const (nI 0) 671) ∧
  tL_law E 671 = some (a_zret) ∧
  tL_law E 672 = some (a_aload 1 673) ∧
  tL_law E 673 = some (a_aload 0 674) := ⟨rfl, rfl, rfl, rfl, rfl, rfl, rfl, rfl, rfl, rfl, rfl, rfl, rfl, rfl, rfl, rfl, rfl, rfl, rfl, rfl, rfl, rfl, rfl, rfl⟩
theorem lL_law_18 (E : am_E) : tL_law E 674 = some (a_iload 3 675) ∧
  tL_law E 675 = some (a_const (nI 1) 676) ∧
  tL_law E 676 = some (a_bin (fun x y => x + y) 677) ∧
  tL_law E 677 = some (a_sld (fun j => nI (E.2.2.2 (500 + j))) (E.2.2.2 401) 678) ∧
  tL_law E 678 = some (a_aload 0 679) ∧
  tL_law E 679 = some (a_iload 3 680) ∧
  tL_law E 680 = some (a_const (nI 2) 681) ∧
  tL_law E 681 = some (a_bin (fun x y => x + y) 682) ∧
  tL_law E 682 = some (a_sld (fun j => nI (E.2.2.2 (500 + j))) (E.2.2.2 401) 683) ∧
  tL_law E 683 = some (a_cvI tT mX11_called 11 2 686) ∧
  tL_law E 686 = some (a_aload 2 687) ∧
  tL_law E 687 = some (a_aload 0 688) ∧
  tL_law E 688 = some (a_iload 3 689) ∧
  tL_law E 689 = some (a_const (nI 1) 690) ∧
  tL_law E 690 = some (a_bin (fun x y => x + y) 691) ∧
  tL_law E 691 = some (a_sld (fun j => nI (E.2.2.2 (500 + j))) (E.2.2.2 401) 692) ∧
  tL_law E 692 = some (a_aload 0 693) ∧
  tL_law E 693 = some (a_iload 3 694) ∧
  tL_law E 694 = some (a_const (nI 2) 695) ∧
  tL_law E 695 = some (a_bin (fun x y => x + y) 696) ∧
  tL_law E 696 = some (a_sld (fun j => nI (E.2.2.2 (500 + j))) (E.2.2.2 401) 697) ∧
  tL_law E 697 = some (a_cvI tT mX12_called 12 2 700) ∧
  tL_law E 700 = some (a_cmp (fun x y => x = y) 1099 703) ∧
  tL_law E 703 = some (a_const (nI 0) 704) := ⟨rfl, rfl, rfl, rfl, rfl, rfl, rfl, rfl, rfl, rfl, rfl, rfl, rfl, rfl, rfl, rfl, rfl, rfl, rfl, rfl, rfl, rfl, rfl, rfl⟩
theorem lL_law_19 (E : am_E) : tL_law E 704 = some (a_zret) ∧
  tL_law E 705 = some (a_aload 1 706) ∧
  tL_law E 706 = some (a_aload 0 707) ∧
  tL_law E 707 = some (a_iload 3 708) ∧
  tL_law E 708 = some (a_const (nI 1) 709) ∧
  tL_law E 709 = some (a_bin (fun x y => x + y) 710) ∧
  tL_law E 710 = some (a_sld (fun j => nI (E.2.2.2 (500 + j))) (E.2.2.2 401) 711) ∧
  tL_law E 711 = some (a_cvI tT mX11_alone 11 1 714) ∧
  tL_law E 714 = some (a_aload 2 715) ∧
  tL_law E 715 = some (a_aload 0 716) ∧
  tL_law E 716 = some (a_iload 3 717) ∧
  tL_law E 717 = some (a_const (nI 1) 718) ∧
  tL_law E 718 = some (a_bin (fun x y => x + y) 719) ∧
  tL_law E 719 = some (a_sld (fun j => nI (E.2.2.2 (500 + j))) (E.2.2.2 401) 720) ∧
  tL_law E 720 = some (a_cvI tT mX12_alone 12 1 723) ∧
  tL_law E 723 = some (a_cmp (fun x y => x = y) 1099 726) ∧
  tL_law E 726 = some (a_const (nI 0) 727) ∧
  tL_law E 727 = some (a_zret) ∧
  tL_law E 728 = some (a_aload 1 729) ∧
  tL_law E 729 = some (a_aload 0 730) ∧
  tL_law E 730 = some (a_iload 3 731) ∧
  tL_law E 731 = some (a_const (nI 1) 732) ∧
  tL_law E 732 = some (a_bin (fun x y => x + y) 733) ∧
  tL_law E 733 = some (a_sld (fun j => nI (E.2.2.2 (500 + j))) (E.2.2.2 401) 734) := ⟨rfl, rfl, rfl, rfl, rfl, rfl, rfl, rfl, rfl, rfl, rfl, rfl, rfl, rfl, rfl, rfl, rfl, rfl, rfl, rfl, rfl, rfl, rfl, rfl⟩
theorem lL_law_20 (E : am_E) : tL_law E 734 = some (a_cvI tT mX11_cousins 11 1 737) ∧
  tL_law E 737 = some (a_aload 2 738) ∧
  tL_law E 738 = some (a_aload 0 739) ∧
  tL_law E 739 = some (a_iload 3 740) ∧
  tL_law E 740 = some (a_const (nI 1) 741) ∧
  tL_law E 741 = some (a_bin (fun x y => x + y) 742) ∧
  tL_law E 742 = some (a_sld (fun j => nI (E.2.2.2 (500 + j))) (E.2.2.2 401) 743) ∧
  tL_law E 743 = some (a_cvI tT mX12_cousins 12 1 746) ∧
  tL_law E 746 = some (a_cmp (fun x y => x = y) 1099 749) ∧
  tL_law E 749 = some (a_const (nI 0) 750) ∧
  tL_law E 750 = some (a_zret) ∧
  tL_law E 751 = some (a_aload 1 752) ∧
  tL_law E 752 = some (a_aload 0 753) ∧
  tL_law E 753 = some (a_iload 3 754) ∧
  tL_law E 754 = some (a_const (nI 1) 755) ∧
  tL_law E 755 = some (a_bin (fun x y => x + y) 756) ∧
  tL_law E 756 = some (a_sld (fun j => nI (E.2.2.2 (500 + j))) (E.2.2.2 401) 757) ∧
  tL_law E 757 = some (a_cvI tT mX11_estate 11 1 760) ∧
  tL_law E 760 = some (a_aload 2 761) ∧
  tL_law E 761 = some (a_aload 0 762) ∧
  tL_law E 762 = some (a_iload 3 763) ∧
  tL_law E 763 = some (a_const (nI 1) 764) ∧
  tL_law E 764 = some (a_bin (fun x y => x + y) 765) ∧
  tL_law E 765 = some (a_sld (fun j => nI (E.2.2.2 (500 + j))) (E.2.2.2 401) 766) := ⟨rfl, rfl, rfl, rfl, rfl, rfl, rfl, rfl, rfl, rfl, rfl, rfl, rfl, rfl, rfl, rfl, rfl, rfl, rfl, rfl, rfl, rfl, rfl, rfl⟩
theorem lL_law_21 (E : am_E) : tL_law E 766 = some (a_cvI tT mX12_estate 12 1 769) ∧
  tL_law E 769 = some (a_cmp (fun x y => x = y) 1099 772) ∧
  tL_law E 772 = some (a_const (nI 0) 773) ∧
  tL_law E 773 = some (a_zret) ∧
  tL_law E 774 = some (a_aload 1 775) ∧
  tL_law E 775 = some (a_aload 0 776) ∧
  tL_law E 776 = some (a_iload 3 777) ∧
  tL_law E 777 = some (a_const (nI 1) 778) ∧
  tL_law E 778 = some (a_bin (fun x y => x + y) 779) ∧
  tL_law E 779 = some (a_sld (fun j => nI (E.2.2.2 (500 + j))) (E.2.2.2 401) 780) ∧
  tL_law E 780 = some (a_aload 0 781) ∧
  tL_law E 781 = some (a_iload 3 782) ∧
  tL_law E 782 = some (a_const (nI 2) 783) ∧
  tL_law E 783 = some (a_bin (fun x y => x + y) 784) ∧
  tL_law E 784 = some (a_sld (fun j => nI (E.2.2.2 (500 + j))) (E.2.2.2 401) 785) ∧
  tL_law E 785 = some (a_aload 0 786) ∧
  tL_law E 786 = some (a_iload 3 787) ∧
  tL_law E 787 = some (a_const (nI 3) 788) ∧
  tL_law E 788 = some (a_bin (fun x y => x + y) 789) ∧
  tL_law E 789 = some (a_sld (fun j => nI (E.2.2.2 (500 + j))) (E.2.2.2 401) 790) ∧
  tL_law E 790 = some (a_aload 0 791) ∧
  tL_law E 791 = some (a_iload 3 792) ∧
  tL_law E 792 = some (a_const (nI 4) 793) ∧
  tL_law E 793 = some (a_bin (fun x y => x + y) 794) := ⟨rfl, rfl, rfl, rfl, rfl, rfl, rfl, rfl, rfl, rfl, rfl, rfl, rfl, rfl, rfl, rfl, rfl, rfl, rfl, rfl, rfl, rfl, rfl, rfl⟩
theorem lL_law_22 (E : am_E) : tL_law E 794 = some (a_sld (fun j => nI (E.2.2.2 (500 + j))) (E.2.2.2 401) 795) ∧
  tL_law E 795 = some (a_aload 0 796) ∧
  tL_law E 796 = some (a_iload 3 797) ∧
  tL_law E 797 = some (a_const (nI 5) 798) ∧
  tL_law E 798 = some (a_bin (fun x y => x + y) 799) ∧
  tL_law E 799 = some (a_sld (fun j => nI (E.2.2.2 (500 + j))) (E.2.2.2 401) 800) ∧
  tL_law E 800 = some (a_aload 0 801) ∧
  tL_law E 801 = some (a_iload 3 802) ∧
  tL_law E 802 = some (a_const (nI 6) 804) ∧
  tL_law E 804 = some (a_bin (fun x y => x + y) 805) ∧
  tL_law E 805 = some (a_sld (fun j => nI (E.2.2.2 (500 + j))) (E.2.2.2 401) 806) ∧
  tL_law E 806 = some (a_cvI tT mX11_behind 11 6 809) ∧
  tL_law E 809 = some (a_aload 2 810) ∧
  tL_law E 810 = some (a_aload 0 811) ∧
  tL_law E 811 = some (a_iload 3 812) ∧
  tL_law E 812 = some (a_const (nI 1) 813) ∧
  tL_law E 813 = some (a_bin (fun x y => x + y) 814) ∧
  tL_law E 814 = some (a_sld (fun j => nI (E.2.2.2 (500 + j))) (E.2.2.2 401) 815) ∧
  tL_law E 815 = some (a_aload 0 816) ∧
  tL_law E 816 = some (a_iload 3 817) ∧
  tL_law E 817 = some (a_const (nI 2) 818) ∧
  tL_law E 818 = some (a_bin (fun x y => x + y) 819) ∧
  tL_law E 819 = some (a_sld (fun j => nI (E.2.2.2 (500 + j))) (E.2.2.2 401) 820) ∧
  tL_law E 820 = some (a_aload 0 821) := ⟨rfl, rfl, rfl, rfl, rfl, rfl, rfl, rfl, rfl, rfl, rfl, rfl, rfl, rfl, rfl, rfl, rfl, rfl, rfl, rfl, rfl, rfl, rfl, rfl⟩
theorem lL_law_23 (E : am_E) : tL_law E 821 = some (a_iload 3 822) ∧
  tL_law E 822 = some (a_const (nI 3) 823) ∧
  tL_law E 823 = some (a_bin (fun x y => x + y) 824) ∧
  tL_law E 824 = some (a_sld (fun j => nI (E.2.2.2 (500 + j))) (E.2.2.2 401) 825) ∧
  tL_law E 825 = some (a_aload 0 826) ∧
  tL_law E 826 = some (a_iload 3 827) ∧
  tL_law E 827 = some (a_const (nI 4) 828) ∧
  tL_law E 828 = some (a_bin (fun x y => x + y) 829) ∧
  tL_law E 829 = some (a_sld (fun j => nI (E.2.2.2 (500 + j))) (E.2.2.2 401) 830) ∧
  tL_law E 830 = some (a_aload 0 831) ∧
  tL_law E 831 = some (a_iload 3 832) ∧
  tL_law E 832 = some (a_const (nI 5) 833) ∧
  tL_law E 833 = some (a_bin (fun x y => x + y) 834) ∧
  tL_law E 834 = some (a_sld (fun j => nI (E.2.2.2 (500 + j))) (E.2.2.2 401) 835) ∧
  tL_law E 835 = some (a_aload 0 836) ∧
  tL_law E 836 = some (a_iload 3 837) ∧
  tL_law E 837 = some (a_const (nI 6) 839) ∧
  tL_law E 839 = some (a_bin (fun x y => x + y) 840) ∧
  tL_law E 840 = some (a_sld (fun j => nI (E.2.2.2 (500 + j))) (E.2.2.2 401) 841) ∧
  tL_law E 841 = some (a_cvI tT mX12_behind 12 6 844) ∧
  tL_law E 844 = some (a_cmp (fun x y => x = y) 1099 847) ∧
  tL_law E 847 = some (a_const (nI 0) 848) ∧
  tL_law E 848 = some (a_zret) ∧
  tL_law E 849 = some (a_aload 1 850) := ⟨rfl, rfl, rfl, rfl, rfl, rfl, rfl, rfl, rfl, rfl, rfl, rfl, rfl, rfl, rfl, rfl, rfl, rfl, rfl, rfl, rfl, rfl, rfl, rfl⟩
theorem lL_law_24 (E : am_E) : tL_law E 850 = some (a_aload 0 851) ∧
  tL_law E 851 = some (a_iload 3 852) ∧
  tL_law E 852 = some (a_const (nI 1) 853) ∧
  tL_law E 853 = some (a_bin (fun x y => x + y) 854) ∧
  tL_law E 854 = some (a_sld (fun j => nI (E.2.2.2 (500 + j))) (E.2.2.2 401) 855) ∧
  tL_law E 855 = some (a_aload 0 856) ∧
  tL_law E 856 = some (a_iload 3 857) ∧
  tL_law E 857 = some (a_const (nI 2) 858) ∧
  tL_law E 858 = some (a_bin (fun x y => x + y) 859) ∧
  tL_law E 859 = some (a_sld (fun j => nI (E.2.2.2 (500 + j))) (E.2.2.2 401) 860) ∧
  tL_law E 860 = some (a_aload 0 861) ∧
  tL_law E 861 = some (a_iload 3 862) ∧
  tL_law E 862 = some (a_const (nI 3) 863) ∧
  tL_law E 863 = some (a_bin (fun x y => x + y) 864) ∧
  tL_law E 864 = some (a_sld (fun j => nI (E.2.2.2 (500 + j))) (E.2.2.2 401) 865) ∧
  tL_law E 865 = some (a_cvI tT mX11_best 11 3 868) ∧
  tL_law E 868 = some (a_aload 2 869) ∧
  tL_law E 869 = some (a_aload 0 870) ∧
  tL_law E 870 = some (a_iload 3 871) ∧
  tL_law E 871 = some (a_const (nI 1) 872) ∧
  tL_law E 872 = some (a_bin (fun x y => x + y) 873) ∧
  tL_law E 873 = some (a_sld (fun j => nI (E.2.2.2 (500 + j))) (E.2.2.2 401) 874) ∧
  tL_law E 874 = some (a_aload 0 875) ∧
  tL_law E 875 = some (a_iload 3 876) := ⟨rfl, rfl, rfl, rfl, rfl, rfl, rfl, rfl, rfl, rfl, rfl, rfl, rfl, rfl, rfl, rfl, rfl, rfl, rfl, rfl, rfl, rfl, rfl, rfl⟩
theorem lL_law_25 (E : am_E) : tL_law E 876 = some (a_const (nI 2) 877) ∧
  tL_law E 877 = some (a_bin (fun x y => x + y) 878) ∧
  tL_law E 878 = some (a_sld (fun j => nI (E.2.2.2 (500 + j))) (E.2.2.2 401) 879) ∧
  tL_law E 879 = some (a_aload 0 880) ∧
  tL_law E 880 = some (a_iload 3 881) ∧
  tL_law E 881 = some (a_const (nI 3) 882) ∧
  tL_law E 882 = some (a_bin (fun x y => x + y) 883) ∧
  tL_law E 883 = some (a_sld (fun j => nI (E.2.2.2 (500 + j))) (E.2.2.2 401) 884) ∧
  tL_law E 884 = some (a_cvI tT mX12_best 12 3 887) ∧
  tL_law E 887 = some (a_cmp (fun x y => x = y) 1099 890) ∧
  tL_law E 890 = some (a_const (nI 0) 891) ∧
  tL_law E 891 = some (a_zret) ∧
  tL_law E 892 = some (a_aload 1 893) ∧
  tL_law E 893 = some (a_aload 0 894) ∧
  tL_law E 894 = some (a_iload 3 895) ∧
  tL_law E 895 = some (a_const (nI 1) 896) ∧
  tL_law E 896 = some (a_bin (fun x y => x + y) 897) ∧
  tL_law E 897 = some (a_sld (fun j => nI (E.2.2.2 (500 + j))) (E.2.2.2 401) 898) ∧
  tL_law E 898 = some (a_cvI tT mX11_round 11 1 901) ∧
  tL_law E 901 = some (a_aload 2 902) ∧
  tL_law E 902 = some (a_aload 0 903) ∧
  tL_law E 903 = some (a_iload 3 904) ∧
  tL_law E 904 = some (a_const (nI 1) 905) ∧
  tL_law E 905 = some (a_bin (fun x y => x + y) 906) := ⟨rfl, rfl, rfl, rfl, rfl, rfl, rfl, rfl, rfl, rfl, rfl, rfl, rfl, rfl, rfl, rfl, rfl, rfl, rfl, rfl, rfl, rfl, rfl, rfl⟩
theorem lL_law_26 (E : am_E) : tL_law E 906 = some (a_sld (fun j => nI (E.2.2.2 (500 + j))) (E.2.2.2 401) 907) ∧
  tL_law E 907 = some (a_cvI tT mX12_round 12 1 910) ∧
  tL_law E 910 = some (a_cmp (fun x y => x = y) 1099 913) ∧
  tL_law E 913 = some (a_const (nI 0) 914) ∧
  tL_law E 914 = some (a_zret) ∧
  tL_law E 915 = some (a_aload 1 916) ∧
  tL_law E 916 = some (a_aload 0 917) ∧
  tL_law E 917 = some (a_iload 3 918) ∧
  tL_law E 918 = some (a_const (nI 1) 919) ∧
  tL_law E 919 = some (a_bin (fun x y => x + y) 920) ∧
  tL_law E 920 = some (a_sld (fun j => nI (E.2.2.2 (500 + j))) (E.2.2.2 401) 921) ∧
  tL_law E 921 = some (a_aload 0 922) ∧
  tL_law E 922 = some (a_iload 3 923) ∧
  tL_law E 923 = some (a_const (nI 2) 924) ∧
  tL_law E 924 = some (a_bin (fun x y => x + y) 925) ∧
  tL_law E 925 = some (a_sld (fun j => nI (E.2.2.2 (500 + j))) (E.2.2.2 401) 926) ∧
  tL_law E 926 = some (a_cvI tT mX11_plan 11 2 929) ∧
  tL_law E 929 = some (a_aload 2 930) ∧
  tL_law E 930 = some (a_aload 0 931) ∧
  tL_law E 931 = some (a_iload 3 932) ∧
  tL_law E 932 = some (a_const (nI 1) 933) ∧
  tL_law E 933 = some (a_bin (fun x y => x + y) 934) ∧
  tL_law E 934 = some (a_sld (fun j => nI (E.2.2.2 (500 + j))) (E.2.2.2 401) 935) ∧
  tL_law E 935 = some (a_aload 0 936) := ⟨rfl, rfl, rfl, rfl, rfl, rfl, rfl, rfl, rfl, rfl, rfl, rfl, rfl, rfl, rfl, rfl, rfl, rfl, rfl, rfl, rfl, rfl, rfl, rfl⟩
theorem lL_law_27 (E : am_E) : tL_law E 936 = some (a_iload 3 937) ∧
  tL_law E 937 = some (a_const (nI 2) 938) ∧
  tL_law E 938 = some (a_bin (fun x y => x + y) 939) ∧
  tL_law E 939 = some (a_sld (fun j => nI (E.2.2.2 (500 + j))) (E.2.2.2 401) 940) ∧
  tL_law E 940 = some (a_cvI tT mX12_plan 12 2 943) ∧
  tL_law E 943 = some (a_cmp (fun x y => x = y) 1099 946) ∧
  tL_law E 946 = some (a_const (nI 0) 947) ∧
  tL_law E 947 = some (a_zret) ∧
  tL_law E 948 = some (a_aload 1 949) ∧
  tL_law E 949 = some (a_aload 0 950) ∧
  tL_law E 950 = some (a_iload 3 951) ∧
  tL_law E 951 = some (a_const (nI 1) 952) ∧
  tL_law E 952 = some (a_bin (fun x y => x + y) 953) ∧
  tL_law E 953 = some (a_sld (fun j => nI (E.2.2.2 (500 + j))) (E.2.2.2 401) 954) ∧
  tL_law E 954 = some (a_aload 0 955) ∧
  tL_law E 955 = some (a_iload 3 956) ∧
  tL_law E 956 = some (a_const (nI 2) 957) ∧
  tL_law E 957 = some (a_bin (fun x y => x + y) 958) ∧
  tL_law E 958 = some (a_sld (fun j => nI (E.2.2.2 (500 + j))) (E.2.2.2 401) 959) ∧
  tL_law E 959 = some (a_cvI tT mX11_night 11 2 962) ∧
  tL_law E 962 = some (a_aload 2 963) ∧
  tL_law E 963 = some (a_aload 0 964) ∧
  tL_law E 964 = some (a_iload 3 965) ∧
  tL_law E 965 = some (a_const (nI 1) 966) := ⟨rfl, rfl, rfl, rfl, rfl, rfl, rfl, rfl, rfl, rfl, rfl, rfl, rfl, rfl, rfl, rfl, rfl, rfl, rfl, rfl, rfl, rfl, rfl, rfl⟩
theorem lL_law_28 (E : am_E) : tL_law E 966 = some (a_bin (fun x y => x + y) 967) ∧
  tL_law E 967 = some (a_sld (fun j => nI (E.2.2.2 (500 + j))) (E.2.2.2 401) 968) ∧
  tL_law E 968 = some (a_aload 0 969) ∧
  tL_law E 969 = some (a_iload 3 970) ∧
  tL_law E 970 = some (a_const (nI 2) 971) ∧
  tL_law E 971 = some (a_bin (fun x y => x + y) 972) ∧
  tL_law E 972 = some (a_sld (fun j => nI (E.2.2.2 (500 + j))) (E.2.2.2 401) 973) ∧
  tL_law E 973 = some (a_cvI tT mX12_night 12 2 976) ∧
  tL_law E 976 = some (a_cmp (fun x y => x = y) 1099 979) ∧
  tL_law E 979 = some (a_const (nI 0) 980) ∧
  tL_law E 980 = some (a_zret) ∧
  tL_law E 981 = some (a_aload 1 982) ∧
  tL_law E 982 = some (a_aload 0 983) ∧
  tL_law E 983 = some (a_iload 3 984) ∧
  tL_law E 984 = some (a_const (nI 1) 985) ∧
  tL_law E 985 = some (a_bin (fun x y => x + y) 986) ∧
  tL_law E 986 = some (a_sld (fun j => nI (E.2.2.2 (500 + j))) (E.2.2.2 401) 987) ∧
  tL_law E 987 = some (a_aload 0 988) ∧
  tL_law E 988 = some (a_iload 3 989) ∧
  tL_law E 989 = some (a_const (nI 2) 990) ∧
  tL_law E 990 = some (a_bin (fun x y => x + y) 991) ∧
  tL_law E 991 = some (a_sld (fun j => nI (E.2.2.2 (500 + j))) (E.2.2.2 401) 992) ∧
  tL_law E 992 = some (a_aload 0 993) ∧
  tL_law E 993 = some (a_iload 3 994) := ⟨rfl, rfl, rfl, rfl, rfl, rfl, rfl, rfl, rfl, rfl, rfl, rfl, rfl, rfl, rfl, rfl, rfl, rfl, rfl, rfl, rfl, rfl, rfl, rfl⟩
theorem lL_law_29 (E : am_E) : tL_law E 994 = some (a_const (nI 3) 995) ∧
  tL_law E 995 = some (a_bin (fun x y => x + y) 996) ∧
  tL_law E 996 = some (a_sld (fun j => nI (E.2.2.2 (500 + j))) (E.2.2.2 401) 997) ∧
  tL_law E 997 = some (a_cvI tT mX11_order 11 3 1000) ∧
  tL_law E 1000 = some (a_aload 2 1001) ∧
  tL_law E 1001 = some (a_aload 0 1002) ∧
  tL_law E 1002 = some (a_iload 3 1003) ∧
  tL_law E 1003 = some (a_const (nI 1) 1004) ∧
  tL_law E 1004 = some (a_bin (fun x y => x + y) 1005) ∧
  tL_law E 1005 = some (a_sld (fun j => nI (E.2.2.2 (500 + j))) (E.2.2.2 401) 1006) ∧
  tL_law E 1006 = some (a_aload 0 1007) ∧
  tL_law E 1007 = some (a_iload 3 1008) ∧
  tL_law E 1008 = some (a_const (nI 2) 1009) ∧
  tL_law E 1009 = some (a_bin (fun x y => x + y) 1010) ∧
  tL_law E 1010 = some (a_sld (fun j => nI (E.2.2.2 (500 + j))) (E.2.2.2 401) 1011) ∧
  tL_law E 1011 = some (a_aload 0 1012) ∧
  tL_law E 1012 = some (a_iload 3 1013) ∧
  tL_law E 1013 = some (a_const (nI 3) 1014) ∧
  tL_law E 1014 = some (a_bin (fun x y => x + y) 1015) ∧
  tL_law E 1015 = some (a_sld (fun j => nI (E.2.2.2 (500 + j))) (E.2.2.2 401) 1016) ∧
  tL_law E 1016 = some (a_cvI tT mX12_order 12 3 1019) ∧
  tL_law E 1019 = some (a_cmp (fun x y => x = y) 1099 1022) ∧
  tL_law E 1022 = some (a_const (nI 0) 1023) ∧
  tL_law E 1023 = some (a_zret) := ⟨rfl, rfl, rfl, rfl, rfl, rfl, rfl, rfl, rfl, rfl, rfl, rfl, rfl, rfl, rfl, rfl, rfl, rfl, rfl, rfl, rfl, rfl, rfl, rfl⟩
theorem lL_law_30 (E : am_E) : tL_law E 1024 = some (a_aload 1 1025) ∧
  tL_law E 1025 = some (a_cvI tT mX11_undo 11 0 1028) ∧
  tL_law E 1028 = some (a_aload 2 1029) ∧
  tL_law E 1029 = some (a_cvI tT mX12_undo 12 0 1032) ∧
  tL_law E 1032 = some (a_cmp (fun x y => x = y) 1099 1035) ∧
  tL_law E 1035 = some (a_const (nI 0) 1036) ∧
  tL_law E 1036 = some (a_zret) ∧
  tL_law E 1037 = some (a_aload 1 1038) ∧
  tL_law E 1038 = some (a_aload 0 1039) ∧
  tL_law E 1039 = some (a_iload 3 1040) ∧
  tL_law E 1040 = some (a_const (nI 1) 1041) ∧
  tL_law E 1041 = some (a_bin (fun x y => x + y) 1042) ∧
  tL_law E 1042 = some (a_sld (fun j => nI (E.2.2.2 (500 + j))) (E.2.2.2 401) 1043) ∧
  tL_law E 1043 = some (a_if (fun x => x = nI 0) 1050 1046) ∧
  tL_law E 1046 = some (a_const (nI 1) 1047) ∧
  tL_law E 1047 = some (a_goto 1051) ∧
  tL_law E 1050 = some (a_const (nI 0) 1051) ∧
  tL_law E 1051 = some (a_cvI tT mX11_image 11 1 1054) ∧
  tL_law E 1054 = some (a_aload 2 1055) ∧
  tL_law E 1055 = some (a_aload 0 1056) ∧
  tL_law E 1056 = some (a_iload 3 1057) ∧
  tL_law E 1057 = some (a_const (nI 1) 1058) ∧
  tL_law E 1058 = some (a_bin (fun x y => x + y) 1059) ∧
  tL_law E 1059 = some (a_sld (fun j => nI (E.2.2.2 (500 + j))) (E.2.2.2 401) 1060) := ⟨rfl, rfl, rfl, rfl, rfl, rfl, rfl, rfl, rfl, rfl, rfl, rfl, rfl, rfl, rfl, rfl, rfl, rfl, rfl, rfl, rfl, rfl, rfl, rfl⟩
theorem lL_law_31 (E : am_E) : tL_law E 1060 = some (a_if (fun x => x = nI 0) 1067 1063) ∧
  tL_law E 1063 = some (a_const (nI 1) 1064) ∧
  tL_law E 1064 = some (a_goto 1068) ∧
  tL_law E 1067 = some (a_const (nI 0) 1068) ∧
  tL_law E 1068 = some (a_cvI tT mX12_image 12 1 1071) ∧
  tL_law E 1071 = some (a_cmp (fun x y => x = y) 1099 1074) ∧
  tL_law E 1074 = some (a_const (nI 0) 1075) ∧
  tL_law E 1075 = some (a_zret) ∧
  tL_law E 1076 = some (a_aload 1 1077) ∧
  tL_law E 1077 = some (a_aload 0 1078) ∧
  tL_law E 1078 = some (a_iload 3 1079) ∧
  tL_law E 1079 = some (a_const (nI 1) 1080) ∧
  tL_law E 1080 = some (a_bin (fun x y => x + y) 1081) ∧
  tL_law E 1081 = some (a_sld (fun j => nI (E.2.2.2 (500 + j))) (E.2.2.2 401) 1082) ∧
  tL_law E 1082 = some (a_cvI tT mX11_look 11 1 1085) ∧
  tL_law E 1085 = some (a_aload 2 1086) ∧
  tL_law E 1086 = some (a_aload 0 1087) ∧
  tL_law E 1087 = some (a_iload 3 1088) ∧
  tL_law E 1088 = some (a_const (nI 1) 1089) ∧
  tL_law E 1089 = some (a_bin (fun x y => x + y) 1090) ∧
  tL_law E 1090 = some (a_sld (fun j => nI (E.2.2.2 (500 + j))) (E.2.2.2 401) 1091) ∧
  tL_law E 1091 = some (a_cvI tT mX12_look 12 1 1094) ∧
  tL_law E 1094 = some (a_cmp (fun x y => x = y) 1099 1097) ∧
  tL_law E 1097 = some (a_const (nI 0) 1098) := ⟨rfl, rfl, rfl, rfl, rfl, rfl, rfl, rfl, rfl, rfl, rfl, rfl, rfl, rfl, rfl, rfl, rfl, rfl, rfl, rfl, rfl, rfl, rfl, rfl⟩
theorem lL_law_32 (E : am_E) : tL_law E 1098 = some (a_zret) ∧
  tL_law E 1099 = some (a_iinc 3 (nI 7) 1102) ∧
  tL_law E 1102 = some (a_goto 18) ∧
  tL_law E 1105 = some (a_const (nI 1) 1106) ∧
  tL_law E 1106 = some (a_zret) := ⟨rfl, rfl, rfl, rfl, rfl⟩
