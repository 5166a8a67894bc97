theorem la_law_d0 : decode code 0 = .ok (.new 8, 3) := by decide +kernel
theorem la_law_d3 : decode code 3 = .ok (.dup, 1) := by decide +kernel
theorem la_law_d4 : decode code 4 = .ok (.invokespecial 40, 3) := by decide +kernel
theorem la_law_d7 : decode code 7 = .ok (.astore_n 1, 1) := by decide +kernel
theorem la_law_d8 : decode code 8 = .ok (.new 41, 3) := by decide +kernel
theorem la_law_d11 : decode code 11 = .ok (.dup, 1) := by decide +kernel
theorem la_law_d12 : decode code 12 = .ok (.invokespecial 43, 3) := by decide +kernel
theorem la_law_d15 : decode code 15 = .ok (.astore_n 2, 1) := by decide +kernel
theorem la_law_d16 : decode code 16 = .ok (.iconst 1, 1) := by decide +kernel
theorem la_law_d17 : decode code 17 = .ok (.newarray .long, 2) := by decide +kernel
theorem la_law_d19 : decode code 19 = .ok (.astore_n 3, 1) := by decide +kernel
theorem la_law_d20 : decode code 20 = .ok (.iconst 0, 1) := by decide +kernel
theorem la_law_d21 : decode code 21 = .ok (.istore 4, 2) := by decide +kernel
theorem la_law_d23 : decode code 23 = .ok (.iload 4, 2) := by decide +kernel
theorem la_law_d25 : decode code 25 = .ok (.aload_n 0, 1) := by decide +kernel
theorem la_law_d26 : decode code 26 = .ok (.arraylength, 1) := by decide +kernel
theorem la_law_d27 : decode code 27 = .ok (.iconst 5, 1) := by decide +kernel
theorem la_law_d28 : decode code 28 = .ok (.isub, 1) := by decide +kernel
theorem la_law_d29 : decode code 29 = .ok (.if_icmp .gt 670, 3) := by decide +kernel
theorem la_law_d32 : decode code 32 = .ok (.aload_n 0, 1) := by decide +kernel
theorem la_law_d33 : decode code 33 = .ok (.iload 4, 2) := by decide +kernel
theorem la_law_d35 : decode code 35 = .ok (.iaload, 1) := by decide +kernel
theorem la_law_d36 : decode code 36 = .ok (.bipush 15, 2) := by decide +kernel
theorem la_law_d38 : decode code 38 = .ok (.iand, 1) := by decide +kernel
theorem la_law_d39 : decode code 39 = .ok (.tableswitch 654 0 12 #[65, 157, 170, 195, 251, 335, 410, 466, 479, 535, 548, 604, 629], 65) := by decide +kernel
theorem la_law_d104 : decode code 104 = .ok (.aload_n 1, 1) := by decide +kernel
theorem la_law_d105 : decode code 105 = .ok (.aload_n 0, 1) := by decide +kernel
theorem la_law_d106 : decode code 106 = .ok (.iload 4, 2) := by decide +kernel
theorem la_law_d108 : decode code 108 = .ok (.iconst 1, 1) := by decide +kernel
theorem la_law_d109 : decode code 109 = .ok (.iadd, 1) := by decide +kernel
theorem la_law_d110 : decode code 110 = .ok (.iaload, 1) := by decide +kernel
theorem la_law_d111 : decode code 111 = .ok (.aload_n 0, 1) := by decide +kernel
theorem la_law_d112 : decode code 112 = .ok (.iload 4, 2) := by decide +kernel
theorem la_law_d114 : decode code 114 = .ok (.iconst 2, 1) := by decide +kernel
theorem la_law_d115 : decode code 115 = .ok (.iadd, 1) := by decide +kernel
theorem la_law_d116 : decode code 116 = .ok (.iaload, 1) := by decide +kernel
theorem la_law_d117 : decode code 117 = .ok (.aload_n 0, 1) := by decide +kernel
theorem la_law_d118 : decode code 118 = .ok (.iload 4, 2) := by decide +kernel
theorem la_law_d120 : decode code 120 = .ok (.iconst 3, 1) := by decide +kernel
theorem la_law_d121 : decode code 121 = .ok (.iadd, 1) := by decide +kernel
theorem la_law_d122 : decode code 122 = .ok (.iaload, 1) := by decide +kernel
theorem la_law_d123 : decode code 123 = .ok (.aload_n 0, 1) := by decide +kernel
theorem la_law_d124 : decode code 124 = .ok (.iload 4, 2) := by decide +kernel
theorem la_law_d126 : decode code 126 = .ok (.iconst 4, 1) := by decide +kernel
theorem la_law_d127 : decode code 127 = .ok (.iadd, 1) := by decide +kernel
theorem la_law_d128 : decode code 128 = .ok (.iaload, 1) := by decide +kernel
theorem la_law_d129 : decode code 129 = .ok (.aload_n 3, 1) := by decide +kernel
theorem la_law_d130 : decode code 130 = .ok (.invokestatic 44, 3) := by decide +kernel
theorem la_law_d133 : decode code 133 = .ok (.istore 5, 2) := by decide +kernel
theorem la_law_d135 : decode code 135 = .ok (.aload_n 2, 1) := by decide +kernel
theorem la_law_d136 : decode code 136 = .ok (.aload_n 0, 1) := by decide +kernel
theorem la_law_d137 : decode code 137 = .ok (.iload 4, 2) := by decide +kernel
theorem la_law_d139 : decode code 139 = .ok (.iconst 1, 1) := by decide +kernel
theorem la_law_d140 : decode code 140 = .ok (.iadd, 1) := by decide +kernel
theorem la_law_d141 : decode code 141 = .ok (.iaload, 1) := by decide +kernel
theorem la_law_d142 : decode code 142 = .ok (.aload_n 0, 1) := by decide +kernel
theorem la_law_d143 : decode code 143 = .ok (.iload 4, 2) := by decide +kernel
theorem la_law_d145 : decode code 145 = .ok (.iconst 2, 1) := by decide +kernel
theorem la_law_d146 : decode code 146 = .ok (.iadd, 1) := by decide +kernel
theorem la_law_d147 : decode code 147 = .ok (.iaload, 1) := by decide +kernel
theorem la_law_d148 : decode code 148 = .ok (.aload_n 0, 1) := by decide +kernel
theorem la_law_d149 : decode code 149 = .ok (.iload 4, 2) := by decide +kernel
theorem la_law_d151 : decode code 151 = .ok (.iconst 3, 1) := by decide +kernel
theorem la_law_d152 : decode code 152 = .ok (.iadd, 1) := by decide +kernel
theorem la_law_d153 : decode code 153 = .ok (.iaload, 1) := by decide +kernel
theorem la_law_d154 : decode code 154 = .ok (.aload_n 0, 1) := by decide +kernel
theorem la_law_d155 : decode code 155 = .ok (.iload 4, 2) := by decide +kernel
theorem la_law_d157 : decode code 157 = .ok (.iconst 4, 1) := by decide +kernel
theorem la_law_d158 : decode code 158 = .ok (.iadd, 1) := by decide +kernel
theorem la_law_d159 : decode code 159 = .ok (.iaload, 1) := by decide +kernel
theorem la_law_d160 : decode code 160 = .ok (.invokevirtual 49, 3) := by decide +kernel
theorem la_law_d163 : decode code 163 = .ok (.istore 6, 2) := by decide +kernel
theorem la_law_d165 : decode code 165 = .ok (.aload_n 2, 1) := by decide +kernel
theorem la_law_d166 : decode code 166 = .ok (.invokevirtual 50, 3) := by decide +kernel
theorem la_law_d169 : decode code 169 = .ok (.iload 5, 2) := by decide +kernel
theorem la_law_d171 : decode code 171 = .ok (.if_icmp .eq 5, 3) := by decide +kernel
theorem la_law_d174 : decode code 174 = .ok (.iconst 0, 1) := by decide +kernel
theorem la_law_d175 : decode code 175 = .ok (.ireturn, 1) := by decide +kernel
theorem la_law_d176 : decode code 176 = .ok (.iload 5, 2) := by decide +kernel
theorem la_law_d178 : decode code 178 = .ok (.ifCond .ne 15, 3) := by decide +kernel
theorem la_law_d181 : decode code 181 = .ok (.aload_n 3, 1) := by decide +kernel
theorem la_law_d182 : decode code 182 = .ok (.iconst 0, 1) := by decide +kernel
theorem la_law_d183 : decode code 183 = .ok (.laload, 1) := by decide +kernel
theorem la_law_d184 : decode code 184 = .ok (.iload 6, 2) := by decide +kernel
theorem la_law_d186 : decode code 186 = .ok (.i2l, 1) := by decide +kernel
theorem la_law_d187 : decode code 187 = .ok (.lcmp, 1) := by decide +kernel
theorem la_law_d188 : decode code 188 = .ok (.ifCond .eq 5, 3) := by decide +kernel
theorem la_law_d191 : decode code 191 = .ok (.iconst 0, 1) := by decide +kernel
theorem la_law_d192 : decode code 192 = .ok (.ireturn, 1) := by decide +kernel
theorem la_law_d193 : decode code 193 = .ok (.goto 500, 3) := by decide +kernel
theorem la_law_d196 : decode code 196 = .ok (.aload_n 1, 1) := by decide +kernel
theorem la_law_d197 : decode code 197 = .ok (.invokevirtual 54, 3) := by decide +kernel
theorem la_law_d200 : decode code 200 = .ok (.aload_n 2, 1) := by decide +kernel
theorem la_law_d201 : decode code 201 = .ok (.invokevirtual 57, 3) := by decide +kernel
theorem la_law_d204 : decode code 204 = .ok (.if_icmp .eq 489, 3) := by decide +kernel
theorem la_law_d207 : decode code 207 = .ok (.iconst 0, 1) := by decide +kernel
theorem la_law_d208 : decode code 208 = .ok (.ireturn, 1) := by decide +kernel
theorem la_law_d209 : decode code 209 = .ok (.aload_n 1, 1) := by decide +kernel
theorem la_law_d210 : decode code 210 = .ok (.aload_n 0, 1) := by decide +kernel
theorem la_law_d211 : decode code 211 = .ok (.iload 4, 2) := by decide +kernel
theorem la_law_d213 : decode code 213 = .ok (.iconst 1, 1) := by decide +kernel
theorem la_law_d214 : decode code 214 = .ok (.iadd, 1) := by decide +kernel
theorem la_law_d215 : decode code 215 = .ok (.iaload, 1) := by decide +kernel
theorem la_law_d216 : decode code 216 = .ok (.invokevirtual 58, 3) := by decide +kernel
theorem la_law_d219 : decode code 219 = .ok (.aload_n 2, 1) := by decide +kernel
theorem la_law_d220 : decode code 220 = .ok (.aload_n 0, 1) := by decide +kernel
theorem la_law_d221 : decode code 221 = .ok (.iload 4, 2) := by decide +kernel
theorem la_law_d223 : decode code 223 = .ok (.iconst 1, 1) := by decide +kernel
theorem la_law_d224 : decode code 224 = .ok (.iadd, 1) := by decide +kernel
theorem la_law_d225 : decode code 225 = .ok (.iaload, 1) := by decide +kernel
theorem la_law_d226 : decode code 226 = .ok (.invokevirtual 61, 3) := by decide +kernel
theorem la_law_d229 : decode code 229 = .ok (.if_icmp .eq 464, 3) := by decide +kernel
theorem la_law_d232 : decode code 232 = .ok (.iconst 0, 1) := by decide +kernel
theorem la_law_d233 : decode code 233 = .ok (.ireturn, 1) := by decide +kernel
theorem la_law_d234 : decode code 234 = .ok (.aload_n 1, 1) := by decide +kernel
theorem la_law_d235 : decode code 235 = .ok (.aload_n 0, 1) := by decide +kernel
theorem la_law_d236 : decode code 236 = .ok (.iload 4, 2) := by decide +kernel
theorem la_law_d238 : decode code 238 = .ok (.iconst 1, 1) := by decide +kernel
theorem la_law_d239 : decode code 239 = .ok (.iadd, 1) := by decide +kernel
theorem la_law_d240 : decode code 240 = .ok (.iaload, 1) := by decide +kernel
theorem la_law_d241 : decode code 241 = .ok (.aload_n 3, 1) := by decide +kernel
theorem la_law_d242 : decode code 242 = .ok (.invokestatic 62, 3) := by decide +kernel
theorem la_law_d245 : decode code 245 = .ok (.istore 5, 2) := by decide +kernel
theorem la_law_d247 : decode code 247 = .ok (.aload_n 2, 1) := by decide +kernel
theorem la_law_d248 : decode code 248 = .ok (.aload_n 0, 1) := by decide +kernel
theorem la_law_d249 : decode code 249 = .ok (.iload 4, 2) := by decide +kernel
theorem la_law_d251 : decode code 251 = .ok (.iconst 1, 1) := by decide +kernel
theorem la_law_d252 : decode code 252 = .ok (.iadd, 1) := by decide +kernel
theorem la_law_d253 : decode code 253 = .ok (.iaload, 1) := by decide +kernel
theorem la_law_d254 : decode code 254 = .ok (.invokevirtual 65, 3) := by decide +kernel
theorem la_law_d257 : decode code 257 = .ok (.istore 6, 2) := by decide +kernel
theorem la_law_d259 : decode code 259 = .ok (.aload_n 2, 1) := by decide +kernel
theorem la_law_d260 : decode code 260 = .ok (.invokevirtual 50, 3) := by decide +kernel
theorem la_law_d263 : decode code 263 = .ok (.iload 5, 2) := by decide +kernel
theorem la_law_d265 : decode code 265 = .ok (.if_icmp .eq 5, 3) := by decide +kernel
theorem la_law_d268 : decode code 268 = .ok (.iconst 0, 1) := by decide +kernel
theorem la_law_d269 : decode code 269 = .ok (.ireturn, 1) := by decide +kernel
theorem la_law_d270 : decode code 270 = .ok (.iload 5, 2) := by decide +kernel
theorem la_law_d272 : decode code 272 = .ok (.ifCond .ne 15, 3) := by decide +kernel
theorem la_law_d275 : decode code 275 = .ok (.aload_n 3, 1) := by decide +kernel
theorem la_law_d276 : decode code 276 = .ok (.iconst 0, 1) := by decide +kernel
theorem la_law_d277 : decode code 277 = .ok (.laload, 1) := by decide +kernel
theorem la_law_d278 : decode code 278 = .ok (.iload 6, 2) := by decide +kernel
theorem la_law_d280 : decode code 280 = .ok (.i2l, 1) := by decide +kernel
theorem la_law_d281 : decode code 281 = .ok (.lcmp, 1) := by decide +kernel
theorem la_law_d282 : decode code 282 = .ok (.ifCond .eq 5, 3) := by decide +kernel
theorem la_law_d285 : decode code 285 = .ok (.iconst 0, 1) := by decide +kernel
theorem la_law_d286 : decode code 286 = .ok (.ireturn, 1) := by decide +kernel
theorem la_law_d287 : decode code 287 = .ok (.goto 406, 3) := by decide +kernel
theorem la_law_d290 : decode code 290 = .ok (.aload_n 1, 1) := by decide +kernel
theorem la_law_d291 : decode code 291 = .ok (.aload_n 0, 1) := by decide +kernel
theorem la_law_d292 : decode code 292 = .ok (.iload 4, 2) := by decide +kernel
theorem la_law_d294 : decode code 294 = .ok (.iconst 1, 1) := by decide +kernel
theorem la_law_d295 : decode code 295 = .ok (.iadd, 1) := by decide +kernel
theorem la_law_d296 : decode code 296 = .ok (.iaload, 1) := by decide +kernel
theorem la_law_d297 : decode code 297 = .ok (.aload_n 0, 1) := by decide +kernel
theorem la_law_d298 : decode code 298 = .ok (.iload 4, 2) := by decide +kernel
theorem la_law_d300 : decode code 300 = .ok (.iconst 2, 1) := by decide +kernel
theorem la_law_d301 : decode code 301 = .ok (.iadd, 1) := by decide +kernel
theorem la_law_d302 : decode code 302 = .ok (.iaload, 1) := by decide +kernel
theorem la_law_d303 : decode code 303 = .ok (.ifCond .eq 7, 3) := by decide +kernel
theorem la_law_d306 : decode code 306 = .ok (.iconst 1, 1) := by decide +kernel
theorem la_law_d307 : decode code 307 = .ok (.goto 4, 3) := by decide +kernel
theorem la_law_d310 : decode code 310 = .ok (.iconst 0, 1) := by decide +kernel
theorem la_law_d311 : decode code 311 = .ok (.aload_n 3, 1) := by decide +kernel
theorem la_law_d312 : decode code 312 = .ok (.invokestatic 66, 3) := by decide +kernel
theorem la_law_d315 : decode code 315 = .ok (.istore 5, 2) := by decide +kernel
theorem la_law_d317 : decode code 317 = .ok (.aload_n 2, 1) := by decide +kernel
theorem la_law_d318 : decode code 318 = .ok (.aload_n 0, 1) := by decide +kernel
theorem la_law_d319 : decode code 319 = .ok (.iload 4, 2) := by decide +kernel
theorem la_law_d321 : decode code 321 = .ok (.iconst 1, 1) := by decide +kernel
theorem la_law_d322 : decode code 322 = .ok (.iadd, 1) := by decide +kernel
theorem la_law_d323 : decode code 323 = .ok (.iaload, 1) := by decide +kernel
theorem la_law_d324 : decode code 324 = .ok (.aload_n 0, 1) := by decide +kernel
theorem la_law_d325 : decode code 325 = .ok (.iload 4, 2) := by decide +kernel
theorem la_law_d327 : decode code 327 = .ok (.iconst 2, 1) := by decide +kernel
theorem la_law_d328 : decode code 328 = .ok (.iadd, 1) := by decide +kernel
theorem la_law_d329 : decode code 329 = .ok (.iaload, 1) := by decide +kernel
theorem la_law_d330 : decode code 330 = .ok (.ifCond .eq 7, 3) := by decide +kernel
theorem la_law_d333 : decode code 333 = .ok (.iconst 1, 1) := by decide +kernel
theorem la_law_d334 : decode code 334 = .ok (.goto 4, 3) := by decide +kernel
theorem la_law_d337 : decode code 337 = .ok (.iconst 0, 1) := by decide +kernel
theorem la_law_d338 : decode code 338 = .ok (.invokevirtual 69, 3) := by decide +kernel
theorem la_law_d341 : decode code 341 = .ok (.istore 6, 2) := by decide +kernel
theorem la_law_d343 : decode code 343 = .ok (.aload_n 2, 1) := by decide +kernel
theorem la_law_d344 : decode code 344 = .ok (.invokevirtual 50, 3) := by decide +kernel
theorem la_law_d347 : decode code 347 = .ok (.iload 5, 2) := by decide +kernel
theorem la_law_d349 : decode code 349 = .ok (.if_icmp .eq 5, 3) := by decide +kernel
theorem la_law_d352 : decode code 352 = .ok (.iconst 0, 1) := by decide +kernel
theorem la_law_d353 : decode code 353 = .ok (.ireturn, 1) := by decide +kernel
theorem la_law_d354 : decode code 354 = .ok (.iload 5, 2) := by decide +kernel
theorem la_law_d356 : decode code 356 = .ok (.ifCond .ne 15, 3) := by decide +kernel
theorem la_law_d359 : decode code 359 = .ok (.aload_n 3, 1) := by decide +kernel
theorem la_law_d360 : decode code 360 = .ok (.iconst 0, 1) := by decide +kernel
theorem la_law_d361 : decode code 361 = .ok (.laload, 1) := by decide +kernel
theorem la_law_d362 : decode code 362 = .ok (.iload 6, 2) := by decide +kernel
theorem la_law_d364 : decode code 364 = .ok (.i2l, 1) := by decide +kernel
theorem la_law_d365 : decode code 365 = .ok (.lcmp, 1) := by decide +kernel
theorem la_law_d366 : decode code 366 = .ok (.ifCond .eq 5, 3) := by decide +kernel
theorem la_law_d369 : decode code 369 = .ok (.iconst 0, 1) := by decide +kernel
theorem la_law_d370 : decode code 370 = .ok (.ireturn, 1) := by decide +kernel
theorem la_law_d371 : decode code 371 = .ok (.goto 322, 3) := by decide +kernel
theorem la_law_d374 : decode code 374 = .ok (.aload_n 1, 1) := by decide +kernel
theorem la_law_d375 : decode code 375 = .ok (.aload_n 0, 1) := by decide +kernel
theorem la_law_d376 : decode code 376 = .ok (.iload 4, 2) := by decide +kernel
theorem la_law_d378 : decode code 378 = .ok (.iconst 1, 1) := by decide +kernel
theorem la_law_d379 : decode code 379 = .ok (.iadd, 1) := by decide +kernel
theorem la_law_d380 : decode code 380 = .ok (.iaload, 1) := by decide +kernel
theorem la_law_d381 : decode code 381 = .ok (.aload_n 0, 1) := by decide +kernel
theorem la_law_d382 : decode code 382 = .ok (.iload 4, 2) := by decide +kernel
theorem la_law_d384 : decode code 384 = .ok (.iconst 2, 1) := by decide +kernel
theorem la_law_d385 : decode code 385 = .ok (.iadd, 1) := by decide +kernel
theorem la_law_d386 : decode code 386 = .ok (.iaload, 1) := by decide +kernel
theorem la_law_d387 : decode code 387 = .ok (.aload_n 3, 1) := by decide +kernel
theorem la_law_d388 : decode code 388 = .ok (.invokestatic 70, 3) := by decide +kernel
theorem la_law_d391 : decode code 391 = .ok (.istore 5, 2) := by decide +kernel
theorem la_law_d393 : decode code 393 = .ok (.aload_n 2, 1) := by decide +kernel
theorem la_law_d394 : decode code 394 = .ok (.aload_n 0, 1) := by decide +kernel
theorem la_law_d395 : decode code 395 = .ok (.iload 4, 2) := by decide +kernel
theorem la_law_d397 : decode code 397 = .ok (.iconst 1, 1) := by decide +kernel
theorem la_law_d398 : decode code 398 = .ok (.iadd, 1) := by decide +kernel
theorem la_law_d399 : decode code 399 = .ok (.iaload, 1) := by decide +kernel
theorem la_law_d400 : decode code 400 = .ok (.aload_n 0, 1) := by decide +kernel
theorem la_law_d401 : decode code 401 = .ok (.iload 4, 2) := by decide +kernel
theorem la_law_d403 : decode code 403 = .ok (.iconst 2, 1) := by decide +kernel
theorem la_law_d404 : decode code 404 = .ok (.iadd, 1) := by decide +kernel
theorem la_law_d405 : decode code 405 = .ok (.iaload, 1) := by decide +kernel
theorem la_law_d406 : decode code 406 = .ok (.invokevirtual 73, 3) := by decide +kernel
theorem la_law_d409 : decode code 409 = .ok (.istore 6, 2) := by decide +kernel
theorem la_law_d411 : decode code 411 = .ok (.aload_n 2, 1) := by decide +kernel
theorem la_law_d412 : decode code 412 = .ok (.invokevirtual 50, 3) := by decide +kernel
theorem la_law_d415 : decode code 415 = .ok (.iload 5, 2) := by decide +kernel
theorem la_law_d417 : decode code 417 = .ok (.if_icmp .eq 5, 3) := by decide +kernel
theorem la_law_d420 : decode code 420 = .ok (.iconst 0, 1) := by decide +kernel
theorem la_law_d421 : decode code 421 = .ok (.ireturn, 1) := by decide +kernel
theorem la_law_d422 : decode code 422 = .ok (.iload 5, 2) := by decide +kernel
theorem la_law_d424 : decode code 424 = .ok (.ifCond .ne 22, 3) := by decide +kernel
theorem la_law_d427 : decode code 427 = .ok (.aload_n 3, 1) := by decide +kernel
theorem la_law_d428 : decode code 428 = .ok (.iconst 0, 1) := by decide +kernel
theorem la_law_d429 : decode code 429 = .ok (.laload, 1) := by decide +kernel
theorem la_law_d430 : decode code 430 = .ok (.iload 6, 2) := by decide +kernel
theorem la_law_d432 : decode code 432 = .ok (.ifCond .eq 7, 3) := by decide +kernel
theorem la_law_d435 : decode code 435 = .ok (.lconst 1, 1) := by decide +kernel
theorem la_law_d436 : decode code 436 = .ok (.goto 4, 3) := by decide +kernel
theorem la_law_d439 : decode code 439 = .ok (.lconst 0, 1) := by decide +kernel
theorem la_law_d440 : decode code 440 = .ok (.lcmp, 1) := by decide +kernel
theorem la_law_d441 : decode code 441 = .ok (.ifCond .eq 5, 3) := by decide +kernel
theorem la_law_d444 : decode code 444 = .ok (.iconst 0, 1) := by decide +kernel
theorem la_law_d445 : decode code 445 = .ok (.ireturn, 1) := by decide +kernel
theorem la_law_d446 : decode code 446 = .ok (.goto 247, 3) := by decide +kernel
theorem la_law_d449 : decode code 449 = .ok (.aload_n 1, 1) := by decide +kernel
theorem la_law_d450 : decode code 450 = .ok (.aload_n 0, 1) := by decide +kernel
theorem la_law_d451 : decode code 451 = .ok (.iload 4, 2) := by decide +kernel
theorem la_law_d453 : decode code 453 = .ok (.iconst 1, 1) := by decide +kernel
theorem la_law_d454 : decode code 454 = .ok (.iadd, 1) := by decide +kernel
theorem la_law_d455 : decode code 455 = .ok (.iaload, 1) := by decide +kernel
theorem la_law_d456 : decode code 456 = .ok (.aload_n 3, 1) := by decide +kernel
theorem la_law_d457 : decode code 457 = .ok (.invokestatic 74, 3) := by decide +kernel
theorem la_law_d460 : decode code 460 = .ok (.istore 5, 2) := by decide +kernel
theorem la_law_d462 : decode code 462 = .ok (.aload_n 2, 1) := by decide +kernel
theorem la_law_d463 : decode code 463 = .ok (.aload_n 0, 1) := by decide +kernel
theorem la_law_d464 : decode code 464 = .ok (.iload 4, 2) := by decide +kernel
theorem la_law_d466 : decode code 466 = .ok (.iconst 1, 1) := by decide +kernel
theorem la_law_d467 : decode code 467 = .ok (.iadd, 1) := by decide +kernel
theorem la_law_d468 : decode code 468 = .ok (.iaload, 1) := by decide +kernel
theorem la_law_d469 : decode code 469 = .ok (.invokevirtual 76, 3) := by decide +kernel
theorem la_law_d472 : decode code 472 = .ok (.istore 6, 2) := by decide +kernel
theorem la_law_d474 : decode code 474 = .ok (.aload_n 2, 1) := by decide +kernel
theorem la_law_d475 : decode code 475 = .ok (.invokevirtual 50, 3) := by decide +kernel
theorem la_law_d478 : decode code 478 = .ok (.iload 5, 2) := by decide +kernel
theorem la_law_d480 : decode code 480 = .ok (.if_icmp .eq 5, 3) := by decide +kernel
theorem la_law_d483 : decode code 483 = .ok (.iconst 0, 1) := by decide +kernel
theorem la_law_d484 : decode code 484 = .ok (.ireturn, 1) := by decide +kernel
theorem la_law_d485 : decode code 485 = .ok (.iload 5, 2) := by decide +kernel
theorem la_law_d487 : decode code 487 = .ok (.ifCond .ne 15, 3) := by decide +kernel
theorem la_law_d490 : decode code 490 = .ok (.aload_n 3, 1) := by decide +kernel
theorem la_law_d491 : decode code 491 = .ok (.iconst 0, 1) := by decide +kernel
theorem la_law_d492 : decode code 492 = .ok (.laload, 1) := by decide +kernel
theorem la_law_d493 : decode code 493 = .ok (.iload 6, 2) := by decide +kernel
theorem la_law_d495 : decode code 495 = .ok (.i2l, 1) := by decide +kernel
theorem la_law_d496 : decode code 496 = .ok (.lcmp, 1) := by decide +kernel
theorem la_law_d497 : decode code 497 = .ok (.ifCond .eq 5, 3) := by decide +kernel
theorem la_law_d500 : decode code 500 = .ok (.iconst 0, 1) := by decide +kernel
theorem la_law_d501 : decode code 501 = .ok (.ireturn, 1) := by decide +kernel
theorem la_law_d502 : decode code 502 = .ok (.goto 191, 3) := by decide +kernel
theorem la_law_d505 : decode code 505 = .ok (.aload_n 1, 1) := by decide +kernel
theorem la_law_d506 : decode code 506 = .ok (.invokevirtual 77, 3) := by decide +kernel
theorem la_law_d509 : decode code 509 = .ok (.aload_n 2, 1) := by decide +kernel
theorem la_law_d510 : decode code 510 = .ok (.invokevirtual 80, 3) := by decide +kernel
theorem la_law_d513 : decode code 513 = .ok (.if_icmp .eq 180, 3) := by decide +kernel
theorem la_law_d516 : decode code 516 = .ok (.iconst 0, 1) := by decide +kernel
theorem la_law_d517 : decode code 517 = .ok (.ireturn, 1) := by decide +kernel
theorem la_law_d518 : decode code 518 = .ok (.aload_n 1, 1) := by decide +kernel
theorem la_law_d519 : decode code 519 = .ok (.aload_n 0, 1) := by decide +kernel
theorem la_law_d520 : decode code 520 = .ok (.iload 4, 2) := by decide +kernel
theorem la_law_d522 : decode code 522 = .ok (.iconst 1, 1) := by decide +kernel
theorem la_law_d523 : decode code 523 = .ok (.iadd, 1) := by decide +kernel
theorem la_law_d524 : decode code 524 = .ok (.iaload, 1) := by decide +kernel
theorem la_law_d525 : decode code 525 = .ok (.aload_n 3, 1) := by decide +kernel
theorem la_law_d526 : decode code 526 = .ok (.invokestatic 81, 3) := by decide +kernel
theorem la_law_d529 : decode code 529 = .ok (.istore 5, 2) := by decide +kernel
theorem la_law_d531 : decode code 531 = .ok (.aload_n 2, 1) := by decide +kernel
theorem la_law_d532 : decode code 532 = .ok (.aload_n 0, 1) := by decide +kernel
theorem la_law_d533 : decode code 533 = .ok (.iload 4, 2) := by decide +kernel
theorem la_law_d535 : decode code 535 = .ok (.iconst 1, 1) := by decide +kernel
theorem la_law_d536 : decode code 536 = .ok (.iadd, 1) := by decide +kernel
theorem la_law_d537 : decode code 537 = .ok (.iaload, 1) := by decide +kernel
theorem la_law_d538 : decode code 538 = .ok (.invokevirtual 83, 3) := by decide +kernel
theorem la_law_d541 : decode code 541 = .ok (.istore 6, 2) := by decide +kernel
theorem la_law_d543 : decode code 543 = .ok (.aload_n 2, 1) := by decide +kernel
theorem la_law_d544 : decode code 544 = .ok (.invokevirtual 50, 3) := by decide +kernel
theorem la_law_d547 : decode code 547 = .ok (.iload 5, 2) := by decide +kernel
theorem la_law_d549 : decode code 549 = .ok (.if_icmp .eq 5, 3) := by decide +kernel
theorem la_law_d552 : decode code 552 = .ok (.iconst 0, 1) := by decide +kernel
theorem la_law_d553 : decode code 553 = .ok (.ireturn, 1) := by decide +kernel
theorem la_law_d554 : decode code 554 = .ok (.iload 5, 2) := by decide +kernel
theorem la_law_d556 : decode code 556 = .ok (.ifCond .ne 15, 3) := by decide +kernel
theorem la_law_d559 : decode code 559 = .ok (.aload_n 3, 1) := by decide +kernel
theorem la_law_d560 : decode code 560 = .ok (.iconst 0, 1) := by decide +kernel
theorem la_law_d561 : decode code 561 = .ok (.laload, 1) := by decide +kernel
theorem la_law_d562 : decode code 562 = .ok (.iload 6, 2) := by decide +kernel
theorem la_law_d564 : decode code 564 = .ok (.i2l, 1) := by decide +kernel
theorem la_law_d565 : decode code 565 = .ok (.lcmp, 1) := by decide +kernel
theorem la_law_d566 : decode code 566 = .ok (.ifCond .eq 5, 3) := by decide +kernel
theorem la_law_d569 : decode code 569 = .ok (.iconst 0, 1) := by decide +kernel
theorem la_law_d570 : decode code 570 = .ok (.ireturn, 1) := by decide +kernel
theorem la_law_d571 : decode code 571 = .ok (.goto 122, 3) := by decide +kernel
theorem la_law_d574 : decode code 574 = .ok (.aload_n 1, 1) := by decide +kernel
theorem la_law_d575 : decode code 575 = .ok (.invokevirtual 84, 3) := by decide +kernel
theorem la_law_d578 : decode code 578 = .ok (.aload_n 2, 1) := by decide +kernel
theorem la_law_d579 : decode code 579 = .ok (.invokevirtual 88, 3) := by decide +kernel
theorem la_law_d582 : decode code 582 = .ok (.if_icmp .eq 111, 3) := by decide +kernel
theorem la_law_d585 : decode code 585 = .ok (.iconst 0, 1) := by decide +kernel
theorem la_law_d586 : decode code 586 = .ok (.ireturn, 1) := by decide +kernel
theorem la_law_d587 : decode code 587 = .ok (.aload_n 1, 1) := by decide +kernel
theorem la_law_d588 : decode code 588 = .ok (.aload_n 0, 1) := by decide +kernel
theorem la_law_d589 : decode code 589 = .ok (.iload 4, 2) := by decide +kernel
theorem la_law_d591 : decode code 591 = .ok (.iconst 1, 1) := by decide +kernel
theorem la_law_d592 : decode code 592 = .ok (.iadd, 1) := by decide +kernel
theorem la_law_d593 : decode code 593 = .ok (.iaload, 1) := by decide +kernel
theorem la_law_d594 : decode code 594 = .ok (.aload_n 3, 1) := by decide +kernel
theorem la_law_d595 : decode code 595 = .ok (.invokestatic 89, 3) := by decide +kernel
theorem la_law_d598 : decode code 598 = .ok (.istore 5, 2) := by decide +kernel
theorem la_law_d600 : decode code 600 = .ok (.aload_n 2, 1) := by decide +kernel
theorem la_law_d601 : decode code 601 = .ok (.aload_n 0, 1) := by decide +kernel
theorem la_law_d602 : decode code 602 = .ok (.iload 4, 2) := by decide +kernel
theorem la_law_d604 : decode code 604 = .ok (.iconst 1, 1) := by decide +kernel
theorem la_law_d605 : decode code 605 = .ok (.iadd, 1) := by decide +kernel
theorem la_law_d606 : decode code 606 = .ok (.iaload, 1) := by decide +kernel
theorem la_law_d607 : decode code 607 = .ok (.invokevirtual 91, 3) := by decide +kernel
theorem la_law_d610 : decode code 610 = .ok (.istore 6, 2) := by decide +kernel
theorem la_law_d612 : decode code 612 = .ok (.aload_n 2, 1) := by decide +kernel
theorem la_law_d613 : decode code 613 = .ok (.invokevirtual 50, 3) := by decide +kernel
theorem la_law_d616 : decode code 616 = .ok (.iload 5, 2) := by decide +kernel
theorem la_law_d618 : decode code 618 = .ok (.if_icmp .eq 5, 3) := by decide +kernel
theorem la_law_d621 : decode code 621 = .ok (.iconst 0, 1) := by decide +kernel
theorem la_law_d622 : decode code 622 = .ok (.ireturn, 1) := by decide +kernel
theorem la_law_d623 : decode code 623 = .ok (.iload 5, 2) := by decide +kernel
theorem la_law_d625 : decode code 625 = .ok (.ifCond .ne 15, 3) := by decide +kernel
theorem la_law_d628 : decode code 628 = .ok (.aload_n 3, 1) := by decide +kernel
theorem la_law_d629 : decode code 629 = .ok (.iconst 0, 1) := by decide +kernel
theorem la_law_d630 : decode code 630 = .ok (.laload, 1) := by decide +kernel
theorem la_law_d631 : decode code 631 = .ok (.iload 6, 2) := by decide +kernel
theorem la_law_d633 : decode code 633 = .ok (.i2l, 1) := by decide +kernel
theorem la_law_d634 : decode code 634 = .ok (.lcmp, 1) := by decide +kernel
theorem la_law_d635 : decode code 635 = .ok (.ifCond .eq 5, 3) := by decide +kernel
theorem la_law_d638 : decode code 638 = .ok (.iconst 0, 1) := by decide +kernel
theorem la_law_d639 : decode code 639 = .ok (.ireturn, 1) := by decide +kernel
theorem la_law_d640 : decode code 640 = .ok (.goto 53, 3) := by decide +kernel
theorem la_law_d643 : decode code 643 = .ok (.aload_n 1, 1) := by decide +kernel
theorem la_law_d644 : decode code 644 = .ok (.aload_n 0, 1) := by decide +kernel
theorem la_law_d645 : decode code 645 = .ok (.iload 4, 2) := by decide +kernel
theorem la_law_d647 : decode code 647 = .ok (.iconst 1, 1) := by decide +kernel
theorem la_law_d648 : decode code 648 = .ok (.iadd, 1) := by decide +kernel
theorem la_law_d649 : decode code 649 = .ok (.iaload, 1) := by decide +kernel
theorem la_law_d650 : decode code 650 = .ok (.invokevirtual 92, 3) := by decide +kernel
theorem la_law_d653 : decode code 653 = .ok (.aload_n 2, 1) := by decide +kernel
theorem la_law_d654 : decode code 654 = .ok (.aload_n 0, 1) := by decide +kernel
theorem la_law_d655 : decode code 655 = .ok (.iload 4, 2) := by decide +kernel
theorem la_law_d657 : decode code 657 = .ok (.iconst 1, 1) := by decide +kernel
theorem la_law_d658 : decode code 658 = .ok (.iadd, 1) := by decide +kernel
theorem la_law_d659 : decode code 659 = .ok (.iaload, 1) := by decide +kernel
theorem la_law_d660 : decode code 660 = .ok (.invokevirtual 95, 3) := by decide +kernel
theorem la_law_d663 : decode code 663 = .ok (.if_icmp .eq 30, 3) := by decide +kernel
theorem la_law_d666 : decode code 666 = .ok (.iconst 0, 1) := by decide +kernel
theorem la_law_d667 : decode code 667 = .ok (.ireturn, 1) := by decide +kernel
theorem la_law_d668 : decode code 668 = .ok (.aload_n 1, 1) := by decide +kernel
theorem la_law_d669 : decode code 669 = .ok (.aload_n 0, 1) := by decide +kernel
theorem la_law_d670 : decode code 670 = .ok (.iload 4, 2) := by decide +kernel
theorem la_law_d672 : decode code 672 = .ok (.iconst 1, 1) := by decide +kernel
theorem la_law_d673 : decode code 673 = .ok (.iadd, 1) := by decide +kernel
theorem la_law_d674 : decode code 674 = .ok (.iaload, 1) := by decide +kernel
theorem la_law_d675 : decode code 675 = .ok (.invokevirtual 96, 3) := by decide +kernel
theorem la_law_d678 : decode code 678 = .ok (.aload_n 2, 1) := by decide +kernel
theorem la_law_d679 : decode code 679 = .ok (.aload_n 0, 1) := by decide +kernel
theorem la_law_d680 : decode code 680 = .ok (.iload 4, 2) := by decide +kernel
theorem la_law_d682 : decode code 682 = .ok (.iconst 1, 1) := by decide +kernel
theorem la_law_d683 : decode code 683 = .ok (.iadd, 1) := by decide +kernel
theorem la_law_d684 : decode code 684 = .ok (.iaload, 1) := by decide +kernel
theorem la_law_d685 : decode code 685 = .ok (.invokevirtual 99, 3) := by decide +kernel
theorem la_law_d688 : decode code 688 = .ok (.if_icmp .eq 5, 3) := by decide +kernel
theorem la_law_d691 : decode code 691 = .ok (.iconst 0, 1) := by decide +kernel
theorem la_law_d692 : decode code 692 = .ok (.ireturn, 1) := by decide +kernel
theorem la_law_d693 : decode code 693 = .ok (.iinc 4 5, 3) := by decide +kernel
theorem la_law_d696 : decode code 696 = .ok (.goto (-673), 3) := by decide +kernel
theorem la_law_d699 : decode code 699 = .ok (.iconst 1, 1) := by decide +kernel
theorem la_law_d700 : decode code 700 = .ok (.ireturn, 1) := by decide +kernel
