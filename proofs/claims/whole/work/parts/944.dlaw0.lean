theorem dL_law__0 : decode cL_law_ 0 = .ok (.new 8, 3) := by decide +kernel
theorem dL_law__3 : decode cL_law_ 3 = .ok (.dup, 1) := by decide +kernel
theorem dL_law__4 : decode cL_law_ 4 = .ok (.invokespecial 110, 3) := by decide +kernel
theorem dL_law__7 : decode cL_law_ 7 = .ok (.astore_n 1, 1) := by decide +kernel
theorem dL_law__8 : decode cL_law_ 8 = .ok (.new 111, 3) := by decide +kernel
theorem dL_law__11 : decode cL_law_ 11 = .ok (.dup, 1) := by decide +kernel
theorem dL_law__12 : decode cL_law_ 12 = .ok (.invokespecial 113, 3) := by decide +kernel
theorem dL_law__15 : decode cL_law_ 15 = .ok (.astore_n 2, 1) := by decide +kernel
theorem dL_law__16 : decode cL_law_ 16 = .ok (.iconst 1, 1) := by decide +kernel
theorem dL_law__17 : decode cL_law_ 17 = .ok (.newarray .long, 2) := by decide +kernel
theorem dL_law__19 : decode cL_law_ 19 = .ok (.astore_n 3, 1) := by decide +kernel
theorem dL_law__20 : decode cL_law_ 20 = .ok (.iconst 0, 1) := by decide +kernel
theorem dL_law__21 : decode cL_law_ 21 = .ok (.istore 4, 2) := by decide +kernel
theorem dL_law__23 : decode cL_law_ 23 = .ok (.iload 4, 2) := by decide +kernel
theorem dL_law__25 : decode cL_law_ 25 = .ok (.aload_n 0, 1) := by decide +kernel
theorem dL_law__26 : decode cL_law_ 26 = .ok (.arraylength, 1) := by decide +kernel
theorem dL_law__27 : decode cL_law_ 27 = .ok (.bipush 8, 2) := by decide +kernel
theorem dL_law__29 : decode cL_law_ 29 = .ok (.isub, 1) := by decide +kernel
theorem dL_law__30 : decode cL_law_ 30 = .ok (.if_icmp .gt 2483, 3) := by decide +kernel
theorem dL_law__33 : decode cL_law_ 33 = .ok (.aload_n 0, 1) := by decide +kernel
theorem dL_law__34 : decode cL_law_ 34 = .ok (.iload 4, 2) := by decide +kernel
theorem dL_law__36 : decode cL_law_ 36 = .ok (.iaload, 1) := by decide +kernel
theorem dL_law__37 : decode cL_law_ 37 = .ok (.bipush 63, 2) := by decide +kernel
theorem dL_law__39 : decode cL_law_ 39 = .ok (.iand, 1) := by decide +kernel
theorem dL_law__40 : decode cL_law_ 40 = .ok (.tableswitch 2467 0 37 #[168, 241, 297, 353, 409, 465, 478, 491, 547, 603, 671, 739, 795, 851, 864, 996, 1064, 1132, 1188, 1244, 1336, 1392, 1448, 1565, 1645, 1701, 1769, 1837, 1905, 1961, 2017, 2085, 2141, 2259, 2391, 2404, 2417, 2442], 168) := by decide +kernel
theorem dL_law__208 : decode cL_law_ 208 = .ok (.aload_n 1, 1) := by decide +kernel
theorem dL_law__209 : decode cL_law_ 209 = .ok (.aload_n 0, 1) := by decide +kernel
theorem dL_law__210 : decode cL_law_ 210 = .ok (.iload 4, 2) := by decide +kernel
theorem dL_law__212 : decode cL_law_ 212 = .ok (.iconst 1, 1) := by decide +kernel
theorem dL_law__213 : decode cL_law_ 213 = .ok (.iadd, 1) := by decide +kernel
theorem dL_law__214 : decode cL_law_ 214 = .ok (.iaload, 1) := by decide +kernel
theorem dL_law__215 : decode cL_law_ 215 = .ok (.aload_n 0, 1) := by decide +kernel
theorem dL_law__216 : decode cL_law_ 216 = .ok (.iload 4, 2) := by decide +kernel
theorem dL_law__218 : decode cL_law_ 218 = .ok (.iconst 2, 1) := by decide +kernel
theorem dL_law__219 : decode cL_law_ 219 = .ok (.iadd, 1) := by decide +kernel
theorem dL_law__220 : decode cL_law_ 220 = .ok (.iaload, 1) := by decide +kernel
theorem dL_law__221 : decode cL_law_ 221 = .ok (.aload_n 0, 1) := by decide +kernel
theorem dL_law__222 : decode cL_law_ 222 = .ok (.iload 4, 2) := by decide +kernel
theorem dL_law__224 : decode cL_law_ 224 = .ok (.iconst 3, 1) := by decide +kernel
theorem dL_law__225 : decode cL_law_ 225 = .ok (.iadd, 1) := by decide +kernel
theorem dL_law__226 : decode cL_law_ 226 = .ok (.iaload, 1) := by decide +kernel
theorem dL_law__227 : decode cL_law_ 227 = .ok (.aload_n 0, 1) := by decide +kernel
theorem dL_law__228 : decode cL_law_ 228 = .ok (.iload 4, 2) := by decide +kernel
theorem dL_law__230 : decode cL_law_ 230 = .ok (.iconst 4, 1) := by decide +kernel
theorem dL_law__231 : decode cL_law_ 231 = .ok (.iadd, 1) := by decide +kernel
theorem dL_law__232 : decode cL_law_ 232 = .ok (.iaload, 1) := by decide +kernel
theorem dL_law__233 : decode cL_law_ 233 = .ok (.aload_n 0, 1) := by decide +kernel
theorem dL_law__234 : decode cL_law_ 234 = .ok (.iload 4, 2) := by decide +kernel
theorem dL_law__236 : decode cL_law_ 236 = .ok (.iconst 5, 1) := by decide +kernel
theorem dL_law__237 : decode cL_law_ 237 = .ok (.iadd, 1) := by decide +kernel
theorem dL_law__238 : decode cL_law_ 238 = .ok (.iaload, 1) := by decide +kernel
theorem dL_law__239 : decode cL_law_ 239 = .ok (.invokevirtual 114, 3) := by decide +kernel
theorem dL_law__242 : decode cL_law_ 242 = .ok (.aload_n 2, 1) := by decide +kernel
theorem dL_law__243 : decode cL_law_ 243 = .ok (.aload_n 0, 1) := by decide +kernel
theorem dL_law__244 : decode cL_law_ 244 = .ok (.iload 4, 2) := by decide +kernel
theorem dL_law__246 : decode cL_law_ 246 = .ok (.iconst 1, 1) := by decide +kernel
theorem dL_law__247 : decode cL_law_ 247 = .ok (.iadd, 1) := by decide +kernel
theorem dL_law__248 : decode cL_law_ 248 = .ok (.iaload, 1) := by decide +kernel
theorem dL_law__249 : decode cL_law_ 249 = .ok (.aload_n 0, 1) := by decide +kernel
theorem dL_law__250 : decode cL_law_ 250 = .ok (.iload 4, 2) := by decide +kernel
theorem dL_law__252 : decode cL_law_ 252 = .ok (.iconst 2, 1) := by decide +kernel
theorem dL_law__253 : decode cL_law_ 253 = .ok (.iadd, 1) := by decide +kernel
theorem dL_law__254 : decode cL_law_ 254 = .ok (.iaload, 1) := by decide +kernel
theorem dL_law__255 : decode cL_law_ 255 = .ok (.aload_n 0, 1) := by decide +kernel
theorem dL_law__256 : decode cL_law_ 256 = .ok (.iload 4, 2) := by decide +kernel
theorem dL_law__258 : decode cL_law_ 258 = .ok (.iconst 3, 1) := by decide +kernel
theorem dL_law__259 : decode cL_law_ 259 = .ok (.iadd, 1) := by decide +kernel
theorem dL_law__260 : decode cL_law_ 260 = .ok (.iaload, 1) := by decide +kernel
theorem dL_law__261 : decode cL_law_ 261 = .ok (.aload_n 0, 1) := by decide +kernel
theorem dL_law__262 : decode cL_law_ 262 = .ok (.iload 4, 2) := by decide +kernel
theorem dL_law__264 : decode cL_law_ 264 = .ok (.iconst 4, 1) := by decide +kernel
theorem dL_law__265 : decode cL_law_ 265 = .ok (.iadd, 1) := by decide +kernel
theorem dL_law__266 : decode cL_law_ 266 = .ok (.iaload, 1) := by decide +kernel
theorem dL_law__267 : decode cL_law_ 267 = .ok (.aload_n 0, 1) := by decide +kernel
theorem dL_law__268 : decode cL_law_ 268 = .ok (.iload 4, 2) := by decide +kernel
theorem dL_law__270 : decode cL_law_ 270 = .ok (.iconst 5, 1) := by decide +kernel
theorem dL_law__271 : decode cL_law_ 271 = .ok (.iadd, 1) := by decide +kernel
theorem dL_law__272 : decode cL_law_ 272 = .ok (.iaload, 1) := by decide +kernel
theorem dL_law__273 : decode cL_law_ 273 = .ok (.invokevirtual 118, 3) := by decide +kernel
theorem dL_law__276 : decode cL_law_ 276 = .ok (.if_icmp .eq 2231, 3) := by decide +kernel
theorem dL_law__279 : decode cL_law_ 279 = .ok (.iconst 0, 1) := by decide +kernel
theorem dL_law__280 : decode cL_law_ 280 = .ok (.ireturn, 1) := by decide +kernel
theorem dL_law__281 : decode cL_law_ 281 = .ok (.aload_n 1, 1) := by decide +kernel
theorem dL_law__282 : decode cL_law_ 282 = .ok (.aload_n 0, 1) := by decide +kernel
theorem dL_law__283 : decode cL_law_ 283 = .ok (.iload 4, 2) := by decide +kernel
theorem dL_law__285 : decode cL_law_ 285 = .ok (.iconst 1, 1) := by decide +kernel
theorem dL_law__286 : decode cL_law_ 286 = .ok (.iadd, 1) := by decide +kernel
theorem dL_law__287 : decode cL_law_ 287 = .ok (.iaload, 1) := by decide +kernel
theorem dL_law__288 : decode cL_law_ 288 = .ok (.aload_n 3, 1) := by decide +kernel
theorem dL_law__289 : decode cL_law_ 289 = .ok (.invokestatic 119, 3) := by decide +kernel
theorem dL_law__292 : decode cL_law_ 292 = .ok (.istore 5, 2) := by decide +kernel
theorem dL_law__294 : decode cL_law_ 294 = .ok (.aload_n 2, 1) := by decide +kernel
theorem dL_law__295 : decode cL_law_ 295 = .ok (.aload_n 0, 1) := by decide +kernel
theorem dL_law__296 : decode cL_law_ 296 = .ok (.iload 4, 2) := by decide +kernel
theorem dL_law__298 : decode cL_law_ 298 = .ok (.iconst 1, 1) := by decide +kernel
theorem dL_law__299 : decode cL_law_ 299 = .ok (.iadd, 1) := by decide +kernel
theorem dL_law__300 : decode cL_law_ 300 = .ok (.iaload, 1) := by decide +kernel
theorem dL_law__301 : decode cL_law_ 301 = .ok (.invokevirtual 124, 3) := by decide +kernel
theorem dL_law__304 : decode cL_law_ 304 = .ok (.istore 6, 2) := by decide +kernel
theorem dL_law__306 : decode cL_law_ 306 = .ok (.aload_n 2, 1) := by decide +kernel
theorem dL_law__307 : decode cL_law_ 307 = .ok (.invokevirtual 125, 3) := by decide +kernel
theorem dL_law__310 : decode cL_law_ 310 = .ok (.iload 5, 2) := by decide +kernel
theorem dL_law__312 : decode cL_law_ 312 = .ok (.if_icmp .eq 5, 3) := by decide +kernel
theorem dL_law__315 : decode cL_law_ 315 = .ok (.iconst 0, 1) := by decide +kernel
theorem dL_law__316 : decode cL_law_ 316 = .ok (.ireturn, 1) := by decide +kernel
theorem dL_law__317 : decode cL_law_ 317 = .ok (.iload 5, 2) := by decide +kernel
theorem dL_law__319 : decode cL_law_ 319 = .ok (.ifCond .ne 15, 3) := by decide +kernel
theorem dL_law__322 : decode cL_law_ 322 = .ok (.aload_n 3, 1) := by decide +kernel
theorem dL_law__323 : decode cL_law_ 323 = .ok (.iconst 0, 1) := by decide +kernel
theorem dL_law__324 : decode cL_law_ 324 = .ok (.laload, 1) := by decide +kernel
theorem dL_law__325 : decode cL_law_ 325 = .ok (.iload 6, 2) := by decide +kernel
theorem dL_law__327 : decode cL_law_ 327 = .ok (.i2l, 1) := by decide +kernel
theorem dL_law__328 : decode cL_law_ 328 = .ok (.lcmp, 1) := by decide +kernel
theorem dL_law__329 : decode cL_law_ 329 = .ok (.ifCond .eq 5, 3) := by decide +kernel
theorem dL_law__332 : decode cL_law_ 332 = .ok (.iconst 0, 1) := by decide +kernel
theorem dL_law__333 : decode cL_law_ 333 = .ok (.ireturn, 1) := by decide +kernel
theorem dL_law__334 : decode cL_law_ 334 = .ok (.goto 2173, 3) := by decide +kernel
theorem dL_law__337 : decode cL_law_ 337 = .ok (.aload_n 1, 1) := by decide +kernel
theorem dL_law__338 : decode cL_law_ 338 = .ok (.aload_n 0, 1) := by decide +kernel
theorem dL_law__339 : decode cL_law_ 339 = .ok (.iload 4, 2) := by decide +kernel
theorem dL_law__341 : decode cL_law_ 341 = .ok (.iconst 1, 1) := by decide +kernel
theorem dL_law__342 : decode cL_law_ 342 = .ok (.iadd, 1) := by decide +kernel
theorem dL_law__343 : decode cL_law_ 343 = .ok (.iaload, 1) := by decide +kernel
theorem dL_law__344 : decode cL_law_ 344 = .ok (.aload_n 3, 1) := by decide +kernel
theorem dL_law__345 : decode cL_law_ 345 = .ok (.invokestatic 129, 3) := by decide +kernel
theorem dL_law__348 : decode cL_law_ 348 = .ok (.istore 5, 2) := by decide +kernel
theorem dL_law__350 : decode cL_law_ 350 = .ok (.aload_n 2, 1) := by decide +kernel
theorem dL_law__351 : decode cL_law_ 351 = .ok (.aload_n 0, 1) := by decide +kernel
theorem dL_law__352 : decode cL_law_ 352 = .ok (.iload 4, 2) := by decide +kernel
theorem dL_law__354 : decode cL_law_ 354 = .ok (.iconst 1, 1) := by decide +kernel
theorem dL_law__355 : decode cL_law_ 355 = .ok (.iadd, 1) := by decide +kernel
theorem dL_law__356 : decode cL_law_ 356 = .ok (.iaload, 1) := by decide +kernel
theorem dL_law__357 : decode cL_law_ 357 = .ok (.invokevirtual 131, 3) := by decide +kernel
theorem dL_law__360 : decode cL_law_ 360 = .ok (.istore 6, 2) := by decide +kernel
theorem dL_law__362 : decode cL_law_ 362 = .ok (.aload_n 2, 1) := by decide +kernel
theorem dL_law__363 : decode cL_law_ 363 = .ok (.invokevirtual 125, 3) := by decide +kernel
theorem dL_law__366 : decode cL_law_ 366 = .ok (.iload 5, 2) := by decide +kernel
theorem dL_law__368 : decode cL_law_ 368 = .ok (.if_icmp .eq 5, 3) := by decide +kernel
theorem dL_law__371 : decode cL_law_ 371 = .ok (.iconst 0, 1) := by decide +kernel
theorem dL_law__372 : decode cL_law_ 372 = .ok (.ireturn, 1) := by decide +kernel
theorem dL_law__373 : decode cL_law_ 373 = .ok (.iload 5, 2) := by decide +kernel
theorem dL_law__375 : decode cL_law_ 375 = .ok (.ifCond .ne 15, 3) := by decide +kernel
theorem dL_law__378 : decode cL_law_ 378 = .ok (.aload_n 3, 1) := by decide +kernel
theorem dL_law__379 : decode cL_law_ 379 = .ok (.iconst 0, 1) := by decide +kernel
theorem dL_law__380 : decode cL_law_ 380 = .ok (.laload, 1) := by decide +kernel
theorem dL_law__381 : decode cL_law_ 381 = .ok (.iload 6, 2) := by decide +kernel
theorem dL_law__383 : decode cL_law_ 383 = .ok (.i2l, 1) := by decide +kernel
theorem dL_law__384 : decode cL_law_ 384 = .ok (.lcmp, 1) := by decide +kernel
theorem dL_law__385 : decode cL_law_ 385 = .ok (.ifCond .eq 5, 3) := by decide +kernel
theorem dL_law__388 : decode cL_law_ 388 = .ok (.iconst 0, 1) := by decide +kernel
theorem dL_law__389 : decode cL_law_ 389 = .ok (.ireturn, 1) := by decide +kernel
theorem dL_law__390 : decode cL_law_ 390 = .ok (.goto 2117, 3) := by decide +kernel
theorem dL_law__393 : decode cL_law_ 393 = .ok (.aload_n 1, 1) := by decide +kernel
theorem dL_law__394 : decode cL_law_ 394 = .ok (.aload_n 0, 1) := by decide +kernel
theorem dL_law__395 : decode cL_law_ 395 = .ok (.iload 4, 2) := by decide +kernel
theorem dL_law__397 : decode cL_law_ 397 = .ok (.iconst 1, 1) := by decide +kernel
theorem dL_law__398 : decode cL_law_ 398 = .ok (.iadd, 1) := by decide +kernel
theorem dL_law__399 : decode cL_law_ 399 = .ok (.iaload, 1) := by decide +kernel
theorem dL_law__400 : decode cL_law_ 400 = .ok (.aload_n 3, 1) := by decide +kernel
theorem dL_law__401 : decode cL_law_ 401 = .ok (.invokestatic 132, 3) := by decide +kernel
theorem dL_law__404 : decode cL_law_ 404 = .ok (.istore 5, 2) := by decide +kernel
theorem dL_law__406 : decode cL_law_ 406 = .ok (.aload_n 2, 1) := by decide +kernel
theorem dL_law__407 : decode cL_law_ 407 = .ok (.aload_n 0, 1) := by decide +kernel
theorem dL_law__408 : decode cL_law_ 408 = .ok (.iload 4, 2) := by decide +kernel
theorem dL_law__410 : decode cL_law_ 410 = .ok (.iconst 1, 1) := by decide +kernel
theorem dL_law__411 : decode cL_law_ 411 = .ok (.iadd, 1) := by decide +kernel
theorem dL_law__412 : decode cL_law_ 412 = .ok (.iaload, 1) := by decide +kernel
theorem dL_law__413 : decode cL_law_ 413 = .ok (.invokevirtual 134, 3) := by decide +kernel
theorem dL_law__416 : decode cL_law_ 416 = .ok (.istore 6, 2) := by decide +kernel
theorem dL_law__418 : decode cL_law_ 418 = .ok (.aload_n 2, 1) := by decide +kernel
theorem dL_law__419 : decode cL_law_ 419 = .ok (.invokevirtual 125, 3) := by decide +kernel
theorem dL_law__422 : decode cL_law_ 422 = .ok (.iload 5, 2) := by decide +kernel
theorem dL_law__424 : decode cL_law_ 424 = .ok (.if_icmp .eq 5, 3) := by decide +kernel
theorem dL_law__427 : decode cL_law_ 427 = .ok (.iconst 0, 1) := by decide +kernel
theorem dL_law__428 : decode cL_law_ 428 = .ok (.ireturn, 1) := by decide +kernel
theorem dL_law__429 : decode cL_law_ 429 = .ok (.iload 5, 2) := by decide +kernel
theorem dL_law__431 : decode cL_law_ 431 = .ok (.ifCond .ne 15, 3) := by decide +kernel
theorem dL_law__434 : decode cL_law_ 434 = .ok (.aload_n 3, 1) := by decide +kernel
theorem dL_law__435 : decode cL_law_ 435 = .ok (.iconst 0, 1) := by decide +kernel
theorem dL_law__436 : decode cL_law_ 436 = .ok (.laload, 1) := by decide +kernel
theorem dL_law__437 : decode cL_law_ 437 = .ok (.iload 6, 2) := by decide +kernel
theorem dL_law__439 : decode cL_law_ 439 = .ok (.i2l, 1) := by decide +kernel
theorem dL_law__440 : decode cL_law_ 440 = .ok (.lcmp, 1) := by decide +kernel
theorem dL_law__441 : decode cL_law_ 441 = .ok (.ifCond .eq 5, 3) := by decide +kernel
theorem dL_law__444 : decode cL_law_ 444 = .ok (.iconst 0, 1) := by decide +kernel
theorem dL_law__445 : decode cL_law_ 445 = .ok (.ireturn, 1) := by decide +kernel
theorem dL_law__446 : decode cL_law_ 446 = .ok (.goto 2061, 3) := by decide +kernel
theorem dL_law__449 : decode cL_law_ 449 = .ok (.aload_n 1, 1) := by decide +kernel
theorem dL_law__450 : decode cL_law_ 450 = .ok (.aload_n 0, 1) := by decide +kernel
theorem dL_law__451 : decode cL_law_ 451 = .ok (.iload 4, 2) := by decide +kernel
theorem dL_law__453 : decode cL_law_ 453 = .ok (.iconst 1, 1) := by decide +kernel
theorem dL_law__454 : decode cL_law_ 454 = .ok (.iadd, 1) := by decide +kernel
theorem dL_law__455 : decode cL_law_ 455 = .ok (.iaload, 1) := by decide +kernel
theorem dL_law__456 : decode cL_law_ 456 = .ok (.aload_n 3, 1) := by decide +kernel
theorem dL_law__457 : decode cL_law_ 457 = .ok (.invokestatic 135, 3) := by decide +kernel
theorem dL_law__460 : decode cL_law_ 460 = .ok (.istore 5, 2) := by decide +kernel
theorem dL_law__462 : decode cL_law_ 462 = .ok (.aload_n 2, 1) := by decide +kernel
theorem dL_law__463 : decode cL_law_ 463 = .ok (.aload_n 0, 1) := by decide +kernel
theorem dL_law__464 : decode cL_law_ 464 = .ok (.iload 4, 2) := by decide +kernel
theorem dL_law__466 : decode cL_law_ 466 = .ok (.iconst 1, 1) := by decide +kernel
theorem dL_law__467 : decode cL_law_ 467 = .ok (.iadd, 1) := by decide +kernel
theorem dL_law__468 : decode cL_law_ 468 = .ok (.iaload, 1) := by decide +kernel
theorem dL_law__469 : decode cL_law_ 469 = .ok (.invokevirtual 137, 3) := by decide +kernel
theorem dL_law__472 : decode cL_law_ 472 = .ok (.istore 6, 2) := by decide +kernel
theorem dL_law__474 : decode cL_law_ 474 = .ok (.aload_n 2, 1) := by decide +kernel
theorem dL_law__475 : decode cL_law_ 475 = .ok (.invokevirtual 125, 3) := by decide +kernel
theorem dL_law__478 : decode cL_law_ 478 = .ok (.iload 5, 2) := by decide +kernel
theorem dL_law__480 : decode cL_law_ 480 = .ok (.if_icmp .eq 5, 3) := by decide +kernel
theorem dL_law__483 : decode cL_law_ 483 = .ok (.iconst 0, 1) := by decide +kernel
theorem dL_law__484 : decode cL_law_ 484 = .ok (.ireturn, 1) := by decide +kernel
theorem dL_law__485 : decode cL_law_ 485 = .ok (.iload 5, 2) := by decide +kernel
theorem dL_law__487 : decode cL_law_ 487 = .ok (.ifCond .ne 15, 3) := by decide +kernel
theorem dL_law__490 : decode cL_law_ 490 = .ok (.aload_n 3, 1) := by decide +kernel
theorem dL_law__491 : decode cL_law_ 491 = .ok (.iconst 0, 1) := by decide +kernel
theorem dL_law__492 : decode cL_law_ 492 = .ok (.laload, 1) := by decide +kernel
theorem dL_law__493 : decode cL_law_ 493 = .ok (.iload 6, 2) := by decide +kernel
theorem dL_law__495 : decode cL_law_ 495 = .ok (.i2l, 1) := by decide +kernel
theorem dL_law__496 : decode cL_law_ 496 = .ok (.lcmp, 1) := by decide +kernel
theorem dL_law__497 : decode cL_law_ 497 = .ok (.ifCond .eq 5, 3) := by decide +kernel
theorem dL_law__500 : decode cL_law_ 500 = .ok (.iconst 0, 1) := by decide +kernel
theorem dL_law__501 : decode cL_law_ 501 = .ok (.ireturn, 1) := by decide +kernel
theorem dL_law__502 : decode cL_law_ 502 = .ok (.goto 2005, 3) := by decide +kernel
theorem dL_law__505 : decode cL_law_ 505 = .ok (.aload_n 1, 1) := by decide +kernel
theorem dL_law__506 : decode cL_law_ 506 = .ok (.invokevirtual 138, 3) := by decide +kernel
theorem dL_law__509 : decode cL_law_ 509 = .ok (.aload_n 2, 1) := by decide +kernel
theorem dL_law__510 : decode cL_law_ 510 = .ok (.invokevirtual 141, 3) := by decide +kernel
theorem dL_law__513 : decode cL_law_ 513 = .ok (.if_icmp .eq 1994, 3) := by decide +kernel
theorem dL_law__516 : decode cL_law_ 516 = .ok (.iconst 0, 1) := by decide +kernel
theorem dL_law__517 : decode cL_law_ 517 = .ok (.ireturn, 1) := by decide +kernel
theorem dL_law__518 : decode cL_law_ 518 = .ok (.aload_n 1, 1) := by decide +kernel
theorem dL_law__519 : decode cL_law_ 519 = .ok (.invokevirtual 142, 3) := by decide +kernel
theorem dL_law__522 : decode cL_law_ 522 = .ok (.aload_n 2, 1) := by decide +kernel
theorem dL_law__523 : decode cL_law_ 523 = .ok (.invokevirtual 145, 3) := by decide +kernel
theorem dL_law__526 : decode cL_law_ 526 = .ok (.if_icmp .eq 1981, 3) := by decide +kernel
theorem dL_law__529 : decode cL_law_ 529 = .ok (.iconst 0, 1) := by decide +kernel
theorem dL_law__530 : decode cL_law_ 530 = .ok (.ireturn, 1) := by decide +kernel
theorem dL_law__531 : decode cL_law_ 531 = .ok (.aload_n 1, 1) := by decide +kernel
theorem dL_law__532 : decode cL_law_ 532 = .ok (.aload_n 0, 1) := by decide +kernel
theorem dL_law__533 : decode cL_law_ 533 = .ok (.iload 4, 2) := by decide +kernel
theorem dL_law__535 : decode cL_law_ 535 = .ok (.iconst 1, 1) := by decide +kernel
theorem dL_law__536 : decode cL_law_ 536 = .ok (.iadd, 1) := by decide +kernel
theorem dL_law__537 : decode cL_law_ 537 = .ok (.iaload, 1) := by decide +kernel
theorem dL_law__538 : decode cL_law_ 538 = .ok (.aload_n 3, 1) := by decide +kernel
theorem dL_law__539 : decode cL_law_ 539 = .ok (.invokestatic 146, 3) := by decide +kernel
theorem dL_law__542 : decode cL_law_ 542 = .ok (.istore 5, 2) := by decide +kernel
theorem dL_law__544 : decode cL_law_ 544 = .ok (.aload_n 2, 1) := by decide +kernel
theorem dL_law__545 : decode cL_law_ 545 = .ok (.aload_n 0, 1) := by decide +kernel
theorem dL_law__546 : decode cL_law_ 546 = .ok (.iload 4, 2) := by decide +kernel
theorem dL_law__548 : decode cL_law_ 548 = .ok (.iconst 1, 1) := by decide +kernel
theorem dL_law__549 : decode cL_law_ 549 = .ok (.iadd, 1) := by decide +kernel
theorem dL_law__550 : decode cL_law_ 550 = .ok (.iaload, 1) := by decide +kernel
theorem dL_law__551 : decode cL_law_ 551 = .ok (.invokevirtual 148, 3) := by decide +kernel
theorem dL_law__554 : decode cL_law_ 554 = .ok (.istore 6, 2) := by decide +kernel
theorem dL_law__556 : decode cL_law_ 556 = .ok (.aload_n 2, 1) := by decide +kernel
theorem dL_law__557 : decode cL_law_ 557 = .ok (.invokevirtual 125, 3) := by decide +kernel
theorem dL_law__560 : decode cL_law_ 560 = .ok (.iload 5, 2) := by decide +kernel
theorem dL_law__562 : decode cL_law_ 562 = .ok (.if_icmp .eq 5, 3) := by decide +kernel
theorem dL_law__565 : decode cL_law_ 565 = .ok (.iconst 0, 1) := by decide +kernel
theorem dL_law__566 : decode cL_law_ 566 = .ok (.ireturn, 1) := by decide +kernel
theorem dL_law__567 : decode cL_law_ 567 = .ok (.iload 5, 2) := by decide +kernel
theorem dL_law__569 : decode cL_law_ 569 = .ok (.ifCond .ne 15, 3) := by decide +kernel
theorem dL_law__572 : decode cL_law_ 572 = .ok (.aload_n 3, 1) := by decide +kernel
theorem dL_law__573 : decode cL_law_ 573 = .ok (.iconst 0, 1) := by decide +kernel
theorem dL_law__574 : decode cL_law_ 574 = .ok (.laload, 1) := by decide +kernel
theorem dL_law__575 : decode cL_law_ 575 = .ok (.iload 6, 2) := by decide +kernel
theorem dL_law__577 : decode cL_law_ 577 = .ok (.i2l, 1) := by decide +kernel
theorem dL_law__578 : decode cL_law_ 578 = .ok (.lcmp, 1) := by decide +kernel
theorem dL_law__579 : decode cL_law_ 579 = .ok (.ifCond .eq 5, 3) := by decide +kernel
theorem dL_law__582 : decode cL_law_ 582 = .ok (.iconst 0, 1) := by decide +kernel
theorem dL_law__583 : decode cL_law_ 583 = .ok (.ireturn, 1) := by decide +kernel
theorem dL_law__584 : decode cL_law_ 584 = .ok (.goto 1923, 3) := by decide +kernel
theorem dL_law__587 : decode cL_law_ 587 = .ok (.aload_n 1, 1) := by decide +kernel
theorem dL_law__588 : decode cL_law_ 588 = .ok (.aload_n 0, 1) := by decide +kernel
theorem dL_law__589 : decode cL_law_ 589 = .ok (.iload 4, 2) := by decide +kernel
theorem dL_law__591 : decode cL_law_ 591 = .ok (.iconst 1, 1) := by decide +kernel
theorem dL_law__592 : decode cL_law_ 592 = .ok (.iadd, 1) := by decide +kernel
theorem dL_law__593 : decode cL_law_ 593 = .ok (.iaload, 1) := by decide +kernel
theorem dL_law__594 : decode cL_law_ 594 = .ok (.aload_n 3, 1) := by decide +kernel
theorem dL_law__595 : decode cL_law_ 595 = .ok (.invokestatic 149, 3) := by decide +kernel
theorem dL_law__598 : decode cL_law_ 598 = .ok (.istore 5, 2) := by decide +kernel
theorem dL_law__600 : decode cL_law_ 600 = .ok (.aload_n 2, 1) := by decide +kernel
theorem dL_law__601 : decode cL_law_ 601 = .ok (.aload_n 0, 1) := by decide +kernel
theorem dL_law__602 : decode cL_law_ 602 = .ok (.iload 4, 2) := by decide +kernel
theorem dL_law__604 : decode cL_law_ 604 = .ok (.iconst 1, 1) := by decide +kernel
theorem dL_law__605 : decode cL_law_ 605 = .ok (.iadd, 1) := by decide +kernel
theorem dL_law__606 : decode cL_law_ 606 = .ok (.iaload, 1) := by decide +kernel
theorem dL_law__607 : decode cL_law_ 607 = .ok (.invokevirtual 151, 3) := by decide +kernel
theorem dL_law__610 : decode cL_law_ 610 = .ok (.istore 6, 2) := by decide +kernel
theorem dL_law__612 : decode cL_law_ 612 = .ok (.aload_n 2, 1) := by decide +kernel
theorem dL_law__613 : decode cL_law_ 613 = .ok (.invokevirtual 125, 3) := by decide +kernel
theorem dL_law__616 : decode cL_law_ 616 = .ok (.iload 5, 2) := by decide +kernel
theorem dL_law__618 : decode cL_law_ 618 = .ok (.if_icmp .eq 5, 3) := by decide +kernel
theorem dL_law__621 : decode cL_law_ 621 = .ok (.iconst 0, 1) := by decide +kernel
theorem dL_law__622 : decode cL_law_ 622 = .ok (.ireturn, 1) := by decide +kernel
theorem dL_law__623 : decode cL_law_ 623 = .ok (.iload 5, 2) := by decide +kernel
theorem dL_law__625 : decode cL_law_ 625 = .ok (.ifCond .ne 15, 3) := by decide +kernel
theorem dL_law__628 : decode cL_law_ 628 = .ok (.aload_n 3, 1) := by decide +kernel
theorem dL_law__629 : decode cL_law_ 629 = .ok (.iconst 0, 1) := by decide +kernel
theorem dL_law__630 : decode cL_law_ 630 = .ok (.laload, 1) := by decide +kernel
theorem dL_law__631 : decode cL_law_ 631 = .ok (.iload 6, 2) := by decide +kernel
theorem dL_law__633 : decode cL_law_ 633 = .ok (.i2l, 1) := by decide +kernel
theorem dL_law__634 : decode cL_law_ 634 = .ok (.lcmp, 1) := by decide +kernel
theorem dL_law__635 : decode cL_law_ 635 = .ok (.ifCond .eq 5, 3) := by decide +kernel
theorem dL_law__638 : decode cL_law_ 638 = .ok (.iconst 0, 1) := by decide +kernel
theorem dL_law__639 : decode cL_law_ 639 = .ok (.ireturn, 1) := by decide +kernel
theorem dL_law__640 : decode cL_law_ 640 = .ok (.goto 1867, 3) := by decide +kernel
theorem dL_law__643 : decode cL_law_ 643 = .ok (.aload_n 1, 1) := by decide +kernel
theorem dL_law__644 : decode cL_law_ 644 = .ok (.aload_n 0, 1) := by decide +kernel
theorem dL_law__645 : decode cL_law_ 645 = .ok (.iload 4, 2) := by decide +kernel
theorem dL_law__647 : decode cL_law_ 647 = .ok (.iconst 1, 1) := by decide +kernel
theorem dL_law__648 : decode cL_law_ 648 = .ok (.iadd, 1) := by decide +kernel
theorem dL_law__649 : decode cL_law_ 649 = .ok (.iaload, 1) := by decide +kernel
theorem dL_law__650 : decode cL_law_ 650 = .ok (.aload_n 0, 1) := by decide +kernel
theorem dL_law__651 : decode cL_law_ 651 = .ok (.iload 4, 2) := by decide +kernel
theorem dL_law__653 : decode cL_law_ 653 = .ok (.iconst 2, 1) := by decide +kernel
theorem dL_law__654 : decode cL_law_ 654 = .ok (.iadd, 1) := by decide +kernel
theorem dL_law__655 : decode cL_law_ 655 = .ok (.iaload, 1) := by decide +kernel
theorem dL_law__656 : decode cL_law_ 656 = .ok (.aload_n 3, 1) := by decide +kernel
theorem dL_law__657 : decode cL_law_ 657 = .ok (.invokestatic 152, 3) := by decide +kernel
theorem dL_law__660 : decode cL_law_ 660 = .ok (.istore 5, 2) := by decide +kernel
theorem dL_law__662 : decode cL_law_ 662 = .ok (.aload_n 2, 1) := by decide +kernel
theorem dL_law__663 : decode cL_law_ 663 = .ok (.aload_n 0, 1) := by decide +kernel
theorem dL_law__664 : decode cL_law_ 664 = .ok (.iload 4, 2) := by decide +kernel
theorem dL_law__666 : decode cL_law_ 666 = .ok (.iconst 1, 1) := by decide +kernel
theorem dL_law__667 : decode cL_law_ 667 = .ok (.iadd, 1) := by decide +kernel
theorem dL_law__668 : decode cL_law_ 668 = .ok (.iaload, 1) := by decide +kernel
theorem dL_law__669 : decode cL_law_ 669 = .ok (.aload_n 0, 1) := by decide +kernel
theorem dL_law__670 : decode cL_law_ 670 = .ok (.iload 4, 2) := by decide +kernel
theorem dL_law__672 : decode cL_law_ 672 = .ok (.iconst 2, 1) := by decide +kernel
theorem dL_law__673 : decode cL_law_ 673 = .ok (.iadd, 1) := by decide +kernel
theorem dL_law__674 : decode cL_law_ 674 = .ok (.iaload, 1) := by decide +kernel
theorem dL_law__675 : decode cL_law_ 675 = .ok (.invokevirtual 155, 3) := by decide +kernel
theorem dL_law__678 : decode cL_law_ 678 = .ok (.istore 6, 2) := by decide +kernel
theorem dL_law__680 : decode cL_law_ 680 = .ok (.aload_n 2, 1) := by decide +kernel
theorem dL_law__681 : decode cL_law_ 681 = .ok (.invokevirtual 125, 3) := by decide +kernel
theorem dL_law__684 : decode cL_law_ 684 = .ok (.iload 5, 2) := by decide +kernel
theorem dL_law__686 : decode cL_law_ 686 = .ok (.if_icmp .eq 5, 3) := by decide +kernel
theorem dL_law__689 : decode cL_law_ 689 = .ok (.iconst 0, 1) := by decide +kernel
theorem dL_law__690 : decode cL_law_ 690 = .ok (.ireturn, 1) := by decide +kernel
theorem dL_law__691 : decode cL_law_ 691 = .ok (.iload 5, 2) := by decide +kernel
theorem dL_law__693 : decode cL_law_ 693 = .ok (.ifCond .ne 15, 3) := by decide +kernel
theorem dL_law__696 : decode cL_law_ 696 = .ok (.aload_n 3, 1) := by decide +kernel
theorem dL_law__697 : decode cL_law_ 697 = .ok (.iconst 0, 1) := by decide +kernel
theorem dL_law__698 : decode cL_law_ 698 = .ok (.laload, 1) := by decide +kernel
theorem dL_law__699 : decode cL_law_ 699 = .ok (.iload 6, 2) := by decide +kernel
theorem dL_law__701 : decode cL_law_ 701 = .ok (.i2l, 1) := by decide +kernel
theorem dL_law__702 : decode cL_law_ 702 = .ok (.lcmp, 1) := by decide +kernel
theorem dL_law__703 : decode cL_law_ 703 = .ok (.ifCond .eq 5, 3) := by decide +kernel
theorem dL_law__706 : decode cL_law_ 706 = .ok (.iconst 0, 1) := by decide +kernel
theorem dL_law__707 : decode cL_law_ 707 = .ok (.ireturn, 1) := by decide +kernel
theorem dL_law__708 : decode cL_law_ 708 = .ok (.goto 1799, 3) := by decide +kernel
theorem dL_law__711 : decode cL_law_ 711 = .ok (.aload_n 1, 1) := by decide +kernel
theorem dL_law__712 : decode cL_law_ 712 = .ok (.aload_n 0, 1) := by decide +kernel
theorem dL_law__713 : decode cL_law_ 713 = .ok (.iload 4, 2) := by decide +kernel
theorem dL_law__715 : decode cL_law_ 715 = .ok (.iconst 1, 1) := by decide +kernel
theorem dL_law__716 : decode cL_law_ 716 = .ok (.iadd, 1) := by decide +kernel
theorem dL_law__717 : decode cL_law_ 717 = .ok (.iaload, 1) := by decide +kernel
theorem dL_law__718 : decode cL_law_ 718 = .ok (.aload_n 0, 1) := by decide +kernel
theorem dL_law__719 : decode cL_law_ 719 = .ok (.iload 4, 2) := by decide +kernel
theorem dL_law__721 : decode cL_law_ 721 = .ok (.iconst 2, 1) := by decide +kernel
theorem dL_law__722 : decode cL_law_ 722 = .ok (.iadd, 1) := by decide +kernel
theorem dL_law__723 : decode cL_law_ 723 = .ok (.iaload, 1) := by decide +kernel
theorem dL_law__724 : decode cL_law_ 724 = .ok (.aload_n 3, 1) := by decide +kernel
theorem dL_law__725 : decode cL_law_ 725 = .ok (.invokestatic 156, 3) := by decide +kernel
theorem dL_law__728 : decode cL_law_ 728 = .ok (.istore 5, 2) := by decide +kernel
theorem dL_law__730 : decode cL_law_ 730 = .ok (.aload_n 2, 1) := by decide +kernel
theorem dL_law__731 : decode cL_law_ 731 = .ok (.aload_n 0, 1) := by decide +kernel
theorem dL_law__732 : decode cL_law_ 732 = .ok (.iload 4, 2) := by decide +kernel
theorem dL_law__734 : decode cL_law_ 734 = .ok (.iconst 1, 1) := by decide +kernel
theorem dL_law__735 : decode cL_law_ 735 = .ok (.iadd, 1) := by decide +kernel
theorem dL_law__736 : decode cL_law_ 736 = .ok (.iaload, 1) := by decide +kernel
theorem dL_law__737 : decode cL_law_ 737 = .ok (.aload_n 0, 1) := by decide +kernel
theorem dL_law__738 : decode cL_law_ 738 = .ok (.iload 4, 2) := by decide +kernel
theorem dL_law__740 : decode cL_law_ 740 = .ok (.iconst 2, 1) := by decide +kernel
theorem dL_law__741 : decode cL_law_ 741 = .ok (.iadd, 1) := by decide +kernel
theorem dL_law__742 : decode cL_law_ 742 = .ok (.iaload, 1) := by decide +kernel
theorem dL_law__743 : decode cL_law_ 743 = .ok (.invokevirtual 158, 3) := by decide +kernel
theorem dL_law__746 : decode cL_law_ 746 = .ok (.istore 6, 2) := by decide +kernel
theorem dL_law__748 : decode cL_law_ 748 = .ok (.aload_n 2, 1) := by decide +kernel
theorem dL_law__749 : decode cL_law_ 749 = .ok (.invokevirtual 125, 3) := by decide +kernel
theorem dL_law__752 : decode cL_law_ 752 = .ok (.iload 5, 2) := by decide +kernel
theorem dL_law__754 : decode cL_law_ 754 = .ok (.if_icmp .eq 5, 3) := by decide +kernel
theorem dL_law__757 : decode cL_law_ 757 = .ok (.iconst 0, 1) := by decide +kernel
theorem dL_law__758 : decode cL_law_ 758 = .ok (.ireturn, 1) := by decide +kernel
theorem dL_law__759 : decode cL_law_ 759 = .ok (.iload 5, 2) := by decide +kernel
theorem dL_law__761 : decode cL_law_ 761 = .ok (.ifCond .ne 15, 3) := by decide +kernel
theorem dL_law__764 : decode cL_law_ 764 = .ok (.aload_n 3, 1) := by decide +kernel
theorem dL_law__765 : decode cL_law_ 765 = .ok (.iconst 0, 1) := by decide +kernel
theorem dL_law__766 : decode cL_law_ 766 = .ok (.laload, 1) := by decide +kernel
theorem dL_law__767 : decode cL_law_ 767 = .ok (.iload 6, 2) := by decide +kernel
theorem dL_law__769 : decode cL_law_ 769 = .ok (.i2l, 1) := by decide +kernel
theorem dL_law__770 : decode cL_law_ 770 = .ok (.lcmp, 1) := by decide +kernel
theorem dL_law__771 : decode cL_law_ 771 = .ok (.ifCond .eq 5, 3) := by decide +kernel
theorem dL_law__774 : decode cL_law_ 774 = .ok (.iconst 0, 1) := by decide +kernel
theorem dL_law__775 : decode cL_law_ 775 = .ok (.ireturn, 1) := by decide +kernel
theorem dL_law__776 : decode cL_law_ 776 = .ok (.goto 1731, 3) := by decide +kernel
theorem dL_law__779 : decode cL_law_ 779 = .ok (.aload_n 1, 1) := by decide +kernel
theorem dL_law__780 : decode cL_law_ 780 = .ok (.aload_n 0, 1) := by decide +kernel
theorem dL_law__781 : decode cL_law_ 781 = .ok (.iload 4, 2) := by decide +kernel
theorem dL_law__783 : decode cL_law_ 783 = .ok (.iconst 1, 1) := by decide +kernel
theorem dL_law__784 : decode cL_law_ 784 = .ok (.iadd, 1) := by decide +kernel
theorem dL_law__785 : decode cL_law_ 785 = .ok (.iaload, 1) := by decide +kernel
theorem dL_law__786 : decode cL_law_ 786 = .ok (.aload_n 3, 1) := by decide +kernel
theorem dL_law__787 : decode cL_law_ 787 = .ok (.invokestatic 159, 3) := by decide +kernel
theorem dL_law__790 : decode cL_law_ 790 = .ok (.istore 5, 2) := by decide +kernel
theorem dL_law__792 : decode cL_law_ 792 = .ok (.aload_n 2, 1) := by decide +kernel
theorem dL_law__793 : decode cL_law_ 793 = .ok (.aload_n 0, 1) := by decide +kernel
theorem dL_law__794 : decode cL_law_ 794 = .ok (.iload 4, 2) := by decide +kernel
theorem dL_law__796 : decode cL_law_ 796 = .ok (.iconst 1, 1) := by decide +kernel
theorem dL_law__797 : decode cL_law_ 797 = .ok (.iadd, 1) := by decide +kernel
theorem dL_law__798 : decode cL_law_ 798 = .ok (.iaload, 1) := by decide +kernel
theorem dL_law__799 : decode cL_law_ 799 = .ok (.invokevirtual 161, 3) := by decide +kernel
theorem dL_law__802 : decode cL_law_ 802 = .ok (.istore 6, 2) := by decide +kernel
theorem dL_law__804 : decode cL_law_ 804 = .ok (.aload_n 2, 1) := by decide +kernel
theorem dL_law__805 : decode cL_law_ 805 = .ok (.invokevirtual 125, 3) := by decide +kernel
theorem dL_law__808 : decode cL_law_ 808 = .ok (.iload 5, 2) := by decide +kernel
theorem dL_law__810 : decode cL_law_ 810 = .ok (.if_icmp .eq 5, 3) := by decide +kernel
theorem dL_law__813 : decode cL_law_ 813 = .ok (.iconst 0, 1) := by decide +kernel
theorem dL_law__814 : decode cL_law_ 814 = .ok (.ireturn, 1) := by decide +kernel
theorem dL_law__815 : decode cL_law_ 815 = .ok (.iload 5, 2) := by decide +kernel
theorem dL_law__817 : decode cL_law_ 817 = .ok (.ifCond .ne 15, 3) := by decide +kernel
theorem dL_law__820 : decode cL_law_ 820 = .ok (.aload_n 3, 1) := by decide +kernel
theorem dL_law__821 : decode cL_law_ 821 = .ok (.iconst 0, 1) := by decide +kernel
theorem dL_law__822 : decode cL_law_ 822 = .ok (.laload, 1) := by decide +kernel
theorem dL_law__823 : decode cL_law_ 823 = .ok (.iload 6, 2) := by decide +kernel
theorem dL_law__825 : decode cL_law_ 825 = .ok (.i2l, 1) := by decide +kernel
theorem dL_law__826 : decode cL_law_ 826 = .ok (.lcmp, 1) := by decide +kernel
theorem dL_law__827 : decode cL_law_ 827 = .ok (.ifCond .eq 5, 3) := by decide +kernel
theorem dL_law__830 : decode cL_law_ 830 = .ok (.iconst 0, 1) := by decide +kernel
theorem dL_law__831 : decode cL_law_ 831 = .ok (.ireturn, 1) := by decide +kernel
theorem dL_law__832 : decode cL_law_ 832 = .ok (.goto 1675, 3) := by decide +kernel
theorem dL_law__835 : decode cL_law_ 835 = .ok (.aload_n 1, 1) := by decide +kernel
theorem dL_law__836 : decode cL_law_ 836 = .ok (.aload_n 0, 1) := by decide +kernel
theorem dL_law__837 : decode cL_law_ 837 = .ok (.iload 4, 2) := by decide +kernel
theorem dL_law__839 : decode cL_law_ 839 = .ok (.iconst 1, 1) := by decide +kernel
theorem dL_law__840 : decode cL_law_ 840 = .ok (.iadd, 1) := by decide +kernel
theorem dL_law__841 : decode cL_law_ 841 = .ok (.iaload, 1) := by decide +kernel
theorem dL_law__842 : decode cL_law_ 842 = .ok (.aload_n 3, 1) := by decide +kernel
theorem dL_law__843 : decode cL_law_ 843 = .ok (.invokestatic 162, 3) := by decide +kernel
theorem dL_law__846 : decode cL_law_ 846 = .ok (.istore 5, 2) := by decide +kernel
theorem dL_law__848 : decode cL_law_ 848 = .ok (.aload_n 2, 1) := by decide +kernel
theorem dL_law__849 : decode cL_law_ 849 = .ok (.aload_n 0, 1) := by decide +kernel
theorem dL_law__850 : decode cL_law_ 850 = .ok (.iload 4, 2) := by decide +kernel
theorem dL_law__852 : decode cL_law_ 852 = .ok (.iconst 1, 1) := by decide +kernel
theorem dL_law__853 : decode cL_law_ 853 = .ok (.iadd, 1) := by decide +kernel
theorem dL_law__854 : decode cL_law_ 854 = .ok (.iaload, 1) := by decide +kernel
theorem dL_law__855 : decode cL_law_ 855 = .ok (.invokevirtual 164, 3) := by decide +kernel
theorem dL_law__858 : decode cL_law_ 858 = .ok (.istore 6, 2) := by decide +kernel
theorem dL_law__860 : decode cL_law_ 860 = .ok (.aload_n 2, 1) := by decide +kernel
theorem dL_law__861 : decode cL_law_ 861 = .ok (.invokevirtual 125, 3) := by decide +kernel
theorem dL_law__864 : decode cL_law_ 864 = .ok (.iload 5, 2) := by decide +kernel
theorem dL_law__866 : decode cL_law_ 866 = .ok (.if_icmp .eq 5, 3) := by decide +kernel
theorem dL_law__869 : decode cL_law_ 869 = .ok (.iconst 0, 1) := by decide +kernel
theorem dL_law__870 : decode cL_law_ 870 = .ok (.ireturn, 1) := by decide +kernel
theorem dL_law__871 : decode cL_law_ 871 = .ok (.iload 5, 2) := by decide +kernel
theorem dL_law__873 : decode cL_law_ 873 = .ok (.ifCond .ne 15, 3) := by decide +kernel
theorem dL_law__876 : decode cL_law_ 876 = .ok (.aload_n 3, 1) := by decide +kernel
theorem dL_law__877 : decode cL_law_ 877 = .ok (.iconst 0, 1) := by decide +kernel
theorem dL_law__878 : decode cL_law_ 878 = .ok (.laload, 1) := by decide +kernel
theorem dL_law__879 : decode cL_law_ 879 = .ok (.iload 6, 2) := by decide +kernel
theorem dL_law__881 : decode cL_law_ 881 = .ok (.i2l, 1) := by decide +kernel
theorem dL_law__882 : decode cL_law_ 882 = .ok (.lcmp, 1) := by decide +kernel
theorem dL_law__883 : decode cL_law_ 883 = .ok (.ifCond .eq 5, 3) := by decide +kernel
theorem dL_law__886 : decode cL_law_ 886 = .ok (.iconst 0, 1) := by decide +kernel
theorem dL_law__887 : decode cL_law_ 887 = .ok (.ireturn, 1) := by decide +kernel
theorem dL_law__888 : decode cL_law_ 888 = .ok (.goto 1619, 3) := by decide +kernel
theorem dL_law__891 : decode cL_law_ 891 = .ok (.aload_n 1, 1) := by decide +kernel
theorem dL_law__892 : decode cL_law_ 892 = .ok (.invokevirtual 165, 3) := by decide +kernel
theorem dL_law__895 : decode cL_law_ 895 = .ok (.aload_n 2, 1) := by decide +kernel
theorem dL_law__896 : decode cL_law_ 896 = .ok (.invokevirtual 168, 3) := by decide +kernel
theorem dL_law__899 : decode cL_law_ 899 = .ok (.if_icmp .eq 1608, 3) := by decide +kernel
theorem dL_law__902 : decode cL_law_ 902 = .ok (.iconst 0, 1) := by decide +kernel
theorem dL_law__903 : decode cL_law_ 903 = .ok (.ireturn, 1) := by decide +kernel
theorem dL_law__904 : decode cL_law_ 904 = .ok (.aload_n 1, 1) := by decide +kernel
theorem dL_law__905 : decode cL_law_ 905 = .ok (.aload_n 0, 1) := by decide +kernel
theorem dL_law__906 : decode cL_law_ 906 = .ok (.iload 4, 2) := by decide +kernel
theorem dL_law__908 : decode cL_law_ 908 = .ok (.iconst 1, 1) := by decide +kernel
theorem dL_law__909 : decode cL_law_ 909 = .ok (.iadd, 1) := by decide +kernel
theorem dL_law__910 : decode cL_law_ 910 = .ok (.iaload, 1) := by decide +kernel
theorem dL_law__911 : decode cL_law_ 911 = .ok (.aload_n 0, 1) := by decide +kernel
theorem dL_law__912 : decode cL_law_ 912 = .ok (.iload 4, 2) := by decide +kernel
theorem dL_law__914 : decode cL_law_ 914 = .ok (.iconst 2, 1) := by decide +kernel
theorem dL_law__915 : decode cL_law_ 915 = .ok (.iadd, 1) := by decide +kernel
theorem dL_law__916 : decode cL_law_ 916 = .ok (.iaload, 1) := by decide +kernel
theorem dL_law__917 : decode cL_law_ 917 = .ok (.aload_n 0, 1) := by decide +kernel
theorem dL_law__918 : decode cL_law_ 918 = .ok (.iload 4, 2) := by decide +kernel
theorem dL_law__920 : decode cL_law_ 920 = .ok (.iconst 3, 1) := by decide +kernel
theorem dL_law__921 : decode cL_law_ 921 = .ok (.iadd, 1) := by decide +kernel
theorem dL_law__922 : decode cL_law_ 922 = .ok (.iaload, 1) := by decide +kernel
theorem dL_law__923 : decode cL_law_ 923 = .ok (.aload_n 0, 1) := by decide +kernel
theorem dL_law__924 : decode cL_law_ 924 = .ok (.iload 4, 2) := by decide +kernel
theorem dL_law__926 : decode cL_law_ 926 = .ok (.iconst 4, 1) := by decide +kernel
theorem dL_law__927 : decode cL_law_ 927 = .ok (.iadd, 1) := by decide +kernel
theorem dL_law__928 : decode cL_law_ 928 = .ok (.iaload, 1) := by decide +kernel
theorem dL_law__929 : decode cL_law_ 929 = .ok (.aload_n 0, 1) := by decide +kernel
theorem dL_law__930 : decode cL_law_ 930 = .ok (.iload 4, 2) := by decide +kernel
theorem dL_law__932 : decode cL_law_ 932 = .ok (.iconst 5, 1) := by decide +kernel
theorem dL_law__933 : decode cL_law_ 933 = .ok (.iadd, 1) := by decide +kernel
theorem dL_law__934 : decode cL_law_ 934 = .ok (.iaload, 1) := by decide +kernel
theorem dL_law__935 : decode cL_law_ 935 = .ok (.aload_n 0, 1) := by decide +kernel
abbrev mt_L_law_ : AxM := (RL, cL_law_, 8, (some .boolean), false, [])
