def tbL_0 : List (Nat × Instr × Nat) := [(0, .new 7, 3), (3, .dup, 1), (4, .invokespecial 9, 3), (7, .astore_n 1, 1), (8, .new 10, 3), (11, .dup, 1), (12, .invokespecial 12, 3), (15, .astore_n 2, 1), (16, .iconst 0, 1), (17, .istore_n 3, 1), (18, .iload_n 3, 1), (19, .aload_n 0, 1), (20, .arraylength, 1), (21, .bipush 6, 2), (23, .isub, 1), (24, .if_icmp .gt 2216, 3)]
theorem tkL_0 : tbL_0.all (fun q => decide (decode code q.1 = .ok q.2)) = true := by decide +kernel
theorem dL_law_0 : Dc code 0 (.new 7) 3 3 := dc_of tkL_0 0 rfl rfl
theorem dL_law_3 : Dc code 3 (.dup) 1 4 := dc_of tkL_0 1 rfl rfl
theorem dL_law_4 : Dc code 4 (.invokespecial 9) 3 7 := dc_of tkL_0 2 rfl rfl
theorem dL_law_7 : Dc code 7 (.astore_n 1) 1 8 := dc_of tkL_0 3 rfl rfl
theorem dL_law_8 : Dc code 8 (.new 10) 3 11 := dc_of tkL_0 4 rfl rfl
theorem dL_law_11 : Dc code 11 (.dup) 1 12 := dc_of tkL_0 5 rfl rfl
theorem dL_law_12 : Dc code 12 (.invokespecial 12) 3 15 := dc_of tkL_0 6 rfl rfl
theorem dL_law_15 : Dc code 15 (.astore_n 2) 1 16 := dc_of tkL_0 7 rfl rfl
theorem dL_law_16 : Dc code 16 (.iconst 0) 1 17 := dc_of tkL_0 8 rfl rfl
theorem dL_law_17 : Dc code 17 (.istore_n 3) 1 18 := dc_of tkL_0 9 rfl rfl
theorem dL_law_18 : Dc code 18 (.iload_n 3) 1 19 := dc_of tkL_0 10 rfl rfl
theorem dL_law_19 : Dc code 19 (.aload_n 0) 1 20 := dc_of tkL_0 11 rfl rfl
theorem dL_law_20 : Dc code 20 (.arraylength) 1 21 := dc_of tkL_0 12 rfl rfl
theorem dL_law_21 : Dc code 21 (.bipush 6) 2 23 := dc_of tkL_0 13 rfl rfl
theorem dL_law_23 : Dc code 23 (.isub) 1 24 := dc_of tkL_0 14 rfl rfl
theorem dL_law_24 : Dc code 24 (.if_icmp .gt 2216) 3 27 := dc_of tkL_0 15 rfl rfl
def tbL_1 : List (Nat × Instr × Nat) := [(27, .aload_n 0, 1), (28, .iload_n 3, 1), (29, .iaload, 1), (30, .bipush 63, 2), (32, .iand, 1), (33, .tableswitch 2201 0 57 #[247, 270, 313, 356, 389, 432, 455, 508, 561, 604, 637, 670, 703, 746, 779, 802, 825, 858, 891, 934, 957, 1000, 1023, 1056, 1089, 1112, 1145, 1178, 1221, 1244, 1267, 1320, 1343, 1366, 1399, 1442, 1495, 1538, 1571, 1594, 1637, 1680, 1713, 1776, 1809, 1832, 1865, 1898, 1941, 1964, 1987, 2030, 2063, 2096, 2119, 2152, 2165, 2178], 247), (280, .aload_n 1, 1), (281, .aload_n 0, 1), (282, .iload_n 3, 1), (283, .iconst 1, 1), (284, .iadd, 1), (285, .iaload, 1), (286, .invokevirtual 13, 3), (289, .aload_n 2, 1), (290, .aload_n 0, 1), (291, .iload_n 3, 1)]
theorem tkL_1 : tbL_1.all (fun q => decide (decode code q.1 = .ok q.2)) = true := by decide +kernel
theorem dL_law_27 : Dc code 27 (.aload_n 0) 1 28 := dc_of tkL_1 0 rfl rfl
theorem dL_law_28 : Dc code 28 (.iload_n 3) 1 29 := dc_of tkL_1 1 rfl rfl
theorem dL_law_29 : Dc code 29 (.iaload) 1 30 := dc_of tkL_1 2 rfl rfl
theorem dL_law_30 : Dc code 30 (.bipush 63) 2 32 := dc_of tkL_1 3 rfl rfl
theorem dL_law_32 : Dc code 32 (.iand) 1 33 := dc_of tkL_1 4 rfl rfl
theorem dL_law_33 : Dc code 33 (.tableswitch 2201 0 57 #[247, 270, 313, 356, 389, 432, 455, 508, 561, 604, 637, 670, 703, 746, 779, 802, 825, 858, 891, 934, 957, 1000, 1023, 1056, 1089, 1112, 1145, 1178, 1221, 1244, 1267, 1320, 1343, 1366, 1399, 1442, 1495, 1538, 1571, 1594, 1637, 1680, 1713, 1776, 1809, 1832, 1865, 1898, 1941, 1964, 1987, 2030, 2063, 2096, 2119, 2152, 2165, 2178]) 247 280 := dc_of tkL_1 5 rfl rfl
theorem dL_law_280 : Dc code 280 (.aload_n 1) 1 281 := dc_of tkL_1 6 rfl rfl
theorem dL_law_281 : Dc code 281 (.aload_n 0) 1 282 := dc_of tkL_1 7 rfl rfl
theorem dL_law_282 : Dc code 282 (.iload_n 3) 1 283 := dc_of tkL_1 8 rfl rfl
theorem dL_law_283 : Dc code 283 (.iconst 1) 1 284 := dc_of tkL_1 9 rfl rfl
theorem dL_law_284 : Dc code 284 (.iadd) 1 285 := dc_of tkL_1 10 rfl rfl
theorem dL_law_285 : Dc code 285 (.iaload) 1 286 := dc_of tkL_1 11 rfl rfl
theorem dL_law_286 : Dc code 286 (.invokevirtual 13) 3 289 := dc_of tkL_1 12 rfl rfl
theorem dL_law_289 : Dc code 289 (.aload_n 2) 1 290 := dc_of tkL_1 13 rfl rfl
theorem dL_law_290 : Dc code 290 (.aload_n 0) 1 291 := dc_of tkL_1 14 rfl rfl
theorem dL_law_291 : Dc code 291 (.iload_n 3) 1 292 := dc_of tkL_1 15 rfl rfl
def tbL_2 : List (Nat × Instr × Nat) := [(292, .iconst 1, 1), (293, .iadd, 1), (294, .iaload, 1), (295, .invokevirtual 17, 3), (298, .if_icmp .eq 1936, 3), (301, .iconst 0, 1), (302, .ireturn, 1), (303, .aload_n 1, 1), (304, .aload_n 0, 1), (305, .iload_n 3, 1), (306, .iconst 1, 1), (307, .iadd, 1), (308, .iaload, 1), (309, .aload_n 0, 1), (310, .iload_n 3, 1), (311, .iconst 2, 1)]
theorem tkL_2 : tbL_2.all (fun q => decide (decode code q.1 = .ok q.2)) = true := by decide +kernel
theorem dL_law_292 : Dc code 292 (.iconst 1) 1 293 := dc_of tkL_2 0 rfl rfl
theorem dL_law_293 : Dc code 293 (.iadd) 1 294 := dc_of tkL_2 1 rfl rfl
theorem dL_law_294 : Dc code 294 (.iaload) 1 295 := dc_of tkL_2 2 rfl rfl
theorem dL_law_295 : Dc code 295 (.invokevirtual 17) 3 298 := dc_of tkL_2 3 rfl rfl
theorem dL_law_298 : Dc code 298 (.if_icmp .eq 1936) 3 301 := dc_of tkL_2 4 rfl rfl
theorem dL_law_301 : Dc code 301 (.iconst 0) 1 302 := dc_of tkL_2 5 rfl rfl
theorem dL_law_302 : Dc code 302 (.ireturn) 1 303 := dc_of tkL_2 6 rfl rfl
theorem dL_law_303 : Dc code 303 (.aload_n 1) 1 304 := dc_of tkL_2 7 rfl rfl
theorem dL_law_304 : Dc code 304 (.aload_n 0) 1 305 := dc_of tkL_2 8 rfl rfl
theorem dL_law_305 : Dc code 305 (.iload_n 3) 1 306 := dc_of tkL_2 9 rfl rfl
theorem dL_law_306 : Dc code 306 (.iconst 1) 1 307 := dc_of tkL_2 10 rfl rfl
theorem dL_law_307 : Dc code 307 (.iadd) 1 308 := dc_of tkL_2 11 rfl rfl
theorem dL_law_308 : Dc code 308 (.iaload) 1 309 := dc_of tkL_2 12 rfl rfl
theorem dL_law_309 : Dc code 309 (.aload_n 0) 1 310 := dc_of tkL_2 13 rfl rfl
theorem dL_law_310 : Dc code 310 (.iload_n 3) 1 311 := dc_of tkL_2 14 rfl rfl
theorem dL_law_311 : Dc code 311 (.iconst 2) 1 312 := dc_of tkL_2 15 rfl rfl
def tbL_3 : List (Nat × Instr × Nat) := [(312, .iadd, 1), (313, .iaload, 1), (314, .aload_n 0, 1), (315, .iload_n 3, 1), (316, .iconst 3, 1), (317, .iadd, 1), (318, .iaload, 1), (319, .invokevirtual 18, 3), (322, .aload_n 2, 1), (323, .aload_n 0, 1), (324, .iload_n 3, 1), (325, .iconst 1, 1), (326, .iadd, 1), (327, .iaload, 1), (328, .aload_n 0, 1), (329, .iload_n 3, 1)]
theorem tkL_3 : tbL_3.all (fun q => decide (decode code q.1 = .ok q.2)) = true := by decide +kernel
theorem dL_law_312 : Dc code 312 (.iadd) 1 313 := dc_of tkL_3 0 rfl rfl
theorem dL_law_313 : Dc code 313 (.iaload) 1 314 := dc_of tkL_3 1 rfl rfl
theorem dL_law_314 : Dc code 314 (.aload_n 0) 1 315 := dc_of tkL_3 2 rfl rfl
theorem dL_law_315 : Dc code 315 (.iload_n 3) 1 316 := dc_of tkL_3 3 rfl rfl
theorem dL_law_316 : Dc code 316 (.iconst 3) 1 317 := dc_of tkL_3 4 rfl rfl
theorem dL_law_317 : Dc code 317 (.iadd) 1 318 := dc_of tkL_3 5 rfl rfl
theorem dL_law_318 : Dc code 318 (.iaload) 1 319 := dc_of tkL_3 6 rfl rfl
theorem dL_law_319 : Dc code 319 (.invokevirtual 18) 3 322 := dc_of tkL_3 7 rfl rfl
theorem dL_law_322 : Dc code 322 (.aload_n 2) 1 323 := dc_of tkL_3 8 rfl rfl
theorem dL_law_323 : Dc code 323 (.aload_n 0) 1 324 := dc_of tkL_3 9 rfl rfl
theorem dL_law_324 : Dc code 324 (.iload_n 3) 1 325 := dc_of tkL_3 10 rfl rfl
theorem dL_law_325 : Dc code 325 (.iconst 1) 1 326 := dc_of tkL_3 11 rfl rfl
theorem dL_law_326 : Dc code 326 (.iadd) 1 327 := dc_of tkL_3 12 rfl rfl
theorem dL_law_327 : Dc code 327 (.iaload) 1 328 := dc_of tkL_3 13 rfl rfl
theorem dL_law_328 : Dc code 328 (.aload_n 0) 1 329 := dc_of tkL_3 14 rfl rfl
theorem dL_law_329 : Dc code 329 (.iload_n 3) 1 330 := dc_of tkL_3 15 rfl rfl
def tbL_4 : List (Nat × Instr × Nat) := [(330, .iconst 2, 1), (331, .iadd, 1), (332, .iaload, 1), (333, .aload_n 0, 1), (334, .iload_n 3, 1), (335, .iconst 3, 1), (336, .iadd, 1), (337, .iaload, 1), (338, .invokevirtual 22, 3), (341, .if_icmp .eq 1893, 3), (344, .iconst 0, 1), (345, .ireturn, 1), (346, .aload_n 1, 1), (347, .aload_n 0, 1), (348, .iload_n 3, 1), (349, .iconst 1, 1)]
theorem tkL_4 : tbL_4.all (fun q => decide (decode code q.1 = .ok q.2)) = true := by decide +kernel
theorem dL_law_330 : Dc code 330 (.iconst 2) 1 331 := dc_of tkL_4 0 rfl rfl
theorem dL_law_331 : Dc code 331 (.iadd) 1 332 := dc_of tkL_4 1 rfl rfl
theorem dL_law_332 : Dc code 332 (.iaload) 1 333 := dc_of tkL_4 2 rfl rfl
theorem dL_law_333 : Dc code 333 (.aload_n 0) 1 334 := dc_of tkL_4 3 rfl rfl
theorem dL_law_334 : Dc code 334 (.iload_n 3) 1 335 := dc_of tkL_4 4 rfl rfl
theorem dL_law_335 : Dc code 335 (.iconst 3) 1 336 := dc_of tkL_4 5 rfl rfl
theorem dL_law_336 : Dc code 336 (.iadd) 1 337 := dc_of tkL_4 6 rfl rfl
theorem dL_law_337 : Dc code 337 (.iaload) 1 338 := dc_of tkL_4 7 rfl rfl
theorem dL_law_338 : Dc code 338 (.invokevirtual 22) 3 341 := dc_of tkL_4 8 rfl rfl
theorem dL_law_341 : Dc code 341 (.if_icmp .eq 1893) 3 344 := dc_of tkL_4 9 rfl rfl
theorem dL_law_344 : Dc code 344 (.iconst 0) 1 345 := dc_of tkL_4 10 rfl rfl
theorem dL_law_345 : Dc code 345 (.ireturn) 1 346 := dc_of tkL_4 11 rfl rfl
theorem dL_law_346 : Dc code 346 (.aload_n 1) 1 347 := dc_of tkL_4 12 rfl rfl
theorem dL_law_347 : Dc code 347 (.aload_n 0) 1 348 := dc_of tkL_4 13 rfl rfl
theorem dL_law_348 : Dc code 348 (.iload_n 3) 1 349 := dc_of tkL_4 14 rfl rfl
theorem dL_law_349 : Dc code 349 (.iconst 1) 1 350 := dc_of tkL_4 15 rfl rfl
def tbL_5 : List (Nat × Instr × Nat) := [(350, .iadd, 1), (351, .iaload, 1), (352, .aload_n 0, 1), (353, .iload_n 3, 1), (354, .iconst 2, 1), (355, .iadd, 1), (356, .iaload, 1), (357, .aload_n 0, 1), (358, .iload_n 3, 1), (359, .iconst 3, 1), (360, .iadd, 1), (361, .iaload, 1), (362, .invokevirtual 23, 3), (365, .aload_n 2, 1), (366, .aload_n 0, 1), (367, .iload_n 3, 1)]
theorem tkL_5 : tbL_5.all (fun q => decide (decode code q.1 = .ok q.2)) = true := by decide +kernel
theorem dL_law_350 : Dc code 350 (.iadd) 1 351 := dc_of tkL_5 0 rfl rfl
theorem dL_law_351 : Dc code 351 (.iaload) 1 352 := dc_of tkL_5 1 rfl rfl
theorem dL_law_352 : Dc code 352 (.aload_n 0) 1 353 := dc_of tkL_5 2 rfl rfl
theorem dL_law_353 : Dc code 353 (.iload_n 3) 1 354 := dc_of tkL_5 3 rfl rfl
theorem dL_law_354 : Dc code 354 (.iconst 2) 1 355 := dc_of tkL_5 4 rfl rfl
theorem dL_law_355 : Dc code 355 (.iadd) 1 356 := dc_of tkL_5 5 rfl rfl
theorem dL_law_356 : Dc code 356 (.iaload) 1 357 := dc_of tkL_5 6 rfl rfl
theorem dL_law_357 : Dc code 357 (.aload_n 0) 1 358 := dc_of tkL_5 7 rfl rfl
theorem dL_law_358 : Dc code 358 (.iload_n 3) 1 359 := dc_of tkL_5 8 rfl rfl
theorem dL_law_359 : Dc code 359 (.iconst 3) 1 360 := dc_of tkL_5 9 rfl rfl
theorem dL_law_360 : Dc code 360 (.iadd) 1 361 := dc_of tkL_5 10 rfl rfl
theorem dL_law_361 : Dc code 361 (.iaload) 1 362 := dc_of tkL_5 11 rfl rfl
theorem dL_law_362 : Dc code 362 (.invokevirtual 23) 3 365 := dc_of tkL_5 12 rfl rfl
theorem dL_law_365 : Dc code 365 (.aload_n 2) 1 366 := dc_of tkL_5 13 rfl rfl
theorem dL_law_366 : Dc code 366 (.aload_n 0) 1 367 := dc_of tkL_5 14 rfl rfl
theorem dL_law_367 : Dc code 367 (.iload_n 3) 1 368 := dc_of tkL_5 15 rfl rfl
def tbL_6 : List (Nat × Instr × Nat) := [(368, .iconst 1, 1), (369, .iadd, 1), (370, .iaload, 1), (371, .aload_n 0, 1), (372, .iload_n 3, 1), (373, .iconst 2, 1), (374, .iadd, 1), (375, .iaload, 1), (376, .aload_n 0, 1), (377, .iload_n 3, 1), (378, .iconst 3, 1), (379, .iadd, 1), (380, .iaload, 1), (381, .invokevirtual 26, 3), (384, .if_icmp .eq 1850, 3), (387, .iconst 0, 1)]
theorem tkL_6 : tbL_6.all (fun q => decide (decode code q.1 = .ok q.2)) = true := by decide +kernel
theorem dL_law_368 : Dc code 368 (.iconst 1) 1 369 := dc_of tkL_6 0 rfl rfl
theorem dL_law_369 : Dc code 369 (.iadd) 1 370 := dc_of tkL_6 1 rfl rfl
theorem dL_law_370 : Dc code 370 (.iaload) 1 371 := dc_of tkL_6 2 rfl rfl
theorem dL_law_371 : Dc code 371 (.aload_n 0) 1 372 := dc_of tkL_6 3 rfl rfl
theorem dL_law_372 : Dc code 372 (.iload_n 3) 1 373 := dc_of tkL_6 4 rfl rfl
theorem dL_law_373 : Dc code 373 (.iconst 2) 1 374 := dc_of tkL_6 5 rfl rfl
theorem dL_law_374 : Dc code 374 (.iadd) 1 375 := dc_of tkL_6 6 rfl rfl
theorem dL_law_375 : Dc code 375 (.iaload) 1 376 := dc_of tkL_6 7 rfl rfl
theorem dL_law_376 : Dc code 376 (.aload_n 0) 1 377 := dc_of tkL_6 8 rfl rfl
theorem dL_law_377 : Dc code 377 (.iload_n 3) 1 378 := dc_of tkL_6 9 rfl rfl
theorem dL_law_378 : Dc code 378 (.iconst 3) 1 379 := dc_of tkL_6 10 rfl rfl
theorem dL_law_379 : Dc code 379 (.iadd) 1 380 := dc_of tkL_6 11 rfl rfl
theorem dL_law_380 : Dc code 380 (.iaload) 1 381 := dc_of tkL_6 12 rfl rfl
theorem dL_law_381 : Dc code 381 (.invokevirtual 26) 3 384 := dc_of tkL_6 13 rfl rfl
theorem dL_law_384 : Dc code 384 (.if_icmp .eq 1850) 3 387 := dc_of tkL_6 14 rfl rfl
theorem dL_law_387 : Dc code 387 (.iconst 0) 1 388 := dc_of tkL_6 15 rfl rfl
def tbL_7 : List (Nat × Instr × Nat) := [(388, .ireturn, 1), (389, .aload_n 1, 1), (390, .aload_n 0, 1), (391, .iload_n 3, 1), (392, .iconst 1, 1), (393, .iadd, 1), (394, .iaload, 1), (395, .aload_n 0, 1), (396, .iload_n 3, 1), (397, .iconst 2, 1), (398, .iadd, 1), (399, .iaload, 1), (400, .invokevirtual 27, 3), (403, .aload_n 2, 1), (404, .aload_n 0, 1), (405, .iload_n 3, 1)]
theorem tkL_7 : tbL_7.all (fun q => decide (decode code q.1 = .ok q.2)) = true := by decide +kernel
theorem dL_law_388 : Dc code 388 (.ireturn) 1 389 := dc_of tkL_7 0 rfl rfl
theorem dL_law_389 : Dc code 389 (.aload_n 1) 1 390 := dc_of tkL_7 1 rfl rfl
theorem dL_law_390 : Dc code 390 (.aload_n 0) 1 391 := dc_of tkL_7 2 rfl rfl
theorem dL_law_391 : Dc code 391 (.iload_n 3) 1 392 := dc_of tkL_7 3 rfl rfl
theorem dL_law_392 : Dc code 392 (.iconst 1) 1 393 := dc_of tkL_7 4 rfl rfl
theorem dL_law_393 : Dc code 393 (.iadd) 1 394 := dc_of tkL_7 5 rfl rfl
theorem dL_law_394 : Dc code 394 (.iaload) 1 395 := dc_of tkL_7 6 rfl rfl
theorem dL_law_395 : Dc code 395 (.aload_n 0) 1 396 := dc_of tkL_7 7 rfl rfl
theorem dL_law_396 : Dc code 396 (.iload_n 3) 1 397 := dc_of tkL_7 8 rfl rfl
theorem dL_law_397 : Dc code 397 (.iconst 2) 1 398 := dc_of tkL_7 9 rfl rfl
theorem dL_law_398 : Dc code 398 (.iadd) 1 399 := dc_of tkL_7 10 rfl rfl
theorem dL_law_399 : Dc code 399 (.iaload) 1 400 := dc_of tkL_7 11 rfl rfl
theorem dL_law_400 : Dc code 400 (.invokevirtual 27) 3 403 := dc_of tkL_7 12 rfl rfl
theorem dL_law_403 : Dc code 403 (.aload_n 2) 1 404 := dc_of tkL_7 13 rfl rfl
theorem dL_law_404 : Dc code 404 (.aload_n 0) 1 405 := dc_of tkL_7 14 rfl rfl
theorem dL_law_405 : Dc code 405 (.iload_n 3) 1 406 := dc_of tkL_7 15 rfl rfl
def tbL_8 : List (Nat × Instr × Nat) := [(406, .iconst 1, 1), (407, .iadd, 1), (408, .iaload, 1), (409, .aload_n 0, 1), (410, .iload_n 3, 1), (411, .iconst 2, 1), (412, .iadd, 1), (413, .iaload, 1), (414, .invokevirtual 31, 3), (417, .if_icmp .eq 1817, 3), (420, .iconst 0, 1), (421, .ireturn, 1), (422, .aload_n 1, 1), (423, .aload_n 0, 1), (424, .iload_n 3, 1), (425, .iconst 1, 1)]
theorem tkL_8 : tbL_8.all (fun q => decide (decode code q.1 = .ok q.2)) = true := by decide +kernel
theorem dL_law_406 : Dc code 406 (.iconst 1) 1 407 := dc_of tkL_8 0 rfl rfl
theorem dL_law_407 : Dc code 407 (.iadd) 1 408 := dc_of tkL_8 1 rfl rfl
theorem dL_law_408 : Dc code 408 (.iaload) 1 409 := dc_of tkL_8 2 rfl rfl
theorem dL_law_409 : Dc code 409 (.aload_n 0) 1 410 := dc_of tkL_8 3 rfl rfl
theorem dL_law_410 : Dc code 410 (.iload_n 3) 1 411 := dc_of tkL_8 4 rfl rfl
theorem dL_law_411 : Dc code 411 (.iconst 2) 1 412 := dc_of tkL_8 5 rfl rfl
theorem dL_law_412 : Dc code 412 (.iadd) 1 413 := dc_of tkL_8 6 rfl rfl
theorem dL_law_413 : Dc code 413 (.iaload) 1 414 := dc_of tkL_8 7 rfl rfl
theorem dL_law_414 : Dc code 414 (.invokevirtual 31) 3 417 := dc_of tkL_8 8 rfl rfl
theorem dL_law_417 : Dc code 417 (.if_icmp .eq 1817) 3 420 := dc_of tkL_8 9 rfl rfl
theorem dL_law_420 : Dc code 420 (.iconst 0) 1 421 := dc_of tkL_8 10 rfl rfl
theorem dL_law_421 : Dc code 421 (.ireturn) 1 422 := dc_of tkL_8 11 rfl rfl
theorem dL_law_422 : Dc code 422 (.aload_n 1) 1 423 := dc_of tkL_8 12 rfl rfl
theorem dL_law_423 : Dc code 423 (.aload_n 0) 1 424 := dc_of tkL_8 13 rfl rfl
theorem dL_law_424 : Dc code 424 (.iload_n 3) 1 425 := dc_of tkL_8 14 rfl rfl
theorem dL_law_425 : Dc code 425 (.iconst 1) 1 426 := dc_of tkL_8 15 rfl rfl
def tbL_9 : List (Nat × Instr × Nat) := [(426, .iadd, 1), (427, .iaload, 1), (428, .aload_n 0, 1), (429, .iload_n 3, 1), (430, .iconst 2, 1), (431, .iadd, 1), (432, .iaload, 1), (433, .aload_n 0, 1), (434, .iload_n 3, 1), (435, .iconst 3, 1), (436, .iadd, 1), (437, .iaload, 1), (438, .invokevirtual 32, 3), (441, .aload_n 2, 1), (442, .aload_n 0, 1), (443, .iload_n 3, 1)]
theorem tkL_9 : tbL_9.all (fun q => decide (decode code q.1 = .ok q.2)) = true := by decide +kernel
theorem dL_law_426 : Dc code 426 (.iadd) 1 427 := dc_of tkL_9 0 rfl rfl
theorem dL_law_427 : Dc code 427 (.iaload) 1 428 := dc_of tkL_9 1 rfl rfl
theorem dL_law_428 : Dc code 428 (.aload_n 0) 1 429 := dc_of tkL_9 2 rfl rfl
theorem dL_law_429 : Dc code 429 (.iload_n 3) 1 430 := dc_of tkL_9 3 rfl rfl
theorem dL_law_430 : Dc code 430 (.iconst 2) 1 431 := dc_of tkL_9 4 rfl rfl
theorem dL_law_431 : Dc code 431 (.iadd) 1 432 := dc_of tkL_9 5 rfl rfl
theorem dL_law_432 : Dc code 432 (.iaload) 1 433 := dc_of tkL_9 6 rfl rfl
theorem dL_law_433 : Dc code 433 (.aload_n 0) 1 434 := dc_of tkL_9 7 rfl rfl
theorem dL_law_434 : Dc code 434 (.iload_n 3) 1 435 := dc_of tkL_9 8 rfl rfl
theorem dL_law_435 : Dc code 435 (.iconst 3) 1 436 := dc_of tkL_9 9 rfl rfl
theorem dL_law_436 : Dc code 436 (.iadd) 1 437 := dc_of tkL_9 10 rfl rfl
theorem dL_law_437 : Dc code 437 (.iaload) 1 438 := dc_of tkL_9 11 rfl rfl
theorem dL_law_438 : Dc code 438 (.invokevirtual 32) 3 441 := dc_of tkL_9 12 rfl rfl
theorem dL_law_441 : Dc code 441 (.aload_n 2) 1 442 := dc_of tkL_9 13 rfl rfl
theorem dL_law_442 : Dc code 442 (.aload_n 0) 1 443 := dc_of tkL_9 14 rfl rfl
theorem dL_law_443 : Dc code 443 (.iload_n 3) 1 444 := dc_of tkL_9 15 rfl rfl
def tbL_10 : List (Nat × Instr × Nat) := [(444, .iconst 1, 1), (445, .iadd, 1), (446, .iaload, 1), (447, .aload_n 0, 1), (448, .iload_n 3, 1), (449, .iconst 2, 1), (450, .iadd, 1), (451, .iaload, 1), (452, .aload_n 0, 1), (453, .iload_n 3, 1), (454, .iconst 3, 1), (455, .iadd, 1), (456, .iaload, 1), (457, .invokevirtual 35, 3), (460, .if_icmp .eq 1774, 3), (463, .iconst 0, 1)]
theorem tkL_10 : tbL_10.all (fun q => decide (decode code q.1 = .ok q.2)) = true := by decide +kernel
theorem dL_law_444 : Dc code 444 (.iconst 1) 1 445 := dc_of tkL_10 0 rfl rfl
theorem dL_law_445 : Dc code 445 (.iadd) 1 446 := dc_of tkL_10 1 rfl rfl
theorem dL_law_446 : Dc code 446 (.iaload) 1 447 := dc_of tkL_10 2 rfl rfl
theorem dL_law_447 : Dc code 447 (.aload_n 0) 1 448 := dc_of tkL_10 3 rfl rfl
theorem dL_law_448 : Dc code 448 (.iload_n 3) 1 449 := dc_of tkL_10 4 rfl rfl
theorem dL_law_449 : Dc code 449 (.iconst 2) 1 450 := dc_of tkL_10 5 rfl rfl
theorem dL_law_450 : Dc code 450 (.iadd) 1 451 := dc_of tkL_10 6 rfl rfl
theorem dL_law_451 : Dc code 451 (.iaload) 1 452 := dc_of tkL_10 7 rfl rfl
theorem dL_law_452 : Dc code 452 (.aload_n 0) 1 453 := dc_of tkL_10 8 rfl rfl
theorem dL_law_453 : Dc code 453 (.iload_n 3) 1 454 := dc_of tkL_10 9 rfl rfl
theorem dL_law_454 : Dc code 454 (.iconst 3) 1 455 := dc_of tkL_10 10 rfl rfl
theorem dL_law_455 : Dc code 455 (.iadd) 1 456 := dc_of tkL_10 11 rfl rfl
theorem dL_law_456 : Dc code 456 (.iaload) 1 457 := dc_of tkL_10 12 rfl rfl
theorem dL_law_457 : Dc code 457 (.invokevirtual 35) 3 460 := dc_of tkL_10 13 rfl rfl
theorem dL_law_460 : Dc code 460 (.if_icmp .eq 1774) 3 463 := dc_of tkL_10 14 rfl rfl
theorem dL_law_463 : Dc code 463 (.iconst 0) 1 464 := dc_of tkL_10 15 rfl rfl
def tbL_11 : List (Nat × Instr × Nat) := [(464, .ireturn, 1), (465, .aload_n 1, 1), (466, .aload_n 0, 1), (467, .iload_n 3, 1), (468, .iconst 1, 1), (469, .iadd, 1), (470, .iaload, 1), (471, .invokevirtual 36, 3), (474, .aload_n 2, 1), (475, .aload_n 0, 1), (476, .iload_n 3, 1), (477, .iconst 1, 1), (478, .iadd, 1), (479, .iaload, 1), (480, .invokevirtual 39, 3), (483, .if_icmp .eq 1751, 3)]
theorem tkL_11 : tbL_11.all (fun q => decide (decode code q.1 = .ok q.2)) = true := by decide +kernel
theorem dL_law_464 : Dc code 464 (.ireturn) 1 465 := dc_of tkL_11 0 rfl rfl
theorem dL_law_465 : Dc code 465 (.aload_n 1) 1 466 := dc_of tkL_11 1 rfl rfl
theorem dL_law_466 : Dc code 466 (.aload_n 0) 1 467 := dc_of tkL_11 2 rfl rfl
theorem dL_law_467 : Dc code 467 (.iload_n 3) 1 468 := dc_of tkL_11 3 rfl rfl
theorem dL_law_468 : Dc code 468 (.iconst 1) 1 469 := dc_of tkL_11 4 rfl rfl
theorem dL_law_469 : Dc code 469 (.iadd) 1 470 := dc_of tkL_11 5 rfl rfl
theorem dL_law_470 : Dc code 470 (.iaload) 1 471 := dc_of tkL_11 6 rfl rfl
theorem dL_law_471 : Dc code 471 (.invokevirtual 36) 3 474 := dc_of tkL_11 7 rfl rfl
theorem dL_law_474 : Dc code 474 (.aload_n 2) 1 475 := dc_of tkL_11 8 rfl rfl
theorem dL_law_475 : Dc code 475 (.aload_n 0) 1 476 := dc_of tkL_11 9 rfl rfl
theorem dL_law_476 : Dc code 476 (.iload_n 3) 1 477 := dc_of tkL_11 10 rfl rfl
theorem dL_law_477 : Dc code 477 (.iconst 1) 1 478 := dc_of tkL_11 11 rfl rfl
theorem dL_law_478 : Dc code 478 (.iadd) 1 479 := dc_of tkL_11 12 rfl rfl
theorem dL_law_479 : Dc code 479 (.iaload) 1 480 := dc_of tkL_11 13 rfl rfl
theorem dL_law_480 : Dc code 480 (.invokevirtual 39) 3 483 := dc_of tkL_11 14 rfl rfl
theorem dL_law_483 : Dc code 483 (.if_icmp .eq 1751) 3 486 := dc_of tkL_11 15 rfl rfl
def tbL_12 : List (Nat × Instr × Nat) := [(486, .iconst 0, 1), (487, .ireturn, 1), (488, .aload_n 1, 1), (489, .aload_n 0, 1), (490, .iload_n 3, 1), (491, .iconst 1, 1), (492, .iadd, 1), (493, .iaload, 1), (494, .aload_n 0, 1), (495, .iload_n 3, 1), (496, .iconst 2, 1), (497, .iadd, 1), (498, .iaload, 1), (499, .aload_n 0, 1), (500, .iload_n 3, 1), (501, .iconst 3, 1)]
theorem tkL_12 : tbL_12.all (fun q => decide (decode code q.1 = .ok q.2)) = true := by decide +kernel
theorem dL_law_486 : Dc code 486 (.iconst 0) 1 487 := dc_of tkL_12 0 rfl rfl
theorem dL_law_487 : Dc code 487 (.ireturn) 1 488 := dc_of tkL_12 1 rfl rfl
theorem dL_law_488 : Dc code 488 (.aload_n 1) 1 489 := dc_of tkL_12 2 rfl rfl
theorem dL_law_489 : Dc code 489 (.aload_n 0) 1 490 := dc_of tkL_12 3 rfl rfl
theorem dL_law_490 : Dc code 490 (.iload_n 3) 1 491 := dc_of tkL_12 4 rfl rfl
theorem dL_law_491 : Dc code 491 (.iconst 1) 1 492 := dc_of tkL_12 5 rfl rfl
theorem dL_law_492 : Dc code 492 (.iadd) 1 493 := dc_of tkL_12 6 rfl rfl
theorem dL_law_493 : Dc code 493 (.iaload) 1 494 := dc_of tkL_12 7 rfl rfl
theorem dL_law_494 : Dc code 494 (.aload_n 0) 1 495 := dc_of tkL_12 8 rfl rfl
theorem dL_law_495 : Dc code 495 (.iload_n 3) 1 496 := dc_of tkL_12 9 rfl rfl
theorem dL_law_496 : Dc code 496 (.iconst 2) 1 497 := dc_of tkL_12 10 rfl rfl
theorem dL_law_497 : Dc code 497 (.iadd) 1 498 := dc_of tkL_12 11 rfl rfl
theorem dL_law_498 : Dc code 498 (.iaload) 1 499 := dc_of tkL_12 12 rfl rfl
theorem dL_law_499 : Dc code 499 (.aload_n 0) 1 500 := dc_of tkL_12 13 rfl rfl
theorem dL_law_500 : Dc code 500 (.iload_n 3) 1 501 := dc_of tkL_12 14 rfl rfl
theorem dL_law_501 : Dc code 501 (.iconst 3) 1 502 := dc_of tkL_12 15 rfl rfl
def tbL_13 : List (Nat × Instr × Nat) := [(502, .iadd, 1), (503, .iaload, 1), (504, .aload_n 0, 1), (505, .iload_n 3, 1), (506, .iconst 4, 1), (507, .iadd, 1), (508, .iaload, 1), (509, .invokevirtual 40, 3), (512, .aload_n 2, 1), (513, .aload_n 0, 1), (514, .iload_n 3, 1), (515, .iconst 1, 1), (516, .iadd, 1), (517, .iaload, 1), (518, .aload_n 0, 1), (519, .iload_n 3, 1)]
theorem tkL_13 : tbL_13.all (fun q => decide (decode code q.1 = .ok q.2)) = true := by decide +kernel
theorem dL_law_502 : Dc code 502 (.iadd) 1 503 := dc_of tkL_13 0 rfl rfl
theorem dL_law_503 : Dc code 503 (.iaload) 1 504 := dc_of tkL_13 1 rfl rfl
theorem dL_law_504 : Dc code 504 (.aload_n 0) 1 505 := dc_of tkL_13 2 rfl rfl
theorem dL_law_505 : Dc code 505 (.iload_n 3) 1 506 := dc_of tkL_13 3 rfl rfl
theorem dL_law_506 : Dc code 506 (.iconst 4) 1 507 := dc_of tkL_13 4 rfl rfl
theorem dL_law_507 : Dc code 507 (.iadd) 1 508 := dc_of tkL_13 5 rfl rfl
theorem dL_law_508 : Dc code 508 (.iaload) 1 509 := dc_of tkL_13 6 rfl rfl
theorem dL_law_509 : Dc code 509 (.invokevirtual 40) 3 512 := dc_of tkL_13 7 rfl rfl
theorem dL_law_512 : Dc code 512 (.aload_n 2) 1 513 := dc_of tkL_13 8 rfl rfl
theorem dL_law_513 : Dc code 513 (.aload_n 0) 1 514 := dc_of tkL_13 9 rfl rfl
theorem dL_law_514 : Dc code 514 (.iload_n 3) 1 515 := dc_of tkL_13 10 rfl rfl
theorem dL_law_515 : Dc code 515 (.iconst 1) 1 516 := dc_of tkL_13 11 rfl rfl
theorem dL_law_516 : Dc code 516 (.iadd) 1 517 := dc_of tkL_13 12 rfl rfl
theorem dL_law_517 : Dc code 517 (.iaload) 1 518 := dc_of tkL_13 13 rfl rfl
theorem dL_law_518 : Dc code 518 (.aload_n 0) 1 519 := dc_of tkL_13 14 rfl rfl
theorem dL_law_519 : Dc code 519 (.iload_n 3) 1 520 := dc_of tkL_13 15 rfl rfl
def tbL_14 : List (Nat × Instr × Nat) := [(520, .iconst 2, 1), (521, .iadd, 1), (522, .iaload, 1), (523, .aload_n 0, 1), (524, .iload_n 3, 1), (525, .iconst 3, 1), (526, .iadd, 1), (527, .iaload, 1), (528, .aload_n 0, 1), (529, .iload_n 3, 1), (530, .iconst 4, 1), (531, .iadd, 1), (532, .iaload, 1), (533, .invokevirtual 44, 3), (536, .if_icmp .eq 1698, 3), (539, .iconst 0, 1)]
theorem tkL_14 : tbL_14.all (fun q => decide (decode code q.1 = .ok q.2)) = true := by decide +kernel
theorem dL_law_520 : Dc code 520 (.iconst 2) 1 521 := dc_of tkL_14 0 rfl rfl
theorem dL_law_521 : Dc code 521 (.iadd) 1 522 := dc_of tkL_14 1 rfl rfl
theorem dL_law_522 : Dc code 522 (.iaload) 1 523 := dc_of tkL_14 2 rfl rfl
theorem dL_law_523 : Dc code 523 (.aload_n 0) 1 524 := dc_of tkL_14 3 rfl rfl
theorem dL_law_524 : Dc code 524 (.iload_n 3) 1 525 := dc_of tkL_14 4 rfl rfl
theorem dL_law_525 : Dc code 525 (.iconst 3) 1 526 := dc_of tkL_14 5 rfl rfl
theorem dL_law_526 : Dc code 526 (.iadd) 1 527 := dc_of tkL_14 6 rfl rfl
theorem dL_law_527 : Dc code 527 (.iaload) 1 528 := dc_of tkL_14 7 rfl rfl
theorem dL_law_528 : Dc code 528 (.aload_n 0) 1 529 := dc_of tkL_14 8 rfl rfl
theorem dL_law_529 : Dc code 529 (.iload_n 3) 1 530 := dc_of tkL_14 9 rfl rfl
theorem dL_law_530 : Dc code 530 (.iconst 4) 1 531 := dc_of tkL_14 10 rfl rfl
theorem dL_law_531 : Dc code 531 (.iadd) 1 532 := dc_of tkL_14 11 rfl rfl
theorem dL_law_532 : Dc code 532 (.iaload) 1 533 := dc_of tkL_14 12 rfl rfl
theorem dL_law_533 : Dc code 533 (.invokevirtual 44) 3 536 := dc_of tkL_14 13 rfl rfl
theorem dL_law_536 : Dc code 536 (.if_icmp .eq 1698) 3 539 := dc_of tkL_14 14 rfl rfl
theorem dL_law_539 : Dc code 539 (.iconst 0) 1 540 := dc_of tkL_14 15 rfl rfl
def tbL_15 : List (Nat × Instr × Nat) := [(540, .ireturn, 1), (541, .aload_n 1, 1), (542, .aload_n 0, 1), (543, .iload_n 3, 1), (544, .iconst 1, 1), (545, .iadd, 1), (546, .iaload, 1), (547, .aload_n 0, 1), (548, .iload_n 3, 1), (549, .iconst 2, 1), (550, .iadd, 1), (551, .iaload, 1), (552, .aload_n 0, 1), (553, .iload_n 3, 1), (554, .iconst 3, 1), (555, .iadd, 1)]
theorem tkL_15 : tbL_15.all (fun q => decide (decode code q.1 = .ok q.2)) = true := by decide +kernel
theorem dL_law_540 : Dc code 540 (.ireturn) 1 541 := dc_of tkL_15 0 rfl rfl
theorem dL_law_541 : Dc code 541 (.aload_n 1) 1 542 := dc_of tkL_15 1 rfl rfl
theorem dL_law_542 : Dc code 542 (.aload_n 0) 1 543 := dc_of tkL_15 2 rfl rfl
theorem dL_law_543 : Dc code 543 (.iload_n 3) 1 544 := dc_of tkL_15 3 rfl rfl
theorem dL_law_544 : Dc code 544 (.iconst 1) 1 545 := dc_of tkL_15 4 rfl rfl
theorem dL_law_545 : Dc code 545 (.iadd) 1 546 := dc_of tkL_15 5 rfl rfl
theorem dL_law_546 : Dc code 546 (.iaload) 1 547 := dc_of tkL_15 6 rfl rfl
theorem dL_law_547 : Dc code 547 (.aload_n 0) 1 548 := dc_of tkL_15 7 rfl rfl
theorem dL_law_548 : Dc code 548 (.iload_n 3) 1 549 := dc_of tkL_15 8 rfl rfl
theorem dL_law_549 : Dc code 549 (.iconst 2) 1 550 := dc_of tkL_15 9 rfl rfl
theorem dL_law_550 : Dc code 550 (.iadd) 1 551 := dc_of tkL_15 10 rfl rfl
theorem dL_law_551 : Dc code 551 (.iaload) 1 552 := dc_of tkL_15 11 rfl rfl
theorem dL_law_552 : Dc code 552 (.aload_n 0) 1 553 := dc_of tkL_15 12 rfl rfl
theorem dL_law_553 : Dc code 553 (.iload_n 3) 1 554 := dc_of tkL_15 13 rfl rfl
theorem dL_law_554 : Dc code 554 (.iconst 3) 1 555 := dc_of tkL_15 14 rfl rfl
theorem dL_law_555 : Dc code 555 (.iadd) 1 556 := dc_of tkL_15 15 rfl rfl
def tbL_16 : List (Nat × Instr × Nat) := [(556, .iaload, 1), (557, .aload_n 0, 1), (558, .iload_n 3, 1), (559, .iconst 4, 1), (560, .iadd, 1), (561, .iaload, 1), (562, .invokevirtual 45, 3), (565, .aload_n 2, 1), (566, .aload_n 0, 1), (567, .iload_n 3, 1), (568, .iconst 1, 1), (569, .iadd, 1), (570, .iaload, 1), (571, .aload_n 0, 1), (572, .iload_n 3, 1), (573, .iconst 2, 1)]
theorem tkL_16 : tbL_16.all (fun q => decide (decode code q.1 = .ok q.2)) = true := by decide +kernel
theorem dL_law_556 : Dc code 556 (.iaload) 1 557 := dc_of tkL_16 0 rfl rfl
theorem dL_law_557 : Dc code 557 (.aload_n 0) 1 558 := dc_of tkL_16 1 rfl rfl
theorem dL_law_558 : Dc code 558 (.iload_n 3) 1 559 := dc_of tkL_16 2 rfl rfl
theorem dL_law_559 : Dc code 559 (.iconst 4) 1 560 := dc_of tkL_16 3 rfl rfl
theorem dL_law_560 : Dc code 560 (.iadd) 1 561 := dc_of tkL_16 4 rfl rfl
theorem dL_law_561 : Dc code 561 (.iaload) 1 562 := dc_of tkL_16 5 rfl rfl
theorem dL_law_562 : Dc code 562 (.invokevirtual 45) 3 565 := dc_of tkL_16 6 rfl rfl
theorem dL_law_565 : Dc code 565 (.aload_n 2) 1 566 := dc_of tkL_16 7 rfl rfl
theorem dL_law_566 : Dc code 566 (.aload_n 0) 1 567 := dc_of tkL_16 8 rfl rfl
theorem dL_law_567 : Dc code 567 (.iload_n 3) 1 568 := dc_of tkL_16 9 rfl rfl
theorem dL_law_568 : Dc code 568 (.iconst 1) 1 569 := dc_of tkL_16 10 rfl rfl
theorem dL_law_569 : Dc code 569 (.iadd) 1 570 := dc_of tkL_16 11 rfl rfl
theorem dL_law_570 : Dc code 570 (.iaload) 1 571 := dc_of tkL_16 12 rfl rfl
theorem dL_law_571 : Dc code 571 (.aload_n 0) 1 572 := dc_of tkL_16 13 rfl rfl
theorem dL_law_572 : Dc code 572 (.iload_n 3) 1 573 := dc_of tkL_16 14 rfl rfl
theorem dL_law_573 : Dc code 573 (.iconst 2) 1 574 := dc_of tkL_16 15 rfl rfl
def tbL_17 : List (Nat × Instr × Nat) := [(574, .iadd, 1), (575, .iaload, 1), (576, .aload_n 0, 1), (577, .iload_n 3, 1), (578, .iconst 3, 1), (579, .iadd, 1), (580, .iaload, 1), (581, .aload_n 0, 1), (582, .iload_n 3, 1), (583, .iconst 4, 1), (584, .iadd, 1), (585, .iaload, 1), (586, .invokevirtual 48, 3), (589, .if_icmp .eq 1645, 3), (592, .iconst 0, 1), (593, .ireturn, 1)]
theorem tkL_17 : tbL_17.all (fun q => decide (decode code q.1 = .ok q.2)) = true := by decide +kernel
theorem dL_law_574 : Dc code 574 (.iadd) 1 575 := dc_of tkL_17 0 rfl rfl
theorem dL_law_575 : Dc code 575 (.iaload) 1 576 := dc_of tkL_17 1 rfl rfl
theorem dL_law_576 : Dc code 576 (.aload_n 0) 1 577 := dc_of tkL_17 2 rfl rfl
theorem dL_law_577 : Dc code 577 (.iload_n 3) 1 578 := dc_of tkL_17 3 rfl rfl
theorem dL_law_578 : Dc code 578 (.iconst 3) 1 579 := dc_of tkL_17 4 rfl rfl
theorem dL_law_579 : Dc code 579 (.iadd) 1 580 := dc_of tkL_17 5 rfl rfl
theorem dL_law_580 : Dc code 580 (.iaload) 1 581 := dc_of tkL_17 6 rfl rfl
theorem dL_law_581 : Dc code 581 (.aload_n 0) 1 582 := dc_of tkL_17 7 rfl rfl
theorem dL_law_582 : Dc code 582 (.iload_n 3) 1 583 := dc_of tkL_17 8 rfl rfl
theorem dL_law_583 : Dc code 583 (.iconst 4) 1 584 := dc_of tkL_17 9 rfl rfl
theorem dL_law_584 : Dc code 584 (.iadd) 1 585 := dc_of tkL_17 10 rfl rfl
theorem dL_law_585 : Dc code 585 (.iaload) 1 586 := dc_of tkL_17 11 rfl rfl
theorem dL_law_586 : Dc code 586 (.invokevirtual 48) 3 589 := dc_of tkL_17 12 rfl rfl
theorem dL_law_589 : Dc code 589 (.if_icmp .eq 1645) 3 592 := dc_of tkL_17 13 rfl rfl
theorem dL_law_592 : Dc code 592 (.iconst 0) 1 593 := dc_of tkL_17 14 rfl rfl
theorem dL_law_593 : Dc code 593 (.ireturn) 1 594 := dc_of tkL_17 15 rfl rfl
def tbL_18 : List (Nat × Instr × Nat) := [(594, .aload_n 1, 1), (595, .aload_n 0, 1), (596, .iload_n 3, 1), (597, .iconst 1, 1), (598, .iadd, 1), (599, .iaload, 1), (600, .aload_n 0, 1), (601, .iload_n 3, 1), (602, .iconst 2, 1), (603, .iadd, 1), (604, .iaload, 1), (605, .aload_n 0, 1), (606, .iload_n 3, 1), (607, .iconst 3, 1), (608, .iadd, 1), (609, .iaload, 1)]
theorem tkL_18 : tbL_18.all (fun q => decide (decode code q.1 = .ok q.2)) = true := by decide +kernel
theorem dL_law_594 : Dc code 594 (.aload_n 1) 1 595 := dc_of tkL_18 0 rfl rfl
theorem dL_law_595 : Dc code 595 (.aload_n 0) 1 596 := dc_of tkL_18 1 rfl rfl
theorem dL_law_596 : Dc code 596 (.iload_n 3) 1 597 := dc_of tkL_18 2 rfl rfl
theorem dL_law_597 : Dc code 597 (.iconst 1) 1 598 := dc_of tkL_18 3 rfl rfl
theorem dL_law_598 : Dc code 598 (.iadd) 1 599 := dc_of tkL_18 4 rfl rfl
theorem dL_law_599 : Dc code 599 (.iaload) 1 600 := dc_of tkL_18 5 rfl rfl
theorem dL_law_600 : Dc code 600 (.aload_n 0) 1 601 := dc_of tkL_18 6 rfl rfl
theorem dL_law_601 : Dc code 601 (.iload_n 3) 1 602 := dc_of tkL_18 7 rfl rfl
theorem dL_law_602 : Dc code 602 (.iconst 2) 1 603 := dc_of tkL_18 8 rfl rfl
theorem dL_law_603 : Dc code 603 (.iadd) 1 604 := dc_of tkL_18 9 rfl rfl
theorem dL_law_604 : Dc code 604 (.iaload) 1 605 := dc_of tkL_18 10 rfl rfl
theorem dL_law_605 : Dc code 605 (.aload_n 0) 1 606 := dc_of tkL_18 11 rfl rfl
theorem dL_law_606 : Dc code 606 (.iload_n 3) 1 607 := dc_of tkL_18 12 rfl rfl
theorem dL_law_607 : Dc code 607 (.iconst 3) 1 608 := dc_of tkL_18 13 rfl rfl
theorem dL_law_608 : Dc code 608 (.iadd) 1 609 := dc_of tkL_18 14 rfl rfl
theorem dL_law_609 : Dc code 609 (.iaload) 1 610 := dc_of tkL_18 15 rfl rfl
def tbL_19 : List (Nat × Instr × Nat) := [(610, .invokevirtual 49, 3), (613, .aload_n 2, 1), (614, .aload_n 0, 1), (615, .iload_n 3, 1), (616, .iconst 1, 1), (617, .iadd, 1), (618, .iaload, 1), (619, .aload_n 0, 1), (620, .iload_n 3, 1), (621, .iconst 2, 1), (622, .iadd, 1), (623, .iaload, 1), (624, .aload_n 0, 1), (625, .iload_n 3, 1), (626, .iconst 3, 1), (627, .iadd, 1)]
theorem tkL_19 : tbL_19.all (fun q => decide (decode code q.1 = .ok q.2)) = true := by decide +kernel
theorem dL_law_610 : Dc code 610 (.invokevirtual 49) 3 613 := dc_of tkL_19 0 rfl rfl
theorem dL_law_613 : Dc code 613 (.aload_n 2) 1 614 := dc_of tkL_19 1 rfl rfl
theorem dL_law_614 : Dc code 614 (.aload_n 0) 1 615 := dc_of tkL_19 2 rfl rfl
theorem dL_law_615 : Dc code 615 (.iload_n 3) 1 616 := dc_of tkL_19 3 rfl rfl
theorem dL_law_616 : Dc code 616 (.iconst 1) 1 617 := dc_of tkL_19 4 rfl rfl
theorem dL_law_617 : Dc code 617 (.iadd) 1 618 := dc_of tkL_19 5 rfl rfl
theorem dL_law_618 : Dc code 618 (.iaload) 1 619 := dc_of tkL_19 6 rfl rfl
theorem dL_law_619 : Dc code 619 (.aload_n 0) 1 620 := dc_of tkL_19 7 rfl rfl
theorem dL_law_620 : Dc code 620 (.iload_n 3) 1 621 := dc_of tkL_19 8 rfl rfl
theorem dL_law_621 : Dc code 621 (.iconst 2) 1 622 := dc_of tkL_19 9 rfl rfl
theorem dL_law_622 : Dc code 622 (.iadd) 1 623 := dc_of tkL_19 10 rfl rfl
theorem dL_law_623 : Dc code 623 (.iaload) 1 624 := dc_of tkL_19 11 rfl rfl
theorem dL_law_624 : Dc code 624 (.aload_n 0) 1 625 := dc_of tkL_19 12 rfl rfl
theorem dL_law_625 : Dc code 625 (.iload_n 3) 1 626 := dc_of tkL_19 13 rfl rfl
theorem dL_law_626 : Dc code 626 (.iconst 3) 1 627 := dc_of tkL_19 14 rfl rfl
theorem dL_law_627 : Dc code 627 (.iadd) 1 628 := dc_of tkL_19 15 rfl rfl
def tbL_20 : List (Nat × Instr × Nat) := [(628, .iaload, 1), (629, .invokevirtual 52, 3), (632, .if_icmp .eq 1602, 3), (635, .iconst 0, 1), (636, .ireturn, 1), (637, .aload_n 1, 1), (638, .aload_n 0, 1), (639, .iload_n 3, 1), (640, .iconst 1, 1), (641, .iadd, 1), (642, .iaload, 1), (643, .aload_n 0, 1), (644, .iload_n 3, 1), (645, .iconst 2, 1), (646, .iadd, 1), (647, .iaload, 1)]
theorem tkL_20 : tbL_20.all (fun q => decide (decode code q.1 = .ok q.2)) = true := by decide +kernel
theorem dL_law_628 : Dc code 628 (.iaload) 1 629 := dc_of tkL_20 0 rfl rfl
theorem dL_law_629 : Dc code 629 (.invokevirtual 52) 3 632 := dc_of tkL_20 1 rfl rfl
theorem dL_law_632 : Dc code 632 (.if_icmp .eq 1602) 3 635 := dc_of tkL_20 2 rfl rfl
theorem dL_law_635 : Dc code 635 (.iconst 0) 1 636 := dc_of tkL_20 3 rfl rfl
theorem dL_law_636 : Dc code 636 (.ireturn) 1 637 := dc_of tkL_20 4 rfl rfl
theorem dL_law_637 : Dc code 637 (.aload_n 1) 1 638 := dc_of tkL_20 5 rfl rfl
theorem dL_law_638 : Dc code 638 (.aload_n 0) 1 639 := dc_of tkL_20 6 rfl rfl
theorem dL_law_639 : Dc code 639 (.iload_n 3) 1 640 := dc_of tkL_20 7 rfl rfl
theorem dL_law_640 : Dc code 640 (.iconst 1) 1 641 := dc_of tkL_20 8 rfl rfl
theorem dL_law_641 : Dc code 641 (.iadd) 1 642 := dc_of tkL_20 9 rfl rfl
theorem dL_law_642 : Dc code 642 (.iaload) 1 643 := dc_of tkL_20 10 rfl rfl
theorem dL_law_643 : Dc code 643 (.aload_n 0) 1 644 := dc_of tkL_20 11 rfl rfl
theorem dL_law_644 : Dc code 644 (.iload_n 3) 1 645 := dc_of tkL_20 12 rfl rfl
theorem dL_law_645 : Dc code 645 (.iconst 2) 1 646 := dc_of tkL_20 13 rfl rfl
theorem dL_law_646 : Dc code 646 (.iadd) 1 647 := dc_of tkL_20 14 rfl rfl
theorem dL_law_647 : Dc code 647 (.iaload) 1 648 := dc_of tkL_20 15 rfl rfl
def tbL_21 : List (Nat × Instr × Nat) := [(648, .invokevirtual 53, 3), (651, .aload_n 2, 1), (652, .aload_n 0, 1), (653, .iload_n 3, 1), (654, .iconst 1, 1), (655, .iadd, 1), (656, .iaload, 1), (657, .aload_n 0, 1), (658, .iload_n 3, 1), (659, .iconst 2, 1), (660, .iadd, 1), (661, .iaload, 1), (662, .invokevirtual 56, 3), (665, .if_icmp .eq 1569, 3), (668, .iconst 0, 1), (669, .ireturn, 1)]
theorem tkL_21 : tbL_21.all (fun q => decide (decode code q.1 = .ok q.2)) = true := by decide +kernel
theorem dL_law_648 : Dc code 648 (.invokevirtual 53) 3 651 := dc_of tkL_21 0 rfl rfl
theorem dL_law_651 : Dc code 651 (.aload_n 2) 1 652 := dc_of tkL_21 1 rfl rfl
theorem dL_law_652 : Dc code 652 (.aload_n 0) 1 653 := dc_of tkL_21 2 rfl rfl
theorem dL_law_653 : Dc code 653 (.iload_n 3) 1 654 := dc_of tkL_21 3 rfl rfl
theorem dL_law_654 : Dc code 654 (.iconst 1) 1 655 := dc_of tkL_21 4 rfl rfl
theorem dL_law_655 : Dc code 655 (.iadd) 1 656 := dc_of tkL_21 5 rfl rfl
theorem dL_law_656 : Dc code 656 (.iaload) 1 657 := dc_of tkL_21 6 rfl rfl
theorem dL_law_657 : Dc code 657 (.aload_n 0) 1 658 := dc_of tkL_21 7 rfl rfl
theorem dL_law_658 : Dc code 658 (.iload_n 3) 1 659 := dc_of tkL_21 8 rfl rfl
theorem dL_law_659 : Dc code 659 (.iconst 2) 1 660 := dc_of tkL_21 9 rfl rfl
theorem dL_law_660 : Dc code 660 (.iadd) 1 661 := dc_of tkL_21 10 rfl rfl
theorem dL_law_661 : Dc code 661 (.iaload) 1 662 := dc_of tkL_21 11 rfl rfl
theorem dL_law_662 : Dc code 662 (.invokevirtual 56) 3 665 := dc_of tkL_21 12 rfl rfl
theorem dL_law_665 : Dc code 665 (.if_icmp .eq 1569) 3 668 := dc_of tkL_21 13 rfl rfl
theorem dL_law_668 : Dc code 668 (.iconst 0) 1 669 := dc_of tkL_21 14 rfl rfl
theorem dL_law_669 : Dc code 669 (.ireturn) 1 670 := dc_of tkL_21 15 rfl rfl
def tbL_22 : List (Nat × Instr × Nat) := [(670, .aload_n 1, 1), (671, .aload_n 0, 1), (672, .iload_n 3, 1), (673, .iconst 1, 1), (674, .iadd, 1), (675, .iaload, 1), (676, .aload_n 0, 1), (677, .iload_n 3, 1), (678, .iconst 2, 1), (679, .iadd, 1), (680, .iaload, 1), (681, .invokevirtual 57, 3), (684, .aload_n 2, 1), (685, .aload_n 0, 1), (686, .iload_n 3, 1), (687, .iconst 1, 1)]
theorem tkL_22 : tbL_22.all (fun q => decide (decode code q.1 = .ok q.2)) = true := by decide +kernel
theorem dL_law_670 : Dc code 670 (.aload_n 1) 1 671 := dc_of tkL_22 0 rfl rfl
theorem dL_law_671 : Dc code 671 (.aload_n 0) 1 672 := dc_of tkL_22 1 rfl rfl
theorem dL_law_672 : Dc code 672 (.iload_n 3) 1 673 := dc_of tkL_22 2 rfl rfl
theorem dL_law_673 : Dc code 673 (.iconst 1) 1 674 := dc_of tkL_22 3 rfl rfl
theorem dL_law_674 : Dc code 674 (.iadd) 1 675 := dc_of tkL_22 4 rfl rfl
theorem dL_law_675 : Dc code 675 (.iaload) 1 676 := dc_of tkL_22 5 rfl rfl
theorem dL_law_676 : Dc code 676 (.aload_n 0) 1 677 := dc_of tkL_22 6 rfl rfl
theorem dL_law_677 : Dc code 677 (.iload_n 3) 1 678 := dc_of tkL_22 7 rfl rfl
theorem dL_law_678 : Dc code 678 (.iconst 2) 1 679 := dc_of tkL_22 8 rfl rfl
theorem dL_law_679 : Dc code 679 (.iadd) 1 680 := dc_of tkL_22 9 rfl rfl
theorem dL_law_680 : Dc code 680 (.iaload) 1 681 := dc_of tkL_22 10 rfl rfl
theorem dL_law_681 : Dc code 681 (.invokevirtual 57) 3 684 := dc_of tkL_22 11 rfl rfl
theorem dL_law_684 : Dc code 684 (.aload_n 2) 1 685 := dc_of tkL_22 12 rfl rfl
theorem dL_law_685 : Dc code 685 (.aload_n 0) 1 686 := dc_of tkL_22 13 rfl rfl
theorem dL_law_686 : Dc code 686 (.iload_n 3) 1 687 := dc_of tkL_22 14 rfl rfl
theorem dL_law_687 : Dc code 687 (.iconst 1) 1 688 := dc_of tkL_22 15 rfl rfl
def tbL_23 : List (Nat × Instr × Nat) := [(688, .iadd, 1), (689, .iaload, 1), (690, .aload_n 0, 1), (691, .iload_n 3, 1), (692, .iconst 2, 1), (693, .iadd, 1), (694, .iaload, 1), (695, .invokevirtual 60, 3), (698, .if_icmp .eq 1536, 3), (701, .iconst 0, 1), (702, .ireturn, 1), (703, .aload_n 1, 1), (704, .aload_n 0, 1), (705, .iload_n 3, 1), (706, .iconst 1, 1), (707, .iadd, 1)]
theorem tkL_23 : tbL_23.all (fun q => decide (decode code q.1 = .ok q.2)) = true := by decide +kernel
theorem dL_law_688 : Dc code 688 (.iadd) 1 689 := dc_of tkL_23 0 rfl rfl
theorem dL_law_689 : Dc code 689 (.iaload) 1 690 := dc_of tkL_23 1 rfl rfl
theorem dL_law_690 : Dc code 690 (.aload_n 0) 1 691 := dc_of tkL_23 2 rfl rfl
theorem dL_law_691 : Dc code 691 (.iload_n 3) 1 692 := dc_of tkL_23 3 rfl rfl
theorem dL_law_692 : Dc code 692 (.iconst 2) 1 693 := dc_of tkL_23 4 rfl rfl
theorem dL_law_693 : Dc code 693 (.iadd) 1 694 := dc_of tkL_23 5 rfl rfl
theorem dL_law_694 : Dc code 694 (.iaload) 1 695 := dc_of tkL_23 6 rfl rfl
theorem dL_law_695 : Dc code 695 (.invokevirtual 60) 3 698 := dc_of tkL_23 7 rfl rfl
theorem dL_law_698 : Dc code 698 (.if_icmp .eq 1536) 3 701 := dc_of tkL_23 8 rfl rfl
theorem dL_law_701 : Dc code 701 (.iconst 0) 1 702 := dc_of tkL_23 9 rfl rfl
theorem dL_law_702 : Dc code 702 (.ireturn) 1 703 := dc_of tkL_23 10 rfl rfl
theorem dL_law_703 : Dc code 703 (.aload_n 1) 1 704 := dc_of tkL_23 11 rfl rfl
theorem dL_law_704 : Dc code 704 (.aload_n 0) 1 705 := dc_of tkL_23 12 rfl rfl
theorem dL_law_705 : Dc code 705 (.iload_n 3) 1 706 := dc_of tkL_23 13 rfl rfl
theorem dL_law_706 : Dc code 706 (.iconst 1) 1 707 := dc_of tkL_23 14 rfl rfl
theorem dL_law_707 : Dc code 707 (.iadd) 1 708 := dc_of tkL_23 15 rfl rfl
def tbL_24 : List (Nat × Instr × Nat) := [(708, .iaload, 1), (709, .aload_n 0, 1), (710, .iload_n 3, 1), (711, .iconst 2, 1), (712, .iadd, 1), (713, .iaload, 1), (714, .invokevirtual 61, 3), (717, .aload_n 2, 1), (718, .aload_n 0, 1), (719, .iload_n 3, 1), (720, .iconst 1, 1), (721, .iadd, 1), (722, .iaload, 1), (723, .aload_n 0, 1), (724, .iload_n 3, 1), (725, .iconst 2, 1)]
theorem tkL_24 : tbL_24.all (fun q => decide (decode code q.1 = .ok q.2)) = true := by decide +kernel
theorem dL_law_708 : Dc code 708 (.iaload) 1 709 := dc_of tkL_24 0 rfl rfl
theorem dL_law_709 : Dc code 709 (.aload_n 0) 1 710 := dc_of tkL_24 1 rfl rfl
theorem dL_law_710 : Dc code 710 (.iload_n 3) 1 711 := dc_of tkL_24 2 rfl rfl
theorem dL_law_711 : Dc code 711 (.iconst 2) 1 712 := dc_of tkL_24 3 rfl rfl
theorem dL_law_712 : Dc code 712 (.iadd) 1 713 := dc_of tkL_24 4 rfl rfl
theorem dL_law_713 : Dc code 713 (.iaload) 1 714 := dc_of tkL_24 5 rfl rfl
theorem dL_law_714 : Dc code 714 (.invokevirtual 61) 3 717 := dc_of tkL_24 6 rfl rfl
theorem dL_law_717 : Dc code 717 (.aload_n 2) 1 718 := dc_of tkL_24 7 rfl rfl
theorem dL_law_718 : Dc code 718 (.aload_n 0) 1 719 := dc_of tkL_24 8 rfl rfl
theorem dL_law_719 : Dc code 719 (.iload_n 3) 1 720 := dc_of tkL_24 9 rfl rfl
theorem dL_law_720 : Dc code 720 (.iconst 1) 1 721 := dc_of tkL_24 10 rfl rfl
theorem dL_law_721 : Dc code 721 (.iadd) 1 722 := dc_of tkL_24 11 rfl rfl
theorem dL_law_722 : Dc code 722 (.iaload) 1 723 := dc_of tkL_24 12 rfl rfl
theorem dL_law_723 : Dc code 723 (.aload_n 0) 1 724 := dc_of tkL_24 13 rfl rfl
theorem dL_law_724 : Dc code 724 (.iload_n 3) 1 725 := dc_of tkL_24 14 rfl rfl
theorem dL_law_725 : Dc code 725 (.iconst 2) 1 726 := dc_of tkL_24 15 rfl rfl
def tbL_25 : List (Nat × Instr × Nat) := [(726, .iadd, 1), (727, .iaload, 1), (728, .invokevirtual 64, 3), (731, .if_icmp .eq 1503, 3), (734, .iconst 0, 1), (735, .ireturn, 1), (736, .aload_n 1, 1), (737, .aload_n 0, 1), (738, .iload_n 3, 1), (739, .iconst 1, 1), (740, .iadd, 1), (741, .iaload, 1), (742, .aload_n 0, 1), (743, .iload_n 3, 1), (744, .iconst 2, 1), (745, .iadd, 1)]
theorem tkL_25 : tbL_25.all (fun q => decide (decode code q.1 = .ok q.2)) = true := by decide +kernel
theorem dL_law_726 : Dc code 726 (.iadd) 1 727 := dc_of tkL_25 0 rfl rfl
theorem dL_law_727 : Dc code 727 (.iaload) 1 728 := dc_of tkL_25 1 rfl rfl
theorem dL_law_728 : Dc code 728 (.invokevirtual 64) 3 731 := dc_of tkL_25 2 rfl rfl
theorem dL_law_731 : Dc code 731 (.if_icmp .eq 1503) 3 734 := dc_of tkL_25 3 rfl rfl
theorem dL_law_734 : Dc code 734 (.iconst 0) 1 735 := dc_of tkL_25 4 rfl rfl
theorem dL_law_735 : Dc code 735 (.ireturn) 1 736 := dc_of tkL_25 5 rfl rfl
theorem dL_law_736 : Dc code 736 (.aload_n 1) 1 737 := dc_of tkL_25 6 rfl rfl
theorem dL_law_737 : Dc code 737 (.aload_n 0) 1 738 := dc_of tkL_25 7 rfl rfl
theorem dL_law_738 : Dc code 738 (.iload_n 3) 1 739 := dc_of tkL_25 8 rfl rfl
theorem dL_law_739 : Dc code 739 (.iconst 1) 1 740 := dc_of tkL_25 9 rfl rfl
theorem dL_law_740 : Dc code 740 (.iadd) 1 741 := dc_of tkL_25 10 rfl rfl
theorem dL_law_741 : Dc code 741 (.iaload) 1 742 := dc_of tkL_25 11 rfl rfl
theorem dL_law_742 : Dc code 742 (.aload_n 0) 1 743 := dc_of tkL_25 12 rfl rfl
theorem dL_law_743 : Dc code 743 (.iload_n 3) 1 744 := dc_of tkL_25 13 rfl rfl
theorem dL_law_744 : Dc code 744 (.iconst 2) 1 745 := dc_of tkL_25 14 rfl rfl
theorem dL_law_745 : Dc code 745 (.iadd) 1 746 := dc_of tkL_25 15 rfl rfl
def tbL_26 : List (Nat × Instr × Nat) := [(746, .iaload, 1), (747, .aload_n 0, 1), (748, .iload_n 3, 1), (749, .iconst 3, 1), (750, .iadd, 1), (751, .iaload, 1), (752, .invokevirtual 65, 3), (755, .aload_n 2, 1), (756, .aload_n 0, 1), (757, .iload_n 3, 1), (758, .iconst 1, 1), (759, .iadd, 1), (760, .iaload, 1), (761, .aload_n 0, 1), (762, .iload_n 3, 1), (763, .iconst 2, 1)]
theorem tkL_26 : tbL_26.all (fun q => decide (decode code q.1 = .ok q.2)) = true := by decide +kernel
theorem dL_law_746 : Dc code 746 (.iaload) 1 747 := dc_of tkL_26 0 rfl rfl
theorem dL_law_747 : Dc code 747 (.aload_n 0) 1 748 := dc_of tkL_26 1 rfl rfl
theorem dL_law_748 : Dc code 748 (.iload_n 3) 1 749 := dc_of tkL_26 2 rfl rfl
theorem dL_law_749 : Dc code 749 (.iconst 3) 1 750 := dc_of tkL_26 3 rfl rfl
theorem dL_law_750 : Dc code 750 (.iadd) 1 751 := dc_of tkL_26 4 rfl rfl
theorem dL_law_751 : Dc code 751 (.iaload) 1 752 := dc_of tkL_26 5 rfl rfl
theorem dL_law_752 : Dc code 752 (.invokevirtual 65) 3 755 := dc_of tkL_26 6 rfl rfl
theorem dL_law_755 : Dc code 755 (.aload_n 2) 1 756 := dc_of tkL_26 7 rfl rfl
theorem dL_law_756 : Dc code 756 (.aload_n 0) 1 757 := dc_of tkL_26 8 rfl rfl
theorem dL_law_757 : Dc code 757 (.iload_n 3) 1 758 := dc_of tkL_26 9 rfl rfl
theorem dL_law_758 : Dc code 758 (.iconst 1) 1 759 := dc_of tkL_26 10 rfl rfl
theorem dL_law_759 : Dc code 759 (.iadd) 1 760 := dc_of tkL_26 11 rfl rfl
theorem dL_law_760 : Dc code 760 (.iaload) 1 761 := dc_of tkL_26 12 rfl rfl
theorem dL_law_761 : Dc code 761 (.aload_n 0) 1 762 := dc_of tkL_26 13 rfl rfl
theorem dL_law_762 : Dc code 762 (.iload_n 3) 1 763 := dc_of tkL_26 14 rfl rfl
theorem dL_law_763 : Dc code 763 (.iconst 2) 1 764 := dc_of tkL_26 15 rfl rfl
def tbL_27 : List (Nat × Instr × Nat) := [(764, .iadd, 1), (765, .iaload, 1), (766, .aload_n 0, 1), (767, .iload_n 3, 1), (768, .iconst 3, 1), (769, .iadd, 1), (770, .iaload, 1), (771, .invokevirtual 68, 3), (774, .if_icmp .eq 1460, 3), (777, .iconst 0, 1), (778, .ireturn, 1), (779, .aload_n 1, 1), (780, .aload_n 0, 1), (781, .iload_n 3, 1), (782, .iconst 1, 1), (783, .iadd, 1)]
theorem tkL_27 : tbL_27.all (fun q => decide (decode code q.1 = .ok q.2)) = true := by decide +kernel
theorem dL_law_764 : Dc code 764 (.iadd) 1 765 := dc_of tkL_27 0 rfl rfl
theorem dL_law_765 : Dc code 765 (.iaload) 1 766 := dc_of tkL_27 1 rfl rfl
theorem dL_law_766 : Dc code 766 (.aload_n 0) 1 767 := dc_of tkL_27 2 rfl rfl
theorem dL_law_767 : Dc code 767 (.iload_n 3) 1 768 := dc_of tkL_27 3 rfl rfl
theorem dL_law_768 : Dc code 768 (.iconst 3) 1 769 := dc_of tkL_27 4 rfl rfl
theorem dL_law_769 : Dc code 769 (.iadd) 1 770 := dc_of tkL_27 5 rfl rfl
theorem dL_law_770 : Dc code 770 (.iaload) 1 771 := dc_of tkL_27 6 rfl rfl
theorem dL_law_771 : Dc code 771 (.invokevirtual 68) 3 774 := dc_of tkL_27 7 rfl rfl
theorem dL_law_774 : Dc code 774 (.if_icmp .eq 1460) 3 777 := dc_of tkL_27 8 rfl rfl
theorem dL_law_777 : Dc code 777 (.iconst 0) 1 778 := dc_of tkL_27 9 rfl rfl
theorem dL_law_778 : Dc code 778 (.ireturn) 1 779 := dc_of tkL_27 10 rfl rfl
theorem dL_law_779 : Dc code 779 (.aload_n 1) 1 780 := dc_of tkL_27 11 rfl rfl
theorem dL_law_780 : Dc code 780 (.aload_n 0) 1 781 := dc_of tkL_27 12 rfl rfl
theorem dL_law_781 : Dc code 781 (.iload_n 3) 1 782 := dc_of tkL_27 13 rfl rfl
theorem dL_law_782 : Dc code 782 (.iconst 1) 1 783 := dc_of tkL_27 14 rfl rfl
theorem dL_law_783 : Dc code 783 (.iadd) 1 784 := dc_of tkL_27 15 rfl rfl
def tbL_28 : List (Nat × Instr × Nat) := [(784, .iaload, 1), (785, .aload_n 0, 1), (786, .iload_n 3, 1), (787, .iconst 2, 1), (788, .iadd, 1), (789, .iaload, 1), (790, .invokevirtual 69, 3), (793, .aload_n 2, 1), (794, .aload_n 0, 1), (795, .iload_n 3, 1), (796, .iconst 1, 1), (797, .iadd, 1), (798, .iaload, 1), (799, .aload_n 0, 1), (800, .iload_n 3, 1), (801, .iconst 2, 1)]
theorem tkL_28 : tbL_28.all (fun q => decide (decode code q.1 = .ok q.2)) = true := by decide +kernel
theorem dL_law_784 : Dc code 784 (.iaload) 1 785 := dc_of tkL_28 0 rfl rfl
theorem dL_law_785 : Dc code 785 (.aload_n 0) 1 786 := dc_of tkL_28 1 rfl rfl
theorem dL_law_786 : Dc code 786 (.iload_n 3) 1 787 := dc_of tkL_28 2 rfl rfl
theorem dL_law_787 : Dc code 787 (.iconst 2) 1 788 := dc_of tkL_28 3 rfl rfl
theorem dL_law_788 : Dc code 788 (.iadd) 1 789 := dc_of tkL_28 4 rfl rfl
theorem dL_law_789 : Dc code 789 (.iaload) 1 790 := dc_of tkL_28 5 rfl rfl
theorem dL_law_790 : Dc code 790 (.invokevirtual 69) 3 793 := dc_of tkL_28 6 rfl rfl
theorem dL_law_793 : Dc code 793 (.aload_n 2) 1 794 := dc_of tkL_28 7 rfl rfl
theorem dL_law_794 : Dc code 794 (.aload_n 0) 1 795 := dc_of tkL_28 8 rfl rfl
theorem dL_law_795 : Dc code 795 (.iload_n 3) 1 796 := dc_of tkL_28 9 rfl rfl
theorem dL_law_796 : Dc code 796 (.iconst 1) 1 797 := dc_of tkL_28 10 rfl rfl
theorem dL_law_797 : Dc code 797 (.iadd) 1 798 := dc_of tkL_28 11 rfl rfl
theorem dL_law_798 : Dc code 798 (.iaload) 1 799 := dc_of tkL_28 12 rfl rfl
theorem dL_law_799 : Dc code 799 (.aload_n 0) 1 800 := dc_of tkL_28 13 rfl rfl
theorem dL_law_800 : Dc code 800 (.iload_n 3) 1 801 := dc_of tkL_28 14 rfl rfl
theorem dL_law_801 : Dc code 801 (.iconst 2) 1 802 := dc_of tkL_28 15 rfl rfl
def tbL_29 : List (Nat × Instr × Nat) := [(802, .iadd, 1), (803, .iaload, 1), (804, .invokevirtual 72, 3), (807, .if_icmp .eq 1427, 3), (810, .iconst 0, 1), (811, .ireturn, 1), (812, .aload_n 1, 1), (813, .aload_n 0, 1), (814, .iload_n 3, 1), (815, .iconst 1, 1), (816, .iadd, 1), (817, .iaload, 1), (818, .invokevirtual 73, 3), (821, .aload_n 2, 1), (822, .aload_n 0, 1), (823, .iload_n 3, 1)]
theorem tkL_29 : tbL_29.all (fun q => decide (decode code q.1 = .ok q.2)) = true := by decide +kernel
theorem dL_law_802 : Dc code 802 (.iadd) 1 803 := dc_of tkL_29 0 rfl rfl
theorem dL_law_803 : Dc code 803 (.iaload) 1 804 := dc_of tkL_29 1 rfl rfl
theorem dL_law_804 : Dc code 804 (.invokevirtual 72) 3 807 := dc_of tkL_29 2 rfl rfl
theorem dL_law_807 : Dc code 807 (.if_icmp .eq 1427) 3 810 := dc_of tkL_29 3 rfl rfl
theorem dL_law_810 : Dc code 810 (.iconst 0) 1 811 := dc_of tkL_29 4 rfl rfl
theorem dL_law_811 : Dc code 811 (.ireturn) 1 812 := dc_of tkL_29 5 rfl rfl
theorem dL_law_812 : Dc code 812 (.aload_n 1) 1 813 := dc_of tkL_29 6 rfl rfl
theorem dL_law_813 : Dc code 813 (.aload_n 0) 1 814 := dc_of tkL_29 7 rfl rfl
theorem dL_law_814 : Dc code 814 (.iload_n 3) 1 815 := dc_of tkL_29 8 rfl rfl
theorem dL_law_815 : Dc code 815 (.iconst 1) 1 816 := dc_of tkL_29 9 rfl rfl
theorem dL_law_816 : Dc code 816 (.iadd) 1 817 := dc_of tkL_29 10 rfl rfl
theorem dL_law_817 : Dc code 817 (.iaload) 1 818 := dc_of tkL_29 11 rfl rfl
theorem dL_law_818 : Dc code 818 (.invokevirtual 73) 3 821 := dc_of tkL_29 12 rfl rfl
theorem dL_law_821 : Dc code 821 (.aload_n 2) 1 822 := dc_of tkL_29 13 rfl rfl
theorem dL_law_822 : Dc code 822 (.aload_n 0) 1 823 := dc_of tkL_29 14 rfl rfl
theorem dL_law_823 : Dc code 823 (.iload_n 3) 1 824 := dc_of tkL_29 15 rfl rfl
def tbL_30 : List (Nat × Instr × Nat) := [(824, .iconst 1, 1), (825, .iadd, 1), (826, .iaload, 1), (827, .invokevirtual 76, 3), (830, .if_icmp .eq 1404, 3), (833, .iconst 0, 1), (834, .ireturn, 1), (835, .aload_n 1, 1), (836, .aload_n 0, 1), (837, .iload_n 3, 1), (838, .iconst 1, 1), (839, .iadd, 1), (840, .iaload, 1), (841, .invokevirtual 77, 3), (844, .aload_n 2, 1), (845, .aload_n 0, 1)]
theorem tkL_30 : tbL_30.all (fun q => decide (decode code q.1 = .ok q.2)) = true := by decide +kernel
theorem dL_law_824 : Dc code 824 (.iconst 1) 1 825 := dc_of tkL_30 0 rfl rfl
theorem dL_law_825 : Dc code 825 (.iadd) 1 826 := dc_of tkL_30 1 rfl rfl
theorem dL_law_826 : Dc code 826 (.iaload) 1 827 := dc_of tkL_30 2 rfl rfl
theorem dL_law_827 : Dc code 827 (.invokevirtual 76) 3 830 := dc_of tkL_30 3 rfl rfl
theorem dL_law_830 : Dc code 830 (.if_icmp .eq 1404) 3 833 := dc_of tkL_30 4 rfl rfl
theorem dL_law_833 : Dc code 833 (.iconst 0) 1 834 := dc_of tkL_30 5 rfl rfl
theorem dL_law_834 : Dc code 834 (.ireturn) 1 835 := dc_of tkL_30 6 rfl rfl
theorem dL_law_835 : Dc code 835 (.aload_n 1) 1 836 := dc_of tkL_30 7 rfl rfl
theorem dL_law_836 : Dc code 836 (.aload_n 0) 1 837 := dc_of tkL_30 8 rfl rfl
theorem dL_law_837 : Dc code 837 (.iload_n 3) 1 838 := dc_of tkL_30 9 rfl rfl
theorem dL_law_838 : Dc code 838 (.iconst 1) 1 839 := dc_of tkL_30 10 rfl rfl
theorem dL_law_839 : Dc code 839 (.iadd) 1 840 := dc_of tkL_30 11 rfl rfl
theorem dL_law_840 : Dc code 840 (.iaload) 1 841 := dc_of tkL_30 12 rfl rfl
theorem dL_law_841 : Dc code 841 (.invokevirtual 77) 3 844 := dc_of tkL_30 13 rfl rfl
theorem dL_law_844 : Dc code 844 (.aload_n 2) 1 845 := dc_of tkL_30 14 rfl rfl
theorem dL_law_845 : Dc code 845 (.aload_n 0) 1 846 := dc_of tkL_30 15 rfl rfl
def tbL_31 : List (Nat × Instr × Nat) := [(846, .iload_n 3, 1), (847, .iconst 1, 1), (848, .iadd, 1), (849, .iaload, 1), (850, .invokevirtual 80, 3), (853, .if_icmp .eq 1381, 3), (856, .iconst 0, 1), (857, .ireturn, 1), (858, .aload_n 1, 1), (859, .aload_n 0, 1), (860, .iload_n 3, 1), (861, .iconst 1, 1), (862, .iadd, 1), (863, .iaload, 1), (864, .aload_n 0, 1), (865, .iload_n 3, 1)]
theorem tkL_31 : tbL_31.all (fun q => decide (decode code q.1 = .ok q.2)) = true := by decide +kernel
theorem dL_law_846 : Dc code 846 (.iload_n 3) 1 847 := dc_of tkL_31 0 rfl rfl
theorem dL_law_847 : Dc code 847 (.iconst 1) 1 848 := dc_of tkL_31 1 rfl rfl
theorem dL_law_848 : Dc code 848 (.iadd) 1 849 := dc_of tkL_31 2 rfl rfl
theorem dL_law_849 : Dc code 849 (.iaload) 1 850 := dc_of tkL_31 3 rfl rfl
theorem dL_law_850 : Dc code 850 (.invokevirtual 80) 3 853 := dc_of tkL_31 4 rfl rfl
theorem dL_law_853 : Dc code 853 (.if_icmp .eq 1381) 3 856 := dc_of tkL_31 5 rfl rfl
theorem dL_law_856 : Dc code 856 (.iconst 0) 1 857 := dc_of tkL_31 6 rfl rfl
theorem dL_law_857 : Dc code 857 (.ireturn) 1 858 := dc_of tkL_31 7 rfl rfl
theorem dL_law_858 : Dc code 858 (.aload_n 1) 1 859 := dc_of tkL_31 8 rfl rfl
theorem dL_law_859 : Dc code 859 (.aload_n 0) 1 860 := dc_of tkL_31 9 rfl rfl
theorem dL_law_860 : Dc code 860 (.iload_n 3) 1 861 := dc_of tkL_31 10 rfl rfl
theorem dL_law_861 : Dc code 861 (.iconst 1) 1 862 := dc_of tkL_31 11 rfl rfl
theorem dL_law_862 : Dc code 862 (.iadd) 1 863 := dc_of tkL_31 12 rfl rfl
theorem dL_law_863 : Dc code 863 (.iaload) 1 864 := dc_of tkL_31 13 rfl rfl
theorem dL_law_864 : Dc code 864 (.aload_n 0) 1 865 := dc_of tkL_31 14 rfl rfl
theorem dL_law_865 : Dc code 865 (.iload_n 3) 1 866 := dc_of tkL_31 15 rfl rfl
def tbL_32 : List (Nat × Instr × Nat) := [(866, .iconst 2, 1), (867, .iadd, 1), (868, .iaload, 1), (869, .invokevirtual 81, 3), (872, .aload_n 2, 1), (873, .aload_n 0, 1), (874, .iload_n 3, 1), (875, .iconst 1, 1), (876, .iadd, 1), (877, .iaload, 1), (878, .aload_n 0, 1), (879, .iload_n 3, 1), (880, .iconst 2, 1), (881, .iadd, 1), (882, .iaload, 1), (883, .invokevirtual 84, 3)]
theorem tkL_32 : tbL_32.all (fun q => decide (decode code q.1 = .ok q.2)) = true := by decide +kernel
theorem dL_law_866 : Dc code 866 (.iconst 2) 1 867 := dc_of tkL_32 0 rfl rfl
theorem dL_law_867 : Dc code 867 (.iadd) 1 868 := dc_of tkL_32 1 rfl rfl
theorem dL_law_868 : Dc code 868 (.iaload) 1 869 := dc_of tkL_32 2 rfl rfl
theorem dL_law_869 : Dc code 869 (.invokevirtual 81) 3 872 := dc_of tkL_32 3 rfl rfl
theorem dL_law_872 : Dc code 872 (.aload_n 2) 1 873 := dc_of tkL_32 4 rfl rfl
theorem dL_law_873 : Dc code 873 (.aload_n 0) 1 874 := dc_of tkL_32 5 rfl rfl
theorem dL_law_874 : Dc code 874 (.iload_n 3) 1 875 := dc_of tkL_32 6 rfl rfl
theorem dL_law_875 : Dc code 875 (.iconst 1) 1 876 := dc_of tkL_32 7 rfl rfl
theorem dL_law_876 : Dc code 876 (.iadd) 1 877 := dc_of tkL_32 8 rfl rfl
theorem dL_law_877 : Dc code 877 (.iaload) 1 878 := dc_of tkL_32 9 rfl rfl
theorem dL_law_878 : Dc code 878 (.aload_n 0) 1 879 := dc_of tkL_32 10 rfl rfl
theorem dL_law_879 : Dc code 879 (.iload_n 3) 1 880 := dc_of tkL_32 11 rfl rfl
theorem dL_law_880 : Dc code 880 (.iconst 2) 1 881 := dc_of tkL_32 12 rfl rfl
theorem dL_law_881 : Dc code 881 (.iadd) 1 882 := dc_of tkL_32 13 rfl rfl
theorem dL_law_882 : Dc code 882 (.iaload) 1 883 := dc_of tkL_32 14 rfl rfl
theorem dL_law_883 : Dc code 883 (.invokevirtual 84) 3 886 := dc_of tkL_32 15 rfl rfl
def tbL_33 : List (Nat × Instr × Nat) := [(886, .if_icmp .eq 1348, 3), (889, .iconst 0, 1), (890, .ireturn, 1), (891, .aload_n 1, 1), (892, .aload_n 0, 1), (893, .iload_n 3, 1), (894, .iconst 1, 1), (895, .iadd, 1), (896, .iaload, 1), (897, .aload_n 0, 1), (898, .iload_n 3, 1), (899, .iconst 2, 1), (900, .iadd, 1), (901, .iaload, 1), (902, .invokevirtual 85, 3), (905, .aload_n 2, 1)]
theorem tkL_33 : tbL_33.all (fun q => decide (decode code q.1 = .ok q.2)) = true := by decide +kernel
theorem dL_law_886 : Dc code 886 (.if_icmp .eq 1348) 3 889 := dc_of tkL_33 0 rfl rfl
theorem dL_law_889 : Dc code 889 (.iconst 0) 1 890 := dc_of tkL_33 1 rfl rfl
theorem dL_law_890 : Dc code 890 (.ireturn) 1 891 := dc_of tkL_33 2 rfl rfl
theorem dL_law_891 : Dc code 891 (.aload_n 1) 1 892 := dc_of tkL_33 3 rfl rfl
theorem dL_law_892 : Dc code 892 (.aload_n 0) 1 893 := dc_of tkL_33 4 rfl rfl
theorem dL_law_893 : Dc code 893 (.iload_n 3) 1 894 := dc_of tkL_33 5 rfl rfl
theorem dL_law_894 : Dc code 894 (.iconst 1) 1 895 := dc_of tkL_33 6 rfl rfl
theorem dL_law_895 : Dc code 895 (.iadd) 1 896 := dc_of tkL_33 7 rfl rfl
theorem dL_law_896 : Dc code 896 (.iaload) 1 897 := dc_of tkL_33 8 rfl rfl
theorem dL_law_897 : Dc code 897 (.aload_n 0) 1 898 := dc_of tkL_33 9 rfl rfl
theorem dL_law_898 : Dc code 898 (.iload_n 3) 1 899 := dc_of tkL_33 10 rfl rfl
theorem dL_law_899 : Dc code 899 (.iconst 2) 1 900 := dc_of tkL_33 11 rfl rfl
theorem dL_law_900 : Dc code 900 (.iadd) 1 901 := dc_of tkL_33 12 rfl rfl
theorem dL_law_901 : Dc code 901 (.iaload) 1 902 := dc_of tkL_33 13 rfl rfl
theorem dL_law_902 : Dc code 902 (.invokevirtual 85) 3 905 := dc_of tkL_33 14 rfl rfl
theorem dL_law_905 : Dc code 905 (.aload_n 2) 1 906 := dc_of tkL_33 15 rfl rfl
def tbL_34 : List (Nat × Instr × Nat) := [(906, .aload_n 0, 1), (907, .iload_n 3, 1), (908, .iconst 1, 1), (909, .iadd, 1), (910, .iaload, 1), (911, .aload_n 0, 1), (912, .iload_n 3, 1), (913, .iconst 2, 1), (914, .iadd, 1), (915, .iaload, 1), (916, .invokevirtual 88, 3), (919, .if_icmp .eq 1315, 3), (922, .iconst 0, 1), (923, .ireturn, 1), (924, .aload_n 1, 1), (925, .aload_n 0, 1)]
theorem tkL_34 : tbL_34.all (fun q => decide (decode code q.1 = .ok q.2)) = true := by decide +kernel
theorem dL_law_906 : Dc code 906 (.aload_n 0) 1 907 := dc_of tkL_34 0 rfl rfl
theorem dL_law_907 : Dc code 907 (.iload_n 3) 1 908 := dc_of tkL_34 1 rfl rfl
theorem dL_law_908 : Dc code 908 (.iconst 1) 1 909 := dc_of tkL_34 2 rfl rfl
theorem dL_law_909 : Dc code 909 (.iadd) 1 910 := dc_of tkL_34 3 rfl rfl
theorem dL_law_910 : Dc code 910 (.iaload) 1 911 := dc_of tkL_34 4 rfl rfl
theorem dL_law_911 : Dc code 911 (.aload_n 0) 1 912 := dc_of tkL_34 5 rfl rfl
theorem dL_law_912 : Dc code 912 (.iload_n 3) 1 913 := dc_of tkL_34 6 rfl rfl
theorem dL_law_913 : Dc code 913 (.iconst 2) 1 914 := dc_of tkL_34 7 rfl rfl
theorem dL_law_914 : Dc code 914 (.iadd) 1 915 := dc_of tkL_34 8 rfl rfl
theorem dL_law_915 : Dc code 915 (.iaload) 1 916 := dc_of tkL_34 9 rfl rfl
theorem dL_law_916 : Dc code 916 (.invokevirtual 88) 3 919 := dc_of tkL_34 10 rfl rfl
theorem dL_law_919 : Dc code 919 (.if_icmp .eq 1315) 3 922 := dc_of tkL_34 11 rfl rfl
theorem dL_law_922 : Dc code 922 (.iconst 0) 1 923 := dc_of tkL_34 12 rfl rfl
theorem dL_law_923 : Dc code 923 (.ireturn) 1 924 := dc_of tkL_34 13 rfl rfl
theorem dL_law_924 : Dc code 924 (.aload_n 1) 1 925 := dc_of tkL_34 14 rfl rfl
theorem dL_law_925 : Dc code 925 (.aload_n 0) 1 926 := dc_of tkL_34 15 rfl rfl
def tbL_35 : List (Nat × Instr × Nat) := [(926, .iload_n 3, 1), (927, .iconst 1, 1), (928, .iadd, 1), (929, .iaload, 1), (930, .aload_n 0, 1), (931, .iload_n 3, 1), (932, .iconst 2, 1), (933, .iadd, 1), (934, .iaload, 1), (935, .aload_n 0, 1), (936, .iload_n 3, 1), (937, .iconst 3, 1), (938, .iadd, 1), (939, .iaload, 1), (940, .invokevirtual 89, 3), (943, .aload_n 2, 1)]
theorem tkL_35 : tbL_35.all (fun q => decide (decode code q.1 = .ok q.2)) = true := by decide +kernel
theorem dL_law_926 : Dc code 926 (.iload_n 3) 1 927 := dc_of tkL_35 0 rfl rfl
theorem dL_law_927 : Dc code 927 (.iconst 1) 1 928 := dc_of tkL_35 1 rfl rfl
theorem dL_law_928 : Dc code 928 (.iadd) 1 929 := dc_of tkL_35 2 rfl rfl
theorem dL_law_929 : Dc code 929 (.iaload) 1 930 := dc_of tkL_35 3 rfl rfl
theorem dL_law_930 : Dc code 930 (.aload_n 0) 1 931 := dc_of tkL_35 4 rfl rfl
theorem dL_law_931 : Dc code 931 (.iload_n 3) 1 932 := dc_of tkL_35 5 rfl rfl
theorem dL_law_932 : Dc code 932 (.iconst 2) 1 933 := dc_of tkL_35 6 rfl rfl
theorem dL_law_933 : Dc code 933 (.iadd) 1 934 := dc_of tkL_35 7 rfl rfl
theorem dL_law_934 : Dc code 934 (.iaload) 1 935 := dc_of tkL_35 8 rfl rfl
theorem dL_law_935 : Dc code 935 (.aload_n 0) 1 936 := dc_of tkL_35 9 rfl rfl
theorem dL_law_936 : Dc code 936 (.iload_n 3) 1 937 := dc_of tkL_35 10 rfl rfl
theorem dL_law_937 : Dc code 937 (.iconst 3) 1 938 := dc_of tkL_35 11 rfl rfl
theorem dL_law_938 : Dc code 938 (.iadd) 1 939 := dc_of tkL_35 12 rfl rfl
theorem dL_law_939 : Dc code 939 (.iaload) 1 940 := dc_of tkL_35 13 rfl rfl
theorem dL_law_940 : Dc code 940 (.invokevirtual 89) 3 943 := dc_of tkL_35 14 rfl rfl
theorem dL_law_943 : Dc code 943 (.aload_n 2) 1 944 := dc_of tkL_35 15 rfl rfl
def tbL_36 : List (Nat × Instr × Nat) := [(944, .aload_n 0, 1), (945, .iload_n 3, 1), (946, .iconst 1, 1), (947, .iadd, 1), (948, .iaload, 1), (949, .aload_n 0, 1), (950, .iload_n 3, 1), (951, .iconst 2, 1), (952, .iadd, 1), (953, .iaload, 1), (954, .aload_n 0, 1), (955, .iload_n 3, 1), (956, .iconst 3, 1), (957, .iadd, 1), (958, .iaload, 1), (959, .invokevirtual 92, 3)]
theorem tkL_36 : tbL_36.all (fun q => decide (decode code q.1 = .ok q.2)) = true := by decide +kernel
theorem dL_law_944 : Dc code 944 (.aload_n 0) 1 945 := dc_of tkL_36 0 rfl rfl
theorem dL_law_945 : Dc code 945 (.iload_n 3) 1 946 := dc_of tkL_36 1 rfl rfl
theorem dL_law_946 : Dc code 946 (.iconst 1) 1 947 := dc_of tkL_36 2 rfl rfl
theorem dL_law_947 : Dc code 947 (.iadd) 1 948 := dc_of tkL_36 3 rfl rfl
theorem dL_law_948 : Dc code 948 (.iaload) 1 949 := dc_of tkL_36 4 rfl rfl
theorem dL_law_949 : Dc code 949 (.aload_n 0) 1 950 := dc_of tkL_36 5 rfl rfl
theorem dL_law_950 : Dc code 950 (.iload_n 3) 1 951 := dc_of tkL_36 6 rfl rfl
theorem dL_law_951 : Dc code 951 (.iconst 2) 1 952 := dc_of tkL_36 7 rfl rfl
theorem dL_law_952 : Dc code 952 (.iadd) 1 953 := dc_of tkL_36 8 rfl rfl
theorem dL_law_953 : Dc code 953 (.iaload) 1 954 := dc_of tkL_36 9 rfl rfl
theorem dL_law_954 : Dc code 954 (.aload_n 0) 1 955 := dc_of tkL_36 10 rfl rfl
theorem dL_law_955 : Dc code 955 (.iload_n 3) 1 956 := dc_of tkL_36 11 rfl rfl
theorem dL_law_956 : Dc code 956 (.iconst 3) 1 957 := dc_of tkL_36 12 rfl rfl
theorem dL_law_957 : Dc code 957 (.iadd) 1 958 := dc_of tkL_36 13 rfl rfl
theorem dL_law_958 : Dc code 958 (.iaload) 1 959 := dc_of tkL_36 14 rfl rfl
theorem dL_law_959 : Dc code 959 (.invokevirtual 92) 3 962 := dc_of tkL_36 15 rfl rfl
def tbL_37 : List (Nat × Instr × Nat) := [(962, .if_icmp .eq 1272, 3), (965, .iconst 0, 1), (966, .ireturn, 1), (967, .aload_n 1, 1), (968, .aload_n 0, 1), (969, .iload_n 3, 1), (970, .iconst 1, 1), (971, .iadd, 1), (972, .iaload, 1), (973, .invokevirtual 93, 3), (976, .aload_n 2, 1), (977, .aload_n 0, 1), (978, .iload_n 3, 1), (979, .iconst 1, 1), (980, .iadd, 1), (981, .iaload, 1)]
theorem tkL_37 : tbL_37.all (fun q => decide (decode code q.1 = .ok q.2)) = true := by decide +kernel
theorem dL_law_962 : Dc code 962 (.if_icmp .eq 1272) 3 965 := dc_of tkL_37 0 rfl rfl
theorem dL_law_965 : Dc code 965 (.iconst 0) 1 966 := dc_of tkL_37 1 rfl rfl
theorem dL_law_966 : Dc code 966 (.ireturn) 1 967 := dc_of tkL_37 2 rfl rfl
theorem dL_law_967 : Dc code 967 (.aload_n 1) 1 968 := dc_of tkL_37 3 rfl rfl
theorem dL_law_968 : Dc code 968 (.aload_n 0) 1 969 := dc_of tkL_37 4 rfl rfl
theorem dL_law_969 : Dc code 969 (.iload_n 3) 1 970 := dc_of tkL_37 5 rfl rfl
theorem dL_law_970 : Dc code 970 (.iconst 1) 1 971 := dc_of tkL_37 6 rfl rfl
theorem dL_law_971 : Dc code 971 (.iadd) 1 972 := dc_of tkL_37 7 rfl rfl
theorem dL_law_972 : Dc code 972 (.iaload) 1 973 := dc_of tkL_37 8 rfl rfl
theorem dL_law_973 : Dc code 973 (.invokevirtual 93) 3 976 := dc_of tkL_37 9 rfl rfl
theorem dL_law_976 : Dc code 976 (.aload_n 2) 1 977 := dc_of tkL_37 10 rfl rfl
theorem dL_law_977 : Dc code 977 (.aload_n 0) 1 978 := dc_of tkL_37 11 rfl rfl
theorem dL_law_978 : Dc code 978 (.iload_n 3) 1 979 := dc_of tkL_37 12 rfl rfl
theorem dL_law_979 : Dc code 979 (.iconst 1) 1 980 := dc_of tkL_37 13 rfl rfl
theorem dL_law_980 : Dc code 980 (.iadd) 1 981 := dc_of tkL_37 14 rfl rfl
theorem dL_law_981 : Dc code 981 (.iaload) 1 982 := dc_of tkL_37 15 rfl rfl
def tbL_38 : List (Nat × Instr × Nat) := [(982, .invokevirtual 96, 3), (985, .if_icmp .eq 1249, 3), (988, .iconst 0, 1), (989, .ireturn, 1), (990, .aload_n 1, 1), (991, .aload_n 0, 1), (992, .iload_n 3, 1), (993, .iconst 1, 1), (994, .iadd, 1), (995, .iaload, 1), (996, .aload_n 0, 1), (997, .iload_n 3, 1), (998, .iconst 2, 1), (999, .iadd, 1), (1000, .iaload, 1), (1001, .aload_n 0, 1)]
theorem tkL_38 : tbL_38.all (fun q => decide (decode code q.1 = .ok q.2)) = true := by decide +kernel
theorem dL_law_982 : Dc code 982 (.invokevirtual 96) 3 985 := dc_of tkL_38 0 rfl rfl
theorem dL_law_985 : Dc code 985 (.if_icmp .eq 1249) 3 988 := dc_of tkL_38 1 rfl rfl
theorem dL_law_988 : Dc code 988 (.iconst 0) 1 989 := dc_of tkL_38 2 rfl rfl
theorem dL_law_989 : Dc code 989 (.ireturn) 1 990 := dc_of tkL_38 3 rfl rfl
theorem dL_law_990 : Dc code 990 (.aload_n 1) 1 991 := dc_of tkL_38 4 rfl rfl
theorem dL_law_991 : Dc code 991 (.aload_n 0) 1 992 := dc_of tkL_38 5 rfl rfl
theorem dL_law_992 : Dc code 992 (.iload_n 3) 1 993 := dc_of tkL_38 6 rfl rfl
theorem dL_law_993 : Dc code 993 (.iconst 1) 1 994 := dc_of tkL_38 7 rfl rfl
theorem dL_law_994 : Dc code 994 (.iadd) 1 995 := dc_of tkL_38 8 rfl rfl
theorem dL_law_995 : Dc code 995 (.iaload) 1 996 := dc_of tkL_38 9 rfl rfl
theorem dL_law_996 : Dc code 996 (.aload_n 0) 1 997 := dc_of tkL_38 10 rfl rfl
theorem dL_law_997 : Dc code 997 (.iload_n 3) 1 998 := dc_of tkL_38 11 rfl rfl
theorem dL_law_998 : Dc code 998 (.iconst 2) 1 999 := dc_of tkL_38 12 rfl rfl
theorem dL_law_999 : Dc code 999 (.iadd) 1 1000 := dc_of tkL_38 13 rfl rfl
theorem dL_law_1000 : Dc code 1000 (.iaload) 1 1001 := dc_of tkL_38 14 rfl rfl
theorem dL_law_1001 : Dc code 1001 (.aload_n 0) 1 1002 := dc_of tkL_38 15 rfl rfl
def tbL_39 : List (Nat × Instr × Nat) := [(1002, .iload_n 3, 1), (1003, .iconst 3, 1), (1004, .iadd, 1), (1005, .iaload, 1), (1006, .invokevirtual 97, 3), (1009, .aload_n 2, 1), (1010, .aload_n 0, 1), (1011, .iload_n 3, 1), (1012, .iconst 1, 1), (1013, .iadd, 1), (1014, .iaload, 1), (1015, .aload_n 0, 1), (1016, .iload_n 3, 1), (1017, .iconst 2, 1), (1018, .iadd, 1), (1019, .iaload, 1)]
theorem tkL_39 : tbL_39.all (fun q => decide (decode code q.1 = .ok q.2)) = true := by decide +kernel
theorem dL_law_1002 : Dc code 1002 (.iload_n 3) 1 1003 := dc_of tkL_39 0 rfl rfl
theorem dL_law_1003 : Dc code 1003 (.iconst 3) 1 1004 := dc_of tkL_39 1 rfl rfl
theorem dL_law_1004 : Dc code 1004 (.iadd) 1 1005 := dc_of tkL_39 2 rfl rfl
theorem dL_law_1005 : Dc code 1005 (.iaload) 1 1006 := dc_of tkL_39 3 rfl rfl
theorem dL_law_1006 : Dc code 1006 (.invokevirtual 97) 3 1009 := dc_of tkL_39 4 rfl rfl
theorem dL_law_1009 : Dc code 1009 (.aload_n 2) 1 1010 := dc_of tkL_39 5 rfl rfl
theorem dL_law_1010 : Dc code 1010 (.aload_n 0) 1 1011 := dc_of tkL_39 6 rfl rfl
theorem dL_law_1011 : Dc code 1011 (.iload_n 3) 1 1012 := dc_of tkL_39 7 rfl rfl
theorem dL_law_1012 : Dc code 1012 (.iconst 1) 1 1013 := dc_of tkL_39 8 rfl rfl
theorem dL_law_1013 : Dc code 1013 (.iadd) 1 1014 := dc_of tkL_39 9 rfl rfl
theorem dL_law_1014 : Dc code 1014 (.iaload) 1 1015 := dc_of tkL_39 10 rfl rfl
theorem dL_law_1015 : Dc code 1015 (.aload_n 0) 1 1016 := dc_of tkL_39 11 rfl rfl
theorem dL_law_1016 : Dc code 1016 (.iload_n 3) 1 1017 := dc_of tkL_39 12 rfl rfl
theorem dL_law_1017 : Dc code 1017 (.iconst 2) 1 1018 := dc_of tkL_39 13 rfl rfl
theorem dL_law_1018 : Dc code 1018 (.iadd) 1 1019 := dc_of tkL_39 14 rfl rfl
theorem dL_law_1019 : Dc code 1019 (.iaload) 1 1020 := dc_of tkL_39 15 rfl rfl
def tbL_40 : List (Nat × Instr × Nat) := [(1020, .aload_n 0, 1), (1021, .iload_n 3, 1), (1022, .iconst 3, 1), (1023, .iadd, 1), (1024, .iaload, 1), (1025, .invokevirtual 100, 3), (1028, .if_icmp .eq 1206, 3), (1031, .iconst 0, 1), (1032, .ireturn, 1), (1033, .aload_n 1, 1), (1034, .aload_n 0, 1), (1035, .iload_n 3, 1), (1036, .iconst 1, 1), (1037, .iadd, 1), (1038, .iaload, 1), (1039, .invokevirtual 101, 3)]
theorem tkL_40 : tbL_40.all (fun q => decide (decode code q.1 = .ok q.2)) = true := by decide +kernel
theorem dL_law_1020 : Dc code 1020 (.aload_n 0) 1 1021 := dc_of tkL_40 0 rfl rfl
theorem dL_law_1021 : Dc code 1021 (.iload_n 3) 1 1022 := dc_of tkL_40 1 rfl rfl
theorem dL_law_1022 : Dc code 1022 (.iconst 3) 1 1023 := dc_of tkL_40 2 rfl rfl
theorem dL_law_1023 : Dc code 1023 (.iadd) 1 1024 := dc_of tkL_40 3 rfl rfl
theorem dL_law_1024 : Dc code 1024 (.iaload) 1 1025 := dc_of tkL_40 4 rfl rfl
theorem dL_law_1025 : Dc code 1025 (.invokevirtual 100) 3 1028 := dc_of tkL_40 5 rfl rfl
theorem dL_law_1028 : Dc code 1028 (.if_icmp .eq 1206) 3 1031 := dc_of tkL_40 6 rfl rfl
theorem dL_law_1031 : Dc code 1031 (.iconst 0) 1 1032 := dc_of tkL_40 7 rfl rfl
theorem dL_law_1032 : Dc code 1032 (.ireturn) 1 1033 := dc_of tkL_40 8 rfl rfl
theorem dL_law_1033 : Dc code 1033 (.aload_n 1) 1 1034 := dc_of tkL_40 9 rfl rfl
theorem dL_law_1034 : Dc code 1034 (.aload_n 0) 1 1035 := dc_of tkL_40 10 rfl rfl
theorem dL_law_1035 : Dc code 1035 (.iload_n 3) 1 1036 := dc_of tkL_40 11 rfl rfl
theorem dL_law_1036 : Dc code 1036 (.iconst 1) 1 1037 := dc_of tkL_40 12 rfl rfl
theorem dL_law_1037 : Dc code 1037 (.iadd) 1 1038 := dc_of tkL_40 13 rfl rfl
theorem dL_law_1038 : Dc code 1038 (.iaload) 1 1039 := dc_of tkL_40 14 rfl rfl
theorem dL_law_1039 : Dc code 1039 (.invokevirtual 101) 3 1042 := dc_of tkL_40 15 rfl rfl
def tbL_41 : List (Nat × Instr × Nat) := [(1042, .aload_n 2, 1), (1043, .aload_n 0, 1), (1044, .iload_n 3, 1), (1045, .iconst 1, 1), (1046, .iadd, 1), (1047, .iaload, 1), (1048, .invokevirtual 104, 3), (1051, .if_icmp .eq 1183, 3), (1054, .iconst 0, 1), (1055, .ireturn, 1), (1056, .aload_n 1, 1), (1057, .aload_n 0, 1), (1058, .iload_n 3, 1), (1059, .iconst 1, 1), (1060, .iadd, 1), (1061, .iaload, 1)]
theorem tkL_41 : tbL_41.all (fun q => decide (decode code q.1 = .ok q.2)) = true := by decide +kernel
theorem dL_law_1042 : Dc code 1042 (.aload_n 2) 1 1043 := dc_of tkL_41 0 rfl rfl
theorem dL_law_1043 : Dc code 1043 (.aload_n 0) 1 1044 := dc_of tkL_41 1 rfl rfl
theorem dL_law_1044 : Dc code 1044 (.iload_n 3) 1 1045 := dc_of tkL_41 2 rfl rfl
theorem dL_law_1045 : Dc code 1045 (.iconst 1) 1 1046 := dc_of tkL_41 3 rfl rfl
theorem dL_law_1046 : Dc code 1046 (.iadd) 1 1047 := dc_of tkL_41 4 rfl rfl
theorem dL_law_1047 : Dc code 1047 (.iaload) 1 1048 := dc_of tkL_41 5 rfl rfl
theorem dL_law_1048 : Dc code 1048 (.invokevirtual 104) 3 1051 := dc_of tkL_41 6 rfl rfl
theorem dL_law_1051 : Dc code 1051 (.if_icmp .eq 1183) 3 1054 := dc_of tkL_41 7 rfl rfl
theorem dL_law_1054 : Dc code 1054 (.iconst 0) 1 1055 := dc_of tkL_41 8 rfl rfl
theorem dL_law_1055 : Dc code 1055 (.ireturn) 1 1056 := dc_of tkL_41 9 rfl rfl
theorem dL_law_1056 : Dc code 1056 (.aload_n 1) 1 1057 := dc_of tkL_41 10 rfl rfl
theorem dL_law_1057 : Dc code 1057 (.aload_n 0) 1 1058 := dc_of tkL_41 11 rfl rfl
theorem dL_law_1058 : Dc code 1058 (.iload_n 3) 1 1059 := dc_of tkL_41 12 rfl rfl
theorem dL_law_1059 : Dc code 1059 (.iconst 1) 1 1060 := dc_of tkL_41 13 rfl rfl
theorem dL_law_1060 : Dc code 1060 (.iadd) 1 1061 := dc_of tkL_41 14 rfl rfl
theorem dL_law_1061 : Dc code 1061 (.iaload) 1 1062 := dc_of tkL_41 15 rfl rfl
def tbL_42 : List (Nat × Instr × Nat) := [(1062, .aload_n 0, 1), (1063, .iload_n 3, 1), (1064, .iconst 2, 1), (1065, .iadd, 1), (1066, .iaload, 1), (1067, .invokevirtual 105, 3), (1070, .aload_n 2, 1), (1071, .aload_n 0, 1), (1072, .iload_n 3, 1), (1073, .iconst 1, 1), (1074, .iadd, 1), (1075, .iaload, 1), (1076, .aload_n 0, 1), (1077, .iload_n 3, 1), (1078, .iconst 2, 1), (1079, .iadd, 1)]
theorem tkL_42 : tbL_42.all (fun q => decide (decode code q.1 = .ok q.2)) = true := by decide +kernel
theorem dL_law_1062 : Dc code 1062 (.aload_n 0) 1 1063 := dc_of tkL_42 0 rfl rfl
theorem dL_law_1063 : Dc code 1063 (.iload_n 3) 1 1064 := dc_of tkL_42 1 rfl rfl
theorem dL_law_1064 : Dc code 1064 (.iconst 2) 1 1065 := dc_of tkL_42 2 rfl rfl
theorem dL_law_1065 : Dc code 1065 (.iadd) 1 1066 := dc_of tkL_42 3 rfl rfl
theorem dL_law_1066 : Dc code 1066 (.iaload) 1 1067 := dc_of tkL_42 4 rfl rfl
theorem dL_law_1067 : Dc code 1067 (.invokevirtual 105) 3 1070 := dc_of tkL_42 5 rfl rfl
theorem dL_law_1070 : Dc code 1070 (.aload_n 2) 1 1071 := dc_of tkL_42 6 rfl rfl
theorem dL_law_1071 : Dc code 1071 (.aload_n 0) 1 1072 := dc_of tkL_42 7 rfl rfl
theorem dL_law_1072 : Dc code 1072 (.iload_n 3) 1 1073 := dc_of tkL_42 8 rfl rfl
theorem dL_law_1073 : Dc code 1073 (.iconst 1) 1 1074 := dc_of tkL_42 9 rfl rfl
theorem dL_law_1074 : Dc code 1074 (.iadd) 1 1075 := dc_of tkL_42 10 rfl rfl
theorem dL_law_1075 : Dc code 1075 (.iaload) 1 1076 := dc_of tkL_42 11 rfl rfl
theorem dL_law_1076 : Dc code 1076 (.aload_n 0) 1 1077 := dc_of tkL_42 12 rfl rfl
theorem dL_law_1077 : Dc code 1077 (.iload_n 3) 1 1078 := dc_of tkL_42 13 rfl rfl
theorem dL_law_1078 : Dc code 1078 (.iconst 2) 1 1079 := dc_of tkL_42 14 rfl rfl
theorem dL_law_1079 : Dc code 1079 (.iadd) 1 1080 := dc_of tkL_42 15 rfl rfl
def tbL_43 : List (Nat × Instr × Nat) := [(1080, .iaload, 1), (1081, .invokevirtual 108, 3), (1084, .if_icmp .eq 1150, 3), (1087, .iconst 0, 1), (1088, .ireturn, 1), (1089, .aload_n 1, 1), (1090, .aload_n 0, 1), (1091, .iload_n 3, 1), (1092, .iconst 1, 1), (1093, .iadd, 1), (1094, .iaload, 1), (1095, .aload_n 0, 1), (1096, .iload_n 3, 1), (1097, .iconst 2, 1), (1098, .iadd, 1), (1099, .iaload, 1)]
theorem tkL_43 : tbL_43.all (fun q => decide (decode code q.1 = .ok q.2)) = true := by decide +kernel
theorem dL_law_1080 : Dc code 1080 (.iaload) 1 1081 := dc_of tkL_43 0 rfl rfl
theorem dL_law_1081 : Dc code 1081 (.invokevirtual 108) 3 1084 := dc_of tkL_43 1 rfl rfl
theorem dL_law_1084 : Dc code 1084 (.if_icmp .eq 1150) 3 1087 := dc_of tkL_43 2 rfl rfl
theorem dL_law_1087 : Dc code 1087 (.iconst 0) 1 1088 := dc_of tkL_43 3 rfl rfl
theorem dL_law_1088 : Dc code 1088 (.ireturn) 1 1089 := dc_of tkL_43 4 rfl rfl
theorem dL_law_1089 : Dc code 1089 (.aload_n 1) 1 1090 := dc_of tkL_43 5 rfl rfl
theorem dL_law_1090 : Dc code 1090 (.aload_n 0) 1 1091 := dc_of tkL_43 6 rfl rfl
theorem dL_law_1091 : Dc code 1091 (.iload_n 3) 1 1092 := dc_of tkL_43 7 rfl rfl
theorem dL_law_1092 : Dc code 1092 (.iconst 1) 1 1093 := dc_of tkL_43 8 rfl rfl
theorem dL_law_1093 : Dc code 1093 (.iadd) 1 1094 := dc_of tkL_43 9 rfl rfl
theorem dL_law_1094 : Dc code 1094 (.iaload) 1 1095 := dc_of tkL_43 10 rfl rfl
theorem dL_law_1095 : Dc code 1095 (.aload_n 0) 1 1096 := dc_of tkL_43 11 rfl rfl
theorem dL_law_1096 : Dc code 1096 (.iload_n 3) 1 1097 := dc_of tkL_43 12 rfl rfl
theorem dL_law_1097 : Dc code 1097 (.iconst 2) 1 1098 := dc_of tkL_43 13 rfl rfl
theorem dL_law_1098 : Dc code 1098 (.iadd) 1 1099 := dc_of tkL_43 14 rfl rfl
theorem dL_law_1099 : Dc code 1099 (.iaload) 1 1100 := dc_of tkL_43 15 rfl rfl
def tbL_44 : List (Nat × Instr × Nat) := [(1100, .invokevirtual 109, 3), (1103, .aload_n 2, 1), (1104, .aload_n 0, 1), (1105, .iload_n 3, 1), (1106, .iconst 1, 1), (1107, .iadd, 1), (1108, .iaload, 1), (1109, .aload_n 0, 1), (1110, .iload_n 3, 1), (1111, .iconst 2, 1), (1112, .iadd, 1), (1113, .iaload, 1), (1114, .invokevirtual 112, 3), (1117, .if_icmp .eq 1117, 3), (1120, .iconst 0, 1), (1121, .ireturn, 1)]
theorem tkL_44 : tbL_44.all (fun q => decide (decode code q.1 = .ok q.2)) = true := by decide +kernel
theorem dL_law_1100 : Dc code 1100 (.invokevirtual 109) 3 1103 := dc_of tkL_44 0 rfl rfl
theorem dL_law_1103 : Dc code 1103 (.aload_n 2) 1 1104 := dc_of tkL_44 1 rfl rfl
theorem dL_law_1104 : Dc code 1104 (.aload_n 0) 1 1105 := dc_of tkL_44 2 rfl rfl
theorem dL_law_1105 : Dc code 1105 (.iload_n 3) 1 1106 := dc_of tkL_44 3 rfl rfl
theorem dL_law_1106 : Dc code 1106 (.iconst 1) 1 1107 := dc_of tkL_44 4 rfl rfl
theorem dL_law_1107 : Dc code 1107 (.iadd) 1 1108 := dc_of tkL_44 5 rfl rfl
theorem dL_law_1108 : Dc code 1108 (.iaload) 1 1109 := dc_of tkL_44 6 rfl rfl
theorem dL_law_1109 : Dc code 1109 (.aload_n 0) 1 1110 := dc_of tkL_44 7 rfl rfl
theorem dL_law_1110 : Dc code 1110 (.iload_n 3) 1 1111 := dc_of tkL_44 8 rfl rfl
theorem dL_law_1111 : Dc code 1111 (.iconst 2) 1 1112 := dc_of tkL_44 9 rfl rfl
theorem dL_law_1112 : Dc code 1112 (.iadd) 1 1113 := dc_of tkL_44 10 rfl rfl
theorem dL_law_1113 : Dc code 1113 (.iaload) 1 1114 := dc_of tkL_44 11 rfl rfl
theorem dL_law_1114 : Dc code 1114 (.invokevirtual 112) 3 1117 := dc_of tkL_44 12 rfl rfl
theorem dL_law_1117 : Dc code 1117 (.if_icmp .eq 1117) 3 1120 := dc_of tkL_44 13 rfl rfl
theorem dL_law_1120 : Dc code 1120 (.iconst 0) 1 1121 := dc_of tkL_44 14 rfl rfl
theorem dL_law_1121 : Dc code 1121 (.ireturn) 1 1122 := dc_of tkL_44 15 rfl rfl
def tbL_45 : List (Nat × Instr × Nat) := [(1122, .aload_n 1, 1), (1123, .aload_n 0, 1), (1124, .iload_n 3, 1), (1125, .iconst 1, 1), (1126, .iadd, 1), (1127, .iaload, 1), (1128, .invokevirtual 113, 3), (1131, .aload_n 2, 1), (1132, .aload_n 0, 1), (1133, .iload_n 3, 1), (1134, .iconst 1, 1), (1135, .iadd, 1), (1136, .iaload, 1), (1137, .invokevirtual 116, 3), (1140, .if_icmp .eq 1094, 3), (1143, .iconst 0, 1)]
theorem tkL_45 : tbL_45.all (fun q => decide (decode code q.1 = .ok q.2)) = true := by decide +kernel
theorem dL_law_1122 : Dc code 1122 (.aload_n 1) 1 1123 := dc_of tkL_45 0 rfl rfl
theorem dL_law_1123 : Dc code 1123 (.aload_n 0) 1 1124 := dc_of tkL_45 1 rfl rfl
theorem dL_law_1124 : Dc code 1124 (.iload_n 3) 1 1125 := dc_of tkL_45 2 rfl rfl
theorem dL_law_1125 : Dc code 1125 (.iconst 1) 1 1126 := dc_of tkL_45 3 rfl rfl
theorem dL_law_1126 : Dc code 1126 (.iadd) 1 1127 := dc_of tkL_45 4 rfl rfl
theorem dL_law_1127 : Dc code 1127 (.iaload) 1 1128 := dc_of tkL_45 5 rfl rfl
theorem dL_law_1128 : Dc code 1128 (.invokevirtual 113) 3 1131 := dc_of tkL_45 6 rfl rfl
theorem dL_law_1131 : Dc code 1131 (.aload_n 2) 1 1132 := dc_of tkL_45 7 rfl rfl
theorem dL_law_1132 : Dc code 1132 (.aload_n 0) 1 1133 := dc_of tkL_45 8 rfl rfl
theorem dL_law_1133 : Dc code 1133 (.iload_n 3) 1 1134 := dc_of tkL_45 9 rfl rfl
theorem dL_law_1134 : Dc code 1134 (.iconst 1) 1 1135 := dc_of tkL_45 10 rfl rfl
theorem dL_law_1135 : Dc code 1135 (.iadd) 1 1136 := dc_of tkL_45 11 rfl rfl
theorem dL_law_1136 : Dc code 1136 (.iaload) 1 1137 := dc_of tkL_45 12 rfl rfl
theorem dL_law_1137 : Dc code 1137 (.invokevirtual 116) 3 1140 := dc_of tkL_45 13 rfl rfl
theorem dL_law_1140 : Dc code 1140 (.if_icmp .eq 1094) 3 1143 := dc_of tkL_45 14 rfl rfl
theorem dL_law_1143 : Dc code 1143 (.iconst 0) 1 1144 := dc_of tkL_45 15 rfl rfl
def tbL_46 : List (Nat × Instr × Nat) := [(1144, .ireturn, 1), (1145, .aload_n 1, 1), (1146, .aload_n 0, 1), (1147, .iload_n 3, 1), (1148, .iconst 1, 1), (1149, .iadd, 1), (1150, .iaload, 1), (1151, .aload_n 0, 1), (1152, .iload_n 3, 1), (1153, .iconst 2, 1), (1154, .iadd, 1), (1155, .iaload, 1), (1156, .invokevirtual 117, 3), (1159, .aload_n 2, 1), (1160, .aload_n 0, 1), (1161, .iload_n 3, 1)]
theorem tkL_46 : tbL_46.all (fun q => decide (decode code q.1 = .ok q.2)) = true := by decide +kernel
theorem dL_law_1144 : Dc code 1144 (.ireturn) 1 1145 := dc_of tkL_46 0 rfl rfl
theorem dL_law_1145 : Dc code 1145 (.aload_n 1) 1 1146 := dc_of tkL_46 1 rfl rfl
theorem dL_law_1146 : Dc code 1146 (.aload_n 0) 1 1147 := dc_of tkL_46 2 rfl rfl
theorem dL_law_1147 : Dc code 1147 (.iload_n 3) 1 1148 := dc_of tkL_46 3 rfl rfl
theorem dL_law_1148 : Dc code 1148 (.iconst 1) 1 1149 := dc_of tkL_46 4 rfl rfl
theorem dL_law_1149 : Dc code 1149 (.iadd) 1 1150 := dc_of tkL_46 5 rfl rfl
theorem dL_law_1150 : Dc code 1150 (.iaload) 1 1151 := dc_of tkL_46 6 rfl rfl
theorem dL_law_1151 : Dc code 1151 (.aload_n 0) 1 1152 := dc_of tkL_46 7 rfl rfl
theorem dL_law_1152 : Dc code 1152 (.iload_n 3) 1 1153 := dc_of tkL_46 8 rfl rfl
theorem dL_law_1153 : Dc code 1153 (.iconst 2) 1 1154 := dc_of tkL_46 9 rfl rfl
theorem dL_law_1154 : Dc code 1154 (.iadd) 1 1155 := dc_of tkL_46 10 rfl rfl
theorem dL_law_1155 : Dc code 1155 (.iaload) 1 1156 := dc_of tkL_46 11 rfl rfl
theorem dL_law_1156 : Dc code 1156 (.invokevirtual 117) 3 1159 := dc_of tkL_46 12 rfl rfl
theorem dL_law_1159 : Dc code 1159 (.aload_n 2) 1 1160 := dc_of tkL_46 13 rfl rfl
theorem dL_law_1160 : Dc code 1160 (.aload_n 0) 1 1161 := dc_of tkL_46 14 rfl rfl
theorem dL_law_1161 : Dc code 1161 (.iload_n 3) 1 1162 := dc_of tkL_46 15 rfl rfl
def tbL_47 : List (Nat × Instr × Nat) := [(1162, .iconst 1, 1), (1163, .iadd, 1), (1164, .iaload, 1), (1165, .aload_n 0, 1), (1166, .iload_n 3, 1), (1167, .iconst 2, 1), (1168, .iadd, 1), (1169, .iaload, 1), (1170, .invokevirtual 120, 3), (1173, .if_icmp .eq 1061, 3), (1176, .iconst 0, 1), (1177, .ireturn, 1), (1178, .aload_n 1, 1), (1179, .aload_n 0, 1), (1180, .iload_n 3, 1), (1181, .iconst 1, 1)]
theorem tkL_47 : tbL_47.all (fun q => decide (decode code q.1 = .ok q.2)) = true := by decide +kernel
theorem dL_law_1162 : Dc code 1162 (.iconst 1) 1 1163 := dc_of tkL_47 0 rfl rfl
theorem dL_law_1163 : Dc code 1163 (.iadd) 1 1164 := dc_of tkL_47 1 rfl rfl
theorem dL_law_1164 : Dc code 1164 (.iaload) 1 1165 := dc_of tkL_47 2 rfl rfl
theorem dL_law_1165 : Dc code 1165 (.aload_n 0) 1 1166 := dc_of tkL_47 3 rfl rfl
theorem dL_law_1166 : Dc code 1166 (.iload_n 3) 1 1167 := dc_of tkL_47 4 rfl rfl
theorem dL_law_1167 : Dc code 1167 (.iconst 2) 1 1168 := dc_of tkL_47 5 rfl rfl
theorem dL_law_1168 : Dc code 1168 (.iadd) 1 1169 := dc_of tkL_47 6 rfl rfl
theorem dL_law_1169 : Dc code 1169 (.iaload) 1 1170 := dc_of tkL_47 7 rfl rfl
theorem dL_law_1170 : Dc code 1170 (.invokevirtual 120) 3 1173 := dc_of tkL_47 8 rfl rfl
theorem dL_law_1173 : Dc code 1173 (.if_icmp .eq 1061) 3 1176 := dc_of tkL_47 9 rfl rfl
theorem dL_law_1176 : Dc code 1176 (.iconst 0) 1 1177 := dc_of tkL_47 10 rfl rfl
theorem dL_law_1177 : Dc code 1177 (.ireturn) 1 1178 := dc_of tkL_47 11 rfl rfl
theorem dL_law_1178 : Dc code 1178 (.aload_n 1) 1 1179 := dc_of tkL_47 12 rfl rfl
theorem dL_law_1179 : Dc code 1179 (.aload_n 0) 1 1180 := dc_of tkL_47 13 rfl rfl
theorem dL_law_1180 : Dc code 1180 (.iload_n 3) 1 1181 := dc_of tkL_47 14 rfl rfl
theorem dL_law_1181 : Dc code 1181 (.iconst 1) 1 1182 := dc_of tkL_47 15 rfl rfl
def tbL_48 : List (Nat × Instr × Nat) := [(1182, .iadd, 1), (1183, .iaload, 1), (1184, .aload_n 0, 1), (1185, .iload_n 3, 1), (1186, .iconst 2, 1), (1187, .iadd, 1), (1188, .iaload, 1), (1189, .invokevirtual 121, 3), (1192, .aload_n 2, 1), (1193, .aload_n 0, 1), (1194, .iload_n 3, 1), (1195, .iconst 1, 1), (1196, .iadd, 1), (1197, .iaload, 1), (1198, .aload_n 0, 1), (1199, .iload_n 3, 1)]
theorem tkL_48 : tbL_48.all (fun q => decide (decode code q.1 = .ok q.2)) = true := by decide +kernel
theorem dL_law_1182 : Dc code 1182 (.iadd) 1 1183 := dc_of tkL_48 0 rfl rfl
theorem dL_law_1183 : Dc code 1183 (.iaload) 1 1184 := dc_of tkL_48 1 rfl rfl
theorem dL_law_1184 : Dc code 1184 (.aload_n 0) 1 1185 := dc_of tkL_48 2 rfl rfl
theorem dL_law_1185 : Dc code 1185 (.iload_n 3) 1 1186 := dc_of tkL_48 3 rfl rfl
theorem dL_law_1186 : Dc code 1186 (.iconst 2) 1 1187 := dc_of tkL_48 4 rfl rfl
theorem dL_law_1187 : Dc code 1187 (.iadd) 1 1188 := dc_of tkL_48 5 rfl rfl
theorem dL_law_1188 : Dc code 1188 (.iaload) 1 1189 := dc_of tkL_48 6 rfl rfl
theorem dL_law_1189 : Dc code 1189 (.invokevirtual 121) 3 1192 := dc_of tkL_48 7 rfl rfl
theorem dL_law_1192 : Dc code 1192 (.aload_n 2) 1 1193 := dc_of tkL_48 8 rfl rfl
theorem dL_law_1193 : Dc code 1193 (.aload_n 0) 1 1194 := dc_of tkL_48 9 rfl rfl
theorem dL_law_1194 : Dc code 1194 (.iload_n 3) 1 1195 := dc_of tkL_48 10 rfl rfl
theorem dL_law_1195 : Dc code 1195 (.iconst 1) 1 1196 := dc_of tkL_48 11 rfl rfl
theorem dL_law_1196 : Dc code 1196 (.iadd) 1 1197 := dc_of tkL_48 12 rfl rfl
theorem dL_law_1197 : Dc code 1197 (.iaload) 1 1198 := dc_of tkL_48 13 rfl rfl
theorem dL_law_1198 : Dc code 1198 (.aload_n 0) 1 1199 := dc_of tkL_48 14 rfl rfl
theorem dL_law_1199 : Dc code 1199 (.iload_n 3) 1 1200 := dc_of tkL_48 15 rfl rfl
def tbL_49 : List (Nat × Instr × Nat) := [(1200, .iconst 2, 1), (1201, .iadd, 1), (1202, .iaload, 1), (1203, .invokevirtual 124, 3), (1206, .if_icmp .eq 1028, 3), (1209, .iconst 0, 1), (1210, .ireturn, 1), (1211, .aload_n 1, 1), (1212, .aload_n 0, 1), (1213, .iload_n 3, 1), (1214, .iconst 1, 1), (1215, .iadd, 1), (1216, .iaload, 1), (1217, .aload_n 0, 1), (1218, .iload_n 3, 1), (1219, .iconst 2, 1)]
theorem tkL_49 : tbL_49.all (fun q => decide (decode code q.1 = .ok q.2)) = true := by decide +kernel
theorem dL_law_1200 : Dc code 1200 (.iconst 2) 1 1201 := dc_of tkL_49 0 rfl rfl
theorem dL_law_1201 : Dc code 1201 (.iadd) 1 1202 := dc_of tkL_49 1 rfl rfl
theorem dL_law_1202 : Dc code 1202 (.iaload) 1 1203 := dc_of tkL_49 2 rfl rfl
theorem dL_law_1203 : Dc code 1203 (.invokevirtual 124) 3 1206 := dc_of tkL_49 3 rfl rfl
theorem dL_law_1206 : Dc code 1206 (.if_icmp .eq 1028) 3 1209 := dc_of tkL_49 4 rfl rfl
theorem dL_law_1209 : Dc code 1209 (.iconst 0) 1 1210 := dc_of tkL_49 5 rfl rfl
theorem dL_law_1210 : Dc code 1210 (.ireturn) 1 1211 := dc_of tkL_49 6 rfl rfl
theorem dL_law_1211 : Dc code 1211 (.aload_n 1) 1 1212 := dc_of tkL_49 7 rfl rfl
theorem dL_law_1212 : Dc code 1212 (.aload_n 0) 1 1213 := dc_of tkL_49 8 rfl rfl
theorem dL_law_1213 : Dc code 1213 (.iload_n 3) 1 1214 := dc_of tkL_49 9 rfl rfl
theorem dL_law_1214 : Dc code 1214 (.iconst 1) 1 1215 := dc_of tkL_49 10 rfl rfl
theorem dL_law_1215 : Dc code 1215 (.iadd) 1 1216 := dc_of tkL_49 11 rfl rfl
theorem dL_law_1216 : Dc code 1216 (.iaload) 1 1217 := dc_of tkL_49 12 rfl rfl
theorem dL_law_1217 : Dc code 1217 (.aload_n 0) 1 1218 := dc_of tkL_49 13 rfl rfl
theorem dL_law_1218 : Dc code 1218 (.iload_n 3) 1 1219 := dc_of tkL_49 14 rfl rfl
theorem dL_law_1219 : Dc code 1219 (.iconst 2) 1 1220 := dc_of tkL_49 15 rfl rfl
def tbL_50 : List (Nat × Instr × Nat) := [(1220, .iadd, 1), (1221, .iaload, 1), (1222, .aload_n 0, 1), (1223, .iload_n 3, 1), (1224, .iconst 3, 1), (1225, .iadd, 1), (1226, .iaload, 1), (1227, .invokevirtual 125, 3), (1230, .aload_n 2, 1), (1231, .aload_n 0, 1), (1232, .iload_n 3, 1), (1233, .iconst 1, 1), (1234, .iadd, 1), (1235, .iaload, 1), (1236, .aload_n 0, 1), (1237, .iload_n 3, 1)]
theorem tkL_50 : tbL_50.all (fun q => decide (decode code q.1 = .ok q.2)) = true := by decide +kernel
theorem dL_law_1220 : Dc code 1220 (.iadd) 1 1221 := dc_of tkL_50 0 rfl rfl
theorem dL_law_1221 : Dc code 1221 (.iaload) 1 1222 := dc_of tkL_50 1 rfl rfl
theorem dL_law_1222 : Dc code 1222 (.aload_n 0) 1 1223 := dc_of tkL_50 2 rfl rfl
theorem dL_law_1223 : Dc code 1223 (.iload_n 3) 1 1224 := dc_of tkL_50 3 rfl rfl
theorem dL_law_1224 : Dc code 1224 (.iconst 3) 1 1225 := dc_of tkL_50 4 rfl rfl
theorem dL_law_1225 : Dc code 1225 (.iadd) 1 1226 := dc_of tkL_50 5 rfl rfl
theorem dL_law_1226 : Dc code 1226 (.iaload) 1 1227 := dc_of tkL_50 6 rfl rfl
theorem dL_law_1227 : Dc code 1227 (.invokevirtual 125) 3 1230 := dc_of tkL_50 7 rfl rfl
theorem dL_law_1230 : Dc code 1230 (.aload_n 2) 1 1231 := dc_of tkL_50 8 rfl rfl
theorem dL_law_1231 : Dc code 1231 (.aload_n 0) 1 1232 := dc_of tkL_50 9 rfl rfl
theorem dL_law_1232 : Dc code 1232 (.iload_n 3) 1 1233 := dc_of tkL_50 10 rfl rfl
theorem dL_law_1233 : Dc code 1233 (.iconst 1) 1 1234 := dc_of tkL_50 11 rfl rfl
theorem dL_law_1234 : Dc code 1234 (.iadd) 1 1235 := dc_of tkL_50 12 rfl rfl
theorem dL_law_1235 : Dc code 1235 (.iaload) 1 1236 := dc_of tkL_50 13 rfl rfl
theorem dL_law_1236 : Dc code 1236 (.aload_n 0) 1 1237 := dc_of tkL_50 14 rfl rfl
theorem dL_law_1237 : Dc code 1237 (.iload_n 3) 1 1238 := dc_of tkL_50 15 rfl rfl
def tbL_51 : List (Nat × Instr × Nat) := [(1238, .iconst 2, 1), (1239, .iadd, 1), (1240, .iaload, 1), (1241, .aload_n 0, 1), (1242, .iload_n 3, 1), (1243, .iconst 3, 1), (1244, .iadd, 1), (1245, .iaload, 1), (1246, .invokevirtual 128, 3), (1249, .if_icmp .eq 985, 3), (1252, .iconst 0, 1), (1253, .ireturn, 1), (1254, .aload_n 1, 1), (1255, .aload_n 0, 1), (1256, .iload_n 3, 1), (1257, .iconst 1, 1)]
theorem tkL_51 : tbL_51.all (fun q => decide (decode code q.1 = .ok q.2)) = true := by decide +kernel
theorem dL_law_1238 : Dc code 1238 (.iconst 2) 1 1239 := dc_of tkL_51 0 rfl rfl
theorem dL_law_1239 : Dc code 1239 (.iadd) 1 1240 := dc_of tkL_51 1 rfl rfl
theorem dL_law_1240 : Dc code 1240 (.iaload) 1 1241 := dc_of tkL_51 2 rfl rfl
theorem dL_law_1241 : Dc code 1241 (.aload_n 0) 1 1242 := dc_of tkL_51 3 rfl rfl
theorem dL_law_1242 : Dc code 1242 (.iload_n 3) 1 1243 := dc_of tkL_51 4 rfl rfl
theorem dL_law_1243 : Dc code 1243 (.iconst 3) 1 1244 := dc_of tkL_51 5 rfl rfl
theorem dL_law_1244 : Dc code 1244 (.iadd) 1 1245 := dc_of tkL_51 6 rfl rfl
theorem dL_law_1245 : Dc code 1245 (.iaload) 1 1246 := dc_of tkL_51 7 rfl rfl
theorem dL_law_1246 : Dc code 1246 (.invokevirtual 128) 3 1249 := dc_of tkL_51 8 rfl rfl
theorem dL_law_1249 : Dc code 1249 (.if_icmp .eq 985) 3 1252 := dc_of tkL_51 9 rfl rfl
theorem dL_law_1252 : Dc code 1252 (.iconst 0) 1 1253 := dc_of tkL_51 10 rfl rfl
theorem dL_law_1253 : Dc code 1253 (.ireturn) 1 1254 := dc_of tkL_51 11 rfl rfl
theorem dL_law_1254 : Dc code 1254 (.aload_n 1) 1 1255 := dc_of tkL_51 12 rfl rfl
theorem dL_law_1255 : Dc code 1255 (.aload_n 0) 1 1256 := dc_of tkL_51 13 rfl rfl
theorem dL_law_1256 : Dc code 1256 (.iload_n 3) 1 1257 := dc_of tkL_51 14 rfl rfl
theorem dL_law_1257 : Dc code 1257 (.iconst 1) 1 1258 := dc_of tkL_51 15 rfl rfl
def tbL_52 : List (Nat × Instr × Nat) := [(1258, .iadd, 1), (1259, .iaload, 1), (1260, .invokevirtual 129, 3), (1263, .aload_n 2, 1), (1264, .aload_n 0, 1), (1265, .iload_n 3, 1), (1266, .iconst 1, 1), (1267, .iadd, 1), (1268, .iaload, 1), (1269, .invokevirtual 132, 3), (1272, .if_icmp .eq 962, 3), (1275, .iconst 0, 1), (1276, .ireturn, 1), (1277, .aload_n 1, 1), (1278, .aload_n 0, 1), (1279, .iload_n 3, 1)]
theorem tkL_52 : tbL_52.all (fun q => decide (decode code q.1 = .ok q.2)) = true := by decide +kernel
theorem dL_law_1258 : Dc code 1258 (.iadd) 1 1259 := dc_of tkL_52 0 rfl rfl
theorem dL_law_1259 : Dc code 1259 (.iaload) 1 1260 := dc_of tkL_52 1 rfl rfl
theorem dL_law_1260 : Dc code 1260 (.invokevirtual 129) 3 1263 := dc_of tkL_52 2 rfl rfl
theorem dL_law_1263 : Dc code 1263 (.aload_n 2) 1 1264 := dc_of tkL_52 3 rfl rfl
theorem dL_law_1264 : Dc code 1264 (.aload_n 0) 1 1265 := dc_of tkL_52 4 rfl rfl
theorem dL_law_1265 : Dc code 1265 (.iload_n 3) 1 1266 := dc_of tkL_52 5 rfl rfl
theorem dL_law_1266 : Dc code 1266 (.iconst 1) 1 1267 := dc_of tkL_52 6 rfl rfl
theorem dL_law_1267 : Dc code 1267 (.iadd) 1 1268 := dc_of tkL_52 7 rfl rfl
theorem dL_law_1268 : Dc code 1268 (.iaload) 1 1269 := dc_of tkL_52 8 rfl rfl
theorem dL_law_1269 : Dc code 1269 (.invokevirtual 132) 3 1272 := dc_of tkL_52 9 rfl rfl
theorem dL_law_1272 : Dc code 1272 (.if_icmp .eq 962) 3 1275 := dc_of tkL_52 10 rfl rfl
theorem dL_law_1275 : Dc code 1275 (.iconst 0) 1 1276 := dc_of tkL_52 11 rfl rfl
theorem dL_law_1276 : Dc code 1276 (.ireturn) 1 1277 := dc_of tkL_52 12 rfl rfl
theorem dL_law_1277 : Dc code 1277 (.aload_n 1) 1 1278 := dc_of tkL_52 13 rfl rfl
theorem dL_law_1278 : Dc code 1278 (.aload_n 0) 1 1279 := dc_of tkL_52 14 rfl rfl
theorem dL_law_1279 : Dc code 1279 (.iload_n 3) 1 1280 := dc_of tkL_52 15 rfl rfl
def tbL_53 : List (Nat × Instr × Nat) := [(1280, .iconst 1, 1), (1281, .iadd, 1), (1282, .iaload, 1), (1283, .invokevirtual 133, 3), (1286, .aload_n 2, 1), (1287, .aload_n 0, 1), (1288, .iload_n 3, 1), (1289, .iconst 1, 1), (1290, .iadd, 1), (1291, .iaload, 1), (1292, .invokevirtual 136, 3), (1295, .if_icmp .eq 939, 3), (1298, .iconst 0, 1), (1299, .ireturn, 1), (1300, .aload_n 1, 1), (1301, .aload_n 0, 1)]
theorem tkL_53 : tbL_53.all (fun q => decide (decode code q.1 = .ok q.2)) = true := by decide +kernel
theorem dL_law_1280 : Dc code 1280 (.iconst 1) 1 1281 := dc_of tkL_53 0 rfl rfl
theorem dL_law_1281 : Dc code 1281 (.iadd) 1 1282 := dc_of tkL_53 1 rfl rfl
theorem dL_law_1282 : Dc code 1282 (.iaload) 1 1283 := dc_of tkL_53 2 rfl rfl
theorem dL_law_1283 : Dc code 1283 (.invokevirtual 133) 3 1286 := dc_of tkL_53 3 rfl rfl
theorem dL_law_1286 : Dc code 1286 (.aload_n 2) 1 1287 := dc_of tkL_53 4 rfl rfl
theorem dL_law_1287 : Dc code 1287 (.aload_n 0) 1 1288 := dc_of tkL_53 5 rfl rfl
theorem dL_law_1288 : Dc code 1288 (.iload_n 3) 1 1289 := dc_of tkL_53 6 rfl rfl
theorem dL_law_1289 : Dc code 1289 (.iconst 1) 1 1290 := dc_of tkL_53 7 rfl rfl
theorem dL_law_1290 : Dc code 1290 (.iadd) 1 1291 := dc_of tkL_53 8 rfl rfl
theorem dL_law_1291 : Dc code 1291 (.iaload) 1 1292 := dc_of tkL_53 9 rfl rfl
theorem dL_law_1292 : Dc code 1292 (.invokevirtual 136) 3 1295 := dc_of tkL_53 10 rfl rfl
theorem dL_law_1295 : Dc code 1295 (.if_icmp .eq 939) 3 1298 := dc_of tkL_53 11 rfl rfl
theorem dL_law_1298 : Dc code 1298 (.iconst 0) 1 1299 := dc_of tkL_53 12 rfl rfl
theorem dL_law_1299 : Dc code 1299 (.ireturn) 1 1300 := dc_of tkL_53 13 rfl rfl
theorem dL_law_1300 : Dc code 1300 (.aload_n 1) 1 1301 := dc_of tkL_53 14 rfl rfl
theorem dL_law_1301 : Dc code 1301 (.aload_n 0) 1 1302 := dc_of tkL_53 15 rfl rfl
def tbL_54 : List (Nat × Instr × Nat) := [(1302, .iload_n 3, 1), (1303, .iconst 1, 1), (1304, .iadd, 1), (1305, .iaload, 1), (1306, .aload_n 0, 1), (1307, .iload_n 3, 1), (1308, .iconst 2, 1), (1309, .iadd, 1), (1310, .iaload, 1), (1311, .aload_n 0, 1), (1312, .iload_n 3, 1), (1313, .iconst 3, 1), (1314, .iadd, 1), (1315, .iaload, 1), (1316, .aload_n 0, 1), (1317, .iload_n 3, 1)]
theorem tkL_54 : tbL_54.all (fun q => decide (decode code q.1 = .ok q.2)) = true := by decide +kernel
theorem dL_law_1302 : Dc code 1302 (.iload_n 3) 1 1303 := dc_of tkL_54 0 rfl rfl
theorem dL_law_1303 : Dc code 1303 (.iconst 1) 1 1304 := dc_of tkL_54 1 rfl rfl
theorem dL_law_1304 : Dc code 1304 (.iadd) 1 1305 := dc_of tkL_54 2 rfl rfl
theorem dL_law_1305 : Dc code 1305 (.iaload) 1 1306 := dc_of tkL_54 3 rfl rfl
theorem dL_law_1306 : Dc code 1306 (.aload_n 0) 1 1307 := dc_of tkL_54 4 rfl rfl
theorem dL_law_1307 : Dc code 1307 (.iload_n 3) 1 1308 := dc_of tkL_54 5 rfl rfl
theorem dL_law_1308 : Dc code 1308 (.iconst 2) 1 1309 := dc_of tkL_54 6 rfl rfl
theorem dL_law_1309 : Dc code 1309 (.iadd) 1 1310 := dc_of tkL_54 7 rfl rfl
theorem dL_law_1310 : Dc code 1310 (.iaload) 1 1311 := dc_of tkL_54 8 rfl rfl
theorem dL_law_1311 : Dc code 1311 (.aload_n 0) 1 1312 := dc_of tkL_54 9 rfl rfl
theorem dL_law_1312 : Dc code 1312 (.iload_n 3) 1 1313 := dc_of tkL_54 10 rfl rfl
theorem dL_law_1313 : Dc code 1313 (.iconst 3) 1 1314 := dc_of tkL_54 11 rfl rfl
theorem dL_law_1314 : Dc code 1314 (.iadd) 1 1315 := dc_of tkL_54 12 rfl rfl
theorem dL_law_1315 : Dc code 1315 (.iaload) 1 1316 := dc_of tkL_54 13 rfl rfl
theorem dL_law_1316 : Dc code 1316 (.aload_n 0) 1 1317 := dc_of tkL_54 14 rfl rfl
theorem dL_law_1317 : Dc code 1317 (.iload_n 3) 1 1318 := dc_of tkL_54 15 rfl rfl
def tbL_55 : List (Nat × Instr × Nat) := [(1318, .iconst 4, 1), (1319, .iadd, 1), (1320, .iaload, 1), (1321, .invokevirtual 137, 3), (1324, .aload_n 2, 1), (1325, .aload_n 0, 1), (1326, .iload_n 3, 1), (1327, .iconst 1, 1), (1328, .iadd, 1), (1329, .iaload, 1), (1330, .aload_n 0, 1), (1331, .iload_n 3, 1), (1332, .iconst 2, 1), (1333, .iadd, 1), (1334, .iaload, 1), (1335, .aload_n 0, 1)]
theorem tkL_55 : tbL_55.all (fun q => decide (decode code q.1 = .ok q.2)) = true := by decide +kernel
theorem dL_law_1318 : Dc code 1318 (.iconst 4) 1 1319 := dc_of tkL_55 0 rfl rfl
theorem dL_law_1319 : Dc code 1319 (.iadd) 1 1320 := dc_of tkL_55 1 rfl rfl
theorem dL_law_1320 : Dc code 1320 (.iaload) 1 1321 := dc_of tkL_55 2 rfl rfl
theorem dL_law_1321 : Dc code 1321 (.invokevirtual 137) 3 1324 := dc_of tkL_55 3 rfl rfl
theorem dL_law_1324 : Dc code 1324 (.aload_n 2) 1 1325 := dc_of tkL_55 4 rfl rfl
theorem dL_law_1325 : Dc code 1325 (.aload_n 0) 1 1326 := dc_of tkL_55 5 rfl rfl
theorem dL_law_1326 : Dc code 1326 (.iload_n 3) 1 1327 := dc_of tkL_55 6 rfl rfl
theorem dL_law_1327 : Dc code 1327 (.iconst 1) 1 1328 := dc_of tkL_55 7 rfl rfl
theorem dL_law_1328 : Dc code 1328 (.iadd) 1 1329 := dc_of tkL_55 8 rfl rfl
theorem dL_law_1329 : Dc code 1329 (.iaload) 1 1330 := dc_of tkL_55 9 rfl rfl
theorem dL_law_1330 : Dc code 1330 (.aload_n 0) 1 1331 := dc_of tkL_55 10 rfl rfl
theorem dL_law_1331 : Dc code 1331 (.iload_n 3) 1 1332 := dc_of tkL_55 11 rfl rfl
theorem dL_law_1332 : Dc code 1332 (.iconst 2) 1 1333 := dc_of tkL_55 12 rfl rfl
theorem dL_law_1333 : Dc code 1333 (.iadd) 1 1334 := dc_of tkL_55 13 rfl rfl
theorem dL_law_1334 : Dc code 1334 (.iaload) 1 1335 := dc_of tkL_55 14 rfl rfl
theorem dL_law_1335 : Dc code 1335 (.aload_n 0) 1 1336 := dc_of tkL_55 15 rfl rfl
def tbL_56 : List (Nat × Instr × Nat) := [(1336, .iload_n 3, 1), (1337, .iconst 3, 1), (1338, .iadd, 1), (1339, .iaload, 1), (1340, .aload_n 0, 1), (1341, .iload_n 3, 1), (1342, .iconst 4, 1), (1343, .iadd, 1), (1344, .iaload, 1), (1345, .invokevirtual 140, 3), (1348, .if_icmp .eq 886, 3), (1351, .iconst 0, 1), (1352, .ireturn, 1), (1353, .aload_n 1, 1), (1354, .aload_n 0, 1), (1355, .iload_n 3, 1)]
theorem tkL_56 : tbL_56.all (fun q => decide (decode code q.1 = .ok q.2)) = true := by decide +kernel
theorem dL_law_1336 : Dc code 1336 (.iload_n 3) 1 1337 := dc_of tkL_56 0 rfl rfl
theorem dL_law_1337 : Dc code 1337 (.iconst 3) 1 1338 := dc_of tkL_56 1 rfl rfl
theorem dL_law_1338 : Dc code 1338 (.iadd) 1 1339 := dc_of tkL_56 2 rfl rfl
theorem dL_law_1339 : Dc code 1339 (.iaload) 1 1340 := dc_of tkL_56 3 rfl rfl
theorem dL_law_1340 : Dc code 1340 (.aload_n 0) 1 1341 := dc_of tkL_56 4 rfl rfl
theorem dL_law_1341 : Dc code 1341 (.iload_n 3) 1 1342 := dc_of tkL_56 5 rfl rfl
theorem dL_law_1342 : Dc code 1342 (.iconst 4) 1 1343 := dc_of tkL_56 6 rfl rfl
theorem dL_law_1343 : Dc code 1343 (.iadd) 1 1344 := dc_of tkL_56 7 rfl rfl
theorem dL_law_1344 : Dc code 1344 (.iaload) 1 1345 := dc_of tkL_56 8 rfl rfl
theorem dL_law_1345 : Dc code 1345 (.invokevirtual 140) 3 1348 := dc_of tkL_56 9 rfl rfl
theorem dL_law_1348 : Dc code 1348 (.if_icmp .eq 886) 3 1351 := dc_of tkL_56 10 rfl rfl
theorem dL_law_1351 : Dc code 1351 (.iconst 0) 1 1352 := dc_of tkL_56 11 rfl rfl
theorem dL_law_1352 : Dc code 1352 (.ireturn) 1 1353 := dc_of tkL_56 12 rfl rfl
theorem dL_law_1353 : Dc code 1353 (.aload_n 1) 1 1354 := dc_of tkL_56 13 rfl rfl
theorem dL_law_1354 : Dc code 1354 (.aload_n 0) 1 1355 := dc_of tkL_56 14 rfl rfl
theorem dL_law_1355 : Dc code 1355 (.iload_n 3) 1 1356 := dc_of tkL_56 15 rfl rfl
def tbL_57 : List (Nat × Instr × Nat) := [(1356, .iconst 1, 1), (1357, .iadd, 1), (1358, .iaload, 1), (1359, .invokevirtual 141, 3), (1362, .aload_n 2, 1), (1363, .aload_n 0, 1), (1364, .iload_n 3, 1), (1365, .iconst 1, 1), (1366, .iadd, 1), (1367, .iaload, 1), (1368, .invokevirtual 144, 3), (1371, .if_icmp .eq 863, 3), (1374, .iconst 0, 1), (1375, .ireturn, 1), (1376, .aload_n 1, 1), (1377, .aload_n 0, 1)]
theorem tkL_57 : tbL_57.all (fun q => decide (decode code q.1 = .ok q.2)) = true := by decide +kernel
theorem dL_law_1356 : Dc code 1356 (.iconst 1) 1 1357 := dc_of tkL_57 0 rfl rfl
theorem dL_law_1357 : Dc code 1357 (.iadd) 1 1358 := dc_of tkL_57 1 rfl rfl
theorem dL_law_1358 : Dc code 1358 (.iaload) 1 1359 := dc_of tkL_57 2 rfl rfl
theorem dL_law_1359 : Dc code 1359 (.invokevirtual 141) 3 1362 := dc_of tkL_57 3 rfl rfl
theorem dL_law_1362 : Dc code 1362 (.aload_n 2) 1 1363 := dc_of tkL_57 4 rfl rfl
theorem dL_law_1363 : Dc code 1363 (.aload_n 0) 1 1364 := dc_of tkL_57 5 rfl rfl
theorem dL_law_1364 : Dc code 1364 (.iload_n 3) 1 1365 := dc_of tkL_57 6 rfl rfl
theorem dL_law_1365 : Dc code 1365 (.iconst 1) 1 1366 := dc_of tkL_57 7 rfl rfl
theorem dL_law_1366 : Dc code 1366 (.iadd) 1 1367 := dc_of tkL_57 8 rfl rfl
theorem dL_law_1367 : Dc code 1367 (.iaload) 1 1368 := dc_of tkL_57 9 rfl rfl
theorem dL_law_1368 : Dc code 1368 (.invokevirtual 144) 3 1371 := dc_of tkL_57 10 rfl rfl
theorem dL_law_1371 : Dc code 1371 (.if_icmp .eq 863) 3 1374 := dc_of tkL_57 11 rfl rfl
theorem dL_law_1374 : Dc code 1374 (.iconst 0) 1 1375 := dc_of tkL_57 12 rfl rfl
theorem dL_law_1375 : Dc code 1375 (.ireturn) 1 1376 := dc_of tkL_57 13 rfl rfl
theorem dL_law_1376 : Dc code 1376 (.aload_n 1) 1 1377 := dc_of tkL_57 14 rfl rfl
theorem dL_law_1377 : Dc code 1377 (.aload_n 0) 1 1378 := dc_of tkL_57 15 rfl rfl
def tbL_58 : List (Nat × Instr × Nat) := [(1378, .iload_n 3, 1), (1379, .iconst 1, 1), (1380, .iadd, 1), (1381, .iaload, 1), (1382, .invokevirtual 145, 3), (1385, .aload_n 2, 1), (1386, .aload_n 0, 1), (1387, .iload_n 3, 1), (1388, .iconst 1, 1), (1389, .iadd, 1), (1390, .iaload, 1), (1391, .invokevirtual 148, 3), (1394, .if_icmp .eq 840, 3), (1397, .iconst 0, 1), (1398, .ireturn, 1), (1399, .aload_n 1, 1)]
theorem tkL_58 : tbL_58.all (fun q => decide (decode code q.1 = .ok q.2)) = true := by decide +kernel
theorem dL_law_1378 : Dc code 1378 (.iload_n 3) 1 1379 := dc_of tkL_58 0 rfl rfl
theorem dL_law_1379 : Dc code 1379 (.iconst 1) 1 1380 := dc_of tkL_58 1 rfl rfl
theorem dL_law_1380 : Dc code 1380 (.iadd) 1 1381 := dc_of tkL_58 2 rfl rfl
theorem dL_law_1381 : Dc code 1381 (.iaload) 1 1382 := dc_of tkL_58 3 rfl rfl
theorem dL_law_1382 : Dc code 1382 (.invokevirtual 145) 3 1385 := dc_of tkL_58 4 rfl rfl
theorem dL_law_1385 : Dc code 1385 (.aload_n 2) 1 1386 := dc_of tkL_58 5 rfl rfl
theorem dL_law_1386 : Dc code 1386 (.aload_n 0) 1 1387 := dc_of tkL_58 6 rfl rfl
theorem dL_law_1387 : Dc code 1387 (.iload_n 3) 1 1388 := dc_of tkL_58 7 rfl rfl
theorem dL_law_1388 : Dc code 1388 (.iconst 1) 1 1389 := dc_of tkL_58 8 rfl rfl
theorem dL_law_1389 : Dc code 1389 (.iadd) 1 1390 := dc_of tkL_58 9 rfl rfl
theorem dL_law_1390 : Dc code 1390 (.iaload) 1 1391 := dc_of tkL_58 10 rfl rfl
theorem dL_law_1391 : Dc code 1391 (.invokevirtual 148) 3 1394 := dc_of tkL_58 11 rfl rfl
theorem dL_law_1394 : Dc code 1394 (.if_icmp .eq 840) 3 1397 := dc_of tkL_58 12 rfl rfl
theorem dL_law_1397 : Dc code 1397 (.iconst 0) 1 1398 := dc_of tkL_58 13 rfl rfl
theorem dL_law_1398 : Dc code 1398 (.ireturn) 1 1399 := dc_of tkL_58 14 rfl rfl
theorem dL_law_1399 : Dc code 1399 (.aload_n 1) 1 1400 := dc_of tkL_58 15 rfl rfl
def tbL_59 : List (Nat × Instr × Nat) := [(1400, .aload_n 0, 1), (1401, .iload_n 3, 1), (1402, .iconst 1, 1), (1403, .iadd, 1), (1404, .iaload, 1), (1405, .aload_n 0, 1), (1406, .iload_n 3, 1), (1407, .iconst 2, 1), (1408, .iadd, 1), (1409, .iaload, 1), (1410, .invokevirtual 149, 3), (1413, .aload_n 2, 1), (1414, .aload_n 0, 1), (1415, .iload_n 3, 1), (1416, .iconst 1, 1), (1417, .iadd, 1)]
theorem tkL_59 : tbL_59.all (fun q => decide (decode code q.1 = .ok q.2)) = true := by decide +kernel
theorem dL_law_1400 : Dc code 1400 (.aload_n 0) 1 1401 := dc_of tkL_59 0 rfl rfl
theorem dL_law_1401 : Dc code 1401 (.iload_n 3) 1 1402 := dc_of tkL_59 1 rfl rfl
theorem dL_law_1402 : Dc code 1402 (.iconst 1) 1 1403 := dc_of tkL_59 2 rfl rfl
theorem dL_law_1403 : Dc code 1403 (.iadd) 1 1404 := dc_of tkL_59 3 rfl rfl
theorem dL_law_1404 : Dc code 1404 (.iaload) 1 1405 := dc_of tkL_59 4 rfl rfl
theorem dL_law_1405 : Dc code 1405 (.aload_n 0) 1 1406 := dc_of tkL_59 5 rfl rfl
theorem dL_law_1406 : Dc code 1406 (.iload_n 3) 1 1407 := dc_of tkL_59 6 rfl rfl
theorem dL_law_1407 : Dc code 1407 (.iconst 2) 1 1408 := dc_of tkL_59 7 rfl rfl
theorem dL_law_1408 : Dc code 1408 (.iadd) 1 1409 := dc_of tkL_59 8 rfl rfl
theorem dL_law_1409 : Dc code 1409 (.iaload) 1 1410 := dc_of tkL_59 9 rfl rfl
theorem dL_law_1410 : Dc code 1410 (.invokevirtual 149) 3 1413 := dc_of tkL_59 10 rfl rfl
theorem dL_law_1413 : Dc code 1413 (.aload_n 2) 1 1414 := dc_of tkL_59 11 rfl rfl
theorem dL_law_1414 : Dc code 1414 (.aload_n 0) 1 1415 := dc_of tkL_59 12 rfl rfl
theorem dL_law_1415 : Dc code 1415 (.iload_n 3) 1 1416 := dc_of tkL_59 13 rfl rfl
theorem dL_law_1416 : Dc code 1416 (.iconst 1) 1 1417 := dc_of tkL_59 14 rfl rfl
theorem dL_law_1417 : Dc code 1417 (.iadd) 1 1418 := dc_of tkL_59 15 rfl rfl
def tbL_60 : List (Nat × Instr × Nat) := [(1418, .iaload, 1), (1419, .aload_n 0, 1), (1420, .iload_n 3, 1), (1421, .iconst 2, 1), (1422, .iadd, 1), (1423, .iaload, 1), (1424, .invokevirtual 152, 3), (1427, .if_icmp .eq 807, 3), (1430, .iconst 0, 1), (1431, .ireturn, 1), (1432, .aload_n 1, 1), (1433, .aload_n 0, 1), (1434, .iload_n 3, 1), (1435, .iconst 1, 1), (1436, .iadd, 1), (1437, .iaload, 1)]
theorem tkL_60 : tbL_60.all (fun q => decide (decode code q.1 = .ok q.2)) = true := by decide +kernel
theorem dL_law_1418 : Dc code 1418 (.iaload) 1 1419 := dc_of tkL_60 0 rfl rfl
theorem dL_law_1419 : Dc code 1419 (.aload_n 0) 1 1420 := dc_of tkL_60 1 rfl rfl
theorem dL_law_1420 : Dc code 1420 (.iload_n 3) 1 1421 := dc_of tkL_60 2 rfl rfl
theorem dL_law_1421 : Dc code 1421 (.iconst 2) 1 1422 := dc_of tkL_60 3 rfl rfl
theorem dL_law_1422 : Dc code 1422 (.iadd) 1 1423 := dc_of tkL_60 4 rfl rfl
theorem dL_law_1423 : Dc code 1423 (.iaload) 1 1424 := dc_of tkL_60 5 rfl rfl
theorem dL_law_1424 : Dc code 1424 (.invokevirtual 152) 3 1427 := dc_of tkL_60 6 rfl rfl
theorem dL_law_1427 : Dc code 1427 (.if_icmp .eq 807) 3 1430 := dc_of tkL_60 7 rfl rfl
theorem dL_law_1430 : Dc code 1430 (.iconst 0) 1 1431 := dc_of tkL_60 8 rfl rfl
theorem dL_law_1431 : Dc code 1431 (.ireturn) 1 1432 := dc_of tkL_60 9 rfl rfl
theorem dL_law_1432 : Dc code 1432 (.aload_n 1) 1 1433 := dc_of tkL_60 10 rfl rfl
theorem dL_law_1433 : Dc code 1433 (.aload_n 0) 1 1434 := dc_of tkL_60 11 rfl rfl
theorem dL_law_1434 : Dc code 1434 (.iload_n 3) 1 1435 := dc_of tkL_60 12 rfl rfl
theorem dL_law_1435 : Dc code 1435 (.iconst 1) 1 1436 := dc_of tkL_60 13 rfl rfl
theorem dL_law_1436 : Dc code 1436 (.iadd) 1 1437 := dc_of tkL_60 14 rfl rfl
theorem dL_law_1437 : Dc code 1437 (.iaload) 1 1438 := dc_of tkL_60 15 rfl rfl
def tbL_61 : List (Nat × Instr × Nat) := [(1438, .aload_n 0, 1), (1439, .iload_n 3, 1), (1440, .iconst 2, 1), (1441, .iadd, 1), (1442, .iaload, 1), (1443, .aload_n 0, 1), (1444, .iload_n 3, 1), (1445, .iconst 3, 1), (1446, .iadd, 1), (1447, .iaload, 1), (1448, .invokevirtual 153, 3), (1451, .aload_n 2, 1), (1452, .aload_n 0, 1), (1453, .iload_n 3, 1), (1454, .iconst 1, 1), (1455, .iadd, 1)]
theorem tkL_61 : tbL_61.all (fun q => decide (decode code q.1 = .ok q.2)) = true := by decide +kernel
theorem dL_law_1438 : Dc code 1438 (.aload_n 0) 1 1439 := dc_of tkL_61 0 rfl rfl
theorem dL_law_1439 : Dc code 1439 (.iload_n 3) 1 1440 := dc_of tkL_61 1 rfl rfl
theorem dL_law_1440 : Dc code 1440 (.iconst 2) 1 1441 := dc_of tkL_61 2 rfl rfl
theorem dL_law_1441 : Dc code 1441 (.iadd) 1 1442 := dc_of tkL_61 3 rfl rfl
theorem dL_law_1442 : Dc code 1442 (.iaload) 1 1443 := dc_of tkL_61 4 rfl rfl
theorem dL_law_1443 : Dc code 1443 (.aload_n 0) 1 1444 := dc_of tkL_61 5 rfl rfl
theorem dL_law_1444 : Dc code 1444 (.iload_n 3) 1 1445 := dc_of tkL_61 6 rfl rfl
theorem dL_law_1445 : Dc code 1445 (.iconst 3) 1 1446 := dc_of tkL_61 7 rfl rfl
theorem dL_law_1446 : Dc code 1446 (.iadd) 1 1447 := dc_of tkL_61 8 rfl rfl
theorem dL_law_1447 : Dc code 1447 (.iaload) 1 1448 := dc_of tkL_61 9 rfl rfl
theorem dL_law_1448 : Dc code 1448 (.invokevirtual 153) 3 1451 := dc_of tkL_61 10 rfl rfl
theorem dL_law_1451 : Dc code 1451 (.aload_n 2) 1 1452 := dc_of tkL_61 11 rfl rfl
theorem dL_law_1452 : Dc code 1452 (.aload_n 0) 1 1453 := dc_of tkL_61 12 rfl rfl
theorem dL_law_1453 : Dc code 1453 (.iload_n 3) 1 1454 := dc_of tkL_61 13 rfl rfl
theorem dL_law_1454 : Dc code 1454 (.iconst 1) 1 1455 := dc_of tkL_61 14 rfl rfl
theorem dL_law_1455 : Dc code 1455 (.iadd) 1 1456 := dc_of tkL_61 15 rfl rfl
def tbL_62 : List (Nat × Instr × Nat) := [(1456, .iaload, 1), (1457, .aload_n 0, 1), (1458, .iload_n 3, 1), (1459, .iconst 2, 1), (1460, .iadd, 1), (1461, .iaload, 1), (1462, .aload_n 0, 1), (1463, .iload_n 3, 1), (1464, .iconst 3, 1), (1465, .iadd, 1), (1466, .iaload, 1), (1467, .invokevirtual 156, 3), (1470, .if_icmp .eq 764, 3), (1473, .iconst 0, 1), (1474, .ireturn, 1), (1475, .aload_n 1, 1)]
theorem tkL_62 : tbL_62.all (fun q => decide (decode code q.1 = .ok q.2)) = true := by decide +kernel
theorem dL_law_1456 : Dc code 1456 (.iaload) 1 1457 := dc_of tkL_62 0 rfl rfl
theorem dL_law_1457 : Dc code 1457 (.aload_n 0) 1 1458 := dc_of tkL_62 1 rfl rfl
theorem dL_law_1458 : Dc code 1458 (.iload_n 3) 1 1459 := dc_of tkL_62 2 rfl rfl
theorem dL_law_1459 : Dc code 1459 (.iconst 2) 1 1460 := dc_of tkL_62 3 rfl rfl
theorem dL_law_1460 : Dc code 1460 (.iadd) 1 1461 := dc_of tkL_62 4 rfl rfl
theorem dL_law_1461 : Dc code 1461 (.iaload) 1 1462 := dc_of tkL_62 5 rfl rfl
theorem dL_law_1462 : Dc code 1462 (.aload_n 0) 1 1463 := dc_of tkL_62 6 rfl rfl
theorem dL_law_1463 : Dc code 1463 (.iload_n 3) 1 1464 := dc_of tkL_62 7 rfl rfl
theorem dL_law_1464 : Dc code 1464 (.iconst 3) 1 1465 := dc_of tkL_62 8 rfl rfl
theorem dL_law_1465 : Dc code 1465 (.iadd) 1 1466 := dc_of tkL_62 9 rfl rfl
theorem dL_law_1466 : Dc code 1466 (.iaload) 1 1467 := dc_of tkL_62 10 rfl rfl
theorem dL_law_1467 : Dc code 1467 (.invokevirtual 156) 3 1470 := dc_of tkL_62 11 rfl rfl
theorem dL_law_1470 : Dc code 1470 (.if_icmp .eq 764) 3 1473 := dc_of tkL_62 12 rfl rfl
theorem dL_law_1473 : Dc code 1473 (.iconst 0) 1 1474 := dc_of tkL_62 13 rfl rfl
theorem dL_law_1474 : Dc code 1474 (.ireturn) 1 1475 := dc_of tkL_62 14 rfl rfl
theorem dL_law_1475 : Dc code 1475 (.aload_n 1) 1 1476 := dc_of tkL_62 15 rfl rfl
def tbL_63 : List (Nat × Instr × Nat) := [(1476, .aload_n 0, 1), (1477, .iload_n 3, 1), (1478, .iconst 1, 1), (1479, .iadd, 1), (1480, .iaload, 1), (1481, .aload_n 0, 1), (1482, .iload_n 3, 1), (1483, .iconst 2, 1), (1484, .iadd, 1), (1485, .iaload, 1), (1486, .aload_n 0, 1), (1487, .iload_n 3, 1), (1488, .iconst 3, 1), (1489, .iadd, 1), (1490, .iaload, 1), (1491, .aload_n 0, 1)]
theorem tkL_63 : tbL_63.all (fun q => decide (decode code q.1 = .ok q.2)) = true := by decide +kernel
theorem dL_law_1476 : Dc code 1476 (.aload_n 0) 1 1477 := dc_of tkL_63 0 rfl rfl
theorem dL_law_1477 : Dc code 1477 (.iload_n 3) 1 1478 := dc_of tkL_63 1 rfl rfl
theorem dL_law_1478 : Dc code 1478 (.iconst 1) 1 1479 := dc_of tkL_63 2 rfl rfl
theorem dL_law_1479 : Dc code 1479 (.iadd) 1 1480 := dc_of tkL_63 3 rfl rfl
theorem dL_law_1480 : Dc code 1480 (.iaload) 1 1481 := dc_of tkL_63 4 rfl rfl
theorem dL_law_1481 : Dc code 1481 (.aload_n 0) 1 1482 := dc_of tkL_63 5 rfl rfl
theorem dL_law_1482 : Dc code 1482 (.iload_n 3) 1 1483 := dc_of tkL_63 6 rfl rfl
theorem dL_law_1483 : Dc code 1483 (.iconst 2) 1 1484 := dc_of tkL_63 7 rfl rfl
theorem dL_law_1484 : Dc code 1484 (.iadd) 1 1485 := dc_of tkL_63 8 rfl rfl
theorem dL_law_1485 : Dc code 1485 (.iaload) 1 1486 := dc_of tkL_63 9 rfl rfl
theorem dL_law_1486 : Dc code 1486 (.aload_n 0) 1 1487 := dc_of tkL_63 10 rfl rfl
theorem dL_law_1487 : Dc code 1487 (.iload_n 3) 1 1488 := dc_of tkL_63 11 rfl rfl
theorem dL_law_1488 : Dc code 1488 (.iconst 3) 1 1489 := dc_of tkL_63 12 rfl rfl
theorem dL_law_1489 : Dc code 1489 (.iadd) 1 1490 := dc_of tkL_63 13 rfl rfl
theorem dL_law_1490 : Dc code 1490 (.iaload) 1 1491 := dc_of tkL_63 14 rfl rfl
theorem dL_law_1491 : Dc code 1491 (.aload_n 0) 1 1492 := dc_of tkL_63 15 rfl rfl
def tbL_64 : List (Nat × Instr × Nat) := [(1492, .iload_n 3, 1), (1493, .iconst 4, 1), (1494, .iadd, 1), (1495, .iaload, 1), (1496, .invokevirtual 157, 3), (1499, .aload_n 2, 1), (1500, .aload_n 0, 1), (1501, .iload_n 3, 1), (1502, .iconst 1, 1), (1503, .iadd, 1), (1504, .iaload, 1), (1505, .aload_n 0, 1), (1506, .iload_n 3, 1), (1507, .iconst 2, 1), (1508, .iadd, 1), (1509, .iaload, 1)]
theorem tkL_64 : tbL_64.all (fun q => decide (decode code q.1 = .ok q.2)) = true := by decide +kernel
theorem dL_law_1492 : Dc code 1492 (.iload_n 3) 1 1493 := dc_of tkL_64 0 rfl rfl
theorem dL_law_1493 : Dc code 1493 (.iconst 4) 1 1494 := dc_of tkL_64 1 rfl rfl
theorem dL_law_1494 : Dc code 1494 (.iadd) 1 1495 := dc_of tkL_64 2 rfl rfl
theorem dL_law_1495 : Dc code 1495 (.iaload) 1 1496 := dc_of tkL_64 3 rfl rfl
theorem dL_law_1496 : Dc code 1496 (.invokevirtual 157) 3 1499 := dc_of tkL_64 4 rfl rfl
theorem dL_law_1499 : Dc code 1499 (.aload_n 2) 1 1500 := dc_of tkL_64 5 rfl rfl
theorem dL_law_1500 : Dc code 1500 (.aload_n 0) 1 1501 := dc_of tkL_64 6 rfl rfl
theorem dL_law_1501 : Dc code 1501 (.iload_n 3) 1 1502 := dc_of tkL_64 7 rfl rfl
theorem dL_law_1502 : Dc code 1502 (.iconst 1) 1 1503 := dc_of tkL_64 8 rfl rfl
theorem dL_law_1503 : Dc code 1503 (.iadd) 1 1504 := dc_of tkL_64 9 rfl rfl
theorem dL_law_1504 : Dc code 1504 (.iaload) 1 1505 := dc_of tkL_64 10 rfl rfl
theorem dL_law_1505 : Dc code 1505 (.aload_n 0) 1 1506 := dc_of tkL_64 11 rfl rfl
theorem dL_law_1506 : Dc code 1506 (.iload_n 3) 1 1507 := dc_of tkL_64 12 rfl rfl
theorem dL_law_1507 : Dc code 1507 (.iconst 2) 1 1508 := dc_of tkL_64 13 rfl rfl
theorem dL_law_1508 : Dc code 1508 (.iadd) 1 1509 := dc_of tkL_64 14 rfl rfl
theorem dL_law_1509 : Dc code 1509 (.iaload) 1 1510 := dc_of tkL_64 15 rfl rfl
def tbL_65 : List (Nat × Instr × Nat) := [(1510, .aload_n 0, 1), (1511, .iload_n 3, 1), (1512, .iconst 3, 1), (1513, .iadd, 1), (1514, .iaload, 1), (1515, .aload_n 0, 1), (1516, .iload_n 3, 1), (1517, .iconst 4, 1), (1518, .iadd, 1), (1519, .iaload, 1), (1520, .invokevirtual 160, 3), (1523, .if_icmp .eq 711, 3), (1526, .iconst 0, 1), (1527, .ireturn, 1), (1528, .aload_n 1, 1), (1529, .aload_n 0, 1)]
theorem tkL_65 : tbL_65.all (fun q => decide (decode code q.1 = .ok q.2)) = true := by decide +kernel
theorem dL_law_1510 : Dc code 1510 (.aload_n 0) 1 1511 := dc_of tkL_65 0 rfl rfl
theorem dL_law_1511 : Dc code 1511 (.iload_n 3) 1 1512 := dc_of tkL_65 1 rfl rfl
theorem dL_law_1512 : Dc code 1512 (.iconst 3) 1 1513 := dc_of tkL_65 2 rfl rfl
theorem dL_law_1513 : Dc code 1513 (.iadd) 1 1514 := dc_of tkL_65 3 rfl rfl
theorem dL_law_1514 : Dc code 1514 (.iaload) 1 1515 := dc_of tkL_65 4 rfl rfl
theorem dL_law_1515 : Dc code 1515 (.aload_n 0) 1 1516 := dc_of tkL_65 5 rfl rfl
theorem dL_law_1516 : Dc code 1516 (.iload_n 3) 1 1517 := dc_of tkL_65 6 rfl rfl
theorem dL_law_1517 : Dc code 1517 (.iconst 4) 1 1518 := dc_of tkL_65 7 rfl rfl
theorem dL_law_1518 : Dc code 1518 (.iadd) 1 1519 := dc_of tkL_65 8 rfl rfl
theorem dL_law_1519 : Dc code 1519 (.iaload) 1 1520 := dc_of tkL_65 9 rfl rfl
theorem dL_law_1520 : Dc code 1520 (.invokevirtual 160) 3 1523 := dc_of tkL_65 10 rfl rfl
theorem dL_law_1523 : Dc code 1523 (.if_icmp .eq 711) 3 1526 := dc_of tkL_65 11 rfl rfl
theorem dL_law_1526 : Dc code 1526 (.iconst 0) 1 1527 := dc_of tkL_65 12 rfl rfl
theorem dL_law_1527 : Dc code 1527 (.ireturn) 1 1528 := dc_of tkL_65 13 rfl rfl
theorem dL_law_1528 : Dc code 1528 (.aload_n 1) 1 1529 := dc_of tkL_65 14 rfl rfl
theorem dL_law_1529 : Dc code 1529 (.aload_n 0) 1 1530 := dc_of tkL_65 15 rfl rfl
def tbL_66 : List (Nat × Instr × Nat) := [(1530, .iload_n 3, 1), (1531, .iconst 1, 1), (1532, .iadd, 1), (1533, .iaload, 1), (1534, .aload_n 0, 1), (1535, .iload_n 3, 1), (1536, .iconst 2, 1), (1537, .iadd, 1), (1538, .iaload, 1), (1539, .aload_n 0, 1), (1540, .iload_n 3, 1), (1541, .iconst 3, 1), (1542, .iadd, 1), (1543, .iaload, 1), (1544, .invokevirtual 161, 3), (1547, .aload_n 2, 1)]
theorem tkL_66 : tbL_66.all (fun q => decide (decode code q.1 = .ok q.2)) = true := by decide +kernel
theorem dL_law_1530 : Dc code 1530 (.iload_n 3) 1 1531 := dc_of tkL_66 0 rfl rfl
theorem dL_law_1531 : Dc code 1531 (.iconst 1) 1 1532 := dc_of tkL_66 1 rfl rfl
theorem dL_law_1532 : Dc code 1532 (.iadd) 1 1533 := dc_of tkL_66 2 rfl rfl
theorem dL_law_1533 : Dc code 1533 (.iaload) 1 1534 := dc_of tkL_66 3 rfl rfl
theorem dL_law_1534 : Dc code 1534 (.aload_n 0) 1 1535 := dc_of tkL_66 4 rfl rfl
theorem dL_law_1535 : Dc code 1535 (.iload_n 3) 1 1536 := dc_of tkL_66 5 rfl rfl
theorem dL_law_1536 : Dc code 1536 (.iconst 2) 1 1537 := dc_of tkL_66 6 rfl rfl
theorem dL_law_1537 : Dc code 1537 (.iadd) 1 1538 := dc_of tkL_66 7 rfl rfl
theorem dL_law_1538 : Dc code 1538 (.iaload) 1 1539 := dc_of tkL_66 8 rfl rfl
theorem dL_law_1539 : Dc code 1539 (.aload_n 0) 1 1540 := dc_of tkL_66 9 rfl rfl
theorem dL_law_1540 : Dc code 1540 (.iload_n 3) 1 1541 := dc_of tkL_66 10 rfl rfl
theorem dL_law_1541 : Dc code 1541 (.iconst 3) 1 1542 := dc_of tkL_66 11 rfl rfl
theorem dL_law_1542 : Dc code 1542 (.iadd) 1 1543 := dc_of tkL_66 12 rfl rfl
theorem dL_law_1543 : Dc code 1543 (.iaload) 1 1544 := dc_of tkL_66 13 rfl rfl
theorem dL_law_1544 : Dc code 1544 (.invokevirtual 161) 3 1547 := dc_of tkL_66 14 rfl rfl
theorem dL_law_1547 : Dc code 1547 (.aload_n 2) 1 1548 := dc_of tkL_66 15 rfl rfl
def tbL_67 : List (Nat × Instr × Nat) := [(1548, .aload_n 0, 1), (1549, .iload_n 3, 1), (1550, .iconst 1, 1), (1551, .iadd, 1), (1552, .iaload, 1), (1553, .aload_n 0, 1), (1554, .iload_n 3, 1), (1555, .iconst 2, 1), (1556, .iadd, 1), (1557, .iaload, 1), (1558, .aload_n 0, 1), (1559, .iload_n 3, 1), (1560, .iconst 3, 1), (1561, .iadd, 1), (1562, .iaload, 1), (1563, .invokevirtual 164, 3)]
theorem tkL_67 : tbL_67.all (fun q => decide (decode code q.1 = .ok q.2)) = true := by decide +kernel
theorem dL_law_1548 : Dc code 1548 (.aload_n 0) 1 1549 := dc_of tkL_67 0 rfl rfl
theorem dL_law_1549 : Dc code 1549 (.iload_n 3) 1 1550 := dc_of tkL_67 1 rfl rfl
theorem dL_law_1550 : Dc code 1550 (.iconst 1) 1 1551 := dc_of tkL_67 2 rfl rfl
theorem dL_law_1551 : Dc code 1551 (.iadd) 1 1552 := dc_of tkL_67 3 rfl rfl
theorem dL_law_1552 : Dc code 1552 (.iaload) 1 1553 := dc_of tkL_67 4 rfl rfl
theorem dL_law_1553 : Dc code 1553 (.aload_n 0) 1 1554 := dc_of tkL_67 5 rfl rfl
theorem dL_law_1554 : Dc code 1554 (.iload_n 3) 1 1555 := dc_of tkL_67 6 rfl rfl
theorem dL_law_1555 : Dc code 1555 (.iconst 2) 1 1556 := dc_of tkL_67 7 rfl rfl
theorem dL_law_1556 : Dc code 1556 (.iadd) 1 1557 := dc_of tkL_67 8 rfl rfl
theorem dL_law_1557 : Dc code 1557 (.iaload) 1 1558 := dc_of tkL_67 9 rfl rfl
theorem dL_law_1558 : Dc code 1558 (.aload_n 0) 1 1559 := dc_of tkL_67 10 rfl rfl
theorem dL_law_1559 : Dc code 1559 (.iload_n 3) 1 1560 := dc_of tkL_67 11 rfl rfl
theorem dL_law_1560 : Dc code 1560 (.iconst 3) 1 1561 := dc_of tkL_67 12 rfl rfl
theorem dL_law_1561 : Dc code 1561 (.iadd) 1 1562 := dc_of tkL_67 13 rfl rfl
theorem dL_law_1562 : Dc code 1562 (.iaload) 1 1563 := dc_of tkL_67 14 rfl rfl
theorem dL_law_1563 : Dc code 1563 (.invokevirtual 164) 3 1566 := dc_of tkL_67 15 rfl rfl
def tbL_68 : List (Nat × Instr × Nat) := [(1566, .if_icmp .eq 668, 3), (1569, .iconst 0, 1), (1570, .ireturn, 1), (1571, .aload_n 1, 1), (1572, .aload_n 0, 1), (1573, .iload_n 3, 1), (1574, .iconst 1, 1), (1575, .iadd, 1), (1576, .iaload, 1), (1577, .aload_n 0, 1), (1578, .iload_n 3, 1), (1579, .iconst 2, 1), (1580, .iadd, 1), (1581, .iaload, 1), (1582, .invokevirtual 165, 3), (1585, .aload_n 2, 1)]
theorem tkL_68 : tbL_68.all (fun q => decide (decode code q.1 = .ok q.2)) = true := by decide +kernel
theorem dL_law_1566 : Dc code 1566 (.if_icmp .eq 668) 3 1569 := dc_of tkL_68 0 rfl rfl
theorem dL_law_1569 : Dc code 1569 (.iconst 0) 1 1570 := dc_of tkL_68 1 rfl rfl
theorem dL_law_1570 : Dc code 1570 (.ireturn) 1 1571 := dc_of tkL_68 2 rfl rfl
theorem dL_law_1571 : Dc code 1571 (.aload_n 1) 1 1572 := dc_of tkL_68 3 rfl rfl
theorem dL_law_1572 : Dc code 1572 (.aload_n 0) 1 1573 := dc_of tkL_68 4 rfl rfl
theorem dL_law_1573 : Dc code 1573 (.iload_n 3) 1 1574 := dc_of tkL_68 5 rfl rfl
theorem dL_law_1574 : Dc code 1574 (.iconst 1) 1 1575 := dc_of tkL_68 6 rfl rfl
theorem dL_law_1575 : Dc code 1575 (.iadd) 1 1576 := dc_of tkL_68 7 rfl rfl
theorem dL_law_1576 : Dc code 1576 (.iaload) 1 1577 := dc_of tkL_68 8 rfl rfl
theorem dL_law_1577 : Dc code 1577 (.aload_n 0) 1 1578 := dc_of tkL_68 9 rfl rfl
theorem dL_law_1578 : Dc code 1578 (.iload_n 3) 1 1579 := dc_of tkL_68 10 rfl rfl
theorem dL_law_1579 : Dc code 1579 (.iconst 2) 1 1580 := dc_of tkL_68 11 rfl rfl
theorem dL_law_1580 : Dc code 1580 (.iadd) 1 1581 := dc_of tkL_68 12 rfl rfl
theorem dL_law_1581 : Dc code 1581 (.iaload) 1 1582 := dc_of tkL_68 13 rfl rfl
theorem dL_law_1582 : Dc code 1582 (.invokevirtual 165) 3 1585 := dc_of tkL_68 14 rfl rfl
theorem dL_law_1585 : Dc code 1585 (.aload_n 2) 1 1586 := dc_of tkL_68 15 rfl rfl
def tbL_69 : List (Nat × Instr × Nat) := [(1586, .aload_n 0, 1), (1587, .iload_n 3, 1), (1588, .iconst 1, 1), (1589, .iadd, 1), (1590, .iaload, 1), (1591, .aload_n 0, 1), (1592, .iload_n 3, 1), (1593, .iconst 2, 1), (1594, .iadd, 1), (1595, .iaload, 1), (1596, .invokevirtual 168, 3), (1599, .if_icmp .eq 635, 3), (1602, .iconst 0, 1), (1603, .ireturn, 1), (1604, .aload_n 1, 1), (1605, .aload_n 0, 1)]
theorem tkL_69 : tbL_69.all (fun q => decide (decode code q.1 = .ok q.2)) = true := by decide +kernel
theorem dL_law_1586 : Dc code 1586 (.aload_n 0) 1 1587 := dc_of tkL_69 0 rfl rfl
theorem dL_law_1587 : Dc code 1587 (.iload_n 3) 1 1588 := dc_of tkL_69 1 rfl rfl
theorem dL_law_1588 : Dc code 1588 (.iconst 1) 1 1589 := dc_of tkL_69 2 rfl rfl
theorem dL_law_1589 : Dc code 1589 (.iadd) 1 1590 := dc_of tkL_69 3 rfl rfl
theorem dL_law_1590 : Dc code 1590 (.iaload) 1 1591 := dc_of tkL_69 4 rfl rfl
theorem dL_law_1591 : Dc code 1591 (.aload_n 0) 1 1592 := dc_of tkL_69 5 rfl rfl
theorem dL_law_1592 : Dc code 1592 (.iload_n 3) 1 1593 := dc_of tkL_69 6 rfl rfl
theorem dL_law_1593 : Dc code 1593 (.iconst 2) 1 1594 := dc_of tkL_69 7 rfl rfl
theorem dL_law_1594 : Dc code 1594 (.iadd) 1 1595 := dc_of tkL_69 8 rfl rfl
theorem dL_law_1595 : Dc code 1595 (.iaload) 1 1596 := dc_of tkL_69 9 rfl rfl
theorem dL_law_1596 : Dc code 1596 (.invokevirtual 168) 3 1599 := dc_of tkL_69 10 rfl rfl
theorem dL_law_1599 : Dc code 1599 (.if_icmp .eq 635) 3 1602 := dc_of tkL_69 11 rfl rfl
theorem dL_law_1602 : Dc code 1602 (.iconst 0) 1 1603 := dc_of tkL_69 12 rfl rfl
theorem dL_law_1603 : Dc code 1603 (.ireturn) 1 1604 := dc_of tkL_69 13 rfl rfl
theorem dL_law_1604 : Dc code 1604 (.aload_n 1) 1 1605 := dc_of tkL_69 14 rfl rfl
theorem dL_law_1605 : Dc code 1605 (.aload_n 0) 1 1606 := dc_of tkL_69 15 rfl rfl
def tbL_70 : List (Nat × Instr × Nat) := [(1606, .iload_n 3, 1), (1607, .iconst 1, 1), (1608, .iadd, 1), (1609, .iaload, 1), (1610, .invokevirtual 169, 3), (1613, .aload_n 2, 1), (1614, .aload_n 0, 1), (1615, .iload_n 3, 1), (1616, .iconst 1, 1), (1617, .iadd, 1), (1618, .iaload, 1), (1619, .invokevirtual 172, 3), (1622, .if_icmp .eq 612, 3), (1625, .iconst 0, 1), (1626, .ireturn, 1), (1627, .aload_n 1, 1)]
theorem tkL_70 : tbL_70.all (fun q => decide (decode code q.1 = .ok q.2)) = true := by decide +kernel
theorem dL_law_1606 : Dc code 1606 (.iload_n 3) 1 1607 := dc_of tkL_70 0 rfl rfl
theorem dL_law_1607 : Dc code 1607 (.iconst 1) 1 1608 := dc_of tkL_70 1 rfl rfl
theorem dL_law_1608 : Dc code 1608 (.iadd) 1 1609 := dc_of tkL_70 2 rfl rfl
theorem dL_law_1609 : Dc code 1609 (.iaload) 1 1610 := dc_of tkL_70 3 rfl rfl
theorem dL_law_1610 : Dc code 1610 (.invokevirtual 169) 3 1613 := dc_of tkL_70 4 rfl rfl
theorem dL_law_1613 : Dc code 1613 (.aload_n 2) 1 1614 := dc_of tkL_70 5 rfl rfl
theorem dL_law_1614 : Dc code 1614 (.aload_n 0) 1 1615 := dc_of tkL_70 6 rfl rfl
theorem dL_law_1615 : Dc code 1615 (.iload_n 3) 1 1616 := dc_of tkL_70 7 rfl rfl
theorem dL_law_1616 : Dc code 1616 (.iconst 1) 1 1617 := dc_of tkL_70 8 rfl rfl
theorem dL_law_1617 : Dc code 1617 (.iadd) 1 1618 := dc_of tkL_70 9 rfl rfl
theorem dL_law_1618 : Dc code 1618 (.iaload) 1 1619 := dc_of tkL_70 10 rfl rfl
theorem dL_law_1619 : Dc code 1619 (.invokevirtual 172) 3 1622 := dc_of tkL_70 11 rfl rfl
theorem dL_law_1622 : Dc code 1622 (.if_icmp .eq 612) 3 1625 := dc_of tkL_70 12 rfl rfl
theorem dL_law_1625 : Dc code 1625 (.iconst 0) 1 1626 := dc_of tkL_70 13 rfl rfl
theorem dL_law_1626 : Dc code 1626 (.ireturn) 1 1627 := dc_of tkL_70 14 rfl rfl
theorem dL_law_1627 : Dc code 1627 (.aload_n 1) 1 1628 := dc_of tkL_70 15 rfl rfl
def tbL_71 : List (Nat × Instr × Nat) := [(1628, .aload_n 0, 1), (1629, .iload_n 3, 1), (1630, .iconst 1, 1), (1631, .iadd, 1), (1632, .iaload, 1), (1633, .aload_n 0, 1), (1634, .iload_n 3, 1), (1635, .iconst 2, 1), (1636, .iadd, 1), (1637, .iaload, 1), (1638, .aload_n 0, 1), (1639, .iload_n 3, 1), (1640, .iconst 3, 1), (1641, .iadd, 1), (1642, .iaload, 1), (1643, .invokevirtual 173, 3)]
theorem tkL_71 : tbL_71.all (fun q => decide (decode code q.1 = .ok q.2)) = true := by decide +kernel
theorem dL_law_1628 : Dc code 1628 (.aload_n 0) 1 1629 := dc_of tkL_71 0 rfl rfl
theorem dL_law_1629 : Dc code 1629 (.iload_n 3) 1 1630 := dc_of tkL_71 1 rfl rfl
theorem dL_law_1630 : Dc code 1630 (.iconst 1) 1 1631 := dc_of tkL_71 2 rfl rfl
theorem dL_law_1631 : Dc code 1631 (.iadd) 1 1632 := dc_of tkL_71 3 rfl rfl
theorem dL_law_1632 : Dc code 1632 (.iaload) 1 1633 := dc_of tkL_71 4 rfl rfl
theorem dL_law_1633 : Dc code 1633 (.aload_n 0) 1 1634 := dc_of tkL_71 5 rfl rfl
theorem dL_law_1634 : Dc code 1634 (.iload_n 3) 1 1635 := dc_of tkL_71 6 rfl rfl
theorem dL_law_1635 : Dc code 1635 (.iconst 2) 1 1636 := dc_of tkL_71 7 rfl rfl
theorem dL_law_1636 : Dc code 1636 (.iadd) 1 1637 := dc_of tkL_71 8 rfl rfl
theorem dL_law_1637 : Dc code 1637 (.iaload) 1 1638 := dc_of tkL_71 9 rfl rfl
theorem dL_law_1638 : Dc code 1638 (.aload_n 0) 1 1639 := dc_of tkL_71 10 rfl rfl
theorem dL_law_1639 : Dc code 1639 (.iload_n 3) 1 1640 := dc_of tkL_71 11 rfl rfl
theorem dL_law_1640 : Dc code 1640 (.iconst 3) 1 1641 := dc_of tkL_71 12 rfl rfl
theorem dL_law_1641 : Dc code 1641 (.iadd) 1 1642 := dc_of tkL_71 13 rfl rfl
theorem dL_law_1642 : Dc code 1642 (.iaload) 1 1643 := dc_of tkL_71 14 rfl rfl
theorem dL_law_1643 : Dc code 1643 (.invokevirtual 173) 3 1646 := dc_of tkL_71 15 rfl rfl
def tbL_72 : List (Nat × Instr × Nat) := [(1646, .aload_n 2, 1), (1647, .aload_n 0, 1), (1648, .iload_n 3, 1), (1649, .iconst 1, 1), (1650, .iadd, 1), (1651, .iaload, 1), (1652, .aload_n 0, 1), (1653, .iload_n 3, 1), (1654, .iconst 2, 1), (1655, .iadd, 1), (1656, .iaload, 1), (1657, .aload_n 0, 1), (1658, .iload_n 3, 1), (1659, .iconst 3, 1), (1660, .iadd, 1), (1661, .iaload, 1)]
theorem tkL_72 : tbL_72.all (fun q => decide (decode code q.1 = .ok q.2)) = true := by decide +kernel
theorem dL_law_1646 : Dc code 1646 (.aload_n 2) 1 1647 := dc_of tkL_72 0 rfl rfl
theorem dL_law_1647 : Dc code 1647 (.aload_n 0) 1 1648 := dc_of tkL_72 1 rfl rfl
theorem dL_law_1648 : Dc code 1648 (.iload_n 3) 1 1649 := dc_of tkL_72 2 rfl rfl
theorem dL_law_1649 : Dc code 1649 (.iconst 1) 1 1650 := dc_of tkL_72 3 rfl rfl
theorem dL_law_1650 : Dc code 1650 (.iadd) 1 1651 := dc_of tkL_72 4 rfl rfl
theorem dL_law_1651 : Dc code 1651 (.iaload) 1 1652 := dc_of tkL_72 5 rfl rfl
theorem dL_law_1652 : Dc code 1652 (.aload_n 0) 1 1653 := dc_of tkL_72 6 rfl rfl
theorem dL_law_1653 : Dc code 1653 (.iload_n 3) 1 1654 := dc_of tkL_72 7 rfl rfl
theorem dL_law_1654 : Dc code 1654 (.iconst 2) 1 1655 := dc_of tkL_72 8 rfl rfl
theorem dL_law_1655 : Dc code 1655 (.iadd) 1 1656 := dc_of tkL_72 9 rfl rfl
theorem dL_law_1656 : Dc code 1656 (.iaload) 1 1657 := dc_of tkL_72 10 rfl rfl
theorem dL_law_1657 : Dc code 1657 (.aload_n 0) 1 1658 := dc_of tkL_72 11 rfl rfl
theorem dL_law_1658 : Dc code 1658 (.iload_n 3) 1 1659 := dc_of tkL_72 12 rfl rfl
theorem dL_law_1659 : Dc code 1659 (.iconst 3) 1 1660 := dc_of tkL_72 13 rfl rfl
theorem dL_law_1660 : Dc code 1660 (.iadd) 1 1661 := dc_of tkL_72 14 rfl rfl
theorem dL_law_1661 : Dc code 1661 (.iaload) 1 1662 := dc_of tkL_72 15 rfl rfl
def tbL_73 : List (Nat × Instr × Nat) := [(1662, .invokevirtual 176, 3), (1665, .if_icmp .eq 569, 3), (1668, .iconst 0, 1), (1669, .ireturn, 1), (1670, .aload_n 1, 1), (1671, .aload_n 0, 1), (1672, .iload_n 3, 1), (1673, .iconst 1, 1), (1674, .iadd, 1), (1675, .iaload, 1), (1676, .aload_n 0, 1), (1677, .iload_n 3, 1), (1678, .iconst 2, 1), (1679, .iadd, 1), (1680, .iaload, 1), (1681, .aload_n 0, 1)]
theorem tkL_73 : tbL_73.all (fun q => decide (decode code q.1 = .ok q.2)) = true := by decide +kernel
theorem dL_law_1662 : Dc code 1662 (.invokevirtual 176) 3 1665 := dc_of tkL_73 0 rfl rfl
theorem dL_law_1665 : Dc code 1665 (.if_icmp .eq 569) 3 1668 := dc_of tkL_73 1 rfl rfl
theorem dL_law_1668 : Dc code 1668 (.iconst 0) 1 1669 := dc_of tkL_73 2 rfl rfl
theorem dL_law_1669 : Dc code 1669 (.ireturn) 1 1670 := dc_of tkL_73 3 rfl rfl
theorem dL_law_1670 : Dc code 1670 (.aload_n 1) 1 1671 := dc_of tkL_73 4 rfl rfl
theorem dL_law_1671 : Dc code 1671 (.aload_n 0) 1 1672 := dc_of tkL_73 5 rfl rfl
theorem dL_law_1672 : Dc code 1672 (.iload_n 3) 1 1673 := dc_of tkL_73 6 rfl rfl
theorem dL_law_1673 : Dc code 1673 (.iconst 1) 1 1674 := dc_of tkL_73 7 rfl rfl
theorem dL_law_1674 : Dc code 1674 (.iadd) 1 1675 := dc_of tkL_73 8 rfl rfl
theorem dL_law_1675 : Dc code 1675 (.iaload) 1 1676 := dc_of tkL_73 9 rfl rfl
theorem dL_law_1676 : Dc code 1676 (.aload_n 0) 1 1677 := dc_of tkL_73 10 rfl rfl
theorem dL_law_1677 : Dc code 1677 (.iload_n 3) 1 1678 := dc_of tkL_73 11 rfl rfl
theorem dL_law_1678 : Dc code 1678 (.iconst 2) 1 1679 := dc_of tkL_73 12 rfl rfl
theorem dL_law_1679 : Dc code 1679 (.iadd) 1 1680 := dc_of tkL_73 13 rfl rfl
theorem dL_law_1680 : Dc code 1680 (.iaload) 1 1681 := dc_of tkL_73 14 rfl rfl
theorem dL_law_1681 : Dc code 1681 (.aload_n 0) 1 1682 := dc_of tkL_73 15 rfl rfl
def tbL_74 : List (Nat × Instr × Nat) := [(1682, .iload_n 3, 1), (1683, .iconst 3, 1), (1684, .iadd, 1), (1685, .iaload, 1), (1686, .invokevirtual 177, 3), (1689, .aload_n 2, 1), (1690, .aload_n 0, 1), (1691, .iload_n 3, 1), (1692, .iconst 1, 1), (1693, .iadd, 1), (1694, .iaload, 1), (1695, .aload_n 0, 1), (1696, .iload_n 3, 1), (1697, .iconst 2, 1), (1698, .iadd, 1), (1699, .iaload, 1)]
theorem tkL_74 : tbL_74.all (fun q => decide (decode code q.1 = .ok q.2)) = true := by decide +kernel
theorem dL_law_1682 : Dc code 1682 (.iload_n 3) 1 1683 := dc_of tkL_74 0 rfl rfl
theorem dL_law_1683 : Dc code 1683 (.iconst 3) 1 1684 := dc_of tkL_74 1 rfl rfl
theorem dL_law_1684 : Dc code 1684 (.iadd) 1 1685 := dc_of tkL_74 2 rfl rfl
theorem dL_law_1685 : Dc code 1685 (.iaload) 1 1686 := dc_of tkL_74 3 rfl rfl
theorem dL_law_1686 : Dc code 1686 (.invokevirtual 177) 3 1689 := dc_of tkL_74 4 rfl rfl
theorem dL_law_1689 : Dc code 1689 (.aload_n 2) 1 1690 := dc_of tkL_74 5 rfl rfl
theorem dL_law_1690 : Dc code 1690 (.aload_n 0) 1 1691 := dc_of tkL_74 6 rfl rfl
theorem dL_law_1691 : Dc code 1691 (.iload_n 3) 1 1692 := dc_of tkL_74 7 rfl rfl
theorem dL_law_1692 : Dc code 1692 (.iconst 1) 1 1693 := dc_of tkL_74 8 rfl rfl
theorem dL_law_1693 : Dc code 1693 (.iadd) 1 1694 := dc_of tkL_74 9 rfl rfl
theorem dL_law_1694 : Dc code 1694 (.iaload) 1 1695 := dc_of tkL_74 10 rfl rfl
theorem dL_law_1695 : Dc code 1695 (.aload_n 0) 1 1696 := dc_of tkL_74 11 rfl rfl
theorem dL_law_1696 : Dc code 1696 (.iload_n 3) 1 1697 := dc_of tkL_74 12 rfl rfl
theorem dL_law_1697 : Dc code 1697 (.iconst 2) 1 1698 := dc_of tkL_74 13 rfl rfl
theorem dL_law_1698 : Dc code 1698 (.iadd) 1 1699 := dc_of tkL_74 14 rfl rfl
theorem dL_law_1699 : Dc code 1699 (.iaload) 1 1700 := dc_of tkL_74 15 rfl rfl
def tbL_75 : List (Nat × Instr × Nat) := [(1700, .aload_n 0, 1), (1701, .iload_n 3, 1), (1702, .iconst 3, 1), (1703, .iadd, 1), (1704, .iaload, 1), (1705, .invokevirtual 180, 3), (1708, .if_icmp .eq 526, 3), (1711, .iconst 0, 1), (1712, .ireturn, 1), (1713, .aload_n 1, 1), (1714, .aload_n 0, 1), (1715, .iload_n 3, 1), (1716, .iconst 1, 1), (1717, .iadd, 1), (1718, .iaload, 1), (1719, .aload_n 0, 1)]
theorem tkL_75 : tbL_75.all (fun q => decide (decode code q.1 = .ok q.2)) = true := by decide +kernel
theorem dL_law_1700 : Dc code 1700 (.aload_n 0) 1 1701 := dc_of tkL_75 0 rfl rfl
theorem dL_law_1701 : Dc code 1701 (.iload_n 3) 1 1702 := dc_of tkL_75 1 rfl rfl
theorem dL_law_1702 : Dc code 1702 (.iconst 3) 1 1703 := dc_of tkL_75 2 rfl rfl
theorem dL_law_1703 : Dc code 1703 (.iadd) 1 1704 := dc_of tkL_75 3 rfl rfl
theorem dL_law_1704 : Dc code 1704 (.iaload) 1 1705 := dc_of tkL_75 4 rfl rfl
theorem dL_law_1705 : Dc code 1705 (.invokevirtual 180) 3 1708 := dc_of tkL_75 5 rfl rfl
theorem dL_law_1708 : Dc code 1708 (.if_icmp .eq 526) 3 1711 := dc_of tkL_75 6 rfl rfl
theorem dL_law_1711 : Dc code 1711 (.iconst 0) 1 1712 := dc_of tkL_75 7 rfl rfl
theorem dL_law_1712 : Dc code 1712 (.ireturn) 1 1713 := dc_of tkL_75 8 rfl rfl
theorem dL_law_1713 : Dc code 1713 (.aload_n 1) 1 1714 := dc_of tkL_75 9 rfl rfl
theorem dL_law_1714 : Dc code 1714 (.aload_n 0) 1 1715 := dc_of tkL_75 10 rfl rfl
theorem dL_law_1715 : Dc code 1715 (.iload_n 3) 1 1716 := dc_of tkL_75 11 rfl rfl
theorem dL_law_1716 : Dc code 1716 (.iconst 1) 1 1717 := dc_of tkL_75 12 rfl rfl
theorem dL_law_1717 : Dc code 1717 (.iadd) 1 1718 := dc_of tkL_75 13 rfl rfl
theorem dL_law_1718 : Dc code 1718 (.iaload) 1 1719 := dc_of tkL_75 14 rfl rfl
theorem dL_law_1719 : Dc code 1719 (.aload_n 0) 1 1720 := dc_of tkL_75 15 rfl rfl
def tbL_76 : List (Nat × Instr × Nat) := [(1720, .iload_n 3, 1), (1721, .iconst 2, 1), (1722, .iadd, 1), (1723, .iaload, 1), (1724, .invokevirtual 181, 3), (1727, .aload_n 2, 1), (1728, .aload_n 0, 1), (1729, .iload_n 3, 1), (1730, .iconst 1, 1), (1731, .iadd, 1), (1732, .iaload, 1), (1733, .aload_n 0, 1), (1734, .iload_n 3, 1), (1735, .iconst 2, 1), (1736, .iadd, 1), (1737, .iaload, 1)]
theorem tkL_76 : tbL_76.all (fun q => decide (decode code q.1 = .ok q.2)) = true := by decide +kernel
theorem dL_law_1720 : Dc code 1720 (.iload_n 3) 1 1721 := dc_of tkL_76 0 rfl rfl
theorem dL_law_1721 : Dc code 1721 (.iconst 2) 1 1722 := dc_of tkL_76 1 rfl rfl
theorem dL_law_1722 : Dc code 1722 (.iadd) 1 1723 := dc_of tkL_76 2 rfl rfl
theorem dL_law_1723 : Dc code 1723 (.iaload) 1 1724 := dc_of tkL_76 3 rfl rfl
theorem dL_law_1724 : Dc code 1724 (.invokevirtual 181) 3 1727 := dc_of tkL_76 4 rfl rfl
theorem dL_law_1727 : Dc code 1727 (.aload_n 2) 1 1728 := dc_of tkL_76 5 rfl rfl
theorem dL_law_1728 : Dc code 1728 (.aload_n 0) 1 1729 := dc_of tkL_76 6 rfl rfl
theorem dL_law_1729 : Dc code 1729 (.iload_n 3) 1 1730 := dc_of tkL_76 7 rfl rfl
theorem dL_law_1730 : Dc code 1730 (.iconst 1) 1 1731 := dc_of tkL_76 8 rfl rfl
theorem dL_law_1731 : Dc code 1731 (.iadd) 1 1732 := dc_of tkL_76 9 rfl rfl
theorem dL_law_1732 : Dc code 1732 (.iaload) 1 1733 := dc_of tkL_76 10 rfl rfl
theorem dL_law_1733 : Dc code 1733 (.aload_n 0) 1 1734 := dc_of tkL_76 11 rfl rfl
theorem dL_law_1734 : Dc code 1734 (.iload_n 3) 1 1735 := dc_of tkL_76 12 rfl rfl
theorem dL_law_1735 : Dc code 1735 (.iconst 2) 1 1736 := dc_of tkL_76 13 rfl rfl
theorem dL_law_1736 : Dc code 1736 (.iadd) 1 1737 := dc_of tkL_76 14 rfl rfl
theorem dL_law_1737 : Dc code 1737 (.iaload) 1 1738 := dc_of tkL_76 15 rfl rfl
def tbL_77 : List (Nat × Instr × Nat) := [(1738, .invokevirtual 184, 3), (1741, .if_icmp .eq 493, 3), (1744, .iconst 0, 1), (1745, .ireturn, 1), (1746, .aload_n 1, 1), (1747, .aload_n 0, 1), (1748, .iload_n 3, 1), (1749, .iconst 1, 1), (1750, .iadd, 1), (1751, .iaload, 1), (1752, .aload_n 0, 1), (1753, .iload_n 3, 1), (1754, .iconst 2, 1), (1755, .iadd, 1), (1756, .iaload, 1), (1757, .aload_n 0, 1)]
theorem tkL_77 : tbL_77.all (fun q => decide (decode code q.1 = .ok q.2)) = true := by decide +kernel
theorem dL_law_1738 : Dc code 1738 (.invokevirtual 184) 3 1741 := dc_of tkL_77 0 rfl rfl
theorem dL_law_1741 : Dc code 1741 (.if_icmp .eq 493) 3 1744 := dc_of tkL_77 1 rfl rfl
theorem dL_law_1744 : Dc code 1744 (.iconst 0) 1 1745 := dc_of tkL_77 2 rfl rfl
theorem dL_law_1745 : Dc code 1745 (.ireturn) 1 1746 := dc_of tkL_77 3 rfl rfl
theorem dL_law_1746 : Dc code 1746 (.aload_n 1) 1 1747 := dc_of tkL_77 4 rfl rfl
theorem dL_law_1747 : Dc code 1747 (.aload_n 0) 1 1748 := dc_of tkL_77 5 rfl rfl
theorem dL_law_1748 : Dc code 1748 (.iload_n 3) 1 1749 := dc_of tkL_77 6 rfl rfl
theorem dL_law_1749 : Dc code 1749 (.iconst 1) 1 1750 := dc_of tkL_77 7 rfl rfl
theorem dL_law_1750 : Dc code 1750 (.iadd) 1 1751 := dc_of tkL_77 8 rfl rfl
theorem dL_law_1751 : Dc code 1751 (.iaload) 1 1752 := dc_of tkL_77 9 rfl rfl
theorem dL_law_1752 : Dc code 1752 (.aload_n 0) 1 1753 := dc_of tkL_77 10 rfl rfl
theorem dL_law_1753 : Dc code 1753 (.iload_n 3) 1 1754 := dc_of tkL_77 11 rfl rfl
theorem dL_law_1754 : Dc code 1754 (.iconst 2) 1 1755 := dc_of tkL_77 12 rfl rfl
theorem dL_law_1755 : Dc code 1755 (.iadd) 1 1756 := dc_of tkL_77 13 rfl rfl
theorem dL_law_1756 : Dc code 1756 (.iaload) 1 1757 := dc_of tkL_77 14 rfl rfl
theorem dL_law_1757 : Dc code 1757 (.aload_n 0) 1 1758 := dc_of tkL_77 15 rfl rfl
def tbL_78 : List (Nat × Instr × Nat) := [(1758, .iload_n 3, 1), (1759, .iconst 3, 1), (1760, .iadd, 1), (1761, .iaload, 1), (1762, .aload_n 0, 1), (1763, .iload_n 3, 1), (1764, .iconst 4, 1), (1765, .iadd, 1), (1766, .iaload, 1), (1767, .aload_n 0, 1), (1768, .iload_n 3, 1), (1769, .iconst 5, 1), (1770, .iadd, 1), (1771, .iaload, 1), (1772, .invokevirtual 185, 3), (1775, .aload_n 2, 1)]
theorem tkL_78 : tbL_78.all (fun q => decide (decode code q.1 = .ok q.2)) = true := by decide +kernel
theorem dL_law_1758 : Dc code 1758 (.iload_n 3) 1 1759 := dc_of tkL_78 0 rfl rfl
theorem dL_law_1759 : Dc code 1759 (.iconst 3) 1 1760 := dc_of tkL_78 1 rfl rfl
theorem dL_law_1760 : Dc code 1760 (.iadd) 1 1761 := dc_of tkL_78 2 rfl rfl
theorem dL_law_1761 : Dc code 1761 (.iaload) 1 1762 := dc_of tkL_78 3 rfl rfl
theorem dL_law_1762 : Dc code 1762 (.aload_n 0) 1 1763 := dc_of tkL_78 4 rfl rfl
theorem dL_law_1763 : Dc code 1763 (.iload_n 3) 1 1764 := dc_of tkL_78 5 rfl rfl
theorem dL_law_1764 : Dc code 1764 (.iconst 4) 1 1765 := dc_of tkL_78 6 rfl rfl
theorem dL_law_1765 : Dc code 1765 (.iadd) 1 1766 := dc_of tkL_78 7 rfl rfl
theorem dL_law_1766 : Dc code 1766 (.iaload) 1 1767 := dc_of tkL_78 8 rfl rfl
theorem dL_law_1767 : Dc code 1767 (.aload_n 0) 1 1768 := dc_of tkL_78 9 rfl rfl
theorem dL_law_1768 : Dc code 1768 (.iload_n 3) 1 1769 := dc_of tkL_78 10 rfl rfl
theorem dL_law_1769 : Dc code 1769 (.iconst 5) 1 1770 := dc_of tkL_78 11 rfl rfl
theorem dL_law_1770 : Dc code 1770 (.iadd) 1 1771 := dc_of tkL_78 12 rfl rfl
theorem dL_law_1771 : Dc code 1771 (.iaload) 1 1772 := dc_of tkL_78 13 rfl rfl
theorem dL_law_1772 : Dc code 1772 (.invokevirtual 185) 3 1775 := dc_of tkL_78 14 rfl rfl
theorem dL_law_1775 : Dc code 1775 (.aload_n 2) 1 1776 := dc_of tkL_78 15 rfl rfl
def tbL_79 : List (Nat × Instr × Nat) := [(1776, .aload_n 0, 1), (1777, .iload_n 3, 1), (1778, .iconst 1, 1), (1779, .iadd, 1), (1780, .iaload, 1), (1781, .aload_n 0, 1), (1782, .iload_n 3, 1), (1783, .iconst 2, 1), (1784, .iadd, 1), (1785, .iaload, 1), (1786, .aload_n 0, 1), (1787, .iload_n 3, 1), (1788, .iconst 3, 1), (1789, .iadd, 1), (1790, .iaload, 1), (1791, .aload_n 0, 1)]
theorem tkL_79 : tbL_79.all (fun q => decide (decode code q.1 = .ok q.2)) = true := by decide +kernel
theorem dL_law_1776 : Dc code 1776 (.aload_n 0) 1 1777 := dc_of tkL_79 0 rfl rfl
theorem dL_law_1777 : Dc code 1777 (.iload_n 3) 1 1778 := dc_of tkL_79 1 rfl rfl
theorem dL_law_1778 : Dc code 1778 (.iconst 1) 1 1779 := dc_of tkL_79 2 rfl rfl
theorem dL_law_1779 : Dc code 1779 (.iadd) 1 1780 := dc_of tkL_79 3 rfl rfl
theorem dL_law_1780 : Dc code 1780 (.iaload) 1 1781 := dc_of tkL_79 4 rfl rfl
theorem dL_law_1781 : Dc code 1781 (.aload_n 0) 1 1782 := dc_of tkL_79 5 rfl rfl
theorem dL_law_1782 : Dc code 1782 (.iload_n 3) 1 1783 := dc_of tkL_79 6 rfl rfl
theorem dL_law_1783 : Dc code 1783 (.iconst 2) 1 1784 := dc_of tkL_79 7 rfl rfl
theorem dL_law_1784 : Dc code 1784 (.iadd) 1 1785 := dc_of tkL_79 8 rfl rfl
theorem dL_law_1785 : Dc code 1785 (.iaload) 1 1786 := dc_of tkL_79 9 rfl rfl
theorem dL_law_1786 : Dc code 1786 (.aload_n 0) 1 1787 := dc_of tkL_79 10 rfl rfl
theorem dL_law_1787 : Dc code 1787 (.iload_n 3) 1 1788 := dc_of tkL_79 11 rfl rfl
theorem dL_law_1788 : Dc code 1788 (.iconst 3) 1 1789 := dc_of tkL_79 12 rfl rfl
theorem dL_law_1789 : Dc code 1789 (.iadd) 1 1790 := dc_of tkL_79 13 rfl rfl
theorem dL_law_1790 : Dc code 1790 (.iaload) 1 1791 := dc_of tkL_79 14 rfl rfl
theorem dL_law_1791 : Dc code 1791 (.aload_n 0) 1 1792 := dc_of tkL_79 15 rfl rfl
def tbL_80 : List (Nat × Instr × Nat) := [(1792, .iload_n 3, 1), (1793, .iconst 4, 1), (1794, .iadd, 1), (1795, .iaload, 1), (1796, .aload_n 0, 1), (1797, .iload_n 3, 1), (1798, .iconst 5, 1), (1799, .iadd, 1), (1800, .iaload, 1), (1801, .invokevirtual 189, 3), (1804, .if_icmp .eq 430, 3), (1807, .iconst 0, 1), (1808, .ireturn, 1), (1809, .aload_n 1, 1), (1810, .aload_n 0, 1), (1811, .iload_n 3, 1)]
theorem tkL_80 : tbL_80.all (fun q => decide (decode code q.1 = .ok q.2)) = true := by decide +kernel
theorem dL_law_1792 : Dc code 1792 (.iload_n 3) 1 1793 := dc_of tkL_80 0 rfl rfl
theorem dL_law_1793 : Dc code 1793 (.iconst 4) 1 1794 := dc_of tkL_80 1 rfl rfl
theorem dL_law_1794 : Dc code 1794 (.iadd) 1 1795 := dc_of tkL_80 2 rfl rfl
theorem dL_law_1795 : Dc code 1795 (.iaload) 1 1796 := dc_of tkL_80 3 rfl rfl
theorem dL_law_1796 : Dc code 1796 (.aload_n 0) 1 1797 := dc_of tkL_80 4 rfl rfl
theorem dL_law_1797 : Dc code 1797 (.iload_n 3) 1 1798 := dc_of tkL_80 5 rfl rfl
theorem dL_law_1798 : Dc code 1798 (.iconst 5) 1 1799 := dc_of tkL_80 6 rfl rfl
theorem dL_law_1799 : Dc code 1799 (.iadd) 1 1800 := dc_of tkL_80 7 rfl rfl
theorem dL_law_1800 : Dc code 1800 (.iaload) 1 1801 := dc_of tkL_80 8 rfl rfl
theorem dL_law_1801 : Dc code 1801 (.invokevirtual 189) 3 1804 := dc_of tkL_80 9 rfl rfl
theorem dL_law_1804 : Dc code 1804 (.if_icmp .eq 430) 3 1807 := dc_of tkL_80 10 rfl rfl
theorem dL_law_1807 : Dc code 1807 (.iconst 0) 1 1808 := dc_of tkL_80 11 rfl rfl
theorem dL_law_1808 : Dc code 1808 (.ireturn) 1 1809 := dc_of tkL_80 12 rfl rfl
theorem dL_law_1809 : Dc code 1809 (.aload_n 1) 1 1810 := dc_of tkL_80 13 rfl rfl
theorem dL_law_1810 : Dc code 1810 (.aload_n 0) 1 1811 := dc_of tkL_80 14 rfl rfl
theorem dL_law_1811 : Dc code 1811 (.iload_n 3) 1 1812 := dc_of tkL_80 15 rfl rfl
def tbL_81 : List (Nat × Instr × Nat) := [(1812, .iconst 1, 1), (1813, .iadd, 1), (1814, .iaload, 1), (1815, .aload_n 0, 1), (1816, .iload_n 3, 1), (1817, .iconst 2, 1), (1818, .iadd, 1), (1819, .iaload, 1), (1820, .invokevirtual 190, 3), (1823, .aload_n 2, 1), (1824, .aload_n 0, 1), (1825, .iload_n 3, 1), (1826, .iconst 1, 1), (1827, .iadd, 1), (1828, .iaload, 1), (1829, .aload_n 0, 1)]
theorem tkL_81 : tbL_81.all (fun q => decide (decode code q.1 = .ok q.2)) = true := by decide +kernel
theorem dL_law_1812 : Dc code 1812 (.iconst 1) 1 1813 := dc_of tkL_81 0 rfl rfl
theorem dL_law_1813 : Dc code 1813 (.iadd) 1 1814 := dc_of tkL_81 1 rfl rfl
theorem dL_law_1814 : Dc code 1814 (.iaload) 1 1815 := dc_of tkL_81 2 rfl rfl
theorem dL_law_1815 : Dc code 1815 (.aload_n 0) 1 1816 := dc_of tkL_81 3 rfl rfl
theorem dL_law_1816 : Dc code 1816 (.iload_n 3) 1 1817 := dc_of tkL_81 4 rfl rfl
theorem dL_law_1817 : Dc code 1817 (.iconst 2) 1 1818 := dc_of tkL_81 5 rfl rfl
theorem dL_law_1818 : Dc code 1818 (.iadd) 1 1819 := dc_of tkL_81 6 rfl rfl
theorem dL_law_1819 : Dc code 1819 (.iaload) 1 1820 := dc_of tkL_81 7 rfl rfl
theorem dL_law_1820 : Dc code 1820 (.invokevirtual 190) 3 1823 := dc_of tkL_81 8 rfl rfl
theorem dL_law_1823 : Dc code 1823 (.aload_n 2) 1 1824 := dc_of tkL_81 9 rfl rfl
theorem dL_law_1824 : Dc code 1824 (.aload_n 0) 1 1825 := dc_of tkL_81 10 rfl rfl
theorem dL_law_1825 : Dc code 1825 (.iload_n 3) 1 1826 := dc_of tkL_81 11 rfl rfl
theorem dL_law_1826 : Dc code 1826 (.iconst 1) 1 1827 := dc_of tkL_81 12 rfl rfl
theorem dL_law_1827 : Dc code 1827 (.iadd) 1 1828 := dc_of tkL_81 13 rfl rfl
theorem dL_law_1828 : Dc code 1828 (.iaload) 1 1829 := dc_of tkL_81 14 rfl rfl
theorem dL_law_1829 : Dc code 1829 (.aload_n 0) 1 1830 := dc_of tkL_81 15 rfl rfl
def tbL_82 : List (Nat × Instr × Nat) := [(1830, .iload_n 3, 1), (1831, .iconst 2, 1), (1832, .iadd, 1), (1833, .iaload, 1), (1834, .invokevirtual 193, 3), (1837, .if_icmp .eq 397, 3), (1840, .iconst 0, 1), (1841, .ireturn, 1), (1842, .aload_n 1, 1), (1843, .aload_n 0, 1), (1844, .iload_n 3, 1), (1845, .iconst 1, 1), (1846, .iadd, 1), (1847, .iaload, 1), (1848, .invokevirtual 194, 3), (1851, .aload_n 2, 1)]
theorem tkL_82 : tbL_82.all (fun q => decide (decode code q.1 = .ok q.2)) = true := by decide +kernel
theorem dL_law_1830 : Dc code 1830 (.iload_n 3) 1 1831 := dc_of tkL_82 0 rfl rfl
theorem dL_law_1831 : Dc code 1831 (.iconst 2) 1 1832 := dc_of tkL_82 1 rfl rfl
theorem dL_law_1832 : Dc code 1832 (.iadd) 1 1833 := dc_of tkL_82 2 rfl rfl
theorem dL_law_1833 : Dc code 1833 (.iaload) 1 1834 := dc_of tkL_82 3 rfl rfl
theorem dL_law_1834 : Dc code 1834 (.invokevirtual 193) 3 1837 := dc_of tkL_82 4 rfl rfl
theorem dL_law_1837 : Dc code 1837 (.if_icmp .eq 397) 3 1840 := dc_of tkL_82 5 rfl rfl
theorem dL_law_1840 : Dc code 1840 (.iconst 0) 1 1841 := dc_of tkL_82 6 rfl rfl
theorem dL_law_1841 : Dc code 1841 (.ireturn) 1 1842 := dc_of tkL_82 7 rfl rfl
theorem dL_law_1842 : Dc code 1842 (.aload_n 1) 1 1843 := dc_of tkL_82 8 rfl rfl
theorem dL_law_1843 : Dc code 1843 (.aload_n 0) 1 1844 := dc_of tkL_82 9 rfl rfl
theorem dL_law_1844 : Dc code 1844 (.iload_n 3) 1 1845 := dc_of tkL_82 10 rfl rfl
theorem dL_law_1845 : Dc code 1845 (.iconst 1) 1 1846 := dc_of tkL_82 11 rfl rfl
theorem dL_law_1846 : Dc code 1846 (.iadd) 1 1847 := dc_of tkL_82 12 rfl rfl
theorem dL_law_1847 : Dc code 1847 (.iaload) 1 1848 := dc_of tkL_82 13 rfl rfl
theorem dL_law_1848 : Dc code 1848 (.invokevirtual 194) 3 1851 := dc_of tkL_82 14 rfl rfl
theorem dL_law_1851 : Dc code 1851 (.aload_n 2) 1 1852 := dc_of tkL_82 15 rfl rfl
def tbL_83 : List (Nat × Instr × Nat) := [(1852, .aload_n 0, 1), (1853, .iload_n 3, 1), (1854, .iconst 1, 1), (1855, .iadd, 1), (1856, .iaload, 1), (1857, .invokevirtual 197, 3), (1860, .if_icmp .eq 374, 3), (1863, .iconst 0, 1), (1864, .ireturn, 1), (1865, .aload_n 1, 1), (1866, .aload_n 0, 1), (1867, .iload_n 3, 1), (1868, .iconst 1, 1), (1869, .iadd, 1), (1870, .iaload, 1), (1871, .aload_n 0, 1)]
theorem tkL_83 : tbL_83.all (fun q => decide (decode code q.1 = .ok q.2)) = true := by decide +kernel
theorem dL_law_1852 : Dc code 1852 (.aload_n 0) 1 1853 := dc_of tkL_83 0 rfl rfl
theorem dL_law_1853 : Dc code 1853 (.iload_n 3) 1 1854 := dc_of tkL_83 1 rfl rfl
theorem dL_law_1854 : Dc code 1854 (.iconst 1) 1 1855 := dc_of tkL_83 2 rfl rfl
theorem dL_law_1855 : Dc code 1855 (.iadd) 1 1856 := dc_of tkL_83 3 rfl rfl
theorem dL_law_1856 : Dc code 1856 (.iaload) 1 1857 := dc_of tkL_83 4 rfl rfl
theorem dL_law_1857 : Dc code 1857 (.invokevirtual 197) 3 1860 := dc_of tkL_83 5 rfl rfl
theorem dL_law_1860 : Dc code 1860 (.if_icmp .eq 374) 3 1863 := dc_of tkL_83 6 rfl rfl
theorem dL_law_1863 : Dc code 1863 (.iconst 0) 1 1864 := dc_of tkL_83 7 rfl rfl
theorem dL_law_1864 : Dc code 1864 (.ireturn) 1 1865 := dc_of tkL_83 8 rfl rfl
theorem dL_law_1865 : Dc code 1865 (.aload_n 1) 1 1866 := dc_of tkL_83 9 rfl rfl
theorem dL_law_1866 : Dc code 1866 (.aload_n 0) 1 1867 := dc_of tkL_83 10 rfl rfl
theorem dL_law_1867 : Dc code 1867 (.iload_n 3) 1 1868 := dc_of tkL_83 11 rfl rfl
theorem dL_law_1868 : Dc code 1868 (.iconst 1) 1 1869 := dc_of tkL_83 12 rfl rfl
theorem dL_law_1869 : Dc code 1869 (.iadd) 1 1870 := dc_of tkL_83 13 rfl rfl
theorem dL_law_1870 : Dc code 1870 (.iaload) 1 1871 := dc_of tkL_83 14 rfl rfl
theorem dL_law_1871 : Dc code 1871 (.aload_n 0) 1 1872 := dc_of tkL_83 15 rfl rfl
def tbL_84 : List (Nat × Instr × Nat) := [(1872, .iload_n 3, 1), (1873, .iconst 2, 1), (1874, .iadd, 1), (1875, .iaload, 1), (1876, .invokevirtual 198, 3), (1879, .aload_n 2, 1), (1880, .aload_n 0, 1), (1881, .iload_n 3, 1), (1882, .iconst 1, 1), (1883, .iadd, 1), (1884, .iaload, 1), (1885, .aload_n 0, 1), (1886, .iload_n 3, 1), (1887, .iconst 2, 1), (1888, .iadd, 1), (1889, .iaload, 1)]
theorem tkL_84 : tbL_84.all (fun q => decide (decode code q.1 = .ok q.2)) = true := by decide +kernel
theorem dL_law_1872 : Dc code 1872 (.iload_n 3) 1 1873 := dc_of tkL_84 0 rfl rfl
theorem dL_law_1873 : Dc code 1873 (.iconst 2) 1 1874 := dc_of tkL_84 1 rfl rfl
theorem dL_law_1874 : Dc code 1874 (.iadd) 1 1875 := dc_of tkL_84 2 rfl rfl
theorem dL_law_1875 : Dc code 1875 (.iaload) 1 1876 := dc_of tkL_84 3 rfl rfl
theorem dL_law_1876 : Dc code 1876 (.invokevirtual 198) 3 1879 := dc_of tkL_84 4 rfl rfl
theorem dL_law_1879 : Dc code 1879 (.aload_n 2) 1 1880 := dc_of tkL_84 5 rfl rfl
theorem dL_law_1880 : Dc code 1880 (.aload_n 0) 1 1881 := dc_of tkL_84 6 rfl rfl
theorem dL_law_1881 : Dc code 1881 (.iload_n 3) 1 1882 := dc_of tkL_84 7 rfl rfl
theorem dL_law_1882 : Dc code 1882 (.iconst 1) 1 1883 := dc_of tkL_84 8 rfl rfl
theorem dL_law_1883 : Dc code 1883 (.iadd) 1 1884 := dc_of tkL_84 9 rfl rfl
theorem dL_law_1884 : Dc code 1884 (.iaload) 1 1885 := dc_of tkL_84 10 rfl rfl
theorem dL_law_1885 : Dc code 1885 (.aload_n 0) 1 1886 := dc_of tkL_84 11 rfl rfl
theorem dL_law_1886 : Dc code 1886 (.iload_n 3) 1 1887 := dc_of tkL_84 12 rfl rfl
theorem dL_law_1887 : Dc code 1887 (.iconst 2) 1 1888 := dc_of tkL_84 13 rfl rfl
theorem dL_law_1888 : Dc code 1888 (.iadd) 1 1889 := dc_of tkL_84 14 rfl rfl
theorem dL_law_1889 : Dc code 1889 (.iaload) 1 1890 := dc_of tkL_84 15 rfl rfl
def tbL_85 : List (Nat × Instr × Nat) := [(1890, .invokevirtual 201, 3), (1893, .if_icmp .eq 341, 3), (1896, .iconst 0, 1), (1897, .ireturn, 1), (1898, .aload_n 1, 1), (1899, .aload_n 0, 1), (1900, .iload_n 3, 1), (1901, .iconst 1, 1), (1902, .iadd, 1), (1903, .iaload, 1), (1904, .aload_n 0, 1), (1905, .iload_n 3, 1), (1906, .iconst 2, 1), (1907, .iadd, 1), (1908, .iaload, 1), (1909, .invokevirtual 202, 3)]
theorem tkL_85 : tbL_85.all (fun q => decide (decode code q.1 = .ok q.2)) = true := by decide +kernel
theorem dL_law_1890 : Dc code 1890 (.invokevirtual 201) 3 1893 := dc_of tkL_85 0 rfl rfl
theorem dL_law_1893 : Dc code 1893 (.if_icmp .eq 341) 3 1896 := dc_of tkL_85 1 rfl rfl
theorem dL_law_1896 : Dc code 1896 (.iconst 0) 1 1897 := dc_of tkL_85 2 rfl rfl
theorem dL_law_1897 : Dc code 1897 (.ireturn) 1 1898 := dc_of tkL_85 3 rfl rfl
theorem dL_law_1898 : Dc code 1898 (.aload_n 1) 1 1899 := dc_of tkL_85 4 rfl rfl
theorem dL_law_1899 : Dc code 1899 (.aload_n 0) 1 1900 := dc_of tkL_85 5 rfl rfl
theorem dL_law_1900 : Dc code 1900 (.iload_n 3) 1 1901 := dc_of tkL_85 6 rfl rfl
theorem dL_law_1901 : Dc code 1901 (.iconst 1) 1 1902 := dc_of tkL_85 7 rfl rfl
theorem dL_law_1902 : Dc code 1902 (.iadd) 1 1903 := dc_of tkL_85 8 rfl rfl
theorem dL_law_1903 : Dc code 1903 (.iaload) 1 1904 := dc_of tkL_85 9 rfl rfl
theorem dL_law_1904 : Dc code 1904 (.aload_n 0) 1 1905 := dc_of tkL_85 10 rfl rfl
theorem dL_law_1905 : Dc code 1905 (.iload_n 3) 1 1906 := dc_of tkL_85 11 rfl rfl
theorem dL_law_1906 : Dc code 1906 (.iconst 2) 1 1907 := dc_of tkL_85 12 rfl rfl
theorem dL_law_1907 : Dc code 1907 (.iadd) 1 1908 := dc_of tkL_85 13 rfl rfl
theorem dL_law_1908 : Dc code 1908 (.iaload) 1 1909 := dc_of tkL_85 14 rfl rfl
theorem dL_law_1909 : Dc code 1909 (.invokevirtual 202) 3 1912 := dc_of tkL_85 15 rfl rfl
def tbL_86 : List (Nat × Instr × Nat) := [(1912, .aload_n 2, 1), (1913, .aload_n 0, 1), (1914, .iload_n 3, 1), (1915, .iconst 1, 1), (1916, .iadd, 1), (1917, .iaload, 1), (1918, .aload_n 0, 1), (1919, .iload_n 3, 1), (1920, .iconst 2, 1), (1921, .iadd, 1), (1922, .iaload, 1), (1923, .invokevirtual 205, 3), (1926, .if_icmp .eq 308, 3), (1929, .iconst 0, 1), (1930, .ireturn, 1), (1931, .aload_n 1, 1)]
theorem tkL_86 : tbL_86.all (fun q => decide (decode code q.1 = .ok q.2)) = true := by decide +kernel
theorem dL_law_1912 : Dc code 1912 (.aload_n 2) 1 1913 := dc_of tkL_86 0 rfl rfl
theorem dL_law_1913 : Dc code 1913 (.aload_n 0) 1 1914 := dc_of tkL_86 1 rfl rfl
theorem dL_law_1914 : Dc code 1914 (.iload_n 3) 1 1915 := dc_of tkL_86 2 rfl rfl
theorem dL_law_1915 : Dc code 1915 (.iconst 1) 1 1916 := dc_of tkL_86 3 rfl rfl
theorem dL_law_1916 : Dc code 1916 (.iadd) 1 1917 := dc_of tkL_86 4 rfl rfl
theorem dL_law_1917 : Dc code 1917 (.iaload) 1 1918 := dc_of tkL_86 5 rfl rfl
theorem dL_law_1918 : Dc code 1918 (.aload_n 0) 1 1919 := dc_of tkL_86 6 rfl rfl
theorem dL_law_1919 : Dc code 1919 (.iload_n 3) 1 1920 := dc_of tkL_86 7 rfl rfl
theorem dL_law_1920 : Dc code 1920 (.iconst 2) 1 1921 := dc_of tkL_86 8 rfl rfl
theorem dL_law_1921 : Dc code 1921 (.iadd) 1 1922 := dc_of tkL_86 9 rfl rfl
theorem dL_law_1922 : Dc code 1922 (.iaload) 1 1923 := dc_of tkL_86 10 rfl rfl
theorem dL_law_1923 : Dc code 1923 (.invokevirtual 205) 3 1926 := dc_of tkL_86 11 rfl rfl
theorem dL_law_1926 : Dc code 1926 (.if_icmp .eq 308) 3 1929 := dc_of tkL_86 12 rfl rfl
theorem dL_law_1929 : Dc code 1929 (.iconst 0) 1 1930 := dc_of tkL_86 13 rfl rfl
theorem dL_law_1930 : Dc code 1930 (.ireturn) 1 1931 := dc_of tkL_86 14 rfl rfl
theorem dL_law_1931 : Dc code 1931 (.aload_n 1) 1 1932 := dc_of tkL_86 15 rfl rfl
def tbL_87 : List (Nat × Instr × Nat) := [(1932, .aload_n 0, 1), (1933, .iload_n 3, 1), (1934, .iconst 1, 1), (1935, .iadd, 1), (1936, .iaload, 1), (1937, .aload_n 0, 1), (1938, .iload_n 3, 1), (1939, .iconst 2, 1), (1940, .iadd, 1), (1941, .iaload, 1), (1942, .aload_n 0, 1), (1943, .iload_n 3, 1), (1944, .iconst 3, 1), (1945, .iadd, 1), (1946, .iaload, 1), (1947, .invokevirtual 206, 3)]
theorem tkL_87 : tbL_87.all (fun q => decide (decode code q.1 = .ok q.2)) = true := by decide +kernel
theorem dL_law_1932 : Dc code 1932 (.aload_n 0) 1 1933 := dc_of tkL_87 0 rfl rfl
theorem dL_law_1933 : Dc code 1933 (.iload_n 3) 1 1934 := dc_of tkL_87 1 rfl rfl
theorem dL_law_1934 : Dc code 1934 (.iconst 1) 1 1935 := dc_of tkL_87 2 rfl rfl
theorem dL_law_1935 : Dc code 1935 (.iadd) 1 1936 := dc_of tkL_87 3 rfl rfl
theorem dL_law_1936 : Dc code 1936 (.iaload) 1 1937 := dc_of tkL_87 4 rfl rfl
theorem dL_law_1937 : Dc code 1937 (.aload_n 0) 1 1938 := dc_of tkL_87 5 rfl rfl
theorem dL_law_1938 : Dc code 1938 (.iload_n 3) 1 1939 := dc_of tkL_87 6 rfl rfl
theorem dL_law_1939 : Dc code 1939 (.iconst 2) 1 1940 := dc_of tkL_87 7 rfl rfl
theorem dL_law_1940 : Dc code 1940 (.iadd) 1 1941 := dc_of tkL_87 8 rfl rfl
theorem dL_law_1941 : Dc code 1941 (.iaload) 1 1942 := dc_of tkL_87 9 rfl rfl
theorem dL_law_1942 : Dc code 1942 (.aload_n 0) 1 1943 := dc_of tkL_87 10 rfl rfl
theorem dL_law_1943 : Dc code 1943 (.iload_n 3) 1 1944 := dc_of tkL_87 11 rfl rfl
theorem dL_law_1944 : Dc code 1944 (.iconst 3) 1 1945 := dc_of tkL_87 12 rfl rfl
theorem dL_law_1945 : Dc code 1945 (.iadd) 1 1946 := dc_of tkL_87 13 rfl rfl
theorem dL_law_1946 : Dc code 1946 (.iaload) 1 1947 := dc_of tkL_87 14 rfl rfl
theorem dL_law_1947 : Dc code 1947 (.invokevirtual 206) 3 1950 := dc_of tkL_87 15 rfl rfl
def tbL_88 : List (Nat × Instr × Nat) := [(1950, .aload_n 2, 1), (1951, .aload_n 0, 1), (1952, .iload_n 3, 1), (1953, .iconst 1, 1), (1954, .iadd, 1), (1955, .iaload, 1), (1956, .aload_n 0, 1), (1957, .iload_n 3, 1), (1958, .iconst 2, 1), (1959, .iadd, 1), (1960, .iaload, 1), (1961, .aload_n 0, 1), (1962, .iload_n 3, 1), (1963, .iconst 3, 1), (1964, .iadd, 1), (1965, .iaload, 1)]
theorem tkL_88 : tbL_88.all (fun q => decide (decode code q.1 = .ok q.2)) = true := by decide +kernel
theorem dL_law_1950 : Dc code 1950 (.aload_n 2) 1 1951 := dc_of tkL_88 0 rfl rfl
theorem dL_law_1951 : Dc code 1951 (.aload_n 0) 1 1952 := dc_of tkL_88 1 rfl rfl
theorem dL_law_1952 : Dc code 1952 (.iload_n 3) 1 1953 := dc_of tkL_88 2 rfl rfl
theorem dL_law_1953 : Dc code 1953 (.iconst 1) 1 1954 := dc_of tkL_88 3 rfl rfl
theorem dL_law_1954 : Dc code 1954 (.iadd) 1 1955 := dc_of tkL_88 4 rfl rfl
theorem dL_law_1955 : Dc code 1955 (.iaload) 1 1956 := dc_of tkL_88 5 rfl rfl
theorem dL_law_1956 : Dc code 1956 (.aload_n 0) 1 1957 := dc_of tkL_88 6 rfl rfl
theorem dL_law_1957 : Dc code 1957 (.iload_n 3) 1 1958 := dc_of tkL_88 7 rfl rfl
theorem dL_law_1958 : Dc code 1958 (.iconst 2) 1 1959 := dc_of tkL_88 8 rfl rfl
theorem dL_law_1959 : Dc code 1959 (.iadd) 1 1960 := dc_of tkL_88 9 rfl rfl
theorem dL_law_1960 : Dc code 1960 (.iaload) 1 1961 := dc_of tkL_88 10 rfl rfl
theorem dL_law_1961 : Dc code 1961 (.aload_n 0) 1 1962 := dc_of tkL_88 11 rfl rfl
theorem dL_law_1962 : Dc code 1962 (.iload_n 3) 1 1963 := dc_of tkL_88 12 rfl rfl
theorem dL_law_1963 : Dc code 1963 (.iconst 3) 1 1964 := dc_of tkL_88 13 rfl rfl
theorem dL_law_1964 : Dc code 1964 (.iadd) 1 1965 := dc_of tkL_88 14 rfl rfl
theorem dL_law_1965 : Dc code 1965 (.iaload) 1 1966 := dc_of tkL_88 15 rfl rfl
def tbL_89 : List (Nat × Instr × Nat) := [(1966, .invokevirtual 209, 3), (1969, .if_icmp .eq 265, 3), (1972, .iconst 0, 1), (1973, .ireturn, 1), (1974, .aload_n 1, 1), (1975, .aload_n 0, 1), (1976, .iload_n 3, 1), (1977, .iconst 1, 1), (1978, .iadd, 1), (1979, .iaload, 1), (1980, .invokevirtual 210, 3), (1983, .aload_n 2, 1), (1984, .aload_n 0, 1), (1985, .iload_n 3, 1), (1986, .iconst 1, 1), (1987, .iadd, 1)]
theorem tkL_89 : tbL_89.all (fun q => decide (decode code q.1 = .ok q.2)) = true := by decide +kernel
theorem dL_law_1966 : Dc code 1966 (.invokevirtual 209) 3 1969 := dc_of tkL_89 0 rfl rfl
theorem dL_law_1969 : Dc code 1969 (.if_icmp .eq 265) 3 1972 := dc_of tkL_89 1 rfl rfl
theorem dL_law_1972 : Dc code 1972 (.iconst 0) 1 1973 := dc_of tkL_89 2 rfl rfl
theorem dL_law_1973 : Dc code 1973 (.ireturn) 1 1974 := dc_of tkL_89 3 rfl rfl
theorem dL_law_1974 : Dc code 1974 (.aload_n 1) 1 1975 := dc_of tkL_89 4 rfl rfl
theorem dL_law_1975 : Dc code 1975 (.aload_n 0) 1 1976 := dc_of tkL_89 5 rfl rfl
theorem dL_law_1976 : Dc code 1976 (.iload_n 3) 1 1977 := dc_of tkL_89 6 rfl rfl
theorem dL_law_1977 : Dc code 1977 (.iconst 1) 1 1978 := dc_of tkL_89 7 rfl rfl
theorem dL_law_1978 : Dc code 1978 (.iadd) 1 1979 := dc_of tkL_89 8 rfl rfl
theorem dL_law_1979 : Dc code 1979 (.iaload) 1 1980 := dc_of tkL_89 9 rfl rfl
theorem dL_law_1980 : Dc code 1980 (.invokevirtual 210) 3 1983 := dc_of tkL_89 10 rfl rfl
theorem dL_law_1983 : Dc code 1983 (.aload_n 2) 1 1984 := dc_of tkL_89 11 rfl rfl
theorem dL_law_1984 : Dc code 1984 (.aload_n 0) 1 1985 := dc_of tkL_89 12 rfl rfl
theorem dL_law_1985 : Dc code 1985 (.iload_n 3) 1 1986 := dc_of tkL_89 13 rfl rfl
theorem dL_law_1986 : Dc code 1986 (.iconst 1) 1 1987 := dc_of tkL_89 14 rfl rfl
theorem dL_law_1987 : Dc code 1987 (.iadd) 1 1988 := dc_of tkL_89 15 rfl rfl
def tbL_90 : List (Nat × Instr × Nat) := [(1988, .iaload, 1), (1989, .invokevirtual 213, 3), (1992, .if_icmp .eq 242, 3), (1995, .iconst 0, 1), (1996, .ireturn, 1), (1997, .aload_n 1, 1), (1998, .aload_n 0, 1), (1999, .iload_n 3, 1), (2000, .iconst 1, 1), (2001, .iadd, 1), (2002, .iaload, 1), (2003, .invokevirtual 214, 3), (2006, .aload_n 2, 1), (2007, .aload_n 0, 1), (2008, .iload_n 3, 1), (2009, .iconst 1, 1)]
theorem tkL_90 : tbL_90.all (fun q => decide (decode code q.1 = .ok q.2)) = true := by decide +kernel
theorem dL_law_1988 : Dc code 1988 (.iaload) 1 1989 := dc_of tkL_90 0 rfl rfl
theorem dL_law_1989 : Dc code 1989 (.invokevirtual 213) 3 1992 := dc_of tkL_90 1 rfl rfl
theorem dL_law_1992 : Dc code 1992 (.if_icmp .eq 242) 3 1995 := dc_of tkL_90 2 rfl rfl
theorem dL_law_1995 : Dc code 1995 (.iconst 0) 1 1996 := dc_of tkL_90 3 rfl rfl
theorem dL_law_1996 : Dc code 1996 (.ireturn) 1 1997 := dc_of tkL_90 4 rfl rfl
theorem dL_law_1997 : Dc code 1997 (.aload_n 1) 1 1998 := dc_of tkL_90 5 rfl rfl
theorem dL_law_1998 : Dc code 1998 (.aload_n 0) 1 1999 := dc_of tkL_90 6 rfl rfl
theorem dL_law_1999 : Dc code 1999 (.iload_n 3) 1 2000 := dc_of tkL_90 7 rfl rfl
theorem dL_law_2000 : Dc code 2000 (.iconst 1) 1 2001 := dc_of tkL_90 8 rfl rfl
theorem dL_law_2001 : Dc code 2001 (.iadd) 1 2002 := dc_of tkL_90 9 rfl rfl
theorem dL_law_2002 : Dc code 2002 (.iaload) 1 2003 := dc_of tkL_90 10 rfl rfl
theorem dL_law_2003 : Dc code 2003 (.invokevirtual 214) 3 2006 := dc_of tkL_90 11 rfl rfl
theorem dL_law_2006 : Dc code 2006 (.aload_n 2) 1 2007 := dc_of tkL_90 12 rfl rfl
theorem dL_law_2007 : Dc code 2007 (.aload_n 0) 1 2008 := dc_of tkL_90 13 rfl rfl
theorem dL_law_2008 : Dc code 2008 (.iload_n 3) 1 2009 := dc_of tkL_90 14 rfl rfl
theorem dL_law_2009 : Dc code 2009 (.iconst 1) 1 2010 := dc_of tkL_90 15 rfl rfl
def tbL_91 : List (Nat × Instr × Nat) := [(2010, .iadd, 1), (2011, .iaload, 1), (2012, .invokevirtual 217, 3), (2015, .if_icmp .eq 219, 3), (2018, .iconst 0, 1), (2019, .ireturn, 1), (2020, .aload_n 1, 1), (2021, .aload_n 0, 1), (2022, .iload_n 3, 1), (2023, .iconst 1, 1), (2024, .iadd, 1), (2025, .iaload, 1), (2026, .aload_n 0, 1), (2027, .iload_n 3, 1), (2028, .iconst 2, 1), (2029, .iadd, 1)]
theorem tkL_91 : tbL_91.all (fun q => decide (decode code q.1 = .ok q.2)) = true := by decide +kernel
theorem dL_law_2010 : Dc code 2010 (.iadd) 1 2011 := dc_of tkL_91 0 rfl rfl
theorem dL_law_2011 : Dc code 2011 (.iaload) 1 2012 := dc_of tkL_91 1 rfl rfl
theorem dL_law_2012 : Dc code 2012 (.invokevirtual 217) 3 2015 := dc_of tkL_91 2 rfl rfl
theorem dL_law_2015 : Dc code 2015 (.if_icmp .eq 219) 3 2018 := dc_of tkL_91 3 rfl rfl
theorem dL_law_2018 : Dc code 2018 (.iconst 0) 1 2019 := dc_of tkL_91 4 rfl rfl
theorem dL_law_2019 : Dc code 2019 (.ireturn) 1 2020 := dc_of tkL_91 5 rfl rfl
theorem dL_law_2020 : Dc code 2020 (.aload_n 1) 1 2021 := dc_of tkL_91 6 rfl rfl
theorem dL_law_2021 : Dc code 2021 (.aload_n 0) 1 2022 := dc_of tkL_91 7 rfl rfl
theorem dL_law_2022 : Dc code 2022 (.iload_n 3) 1 2023 := dc_of tkL_91 8 rfl rfl
theorem dL_law_2023 : Dc code 2023 (.iconst 1) 1 2024 := dc_of tkL_91 9 rfl rfl
theorem dL_law_2024 : Dc code 2024 (.iadd) 1 2025 := dc_of tkL_91 10 rfl rfl
theorem dL_law_2025 : Dc code 2025 (.iaload) 1 2026 := dc_of tkL_91 11 rfl rfl
theorem dL_law_2026 : Dc code 2026 (.aload_n 0) 1 2027 := dc_of tkL_91 12 rfl rfl
theorem dL_law_2027 : Dc code 2027 (.iload_n 3) 1 2028 := dc_of tkL_91 13 rfl rfl
theorem dL_law_2028 : Dc code 2028 (.iconst 2) 1 2029 := dc_of tkL_91 14 rfl rfl
theorem dL_law_2029 : Dc code 2029 (.iadd) 1 2030 := dc_of tkL_91 15 rfl rfl
def tbL_92 : List (Nat × Instr × Nat) := [(2030, .iaload, 1), (2031, .aload_n 0, 1), (2032, .iload_n 3, 1), (2033, .iconst 3, 1), (2034, .iadd, 1), (2035, .iaload, 1), (2036, .invokevirtual 218, 3), (2039, .aload_n 2, 1), (2040, .aload_n 0, 1), (2041, .iload_n 3, 1), (2042, .iconst 1, 1), (2043, .iadd, 1), (2044, .iaload, 1), (2045, .aload_n 0, 1), (2046, .iload_n 3, 1), (2047, .iconst 2, 1)]
theorem tkL_92 : tbL_92.all (fun q => decide (decode code q.1 = .ok q.2)) = true := by decide +kernel
theorem dL_law_2030 : Dc code 2030 (.iaload) 1 2031 := dc_of tkL_92 0 rfl rfl
theorem dL_law_2031 : Dc code 2031 (.aload_n 0) 1 2032 := dc_of tkL_92 1 rfl rfl
theorem dL_law_2032 : Dc code 2032 (.iload_n 3) 1 2033 := dc_of tkL_92 2 rfl rfl
theorem dL_law_2033 : Dc code 2033 (.iconst 3) 1 2034 := dc_of tkL_92 3 rfl rfl
theorem dL_law_2034 : Dc code 2034 (.iadd) 1 2035 := dc_of tkL_92 4 rfl rfl
theorem dL_law_2035 : Dc code 2035 (.iaload) 1 2036 := dc_of tkL_92 5 rfl rfl
theorem dL_law_2036 : Dc code 2036 (.invokevirtual 218) 3 2039 := dc_of tkL_92 6 rfl rfl
theorem dL_law_2039 : Dc code 2039 (.aload_n 2) 1 2040 := dc_of tkL_92 7 rfl rfl
theorem dL_law_2040 : Dc code 2040 (.aload_n 0) 1 2041 := dc_of tkL_92 8 rfl rfl
theorem dL_law_2041 : Dc code 2041 (.iload_n 3) 1 2042 := dc_of tkL_92 9 rfl rfl
theorem dL_law_2042 : Dc code 2042 (.iconst 1) 1 2043 := dc_of tkL_92 10 rfl rfl
theorem dL_law_2043 : Dc code 2043 (.iadd) 1 2044 := dc_of tkL_92 11 rfl rfl
theorem dL_law_2044 : Dc code 2044 (.iaload) 1 2045 := dc_of tkL_92 12 rfl rfl
theorem dL_law_2045 : Dc code 2045 (.aload_n 0) 1 2046 := dc_of tkL_92 13 rfl rfl
theorem dL_law_2046 : Dc code 2046 (.iload_n 3) 1 2047 := dc_of tkL_92 14 rfl rfl
theorem dL_law_2047 : Dc code 2047 (.iconst 2) 1 2048 := dc_of tkL_92 15 rfl rfl
def tbL_93 : List (Nat × Instr × Nat) := [(2048, .iadd, 1), (2049, .iaload, 1), (2050, .aload_n 0, 1), (2051, .iload_n 3, 1), (2052, .iconst 3, 1), (2053, .iadd, 1), (2054, .iaload, 1), (2055, .invokevirtual 221, 3), (2058, .if_icmp .eq 176, 3), (2061, .iconst 0, 1), (2062, .ireturn, 1), (2063, .aload_n 1, 1), (2064, .aload_n 0, 1), (2065, .iload_n 3, 1), (2066, .iconst 1, 1), (2067, .iadd, 1)]
theorem tkL_93 : tbL_93.all (fun q => decide (decode code q.1 = .ok q.2)) = true := by decide +kernel
theorem dL_law_2048 : Dc code 2048 (.iadd) 1 2049 := dc_of tkL_93 0 rfl rfl
theorem dL_law_2049 : Dc code 2049 (.iaload) 1 2050 := dc_of tkL_93 1 rfl rfl
theorem dL_law_2050 : Dc code 2050 (.aload_n 0) 1 2051 := dc_of tkL_93 2 rfl rfl
theorem dL_law_2051 : Dc code 2051 (.iload_n 3) 1 2052 := dc_of tkL_93 3 rfl rfl
theorem dL_law_2052 : Dc code 2052 (.iconst 3) 1 2053 := dc_of tkL_93 4 rfl rfl
theorem dL_law_2053 : Dc code 2053 (.iadd) 1 2054 := dc_of tkL_93 5 rfl rfl
theorem dL_law_2054 : Dc code 2054 (.iaload) 1 2055 := dc_of tkL_93 6 rfl rfl
theorem dL_law_2055 : Dc code 2055 (.invokevirtual 221) 3 2058 := dc_of tkL_93 7 rfl rfl
theorem dL_law_2058 : Dc code 2058 (.if_icmp .eq 176) 3 2061 := dc_of tkL_93 8 rfl rfl
theorem dL_law_2061 : Dc code 2061 (.iconst 0) 1 2062 := dc_of tkL_93 9 rfl rfl
theorem dL_law_2062 : Dc code 2062 (.ireturn) 1 2063 := dc_of tkL_93 10 rfl rfl
theorem dL_law_2063 : Dc code 2063 (.aload_n 1) 1 2064 := dc_of tkL_93 11 rfl rfl
theorem dL_law_2064 : Dc code 2064 (.aload_n 0) 1 2065 := dc_of tkL_93 12 rfl rfl
theorem dL_law_2065 : Dc code 2065 (.iload_n 3) 1 2066 := dc_of tkL_93 13 rfl rfl
theorem dL_law_2066 : Dc code 2066 (.iconst 1) 1 2067 := dc_of tkL_93 14 rfl rfl
theorem dL_law_2067 : Dc code 2067 (.iadd) 1 2068 := dc_of tkL_93 15 rfl rfl
def tbL_94 : List (Nat × Instr × Nat) := [(2068, .iaload, 1), (2069, .aload_n 0, 1), (2070, .iload_n 3, 1), (2071, .iconst 2, 1), (2072, .iadd, 1), (2073, .iaload, 1), (2074, .invokevirtual 222, 3), (2077, .aload_n 2, 1), (2078, .aload_n 0, 1), (2079, .iload_n 3, 1), (2080, .iconst 1, 1), (2081, .iadd, 1), (2082, .iaload, 1), (2083, .aload_n 0, 1), (2084, .iload_n 3, 1), (2085, .iconst 2, 1)]
theorem tkL_94 : tbL_94.all (fun q => decide (decode code q.1 = .ok q.2)) = true := by decide +kernel
theorem dL_law_2068 : Dc code 2068 (.iaload) 1 2069 := dc_of tkL_94 0 rfl rfl
theorem dL_law_2069 : Dc code 2069 (.aload_n 0) 1 2070 := dc_of tkL_94 1 rfl rfl
theorem dL_law_2070 : Dc code 2070 (.iload_n 3) 1 2071 := dc_of tkL_94 2 rfl rfl
theorem dL_law_2071 : Dc code 2071 (.iconst 2) 1 2072 := dc_of tkL_94 3 rfl rfl
theorem dL_law_2072 : Dc code 2072 (.iadd) 1 2073 := dc_of tkL_94 4 rfl rfl
theorem dL_law_2073 : Dc code 2073 (.iaload) 1 2074 := dc_of tkL_94 5 rfl rfl
theorem dL_law_2074 : Dc code 2074 (.invokevirtual 222) 3 2077 := dc_of tkL_94 6 rfl rfl
theorem dL_law_2077 : Dc code 2077 (.aload_n 2) 1 2078 := dc_of tkL_94 7 rfl rfl
theorem dL_law_2078 : Dc code 2078 (.aload_n 0) 1 2079 := dc_of tkL_94 8 rfl rfl
theorem dL_law_2079 : Dc code 2079 (.iload_n 3) 1 2080 := dc_of tkL_94 9 rfl rfl
theorem dL_law_2080 : Dc code 2080 (.iconst 1) 1 2081 := dc_of tkL_94 10 rfl rfl
theorem dL_law_2081 : Dc code 2081 (.iadd) 1 2082 := dc_of tkL_94 11 rfl rfl
theorem dL_law_2082 : Dc code 2082 (.iaload) 1 2083 := dc_of tkL_94 12 rfl rfl
theorem dL_law_2083 : Dc code 2083 (.aload_n 0) 1 2084 := dc_of tkL_94 13 rfl rfl
theorem dL_law_2084 : Dc code 2084 (.iload_n 3) 1 2085 := dc_of tkL_94 14 rfl rfl
theorem dL_law_2085 : Dc code 2085 (.iconst 2) 1 2086 := dc_of tkL_94 15 rfl rfl
def tbL_95 : List (Nat × Instr × Nat) := [(2086, .iadd, 1), (2087, .iaload, 1), (2088, .invokevirtual 225, 3), (2091, .if_icmp .eq 143, 3), (2094, .iconst 0, 1), (2095, .ireturn, 1), (2096, .aload_n 1, 1), (2097, .aload_n 0, 1), (2098, .iload_n 3, 1), (2099, .iconst 1, 1), (2100, .iadd, 1), (2101, .iaload, 1), (2102, .aload_n 0, 1), (2103, .iload_n 3, 1), (2104, .iconst 2, 1), (2105, .iadd, 1)]
theorem tkL_95 : tbL_95.all (fun q => decide (decode code q.1 = .ok q.2)) = true := by decide +kernel
theorem dL_law_2086 : Dc code 2086 (.iadd) 1 2087 := dc_of tkL_95 0 rfl rfl
theorem dL_law_2087 : Dc code 2087 (.iaload) 1 2088 := dc_of tkL_95 1 rfl rfl
theorem dL_law_2088 : Dc code 2088 (.invokevirtual 225) 3 2091 := dc_of tkL_95 2 rfl rfl
theorem dL_law_2091 : Dc code 2091 (.if_icmp .eq 143) 3 2094 := dc_of tkL_95 3 rfl rfl
theorem dL_law_2094 : Dc code 2094 (.iconst 0) 1 2095 := dc_of tkL_95 4 rfl rfl
theorem dL_law_2095 : Dc code 2095 (.ireturn) 1 2096 := dc_of tkL_95 5 rfl rfl
theorem dL_law_2096 : Dc code 2096 (.aload_n 1) 1 2097 := dc_of tkL_95 6 rfl rfl
theorem dL_law_2097 : Dc code 2097 (.aload_n 0) 1 2098 := dc_of tkL_95 7 rfl rfl
theorem dL_law_2098 : Dc code 2098 (.iload_n 3) 1 2099 := dc_of tkL_95 8 rfl rfl
theorem dL_law_2099 : Dc code 2099 (.iconst 1) 1 2100 := dc_of tkL_95 9 rfl rfl
theorem dL_law_2100 : Dc code 2100 (.iadd) 1 2101 := dc_of tkL_95 10 rfl rfl
theorem dL_law_2101 : Dc code 2101 (.iaload) 1 2102 := dc_of tkL_95 11 rfl rfl
theorem dL_law_2102 : Dc code 2102 (.aload_n 0) 1 2103 := dc_of tkL_95 12 rfl rfl
theorem dL_law_2103 : Dc code 2103 (.iload_n 3) 1 2104 := dc_of tkL_95 13 rfl rfl
theorem dL_law_2104 : Dc code 2104 (.iconst 2) 1 2105 := dc_of tkL_95 14 rfl rfl
theorem dL_law_2105 : Dc code 2105 (.iadd) 1 2106 := dc_of tkL_95 15 rfl rfl
def tbL_96 : List (Nat × Instr × Nat) := [(2106, .iaload, 1), (2107, .invokevirtual 226, 3), (2110, .aload_n 2, 1), (2111, .aload_n 0, 1), (2112, .iload_n 3, 1), (2113, .iconst 1, 1), (2114, .iadd, 1), (2115, .iaload, 1), (2116, .aload_n 0, 1), (2117, .iload_n 3, 1), (2118, .iconst 2, 1), (2119, .iadd, 1), (2120, .iaload, 1), (2121, .invokevirtual 229, 3), (2124, .if_icmp .eq 110, 3), (2127, .iconst 0, 1)]
theorem tkL_96 : tbL_96.all (fun q => decide (decode code q.1 = .ok q.2)) = true := by decide +kernel
theorem dL_law_2106 : Dc code 2106 (.iaload) 1 2107 := dc_of tkL_96 0 rfl rfl
theorem dL_law_2107 : Dc code 2107 (.invokevirtual 226) 3 2110 := dc_of tkL_96 1 rfl rfl
theorem dL_law_2110 : Dc code 2110 (.aload_n 2) 1 2111 := dc_of tkL_96 2 rfl rfl
theorem dL_law_2111 : Dc code 2111 (.aload_n 0) 1 2112 := dc_of tkL_96 3 rfl rfl
theorem dL_law_2112 : Dc code 2112 (.iload_n 3) 1 2113 := dc_of tkL_96 4 rfl rfl
theorem dL_law_2113 : Dc code 2113 (.iconst 1) 1 2114 := dc_of tkL_96 5 rfl rfl
theorem dL_law_2114 : Dc code 2114 (.iadd) 1 2115 := dc_of tkL_96 6 rfl rfl
theorem dL_law_2115 : Dc code 2115 (.iaload) 1 2116 := dc_of tkL_96 7 rfl rfl
theorem dL_law_2116 : Dc code 2116 (.aload_n 0) 1 2117 := dc_of tkL_96 8 rfl rfl
theorem dL_law_2117 : Dc code 2117 (.iload_n 3) 1 2118 := dc_of tkL_96 9 rfl rfl
theorem dL_law_2118 : Dc code 2118 (.iconst 2) 1 2119 := dc_of tkL_96 10 rfl rfl
theorem dL_law_2119 : Dc code 2119 (.iadd) 1 2120 := dc_of tkL_96 11 rfl rfl
theorem dL_law_2120 : Dc code 2120 (.iaload) 1 2121 := dc_of tkL_96 12 rfl rfl
theorem dL_law_2121 : Dc code 2121 (.invokevirtual 229) 3 2124 := dc_of tkL_96 13 rfl rfl
theorem dL_law_2124 : Dc code 2124 (.if_icmp .eq 110) 3 2127 := dc_of tkL_96 14 rfl rfl
theorem dL_law_2127 : Dc code 2127 (.iconst 0) 1 2128 := dc_of tkL_96 15 rfl rfl
def tbL_97 : List (Nat × Instr × Nat) := [(2128, .ireturn, 1), (2129, .aload_n 1, 1), (2130, .aload_n 0, 1), (2131, .iload_n 3, 1), (2132, .iconst 1, 1), (2133, .iadd, 1), (2134, .iaload, 1), (2135, .invokevirtual 230, 3), (2138, .aload_n 2, 1), (2139, .aload_n 0, 1), (2140, .iload_n 3, 1), (2141, .iconst 1, 1), (2142, .iadd, 1), (2143, .iaload, 1), (2144, .invokevirtual 233, 3), (2147, .if_icmp .eq 87, 3)]
theorem tkL_97 : tbL_97.all (fun q => decide (decode code q.1 = .ok q.2)) = true := by decide +kernel
theorem dL_law_2128 : Dc code 2128 (.ireturn) 1 2129 := dc_of tkL_97 0 rfl rfl
theorem dL_law_2129 : Dc code 2129 (.aload_n 1) 1 2130 := dc_of tkL_97 1 rfl rfl
theorem dL_law_2130 : Dc code 2130 (.aload_n 0) 1 2131 := dc_of tkL_97 2 rfl rfl
theorem dL_law_2131 : Dc code 2131 (.iload_n 3) 1 2132 := dc_of tkL_97 3 rfl rfl
theorem dL_law_2132 : Dc code 2132 (.iconst 1) 1 2133 := dc_of tkL_97 4 rfl rfl
theorem dL_law_2133 : Dc code 2133 (.iadd) 1 2134 := dc_of tkL_97 5 rfl rfl
theorem dL_law_2134 : Dc code 2134 (.iaload) 1 2135 := dc_of tkL_97 6 rfl rfl
theorem dL_law_2135 : Dc code 2135 (.invokevirtual 230) 3 2138 := dc_of tkL_97 7 rfl rfl
theorem dL_law_2138 : Dc code 2138 (.aload_n 2) 1 2139 := dc_of tkL_97 8 rfl rfl
theorem dL_law_2139 : Dc code 2139 (.aload_n 0) 1 2140 := dc_of tkL_97 9 rfl rfl
theorem dL_law_2140 : Dc code 2140 (.iload_n 3) 1 2141 := dc_of tkL_97 10 rfl rfl
theorem dL_law_2141 : Dc code 2141 (.iconst 1) 1 2142 := dc_of tkL_97 11 rfl rfl
theorem dL_law_2142 : Dc code 2142 (.iadd) 1 2143 := dc_of tkL_97 12 rfl rfl
theorem dL_law_2143 : Dc code 2143 (.iaload) 1 2144 := dc_of tkL_97 13 rfl rfl
theorem dL_law_2144 : Dc code 2144 (.invokevirtual 233) 3 2147 := dc_of tkL_97 14 rfl rfl
theorem dL_law_2147 : Dc code 2147 (.if_icmp .eq 87) 3 2150 := dc_of tkL_97 15 rfl rfl
def tbL_98 : List (Nat × Instr × Nat) := [(2150, .iconst 0, 1), (2151, .ireturn, 1), (2152, .aload_n 1, 1), (2153, .aload_n 0, 1), (2154, .iload_n 3, 1), (2155, .iconst 1, 1), (2156, .iadd, 1), (2157, .iaload, 1), (2158, .aload_n 0, 1), (2159, .iload_n 3, 1), (2160, .iconst 2, 1), (2161, .iadd, 1), (2162, .iaload, 1), (2163, .invokevirtual 234, 3), (2166, .aload_n 2, 1), (2167, .aload_n 0, 1)]
theorem tkL_98 : tbL_98.all (fun q => decide (decode code q.1 = .ok q.2)) = true := by decide +kernel
theorem dL_law_2150 : Dc code 2150 (.iconst 0) 1 2151 := dc_of tkL_98 0 rfl rfl
theorem dL_law_2151 : Dc code 2151 (.ireturn) 1 2152 := dc_of tkL_98 1 rfl rfl
theorem dL_law_2152 : Dc code 2152 (.aload_n 1) 1 2153 := dc_of tkL_98 2 rfl rfl
theorem dL_law_2153 : Dc code 2153 (.aload_n 0) 1 2154 := dc_of tkL_98 3 rfl rfl
theorem dL_law_2154 : Dc code 2154 (.iload_n 3) 1 2155 := dc_of tkL_98 4 rfl rfl
theorem dL_law_2155 : Dc code 2155 (.iconst 1) 1 2156 := dc_of tkL_98 5 rfl rfl
theorem dL_law_2156 : Dc code 2156 (.iadd) 1 2157 := dc_of tkL_98 6 rfl rfl
theorem dL_law_2157 : Dc code 2157 (.iaload) 1 2158 := dc_of tkL_98 7 rfl rfl
theorem dL_law_2158 : Dc code 2158 (.aload_n 0) 1 2159 := dc_of tkL_98 8 rfl rfl
theorem dL_law_2159 : Dc code 2159 (.iload_n 3) 1 2160 := dc_of tkL_98 9 rfl rfl
theorem dL_law_2160 : Dc code 2160 (.iconst 2) 1 2161 := dc_of tkL_98 10 rfl rfl
theorem dL_law_2161 : Dc code 2161 (.iadd) 1 2162 := dc_of tkL_98 11 rfl rfl
theorem dL_law_2162 : Dc code 2162 (.iaload) 1 2163 := dc_of tkL_98 12 rfl rfl
theorem dL_law_2163 : Dc code 2163 (.invokevirtual 234) 3 2166 := dc_of tkL_98 13 rfl rfl
theorem dL_law_2166 : Dc code 2166 (.aload_n 2) 1 2167 := dc_of tkL_98 14 rfl rfl
theorem dL_law_2167 : Dc code 2167 (.aload_n 0) 1 2168 := dc_of tkL_98 15 rfl rfl
def tbL_99 : List (Nat × Instr × Nat) := [(2168, .iload_n 3, 1), (2169, .iconst 1, 1), (2170, .iadd, 1), (2171, .iaload, 1), (2172, .aload_n 0, 1), (2173, .iload_n 3, 1), (2174, .iconst 2, 1), (2175, .iadd, 1), (2176, .iaload, 1), (2177, .invokevirtual 237, 3), (2180, .if_icmp .eq 54, 3), (2183, .iconst 0, 1), (2184, .ireturn, 1), (2185, .aload_n 1, 1), (2186, .invokevirtual 238, 3), (2189, .aload_n 2, 1)]
theorem tkL_99 : tbL_99.all (fun q => decide (decode code q.1 = .ok q.2)) = true := by decide +kernel
theorem dL_law_2168 : Dc code 2168 (.iload_n 3) 1 2169 := dc_of tkL_99 0 rfl rfl
theorem dL_law_2169 : Dc code 2169 (.iconst 1) 1 2170 := dc_of tkL_99 1 rfl rfl
theorem dL_law_2170 : Dc code 2170 (.iadd) 1 2171 := dc_of tkL_99 2 rfl rfl
theorem dL_law_2171 : Dc code 2171 (.iaload) 1 2172 := dc_of tkL_99 3 rfl rfl
theorem dL_law_2172 : Dc code 2172 (.aload_n 0) 1 2173 := dc_of tkL_99 4 rfl rfl
theorem dL_law_2173 : Dc code 2173 (.iload_n 3) 1 2174 := dc_of tkL_99 5 rfl rfl
theorem dL_law_2174 : Dc code 2174 (.iconst 2) 1 2175 := dc_of tkL_99 6 rfl rfl
theorem dL_law_2175 : Dc code 2175 (.iadd) 1 2176 := dc_of tkL_99 7 rfl rfl
theorem dL_law_2176 : Dc code 2176 (.iaload) 1 2177 := dc_of tkL_99 8 rfl rfl
theorem dL_law_2177 : Dc code 2177 (.invokevirtual 237) 3 2180 := dc_of tkL_99 9 rfl rfl
theorem dL_law_2180 : Dc code 2180 (.if_icmp .eq 54) 3 2183 := dc_of tkL_99 10 rfl rfl
theorem dL_law_2183 : Dc code 2183 (.iconst 0) 1 2184 := dc_of tkL_99 11 rfl rfl
theorem dL_law_2184 : Dc code 2184 (.ireturn) 1 2185 := dc_of tkL_99 12 rfl rfl
theorem dL_law_2185 : Dc code 2185 (.aload_n 1) 1 2186 := dc_of tkL_99 13 rfl rfl
theorem dL_law_2186 : Dc code 2186 (.invokevirtual 238) 3 2189 := dc_of tkL_99 14 rfl rfl
theorem dL_law_2189 : Dc code 2189 (.aload_n 2) 1 2190 := dc_of tkL_99 15 rfl rfl
def tbL_100 : List (Nat × Instr × Nat) := [(2190, .invokevirtual 242, 3), (2193, .if_icmp .eq 41, 3), (2196, .iconst 0, 1), (2197, .ireturn, 1), (2198, .aload_n 1, 1), (2199, .invokevirtual 243, 3), (2202, .aload_n 2, 1), (2203, .invokevirtual 246, 3), (2206, .if_icmp .eq 28, 3), (2209, .iconst 0, 1), (2210, .ireturn, 1), (2211, .aload_n 1, 1), (2212, .aload_n 0, 1), (2213, .iload_n 3, 1), (2214, .iconst 1, 1), (2215, .iadd, 1)]
theorem tkL_100 : tbL_100.all (fun q => decide (decode code q.1 = .ok q.2)) = true := by decide +kernel
theorem dL_law_2190 : Dc code 2190 (.invokevirtual 242) 3 2193 := dc_of tkL_100 0 rfl rfl
theorem dL_law_2193 : Dc code 2193 (.if_icmp .eq 41) 3 2196 := dc_of tkL_100 1 rfl rfl
theorem dL_law_2196 : Dc code 2196 (.iconst 0) 1 2197 := dc_of tkL_100 2 rfl rfl
theorem dL_law_2197 : Dc code 2197 (.ireturn) 1 2198 := dc_of tkL_100 3 rfl rfl
theorem dL_law_2198 : Dc code 2198 (.aload_n 1) 1 2199 := dc_of tkL_100 4 rfl rfl
theorem dL_law_2199 : Dc code 2199 (.invokevirtual 243) 3 2202 := dc_of tkL_100 5 rfl rfl
theorem dL_law_2202 : Dc code 2202 (.aload_n 2) 1 2203 := dc_of tkL_100 6 rfl rfl
theorem dL_law_2203 : Dc code 2203 (.invokevirtual 246) 3 2206 := dc_of tkL_100 7 rfl rfl
theorem dL_law_2206 : Dc code 2206 (.if_icmp .eq 28) 3 2209 := dc_of tkL_100 8 rfl rfl
theorem dL_law_2209 : Dc code 2209 (.iconst 0) 1 2210 := dc_of tkL_100 9 rfl rfl
theorem dL_law_2210 : Dc code 2210 (.ireturn) 1 2211 := dc_of tkL_100 10 rfl rfl
theorem dL_law_2211 : Dc code 2211 (.aload_n 1) 1 2212 := dc_of tkL_100 11 rfl rfl
theorem dL_law_2212 : Dc code 2212 (.aload_n 0) 1 2213 := dc_of tkL_100 12 rfl rfl
theorem dL_law_2213 : Dc code 2213 (.iload_n 3) 1 2214 := dc_of tkL_100 13 rfl rfl
theorem dL_law_2214 : Dc code 2214 (.iconst 1) 1 2215 := dc_of tkL_100 14 rfl rfl
theorem dL_law_2215 : Dc code 2215 (.iadd) 1 2216 := dc_of tkL_100 15 rfl rfl
def tbL_101 : List (Nat × Instr × Nat) := [(2216, .iaload, 1), (2217, .invokevirtual 247, 3), (2220, .aload_n 2, 1), (2221, .aload_n 0, 1), (2222, .iload_n 3, 1), (2223, .iconst 1, 1), (2224, .iadd, 1), (2225, .iaload, 1), (2226, .invokevirtual 250, 3), (2229, .if_icmp .eq 5, 3), (2232, .iconst 0, 1), (2233, .ireturn, 1), (2234, .iinc 3 6, 3), (2237, .goto (-2219), 3), (2240, .iconst 1, 1), (2241, .ireturn, 1)]
theorem tkL_101 : tbL_101.all (fun q => decide (decode code q.1 = .ok q.2)) = true := by decide +kernel
theorem dL_law_2216 : Dc code 2216 (.iaload) 1 2217 := dc_of tkL_101 0 rfl rfl
theorem dL_law_2217 : Dc code 2217 (.invokevirtual 247) 3 2220 := dc_of tkL_101 1 rfl rfl
theorem dL_law_2220 : Dc code 2220 (.aload_n 2) 1 2221 := dc_of tkL_101 2 rfl rfl
theorem dL_law_2221 : Dc code 2221 (.aload_n 0) 1 2222 := dc_of tkL_101 3 rfl rfl
theorem dL_law_2222 : Dc code 2222 (.iload_n 3) 1 2223 := dc_of tkL_101 4 rfl rfl
theorem dL_law_2223 : Dc code 2223 (.iconst 1) 1 2224 := dc_of tkL_101 5 rfl rfl
theorem dL_law_2224 : Dc code 2224 (.iadd) 1 2225 := dc_of tkL_101 6 rfl rfl
theorem dL_law_2225 : Dc code 2225 (.iaload) 1 2226 := dc_of tkL_101 7 rfl rfl
theorem dL_law_2226 : Dc code 2226 (.invokevirtual 250) 3 2229 := dc_of tkL_101 8 rfl rfl
theorem dL_law_2229 : Dc code 2229 (.if_icmp .eq 5) 3 2232 := dc_of tkL_101 9 rfl rfl
theorem dL_law_2232 : Dc code 2232 (.iconst 0) 1 2233 := dc_of tkL_101 10 rfl rfl
theorem dL_law_2233 : Dc code 2233 (.ireturn) 1 2234 := dc_of tkL_101 11 rfl rfl
theorem dL_law_2234 : Dc code 2234 (.iinc 3 6) 3 2237 := dc_of tkL_101 12 rfl rfl
theorem dL_law_2237 : Dc code 2237 (.goto (-2219)) 3 2240 := dc_of tkL_101 13 rfl rfl
theorem dL_law_2240 : Dc code 2240 (.iconst 1) 1 2241 := dc_of tkL_101 14 rfl rfl
theorem dL_law_2241 : Dc code 2241 (.ireturn) 1 2242 := dc_of tkL_101 15 rfl rfl
theorem cal_X12_read : Cal yX12_read cX12_read 3 (some .int) 2 := ⟨wsT_in (tb_9 (List.mem_of_getElem? (i := 128) rfl)) rfl, wsT_in (tb_1 (List.mem_of_getElem? (i := 13) rfl)) rfl, by decide, by decide, by decide +kernel⟩
theorem cv_X12_read : CalV yX12_read RX12 := ⟨wsT_in (tb_9 (List.mem_of_getElem? (i := 126) rfl)) rfl, wsT_in (tb_9 (List.mem_of_getElem? (i := 127) rfl)) rfl⟩
theorem cal_X11_person : Cal yX11_person cX11_person 4 (some .int) 3 := ⟨wsT_in (tb_3 (List.mem_of_getElem? (i := 73) rfl)) rfl, wsT_in (tb_1 (List.mem_of_getElem? (i := 1) rfl)) rfl, by decide, by decide, by decide +kernel⟩
theorem cv_X11_person : CalV yX11_person RX11 := ⟨wsT_in (tb_3 (List.mem_of_getElem? (i := 71) rfl)) rfl, wsT_in (tb_3 (List.mem_of_getElem? (i := 72) rfl)) rfl⟩
theorem cal_X12_ask : Cal yX12_ask cX12_ask 4 (some .int) 2 := ⟨wsT_in (tb_8 (List.mem_of_getElem? (i := 117) rfl)) rfl, wsT_in (tb_1 (List.mem_of_getElem? (i := 13) rfl)) rfl, by decide, by decide, by decide +kernel⟩
theorem cv_X12_ask : CalV yX12_ask RX12 := ⟨wsT_in (tb_8 (List.mem_of_getElem? (i := 115) rfl)) rfl, wsT_in (tb_8 (List.mem_of_getElem? (i := 116) rfl)) rfl⟩
theorem cal_X12_count : Cal yX12_count cX12_count 4 (some .int) 1 := ⟨wsT_in (tb_10 (List.mem_of_getElem? (i := 19) rfl)) rfl, wsT_in (tb_1 (List.mem_of_getElem? (i := 13) rfl)) rfl, by decide, by decide, by decide +kernel⟩
theorem cv_X12_count : CalV yX12_count RX12 := ⟨wsT_in (tb_10 (List.mem_of_getElem? (i := 17) rfl)) rfl, wsT_in (tb_10 (List.mem_of_getElem? (i := 18) rfl)) rfl⟩
theorem cal_X11_owed : Cal yX11_owed cX11_owed 4 (some .int) 1 := ⟨wsT_in (tb_6 (List.mem_of_getElem? (i := 82) rfl)) rfl, wsT_in (tb_1 (List.mem_of_getElem? (i := 1) rfl)) rfl, by decide, by decide, by decide +kernel⟩
theorem cv_X11_owed : CalV yX11_owed RX11 := ⟨wsT_in (tb_6 (List.mem_of_getElem? (i := 80) rfl)) rfl, wsT_in (tb_6 (List.mem_of_getElem? (i := 81) rfl)) rfl⟩
theorem cal_X11_die : Cal yX11_die cX11_die 2 (some .int) 1 := ⟨wsT_in (tb_3 (List.mem_of_getElem? (i := 94) rfl)) rfl, wsT_in (tb_1 (List.mem_of_getElem? (i := 1) rfl)) rfl, by decide, by decide, by decide +kernel⟩
theorem cv_X11_die : CalV yX11_die RX11 := ⟨wsT_in (tb_3 (List.mem_of_getElem? (i := 92) rfl)) rfl, wsT_in (tb_3 (List.mem_of_getElem? (i := 93) rfl)) rfl⟩
theorem cal_X12_back : Cal yX12_back cX12_back 2 (some .int) 0 := ⟨wsT_in (tb_10 (List.mem_of_getElem? (i := 15) rfl)) rfl, wsT_in (tb_1 (List.mem_of_getElem? (i := 13) rfl)) rfl, by decide, by decide, by decide +kernel⟩
theorem cv_X12_back : CalV yX12_back RX12 := ⟨wsT_in (tb_10 (List.mem_of_getElem? (i := 13) rfl)) rfl, wsT_in (tb_10 (List.mem_of_getElem? (i := 14) rfl)) rfl⟩
theorem cal_X11_tie : Cal yX11_tie cX11_tie 6 (some .int) 4 := ⟨wsT_in (tb_3 (List.mem_of_getElem? (i := 119) rfl)) rfl, wsT_in (tb_1 (List.mem_of_getElem? (i := 1) rfl)) rfl, by decide, by decide, by decide +kernel⟩
theorem cv_X11_tie : CalV yX11_tie RX11 := ⟨wsT_in (tb_3 (List.mem_of_getElem? (i := 117) rfl)) rfl, wsT_in (tb_3 (List.mem_of_getElem? (i := 118) rfl)) rfl⟩
theorem cal_X11_gates : Cal yX11_gates cX11_gates 2 (some .int) 1 := ⟨wsT_in (tb_6 (List.mem_of_getElem? (i := 138) rfl)) rfl, wsT_in (tb_1 (List.mem_of_getElem? (i := 1) rfl)) rfl, by decide, by decide, by decide +kernel⟩
theorem cv_X11_gates : CalV yX11_gates RX11 := ⟨wsT_in (tb_6 (List.mem_of_getElem? (i := 136) rfl)) rfl, wsT_in (tb_6 (List.mem_of_getElem? (i := 137) rfl)) rfl⟩
theorem cal_X12_owed : Cal yX12_owed cX12_owed 2 (some .int) 1 := ⟨wsT_in (tb_9 (List.mem_of_getElem? (i := 153) rfl)) rfl, wsT_in (tb_1 (List.mem_of_getElem? (i := 13) rfl)) rfl, by decide, by decide, by decide +kernel⟩
theorem cv_X12_owed : CalV yX12_owed RX12 := ⟨wsT_in (tb_9 (List.mem_of_getElem? (i := 151) rfl)) rfl, wsT_in (tb_9 (List.mem_of_getElem? (i := 152) rfl)) rfl⟩
theorem cal_X11_of : Cal yX11_of cX11_of 4 (some .int) 2 := ⟨wsT_in (tb_5 (List.mem_of_getElem? (i := 95) rfl)) rfl, wsT_in (tb_1 (List.mem_of_getElem? (i := 1) rfl)) rfl, by decide, by decide, by decide +kernel⟩
theorem cv_X11_of : CalV yX11_of RX11 := ⟨wsT_in (tb_5 (List.mem_of_getElem? (i := 93) rfl)) rfl, wsT_in (tb_5 (List.mem_of_getElem? (i := 94) rfl)) rfl⟩
theorem cal_X11_run : Cal yX11_run cX11_run 3 (some .int) 1 := ⟨wsT_in (tb_4 (List.mem_of_getElem? (i := 54) rfl)) rfl, wsT_in (tb_1 (List.mem_of_getElem? (i := 1) rfl)) rfl, by decide, by decide, by decide +kernel⟩
theorem cv_X11_run : CalV yX11_run RX11 := ⟨wsT_in (tb_4 (List.mem_of_getElem? (i := 52) rfl)) rfl, wsT_in (tb_4 (List.mem_of_getElem? (i := 53) rfl)) rfl⟩
theorem cal_X12_counts : Cal yX12_counts cX12_counts 3 (some .int) 2 := ⟨wsT_in (tb_9 (List.mem_of_getElem? (i := 23) rfl)) rfl, wsT_in (tb_1 (List.mem_of_getElem? (i := 13) rfl)) rfl, by decide, by decide, by decide +kernel⟩
theorem cv_X12_counts : CalV yX12_counts RX12 := ⟨wsT_in (tb_9 (List.mem_of_getElem? (i := 21) rfl)) rfl, wsT_in (tb_9 (List.mem_of_getElem? (i := 22) rfl)) rfl⟩
theorem cal_X11_house : Cal yX11_house cX11_house 7 (some .int) 4 := ⟨wsT_in (tb_5 (List.mem_of_getElem? (i := 155) rfl)) rfl, wsT_in (tb_1 (List.mem_of_getElem? (i := 1) rfl)) rfl, by decide, by decide, by decide +kernel⟩
theorem cv_X11_house : CalV yX11_house RX11 := ⟨wsT_in (tb_5 (List.mem_of_getElem? (i := 153) rfl)) rfl, wsT_in (tb_5 (List.mem_of_getElem? (i := 154) rfl)) rfl⟩
theorem cal_X12_tie : Cal yX12_tie cX12_tie 6 (some .int) 4 := ⟨wsT_in (tb_7 (List.mem_of_getElem? (i := 234) rfl)) rfl, wsT_in (tb_1 (List.mem_of_getElem? (i := 13) rfl)) rfl, by decide, by decide, by decide +kernel⟩
theorem cv_X12_tie : CalV yX12_tie RX12 := ⟨wsT_in (tb_7 (List.mem_of_getElem? (i := 232) rfl)) rfl, wsT_in (tb_7 (List.mem_of_getElem? (i := 233) rfl)) rfl⟩
theorem cal_X12_told : Cal yX12_told cX12_told 4 (some .int) 2 := ⟨wsT_in (tb_8 (List.mem_of_getElem? (i := 29) rfl)) rfl, wsT_in (tb_1 (List.mem_of_getElem? (i := 13) rfl)) rfl, by decide, by decide, by decide +kernel⟩
theorem cv_X12_told : CalV yX12_told RX12 := ⟨wsT_in (tb_8 (List.mem_of_getElem? (i := 27) rfl)) rfl, wsT_in (tb_8 (List.mem_of_getElem? (i := 28) rfl)) rfl⟩
theorem cal_X11_kinship : Cal yX11_kinship cX11_kinship 3 (some .int) 2 := ⟨wsT_in (tb_3 (List.mem_of_getElem? (i := 184) rfl)) rfl, wsT_in (tb_1 (List.mem_of_getElem? (i := 1) rfl)) rfl, by decide, by decide, by decide +kernel⟩
theorem cv_X11_kinship : CalV yX11_kinship RX11 := ⟨wsT_in (tb_3 (List.mem_of_getElem? (i := 182) rfl)) rfl, wsT_in (tb_3 (List.mem_of_getElem? (i := 183) rfl)) rfl⟩
theorem cal_X12_keep : Cal yX12_keep cX12_keep 2 (some .int) 0 := ⟨wsT_in (tb_10 (List.mem_of_getElem? (i := 11) rfl)) rfl, wsT_in (tb_1 (List.mem_of_getElem? (i := 13) rfl)) rfl, by decide, by decide, by decide +kernel⟩
theorem cv_X12_keep : CalV yX12_keep RX12 := ⟨wsT_in (tb_10 (List.mem_of_getElem? (i := 9) rfl)) rfl, wsT_in (tb_10 (List.mem_of_getElem? (i := 10) rfl)) rfl⟩
theorem cal_X11_stop : Cal yX11_stop cX11_stop 4 (some .int) 3 := ⟨wsT_in (tb_5 (List.mem_of_getElem? (i := 196) rfl)) rfl, wsT_in (tb_1 (List.mem_of_getElem? (i := 1) rfl)) rfl, by decide, by decide, by decide +kernel⟩
theorem cv_X11_stop : CalV yX11_stop RX11 := ⟨wsT_in (tb_5 (List.mem_of_getElem? (i := 194) rfl)) rfl, wsT_in (tb_5 (List.mem_of_getElem? (i := 195) rfl)) rfl⟩
theorem cal_X11_waiting : Cal yX11_waiting cX11_waiting 2 (some .int) 1 := ⟨wsT_in (tb_6 (List.mem_of_getElem? (i := 124) rfl)) rfl, wsT_in (tb_1 (List.mem_of_getElem? (i := 1) rfl)) rfl, by decide, by decide, by decide +kernel⟩
theorem cv_X11_waiting : CalV yX11_waiting RX11 := ⟨wsT_in (tb_6 (List.mem_of_getElem? (i := 122) rfl)) rfl, wsT_in (tb_6 (List.mem_of_getElem? (i := 123) rfl)) rfl⟩
theorem cal_X11_alike : Cal yX11_alike cX11_alike 3 (some .int) 2 := ⟨wsT_in (tb_5 (List.mem_of_getElem? (i := 224) rfl)) rfl, wsT_in (tb_1 (List.mem_of_getElem? (i := 1) rfl)) rfl, by decide, by decide, by decide +kernel⟩
theorem cv_X11_alike : CalV yX11_alike RX11 := ⟨wsT_in (tb_5 (List.mem_of_getElem? (i := 222) rfl)) rfl, wsT_in (tb_5 (List.mem_of_getElem? (i := 223) rfl)) rfl⟩
theorem cal_X12_waiting : Cal yX12_waiting cX12_waiting 2 (some .int) 1 := ⟨wsT_in (tb_9 (List.mem_of_getElem? (i := 178) rfl)) rfl, wsT_in (tb_1 (List.mem_of_getElem? (i := 13) rfl)) rfl, by decide, by decide, by decide +kernel⟩
theorem cv_X12_waiting : CalV yX12_waiting RX12 := ⟨wsT_in (tb_9 (List.mem_of_getElem? (i := 176) rfl)) rfl, wsT_in (tb_9 (List.mem_of_getElem? (i := 177) rfl)) rfl⟩
theorem cal_X11_call : Cal yX11_call cX11_call 4 (some .int) 3 := ⟨wsT_in (tb_4 (List.mem_of_getElem? (i := 45) rfl)) rfl, wsT_in (tb_1 (List.mem_of_getElem? (i := 1) rfl)) rfl, by decide, by decide, by decide +kernel⟩
theorem cv_X11_call : CalV yX11_call RX11 := ⟨wsT_in (tb_4 (List.mem_of_getElem? (i := 43) rfl)) rfl, wsT_in (tb_4 (List.mem_of_getElem? (i := 44) rfl)) rfl⟩
theorem cal_X12_house : Cal yX12_house cX12_house 7 (some .int) 4 := ⟨wsT_in (tb_9 (List.mem_of_getElem? (i := 47) rfl)) rfl, wsT_in (tb_1 (List.mem_of_getElem? (i := 13) rfl)) rfl, by decide, by decide, by decide +kernel⟩
theorem cv_X12_house : CalV yX12_house RX12 := ⟨wsT_in (tb_9 (List.mem_of_getElem? (i := 45) rfl)) rfl, wsT_in (tb_9 (List.mem_of_getElem? (i := 46) rfl)) rfl⟩
theorem cal_X12_pairing : Cal yX12_pairing cX12_pairing 3 (some .int) 1 := ⟨wsT_in (tb_9 (List.mem_of_getElem? (i := 110) rfl)) rfl, wsT_in (tb_1 (List.mem_of_getElem? (i := 13) rfl)) rfl, by decide, by decide, by decide +kernel⟩
theorem cv_X12_pairing : CalV yX12_pairing RX12 := ⟨wsT_in (tb_9 (List.mem_of_getElem? (i := 108) rfl)) rfl, wsT_in (tb_9 (List.mem_of_getElem? (i := 109) rfl)) rfl⟩
theorem cal_X12_kinship : Cal yX12_kinship cX12_kinship 3 (some .int) 2 := ⟨wsT_in (tb_8 (List.mem_of_getElem? (i := 55) rfl)) rfl, wsT_in (tb_1 (List.mem_of_getElem? (i := 13) rfl)) rfl, by decide, by decide, by decide +kernel⟩
theorem cv_X12_kinship : CalV yX12_kinship RX12 := ⟨wsT_in (tb_8 (List.mem_of_getElem? (i := 53) rfl)) rfl, wsT_in (tb_8 (List.mem_of_getElem? (i := 54) rfl)) rfl⟩
theorem cal_X11_coin : Cal yX11_coin cX11_coin 6 (some .int) 2 := ⟨wsT_in (tb_6 (List.mem_of_getElem? (i := 112) rfl)) rfl, wsT_in (tb_1 (List.mem_of_getElem? (i := 1) rfl)) rfl, by decide, by decide, by decide +kernel⟩
theorem cv_X11_coin : CalV yX11_coin RX11 := ⟨wsT_in (tb_6 (List.mem_of_getElem? (i := 110) rfl)) rfl, wsT_in (tb_6 (List.mem_of_getElem? (i := 111) rfl)) rfl⟩
theorem cal_X11_meter : Cal yX11_meter cX11_meter 4 (some .int) 3 := ⟨wsT_in (tb_6 (List.mem_of_getElem? (i := 36) rfl)) rfl, wsT_in (tb_1 (List.mem_of_getElem? (i := 1) rfl)) rfl, by decide, by decide, by decide +kernel⟩
theorem cv_X11_meter : CalV yX11_meter RX11 := ⟨wsT_in (tb_6 (List.mem_of_getElem? (i := 34) rfl)) rfl, wsT_in (tb_6 (List.mem_of_getElem? (i := 35) rfl)) rfl⟩
theorem cal_X12_feast : Cal yX12_feast cX12_feast 4 (some .int) 3 := ⟨wsT_in (tb_9 (List.mem_of_getElem? (i := 173) rfl)) rfl, wsT_in (tb_1 (List.mem_of_getElem? (i := 13) rfl)) rfl, by decide, by decide, by decide +kernel⟩
theorem cv_X12_feast : CalV yX12_feast RX12 := ⟨wsT_in (tb_9 (List.mem_of_getElem? (i := 171) rfl)) rfl, wsT_in (tb_9 (List.mem_of_getElem? (i := 172) rfl)) rfl⟩
theorem cal_X11_change : Cal yX11_change cX11_change 4 (some .int) 2 := ⟨wsT_in (tb_3 (List.mem_of_getElem? (i := 176) rfl)) rfl, wsT_in (tb_1 (List.mem_of_getElem? (i := 1) rfl)) rfl, by decide, by decide, by decide +kernel⟩
theorem cv_X11_change : CalV yX11_change RX11 := ⟨wsT_in (tb_3 (List.mem_of_getElem? (i := 174) rfl)) rfl, wsT_in (tb_3 (List.mem_of_getElem? (i := 175) rfl)) rfl⟩
theorem cal_X11_water : Cal yX11_water cX11_water 4 (some .int) 3 := ⟨wsT_in (tb_3 (List.mem_of_getElem? (i := 59) rfl)) rfl, wsT_in (tb_1 (List.mem_of_getElem? (i := 1) rfl)) rfl, by decide, by decide, by decide +kernel⟩
theorem cv_X11_water : CalV yX11_water RX11 := ⟨wsT_in (tb_3 (List.mem_of_getElem? (i := 57) rfl)) rfl, wsT_in (tb_3 (List.mem_of_getElem? (i := 58) rfl)) rfl⟩
theorem cal_X12_person : Cal yX12_person cX12_person 5 (some .int) 3 := ⟨wsT_in (tb_7 (List.mem_of_getElem? (i := 185) rfl)) rfl, wsT_in (tb_1 (List.mem_of_getElem? (i := 13) rfl)) rfl, by decide, by decide, by decide +kernel⟩
theorem cv_X12_person : CalV yX12_person RX12 := ⟨wsT_in (tb_7 (List.mem_of_getElem? (i := 183) rfl)) rfl, wsT_in (tb_7 (List.mem_of_getElem? (i := 184) rfl)) rfl⟩
theorem cal_X11_counts : Cal yX11_counts cX11_counts 3 (some .int) 2 := ⟨wsT_in (tb_5 (List.mem_of_getElem? (i := 109) rfl)) rfl, wsT_in (tb_1 (List.mem_of_getElem? (i := 1) rfl)) rfl, by decide, by decide, by decide +kernel⟩
theorem cv_X11_counts : CalV yX11_counts RX11 := ⟨wsT_in (tb_5 (List.mem_of_getElem? (i := 107) rfl)) rfl, wsT_in (tb_5 (List.mem_of_getElem? (i := 108) rfl)) rfl⟩
theorem cal_X12_why : Cal yX12_why cX12_why 2 (some .int) 1 := ⟨wsT_in (tb_8 (List.mem_of_getElem? (i := 82) rfl)) rfl, wsT_in (tb_1 (List.mem_of_getElem? (i := 13) rfl)) rfl, by decide, by decide, by decide +kernel⟩
theorem cv_X12_why : CalV yX12_why RX12 := ⟨wsT_in (tb_8 (List.mem_of_getElem? (i := 80) rfl)) rfl, wsT_in (tb_8 (List.mem_of_getElem? (i := 81) rfl)) rfl⟩
theorem cal_X12_check : Cal yX12_check cX12_check 6 (some .int) 2 := ⟨wsT_in (tb_9 (List.mem_of_getElem? (i := 226) rfl)) rfl, wsT_in (tb_1 (List.mem_of_getElem? (i := 13) rfl)) rfl, by decide, by decide, by decide +kernel⟩
theorem cv_X12_check : CalV yX12_check RX12 := ⟨wsT_in (tb_9 (List.mem_of_getElem? (i := 224) rfl)) rfl, wsT_in (tb_9 (List.mem_of_getElem? (i := 225) rfl)) rfl⟩
theorem cal_X12_rule : Cal yX12_rule cX12_rule 3 (some .int) 2 := ⟨wsT_in (tb_9 (List.mem_of_getElem? (i := 169) rfl)) rfl, wsT_in (tb_1 (List.mem_of_getElem? (i := 13) rfl)) rfl, by decide, by decide, by decide +kernel⟩
theorem cv_X12_rule : CalV yX12_rule RX12 := ⟨wsT_in (tb_9 (List.mem_of_getElem? (i := 167) rfl)) rfl, wsT_in (tb_9 (List.mem_of_getElem? (i := 168) rfl)) rfl⟩
theorem cal_X12_stop : Cal yX12_stop cX12_stop 5 (some .int) 3 := ⟨wsT_in (tb_9 (List.mem_of_getElem? (i := 76) rfl)) rfl, wsT_in (tb_1 (List.mem_of_getElem? (i := 13) rfl)) rfl, by decide, by decide, by decide +kernel⟩
theorem cv_X12_stop : CalV yX12_stop RX12 := ⟨wsT_in (tb_9 (List.mem_of_getElem? (i := 74) rfl)) rfl, wsT_in (tb_9 (List.mem_of_getElem? (i := 75) rfl)) rfl⟩
theorem cal_X11_flow : Cal yX11_flow cX11_flow 2 (some .int) 1 := ⟨wsT_in (tb_5 (List.mem_of_getElem? (i := 161) rfl)) rfl, wsT_in (tb_1 (List.mem_of_getElem? (i := 1) rfl)) rfl, by decide, by decide, by decide +kernel⟩
theorem cv_X11_flow : CalV yX11_flow RX11 := ⟨wsT_in (tb_5 (List.mem_of_getElem? (i := 159) rfl)) rfl, wsT_in (tb_5 (List.mem_of_getElem? (i := 160) rfl)) rfl⟩
theorem cal_X11_keep : Cal yX11_keep cX11_keep 1 (some .int) 0 := ⟨wsT_in (tb_7 (List.mem_of_getElem? (i := 14) rfl)) rfl, wsT_in (tb_1 (List.mem_of_getElem? (i := 1) rfl)) rfl, by decide, by decide, by decide +kernel⟩
theorem cv_X11_keep : CalV yX11_keep RX11 := ⟨wsT_in (tb_7 (List.mem_of_getElem? (i := 12) rfl)) rfl, wsT_in (tb_7 (List.mem_of_getElem? (i := 13) rfl)) rfl⟩
theorem cal_X11_feed : Cal yX11_feed cX11_feed 4 (some .int) 3 := ⟨wsT_in (tb_4 (List.mem_of_getElem? (i := 131) rfl)) rfl, wsT_in (tb_1 (List.mem_of_getElem? (i := 1) rfl)) rfl, by decide, by decide, by decide +kernel⟩
theorem cv_X11_feed : CalV yX11_feed RX11 := ⟨wsT_in (tb_4 (List.mem_of_getElem? (i := 129) rfl)) rfl, wsT_in (tb_4 (List.mem_of_getElem? (i := 130) rfl)) rfl⟩
theorem cal_X11_as : Cal yX11_as cX11_as 3 (some .int) 2 := ⟨wsT_in (tb_3 (List.mem_of_getElem? (i := 166) rfl)) rfl, wsT_in (tb_1 (List.mem_of_getElem? (i := 1) rfl)) rfl, by decide, by decide, by decide +kernel⟩
theorem cv_X11_as : CalV yX11_as RX11 := ⟨wsT_in (tb_3 (List.mem_of_getElem? (i := 164) rfl)) rfl, wsT_in (tb_3 (List.mem_of_getElem? (i := 165) rfl)) rfl⟩
theorem cal_X11_letter : Cal yX11_letter cX11_letter 3 (some .int) 2 := ⟨wsT_in (tb_4 (List.mem_of_getElem? (i := 37) rfl)) rfl, wsT_in (tb_1 (List.mem_of_getElem? (i := 1) rfl)) rfl, by decide, by decide, by decide +kernel⟩
theorem cv_X11_letter : CalV yX11_letter RX11 := ⟨wsT_in (tb_4 (List.mem_of_getElem? (i := 35) rfl)) rfl, wsT_in (tb_4 (List.mem_of_getElem? (i := 36) rfl)) rfl⟩
theorem cal_X12_parcel : Cal yX12_parcel cX12_parcel 5 (some .int) 3 := ⟨wsT_in (tb_8 (List.mem_of_getElem? (i := 17) rfl)) rfl, wsT_in (tb_1 (List.mem_of_getElem? (i := 13) rfl)) rfl, by decide, by decide, by decide +kernel⟩
theorem cv_X12_parcel : CalV yX12_parcel RX12 := ⟨wsT_in (tb_8 (List.mem_of_getElem? (i := 15) rfl)) rfl, wsT_in (tb_8 (List.mem_of_getElem? (i := 16) rfl)) rfl⟩
theorem cal_X11_text : Cal yX11_text cX11_text 4 (some .int) 2 := ⟨wsT_in (tb_4 (List.mem_of_getElem? (i := 143) rfl)) rfl, wsT_in (tb_1 (List.mem_of_getElem? (i := 1) rfl)) rfl, by decide, by decide, by decide +kernel⟩
theorem cv_X11_text : CalV yX11_text RX11 := ⟨wsT_in (tb_4 (List.mem_of_getElem? (i := 141) rfl)) rfl, wsT_in (tb_4 (List.mem_of_getElem? (i := 142) rfl)) rfl⟩
theorem cal_X12_lack : Cal yX12_lack cX12_lack 2 (some .int) 1 := ⟨wsT_in (tb_9 (List.mem_of_getElem? (i := 64) rfl)) rfl, wsT_in (tb_1 (List.mem_of_getElem? (i := 13) rfl)) rfl, by decide, by decide, by decide +kernel⟩
theorem cv_X12_lack : CalV yX12_lack RX12 := ⟨wsT_in (tb_9 (List.mem_of_getElem? (i := 62) rfl)) rfl, wsT_in (tb_9 (List.mem_of_getElem? (i := 63) rfl)) rfl⟩
theorem cal_X11_is : Cal yX11_is cX11_is 4 (some .int) 2 := ⟨wsT_in (tb_3 (List.mem_of_getElem? (i := 82) rfl)) rfl, wsT_in (tb_1 (List.mem_of_getElem? (i := 1) rfl)) rfl, by decide, by decide, by decide +kernel⟩
theorem cv_X11_is : CalV yX11_is RX11 := ⟨wsT_in (tb_3 (List.mem_of_getElem? (i := 80) rfl)) rfl, wsT_in (tb_3 (List.mem_of_getElem? (i := 81) rfl)) rfl⟩
theorem cal_X12_call : Cal yX12_call cX12_call 5 (some .int) 3 := ⟨wsT_in (tb_8 (List.mem_of_getElem? (i := 125) rfl)) rfl, wsT_in (tb_1 (List.mem_of_getElem? (i := 13) rfl)) rfl, by decide, by decide, by decide +kernel⟩
theorem cv_X12_call : CalV yX12_call RX12 := ⟨wsT_in (tb_8 (List.mem_of_getElem? (i := 123) rfl)) rfl, wsT_in (tb_8 (List.mem_of_getElem? (i := 124) rfl)) rfl⟩
theorem cal_X11_trim : Cal yX11_trim cX11_trim 2 (some .int) 1 := ⟨wsT_in (tb_4 (List.mem_of_getElem? (i := 139) rfl)) rfl, wsT_in (tb_1 (List.mem_of_getElem? (i := 1) rfl)) rfl, by decide, by decide, by decide +kernel⟩
theorem cv_X11_trim : CalV yX11_trim RX11 := ⟨wsT_in (tb_4 (List.mem_of_getElem? (i := 137) rfl)) rfl, wsT_in (tb_4 (List.mem_of_getElem? (i := 138) rfl)) rfl⟩
theorem cal_X11_pairing : Cal yX11_pairing cX11_pairing 2 (some .int) 1 := ⟨wsT_in (tb_6 (List.mem_of_getElem? (i := 4) rfl)) rfl, wsT_in (tb_1 (List.mem_of_getElem? (i := 1) rfl)) rfl, by decide, by decide, by decide +kernel⟩
theorem cv_X11_pairing : CalV yX11_pairing RX11 := ⟨wsT_in (tb_6 (List.mem_of_getElem? (i := 2) rfl)) rfl, wsT_in (tb_6 (List.mem_of_getElem? (i := 3) rfl)) rfl⟩
theorem cal_X11_file : Cal yX11_file cX11_file 4 (some .int) 3 := ⟨wsT_in (tb_5 (List.mem_of_getElem? (i := 216) rfl)) rfl, wsT_in (tb_1 (List.mem_of_getElem? (i := 1) rfl)) rfl, by decide, by decide, by decide +kernel⟩
theorem cv_X11_file : CalV yX11_file RX11 := ⟨wsT_in (tb_5 (List.mem_of_getElem? (i := 214) rfl)) rfl, wsT_in (tb_5 (List.mem_of_getElem? (i := 215) rfl)) rfl⟩
theorem cal_X12_file : Cal yX12_file cX12_file 5 (some .int) 3 := ⟨wsT_in (tb_9 (List.mem_of_getElem? (i := 89) rfl)) rfl, wsT_in (tb_1 (List.mem_of_getElem? (i := 13) rfl)) rfl, by decide, by decide, by decide +kernel⟩
theorem cv_X12_file : CalV yX12_file RX12 := ⟨wsT_in (tb_9 (List.mem_of_getElem? (i := 87) rfl)) rfl, wsT_in (tb_9 (List.mem_of_getElem? (i := 88) rfl)) rfl⟩
theorem cal_X11_put : Cal yX11_put cX11_put 6 (some .int) 3 := ⟨wsT_in (tb_6 (List.mem_of_getElem? (i := 46) rfl)) rfl, wsT_in (tb_1 (List.mem_of_getElem? (i := 1) rfl)) rfl, by decide, by decide, by decide +kernel⟩
theorem cv_X11_put : CalV yX11_put RX11 := ⟨wsT_in (tb_6 (List.mem_of_getElem? (i := 44) rfl)) rfl, wsT_in (tb_6 (List.mem_of_getElem? (i := 45) rfl)) rfl⟩
theorem cal_X12_text : Cal yX12_text cX12_text 6 (some .int) 2 := ⟨wsT_in (tb_8 (List.mem_of_getElem? (i := 178) rfl)) rfl, wsT_in (tb_1 (List.mem_of_getElem? (i := 13) rfl)) rfl, by decide, by decide, by decide +kernel⟩
theorem cv_X12_text : CalV yX12_text RX12 := ⟨wsT_in (tb_8 (List.mem_of_getElem? (i := 176) rfl)) rfl, wsT_in (tb_8 (List.mem_of_getElem? (i := 177) rfl)) rfl⟩
theorem cal_X12_gate : Cal yX12_gate cX12_gate 4 (some .int) 3 := ⟨wsT_in (tb_8 (List.mem_of_getElem? (i := 50) rfl)) rfl, wsT_in (tb_1 (List.mem_of_getElem? (i := 13) rfl)) rfl, by decide, by decide, by decide +kernel⟩
theorem cv_X12_gate : CalV yX12_gate RX12 := ⟨wsT_in (tb_8 (List.mem_of_getElem? (i := 48) rfl)) rfl, wsT_in (tb_8 (List.mem_of_getElem? (i := 49) rfl)) rfl⟩
theorem cal_X12_unlike : Cal yX12_unlike cX12_unlike 8 (some .int) 3 := ⟨wsT_in (tb_9 (List.mem_of_getElem? (i := 31) rfl)) rfl, wsT_in (tb_1 (List.mem_of_getElem? (i := 13) rfl)) rfl, by decide, by decide, by decide +kernel⟩
theorem cv_X12_unlike : CalV yX12_unlike RX12 := ⟨wsT_in (tb_9 (List.mem_of_getElem? (i := 29) rfl)) rfl, wsT_in (tb_9 (List.mem_of_getElem? (i := 30) rfl)) rfl⟩
theorem cal_X11_cell : Cal yX11_cell cX11_cell 2 (some .int) 1 := ⟨wsT_in (tb_3 (List.mem_of_getElem? (i := 46) rfl)) rfl, wsT_in (tb_1 (List.mem_of_getElem? (i := 1) rfl)) rfl, by decide, by decide, by decide +kernel⟩
theorem cv_X11_cell : CalV yX11_cell RX11 := ⟨wsT_in (tb_3 (List.mem_of_getElem? (i := 44) rfl)) rfl, wsT_in (tb_3 (List.mem_of_getElem? (i := 45) rfl)) rfl⟩
theorem cal_X12_change : Cal yX12_change cX12_change 4 (some .int) 2 := ⟨wsT_in (tb_8 (List.mem_of_getElem? (i := 46) rfl)) rfl, wsT_in (tb_1 (List.mem_of_getElem? (i := 13) rfl)) rfl, by decide, by decide, by decide +kernel⟩
theorem cv_X12_change : CalV yX12_change RX12 := ⟨wsT_in (tb_8 (List.mem_of_getElem? (i := 44) rfl)) rfl, wsT_in (tb_8 (List.mem_of_getElem? (i := 45) rfl)) rfl⟩
theorem cal_X12_copy : Cal yX12_copy cX12_copy 7 (some .int) 5 := ⟨wsT_in (tb_9 (List.mem_of_getElem? (i := 144) rfl)) rfl, wsT_in (tb_1 (List.mem_of_getElem? (i := 13) rfl)) rfl, by decide, by decide, by decide +kernel⟩
theorem cv_X12_copy : CalV yX12_copy RX12 := ⟨wsT_in (tb_9 (List.mem_of_getElem? (i := 142) rfl)) rfl, wsT_in (tb_9 (List.mem_of_getElem? (i := 143) rfl)) rfl⟩
theorem cal_X11_strike : Cal yX11_strike cX11_strike 2 (some .int) 1 := ⟨wsT_in (tb_5 (List.mem_of_getElem? (i := 103) rfl)) rfl, wsT_in (tb_1 (List.mem_of_getElem? (i := 1) rfl)) rfl, by decide, by decide, by decide +kernel⟩
theorem cv_X11_strike : CalV yX11_strike RX11 := ⟨wsT_in (tb_5 (List.mem_of_getElem? (i := 101) rfl)) rfl, wsT_in (tb_5 (List.mem_of_getElem? (i := 102) rfl)) rfl⟩
theorem cal_X12_strike : Cal yX12_strike cX12_strike 2 (some .int) 1 := ⟨wsT_in (tb_9 (List.mem_of_getElem? (i := 19) rfl)) rfl, wsT_in (tb_1 (List.mem_of_getElem? (i := 13) rfl)) rfl, by decide, by decide, by decide +kernel⟩
theorem cv_X12_strike : CalV yX12_strike RX12 := ⟨wsT_in (tb_9 (List.mem_of_getElem? (i := 17) rfl)) rfl, wsT_in (tb_9 (List.mem_of_getElem? (i := 18) rfl)) rfl⟩
theorem cal_X11_count : Cal yX11_count cX11_count 2 (some .int) 1 := ⟨wsT_in (tb_7 (List.mem_of_getElem? (i := 22) rfl)) rfl, wsT_in (tb_1 (List.mem_of_getElem? (i := 1) rfl)) rfl, by decide, by decide, by decide +kernel⟩
theorem cv_X11_count : CalV yX11_count RX11 := ⟨wsT_in (tb_7 (List.mem_of_getElem? (i := 20) rfl)) rfl, wsT_in (tb_7 (List.mem_of_getElem? (i := 21) rfl)) rfl⟩
theorem cal_X11_back : Cal yX11_back cX11_back 1 (some .int) 0 := ⟨wsT_in (tb_7 (List.mem_of_getElem? (i := 18) rfl)) rfl, wsT_in (tb_1 (List.mem_of_getElem? (i := 1) rfl)) rfl, by decide, by decide, by decide +kernel⟩
theorem cv_X11_back : CalV yX11_back RX11 := ⟨wsT_in (tb_7 (List.mem_of_getElem? (i := 16) rfl)) rfl, wsT_in (tb_7 (List.mem_of_getElem? (i := 17) rfl)) rfl⟩
theorem cal_X12_feed : Cal yX12_feed cX12_feed 6 (some .int) 3 := ⟨wsT_in (tb_8 (List.mem_of_getElem? (i := 170) rfl)) rfl, wsT_in (tb_1 (List.mem_of_getElem? (i := 13) rfl)) rfl, by decide, by decide, by decide +kernel⟩
theorem cv_X12_feed : CalV yX12_feed RX12 := ⟨wsT_in (tb_8 (List.mem_of_getElem? (i := 168) rfl)) rfl, wsT_in (tb_8 (List.mem_of_getElem? (i := 169) rfl)) rfl⟩
theorem cal_X12_letter : Cal yX12_letter cX12_letter 4 (some .int) 2 := ⟨wsT_in (tb_8 (List.mem_of_getElem? (i := 121) rfl)) rfl, wsT_in (tb_1 (List.mem_of_getElem? (i := 13) rfl)) rfl, by decide, by decide, by decide +kernel⟩
theorem cv_X12_letter : CalV yX12_letter RX12 := ⟨wsT_in (tb_8 (List.mem_of_getElem? (i := 119) rfl)) rfl, wsT_in (tb_8 (List.mem_of_getElem? (i := 120) rfl)) rfl⟩
theorem cal_X12_clause : Cal yX12_clause cX12_clause 5 (some .int) 3 := ⟨wsT_in (tb_9 (List.mem_of_getElem? (i := 199) rfl)) rfl, wsT_in (tb_1 (List.mem_of_getElem? (i := 13) rfl)) rfl, by decide, by decide, by decide +kernel⟩
theorem cv_X12_clause : CalV yX12_clause RX12 := ⟨wsT_in (tb_9 (List.mem_of_getElem? (i := 197) rfl)) rfl, wsT_in (tb_9 (List.mem_of_getElem? (i := 198) rfl)) rfl⟩
theorem cal_X11_ask : Cal yX11_ask cX11_ask 3 (some .int) 2 := ⟨wsT_in (tb_4 (List.mem_of_getElem? (i := 28) rfl)) rfl, wsT_in (tb_1 (List.mem_of_getElem? (i := 1) rfl)) rfl, by decide, by decide, by decide +kernel⟩
theorem cv_X11_ask : CalV yX11_ask RX11 := ⟨wsT_in (tb_4 (List.mem_of_getElem? (i := 26) rfl)) rfl, wsT_in (tb_4 (List.mem_of_getElem? (i := 27) rfl)) rfl⟩
theorem cal_X12_planned : Cal yX12_planned cX12_planned 4 (some .int) 2 := ⟨wsT_in (tb_9 (List.mem_of_getElem? (i := 218) rfl)) rfl, wsT_in (tb_1 (List.mem_of_getElem? (i := 13) rfl)) rfl, by decide, by decide, by decide +kernel⟩
theorem cv_X12_planned : CalV yX12_planned RX12 := ⟨wsT_in (tb_9 (List.mem_of_getElem? (i := 216) rfl)) rfl, wsT_in (tb_9 (List.mem_of_getElem? (i := 217) rfl)) rfl⟩
theorem cal_X11_wrong : Cal yX11_wrong cX11_wrong 3 (some .int) 2 := ⟨wsT_in (tb_6 (List.mem_of_getElem? (i := 78) rfl)) rfl, wsT_in (tb_1 (List.mem_of_getElem? (i := 1) rfl)) rfl, by decide, by decide, by decide +kernel⟩
theorem cv_X11_wrong : CalV yX11_wrong RX11 := ⟨wsT_in (tb_6 (List.mem_of_getElem? (i := 76) rfl)) rfl, wsT_in (tb_6 (List.mem_of_getElem? (i := 77) rfl)) rfl⟩
theorem cal_X11_visits : Cal yX11_visits cX11_visits 2 (some .int) 1 := ⟨wsT_in (tb_5 (List.mem_of_getElem? (i := 133) rfl)) rfl, wsT_in (tb_1 (List.mem_of_getElem? (i := 1) rfl)) rfl, by decide, by decide, by decide +kernel⟩
theorem cv_X11_visits : CalV yX11_visits RX11 := ⟨wsT_in (tb_5 (List.mem_of_getElem? (i := 131) rfl)) rfl, wsT_in (tb_5 (List.mem_of_getElem? (i := 132) rfl)) rfl⟩
theorem cal_X11_rule : Cal yX11_rule cX11_rule 3 (some .int) 2 := ⟨wsT_in (tb_6 (List.mem_of_getElem? (i := 116) rfl)) rfl, wsT_in (tb_1 (List.mem_of_getElem? (i := 1) rfl)) rfl, by decide, by decide, by decide +kernel⟩
theorem cv_X11_rule : CalV yX11_rule RX11 := ⟨wsT_in (tb_6 (List.mem_of_getElem? (i := 114) rfl)) rfl, wsT_in (tb_6 (List.mem_of_getElem? (i := 115) rfl)) rfl⟩
theorem cal_X12_put : Cal yX12_put cX12_put 4 (some .int) 3 := ⟨wsT_in (tb_9 (List.mem_of_getElem? (i := 138) rfl)) rfl, wsT_in (tb_1 (List.mem_of_getElem? (i := 13) rfl)) rfl, by decide, by decide, by decide +kernel⟩
theorem cv_X12_put : CalV yX12_put RX12 := ⟨wsT_in (tb_9 (List.mem_of_getElem? (i := 136) rfl)) rfl, wsT_in (tb_9 (List.mem_of_getElem? (i := 137) rfl)) rfl⟩
theorem cal_X12_may : Cal yX12_may cX12_may 3 (some .int) 2 := ⟨wsT_in (tb_9 (List.mem_of_getElem? (i := 27) rfl)) rfl, wsT_in (tb_1 (List.mem_of_getElem? (i := 13) rfl)) rfl, by decide, by decide, by decide +kernel⟩
theorem cv_X12_may : CalV yX12_may RX12 := ⟨wsT_in (tb_9 (List.mem_of_getElem? (i := 25) rfl)) rfl, wsT_in (tb_9 (List.mem_of_getElem? (i := 26) rfl)) rfl⟩
theorem cal_X12_tell : Cal yX12_tell cX12_tell 2 (some .int) 1 := ⟨wsT_in (tb_9 (List.mem_of_getElem? (i := 222) rfl)) rfl, wsT_in (tb_1 (List.mem_of_getElem? (i := 13) rfl)) rfl, by decide, by decide, by decide +kernel⟩
theorem cv_X12_tell : CalV yX12_tell RX12 := ⟨wsT_in (tb_9 (List.mem_of_getElem? (i := 220) rfl)) rfl, wsT_in (tb_9 (List.mem_of_getElem? (i := 221) rfl)) rfl⟩
theorem cal_X11_lack : Cal yX11_lack cX11_lack 2 (some .int) 1 := ⟨wsT_in (tb_5 (List.mem_of_getElem? (i := 184) rfl)) rfl, wsT_in (tb_1 (List.mem_of_getElem? (i := 1) rfl)) rfl, by decide, by decide, by decide +kernel⟩
theorem cv_X11_lack : CalV yX11_lack RX11 := ⟨wsT_in (tb_5 (List.mem_of_getElem? (i := 182) rfl)) rfl, wsT_in (tb_5 (List.mem_of_getElem? (i := 183) rfl)) rfl⟩
theorem cal_X11_need : Cal yX11_need cX11_need 3 (some .int) 2 := ⟨wsT_in (tb_5 (List.mem_of_getElem? (i := 192) rfl)) rfl, wsT_in (tb_1 (List.mem_of_getElem? (i := 1) rfl)) rfl, by decide, by decide, by decide +kernel⟩
theorem cv_X11_need : CalV yX11_need RX11 := ⟨wsT_in (tb_5 (List.mem_of_getElem? (i := 190) rfl)) rfl, wsT_in (tb_5 (List.mem_of_getElem? (i := 191) rfl)) rfl⟩
theorem cal_X12_pass : Cal yX12_pass cX12_pass 7 (some .int) 4 := ⟨wsT_in (tb_8 (List.mem_of_getElem? (i := 13) rfl)) rfl, wsT_in (tb_1 (List.mem_of_getElem? (i := 13) rfl)) rfl, by decide, by decide, by decide +kernel⟩
theorem cv_X12_pass : CalV yX12_pass RX12 := ⟨wsT_in (tb_8 (List.mem_of_getElem? (i := 11) rfl)) rfl, wsT_in (tb_8 (List.mem_of_getElem? (i := 12) rfl)) rfl⟩
theorem cal_X12_changed : Cal yX12_changed cX12_changed 4 (some .int) 1 := ⟨wsT_in (tb_9 (List.mem_of_getElem? (i := 43) rfl)) rfl, wsT_in (tb_1 (List.mem_of_getElem? (i := 13) rfl)) rfl, by decide, by decide, by decide +kernel⟩
theorem cv_X12_changed : CalV yX12_changed RX12 := ⟨wsT_in (tb_9 (List.mem_of_getElem? (i := 41) rfl)) rfl, wsT_in (tb_9 (List.mem_of_getElem? (i := 42) rfl)) rfl⟩
theorem cal_X11_why : Cal yX11_why cX11_why 2 (some .int) 1 := ⟨wsT_in (tb_3 (List.mem_of_getElem? (i := 215) rfl)) rfl, wsT_in (tb_1 (List.mem_of_getElem? (i := 1) rfl)) rfl, by decide, by decide, by decide +kernel⟩
theorem cv_X11_why : CalV yX11_why RX11 := ⟨wsT_in (tb_3 (List.mem_of_getElem? (i := 213) rfl)) rfl, wsT_in (tb_3 (List.mem_of_getElem? (i := 214) rfl)) rfl⟩
theorem cal_X11_check : Cal yX11_check cX11_check 5 (some .int) 2 := ⟨wsT_in (tb_6 (List.mem_of_getElem? (i := 195) rfl)) rfl, wsT_in (tb_1 (List.mem_of_getElem? (i := 1) rfl)) rfl, by decide, by decide, by decide +kernel⟩
theorem cv_X11_check : CalV yX11_check RX11 := ⟨wsT_in (tb_6 (List.mem_of_getElem? (i := 193) rfl)) rfl, wsT_in (tb_6 (List.mem_of_getElem? (i := 194) rfl)) rfl⟩
theorem cal_X11_unlike : Cal yX11_unlike cX11_unlike 5 (some .int) 3 := ⟨wsT_in (tb_5 (List.mem_of_getElem? (i := 119) rfl)) rfl, wsT_in (tb_1 (List.mem_of_getElem? (i := 1) rfl)) rfl, by decide, by decide, by decide +kernel⟩
theorem cv_X11_unlike : CalV yX11_unlike RX11 := ⟨wsT_in (tb_5 (List.mem_of_getElem? (i := 117) rfl)) rfl, wsT_in (tb_5 (List.mem_of_getElem? (i := 118) rfl)) rfl⟩
theorem cal_X12_plan : Cal yX12_plan cX12_plan 3 (some .int) 2 := ⟨wsT_in (tb_9 (List.mem_of_getElem? (i := 204) rfl)) rfl, wsT_in (tb_1 (List.mem_of_getElem? (i := 13) rfl)) rfl, by decide, by decide, by decide +kernel⟩
theorem cv_X12_plan : CalV yX12_plan RX12 := ⟨wsT_in (tb_9 (List.mem_of_getElem? (i := 202) rfl)) rfl, wsT_in (tb_9 (List.mem_of_getElem? (i := 203) rfl)) rfl⟩
theorem cal_X11_clause : Cal yX11_clause cX11_clause 4 (some .int) 3 := ⟨wsT_in (tb_6 (List.mem_of_getElem? (i := 153) rfl)) rfl, wsT_in (tb_1 (List.mem_of_getElem? (i := 1) rfl)) rfl, by decide, by decide, by decide +kernel⟩
theorem cv_X11_clause : CalV yX11_clause RX11 := ⟨wsT_in (tb_6 (List.mem_of_getElem? (i := 151) rfl)) rfl, wsT_in (tb_6 (List.mem_of_getElem? (i := 152) rfl)) rfl⟩
theorem cal_X11_changed : Cal yX11_changed cX11_changed 5 (some .int) 1 := ⟨wsT_in (tb_5 (List.mem_of_getElem? (i := 146) rfl)) rfl, wsT_in (tb_1 (List.mem_of_getElem? (i := 1) rfl)) rfl, by decide, by decide, by decide +kernel⟩
theorem cv_X11_changed : CalV yX11_changed RX11 := ⟨wsT_in (tb_5 (List.mem_of_getElem? (i := 144) rfl)) rfl, wsT_in (tb_5 (List.mem_of_getElem? (i := 145) rfl)) rfl⟩
theorem cal_X12_water : Cal yX12_water cX12_water 4 (some .int) 3 := ⟨wsT_in (tb_7 (List.mem_of_getElem? (i := 171) rfl)) rfl, wsT_in (tb_1 (List.mem_of_getElem? (i := 13) rfl)) rfl, by decide, by decide, by decide +kernel⟩
theorem cv_X12_water : CalV yX12_water RX12 := ⟨wsT_in (tb_7 (List.mem_of_getElem? (i := 169) rfl)) rfl, wsT_in (tb_7 (List.mem_of_getElem? (i := 170) rfl)) rfl⟩
theorem cal_X11_copy : Cal yX11_copy cX11_copy 6 (some .int) 5 := ⟨wsT_in (tb_6 (List.mem_of_getElem? (i := 67) rfl)) rfl, wsT_in (tb_1 (List.mem_of_getElem? (i := 1) rfl)) rfl, by decide, by decide, by decide +kernel⟩
theorem cv_X11_copy : CalV yX11_copy RX11 := ⟨wsT_in (tb_6 (List.mem_of_getElem? (i := 65) rfl)) rfl, wsT_in (tb_6 (List.mem_of_getElem? (i := 66) rfl)) rfl⟩
theorem cal_X11_feast : Cal yX11_feast cX11_feast 4 (some .int) 3 := ⟨wsT_in (tb_6 (List.mem_of_getElem? (i := 120) rfl)) rfl, wsT_in (tb_1 (List.mem_of_getElem? (i := 1) rfl)) rfl, by decide, by decide, by decide +kernel⟩
theorem cv_X11_feast : CalV yX11_feast RX11 := ⟨wsT_in (tb_6 (List.mem_of_getElem? (i := 118) rfl)) rfl, wsT_in (tb_6 (List.mem_of_getElem? (i := 119) rfl)) rfl⟩
theorem cal_X11_tell : Cal yX11_tell cX11_tell 2 (some .int) 1 := ⟨wsT_in (tb_6 (List.mem_of_getElem? (i := 191) rfl)) rfl, wsT_in (tb_1 (List.mem_of_getElem? (i := 1) rfl)) rfl, by decide, by decide, by decide +kernel⟩
theorem cv_X11_tell : CalV yX11_tell RX11 := ⟨wsT_in (tb_6 (List.mem_of_getElem? (i := 189) rfl)) rfl, wsT_in (tb_6 (List.mem_of_getElem? (i := 190) rfl)) rfl⟩
theorem cal_X11_read : Cal yX11_read cX11_read 5 (some .int) 2 := ⟨wsT_in (tb_6 (List.mem_of_getElem? (i := 58) rfl)) rfl, wsT_in (tb_1 (List.mem_of_getElem? (i := 1) rfl)) rfl, by decide, by decide, by decide +kernel⟩
theorem cv_X11_read : CalV yX11_read RX11 := ⟨wsT_in (tb_6 (List.mem_of_getElem? (i := 56) rfl)) rfl, wsT_in (tb_6 (List.mem_of_getElem? (i := 57) rfl)) rfl⟩
theorem cal_X12_flow : Cal yX12_flow cX12_flow 2 (some .int) 1 := ⟨wsT_in (tb_9 (List.mem_of_getElem? (i := 51) rfl)) rfl, wsT_in (tb_1 (List.mem_of_getElem? (i := 13) rfl)) rfl, by decide, by decide, by decide +kernel⟩
theorem cv_X12_flow : CalV yX12_flow RX12 := ⟨wsT_in (tb_9 (List.mem_of_getElem? (i := 49) rfl)) rfl, wsT_in (tb_9 (List.mem_of_getElem? (i := 50) rfl)) rfl⟩
theorem cal_X12_alike : Cal yX12_alike cX12_alike 3 (some .int) 2 := ⟨wsT_in (tb_9 (List.mem_of_getElem? (i := 93) rfl)) rfl, wsT_in (tb_1 (List.mem_of_getElem? (i := 13) rfl)) rfl, by decide, by decide, by decide +kernel⟩
theorem cv_X12_alike : CalV yX12_alike RX12 := ⟨wsT_in (tb_9 (List.mem_of_getElem? (i := 91) rfl)) rfl, wsT_in (tb_9 (List.mem_of_getElem? (i := 92) rfl)) rfl⟩
theorem cal_X12_need : Cal yX12_need cX12_need 3 (some .int) 2 := ⟨wsT_in (tb_9 (List.mem_of_getElem? (i := 72) rfl)) rfl, wsT_in (tb_1 (List.mem_of_getElem? (i := 13) rfl)) rfl, by decide, by decide, by decide +kernel⟩
theorem cv_X12_need : CalV yX12_need RX12 := ⟨wsT_in (tb_9 (List.mem_of_getElem? (i := 70) rfl)) rfl, wsT_in (tb_9 (List.mem_of_getElem? (i := 71) rfl)) rfl⟩
theorem cal_X11_train : Cal yX11_train cX11_train 5 (some .int) 4 := ⟨wsT_in (tb_5 (List.mem_of_getElem? (i := 204) rfl)) rfl, wsT_in (tb_1 (List.mem_of_getElem? (i := 1) rfl)) rfl, by decide, by decide, by decide +kernel⟩
theorem cv_X11_train : CalV yX11_train RX11 := ⟨wsT_in (tb_5 (List.mem_of_getElem? (i := 202) rfl)) rfl, wsT_in (tb_5 (List.mem_of_getElem? (i := 203) rfl)) rfl⟩
theorem cal_X11_may : Cal yX11_may cX11_may 3 (some .int) 2 := ⟨wsT_in (tb_5 (List.mem_of_getElem? (i := 114) rfl)) rfl, wsT_in (tb_1 (List.mem_of_getElem? (i := 1) rfl)) rfl, by decide, by decide, by decide +kernel⟩
theorem cv_X11_may : CalV yX11_may RX11 := ⟨wsT_in (tb_5 (List.mem_of_getElem? (i := 112) rfl)) rfl, wsT_in (tb_5 (List.mem_of_getElem? (i := 113) rfl)) rfl⟩
theorem cal_X11_plan : Cal yX11_plan cX11_plan 3 (some .int) 2 := ⟨wsT_in (tb_6 (List.mem_of_getElem? (i := 161) rfl)) rfl, wsT_in (tb_1 (List.mem_of_getElem? (i := 1) rfl)) rfl, by decide, by decide, by decide +kernel⟩
theorem cv_X11_plan : CalV yX11_plan RX11 := ⟨wsT_in (tb_6 (List.mem_of_getElem? (i := 159) rfl)) rfl, wsT_in (tb_6 (List.mem_of_getElem? (i := 160) rfl)) rfl⟩
theorem cal_X11_parcel : Cal yX11_parcel cX11_parcel 6 (some .int) 3 := ⟨wsT_in (tb_3 (List.mem_of_getElem? (i := 137) rfl)) rfl, wsT_in (tb_1 (List.mem_of_getElem? (i := 1) rfl)) rfl, by decide, by decide, by decide +kernel⟩
theorem cv_X11_parcel : CalV yX11_parcel RX11 := ⟨wsT_in (tb_3 (List.mem_of_getElem? (i := 135) rfl)) rfl, wsT_in (tb_3 (List.mem_of_getElem? (i := 136) rfl)) rfl⟩
theorem cal_X12_gates : Cal yX12_gates cX12_gates 6 (some .int) 1 := ⟨wsT_in (tb_9 (List.mem_of_getElem? (i := 191) rfl)) rfl, wsT_in (tb_1 (List.mem_of_getElem? (i := 13) rfl)) rfl, by decide, by decide, by decide +kernel⟩
theorem cv_X12_gates : CalV yX12_gates RX12 := ⟨wsT_in (tb_9 (List.mem_of_getElem? (i := 189) rfl)) rfl, wsT_in (tb_9 (List.mem_of_getElem? (i := 190) rfl)) rfl⟩
theorem cal_X12_coin : Cal yX12_coin cX12_coin 4 (some .int) 2 := ⟨wsT_in (tb_9 (List.mem_of_getElem? (i := 165) rfl)) rfl, wsT_in (tb_1 (List.mem_of_getElem? (i := 13) rfl)) rfl, by decide, by decide, by decide +kernel⟩
theorem cv_X12_coin : CalV yX12_coin RX12 := ⟨wsT_in (tb_9 (List.mem_of_getElem? (i := 163) rfl)) rfl, wsT_in (tb_9 (List.mem_of_getElem? (i := 164) rfl)) rfl⟩
theorem cal_X12_die : Cal yX12_die cX12_die 4 (some .int) 1 := ⟨wsT_in (tb_7 (List.mem_of_getElem? (i := 213) rfl)) rfl, wsT_in (tb_1 (List.mem_of_getElem? (i := 13) rfl)) rfl, by decide, by decide, by decide +kernel⟩
theorem cv_X12_die : CalV yX12_die RX12 := ⟨wsT_in (tb_7 (List.mem_of_getElem? (i := 211) rfl)) rfl, wsT_in (tb_7 (List.mem_of_getElem? (i := 212) rfl)) rfl⟩
theorem cal_X11_pass : Cal yX11_pass cX11_pass 8 (some .int) 4 := ⟨wsT_in (tb_3 (List.mem_of_getElem? (i := 132) rfl)) rfl, wsT_in (tb_1 (List.mem_of_getElem? (i := 1) rfl)) rfl, by decide, by decide, by decide +kernel⟩
theorem cv_X11_pass : CalV yX11_pass RX11 := ⟨wsT_in (tb_3 (List.mem_of_getElem? (i := 130) rfl)) rfl, wsT_in (tb_3 (List.mem_of_getElem? (i := 131) rfl)) rfl⟩
theorem cal_X12_of : Cal yX12_of cX12_of 4 (some .int) 2 := ⟨wsT_in (tb_9 (List.mem_of_getElem? (i := 10) rfl)) rfl, wsT_in (tb_1 (List.mem_of_getElem? (i := 13) rfl)) rfl, by decide, by decide, by decide +kernel⟩
theorem cv_X12_of : CalV yX12_of RX12 := ⟨wsT_in (tb_9 (List.mem_of_getElem? (i := 8) rfl)) rfl, wsT_in (tb_9 (List.mem_of_getElem? (i := 9) rfl)) rfl⟩
theorem cal_X11_take : Cal yX11_take cX11_take 2 (some .int) 1 := ⟨wsT_in (tb_3 (List.mem_of_getElem? (i := 203) rfl)) rfl, wsT_in (tb_1 (List.mem_of_getElem? (i := 1) rfl)) rfl, by decide, by decide, by decide +kernel⟩
theorem cv_X11_take : CalV yX11_take RX11 := ⟨wsT_in (tb_3 (List.mem_of_getElem? (i := 201) rfl)) rfl, wsT_in (tb_3 (List.mem_of_getElem? (i := 202) rfl)) rfl⟩
theorem cal_X11_told : Cal yX11_told cX11_told 4 (some .int) 2 := ⟨wsT_in (tb_3 (List.mem_of_getElem? (i := 149) rfl)) rfl, wsT_in (tb_1 (List.mem_of_getElem? (i := 1) rfl)) rfl, by decide, by decide, by decide +kernel⟩
theorem cv_X11_told : CalV yX11_told RX11 := ⟨wsT_in (tb_3 (List.mem_of_getElem? (i := 147) rfl)) rfl, wsT_in (tb_3 (List.mem_of_getElem? (i := 148) rfl)) rfl⟩
theorem cal_X12_be : Cal yX12_be cX12_be 4 (some .int) 3 := ⟨wsT_in (tb_7 (List.mem_of_getElem? (i := 208) rfl)) rfl, wsT_in (tb_1 (List.mem_of_getElem? (i := 13) rfl)) rfl, by decide, by decide, by decide +kernel⟩
theorem cv_X12_be : CalV yX12_be RX12 := ⟨wsT_in (tb_7 (List.mem_of_getElem? (i := 206) rfl)) rfl, wsT_in (tb_7 (List.mem_of_getElem? (i := 207) rfl)) rfl⟩
theorem cal_X12_as : Cal yX12_as cX12_as 5 (some .int) 2 := ⟨wsT_in (tb_8 (List.mem_of_getElem? (i := 41) rfl)) rfl, wsT_in (tb_1 (List.mem_of_getElem? (i := 13) rfl)) rfl, by decide, by decide, by decide +kernel⟩
theorem cv_X12_as : CalV yX12_as RX12 := ⟨wsT_in (tb_8 (List.mem_of_getElem? (i := 39) rfl)) rfl, wsT_in (tb_8 (List.mem_of_getElem? (i := 40) rfl)) rfl⟩
theorem cal_X12_take : Cal yX12_take cX12_take 2 (some .int) 1 := ⟨wsT_in (tb_8 (List.mem_of_getElem? (i := 70) rfl)) rfl, wsT_in (tb_1 (List.mem_of_getElem? (i := 13) rfl)) rfl, by decide, by decide, by decide +kernel⟩
theorem cv_X12_take : CalV yX12_take RX12 := ⟨wsT_in (tb_8 (List.mem_of_getElem? (i := 68) rfl)) rfl, wsT_in (tb_8 (List.mem_of_getElem? (i := 69) rfl)) rfl⟩
theorem cal_X11_gate : Cal yX11_gate cX11_gate 4 (some .int) 3 := ⟨wsT_in (tb_3 (List.mem_of_getElem? (i := 180) rfl)) rfl, wsT_in (tb_1 (List.mem_of_getElem? (i := 1) rfl)) rfl, by decide, by decide, by decide +kernel⟩
theorem cv_X11_gate : CalV yX11_gate RX11 := ⟨wsT_in (tb_3 (List.mem_of_getElem? (i := 178) rfl)) rfl, wsT_in (tb_3 (List.mem_of_getElem? (i := 179) rfl)) rfl⟩
theorem cal_X12_wrong : Cal yX12_wrong cX12_wrong 3 (some .int) 2 := ⟨wsT_in (tb_9 (List.mem_of_getElem? (i := 148) rfl)) rfl, wsT_in (tb_1 (List.mem_of_getElem? (i := 13) rfl)) rfl, by decide, by decide, by decide +kernel⟩
theorem cv_X12_wrong : CalV yX12_wrong RX12 := ⟨wsT_in (tb_9 (List.mem_of_getElem? (i := 146) rfl)) rfl, wsT_in (tb_9 (List.mem_of_getElem? (i := 147) rfl)) rfl⟩
theorem cal_X12_run : Cal yX12_run cX12_run 3 (some .int) 1 := ⟨wsT_in (tb_8 (List.mem_of_getElem? (i := 129) rfl)) rfl, wsT_in (tb_1 (List.mem_of_getElem? (i := 13) rfl)) rfl, by decide, by decide, by decide +kernel⟩
theorem cv_X12_run : CalV yX12_run RX12 := ⟨wsT_in (tb_8 (List.mem_of_getElem? (i := 127) rfl)) rfl, wsT_in (tb_8 (List.mem_of_getElem? (i := 128) rfl)) rfl⟩
theorem cal_X12_trim : Cal yX12_trim cX12_trim 2 (some .int) 1 := ⟨wsT_in (tb_8 (List.mem_of_getElem? (i := 174) rfl)) rfl, wsT_in (tb_1 (List.mem_of_getElem? (i := 13) rfl)) rfl, by decide, by decide, by decide +kernel⟩
theorem cv_X12_trim : CalV yX12_trim RX12 := ⟨wsT_in (tb_8 (List.mem_of_getElem? (i := 172) rfl)) rfl, wsT_in (tb_8 (List.mem_of_getElem? (i := 173) rfl)) rfl⟩
theorem cal_X12_cell : Cal yX12_cell cX12_cell 3 (some .int) 1 := ⟨wsT_in (tb_7 (List.mem_of_getElem? (i := 155) rfl)) rfl, wsT_in (tb_1 (List.mem_of_getElem? (i := 13) rfl)) rfl, by decide, by decide, by decide +kernel⟩
theorem cv_X12_cell : CalV yX12_cell RX12 := ⟨wsT_in (tb_7 (List.mem_of_getElem? (i := 153) rfl)) rfl, wsT_in (tb_7 (List.mem_of_getElem? (i := 154) rfl)) rfl⟩
theorem cal_X12_visits : Cal yX12_visits cX12_visits 2 (some .int) 1 := ⟨wsT_in (tb_9 (List.mem_of_getElem? (i := 35) rfl)) rfl, wsT_in (tb_1 (List.mem_of_getElem? (i := 13) rfl)) rfl, by decide, by decide, by decide +kernel⟩
theorem cv_X12_visits : CalV yX12_visits RX12 := ⟨wsT_in (tb_9 (List.mem_of_getElem? (i := 33) rfl)) rfl, wsT_in (tb_9 (List.mem_of_getElem? (i := 34) rfl)) rfl⟩
theorem cal_X12_is : Cal yX12_is cX12_is 4 (some .int) 2 := ⟨wsT_in (tb_7 (List.mem_of_getElem? (i := 195) rfl)) rfl, wsT_in (tb_1 (List.mem_of_getElem? (i := 13) rfl)) rfl, by decide, by decide, by decide +kernel⟩
theorem cv_X12_is : CalV yX12_is RX12 := ⟨wsT_in (tb_7 (List.mem_of_getElem? (i := 193) rfl)) rfl, wsT_in (tb_7 (List.mem_of_getElem? (i := 194) rfl)) rfl⟩
theorem cal_X11_planned : Cal yX11_planned cX11_planned 4 (some .int) 2 := ⟨wsT_in (tb_6 (List.mem_of_getElem? (i := 187) rfl)) rfl, wsT_in (tb_1 (List.mem_of_getElem? (i := 1) rfl)) rfl, by decide, by decide, by decide +kernel⟩
theorem cv_X11_planned : CalV yX11_planned RX11 := ⟨wsT_in (tb_6 (List.mem_of_getElem? (i := 185) rfl)) rfl, wsT_in (tb_6 (List.mem_of_getElem? (i := 186) rfl)) rfl⟩
theorem cal_X11_be : Cal yX11_be cX11_be 4 (some .int) 3 := ⟨wsT_in (tb_3 (List.mem_of_getElem? (i := 90) rfl)) rfl, wsT_in (tb_1 (List.mem_of_getElem? (i := 1) rfl)) rfl, by decide, by decide, by decide +kernel⟩
theorem cv_X11_be : CalV yX11_be RX11 := ⟨wsT_in (tb_3 (List.mem_of_getElem? (i := 88) rfl)) rfl, wsT_in (tb_3 (List.mem_of_getElem? (i := 89) rfl)) rfl⟩
theorem cal_X12_train : Cal yX12_train cX12_train 9 (some .int) 4 := ⟨wsT_in (tb_9 (List.mem_of_getElem? (i := 81) rfl)) rfl, wsT_in (tb_1 (List.mem_of_getElem? (i := 13) rfl)) rfl, by decide, by decide, by decide +kernel⟩
theorem cv_X12_train : CalV yX12_train RX12 := ⟨wsT_in (tb_9 (List.mem_of_getElem? (i := 79) rfl)) rfl, wsT_in (tb_9 (List.mem_of_getElem? (i := 80) rfl)) rfl⟩
theorem cal_X12_meter : Cal yX12_meter cX12_meter 5 (some .int) 3 := ⟨wsT_in (tb_9 (List.mem_of_getElem? (i := 122) rfl)) rfl, wsT_in (tb_1 (List.mem_of_getElem? (i := 13) rfl)) rfl, by decide, by decide, by decide +kernel⟩
theorem cv_X12_meter : CalV yX12_meter RX12 := ⟨wsT_in (tb_9 (List.mem_of_getElem? (i := 120) rfl)) rfl, wsT_in (tb_9 (List.mem_of_getElem? (i := 121) rfl)) rfl⟩
theorem ml_L_13 : Cond.methodLink RL 13 yX11_cell ∈ wsT := wsT_in (tb_3 (List.mem_of_getElem? (i := 43) rfl)) rfl
theorem ml_L_17 : Cond.methodLink RL 17 yX12_cell ∈ wsT := wsT_in (tb_7 (List.mem_of_getElem? (i := 152) rfl)) rfl
theorem ml_L_18 : Cond.methodLink RL 18 yX11_water ∈ wsT := wsT_in (tb_3 (List.mem_of_getElem? (i := 56) rfl)) rfl
theorem ml_L_22 : Cond.methodLink RL 22 yX12_water ∈ wsT := wsT_in (tb_7 (List.mem_of_getElem? (i := 168) rfl)) rfl
theorem ml_L_23 : Cond.methodLink RL 23 yX11_person ∈ wsT := wsT_in (tb_3 (List.mem_of_getElem? (i := 70) rfl)) rfl
theorem ml_L_26 : Cond.methodLink RL 26 yX12_person ∈ wsT := wsT_in (tb_7 (List.mem_of_getElem? (i := 182) rfl)) rfl
theorem ml_L_27 : Cond.methodLink RL 27 yX11_is ∈ wsT := wsT_in (tb_3 (List.mem_of_getElem? (i := 79) rfl)) rfl
theorem ml_L_31 : Cond.methodLink RL 31 yX12_is ∈ wsT := wsT_in (tb_7 (List.mem_of_getElem? (i := 192) rfl)) rfl
theorem ml_L_32 : Cond.methodLink RL 32 yX11_be ∈ wsT := wsT_in (tb_3 (List.mem_of_getElem? (i := 87) rfl)) rfl
theorem ml_L_35 : Cond.methodLink RL 35 yX12_be ∈ wsT := wsT_in (tb_7 (List.mem_of_getElem? (i := 205) rfl)) rfl
theorem ml_L_36 : Cond.methodLink RL 36 yX11_die ∈ wsT := wsT_in (tb_3 (List.mem_of_getElem? (i := 91) rfl)) rfl
theorem ml_L_39 : Cond.methodLink RL 39 yX12_die ∈ wsT := wsT_in (tb_7 (List.mem_of_getElem? (i := 210) rfl)) rfl
theorem ml_L_40 : Cond.methodLink RL 40 yX11_tie ∈ wsT := wsT_in (tb_3 (List.mem_of_getElem? (i := 116) rfl)) rfl
theorem ml_L_44 : Cond.methodLink RL 44 yX12_tie ∈ wsT := wsT_in (tb_7 (List.mem_of_getElem? (i := 231) rfl)) rfl
theorem ml_L_45 : Cond.methodLink RL 45 yX11_pass ∈ wsT := wsT_in (tb_3 (List.mem_of_getElem? (i := 129) rfl)) rfl
theorem ml_L_48 : Cond.methodLink RL 48 yX12_pass ∈ wsT := wsT_in (tb_8 (List.mem_of_getElem? (i := 10) rfl)) rfl
theorem ml_L_49 : Cond.methodLink RL 49 yX11_parcel ∈ wsT := wsT_in (tb_3 (List.mem_of_getElem? (i := 134) rfl)) rfl
theorem ml_L_52 : Cond.methodLink RL 52 yX12_parcel ∈ wsT := wsT_in (tb_8 (List.mem_of_getElem? (i := 14) rfl)) rfl
theorem ml_L_53 : Cond.methodLink RL 53 yX11_told ∈ wsT := wsT_in (tb_3 (List.mem_of_getElem? (i := 146) rfl)) rfl
theorem ml_L_56 : Cond.methodLink RL 56 yX12_told ∈ wsT := wsT_in (tb_8 (List.mem_of_getElem? (i := 26) rfl)) rfl
theorem ml_L_57 : Cond.methodLink RL 57 yX11_as ∈ wsT := wsT_in (tb_3 (List.mem_of_getElem? (i := 163) rfl)) rfl
theorem ml_L_60 : Cond.methodLink RL 60 yX12_as ∈ wsT := wsT_in (tb_8 (List.mem_of_getElem? (i := 38) rfl)) rfl
theorem ml_L_61 : Cond.methodLink RL 61 yX11_change ∈ wsT := wsT_in (tb_3 (List.mem_of_getElem? (i := 173) rfl)) rfl
theorem ml_L_64 : Cond.methodLink RL 64 yX12_change ∈ wsT := wsT_in (tb_8 (List.mem_of_getElem? (i := 43) rfl)) rfl
theorem ml_L_65 : Cond.methodLink RL 65 yX11_gate ∈ wsT := wsT_in (tb_3 (List.mem_of_getElem? (i := 177) rfl)) rfl
theorem ml_L_68 : Cond.methodLink RL 68 yX12_gate ∈ wsT := wsT_in (tb_8 (List.mem_of_getElem? (i := 47) rfl)) rfl
theorem ml_L_69 : Cond.methodLink RL 69 yX11_kinship ∈ wsT := wsT_in (tb_3 (List.mem_of_getElem? (i := 181) rfl)) rfl
theorem ml_L_72 : Cond.methodLink RL 72 yX12_kinship ∈ wsT := wsT_in (tb_8 (List.mem_of_getElem? (i := 52) rfl)) rfl
theorem ml_L_73 : Cond.methodLink RL 73 yX11_take ∈ wsT := wsT_in (tb_3 (List.mem_of_getElem? (i := 200) rfl)) rfl
theorem ml_L_76 : Cond.methodLink RL 76 yX12_take ∈ wsT := wsT_in (tb_8 (List.mem_of_getElem? (i := 67) rfl)) rfl
theorem ml_L_77 : Cond.methodLink RL 77 yX11_why ∈ wsT := wsT_in (tb_3 (List.mem_of_getElem? (i := 212) rfl)) rfl
theorem ml_L_80 : Cond.methodLink RL 80 yX12_why ∈ wsT := wsT_in (tb_8 (List.mem_of_getElem? (i := 79) rfl)) rfl
theorem ml_L_81 : Cond.methodLink RL 81 yX11_ask ∈ wsT := wsT_in (tb_4 (List.mem_of_getElem? (i := 25) rfl)) rfl
theorem ml_L_84 : Cond.methodLink RL 84 yX12_ask ∈ wsT := wsT_in (tb_8 (List.mem_of_getElem? (i := 114) rfl)) rfl
theorem ml_L_85 : Cond.methodLink RL 85 yX11_letter ∈ wsT := wsT_in (tb_4 (List.mem_of_getElem? (i := 34) rfl)) rfl
theorem ml_L_88 : Cond.methodLink RL 88 yX12_letter ∈ wsT := wsT_in (tb_8 (List.mem_of_getElem? (i := 118) rfl)) rfl
theorem ml_L_89 : Cond.methodLink RL 89 yX11_call ∈ wsT := wsT_in (tb_4 (List.mem_of_getElem? (i := 42) rfl)) rfl
theorem ml_L_92 : Cond.methodLink RL 92 yX12_call ∈ wsT := wsT_in (tb_8 (List.mem_of_getElem? (i := 122) rfl)) rfl
theorem ml_L_93 : Cond.methodLink RL 93 yX11_run ∈ wsT := wsT_in (tb_4 (List.mem_of_getElem? (i := 51) rfl)) rfl
theorem ml_L_96 : Cond.methodLink RL 96 yX12_run ∈ wsT := wsT_in (tb_8 (List.mem_of_getElem? (i := 126) rfl)) rfl
theorem ml_L_97 : Cond.methodLink RL 97 yX11_feed ∈ wsT := wsT_in (tb_4 (List.mem_of_getElem? (i := 128) rfl)) rfl
theorem ml_L_100 : Cond.methodLink RL 100 yX12_feed ∈ wsT := wsT_in (tb_8 (List.mem_of_getElem? (i := 167) rfl)) rfl
theorem ml_L_101 : Cond.methodLink RL 101 yX11_trim ∈ wsT := wsT_in (tb_4 (List.mem_of_getElem? (i := 136) rfl)) rfl
theorem ml_L_104 : Cond.methodLink RL 104 yX12_trim ∈ wsT := wsT_in (tb_8 (List.mem_of_getElem? (i := 171) rfl)) rfl
theorem ml_L_105 : Cond.methodLink RL 105 yX11_text ∈ wsT := wsT_in (tb_4 (List.mem_of_getElem? (i := 140) rfl)) rfl
theorem ml_L_108 : Cond.methodLink RL 108 yX12_text ∈ wsT := wsT_in (tb_8 (List.mem_of_getElem? (i := 175) rfl)) rfl
theorem ml_L_109 : Cond.methodLink RL 109 yX11_of ∈ wsT := wsT_in (tb_5 (List.mem_of_getElem? (i := 92) rfl)) rfl
theorem ml_L_112 : Cond.methodLink RL 112 yX12_of ∈ wsT := wsT_in (tb_9 (List.mem_of_getElem? (i := 7) rfl)) rfl
theorem ml_L_113 : Cond.methodLink RL 113 yX11_strike ∈ wsT := wsT_in (tb_5 (List.mem_of_getElem? (i := 100) rfl)) rfl
theorem ml_L_116 : Cond.methodLink RL 116 yX12_strike ∈ wsT := wsT_in (tb_9 (List.mem_of_getElem? (i := 16) rfl)) rfl
theorem ml_L_117 : Cond.methodLink RL 117 yX11_counts ∈ wsT := wsT_in (tb_5 (List.mem_of_getElem? (i := 106) rfl)) rfl
theorem ml_L_120 : Cond.methodLink RL 120 yX12_counts ∈ wsT := wsT_in (tb_9 (List.mem_of_getElem? (i := 20) rfl)) rfl
theorem ml_L_121 : Cond.methodLink RL 121 yX11_may ∈ wsT := wsT_in (tb_5 (List.mem_of_getElem? (i := 111) rfl)) rfl
theorem ml_L_124 : Cond.methodLink RL 124 yX12_may ∈ wsT := wsT_in (tb_9 (List.mem_of_getElem? (i := 24) rfl)) rfl
theorem ml_L_125 : Cond.methodLink RL 125 yX11_unlike ∈ wsT := wsT_in (tb_5 (List.mem_of_getElem? (i := 116) rfl)) rfl
theorem ml_L_128 : Cond.methodLink RL 128 yX12_unlike ∈ wsT := wsT_in (tb_9 (List.mem_of_getElem? (i := 28) rfl)) rfl
theorem ml_L_129 : Cond.methodLink RL 129 yX11_visits ∈ wsT := wsT_in (tb_5 (List.mem_of_getElem? (i := 130) rfl)) rfl
theorem ml_L_132 : Cond.methodLink RL 132 yX12_visits ∈ wsT := wsT_in (tb_9 (List.mem_of_getElem? (i := 32) rfl)) rfl
theorem ml_L_133 : Cond.methodLink RL 133 yX11_changed ∈ wsT := wsT_in (tb_5 (List.mem_of_getElem? (i := 143) rfl)) rfl
theorem ml_L_136 : Cond.methodLink RL 136 yX12_changed ∈ wsT := wsT_in (tb_9 (List.mem_of_getElem? (i := 40) rfl)) rfl
theorem ml_L_137 : Cond.methodLink RL 137 yX11_house ∈ wsT := wsT_in (tb_5 (List.mem_of_getElem? (i := 152) rfl)) rfl
theorem ml_L_140 : Cond.methodLink RL 140 yX12_house ∈ wsT := wsT_in (tb_9 (List.mem_of_getElem? (i := 44) rfl)) rfl
theorem ml_L_141 : Cond.methodLink RL 141 yX11_flow ∈ wsT := wsT_in (tb_5 (List.mem_of_getElem? (i := 158) rfl)) rfl
theorem ml_L_144 : Cond.methodLink RL 144 yX12_flow ∈ wsT := wsT_in (tb_9 (List.mem_of_getElem? (i := 48) rfl)) rfl
theorem ml_L_145 : Cond.methodLink RL 145 yX11_lack ∈ wsT := wsT_in (tb_5 (List.mem_of_getElem? (i := 181) rfl)) rfl
theorem ml_L_148 : Cond.methodLink RL 148 yX12_lack ∈ wsT := wsT_in (tb_9 (List.mem_of_getElem? (i := 61) rfl)) rfl
theorem ml_L_149 : Cond.methodLink RL 149 yX11_need ∈ wsT := wsT_in (tb_5 (List.mem_of_getElem? (i := 189) rfl)) rfl
theorem ml_L_152 : Cond.methodLink RL 152 yX12_need ∈ wsT := wsT_in (tb_9 (List.mem_of_getElem? (i := 69) rfl)) rfl
theorem ml_L_153 : Cond.methodLink RL 153 yX11_stop ∈ wsT := wsT_in (tb_5 (List.mem_of_getElem? (i := 193) rfl)) rfl
theorem ml_L_156 : Cond.methodLink RL 156 yX12_stop ∈ wsT := wsT_in (tb_9 (List.mem_of_getElem? (i := 73) rfl)) rfl
theorem ml_L_157 : Cond.methodLink RL 157 yX11_train ∈ wsT := wsT_in (tb_5 (List.mem_of_getElem? (i := 201) rfl)) rfl
theorem ml_L_160 : Cond.methodLink RL 160 yX12_train ∈ wsT := wsT_in (tb_9 (List.mem_of_getElem? (i := 78) rfl)) rfl
theorem ml_L_161 : Cond.methodLink RL 161 yX11_file ∈ wsT := wsT_in (tb_5 (List.mem_of_getElem? (i := 213) rfl)) rfl
theorem ml_L_164 : Cond.methodLink RL 164 yX12_file ∈ wsT := wsT_in (tb_9 (List.mem_of_getElem? (i := 86) rfl)) rfl
theorem ml_L_165 : Cond.methodLink RL 165 yX11_alike ∈ wsT := wsT_in (tb_5 (List.mem_of_getElem? (i := 221) rfl)) rfl
theorem ml_L_168 : Cond.methodLink RL 168 yX12_alike ∈ wsT := wsT_in (tb_9 (List.mem_of_getElem? (i := 90) rfl)) rfl
theorem ml_L_169 : Cond.methodLink RL 169 yX11_pairing ∈ wsT := wsT_in (tb_6 (List.mem_of_getElem? (i := 1) rfl)) rfl
theorem ml_L_172 : Cond.methodLink RL 172 yX12_pairing ∈ wsT := wsT_in (tb_9 (List.mem_of_getElem? (i := 107) rfl)) rfl
theorem ml_L_173 : Cond.methodLink RL 173 yX11_meter ∈ wsT := wsT_in (tb_6 (List.mem_of_getElem? (i := 33) rfl)) rfl
theorem ml_L_176 : Cond.methodLink RL 176 yX12_meter ∈ wsT := wsT_in (tb_9 (List.mem_of_getElem? (i := 119) rfl)) rfl
theorem ml_L_177 : Cond.methodLink RL 177 yX11_put ∈ wsT := wsT_in (tb_6 (List.mem_of_getElem? (i := 43) rfl)) rfl
theorem ml_L_180 : Cond.methodLink RL 180 yX12_put ∈ wsT := wsT_in (tb_9 (List.mem_of_getElem? (i := 135) rfl)) rfl
theorem ml_L_181 : Cond.methodLink RL 181 yX11_read ∈ wsT := wsT_in (tb_6 (List.mem_of_getElem? (i := 55) rfl)) rfl
theorem ml_L_184 : Cond.methodLink RL 184 yX12_read ∈ wsT := wsT_in (tb_9 (List.mem_of_getElem? (i := 125) rfl)) rfl
theorem ml_L_185 : Cond.methodLink RL 185 yX11_copy ∈ wsT := wsT_in (tb_6 (List.mem_of_getElem? (i := 64) rfl)) rfl
theorem ml_L_189 : Cond.methodLink RL 189 yX12_copy ∈ wsT := wsT_in (tb_9 (List.mem_of_getElem? (i := 141) rfl)) rfl
theorem ml_L_190 : Cond.methodLink RL 190 yX11_wrong ∈ wsT := wsT_in (tb_6 (List.mem_of_getElem? (i := 75) rfl)) rfl
theorem ml_L_193 : Cond.methodLink RL 193 yX12_wrong ∈ wsT := wsT_in (tb_9 (List.mem_of_getElem? (i := 145) rfl)) rfl
theorem ml_L_194 : Cond.methodLink RL 194 yX11_owed ∈ wsT := wsT_in (tb_6 (List.mem_of_getElem? (i := 79) rfl)) rfl
theorem ml_L_197 : Cond.methodLink RL 197 yX12_owed ∈ wsT := wsT_in (tb_9 (List.mem_of_getElem? (i := 150) rfl)) rfl
theorem ml_L_198 : Cond.methodLink RL 198 yX11_coin ∈ wsT := wsT_in (tb_6 (List.mem_of_getElem? (i := 109) rfl)) rfl
theorem ml_L_201 : Cond.methodLink RL 201 yX12_coin ∈ wsT := wsT_in (tb_9 (List.mem_of_getElem? (i := 162) rfl)) rfl
theorem ml_L_202 : Cond.methodLink RL 202 yX11_rule ∈ wsT := wsT_in (tb_6 (List.mem_of_getElem? (i := 113) rfl)) rfl
theorem ml_L_205 : Cond.methodLink RL 205 yX12_rule ∈ wsT := wsT_in (tb_9 (List.mem_of_getElem? (i := 166) rfl)) rfl
theorem ml_L_206 : Cond.methodLink RL 206 yX11_feast ∈ wsT := wsT_in (tb_6 (List.mem_of_getElem? (i := 117) rfl)) rfl
theorem ml_L_209 : Cond.methodLink RL 209 yX12_feast ∈ wsT := wsT_in (tb_9 (List.mem_of_getElem? (i := 170) rfl)) rfl
theorem ml_L_210 : Cond.methodLink RL 210 yX11_waiting ∈ wsT := wsT_in (tb_6 (List.mem_of_getElem? (i := 121) rfl)) rfl
theorem ml_L_213 : Cond.methodLink RL 213 yX12_waiting ∈ wsT := wsT_in (tb_9 (List.mem_of_getElem? (i := 175) rfl)) rfl
theorem ml_L_214 : Cond.methodLink RL 214 yX11_gates ∈ wsT := wsT_in (tb_6 (List.mem_of_getElem? (i := 135) rfl)) rfl
theorem ml_L_217 : Cond.methodLink RL 217 yX12_gates ∈ wsT := wsT_in (tb_9 (List.mem_of_getElem? (i := 188) rfl)) rfl
theorem ml_L_218 : Cond.methodLink RL 218 yX11_clause ∈ wsT := wsT_in (tb_6 (List.mem_of_getElem? (i := 150) rfl)) rfl
theorem ml_L_221 : Cond.methodLink RL 221 yX12_clause ∈ wsT := wsT_in (tb_9 (List.mem_of_getElem? (i := 196) rfl)) rfl
theorem ml_L_222 : Cond.methodLink RL 222 yX11_plan ∈ wsT := wsT_in (tb_6 (List.mem_of_getElem? (i := 158) rfl)) rfl
theorem ml_L_225 : Cond.methodLink RL 225 yX12_plan ∈ wsT := wsT_in (tb_9 (List.mem_of_getElem? (i := 201) rfl)) rfl
theorem ml_L_226 : Cond.methodLink RL 226 yX11_planned ∈ wsT := wsT_in (tb_6 (List.mem_of_getElem? (i := 184) rfl)) rfl
theorem ml_L_229 : Cond.methodLink RL 229 yX12_planned ∈ wsT := wsT_in (tb_9 (List.mem_of_getElem? (i := 215) rfl)) rfl
theorem ml_L_230 : Cond.methodLink RL 230 yX11_tell ∈ wsT := wsT_in (tb_6 (List.mem_of_getElem? (i := 188) rfl)) rfl
theorem ml_L_233 : Cond.methodLink RL 233 yX12_tell ∈ wsT := wsT_in (tb_9 (List.mem_of_getElem? (i := 219) rfl)) rfl
theorem ml_L_234 : Cond.methodLink RL 234 yX11_check ∈ wsT := wsT_in (tb_6 (List.mem_of_getElem? (i := 192) rfl)) rfl
theorem ml_L_237 : Cond.methodLink RL 237 yX12_check ∈ wsT := wsT_in (tb_9 (List.mem_of_getElem? (i := 223) rfl)) rfl
theorem ml_L_238 : Cond.methodLink RL 238 yX11_keep ∈ wsT := wsT_in (tb_7 (List.mem_of_getElem? (i := 11) rfl)) rfl
theorem ml_L_242 : Cond.methodLink RL 242 yX12_keep ∈ wsT := wsT_in (tb_10 (List.mem_of_getElem? (i := 8) rfl)) rfl
theorem ml_L_243 : Cond.methodLink RL 243 yX11_back ∈ wsT := wsT_in (tb_7 (List.mem_of_getElem? (i := 15) rfl)) rfl
theorem ml_L_246 : Cond.methodLink RL 246 yX12_back ∈ wsT := wsT_in (tb_10 (List.mem_of_getElem? (i := 12) rfl)) rfl
theorem ml_L_247 : Cond.methodLink RL 247 yX11_count ∈ wsT := wsT_in (tb_7 (List.mem_of_getElem? (i := 19) rfl)) rfl
theorem ml_L_250 : Cond.methodLink RL 250 yX12_count ∈ wsT := wsT_in (tb_10 (List.mem_of_getElem? (i := 16) rfl)) rfl
theorem i_cG {X : Xc} {kc ks kc' ks' pc pc' : Nat} {L : List (Nat × AV)} {M : Mem} {ρ : Type} {res : ρ} {k : Int → Mem → Option ρ} {Fc : Option (Int × Mem)} {st0 rest : List AV} (g : Mem → Mem) (mc ms n : Nat) (hr : ∀ q, Fc = some q → OkM M → okS st0 → CRun X M pc st0 rest (some (aI q.1)) (g q.2) mc ms) (hkc : mc + kc' ≤ kc) (hks : ms + ks' ≤ ks) (hp : pc + 3 = pc') (hn : st0.drop n = rest) (hb : (mc == 0 || (rest.all (fun v => !isB v) && L.all (fun q => !isB q.2))) = true) (kk : ∀ v M', Im X kc' ks' pc' L (aI v :: rest) (g M') res (k v M')) : Im X kc ks pc L st0 M res (bnI Fc k) := by
  subst hp
  intro hF hM hL hS ba hba H locs ls cells slots h1 h2 hls hP hD hSS
  cases hFc : Fc with
  | none => rw [hFc] at hF; cases hF
  | some q =>
    rw [hFc] at hF
    obtain ⟨a, hrun⟩ := hr q hFc hM hS ba H locs ls cells slots (by omega) (by omega) hls.1 hP hD hSS
    refine go_call hrun hSS (fun ba' H1 locs1 hbz hok hM1 hP1 hD1 hS1 => ?_)
    obtain ⟨e1, e2⟩ := ba_same (ad := gd (xG X)) hb hbz
    rw [e1]
    rw [e2] at hls
    exact kk q.1 q.2 hF hM1 hL ⟨(hok _ rfl).1, okS_drop hS hn⟩ ba' (fun h0 => (hbz (by omega)).trans (hba h0)) H1 locs1 ls (cells + mc) (slots + ms) (by omega) (by omega) hls hP1 hD1 hS1
theorem i_lawret {X : Xc} {kc ks pc pc' : Nat} {L : List (Nat × AV)} {M : Mem} {b : Nat} (C : Cx X RL code ret) (hR : xR X = room_1) (ha : xa X = #[Value.ref b]) (hb : gb (xG X) = (xs X).heap.size) (hq : xQ X = lw_Z (xb X) (xa X) (xs X)) (hd : Dc code pc .ireturn 1 pc') : Im X kc ks pc L [aI 1] M () (some ()) := by
  intro hF hM hL hS ba hba H locs ls cells slots h1 h2 hls hP hD hSS
  obtain ⟨hd, rfl⟩ := hd
  refine va_forget (fun q hq => ?_) ?_
  · have := hSS.2.2 q hq
    show (xs X).heap.size ≤ _
    rw [← hb]
    exact this
  rw [hR] at h1 h2
  refine W.widen (k := 600000) (n := 7302250) (Nat.le_trans (Nat.le_add_right _ _) h1) (Nat.le_trans (Nat.le_add_right _ _) h2) ?_
  show W (xp X) (xl X) (xe X) (xR X) (xs X) (xm X) (xa X) (xb X) (xt X) (xc X) H [] 600000 7302250 (xQ X) (F0 (xm X) pc ls [.int 1])
  rw [show xQ X = _ from hq, show xR X = _ from hR, show xa X = _ from ha]
  exact lw_ret C.1 C.2.1 C.2.2.2.2.2.2.2.2 C.2.2.2.2.2.2.2.1 hd
def lawLp (xs : Nat → Int32) (Ln : Nat) : Nat → Int → Mem → Mem → Option Unit
  | 0, _, _, _ => none
  | n + 1, i, MP, MR =>
    if w32 ((Ln : Int) - 6) < i then some () else
    rdX xs Ln i fun v0 =>
    jn (fun (MP MR : Mem) => nm (w32 (i + 6)) fun i2 => lawLp xs Ln n i2 MP MR) fun j =>
    if bAnd v0 63 = 0 then (
      rdX xs Ln (w32 (i + 1)) fun a1 =>
      bnI (pTop_cell a1 MP) fun v MP1 =>
      rdX xs Ln (w32 (i + 1)) fun b1 =>
      bnI (rM_cell b1 MR) fun w MR1 =>
      if v = w then j MP1 MR1 else none) else (
    if bAnd v0 63 = 1 then (
      rdX xs Ln (w32 (i + 1)) fun a1 =>
      rdX xs Ln (w32 (i + 2)) fun a2 =>
      rdX xs Ln (w32 (i + 3)) fun a3 =>
      bnI (pTop_water a1 a2 a3 MP) fun v MP1 =>
      rdX xs Ln (w32 (i + 1)) fun b1 =>
      rdX xs Ln (w32 (i + 2)) fun b2 =>
      rdX xs Ln (w32 (i + 3)) fun b3 =>
      bnI (rM_water b1 b2 b3 MR) fun w MR1 =>
      if v = w then j MP1 MR1 else none) else (
    if bAnd v0 63 = 2 then (
      rdX xs Ln (w32 (i + 1)) fun a1 =>
      rdX xs Ln (w32 (i + 2)) fun a2 =>
      rdX xs Ln (w32 (i + 3)) fun a3 =>
      bnI (pTop_person a1 a2 a3 MP) fun v MP1 =>
      rdX xs Ln (w32 (i + 1)) fun b1 =>
      rdX xs Ln (w32 (i + 2)) fun b2 =>
      rdX xs Ln (w32 (i + 3)) fun b3 =>
      bnI (rM_person b1 b2 b3 MR) fun w MR1 =>
      if v = w then j MP1 MR1 else none) else (
    if bAnd v0 63 = 3 then (
      rdX xs Ln (w32 (i + 1)) fun a1 =>
      rdX xs Ln (w32 (i + 2)) fun a2 =>
      bnI (pTop_is a1 a2 MP) fun v MP1 =>
      rdX xs Ln (w32 (i + 1)) fun b1 =>
      rdX xs Ln (w32 (i + 2)) fun b2 =>
      bnI (rM_is b1 b2 MR) fun w MR1 =>
      if v = w then j MP1 MR1 else none) else (
    if bAnd v0 63 = 4 then (
      rdX xs Ln (w32 (i + 1)) fun a1 =>
      rdX xs Ln (w32 (i + 2)) fun a2 =>
      rdX xs Ln (w32 (i + 3)) fun a3 =>
      bnI (pTop_be a1 a2 a3 MP) fun v MP1 =>
      rdX xs Ln (w32 (i + 1)) fun b1 =>
      rdX xs Ln (w32 (i + 2)) fun b2 =>
      rdX xs Ln (w32 (i + 3)) fun b3 =>
      bnI (rM_be b1 b2 b3 MR) fun w MR1 =>
      if v = w then j MP1 MR1 else none) else (
    if bAnd v0 63 = 5 then (
      rdX xs Ln (w32 (i + 1)) fun a1 =>
      bnI (pTop_die a1 MP) fun v MP1 =>
      rdX xs Ln (w32 (i + 1)) fun b1 =>
      bnI (rM_die b1 MR) fun w MR1 =>
      if v = w then j MP1 MR1 else none) else (
    if bAnd v0 63 = 6 then (
      rdX xs Ln (w32 (i + 1)) fun a1 =>
      rdX xs Ln (w32 (i + 2)) fun a2 =>
      rdX xs Ln (w32 (i + 3)) fun a3 =>
      rdX xs Ln (w32 (i + 4)) fun a4 =>
      bnI (pTop_tie a1 a2 a3 a4 MP) fun v MP1 =>
      rdX xs Ln (w32 (i + 1)) fun b1 =>
      rdX xs Ln (w32 (i + 2)) fun b2 =>
      rdX xs Ln (w32 (i + 3)) fun b3 =>
      rdX xs Ln (w32 (i + 4)) fun b4 =>
      bnI (rM_tie b1 b2 b3 b4 MR) fun w MR1 =>
      if v = w then j MP1 MR1 else none) else (
    if bAnd v0 63 = 7 then (
      rdX xs Ln (w32 (i + 1)) fun a1 =>
      rdX xs Ln (w32 (i + 2)) fun a2 =>
      rdX xs Ln (w32 (i + 3)) fun a3 =>
      rdX xs Ln (w32 (i + 4)) fun a4 =>
      bnI (pTop_pass a1 a2 a3 a4 MP) fun v MP1 =>
      rdX xs Ln (w32 (i + 1)) fun b1 =>
      rdX xs Ln (w32 (i + 2)) fun b2 =>
      rdX xs Ln (w32 (i + 3)) fun b3 =>
      rdX xs Ln (w32 (i + 4)) fun b4 =>
      bnI (rM_pass b1 b2 b3 b4 MR) fun w MR1 =>
      if v = w then j MP1 MR1 else none) else (
    if bAnd v0 63 = 8 then (
      rdX xs Ln (w32 (i + 1)) fun a1 =>
      rdX xs Ln (w32 (i + 2)) fun a2 =>
      rdX xs Ln (w32 (i + 3)) fun a3 =>
      bnI (pTop_parcel a1 a2 a3 MP) fun v MP1 =>
      rdX xs Ln (w32 (i + 1)) fun b1 =>
      rdX xs Ln (w32 (i + 2)) fun b2 =>
      rdX xs Ln (w32 (i + 3)) fun b3 =>
      bnI (rM_parcel b1 b2 b3 MR) fun w MR1 =>
      if v = w then j MP1 MR1 else none) else (
    if bAnd v0 63 = 9 then (
      rdX xs Ln (w32 (i + 1)) fun a1 =>
      rdX xs Ln (w32 (i + 2)) fun a2 =>
      bnI (pTop_told a1 a2 MP) fun v MP1 =>
      rdX xs Ln (w32 (i + 1)) fun b1 =>
      rdX xs Ln (w32 (i + 2)) fun b2 =>
      bnI (rM_told b1 b2 MR) fun w MR1 =>
      if v = w then j MP1 MR1 else none) else (
    if bAnd v0 63 = 10 then (
      rdX xs Ln (w32 (i + 1)) fun a1 =>
      rdX xs Ln (w32 (i + 2)) fun a2 =>
      bnI (pTop_as a1 a2 MP) fun v MP1 =>
      rdX xs Ln (w32 (i + 1)) fun b1 =>
      rdX xs Ln (w32 (i + 2)) fun b2 =>
      bnI (rM_as b1 b2 MR) fun w MR1 =>
      if v = w then j MP1 MR1 else none) else (
    if bAnd v0 63 = 11 then (
      rdX xs Ln (w32 (i + 1)) fun a1 =>
      rdX xs Ln (w32 (i + 2)) fun a2 =>
      bnI (pTop_change a1 a2 MP) fun v MP1 =>
      rdX xs Ln (w32 (i + 1)) fun b1 =>
      rdX xs Ln (w32 (i + 2)) fun b2 =>
      bnI (rM_change b1 b2 MR) fun w MR1 =>
      if v = w then j MP1 MR1 else none) else (
    if bAnd v0 63 = 12 then (
      rdX xs Ln (w32 (i + 1)) fun a1 =>
      rdX xs Ln (w32 (i + 2)) fun a2 =>
      rdX xs Ln (w32 (i + 3)) fun a3 =>
      bnI (pTop_gate a1 a2 a3 MP) fun v MP1 =>
      rdX xs Ln (w32 (i + 1)) fun b1 =>
      rdX xs Ln (w32 (i + 2)) fun b2 =>
      rdX xs Ln (w32 (i + 3)) fun b3 =>
      bnI (rM_gate b1 b2 b3 MR) fun w MR1 =>
      if v = w then j MP1 MR1 else none) else (
    if bAnd v0 63 = 13 then (
      rdX xs Ln (w32 (i + 1)) fun a1 =>
      rdX xs Ln (w32 (i + 2)) fun a2 =>
      bnI (pTop_kinship a1 a2 MP) fun v MP1 =>
      rdX xs Ln (w32 (i + 1)) fun b1 =>
      rdX xs Ln (w32 (i + 2)) fun b2 =>
      bnI (rM_kinship b1 b2 MR) fun w MR1 =>
      if v = w then j MP1 MR1 else none) else (
    if bAnd v0 63 = 14 then (
      rdX xs Ln (w32 (i + 1)) fun a1 =>
      bnI (pTop_take a1 MP) fun v MP1 =>
      rdX xs Ln (w32 (i + 1)) fun b1 =>
      bnI (rM_take b1 MR) fun w MR1 =>
      if v = w then j MP1 MR1 else none) else (
    if bAnd v0 63 = 15 then (
      rdX xs Ln (w32 (i + 1)) fun a1 =>
      bnI (pTop_why a1 MP) fun v MP1 =>
      rdX xs Ln (w32 (i + 1)) fun b1 =>
      bnI (rM_why b1 MR) fun w MR1 =>
      if v = w then j MP1 MR1 else none) else (
    if bAnd v0 63 = 16 then (
      rdX xs Ln (w32 (i + 1)) fun a1 =>
      rdX xs Ln (w32 (i + 2)) fun a2 =>
      bnI (pTop_ask a1 a2 MP) fun v MP1 =>
      rdX xs Ln (w32 (i + 1)) fun b1 =>
      rdX xs Ln (w32 (i + 2)) fun b2 =>
      bnI (rM_ask b1 b2 MR) fun w MR1 =>
      if v = w then j MP1 MR1 else none) else (
    if bAnd v0 63 = 17 then (
      rdX xs Ln (w32 (i + 1)) fun a1 =>
      rdX xs Ln (w32 (i + 2)) fun a2 =>
      bnI (pTop_letter a1 a2 MP) fun v MP1 =>
      rdX xs Ln (w32 (i + 1)) fun b1 =>
      rdX xs Ln (w32 (i + 2)) fun b2 =>
      bnI (rM_letter b1 b2 MR) fun w MR1 =>
      if v = w then j MP1 MR1 else none) else (
    if bAnd v0 63 = 18 then (
      rdX xs Ln (w32 (i + 1)) fun a1 =>
      rdX xs Ln (w32 (i + 2)) fun a2 =>
      rdX xs Ln (w32 (i + 3)) fun a3 =>
      bnI (pTop_call a1 a2 a3 MP) fun v MP1 =>
      rdX xs Ln (w32 (i + 1)) fun b1 =>
      rdX xs Ln (w32 (i + 2)) fun b2 =>
      rdX xs Ln (w32 (i + 3)) fun b3 =>
      bnI (rM_call b1 b2 b3 MR) fun w MR1 =>
      if v = w then j MP1 MR1 else none) else (
    if bAnd v0 63 = 19 then (
      rdX xs Ln (w32 (i + 1)) fun a1 =>
      bnI (pTop_run a1 MP) fun v MP1 =>
      rdX xs Ln (w32 (i + 1)) fun b1 =>
      bnI (rM_run b1 MR) fun w MR1 =>
      if v = w then j MP1 MR1 else none) else (
    if bAnd v0 63 = 20 then (
      rdX xs Ln (w32 (i + 1)) fun a1 =>
      rdX xs Ln (w32 (i + 2)) fun a2 =>
      rdX xs Ln (w32 (i + 3)) fun a3 =>
      bnI (pTop_feed a1 a2 a3 MP) fun v MP1 =>
      rdX xs Ln (w32 (i + 1)) fun b1 =>
      rdX xs Ln (w32 (i + 2)) fun b2 =>
      rdX xs Ln (w32 (i + 3)) fun b3 =>
      bnI (rM_feed b1 b2 b3 MR) fun w MR1 =>
      if v = w then j MP1 MR1 else none) else (
    if bAnd v0 63 = 21 then (
      rdX xs Ln (w32 (i + 1)) fun a1 =>
      bnI (pTop_trim a1 MP) fun v MP1 =>
      rdX xs Ln (w32 (i + 1)) fun b1 =>
      bnI (rM_trim b1 MR) fun w MR1 =>
      if v = w then j MP1 MR1 else none) else (
    if bAnd v0 63 = 22 then (
      rdX xs Ln (w32 (i + 1)) fun a1 =>
      rdX xs Ln (w32 (i + 2)) fun a2 =>
      bnI (pTop_text a1 a2 MP) fun v MP1 =>
      rdX xs Ln (w32 (i + 1)) fun b1 =>
      rdX xs Ln (w32 (i + 2)) fun b2 =>
      bnI (rM_text b1 b2 MR) fun w MR1 =>
      if v = w then j MP1 MR1 else none) else (
    if bAnd v0 63 = 23 then (
      rdX xs Ln (w32 (i + 1)) fun a1 =>
      rdX xs Ln (w32 (i + 2)) fun a2 =>
      bnI (pTop_of a1 a2 MP) fun v MP1 =>
      rdX xs Ln (w32 (i + 1)) fun b1 =>
      rdX xs Ln (w32 (i + 2)) fun b2 =>
      bnI (rM_of b1 b2 MR) fun w MR1 =>
      if v = w then j MP1 MR1 else none) else (
    if bAnd v0 63 = 24 then (
      rdX xs Ln (w32 (i + 1)) fun a1 =>
      bnI (pTop_strike a1 MP) fun v MP1 =>
      rdX xs Ln (w32 (i + 1)) fun b1 =>
      bnI (rM_strike b1 MR) fun w MR1 =>
      if v = w then j MP1 MR1 else none) else (
    if bAnd v0 63 = 25 then (
      rdX xs Ln (w32 (i + 1)) fun a1 =>
      rdX xs Ln (w32 (i + 2)) fun a2 =>
      bnI (pTop_counts a1 a2 MP) fun v MP1 =>
      rdX xs Ln (w32 (i + 1)) fun b1 =>
      rdX xs Ln (w32 (i + 2)) fun b2 =>
      bnI (rM_counts b1 b2 MR) fun w MR1 =>
      if v = w then j MP1 MR1 else none) else (
    if bAnd v0 63 = 26 then (
      rdX xs Ln (w32 (i + 1)) fun a1 =>
      rdX xs Ln (w32 (i + 2)) fun a2 =>
      bnI (pTop_may a1 a2 MP) fun v MP1 =>
      rdX xs Ln (w32 (i + 1)) fun b1 =>
      rdX xs Ln (w32 (i + 2)) fun b2 =>
      bnI (rM_may b1 b2 MR) fun w MR1 =>
      if v = w then j MP1 MR1 else none) else (
    if bAnd v0 63 = 27 then (
      rdX xs Ln (w32 (i + 1)) fun a1 =>
      rdX xs Ln (w32 (i + 2)) fun a2 =>
      rdX xs Ln (w32 (i + 3)) fun a3 =>
      bnI (pTop_unlike a1 a2 a3 MP) fun v MP1 =>
      rdX xs Ln (w32 (i + 1)) fun b1 =>
      rdX xs Ln (w32 (i + 2)) fun b2 =>
      rdX xs Ln (w32 (i + 3)) fun b3 =>
      bnI (rM_unlike b1 b2 b3 MR) fun w MR1 =>
      if v = w then j MP1 MR1 else none) else (
    if bAnd v0 63 = 28 then (
      rdX xs Ln (w32 (i + 1)) fun a1 =>
      bnI (pTop_visits a1 MP) fun v MP1 =>
      rdX xs Ln (w32 (i + 1)) fun b1 =>
      bnI (rM_visits b1 MR) fun w MR1 =>
      if v = w then j MP1 MR1 else none) else (
    if bAnd v0 63 = 29 then (
      rdX xs Ln (w32 (i + 1)) fun a1 =>
      bnI (pTop_changed a1 MP) fun v MP1 =>
      rdX xs Ln (w32 (i + 1)) fun b1 =>
      bnI (rM_changed b1 MR) fun w MR1 =>
      if v = w then j MP1 MR1 else none) else (
    if bAnd v0 63 = 30 then (
      rdX xs Ln (w32 (i + 1)) fun a1 =>
      rdX xs Ln (w32 (i + 2)) fun a2 =>
      rdX xs Ln (w32 (i + 3)) fun a3 =>
      rdX xs Ln (w32 (i + 4)) fun a4 =>
      bnI (pTop_house a1 a2 a3 a4 MP) fun v MP1 =>
      rdX xs Ln (w32 (i + 1)) fun b1 =>
      rdX xs Ln (w32 (i + 2)) fun b2 =>
      rdX xs Ln (w32 (i + 3)) fun b3 =>
      rdX xs Ln (w32 (i + 4)) fun b4 =>
      bnI (rM_house b1 b2 b3 b4 MR) fun w MR1 =>
      if v = w then j MP1 MR1 else none) else (
    if bAnd v0 63 = 31 then (
      rdX xs Ln (w32 (i + 1)) fun a1 =>
      bnI (pTop_flow a1 MP) fun v MP1 =>
      rdX xs Ln (w32 (i + 1)) fun b1 =>
      bnI (rM_flow b1 MR) fun w MR1 =>
      if v = w then j MP1 MR1 else none) else (
    if bAnd v0 63 = 32 then (
      rdX xs Ln (w32 (i + 1)) fun a1 =>
      bnI (pTop_lack a1 MP) fun v MP1 =>
      rdX xs Ln (w32 (i + 1)) fun b1 =>
      bnI (rM_lack b1 MR) fun w MR1 =>
      if v = w then j MP1 MR1 else none) else (
    if bAnd v0 63 = 33 then (
      rdX xs Ln (w32 (i + 1)) fun a1 =>
      rdX xs Ln (w32 (i + 2)) fun a2 =>
      bnI (pTop_need a1 a2 MP) fun v MP1 =>
      rdX xs Ln (w32 (i + 1)) fun b1 =>
      rdX xs Ln (w32 (i + 2)) fun b2 =>
      bnI (rM_need b1 b2 MR) fun w MR1 =>
      if v = w then j MP1 MR1 else none) else (
    if bAnd v0 63 = 34 then (
      rdX xs Ln (w32 (i + 1)) fun a1 =>
      rdX xs Ln (w32 (i + 2)) fun a2 =>
      rdX xs Ln (w32 (i + 3)) fun a3 =>
      bnI (pTop_stop a1 a2 a3 MP) fun v MP1 =>
      rdX xs Ln (w32 (i + 1)) fun b1 =>
      rdX xs Ln (w32 (i + 2)) fun b2 =>
      rdX xs Ln (w32 (i + 3)) fun b3 =>
      bnI (rM_stop b1 b2 b3 MR) fun w MR1 =>
      if v = w then j MP1 MR1 else none) else (
    if bAnd v0 63 = 35 then (
      rdX xs Ln (w32 (i + 1)) fun a1 =>
      rdX xs Ln (w32 (i + 2)) fun a2 =>
      rdX xs Ln (w32 (i + 3)) fun a3 =>
      rdX xs Ln (w32 (i + 4)) fun a4 =>
      bnI (pTop_train a1 a2 a3 a4 MP) fun v MP1 =>
      rdX xs Ln (w32 (i + 1)) fun b1 =>
      rdX xs Ln (w32 (i + 2)) fun b2 =>
      rdX xs Ln (w32 (i + 3)) fun b3 =>
      rdX xs Ln (w32 (i + 4)) fun b4 =>
      bnI (rM_train b1 b2 b3 b4 MR) fun w MR1 =>
      if v = w then j MP1 MR1 else none) else (
    if bAnd v0 63 = 36 then (
      rdX xs Ln (w32 (i + 1)) fun a1 =>
      rdX xs Ln (w32 (i + 2)) fun a2 =>
      rdX xs Ln (w32 (i + 3)) fun a3 =>
      bnI (pTop_file a1 a2 a3 MP) fun v MP1 =>
      rdX xs Ln (w32 (i + 1)) fun b1 =>
      rdX xs Ln (w32 (i + 2)) fun b2 =>
      rdX xs Ln (w32 (i + 3)) fun b3 =>
      bnI (rM_file b1 b2 b3 MR) fun w MR1 =>
      if v = w then j MP1 MR1 else none) else (
    if bAnd v0 63 = 37 then (
      rdX xs Ln (w32 (i + 1)) fun a1 =>
      rdX xs Ln (w32 (i + 2)) fun a2 =>
      bnI (pTop_alike a1 a2 MP) fun v MP1 =>
      rdX xs Ln (w32 (i + 1)) fun b1 =>
      rdX xs Ln (w32 (i + 2)) fun b2 =>
      bnI (rM_alike b1 b2 MR) fun w MR1 =>
      if v = w then j MP1 MR1 else none) else (
    if bAnd v0 63 = 38 then (
      rdX xs Ln (w32 (i + 1)) fun a1 =>
      bnI (pTop_pairing a1 MP) fun v MP1 =>
      rdX xs Ln (w32 (i + 1)) fun b1 =>
      bnI (rM_pairing b1 MR) fun w MR1 =>
      if v = w then j MP1 MR1 else none) else (
    if bAnd v0 63 = 39 then (
      rdX xs Ln (w32 (i + 1)) fun a1 =>
      rdX xs Ln (w32 (i + 2)) fun a2 =>
      rdX xs Ln (w32 (i + 3)) fun a3 =>
      bnI (pTop_meter a1 a2 a3 MP) fun v MP1 =>
      rdX xs Ln (w32 (i + 1)) fun b1 =>
      rdX xs Ln (w32 (i + 2)) fun b2 =>
      rdX xs Ln (w32 (i + 3)) fun b3 =>
      bnI (rM_meter b1 b2 b3 MR) fun w MR1 =>
      if v = w then j MP1 MR1 else none) else (
    if bAnd v0 63 = 40 then (
      rdX xs Ln (w32 (i + 1)) fun a1 =>
      rdX xs Ln (w32 (i + 2)) fun a2 =>
      rdX xs Ln (w32 (i + 3)) fun a3 =>
      bnI (pTop_put a1 a2 a3 MP) fun v MP1 =>
      rdX xs Ln (w32 (i + 1)) fun b1 =>
      rdX xs Ln (w32 (i + 2)) fun b2 =>
      rdX xs Ln (w32 (i + 3)) fun b3 =>
      bnI (rM_put b1 b2 b3 MR) fun w MR1 =>
      if v = w then j MP1 MR1 else none) else (
    if bAnd v0 63 = 41 then (
      rdX xs Ln (w32 (i + 1)) fun a1 =>
      rdX xs Ln (w32 (i + 2)) fun a2 =>
      bnI (pTop_read a1 a2 MP) fun v MP1 =>
      rdX xs Ln (w32 (i + 1)) fun b1 =>
      rdX xs Ln (w32 (i + 2)) fun b2 =>
      bnI (rM_read b1 b2 MR) fun w MR1 =>
      if v = w then j MP1 MR1 else none) else (
    if bAnd v0 63 = 42 then (
      rdX xs Ln (w32 (i + 1)) fun a1 =>
      rdX xs Ln (w32 (i + 2)) fun a2 =>
      rdX xs Ln (w32 (i + 3)) fun a3 =>
      rdX xs Ln (w32 (i + 4)) fun a4 =>
      rdX xs Ln (w32 (i + 5)) fun a5 =>
      bnI (pTop_copy a1 a2 a3 a4 a5 MP) fun v MP1 =>
      rdX xs Ln (w32 (i + 1)) fun b1 =>
      rdX xs Ln (w32 (i + 2)) fun b2 =>
      rdX xs Ln (w32 (i + 3)) fun b3 =>
      rdX xs Ln (w32 (i + 4)) fun b4 =>
      rdX xs Ln (w32 (i + 5)) fun b5 =>
      bnI (rM_copy b1 b2 b3 b4 b5 MR) fun w MR1 =>
      if v = w then j MP1 MR1 else none) else (
    if bAnd v0 63 = 43 then (
      rdX xs Ln (w32 (i + 1)) fun a1 =>
      rdX xs Ln (w32 (i + 2)) fun a2 =>
      bnI (pTop_wrong a1 a2 MP) fun v MP1 =>
      rdX xs Ln (w32 (i + 1)) fun b1 =>
      rdX xs Ln (w32 (i + 2)) fun b2 =>
      bnI (rM_wrong b1 b2 MR) fun w MR1 =>
      if v = w then j MP1 MR1 else none) else (
    if bAnd v0 63 = 44 then (
      rdX xs Ln (w32 (i + 1)) fun a1 =>
      bnI (pTop_owed a1 MP) fun v MP1 =>
      rdX xs Ln (w32 (i + 1)) fun b1 =>
      bnI (rM_owed b1 MR) fun w MR1 =>
      if v = w then j MP1 MR1 else none) else (
    if bAnd v0 63 = 45 then (
      rdX xs Ln (w32 (i + 1)) fun a1 =>
      rdX xs Ln (w32 (i + 2)) fun a2 =>
      bnI (pTop_coin a1 a2 MP) fun v MP1 =>
      rdX xs Ln (w32 (i + 1)) fun b1 =>
      rdX xs Ln (w32 (i + 2)) fun b2 =>
      bnI (rM_coin b1 b2 MR) fun w MR1 =>
      if v = w then j MP1 MR1 else none) else (
    if bAnd v0 63 = 46 then (
      rdX xs Ln (w32 (i + 1)) fun a1 =>
      rdX xs Ln (w32 (i + 2)) fun a2 =>
      bnI (pTop_rule a1 a2 MP) fun v MP1 =>
      rdX xs Ln (w32 (i + 1)) fun b1 =>
      rdX xs Ln (w32 (i + 2)) fun b2 =>
      bnI (rM_rule b1 b2 MR) fun w MR1 =>
      if v = w then j MP1 MR1 else none) else (
    if bAnd v0 63 = 47 then (
      rdX xs Ln (w32 (i + 1)) fun a1 =>
      rdX xs Ln (w32 (i + 2)) fun a2 =>
      rdX xs Ln (w32 (i + 3)) fun a3 =>
      bnI (pTop_feast a1 a2 a3 MP) fun v MP1 =>
      rdX xs Ln (w32 (i + 1)) fun b1 =>
      rdX xs Ln (w32 (i + 2)) fun b2 =>
      rdX xs Ln (w32 (i + 3)) fun b3 =>
      bnI (rM_feast b1 b2 b3 MR) fun w MR1 =>
      if v = w then j MP1 MR1 else none) else (
    if bAnd v0 63 = 48 then (
      rdX xs Ln (w32 (i + 1)) fun a1 =>
      bnI (pTop_waiting a1 MP) fun v MP1 =>
      rdX xs Ln (w32 (i + 1)) fun b1 =>
      bnI (rM_waiting b1 MR) fun w MR1 =>
      if v = w then j MP1 MR1 else none) else (
    if bAnd v0 63 = 49 then (
      rdX xs Ln (w32 (i + 1)) fun a1 =>
      bnI (pTop_gates a1 MP) fun v MP1 =>
      rdX xs Ln (w32 (i + 1)) fun b1 =>
      bnI (rM_gates b1 MR) fun w MR1 =>
      if v = w then j MP1 MR1 else none) else (
    if bAnd v0 63 = 50 then (
      rdX xs Ln (w32 (i + 1)) fun a1 =>
      rdX xs Ln (w32 (i + 2)) fun a2 =>
      rdX xs Ln (w32 (i + 3)) fun a3 =>
      bnI (pTop_clause a1 a2 a3 MP) fun v MP1 =>
      rdX xs Ln (w32 (i + 1)) fun b1 =>
      rdX xs Ln (w32 (i + 2)) fun b2 =>
      rdX xs Ln (w32 (i + 3)) fun b3 =>
      bnI (rM_clause b1 b2 b3 MR) fun w MR1 =>
      if v = w then j MP1 MR1 else none) else (
    if bAnd v0 63 = 51 then (
      rdX xs Ln (w32 (i + 1)) fun a1 =>
      rdX xs Ln (w32 (i + 2)) fun a2 =>
      bnI (pTop_plan a1 a2 MP) fun v MP1 =>
      rdX xs Ln (w32 (i + 1)) fun b1 =>
      rdX xs Ln (w32 (i + 2)) fun b2 =>
      bnI (rM_plan b1 b2 MR) fun w MR1 =>
      if v = w then j MP1 MR1 else none) else (
    if bAnd v0 63 = 52 then (
      rdX xs Ln (w32 (i + 1)) fun a1 =>
      rdX xs Ln (w32 (i + 2)) fun a2 =>
      bnI (pTop_planned a1 a2 MP) fun v MP1 =>
      rdX xs Ln (w32 (i + 1)) fun b1 =>
      rdX xs Ln (w32 (i + 2)) fun b2 =>
      bnI (rM_planned b1 b2 MR) fun w MR1 =>
      if v = w then j MP1 MR1 else none) else (
    if bAnd v0 63 = 53 then (
      rdX xs Ln (w32 (i + 1)) fun a1 =>
      bnI (pTop_tell a1 MP) fun v MP1 =>
      rdX xs Ln (w32 (i + 1)) fun b1 =>
      bnI (rM_tell b1 MR) fun w MR1 =>
      if v = w then j MP1 MR1 else none) else (
    if bAnd v0 63 = 54 then (
      rdX xs Ln (w32 (i + 1)) fun a1 =>
      rdX xs Ln (w32 (i + 2)) fun a2 =>
      bnI (pTop_check a1 a2 MP) fun v MP1 =>
      rdX xs Ln (w32 (i + 1)) fun b1 =>
      rdX xs Ln (w32 (i + 2)) fun b2 =>
      bnI (rM_check b1 b2 MR) fun w MR1 =>
      if v = w then j MP1 MR1 else none) else (
    if bAnd v0 63 = 55 then (
      bnI (pTop_keep MP) fun v MP1 =>
      bnI (rM_keep MR) fun w MR1 =>
      if v = w then j MP1 MR1 else none) else (
    if bAnd v0 63 = 56 then (
      bnI (pTop_back MP) fun v MP1 =>
      bnI (rM_back MR) fun w MR1 =>
      if v = w then j MP1 MR1 else none) else (
    if bAnd v0 63 = 57 then (
      rdX xs Ln (w32 (i + 1)) fun a1 =>
      bnI (pTop_count a1 MP) fun v MP1 =>
      rdX xs Ln (w32 (i + 1)) fun b1 =>
      bnI (rM_count b1 MR) fun w MR1 =>
      if v = w then j MP1 MR1 else none) else (
    j MP MR))))))))))))))))))))))))))))))))))))))))))))))))))))))))))
