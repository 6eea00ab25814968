/-! ===== M_fitCircle ===== -/
def z_M_fitCircle_18 : List eg_I := [.inl (18, 0, .nop, 0, 0)]
def z_M_fitCircle_64 : List eg_I := [.inl (64, 0, .nop, 0, 0)]
def z_M_fitCircle_218 : List eg_I := [.inl (218, 0, .nop, 0, 0)]
def z_M_fitCircle_230 : List eg_I := [.inl (230, 0, .nop, 0, 0)]
def c_M_fitCircle_485 : List eg_I := .inl (485, 1, .lreturn, 0, 0) :: []
def c_M_fitCircle_482 : List eg_I := .inr (482, 1, 238, n_M_circleOfThree, 2, 12, 0, 0) :: c_M_fitCircle_485
def c_M_fitCircle_481 : List eg_I := .inl (481, 1, .iload 2, 0, 0) :: c_M_fitCircle_482
def c_M_fitCircle_480 : List eg_I := .inl (480, 1, .iload 1, 0, 0) :: c_M_fitCircle_481
def c_M_fitCircle_479 : List eg_I := .inl (479, 1, .aload 0, 0, 0) :: c_M_fitCircle_480
def c_M_fitCircle_476 : List eg_I := .inl (476, 3, .goto (-258), 218, 0) :: []
def c_M_fitCircle_473 : List eg_I := .inl (473, 3, .iinc 6 (1), 0, 0) :: c_M_fitCircle_476
def c_M_fitCircle_470 : List eg_I := .inl (470, 3, .goto (-240), 230, 0) :: []
def c_M_fitCircle_467 : List eg_I := .inl (467, 3, .iinc 7 (1), 0, 0) :: c_M_fitCircle_470
def c_M_fitCircle_466 : List eg_I := .inl (466, 1, .lreturn, 0, 0) :: []
def c_M_fitCircle_463 : List eg_I := .inl (463, 3, .sipush (2), 216, 0) :: c_M_fitCircle_466
def c_M_fitCircle_460 : List eg_I := .inr (460, 1, 231, n_M_keepMiddle, 4, 12, 0, 0) :: c_M_fitCircle_463
def c_M_fitCircle_457 : List eg_I := .inl (457, 3, .sipush (2), 216, 0) :: c_M_fitCircle_460
def c_M_fitCircle_456 : List eg_I := .inl (456, 1, .i2l, 0, 0) :: c_M_fitCircle_457
def c_M_fitCircle_455 : List eg_I := .inl (455, 1, .iadd, 0, 0) :: c_M_fitCircle_456
def c_M_fitCircle_454 : List eg_I := .inl (454, 1, .iaload, 0, 0) :: c_M_fitCircle_455
def c_M_fitCircle_452 : List eg_I := .inl (452, 2, .iload 9, 0, 0) :: c_M_fitCircle_454
def c_M_fitCircle_449 : List eg_I := .inl (449, 3, .getfield 16, 12, 2) :: c_M_fitCircle_452
def c_M_fitCircle_448 : List eg_I := .inl (448, 1, .aload 0, 0, 0) :: c_M_fitCircle_449
def c_M_fitCircle_447 : List eg_I := .inl (447, 1, .iaload, 0, 0) :: c_M_fitCircle_448
def c_M_fitCircle_445 : List eg_I := .inl (445, 2, .iload 8, 0, 0) :: c_M_fitCircle_447
def c_M_fitCircle_442 : List eg_I := .inl (442, 3, .getfield 16, 12, 2) :: c_M_fitCircle_445
def c_M_fitCircle_441 : List eg_I := .inl (441, 1, .aload 0, 0, 0) :: c_M_fitCircle_442
def c_M_fitCircle_440 : List eg_I := .inl (440, 1, .i2l, 0, 0) :: c_M_fitCircle_441
def c_M_fitCircle_439 : List eg_I := .inl (439, 1, .iadd, 0, 0) :: c_M_fitCircle_440
def c_M_fitCircle_438 : List eg_I := .inl (438, 1, .iaload, 0, 0) :: c_M_fitCircle_439
def c_M_fitCircle_436 : List eg_I := .inl (436, 2, .iload 9, 0, 0) :: c_M_fitCircle_438
def c_M_fitCircle_433 : List eg_I := .inl (433, 3, .getfield 13, 12, 1) :: c_M_fitCircle_436
def c_M_fitCircle_432 : List eg_I := .inl (432, 1, .aload 0, 0, 0) :: c_M_fitCircle_433
def c_M_fitCircle_431 : List eg_I := .inl (431, 1, .iaload, 0, 0) :: c_M_fitCircle_432
def c_M_fitCircle_429 : List eg_I := .inl (429, 2, .iload 8, 0, 0) :: c_M_fitCircle_431
def c_M_fitCircle_426 : List eg_I := .inl (426, 3, .getfield 13, 12, 1) :: c_M_fitCircle_429
def c_M_fitCircle_425 : List eg_I := .inl (425, 1, .aload 0, 0, 0) :: c_M_fitCircle_426
def c_M_fitCircle_424 : List eg_I := .inl (424, 1, .iload 1, 0, 0) :: c_M_fitCircle_425
def c_M_fitCircle_423 : List eg_I := .inl (423, 1, .aload 0, 0, 0) :: c_M_fitCircle_424
def c_M_fitCircle_420 : List eg_I := .inr (420, 1, 196, n_M_keepMiss, 3, 12, 0, 0) :: c_M_fitCircle_423
def c_M_fitCircle_417 : List eg_I := .inl (417, 3, .sipush (4), 204, 0) :: c_M_fitCircle_420
def c_M_fitCircle_416 : List eg_I := .inl (416, 1, .ladd, 0, 0) :: c_M_fitCircle_417
def c_M_fitCircle_415 : List eg_I := .inl (415, 1, .lmul, 0, 0) :: c_M_fitCircle_416
def c_M_fitCircle_413 : List eg_I := .inl (413, 2, .lload 13, 0, 0) :: c_M_fitCircle_415
def c_M_fitCircle_411 : List eg_I := .inl (411, 2, .lload 13, 0, 0) :: c_M_fitCircle_413
def c_M_fitCircle_410 : List eg_I := .inl (410, 1, .lmul, 0, 0) :: c_M_fitCircle_411
def c_M_fitCircle_408 : List eg_I := .inl (408, 2, .lload 11, 0, 0) :: c_M_fitCircle_410
def c_M_fitCircle_406 : List eg_I := .inl (406, 2, .lload 11, 0, 0) :: c_M_fitCircle_408
def c_M_fitCircle_405 : List eg_I := .inl (405, 1, .iload 1, 0, 0) :: c_M_fitCircle_406
def c_M_fitCircle_404 : List eg_I := .inl (404, 1, .aload 0, 0, 0) :: c_M_fitCircle_405
def c_M_fitCircle_402 : List eg_I := .inl (402, 2, .lstore 13, 0, 0) :: c_M_fitCircle_404
def c_M_fitCircle_401 : List eg_I := .inl (401, 1, .i2l, 0, 0) :: c_M_fitCircle_402
def c_M_fitCircle_400 : List eg_I := .inl (400, 1, .isub, 0, 0) :: c_M_fitCircle_401
def c_M_fitCircle_399 : List eg_I := .inl (399, 1, .iaload, 0, 0) :: c_M_fitCircle_400
def c_M_fitCircle_397 : List eg_I := .inl (397, 2, .iload 9, 0, 0) :: c_M_fitCircle_399
def c_M_fitCircle_394 : List eg_I := .inl (394, 3, .getfield 16, 12, 2) :: c_M_fitCircle_397
def c_M_fitCircle_393 : List eg_I := .inl (393, 1, .aload 0, 0, 0) :: c_M_fitCircle_394
def c_M_fitCircle_392 : List eg_I := .inl (392, 1, .iaload, 0, 0) :: c_M_fitCircle_393
def c_M_fitCircle_390 : List eg_I := .inl (390, 2, .iload 8, 0, 0) :: c_M_fitCircle_392
def c_M_fitCircle_387 : List eg_I := .inl (387, 3, .getfield 16, 12, 2) :: c_M_fitCircle_390
def c_M_fitCircle_386 : List eg_I := .inl (386, 1, .aload 0, 0, 0) :: c_M_fitCircle_387
def c_M_fitCircle_384 : List eg_I := .inl (384, 2, .lstore 11, 0, 0) :: c_M_fitCircle_386
def c_M_fitCircle_383 : List eg_I := .inl (383, 1, .i2l, 0, 0) :: c_M_fitCircle_384
def c_M_fitCircle_382 : List eg_I := .inl (382, 1, .isub, 0, 0) :: c_M_fitCircle_383
def c_M_fitCircle_381 : List eg_I := .inl (381, 1, .iaload, 0, 0) :: c_M_fitCircle_382
def c_M_fitCircle_379 : List eg_I := .inl (379, 2, .iload 9, 0, 0) :: c_M_fitCircle_381
def c_M_fitCircle_376 : List eg_I := .inl (376, 3, .getfield 13, 12, 1) :: c_M_fitCircle_379
def c_M_fitCircle_375 : List eg_I := .inl (375, 1, .aload 0, 0, 0) :: c_M_fitCircle_376
def c_M_fitCircle_374 : List eg_I := .inl (374, 1, .iaload, 0, 0) :: c_M_fitCircle_375
def c_M_fitCircle_372 : List eg_I := .inl (372, 2, .iload 8, 0, 0) :: c_M_fitCircle_374
def c_M_fitCircle_369 : List eg_I := .inl (369, 3, .getfield 13, 12, 1) :: c_M_fitCircle_372
def c_M_fitCircle_368 : List eg_I := .inl (368, 1, .aload 0, 0, 0) :: c_M_fitCircle_369
def c_M_fitCircle_367 : List eg_I := .inl (367, 1, .iastore, 0, 0) :: c_M_fitCircle_368
def c_M_fitCircle_365 : List eg_I := .inl (365, 2, .iload 7, 0, 0) :: c_M_fitCircle_367
def c_M_fitCircle_364 : List eg_I := .inl (364, 1, .iadd, 0, 0) :: c_M_fitCircle_365
def c_M_fitCircle_363 : List eg_I := .inl (363, 1, .iconst (1), 0, 0) :: c_M_fitCircle_364
def c_M_fitCircle_362 : List eg_I := .inl (362, 1, .imul, 0, 0) :: c_M_fitCircle_363
def c_M_fitCircle_361 : List eg_I := .inl (361, 1, .iload 1, 0, 0) :: c_M_fitCircle_362
def c_M_fitCircle_359 : List eg_I := .inl (359, 2, .iconst (6), 0, 0) :: c_M_fitCircle_361
def c_M_fitCircle_356 : List eg_I := .inl (356, 3, .getfield 38, 12, 9) :: c_M_fitCircle_359
def c_M_fitCircle_355 : List eg_I := .inl (355, 1, .aload 0, 0, 0) :: c_M_fitCircle_356
def c_M_fitCircle_354 : List eg_I := .inl (354, 1, .iastore, 0, 0) :: c_M_fitCircle_355
def c_M_fitCircle_352 : List eg_I := .inl (352, 2, .iload 6, 0, 0) :: c_M_fitCircle_354
def c_M_fitCircle_351 : List eg_I := .inl (351, 1, .imul, 0, 0) :: c_M_fitCircle_352
def c_M_fitCircle_350 : List eg_I := .inl (350, 1, .iload 1, 0, 0) :: c_M_fitCircle_351
def c_M_fitCircle_348 : List eg_I := .inl (348, 2, .iconst (6), 0, 0) :: c_M_fitCircle_350
def c_M_fitCircle_345 : List eg_I := .inl (345, 3, .getfield 38, 12, 9) :: c_M_fitCircle_348
def c_M_fitCircle_344 : List eg_I := .inl (344, 1, .aload 0, 0, 0) :: c_M_fitCircle_345
def c_M_fitCircle_343 : List eg_I := .inl (343, 1, .iastore, 0, 0) :: c_M_fitCircle_344
def c_M_fitCircle_342 : List eg_I := .inl (342, 1, .iconst (2), 0, 0) :: c_M_fitCircle_343
def c_M_fitCircle_341 : List eg_I := .inl (341, 1, .iload 1, 0, 0) :: c_M_fitCircle_342
def c_M_fitCircle_338 : List eg_I := .inl (338, 3, .getfield 35, 12, 8) :: c_M_fitCircle_341
def c_M_fitCircle_337 : List eg_I := .inl (337, 1, .aload 0, 0, 0) :: c_M_fitCircle_338
def c_M_fitCircle_336 : List eg_I := .inl (336, 1, .iastore, 0, 0) :: c_M_fitCircle_337
def c_M_fitCircle_335 : List eg_I := .inl (335, 1, .iconst (5), 0, 0) :: c_M_fitCircle_336
def c_M_fitCircle_334 : List eg_I := .inl (334, 1, .iload 1, 0, 0) :: c_M_fitCircle_335
def c_M_fitCircle_331 : List eg_I := .inl (331, 3, .getfield 32, 12, 7) :: c_M_fitCircle_334
def c_M_fitCircle_330 : List eg_I := .inl (330, 1, .aload 0, 0, 0) :: c_M_fitCircle_331
def c_M_fitCircle_327 : List eg_I := .inl (327, 3, .ifCond .eq (140), 467, 0) :: c_M_fitCircle_330
def c_M_fitCircle_324 : List eg_I := .inr (324, 1, 235, n_M_isRoundOf, 3, 12, 0, 0) :: c_M_fitCircle_327
def c_M_fitCircle_322 : List eg_I := .inl (322, 2, .iload 7, 0, 0) :: c_M_fitCircle_324
def c_M_fitCircle_320 : List eg_I := .inl (320, 2, .iload 6, 0, 0) :: c_M_fitCircle_322
def c_M_fitCircle_319 : List eg_I := .inl (319, 1, .iload 2, 0, 0) :: c_M_fitCircle_320
def c_M_fitCircle_318 : List eg_I := .inl (318, 1, .aload 0, 0, 0) :: c_M_fitCircle_319
def c_M_fitCircle_315 : List eg_I := .inl (315, 3, .ifCond .eq (152), 467, 0) :: c_M_fitCircle_318
def c_M_fitCircle_313 : List eg_I := .inl (313, 2, .iload 10, 0, 0) :: c_M_fitCircle_315
def c_M_fitCircle_311 : List eg_I := .inl (311, 2, .istore 10, 0, 0) :: c_M_fitCircle_313
def c_M_fitCircle_310 : List eg_I := .inl (310, 1, .iconst (0), 0, 0) :: c_M_fitCircle_311
def c_M_fitCircle_307 : List eg_I := .inl (307, 3, .goto (4), 311, 0) :: []
def c_M_fitCircle_306 : List eg_I := .inl (306, 1, .iconst (1), 0, 0) :: c_M_fitCircle_307
def c_M_fitCircle_303 : List eg_I := .inl (303, 3, .if_icmp .eq (7), 310, 0) :: c_M_fitCircle_306
def c_M_fitCircle_302 : List eg_I := .inl (302, 1, .iaload, 0, 0) :: c_M_fitCircle_303
def c_M_fitCircle_300 : List eg_I := .inl (300, 2, .iload 9, 0, 0) :: c_M_fitCircle_302
def c_M_fitCircle_297 : List eg_I := .inl (297, 3, .getfield 16, 12, 2) :: c_M_fitCircle_300
def c_M_fitCircle_296 : List eg_I := .inl (296, 1, .aload 0, 0, 0) :: c_M_fitCircle_297
def c_M_fitCircle_295 : List eg_I := .inl (295, 1, .iaload, 0, 0) :: c_M_fitCircle_296
def c_M_fitCircle_293 : List eg_I := .inl (293, 2, .iload 8, 0, 0) :: c_M_fitCircle_295
def c_M_fitCircle_290 : List eg_I := .inl (290, 3, .getfield 16, 12, 2) :: c_M_fitCircle_293
def c_M_fitCircle_289 : List eg_I := .inl (289, 1, .aload 0, 0, 0) :: c_M_fitCircle_290
def c_M_fitCircle_286 : List eg_I := .inl (286, 3, .if_icmp .ne (20), 306, 0) :: c_M_fitCircle_289
def c_M_fitCircle_285 : List eg_I := .inl (285, 1, .iaload, 0, 0) :: c_M_fitCircle_286
def c_M_fitCircle_283 : List eg_I := .inl (283, 2, .iload 9, 0, 0) :: c_M_fitCircle_285
def c_M_fitCircle_280 : List eg_I := .inl (280, 3, .getfield 13, 12, 1) :: c_M_fitCircle_283
def c_M_fitCircle_279 : List eg_I := .inl (279, 1, .aload 0, 0, 0) :: c_M_fitCircle_280
def c_M_fitCircle_278 : List eg_I := .inl (278, 1, .iaload, 0, 0) :: c_M_fitCircle_279
def c_M_fitCircle_276 : List eg_I := .inl (276, 2, .iload 8, 0, 0) :: c_M_fitCircle_278
def c_M_fitCircle_273 : List eg_I := .inl (273, 3, .getfield 13, 12, 1) :: c_M_fitCircle_276
def c_M_fitCircle_272 : List eg_I := .inl (272, 1, .aload 0, 0, 0) :: c_M_fitCircle_273
def c_M_fitCircle_269 : List eg_I := .inl (269, 3, .ifCond .ne (41), 310, 0) :: c_M_fitCircle_272
def c_M_fitCircle_268 : List eg_I := .inl (268, 1, .baload, 0, 0) :: c_M_fitCircle_269
def c_M_fitCircle_266 : List eg_I := .inl (266, 2, .iload 9, 0, 0) :: c_M_fitCircle_268
def c_M_fitCircle_263 : List eg_I := .inl (263, 3, .getfield 22, 12, 4) :: c_M_fitCircle_266
def c_M_fitCircle_262 : List eg_I := .inl (262, 1, .aload 0, 0, 0) :: c_M_fitCircle_263
def c_M_fitCircle_259 : List eg_I := .inl (259, 3, .ifCond .ne (51), 310, 0) :: c_M_fitCircle_262
def c_M_fitCircle_258 : List eg_I := .inl (258, 1, .baload, 0, 0) :: c_M_fitCircle_259
def c_M_fitCircle_256 : List eg_I := .inl (256, 2, .iload 8, 0, 0) :: c_M_fitCircle_258
def c_M_fitCircle_253 : List eg_I := .inl (253, 3, .getfield 22, 12, 4) :: c_M_fitCircle_256
def c_M_fitCircle_252 : List eg_I := .inl (252, 1, .aload 0, 0, 0) :: c_M_fitCircle_253
def c_M_fitCircle_250 : List eg_I := .inl (250, 2, .istore 9, 0, 0) :: c_M_fitCircle_252
def c_M_fitCircle_247 : List eg_I := .inr (247, 0, 103, n_M_at_II, 2, 12, 0, 0) :: c_M_fitCircle_250
def c_M_fitCircle_245 : List eg_I := .inl (245, 2, .iload 7, 0, 0) :: c_M_fitCircle_247
def c_M_fitCircle_244 : List eg_I := .inl (244, 1, .iload 2, 0, 0) :: c_M_fitCircle_245
def c_M_fitCircle_242 : List eg_I := .inl (242, 2, .istore 8, 0, 0) :: c_M_fitCircle_244
def c_M_fitCircle_239 : List eg_I := .inr (239, 0, 103, n_M_at_II, 2, 12, 0, 0) :: c_M_fitCircle_242
def c_M_fitCircle_237 : List eg_I := .inl (237, 2, .iload 6, 0, 0) :: c_M_fitCircle_239
def c_M_fitCircle_236 : List eg_I := .inl (236, 1, .iload 2, 0, 0) :: c_M_fitCircle_237
def c_M_fitCircle_233 : List eg_I := .inl (233, 3, .if_icmp .ge (240), 473, 0) :: c_M_fitCircle_236
def c_M_fitCircle_232 : List eg_I := .inl (232, 1, .iload 3, 0, 0) :: c_M_fitCircle_233
def c_M_fitCircle_230 : List eg_I := .inl (230, 2, .iload 7, 0, 0) :: c_M_fitCircle_232
def c_M_fitCircle_228 : List eg_I := .inl (228, 2, .istore 7, 0, 0) :: z_M_fitCircle_230
def c_M_fitCircle_227 : List eg_I := .inl (227, 1, .iadd, 0, 0) :: c_M_fitCircle_228
def c_M_fitCircle_226 : List eg_I := .inl (226, 1, .iconst (1), 0, 0) :: c_M_fitCircle_227
def c_M_fitCircle_224 : List eg_I := .inl (224, 2, .iload 6, 0, 0) :: c_M_fitCircle_226
def c_M_fitCircle_221 : List eg_I := .inl (221, 3, .if_icmp .ge (258), 479, 0) :: c_M_fitCircle_224
def c_M_fitCircle_220 : List eg_I := .inl (220, 1, .iload 3, 0, 0) :: c_M_fitCircle_221
def c_M_fitCircle_218 : List eg_I := .inl (218, 2, .iload 6, 0, 0) :: c_M_fitCircle_220
def c_M_fitCircle_216 : List eg_I := .inl (216, 2, .istore 6, 0, 0) :: z_M_fitCircle_218
def c_M_fitCircle_215 : List eg_I := .inl (215, 1, .iconst (0), 0, 0) :: c_M_fitCircle_216
def c_M_fitCircle_214 : List eg_I := .inl (214, 1, .lreturn, 0, 0) :: []
def c_M_fitCircle_213 : List eg_I := .inl (213, 1, .sipush (1), 0, 0) :: c_M_fitCircle_214
def c_M_fitCircle_210 : List eg_I := .inr (210, 1, 231, n_M_keepMiddle, 4, 12, 0, 0) :: c_M_fitCircle_213
def c_M_fitCircle_209 : List eg_I := .inl (209, 1, .sipush (1), 0, 0) :: c_M_fitCircle_210
def c_M_fitCircle_208 : List eg_I := .inl (208, 1, .i2l, 0, 0) :: c_M_fitCircle_209
def c_M_fitCircle_207 : List eg_I := .inl (207, 1, .iaload, 0, 0) :: c_M_fitCircle_208
def c_M_fitCircle_204 : List eg_I := .inr (204, 0, 103, n_M_at_II, 2, 12, 0, 0) :: c_M_fitCircle_207
def c_M_fitCircle_202 : List eg_I := .inl (202, 2, .iload 4, 0, 0) :: c_M_fitCircle_204
def c_M_fitCircle_201 : List eg_I := .inl (201, 1, .iload 2, 0, 0) :: c_M_fitCircle_202
def c_M_fitCircle_198 : List eg_I := .inl (198, 3, .getfield 16, 12, 2) :: c_M_fitCircle_201
def c_M_fitCircle_197 : List eg_I := .inl (197, 1, .aload 0, 0, 0) :: c_M_fitCircle_198
def c_M_fitCircle_196 : List eg_I := .inl (196, 1, .i2l, 0, 0) :: c_M_fitCircle_197
def c_M_fitCircle_195 : List eg_I := .inl (195, 1, .iaload, 0, 0) :: c_M_fitCircle_196
def c_M_fitCircle_192 : List eg_I := .inr (192, 0, 103, n_M_at_II, 2, 12, 0, 0) :: c_M_fitCircle_195
def c_M_fitCircle_190 : List eg_I := .inl (190, 2, .iload 4, 0, 0) :: c_M_fitCircle_192
def c_M_fitCircle_189 : List eg_I := .inl (189, 1, .iload 2, 0, 0) :: c_M_fitCircle_190
def c_M_fitCircle_186 : List eg_I := .inl (186, 3, .getfield 13, 12, 1) :: c_M_fitCircle_189
def c_M_fitCircle_185 : List eg_I := .inl (185, 1, .aload 0, 0, 0) :: c_M_fitCircle_186
def c_M_fitCircle_184 : List eg_I := .inl (184, 1, .iload 1, 0, 0) :: c_M_fitCircle_185
def c_M_fitCircle_183 : List eg_I := .inl (183, 1, .aload 0, 0, 0) :: c_M_fitCircle_184
def c_M_fitCircle_180 : List eg_I := .inr (180, 1, 196, n_M_keepMiss, 3, 12, 0, 0) :: c_M_fitCircle_183
def c_M_fitCircle_179 : List eg_I := .inl (179, 1, .sipush (1), 0, 0) :: c_M_fitCircle_180
def c_M_fitCircle_178 : List eg_I := .inl (178, 1, .sipush (0), 0, 0) :: c_M_fitCircle_179
def c_M_fitCircle_177 : List eg_I := .inl (177, 1, .iload 1, 0, 0) :: c_M_fitCircle_178
def c_M_fitCircle_176 : List eg_I := .inl (176, 1, .aload 0, 0, 0) :: c_M_fitCircle_177
def c_M_fitCircle_175 : List eg_I := .inl (175, 1, .iastore, 0, 0) :: c_M_fitCircle_176
def c_M_fitCircle_173 : List eg_I := .inl (173, 2, .iload 4, 0, 0) :: c_M_fitCircle_175
def c_M_fitCircle_172 : List eg_I := .inl (172, 1, .imul, 0, 0) :: c_M_fitCircle_173
def c_M_fitCircle_171 : List eg_I := .inl (171, 1, .iload 1, 0, 0) :: c_M_fitCircle_172
def c_M_fitCircle_169 : List eg_I := .inl (169, 2, .iconst (6), 0, 0) :: c_M_fitCircle_171
def c_M_fitCircle_166 : List eg_I := .inl (166, 3, .getfield 38, 12, 9) :: c_M_fitCircle_169
def c_M_fitCircle_165 : List eg_I := .inl (165, 1, .aload 0, 0, 0) :: c_M_fitCircle_166
def c_M_fitCircle_164 : List eg_I := .inl (164, 1, .iastore, 0, 0) :: c_M_fitCircle_165
def c_M_fitCircle_163 : List eg_I := .inl (163, 1, .iconst (1), 0, 0) :: c_M_fitCircle_164
def c_M_fitCircle_162 : List eg_I := .inl (162, 1, .iload 1, 0, 0) :: c_M_fitCircle_163
def c_M_fitCircle_159 : List eg_I := .inl (159, 3, .getfield 35, 12, 8) :: c_M_fitCircle_162
def c_M_fitCircle_158 : List eg_I := .inl (158, 1, .aload 0, 0, 0) :: c_M_fitCircle_159
def c_M_fitCircle_157 : List eg_I := .inl (157, 1, .iastore, 0, 0) :: c_M_fitCircle_158
def c_M_fitCircle_156 : List eg_I := .inl (156, 1, .iconst (5), 0, 0) :: c_M_fitCircle_157
def c_M_fitCircle_155 : List eg_I := .inl (155, 1, .iload 1, 0, 0) :: c_M_fitCircle_156
def c_M_fitCircle_152 : List eg_I := .inl (152, 3, .getfield 32, 12, 7) :: c_M_fitCircle_155
def c_M_fitCircle_151 : List eg_I := .inl (151, 1, .aload 0, 0, 0) :: c_M_fitCircle_152
def c_M_fitCircle_148 : List eg_I := .inl (148, 3, .ifCond .ne (67), 215, 0) :: c_M_fitCircle_151
def c_M_fitCircle_146 : List eg_I := .inl (146, 2, .iload 5, 0, 0) :: c_M_fitCircle_148
def c_M_fitCircle_143 : List eg_I := .inl (143, 3, .goto (-79), 64, 0) :: []
def c_M_fitCircle_140 : List eg_I := .inl (140, 3, .iinc 6 (1), 0, 0) :: c_M_fitCircle_143
def c_M_fitCircle_138 : List eg_I := .inl (138, 2, .istore 5, 0, 0) :: c_M_fitCircle_140
def c_M_fitCircle_137 : List eg_I := .inl (137, 1, .ior, 0, 0) :: c_M_fitCircle_138
def c_M_fitCircle_136 : List eg_I := .inl (136, 1, .iconst (0), 0, 0) :: c_M_fitCircle_137
def c_M_fitCircle_133 : List eg_I := .inl (133, 3, .goto (4), 137, 0) :: []
def c_M_fitCircle_132 : List eg_I := .inl (132, 1, .iconst (1), 0, 0) :: c_M_fitCircle_133
def c_M_fitCircle_129 : List eg_I := .inl (129, 3, .if_icmp .eq (7), 136, 0) :: c_M_fitCircle_132
def c_M_fitCircle_128 : List eg_I := .inl (128, 1, .iaload, 0, 0) :: c_M_fitCircle_129
def c_M_fitCircle_125 : List eg_I := .inr (125, 0, 103, n_M_at_II, 2, 12, 0, 0) :: c_M_fitCircle_128
def c_M_fitCircle_123 : List eg_I := .inl (123, 2, .iload 4, 0, 0) :: c_M_fitCircle_125
def c_M_fitCircle_122 : List eg_I := .inl (122, 1, .iload 2, 0, 0) :: c_M_fitCircle_123
def c_M_fitCircle_119 : List eg_I := .inl (119, 3, .getfield 16, 12, 2) :: c_M_fitCircle_122
def c_M_fitCircle_118 : List eg_I := .inl (118, 1, .aload 0, 0, 0) :: c_M_fitCircle_119
def c_M_fitCircle_117 : List eg_I := .inl (117, 1, .iaload, 0, 0) :: c_M_fitCircle_118
def c_M_fitCircle_115 : List eg_I := .inl (115, 2, .iload 7, 0, 0) :: c_M_fitCircle_117
def c_M_fitCircle_112 : List eg_I := .inl (112, 3, .getfield 16, 12, 2) :: c_M_fitCircle_115
def c_M_fitCircle_111 : List eg_I := .inl (111, 1, .aload 0, 0, 0) :: c_M_fitCircle_112
def c_M_fitCircle_108 : List eg_I := .inl (108, 3, .if_icmp .ne (24), 132, 0) :: c_M_fitCircle_111
def c_M_fitCircle_107 : List eg_I := .inl (107, 1, .iaload, 0, 0) :: c_M_fitCircle_108
def c_M_fitCircle_104 : List eg_I := .inr (104, 0, 103, n_M_at_II, 2, 12, 0, 0) :: c_M_fitCircle_107
def c_M_fitCircle_102 : List eg_I := .inl (102, 2, .iload 4, 0, 0) :: c_M_fitCircle_104
def c_M_fitCircle_101 : List eg_I := .inl (101, 1, .iload 2, 0, 0) :: c_M_fitCircle_102
def c_M_fitCircle_98 : List eg_I := .inl (98, 3, .getfield 13, 12, 1) :: c_M_fitCircle_101
def c_M_fitCircle_97 : List eg_I := .inl (97, 1, .aload 0, 0, 0) :: c_M_fitCircle_98
def c_M_fitCircle_96 : List eg_I := .inl (96, 1, .iaload, 0, 0) :: c_M_fitCircle_97
def c_M_fitCircle_94 : List eg_I := .inl (94, 2, .iload 7, 0, 0) :: c_M_fitCircle_96
def c_M_fitCircle_91 : List eg_I := .inl (91, 3, .getfield 13, 12, 1) :: c_M_fitCircle_94
def c_M_fitCircle_90 : List eg_I := .inl (90, 1, .aload 0, 0, 0) :: c_M_fitCircle_91
def c_M_fitCircle_87 : List eg_I := .inl (87, 3, .ifCond .ne (49), 136, 0) :: c_M_fitCircle_90
def c_M_fitCircle_86 : List eg_I := .inl (86, 1, .baload, 0, 0) :: c_M_fitCircle_87
def c_M_fitCircle_84 : List eg_I := .inl (84, 2, .iload 7, 0, 0) :: c_M_fitCircle_86
def c_M_fitCircle_81 : List eg_I := .inl (81, 3, .getfield 22, 12, 4) :: c_M_fitCircle_84
def c_M_fitCircle_80 : List eg_I := .inl (80, 1, .aload 0, 0, 0) :: c_M_fitCircle_81
def c_M_fitCircle_78 : List eg_I := .inl (78, 2, .iload 5, 0, 0) :: c_M_fitCircle_80
def c_M_fitCircle_76 : List eg_I := .inl (76, 2, .istore 7, 0, 0) :: c_M_fitCircle_78
def c_M_fitCircle_73 : List eg_I := .inr (73, 0, 103, n_M_at_II, 2, 12, 0, 0) :: c_M_fitCircle_76
def c_M_fitCircle_71 : List eg_I := .inl (71, 2, .iload 6, 0, 0) :: c_M_fitCircle_73
def c_M_fitCircle_70 : List eg_I := .inl (70, 1, .iload 2, 0, 0) :: c_M_fitCircle_71
def c_M_fitCircle_67 : List eg_I := .inl (67, 3, .if_icmp .ge (79), 146, 0) :: c_M_fitCircle_70
def c_M_fitCircle_66 : List eg_I := .inl (66, 1, .iload 3, 0, 0) :: c_M_fitCircle_67
def c_M_fitCircle_64 : List eg_I := .inl (64, 2, .iload 6, 0, 0) :: c_M_fitCircle_66
def c_M_fitCircle_62 : List eg_I := .inl (62, 2, .istore 6, 0, 0) :: z_M_fitCircle_64
def c_M_fitCircle_61 : List eg_I := .inl (61, 1, .iconst (0), 0, 0) :: c_M_fitCircle_62
def c_M_fitCircle_60 : List eg_I := .inl (60, 1, .lreturn, 0, 0) :: []
def c_M_fitCircle_57 : List eg_I := .inr (57, 1, 112, n_M_finding, 1, 12, 0, 0) :: c_M_fitCircle_60
def c_M_fitCircle_54 : List eg_I := .inl (54, 3, .sipush (-1000000000000000006), 138, 0) :: c_M_fitCircle_57
def c_M_fitCircle_53 : List eg_I := .inl (53, 1, .aload 0, 0, 0) :: c_M_fitCircle_54
def c_M_fitCircle_50 : List eg_I := .inl (50, 3, .ifCond .ge (11), 61, 0) :: c_M_fitCircle_53
def c_M_fitCircle_48 : List eg_I := .inl (48, 2, .iload 4, 0, 0) :: c_M_fitCircle_50
def c_M_fitCircle_45 : List eg_I := .inl (45, 3, .goto (-27), 18, 0) :: []
def c_M_fitCircle_42 : List eg_I := .inl (42, 3, .iinc 6 (-1), 0, 0) :: c_M_fitCircle_45
def c_M_fitCircle_40 : List eg_I := .inl (40, 2, .istore 4, 0, 0) :: c_M_fitCircle_42
def c_M_fitCircle_38 : List eg_I := .inl (38, 2, .iload 4, 0, 0) :: c_M_fitCircle_40
def c_M_fitCircle_35 : List eg_I := .inl (35, 3, .goto (5), 40, 0) :: []
def c_M_fitCircle_33 : List eg_I := .inl (33, 2, .iload 6, 0, 0) :: c_M_fitCircle_35
def c_M_fitCircle_30 : List eg_I := .inl (30, 3, .ifCond .eq (8), 38, 0) :: c_M_fitCircle_33
def c_M_fitCircle_27 : List eg_I := .inr (27, 1, 185, n_M_isHere, 2, 12, 0, 0) :: c_M_fitCircle_30
def c_M_fitCircle_25 : List eg_I := .inl (25, 2, .iload 6, 0, 0) :: c_M_fitCircle_27
def c_M_fitCircle_24 : List eg_I := .inl (24, 1, .iload 2, 0, 0) :: c_M_fitCircle_25
def c_M_fitCircle_23 : List eg_I := .inl (23, 1, .aload 0, 0, 0) :: c_M_fitCircle_24
def c_M_fitCircle_20 : List eg_I := .inl (20, 3, .ifCond .lt (28), 48, 0) :: c_M_fitCircle_23
def c_M_fitCircle_18 : List eg_I := .inl (18, 2, .iload 6, 0, 0) :: c_M_fitCircle_20
def c_M_fitCircle_16 : List eg_I := .inl (16, 2, .istore 6, 0, 0) :: z_M_fitCircle_18
def c_M_fitCircle_15 : List eg_I := .inl (15, 1, .isub, 0, 0) :: c_M_fitCircle_16
def c_M_fitCircle_14 : List eg_I := .inl (14, 1, .iconst (1), 0, 0) :: c_M_fitCircle_15
def c_M_fitCircle_13 : List eg_I := .inl (13, 1, .iload 3, 0, 0) :: c_M_fitCircle_14
def c_M_fitCircle_11 : List eg_I := .inl (11, 2, .istore 5, 0, 0) :: c_M_fitCircle_13
def c_M_fitCircle_10 : List eg_I := .inl (10, 1, .iconst (0), 0, 0) :: c_M_fitCircle_11
def c_M_fitCircle_8 : List eg_I := .inl (8, 2, .istore 4, 0, 0) :: c_M_fitCircle_10
def c_M_fitCircle_7 : List eg_I := .inl (7, 1, .iconst (-1), 0, 0) :: c_M_fitCircle_8
def c_M_fitCircle_6 : List eg_I := .inl (6, 1, .istore 3, 0, 0) :: c_M_fitCircle_7
def c_M_fitCircle_5 : List eg_I := .inl (5, 1, .iaload, 0, 0) :: c_M_fitCircle_6
def c_M_fitCircle_4 : List eg_I := .inl (4, 1, .iload 2, 0, 0) :: c_M_fitCircle_5
def c_M_fitCircle_1 : List eg_I := .inl (1, 3, .getfield 9, 12, 0) :: c_M_fitCircle_4
def c_M_fitCircle_0 : List eg_I := .inl (0, 1, .aload 0, 0, 0) :: c_M_fitCircle_1
section
variable {rm : Room} {K : Nat → Nat → Nat → eg_Lo → List Value → List eg_E → Prop} {Q : Option Value → List eg_E → Prop} {kc ks : Nat} {loc : eg_Lo} {st : List Value} {h : List eg_E}
theorem s_M_fitCircle_0 {x : Nat} {l : eg_Lo} : wps rm K Q c_M_fitCircle_0 kc ks (some (.ref x) :: l) (st) h = wps rm K Q c_M_fitCircle_1 kc ks (some (.ref x) :: l) (.ref x :: st) h := gk_aload rfl
theorem s_M_fitCircle_1 {x : Nat} : wps rm K Q c_M_fitCircle_1 kc ks loc (.ref (x + 1) :: st) h = eg_gf h x 12 0 (fun v => wps rm K Q c_M_fitCircle_4 kc ks loc (v :: st) h) := gk_gf
theorem s_M_fitCircle_4 {x : Int32} {l0 l1 : Option Value} {l : eg_Lo} : wps rm K Q c_M_fitCircle_4 kc ks (l0 :: l1 :: some (.int x) :: l) (st) h = wps rm K Q c_M_fitCircle_5 kc ks (l0 :: l1 :: some (.int x) :: l) (.int x :: st) h := gk_iload rfl
theorem s_M_fitCircle_5 {x : Nat} {i : Int32} : wps rm K Q c_M_fitCircle_5 kc ks loc (.int i :: .ref (x + 1) :: st) h = eg_ia h x i (fun v => wps rm K Q c_M_fitCircle_6 kc ks loc (.int v :: st) h) := gk_iaload
theorem s_M_fitCircle_6 {x : Int32} : wps rm K Q c_M_fitCircle_6 kc ks loc (.int x :: st) h = wps rm K Q c_M_fitCircle_7 kc ks (eg_set1 loc 3 (.int x)) (st) h := gk_istore
theorem s_M_fitCircle_7  : wps rm K Q c_M_fitCircle_7 kc ks loc (st) h = wps rm K Q c_M_fitCircle_8 kc ks loc (.int (-1) :: st) h := gk_ic (by decide)
theorem s_M_fitCircle_8 {x : Int32} : wps rm K Q c_M_fitCircle_8 kc ks loc (.int x :: st) h = wps rm K Q c_M_fitCircle_10 kc ks (eg_set1 loc 4 (.int x)) (st) h := gk_istore
theorem s_M_fitCircle_10  : wps rm K Q c_M_fitCircle_10 kc ks loc (st) h = wps rm K Q c_M_fitCircle_11 kc ks loc (.int (0) :: st) h := gk_ic (by decide)
theorem s_M_fitCircle_11 {x : Int32} : wps rm K Q c_M_fitCircle_11 kc ks loc (.int x :: st) h = wps rm K Q c_M_fitCircle_13 kc ks (eg_set1 loc 5 (.int x)) (st) h := gk_istore
theorem s_M_fitCircle_13 {x : Int32} {l0 l1 l2 : Option Value} {l : eg_Lo} : wps rm K Q c_M_fitCircle_13 kc ks (l0 :: l1 :: l2 :: some (.int x) :: l) (st) h = wps rm K Q c_M_fitCircle_14 kc ks (l0 :: l1 :: l2 :: some (.int x) :: l) (.int x :: st) h := gk_iload rfl
theorem s_M_fitCircle_14  : wps rm K Q c_M_fitCircle_14 kc ks loc (st) h = wps rm K Q c_M_fitCircle_15 kc ks loc (.int (1) :: st) h := gk_ic (by decide)
theorem s_M_fitCircle_15 {x y : Int32} : wps rm K Q c_M_fitCircle_15 kc ks loc (.int y :: .int x :: st) h = wps rm K Q c_M_fitCircle_16 kc ks loc (.int (x - y) :: st) h := gk_isub
theorem s_M_fitCircle_16 {x : Int32} : wps rm K Q c_M_fitCircle_16 kc ks loc (.int x :: st) h = wps rm K Q z_M_fitCircle_18 kc ks (eg_set1 loc 6 (.int x)) (st) h := gk_istore
theorem s_M_fitCircle_18 {x : Int32} {l0 l1 l2 l3 l4 l5 : Option Value} {l : eg_Lo} : wps rm K Q c_M_fitCircle_18 kc ks (l0 :: l1 :: l2 :: l3 :: l4 :: l5 :: some (.int x) :: l) (st) h = wps rm K Q c_M_fitCircle_20 kc ks (l0 :: l1 :: l2 :: l3 :: l4 :: l5 :: some (.int x) :: l) (.int x :: st) h := gk_iload rfl
theorem s_M_fitCircle_20 {x : Int32} : wps rm K Q c_M_fitCircle_20 kc ks loc (.int x :: st) h = ((x < 0 → K 48 kc ks loc st h) ∧ (¬ x < 0 → wps rm K Q c_M_fitCircle_23 kc ks loc (st) h)) := gk_if1_lt
theorem s_M_fitCircle_23 {x : Nat} {l : eg_Lo} : wps rm K Q c_M_fitCircle_23 kc ks (some (.ref x) :: l) (st) h = wps rm K Q c_M_fitCircle_24 kc ks (some (.ref x) :: l) (.ref x :: st) h := gk_aload rfl
theorem s_M_fitCircle_24 {x : Int32} {l0 l1 : Option Value} {l : eg_Lo} : wps rm K Q c_M_fitCircle_24 kc ks (l0 :: l1 :: some (.int x) :: l) (st) h = wps rm K Q c_M_fitCircle_25 kc ks (l0 :: l1 :: some (.int x) :: l) (.int x :: st) h := gk_iload rfl
theorem s_M_fitCircle_25 {x : Int32} {l0 l1 l2 l3 l4 l5 : Option Value} {l : eg_Lo} : wps rm K Q c_M_fitCircle_25 kc ks (l0 :: l1 :: l2 :: l3 :: l4 :: l5 :: some (.int x) :: l) (st) h = wps rm K Q c_M_fitCircle_27 kc ks (l0 :: l1 :: l2 :: l3 :: l4 :: l5 :: some (.int x) :: l) (.int x :: st) h := gk_iload rfl
theorem s_M_fitCircle_27  {a1 : Value} {a2 : Value} {x : Nat} : wps rm K Q c_M_fitCircle_27 kc ks loc (a2 :: a1 :: .ref (x + 1) :: st) h = (eg_cls h x 12 ∧ st.length ≤ 4 ∧ eg_Cs n_M_isHere (.ref (x + 1) :: [a1, a2]) h (fun v h9 => wps rm K Q c_M_fitCircle_30 kc ks loc (v.toList ++ st) h9)) := eg_c1_2
theorem s_M_fitCircle_30 {x : Int32} : wps rm K Q c_M_fitCircle_30 kc ks loc (.int x :: st) h = ((x = 0 → K 38 kc ks loc st h) ∧ (¬ x = 0 → wps rm K Q c_M_fitCircle_33 kc ks loc (st) h)) := gk_if1_eq
theorem s_M_fitCircle_33 {x : Int32} {l0 l1 l2 l3 l4 l5 : Option Value} {l : eg_Lo} : wps rm K Q c_M_fitCircle_33 kc ks (l0 :: l1 :: l2 :: l3 :: l4 :: l5 :: some (.int x) :: l) (st) h = wps rm K Q c_M_fitCircle_35 kc ks (l0 :: l1 :: l2 :: l3 :: l4 :: l5 :: some (.int x) :: l) (.int x :: st) h := gk_iload rfl
theorem s_M_fitCircle_35  : wps rm K Q c_M_fitCircle_35 kc ks loc (st) h = K 40 kc ks loc st h := gk_goto
theorem s_M_fitCircle_38 {x : Int32} {l0 l1 l2 l3 : Option Value} {l : eg_Lo} : wps rm K Q c_M_fitCircle_38 kc ks (l0 :: l1 :: l2 :: l3 :: some (.int x) :: l) (st) h = wps rm K Q c_M_fitCircle_40 kc ks (l0 :: l1 :: l2 :: l3 :: some (.int x) :: l) (.int x :: st) h := gk_iload rfl
theorem s_M_fitCircle_40 {x : Int32} : wps rm K Q c_M_fitCircle_40 kc ks loc (.int x :: st) h = wps rm K Q c_M_fitCircle_42 kc ks (eg_set1 loc 4 (.int x)) (st) h := gk_istore
theorem s_M_fitCircle_42 {x : Int32} {l0 l1 l2 l3 l4 l5 : Option Value} {lz : eg_Lo} : wps rm K Q c_M_fitCircle_42 kc ks (l0 :: l1 :: l2 :: l3 :: l4 :: l5 :: some (.int x) :: lz) (st) h = wps rm K Q c_M_fitCircle_45 kc ks (eg_set1 (l0 :: l1 :: l2 :: l3 :: l4 :: l5 :: some (.int x) :: lz) 6 (.int (x + (-1)))) (st) h := gk_iinc rfl (by decide)
theorem s_M_fitCircle_45  : wps rm K Q c_M_fitCircle_45 kc ks loc (st) h = K 18 kc ks loc st h := gk_goto
theorem s_M_fitCircle_48 {x : Int32} {l0 l1 l2 l3 : Option Value} {l : eg_Lo} : wps rm K Q c_M_fitCircle_48 kc ks (l0 :: l1 :: l2 :: l3 :: some (.int x) :: l) (st) h = wps rm K Q c_M_fitCircle_50 kc ks (l0 :: l1 :: l2 :: l3 :: some (.int x) :: l) (.int x :: st) h := gk_iload rfl
theorem s_M_fitCircle_50 {x : Int32} : wps rm K Q c_M_fitCircle_50 kc ks loc (.int x :: st) h = ((0 ≤ x → K 61 kc ks loc st h) ∧ (¬ 0 ≤ x → wps rm K Q c_M_fitCircle_53 kc ks loc (st) h)) := gk_if1_ge
theorem s_M_fitCircle_53 {x : Nat} {l : eg_Lo} : wps rm K Q c_M_fitCircle_53 kc ks (some (.ref x) :: l) (st) h = wps rm K Q c_M_fitCircle_54 kc ks (some (.ref x) :: l) (.ref x :: st) h := gk_aload rfl
theorem s_M_fitCircle_54  : wps rm K Q c_M_fitCircle_54 kc ks loc (st) h = wps rm K Q c_M_fitCircle_57 kc ks loc (.long (-1000000000000000006) :: st) h := gk_lc (by decide)
theorem s_M_fitCircle_57  {a1 : Value} {x : Nat} : wps rm K Q c_M_fitCircle_57 kc ks loc (a1 :: .ref (x + 1) :: st) h = (eg_cls h x 12 ∧ st.length ≤ 4 ∧ eg_Cs n_M_finding (.ref (x + 1) :: [a1]) h (fun v h9 => wps rm K Q c_M_fitCircle_60 kc ks loc (v.toList ++ st) h9)) := eg_c1_1
theorem s_M_fitCircle_60 {x : Int64} : wps rm K Q c_M_fitCircle_60 kc ks loc ([.long x]) h = (kc = rm.cells ∧ Q (some (.long x)) h) := gk_lret
theorem s_M_fitCircle_61  : wps rm K Q c_M_fitCircle_61 kc ks loc (st) h = wps rm K Q c_M_fitCircle_62 kc ks loc (.int (0) :: st) h := gk_ic (by decide)
theorem s_M_fitCircle_62 {x : Int32} : wps rm K Q c_M_fitCircle_62 kc ks loc (.int x :: st) h = wps rm K Q z_M_fitCircle_64 kc ks (eg_set1 loc 6 (.int x)) (st) h := gk_istore
theorem s_M_fitCircle_64 {x : Int32} {l0 l1 l2 l3 l4 l5 : Option Value} {l : eg_Lo} : wps rm K Q c_M_fitCircle_64 kc ks (l0 :: l1 :: l2 :: l3 :: l4 :: l5 :: some (.int x) :: l) (st) h = wps rm K Q c_M_fitCircle_66 kc ks (l0 :: l1 :: l2 :: l3 :: l4 :: l5 :: some (.int x) :: l) (.int x :: st) h := gk_iload rfl
theorem s_M_fitCircle_66 {x : Int32} {l0 l1 l2 : Option Value} {l : eg_Lo} : wps rm K Q c_M_fitCircle_66 kc ks (l0 :: l1 :: l2 :: some (.int x) :: l) (st) h = wps rm K Q c_M_fitCircle_67 kc ks (l0 :: l1 :: l2 :: some (.int x) :: l) (.int x :: st) h := gk_iload rfl
theorem s_M_fitCircle_67 {x y : Int32} : wps rm K Q c_M_fitCircle_67 kc ks loc (.int y :: .int x :: st) h = ((y ≤ x → K 146 kc ks loc st h) ∧ (¬ y ≤ x → wps rm K Q c_M_fitCircle_70 kc ks loc (st) h)) := gk_if2_ge
theorem s_M_fitCircle_70 {x : Int32} {l0 l1 : Option Value} {l : eg_Lo} : wps rm K Q c_M_fitCircle_70 kc ks (l0 :: l1 :: some (.int x) :: l) (st) h = wps rm K Q c_M_fitCircle_71 kc ks (l0 :: l1 :: some (.int x) :: l) (.int x :: st) h := gk_iload rfl
theorem s_M_fitCircle_71 {x : Int32} {l0 l1 l2 l3 l4 l5 : Option Value} {l : eg_Lo} : wps rm K Q c_M_fitCircle_71 kc ks (l0 :: l1 :: l2 :: l3 :: l4 :: l5 :: some (.int x) :: l) (st) h = wps rm K Q c_M_fitCircle_73 kc ks (l0 :: l1 :: l2 :: l3 :: l4 :: l5 :: some (.int x) :: l) (.int x :: st) h := gk_iload rfl
theorem s_M_fitCircle_73  {a1 : Value} {a2 : Value} : wps rm K Q c_M_fitCircle_73 kc ks loc (a2 :: a1 :: st) h = (st.length ≤ 4 ∧ eg_Cs n_M_at_II [a1, a2] h (fun v h9 => wps rm K Q c_M_fitCircle_76 kc ks loc (v.toList ++ st) h9)) := eg_c0_2
theorem s_M_fitCircle_76 {x : Int32} : wps rm K Q c_M_fitCircle_76 kc ks loc (.int x :: st) h = wps rm K Q c_M_fitCircle_78 kc ks (eg_set1 loc 7 (.int x)) (st) h := gk_istore
theorem s_M_fitCircle_78 {x : Int32} {l0 l1 l2 l3 l4 : Option Value} {l : eg_Lo} : wps rm K Q c_M_fitCircle_78 kc ks (l0 :: l1 :: l2 :: l3 :: l4 :: some (.int x) :: l) (st) h = wps rm K Q c_M_fitCircle_80 kc ks (l0 :: l1 :: l2 :: l3 :: l4 :: some (.int x) :: l) (.int x :: st) h := gk_iload rfl
theorem s_M_fitCircle_80 {x : Nat} {l : eg_Lo} : wps rm K Q c_M_fitCircle_80 kc ks (some (.ref x) :: l) (st) h = wps rm K Q c_M_fitCircle_81 kc ks (some (.ref x) :: l) (.ref x :: st) h := gk_aload rfl
theorem s_M_fitCircle_81 {x : Nat} : wps rm K Q c_M_fitCircle_81 kc ks loc (.ref (x + 1) :: st) h = eg_gf h x 12 4 (fun v => wps rm K Q c_M_fitCircle_84 kc ks loc (v :: st) h) := gk_gf
theorem s_M_fitCircle_84 {x : Int32} {l0 l1 l2 l3 l4 l5 l6 : Option Value} {l : eg_Lo} : wps rm K Q c_M_fitCircle_84 kc ks (l0 :: l1 :: l2 :: l3 :: l4 :: l5 :: l6 :: some (.int x) :: l) (st) h = wps rm K Q c_M_fitCircle_86 kc ks (l0 :: l1 :: l2 :: l3 :: l4 :: l5 :: l6 :: some (.int x) :: l) (.int x :: st) h := gk_iload rfl
theorem s_M_fitCircle_86 {x : Nat} {i : Int32} : wps rm K Q c_M_fitCircle_86 kc ks loc (.int i :: .ref (x + 1) :: st) h = eg_ba h x i (fun v => wps rm K Q c_M_fitCircle_87 kc ks loc (.int v :: st) h) := gk_baload
theorem s_M_fitCircle_87 {x : Int32} : wps rm K Q c_M_fitCircle_87 kc ks loc (.int x :: st) h = ((¬ x = 0 → K 136 kc ks loc st h) ∧ (x = 0 → wps rm K Q c_M_fitCircle_90 kc ks loc (st) h)) := gk_if1_ne
theorem s_M_fitCircle_90 {x : Nat} {l : eg_Lo} : wps rm K Q c_M_fitCircle_90 kc ks (some (.ref x) :: l) (st) h = wps rm K Q c_M_fitCircle_91 kc ks (some (.ref x) :: l) (.ref x :: st) h := gk_aload rfl
theorem s_M_fitCircle_91 {x : Nat} : wps rm K Q c_M_fitCircle_91 kc ks loc (.ref (x + 1) :: st) h = eg_gf h x 12 1 (fun v => wps rm K Q c_M_fitCircle_94 kc ks loc (v :: st) h) := gk_gf
theorem s_M_fitCircle_94 {x : Int32} {l0 l1 l2 l3 l4 l5 l6 : Option Value} {l : eg_Lo} : wps rm K Q c_M_fitCircle_94 kc ks (l0 :: l1 :: l2 :: l3 :: l4 :: l5 :: l6 :: some (.int x) :: l) (st) h = wps rm K Q c_M_fitCircle_96 kc ks (l0 :: l1 :: l2 :: l3 :: l4 :: l5 :: l6 :: some (.int x) :: l) (.int x :: st) h := gk_iload rfl
theorem s_M_fitCircle_96 {x : Nat} {i : Int32} : wps rm K Q c_M_fitCircle_96 kc ks loc (.int i :: .ref (x + 1) :: st) h = eg_ia h x i (fun v => wps rm K Q c_M_fitCircle_97 kc ks loc (.int v :: st) h) := gk_iaload
theorem s_M_fitCircle_97 {x : Nat} {l : eg_Lo} : wps rm K Q c_M_fitCircle_97 kc ks (some (.ref x) :: l) (st) h = wps rm K Q c_M_fitCircle_98 kc ks (some (.ref x) :: l) (.ref x :: st) h := gk_aload rfl
theorem s_M_fitCircle_98 {x : Nat} : wps rm K Q c_M_fitCircle_98 kc ks loc (.ref (x + 1) :: st) h = eg_gf h x 12 1 (fun v => wps rm K Q c_M_fitCircle_101 kc ks loc (v :: st) h) := gk_gf
theorem s_M_fitCircle_101 {x : Int32} {l0 l1 : Option Value} {l : eg_Lo} : wps rm K Q c_M_fitCircle_101 kc ks (l0 :: l1 :: some (.int x) :: l) (st) h = wps rm K Q c_M_fitCircle_102 kc ks (l0 :: l1 :: some (.int x) :: l) (.int x :: st) h := gk_iload rfl
theorem s_M_fitCircle_102 {x : Int32} {l0 l1 l2 l3 : Option Value} {l : eg_Lo} : wps rm K Q c_M_fitCircle_102 kc ks (l0 :: l1 :: l2 :: l3 :: some (.int x) :: l) (st) h = wps rm K Q c_M_fitCircle_104 kc ks (l0 :: l1 :: l2 :: l3 :: some (.int x) :: l) (.int x :: st) h := gk_iload rfl
theorem s_M_fitCircle_104  {a1 : Value} {a2 : Value} : wps rm K Q c_M_fitCircle_104 kc ks loc (a2 :: a1 :: st) h = (st.length ≤ 4 ∧ eg_Cs n_M_at_II [a1, a2] h (fun v h9 => wps rm K Q c_M_fitCircle_107 kc ks loc (v.toList ++ st) h9)) := eg_c0_2
theorem s_M_fitCircle_107 {x : Nat} {i : Int32} : wps rm K Q c_M_fitCircle_107 kc ks loc (.int i :: .ref (x + 1) :: st) h = eg_ia h x i (fun v => wps rm K Q c_M_fitCircle_108 kc ks loc (.int v :: st) h) := gk_iaload
theorem s_M_fitCircle_108 {x y : Int32} : wps rm K Q c_M_fitCircle_108 kc ks loc (.int y :: .int x :: st) h = ((¬ x = y → K 132 kc ks loc st h) ∧ (x = y → wps rm K Q c_M_fitCircle_111 kc ks loc (st) h)) := gk_if2_ne
theorem s_M_fitCircle_111 {x : Nat} {l : eg_Lo} : wps rm K Q c_M_fitCircle_111 kc ks (some (.ref x) :: l) (st) h = wps rm K Q c_M_fitCircle_112 kc ks (some (.ref x) :: l) (.ref x :: st) h := gk_aload rfl
theorem s_M_fitCircle_112 {x : Nat} : wps rm K Q c_M_fitCircle_112 kc ks loc (.ref (x + 1) :: st) h = eg_gf h x 12 2 (fun v => wps rm K Q c_M_fitCircle_115 kc ks loc (v :: st) h) := gk_gf
theorem s_M_fitCircle_115 {x : Int32} {l0 l1 l2 l3 l4 l5 l6 : Option Value} {l : eg_Lo} : wps rm K Q c_M_fitCircle_115 kc ks (l0 :: l1 :: l2 :: l3 :: l4 :: l5 :: l6 :: some (.int x) :: l) (st) h = wps rm K Q c_M_fitCircle_117 kc ks (l0 :: l1 :: l2 :: l3 :: l4 :: l5 :: l6 :: some (.int x) :: l) (.int x :: st) h := gk_iload rfl
theorem s_M_fitCircle_117 {x : Nat} {i : Int32} : wps rm K Q c_M_fitCircle_117 kc ks loc (.int i :: .ref (x + 1) :: st) h = eg_ia h x i (fun v => wps rm K Q c_M_fitCircle_118 kc ks loc (.int v :: st) h) := gk_iaload
theorem s_M_fitCircle_118 {x : Nat} {l : eg_Lo} : wps rm K Q c_M_fitCircle_118 kc ks (some (.ref x) :: l) (st) h = wps rm K Q c_M_fitCircle_119 kc ks (some (.ref x) :: l) (.ref x :: st) h := gk_aload rfl
theorem s_M_fitCircle_119 {x : Nat} : wps rm K Q c_M_fitCircle_119 kc ks loc (.ref (x + 1) :: st) h = eg_gf h x 12 2 (fun v => wps rm K Q c_M_fitCircle_122 kc ks loc (v :: st) h) := gk_gf
theorem s_M_fitCircle_122 {x : Int32} {l0 l1 : Option Value} {l : eg_Lo} : wps rm K Q c_M_fitCircle_122 kc ks (l0 :: l1 :: some (.int x) :: l) (st) h = wps rm K Q c_M_fitCircle_123 kc ks (l0 :: l1 :: some (.int x) :: l) (.int x :: st) h := gk_iload rfl
theorem s_M_fitCircle_123 {x : Int32} {l0 l1 l2 l3 : Option Value} {l : eg_Lo} : wps rm K Q c_M_fitCircle_123 kc ks (l0 :: l1 :: l2 :: l3 :: some (.int x) :: l) (st) h = wps rm K Q c_M_fitCircle_125 kc ks (l0 :: l1 :: l2 :: l3 :: some (.int x) :: l) (.int x :: st) h := gk_iload rfl
theorem s_M_fitCircle_125  {a1 : Value} {a2 : Value} : wps rm K Q c_M_fitCircle_125 kc ks loc (a2 :: a1 :: st) h = (st.length ≤ 4 ∧ eg_Cs n_M_at_II [a1, a2] h (fun v h9 => wps rm K Q c_M_fitCircle_128 kc ks loc (v.toList ++ st) h9)) := eg_c0_2
theorem s_M_fitCircle_128 {x : Nat} {i : Int32} : wps rm K Q c_M_fitCircle_128 kc ks loc (.int i :: .ref (x + 1) :: st) h = eg_ia h x i (fun v => wps rm K Q c_M_fitCircle_129 kc ks loc (.int v :: st) h) := gk_iaload
theorem s_M_fitCircle_129 {x y : Int32} : wps rm K Q c_M_fitCircle_129 kc ks loc (.int y :: .int x :: st) h = ((x = y → K 136 kc ks loc st h) ∧ (¬ x = y → wps rm K Q c_M_fitCircle_132 kc ks loc (st) h)) := gk_if2_eq
theorem s_M_fitCircle_132  : wps rm K Q c_M_fitCircle_132 kc ks loc (st) h = wps rm K Q c_M_fitCircle_133 kc ks loc (.int (1) :: st) h := gk_ic (by decide)
theorem s_M_fitCircle_133  : wps rm K Q c_M_fitCircle_133 kc ks loc (st) h = K 137 kc ks loc st h := gk_goto
theorem s_M_fitCircle_136  : wps rm K Q c_M_fitCircle_136 kc ks loc (st) h = wps rm K Q c_M_fitCircle_137 kc ks loc (.int (0) :: st) h := gk_ic (by decide)
theorem s_M_fitCircle_137 {x y : Int32} : wps rm K Q c_M_fitCircle_137 kc ks loc (.int y :: .int x :: st) h = wps rm K Q c_M_fitCircle_138 kc ks loc (.int (x ||| y) :: st) h := gk_ior
theorem s_M_fitCircle_138 {x : Int32} : wps rm K Q c_M_fitCircle_138 kc ks loc (.int x :: st) h = wps rm K Q c_M_fitCircle_140 kc ks (eg_set1 loc 5 (.int x)) (st) h := gk_istore
theorem s_M_fitCircle_140 {x : Int32} {l0 l1 l2 l3 l4 l5 : Option Value} {lz : eg_Lo} : wps rm K Q c_M_fitCircle_140 kc ks (l0 :: l1 :: l2 :: l3 :: l4 :: l5 :: some (.int x) :: lz) (st) h = wps rm K Q c_M_fitCircle_143 kc ks (eg_set1 (l0 :: l1 :: l2 :: l3 :: l4 :: l5 :: some (.int x) :: lz) 6 (.int (x + (1)))) (st) h := gk_iinc rfl (by decide)
theorem s_M_fitCircle_143  : wps rm K Q c_M_fitCircle_143 kc ks loc (st) h = K 64 kc ks loc st h := gk_goto
theorem s_M_fitCircle_146 {x : Int32} {l0 l1 l2 l3 l4 : Option Value} {l : eg_Lo} : wps rm K Q c_M_fitCircle_146 kc ks (l0 :: l1 :: l2 :: l3 :: l4 :: some (.int x) :: l) (st) h = wps rm K Q c_M_fitCircle_148 kc ks (l0 :: l1 :: l2 :: l3 :: l4 :: some (.int x) :: l) (.int x :: st) h := gk_iload rfl
theorem s_M_fitCircle_148 {x : Int32} : wps rm K Q c_M_fitCircle_148 kc ks loc (.int x :: st) h = ((¬ x = 0 → K 215 kc ks loc st h) ∧ (x = 0 → wps rm K Q c_M_fitCircle_151 kc ks loc (st) h)) := gk_if1_ne
theorem s_M_fitCircle_151 {x : Nat} {l : eg_Lo} : wps rm K Q c_M_fitCircle_151 kc ks (some (.ref x) :: l) (st) h = wps rm K Q c_M_fitCircle_152 kc ks (some (.ref x) :: l) (.ref x :: st) h := gk_aload rfl
theorem s_M_fitCircle_152 {x : Nat} : wps rm K Q c_M_fitCircle_152 kc ks loc (.ref (x + 1) :: st) h = eg_gf h x 12 7 (fun v => wps rm K Q c_M_fitCircle_155 kc ks loc (v :: st) h) := gk_gf
theorem s_M_fitCircle_155 {x : Int32} {l0 : Option Value} {l : eg_Lo} : wps rm K Q c_M_fitCircle_155 kc ks (l0 :: some (.int x) :: l) (st) h = wps rm K Q c_M_fitCircle_156 kc ks (l0 :: some (.int x) :: l) (.int x :: st) h := gk_iload rfl
theorem s_M_fitCircle_156  : wps rm K Q c_M_fitCircle_156 kc ks loc (st) h = wps rm K Q c_M_fitCircle_157 kc ks loc (.int (5) :: st) h := gk_ic (by decide)
theorem s_M_fitCircle_157 {x : Nat} {i : Int32} {v : Int32} : wps rm K Q c_M_fitCircle_157 kc ks loc (.int v :: .int i :: .ref (x + 1) :: st) h = eg_is h x i v (fun h9 => wps rm K Q c_M_fitCircle_158 kc ks loc (st) h9) := gk_iastore
theorem s_M_fitCircle_158 {x : Nat} {l : eg_Lo} : wps rm K Q c_M_fitCircle_158 kc ks (some (.ref x) :: l) (st) h = wps rm K Q c_M_fitCircle_159 kc ks (some (.ref x) :: l) (.ref x :: st) h := gk_aload rfl
theorem s_M_fitCircle_159 {x : Nat} : wps rm K Q c_M_fitCircle_159 kc ks loc (.ref (x + 1) :: st) h = eg_gf h x 12 8 (fun v => wps rm K Q c_M_fitCircle_162 kc ks loc (v :: st) h) := gk_gf
theorem s_M_fitCircle_162 {x : Int32} {l0 : Option Value} {l : eg_Lo} : wps rm K Q c_M_fitCircle_162 kc ks (l0 :: some (.int x) :: l) (st) h = wps rm K Q c_M_fitCircle_163 kc ks (l0 :: some (.int x) :: l) (.int x :: st) h := gk_iload rfl
theorem s_M_fitCircle_163  : wps rm K Q c_M_fitCircle_163 kc ks loc (st) h = wps rm K Q c_M_fitCircle_164 kc ks loc (.int (1) :: st) h := gk_ic (by decide)
theorem s_M_fitCircle_164 {x : Nat} {i : Int32} {v : Int32} : wps rm K Q c_M_fitCircle_164 kc ks loc (.int v :: .int i :: .ref (x + 1) :: st) h = eg_is h x i v (fun h9 => wps rm K Q c_M_fitCircle_165 kc ks loc (st) h9) := gk_iastore
theorem s_M_fitCircle_165 {x : Nat} {l : eg_Lo} : wps rm K Q c_M_fitCircle_165 kc ks (some (.ref x) :: l) (st) h = wps rm K Q c_M_fitCircle_166 kc ks (some (.ref x) :: l) (.ref x :: st) h := gk_aload rfl
theorem s_M_fitCircle_166 {x : Nat} : wps rm K Q c_M_fitCircle_166 kc ks loc (.ref (x + 1) :: st) h = eg_gf h x 12 9 (fun v => wps rm K Q c_M_fitCircle_169 kc ks loc (v :: st) h) := gk_gf
theorem s_M_fitCircle_169  : wps rm K Q c_M_fitCircle_169 kc ks loc (st) h = wps rm K Q c_M_fitCircle_171 kc ks loc (.int (6) :: st) h := gk_ic (by decide)
theorem s_M_fitCircle_171 {x : Int32} {l0 : Option Value} {l : eg_Lo} : wps rm K Q c_M_fitCircle_171 kc ks (l0 :: some (.int x) :: l) (st) h = wps rm K Q c_M_fitCircle_172 kc ks (l0 :: some (.int x) :: l) (.int x :: st) h := gk_iload rfl
theorem s_M_fitCircle_172 {x y : Int32} : wps rm K Q c_M_fitCircle_172 kc ks loc (.int y :: .int x :: st) h = wps rm K Q c_M_fitCircle_173 kc ks loc (.int (x * y) :: st) h := gk_imul
theorem s_M_fitCircle_173 {x : Int32} {l0 l1 l2 l3 : Option Value} {l : eg_Lo} : wps rm K Q c_M_fitCircle_173 kc ks (l0 :: l1 :: l2 :: l3 :: some (.int x) :: l) (st) h = wps rm K Q c_M_fitCircle_175 kc ks (l0 :: l1 :: l2 :: l3 :: some (.int x) :: l) (.int x :: st) h := gk_iload rfl
theorem s_M_fitCircle_175 {x : Nat} {i : Int32} {v : Int32} : wps rm K Q c_M_fitCircle_175 kc ks loc (.int v :: .int i :: .ref (x + 1) :: st) h = eg_is h x i v (fun h9 => wps rm K Q c_M_fitCircle_176 kc ks loc (st) h9) := gk_iastore
theorem s_M_fitCircle_176 {x : Nat} {l : eg_Lo} : wps rm K Q c_M_fitCircle_176 kc ks (some (.ref x) :: l) (st) h = wps rm K Q c_M_fitCircle_177 kc ks (some (.ref x) :: l) (.ref x :: st) h := gk_aload rfl
theorem s_M_fitCircle_177 {x : Int32} {l0 : Option Value} {l : eg_Lo} : wps rm K Q c_M_fitCircle_177 kc ks (l0 :: some (.int x) :: l) (st) h = wps rm K Q c_M_fitCircle_178 kc ks (l0 :: some (.int x) :: l) (.int x :: st) h := gk_iload rfl
theorem s_M_fitCircle_178  : wps rm K Q c_M_fitCircle_178 kc ks loc (st) h = wps rm K Q c_M_fitCircle_179 kc ks loc (.long (0) :: st) h := gk_lc (by decide)
theorem s_M_fitCircle_179  : wps rm K Q c_M_fitCircle_179 kc ks loc (st) h = wps rm K Q c_M_fitCircle_180 kc ks loc (.long (1) :: st) h := gk_lc (by decide)
theorem s_M_fitCircle_180  {a1 : Value} {a2 : Value} {a3 : Value} {x : Nat} : wps rm K Q c_M_fitCircle_180 kc ks loc (a3 :: a2 :: a1 :: .ref (x + 1) :: st) h = (eg_cls h x 12 ∧ st.length ≤ 4 ∧ eg_Cs n_M_keepMiss (.ref (x + 1) :: [a1, a2, a3]) h (fun v h9 => wps rm K Q c_M_fitCircle_183 kc ks loc (v.toList ++ st) h9)) := eg_c1_3
theorem s_M_fitCircle_183 {x : Nat} {l : eg_Lo} : wps rm K Q c_M_fitCircle_183 kc ks (some (.ref x) :: l) (st) h = wps rm K Q c_M_fitCircle_184 kc ks (some (.ref x) :: l) (.ref x :: st) h := gk_aload rfl
theorem s_M_fitCircle_184 {x : Int32} {l0 : Option Value} {l : eg_Lo} : wps rm K Q c_M_fitCircle_184 kc ks (l0 :: some (.int x) :: l) (st) h = wps rm K Q c_M_fitCircle_185 kc ks (l0 :: some (.int x) :: l) (.int x :: st) h := gk_iload rfl
theorem s_M_fitCircle_185 {x : Nat} {l : eg_Lo} : wps rm K Q c_M_fitCircle_185 kc ks (some (.ref x) :: l) (st) h = wps rm K Q c_M_fitCircle_186 kc ks (some (.ref x) :: l) (.ref x :: st) h := gk_aload rfl
theorem s_M_fitCircle_186 {x : Nat} : wps rm K Q c_M_fitCircle_186 kc ks loc (.ref (x + 1) :: st) h = eg_gf h x 12 1 (fun v => wps rm K Q c_M_fitCircle_189 kc ks loc (v :: st) h) := gk_gf
theorem s_M_fitCircle_189 {x : Int32} {l0 l1 : Option Value} {l : eg_Lo} : wps rm K Q c_M_fitCircle_189 kc ks (l0 :: l1 :: some (.int x) :: l) (st) h = wps rm K Q c_M_fitCircle_190 kc ks (l0 :: l1 :: some (.int x) :: l) (.int x :: st) h := gk_iload rfl
theorem s_M_fitCircle_190 {x : Int32} {l0 l1 l2 l3 : Option Value} {l : eg_Lo} : wps rm K Q c_M_fitCircle_190 kc ks (l0 :: l1 :: l2 :: l3 :: some (.int x) :: l) (st) h = wps rm K Q c_M_fitCircle_192 kc ks (l0 :: l1 :: l2 :: l3 :: some (.int x) :: l) (.int x :: st) h := gk_iload rfl
theorem s_M_fitCircle_192  {a1 : Value} {a2 : Value} : wps rm K Q c_M_fitCircle_192 kc ks loc (a2 :: a1 :: st) h = (st.length ≤ 4 ∧ eg_Cs n_M_at_II [a1, a2] h (fun v h9 => wps rm K Q c_M_fitCircle_195 kc ks loc (v.toList ++ st) h9)) := eg_c0_2
theorem s_M_fitCircle_195 {x : Nat} {i : Int32} : wps rm K Q c_M_fitCircle_195 kc ks loc (.int i :: .ref (x + 1) :: st) h = eg_ia h x i (fun v => wps rm K Q c_M_fitCircle_196 kc ks loc (.int v :: st) h) := gk_iaload
theorem s_M_fitCircle_196 {x : Int32} : wps rm K Q c_M_fitCircle_196 kc ks loc (.int x :: st) h = wps rm K Q c_M_fitCircle_197 kc ks loc (.long (x.toInt64) :: st) h := gk_i2l
theorem s_M_fitCircle_197 {x : Nat} {l : eg_Lo} : wps rm K Q c_M_fitCircle_197 kc ks (some (.ref x) :: l) (st) h = wps rm K Q c_M_fitCircle_198 kc ks (some (.ref x) :: l) (.ref x :: st) h := gk_aload rfl
theorem s_M_fitCircle_198 {x : Nat} : wps rm K Q c_M_fitCircle_198 kc ks loc (.ref (x + 1) :: st) h = eg_gf h x 12 2 (fun v => wps rm K Q c_M_fitCircle_201 kc ks loc (v :: st) h) := gk_gf
theorem s_M_fitCircle_201 {x : Int32} {l0 l1 : Option Value} {l : eg_Lo} : wps rm K Q c_M_fitCircle_201 kc ks (l0 :: l1 :: some (.int x) :: l) (st) h = wps rm K Q c_M_fitCircle_202 kc ks (l0 :: l1 :: some (.int x) :: l) (.int x :: st) h := gk_iload rfl
theorem s_M_fitCircle_202 {x : Int32} {l0 l1 l2 l3 : Option Value} {l : eg_Lo} : wps rm K Q c_M_fitCircle_202 kc ks (l0 :: l1 :: l2 :: l3 :: some (.int x) :: l) (st) h = wps rm K Q c_M_fitCircle_204 kc ks (l0 :: l1 :: l2 :: l3 :: some (.int x) :: l) (.int x :: st) h := gk_iload rfl
theorem s_M_fitCircle_204  {a1 : Value} {a2 : Value} : wps rm K Q c_M_fitCircle_204 kc ks loc (a2 :: a1 :: st) h = (st.length ≤ 4 ∧ eg_Cs n_M_at_II [a1, a2] h (fun v h9 => wps rm K Q c_M_fitCircle_207 kc ks loc (v.toList ++ st) h9)) := eg_c0_2
theorem s_M_fitCircle_207 {x : Nat} {i : Int32} : wps rm K Q c_M_fitCircle_207 kc ks loc (.int i :: .ref (x + 1) :: st) h = eg_ia h x i (fun v => wps rm K Q c_M_fitCircle_208 kc ks loc (.int v :: st) h) := gk_iaload
theorem s_M_fitCircle_208 {x : Int32} : wps rm K Q c_M_fitCircle_208 kc ks loc (.int x :: st) h = wps rm K Q c_M_fitCircle_209 kc ks loc (.long (x.toInt64) :: st) h := gk_i2l
theorem s_M_fitCircle_209  : wps rm K Q c_M_fitCircle_209 kc ks loc (st) h = wps rm K Q c_M_fitCircle_210 kc ks loc (.long (1) :: st) h := gk_lc (by decide)
theorem s_M_fitCircle_210  {a1 : Value} {a2 : Value} {a3 : Value} {a4 : Value} {x : Nat} : wps rm K Q c_M_fitCircle_210 kc ks loc (a4 :: a3 :: a2 :: a1 :: .ref (x + 1) :: st) h = (eg_cls h x 12 ∧ st.length ≤ 4 ∧ eg_Cs n_M_keepMiddle (.ref (x + 1) :: [a1, a2, a3, a4]) h (fun v h9 => wps rm K Q c_M_fitCircle_213 kc ks loc (v.toList ++ st) h9)) := eg_c1_4
theorem s_M_fitCircle_213  : wps rm K Q c_M_fitCircle_213 kc ks loc (st) h = wps rm K Q c_M_fitCircle_214 kc ks loc (.long (1) :: st) h := gk_lc (by decide)
theorem s_M_fitCircle_214 {x : Int64} : wps rm K Q c_M_fitCircle_214 kc ks loc ([.long x]) h = (kc = rm.cells ∧ Q (some (.long x)) h) := gk_lret
theorem s_M_fitCircle_215  : wps rm K Q c_M_fitCircle_215 kc ks loc (st) h = wps rm K Q c_M_fitCircle_216 kc ks loc (.int (0) :: st) h := gk_ic (by decide)
theorem s_M_fitCircle_216 {x : Int32} : wps rm K Q c_M_fitCircle_216 kc ks loc (.int x :: st) h = wps rm K Q z_M_fitCircle_218 kc ks (eg_set1 loc 6 (.int x)) (st) h := gk_istore
theorem s_M_fitCircle_218 {x : Int32} {l0 l1 l2 l3 l4 l5 : Option Value} {l : eg_Lo} : wps rm K Q c_M_fitCircle_218 kc ks (l0 :: l1 :: l2 :: l3 :: l4 :: l5 :: some (.int x) :: l) (st) h = wps rm K Q c_M_fitCircle_220 kc ks (l0 :: l1 :: l2 :: l3 :: l4 :: l5 :: some (.int x) :: l) (.int x :: st) h := gk_iload rfl
theorem s_M_fitCircle_220 {x : Int32} {l0 l1 l2 : Option Value} {l : eg_Lo} : wps rm K Q c_M_fitCircle_220 kc ks (l0 :: l1 :: l2 :: some (.int x) :: l) (st) h = wps rm K Q c_M_fitCircle_221 kc ks (l0 :: l1 :: l2 :: some (.int x) :: l) (.int x :: st) h := gk_iload rfl
theorem s_M_fitCircle_221 {x y : Int32} : wps rm K Q c_M_fitCircle_221 kc ks loc (.int y :: .int x :: st) h = ((y ≤ x → K 479 kc ks loc st h) ∧ (¬ y ≤ x → wps rm K Q c_M_fitCircle_224 kc ks loc (st) h)) := gk_if2_ge
theorem s_M_fitCircle_224 {x : Int32} {l0 l1 l2 l3 l4 l5 : Option Value} {l : eg_Lo} : wps rm K Q c_M_fitCircle_224 kc ks (l0 :: l1 :: l2 :: l3 :: l4 :: l5 :: some (.int x) :: l) (st) h = wps rm K Q c_M_fitCircle_226 kc ks (l0 :: l1 :: l2 :: l3 :: l4 :: l5 :: some (.int x) :: l) (.int x :: st) h := gk_iload rfl
theorem s_M_fitCircle_226  : wps rm K Q c_M_fitCircle_226 kc ks loc (st) h = wps rm K Q c_M_fitCircle_227 kc ks loc (.int (1) :: st) h := gk_ic (by decide)
theorem s_M_fitCircle_227 {x y : Int32} : wps rm K Q c_M_fitCircle_227 kc ks loc (.int y :: .int x :: st) h = wps rm K Q c_M_fitCircle_228 kc ks loc (.int (x + y) :: st) h := gk_iadd
theorem s_M_fitCircle_228 {x : Int32} : wps rm K Q c_M_fitCircle_228 kc ks loc (.int x :: st) h = wps rm K Q z_M_fitCircle_230 kc ks (eg_set1 loc 7 (.int x)) (st) h := gk_istore
theorem s_M_fitCircle_230 {x : Int32} {l0 l1 l2 l3 l4 l5 l6 : Option Value} {l : eg_Lo} : wps rm K Q c_M_fitCircle_230 kc ks (l0 :: l1 :: l2 :: l3 :: l4 :: l5 :: l6 :: some (.int x) :: l) (st) h = wps rm K Q c_M_fitCircle_232 kc ks (l0 :: l1 :: l2 :: l3 :: l4 :: l5 :: l6 :: some (.int x) :: l) (.int x :: st) h := gk_iload rfl
theorem s_M_fitCircle_232 {x : Int32} {l0 l1 l2 : Option Value} {l : eg_Lo} : wps rm K Q c_M_fitCircle_232 kc ks (l0 :: l1 :: l2 :: some (.int x) :: l) (st) h = wps rm K Q c_M_fitCircle_233 kc ks (l0 :: l1 :: l2 :: some (.int x) :: l) (.int x :: st) h := gk_iload rfl
theorem s_M_fitCircle_233 {x y : Int32} : wps rm K Q c_M_fitCircle_233 kc ks loc (.int y :: .int x :: st) h = ((y ≤ x → K 473 kc ks loc st h) ∧ (¬ y ≤ x → wps rm K Q c_M_fitCircle_236 kc ks loc (st) h)) := gk_if2_ge
theorem s_M_fitCircle_236 {x : Int32} {l0 l1 : Option Value} {l : eg_Lo} : wps rm K Q c_M_fitCircle_236 kc ks (l0 :: l1 :: some (.int x) :: l) (st) h = wps rm K Q c_M_fitCircle_237 kc ks (l0 :: l1 :: some (.int x) :: l) (.int x :: st) h := gk_iload rfl
theorem s_M_fitCircle_237 {x : Int32} {l0 l1 l2 l3 l4 l5 : Option Value} {l : eg_Lo} : wps rm K Q c_M_fitCircle_237 kc ks (l0 :: l1 :: l2 :: l3 :: l4 :: l5 :: some (.int x) :: l) (st) h = wps rm K Q c_M_fitCircle_239 kc ks (l0 :: l1 :: l2 :: l3 :: l4 :: l5 :: some (.int x) :: l) (.int x :: st) h := gk_iload rfl
theorem s_M_fitCircle_239  {a1 : Value} {a2 : Value} : wps rm K Q c_M_fitCircle_239 kc ks loc (a2 :: a1 :: st) h = (st.length ≤ 4 ∧ eg_Cs n_M_at_II [a1, a2] h (fun v h9 => wps rm K Q c_M_fitCircle_242 kc ks loc (v.toList ++ st) h9)) := eg_c0_2
theorem s_M_fitCircle_242 {x : Int32} : wps rm K Q c_M_fitCircle_242 kc ks loc (.int x :: st) h = wps rm K Q c_M_fitCircle_244 kc ks (eg_set1 loc 8 (.int x)) (st) h := gk_istore
theorem s_M_fitCircle_244 {x : Int32} {l0 l1 : Option Value} {l : eg_Lo} : wps rm K Q c_M_fitCircle_244 kc ks (l0 :: l1 :: some (.int x) :: l) (st) h = wps rm K Q c_M_fitCircle_245 kc ks (l0 :: l1 :: some (.int x) :: l) (.int x :: st) h := gk_iload rfl
theorem s_M_fitCircle_245 {x : Int32} {l0 l1 l2 l3 l4 l5 l6 : Option Value} {l : eg_Lo} : wps rm K Q c_M_fitCircle_245 kc ks (l0 :: l1 :: l2 :: l3 :: l4 :: l5 :: l6 :: some (.int x) :: l) (st) h = wps rm K Q c_M_fitCircle_247 kc ks (l0 :: l1 :: l2 :: l3 :: l4 :: l5 :: l6 :: some (.int x) :: l) (.int x :: st) h := gk_iload rfl
theorem s_M_fitCircle_247  {a1 : Value} {a2 : Value} : wps rm K Q c_M_fitCircle_247 kc ks loc (a2 :: a1 :: st) h = (st.length ≤ 4 ∧ eg_Cs n_M_at_II [a1, a2] h (fun v h9 => wps rm K Q c_M_fitCircle_250 kc ks loc (v.toList ++ st) h9)) := eg_c0_2
theorem s_M_fitCircle_250 {x : Int32} : wps rm K Q c_M_fitCircle_250 kc ks loc (.int x :: st) h = wps rm K Q c_M_fitCircle_252 kc ks (eg_set1 loc 9 (.int x)) (st) h := gk_istore
theorem s_M_fitCircle_252 {x : Nat} {l : eg_Lo} : wps rm K Q c_M_fitCircle_252 kc ks (some (.ref x) :: l) (st) h = wps rm K Q c_M_fitCircle_253 kc ks (some (.ref x) :: l) (.ref x :: st) h := gk_aload rfl
theorem s_M_fitCircle_253 {x : Nat} : wps rm K Q c_M_fitCircle_253 kc ks loc (.ref (x + 1) :: st) h = eg_gf h x 12 4 (fun v => wps rm K Q c_M_fitCircle_256 kc ks loc (v :: st) h) := gk_gf
theorem s_M_fitCircle_256 {x : Int32} {l0 l1 l2 l3 l4 l5 l6 l7 : Option Value} {l : eg_Lo} : wps rm K Q c_M_fitCircle_256 kc ks (l0 :: l1 :: l2 :: l3 :: l4 :: l5 :: l6 :: l7 :: some (.int x) :: l) (st) h = wps rm K Q c_M_fitCircle_258 kc ks (l0 :: l1 :: l2 :: l3 :: l4 :: l5 :: l6 :: l7 :: some (.int x) :: l) (.int x :: st) h := gk_iload rfl
theorem s_M_fitCircle_258 {x : Nat} {i : Int32} : wps rm K Q c_M_fitCircle_258 kc ks loc (.int i :: .ref (x + 1) :: st) h = eg_ba h x i (fun v => wps rm K Q c_M_fitCircle_259 kc ks loc (.int v :: st) h) := gk_baload
theorem s_M_fitCircle_259 {x : Int32} : wps rm K Q c_M_fitCircle_259 kc ks loc (.int x :: st) h = ((¬ x = 0 → K 310 kc ks loc st h) ∧ (x = 0 → wps rm K Q c_M_fitCircle_262 kc ks loc (st) h)) := gk_if1_ne
theorem s_M_fitCircle_262 {x : Nat} {l : eg_Lo} : wps rm K Q c_M_fitCircle_262 kc ks (some (.ref x) :: l) (st) h = wps rm K Q c_M_fitCircle_263 kc ks (some (.ref x) :: l) (.ref x :: st) h := gk_aload rfl
theorem s_M_fitCircle_263 {x : Nat} : wps rm K Q c_M_fitCircle_263 kc ks loc (.ref (x + 1) :: st) h = eg_gf h x 12 4 (fun v => wps rm K Q c_M_fitCircle_266 kc ks loc (v :: st) h) := gk_gf
theorem s_M_fitCircle_266 {x : Int32} {l0 l1 l2 l3 l4 l5 l6 l7 l8 : Option Value} {l : eg_Lo} : wps rm K Q c_M_fitCircle_266 kc ks (l0 :: l1 :: l2 :: l3 :: l4 :: l5 :: l6 :: l7 :: l8 :: some (.int x) :: l) (st) h = wps rm K Q c_M_fitCircle_268 kc ks (l0 :: l1 :: l2 :: l3 :: l4 :: l5 :: l6 :: l7 :: l8 :: some (.int x) :: l) (.int x :: st) h := gk_iload rfl
theorem s_M_fitCircle_268 {x : Nat} {i : Int32} : wps rm K Q c_M_fitCircle_268 kc ks loc (.int i :: .ref (x + 1) :: st) h = eg_ba h x i (fun v => wps rm K Q c_M_fitCircle_269 kc ks loc (.int v :: st) h) := gk_baload
theorem s_M_fitCircle_269 {x : Int32} : wps rm K Q c_M_fitCircle_269 kc ks loc (.int x :: st) h = ((¬ x = 0 → K 310 kc ks loc st h) ∧ (x = 0 → wps rm K Q c_M_fitCircle_272 kc ks loc (st) h)) := gk_if1_ne
theorem s_M_fitCircle_272 {x : Nat} {l : eg_Lo} : wps rm K Q c_M_fitCircle_272 kc ks (some (.ref x) :: l) (st) h = wps rm K Q c_M_fitCircle_273 kc ks (some (.ref x) :: l) (.ref x :: st) h := gk_aload rfl
theorem s_M_fitCircle_273 {x : Nat} : wps rm K Q c_M_fitCircle_273 kc ks loc (.ref (x + 1) :: st) h = eg_gf h x 12 1 (fun v => wps rm K Q c_M_fitCircle_276 kc ks loc (v :: st) h) := gk_gf
theorem s_M_fitCircle_276 {x : Int32} {l0 l1 l2 l3 l4 l5 l6 l7 : Option Value} {l : eg_Lo} : wps rm K Q c_M_fitCircle_276 kc ks (l0 :: l1 :: l2 :: l3 :: l4 :: l5 :: l6 :: l7 :: some (.int x) :: l) (st) h = wps rm K Q c_M_fitCircle_278 kc ks (l0 :: l1 :: l2 :: l3 :: l4 :: l5 :: l6 :: l7 :: some (.int x) :: l) (.int x :: st) h := gk_iload rfl
theorem s_M_fitCircle_278 {x : Nat} {i : Int32} : wps rm K Q c_M_fitCircle_278 kc ks loc (.int i :: .ref (x + 1) :: st) h = eg_ia h x i (fun v => wps rm K Q c_M_fitCircle_279 kc ks loc (.int v :: st) h) := gk_iaload
theorem s_M_fitCircle_279 {x : Nat} {l : eg_Lo} : wps rm K Q c_M_fitCircle_279 kc ks (some (.ref x) :: l) (st) h = wps rm K Q c_M_fitCircle_280 kc ks (some (.ref x) :: l) (.ref x :: st) h := gk_aload rfl
theorem s_M_fitCircle_280 {x : Nat} : wps rm K Q c_M_fitCircle_280 kc ks loc (.ref (x + 1) :: st) h = eg_gf h x 12 1 (fun v => wps rm K Q c_M_fitCircle_283 kc ks loc (v :: st) h) := gk_gf
theorem s_M_fitCircle_283 {x : Int32} {l0 l1 l2 l3 l4 l5 l6 l7 l8 : Option Value} {l : eg_Lo} : wps rm K Q c_M_fitCircle_283 kc ks (l0 :: l1 :: l2 :: l3 :: l4 :: l5 :: l6 :: l7 :: l8 :: some (.int x) :: l) (st) h = wps rm K Q c_M_fitCircle_285 kc ks (l0 :: l1 :: l2 :: l3 :: l4 :: l5 :: l6 :: l7 :: l8 :: some (.int x) :: l) (.int x :: st) h := gk_iload rfl
theorem s_M_fitCircle_285 {x : Nat} {i : Int32} : wps rm K Q c_M_fitCircle_285 kc ks loc (.int i :: .ref (x + 1) :: st) h = eg_ia h x i (fun v => wps rm K Q c_M_fitCircle_286 kc ks loc (.int v :: st) h) := gk_iaload
theorem s_M_fitCircle_286 {x y : Int32} : wps rm K Q c_M_fitCircle_286 kc ks loc (.int y :: .int x :: st) h = ((¬ x = y → K 306 kc ks loc st h) ∧ (x = y → wps rm K Q c_M_fitCircle_289 kc ks loc (st) h)) := gk_if2_ne
theorem s_M_fitCircle_289 {x : Nat} {l : eg_Lo} : wps rm K Q c_M_fitCircle_289 kc ks (some (.ref x) :: l) (st) h = wps rm K Q c_M_fitCircle_290 kc ks (some (.ref x) :: l) (.ref x :: st) h := gk_aload rfl
theorem s_M_fitCircle_290 {x : Nat} : wps rm K Q c_M_fitCircle_290 kc ks loc (.ref (x + 1) :: st) h = eg_gf h x 12 2 (fun v => wps rm K Q c_M_fitCircle_293 kc ks loc (v :: st) h) := gk_gf
theorem s_M_fitCircle_293 {x : Int32} {l0 l1 l2 l3 l4 l5 l6 l7 : Option Value} {l : eg_Lo} : wps rm K Q c_M_fitCircle_293 kc ks (l0 :: l1 :: l2 :: l3 :: l4 :: l5 :: l6 :: l7 :: some (.int x) :: l) (st) h = wps rm K Q c_M_fitCircle_295 kc ks (l0 :: l1 :: l2 :: l3 :: l4 :: l5 :: l6 :: l7 :: some (.int x) :: l) (.int x :: st) h := gk_iload rfl
theorem s_M_fitCircle_295 {x : Nat} {i : Int32} : wps rm K Q c_M_fitCircle_295 kc ks loc (.int i :: .ref (x + 1) :: st) h = eg_ia h x i (fun v => wps rm K Q c_M_fitCircle_296 kc ks loc (.int v :: st) h) := gk_iaload
theorem s_M_fitCircle_296 {x : Nat} {l : eg_Lo} : wps rm K Q c_M_fitCircle_296 kc ks (some (.ref x) :: l) (st) h = wps rm K Q c_M_fitCircle_297 kc ks (some (.ref x) :: l) (.ref x :: st) h := gk_aload rfl
theorem s_M_fitCircle_297 {x : Nat} : wps rm K Q c_M_fitCircle_297 kc ks loc (.ref (x + 1) :: st) h = eg_gf h x 12 2 (fun v => wps rm K Q c_M_fitCircle_300 kc ks loc (v :: st) h) := gk_gf
theorem s_M_fitCircle_300 {x : Int32} {l0 l1 l2 l3 l4 l5 l6 l7 l8 : Option Value} {l : eg_Lo} : wps rm K Q c_M_fitCircle_300 kc ks (l0 :: l1 :: l2 :: l3 :: l4 :: l5 :: l6 :: l7 :: l8 :: some (.int x) :: l) (st) h = wps rm K Q c_M_fitCircle_302 kc ks (l0 :: l1 :: l2 :: l3 :: l4 :: l5 :: l6 :: l7 :: l8 :: some (.int x) :: l) (.int x :: st) h := gk_iload rfl
theorem s_M_fitCircle_302 {x : Nat} {i : Int32} : wps rm K Q c_M_fitCircle_302 kc ks loc (.int i :: .ref (x + 1) :: st) h = eg_ia h x i (fun v => wps rm K Q c_M_fitCircle_303 kc ks loc (.int v :: st) h) := gk_iaload
theorem s_M_fitCircle_303 {x y : Int32} : wps rm K Q c_M_fitCircle_303 kc ks loc (.int y :: .int x :: st) h = ((x = y → K 310 kc ks loc st h) ∧ (¬ x = y → wps rm K Q c_M_fitCircle_306 kc ks loc (st) h)) := gk_if2_eq
theorem s_M_fitCircle_306  : wps rm K Q c_M_fitCircle_306 kc ks loc (st) h = wps rm K Q c_M_fitCircle_307 kc ks loc (.int (1) :: st) h := gk_ic (by decide)
theorem s_M_fitCircle_307  : wps rm K Q c_M_fitCircle_307 kc ks loc (st) h = K 311 kc ks loc st h := gk_goto
theorem s_M_fitCircle_310  : wps rm K Q c_M_fitCircle_310 kc ks loc (st) h = wps rm K Q c_M_fitCircle_311 kc ks loc (.int (0) :: st) h := gk_ic (by decide)
theorem s_M_fitCircle_311 {x : Int32} : wps rm K Q c_M_fitCircle_311 kc ks loc (.int x :: st) h = wps rm K Q c_M_fitCircle_313 kc ks (eg_set1 loc 10 (.int x)) (st) h := gk_istore
theorem s_M_fitCircle_313 {x : Int32} {l0 l1 l2 l3 l4 l5 l6 l7 l8 l9 : Option Value} {l : eg_Lo} : wps rm K Q c_M_fitCircle_313 kc ks (l0 :: l1 :: l2 :: l3 :: l4 :: l5 :: l6 :: l7 :: l8 :: l9 :: some (.int x) :: l) (st) h = wps rm K Q c_M_fitCircle_315 kc ks (l0 :: l1 :: l2 :: l3 :: l4 :: l5 :: l6 :: l7 :: l8 :: l9 :: some (.int x) :: l) (.int x :: st) h := gk_iload rfl
theorem s_M_fitCircle_315 {x : Int32} : wps rm K Q c_M_fitCircle_315 kc ks loc (.int x :: st) h = ((x = 0 → K 467 kc ks loc st h) ∧ (¬ x = 0 → wps rm K Q c_M_fitCircle_318 kc ks loc (st) h)) := gk_if1_eq
theorem s_M_fitCircle_318 {x : Nat} {l : eg_Lo} : wps rm K Q c_M_fitCircle_318 kc ks (some (.ref x) :: l) (st) h = wps rm K Q c_M_fitCircle_319 kc ks (some (.ref x) :: l) (.ref x :: st) h := gk_aload rfl
theorem s_M_fitCircle_319 {x : Int32} {l0 l1 : Option Value} {l : eg_Lo} : wps rm K Q c_M_fitCircle_319 kc ks (l0 :: l1 :: some (.int x) :: l) (st) h = wps rm K Q c_M_fitCircle_320 kc ks (l0 :: l1 :: some (.int x) :: l) (.int x :: st) h := gk_iload rfl
theorem s_M_fitCircle_320 {x : Int32} {l0 l1 l2 l3 l4 l5 : Option Value} {l : eg_Lo} : wps rm K Q c_M_fitCircle_320 kc ks (l0 :: l1 :: l2 :: l3 :: l4 :: l5 :: some (.int x) :: l) (st) h = wps rm K Q c_M_fitCircle_322 kc ks (l0 :: l1 :: l2 :: l3 :: l4 :: l5 :: some (.int x) :: l) (.int x :: st) h := gk_iload rfl
theorem s_M_fitCircle_322 {x : Int32} {l0 l1 l2 l3 l4 l5 l6 : Option Value} {l : eg_Lo} : wps rm K Q c_M_fitCircle_322 kc ks (l0 :: l1 :: l2 :: l3 :: l4 :: l5 :: l6 :: some (.int x) :: l) (st) h = wps rm K Q c_M_fitCircle_324 kc ks (l0 :: l1 :: l2 :: l3 :: l4 :: l5 :: l6 :: some (.int x) :: l) (.int x :: st) h := gk_iload rfl
theorem s_M_fitCircle_324  {a1 : Value} {a2 : Value} {a3 : Value} {x : Nat} : wps rm K Q c_M_fitCircle_324 kc ks loc (a3 :: a2 :: a1 :: .ref (x + 1) :: st) h = (eg_cls h x 12 ∧ st.length ≤ 4 ∧ eg_Cs n_M_isRoundOf (.ref (x + 1) :: [a1, a2, a3]) h (fun v h9 => wps rm K Q c_M_fitCircle_327 kc ks loc (v.toList ++ st) h9)) := eg_c1_3
theorem s_M_fitCircle_327 {x : Int32} : wps rm K Q c_M_fitCircle_327 kc ks loc (.int x :: st) h = ((x = 0 → K 467 kc ks loc st h) ∧ (¬ x = 0 → wps rm K Q c_M_fitCircle_330 kc ks loc (st) h)) := gk_if1_eq
theorem s_M_fitCircle_330 {x : Nat} {l : eg_Lo} : wps rm K Q c_M_fitCircle_330 kc ks (some (.ref x) :: l) (st) h = wps rm K Q c_M_fitCircle_331 kc ks (some (.ref x) :: l) (.ref x :: st) h := gk_aload rfl
theorem s_M_fitCircle_331 {x : Nat} : wps rm K Q c_M_fitCircle_331 kc ks loc (.ref (x + 1) :: st) h = eg_gf h x 12 7 (fun v => wps rm K Q c_M_fitCircle_334 kc ks loc (v :: st) h) := gk_gf
theorem s_M_fitCircle_334 {x : Int32} {l0 : Option Value} {l : eg_Lo} : wps rm K Q c_M_fitCircle_334 kc ks (l0 :: some (.int x) :: l) (st) h = wps rm K Q c_M_fitCircle_335 kc ks (l0 :: some (.int x) :: l) (.int x :: st) h := gk_iload rfl
theorem s_M_fitCircle_335  : wps rm K Q c_M_fitCircle_335 kc ks loc (st) h = wps rm K Q c_M_fitCircle_336 kc ks loc (.int (5) :: st) h := gk_ic (by decide)
theorem s_M_fitCircle_336 {x : Nat} {i : Int32} {v : Int32} : wps rm K Q c_M_fitCircle_336 kc ks loc (.int v :: .int i :: .ref (x + 1) :: st) h = eg_is h x i v (fun h9 => wps rm K Q c_M_fitCircle_337 kc ks loc (st) h9) := gk_iastore
theorem s_M_fitCircle_337 {x : Nat} {l : eg_Lo} : wps rm K Q c_M_fitCircle_337 kc ks (some (.ref x) :: l) (st) h = wps rm K Q c_M_fitCircle_338 kc ks (some (.ref x) :: l) (.ref x :: st) h := gk_aload rfl
theorem s_M_fitCircle_338 {x : Nat} : wps rm K Q c_M_fitCircle_338 kc ks loc (.ref (x + 1) :: st) h = eg_gf h x 12 8 (fun v => wps rm K Q c_M_fitCircle_341 kc ks loc (v :: st) h) := gk_gf
theorem s_M_fitCircle_341 {x : Int32} {l0 : Option Value} {l : eg_Lo} : wps rm K Q c_M_fitCircle_341 kc ks (l0 :: some (.int x) :: l) (st) h = wps rm K Q c_M_fitCircle_342 kc ks (l0 :: some (.int x) :: l) (.int x :: st) h := gk_iload rfl
theorem s_M_fitCircle_342  : wps rm K Q c_M_fitCircle_342 kc ks loc (st) h = wps rm K Q c_M_fitCircle_343 kc ks loc (.int (2) :: st) h := gk_ic (by decide)
theorem s_M_fitCircle_343 {x : Nat} {i : Int32} {v : Int32} : wps rm K Q c_M_fitCircle_343 kc ks loc (.int v :: .int i :: .ref (x + 1) :: st) h = eg_is h x i v (fun h9 => wps rm K Q c_M_fitCircle_344 kc ks loc (st) h9) := gk_iastore
theorem s_M_fitCircle_344 {x : Nat} {l : eg_Lo} : wps rm K Q c_M_fitCircle_344 kc ks (some (.ref x) :: l) (st) h = wps rm K Q c_M_fitCircle_345 kc ks (some (.ref x) :: l) (.ref x :: st) h := gk_aload rfl
theorem s_M_fitCircle_345 {x : Nat} : wps rm K Q c_M_fitCircle_345 kc ks loc (.ref (x + 1) :: st) h = eg_gf h x 12 9 (fun v => wps rm K Q c_M_fitCircle_348 kc ks loc (v :: st) h) := gk_gf
theorem s_M_fitCircle_348  : wps rm K Q c_M_fitCircle_348 kc ks loc (st) h = wps rm K Q c_M_fitCircle_350 kc ks loc (.int (6) :: st) h := gk_ic (by decide)
theorem s_M_fitCircle_350 {x : Int32} {l0 : Option Value} {l : eg_Lo} : wps rm K Q c_M_fitCircle_350 kc ks (l0 :: some (.int x) :: l) (st) h = wps rm K Q c_M_fitCircle_351 kc ks (l0 :: some (.int x) :: l) (.int x :: st) h := gk_iload rfl
theorem s_M_fitCircle_351 {x y : Int32} : wps rm K Q c_M_fitCircle_351 kc ks loc (.int y :: .int x :: st) h = wps rm K Q c_M_fitCircle_352 kc ks loc (.int (x * y) :: st) h := gk_imul
theorem s_M_fitCircle_352 {x : Int32} {l0 l1 l2 l3 l4 l5 : Option Value} {l : eg_Lo} : wps rm K Q c_M_fitCircle_352 kc ks (l0 :: l1 :: l2 :: l3 :: l4 :: l5 :: some (.int x) :: l) (st) h = wps rm K Q c_M_fitCircle_354 kc ks (l0 :: l1 :: l2 :: l3 :: l4 :: l5 :: some (.int x) :: l) (.int x :: st) h := gk_iload rfl
theorem s_M_fitCircle_354 {x : Nat} {i : Int32} {v : Int32} : wps rm K Q c_M_fitCircle_354 kc ks loc (.int v :: .int i :: .ref (x + 1) :: st) h = eg_is h x i v (fun h9 => wps rm K Q c_M_fitCircle_355 kc ks loc (st) h9) := gk_iastore
theorem s_M_fitCircle_355 {x : Nat} {l : eg_Lo} : wps rm K Q c_M_fitCircle_355 kc ks (some (.ref x) :: l) (st) h = wps rm K Q c_M_fitCircle_356 kc ks (some (.ref x) :: l) (.ref x :: st) h := gk_aload rfl
theorem s_M_fitCircle_356 {x : Nat} : wps rm K Q c_M_fitCircle_356 kc ks loc (.ref (x + 1) :: st) h = eg_gf h x 12 9 (fun v => wps rm K Q c_M_fitCircle_359 kc ks loc (v :: st) h) := gk_gf
theorem s_M_fitCircle_359  : wps rm K Q c_M_fitCircle_359 kc ks loc (st) h = wps rm K Q c_M_fitCircle_361 kc ks loc (.int (6) :: st) h := gk_ic (by decide)
theorem s_M_fitCircle_361 {x : Int32} {l0 : Option Value} {l : eg_Lo} : wps rm K Q c_M_fitCircle_361 kc ks (l0 :: some (.int x) :: l) (st) h = wps rm K Q c_M_fitCircle_362 kc ks (l0 :: some (.int x) :: l) (.int x :: st) h := gk_iload rfl
theorem s_M_fitCircle_362 {x y : Int32} : wps rm K Q c_M_fitCircle_362 kc ks loc (.int y :: .int x :: st) h = wps rm K Q c_M_fitCircle_363 kc ks loc (.int (x * y) :: st) h := gk_imul
theorem s_M_fitCircle_363  : wps rm K Q c_M_fitCircle_363 kc ks loc (st) h = wps rm K Q c_M_fitCircle_364 kc ks loc (.int (1) :: st) h := gk_ic (by decide)
theorem s_M_fitCircle_364 {x y : Int32} : wps rm K Q c_M_fitCircle_364 kc ks loc (.int y :: .int x :: st) h = wps rm K Q c_M_fitCircle_365 kc ks loc (.int (x + y) :: st) h := gk_iadd
theorem s_M_fitCircle_365 {x : Int32} {l0 l1 l2 l3 l4 l5 l6 : Option Value} {l : eg_Lo} : wps rm K Q c_M_fitCircle_365 kc ks (l0 :: l1 :: l2 :: l3 :: l4 :: l5 :: l6 :: some (.int x) :: l) (st) h = wps rm K Q c_M_fitCircle_367 kc ks (l0 :: l1 :: l2 :: l3 :: l4 :: l5 :: l6 :: some (.int x) :: l) (.int x :: st) h := gk_iload rfl
theorem s_M_fitCircle_367 {x : Nat} {i : Int32} {v : Int32} : wps rm K Q c_M_fitCircle_367 kc ks loc (.int v :: .int i :: .ref (x + 1) :: st) h = eg_is h x i v (fun h9 => wps rm K Q c_M_fitCircle_368 kc ks loc (st) h9) := gk_iastore
theorem s_M_fitCircle_368 {x : Nat} {l : eg_Lo} : wps rm K Q c_M_fitCircle_368 kc ks (some (.ref x) :: l) (st) h = wps rm K Q c_M_fitCircle_369 kc ks (some (.ref x) :: l) (.ref x :: st) h := gk_aload rfl
theorem s_M_fitCircle_369 {x : Nat} : wps rm K Q c_M_fitCircle_369 kc ks loc (.ref (x + 1) :: st) h = eg_gf h x 12 1 (fun v => wps rm K Q c_M_fitCircle_372 kc ks loc (v :: st) h) := gk_gf
theorem s_M_fitCircle_372 {x : Int32} {l0 l1 l2 l3 l4 l5 l6 l7 : Option Value} {l : eg_Lo} : wps rm K Q c_M_fitCircle_372 kc ks (l0 :: l1 :: l2 :: l3 :: l4 :: l5 :: l6 :: l7 :: some (.int x) :: l) (st) h = wps rm K Q c_M_fitCircle_374 kc ks (l0 :: l1 :: l2 :: l3 :: l4 :: l5 :: l6 :: l7 :: some (.int x) :: l) (.int x :: st) h := gk_iload rfl
theorem s_M_fitCircle_374 {x : Nat} {i : Int32} : wps rm K Q c_M_fitCircle_374 kc ks loc (.int i :: .ref (x + 1) :: st) h = eg_ia h x i (fun v => wps rm K Q c_M_fitCircle_375 kc ks loc (.int v :: st) h) := gk_iaload
theorem s_M_fitCircle_375 {x : Nat} {l : eg_Lo} : wps rm K Q c_M_fitCircle_375 kc ks (some (.ref x) :: l) (st) h = wps rm K Q c_M_fitCircle_376 kc ks (some (.ref x) :: l) (.ref x :: st) h := gk_aload rfl
theorem s_M_fitCircle_376 {x : Nat} : wps rm K Q c_M_fitCircle_376 kc ks loc (.ref (x + 1) :: st) h = eg_gf h x 12 1 (fun v => wps rm K Q c_M_fitCircle_379 kc ks loc (v :: st) h) := gk_gf
theorem s_M_fitCircle_379 {x : Int32} {l0 l1 l2 l3 l4 l5 l6 l7 l8 : Option Value} {l : eg_Lo} : wps rm K Q c_M_fitCircle_379 kc ks (l0 :: l1 :: l2 :: l3 :: l4 :: l5 :: l6 :: l7 :: l8 :: some (.int x) :: l) (st) h = wps rm K Q c_M_fitCircle_381 kc ks (l0 :: l1 :: l2 :: l3 :: l4 :: l5 :: l6 :: l7 :: l8 :: some (.int x) :: l) (.int x :: st) h := gk_iload rfl
theorem s_M_fitCircle_381 {x : Nat} {i : Int32} : wps rm K Q c_M_fitCircle_381 kc ks loc (.int i :: .ref (x + 1) :: st) h = eg_ia h x i (fun v => wps rm K Q c_M_fitCircle_382 kc ks loc (.int v :: st) h) := gk_iaload
theorem s_M_fitCircle_382 {x y : Int32} : wps rm K Q c_M_fitCircle_382 kc ks loc (.int y :: .int x :: st) h = wps rm K Q c_M_fitCircle_383 kc ks loc (.int (x - y) :: st) h := gk_isub
theorem s_M_fitCircle_383 {x : Int32} : wps rm K Q c_M_fitCircle_383 kc ks loc (.int x :: st) h = wps rm K Q c_M_fitCircle_384 kc ks loc (.long (x.toInt64) :: st) h := gk_i2l
theorem s_M_fitCircle_384 {x : Int64} : wps rm K Q c_M_fitCircle_384 kc ks loc (.long x :: st) h = wps rm K Q c_M_fitCircle_386 kc ks (eg_set2 loc 11 (.long x)) (st) h := gk_lstore
theorem s_M_fitCircle_386 {x : Nat} {l : eg_Lo} : wps rm K Q c_M_fitCircle_386 kc ks (some (.ref x) :: l) (st) h = wps rm K Q c_M_fitCircle_387 kc ks (some (.ref x) :: l) (.ref x :: st) h := gk_aload rfl
theorem s_M_fitCircle_387 {x : Nat} : wps rm K Q c_M_fitCircle_387 kc ks loc (.ref (x + 1) :: st) h = eg_gf h x 12 2 (fun v => wps rm K Q c_M_fitCircle_390 kc ks loc (v :: st) h) := gk_gf
theorem s_M_fitCircle_390 {x : Int32} {l0 l1 l2 l3 l4 l5 l6 l7 : Option Value} {l : eg_Lo} : wps rm K Q c_M_fitCircle_390 kc ks (l0 :: l1 :: l2 :: l3 :: l4 :: l5 :: l6 :: l7 :: some (.int x) :: l) (st) h = wps rm K Q c_M_fitCircle_392 kc ks (l0 :: l1 :: l2 :: l3 :: l4 :: l5 :: l6 :: l7 :: some (.int x) :: l) (.int x :: st) h := gk_iload rfl
theorem s_M_fitCircle_392 {x : Nat} {i : Int32} : wps rm K Q c_M_fitCircle_392 kc ks loc (.int i :: .ref (x + 1) :: st) h = eg_ia h x i (fun v => wps rm K Q c_M_fitCircle_393 kc ks loc (.int v :: st) h) := gk_iaload
theorem s_M_fitCircle_393 {x : Nat} {l : eg_Lo} : wps rm K Q c_M_fitCircle_393 kc ks (some (.ref x) :: l) (st) h = wps rm K Q c_M_fitCircle_394 kc ks (some (.ref x) :: l) (.ref x :: st) h := gk_aload rfl
theorem s_M_fitCircle_394 {x : Nat} : wps rm K Q c_M_fitCircle_394 kc ks loc (.ref (x + 1) :: st) h = eg_gf h x 12 2 (fun v => wps rm K Q c_M_fitCircle_397 kc ks loc (v :: st) h) := gk_gf
theorem s_M_fitCircle_397 {x : Int32} {l0 l1 l2 l3 l4 l5 l6 l7 l8 : Option Value} {l : eg_Lo} : wps rm K Q c_M_fitCircle_397 kc ks (l0 :: l1 :: l2 :: l3 :: l4 :: l5 :: l6 :: l7 :: l8 :: some (.int x) :: l) (st) h = wps rm K Q c_M_fitCircle_399 kc ks (l0 :: l1 :: l2 :: l3 :: l4 :: l5 :: l6 :: l7 :: l8 :: some (.int x) :: l) (.int x :: st) h := gk_iload rfl
theorem s_M_fitCircle_399 {x : Nat} {i : Int32} : wps rm K Q c_M_fitCircle_399 kc ks loc (.int i :: .ref (x + 1) :: st) h = eg_ia h x i (fun v => wps rm K Q c_M_fitCircle_400 kc ks loc (.int v :: st) h) := gk_iaload
theorem s_M_fitCircle_400 {x y : Int32} : wps rm K Q c_M_fitCircle_400 kc ks loc (.int y :: .int x :: st) h = wps rm K Q c_M_fitCircle_401 kc ks loc (.int (x - y) :: st) h := gk_isub
theorem s_M_fitCircle_401 {x : Int32} : wps rm K Q c_M_fitCircle_401 kc ks loc (.int x :: st) h = wps rm K Q c_M_fitCircle_402 kc ks loc (.long (x.toInt64) :: st) h := gk_i2l
theorem s_M_fitCircle_402 {x : Int64} : wps rm K Q c_M_fitCircle_402 kc ks loc (.long x :: st) h = wps rm K Q c_M_fitCircle_404 kc ks (eg_set2 loc 13 (.long x)) (st) h := gk_lstore
theorem s_M_fitCircle_404 {x : Nat} {l : eg_Lo} : wps rm K Q c_M_fitCircle_404 kc ks (some (.ref x) :: l) (st) h = wps rm K Q c_M_fitCircle_405 kc ks (some (.ref x) :: l) (.ref x :: st) h := gk_aload rfl
theorem s_M_fitCircle_405 {x : Int32} {l0 : Option Value} {l : eg_Lo} : wps rm K Q c_M_fitCircle_405 kc ks (l0 :: some (.int x) :: l) (st) h = wps rm K Q c_M_fitCircle_406 kc ks (l0 :: some (.int x) :: l) (.int x :: st) h := gk_iload rfl
theorem s_M_fitCircle_406 {x : Int64} {l0 l1 l2 l3 l4 l5 l6 l7 l8 l9 l10 : Option Value} {l : eg_Lo} : wps rm K Q c_M_fitCircle_406 kc ks (l0 :: l1 :: l2 :: l3 :: l4 :: l5 :: l6 :: l7 :: l8 :: l9 :: l10 :: some (.long x) :: l) (st) h = wps rm K Q c_M_fitCircle_408 kc ks (l0 :: l1 :: l2 :: l3 :: l4 :: l5 :: l6 :: l7 :: l8 :: l9 :: l10 :: some (.long x) :: l) (.long x :: st) h := gk_lload rfl
theorem s_M_fitCircle_408 {x : Int64} {l0 l1 l2 l3 l4 l5 l6 l7 l8 l9 l10 : Option Value} {l : eg_Lo} : wps rm K Q c_M_fitCircle_408 kc ks (l0 :: l1 :: l2 :: l3 :: l4 :: l5 :: l6 :: l7 :: l8 :: l9 :: l10 :: some (.long x) :: l) (st) h = wps rm K Q c_M_fitCircle_410 kc ks (l0 :: l1 :: l2 :: l3 :: l4 :: l5 :: l6 :: l7 :: l8 :: l9 :: l10 :: some (.long x) :: l) (.long x :: st) h := gk_lload rfl
theorem s_M_fitCircle_410 {x y : Int64} : wps rm K Q c_M_fitCircle_410 kc ks loc (.long y :: .long x :: st) h = wps rm K Q c_M_fitCircle_411 kc ks loc (.long (x * y) :: st) h := gk_lmul
theorem s_M_fitCircle_411 {x : Int64} {l0 l1 l2 l3 l4 l5 l6 l7 l8 l9 l10 l11 l12 : Option Value} {l : eg_Lo} : wps rm K Q c_M_fitCircle_411 kc ks (l0 :: l1 :: l2 :: l3 :: l4 :: l5 :: l6 :: l7 :: l8 :: l9 :: l10 :: l11 :: l12 :: some (.long x) :: l) (st) h = wps rm K Q c_M_fitCircle_413 kc ks (l0 :: l1 :: l2 :: l3 :: l4 :: l5 :: l6 :: l7 :: l8 :: l9 :: l10 :: l11 :: l12 :: some (.long x) :: l) (.long x :: st) h := gk_lload rfl
theorem s_M_fitCircle_413 {x : Int64} {l0 l1 l2 l3 l4 l5 l6 l7 l8 l9 l10 l11 l12 : Option Value} {l : eg_Lo} : wps rm K Q c_M_fitCircle_413 kc ks (l0 :: l1 :: l2 :: l3 :: l4 :: l5 :: l6 :: l7 :: l8 :: l9 :: l10 :: l11 :: l12 :: some (.long x) :: l) (st) h = wps rm K Q c_M_fitCircle_415 kc ks (l0 :: l1 :: l2 :: l3 :: l4 :: l5 :: l6 :: l7 :: l8 :: l9 :: l10 :: l11 :: l12 :: some (.long x) :: l) (.long x :: st) h := gk_lload rfl
theorem s_M_fitCircle_415 {x y : Int64} : wps rm K Q c_M_fitCircle_415 kc ks loc (.long y :: .long x :: st) h = wps rm K Q c_M_fitCircle_416 kc ks loc (.long (x * y) :: st) h := gk_lmul
theorem s_M_fitCircle_416 {x y : Int64} : wps rm K Q c_M_fitCircle_416 kc ks loc (.long y :: .long x :: st) h = wps rm K Q c_M_fitCircle_417 kc ks loc (.long (x + y) :: st) h := gk_ladd
theorem s_M_fitCircle_417  : wps rm K Q c_M_fitCircle_417 kc ks loc (st) h = wps rm K Q c_M_fitCircle_420 kc ks loc (.long (4) :: st) h := gk_lc (by decide)
theorem s_M_fitCircle_420  {a1 : Value} {a2 : Value} {a3 : Value} {x : Nat} : wps rm K Q c_M_fitCircle_420 kc ks loc (a3 :: a2 :: a1 :: .ref (x + 1) :: st) h = (eg_cls h x 12 ∧ st.length ≤ 4 ∧ eg_Cs n_M_keepMiss (.ref (x + 1) :: [a1, a2, a3]) h (fun v h9 => wps rm K Q c_M_fitCircle_423 kc ks loc (v.toList ++ st) h9)) := eg_c1_3
theorem s_M_fitCircle_423 {x : Nat} {l : eg_Lo} : wps rm K Q c_M_fitCircle_423 kc ks (some (.ref x) :: l) (st) h = wps rm K Q c_M_fitCircle_424 kc ks (some (.ref x) :: l) (.ref x :: st) h := gk_aload rfl
theorem s_M_fitCircle_424 {x : Int32} {l0 : Option Value} {l : eg_Lo} : wps rm K Q c_M_fitCircle_424 kc ks (l0 :: some (.int x) :: l) (st) h = wps rm K Q c_M_fitCircle_425 kc ks (l0 :: some (.int x) :: l) (.int x :: st) h := gk_iload rfl
theorem s_M_fitCircle_425 {x : Nat} {l : eg_Lo} : wps rm K Q c_M_fitCircle_425 kc ks (some (.ref x) :: l) (st) h = wps rm K Q c_M_fitCircle_426 kc ks (some (.ref x) :: l) (.ref x :: st) h := gk_aload rfl
theorem s_M_fitCircle_426 {x : Nat} : wps rm K Q c_M_fitCircle_426 kc ks loc (.ref (x + 1) :: st) h = eg_gf h x 12 1 (fun v => wps rm K Q c_M_fitCircle_429 kc ks loc (v :: st) h) := gk_gf
theorem s_M_fitCircle_429 {x : Int32} {l0 l1 l2 l3 l4 l5 l6 l7 : Option Value} {l : eg_Lo} : wps rm K Q c_M_fitCircle_429 kc ks (l0 :: l1 :: l2 :: l3 :: l4 :: l5 :: l6 :: l7 :: some (.int x) :: l) (st) h = wps rm K Q c_M_fitCircle_431 kc ks (l0 :: l1 :: l2 :: l3 :: l4 :: l5 :: l6 :: l7 :: some (.int x) :: l) (.int x :: st) h := gk_iload rfl
theorem s_M_fitCircle_431 {x : Nat} {i : Int32} : wps rm K Q c_M_fitCircle_431 kc ks loc (.int i :: .ref (x + 1) :: st) h = eg_ia h x i (fun v => wps rm K Q c_M_fitCircle_432 kc ks loc (.int v :: st) h) := gk_iaload
theorem s_M_fitCircle_432 {x : Nat} {l : eg_Lo} : wps rm K Q c_M_fitCircle_432 kc ks (some (.ref x) :: l) (st) h = wps rm K Q c_M_fitCircle_433 kc ks (some (.ref x) :: l) (.ref x :: st) h := gk_aload rfl
theorem s_M_fitCircle_433 {x : Nat} : wps rm K Q c_M_fitCircle_433 kc ks loc (.ref (x + 1) :: st) h = eg_gf h x 12 1 (fun v => wps rm K Q c_M_fitCircle_436 kc ks loc (v :: st) h) := gk_gf
theorem s_M_fitCircle_436 {x : Int32} {l0 l1 l2 l3 l4 l5 l6 l7 l8 : Option Value} {l : eg_Lo} : wps rm K Q c_M_fitCircle_436 kc ks (l0 :: l1 :: l2 :: l3 :: l4 :: l5 :: l6 :: l7 :: l8 :: some (.int x) :: l) (st) h = wps rm K Q c_M_fitCircle_438 kc ks (l0 :: l1 :: l2 :: l3 :: l4 :: l5 :: l6 :: l7 :: l8 :: some (.int x) :: l) (.int x :: st) h := gk_iload rfl
theorem s_M_fitCircle_438 {x : Nat} {i : Int32} : wps rm K Q c_M_fitCircle_438 kc ks loc (.int i :: .ref (x + 1) :: st) h = eg_ia h x i (fun v => wps rm K Q c_M_fitCircle_439 kc ks loc (.int v :: st) h) := gk_iaload
theorem s_M_fitCircle_439 {x y : Int32} : wps rm K Q c_M_fitCircle_439 kc ks loc (.int y :: .int x :: st) h = wps rm K Q c_M_fitCircle_440 kc ks loc (.int (x + y) :: st) h := gk_iadd
theorem s_M_fitCircle_440 {x : Int32} : wps rm K Q c_M_fitCircle_440 kc ks loc (.int x :: st) h = wps rm K Q c_M_fitCircle_441 kc ks loc (.long (x.toInt64) :: st) h := gk_i2l
theorem s_M_fitCircle_441 {x : Nat} {l : eg_Lo} : wps rm K Q c_M_fitCircle_441 kc ks (some (.ref x) :: l) (st) h = wps rm K Q c_M_fitCircle_442 kc ks (some (.ref x) :: l) (.ref x :: st) h := gk_aload rfl
theorem s_M_fitCircle_442 {x : Nat} : wps rm K Q c_M_fitCircle_442 kc ks loc (.ref (x + 1) :: st) h = eg_gf h x 12 2 (fun v => wps rm K Q c_M_fitCircle_445 kc ks loc (v :: st) h) := gk_gf
theorem s_M_fitCircle_445 {x : Int32} {l0 l1 l2 l3 l4 l5 l6 l7 : Option Value} {l : eg_Lo} : wps rm K Q c_M_fitCircle_445 kc ks (l0 :: l1 :: l2 :: l3 :: l4 :: l5 :: l6 :: l7 :: some (.int x) :: l) (st) h = wps rm K Q c_M_fitCircle_447 kc ks (l0 :: l1 :: l2 :: l3 :: l4 :: l5 :: l6 :: l7 :: some (.int x) :: l) (.int x :: st) h := gk_iload rfl
theorem s_M_fitCircle_447 {x : Nat} {i : Int32} : wps rm K Q c_M_fitCircle_447 kc ks loc (.int i :: .ref (x + 1) :: st) h = eg_ia h x i (fun v => wps rm K Q c_M_fitCircle_448 kc ks loc (.int v :: st) h) := gk_iaload
theorem s_M_fitCircle_448 {x : Nat} {l : eg_Lo} : wps rm K Q c_M_fitCircle_448 kc ks (some (.ref x) :: l) (st) h = wps rm K Q c_M_fitCircle_449 kc ks (some (.ref x) :: l) (.ref x :: st) h := gk_aload rfl
theorem s_M_fitCircle_449 {x : Nat} : wps rm K Q c_M_fitCircle_449 kc ks loc (.ref (x + 1) :: st) h = eg_gf h x 12 2 (fun v => wps rm K Q c_M_fitCircle_452 kc ks loc (v :: st) h) := gk_gf
theorem s_M_fitCircle_452 {x : Int32} {l0 l1 l2 l3 l4 l5 l6 l7 l8 : Option Value} {l : eg_Lo} : wps rm K Q c_M_fitCircle_452 kc ks (l0 :: l1 :: l2 :: l3 :: l4 :: l5 :: l6 :: l7 :: l8 :: some (.int x) :: l) (st) h = wps rm K Q c_M_fitCircle_454 kc ks (l0 :: l1 :: l2 :: l3 :: l4 :: l5 :: l6 :: l7 :: l8 :: some (.int x) :: l) (.int x :: st) h := gk_iload rfl
theorem s_M_fitCircle_454 {x : Nat} {i : Int32} : wps rm K Q c_M_fitCircle_454 kc ks loc (.int i :: .ref (x + 1) :: st) h = eg_ia h x i (fun v => wps rm K Q c_M_fitCircle_455 kc ks loc (.int v :: st) h) := gk_iaload
theorem s_M_fitCircle_455 {x y : Int32} : wps rm K Q c_M_fitCircle_455 kc ks loc (.int y :: .int x :: st) h = wps rm K Q c_M_fitCircle_456 kc ks loc (.int (x + y) :: st) h := gk_iadd
theorem s_M_fitCircle_456 {x : Int32} : wps rm K Q c_M_fitCircle_456 kc ks loc (.int x :: st) h = wps rm K Q c_M_fitCircle_457 kc ks loc (.long (x.toInt64) :: st) h := gk_i2l
theorem s_M_fitCircle_457  : wps rm K Q c_M_fitCircle_457 kc ks loc (st) h = wps rm K Q c_M_fitCircle_460 kc ks loc (.long (2) :: st) h := gk_lc (by decide)
theorem s_M_fitCircle_460  {a1 : Value} {a2 : Value} {a3 : Value} {a4 : Value} {x : Nat} : wps rm K Q c_M_fitCircle_460 kc ks loc (a4 :: a3 :: a2 :: a1 :: .ref (x + 1) :: st) h = (eg_cls h x 12 ∧ st.length ≤ 4 ∧ eg_Cs n_M_keepMiddle (.ref (x + 1) :: [a1, a2, a3, a4]) h (fun v h9 => wps rm K Q c_M_fitCircle_463 kc ks loc (v.toList ++ st) h9)) := eg_c1_4
theorem s_M_fitCircle_463  : wps rm K Q c_M_fitCircle_463 kc ks loc (st) h = wps rm K Q c_M_fitCircle_466 kc ks loc (.long (2) :: st) h := gk_lc (by decide)
theorem s_M_fitCircle_466 {x : Int64} : wps rm K Q c_M_fitCircle_466 kc ks loc ([.long x]) h = (kc = rm.cells ∧ Q (some (.long x)) h) := gk_lret
theorem s_M_fitCircle_467 {x : Int32} {l0 l1 l2 l3 l4 l5 l6 : Option Value} {lz : eg_Lo} : wps rm K Q c_M_fitCircle_467 kc ks (l0 :: l1 :: l2 :: l3 :: l4 :: l5 :: l6 :: some (.int x) :: lz) (st) h = wps rm K Q c_M_fitCircle_470 kc ks (eg_set1 (l0 :: l1 :: l2 :: l3 :: l4 :: l5 :: l6 :: some (.int x) :: lz) 7 (.int (x + (1)))) (st) h := gk_iinc rfl (by decide)
theorem s_M_fitCircle_470  : wps rm K Q c_M_fitCircle_470 kc ks loc (st) h = K 230 kc ks loc st h := gk_goto
theorem s_M_fitCircle_473 {x : Int32} {l0 l1 l2 l3 l4 l5 : Option Value} {lz : eg_Lo} : wps rm K Q c_M_fitCircle_473 kc ks (l0 :: l1 :: l2 :: l3 :: l4 :: l5 :: some (.int x) :: lz) (st) h = wps rm K Q c_M_fitCircle_476 kc ks (eg_set1 (l0 :: l1 :: l2 :: l3 :: l4 :: l5 :: some (.int x) :: lz) 6 (.int (x + (1)))) (st) h := gk_iinc rfl (by decide)
theorem s_M_fitCircle_476  : wps rm K Q c_M_fitCircle_476 kc ks loc (st) h = K 218 kc ks loc st h := gk_goto
theorem s_M_fitCircle_479 {x : Nat} {l : eg_Lo} : wps rm K Q c_M_fitCircle_479 kc ks (some (.ref x) :: l) (st) h = wps rm K Q c_M_fitCircle_480 kc ks (some (.ref x) :: l) (.ref x :: st) h := gk_aload rfl
theorem s_M_fitCircle_480 {x : Int32} {l0 : Option Value} {l : eg_Lo} : wps rm K Q c_M_fitCircle_480 kc ks (l0 :: some (.int x) :: l) (st) h = wps rm K Q c_M_fitCircle_481 kc ks (l0 :: some (.int x) :: l) (.int x :: st) h := gk_iload rfl
theorem s_M_fitCircle_481 {x : Int32} {l0 l1 : Option Value} {l : eg_Lo} : wps rm K Q c_M_fitCircle_481 kc ks (l0 :: l1 :: some (.int x) :: l) (st) h = wps rm K Q c_M_fitCircle_482 kc ks (l0 :: l1 :: some (.int x) :: l) (.int x :: st) h := gk_iload rfl
theorem s_M_fitCircle_482  {a1 : Value} {a2 : Value} {x : Nat} : wps rm K Q c_M_fitCircle_482 kc ks loc (a2 :: a1 :: .ref (x + 1) :: st) h = (eg_cls h x 12 ∧ st.length ≤ 4 ∧ eg_Cs n_M_circleOfThree (.ref (x + 1) :: [a1, a2]) h (fun v h9 => wps rm K Q c_M_fitCircle_485 kc ks loc (v.toList ++ st) h9)) := eg_c1_2
theorem s_M_fitCircle_485 {x : Int64} : wps rm K Q c_M_fitCircle_485 kc ks loc ([.long x]) h = (kc = rm.cells ∧ Q (some (.long x)) h) := gk_lret
theorem sz_M_fitCircle_18 : wps rm K Q z_M_fitCircle_18 kc ks loc st h = K 18 kc ks loc st h := gk_nop
theorem sz_M_fitCircle_64 : wps rm K Q z_M_fitCircle_64 kc ks loc st h = K 64 kc ks loc st h := gk_nop
theorem sz_M_fitCircle_218 : wps rm K Q z_M_fitCircle_218 kc ks loc st h = K 218 kc ks loc st h := gk_nop
theorem sz_M_fitCircle_230 : wps rm K Q z_M_fitCircle_230 kc ks loc st h = K 230 kc ks loc st h := gk_nop
def T_M_fitCircle : List (Nat × List eg_I) := [(38, c_M_fitCircle_38), (40, c_M_fitCircle_40), (48, c_M_fitCircle_48), (61, c_M_fitCircle_61), (132, c_M_fitCircle_132), (136, c_M_fitCircle_136), (137, c_M_fitCircle_137), (146, c_M_fitCircle_146), (215, c_M_fitCircle_215), (306, c_M_fitCircle_306), (310, c_M_fitCircle_310), (311, c_M_fitCircle_311), (467, c_M_fitCircle_467), (473, c_M_fitCircle_473), (479, c_M_fitCircle_479)]
theorem j_M_fitCircle_38 {R : Nat → Nat → Nat → eg_Lo → List Value → List eg_E → Prop} {f pc0 : Nat} : eg_run rm R Q T_M_fitCircle (f + 1) 38 kc ks loc st h = wps rm (eg_run rm R Q T_M_fitCircle f) Q c_M_fitCircle_38 kc ks loc st h := rfl
theorem j_M_fitCircle_40 {R : Nat → Nat → Nat → eg_Lo → List Value → List eg_E → Prop} {f pc0 : Nat} : eg_run rm R Q T_M_fitCircle (f + 1) 40 kc ks loc st h = wps rm (eg_run rm R Q T_M_fitCircle f) Q c_M_fitCircle_40 kc ks loc st h := rfl
theorem j_M_fitCircle_48 {R : Nat → Nat → Nat → eg_Lo → List Value → List eg_E → Prop} {f pc0 : Nat} : eg_run rm R Q T_M_fitCircle (f + 1) 48 kc ks loc st h = wps rm (eg_run rm R Q T_M_fitCircle f) Q c_M_fitCircle_48 kc ks loc st h := rfl
theorem j_M_fitCircle_61 {R : Nat → Nat → Nat → eg_Lo → List Value → List eg_E → Prop} {f pc0 : Nat} : eg_run rm R Q T_M_fitCircle (f + 1) 61 kc ks loc st h = wps rm (eg_run rm R Q T_M_fitCircle f) Q c_M_fitCircle_61 kc ks loc st h := rfl
theorem j_M_fitCircle_132 {R : Nat → Nat → Nat → eg_Lo → List Value → List eg_E → Prop} {f pc0 : Nat} : eg_run rm R Q T_M_fitCircle (f + 1) 132 kc ks loc st h = wps rm (eg_run rm R Q T_M_fitCircle f) Q c_M_fitCircle_132 kc ks loc st h := rfl
theorem j_M_fitCircle_136 {R : Nat → Nat → Nat → eg_Lo → List Value → List eg_E → Prop} {f pc0 : Nat} : eg_run rm R Q T_M_fitCircle (f + 1) 136 kc ks loc st h = wps rm (eg_run rm R Q T_M_fitCircle f) Q c_M_fitCircle_136 kc ks loc st h := rfl
theorem j_M_fitCircle_137 {R : Nat → Nat → Nat → eg_Lo → List Value → List eg_E → Prop} {f pc0 : Nat} : eg_run rm R Q T_M_fitCircle (f + 1) 137 kc ks loc st h = wps rm (eg_run rm R Q T_M_fitCircle f) Q c_M_fitCircle_137 kc ks loc st h := rfl
theorem j_M_fitCircle_146 {R : Nat → Nat → Nat → eg_Lo → List Value → List eg_E → Prop} {f pc0 : Nat} : eg_run rm R Q T_M_fitCircle (f + 1) 146 kc ks loc st h = wps rm (eg_run rm R Q T_M_fitCircle f) Q c_M_fitCircle_146 kc ks loc st h := rfl
theorem j_M_fitCircle_215 {R : Nat → Nat → Nat → eg_Lo → List Value → List eg_E → Prop} {f pc0 : Nat} : eg_run rm R Q T_M_fitCircle (f + 1) 215 kc ks loc st h = wps rm (eg_run rm R Q T_M_fitCircle f) Q c_M_fitCircle_215 kc ks loc st h := rfl
theorem j_M_fitCircle_306 {R : Nat → Nat → Nat → eg_Lo → List Value → List eg_E → Prop} {f pc0 : Nat} : eg_run rm R Q T_M_fitCircle (f + 1) 306 kc ks loc st h = wps rm (eg_run rm R Q T_M_fitCircle f) Q c_M_fitCircle_306 kc ks loc st h := rfl
theorem j_M_fitCircle_310 {R : Nat → Nat → Nat → eg_Lo → List Value → List eg_E → Prop} {f pc0 : Nat} : eg_run rm R Q T_M_fitCircle (f + 1) 310 kc ks loc st h = wps rm (eg_run rm R Q T_M_fitCircle f) Q c_M_fitCircle_310 kc ks loc st h := rfl
theorem j_M_fitCircle_311 {R : Nat → Nat → Nat → eg_Lo → List Value → List eg_E → Prop} {f pc0 : Nat} : eg_run rm R Q T_M_fitCircle (f + 1) 311 kc ks loc st h = wps rm (eg_run rm R Q T_M_fitCircle f) Q c_M_fitCircle_311 kc ks loc st h := rfl
theorem j_M_fitCircle_467 {R : Nat → Nat → Nat → eg_Lo → List Value → List eg_E → Prop} {f pc0 : Nat} : eg_run rm R Q T_M_fitCircle (f + 1) 467 kc ks loc st h = wps rm (eg_run rm R Q T_M_fitCircle f) Q c_M_fitCircle_467 kc ks loc st h := rfl
theorem j_M_fitCircle_473 {R : Nat → Nat → Nat → eg_Lo → List Value → List eg_E → Prop} {f pc0 : Nat} : eg_run rm R Q T_M_fitCircle (f + 1) 473 kc ks loc st h = wps rm (eg_run rm R Q T_M_fitCircle f) Q c_M_fitCircle_473 kc ks loc st h := rfl
theorem j_M_fitCircle_479 {R : Nat → Nat → Nat → eg_Lo → List Value → List eg_E → Prop} {f pc0 : Nat} : eg_run rm R Q T_M_fitCircle (f + 1) 479 kc ks loc st h = wps rm (eg_run rm R Q T_M_fitCircle f) Q c_M_fitCircle_479 kc ks loc st h := rfl
theorem j_M_fitCircle_18 {R : Nat → Nat → Nat → eg_Lo → List Value → List eg_E → Prop} {f pc0 : Nat} : eg_run rm R Q T_M_fitCircle (f + 1) 18 kc ks loc st h = R 18 kc ks loc st h := rfl
theorem j_M_fitCircle_64 {R : Nat → Nat → Nat → eg_Lo → List Value → List eg_E → Prop} {f pc0 : Nat} : eg_run rm R Q T_M_fitCircle (f + 1) 64 kc ks loc st h = R 64 kc ks loc st h := rfl
theorem j_M_fitCircle_218 {R : Nat → Nat → Nat → eg_Lo → List Value → List eg_E → Prop} {f pc0 : Nat} : eg_run rm R Q T_M_fitCircle (f + 1) 218 kc ks loc st h = R 218 kc ks loc st h := rfl
theorem j_M_fitCircle_230 {R : Nat → Nat → Nat → eg_Lo → List Value → List eg_E → Prop} {f pc0 : Nat} : eg_run rm R Q T_M_fitCircle (f + 1) 230 kc ks loc st h = R 230 kc ks loc st h := rfl
end
theorem y_M_fitCircle_0 : eg_seq m_M_fitCircle 0 c_M_fitCircle_0 = true := by decide +kernel
theorem y_M_fitCircle_18 : eg_seq m_M_fitCircle 18 c_M_fitCircle_18 = true := by decide +kernel
theorem y_M_fitCircle_38 : eg_seq m_M_fitCircle 38 c_M_fitCircle_38 = true := by decide +kernel
theorem y_M_fitCircle_48 : eg_seq m_M_fitCircle 48 c_M_fitCircle_48 = true := by decide +kernel
theorem y_M_fitCircle_61 : eg_seq m_M_fitCircle 61 c_M_fitCircle_61 = true := by decide +kernel
theorem y_M_fitCircle_64 : eg_seq m_M_fitCircle 64 c_M_fitCircle_64 = true := by decide +kernel
theorem y_M_fitCircle_136 : eg_seq m_M_fitCircle 136 c_M_fitCircle_136 = true := by decide +kernel
theorem y_M_fitCircle_146 : eg_seq m_M_fitCircle 146 c_M_fitCircle_146 = true := by decide +kernel
theorem y_M_fitCircle_215 : eg_seq m_M_fitCircle 215 c_M_fitCircle_215 = true := by decide +kernel
theorem y_M_fitCircle_218 : eg_seq m_M_fitCircle 218 c_M_fitCircle_218 = true := by decide +kernel
theorem y_M_fitCircle_230 : eg_seq m_M_fitCircle 230 c_M_fitCircle_230 = true := by decide +kernel
theorem y_M_fitCircle_310 : eg_seq m_M_fitCircle 310 c_M_fitCircle_310 = true := by decide +kernel
theorem y_M_fitCircle_467 : eg_seq m_M_fitCircle 467 c_M_fitCircle_467 = true := by decide +kernel
theorem y_M_fitCircle_473 : eg_seq m_M_fitCircle 473 c_M_fitCircle_473 = true := by decide +kernel
theorem y_M_fitCircle_479 : eg_seq m_M_fitCircle 479 c_M_fitCircle_479 = true := by decide +kernel
theorem q_M_fitCircle : ∀ q ∈ T_M_fitCircle, eg_seq m_M_fitCircle q.1 q.2 = true := by
  intro q hq
  simp only [T_M_fitCircle, List.mem_cons, List.not_mem_nil, or_false] at hq
  rcases hq with rfl | rfl | rfl | rfl | rfl | rfl | rfl | rfl | rfl | rfl | rfl | rfl | rfl | rfl | rfl
  · exact y_M_fitCircle_38
  · exact (eg_seq_drop y_M_fitCircle_38 1 : eg_seq m_M_fitCircle 40 c_M_fitCircle_40 = true)
  · exact y_M_fitCircle_48
  · exact y_M_fitCircle_61
  · exact (eg_seq_drop y_M_fitCircle_64 35 : eg_seq m_M_fitCircle 132 c_M_fitCircle_132 = true)
  · exact y_M_fitCircle_136
  · exact (eg_seq_drop y_M_fitCircle_136 1 : eg_seq m_M_fitCircle 137 c_M_fitCircle_137 = true)
  · exact y_M_fitCircle_146
  · exact y_M_fitCircle_215
  · exact (eg_seq_drop y_M_fitCircle_230 39 : eg_seq m_M_fitCircle 306 c_M_fitCircle_306 = true)
  · exact y_M_fitCircle_310
  · exact (eg_seq_drop y_M_fitCircle_310 1 : eg_seq m_M_fitCircle 311 c_M_fitCircle_311 = true)
  · exact y_M_fitCircle_467
  · exact y_M_fitCircle_473
  · exact y_M_fitCircle_479
theorem md_M_fitCircle : eg_md n_M_fitCircle = m_M_fitCircle := rfl
theorem mn_M_fitCircle : n_M_fitCircle < 202 := Nat.le_of_ble_eq_true rfl
theorem b_M_fitCircle {as : List Value} {h : List eg_E} {Q : Option Value → List eg_E → Prop} (hf : (eg_fl as).length ≤ 15) : wps (eg_rm m_M_fitCircle) (eg_run (eg_rm m_M_fitCircle) (eg_R m_M_fitCircle Q (h.length + 0)) Q T_M_fitCircle 17) Q c_M_fitCircle_0 0 0 (eg_entry 15 as) [] h → eg_Runs n_M_fitCircle as h Q := eg_begin2 md_M_fitCircle mn_M_fitCircle y_M_fitCircle_0 q_M_fitCircle hf
theorem p_M_fitCircle_18 {Q : Option Value → List eg_E → Prop} {n0 kc ks : Nat} {loc : eg_Lo} {st : List Value} {h : List eg_E} : wps (eg_rm m_M_fitCircle) (eg_run (eg_rm m_M_fitCircle) (eg_R m_M_fitCircle Q n0) Q T_M_fitCircle 17) Q c_M_fitCircle_18 kc ks loc st h → eg_R m_M_fitCircle Q n0 18 kc ks loc st h := eg_go2 y_M_fitCircle_18 q_M_fitCircle
theorem p_M_fitCircle_64 {Q : Option Value → List eg_E → Prop} {n0 kc ks : Nat} {loc : eg_Lo} {st : List Value} {h : List eg_E} : wps (eg_rm m_M_fitCircle) (eg_run (eg_rm m_M_fitCircle) (eg_R m_M_fitCircle Q n0) Q T_M_fitCircle 17) Q c_M_fitCircle_64 kc ks loc st h → eg_R m_M_fitCircle Q n0 64 kc ks loc st h := eg_go2 y_M_fitCircle_64 q_M_fitCircle
theorem p_M_fitCircle_218 {Q : Option Value → List eg_E → Prop} {n0 kc ks : Nat} {loc : eg_Lo} {st : List Value} {h : List eg_E} : wps (eg_rm m_M_fitCircle) (eg_run (eg_rm m_M_fitCircle) (eg_R m_M_fitCircle Q n0) Q T_M_fitCircle 17) Q c_M_fitCircle_218 kc ks loc st h → eg_R m_M_fitCircle Q n0 218 kc ks loc st h := eg_go2 y_M_fitCircle_218 q_M_fitCircle
theorem p_M_fitCircle_230 {Q : Option Value → List eg_E → Prop} {n0 kc ks : Nat} {loc : eg_Lo} {st : List Value} {h : List eg_E} : wps (eg_rm m_M_fitCircle) (eg_run (eg_rm m_M_fitCircle) (eg_R m_M_fitCircle Q n0) Q T_M_fitCircle 17) Q c_M_fitCircle_230 kc ks loc st h → eg_R m_M_fitCircle Q n0 230 kc ks loc st h := eg_go2 y_M_fitCircle_230 q_M_fitCircle
/-! ===== M_circleOfThree ===== -/
def z_M_circleOfThree_13 : List eg_I := [.inl (13, 0, .nop, 0, 0)]
def z_M_circleOfThree_30 : List eg_I := [.inl (30, 0, .nop, 0, 0)]
def z_M_circleOfThree_47 : List eg_I := [.inl (47, 0, .nop, 0, 0)]
def z_M_circleOfThree_218 : List eg_I := [.inl (218, 0, .nop, 0, 0)]
def z_M_circleOfThree_258 : List eg_I := [.inl (258, 0, .nop, 0, 0)]
def c_M_circleOfThree_464 : List eg_I := .inl (464, 1, .lreturn, 0, 0) :: []
def c_M_circleOfThree_461 : List eg_I := .inl (461, 3, .sipush (3), 253, 0) :: c_M_circleOfThree_464
def c_M_circleOfThree_458 : List eg_I := .inr (458, 1, 231, n_M_keepMiddle, 4, 12, 0, 0) :: c_M_circleOfThree_461
def c_M_circleOfThree_455 : List eg_I := .inl (455, 3, .getfield 218, 12, 36) :: c_M_circleOfThree_458
def c_M_circleOfThree_454 : List eg_I := .inl (454, 1, .aload 0, 0, 0) :: c_M_circleOfThree_455
def c_M_circleOfThree_453 : List eg_I := .inl (453, 1, .ladd, 0, 0) :: c_M_circleOfThree_454
def c_M_circleOfThree_450 : List eg_I := .inl (450, 3, .getfield 224, 12, 35) :: c_M_circleOfThree_453
def c_M_circleOfThree_449 : List eg_I := .inl (449, 1, .aload 0, 0, 0) :: c_M_circleOfThree_450
def c_M_circleOfThree_448 : List eg_I := .inl (448, 1, .lmul, 0, 0) :: c_M_circleOfThree_449
def c_M_circleOfThree_445 : List eg_I := .inl (445, 3, .getfield 218, 12, 36) :: c_M_circleOfThree_448
def c_M_circleOfThree_444 : List eg_I := .inl (444, 1, .aload 0, 0, 0) :: c_M_circleOfThree_445
def c_M_circleOfThree_443 : List eg_I := .inl (443, 1, .i2l, 0, 0) :: c_M_circleOfThree_444
def c_M_circleOfThree_442 : List eg_I := .inl (442, 1, .iaload, 0, 0) :: c_M_circleOfThree_443
def c_M_circleOfThree_439 : List eg_I := .inr (439, 0, 103, n_M_at_II, 2, 12, 0, 0) :: c_M_circleOfThree_442
def c_M_circleOfThree_437 : List eg_I := .inl (437, 2, .iload 4, 0, 0) :: c_M_circleOfThree_439
def c_M_circleOfThree_436 : List eg_I := .inl (436, 1, .iload 2, 0, 0) :: c_M_circleOfThree_437
def c_M_circleOfThree_433 : List eg_I := .inl (433, 3, .getfield 16, 12, 2) :: c_M_circleOfThree_436
def c_M_circleOfThree_432 : List eg_I := .inl (432, 1, .aload 0, 0, 0) :: c_M_circleOfThree_433
def c_M_circleOfThree_431 : List eg_I := .inl (431, 1, .ladd, 0, 0) :: c_M_circleOfThree_432
def c_M_circleOfThree_428 : List eg_I := .inl (428, 3, .getfield 221, 12, 34) :: c_M_circleOfThree_431
def c_M_circleOfThree_427 : List eg_I := .inl (427, 1, .aload 0, 0, 0) :: c_M_circleOfThree_428
def c_M_circleOfThree_426 : List eg_I := .inl (426, 1, .lmul, 0, 0) :: c_M_circleOfThree_427
def c_M_circleOfThree_423 : List eg_I := .inl (423, 3, .getfield 218, 12, 36) :: c_M_circleOfThree_426
def c_M_circleOfThree_422 : List eg_I := .inl (422, 1, .aload 0, 0, 0) :: c_M_circleOfThree_423
def c_M_circleOfThree_421 : List eg_I := .inl (421, 1, .i2l, 0, 0) :: c_M_circleOfThree_422
def c_M_circleOfThree_420 : List eg_I := .inl (420, 1, .iaload, 0, 0) :: c_M_circleOfThree_421
def c_M_circleOfThree_417 : List eg_I := .inr (417, 0, 103, n_M_at_II, 2, 12, 0, 0) :: c_M_circleOfThree_420
def c_M_circleOfThree_415 : List eg_I := .inl (415, 2, .iload 4, 0, 0) :: c_M_circleOfThree_417
def c_M_circleOfThree_414 : List eg_I := .inl (414, 1, .iload 2, 0, 0) :: c_M_circleOfThree_415
def c_M_circleOfThree_411 : List eg_I := .inl (411, 3, .getfield 13, 12, 1) :: c_M_circleOfThree_414
def c_M_circleOfThree_410 : List eg_I := .inl (410, 1, .aload 0, 0, 0) :: c_M_circleOfThree_411
def c_M_circleOfThree_409 : List eg_I := .inl (409, 1, .iload 1, 0, 0) :: c_M_circleOfThree_410
def c_M_circleOfThree_408 : List eg_I := .inl (408, 1, .aload 0, 0, 0) :: c_M_circleOfThree_409
def c_M_circleOfThree_405 : List eg_I := .inr (405, 1, 196, n_M_keepMiss, 3, 12, 0, 0) :: c_M_circleOfThree_408
def c_M_circleOfThree_404 : List eg_I := .inl (404, 1, .lmul, 0, 0) :: c_M_circleOfThree_405
def c_M_circleOfThree_401 : List eg_I := .inl (401, 3, .getfield 218, 12, 36) :: c_M_circleOfThree_404
def c_M_circleOfThree_400 : List eg_I := .inl (400, 1, .aload 0, 0, 0) :: c_M_circleOfThree_401
def c_M_circleOfThree_397 : List eg_I := .inl (397, 3, .getfield 218, 12, 36) :: c_M_circleOfThree_400
def c_M_circleOfThree_396 : List eg_I := .inl (396, 1, .aload 0, 0, 0) :: c_M_circleOfThree_397
def c_M_circleOfThree_395 : List eg_I := .inl (395, 1, .ladd, 0, 0) :: c_M_circleOfThree_396
def c_M_circleOfThree_394 : List eg_I := .inl (394, 1, .lmul, 0, 0) :: c_M_circleOfThree_395
def c_M_circleOfThree_391 : List eg_I := .inl (391, 3, .getfield 224, 12, 35) :: c_M_circleOfThree_394
def c_M_circleOfThree_390 : List eg_I := .inl (390, 1, .aload 0, 0, 0) :: c_M_circleOfThree_391
def c_M_circleOfThree_387 : List eg_I := .inl (387, 3, .getfield 224, 12, 35) :: c_M_circleOfThree_390
def c_M_circleOfThree_386 : List eg_I := .inl (386, 1, .aload 0, 0, 0) :: c_M_circleOfThree_387
def c_M_circleOfThree_385 : List eg_I := .inl (385, 1, .lmul, 0, 0) :: c_M_circleOfThree_386
def c_M_circleOfThree_382 : List eg_I := .inl (382, 3, .getfield 221, 12, 34) :: c_M_circleOfThree_385
def c_M_circleOfThree_381 : List eg_I := .inl (381, 1, .aload 0, 0, 0) :: c_M_circleOfThree_382
def c_M_circleOfThree_378 : List eg_I := .inl (378, 3, .getfield 221, 12, 34) :: c_M_circleOfThree_381
def c_M_circleOfThree_377 : List eg_I := .inl (377, 1, .aload 0, 0, 0) :: c_M_circleOfThree_378
def c_M_circleOfThree_376 : List eg_I := .inl (376, 1, .iload 1, 0, 0) :: c_M_circleOfThree_377
def c_M_circleOfThree_375 : List eg_I := .inl (375, 1, .aload 0, 0, 0) :: c_M_circleOfThree_376
def c_M_circleOfThree_372 : List eg_I := .inl (372, 3, .goto (-154), 218, 0) :: []
def c_M_circleOfThree_369 : List eg_I := .inl (369, 3, .iinc 6 (1), 0, 0) :: c_M_circleOfThree_372
def c_M_circleOfThree_366 : List eg_I := .inl (366, 3, .iinc 5 (1), 0, 0) :: c_M_circleOfThree_369
def c_M_circleOfThree_365 : List eg_I := .inl (365, 1, .iastore, 0, 0) :: c_M_circleOfThree_366
def c_M_circleOfThree_363 : List eg_I := .inl (363, 2, .iload 6, 0, 0) :: c_M_circleOfThree_365
def c_M_circleOfThree_362 : List eg_I := .inl (362, 1, .iadd, 0, 0) :: c_M_circleOfThree_363
def c_M_circleOfThree_360 : List eg_I := .inl (360, 2, .iload 5, 0, 0) :: c_M_circleOfThree_362
def c_M_circleOfThree_359 : List eg_I := .inl (359, 1, .imul, 0, 0) :: c_M_circleOfThree_360
def c_M_circleOfThree_358 : List eg_I := .inl (358, 1, .iload 1, 0, 0) :: c_M_circleOfThree_359
def c_M_circleOfThree_356 : List eg_I := .inl (356, 2, .iconst (6), 0, 0) :: c_M_circleOfThree_358
def c_M_circleOfThree_353 : List eg_I := .inl (353, 3, .getfield 38, 12, 9) :: c_M_circleOfThree_356
def c_M_circleOfThree_352 : List eg_I := .inl (352, 1, .aload 0, 0, 0) :: c_M_circleOfThree_353
def c_M_circleOfThree_349 : List eg_I := .inl (349, 3, .if_icmp .ge (20), 369, 0) :: c_M_circleOfThree_352
def c_M_circleOfThree_348 : List eg_I := .inl (348, 1, .iconst (3), 0, 0) :: c_M_circleOfThree_349
def c_M_circleOfThree_346 : List eg_I := .inl (346, 2, .iload 5, 0, 0) :: c_M_circleOfThree_348
def c_M_circleOfThree_343 : List eg_I := .inl (343, 3, .ifCond .eq (26), 369, 0) :: c_M_circleOfThree_346
def c_M_circleOfThree_341 : List eg_I := .inl (341, 2, .iload 7, 0, 0) :: c_M_circleOfThree_343
def c_M_circleOfThree_338 : List eg_I := .inl (338, 3, .goto (-80), 258, 0) :: []
def c_M_circleOfThree_335 : List eg_I := .inl (335, 3, .iinc 8 (1), 0, 0) :: c_M_circleOfThree_338
def c_M_circleOfThree_333 : List eg_I := .inl (333, 2, .istore 7, 0, 0) :: c_M_circleOfThree_335
def c_M_circleOfThree_332 : List eg_I := .inl (332, 1, .iand, 0, 0) :: c_M_circleOfThree_333
def c_M_circleOfThree_331 : List eg_I := .inl (331, 1, .iconst (0), 0, 0) :: c_M_circleOfThree_332
def c_M_circleOfThree_328 : List eg_I := .inl (328, 3, .goto (4), 332, 0) :: []
def c_M_circleOfThree_327 : List eg_I := .inl (327, 1, .iconst (1), 0, 0) :: c_M_circleOfThree_328
def c_M_circleOfThree_324 : List eg_I := .inl (324, 3, .if_icmp .eq (7), 331, 0) :: c_M_circleOfThree_327
def c_M_circleOfThree_323 : List eg_I := .inl (323, 1, .iaload, 0, 0) :: c_M_circleOfThree_324
def c_M_circleOfThree_320 : List eg_I := .inr (320, 0, 103, n_M_at_II, 2, 12, 0, 0) :: c_M_circleOfThree_323
def c_M_circleOfThree_318 : List eg_I := .inl (318, 2, .iload 6, 0, 0) :: c_M_circleOfThree_320
def c_M_circleOfThree_317 : List eg_I := .inl (317, 1, .iload 2, 0, 0) :: c_M_circleOfThree_318
def c_M_circleOfThree_314 : List eg_I := .inl (314, 3, .getfield 16, 12, 2) :: c_M_circleOfThree_317
def c_M_circleOfThree_313 : List eg_I := .inl (313, 1, .aload 0, 0, 0) :: c_M_circleOfThree_314
def c_M_circleOfThree_312 : List eg_I := .inl (312, 1, .iaload, 0, 0) :: c_M_circleOfThree_313
def c_M_circleOfThree_310 : List eg_I := .inl (310, 2, .iload 9, 0, 0) :: c_M_circleOfThree_312
def c_M_circleOfThree_307 : List eg_I := .inl (307, 3, .getfield 16, 12, 2) :: c_M_circleOfThree_310
def c_M_circleOfThree_306 : List eg_I := .inl (306, 1, .aload 0, 0, 0) :: c_M_circleOfThree_307
def c_M_circleOfThree_303 : List eg_I := .inl (303, 3, .if_icmp .ne (24), 327, 0) :: c_M_circleOfThree_306
def c_M_circleOfThree_302 : List eg_I := .inl (302, 1, .iaload, 0, 0) :: c_M_circleOfThree_303
def c_M_circleOfThree_299 : List eg_I := .inr (299, 0, 103, n_M_at_II, 2, 12, 0, 0) :: c_M_circleOfThree_302
def c_M_circleOfThree_297 : List eg_I := .inl (297, 2, .iload 6, 0, 0) :: c_M_circleOfThree_299
def c_M_circleOfThree_296 : List eg_I := .inl (296, 1, .iload 2, 0, 0) :: c_M_circleOfThree_297
def c_M_circleOfThree_293 : List eg_I := .inl (293, 3, .getfield 13, 12, 1) :: c_M_circleOfThree_296
def c_M_circleOfThree_292 : List eg_I := .inl (292, 1, .aload 0, 0, 0) :: c_M_circleOfThree_293
def c_M_circleOfThree_291 : List eg_I := .inl (291, 1, .iaload, 0, 0) :: c_M_circleOfThree_292
def c_M_circleOfThree_289 : List eg_I := .inl (289, 2, .iload 9, 0, 0) :: c_M_circleOfThree_291
def c_M_circleOfThree_286 : List eg_I := .inl (286, 3, .getfield 13, 12, 1) :: c_M_circleOfThree_289
def c_M_circleOfThree_285 : List eg_I := .inl (285, 1, .aload 0, 0, 0) :: c_M_circleOfThree_286
def c_M_circleOfThree_283 : List eg_I := .inl (283, 2, .iload 7, 0, 0) :: c_M_circleOfThree_285
def c_M_circleOfThree_281 : List eg_I := .inl (281, 2, .istore 9, 0, 0) :: c_M_circleOfThree_283
def c_M_circleOfThree_278 : List eg_I := .inr (278, 0, 103, n_M_at_II, 2, 12, 0, 0) :: c_M_circleOfThree_281
def c_M_circleOfThree_277 : List eg_I := .inl (277, 1, .iaload, 0, 0) :: c_M_circleOfThree_278
def c_M_circleOfThree_276 : List eg_I := .inl (276, 1, .iadd, 0, 0) :: c_M_circleOfThree_277
def c_M_circleOfThree_274 : List eg_I := .inl (274, 2, .iload 8, 0, 0) :: c_M_circleOfThree_276
def c_M_circleOfThree_273 : List eg_I := .inl (273, 1, .imul, 0, 0) :: c_M_circleOfThree_274
def c_M_circleOfThree_272 : List eg_I := .inl (272, 1, .iload 1, 0, 0) :: c_M_circleOfThree_273
def c_M_circleOfThree_270 : List eg_I := .inl (270, 2, .iconst (6), 0, 0) :: c_M_circleOfThree_272
def c_M_circleOfThree_267 : List eg_I := .inl (267, 3, .getfield 38, 12, 9) :: c_M_circleOfThree_270
def c_M_circleOfThree_266 : List eg_I := .inl (266, 1, .aload 0, 0, 0) :: c_M_circleOfThree_267
def c_M_circleOfThree_265 : List eg_I := .inl (265, 1, .iload 2, 0, 0) :: c_M_circleOfThree_266
def c_M_circleOfThree_262 : List eg_I := .inl (262, 3, .if_icmp .ge (79), 341, 0) :: c_M_circleOfThree_265
def c_M_circleOfThree_260 : List eg_I := .inl (260, 2, .iload 5, 0, 0) :: c_M_circleOfThree_262
def c_M_circleOfThree_258 : List eg_I := .inl (258, 2, .iload 8, 0, 0) :: c_M_circleOfThree_260
def c_M_circleOfThree_256 : List eg_I := .inl (256, 2, .istore 8, 0, 0) :: z_M_circleOfThree_258
def c_M_circleOfThree_255 : List eg_I := .inl (255, 1, .iconst (0), 0, 0) :: c_M_circleOfThree_256
def c_M_circleOfThree_253 : List eg_I := .inl (253, 2, .istore 7, 0, 0) :: c_M_circleOfThree_255
def c_M_circleOfThree_252 : List eg_I := .inl (252, 1, .iconst (0), 0, 0) :: c_M_circleOfThree_253
def c_M_circleOfThree_249 : List eg_I := .inl (249, 3, .goto (4), 253, 0) :: []
def c_M_circleOfThree_248 : List eg_I := .inl (248, 1, .iconst (1), 0, 0) :: c_M_circleOfThree_249
def c_M_circleOfThree_245 : List eg_I := .inl (245, 3, .ifCond .ne (7), 252, 0) :: c_M_circleOfThree_248
def c_M_circleOfThree_244 : List eg_I := .inl (244, 1, .lcmp, 0, 0) :: c_M_circleOfThree_245
def c_M_circleOfThree_243 : List eg_I := .inl (243, 1, .sipush (0), 0, 0) :: c_M_circleOfThree_244
def c_M_circleOfThree_240 : List eg_I := .inr (240, 1, 227, n_M_outside, 3, 12, 0, 0) :: c_M_circleOfThree_243
def c_M_circleOfThree_238 : List eg_I := .inl (238, 2, .iload 6, 0, 0) :: c_M_circleOfThree_240
def c_M_circleOfThree_236 : List eg_I := .inl (236, 2, .iload 4, 0, 0) :: c_M_circleOfThree_238
def c_M_circleOfThree_235 : List eg_I := .inl (235, 1, .iload 2, 0, 0) :: c_M_circleOfThree_236
def c_M_circleOfThree_234 : List eg_I := .inl (234, 1, .aload 0, 0, 0) :: c_M_circleOfThree_235
def c_M_circleOfThree_231 : List eg_I := .inl (231, 3, .ifCond .eq (21), 252, 0) :: c_M_circleOfThree_234
def c_M_circleOfThree_228 : List eg_I := .inr (228, 1, 185, n_M_isHere, 2, 12, 0, 0) :: c_M_circleOfThree_231
def c_M_circleOfThree_226 : List eg_I := .inl (226, 2, .iload 6, 0, 0) :: c_M_circleOfThree_228
def c_M_circleOfThree_225 : List eg_I := .inl (225, 1, .iload 2, 0, 0) :: c_M_circleOfThree_226
def c_M_circleOfThree_224 : List eg_I := .inl (224, 1, .aload 0, 0, 0) :: c_M_circleOfThree_225
def c_M_circleOfThree_221 : List eg_I := .inl (221, 3, .if_icmp .ge (154), 375, 0) :: c_M_circleOfThree_224
def c_M_circleOfThree_220 : List eg_I := .inl (220, 1, .iload 3, 0, 0) :: c_M_circleOfThree_221
def c_M_circleOfThree_218 : List eg_I := .inl (218, 2, .iload 6, 0, 0) :: c_M_circleOfThree_220
def c_M_circleOfThree_216 : List eg_I := .inl (216, 2, .istore 6, 0, 0) :: z_M_circleOfThree_218
def c_M_circleOfThree_215 : List eg_I := .inl (215, 1, .iconst (0), 0, 0) :: c_M_circleOfThree_216
def c_M_circleOfThree_213 : List eg_I := .inl (213, 2, .istore 5, 0, 0) :: c_M_circleOfThree_215
def c_M_circleOfThree_212 : List eg_I := .inl (212, 1, .iconst (0), 0, 0) :: c_M_circleOfThree_213
def c_M_circleOfThree_211 : List eg_I := .inl (211, 1, .iastore, 0, 0) :: c_M_circleOfThree_212
def c_M_circleOfThree_210 : List eg_I := .inl (210, 1, .iconst (3), 0, 0) :: c_M_circleOfThree_211
def c_M_circleOfThree_209 : List eg_I := .inl (209, 1, .iload 1, 0, 0) :: c_M_circleOfThree_210
def c_M_circleOfThree_206 : List eg_I := .inl (206, 3, .getfield 35, 12, 8) :: c_M_circleOfThree_209
def c_M_circleOfThree_205 : List eg_I := .inl (205, 1, .aload 0, 0, 0) :: c_M_circleOfThree_206
def c_M_circleOfThree_204 : List eg_I := .inl (204, 1, .iastore, 0, 0) :: c_M_circleOfThree_205
def c_M_circleOfThree_203 : List eg_I := .inl (203, 1, .iconst (5), 0, 0) :: c_M_circleOfThree_204
def c_M_circleOfThree_202 : List eg_I := .inl (202, 1, .iload 1, 0, 0) :: c_M_circleOfThree_203
def c_M_circleOfThree_199 : List eg_I := .inl (199, 3, .getfield 32, 12, 7) :: c_M_circleOfThree_202
def c_M_circleOfThree_198 : List eg_I := .inl (198, 1, .aload 0, 0, 0) :: c_M_circleOfThree_199
def c_M_circleOfThree_195 : List eg_I := .inl (195, 3, .goto (-182), 13, 0) :: []
def c_M_circleOfThree_192 : List eg_I := .inl (192, 3, .iinc 5 (1), 0, 0) :: c_M_circleOfThree_195
def c_M_circleOfThree_189 : List eg_I := .inl (189, 3, .goto (-159), 30, 0) :: []
def c_M_circleOfThree_186 : List eg_I := .inl (186, 3, .iinc 6 (1), 0, 0) :: c_M_circleOfThree_189
def c_M_circleOfThree_183 : List eg_I := .inl (183, 3, .goto (-136), 47, 0) :: []
def c_M_circleOfThree_180 : List eg_I := .inl (180, 3, .iinc 7 (1), 0, 0) :: c_M_circleOfThree_183
def c_M_circleOfThree_178 : List eg_I := .inl (178, 2, .istore 4, 0, 0) :: c_M_circleOfThree_180
def c_M_circleOfThree_177 : List eg_I := .inl (177, 1, .iconst (-1), 0, 0) :: c_M_circleOfThree_178
def c_M_circleOfThree_174 : List eg_I := .inl (174, 3, .goto (4), 178, 0) :: []
def c_M_circleOfThree_172 : List eg_I := .inl (172, 2, .iload 5, 0, 0) :: c_M_circleOfThree_174
def c_M_circleOfThree_169 : List eg_I := .inl (169, 3, .ifCond .eq (8), 177, 0) :: c_M_circleOfThree_172
def c_M_circleOfThree_166 : List eg_I := .inr (166, 1, 250, n_M_hasAll, 2, 12, 0, 0) :: c_M_circleOfThree_169
def c_M_circleOfThree_164 : List eg_I := .inl (164, 2, .iload 5, 0, 0) :: c_M_circleOfThree_166
def c_M_circleOfThree_163 : List eg_I := .inl (163, 1, .iload 2, 0, 0) :: c_M_circleOfThree_164
def c_M_circleOfThree_162 : List eg_I := .inl (162, 1, .aload 0, 0, 0) :: c_M_circleOfThree_163
def c_M_circleOfThree_159 : List eg_I := .inl (159, 3, .ifCond .eq (18), 177, 0) :: c_M_circleOfThree_162
def c_M_circleOfThree_157 : List eg_I := .inl (157, 2, .iload 8, 0, 0) :: c_M_circleOfThree_159
def c_M_circleOfThree_154 : List eg_I := .inl (154, 3, .ifCond .le (23), 177, 0) :: c_M_circleOfThree_157
def c_M_circleOfThree_153 : List eg_I := .inl (153, 1, .lcmp, 0, 0) :: c_M_circleOfThree_154
def c_M_circleOfThree_152 : List eg_I := .inl (152, 1, .sipush (0), 0, 0) :: c_M_circleOfThree_153
def c_M_circleOfThree_149 : List eg_I := .inl (149, 3, .getfield 218, 12, 36) :: c_M_circleOfThree_152
def c_M_circleOfThree_148 : List eg_I := .inl (148, 1, .aload 0, 0, 0) :: c_M_circleOfThree_149
def c_M_circleOfThree_146 : List eg_I := .inl (146, 2, .istore 8, 0, 0) :: c_M_circleOfThree_148
def c_M_circleOfThree_145 : List eg_I := .inl (145, 1, .iconst (0), 0, 0) :: c_M_circleOfThree_146
def c_M_circleOfThree_142 : List eg_I := .inl (142, 3, .goto (4), 146, 0) :: []
def c_M_circleOfThree_141 : List eg_I := .inl (141, 1, .iconst (1), 0, 0) :: c_M_circleOfThree_142
def c_M_circleOfThree_138 : List eg_I := .inl (138, 3, .ifCond .eq (7), 145, 0) :: c_M_circleOfThree_141
def c_M_circleOfThree_135 : List eg_I := .inr (135, 1, 246, n_M_isSharp, 4, 12, 0, 0) :: c_M_circleOfThree_138
def c_M_circleOfThree_133 : List eg_I := .inl (133, 2, .iload 6, 0, 0) :: c_M_circleOfThree_135
def c_M_circleOfThree_131 : List eg_I := .inl (131, 2, .iload 5, 0, 0) :: c_M_circleOfThree_133
def c_M_circleOfThree_129 : List eg_I := .inl (129, 2, .iload 7, 0, 0) :: c_M_circleOfThree_131
def c_M_circleOfThree_128 : List eg_I := .inl (128, 1, .iload 2, 0, 0) :: c_M_circleOfThree_129
def c_M_circleOfThree_127 : List eg_I := .inl (127, 1, .aload 0, 0, 0) :: c_M_circleOfThree_128
def c_M_circleOfThree_124 : List eg_I := .inl (124, 3, .ifCond .eq (21), 145, 0) :: c_M_circleOfThree_127
def c_M_circleOfThree_121 : List eg_I := .inr (121, 1, 246, n_M_isSharp, 4, 12, 0, 0) :: c_M_circleOfThree_124
def c_M_circleOfThree_119 : List eg_I := .inl (119, 2, .iload 7, 0, 0) :: c_M_circleOfThree_121
def c_M_circleOfThree_117 : List eg_I := .inl (117, 2, .iload 5, 0, 0) :: c_M_circleOfThree_119
def c_M_circleOfThree_115 : List eg_I := .inl (115, 2, .iload 6, 0, 0) :: c_M_circleOfThree_117
def c_M_circleOfThree_114 : List eg_I := .inl (114, 1, .iload 2, 0, 0) :: c_M_circleOfThree_115
def c_M_circleOfThree_113 : List eg_I := .inl (113, 1, .aload 0, 0, 0) :: c_M_circleOfThree_114
def c_M_circleOfThree_110 : List eg_I := .inl (110, 3, .ifCond .eq (35), 145, 0) :: c_M_circleOfThree_113
def c_M_circleOfThree_107 : List eg_I := .inr (107, 1, 246, n_M_isSharp, 4, 12, 0, 0) :: c_M_circleOfThree_110
def c_M_circleOfThree_105 : List eg_I := .inl (105, 2, .iload 7, 0, 0) :: c_M_circleOfThree_107
def c_M_circleOfThree_103 : List eg_I := .inl (103, 2, .iload 6, 0, 0) :: c_M_circleOfThree_105
def c_M_circleOfThree_101 : List eg_I := .inl (101, 2, .iload 5, 0, 0) :: c_M_circleOfThree_103
def c_M_circleOfThree_100 : List eg_I := .inl (100, 1, .iload 2, 0, 0) :: c_M_circleOfThree_101
def c_M_circleOfThree_99 : List eg_I := .inl (99, 1, .aload 0, 0, 0) :: c_M_circleOfThree_100
def c_M_circleOfThree_96 : List eg_I := .inr (96, 1, 242, n_M_tellMiddle, 4, 12, 0, 0) :: c_M_circleOfThree_99
def c_M_circleOfThree_94 : List eg_I := .inl (94, 2, .iload 7, 0, 0) :: c_M_circleOfThree_96
def c_M_circleOfThree_92 : List eg_I := .inl (92, 2, .iload 6, 0, 0) :: c_M_circleOfThree_94
def c_M_circleOfThree_90 : List eg_I := .inl (90, 2, .iload 5, 0, 0) :: c_M_circleOfThree_92
def c_M_circleOfThree_89 : List eg_I := .inl (89, 1, .iload 2, 0, 0) :: c_M_circleOfThree_90
def c_M_circleOfThree_88 : List eg_I := .inl (88, 1, .aload 0, 0, 0) :: c_M_circleOfThree_89
def c_M_circleOfThree_85 : List eg_I := .inl (85, 3, .ifCond .eq (95), 180, 0) :: c_M_circleOfThree_88
def c_M_circleOfThree_82 : List eg_I := .inr (82, 1, 185, n_M_isHere, 2, 12, 0, 0) :: c_M_circleOfThree_85
def c_M_circleOfThree_80 : List eg_I := .inl (80, 2, .iload 7, 0, 0) :: c_M_circleOfThree_82
def c_M_circleOfThree_79 : List eg_I := .inl (79, 1, .iload 2, 0, 0) :: c_M_circleOfThree_80
def c_M_circleOfThree_78 : List eg_I := .inl (78, 1, .aload 0, 0, 0) :: c_M_circleOfThree_79
def c_M_circleOfThree_75 : List eg_I := .inl (75, 3, .ifCond .eq (105), 180, 0) :: c_M_circleOfThree_78
def c_M_circleOfThree_72 : List eg_I := .inr (72, 1, 185, n_M_isHere, 2, 12, 0, 0) :: c_M_circleOfThree_75
def c_M_circleOfThree_70 : List eg_I := .inl (70, 2, .iload 6, 0, 0) :: c_M_circleOfThree_72
def c_M_circleOfThree_69 : List eg_I := .inl (69, 1, .iload 2, 0, 0) :: c_M_circleOfThree_70
def c_M_circleOfThree_68 : List eg_I := .inl (68, 1, .aload 0, 0, 0) :: c_M_circleOfThree_69
def c_M_circleOfThree_65 : List eg_I := .inl (65, 3, .ifCond .eq (115), 180, 0) :: c_M_circleOfThree_68
def c_M_circleOfThree_62 : List eg_I := .inr (62, 1, 185, n_M_isHere, 2, 12, 0, 0) :: c_M_circleOfThree_65
def c_M_circleOfThree_60 : List eg_I := .inl (60, 2, .iload 5, 0, 0) :: c_M_circleOfThree_62
def c_M_circleOfThree_59 : List eg_I := .inl (59, 1, .iload 2, 0, 0) :: c_M_circleOfThree_60
def c_M_circleOfThree_58 : List eg_I := .inl (58, 1, .aload 0, 0, 0) :: c_M_circleOfThree_59
def c_M_circleOfThree_55 : List eg_I := .inl (55, 3, .ifCond .ge (131), 186, 0) :: c_M_circleOfThree_58
def c_M_circleOfThree_53 : List eg_I := .inl (53, 2, .iload 4, 0, 0) :: c_M_circleOfThree_55
def c_M_circleOfThree_50 : List eg_I := .inl (50, 3, .if_icmp .ge (136), 186, 0) :: c_M_circleOfThree_53
def c_M_circleOfThree_49 : List eg_I := .inl (49, 1, .iload 3, 0, 0) :: c_M_circleOfThree_50
def c_M_circleOfThree_47 : List eg_I := .inl (47, 2, .iload 7, 0, 0) :: c_M_circleOfThree_49
def c_M_circleOfThree_45 : List eg_I := .inl (45, 2, .istore 7, 0, 0) :: z_M_circleOfThree_47
def c_M_circleOfThree_44 : List eg_I := .inl (44, 1, .iadd, 0, 0) :: c_M_circleOfThree_45
def c_M_circleOfThree_43 : List eg_I := .inl (43, 1, .iconst (1), 0, 0) :: c_M_circleOfThree_44
def c_M_circleOfThree_41 : List eg_I := .inl (41, 2, .iload 6, 0, 0) :: c_M_circleOfThree_43
def c_M_circleOfThree_38 : List eg_I := .inl (38, 3, .ifCond .ge (154), 192, 0) :: c_M_circleOfThree_41
def c_M_circleOfThree_36 : List eg_I := .inl (36, 2, .iload 4, 0, 0) :: c_M_circleOfThree_38
def c_M_circleOfThree_33 : List eg_I := .inl (33, 3, .if_icmp .ge (159), 192, 0) :: c_M_circleOfThree_36
def c_M_circleOfThree_32 : List eg_I := .inl (32, 1, .iload 3, 0, 0) :: c_M_circleOfThree_33
def c_M_circleOfThree_30 : List eg_I := .inl (30, 2, .iload 6, 0, 0) :: c_M_circleOfThree_32
def c_M_circleOfThree_28 : List eg_I := .inl (28, 2, .istore 6, 0, 0) :: z_M_circleOfThree_30
def c_M_circleOfThree_27 : List eg_I := .inl (27, 1, .iadd, 0, 0) :: c_M_circleOfThree_28
def c_M_circleOfThree_26 : List eg_I := .inl (26, 1, .iconst (1), 0, 0) :: c_M_circleOfThree_27
def c_M_circleOfThree_24 : List eg_I := .inl (24, 2, .iload 5, 0, 0) :: c_M_circleOfThree_26
def c_M_circleOfThree_21 : List eg_I := .inl (21, 3, .ifCond .ge (177), 198, 0) :: c_M_circleOfThree_24
def c_M_circleOfThree_19 : List eg_I := .inl (19, 2, .iload 4, 0, 0) :: c_M_circleOfThree_21
def c_M_circleOfThree_16 : List eg_I := .inl (16, 3, .if_icmp .ge (182), 198, 0) :: c_M_circleOfThree_19
def c_M_circleOfThree_15 : List eg_I := .inl (15, 1, .iload 3, 0, 0) :: c_M_circleOfThree_16
def c_M_circleOfThree_13 : List eg_I := .inl (13, 2, .iload 5, 0, 0) :: c_M_circleOfThree_15
def c_M_circleOfThree_11 : List eg_I := .inl (11, 2, .istore 5, 0, 0) :: z_M_circleOfThree_13
def c_M_circleOfThree_10 : List eg_I := .inl (10, 1, .iconst (0), 0, 0) :: c_M_circleOfThree_11
def c_M_circleOfThree_8 : List eg_I := .inl (8, 2, .istore 4, 0, 0) :: c_M_circleOfThree_10
def c_M_circleOfThree_7 : List eg_I := .inl (7, 1, .iconst (-1), 0, 0) :: c_M_circleOfThree_8
def c_M_circleOfThree_6 : List eg_I := .inl (6, 1, .istore 3, 0, 0) :: c_M_circleOfThree_7
def c_M_circleOfThree_5 : List eg_I := .inl (5, 1, .iaload, 0, 0) :: c_M_circleOfThree_6
def c_M_circleOfThree_4 : List eg_I := .inl (4, 1, .iload 2, 0, 0) :: c_M_circleOfThree_5
def c_M_circleOfThree_1 : List eg_I := .inl (1, 3, .getfield 9, 12, 0) :: c_M_circleOfThree_4
def c_M_circleOfThree_0 : List eg_I := .inl (0, 1, .aload 0, 0, 0) :: c_M_circleOfThree_1
section
variable {rm : Room} {K : Nat → Nat → Nat → eg_Lo → List Value → List eg_E → Prop} {Q : Option Value → List eg_E → Prop} {kc ks : Nat} {loc : eg_Lo} {st : List Value} {h : List eg_E}
theorem s_M_circleOfThree_0 {x : Nat} {l : eg_Lo} : wps rm K Q c_M_circleOfThree_0 kc ks (some (.ref x) :: l) (st) h = wps rm K Q c_M_circleOfThree_1 kc ks (some (.ref x) :: l) (.ref x :: st) h := gk_aload rfl
theorem s_M_circleOfThree_1 {x : Nat} : wps rm K Q c_M_circleOfThree_1 kc ks loc (.ref (x + 1) :: st) h = eg_gf h x 12 0 (fun v => wps rm K Q c_M_circleOfThree_4 kc ks loc (v :: st) h) := gk_gf
theorem s_M_circleOfThree_4 {x : Int32} {l0 l1 : Option Value} {l : eg_Lo} : wps rm K Q c_M_circleOfThree_4 kc ks (l0 :: l1 :: some (.int x) :: l) (st) h = wps rm K Q c_M_circleOfThree_5 kc ks (l0 :: l1 :: some (.int x) :: l) (.int x :: st) h := gk_iload rfl
theorem s_M_circleOfThree_5 {x : Nat} {i : Int32} : wps rm K Q c_M_circleOfThree_5 kc ks loc (.int i :: .ref (x + 1) :: st) h = eg_ia h x i (fun v => wps rm K Q c_M_circleOfThree_6 kc ks loc (.int v :: st) h) := gk_iaload
theorem s_M_circleOfThree_6 {x : Int32} : wps rm K Q c_M_circleOfThree_6 kc ks loc (.int x :: st) h = wps rm K Q c_M_circleOfThree_7 kc ks (eg_set1 loc 3 (.int x)) (st) h := gk_istore
theorem s_M_circleOfThree_7  : wps rm K Q c_M_circleOfThree_7 kc ks loc (st) h = wps rm K Q c_M_circleOfThree_8 kc ks loc (.int (-1) :: st) h := gk_ic (by decide)
theorem s_M_circleOfThree_8 {x : Int32} : wps rm K Q c_M_circleOfThree_8 kc ks loc (.int x :: st) h = wps rm K Q c_M_circleOfThree_10 kc ks (eg_set1 loc 4 (.int x)) (st) h := gk_istore
theorem s_M_circleOfThree_10  : wps rm K Q c_M_circleOfThree_10 kc ks loc (st) h = wps rm K Q c_M_circleOfThree_11 kc ks loc (.int (0) :: st) h := gk_ic (by decide)
theorem s_M_circleOfThree_11 {x : Int32} : wps rm K Q c_M_circleOfThree_11 kc ks loc (.int x :: st) h = wps rm K Q z_M_circleOfThree_13 kc ks (eg_set1 loc 5 (.int x)) (st) h := gk_istore
theorem s_M_circleOfThree_13 {x : Int32} {l0 l1 l2 l3 l4 : Option Value} {l : eg_Lo} : wps rm K Q c_M_circleOfThree_13 kc ks (l0 :: l1 :: l2 :: l3 :: l4 :: some (.int x) :: l) (st) h = wps rm K Q c_M_circleOfThree_15 kc ks (l0 :: l1 :: l2 :: l3 :: l4 :: some (.int x) :: l) (.int x :: st) h := gk_iload rfl
theorem s_M_circleOfThree_15 {x : Int32} {l0 l1 l2 : Option Value} {l : eg_Lo} : wps rm K Q c_M_circleOfThree_15 kc ks (l0 :: l1 :: l2 :: some (.int x) :: l) (st) h = wps rm K Q c_M_circleOfThree_16 kc ks (l0 :: l1 :: l2 :: some (.int x) :: l) (.int x :: st) h := gk_iload rfl
theorem s_M_circleOfThree_16 {x y : Int32} : wps rm K Q c_M_circleOfThree_16 kc ks loc (.int y :: .int x :: st) h = ((y ≤ x → K 198 kc ks loc st h) ∧ (¬ y ≤ x → wps rm K Q c_M_circleOfThree_19 kc ks loc (st) h)) := gk_if2_ge
theorem s_M_circleOfThree_19 {x : Int32} {l0 l1 l2 l3 : Option Value} {l : eg_Lo} : wps rm K Q c_M_circleOfThree_19 kc ks (l0 :: l1 :: l2 :: l3 :: some (.int x) :: l) (st) h = wps rm K Q c_M_circleOfThree_21 kc ks (l0 :: l1 :: l2 :: l3 :: some (.int x) :: l) (.int x :: st) h := gk_iload rfl
theorem s_M_circleOfThree_21 {x : Int32} : wps rm K Q c_M_circleOfThree_21 kc ks loc (.int x :: st) h = ((0 ≤ x → K 198 kc ks loc st h) ∧ (¬ 0 ≤ x → wps rm K Q c_M_circleOfThree_24 kc ks loc (st) h)) := gk_if1_ge
theorem s_M_circleOfThree_24 {x : Int32} {l0 l1 l2 l3 l4 : Option Value} {l : eg_Lo} : wps rm K Q c_M_circleOfThree_24 kc ks (l0 :: l1 :: l2 :: l3 :: l4 :: some (.int x) :: l) (st) h = wps rm K Q c_M_circleOfThree_26 kc ks (l0 :: l1 :: l2 :: l3 :: l4 :: some (.int x) :: l) (.int x :: st) h := gk_iload rfl
theorem s_M_circleOfThree_26  : wps rm K Q c_M_circleOfThree_26 kc ks loc (st) h = wps rm K Q c_M_circleOfThree_27 kc ks loc (.int (1) :: st) h := gk_ic (by decide)
theorem s_M_circleOfThree_27 {x y : Int32} : wps rm K Q c_M_circleOfThree_27 kc ks loc (.int y :: .int x :: st) h = wps rm K Q c_M_circleOfThree_28 kc ks loc (.int (x + y) :: st) h := gk_iadd
theorem s_M_circleOfThree_28 {x : Int32} : wps rm K Q c_M_circleOfThree_28 kc ks loc (.int x :: st) h = wps rm K Q z_M_circleOfThree_30 kc ks (eg_set1 loc 6 (.int x)) (st) h := gk_istore
theorem s_M_circleOfThree_30 {x : Int32} {l0 l1 l2 l3 l4 l5 : Option Value} {l : eg_Lo} : wps rm K Q c_M_circleOfThree_30 kc ks (l0 :: l1 :: l2 :: l3 :: l4 :: l5 :: some (.int x) :: l) (st) h = wps rm K Q c_M_circleOfThree_32 kc ks (l0 :: l1 :: l2 :: l3 :: l4 :: l5 :: some (.int x) :: l) (.int x :: st) h := gk_iload rfl
theorem s_M_circleOfThree_32 {x : Int32} {l0 l1 l2 : Option Value} {l : eg_Lo} : wps rm K Q c_M_circleOfThree_32 kc ks (l0 :: l1 :: l2 :: some (.int x) :: l) (st) h = wps rm K Q c_M_circleOfThree_33 kc ks (l0 :: l1 :: l2 :: some (.int x) :: l) (.int x :: st) h := gk_iload rfl
theorem s_M_circleOfThree_33 {x y : Int32} : wps rm K Q c_M_circleOfThree_33 kc ks loc (.int y :: .int x :: st) h = ((y ≤ x → K 192 kc ks loc st h) ∧ (¬ y ≤ x → wps rm K Q c_M_circleOfThree_36 kc ks loc (st) h)) := gk_if2_ge
theorem s_M_circleOfThree_36 {x : Int32} {l0 l1 l2 l3 : Option Value} {l : eg_Lo} : wps rm K Q c_M_circleOfThree_36 kc ks (l0 :: l1 :: l2 :: l3 :: some (.int x) :: l) (st) h = wps rm K Q c_M_circleOfThree_38 kc ks (l0 :: l1 :: l2 :: l3 :: some (.int x) :: l) (.int x :: st) h := gk_iload rfl
theorem s_M_circleOfThree_38 {x : Int32} : wps rm K Q c_M_circleOfThree_38 kc ks loc (.int x :: st) h = ((0 ≤ x → K 192 kc ks loc st h) ∧ (¬ 0 ≤ x → wps rm K Q c_M_circleOfThree_41 kc ks loc (st) h)) := gk_if1_ge
theorem s_M_circleOfThree_41 {x : Int32} {l0 l1 l2 l3 l4 l5 : Option Value} {l : eg_Lo} : wps rm K Q c_M_circleOfThree_41 kc ks (l0 :: l1 :: l2 :: l3 :: l4 :: l5 :: some (.int x) :: l) (st) h = wps rm K Q c_M_circleOfThree_43 kc ks (l0 :: l1 :: l2 :: l3 :: l4 :: l5 :: some (.int x) :: l) (.int x :: st) h := gk_iload rfl
theorem s_M_circleOfThree_43  : wps rm K Q c_M_circleOfThree_43 kc ks loc (st) h = wps rm K Q c_M_circleOfThree_44 kc ks loc (.int (1) :: st) h := gk_ic (by decide)
theorem s_M_circleOfThree_44 {x y : Int32} : wps rm K Q c_M_circleOfThree_44 kc ks loc (.int y :: .int x :: st) h = wps rm K Q c_M_circleOfThree_45 kc ks loc (.int (x + y) :: st) h := gk_iadd
theorem s_M_circleOfThree_45 {x : Int32} : wps rm K Q c_M_circleOfThree_45 kc ks loc (.int x :: st) h = wps rm K Q z_M_circleOfThree_47 kc ks (eg_set1 loc 7 (.int x)) (st) h := gk_istore
theorem s_M_circleOfThree_47 {x : Int32} {l0 l1 l2 l3 l4 l5 l6 : Option Value} {l : eg_Lo} : wps rm K Q c_M_circleOfThree_47 kc ks (l0 :: l1 :: l2 :: l3 :: l4 :: l5 :: l6 :: some (.int x) :: l) (st) h = wps rm K Q c_M_circleOfThree_49 kc ks (l0 :: l1 :: l2 :: l3 :: l4 :: l5 :: l6 :: some (.int x) :: l) (.int x :: st) h := gk_iload rfl
theorem s_M_circleOfThree_49 {x : Int32} {l0 l1 l2 : Option Value} {l : eg_Lo} : wps rm K Q c_M_circleOfThree_49 kc ks (l0 :: l1 :: l2 :: some (.int x) :: l) (st) h = wps rm K Q c_M_circleOfThree_50 kc ks (l0 :: l1 :: l2 :: some (.int x) :: l) (.int x :: st) h := gk_iload rfl
theorem s_M_circleOfThree_50 {x y : Int32} : wps rm K Q c_M_circleOfThree_50 kc ks loc (.int y :: .int x :: st) h = ((y ≤ x → K 186 kc ks loc st h) ∧ (¬ y ≤ x → wps rm K Q c_M_circleOfThree_53 kc ks loc (st) h)) := gk_if2_ge
theorem s_M_circleOfThree_53 {x : Int32} {l0 l1 l2 l3 : Option Value} {l : eg_Lo} : wps rm K Q c_M_circleOfThree_53 kc ks (l0 :: l1 :: l2 :: l3 :: some (.int x) :: l) (st) h = wps rm K Q c_M_circleOfThree_55 kc ks (l0 :: l1 :: l2 :: l3 :: some (.int x) :: l) (.int x :: st) h := gk_iload rfl
theorem s_M_circleOfThree_55 {x : Int32} : wps rm K Q c_M_circleOfThree_55 kc ks loc (.int x :: st) h = ((0 ≤ x → K 186 kc ks loc st h) ∧ (¬ 0 ≤ x → wps rm K Q c_M_circleOfThree_58 kc ks loc (st) h)) := gk_if1_ge
theorem s_M_circleOfThree_58 {x : Nat} {l : eg_Lo} : wps rm K Q c_M_circleOfThree_58 kc ks (some (.ref x) :: l) (st) h = wps rm K Q c_M_circleOfThree_59 kc ks (some (.ref x) :: l) (.ref x :: st) h := gk_aload rfl
theorem s_M_circleOfThree_59 {x : Int32} {l0 l1 : Option Value} {l : eg_Lo} : wps rm K Q c_M_circleOfThree_59 kc ks (l0 :: l1 :: some (.int x) :: l) (st) h = wps rm K Q c_M_circleOfThree_60 kc ks (l0 :: l1 :: some (.int x) :: l) (.int x :: st) h := gk_iload rfl
theorem s_M_circleOfThree_60 {x : Int32} {l0 l1 l2 l3 l4 : Option Value} {l : eg_Lo} : wps rm K Q c_M_circleOfThree_60 kc ks (l0 :: l1 :: l2 :: l3 :: l4 :: some (.int x) :: l) (st) h = wps rm K Q c_M_circleOfThree_62 kc ks (l0 :: l1 :: l2 :: l3 :: l4 :: some (.int x) :: l) (.int x :: st) h := gk_iload rfl
theorem s_M_circleOfThree_62  {a1 : Value} {a2 : Value} {x : Nat} : wps rm K Q c_M_circleOfThree_62 kc ks loc (a2 :: a1 :: .ref (x + 1) :: st) h = (eg_cls h x 12 ∧ st.length ≤ 4 ∧ eg_Cs n_M_isHere (.ref (x + 1) :: [a1, a2]) h (fun v h9 => wps rm K Q c_M_circleOfThree_65 kc ks loc (v.toList ++ st) h9)) := eg_c1_2
theorem s_M_circleOfThree_65 {x : Int32} : wps rm K Q c_M_circleOfThree_65 kc ks loc (.int x :: st) h = ((x = 0 → K 180 kc ks loc st h) ∧ (¬ x = 0 → wps rm K Q c_M_circleOfThree_68 kc ks loc (st) h)) := gk_if1_eq
theorem s_M_circleOfThree_68 {x : Nat} {l : eg_Lo} : wps rm K Q c_M_circleOfThree_68 kc ks (some (.ref x) :: l) (st) h = wps rm K Q c_M_circleOfThree_69 kc ks (some (.ref x) :: l) (.ref x :: st) h := gk_aload rfl
theorem s_M_circleOfThree_69 {x : Int32} {l0 l1 : Option Value} {l : eg_Lo} : wps rm K Q c_M_circleOfThree_69 kc ks (l0 :: l1 :: some (.int x) :: l) (st) h = wps rm K Q c_M_circleOfThree_70 kc ks (l0 :: l1 :: some (.int x) :: l) (.int x :: st) h := gk_iload rfl
theorem s_M_circleOfThree_70 {x : Int32} {l0 l1 l2 l3 l4 l5 : Option Value} {l : eg_Lo} : wps rm K Q c_M_circleOfThree_70 kc ks (l0 :: l1 :: l2 :: l3 :: l4 :: l5 :: some (.int x) :: l) (st) h = wps rm K Q c_M_circleOfThree_72 kc ks (l0 :: l1 :: l2 :: l3 :: l4 :: l5 :: some (.int x) :: l) (.int x :: st) h := gk_iload rfl
theorem s_M_circleOfThree_72  {a1 : Value} {a2 : Value} {x : Nat} : wps rm K Q c_M_circleOfThree_72 kc ks loc (a2 :: a1 :: .ref (x + 1) :: st) h = (eg_cls h x 12 ∧ st.length ≤ 4 ∧ eg_Cs n_M_isHere (.ref (x + 1) :: [a1, a2]) h (fun v h9 => wps rm K Q c_M_circleOfThree_75 kc ks loc (v.toList ++ st) h9)) := eg_c1_2
theorem s_M_circleOfThree_75 {x : Int32} : wps rm K Q c_M_circleOfThree_75 kc ks loc (.int x :: st) h = ((x = 0 → K 180 kc ks loc st h) ∧ (¬ x = 0 → wps rm K Q c_M_circleOfThree_78 kc ks loc (st) h)) := gk_if1_eq
theorem s_M_circleOfThree_78 {x : Nat} {l : eg_Lo} : wps rm K Q c_M_circleOfThree_78 kc ks (some (.ref x) :: l) (st) h = wps rm K Q c_M_circleOfThree_79 kc ks (some (.ref x) :: l) (.ref x :: st) h := gk_aload rfl
theorem s_M_circleOfThree_79 {x : Int32} {l0 l1 : Option Value} {l : eg_Lo} : wps rm K Q c_M_circleOfThree_79 kc ks (l0 :: l1 :: some (.int x) :: l) (st) h = wps rm K Q c_M_circleOfThree_80 kc ks (l0 :: l1 :: some (.int x) :: l) (.int x :: st) h := gk_iload rfl
theorem s_M_circleOfThree_80 {x : Int32} {l0 l1 l2 l3 l4 l5 l6 : Option Value} {l : eg_Lo} : wps rm K Q c_M_circleOfThree_80 kc ks (l0 :: l1 :: l2 :: l3 :: l4 :: l5 :: l6 :: some (.int x) :: l) (st) h = wps rm K Q c_M_circleOfThree_82 kc ks (l0 :: l1 :: l2 :: l3 :: l4 :: l5 :: l6 :: some (.int x) :: l) (.int x :: st) h := gk_iload rfl
theorem s_M_circleOfThree_82  {a1 : Value} {a2 : Value} {x : Nat} : wps rm K Q c_M_circleOfThree_82 kc ks loc (a2 :: a1 :: .ref (x + 1) :: st) h = (eg_cls h x 12 ∧ st.length ≤ 4 ∧ eg_Cs n_M_isHere (.ref (x + 1) :: [a1, a2]) h (fun v h9 => wps rm K Q c_M_circleOfThree_85 kc ks loc (v.toList ++ st) h9)) := eg_c1_2
theorem s_M_circleOfThree_85 {x : Int32} : wps rm K Q c_M_circleOfThree_85 kc ks loc (.int x :: st) h = ((x = 0 → K 180 kc ks loc st h) ∧ (¬ x = 0 → wps rm K Q c_M_circleOfThree_88 kc ks loc (st) h)) := gk_if1_eq
theorem s_M_circleOfThree_88 {x : Nat} {l : eg_Lo} : wps rm K Q c_M_circleOfThree_88 kc ks (some (.ref x) :: l) (st) h = wps rm K Q c_M_circleOfThree_89 kc ks (some (.ref x) :: l) (.ref x :: st) h := gk_aload rfl
theorem s_M_circleOfThree_89 {x : Int32} {l0 l1 : Option Value} {l : eg_Lo} : wps rm K Q c_M_circleOfThree_89 kc ks (l0 :: l1 :: some (.int x) :: l) (st) h = wps rm K Q c_M_circleOfThree_90 kc ks (l0 :: l1 :: some (.int x) :: l) (.int x :: st) h := gk_iload rfl
theorem s_M_circleOfThree_90 {x : Int32} {l0 l1 l2 l3 l4 : Option Value} {l : eg_Lo} : wps rm K Q c_M_circleOfThree_90 kc ks (l0 :: l1 :: l2 :: l3 :: l4 :: some (.int x) :: l) (st) h = wps rm K Q c_M_circleOfThree_92 kc ks (l0 :: l1 :: l2 :: l3 :: l4 :: some (.int x) :: l) (.int x :: st) h := gk_iload rfl
theorem s_M_circleOfThree_92 {x : Int32} {l0 l1 l2 l3 l4 l5 : Option Value} {l : eg_Lo} : wps rm K Q c_M_circleOfThree_92 kc ks (l0 :: l1 :: l2 :: l3 :: l4 :: l5 :: some (.int x) :: l) (st) h = wps rm K Q c_M_circleOfThree_94 kc ks (l0 :: l1 :: l2 :: l3 :: l4 :: l5 :: some (.int x) :: l) (.int x :: st) h := gk_iload rfl
theorem s_M_circleOfThree_94 {x : Int32} {l0 l1 l2 l3 l4 l5 l6 : Option Value} {l : eg_Lo} : wps rm K Q c_M_circleOfThree_94 kc ks (l0 :: l1 :: l2 :: l3 :: l4 :: l5 :: l6 :: some (.int x) :: l) (st) h = wps rm K Q c_M_circleOfThree_96 kc ks (l0 :: l1 :: l2 :: l3 :: l4 :: l5 :: l6 :: some (.int x) :: l) (.int x :: st) h := gk_iload rfl
theorem s_M_circleOfThree_96  {a1 : Value} {a2 : Value} {a3 : Value} {a4 : Value} {x : Nat} : wps rm K Q c_M_circleOfThree_96 kc ks loc (a4 :: a3 :: a2 :: a1 :: .ref (x + 1) :: st) h = (eg_cls h x 12 ∧ st.length ≤ 4 ∧ eg_Cs n_M_tellMiddle (.ref (x + 1) :: [a1, a2, a3, a4]) h (fun v h9 => wps rm K Q c_M_circleOfThree_99 kc ks loc (v.toList ++ st) h9)) := eg_c1_4
theorem s_M_circleOfThree_99 {x : Nat} {l : eg_Lo} : wps rm K Q c_M_circleOfThree_99 kc ks (some (.ref x) :: l) (st) h = wps rm K Q c_M_circleOfThree_100 kc ks (some (.ref x) :: l) (.ref x :: st) h := gk_aload rfl
theorem s_M_circleOfThree_100 {x : Int32} {l0 l1 : Option Value} {l : eg_Lo} : wps rm K Q c_M_circleOfThree_100 kc ks (l0 :: l1 :: some (.int x) :: l) (st) h = wps rm K Q c_M_circleOfThree_101 kc ks (l0 :: l1 :: some (.int x) :: l) (.int x :: st) h := gk_iload rfl
theorem s_M_circleOfThree_101 {x : Int32} {l0 l1 l2 l3 l4 : Option Value} {l : eg_Lo} : wps rm K Q c_M_circleOfThree_101 kc ks (l0 :: l1 :: l2 :: l3 :: l4 :: some (.int x) :: l) (st) h = wps rm K Q c_M_circleOfThree_103 kc ks (l0 :: l1 :: l2 :: l3 :: l4 :: some (.int x) :: l) (.int x :: st) h := gk_iload rfl
theorem s_M_circleOfThree_103 {x : Int32} {l0 l1 l2 l3 l4 l5 : Option Value} {l : eg_Lo} : wps rm K Q c_M_circleOfThree_103 kc ks (l0 :: l1 :: l2 :: l3 :: l4 :: l5 :: some (.int x) :: l) (st) h = wps rm K Q c_M_circleOfThree_105 kc ks (l0 :: l1 :: l2 :: l3 :: l4 :: l5 :: some (.int x) :: l) (.int x :: st) h := gk_iload rfl
theorem s_M_circleOfThree_105 {x : Int32} {l0 l1 l2 l3 l4 l5 l6 : Option Value} {l : eg_Lo} : wps rm K Q c_M_circleOfThree_105 kc ks (l0 :: l1 :: l2 :: l3 :: l4 :: l5 :: l6 :: some (.int x) :: l) (st) h = wps rm K Q c_M_circleOfThree_107 kc ks (l0 :: l1 :: l2 :: l3 :: l4 :: l5 :: l6 :: some (.int x) :: l) (.int x :: st) h := gk_iload rfl
theorem s_M_circleOfThree_107  {a1 : Value} {a2 : Value} {a3 : Value} {a4 : Value} {x : Nat} : wps rm K Q c_M_circleOfThree_107 kc ks loc (a4 :: a3 :: a2 :: a1 :: .ref (x + 1) :: st) h = (eg_cls h x 12 ∧ st.length ≤ 4 ∧ eg_Cs n_M_isSharp (.ref (x + 1) :: [a1, a2, a3, a4]) h (fun v h9 => wps rm K Q c_M_circleOfThree_110 kc ks loc (v.toList ++ st) h9)) := eg_c1_4
theorem s_M_circleOfThree_110 {x : Int32} : wps rm K Q c_M_circleOfThree_110 kc ks loc (.int x :: st) h = ((x = 0 → K 145 kc ks loc st h) ∧ (¬ x = 0 → wps rm K Q c_M_circleOfThree_113 kc ks loc (st) h)) := gk_if1_eq
theorem s_M_circleOfThree_113 {x : Nat} {l : eg_Lo} : wps rm K Q c_M_circleOfThree_113 kc ks (some (.ref x) :: l) (st) h = wps rm K Q c_M_circleOfThree_114 kc ks (some (.ref x) :: l) (.ref x :: st) h := gk_aload rfl
theorem s_M_circleOfThree_114 {x : Int32} {l0 l1 : Option Value} {l : eg_Lo} : wps rm K Q c_M_circleOfThree_114 kc ks (l0 :: l1 :: some (.int x) :: l) (st) h = wps rm K Q c_M_circleOfThree_115 kc ks (l0 :: l1 :: some (.int x) :: l) (.int x :: st) h := gk_iload rfl
theorem s_M_circleOfThree_115 {x : Int32} {l0 l1 l2 l3 l4 l5 : Option Value} {l : eg_Lo} : wps rm K Q c_M_circleOfThree_115 kc ks (l0 :: l1 :: l2 :: l3 :: l4 :: l5 :: some (.int x) :: l) (st) h = wps rm K Q c_M_circleOfThree_117 kc ks (l0 :: l1 :: l2 :: l3 :: l4 :: l5 :: some (.int x) :: l) (.int x :: st) h := gk_iload rfl
theorem s_M_circleOfThree_117 {x : Int32} {l0 l1 l2 l3 l4 : Option Value} {l : eg_Lo} : wps rm K Q c_M_circleOfThree_117 kc ks (l0 :: l1 :: l2 :: l3 :: l4 :: some (.int x) :: l) (st) h = wps rm K Q c_M_circleOfThree_119 kc ks (l0 :: l1 :: l2 :: l3 :: l4 :: some (.int x) :: l) (.int x :: st) h := gk_iload rfl
theorem s_M_circleOfThree_119 {x : Int32} {l0 l1 l2 l3 l4 l5 l6 : Option Value} {l : eg_Lo} : wps rm K Q c_M_circleOfThree_119 kc ks (l0 :: l1 :: l2 :: l3 :: l4 :: l5 :: l6 :: some (.int x) :: l) (st) h = wps rm K Q c_M_circleOfThree_121 kc ks (l0 :: l1 :: l2 :: l3 :: l4 :: l5 :: l6 :: some (.int x) :: l) (.int x :: st) h := gk_iload rfl
theorem s_M_circleOfThree_121  {a1 : Value} {a2 : Value} {a3 : Value} {a4 : Value} {x : Nat} : wps rm K Q c_M_circleOfThree_121 kc ks loc (a4 :: a3 :: a2 :: a1 :: .ref (x + 1) :: st) h = (eg_cls h x 12 ∧ st.length ≤ 4 ∧ eg_Cs n_M_isSharp (.ref (x + 1) :: [a1, a2, a3, a4]) h (fun v h9 => wps rm K Q c_M_circleOfThree_124 kc ks loc (v.toList ++ st) h9)) := eg_c1_4
theorem s_M_circleOfThree_124 {x : Int32} : wps rm K Q c_M_circleOfThree_124 kc ks loc (.int x :: st) h = ((x = 0 → K 145 kc ks loc st h) ∧ (¬ x = 0 → wps rm K Q c_M_circleOfThree_127 kc ks loc (st) h)) := gk_if1_eq
theorem s_M_circleOfThree_127 {x : Nat} {l : eg_Lo} : wps rm K Q c_M_circleOfThree_127 kc ks (some (.ref x) :: l) (st) h = wps rm K Q c_M_circleOfThree_128 kc ks (some (.ref x) :: l) (.ref x :: st) h := gk_aload rfl
theorem s_M_circleOfThree_128 {x : Int32} {l0 l1 : Option Value} {l : eg_Lo} : wps rm K Q c_M_circleOfThree_128 kc ks (l0 :: l1 :: some (.int x) :: l) (st) h = wps rm K Q c_M_circleOfThree_129 kc ks (l0 :: l1 :: some (.int x) :: l) (.int x :: st) h := gk_iload rfl
theorem s_M_circleOfThree_129 {x : Int32} {l0 l1 l2 l3 l4 l5 l6 : Option Value} {l : eg_Lo} : wps rm K Q c_M_circleOfThree_129 kc ks (l0 :: l1 :: l2 :: l3 :: l4 :: l5 :: l6 :: some (.int x) :: l) (st) h = wps rm K Q c_M_circleOfThree_131 kc ks (l0 :: l1 :: l2 :: l3 :: l4 :: l5 :: l6 :: some (.int x) :: l) (.int x :: st) h := gk_iload rfl
theorem s_M_circleOfThree_131 {x : Int32} {l0 l1 l2 l3 l4 : Option Value} {l : eg_Lo} : wps rm K Q c_M_circleOfThree_131 kc ks (l0 :: l1 :: l2 :: l3 :: l4 :: some (.int x) :: l) (st) h = wps rm K Q c_M_circleOfThree_133 kc ks (l0 :: l1 :: l2 :: l3 :: l4 :: some (.int x) :: l) (.int x :: st) h := gk_iload rfl
theorem s_M_circleOfThree_133 {x : Int32} {l0 l1 l2 l3 l4 l5 : Option Value} {l : eg_Lo} : wps rm K Q c_M_circleOfThree_133 kc ks (l0 :: l1 :: l2 :: l3 :: l4 :: l5 :: some (.int x) :: l) (st) h = wps rm K Q c_M_circleOfThree_135 kc ks (l0 :: l1 :: l2 :: l3 :: l4 :: l5 :: some (.int x) :: l) (.int x :: st) h := gk_iload rfl
theorem s_M_circleOfThree_135  {a1 : Value} {a2 : Value} {a3 : Value} {a4 : Value} {x : Nat} : wps rm K Q c_M_circleOfThree_135 kc ks loc (a4 :: a3 :: a2 :: a1 :: .ref (x + 1) :: st) h = (eg_cls h x 12 ∧ st.length ≤ 4 ∧ eg_Cs n_M_isSharp (.ref (x + 1) :: [a1, a2, a3, a4]) h (fun v h9 => wps rm K Q c_M_circleOfThree_138 kc ks loc (v.toList ++ st) h9)) := eg_c1_4
theorem s_M_circleOfThree_138 {x : Int32} : wps rm K Q c_M_circleOfThree_138 kc ks loc (.int x :: st) h = ((x = 0 → K 145 kc ks loc st h) ∧ (¬ x = 0 → wps rm K Q c_M_circleOfThree_141 kc ks loc (st) h)) := gk_if1_eq
theorem s_M_circleOfThree_141  : wps rm K Q c_M_circleOfThree_141 kc ks loc (st) h = wps rm K Q c_M_circleOfThree_142 kc ks loc (.int (1) :: st) h := gk_ic (by decide)
theorem s_M_circleOfThree_142  : wps rm K Q c_M_circleOfThree_142 kc ks loc (st) h = K 146 kc ks loc st h := gk_goto
theorem s_M_circleOfThree_145  : wps rm K Q c_M_circleOfThree_145 kc ks loc (st) h = wps rm K Q c_M_circleOfThree_146 kc ks loc (.int (0) :: st) h := gk_ic (by decide)
theorem s_M_circleOfThree_146 {x : Int32} : wps rm K Q c_M_circleOfThree_146 kc ks loc (.int x :: st) h = wps rm K Q c_M_circleOfThree_148 kc ks (eg_set1 loc 8 (.int x)) (st) h := gk_istore
theorem s_M_circleOfThree_148 {x : Nat} {l : eg_Lo} : wps rm K Q c_M_circleOfThree_148 kc ks (some (.ref x) :: l) (st) h = wps rm K Q c_M_circleOfThree_149 kc ks (some (.ref x) :: l) (.ref x :: st) h := gk_aload rfl
theorem s_M_circleOfThree_149 {x : Nat} : wps rm K Q c_M_circleOfThree_149 kc ks loc (.ref (x + 1) :: st) h = eg_gf h x 12 36 (fun v => wps rm K Q c_M_circleOfThree_152 kc ks loc (v :: st) h) := gk_gf
theorem s_M_circleOfThree_152  : wps rm K Q c_M_circleOfThree_152 kc ks loc (st) h = wps rm K Q c_M_circleOfThree_153 kc ks loc (.long (0) :: st) h := gk_lc (by decide)
theorem s_M_circleOfThree_153 {x y : Int64} : wps rm K Q c_M_circleOfThree_153 kc ks loc (.long y :: .long x :: st) h = wps rm K Q c_M_circleOfThree_154 kc ks loc (.int (lg_cmp x y) :: st) h := gk_lcmp
theorem s_M_circleOfThree_154 {x : Int32} : wps rm K Q c_M_circleOfThree_154 kc ks loc (.int x :: st) h = ((x ≤ 0 → K 177 kc ks loc st h) ∧ (¬ x ≤ 0 → wps rm K Q c_M_circleOfThree_157 kc ks loc (st) h)) := gk_if1_le
theorem s_M_circleOfThree_157 {x : Int32} {l0 l1 l2 l3 l4 l5 l6 l7 : Option Value} {l : eg_Lo} : wps rm K Q c_M_circleOfThree_157 kc ks (l0 :: l1 :: l2 :: l3 :: l4 :: l5 :: l6 :: l7 :: some (.int x) :: l) (st) h = wps rm K Q c_M_circleOfThree_159 kc ks (l0 :: l1 :: l2 :: l3 :: l4 :: l5 :: l6 :: l7 :: some (.int x) :: l) (.int x :: st) h := gk_iload rfl
theorem s_M_circleOfThree_159 {x : Int32} : wps rm K Q c_M_circleOfThree_159 kc ks loc (.int x :: st) h = ((x = 0 → K 177 kc ks loc st h) ∧ (¬ x = 0 → wps rm K Q c_M_circleOfThree_162 kc ks loc (st) h)) := gk_if1_eq
theorem s_M_circleOfThree_162 {x : Nat} {l : eg_Lo} : wps rm K Q c_M_circleOfThree_162 kc ks (some (.ref x) :: l) (st) h = wps rm K Q c_M_circleOfThree_163 kc ks (some (.ref x) :: l) (.ref x :: st) h := gk_aload rfl
theorem s_M_circleOfThree_163 {x : Int32} {l0 l1 : Option Value} {l : eg_Lo} : wps rm K Q c_M_circleOfThree_163 kc ks (l0 :: l1 :: some (.int x) :: l) (st) h = wps rm K Q c_M_circleOfThree_164 kc ks (l0 :: l1 :: some (.int x) :: l) (.int x :: st) h := gk_iload rfl
theorem s_M_circleOfThree_164 {x : Int32} {l0 l1 l2 l3 l4 : Option Value} {l : eg_Lo} : wps rm K Q c_M_circleOfThree_164 kc ks (l0 :: l1 :: l2 :: l3 :: l4 :: some (.int x) :: l) (st) h = wps rm K Q c_M_circleOfThree_166 kc ks (l0 :: l1 :: l2 :: l3 :: l4 :: some (.int x) :: l) (.int x :: st) h := gk_iload rfl
theorem s_M_circleOfThree_166  {a1 : Value} {a2 : Value} {x : Nat} : wps rm K Q c_M_circleOfThree_166 kc ks loc (a2 :: a1 :: .ref (x + 1) :: st) h = (eg_cls h x 12 ∧ st.length ≤ 4 ∧ eg_Cs n_M_hasAll (.ref (x + 1) :: [a1, a2]) h (fun v h9 => wps rm K Q c_M_circleOfThree_169 kc ks loc (v.toList ++ st) h9)) := eg_c1_2
theorem s_M_circleOfThree_169 {x : Int32} : wps rm K Q c_M_circleOfThree_169 kc ks loc (.int x :: st) h = ((x = 0 → K 177 kc ks loc st h) ∧ (¬ x = 0 → wps rm K Q c_M_circleOfThree_172 kc ks loc (st) h)) := gk_if1_eq
theorem s_M_circleOfThree_172 {x : Int32} {l0 l1 l2 l3 l4 : Option Value} {l : eg_Lo} : wps rm K Q c_M_circleOfThree_172 kc ks (l0 :: l1 :: l2 :: l3 :: l4 :: some (.int x) :: l) (st) h = wps rm K Q c_M_circleOfThree_174 kc ks (l0 :: l1 :: l2 :: l3 :: l4 :: some (.int x) :: l) (.int x :: st) h := gk_iload rfl
theorem s_M_circleOfThree_174  : wps rm K Q c_M_circleOfThree_174 kc ks loc (st) h = K 178 kc ks loc st h := gk_goto
theorem s_M_circleOfThree_177  : wps rm K Q c_M_circleOfThree_177 kc ks loc (st) h = wps rm K Q c_M_circleOfThree_178 kc ks loc (.int (-1) :: st) h := gk_ic (by decide)
theorem s_M_circleOfThree_178 {x : Int32} : wps rm K Q c_M_circleOfThree_178 kc ks loc (.int x :: st) h = wps rm K Q c_M_circleOfThree_180 kc ks (eg_set1 loc 4 (.int x)) (st) h := gk_istore
theorem s_M_circleOfThree_180 {x : Int32} {l0 l1 l2 l3 l4 l5 l6 : Option Value} {lz : eg_Lo} : wps rm K Q c_M_circleOfThree_180 kc ks (l0 :: l1 :: l2 :: l3 :: l4 :: l5 :: l6 :: some (.int x) :: lz) (st) h = wps rm K Q c_M_circleOfThree_183 kc ks (eg_set1 (l0 :: l1 :: l2 :: l3 :: l4 :: l5 :: l6 :: some (.int x) :: lz) 7 (.int (x + (1)))) (st) h := gk_iinc rfl (by decide)
theorem s_M_circleOfThree_183  : wps rm K Q c_M_circleOfThree_183 kc ks loc (st) h = K 47 kc ks loc st h := gk_goto
theorem s_M_circleOfThree_186 {x : Int32} {l0 l1 l2 l3 l4 l5 : Option Value} {lz : eg_Lo} : wps rm K Q c_M_circleOfThree_186 kc ks (l0 :: l1 :: l2 :: l3 :: l4 :: l5 :: some (.int x) :: lz) (st) h = wps rm K Q c_M_circleOfThree_189 kc ks (eg_set1 (l0 :: l1 :: l2 :: l3 :: l4 :: l5 :: some (.int x) :: lz) 6 (.int (x + (1)))) (st) h := gk_iinc rfl (by decide)
theorem s_M_circleOfThree_189  : wps rm K Q c_M_circleOfThree_189 kc ks loc (st) h = K 30 kc ks loc st h := gk_goto
theorem s_M_circleOfThree_192 {x : Int32} {l0 l1 l2 l3 l4 : Option Value} {lz : eg_Lo} : wps rm K Q c_M_circleOfThree_192 kc ks (l0 :: l1 :: l2 :: l3 :: l4 :: some (.int x) :: lz) (st) h = wps rm K Q c_M_circleOfThree_195 kc ks (eg_set1 (l0 :: l1 :: l2 :: l3 :: l4 :: some (.int x) :: lz) 5 (.int (x + (1)))) (st) h := gk_iinc rfl (by decide)
theorem s_M_circleOfThree_195  : wps rm K Q c_M_circleOfThree_195 kc ks loc (st) h = K 13 kc ks loc st h := gk_goto
theorem s_M_circleOfThree_198 {x : Nat} {l : eg_Lo} : wps rm K Q c_M_circleOfThree_198 kc ks (some (.ref x) :: l) (st) h = wps rm K Q c_M_circleOfThree_199 kc ks (some (.ref x) :: l) (.ref x :: st) h := gk_aload rfl
theorem s_M_circleOfThree_199 {x : Nat} : wps rm K Q c_M_circleOfThree_199 kc ks loc (.ref (x + 1) :: st) h = eg_gf h x 12 7 (fun v => wps rm K Q c_M_circleOfThree_202 kc ks loc (v :: st) h) := gk_gf
theorem s_M_circleOfThree_202 {x : Int32} {l0 : Option Value} {l : eg_Lo} : wps rm K Q c_M_circleOfThree_202 kc ks (l0 :: some (.int x) :: l) (st) h = wps rm K Q c_M_circleOfThree_203 kc ks (l0 :: some (.int x) :: l) (.int x :: st) h := gk_iload rfl
theorem s_M_circleOfThree_203  : wps rm K Q c_M_circleOfThree_203 kc ks loc (st) h = wps rm K Q c_M_circleOfThree_204 kc ks loc (.int (5) :: st) h := gk_ic (by decide)
theorem s_M_circleOfThree_204 {x : Nat} {i : Int32} {v : Int32} : wps rm K Q c_M_circleOfThree_204 kc ks loc (.int v :: .int i :: .ref (x + 1) :: st) h = eg_is h x i v (fun h9 => wps rm K Q c_M_circleOfThree_205 kc ks loc (st) h9) := gk_iastore
theorem s_M_circleOfThree_205 {x : Nat} {l : eg_Lo} : wps rm K Q c_M_circleOfThree_205 kc ks (some (.ref x) :: l) (st) h = wps rm K Q c_M_circleOfThree_206 kc ks (some (.ref x) :: l) (.ref x :: st) h := gk_aload rfl
theorem s_M_circleOfThree_206 {x : Nat} : wps rm K Q c_M_circleOfThree_206 kc ks loc (.ref (x + 1) :: st) h = eg_gf h x 12 8 (fun v => wps rm K Q c_M_circleOfThree_209 kc ks loc (v :: st) h) := gk_gf
theorem s_M_circleOfThree_209 {x : Int32} {l0 : Option Value} {l : eg_Lo} : wps rm K Q c_M_circleOfThree_209 kc ks (l0 :: some (.int x) :: l) (st) h = wps rm K Q c_M_circleOfThree_210 kc ks (l0 :: some (.int x) :: l) (.int x :: st) h := gk_iload rfl
theorem s_M_circleOfThree_210  : wps rm K Q c_M_circleOfThree_210 kc ks loc (st) h = wps rm K Q c_M_circleOfThree_211 kc ks loc (.int (3) :: st) h := gk_ic (by decide)
theorem s_M_circleOfThree_211 {x : Nat} {i : Int32} {v : Int32} : wps rm K Q c_M_circleOfThree_211 kc ks loc (.int v :: .int i :: .ref (x + 1) :: st) h = eg_is h x i v (fun h9 => wps rm K Q c_M_circleOfThree_212 kc ks loc (st) h9) := gk_iastore
theorem s_M_circleOfThree_212  : wps rm K Q c_M_circleOfThree_212 kc ks loc (st) h = wps rm K Q c_M_circleOfThree_213 kc ks loc (.int (0) :: st) h := gk_ic (by decide)
theorem s_M_circleOfThree_213 {x : Int32} : wps rm K Q c_M_circleOfThree_213 kc ks loc (.int x :: st) h = wps rm K Q c_M_circleOfThree_215 kc ks (eg_set1 loc 5 (.int x)) (st) h := gk_istore
theorem s_M_circleOfThree_215  : wps rm K Q c_M_circleOfThree_215 kc ks loc (st) h = wps rm K Q c_M_circleOfThree_216 kc ks loc (.int (0) :: st) h := gk_ic (by decide)
theorem s_M_circleOfThree_216 {x : Int32} : wps rm K Q c_M_circleOfThree_216 kc ks loc (.int x :: st) h = wps rm K Q z_M_circleOfThree_218 kc ks (eg_set1 loc 6 (.int x)) (st) h := gk_istore
theorem s_M_circleOfThree_218 {x : Int32} {l0 l1 l2 l3 l4 l5 : Option Value} {l : eg_Lo} : wps rm K Q c_M_circleOfThree_218 kc ks (l0 :: l1 :: l2 :: l3 :: l4 :: l5 :: some (.int x) :: l) (st) h = wps rm K Q c_M_circleOfThree_220 kc ks (l0 :: l1 :: l2 :: l3 :: l4 :: l5 :: some (.int x) :: l) (.int x :: st) h := gk_iload rfl
theorem s_M_circleOfThree_220 {x : Int32} {l0 l1 l2 : Option Value} {l : eg_Lo} : wps rm K Q c_M_circleOfThree_220 kc ks (l0 :: l1 :: l2 :: some (.int x) :: l) (st) h = wps rm K Q c_M_circleOfThree_221 kc ks (l0 :: l1 :: l2 :: some (.int x) :: l) (.int x :: st) h := gk_iload rfl
theorem s_M_circleOfThree_221 {x y : Int32} : wps rm K Q c_M_circleOfThree_221 kc ks loc (.int y :: .int x :: st) h = ((y ≤ x → K 375 kc ks loc st h) ∧ (¬ y ≤ x → wps rm K Q c_M_circleOfThree_224 kc ks loc (st) h)) := gk_if2_ge
theorem s_M_circleOfThree_224 {x : Nat} {l : eg_Lo} : wps rm K Q c_M_circleOfThree_224 kc ks (some (.ref x) :: l) (st) h = wps rm K Q c_M_circleOfThree_225 kc ks (some (.ref x) :: l) (.ref x :: st) h := gk_aload rfl
theorem s_M_circleOfThree_225 {x : Int32} {l0 l1 : Option Value} {l : eg_Lo} : wps rm K Q c_M_circleOfThree_225 kc ks (l0 :: l1 :: some (.int x) :: l) (st) h = wps rm K Q c_M_circleOfThree_226 kc ks (l0 :: l1 :: some (.int x) :: l) (.int x :: st) h := gk_iload rfl
theorem s_M_circleOfThree_226 {x : Int32} {l0 l1 l2 l3 l4 l5 : Option Value} {l : eg_Lo} : wps rm K Q c_M_circleOfThree_226 kc ks (l0 :: l1 :: l2 :: l3 :: l4 :: l5 :: some (.int x) :: l) (st) h = wps rm K Q c_M_circleOfThree_228 kc ks (l0 :: l1 :: l2 :: l3 :: l4 :: l5 :: some (.int x) :: l) (.int x :: st) h := gk_iload rfl
theorem s_M_circleOfThree_228  {a1 : Value} {a2 : Value} {x : Nat} : wps rm K Q c_M_circleOfThree_228 kc ks loc (a2 :: a1 :: .ref (x + 1) :: st) h = (eg_cls h x 12 ∧ st.length ≤ 4 ∧ eg_Cs n_M_isHere (.ref (x + 1) :: [a1, a2]) h (fun v h9 => wps rm K Q c_M_circleOfThree_231 kc ks loc (v.toList ++ st) h9)) := eg_c1_2
theorem s_M_circleOfThree_231 {x : Int32} : wps rm K Q c_M_circleOfThree_231 kc ks loc (.int x :: st) h = ((x = 0 → K 252 kc ks loc st h) ∧ (¬ x = 0 → wps rm K Q c_M_circleOfThree_234 kc ks loc (st) h)) := gk_if1_eq
theorem s_M_circleOfThree_234 {x : Nat} {l : eg_Lo} : wps rm K Q c_M_circleOfThree_234 kc ks (some (.ref x) :: l) (st) h = wps rm K Q c_M_circleOfThree_235 kc ks (some (.ref x) :: l) (.ref x :: st) h := gk_aload rfl
theorem s_M_circleOfThree_235 {x : Int32} {l0 l1 : Option Value} {l : eg_Lo} : wps rm K Q c_M_circleOfThree_235 kc ks (l0 :: l1 :: some (.int x) :: l) (st) h = wps rm K Q c_M_circleOfThree_236 kc ks (l0 :: l1 :: some (.int x) :: l) (.int x :: st) h := gk_iload rfl
theorem s_M_circleOfThree_236 {x : Int32} {l0 l1 l2 l3 : Option Value} {l : eg_Lo} : wps rm K Q c_M_circleOfThree_236 kc ks (l0 :: l1 :: l2 :: l3 :: some (.int x) :: l) (st) h = wps rm K Q c_M_circleOfThree_238 kc ks (l0 :: l1 :: l2 :: l3 :: some (.int x) :: l) (.int x :: st) h := gk_iload rfl
theorem s_M_circleOfThree_238 {x : Int32} {l0 l1 l2 l3 l4 l5 : Option Value} {l : eg_Lo} : wps rm K Q c_M_circleOfThree_238 kc ks (l0 :: l1 :: l2 :: l3 :: l4 :: l5 :: some (.int x) :: l) (st) h = wps rm K Q c_M_circleOfThree_240 kc ks (l0 :: l1 :: l2 :: l3 :: l4 :: l5 :: some (.int x) :: l) (.int x :: st) h := gk_iload rfl
theorem s_M_circleOfThree_240  {a1 : Value} {a2 : Value} {a3 : Value} {x : Nat} : wps rm K Q c_M_circleOfThree_240 kc ks loc (a3 :: a2 :: a1 :: .ref (x + 1) :: st) h = (eg_cls h x 12 ∧ st.length ≤ 4 ∧ eg_Cs n_M_outside (.ref (x + 1) :: [a1, a2, a3]) h (fun v h9 => wps rm K Q c_M_circleOfThree_243 kc ks loc (v.toList ++ st) h9)) := eg_c1_3
theorem s_M_circleOfThree_243  : wps rm K Q c_M_circleOfThree_243 kc ks loc (st) h = wps rm K Q c_M_circleOfThree_244 kc ks loc (.long (0) :: st) h := gk_lc (by decide)
theorem s_M_circleOfThree_244 {x y : Int64} : wps rm K Q c_M_circleOfThree_244 kc ks loc (.long y :: .long x :: st) h = wps rm K Q c_M_circleOfThree_245 kc ks loc (.int (lg_cmp x y) :: st) h := gk_lcmp
theorem s_M_circleOfThree_245 {x : Int32} : wps rm K Q c_M_circleOfThree_245 kc ks loc (.int x :: st) h = ((¬ x = 0 → K 252 kc ks loc st h) ∧ (x = 0 → wps rm K Q c_M_circleOfThree_248 kc ks loc (st) h)) := gk_if1_ne
theorem s_M_circleOfThree_248  : wps rm K Q c_M_circleOfThree_248 kc ks loc (st) h = wps rm K Q c_M_circleOfThree_249 kc ks loc (.int (1) :: st) h := gk_ic (by decide)
theorem s_M_circleOfThree_249  : wps rm K Q c_M_circleOfThree_249 kc ks loc (st) h = K 253 kc ks loc st h := gk_goto
theorem s_M_circleOfThree_252  : wps rm K Q c_M_circleOfThree_252 kc ks loc (st) h = wps rm K Q c_M_circleOfThree_253 kc ks loc (.int (0) :: st) h := gk_ic (by decide)
theorem s_M_circleOfThree_253 {x : Int32} : wps rm K Q c_M_circleOfThree_253 kc ks loc (.int x :: st) h = wps rm K Q c_M_circleOfThree_255 kc ks (eg_set1 loc 7 (.int x)) (st) h := gk_istore
theorem s_M_circleOfThree_255  : wps rm K Q c_M_circleOfThree_255 kc ks loc (st) h = wps rm K Q c_M_circleOfThree_256 kc ks loc (.int (0) :: st) h := gk_ic (by decide)
theorem s_M_circleOfThree_256 {x : Int32} : wps rm K Q c_M_circleOfThree_256 kc ks loc (.int x :: st) h = wps rm K Q z_M_circleOfThree_258 kc ks (eg_set1 loc 8 (.int x)) (st) h := gk_istore
theorem s_M_circleOfThree_258 {x : Int32} {l0 l1 l2 l3 l4 l5 l6 l7 : Option Value} {l : eg_Lo} : wps rm K Q c_M_circleOfThree_258 kc ks (l0 :: l1 :: l2 :: l3 :: l4 :: l5 :: l6 :: l7 :: some (.int x) :: l) (st) h = wps rm K Q c_M_circleOfThree_260 kc ks (l0 :: l1 :: l2 :: l3 :: l4 :: l5 :: l6 :: l7 :: some (.int x) :: l) (.int x :: st) h := gk_iload rfl
theorem s_M_circleOfThree_260 {x : Int32} {l0 l1 l2 l3 l4 : Option Value} {l : eg_Lo} : wps rm K Q c_M_circleOfThree_260 kc ks (l0 :: l1 :: l2 :: l3 :: l4 :: some (.int x) :: l) (st) h = wps rm K Q c_M_circleOfThree_262 kc ks (l0 :: l1 :: l2 :: l3 :: l4 :: some (.int x) :: l) (.int x :: st) h := gk_iload rfl
theorem s_M_circleOfThree_262 {x y : Int32} : wps rm K Q c_M_circleOfThree_262 kc ks loc (.int y :: .int x :: st) h = ((y ≤ x → K 341 kc ks loc st h) ∧ (¬ y ≤ x → wps rm K Q c_M_circleOfThree_265 kc ks loc (st) h)) := gk_if2_ge
theorem s_M_circleOfThree_265 {x : Int32} {l0 l1 : Option Value} {l : eg_Lo} : wps rm K Q c_M_circleOfThree_265 kc ks (l0 :: l1 :: some (.int x) :: l) (st) h = wps rm K Q c_M_circleOfThree_266 kc ks (l0 :: l1 :: some (.int x) :: l) (.int x :: st) h := gk_iload rfl
theorem s_M_circleOfThree_266 {x : Nat} {l : eg_Lo} : wps rm K Q c_M_circleOfThree_266 kc ks (some (.ref x) :: l) (st) h = wps rm K Q c_M_circleOfThree_267 kc ks (some (.ref x) :: l) (.ref x :: st) h := gk_aload rfl
theorem s_M_circleOfThree_267 {x : Nat} : wps rm K Q c_M_circleOfThree_267 kc ks loc (.ref (x + 1) :: st) h = eg_gf h x 12 9 (fun v => wps rm K Q c_M_circleOfThree_270 kc ks loc (v :: st) h) := gk_gf
theorem s_M_circleOfThree_270  : wps rm K Q c_M_circleOfThree_270 kc ks loc (st) h = wps rm K Q c_M_circleOfThree_272 kc ks loc (.int (6) :: st) h := gk_ic (by decide)
theorem s_M_circleOfThree_272 {x : Int32} {l0 : Option Value} {l : eg_Lo} : wps rm K Q c_M_circleOfThree_272 kc ks (l0 :: some (.int x) :: l) (st) h = wps rm K Q c_M_circleOfThree_273 kc ks (l0 :: some (.int x) :: l) (.int x :: st) h := gk_iload rfl
theorem s_M_circleOfThree_273 {x y : Int32} : wps rm K Q c_M_circleOfThree_273 kc ks loc (.int y :: .int x :: st) h = wps rm K Q c_M_circleOfThree_274 kc ks loc (.int (x * y) :: st) h := gk_imul
theorem s_M_circleOfThree_274 {x : Int32} {l0 l1 l2 l3 l4 l5 l6 l7 : Option Value} {l : eg_Lo} : wps rm K Q c_M_circleOfThree_274 kc ks (l0 :: l1 :: l2 :: l3 :: l4 :: l5 :: l6 :: l7 :: some (.int x) :: l) (st) h = wps rm K Q c_M_circleOfThree_276 kc ks (l0 :: l1 :: l2 :: l3 :: l4 :: l5 :: l6 :: l7 :: some (.int x) :: l) (.int x :: st) h := gk_iload rfl
theorem s_M_circleOfThree_276 {x y : Int32} : wps rm K Q c_M_circleOfThree_276 kc ks loc (.int y :: .int x :: st) h = wps rm K Q c_M_circleOfThree_277 kc ks loc (.int (x + y) :: st) h := gk_iadd
theorem s_M_circleOfThree_277 {x : Nat} {i : Int32} : wps rm K Q c_M_circleOfThree_277 kc ks loc (.int i :: .ref (x + 1) :: st) h = eg_ia h x i (fun v => wps rm K Q c_M_circleOfThree_278 kc ks loc (.int v :: st) h) := gk_iaload
theorem s_M_circleOfThree_278  {a1 : Value} {a2 : Value} : wps rm K Q c_M_circleOfThree_278 kc ks loc (a2 :: a1 :: st) h = (st.length ≤ 4 ∧ eg_Cs n_M_at_II [a1, a2] h (fun v h9 => wps rm K Q c_M_circleOfThree_281 kc ks loc (v.toList ++ st) h9)) := eg_c0_2
theorem s_M_circleOfThree_281 {x : Int32} : wps rm K Q c_M_circleOfThree_281 kc ks loc (.int x :: st) h = wps rm K Q c_M_circleOfThree_283 kc ks (eg_set1 loc 9 (.int x)) (st) h := gk_istore
theorem s_M_circleOfThree_283 {x : Int32} {l0 l1 l2 l3 l4 l5 l6 : Option Value} {l : eg_Lo} : wps rm K Q c_M_circleOfThree_283 kc ks (l0 :: l1 :: l2 :: l3 :: l4 :: l5 :: l6 :: some (.int x) :: l) (st) h = wps rm K Q c_M_circleOfThree_285 kc ks (l0 :: l1 :: l2 :: l3 :: l4 :: l5 :: l6 :: some (.int x) :: l) (.int x :: st) h := gk_iload rfl
theorem s_M_circleOfThree_285 {x : Nat} {l : eg_Lo} : wps rm K Q c_M_circleOfThree_285 kc ks (some (.ref x) :: l) (st) h = wps rm K Q c_M_circleOfThree_286 kc ks (some (.ref x) :: l) (.ref x :: st) h := gk_aload rfl
theorem s_M_circleOfThree_286 {x : Nat} : wps rm K Q c_M_circleOfThree_286 kc ks loc (.ref (x + 1) :: st) h = eg_gf h x 12 1 (fun v => wps rm K Q c_M_circleOfThree_289 kc ks loc (v :: st) h) := gk_gf
theorem s_M_circleOfThree_289 {x : Int32} {l0 l1 l2 l3 l4 l5 l6 l7 l8 : Option Value} {l : eg_Lo} : wps rm K Q c_M_circleOfThree_289 kc ks (l0 :: l1 :: l2 :: l3 :: l4 :: l5 :: l6 :: l7 :: l8 :: some (.int x) :: l) (st) h = wps rm K Q c_M_circleOfThree_291 kc ks (l0 :: l1 :: l2 :: l3 :: l4 :: l5 :: l6 :: l7 :: l8 :: some (.int x) :: l) (.int x :: st) h := gk_iload rfl
theorem s_M_circleOfThree_291 {x : Nat} {i : Int32} : wps rm K Q c_M_circleOfThree_291 kc ks loc (.int i :: .ref (x + 1) :: st) h = eg_ia h x i (fun v => wps rm K Q c_M_circleOfThree_292 kc ks loc (.int v :: st) h) := gk_iaload
theorem s_M_circleOfThree_292 {x : Nat} {l : eg_Lo} : wps rm K Q c_M_circleOfThree_292 kc ks (some (.ref x) :: l) (st) h = wps rm K Q c_M_circleOfThree_293 kc ks (some (.ref x) :: l) (.ref x :: st) h := gk_aload rfl
theorem s_M_circleOfThree_293 {x : Nat} : wps rm K Q c_M_circleOfThree_293 kc ks loc (.ref (x + 1) :: st) h = eg_gf h x 12 1 (fun v => wps rm K Q c_M_circleOfThree_296 kc ks loc (v :: st) h) := gk_gf
theorem s_M_circleOfThree_296 {x : Int32} {l0 l1 : Option Value} {l : eg_Lo} : wps rm K Q c_M_circleOfThree_296 kc ks (l0 :: l1 :: some (.int x) :: l) (st) h = wps rm K Q c_M_circleOfThree_297 kc ks (l0 :: l1 :: some (.int x) :: l) (.int x :: st) h := gk_iload rfl
theorem s_M_circleOfThree_297 {x : Int32} {l0 l1 l2 l3 l4 l5 : Option Value} {l : eg_Lo} : wps rm K Q c_M_circleOfThree_297 kc ks (l0 :: l1 :: l2 :: l3 :: l4 :: l5 :: some (.int x) :: l) (st) h = wps rm K Q c_M_circleOfThree_299 kc ks (l0 :: l1 :: l2 :: l3 :: l4 :: l5 :: some (.int x) :: l) (.int x :: st) h := gk_iload rfl
theorem s_M_circleOfThree_299  {a1 : Value} {a2 : Value} : wps rm K Q c_M_circleOfThree_299 kc ks loc (a2 :: a1 :: st) h = (st.length ≤ 4 ∧ eg_Cs n_M_at_II [a1, a2] h (fun v h9 => wps rm K Q c_M_circleOfThree_302 kc ks loc (v.toList ++ st) h9)) := eg_c0_2
theorem s_M_circleOfThree_302 {x : Nat} {i : Int32} : wps rm K Q c_M_circleOfThree_302 kc ks loc (.int i :: .ref (x + 1) :: st) h = eg_ia h x i (fun v => wps rm K Q c_M_circleOfThree_303 kc ks loc (.int v :: st) h) := gk_iaload
theorem s_M_circleOfThree_303 {x y : Int32} : wps rm K Q c_M_circleOfThree_303 kc ks loc (.int y :: .int x :: st) h = ((¬ x = y → K 327 kc ks loc st h) ∧ (x = y → wps rm K Q c_M_circleOfThree_306 kc ks loc (st) h)) := gk_if2_ne
theorem s_M_circleOfThree_306 {x : Nat} {l : eg_Lo} : wps rm K Q c_M_circleOfThree_306 kc ks (some (.ref x) :: l) (st) h = wps rm K Q c_M_circleOfThree_307 kc ks (some (.ref x) :: l) (.ref x :: st) h := gk_aload rfl
theorem s_M_circleOfThree_307 {x : Nat} : wps rm K Q c_M_circleOfThree_307 kc ks loc (.ref (x + 1) :: st) h = eg_gf h x 12 2 (fun v => wps rm K Q c_M_circleOfThree_310 kc ks loc (v :: st) h) := gk_gf
theorem s_M_circleOfThree_310 {x : Int32} {l0 l1 l2 l3 l4 l5 l6 l7 l8 : Option Value} {l : eg_Lo} : wps rm K Q c_M_circleOfThree_310 kc ks (l0 :: l1 :: l2 :: l3 :: l4 :: l5 :: l6 :: l7 :: l8 :: some (.int x) :: l) (st) h = wps rm K Q c_M_circleOfThree_312 kc ks (l0 :: l1 :: l2 :: l3 :: l4 :: l5 :: l6 :: l7 :: l8 :: some (.int x) :: l) (.int x :: st) h := gk_iload rfl
theorem s_M_circleOfThree_312 {x : Nat} {i : Int32} : wps rm K Q c_M_circleOfThree_312 kc ks loc (.int i :: .ref (x + 1) :: st) h = eg_ia h x i (fun v => wps rm K Q c_M_circleOfThree_313 kc ks loc (.int v :: st) h) := gk_iaload
theorem s_M_circleOfThree_313 {x : Nat} {l : eg_Lo} : wps rm K Q c_M_circleOfThree_313 kc ks (some (.ref x) :: l) (st) h = wps rm K Q c_M_circleOfThree_314 kc ks (some (.ref x) :: l) (.ref x :: st) h := gk_aload rfl
theorem s_M_circleOfThree_314 {x : Nat} : wps rm K Q c_M_circleOfThree_314 kc ks loc (.ref (x + 1) :: st) h = eg_gf h x 12 2 (fun v => wps rm K Q c_M_circleOfThree_317 kc ks loc (v :: st) h) := gk_gf
theorem s_M_circleOfThree_317 {x : Int32} {l0 l1 : Option Value} {l : eg_Lo} : wps rm K Q c_M_circleOfThree_317 kc ks (l0 :: l1 :: some (.int x) :: l) (st) h = wps rm K Q c_M_circleOfThree_318 kc ks (l0 :: l1 :: some (.int x) :: l) (.int x :: st) h := gk_iload rfl
theorem s_M_circleOfThree_318 {x : Int32} {l0 l1 l2 l3 l4 l5 : Option Value} {l : eg_Lo} : wps rm K Q c_M_circleOfThree_318 kc ks (l0 :: l1 :: l2 :: l3 :: l4 :: l5 :: some (.int x) :: l) (st) h = wps rm K Q c_M_circleOfThree_320 kc ks (l0 :: l1 :: l2 :: l3 :: l4 :: l5 :: some (.int x) :: l) (.int x :: st) h := gk_iload rfl
theorem s_M_circleOfThree_320  {a1 : Value} {a2 : Value} : wps rm K Q c_M_circleOfThree_320 kc ks loc (a2 :: a1 :: st) h = (st.length ≤ 4 ∧ eg_Cs n_M_at_II [a1, a2] h (fun v h9 => wps rm K Q c_M_circleOfThree_323 kc ks loc (v.toList ++ st) h9)) := eg_c0_2
theorem s_M_circleOfThree_323 {x : Nat} {i : Int32} : wps rm K Q c_M_circleOfThree_323 kc ks loc (.int i :: .ref (x + 1) :: st) h = eg_ia h x i (fun v => wps rm K Q c_M_circleOfThree_324 kc ks loc (.int v :: st) h) := gk_iaload
theorem s_M_circleOfThree_324 {x y : Int32} : wps rm K Q c_M_circleOfThree_324 kc ks loc (.int y :: .int x :: st) h = ((x = y → K 331 kc ks loc st h) ∧ (¬ x = y → wps rm K Q c_M_circleOfThree_327 kc ks loc (st) h)) := gk_if2_eq
theorem s_M_circleOfThree_327  : wps rm K Q c_M_circleOfThree_327 kc ks loc (st) h = wps rm K Q c_M_circleOfThree_328 kc ks loc (.int (1) :: st) h := gk_ic (by decide)
theorem s_M_circleOfThree_328  : wps rm K Q c_M_circleOfThree_328 kc ks loc (st) h = K 332 kc ks loc st h := gk_goto
theorem s_M_circleOfThree_331  : wps rm K Q c_M_circleOfThree_331 kc ks loc (st) h = wps rm K Q c_M_circleOfThree_332 kc ks loc (.int (0) :: st) h := gk_ic (by decide)
theorem s_M_circleOfThree_332 {x y : Int32} : wps rm K Q c_M_circleOfThree_332 kc ks loc (.int y :: .int x :: st) h = wps rm K Q c_M_circleOfThree_333 kc ks loc (.int (x &&& y) :: st) h := gk_iand
theorem s_M_circleOfThree_333 {x : Int32} : wps rm K Q c_M_circleOfThree_333 kc ks loc (.int x :: st) h = wps rm K Q c_M_circleOfThree_335 kc ks (eg_set1 loc 7 (.int x)) (st) h := gk_istore
theorem s_M_circleOfThree_335 {x : Int32} {l0 l1 l2 l3 l4 l5 l6 l7 : Option Value} {lz : eg_Lo} : wps rm K Q c_M_circleOfThree_335 kc ks (l0 :: l1 :: l2 :: l3 :: l4 :: l5 :: l6 :: l7 :: some (.int x) :: lz) (st) h = wps rm K Q c_M_circleOfThree_338 kc ks (eg_set1 (l0 :: l1 :: l2 :: l3 :: l4 :: l5 :: l6 :: l7 :: some (.int x) :: lz) 8 (.int (x + (1)))) (st) h := gk_iinc rfl (by decide)
theorem s_M_circleOfThree_338  : wps rm K Q c_M_circleOfThree_338 kc ks loc (st) h = K 258 kc ks loc st h := gk_goto
theorem s_M_circleOfThree_341 {x : Int32} {l0 l1 l2 l3 l4 l5 l6 : Option Value} {l : eg_Lo} : wps rm K Q c_M_circleOfThree_341 kc ks (l0 :: l1 :: l2 :: l3 :: l4 :: l5 :: l6 :: some (.int x) :: l) (st) h = wps rm K Q c_M_circleOfThree_343 kc ks (l0 :: l1 :: l2 :: l3 :: l4 :: l5 :: l6 :: some (.int x) :: l) (.int x :: st) h := gk_iload rfl
theorem s_M_circleOfThree_343 {x : Int32} : wps rm K Q c_M_circleOfThree_343 kc ks loc (.int x :: st) h = ((x = 0 → K 369 kc ks loc st h) ∧ (¬ x = 0 → wps rm K Q c_M_circleOfThree_346 kc ks loc (st) h)) := gk_if1_eq
theorem s_M_circleOfThree_346 {x : Int32} {l0 l1 l2 l3 l4 : Option Value} {l : eg_Lo} : wps rm K Q c_M_circleOfThree_346 kc ks (l0 :: l1 :: l2 :: l3 :: l4 :: some (.int x) :: l) (st) h = wps rm K Q c_M_circleOfThree_348 kc ks (l0 :: l1 :: l2 :: l3 :: l4 :: some (.int x) :: l) (.int x :: st) h := gk_iload rfl
theorem s_M_circleOfThree_348  : wps rm K Q c_M_circleOfThree_348 kc ks loc (st) h = wps rm K Q c_M_circleOfThree_349 kc ks loc (.int (3) :: st) h := gk_ic (by decide)
theorem s_M_circleOfThree_349 {x y : Int32} : wps rm K Q c_M_circleOfThree_349 kc ks loc (.int y :: .int x :: st) h = ((y ≤ x → K 369 kc ks loc st h) ∧ (¬ y ≤ x → wps rm K Q c_M_circleOfThree_352 kc ks loc (st) h)) := gk_if2_ge
theorem s_M_circleOfThree_352 {x : Nat} {l : eg_Lo} : wps rm K Q c_M_circleOfThree_352 kc ks (some (.ref x) :: l) (st) h = wps rm K Q c_M_circleOfThree_353 kc ks (some (.ref x) :: l) (.ref x :: st) h := gk_aload rfl
theorem s_M_circleOfThree_353 {x : Nat} : wps rm K Q c_M_circleOfThree_353 kc ks loc (.ref (x + 1) :: st) h = eg_gf h x 12 9 (fun v => wps rm K Q c_M_circleOfThree_356 kc ks loc (v :: st) h) := gk_gf
theorem s_M_circleOfThree_356  : wps rm K Q c_M_circleOfThree_356 kc ks loc (st) h = wps rm K Q c_M_circleOfThree_358 kc ks loc (.int (6) :: st) h := gk_ic (by decide)
theorem s_M_circleOfThree_358 {x : Int32} {l0 : Option Value} {l : eg_Lo} : wps rm K Q c_M_circleOfThree_358 kc ks (l0 :: some (.int x) :: l) (st) h = wps rm K Q c_M_circleOfThree_359 kc ks (l0 :: some (.int x) :: l) (.int x :: st) h := gk_iload rfl
theorem s_M_circleOfThree_359 {x y : Int32} : wps rm K Q c_M_circleOfThree_359 kc ks loc (.int y :: .int x :: st) h = wps rm K Q c_M_circleOfThree_360 kc ks loc (.int (x * y) :: st) h := gk_imul
theorem s_M_circleOfThree_360 {x : Int32} {l0 l1 l2 l3 l4 : Option Value} {l : eg_Lo} : wps rm K Q c_M_circleOfThree_360 kc ks (l0 :: l1 :: l2 :: l3 :: l4 :: some (.int x) :: l) (st) h = wps rm K Q c_M_circleOfThree_362 kc ks (l0 :: l1 :: l2 :: l3 :: l4 :: some (.int x) :: l) (.int x :: st) h := gk_iload rfl
theorem s_M_circleOfThree_362 {x y : Int32} : wps rm K Q c_M_circleOfThree_362 kc ks loc (.int y :: .int x :: st) h = wps rm K Q c_M_circleOfThree_363 kc ks loc (.int (x + y) :: st) h := gk_iadd
theorem s_M_circleOfThree_363 {x : Int32} {l0 l1 l2 l3 l4 l5 : Option Value} {l : eg_Lo} : wps rm K Q c_M_circleOfThree_363 kc ks (l0 :: l1 :: l2 :: l3 :: l4 :: l5 :: some (.int x) :: l) (st) h = wps rm K Q c_M_circleOfThree_365 kc ks (l0 :: l1 :: l2 :: l3 :: l4 :: l5 :: some (.int x) :: l) (.int x :: st) h := gk_iload rfl
theorem s_M_circleOfThree_365 {x : Nat} {i : Int32} {v : Int32} : wps rm K Q c_M_circleOfThree_365 kc ks loc (.int v :: .int i :: .ref (x + 1) :: st) h = eg_is h x i v (fun h9 => wps rm K Q c_M_circleOfThree_366 kc ks loc (st) h9) := gk_iastore
theorem s_M_circleOfThree_366 {x : Int32} {l0 l1 l2 l3 l4 : Option Value} {lz : eg_Lo} : wps rm K Q c_M_circleOfThree_366 kc ks (l0 :: l1 :: l2 :: l3 :: l4 :: some (.int x) :: lz) (st) h = wps rm K Q c_M_circleOfThree_369 kc ks (eg_set1 (l0 :: l1 :: l2 :: l3 :: l4 :: some (.int x) :: lz) 5 (.int (x + (1)))) (st) h := gk_iinc rfl (by decide)
theorem s_M_circleOfThree_369 {x : Int32} {l0 l1 l2 l3 l4 l5 : Option Value} {lz : eg_Lo} : wps rm K Q c_M_circleOfThree_369 kc ks (l0 :: l1 :: l2 :: l3 :: l4 :: l5 :: some (.int x) :: lz) (st) h = wps rm K Q c_M_circleOfThree_372 kc ks (eg_set1 (l0 :: l1 :: l2 :: l3 :: l4 :: l5 :: some (.int x) :: lz) 6 (.int (x + (1)))) (st) h := gk_iinc rfl (by decide)
theorem s_M_circleOfThree_372  : wps rm K Q c_M_circleOfThree_372 kc ks loc (st) h = K 218 kc ks loc st h := gk_goto
theorem s_M_circleOfThree_375 {x : Nat} {l : eg_Lo} : wps rm K Q c_M_circleOfThree_375 kc ks (some (.ref x) :: l) (st) h = wps rm K Q c_M_circleOfThree_376 kc ks (some (.ref x) :: l) (.ref x :: st) h := gk_aload rfl
theorem s_M_circleOfThree_376 {x : Int32} {l0 : Option Value} {l : eg_Lo} : wps rm K Q c_M_circleOfThree_376 kc ks (l0 :: some (.int x) :: l) (st) h = wps rm K Q c_M_circleOfThree_377 kc ks (l0 :: some (.int x) :: l) (.int x :: st) h := gk_iload rfl
theorem s_M_circleOfThree_377 {x : Nat} {l : eg_Lo} : wps rm K Q c_M_circleOfThree_377 kc ks (some (.ref x) :: l) (st) h = wps rm K Q c_M_circleOfThree_378 kc ks (some (.ref x) :: l) (.ref x :: st) h := gk_aload rfl
theorem s_M_circleOfThree_378 {x : Nat} : wps rm K Q c_M_circleOfThree_378 kc ks loc (.ref (x + 1) :: st) h = eg_gf h x 12 34 (fun v => wps rm K Q c_M_circleOfThree_381 kc ks loc (v :: st) h) := gk_gf
theorem s_M_circleOfThree_381 {x : Nat} {l : eg_Lo} : wps rm K Q c_M_circleOfThree_381 kc ks (some (.ref x) :: l) (st) h = wps rm K Q c_M_circleOfThree_382 kc ks (some (.ref x) :: l) (.ref x :: st) h := gk_aload rfl
theorem s_M_circleOfThree_382 {x : Nat} : wps rm K Q c_M_circleOfThree_382 kc ks loc (.ref (x + 1) :: st) h = eg_gf h x 12 34 (fun v => wps rm K Q c_M_circleOfThree_385 kc ks loc (v :: st) h) := gk_gf
theorem s_M_circleOfThree_385 {x y : Int64} : wps rm K Q c_M_circleOfThree_385 kc ks loc (.long y :: .long x :: st) h = wps rm K Q c_M_circleOfThree_386 kc ks loc (.long (x * y) :: st) h := gk_lmul
theorem s_M_circleOfThree_386 {x : Nat} {l : eg_Lo} : wps rm K Q c_M_circleOfThree_386 kc ks (some (.ref x) :: l) (st) h = wps rm K Q c_M_circleOfThree_387 kc ks (some (.ref x) :: l) (.ref x :: st) h := gk_aload rfl
theorem s_M_circleOfThree_387 {x : Nat} : wps rm K Q c_M_circleOfThree_387 kc ks loc (.ref (x + 1) :: st) h = eg_gf h x 12 35 (fun v => wps rm K Q c_M_circleOfThree_390 kc ks loc (v :: st) h) := gk_gf
theorem s_M_circleOfThree_390 {x : Nat} {l : eg_Lo} : wps rm K Q c_M_circleOfThree_390 kc ks (some (.ref x) :: l) (st) h = wps rm K Q c_M_circleOfThree_391 kc ks (some (.ref x) :: l) (.ref x :: st) h := gk_aload rfl
theorem s_M_circleOfThree_391 {x : Nat} : wps rm K Q c_M_circleOfThree_391 kc ks loc (.ref (x + 1) :: st) h = eg_gf h x 12 35 (fun v => wps rm K Q c_M_circleOfThree_394 kc ks loc (v :: st) h) := gk_gf
theorem s_M_circleOfThree_394 {x y : Int64} : wps rm K Q c_M_circleOfThree_394 kc ks loc (.long y :: .long x :: st) h = wps rm K Q c_M_circleOfThree_395 kc ks loc (.long (x * y) :: st) h := gk_lmul
theorem s_M_circleOfThree_395 {x y : Int64} : wps rm K Q c_M_circleOfThree_395 kc ks loc (.long y :: .long x :: st) h = wps rm K Q c_M_circleOfThree_396 kc ks loc (.long (x + y) :: st) h := gk_ladd
theorem s_M_circleOfThree_396 {x : Nat} {l : eg_Lo} : wps rm K Q c_M_circleOfThree_396 kc ks (some (.ref x) :: l) (st) h = wps rm K Q c_M_circleOfThree_397 kc ks (some (.ref x) :: l) (.ref x :: st) h := gk_aload rfl
theorem s_M_circleOfThree_397 {x : Nat} : wps rm K Q c_M_circleOfThree_397 kc ks loc (.ref (x + 1) :: st) h = eg_gf h x 12 36 (fun v => wps rm K Q c_M_circleOfThree_400 kc ks loc (v :: st) h) := gk_gf
theorem s_M_circleOfThree_400 {x : Nat} {l : eg_Lo} : wps rm K Q c_M_circleOfThree_400 kc ks (some (.ref x) :: l) (st) h = wps rm K Q c_M_circleOfThree_401 kc ks (some (.ref x) :: l) (.ref x :: st) h := gk_aload rfl
theorem s_M_circleOfThree_401 {x : Nat} : wps rm K Q c_M_circleOfThree_401 kc ks loc (.ref (x + 1) :: st) h = eg_gf h x 12 36 (fun v => wps rm K Q c_M_circleOfThree_404 kc ks loc (v :: st) h) := gk_gf
theorem s_M_circleOfThree_404 {x y : Int64} : wps rm K Q c_M_circleOfThree_404 kc ks loc (.long y :: .long x :: st) h = wps rm K Q c_M_circleOfThree_405 kc ks loc (.long (x * y) :: st) h := gk_lmul
theorem s_M_circleOfThree_405  {a1 : Value} {a2 : Value} {a3 : Value} {x : Nat} : wps rm K Q c_M_circleOfThree_405 kc ks loc (a3 :: a2 :: a1 :: .ref (x + 1) :: st) h = (eg_cls h x 12 ∧ st.length ≤ 4 ∧ eg_Cs n_M_keepMiss (.ref (x + 1) :: [a1, a2, a3]) h (fun v h9 => wps rm K Q c_M_circleOfThree_408 kc ks loc (v.toList ++ st) h9)) := eg_c1_3
theorem s_M_circleOfThree_408 {x : Nat} {l : eg_Lo} : wps rm K Q c_M_circleOfThree_408 kc ks (some (.ref x) :: l) (st) h = wps rm K Q c_M_circleOfThree_409 kc ks (some (.ref x) :: l) (.ref x :: st) h := gk_aload rfl
theorem s_M_circleOfThree_409 {x : Int32} {l0 : Option Value} {l : eg_Lo} : wps rm K Q c_M_circleOfThree_409 kc ks (l0 :: some (.int x) :: l) (st) h = wps rm K Q c_M_circleOfThree_410 kc ks (l0 :: some (.int x) :: l) (.int x :: st) h := gk_iload rfl
theorem s_M_circleOfThree_410 {x : Nat} {l : eg_Lo} : wps rm K Q c_M_circleOfThree_410 kc ks (some (.ref x) :: l) (st) h = wps rm K Q c_M_circleOfThree_411 kc ks (some (.ref x) :: l) (.ref x :: st) h := gk_aload rfl
theorem s_M_circleOfThree_411 {x : Nat} : wps rm K Q c_M_circleOfThree_411 kc ks loc (.ref (x + 1) :: st) h = eg_gf h x 12 1 (fun v => wps rm K Q c_M_circleOfThree_414 kc ks loc (v :: st) h) := gk_gf
theorem s_M_circleOfThree_414 {x : Int32} {l0 l1 : Option Value} {l : eg_Lo} : wps rm K Q c_M_circleOfThree_414 kc ks (l0 :: l1 :: some (.int x) :: l) (st) h = wps rm K Q c_M_circleOfThree_415 kc ks (l0 :: l1 :: some (.int x) :: l) (.int x :: st) h := gk_iload rfl
theorem s_M_circleOfThree_415 {x : Int32} {l0 l1 l2 l3 : Option Value} {l : eg_Lo} : wps rm K Q c_M_circleOfThree_415 kc ks (l0 :: l1 :: l2 :: l3 :: some (.int x) :: l) (st) h = wps rm K Q c_M_circleOfThree_417 kc ks (l0 :: l1 :: l2 :: l3 :: some (.int x) :: l) (.int x :: st) h := gk_iload rfl
theorem s_M_circleOfThree_417  {a1 : Value} {a2 : Value} : wps rm K Q c_M_circleOfThree_417 kc ks loc (a2 :: a1 :: st) h = (st.length ≤ 4 ∧ eg_Cs n_M_at_II [a1, a2] h (fun v h9 => wps rm K Q c_M_circleOfThree_420 kc ks loc (v.toList ++ st) h9)) := eg_c0_2
theorem s_M_circleOfThree_420 {x : Nat} {i : Int32} : wps rm K Q c_M_circleOfThree_420 kc ks loc (.int i :: .ref (x + 1) :: st) h = eg_ia h x i (fun v => wps rm K Q c_M_circleOfThree_421 kc ks loc (.int v :: st) h) := gk_iaload
theorem s_M_circleOfThree_421 {x : Int32} : wps rm K Q c_M_circleOfThree_421 kc ks loc (.int x :: st) h = wps rm K Q c_M_circleOfThree_422 kc ks loc (.long (x.toInt64) :: st) h := gk_i2l
theorem s_M_circleOfThree_422 {x : Nat} {l : eg_Lo} : wps rm K Q c_M_circleOfThree_422 kc ks (some (.ref x) :: l) (st) h = wps rm K Q c_M_circleOfThree_423 kc ks (some (.ref x) :: l) (.ref x :: st) h := gk_aload rfl
theorem s_M_circleOfThree_423 {x : Nat} : wps rm K Q c_M_circleOfThree_423 kc ks loc (.ref (x + 1) :: st) h = eg_gf h x 12 36 (fun v => wps rm K Q c_M_circleOfThree_426 kc ks loc (v :: st) h) := gk_gf
theorem s_M_circleOfThree_426 {x y : Int64} : wps rm K Q c_M_circleOfThree_426 kc ks loc (.long y :: .long x :: st) h = wps rm K Q c_M_circleOfThree_427 kc ks loc (.long (x * y) :: st) h := gk_lmul
theorem s_M_circleOfThree_427 {x : Nat} {l : eg_Lo} : wps rm K Q c_M_circleOfThree_427 kc ks (some (.ref x) :: l) (st) h = wps rm K Q c_M_circleOfThree_428 kc ks (some (.ref x) :: l) (.ref x :: st) h := gk_aload rfl
theorem s_M_circleOfThree_428 {x : Nat} : wps rm K Q c_M_circleOfThree_428 kc ks loc (.ref (x + 1) :: st) h = eg_gf h x 12 34 (fun v => wps rm K Q c_M_circleOfThree_431 kc ks loc (v :: st) h) := gk_gf
theorem s_M_circleOfThree_431 {x y : Int64} : wps rm K Q c_M_circleOfThree_431 kc ks loc (.long y :: .long x :: st) h = wps rm K Q c_M_circleOfThree_432 kc ks loc (.long (x + y) :: st) h := gk_ladd
theorem s_M_circleOfThree_432 {x : Nat} {l : eg_Lo} : wps rm K Q c_M_circleOfThree_432 kc ks (some (.ref x) :: l) (st) h = wps rm K Q c_M_circleOfThree_433 kc ks (some (.ref x) :: l) (.ref x :: st) h := gk_aload rfl
theorem s_M_circleOfThree_433 {x : Nat} : wps rm K Q c_M_circleOfThree_433 kc ks loc (.ref (x + 1) :: st) h = eg_gf h x 12 2 (fun v => wps rm K Q c_M_circleOfThree_436 kc ks loc (v :: st) h) := gk_gf
theorem s_M_circleOfThree_436 {x : Int32} {l0 l1 : Option Value} {l : eg_Lo} : wps rm K Q c_M_circleOfThree_436 kc ks (l0 :: l1 :: some (.int x) :: l) (st) h = wps rm K Q c_M_circleOfThree_437 kc ks (l0 :: l1 :: some (.int x) :: l) (.int x :: st) h := gk_iload rfl
theorem s_M_circleOfThree_437 {x : Int32} {l0 l1 l2 l3 : Option Value} {l : eg_Lo} : wps rm K Q c_M_circleOfThree_437 kc ks (l0 :: l1 :: l2 :: l3 :: some (.int x) :: l) (st) h = wps rm K Q c_M_circleOfThree_439 kc ks (l0 :: l1 :: l2 :: l3 :: some (.int x) :: l) (.int x :: st) h := gk_iload rfl
theorem s_M_circleOfThree_439  {a1 : Value} {a2 : Value} : wps rm K Q c_M_circleOfThree_439 kc ks loc (a2 :: a1 :: st) h = (st.length ≤ 4 ∧ eg_Cs n_M_at_II [a1, a2] h (fun v h9 => wps rm K Q c_M_circleOfThree_442 kc ks loc (v.toList ++ st) h9)) := eg_c0_2
theorem s_M_circleOfThree_442 {x : Nat} {i : Int32} : wps rm K Q c_M_circleOfThree_442 kc ks loc (.int i :: .ref (x + 1) :: st) h = eg_ia h x i (fun v => wps rm K Q c_M_circleOfThree_443 kc ks loc (.int v :: st) h) := gk_iaload
theorem s_M_circleOfThree_443 {x : Int32} : wps rm K Q c_M_circleOfThree_443 kc ks loc (.int x :: st) h = wps rm K Q c_M_circleOfThree_444 kc ks loc (.long (x.toInt64) :: st) h := gk_i2l
theorem s_M_circleOfThree_444 {x : Nat} {l : eg_Lo} : wps rm K Q c_M_circleOfThree_444 kc ks (some (.ref x) :: l) (st) h = wps rm K Q c_M_circleOfThree_445 kc ks (some (.ref x) :: l) (.ref x :: st) h := gk_aload rfl
theorem s_M_circleOfThree_445 {x : Nat} : wps rm K Q c_M_circleOfThree_445 kc ks loc (.ref (x + 1) :: st) h = eg_gf h x 12 36 (fun v => wps rm K Q c_M_circleOfThree_448 kc ks loc (v :: st) h) := gk_gf
theorem s_M_circleOfThree_448 {x y : Int64} : wps rm K Q c_M_circleOfThree_448 kc ks loc (.long y :: .long x :: st) h = wps rm K Q c_M_circleOfThree_449 kc ks loc (.long (x * y) :: st) h := gk_lmul
theorem s_M_circleOfThree_449 {x : Nat} {l : eg_Lo} : wps rm K Q c_M_circleOfThree_449 kc ks (some (.ref x) :: l) (st) h = wps rm K Q c_M_circleOfThree_450 kc ks (some (.ref x) :: l) (.ref x :: st) h := gk_aload rfl
theorem s_M_circleOfThree_450 {x : Nat} : wps rm K Q c_M_circleOfThree_450 kc ks loc (.ref (x + 1) :: st) h = eg_gf h x 12 35 (fun v => wps rm K Q c_M_circleOfThree_453 kc ks loc (v :: st) h) := gk_gf
theorem s_M_circleOfThree_453 {x y : Int64} : wps rm K Q c_M_circleOfThree_453 kc ks loc (.long y :: .long x :: st) h = wps rm K Q c_M_circleOfThree_454 kc ks loc (.long (x + y) :: st) h := gk_ladd
theorem s_M_circleOfThree_454 {x : Nat} {l : eg_Lo} : wps rm K Q c_M_circleOfThree_454 kc ks (some (.ref x) :: l) (st) h = wps rm K Q c_M_circleOfThree_455 kc ks (some (.ref x) :: l) (.ref x :: st) h := gk_aload rfl
theorem s_M_circleOfThree_455 {x : Nat} : wps rm K Q c_M_circleOfThree_455 kc ks loc (.ref (x + 1) :: st) h = eg_gf h x 12 36 (fun v => wps rm K Q c_M_circleOfThree_458 kc ks loc (v :: st) h) := gk_gf
theorem s_M_circleOfThree_458  {a1 : Value} {a2 : Value} {a3 : Value} {a4 : Value} {x : Nat} : wps rm K Q c_M_circleOfThree_458 kc ks loc (a4 :: a3 :: a2 :: a1 :: .ref (x + 1) :: st) h = (eg_cls h x 12 ∧ st.length ≤ 4 ∧ eg_Cs n_M_keepMiddle (.ref (x + 1) :: [a1, a2, a3, a4]) h (fun v h9 => wps rm K Q c_M_circleOfThree_461 kc ks loc (v.toList ++ st) h9)) := eg_c1_4
theorem s_M_circleOfThree_461  : wps rm K Q c_M_circleOfThree_461 kc ks loc (st) h = wps rm K Q c_M_circleOfThree_464 kc ks loc (.long (3) :: st) h := gk_lc (by decide)
theorem s_M_circleOfThree_464 {x : Int64} : wps rm K Q c_M_circleOfThree_464 kc ks loc ([.long x]) h = (kc = rm.cells ∧ Q (some (.long x)) h) := gk_lret
theorem sz_M_circleOfThree_13 : wps rm K Q z_M_circleOfThree_13 kc ks loc st h = K 13 kc ks loc st h := gk_nop
theorem sz_M_circleOfThree_30 : wps rm K Q z_M_circleOfThree_30 kc ks loc st h = K 30 kc ks loc st h := gk_nop
theorem sz_M_circleOfThree_47 : wps rm K Q z_M_circleOfThree_47 kc ks loc st h = K 47 kc ks loc st h := gk_nop
theorem sz_M_circleOfThree_218 : wps rm K Q z_M_circleOfThree_218 kc ks loc st h = K 218 kc ks loc st h := gk_nop
theorem sz_M_circleOfThree_258 : wps rm K Q z_M_circleOfThree_258 kc ks loc st h = K 258 kc ks loc st h := gk_nop
def T_M_circleOfThree : List (Nat × List eg_I) := [(145, c_M_circleOfThree_145), (146, c_M_circleOfThree_146), (177, c_M_circleOfThree_177), (178, c_M_circleOfThree_178), (180, c_M_circleOfThree_180), (186, c_M_circleOfThree_186), (192, c_M_circleOfThree_192), (198, c_M_circleOfThree_198), (252, c_M_circleOfThree_252), (253, c_M_circleOfThree_253), (327, c_M_circleOfThree_327), (331, c_M_circleOfThree_331), (332, c_M_circleOfThree_332), (341, c_M_circleOfThree_341), (369, c_M_circleOfThree_369), (375, c_M_circleOfThree_375)]
theorem j_M_circleOfThree_145 {R : Nat → Nat → Nat → eg_Lo → List Value → List eg_E → Prop} {f pc0 : Nat} : eg_run rm R Q T_M_circleOfThree (f + 1) 145 kc ks loc st h = wps rm (eg_run rm R Q T_M_circleOfThree f) Q c_M_circleOfThree_145 kc ks loc st h := rfl
theorem j_M_circleOfThree_146 {R : Nat → Nat → Nat → eg_Lo → List Value → List eg_E → Prop} {f pc0 : Nat} : eg_run rm R Q T_M_circleOfThree (f + 1) 146 kc ks loc st h = wps rm (eg_run rm R Q T_M_circleOfThree f) Q c_M_circleOfThree_146 kc ks loc st h := rfl
theorem j_M_circleOfThree_177 {R : Nat → Nat → Nat → eg_Lo → List Value → List eg_E → Prop} {f pc0 : Nat} : eg_run rm R Q T_M_circleOfThree (f + 1) 177 kc ks loc st h = wps rm (eg_run rm R Q T_M_circleOfThree f) Q c_M_circleOfThree_177 kc ks loc st h := rfl
theorem j_M_circleOfThree_178 {R : Nat → Nat → Nat → eg_Lo → List Value → List eg_E → Prop} {f pc0 : Nat} : eg_run rm R Q T_M_circleOfThree (f + 1) 178 kc ks loc st h = wps rm (eg_run rm R Q T_M_circleOfThree f) Q c_M_circleOfThree_178 kc ks loc st h := rfl
theorem j_M_circleOfThree_180 {R : Nat → Nat → Nat → eg_Lo → List Value → List eg_E → Prop} {f pc0 : Nat} : eg_run rm R Q T_M_circleOfThree (f + 1) 180 kc ks loc st h = wps rm (eg_run rm R Q T_M_circleOfThree f) Q c_M_circleOfThree_180 kc ks loc st h := rfl
theorem j_M_circleOfThree_186 {R : Nat → Nat → Nat → eg_Lo → List Value → List eg_E → Prop} {f pc0 : Nat} : eg_run rm R Q T_M_circleOfThree (f + 1) 186 kc ks loc st h = wps rm (eg_run rm R Q T_M_circleOfThree f) Q c_M_circleOfThree_186 kc ks loc st h := rfl
theorem j_M_circleOfThree_192 {R : Nat → Nat → Nat → eg_Lo → List Value → List eg_E → Prop} {f pc0 : Nat} : eg_run rm R Q T_M_circleOfThree (f + 1) 192 kc ks loc st h = wps rm (eg_run rm R Q T_M_circleOfThree f) Q c_M_circleOfThree_192 kc ks loc st h := rfl
theorem j_M_circleOfThree_198 {R : Nat → Nat → Nat → eg_Lo → List Value → List eg_E → Prop} {f pc0 : Nat} : eg_run rm R Q T_M_circleOfThree (f + 1) 198 kc ks loc st h = wps rm (eg_run rm R Q T_M_circleOfThree f) Q c_M_circleOfThree_198 kc ks loc st h := rfl
theorem j_M_circleOfThree_252 {R : Nat → Nat → Nat → eg_Lo → List Value → List eg_E → Prop} {f pc0 : Nat} : eg_run rm R Q T_M_circleOfThree (f + 1) 252 kc ks loc st h = wps rm (eg_run rm R Q T_M_circleOfThree f) Q c_M_circleOfThree_252 kc ks loc st h := rfl
theorem j_M_circleOfThree_253 {R : Nat → Nat → Nat → eg_Lo → List Value → List eg_E → Prop} {f pc0 : Nat} : eg_run rm R Q T_M_circleOfThree (f + 1) 253 kc ks loc st h = wps rm (eg_run rm R Q T_M_circleOfThree f) Q c_M_circleOfThree_253 kc ks loc st h := rfl
theorem j_M_circleOfThree_327 {R : Nat → Nat → Nat → eg_Lo → List Value → List eg_E → Prop} {f pc0 : Nat} : eg_run rm R Q T_M_circleOfThree (f + 1) 327 kc ks loc st h = wps rm (eg_run rm R Q T_M_circleOfThree f) Q c_M_circleOfThree_327 kc ks loc st h := rfl
theorem j_M_circleOfThree_331 {R : Nat → Nat → Nat → eg_Lo → List Value → List eg_E → Prop} {f pc0 : Nat} : eg_run rm R Q T_M_circleOfThree (f + 1) 331 kc ks loc st h = wps rm (eg_run rm R Q T_M_circleOfThree f) Q c_M_circleOfThree_331 kc ks loc st h := rfl
theorem j_M_circleOfThree_332 {R : Nat → Nat → Nat → eg_Lo → List Value → List eg_E → Prop} {f pc0 : Nat} : eg_run rm R Q T_M_circleOfThree (f + 1) 332 kc ks loc st h = wps rm (eg_run rm R Q T_M_circleOfThree f) Q c_M_circleOfThree_332 kc ks loc st h := rfl
theorem j_M_circleOfThree_341 {R : Nat → Nat → Nat → eg_Lo → List Value → List eg_E → Prop} {f pc0 : Nat} : eg_run rm R Q T_M_circleOfThree (f + 1) 341 kc ks loc st h = wps rm (eg_run rm R Q T_M_circleOfThree f) Q c_M_circleOfThree_341 kc ks loc st h := rfl
theorem j_M_circleOfThree_369 {R : Nat → Nat → Nat → eg_Lo → List Value → List eg_E → Prop} {f pc0 : Nat} : eg_run rm R Q T_M_circleOfThree (f + 1) 369 kc ks loc st h = wps rm (eg_run rm R Q T_M_circleOfThree f) Q c_M_circleOfThree_369 kc ks loc st h := rfl
theorem j_M_circleOfThree_375 {R : Nat → Nat → Nat → eg_Lo → List Value → List eg_E → Prop} {f pc0 : Nat} : eg_run rm R Q T_M_circleOfThree (f + 1) 375 kc ks loc st h = wps rm (eg_run rm R Q T_M_circleOfThree f) Q c_M_circleOfThree_375 kc ks loc st h := rfl
theorem j_M_circleOfThree_13 {R : Nat → Nat → Nat → eg_Lo → List Value → List eg_E → Prop} {f pc0 : Nat} : eg_run rm R Q T_M_circleOfThree (f + 1) 13 kc ks loc st h = R 13 kc ks loc st h := rfl
theorem j_M_circleOfThree_30 {R : Nat → Nat → Nat → eg_Lo → List Value → List eg_E → Prop} {f pc0 : Nat} : eg_run rm R Q T_M_circleOfThree (f + 1) 30 kc ks loc st h = R 30 kc ks loc st h := rfl
theorem j_M_circleOfThree_47 {R : Nat → Nat → Nat → eg_Lo → List Value → List eg_E → Prop} {f pc0 : Nat} : eg_run rm R Q T_M_circleOfThree (f + 1) 47 kc ks loc st h = R 47 kc ks loc st h := rfl
theorem j_M_circleOfThree_218 {R : Nat → Nat → Nat → eg_Lo → List Value → List eg_E → Prop} {f pc0 : Nat} : eg_run rm R Q T_M_circleOfThree (f + 1) 218 kc ks loc st h = R 218 kc ks loc st h := rfl
theorem j_M_circleOfThree_258 {R : Nat → Nat → Nat → eg_Lo → List Value → List eg_E → Prop} {f pc0 : Nat} : eg_run rm R Q T_M_circleOfThree (f + 1) 258 kc ks loc st h = R 258 kc ks loc st h := rfl
end
theorem y_M_circleOfThree_0 : eg_seq m_M_circleOfThree 0 c_M_circleOfThree_0 = true := by decide +kernel
theorem y_M_circleOfThree_13 : eg_seq m_M_circleOfThree 13 c_M_circleOfThree_13 = true := by decide +kernel
theorem y_M_circleOfThree_30 : eg_seq m_M_circleOfThree 30 c_M_circleOfThree_30 = true := by decide +kernel
theorem y_M_circleOfThree_47 : eg_seq m_M_circleOfThree 47 c_M_circleOfThree_47 = true := by decide +kernel
theorem y_M_circleOfThree_145 : eg_seq m_M_circleOfThree 145 c_M_circleOfThree_145 = true := by decide +kernel
theorem y_M_circleOfThree_177 : eg_seq m_M_circleOfThree 177 c_M_circleOfThree_177 = true := by decide +kernel
theorem y_M_circleOfThree_186 : eg_seq m_M_circleOfThree 186 c_M_circleOfThree_186 = true := by decide +kernel
theorem y_M_circleOfThree_192 : eg_seq m_M_circleOfThree 192 c_M_circleOfThree_192 = true := by decide +kernel
theorem y_M_circleOfThree_198 : eg_seq m_M_circleOfThree 198 c_M_circleOfThree_198 = true := by decide +kernel
theorem y_M_circleOfThree_218 : eg_seq m_M_circleOfThree 218 c_M_circleOfThree_218 = true := by decide +kernel
theorem y_M_circleOfThree_252 : eg_seq m_M_circleOfThree 252 c_M_circleOfThree_252 = true := by decide +kernel
theorem y_M_circleOfThree_258 : eg_seq m_M_circleOfThree 258 c_M_circleOfThree_258 = true := by decide +kernel
theorem y_M_circleOfThree_331 : eg_seq m_M_circleOfThree 331 c_M_circleOfThree_331 = true := by decide +kernel
theorem y_M_circleOfThree_341 : eg_seq m_M_circleOfThree 341 c_M_circleOfThree_341 = true := by decide +kernel
theorem y_M_circleOfThree_375 : eg_seq m_M_circleOfThree 375 c_M_circleOfThree_375 = true := by decide +kernel
theorem q_M_circleOfThree : ∀ q ∈ T_M_circleOfThree, eg_seq m_M_circleOfThree q.1 q.2 = true := by
  intro q hq
  simp only [T_M_circleOfThree, List.mem_cons, List.not_mem_nil, or_false] at hq
  rcases hq with rfl | rfl | rfl | rfl | rfl | rfl | rfl | rfl | rfl | rfl | rfl | rfl | rfl | rfl | rfl | rfl
  · exact y_M_circleOfThree_145
  · exact (eg_seq_drop y_M_circleOfThree_145 1 : eg_seq m_M_circleOfThree 146 c_M_circleOfThree_146 = true)
  · exact y_M_circleOfThree_177
  · exact (eg_seq_drop y_M_circleOfThree_177 1 : eg_seq m_M_circleOfThree 178 c_M_circleOfThree_178 = true)
  · exact (eg_seq_drop y_M_circleOfThree_177 2 : eg_seq m_M_circleOfThree 180 c_M_circleOfThree_180 = true)
  · exact y_M_circleOfThree_186
  · exact y_M_circleOfThree_192
  · exact y_M_circleOfThree_198
  · exact y_M_circleOfThree_252
  · exact (eg_seq_drop y_M_circleOfThree_252 1 : eg_seq m_M_circleOfThree 253 c_M_circleOfThree_253 = true)
  · exact (eg_seq_drop y_M_circleOfThree_258 37 : eg_seq m_M_circleOfThree 327 c_M_circleOfThree_327 = true)
  · exact y_M_circleOfThree_331
  · exact (eg_seq_drop y_M_circleOfThree_331 1 : eg_seq m_M_circleOfThree 332 c_M_circleOfThree_332 = true)
  · exact y_M_circleOfThree_341
  · exact (eg_seq_drop y_M_circleOfThree_341 15 : eg_seq m_M_circleOfThree 369 c_M_circleOfThree_369 = true)
  · exact y_M_circleOfThree_375
theorem md_M_circleOfThree : eg_md n_M_circleOfThree = m_M_circleOfThree := rfl
theorem mn_M_circleOfThree : n_M_circleOfThree < 202 := Nat.le_of_ble_eq_true rfl
theorem b_M_circleOfThree {as : List Value} {h : List eg_E} {Q : Option Value → List eg_E → Prop} (hf : (eg_fl as).length ≤ 10) : wps (eg_rm m_M_circleOfThree) (eg_run (eg_rm m_M_circleOfThree) (eg_R m_M_circleOfThree Q (h.length + 0)) Q T_M_circleOfThree 18) Q c_M_circleOfThree_0 0 0 (eg_entry 10 as) [] h → eg_Runs n_M_circleOfThree as h Q := eg_begin2 md_M_circleOfThree mn_M_circleOfThree y_M_circleOfThree_0 q_M_circleOfThree hf
theorem p_M_circleOfThree_13 {Q : Option Value → List eg_E → Prop} {n0 kc ks : Nat} {loc : eg_Lo} {st : List Value} {h : List eg_E} : wps (eg_rm m_M_circleOfThree) (eg_run (eg_rm m_M_circleOfThree) (eg_R m_M_circleOfThree Q n0) Q T_M_circleOfThree 18) Q c_M_circleOfThree_13 kc ks loc st h → eg_R m_M_circleOfThree Q n0 13 kc ks loc st h := eg_go2 y_M_circleOfThree_13 q_M_circleOfThree
theorem p_M_circleOfThree_30 {Q : Option Value → List eg_E → Prop} {n0 kc ks : Nat} {loc : eg_Lo} {st : List Value} {h : List eg_E} : wps (eg_rm m_M_circleOfThree) (eg_run (eg_rm m_M_circleOfThree) (eg_R m_M_circleOfThree Q n0) Q T_M_circleOfThree 18) Q c_M_circleOfThree_30 kc ks loc st h → eg_R m_M_circleOfThree Q n0 30 kc ks loc st h := eg_go2 y_M_circleOfThree_30 q_M_circleOfThree
theorem p_M_circleOfThree_47 {Q : Option Value → List eg_E → Prop} {n0 kc ks : Nat} {loc : eg_Lo} {st : List Value} {h : List eg_E} : wps (eg_rm m_M_circleOfThree) (eg_run (eg_rm m_M_circleOfThree) (eg_R m_M_circleOfThree Q n0) Q T_M_circleOfThree 18) Q c_M_circleOfThree_47 kc ks loc st h → eg_R m_M_circleOfThree Q n0 47 kc ks loc st h := eg_go2 y_M_circleOfThree_47 q_M_circleOfThree
theorem p_M_circleOfThree_218 {Q : Option Value → List eg_E → Prop} {n0 kc ks : Nat} {loc : eg_Lo} {st : List Value} {h : List eg_E} : wps (eg_rm m_M_circleOfThree) (eg_run (eg_rm m_M_circleOfThree) (eg_R m_M_circleOfThree Q n0) Q T_M_circleOfThree 18) Q c_M_circleOfThree_218 kc ks loc st h → eg_R m_M_circleOfThree Q n0 218 kc ks loc st h := eg_go2 y_M_circleOfThree_218 q_M_circleOfThree
theorem p_M_circleOfThree_258 {Q : Option Value → List eg_E → Prop} {n0 kc ks : Nat} {loc : eg_Lo} {st : List Value} {h : List eg_E} : wps (eg_rm m_M_circleOfThree) (eg_run (eg_rm m_M_circleOfThree) (eg_R m_M_circleOfThree Q n0) Q T_M_circleOfThree 18) Q c_M_circleOfThree_258 kc ks loc st h → eg_R m_M_circleOfThree Q n0 258 kc ks loc st h := eg_go2 y_M_circleOfThree_258 q_M_circleOfThree
/-! ===== M_fit ===== -/
def c_M_fit_71 : List eg_I := .inl (71, 1, .lreturn, 0, 0) :: []
def c_M_fit_68 : List eg_I := .inr (68, 1, 264, n_M_fitCircle, 2, 12, 0, 0) :: c_M_fit_71
def c_M_fit_67 : List eg_I := .inl (67, 1, .iload 3, 0, 0) :: c_M_fit_68
def c_M_fit_66 : List eg_I := .inl (66, 1, .iload 1, 0, 0) :: c_M_fit_67
def c_M_fit_65 : List eg_I := .inl (65, 1, .aload 0, 0, 0) :: c_M_fit_66
def c_M_fit_62 : List eg_I := .inl (62, 3, .goto (9), 71, 0) :: []
def c_M_fit_59 : List eg_I := .inr (59, 1, 261, n_M_fitPlane, 2, 12, 0, 0) :: c_M_fit_62
def c_M_fit_58 : List eg_I := .inl (58, 1, .iload 3, 0, 0) :: c_M_fit_59
def c_M_fit_57 : List eg_I := .inl (57, 1, .iload 1, 0, 0) :: c_M_fit_58
def c_M_fit_56 : List eg_I := .inl (56, 1, .aload 0, 0, 0) :: c_M_fit_57
def c_M_fit_53 : List eg_I := .inl (53, 3, .if_icmp .ne (12), 65, 0) :: c_M_fit_56
def c_M_fit_52 : List eg_I := .inl (52, 1, .iconst (3), 0, 0) :: c_M_fit_53
def c_M_fit_51 : List eg_I := .inl (51, 1, .iload 2, 0, 0) :: c_M_fit_52
def c_M_fit_48 : List eg_I := .inl (48, 3, .goto (23), 71, 0) :: []
def c_M_fit_45 : List eg_I := .inr (45, 1, 258, n_M_fitLine, 2, 12, 0, 0) :: c_M_fit_48
def c_M_fit_44 : List eg_I := .inl (44, 1, .iload 3, 0, 0) :: c_M_fit_45
def c_M_fit_43 : List eg_I := .inl (43, 1, .iload 1, 0, 0) :: c_M_fit_44
def c_M_fit_42 : List eg_I := .inl (42, 1, .aload 0, 0, 0) :: c_M_fit_43
def c_M_fit_39 : List eg_I := .inl (39, 3, .if_icmp .ne (12), 51, 0) :: c_M_fit_42
def c_M_fit_38 : List eg_I := .inl (38, 1, .iconst (2), 0, 0) :: c_M_fit_39
def c_M_fit_37 : List eg_I := .inl (37, 1, .iload 2, 0, 0) :: c_M_fit_38
def c_M_fit_36 : List eg_I := .inl (36, 1, .lreturn, 0, 0) :: []
def c_M_fit_33 : List eg_I := .inr (33, 1, 112, n_M_finding, 1, 12, 0, 0) :: c_M_fit_36
def c_M_fit_30 : List eg_I := .inl (30, 3, .sipush (-1000000000000000001), 110, 0) :: c_M_fit_33
def c_M_fit_29 : List eg_I := .inl (29, 1, .aload 0, 0, 0) :: c_M_fit_30
def c_M_fit_26 : List eg_I := .inl (26, 3, .if_icmp .eq (11), 37, 0) :: c_M_fit_29
def c_M_fit_25 : List eg_I := .inl (25, 1, .iconst (5), 0, 0) :: c_M_fit_26
def c_M_fit_24 : List eg_I := .inl (24, 1, .iload 2, 0, 0) :: c_M_fit_25
def c_M_fit_21 : List eg_I := .inl (21, 3, .if_icmp .eq (16), 37, 0) :: c_M_fit_24
def c_M_fit_20 : List eg_I := .inl (20, 1, .iconst (3), 0, 0) :: c_M_fit_21
def c_M_fit_19 : List eg_I := .inl (19, 1, .iload 2, 0, 0) :: c_M_fit_20
def c_M_fit_16 : List eg_I := .inl (16, 3, .if_icmp .eq (21), 37, 0) :: c_M_fit_19
def c_M_fit_15 : List eg_I := .inl (15, 1, .iconst (2), 0, 0) :: c_M_fit_16
def c_M_fit_14 : List eg_I := .inl (14, 1, .iload 2, 0, 0) :: c_M_fit_15
def c_M_fit_11 : List eg_I := .inl (11, 3, .ifCond .eq (18), 29, 0) :: c_M_fit_14
def c_M_fit_8 : List eg_I := .inr (8, 0, 99, n_M_isPart, 1, 12, 0, 0) :: c_M_fit_11
def c_M_fit_7 : List eg_I := .inl (7, 1, .iload 3, 0, 0) :: c_M_fit_8
def c_M_fit_4 : List eg_I := .inl (4, 3, .ifCond .eq (25), 29, 0) :: c_M_fit_7
def c_M_fit_1 : List eg_I := .inr (1, 0, 255, n_M_isFigure, 1, 12, 0, 0) :: c_M_fit_4
def c_M_fit_0 : List eg_I := .inl (0, 1, .iload 1, 0, 0) :: c_M_fit_1
section
variable {rm : Room} {K : Nat → Nat → Nat → eg_Lo → List Value → List eg_E → Prop} {Q : Option Value → List eg_E → Prop} {kc ks : Nat} {loc : eg_Lo} {st : List Value} {h : List eg_E}
theorem s_M_fit_0 {x : Int32} {l0 : Option Value} {l : eg_Lo} : wps rm K Q c_M_fit_0 kc ks (l0 :: some (.int x) :: l) (st) h = wps rm K Q c_M_fit_1 kc ks (l0 :: some (.int x) :: l) (.int x :: st) h := gk_iload rfl
theorem s_M_fit_1  {a1 : Value} : wps rm K Q c_M_fit_1 kc ks loc (a1 :: st) h = (st.length ≤ 4 ∧ eg_Cs n_M_isFigure [a1] h (fun v h9 => wps rm K Q c_M_fit_4 kc ks loc (v.toList ++ st) h9)) := eg_c0_1
theorem s_M_fit_4 {x : Int32} : wps rm K Q c_M_fit_4 kc ks loc (.int x :: st) h = ((x = 0 → K 29 kc ks loc st h) ∧ (¬ x = 0 → wps rm K Q c_M_fit_7 kc ks loc (st) h)) := gk_if1_eq
theorem s_M_fit_7 {x : Int32} {l0 l1 l2 : Option Value} {l : eg_Lo} : wps rm K Q c_M_fit_7 kc ks (l0 :: l1 :: l2 :: some (.int x) :: l) (st) h = wps rm K Q c_M_fit_8 kc ks (l0 :: l1 :: l2 :: some (.int x) :: l) (.int x :: st) h := gk_iload rfl
theorem s_M_fit_8  {a1 : Value} : wps rm K Q c_M_fit_8 kc ks loc (a1 :: st) h = (st.length ≤ 4 ∧ eg_Cs n_M_isPart [a1] h (fun v h9 => wps rm K Q c_M_fit_11 kc ks loc (v.toList ++ st) h9)) := eg_c0_1
theorem s_M_fit_11 {x : Int32} : wps rm K Q c_M_fit_11 kc ks loc (.int x :: st) h = ((x = 0 → K 29 kc ks loc st h) ∧ (¬ x = 0 → wps rm K Q c_M_fit_14 kc ks loc (st) h)) := gk_if1_eq
theorem s_M_fit_14 {x : Int32} {l0 l1 : Option Value} {l : eg_Lo} : wps rm K Q c_M_fit_14 kc ks (l0 :: l1 :: some (.int x) :: l) (st) h = wps rm K Q c_M_fit_15 kc ks (l0 :: l1 :: some (.int x) :: l) (.int x :: st) h := gk_iload rfl
theorem s_M_fit_15  : wps rm K Q c_M_fit_15 kc ks loc (st) h = wps rm K Q c_M_fit_16 kc ks loc (.int (2) :: st) h := gk_ic (by decide)
theorem s_M_fit_16 {x y : Int32} : wps rm K Q c_M_fit_16 kc ks loc (.int y :: .int x :: st) h = ((x = y → K 37 kc ks loc st h) ∧ (¬ x = y → wps rm K Q c_M_fit_19 kc ks loc (st) h)) := gk_if2_eq
theorem s_M_fit_19 {x : Int32} {l0 l1 : Option Value} {l : eg_Lo} : wps rm K Q c_M_fit_19 kc ks (l0 :: l1 :: some (.int x) :: l) (st) h = wps rm K Q c_M_fit_20 kc ks (l0 :: l1 :: some (.int x) :: l) (.int x :: st) h := gk_iload rfl
theorem s_M_fit_20  : wps rm K Q c_M_fit_20 kc ks loc (st) h = wps rm K Q c_M_fit_21 kc ks loc (.int (3) :: st) h := gk_ic (by decide)
theorem s_M_fit_21 {x y : Int32} : wps rm K Q c_M_fit_21 kc ks loc (.int y :: .int x :: st) h = ((x = y → K 37 kc ks loc st h) ∧ (¬ x = y → wps rm K Q c_M_fit_24 kc ks loc (st) h)) := gk_if2_eq
theorem s_M_fit_24 {x : Int32} {l0 l1 : Option Value} {l : eg_Lo} : wps rm K Q c_M_fit_24 kc ks (l0 :: l1 :: some (.int x) :: l) (st) h = wps rm K Q c_M_fit_25 kc ks (l0 :: l1 :: some (.int x) :: l) (.int x :: st) h := gk_iload rfl
theorem s_M_fit_25  : wps rm K Q c_M_fit_25 kc ks loc (st) h = wps rm K Q c_M_fit_26 kc ks loc (.int (5) :: st) h := gk_ic (by decide)
theorem s_M_fit_26 {x y : Int32} : wps rm K Q c_M_fit_26 kc ks loc (.int y :: .int x :: st) h = ((x = y → K 37 kc ks loc st h) ∧ (¬ x = y → wps rm K Q c_M_fit_29 kc ks loc (st) h)) := gk_if2_eq
theorem s_M_fit_29 {x : Nat} {l : eg_Lo} : wps rm K Q c_M_fit_29 kc ks (some (.ref x) :: l) (st) h = wps rm K Q c_M_fit_30 kc ks (some (.ref x) :: l) (.ref x :: st) h := gk_aload rfl
theorem s_M_fit_30  : wps rm K Q c_M_fit_30 kc ks loc (st) h = wps rm K Q c_M_fit_33 kc ks loc (.long (-1000000000000000001) :: st) h := gk_lc (by decide)
theorem s_M_fit_33  {a1 : Value} {x : Nat} : wps rm K Q c_M_fit_33 kc ks loc (a1 :: .ref (x + 1) :: st) h = (eg_cls h x 12 ∧ st.length ≤ 4 ∧ eg_Cs n_M_finding (.ref (x + 1) :: [a1]) h (fun v h9 => wps rm K Q c_M_fit_36 kc ks loc (v.toList ++ st) h9)) := eg_c1_1
theorem s_M_fit_36 {x : Int64} : wps rm K Q c_M_fit_36 kc ks loc ([.long x]) h = (kc = rm.cells ∧ Q (some (.long x)) h) := gk_lret
theorem s_M_fit_37 {x : Int32} {l0 l1 : Option Value} {l : eg_Lo} : wps rm K Q c_M_fit_37 kc ks (l0 :: l1 :: some (.int x) :: l) (st) h = wps rm K Q c_M_fit_38 kc ks (l0 :: l1 :: some (.int x) :: l) (.int x :: st) h := gk_iload rfl
theorem s_M_fit_38  : wps rm K Q c_M_fit_38 kc ks loc (st) h = wps rm K Q c_M_fit_39 kc ks loc (.int (2) :: st) h := gk_ic (by decide)
theorem s_M_fit_39 {x y : Int32} : wps rm K Q c_M_fit_39 kc ks loc (.int y :: .int x :: st) h = ((¬ x = y → K 51 kc ks loc st h) ∧ (x = y → wps rm K Q c_M_fit_42 kc ks loc (st) h)) := gk_if2_ne
theorem s_M_fit_42 {x : Nat} {l : eg_Lo} : wps rm K Q c_M_fit_42 kc ks (some (.ref x) :: l) (st) h = wps rm K Q c_M_fit_43 kc ks (some (.ref x) :: l) (.ref x :: st) h := gk_aload rfl
theorem s_M_fit_43 {x : Int32} {l0 : Option Value} {l : eg_Lo} : wps rm K Q c_M_fit_43 kc ks (l0 :: some (.int x) :: l) (st) h = wps rm K Q c_M_fit_44 kc ks (l0 :: some (.int x) :: l) (.int x :: st) h := gk_iload rfl
theorem s_M_fit_44 {x : Int32} {l0 l1 l2 : Option Value} {l : eg_Lo} : wps rm K Q c_M_fit_44 kc ks (l0 :: l1 :: l2 :: some (.int x) :: l) (st) h = wps rm K Q c_M_fit_45 kc ks (l0 :: l1 :: l2 :: some (.int x) :: l) (.int x :: st) h := gk_iload rfl
theorem s_M_fit_45  {a1 : Value} {a2 : Value} {x : Nat} : wps rm K Q c_M_fit_45 kc ks loc (a2 :: a1 :: .ref (x + 1) :: st) h = (eg_cls h x 12 ∧ st.length ≤ 4 ∧ eg_Cs n_M_fitLine (.ref (x + 1) :: [a1, a2]) h (fun v h9 => wps rm K Q c_M_fit_48 kc ks loc (v.toList ++ st) h9)) := eg_c1_2
theorem s_M_fit_48  : wps rm K Q c_M_fit_48 kc ks loc (st) h = K 71 kc ks loc st h := gk_goto
theorem s_M_fit_51 {x : Int32} {l0 l1 : Option Value} {l : eg_Lo} : wps rm K Q c_M_fit_51 kc ks (l0 :: l1 :: some (.int x) :: l) (st) h = wps rm K Q c_M_fit_52 kc ks (l0 :: l1 :: some (.int x) :: l) (.int x :: st) h := gk_iload rfl
theorem s_M_fit_52  : wps rm K Q c_M_fit_52 kc ks loc (st) h = wps rm K Q c_M_fit_53 kc ks loc (.int (3) :: st) h := gk_ic (by decide)
theorem s_M_fit_53 {x y : Int32} : wps rm K Q c_M_fit_53 kc ks loc (.int y :: .int x :: st) h = ((¬ x = y → K 65 kc ks loc st h) ∧ (x = y → wps rm K Q c_M_fit_56 kc ks loc (st) h)) := gk_if2_ne
theorem s_M_fit_56 {x : Nat} {l : eg_Lo} : wps rm K Q c_M_fit_56 kc ks (some (.ref x) :: l) (st) h = wps rm K Q c_M_fit_57 kc ks (some (.ref x) :: l) (.ref x :: st) h := gk_aload rfl
theorem s_M_fit_57 {x : Int32} {l0 : Option Value} {l : eg_Lo} : wps rm K Q c_M_fit_57 kc ks (l0 :: some (.int x) :: l) (st) h = wps rm K Q c_M_fit_58 kc ks (l0 :: some (.int x) :: l) (.int x :: st) h := gk_iload rfl
theorem s_M_fit_58 {x : Int32} {l0 l1 l2 : Option Value} {l : eg_Lo} : wps rm K Q c_M_fit_58 kc ks (l0 :: l1 :: l2 :: some (.int x) :: l) (st) h = wps rm K Q c_M_fit_59 kc ks (l0 :: l1 :: l2 :: some (.int x) :: l) (.int x :: st) h := gk_iload rfl
theorem s_M_fit_59  {a1 : Value} {a2 : Value} {x : Nat} : wps rm K Q c_M_fit_59 kc ks loc (a2 :: a1 :: .ref (x + 1) :: st) h = (eg_cls h x 12 ∧ st.length ≤ 4 ∧ eg_Cs n_M_fitPlane (.ref (x + 1) :: [a1, a2]) h (fun v h9 => wps rm K Q c_M_fit_62 kc ks loc (v.toList ++ st) h9)) := eg_c1_2
theorem s_M_fit_62  : wps rm K Q c_M_fit_62 kc ks loc (st) h = K 71 kc ks loc st h := gk_goto
theorem s_M_fit_65 {x : Nat} {l : eg_Lo} : wps rm K Q c_M_fit_65 kc ks (some (.ref x) :: l) (st) h = wps rm K Q c_M_fit_66 kc ks (some (.ref x) :: l) (.ref x :: st) h := gk_aload rfl
theorem s_M_fit_66 {x : Int32} {l0 : Option Value} {l : eg_Lo} : wps rm K Q c_M_fit_66 kc ks (l0 :: some (.int x) :: l) (st) h = wps rm K Q c_M_fit_67 kc ks (l0 :: some (.int x) :: l) (.int x :: st) h := gk_iload rfl
theorem s_M_fit_67 {x : Int32} {l0 l1 l2 : Option Value} {l : eg_Lo} : wps rm K Q c_M_fit_67 kc ks (l0 :: l1 :: l2 :: some (.int x) :: l) (st) h = wps rm K Q c_M_fit_68 kc ks (l0 :: l1 :: l2 :: some (.int x) :: l) (.int x :: st) h := gk_iload rfl
theorem s_M_fit_68  {a1 : Value} {a2 : Value} {x : Nat} : wps rm K Q c_M_fit_68 kc ks loc (a2 :: a1 :: .ref (x + 1) :: st) h = (eg_cls h x 12 ∧ st.length ≤ 4 ∧ eg_Cs n_M_fitCircle (.ref (x + 1) :: [a1, a2]) h (fun v h9 => wps rm K Q c_M_fit_71 kc ks loc (v.toList ++ st) h9)) := eg_c1_2
theorem s_M_fit_71 {x : Int64} : wps rm K Q c_M_fit_71 kc ks loc ([.long x]) h = (kc = rm.cells ∧ Q (some (.long x)) h) := gk_lret
def T_M_fit : List (Nat × List eg_I) := [(29, c_M_fit_29), (37, c_M_fit_37), (51, c_M_fit_51), (65, c_M_fit_65), (71, c_M_fit_71)]
theorem j_M_fit_29 {R : Nat → Nat → Nat → eg_Lo → List Value → List eg_E → Prop} {f pc0 : Nat} : eg_run rm R Q T_M_fit (f + 1) 29 kc ks loc st h = wps rm (eg_run rm R Q T_M_fit f) Q c_M_fit_29 kc ks loc st h := rfl
theorem j_M_fit_37 {R : Nat → Nat → Nat → eg_Lo → List Value → List eg_E → Prop} {f pc0 : Nat} : eg_run rm R Q T_M_fit (f + 1) 37 kc ks loc st h = wps rm (eg_run rm R Q T_M_fit f) Q c_M_fit_37 kc ks loc st h := rfl
theorem j_M_fit_51 {R : Nat → Nat → Nat → eg_Lo → List Value → List eg_E → Prop} {f pc0 : Nat} : eg_run rm R Q T_M_fit (f + 1) 51 kc ks loc st h = wps rm (eg_run rm R Q T_M_fit f) Q c_M_fit_51 kc ks loc st h := rfl
theorem j_M_fit_65 {R : Nat → Nat → Nat → eg_Lo → List Value → List eg_E → Prop} {f pc0 : Nat} : eg_run rm R Q T_M_fit (f + 1) 65 kc ks loc st h = wps rm (eg_run rm R Q T_M_fit f) Q c_M_fit_65 kc ks loc st h := rfl
theorem j_M_fit_71 {R : Nat → Nat → Nat → eg_Lo → List Value → List eg_E → Prop} {f pc0 : Nat} : eg_run rm R Q T_M_fit (f + 1) 71 kc ks loc st h = wps rm (eg_run rm R Q T_M_fit f) Q c_M_fit_71 kc ks loc st h := rfl
end
theorem y_M_fit_0 : eg_seq m_M_fit 0 c_M_fit_0 = true := by decide +kernel
theorem y_M_fit_37 : eg_seq m_M_fit 37 c_M_fit_37 = true := by decide +kernel
theorem y_M_fit_51 : eg_seq m_M_fit 51 c_M_fit_51 = true := by decide +kernel
theorem y_M_fit_65 : eg_seq m_M_fit 65 c_M_fit_65 = true := by decide +kernel
theorem q_M_fit : ∀ q ∈ T_M_fit, eg_seq m_M_fit q.1 q.2 = true := by
  intro q hq
  simp only [T_M_fit, List.mem_cons, List.not_mem_nil, or_false] at hq
  rcases hq with rfl | rfl | rfl | rfl | rfl
  · exact (eg_seq_drop y_M_fit_0 15 : eg_seq m_M_fit 29 c_M_fit_29 = true)
  · exact y_M_fit_37
  · exact y_M_fit_51
  · exact y_M_fit_65
  · exact (eg_seq_drop y_M_fit_65 4 : eg_seq m_M_fit 71 c_M_fit_71 = true)
theorem md_M_fit : eg_md n_M_fit = m_M_fit := rfl
theorem mn_M_fit : n_M_fit < 202 := Nat.le_of_ble_eq_true rfl
theorem b_M_fit {as : List Value} {h : List eg_E} {Q : Option Value → List eg_E → Prop} (hf : (eg_fl as).length ≤ 4) : wps (eg_rm m_M_fit) (eg_run (eg_rm m_M_fit) (eg_R m_M_fit Q (h.length + 0)) Q T_M_fit 7) Q c_M_fit_0 0 0 (eg_entry 4 as) [] h → eg_Runs n_M_fit as h Q := eg_begin2 md_M_fit mn_M_fit y_M_fit_0 q_M_fit hf
/-! ===== M_drop ===== -/
def c_M_drop_39 : List eg_I := .inl (39, 1, .lreturn, 0, 0) :: []
def c_M_drop_38 : List eg_I := .inl (38, 1, .i2l, 0, 0) :: c_M_drop_39
def c_M_drop_37 : List eg_I := .inl (37, 1, .iload 2, 0, 0) :: c_M_drop_38
def c_M_drop_36 : List eg_I := .inl (36, 1, .iastore, 0, 0) :: c_M_drop_37
def c_M_drop_35 : List eg_I := .inl (35, 1, .iconst (0), 0, 0) :: c_M_drop_36
def c_M_drop_34 : List eg_I := .inl (34, 1, .iload 1, 0, 0) :: c_M_drop_35
def c_M_drop_31 : List eg_I := .inl (31, 3, .getfield 32, 12, 7) :: c_M_drop_34
def c_M_drop_30 : List eg_I := .inl (30, 1, .aload 0, 0, 0) :: c_M_drop_31
def c_M_drop_29 : List eg_I := .inl (29, 1, .istore 2, 0, 0) :: c_M_drop_30
def c_M_drop_28 : List eg_I := .inl (28, 1, .iconst (0), 0, 0) :: c_M_drop_29
def c_M_drop_25 : List eg_I := .inl (25, 3, .goto (4), 29, 0) :: []
def c_M_drop_24 : List eg_I := .inl (24, 1, .iconst (1), 0, 0) :: c_M_drop_25
def c_M_drop_21 : List eg_I := .inl (21, 3, .ifCond .le (7), 28, 0) :: c_M_drop_24
def c_M_drop_20 : List eg_I := .inl (20, 1, .iaload, 0, 0) :: c_M_drop_21
def c_M_drop_19 : List eg_I := .inl (19, 1, .iload 1, 0, 0) :: c_M_drop_20
def c_M_drop_16 : List eg_I := .inl (16, 3, .getfield 32, 12, 7) :: c_M_drop_19
def c_M_drop_15 : List eg_I := .inl (15, 1, .aload 0, 0, 0) :: c_M_drop_16
def c_M_drop_14 : List eg_I := .inl (14, 1, .lreturn, 0, 0) :: []
def c_M_drop_11 : List eg_I := .inr (11, 1, 112, n_M_finding, 1, 12, 0, 0) :: c_M_drop_14
def c_M_drop_8 : List eg_I := .inl (8, 3, .sipush (-1000000000000000001), 110, 0) :: c_M_drop_11
def c_M_drop_7 : List eg_I := .inl (7, 1, .aload 0, 0, 0) :: c_M_drop_8
def c_M_drop_4 : List eg_I := .inl (4, 3, .ifCond .ne (11), 15, 0) :: c_M_drop_7
def c_M_drop_1 : List eg_I := .inr (1, 0, 255, n_M_isFigure, 1, 12, 0, 0) :: c_M_drop_4
def c_M_drop_0 : List eg_I := .inl (0, 1, .iload 1, 0, 0) :: c_M_drop_1
section
variable {rm : Room} {K : Nat → Nat → Nat → eg_Lo → List Value → List eg_E → Prop} {Q : Option Value → List eg_E → Prop} {kc ks : Nat} {loc : eg_Lo} {st : List Value} {h : List eg_E}
theorem s_M_drop_0 {x : Int32} {l0 : Option Value} {l : eg_Lo} : wps rm K Q c_M_drop_0 kc ks (l0 :: some (.int x) :: l) (st) h = wps rm K Q c_M_drop_1 kc ks (l0 :: some (.int x) :: l) (.int x :: st) h := gk_iload rfl
theorem s_M_drop_1  {a1 : Value} : wps rm K Q c_M_drop_1 kc ks loc (a1 :: st) h = (st.length ≤ 4 ∧ eg_Cs n_M_isFigure [a1] h (fun v h9 => wps rm K Q c_M_drop_4 kc ks loc (v.toList ++ st) h9)) := eg_c0_1
theorem s_M_drop_4 {x : Int32} : wps rm K Q c_M_drop_4 kc ks loc (.int x :: st) h = ((¬ x = 0 → K 15 kc ks loc st h) ∧ (x = 0 → wps rm K Q c_M_drop_7 kc ks loc (st) h)) := gk_if1_ne
theorem s_M_drop_7 {x : Nat} {l : eg_Lo} : wps rm K Q c_M_drop_7 kc ks (some (.ref x) :: l) (st) h = wps rm K Q c_M_drop_8 kc ks (some (.ref x) :: l) (.ref x :: st) h := gk_aload rfl
theorem s_M_drop_8  : wps rm K Q c_M_drop_8 kc ks loc (st) h = wps rm K Q c_M_drop_11 kc ks loc (.long (-1000000000000000001) :: st) h := gk_lc (by decide)
theorem s_M_drop_11  {a1 : Value} {x : Nat} : wps rm K Q c_M_drop_11 kc ks loc (a1 :: .ref (x + 1) :: st) h = (eg_cls h x 12 ∧ st.length ≤ 4 ∧ eg_Cs n_M_finding (.ref (x + 1) :: [a1]) h (fun v h9 => wps rm K Q c_M_drop_14 kc ks loc (v.toList ++ st) h9)) := eg_c1_1
theorem s_M_drop_14 {x : Int64} : wps rm K Q c_M_drop_14 kc ks loc ([.long x]) h = (kc = rm.cells ∧ Q (some (.long x)) h) := gk_lret
theorem s_M_drop_15 {x : Nat} {l : eg_Lo} : wps rm K Q c_M_drop_15 kc ks (some (.ref x) :: l) (st) h = wps rm K Q c_M_drop_16 kc ks (some (.ref x) :: l) (.ref x :: st) h := gk_aload rfl
theorem s_M_drop_16 {x : Nat} : wps rm K Q c_M_drop_16 kc ks loc (.ref (x + 1) :: st) h = eg_gf h x 12 7 (fun v => wps rm K Q c_M_drop_19 kc ks loc (v :: st) h) := gk_gf
theorem s_M_drop_19 {x : Int32} {l0 : Option Value} {l : eg_Lo} : wps rm K Q c_M_drop_19 kc ks (l0 :: some (.int x) :: l) (st) h = wps rm K Q c_M_drop_20 kc ks (l0 :: some (.int x) :: l) (.int x :: st) h := gk_iload rfl
theorem s_M_drop_20 {x : Nat} {i : Int32} : wps rm K Q c_M_drop_20 kc ks loc (.int i :: .ref (x + 1) :: st) h = eg_ia h x i (fun v => wps rm K Q c_M_drop_21 kc ks loc (.int v :: st) h) := gk_iaload
theorem s_M_drop_21 {x : Int32} : wps rm K Q c_M_drop_21 kc ks loc (.int x :: st) h = ((x ≤ 0 → K 28 kc ks loc st h) ∧ (¬ x ≤ 0 → wps rm K Q c_M_drop_24 kc ks loc (st) h)) := gk_if1_le
theorem s_M_drop_24  : wps rm K Q c_M_drop_24 kc ks loc (st) h = wps rm K Q c_M_drop_25 kc ks loc (.int (1) :: st) h := gk_ic (by decide)
theorem s_M_drop_25  : wps rm K Q c_M_drop_25 kc ks loc (st) h = K 29 kc ks loc st h := gk_goto
theorem s_M_drop_28  : wps rm K Q c_M_drop_28 kc ks loc (st) h = wps rm K Q c_M_drop_29 kc ks loc (.int (0) :: st) h := gk_ic (by decide)
theorem s_M_drop_29 {x : Int32} : wps rm K Q c_M_drop_29 kc ks loc (.int x :: st) h = wps rm K Q c_M_drop_30 kc ks (eg_set1 loc 2 (.int x)) (st) h := gk_istore
theorem s_M_drop_30 {x : Nat} {l : eg_Lo} : wps rm K Q c_M_drop_30 kc ks (some (.ref x) :: l) (st) h = wps rm K Q c_M_drop_31 kc ks (some (.ref x) :: l) (.ref x :: st) h := gk_aload rfl
theorem s_M_drop_31 {x : Nat} : wps rm K Q c_M_drop_31 kc ks loc (.ref (x + 1) :: st) h = eg_gf h x 12 7 (fun v => wps rm K Q c_M_drop_34 kc ks loc (v :: st) h) := gk_gf
theorem s_M_drop_34 {x : Int32} {l0 : Option Value} {l : eg_Lo} : wps rm K Q c_M_drop_34 kc ks (l0 :: some (.int x) :: l) (st) h = wps rm K Q c_M_drop_35 kc ks (l0 :: some (.int x) :: l) (.int x :: st) h := gk_iload rfl
theorem s_M_drop_35  : wps rm K Q c_M_drop_35 kc ks loc (st) h = wps rm K Q c_M_drop_36 kc ks loc (.int (0) :: st) h := gk_ic (by decide)
theorem s_M_drop_36 {x : Nat} {i : Int32} {v : Int32} : wps rm K Q c_M_drop_36 kc ks loc (.int v :: .int i :: .ref (x + 1) :: st) h = eg_is h x i v (fun h9 => wps rm K Q c_M_drop_37 kc ks loc (st) h9) := gk_iastore
theorem s_M_drop_37 {x : Int32} {l0 l1 : Option Value} {l : eg_Lo} : wps rm K Q c_M_drop_37 kc ks (l0 :: l1 :: some (.int x) :: l) (st) h = wps rm K Q c_M_drop_38 kc ks (l0 :: l1 :: some (.int x) :: l) (.int x :: st) h := gk_iload rfl
theorem s_M_drop_38 {x : Int32} : wps rm K Q c_M_drop_38 kc ks loc (.int x :: st) h = wps rm K Q c_M_drop_39 kc ks loc (.long (x.toInt64) :: st) h := gk_i2l
theorem s_M_drop_39 {x : Int64} : wps rm K Q c_M_drop_39 kc ks loc ([.long x]) h = (kc = rm.cells ∧ Q (some (.long x)) h) := gk_lret
def T_M_drop : List (Nat × List eg_I) := [(15, c_M_drop_15), (28, c_M_drop_28), (29, c_M_drop_29)]
theorem j_M_drop_15 {R : Nat → Nat → Nat → eg_Lo → List Value → List eg_E → Prop} {f pc0 : Nat} : eg_run rm R Q T_M_drop (f + 1) 15 kc ks loc st h = wps rm (eg_run rm R Q T_M_drop f) Q c_M_drop_15 kc ks loc st h := rfl
theorem j_M_drop_28 {R : Nat → Nat → Nat → eg_Lo → List Value → List eg_E → Prop} {f pc0 : Nat} : eg_run rm R Q T_M_drop (f + 1) 28 kc ks loc st h = wps rm (eg_run rm R Q T_M_drop f) Q c_M_drop_28 kc ks loc st h := rfl
theorem j_M_drop_29 {R : Nat → Nat → Nat → eg_Lo → List Value → List eg_E → Prop} {f pc0 : Nat} : eg_run rm R Q T_M_drop (f + 1) 29 kc ks loc st h = wps rm (eg_run rm R Q T_M_drop f) Q c_M_drop_29 kc ks loc st h := rfl
end
theorem y_M_drop_0 : eg_seq m_M_drop 0 c_M_drop_0 = true := by decide +kernel
theorem y_M_drop_15 : eg_seq m_M_drop 15 c_M_drop_15 = true := by decide +kernel
theorem y_M_drop_28 : eg_seq m_M_drop 28 c_M_drop_28 = true := by decide +kernel
theorem q_M_drop : ∀ q ∈ T_M_drop, eg_seq m_M_drop q.1 q.2 = true := by
  intro q hq
  simp only [T_M_drop, List.mem_cons, List.not_mem_nil, or_false] at hq
  rcases hq with rfl | rfl | rfl
  · exact y_M_drop_15
  · exact y_M_drop_28
  · exact (eg_seq_drop y_M_drop_28 1 : eg_seq m_M_drop 29 c_M_drop_29 = true)
theorem md_M_drop : eg_md n_M_drop = m_M_drop := rfl
theorem mn_M_drop : n_M_drop < 202 := Nat.le_of_ble_eq_true rfl
theorem b_M_drop {as : List Value} {h : List eg_E} {Q : Option Value → List eg_E → Prop} (hf : (eg_fl as).length ≤ 3) : wps (eg_rm m_M_drop) (eg_run (eg_rm m_M_drop) (eg_R m_M_drop Q (h.length + 0)) Q T_M_drop 5) Q c_M_drop_0 0 0 (eg_entry 3 as) [] h → eg_Runs n_M_drop as h Q := eg_begin2 md_M_drop mn_M_drop y_M_drop_0 q_M_drop hf
/-! ===== M_isFlat ===== -/
def c_M_isFlat_25 : List eg_I := .inl (25, 1, .ireturn, 0, 1) :: []
def c_M_isFlat_24 : List eg_I := .inl (24, 1, .iconst (0), 0, 0) :: c_M_isFlat_25
def c_M_isFlat_21 : List eg_I := .inl (21, 3, .goto (4), 25, 0) :: []
def c_M_isFlat_20 : List eg_I := .inl (20, 1, .iconst (1), 0, 0) :: c_M_isFlat_21
def c_M_isFlat_17 : List eg_I := .inl (17, 3, .if_icmp .ne (7), 24, 0) :: c_M_isFlat_20
def c_M_isFlat_16 : List eg_I := .inl (16, 1, .iconst (3), 0, 0) :: c_M_isFlat_17
def c_M_isFlat_15 : List eg_I := .inl (15, 1, .iaload, 0, 0) :: c_M_isFlat_16
def c_M_isFlat_14 : List eg_I := .inl (14, 1, .iload 1, 0, 0) :: c_M_isFlat_15
def c_M_isFlat_11 : List eg_I := .inl (11, 3, .getfield 32, 12, 7) :: c_M_isFlat_14
def c_M_isFlat_10 : List eg_I := .inl (10, 1, .aload 0, 0, 0) :: c_M_isFlat_11
def c_M_isFlat_7 : List eg_I := .inl (7, 3, .if_icmp .eq (13), 20, 0) :: c_M_isFlat_10
def c_M_isFlat_6 : List eg_I := .inl (6, 1, .iconst (2), 0, 0) :: c_M_isFlat_7
def c_M_isFlat_5 : List eg_I := .inl (5, 1, .iaload, 0, 0) :: c_M_isFlat_6
def c_M_isFlat_4 : List eg_I := .inl (4, 1, .iload 1, 0, 0) :: c_M_isFlat_5
def c_M_isFlat_1 : List eg_I := .inl (1, 3, .getfield 32, 12, 7) :: c_M_isFlat_4
def c_M_isFlat_0 : List eg_I := .inl (0, 1, .aload 0, 0, 0) :: c_M_isFlat_1
section
variable {rm : Room} {K : Nat → Nat → Nat → eg_Lo → List Value → List eg_E → Prop} {Q : Option Value → List eg_E → Prop} {kc ks : Nat} {loc : eg_Lo} {st : List Value} {h : List eg_E}
theorem s_M_isFlat_0 {x : Nat} {l : eg_Lo} : wps rm K Q c_M_isFlat_0 kc ks (some (.ref x) :: l) (st) h = wps rm K Q c_M_isFlat_1 kc ks (some (.ref x) :: l) (.ref x :: st) h := gk_aload rfl
theorem s_M_isFlat_1 {x : Nat} : wps rm K Q c_M_isFlat_1 kc ks loc (.ref (x + 1) :: st) h = eg_gf h x 12 7 (fun v => wps rm K Q c_M_isFlat_4 kc ks loc (v :: st) h) := gk_gf
theorem s_M_isFlat_4 {x : Int32} {l0 : Option Value} {l : eg_Lo} : wps rm K Q c_M_isFlat_4 kc ks (l0 :: some (.int x) :: l) (st) h = wps rm K Q c_M_isFlat_5 kc ks (l0 :: some (.int x) :: l) (.int x :: st) h := gk_iload rfl
theorem s_M_isFlat_5 {x : Nat} {i : Int32} : wps rm K Q c_M_isFlat_5 kc ks loc (.int i :: .ref (x + 1) :: st) h = eg_ia h x i (fun v => wps rm K Q c_M_isFlat_6 kc ks loc (.int v :: st) h) := gk_iaload
theorem s_M_isFlat_6  : wps rm K Q c_M_isFlat_6 kc ks loc (st) h = wps rm K Q c_M_isFlat_7 kc ks loc (.int (2) :: st) h := gk_ic (by decide)
theorem s_M_isFlat_7 {x y : Int32} : wps rm K Q c_M_isFlat_7 kc ks loc (.int y :: .int x :: st) h = ((x = y → K 20 kc ks loc st h) ∧ (¬ x = y → wps rm K Q c_M_isFlat_10 kc ks loc (st) h)) := gk_if2_eq
theorem s_M_isFlat_10 {x : Nat} {l : eg_Lo} : wps rm K Q c_M_isFlat_10 kc ks (some (.ref x) :: l) (st) h = wps rm K Q c_M_isFlat_11 kc ks (some (.ref x) :: l) (.ref x :: st) h := gk_aload rfl
theorem s_M_isFlat_11 {x : Nat} : wps rm K Q c_M_isFlat_11 kc ks loc (.ref (x + 1) :: st) h = eg_gf h x 12 7 (fun v => wps rm K Q c_M_isFlat_14 kc ks loc (v :: st) h) := gk_gf
theorem s_M_isFlat_14 {x : Int32} {l0 : Option Value} {l : eg_Lo} : wps rm K Q c_M_isFlat_14 kc ks (l0 :: some (.int x) :: l) (st) h = wps rm K Q c_M_isFlat_15 kc ks (l0 :: some (.int x) :: l) (.int x :: st) h := gk_iload rfl
theorem s_M_isFlat_15 {x : Nat} {i : Int32} : wps rm K Q c_M_isFlat_15 kc ks loc (.int i :: .ref (x + 1) :: st) h = eg_ia h x i (fun v => wps rm K Q c_M_isFlat_16 kc ks loc (.int v :: st) h) := gk_iaload
theorem s_M_isFlat_16  : wps rm K Q c_M_isFlat_16 kc ks loc (st) h = wps rm K Q c_M_isFlat_17 kc ks loc (.int (3) :: st) h := gk_ic (by decide)
theorem s_M_isFlat_17 {x y : Int32} : wps rm K Q c_M_isFlat_17 kc ks loc (.int y :: .int x :: st) h = ((¬ x = y → K 24 kc ks loc st h) ∧ (x = y → wps rm K Q c_M_isFlat_20 kc ks loc (st) h)) := gk_if2_ne
theorem s_M_isFlat_20  : wps rm K Q c_M_isFlat_20 kc ks loc (st) h = wps rm K Q c_M_isFlat_21 kc ks loc (.int (1) :: st) h := gk_ic (by decide)
theorem s_M_isFlat_21  : wps rm K Q c_M_isFlat_21 kc ks loc (st) h = K 25 kc ks loc st h := gk_goto
theorem s_M_isFlat_24  : wps rm K Q c_M_isFlat_24 kc ks loc (st) h = wps rm K Q c_M_isFlat_25 kc ks loc (.int (0) :: st) h := gk_ic (by decide)
theorem s_M_isFlat_25 {x : Int32} : wps rm K Q c_M_isFlat_25 kc ks loc ([.int x]) h = (kc = rm.cells ∧ ((1 : Nat) = 1 → x = 0 ∨ x = 1) ∧ Q (some (.int x)) h) := gk_iret
def T_M_isFlat : List (Nat × List eg_I) := [(20, c_M_isFlat_20), (24, c_M_isFlat_24), (25, c_M_isFlat_25)]
theorem j_M_isFlat_20 {R : Nat → Nat → Nat → eg_Lo → List Value → List eg_E → Prop} {f pc0 : Nat} : eg_run rm R Q T_M_isFlat (f + 1) 20 kc ks loc st h = wps rm (eg_run rm R Q T_M_isFlat f) Q c_M_isFlat_20 kc ks loc st h := rfl
theorem j_M_isFlat_24 {R : Nat → Nat → Nat → eg_Lo → List Value → List eg_E → Prop} {f pc0 : Nat} : eg_run rm R Q T_M_isFlat (f + 1) 24 kc ks loc st h = wps rm (eg_run rm R Q T_M_isFlat f) Q c_M_isFlat_24 kc ks loc st h := rfl
theorem j_M_isFlat_25 {R : Nat → Nat → Nat → eg_Lo → List Value → List eg_E → Prop} {f pc0 : Nat} : eg_run rm R Q T_M_isFlat (f + 1) 25 kc ks loc st h = wps rm (eg_run rm R Q T_M_isFlat f) Q c_M_isFlat_25 kc ks loc st h := rfl
end
theorem y_M_isFlat_0 : eg_seq m_M_isFlat 0 c_M_isFlat_0 = true := by decide +kernel
theorem y_M_isFlat_24 : eg_seq m_M_isFlat 24 c_M_isFlat_24 = true := by decide +kernel
theorem q_M_isFlat : ∀ q ∈ T_M_isFlat, eg_seq m_M_isFlat q.1 q.2 = true := by
  intro q hq
  simp only [T_M_isFlat, List.mem_cons, List.not_mem_nil, or_false] at hq
  rcases hq with rfl | rfl | rfl
  · exact (eg_seq_drop y_M_isFlat_0 12 : eg_seq m_M_isFlat 20 c_M_isFlat_20 = true)
  · exact y_M_isFlat_24
  · exact (eg_seq_drop y_M_isFlat_24 1 : eg_seq m_M_isFlat 25 c_M_isFlat_25 = true)
theorem md_M_isFlat : eg_md n_M_isFlat = m_M_isFlat := rfl
theorem mn_M_isFlat : n_M_isFlat < 202 := Nat.le_of_ble_eq_true rfl
theorem b_M_isFlat {as : List Value} {h : List eg_E} {Q : Option Value → List eg_E → Prop} (hf : (eg_fl as).length ≤ 2) : wps (eg_rm m_M_isFlat) (eg_run (eg_rm m_M_isFlat) (eg_R m_M_isFlat Q (h.length + 0)) Q T_M_isFlat 5) Q c_M_isFlat_0 0 0 (eg_entry 2 as) [] h → eg_Runs n_M_isFlat as h Q := eg_begin2 md_M_isFlat mn_M_isFlat y_M_isFlat_0 q_M_isFlat hf
/-! ===== M_as ===== -/
def c_M_as_110 : List eg_I := .inl (110, 1, .lreturn, 0, 0) :: []
def c_M_as_107 : List eg_I := .inr (107, 1, 112, n_M_finding, 1, 12, 0, 0) :: c_M_as_110
def c_M_as_104 : List eg_I := .inl (104, 3, .sipush (-1000000000000000004), 147, 0) :: c_M_as_107
def c_M_as_103 : List eg_I := .inl (103, 1, .aload 0, 0, 0) :: c_M_as_104
def c_M_as_100 : List eg_I := .inl (100, 3, .goto (10), 110, 0) :: []
def c_M_as_99 : List eg_I := .inl (99, 1, .i2l, 0, 0) :: c_M_as_100
def c_M_as_98 : List eg_I := .inl (98, 1, .iaload, 0, 0) :: c_M_as_99
def c_M_as_97 : List eg_I := .inl (97, 1, .iload 1, 0, 0) :: c_M_as_98
def c_M_as_94 : List eg_I := .inl (94, 3, .getfield 32, 12, 7) :: c_M_as_97
def c_M_as_93 : List eg_I := .inl (93, 1, .aload 0, 0, 0) :: c_M_as_94
def c_M_as_90 : List eg_I := .inl (90, 3, .ifCond .eq (13), 103, 0) :: c_M_as_93
def c_M_as_89 : List eg_I := .inl (89, 1, .iload 3, 0, 0) :: c_M_as_90
def c_M_as_88 : List eg_I := .inl (88, 1, .istore 3, 0, 0) :: c_M_as_89
def c_M_as_87 : List eg_I := .inl (87, 1, .iconst (0), 0, 0) :: c_M_as_88
def c_M_as_84 : List eg_I := .inl (84, 3, .goto (4), 88, 0) :: []
def c_M_as_83 : List eg_I := .inl (83, 1, .iconst (1), 0, 0) :: c_M_as_84
def c_M_as_80 : List eg_I := .inl (80, 3, .if_icmp .ne (7), 87, 0) :: c_M_as_83
def c_M_as_79 : List eg_I := .inl (79, 1, .iconst (5), 0, 0) :: c_M_as_80
def c_M_as_78 : List eg_I := .inl (78, 1, .iaload, 0, 0) :: c_M_as_79
def c_M_as_77 : List eg_I := .inl (77, 1, .iload 1, 0, 0) :: c_M_as_78
def c_M_as_74 : List eg_I := .inl (74, 3, .getfield 32, 12, 7) :: c_M_as_77
def c_M_as_73 : List eg_I := .inl (73, 1, .aload 0, 0, 0) :: c_M_as_74
def c_M_as_70 : List eg_I := .inl (70, 3, .if_icmp .ne (17), 87, 0) :: c_M_as_73
def c_M_as_69 : List eg_I := .inl (69, 1, .iconst (4), 0, 0) :: c_M_as_70
def c_M_as_68 : List eg_I := .inl (68, 1, .iload 2, 0, 0) :: c_M_as_69
def c_M_as_65 : List eg_I := .inl (65, 3, .ifCond .ne (18), 83, 0) :: c_M_as_68
def c_M_as_62 : List eg_I := .inr (62, 1, 267, n_M_isFlat, 1, 12, 0, 0) :: c_M_as_65
def c_M_as_61 : List eg_I := .inl (61, 1, .iload 1, 0, 0) :: c_M_as_62
def c_M_as_60 : List eg_I := .inl (60, 1, .aload 0, 0, 0) :: c_M_as_61
def c_M_as_57 : List eg_I := .inl (57, 3, .if_icmp .ne (11), 68, 0) :: c_M_as_60
def c_M_as_56 : List eg_I := .inl (56, 1, .iconst (1), 0, 0) :: c_M_as_57
def c_M_as_55 : List eg_I := .inl (55, 1, .iload 2, 0, 0) :: c_M_as_56
def c_M_as_52 : List eg_I := .inl (52, 3, .if_icmp .eq (31), 83, 0) :: c_M_as_55
def c_M_as_51 : List eg_I := .inl (51, 1, .iaload, 0, 0) :: c_M_as_52
def c_M_as_50 : List eg_I := .inl (50, 1, .iload 1, 0, 0) :: c_M_as_51
def c_M_as_47 : List eg_I := .inl (47, 3, .getfield 32, 12, 7) :: c_M_as_50
def c_M_as_46 : List eg_I := .inl (46, 1, .aload 0, 0, 0) :: c_M_as_47
def c_M_as_45 : List eg_I := .inl (45, 1, .iload 2, 0, 0) :: c_M_as_46
def c_M_as_42 : List eg_I := .inl (42, 3, .ifCond .eq (41), 83, 0) :: c_M_as_45
def c_M_as_41 : List eg_I := .inl (41, 1, .iload 2, 0, 0) :: c_M_as_42
def c_M_as_40 : List eg_I := .inl (40, 1, .lreturn, 0, 0) :: []
def c_M_as_37 : List eg_I := .inr (37, 1, 112, n_M_finding, 1, 12, 0, 0) :: c_M_as_40
def c_M_as_34 : List eg_I := .inl (34, 3, .sipush (-1000000000000000006), 138, 0) :: c_M_as_37
def c_M_as_33 : List eg_I := .inl (33, 1, .aload 0, 0, 0) :: c_M_as_34
def c_M_as_30 : List eg_I := .inl (30, 3, .ifCond .ne (11), 41, 0) :: c_M_as_33
def c_M_as_29 : List eg_I := .inl (29, 1, .iaload, 0, 0) :: c_M_as_30
def c_M_as_28 : List eg_I := .inl (28, 1, .iload 1, 0, 0) :: c_M_as_29
def c_M_as_25 : List eg_I := .inl (25, 3, .getfield 32, 12, 7) :: c_M_as_28
def c_M_as_24 : List eg_I := .inl (24, 1, .aload 0, 0, 0) :: c_M_as_25
def c_M_as_23 : List eg_I := .inl (23, 1, .lreturn, 0, 0) :: []
def c_M_as_20 : List eg_I := .inr (20, 1, 112, n_M_finding, 1, 12, 0, 0) :: c_M_as_23
def c_M_as_17 : List eg_I := .inl (17, 3, .sipush (-1000000000000000001), 110, 0) :: c_M_as_20
def c_M_as_16 : List eg_I := .inl (16, 1, .aload 0, 0, 0) :: c_M_as_17
def c_M_as_13 : List eg_I := .inl (13, 3, .ifCond .ne (11), 24, 0) :: c_M_as_16
def c_M_as_10 : List eg_I := .inr (10, 0, 95, n_M_isIn, 3, 12, 0, 0) :: c_M_as_13
def c_M_as_9 : List eg_I := .inl (9, 1, .iconst (5), 0, 0) :: c_M_as_10
def c_M_as_8 : List eg_I := .inl (8, 1, .iconst (0), 0, 0) :: c_M_as_9
def c_M_as_7 : List eg_I := .inl (7, 1, .iload 2, 0, 0) :: c_M_as_8
def c_M_as_4 : List eg_I := .inl (4, 3, .ifCond .eq (12), 16, 0) :: c_M_as_7
def c_M_as_1 : List eg_I := .inr (1, 0, 255, n_M_isFigure, 1, 12, 0, 0) :: c_M_as_4
def c_M_as_0 : List eg_I := .inl (0, 1, .iload 1, 0, 0) :: c_M_as_1
section
variable {rm : Room} {K : Nat → Nat → Nat → eg_Lo → List Value → List eg_E → Prop} {Q : Option Value → List eg_E → Prop} {kc ks : Nat} {loc : eg_Lo} {st : List Value} {h : List eg_E}
theorem s_M_as_0 {x : Int32} {l0 : Option Value} {l : eg_Lo} : wps rm K Q c_M_as_0 kc ks (l0 :: some (.int x) :: l) (st) h = wps rm K Q c_M_as_1 kc ks (l0 :: some (.int x) :: l) (.int x :: st) h := gk_iload rfl
theorem s_M_as_1  {a1 : Value} : wps rm K Q c_M_as_1 kc ks loc (a1 :: st) h = (st.length ≤ 4 ∧ eg_Cs n_M_isFigure [a1] h (fun v h9 => wps rm K Q c_M_as_4 kc ks loc (v.toList ++ st) h9)) := eg_c0_1
theorem s_M_as_4 {x : Int32} : wps rm K Q c_M_as_4 kc ks loc (.int x :: st) h = ((x = 0 → K 16 kc ks loc st h) ∧ (¬ x = 0 → wps rm K Q c_M_as_7 kc ks loc (st) h)) := gk_if1_eq
theorem s_M_as_7 {x : Int32} {l0 l1 : Option Value} {l : eg_Lo} : wps rm K Q c_M_as_7 kc ks (l0 :: l1 :: some (.int x) :: l) (st) h = wps rm K Q c_M_as_8 kc ks (l0 :: l1 :: some (.int x) :: l) (.int x :: st) h := gk_iload rfl
theorem s_M_as_8  : wps rm K Q c_M_as_8 kc ks loc (st) h = wps rm K Q c_M_as_9 kc ks loc (.int (0) :: st) h := gk_ic (by decide)
theorem s_M_as_9  : wps rm K Q c_M_as_9 kc ks loc (st) h = wps rm K Q c_M_as_10 kc ks loc (.int (5) :: st) h := gk_ic (by decide)
theorem s_M_as_10  {a1 : Value} {a2 : Value} {a3 : Value} : wps rm K Q c_M_as_10 kc ks loc (a3 :: a2 :: a1 :: st) h = (st.length ≤ 4 ∧ eg_Cs n_M_isIn [a1, a2, a3] h (fun v h9 => wps rm K Q c_M_as_13 kc ks loc (v.toList ++ st) h9)) := eg_c0_3
theorem s_M_as_13 {x : Int32} : wps rm K Q c_M_as_13 kc ks loc (.int x :: st) h = ((¬ x = 0 → K 24 kc ks loc st h) ∧ (x = 0 → wps rm K Q c_M_as_16 kc ks loc (st) h)) := gk_if1_ne
theorem s_M_as_16 {x : Nat} {l : eg_Lo} : wps rm K Q c_M_as_16 kc ks (some (.ref x) :: l) (st) h = wps rm K Q c_M_as_17 kc ks (some (.ref x) :: l) (.ref x :: st) h := gk_aload rfl
theorem s_M_as_17  : wps rm K Q c_M_as_17 kc ks loc (st) h = wps rm K Q c_M_as_20 kc ks loc (.long (-1000000000000000001) :: st) h := gk_lc (by decide)
theorem s_M_as_20  {a1 : Value} {x : Nat} : wps rm K Q c_M_as_20 kc ks loc (a1 :: .ref (x + 1) :: st) h = (eg_cls h x 12 ∧ st.length ≤ 4 ∧ eg_Cs n_M_finding (.ref (x + 1) :: [a1]) h (fun v h9 => wps rm K Q c_M_as_23 kc ks loc (v.toList ++ st) h9)) := eg_c1_1
theorem s_M_as_23 {x : Int64} : wps rm K Q c_M_as_23 kc ks loc ([.long x]) h = (kc = rm.cells ∧ Q (some (.long x)) h) := gk_lret
theorem s_M_as_24 {x : Nat} {l : eg_Lo} : wps rm K Q c_M_as_24 kc ks (some (.ref x) :: l) (st) h = wps rm K Q c_M_as_25 kc ks (some (.ref x) :: l) (.ref x :: st) h := gk_aload rfl
theorem s_M_as_25 {x : Nat} : wps rm K Q c_M_as_25 kc ks loc (.ref (x + 1) :: st) h = eg_gf h x 12 7 (fun v => wps rm K Q c_M_as_28 kc ks loc (v :: st) h) := gk_gf
theorem s_M_as_28 {x : Int32} {l0 : Option Value} {l : eg_Lo} : wps rm K Q c_M_as_28 kc ks (l0 :: some (.int x) :: l) (st) h = wps rm K Q c_M_as_29 kc ks (l0 :: some (.int x) :: l) (.int x :: st) h := gk_iload rfl
theorem s_M_as_29 {x : Nat} {i : Int32} : wps rm K Q c_M_as_29 kc ks loc (.int i :: .ref (x + 1) :: st) h = eg_ia h x i (fun v => wps rm K Q c_M_as_30 kc ks loc (.int v :: st) h) := gk_iaload
theorem s_M_as_30 {x : Int32} : wps rm K Q c_M_as_30 kc ks loc (.int x :: st) h = ((¬ x = 0 → K 41 kc ks loc st h) ∧ (x = 0 → wps rm K Q c_M_as_33 kc ks loc (st) h)) := gk_if1_ne
theorem s_M_as_33 {x : Nat} {l : eg_Lo} : wps rm K Q c_M_as_33 kc ks (some (.ref x) :: l) (st) h = wps rm K Q c_M_as_34 kc ks (some (.ref x) :: l) (.ref x :: st) h := gk_aload rfl
theorem s_M_as_34  : wps rm K Q c_M_as_34 kc ks loc (st) h = wps rm K Q c_M_as_37 kc ks loc (.long (-1000000000000000006) :: st) h := gk_lc (by decide)
theorem s_M_as_37  {a1 : Value} {x : Nat} : wps rm K Q c_M_as_37 kc ks loc (a1 :: .ref (x + 1) :: st) h = (eg_cls h x 12 ∧ st.length ≤ 4 ∧ eg_Cs n_M_finding (.ref (x + 1) :: [a1]) h (fun v h9 => wps rm K Q c_M_as_40 kc ks loc (v.toList ++ st) h9)) := eg_c1_1
theorem s_M_as_40 {x : Int64} : wps rm K Q c_M_as_40 kc ks loc ([.long x]) h = (kc = rm.cells ∧ Q (some (.long x)) h) := gk_lret
theorem s_M_as_41 {x : Int32} {l0 l1 : Option Value} {l : eg_Lo} : wps rm K Q c_M_as_41 kc ks (l0 :: l1 :: some (.int x) :: l) (st) h = wps rm K Q c_M_as_42 kc ks (l0 :: l1 :: some (.int x) :: l) (.int x :: st) h := gk_iload rfl
theorem s_M_as_42 {x : Int32} : wps rm K Q c_M_as_42 kc ks loc (.int x :: st) h = ((x = 0 → K 83 kc ks loc st h) ∧ (¬ x = 0 → wps rm K Q c_M_as_45 kc ks loc (st) h)) := gk_if1_eq
theorem s_M_as_45 {x : Int32} {l0 l1 : Option Value} {l : eg_Lo} : wps rm K Q c_M_as_45 kc ks (l0 :: l1 :: some (.int x) :: l) (st) h = wps rm K Q c_M_as_46 kc ks (l0 :: l1 :: some (.int x) :: l) (.int x :: st) h := gk_iload rfl
theorem s_M_as_46 {x : Nat} {l : eg_Lo} : wps rm K Q c_M_as_46 kc ks (some (.ref x) :: l) (st) h = wps rm K Q c_M_as_47 kc ks (some (.ref x) :: l) (.ref x :: st) h := gk_aload rfl
theorem s_M_as_47 {x : Nat} : wps rm K Q c_M_as_47 kc ks loc (.ref (x + 1) :: st) h = eg_gf h x 12 7 (fun v => wps rm K Q c_M_as_50 kc ks loc (v :: st) h) := gk_gf
theorem s_M_as_50 {x : Int32} {l0 : Option Value} {l : eg_Lo} : wps rm K Q c_M_as_50 kc ks (l0 :: some (.int x) :: l) (st) h = wps rm K Q c_M_as_51 kc ks (l0 :: some (.int x) :: l) (.int x :: st) h := gk_iload rfl
theorem s_M_as_51 {x : Nat} {i : Int32} : wps rm K Q c_M_as_51 kc ks loc (.int i :: .ref (x + 1) :: st) h = eg_ia h x i (fun v => wps rm K Q c_M_as_52 kc ks loc (.int v :: st) h) := gk_iaload
theorem s_M_as_52 {x y : Int32} : wps rm K Q c_M_as_52 kc ks loc (.int y :: .int x :: st) h = ((x = y → K 83 kc ks loc st h) ∧ (¬ x = y → wps rm K Q c_M_as_55 kc ks loc (st) h)) := gk_if2_eq
theorem s_M_as_55 {x : Int32} {l0 l1 : Option Value} {l : eg_Lo} : wps rm K Q c_M_as_55 kc ks (l0 :: l1 :: some (.int x) :: l) (st) h = wps rm K Q c_M_as_56 kc ks (l0 :: l1 :: some (.int x) :: l) (.int x :: st) h := gk_iload rfl
theorem s_M_as_56  : wps rm K Q c_M_as_56 kc ks loc (st) h = wps rm K Q c_M_as_57 kc ks loc (.int (1) :: st) h := gk_ic (by decide)
theorem s_M_as_57 {x y : Int32} : wps rm K Q c_M_as_57 kc ks loc (.int y :: .int x :: st) h = ((¬ x = y → K 68 kc ks loc st h) ∧ (x = y → wps rm K Q c_M_as_60 kc ks loc (st) h)) := gk_if2_ne
theorem s_M_as_60 {x : Nat} {l : eg_Lo} : wps rm K Q c_M_as_60 kc ks (some (.ref x) :: l) (st) h = wps rm K Q c_M_as_61 kc ks (some (.ref x) :: l) (.ref x :: st) h := gk_aload rfl
theorem s_M_as_61 {x : Int32} {l0 : Option Value} {l : eg_Lo} : wps rm K Q c_M_as_61 kc ks (l0 :: some (.int x) :: l) (st) h = wps rm K Q c_M_as_62 kc ks (l0 :: some (.int x) :: l) (.int x :: st) h := gk_iload rfl
theorem s_M_as_62  {a1 : Value} {x : Nat} : wps rm K Q c_M_as_62 kc ks loc (a1 :: .ref (x + 1) :: st) h = (eg_cls h x 12 ∧ st.length ≤ 4 ∧ eg_Cs n_M_isFlat (.ref (x + 1) :: [a1]) h (fun v h9 => wps rm K Q c_M_as_65 kc ks loc (v.toList ++ st) h9)) := eg_c1_1
theorem s_M_as_65 {x : Int32} : wps rm K Q c_M_as_65 kc ks loc (.int x :: st) h = ((¬ x = 0 → K 83 kc ks loc st h) ∧ (x = 0 → wps rm K Q c_M_as_68 kc ks loc (st) h)) := gk_if1_ne
theorem s_M_as_68 {x : Int32} {l0 l1 : Option Value} {l : eg_Lo} : wps rm K Q c_M_as_68 kc ks (l0 :: l1 :: some (.int x) :: l) (st) h = wps rm K Q c_M_as_69 kc ks (l0 :: l1 :: some (.int x) :: l) (.int x :: st) h := gk_iload rfl
theorem s_M_as_69  : wps rm K Q c_M_as_69 kc ks loc (st) h = wps rm K Q c_M_as_70 kc ks loc (.int (4) :: st) h := gk_ic (by decide)
theorem s_M_as_70 {x y : Int32} : wps rm K Q c_M_as_70 kc ks loc (.int y :: .int x :: st) h = ((¬ x = y → K 87 kc ks loc st h) ∧ (x = y → wps rm K Q c_M_as_73 kc ks loc (st) h)) := gk_if2_ne
theorem s_M_as_73 {x : Nat} {l : eg_Lo} : wps rm K Q c_M_as_73 kc ks (some (.ref x) :: l) (st) h = wps rm K Q c_M_as_74 kc ks (some (.ref x) :: l) (.ref x :: st) h := gk_aload rfl
theorem s_M_as_74 {x : Nat} : wps rm K Q c_M_as_74 kc ks loc (.ref (x + 1) :: st) h = eg_gf h x 12 7 (fun v => wps rm K Q c_M_as_77 kc ks loc (v :: st) h) := gk_gf
theorem s_M_as_77 {x : Int32} {l0 : Option Value} {l : eg_Lo} : wps rm K Q c_M_as_77 kc ks (l0 :: some (.int x) :: l) (st) h = wps rm K Q c_M_as_78 kc ks (l0 :: some (.int x) :: l) (.int x :: st) h := gk_iload rfl
theorem s_M_as_78 {x : Nat} {i : Int32} : wps rm K Q c_M_as_78 kc ks loc (.int i :: .ref (x + 1) :: st) h = eg_ia h x i (fun v => wps rm K Q c_M_as_79 kc ks loc (.int v :: st) h) := gk_iaload
theorem s_M_as_79  : wps rm K Q c_M_as_79 kc ks loc (st) h = wps rm K Q c_M_as_80 kc ks loc (.int (5) :: st) h := gk_ic (by decide)
theorem s_M_as_80 {x y : Int32} : wps rm K Q c_M_as_80 kc ks loc (.int y :: .int x :: st) h = ((¬ x = y → K 87 kc ks loc st h) ∧ (x = y → wps rm K Q c_M_as_83 kc ks loc (st) h)) := gk_if2_ne
theorem s_M_as_83  : wps rm K Q c_M_as_83 kc ks loc (st) h = wps rm K Q c_M_as_84 kc ks loc (.int (1) :: st) h := gk_ic (by decide)
theorem s_M_as_84  : wps rm K Q c_M_as_84 kc ks loc (st) h = K 88 kc ks loc st h := gk_goto
theorem s_M_as_87  : wps rm K Q c_M_as_87 kc ks loc (st) h = wps rm K Q c_M_as_88 kc ks loc (.int (0) :: st) h := gk_ic (by decide)
theorem s_M_as_88 {x : Int32} : wps rm K Q c_M_as_88 kc ks loc (.int x :: st) h = wps rm K Q c_M_as_89 kc ks (eg_set1 loc 3 (.int x)) (st) h := gk_istore
theorem s_M_as_89 {x : Int32} {l0 l1 l2 : Option Value} {l : eg_Lo} : wps rm K Q c_M_as_89 kc ks (l0 :: l1 :: l2 :: some (.int x) :: l) (st) h = wps rm K Q c_M_as_90 kc ks (l0 :: l1 :: l2 :: some (.int x) :: l) (.int x :: st) h := gk_iload rfl
theorem s_M_as_90 {x : Int32} : wps rm K Q c_M_as_90 kc ks loc (.int x :: st) h = ((x = 0 → K 103 kc ks loc st h) ∧ (¬ x = 0 → wps rm K Q c_M_as_93 kc ks loc (st) h)) := gk_if1_eq
theorem s_M_as_93 {x : Nat} {l : eg_Lo} : wps rm K Q c_M_as_93 kc ks (some (.ref x) :: l) (st) h = wps rm K Q c_M_as_94 kc ks (some (.ref x) :: l) (.ref x :: st) h := gk_aload rfl
theorem s_M_as_94 {x : Nat} : wps rm K Q c_M_as_94 kc ks loc (.ref (x + 1) :: st) h = eg_gf h x 12 7 (fun v => wps rm K Q c_M_as_97 kc ks loc (v :: st) h) := gk_gf
theorem s_M_as_97 {x : Int32} {l0 : Option Value} {l : eg_Lo} : wps rm K Q c_M_as_97 kc ks (l0 :: some (.int x) :: l) (st) h = wps rm K Q c_M_as_98 kc ks (l0 :: some (.int x) :: l) (.int x :: st) h := gk_iload rfl
theorem s_M_as_98 {x : Nat} {i : Int32} : wps rm K Q c_M_as_98 kc ks loc (.int i :: .ref (x + 1) :: st) h = eg_ia h x i (fun v => wps rm K Q c_M_as_99 kc ks loc (.int v :: st) h) := gk_iaload
theorem s_M_as_99 {x : Int32} : wps rm K Q c_M_as_99 kc ks loc (.int x :: st) h = wps rm K Q c_M_as_100 kc ks loc (.long (x.toInt64) :: st) h := gk_i2l
theorem s_M_as_100  : wps rm K Q c_M_as_100 kc ks loc (st) h = K 110 kc ks loc st h := gk_goto
theorem s_M_as_103 {x : Nat} {l : eg_Lo} : wps rm K Q c_M_as_103 kc ks (some (.ref x) :: l) (st) h = wps rm K Q c_M_as_104 kc ks (some (.ref x) :: l) (.ref x :: st) h := gk_aload rfl
theorem s_M_as_104  : wps rm K Q c_M_as_104 kc ks loc (st) h = wps rm K Q c_M_as_107 kc ks loc (.long (-1000000000000000004) :: st) h := gk_lc (by decide)
theorem s_M_as_107  {a1 : Value} {x : Nat} : wps rm K Q c_M_as_107 kc ks loc (a1 :: .ref (x + 1) :: st) h = (eg_cls h x 12 ∧ st.length ≤ 4 ∧ eg_Cs n_M_finding (.ref (x + 1) :: [a1]) h (fun v h9 => wps rm K Q c_M_as_110 kc ks loc (v.toList ++ st) h9)) := eg_c1_1
theorem s_M_as_110 {x : Int64} : wps rm K Q c_M_as_110 kc ks loc ([.long x]) h = (kc = rm.cells ∧ Q (some (.long x)) h) := gk_lret
def T_M_as : List (Nat × List eg_I) := [(16, c_M_as_16), (24, c_M_as_24), (41, c_M_as_41), (68, c_M_as_68), (83, c_M_as_83), (87, c_M_as_87), (88, c_M_as_88), (103, c_M_as_103), (110, c_M_as_110)]
theorem j_M_as_16 {R : Nat → Nat → Nat → eg_Lo → List Value → List eg_E → Prop} {f pc0 : Nat} : eg_run rm R Q T_M_as (f + 1) 16 kc ks loc st h = wps rm (eg_run rm R Q T_M_as f) Q c_M_as_16 kc ks loc st h := rfl
theorem j_M_as_24 {R : Nat → Nat → Nat → eg_Lo → List Value → List eg_E → Prop} {f pc0 : Nat} : eg_run rm R Q T_M_as (f + 1) 24 kc ks loc st h = wps rm (eg_run rm R Q T_M_as f) Q c_M_as_24 kc ks loc st h := rfl
theorem j_M_as_41 {R : Nat → Nat → Nat → eg_Lo → List Value → List eg_E → Prop} {f pc0 : Nat} : eg_run rm R Q T_M_as (f + 1) 41 kc ks loc st h = wps rm (eg_run rm R Q T_M_as f) Q c_M_as_41 kc ks loc st h := rfl
theorem j_M_as_68 {R : Nat → Nat → Nat → eg_Lo → List Value → List eg_E → Prop} {f pc0 : Nat} : eg_run rm R Q T_M_as (f + 1) 68 kc ks loc st h = wps rm (eg_run rm R Q T_M_as f) Q c_M_as_68 kc ks loc st h := rfl
theorem j_M_as_83 {R : Nat → Nat → Nat → eg_Lo → List Value → List eg_E → Prop} {f pc0 : Nat} : eg_run rm R Q T_M_as (f + 1) 83 kc ks loc st h = wps rm (eg_run rm R Q T_M_as f) Q c_M_as_83 kc ks loc st h := rfl
theorem j_M_as_87 {R : Nat → Nat → Nat → eg_Lo → List Value → List eg_E → Prop} {f pc0 : Nat} : eg_run rm R Q T_M_as (f + 1) 87 kc ks loc st h = wps rm (eg_run rm R Q T_M_as f) Q c_M_as_87 kc ks loc st h := rfl
theorem j_M_as_88 {R : Nat → Nat → Nat → eg_Lo → List Value → List eg_E → Prop} {f pc0 : Nat} : eg_run rm R Q T_M_as (f + 1) 88 kc ks loc st h = wps rm (eg_run rm R Q T_M_as f) Q c_M_as_88 kc ks loc st h := rfl
theorem j_M_as_103 {R : Nat → Nat → Nat → eg_Lo → List Value → List eg_E → Prop} {f pc0 : Nat} : eg_run rm R Q T_M_as (f + 1) 103 kc ks loc st h = wps rm (eg_run rm R Q T_M_as f) Q c_M_as_103 kc ks loc st h := rfl
theorem j_M_as_110 {R : Nat → Nat → Nat → eg_Lo → List Value → List eg_E → Prop} {f pc0 : Nat} : eg_run rm R Q T_M_as (f + 1) 110 kc ks loc st h = wps rm (eg_run rm R Q T_M_as f) Q c_M_as_110 kc ks loc st h := rfl
end
theorem y_M_as_0 : eg_seq m_M_as 0 c_M_as_0 = true := by decide +kernel
theorem y_M_as_24 : eg_seq m_M_as 24 c_M_as_24 = true := by decide +kernel
theorem y_M_as_41 : eg_seq m_M_as 41 c_M_as_41 = true := by decide +kernel
theorem y_M_as_87 : eg_seq m_M_as 87 c_M_as_87 = true := by decide +kernel
theorem y_M_as_103 : eg_seq m_M_as 103 c_M_as_103 = true := by decide +kernel
theorem q_M_as : ∀ q ∈ T_M_as, eg_seq m_M_as q.1 q.2 = true := by
  intro q hq
  simp only [T_M_as, List.mem_cons, List.not_mem_nil, or_false] at hq
  rcases hq with rfl | rfl | rfl | rfl | rfl | rfl | rfl | rfl | rfl
  · exact (eg_seq_drop y_M_as_0 8 : eg_seq m_M_as 16 c_M_as_16 = true)
  · exact y_M_as_24
  · exact y_M_as_41
  · exact (eg_seq_drop y_M_as_41 15 : eg_seq m_M_as 68 c_M_as_68 = true)
  · exact (eg_seq_drop y_M_as_41 24 : eg_seq m_M_as 83 c_M_as_83 = true)
  · exact y_M_as_87
  · exact (eg_seq_drop y_M_as_87 1 : eg_seq m_M_as 88 c_M_as_88 = true)
  · exact y_M_as_103
  · exact (eg_seq_drop y_M_as_103 3 : eg_seq m_M_as 110 c_M_as_110 = true)
theorem md_M_as : eg_md n_M_as = m_M_as := rfl
theorem mn_M_as : n_M_as < 202 := Nat.le_of_ble_eq_true rfl
theorem b_M_as {as : List Value} {h : List eg_E} {Q : Option Value → List eg_E → Prop} (hf : (eg_fl as).length ≤ 4) : wps (eg_rm m_M_as) (eg_run (eg_rm m_M_as) (eg_R m_M_as Q (h.length + 0)) Q T_M_as 11) Q c_M_as_0 0 0 (eg_entry 4 as) [] h → eg_Runs n_M_as as h Q := eg_begin2 md_M_as mn_M_as y_M_as_0 q_M_as hf
/-! ===== M_held_II ===== -/
def c_M_held_II_60 : List eg_I := .inl (60, 1, .lreturn, 0, 0) :: []
def c_M_held_II_59 : List eg_I := .inl (59, 1, .i2l, 0, 0) :: c_M_held_II_60
def c_M_held_II_58 : List eg_I := .inl (58, 1, .iaload, 0, 0) :: c_M_held_II_59
def c_M_held_II_57 : List eg_I := .inl (57, 1, .iadd, 0, 0) :: c_M_held_II_58
def c_M_held_II_56 : List eg_I := .inl (56, 1, .iload 2, 0, 0) :: c_M_held_II_57
def c_M_held_II_55 : List eg_I := .inl (55, 1, .imul, 0, 0) :: c_M_held_II_56
def c_M_held_II_54 : List eg_I := .inl (54, 1, .iload 1, 0, 0) :: c_M_held_II_55
def c_M_held_II_52 : List eg_I := .inl (52, 2, .iconst (6), 0, 0) :: c_M_held_II_54
def c_M_held_II_49 : List eg_I := .inl (49, 3, .getfield 38, 12, 9) :: c_M_held_II_52
def c_M_held_II_48 : List eg_I := .inl (48, 1, .aload 0, 0, 0) :: c_M_held_II_49
def c_M_held_II_45 : List eg_I := .inl (45, 3, .goto (15), 60, 0) :: []
def c_M_held_II_42 : List eg_I := .inr (42, 1, 112, n_M_finding, 1, 12, 0, 0) :: c_M_held_II_45
def c_M_held_II_39 : List eg_I := .inl (39, 3, .sipush (-1000000000000000006), 138, 0) :: c_M_held_II_42
def c_M_held_II_38 : List eg_I := .inl (38, 1, .aload 0, 0, 0) :: c_M_held_II_39
def c_M_held_II_35 : List eg_I := .inl (35, 3, .if_icmp .lt (13), 48, 0) :: c_M_held_II_38
def c_M_held_II_34 : List eg_I := .inl (34, 1, .iaload, 0, 0) :: c_M_held_II_35
def c_M_held_II_33 : List eg_I := .inl (33, 1, .iload 1, 0, 0) :: c_M_held_II_34
def c_M_held_II_30 : List eg_I := .inl (30, 3, .getfield 35, 12, 8) :: c_M_held_II_33
def c_M_held_II_29 : List eg_I := .inl (29, 1, .aload 0, 0, 0) :: c_M_held_II_30
def c_M_held_II_28 : List eg_I := .inl (28, 1, .iload 2, 0, 0) :: c_M_held_II_29
def c_M_held_II_25 : List eg_I := .inl (25, 3, .ifCond .lt (13), 38, 0) :: c_M_held_II_28
def c_M_held_II_24 : List eg_I := .inl (24, 1, .iload 2, 0, 0) :: c_M_held_II_25
def c_M_held_II_21 : List eg_I := .inl (21, 3, .ifCond .eq (17), 38, 0) :: c_M_held_II_24
def c_M_held_II_20 : List eg_I := .inl (20, 1, .iaload, 0, 0) :: c_M_held_II_21
def c_M_held_II_19 : List eg_I := .inl (19, 1, .iload 1, 0, 0) :: c_M_held_II_20
def c_M_held_II_16 : List eg_I := .inl (16, 3, .getfield 32, 12, 7) :: c_M_held_II_19
def c_M_held_II_15 : List eg_I := .inl (15, 1, .aload 0, 0, 0) :: c_M_held_II_16
def c_M_held_II_14 : List eg_I := .inl (14, 1, .lreturn, 0, 0) :: []
def c_M_held_II_11 : List eg_I := .inr (11, 1, 112, n_M_finding, 1, 12, 0, 0) :: c_M_held_II_14
def c_M_held_II_8 : List eg_I := .inl (8, 3, .sipush (-1000000000000000001), 110, 0) :: c_M_held_II_11
def c_M_held_II_7 : List eg_I := .inl (7, 1, .aload 0, 0, 0) :: c_M_held_II_8
def c_M_held_II_4 : List eg_I := .inl (4, 3, .ifCond .ne (11), 15, 0) :: c_M_held_II_7
def c_M_held_II_1 : List eg_I := .inr (1, 0, 255, n_M_isFigure, 1, 12, 0, 0) :: c_M_held_II_4
def c_M_held_II_0 : List eg_I := .inl (0, 1, .iload 1, 0, 0) :: c_M_held_II_1
section
variable {rm : Room} {K : Nat → Nat → Nat → eg_Lo → List Value → List eg_E → Prop} {Q : Option Value → List eg_E → Prop} {kc ks : Nat} {loc : eg_Lo} {st : List Value} {h : List eg_E}
theorem s_M_held_II_0 {x : Int32} {l0 : Option Value} {l : eg_Lo} : wps rm K Q c_M_held_II_0 kc ks (l0 :: some (.int x) :: l) (st) h = wps rm K Q c_M_held_II_1 kc ks (l0 :: some (.int x) :: l) (.int x :: st) h := gk_iload rfl
theorem s_M_held_II_1  {a1 : Value} : wps rm K Q c_M_held_II_1 kc ks loc (a1 :: st) h = (st.length ≤ 4 ∧ eg_Cs n_M_isFigure [a1] h (fun v h9 => wps rm K Q c_M_held_II_4 kc ks loc (v.toList ++ st) h9)) := eg_c0_1
theorem s_M_held_II_4 {x : Int32} : wps rm K Q c_M_held_II_4 kc ks loc (.int x :: st) h = ((¬ x = 0 → K 15 kc ks loc st h) ∧ (x = 0 → wps rm K Q c_M_held_II_7 kc ks loc (st) h)) := gk_if1_ne
theorem s_M_held_II_7 {x : Nat} {l : eg_Lo} : wps rm K Q c_M_held_II_7 kc ks (some (.ref x) :: l) (st) h = wps rm K Q c_M_held_II_8 kc ks (some (.ref x) :: l) (.ref x :: st) h := gk_aload rfl
theorem s_M_held_II_8  : wps rm K Q c_M_held_II_8 kc ks loc (st) h = wps rm K Q c_M_held_II_11 kc ks loc (.long (-1000000000000000001) :: st) h := gk_lc (by decide)
theorem s_M_held_II_11  {a1 : Value} {x : Nat} : wps rm K Q c_M_held_II_11 kc ks loc (a1 :: .ref (x + 1) :: st) h = (eg_cls h x 12 ∧ st.length ≤ 4 ∧ eg_Cs n_M_finding (.ref (x + 1) :: [a1]) h (fun v h9 => wps rm K Q c_M_held_II_14 kc ks loc (v.toList ++ st) h9)) := eg_c1_1
theorem s_M_held_II_14 {x : Int64} : wps rm K Q c_M_held_II_14 kc ks loc ([.long x]) h = (kc = rm.cells ∧ Q (some (.long x)) h) := gk_lret
theorem s_M_held_II_15 {x : Nat} {l : eg_Lo} : wps rm K Q c_M_held_II_15 kc ks (some (.ref x) :: l) (st) h = wps rm K Q c_M_held_II_16 kc ks (some (.ref x) :: l) (.ref x :: st) h := gk_aload rfl
theorem s_M_held_II_16 {x : Nat} : wps rm K Q c_M_held_II_16 kc ks loc (.ref (x + 1) :: st) h = eg_gf h x 12 7 (fun v => wps rm K Q c_M_held_II_19 kc ks loc (v :: st) h) := gk_gf
theorem s_M_held_II_19 {x : Int32} {l0 : Option Value} {l : eg_Lo} : wps rm K Q c_M_held_II_19 kc ks (l0 :: some (.int x) :: l) (st) h = wps rm K Q c_M_held_II_20 kc ks (l0 :: some (.int x) :: l) (.int x :: st) h := gk_iload rfl
theorem s_M_held_II_20 {x : Nat} {i : Int32} : wps rm K Q c_M_held_II_20 kc ks loc (.int i :: .ref (x + 1) :: st) h = eg_ia h x i (fun v => wps rm K Q c_M_held_II_21 kc ks loc (.int v :: st) h) := gk_iaload
theorem s_M_held_II_21 {x : Int32} : wps rm K Q c_M_held_II_21 kc ks loc (.int x :: st) h = ((x = 0 → K 38 kc ks loc st h) ∧ (¬ x = 0 → wps rm K Q c_M_held_II_24 kc ks loc (st) h)) := gk_if1_eq
theorem s_M_held_II_24 {x : Int32} {l0 l1 : Option Value} {l : eg_Lo} : wps rm K Q c_M_held_II_24 kc ks (l0 :: l1 :: some (.int x) :: l) (st) h = wps rm K Q c_M_held_II_25 kc ks (l0 :: l1 :: some (.int x) :: l) (.int x :: st) h := gk_iload rfl
theorem s_M_held_II_25 {x : Int32} : wps rm K Q c_M_held_II_25 kc ks loc (.int x :: st) h = ((x < 0 → K 38 kc ks loc st h) ∧ (¬ x < 0 → wps rm K Q c_M_held_II_28 kc ks loc (st) h)) := gk_if1_lt
theorem s_M_held_II_28 {x : Int32} {l0 l1 : Option Value} {l : eg_Lo} : wps rm K Q c_M_held_II_28 kc ks (l0 :: l1 :: some (.int x) :: l) (st) h = wps rm K Q c_M_held_II_29 kc ks (l0 :: l1 :: some (.int x) :: l) (.int x :: st) h := gk_iload rfl
theorem s_M_held_II_29 {x : Nat} {l : eg_Lo} : wps rm K Q c_M_held_II_29 kc ks (some (.ref x) :: l) (st) h = wps rm K Q c_M_held_II_30 kc ks (some (.ref x) :: l) (.ref x :: st) h := gk_aload rfl
theorem s_M_held_II_30 {x : Nat} : wps rm K Q c_M_held_II_30 kc ks loc (.ref (x + 1) :: st) h = eg_gf h x 12 8 (fun v => wps rm K Q c_M_held_II_33 kc ks loc (v :: st) h) := gk_gf
theorem s_M_held_II_33 {x : Int32} {l0 : Option Value} {l : eg_Lo} : wps rm K Q c_M_held_II_33 kc ks (l0 :: some (.int x) :: l) (st) h = wps rm K Q c_M_held_II_34 kc ks (l0 :: some (.int x) :: l) (.int x :: st) h := gk_iload rfl
theorem s_M_held_II_34 {x : Nat} {i : Int32} : wps rm K Q c_M_held_II_34 kc ks loc (.int i :: .ref (x + 1) :: st) h = eg_ia h x i (fun v => wps rm K Q c_M_held_II_35 kc ks loc (.int v :: st) h) := gk_iaload
theorem s_M_held_II_35 {x y : Int32} : wps rm K Q c_M_held_II_35 kc ks loc (.int y :: .int x :: st) h = ((x < y → K 48 kc ks loc st h) ∧ (¬ x < y → wps rm K Q c_M_held_II_38 kc ks loc (st) h)) := gk_if2_lt
theorem s_M_held_II_38 {x : Nat} {l : eg_Lo} : wps rm K Q c_M_held_II_38 kc ks (some (.ref x) :: l) (st) h = wps rm K Q c_M_held_II_39 kc ks (some (.ref x) :: l) (.ref x :: st) h := gk_aload rfl
theorem s_M_held_II_39  : wps rm K Q c_M_held_II_39 kc ks loc (st) h = wps rm K Q c_M_held_II_42 kc ks loc (.long (-1000000000000000006) :: st) h := gk_lc (by decide)
theorem s_M_held_II_42  {a1 : Value} {x : Nat} : wps rm K Q c_M_held_II_42 kc ks loc (a1 :: .ref (x + 1) :: st) h = (eg_cls h x 12 ∧ st.length ≤ 4 ∧ eg_Cs n_M_finding (.ref (x + 1) :: [a1]) h (fun v h9 => wps rm K Q c_M_held_II_45 kc ks loc (v.toList ++ st) h9)) := eg_c1_1
theorem s_M_held_II_45  : wps rm K Q c_M_held_II_45 kc ks loc (st) h = K 60 kc ks loc st h := gk_goto
theorem s_M_held_II_48 {x : Nat} {l : eg_Lo} : wps rm K Q c_M_held_II_48 kc ks (some (.ref x) :: l) (st) h = wps rm K Q c_M_held_II_49 kc ks (some (.ref x) :: l) (.ref x :: st) h := gk_aload rfl
theorem s_M_held_II_49 {x : Nat} : wps rm K Q c_M_held_II_49 kc ks loc (.ref (x + 1) :: st) h = eg_gf h x 12 9 (fun v => wps rm K Q c_M_held_II_52 kc ks loc (v :: st) h) := gk_gf
theorem s_M_held_II_52  : wps rm K Q c_M_held_II_52 kc ks loc (st) h = wps rm K Q c_M_held_II_54 kc ks loc (.int (6) :: st) h := gk_ic (by decide)
theorem s_M_held_II_54 {x : Int32} {l0 : Option Value} {l : eg_Lo} : wps rm K Q c_M_held_II_54 kc ks (l0 :: some (.int x) :: l) (st) h = wps rm K Q c_M_held_II_55 kc ks (l0 :: some (.int x) :: l) (.int x :: st) h := gk_iload rfl
theorem s_M_held_II_55 {x y : Int32} : wps rm K Q c_M_held_II_55 kc ks loc (.int y :: .int x :: st) h = wps rm K Q c_M_held_II_56 kc ks loc (.int (x * y) :: st) h := gk_imul
theorem s_M_held_II_56 {x : Int32} {l0 l1 : Option Value} {l : eg_Lo} : wps rm K Q c_M_held_II_56 kc ks (l0 :: l1 :: some (.int x) :: l) (st) h = wps rm K Q c_M_held_II_57 kc ks (l0 :: l1 :: some (.int x) :: l) (.int x :: st) h := gk_iload rfl
theorem s_M_held_II_57 {x y : Int32} : wps rm K Q c_M_held_II_57 kc ks loc (.int y :: .int x :: st) h = wps rm K Q c_M_held_II_58 kc ks loc (.int (x + y) :: st) h := gk_iadd
theorem s_M_held_II_58 {x : Nat} {i : Int32} : wps rm K Q c_M_held_II_58 kc ks loc (.int i :: .ref (x + 1) :: st) h = eg_ia h x i (fun v => wps rm K Q c_M_held_II_59 kc ks loc (.int v :: st) h) := gk_iaload
theorem s_M_held_II_59 {x : Int32} : wps rm K Q c_M_held_II_59 kc ks loc (.int x :: st) h = wps rm K Q c_M_held_II_60 kc ks loc (.long (x.toInt64) :: st) h := gk_i2l
theorem s_M_held_II_60 {x : Int64} : wps rm K Q c_M_held_II_60 kc ks loc ([.long x]) h = (kc = rm.cells ∧ Q (some (.long x)) h) := gk_lret
def T_M_held_II : List (Nat × List eg_I) := [(15, c_M_held_II_15), (38, c_M_held_II_38), (48, c_M_held_II_48), (60, c_M_held_II_60)]
theorem j_M_held_II_15 {R : Nat → Nat → Nat → eg_Lo → List Value → List eg_E → Prop} {f pc0 : Nat} : eg_run rm R Q T_M_held_II (f + 1) 15 kc ks loc st h = wps rm (eg_run rm R Q T_M_held_II f) Q c_M_held_II_15 kc ks loc st h := rfl
theorem j_M_held_II_38 {R : Nat → Nat → Nat → eg_Lo → List Value → List eg_E → Prop} {f pc0 : Nat} : eg_run rm R Q T_M_held_II (f + 1) 38 kc ks loc st h = wps rm (eg_run rm R Q T_M_held_II f) Q c_M_held_II_38 kc ks loc st h := rfl
theorem j_M_held_II_48 {R : Nat → Nat → Nat → eg_Lo → List Value → List eg_E → Prop} {f pc0 : Nat} : eg_run rm R Q T_M_held_II (f + 1) 48 kc ks loc st h = wps rm (eg_run rm R Q T_M_held_II f) Q c_M_held_II_48 kc ks loc st h := rfl
theorem j_M_held_II_60 {R : Nat → Nat → Nat → eg_Lo → List Value → List eg_E → Prop} {f pc0 : Nat} : eg_run rm R Q T_M_held_II (f + 1) 60 kc ks loc st h = wps rm (eg_run rm R Q T_M_held_II f) Q c_M_held_II_60 kc ks loc st h := rfl
end
theorem y_M_held_II_0 : eg_seq m_M_held_II 0 c_M_held_II_0 = true := by decide +kernel
theorem y_M_held_II_15 : eg_seq m_M_held_II 15 c_M_held_II_15 = true := by decide +kernel
theorem y_M_held_II_48 : eg_seq m_M_held_II 48 c_M_held_II_48 = true := by decide +kernel
theorem q_M_held_II : ∀ q ∈ T_M_held_II, eg_seq m_M_held_II q.1 q.2 = true := by
  intro q hq
  simp only [T_M_held_II, List.mem_cons, List.not_mem_nil, or_false] at hq
  rcases hq with rfl | rfl | rfl | rfl
  · exact y_M_held_II_15
  · exact (eg_seq_drop y_M_held_II_15 13 : eg_seq m_M_held_II 38 c_M_held_II_38 = true)
  · exact y_M_held_II_48
  · exact (eg_seq_drop y_M_held_II_48 9 : eg_seq m_M_held_II 60 c_M_held_II_60 = true)
theorem md_M_held_II : eg_md n_M_held_II = m_M_held_II := rfl
theorem mn_M_held_II : n_M_held_II < 202 := Nat.le_of_ble_eq_true rfl
theorem b_M_held_II {as : List Value} {h : List eg_E} {Q : Option Value → List eg_E → Prop} (hf : (eg_fl as).length ≤ 3) : wps (eg_rm m_M_held_II) (eg_run (eg_rm m_M_held_II) (eg_R m_M_held_II Q (h.length + 0)) Q T_M_held_II 6) Q c_M_held_II_0 0 0 (eg_entry 3 as) [] h → eg_Runs n_M_held_II as h Q := eg_begin2 md_M_held_II mn_M_held_II y_M_held_II_0 q_M_held_II hf
/-! ===== M_missOf ===== -/
def c_M_missOf_53 : List eg_I := .inl (53, 1, .lreturn, 0, 0) :: []
def c_M_missOf_52 : List eg_I := .inl (52, 1, .laload, 0, 0) :: c_M_missOf_53
def c_M_missOf_51 : List eg_I := .inl (51, 1, .iload 1, 0, 0) :: c_M_missOf_52
def c_M_missOf_48 : List eg_I := .inl (48, 3, .getfield 41, 12, 10) :: c_M_missOf_51
def c_M_missOf_47 : List eg_I := .inl (47, 1, .aload 0, 0, 0) :: c_M_missOf_48
def c_M_missOf_44 : List eg_I := .inl (44, 3, .goto (9), 53, 0) :: []
def c_M_missOf_43 : List eg_I := .inl (43, 1, .laload, 0, 0) :: c_M_missOf_44
def c_M_missOf_42 : List eg_I := .inl (42, 1, .iload 1, 0, 0) :: c_M_missOf_43
def c_M_missOf_39 : List eg_I := .inl (39, 3, .getfield 45, 12, 11) :: c_M_missOf_42
def c_M_missOf_38 : List eg_I := .inl (38, 1, .aload 0, 0, 0) :: c_M_missOf_39
def c_M_missOf_35 : List eg_I := .inl (35, 3, .ifCond .eq (12), 47, 0) :: c_M_missOf_38
def c_M_missOf_34 : List eg_I := .inl (34, 1, .iload 2, 0, 0) :: c_M_missOf_35
def c_M_missOf_31 : List eg_I := .inl (31, 3, .goto (22), 53, 0) :: []
def c_M_missOf_28 : List eg_I := .inr (28, 1, 112, n_M_finding, 1, 12, 0, 0) :: c_M_missOf_31
def c_M_missOf_25 : List eg_I := .inl (25, 3, .sipush (-1000000000000000006), 138, 0) :: c_M_missOf_28
def c_M_missOf_24 : List eg_I := .inl (24, 1, .aload 0, 0, 0) :: c_M_missOf_25
def c_M_missOf_21 : List eg_I := .inl (21, 3, .ifCond .ne (13), 34, 0) :: c_M_missOf_24
def c_M_missOf_20 : List eg_I := .inl (20, 1, .iaload, 0, 0) :: c_M_missOf_21
def c_M_missOf_19 : List eg_I := .inl (19, 1, .iload 1, 0, 0) :: c_M_missOf_20
def c_M_missOf_16 : List eg_I := .inl (16, 3, .getfield 32, 12, 7) :: c_M_missOf_19
def c_M_missOf_15 : List eg_I := .inl (15, 1, .aload 0, 0, 0) :: c_M_missOf_16
def c_M_missOf_14 : List eg_I := .inl (14, 1, .lreturn, 0, 0) :: []
def c_M_missOf_11 : List eg_I := .inr (11, 1, 112, n_M_finding, 1, 12, 0, 0) :: c_M_missOf_14
def c_M_missOf_8 : List eg_I := .inl (8, 3, .sipush (-1000000000000000001), 110, 0) :: c_M_missOf_11
def c_M_missOf_7 : List eg_I := .inl (7, 1, .aload 0, 0, 0) :: c_M_missOf_8
def c_M_missOf_4 : List eg_I := .inl (4, 3, .ifCond .ne (11), 15, 0) :: c_M_missOf_7
def c_M_missOf_1 : List eg_I := .inr (1, 0, 255, n_M_isFigure, 1, 12, 0, 0) :: c_M_missOf_4
def c_M_missOf_0 : List eg_I := .inl (0, 1, .iload 1, 0, 0) :: c_M_missOf_1
section
variable {rm : Room} {K : Nat → Nat → Nat → eg_Lo → List Value → List eg_E → Prop} {Q : Option Value → List eg_E → Prop} {kc ks : Nat} {loc : eg_Lo} {st : List Value} {h : List eg_E}
theorem s_M_missOf_0 {x : Int32} {l0 : Option Value} {l : eg_Lo} : wps rm K Q c_M_missOf_0 kc ks (l0 :: some (.int x) :: l) (st) h = wps rm K Q c_M_missOf_1 kc ks (l0 :: some (.int x) :: l) (.int x :: st) h := gk_iload rfl
theorem s_M_missOf_1  {a1 : Value} : wps rm K Q c_M_missOf_1 kc ks loc (a1 :: st) h = (st.length ≤ 4 ∧ eg_Cs n_M_isFigure [a1] h (fun v h9 => wps rm K Q c_M_missOf_4 kc ks loc (v.toList ++ st) h9)) := eg_c0_1
theorem s_M_missOf_4 {x : Int32} : wps rm K Q c_M_missOf_4 kc ks loc (.int x :: st) h = ((¬ x = 0 → K 15 kc ks loc st h) ∧ (x = 0 → wps rm K Q c_M_missOf_7 kc ks loc (st) h)) := gk_if1_ne
theorem s_M_missOf_7 {x : Nat} {l : eg_Lo} : wps rm K Q c_M_missOf_7 kc ks (some (.ref x) :: l) (st) h = wps rm K Q c_M_missOf_8 kc ks (some (.ref x) :: l) (.ref x :: st) h := gk_aload rfl
theorem s_M_missOf_8  : wps rm K Q c_M_missOf_8 kc ks loc (st) h = wps rm K Q c_M_missOf_11 kc ks loc (.long (-1000000000000000001) :: st) h := gk_lc (by decide)
theorem s_M_missOf_11  {a1 : Value} {x : Nat} : wps rm K Q c_M_missOf_11 kc ks loc (a1 :: .ref (x + 1) :: st) h = (eg_cls h x 12 ∧ st.length ≤ 4 ∧ eg_Cs n_M_finding (.ref (x + 1) :: [a1]) h (fun v h9 => wps rm K Q c_M_missOf_14 kc ks loc (v.toList ++ st) h9)) := eg_c1_1
theorem s_M_missOf_14 {x : Int64} : wps rm K Q c_M_missOf_14 kc ks loc ([.long x]) h = (kc = rm.cells ∧ Q (some (.long x)) h) := gk_lret
theorem s_M_missOf_15 {x : Nat} {l : eg_Lo} : wps rm K Q c_M_missOf_15 kc ks (some (.ref x) :: l) (st) h = wps rm K Q c_M_missOf_16 kc ks (some (.ref x) :: l) (.ref x :: st) h := gk_aload rfl
theorem s_M_missOf_16 {x : Nat} : wps rm K Q c_M_missOf_16 kc ks loc (.ref (x + 1) :: st) h = eg_gf h x 12 7 (fun v => wps rm K Q c_M_missOf_19 kc ks loc (v :: st) h) := gk_gf
theorem s_M_missOf_19 {x : Int32} {l0 : Option Value} {l : eg_Lo} : wps rm K Q c_M_missOf_19 kc ks (l0 :: some (.int x) :: l) (st) h = wps rm K Q c_M_missOf_20 kc ks (l0 :: some (.int x) :: l) (.int x :: st) h := gk_iload rfl
theorem s_M_missOf_20 {x : Nat} {i : Int32} : wps rm K Q c_M_missOf_20 kc ks loc (.int i :: .ref (x + 1) :: st) h = eg_ia h x i (fun v => wps rm K Q c_M_missOf_21 kc ks loc (.int v :: st) h) := gk_iaload
theorem s_M_missOf_21 {x : Int32} : wps rm K Q c_M_missOf_21 kc ks loc (.int x :: st) h = ((¬ x = 0 → K 34 kc ks loc st h) ∧ (x = 0 → wps rm K Q c_M_missOf_24 kc ks loc (st) h)) := gk_if1_ne
theorem s_M_missOf_24 {x : Nat} {l : eg_Lo} : wps rm K Q c_M_missOf_24 kc ks (some (.ref x) :: l) (st) h = wps rm K Q c_M_missOf_25 kc ks (some (.ref x) :: l) (.ref x :: st) h := gk_aload rfl
theorem s_M_missOf_25  : wps rm K Q c_M_missOf_25 kc ks loc (st) h = wps rm K Q c_M_missOf_28 kc ks loc (.long (-1000000000000000006) :: st) h := gk_lc (by decide)
theorem s_M_missOf_28  {a1 : Value} {x : Nat} : wps rm K Q c_M_missOf_28 kc ks loc (a1 :: .ref (x + 1) :: st) h = (eg_cls h x 12 ∧ st.length ≤ 4 ∧ eg_Cs n_M_finding (.ref (x + 1) :: [a1]) h (fun v h9 => wps rm K Q c_M_missOf_31 kc ks loc (v.toList ++ st) h9)) := eg_c1_1
theorem s_M_missOf_31  : wps rm K Q c_M_missOf_31 kc ks loc (st) h = K 53 kc ks loc st h := gk_goto
theorem s_M_missOf_34 {x : Int32} {l0 l1 : Option Value} {l : eg_Lo} : wps rm K Q c_M_missOf_34 kc ks (l0 :: l1 :: some (.int x) :: l) (st) h = wps rm K Q c_M_missOf_35 kc ks (l0 :: l1 :: some (.int x) :: l) (.int x :: st) h := gk_iload rfl
theorem s_M_missOf_35 {x : Int32} : wps rm K Q c_M_missOf_35 kc ks loc (.int x :: st) h = ((x = 0 → K 47 kc ks loc st h) ∧ (¬ x = 0 → wps rm K Q c_M_missOf_38 kc ks loc (st) h)) := gk_if1_eq
theorem s_M_missOf_38 {x : Nat} {l : eg_Lo} : wps rm K Q c_M_missOf_38 kc ks (some (.ref x) :: l) (st) h = wps rm K Q c_M_missOf_39 kc ks (some (.ref x) :: l) (.ref x :: st) h := gk_aload rfl
theorem s_M_missOf_39 {x : Nat} : wps rm K Q c_M_missOf_39 kc ks loc (.ref (x + 1) :: st) h = eg_gf h x 12 11 (fun v => wps rm K Q c_M_missOf_42 kc ks loc (v :: st) h) := gk_gf
theorem s_M_missOf_42 {x : Int32} {l0 : Option Value} {l : eg_Lo} : wps rm K Q c_M_missOf_42 kc ks (l0 :: some (.int x) :: l) (st) h = wps rm K Q c_M_missOf_43 kc ks (l0 :: some (.int x) :: l) (.int x :: st) h := gk_iload rfl
theorem s_M_missOf_43 {x : Nat} {i : Int32} : wps rm K Q c_M_missOf_43 kc ks loc (.int i :: .ref (x + 1) :: st) h = eg_la h x i (fun v => wps rm K Q c_M_missOf_44 kc ks loc (.long v :: st) h) := gk_laload
theorem s_M_missOf_44  : wps rm K Q c_M_missOf_44 kc ks loc (st) h = K 53 kc ks loc st h := gk_goto
theorem s_M_missOf_47 {x : Nat} {l : eg_Lo} : wps rm K Q c_M_missOf_47 kc ks (some (.ref x) :: l) (st) h = wps rm K Q c_M_missOf_48 kc ks (some (.ref x) :: l) (.ref x :: st) h := gk_aload rfl
theorem s_M_missOf_48 {x : Nat} : wps rm K Q c_M_missOf_48 kc ks loc (.ref (x + 1) :: st) h = eg_gf h x 12 10 (fun v => wps rm K Q c_M_missOf_51 kc ks loc (v :: st) h) := gk_gf
theorem s_M_missOf_51 {x : Int32} {l0 : Option Value} {l : eg_Lo} : wps rm K Q c_M_missOf_51 kc ks (l0 :: some (.int x) :: l) (st) h = wps rm K Q c_M_missOf_52 kc ks (l0 :: some (.int x) :: l) (.int x :: st) h := gk_iload rfl
theorem s_M_missOf_52 {x : Nat} {i : Int32} : wps rm K Q c_M_missOf_52 kc ks loc (.int i :: .ref (x + 1) :: st) h = eg_la h x i (fun v => wps rm K Q c_M_missOf_53 kc ks loc (.long v :: st) h) := gk_laload
theorem s_M_missOf_53 {x : Int64} : wps rm K Q c_M_missOf_53 kc ks loc ([.long x]) h = (kc = rm.cells ∧ Q (some (.long x)) h) := gk_lret
def T_M_missOf : List (Nat × List eg_I) := [(15, c_M_missOf_15), (34, c_M_missOf_34), (47, c_M_missOf_47), (53, c_M_missOf_53)]
theorem j_M_missOf_15 {R : Nat → Nat → Nat → eg_Lo → List Value → List eg_E → Prop} {f pc0 : Nat} : eg_run rm R Q T_M_missOf (f + 1) 15 kc ks loc st h = wps rm (eg_run rm R Q T_M_missOf f) Q c_M_missOf_15 kc ks loc st h := rfl
theorem j_M_missOf_34 {R : Nat → Nat → Nat → eg_Lo → List Value → List eg_E → Prop} {f pc0 : Nat} : eg_run rm R Q T_M_missOf (f + 1) 34 kc ks loc st h = wps rm (eg_run rm R Q T_M_missOf f) Q c_M_missOf_34 kc ks loc st h := rfl
theorem j_M_missOf_47 {R : Nat → Nat → Nat → eg_Lo → List Value → List eg_E → Prop} {f pc0 : Nat} : eg_run rm R Q T_M_missOf (f + 1) 47 kc ks loc st h = wps rm (eg_run rm R Q T_M_missOf f) Q c_M_missOf_47 kc ks loc st h := rfl
theorem j_M_missOf_53 {R : Nat → Nat → Nat → eg_Lo → List Value → List eg_E → Prop} {f pc0 : Nat} : eg_run rm R Q T_M_missOf (f + 1) 53 kc ks loc st h = wps rm (eg_run rm R Q T_M_missOf f) Q c_M_missOf_53 kc ks loc st h := rfl
end
theorem y_M_missOf_0 : eg_seq m_M_missOf 0 c_M_missOf_0 = true := by decide +kernel
theorem y_M_missOf_15 : eg_seq m_M_missOf 15 c_M_missOf_15 = true := by decide +kernel
theorem y_M_missOf_34 : eg_seq m_M_missOf 34 c_M_missOf_34 = true := by decide +kernel
theorem y_M_missOf_47 : eg_seq m_M_missOf 47 c_M_missOf_47 = true := by decide +kernel
theorem q_M_missOf : ∀ q ∈ T_M_missOf, eg_seq m_M_missOf q.1 q.2 = true := by
  intro q hq
  simp only [T_M_missOf, List.mem_cons, List.not_mem_nil, or_false] at hq
  rcases hq with rfl | rfl | rfl | rfl
  · exact y_M_missOf_15
  · exact y_M_missOf_34
  · exact y_M_missOf_47
  · exact (eg_seq_drop y_M_missOf_47 4 : eg_seq m_M_missOf 53 c_M_missOf_53 = true)
theorem md_M_missOf : eg_md n_M_missOf = m_M_missOf := rfl
theorem mn_M_missOf : n_M_missOf < 202 := Nat.le_of_ble_eq_true rfl
theorem b_M_missOf {as : List Value} {h : List eg_E} {Q : Option Value → List eg_E → Prop} (hf : (eg_fl as).length ≤ 3) : wps (eg_rm m_M_missOf) (eg_run (eg_rm m_M_missOf) (eg_R m_M_missOf Q (h.length + 0)) Q T_M_missOf 6) Q c_M_missOf_0 0 0 (eg_entry 3 as) [] h → eg_Runs n_M_missOf as h Q := eg_begin2 md_M_missOf mn_M_missOf y_M_missOf_0 q_M_missOf hf
