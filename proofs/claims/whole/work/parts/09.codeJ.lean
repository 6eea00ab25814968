/-! ===== M_fitPlane ===== -/
def z_M_fitPlane_31 : List eg_I := [.inl (31, 0, .nop, 0, 0)]
def z_M_fitPlane_44 : List eg_I := [.inl (44, 0, .nop, 0, 0)]
def z_M_fitPlane_65 : List eg_I := [.inl (65, 0, .nop, 0, 0)]
def z_M_fitPlane_102 : List eg_I := [.inl (102, 0, .nop, 0, 0)]
def c_M_fitPlane_455 : List eg_I := .inl (455, 1, .lreturn, 0, 0) :: []
def c_M_fitPlane_452 : List eg_I := .inl (452, 3, .sipush (6), 214, 0) :: c_M_fitPlane_455
def c_M_fitPlane_449 : List eg_I := .inr (449, 0, 200, n_M_lowest, 6, 12, 0, 0) :: c_M_fitPlane_452
def c_M_fitPlane_448 : List eg_I := .inl (448, 1, .iconst (1), 0, 0) :: c_M_fitPlane_449
def c_M_fitPlane_447 : List eg_I := .inl (447, 1, .imul, 0, 0) :: c_M_fitPlane_448
def c_M_fitPlane_446 : List eg_I := .inl (446, 1, .iload 1, 0, 0) :: c_M_fitPlane_447
def c_M_fitPlane_445 : List eg_I := .inl (445, 1, .iconst (3), 0, 0) :: c_M_fitPlane_446
def c_M_fitPlane_442 : List eg_I := .inl (442, 3, .getfield 48, 12, 12) :: c_M_fitPlane_445
def c_M_fitPlane_441 : List eg_I := .inl (441, 1, .aload 0, 0, 0) :: c_M_fitPlane_442
def c_M_fitPlane_440 : List eg_I := .inl (440, 1, .laload, 0, 0) :: c_M_fitPlane_441
def c_M_fitPlane_439 : List eg_I := .inl (439, 1, .iconst (2), 0, 0) :: c_M_fitPlane_440
def c_M_fitPlane_436 : List eg_I := .inl (436, 3, .getfield 88, 12, 33) :: c_M_fitPlane_439
def c_M_fitPlane_435 : List eg_I := .inl (435, 1, .aload 0, 0, 0) :: c_M_fitPlane_436
def c_M_fitPlane_434 : List eg_I := .inl (434, 1, .laload, 0, 0) :: c_M_fitPlane_435
def c_M_fitPlane_433 : List eg_I := .inl (433, 1, .iconst (1), 0, 0) :: c_M_fitPlane_434
def c_M_fitPlane_430 : List eg_I := .inl (430, 3, .getfield 88, 12, 33) :: c_M_fitPlane_433
def c_M_fitPlane_429 : List eg_I := .inl (429, 1, .aload 0, 0, 0) :: c_M_fitPlane_430
def c_M_fitPlane_428 : List eg_I := .inl (428, 1, .laload, 0, 0) :: c_M_fitPlane_429
def c_M_fitPlane_427 : List eg_I := .inl (427, 1, .iconst (0), 0, 0) :: c_M_fitPlane_428
def c_M_fitPlane_424 : List eg_I := .inl (424, 3, .getfield 88, 12, 33) :: c_M_fitPlane_427
def c_M_fitPlane_423 : List eg_I := .inl (423, 1, .aload 0, 0, 0) :: c_M_fitPlane_424
def c_M_fitPlane_420 : List eg_I := .inr (420, 1, 196, n_M_keepMiss, 3, 12, 0, 0) :: c_M_fitPlane_423
def c_M_fitPlane_418 : List eg_I := .inl (418, 2, .lload 6, 0, 0) :: c_M_fitPlane_420
def c_M_fitPlane_416 : List eg_I := .inl (416, 2, .lload 4, 0, 0) :: c_M_fitPlane_418
def c_M_fitPlane_415 : List eg_I := .inl (415, 1, .iload 1, 0, 0) :: c_M_fitPlane_416
def c_M_fitPlane_414 : List eg_I := .inl (414, 1, .aload 0, 0, 0) :: c_M_fitPlane_415
def c_M_fitPlane_413 : List eg_I := .inl (413, 1, .iastore, 0, 0) :: c_M_fitPlane_414
def c_M_fitPlane_410 : List eg_I := .inl (410, 3, .getfield 176, 12, 32) :: c_M_fitPlane_413
def c_M_fitPlane_409 : List eg_I := .inl (409, 1, .aload 0, 0, 0) :: c_M_fitPlane_410
def c_M_fitPlane_408 : List eg_I := .inl (408, 1, .iadd, 0, 0) :: c_M_fitPlane_409
def c_M_fitPlane_407 : List eg_I := .inl (407, 1, .iconst (5), 0, 0) :: c_M_fitPlane_408
def c_M_fitPlane_406 : List eg_I := .inl (406, 1, .imul, 0, 0) :: c_M_fitPlane_407
def c_M_fitPlane_405 : List eg_I := .inl (405, 1, .iload 1, 0, 0) :: c_M_fitPlane_406
def c_M_fitPlane_403 : List eg_I := .inl (403, 2, .iconst (6), 0, 0) :: c_M_fitPlane_405
def c_M_fitPlane_400 : List eg_I := .inl (400, 3, .getfield 38, 12, 9) :: c_M_fitPlane_403
def c_M_fitPlane_399 : List eg_I := .inl (399, 1, .aload 0, 0, 0) :: c_M_fitPlane_400
def c_M_fitPlane_398 : List eg_I := .inl (398, 1, .iastore, 0, 0) :: c_M_fitPlane_399
def c_M_fitPlane_395 : List eg_I := .inl (395, 3, .getfield 172, 12, 31) :: c_M_fitPlane_398
def c_M_fitPlane_394 : List eg_I := .inl (394, 1, .aload 0, 0, 0) :: c_M_fitPlane_395
def c_M_fitPlane_393 : List eg_I := .inl (393, 1, .iadd, 0, 0) :: c_M_fitPlane_394
def c_M_fitPlane_392 : List eg_I := .inl (392, 1, .iconst (4), 0, 0) :: c_M_fitPlane_393
def c_M_fitPlane_391 : List eg_I := .inl (391, 1, .imul, 0, 0) :: c_M_fitPlane_392
def c_M_fitPlane_390 : List eg_I := .inl (390, 1, .iload 1, 0, 0) :: c_M_fitPlane_391
def c_M_fitPlane_388 : List eg_I := .inl (388, 2, .iconst (6), 0, 0) :: c_M_fitPlane_390
def c_M_fitPlane_385 : List eg_I := .inl (385, 3, .getfield 38, 12, 9) :: c_M_fitPlane_388
def c_M_fitPlane_384 : List eg_I := .inl (384, 1, .aload 0, 0, 0) :: c_M_fitPlane_385
def c_M_fitPlane_383 : List eg_I := .inl (383, 1, .iastore, 0, 0) :: c_M_fitPlane_384
def c_M_fitPlane_381 : List eg_I := .inl (381, 2, .iload 11, 0, 0) :: c_M_fitPlane_383
def c_M_fitPlane_380 : List eg_I := .inl (380, 1, .iadd, 0, 0) :: c_M_fitPlane_381
def c_M_fitPlane_379 : List eg_I := .inl (379, 1, .iconst (3), 0, 0) :: c_M_fitPlane_380
def c_M_fitPlane_378 : List eg_I := .inl (378, 1, .imul, 0, 0) :: c_M_fitPlane_379
def c_M_fitPlane_377 : List eg_I := .inl (377, 1, .iload 1, 0, 0) :: c_M_fitPlane_378
def c_M_fitPlane_375 : List eg_I := .inl (375, 2, .iconst (6), 0, 0) :: c_M_fitPlane_377
def c_M_fitPlane_372 : List eg_I := .inl (372, 3, .getfield 38, 12, 9) :: c_M_fitPlane_375
def c_M_fitPlane_371 : List eg_I := .inl (371, 1, .aload 0, 0, 0) :: c_M_fitPlane_372
def c_M_fitPlane_370 : List eg_I := .inl (370, 1, .iastore, 0, 0) :: c_M_fitPlane_371
def c_M_fitPlane_368 : List eg_I := .inl (368, 2, .iload 10, 0, 0) :: c_M_fitPlane_370
def c_M_fitPlane_367 : List eg_I := .inl (367, 1, .iadd, 0, 0) :: c_M_fitPlane_368
def c_M_fitPlane_366 : List eg_I := .inl (366, 1, .iconst (2), 0, 0) :: c_M_fitPlane_367
def c_M_fitPlane_365 : List eg_I := .inl (365, 1, .imul, 0, 0) :: c_M_fitPlane_366
def c_M_fitPlane_364 : List eg_I := .inl (364, 1, .iload 1, 0, 0) :: c_M_fitPlane_365
def c_M_fitPlane_362 : List eg_I := .inl (362, 2, .iconst (6), 0, 0) :: c_M_fitPlane_364
def c_M_fitPlane_359 : List eg_I := .inl (359, 3, .getfield 38, 12, 9) :: c_M_fitPlane_362
def c_M_fitPlane_358 : List eg_I := .inl (358, 1, .aload 0, 0, 0) :: c_M_fitPlane_359
def c_M_fitPlane_357 : List eg_I := .inl (357, 1, .iastore, 0, 0) :: c_M_fitPlane_358
def c_M_fitPlane_355 : List eg_I := .inl (355, 2, .iload 9, 0, 0) :: c_M_fitPlane_357
def c_M_fitPlane_354 : List eg_I := .inl (354, 1, .iadd, 0, 0) :: c_M_fitPlane_355
def c_M_fitPlane_353 : List eg_I := .inl (353, 1, .iconst (1), 0, 0) :: c_M_fitPlane_354
def c_M_fitPlane_352 : List eg_I := .inl (352, 1, .imul, 0, 0) :: c_M_fitPlane_353
def c_M_fitPlane_351 : List eg_I := .inl (351, 1, .iload 1, 0, 0) :: c_M_fitPlane_352
def c_M_fitPlane_349 : List eg_I := .inl (349, 2, .iconst (6), 0, 0) :: c_M_fitPlane_351
def c_M_fitPlane_346 : List eg_I := .inl (346, 3, .getfield 38, 12, 9) :: c_M_fitPlane_349
def c_M_fitPlane_345 : List eg_I := .inl (345, 1, .aload 0, 0, 0) :: c_M_fitPlane_346
def c_M_fitPlane_344 : List eg_I := .inl (344, 1, .iastore, 0, 0) :: c_M_fitPlane_345
def c_M_fitPlane_342 : List eg_I := .inl (342, 2, .iload 8, 0, 0) :: c_M_fitPlane_344
def c_M_fitPlane_341 : List eg_I := .inl (341, 1, .imul, 0, 0) :: c_M_fitPlane_342
def c_M_fitPlane_340 : List eg_I := .inl (340, 1, .iload 1, 0, 0) :: c_M_fitPlane_341
def c_M_fitPlane_338 : List eg_I := .inl (338, 2, .iconst (6), 0, 0) :: c_M_fitPlane_340
def c_M_fitPlane_335 : List eg_I := .inl (335, 3, .getfield 38, 12, 9) :: c_M_fitPlane_338
def c_M_fitPlane_334 : List eg_I := .inl (334, 1, .aload 0, 0, 0) :: c_M_fitPlane_335
def c_M_fitPlane_333 : List eg_I := .inl (333, 1, .iastore, 0, 0) :: c_M_fitPlane_334
def c_M_fitPlane_331 : List eg_I := .inl (331, 2, .iconst (6), 0, 0) :: c_M_fitPlane_333
def c_M_fitPlane_330 : List eg_I := .inl (330, 1, .iload 1, 0, 0) :: c_M_fitPlane_331
def c_M_fitPlane_327 : List eg_I := .inl (327, 3, .getfield 35, 12, 8) :: c_M_fitPlane_330
def c_M_fitPlane_326 : List eg_I := .inl (326, 1, .aload 0, 0, 0) :: c_M_fitPlane_327
def c_M_fitPlane_325 : List eg_I := .inl (325, 1, .iastore, 0, 0) :: c_M_fitPlane_326
def c_M_fitPlane_324 : List eg_I := .inl (324, 1, .iconst (3), 0, 0) :: c_M_fitPlane_325
def c_M_fitPlane_323 : List eg_I := .inl (323, 1, .iload 1, 0, 0) :: c_M_fitPlane_324
def c_M_fitPlane_320 : List eg_I := .inl (320, 3, .getfield 32, 12, 7) :: c_M_fitPlane_323
def c_M_fitPlane_319 : List eg_I := .inl (319, 1, .aload 0, 0, 0) :: c_M_fitPlane_320
def c_M_fitPlane_316 : List eg_I := .inr (316, 1, 188, n_M_crosses, 5, 12, 0, 0) :: c_M_fitPlane_319
def c_M_fitPlane_315 : List eg_I := .inl (315, 1, .laload, 0, 0) :: c_M_fitPlane_316
def c_M_fitPlane_314 : List eg_I := .inl (314, 1, .iconst (2), 0, 0) :: c_M_fitPlane_315
def c_M_fitPlane_311 : List eg_I := .inl (311, 3, .getfield 88, 12, 33) :: c_M_fitPlane_314
def c_M_fitPlane_310 : List eg_I := .inl (310, 1, .aload 0, 0, 0) :: c_M_fitPlane_311
def c_M_fitPlane_309 : List eg_I := .inl (309, 1, .laload, 0, 0) :: c_M_fitPlane_310
def c_M_fitPlane_308 : List eg_I := .inl (308, 1, .iconst (1), 0, 0) :: c_M_fitPlane_309
def c_M_fitPlane_305 : List eg_I := .inl (305, 3, .getfield 88, 12, 33) :: c_M_fitPlane_308
def c_M_fitPlane_304 : List eg_I := .inl (304, 1, .aload 0, 0, 0) :: c_M_fitPlane_305
def c_M_fitPlane_303 : List eg_I := .inl (303, 1, .laload, 0, 0) :: c_M_fitPlane_304
def c_M_fitPlane_302 : List eg_I := .inl (302, 1, .iconst (0), 0, 0) :: c_M_fitPlane_303
def c_M_fitPlane_299 : List eg_I := .inl (299, 3, .getfield 88, 12, 33) :: c_M_fitPlane_302
def c_M_fitPlane_298 : List eg_I := .inl (298, 1, .aload 0, 0, 0) :: c_M_fitPlane_299
def c_M_fitPlane_296 : List eg_I := .inl (296, 2, .iload 8, 0, 0) :: c_M_fitPlane_298
def c_M_fitPlane_295 : List eg_I := .inl (295, 1, .iload 2, 0, 0) :: c_M_fitPlane_296
def c_M_fitPlane_294 : List eg_I := .inl (294, 1, .aload 0, 0, 0) :: c_M_fitPlane_295
def c_M_fitPlane_291 : List eg_I := .inr (291, 1, 206, n_M_tellNormal, 5, 12, 0, 0) :: c_M_fitPlane_294
def c_M_fitPlane_289 : List eg_I := .inl (289, 2, .iload 11, 0, 0) :: c_M_fitPlane_291
def c_M_fitPlane_287 : List eg_I := .inl (287, 2, .iload 10, 0, 0) :: c_M_fitPlane_289
def c_M_fitPlane_285 : List eg_I := .inl (285, 2, .iload 9, 0, 0) :: c_M_fitPlane_287
def c_M_fitPlane_283 : List eg_I := .inl (283, 2, .iload 8, 0, 0) :: c_M_fitPlane_285
def c_M_fitPlane_282 : List eg_I := .inl (282, 1, .iload 2, 0, 0) :: c_M_fitPlane_283
def c_M_fitPlane_281 : List eg_I := .inl (281, 1, .aload 0, 0, 0) :: c_M_fitPlane_282
def c_M_fitPlane_280 : List eg_I := .inl (280, 1, .lreturn, 0, 0) :: []
def c_M_fitPlane_277 : List eg_I := .inr (277, 1, 112, n_M_finding, 1, 12, 0, 0) :: c_M_fitPlane_280
def c_M_fitPlane_274 : List eg_I := .inl (274, 3, .sipush (-1000000000000000006), 138, 0) :: c_M_fitPlane_277
def c_M_fitPlane_273 : List eg_I := .inl (273, 1, .aload 0, 0, 0) :: c_M_fitPlane_274
def c_M_fitPlane_270 : List eg_I := .inl (270, 3, .ifCond .ne (11), 281, 0) :: c_M_fitPlane_273
def c_M_fitPlane_269 : List eg_I := .inl (269, 1, .iload 3, 0, 0) :: c_M_fitPlane_270
def c_M_fitPlane_266 : List eg_I := .inl (266, 3, .goto (-235), 31, 0) :: []
def c_M_fitPlane_263 : List eg_I := .inl (263, 3, .iinc 13 (1), 0, 0) :: c_M_fitPlane_266
def c_M_fitPlane_260 : List eg_I := .inl (260, 3, .goto (-216), 44, 0) :: []
def c_M_fitPlane_257 : List eg_I := .inl (257, 3, .iinc 14 (1), 0, 0) :: c_M_fitPlane_260
def c_M_fitPlane_254 : List eg_I := .inl (254, 3, .goto (-189), 65, 0) :: []
def c_M_fitPlane_251 : List eg_I := .inl (251, 3, .iinc 15 (1), 0, 0) :: c_M_fitPlane_254
def c_M_fitPlane_248 : List eg_I := .inl (248, 3, .goto (-146), 102, 0) :: []
def c_M_fitPlane_245 : List eg_I := .inl (245, 3, .iinc 16 (1), 0, 0) :: c_M_fitPlane_248
def c_M_fitPlane_243 : List eg_I := .inl (243, 2, .istore 11, 0, 0) :: c_M_fitPlane_245
def c_M_fitPlane_241 : List eg_I := .inl (241, 2, .iload 16, 0, 0) :: c_M_fitPlane_243
def c_M_fitPlane_239 : List eg_I := .inl (239, 2, .istore 10, 0, 0) :: c_M_fitPlane_241
def c_M_fitPlane_237 : List eg_I := .inl (237, 2, .iload 15, 0, 0) :: c_M_fitPlane_239
def c_M_fitPlane_235 : List eg_I := .inl (235, 2, .istore 9, 0, 0) :: c_M_fitPlane_237
def c_M_fitPlane_233 : List eg_I := .inl (233, 2, .iload 14, 0, 0) :: c_M_fitPlane_235
def c_M_fitPlane_231 : List eg_I := .inl (231, 2, .istore 8, 0, 0) :: c_M_fitPlane_233
def c_M_fitPlane_229 : List eg_I := .inl (229, 2, .iload 13, 0, 0) :: c_M_fitPlane_231
def c_M_fitPlane_227 : List eg_I := .inl (227, 2, .lstore 6, 0, 0) :: c_M_fitPlane_229
def c_M_fitPlane_225 : List eg_I := .inl (225, 2, .lload 17, 0, 0) :: c_M_fitPlane_227
def c_M_fitPlane_223 : List eg_I := .inl (223, 2, .lstore 4, 0, 0) :: c_M_fitPlane_225
def c_M_fitPlane_221 : List eg_I := .inl (221, 2, .lload 19, 0, 0) :: c_M_fitPlane_223
def c_M_fitPlane_220 : List eg_I := .inl (220, 1, .istore 3, 0, 0) :: c_M_fitPlane_221
def c_M_fitPlane_219 : List eg_I := .inl (219, 1, .iconst (1), 0, 0) :: c_M_fitPlane_220
def c_M_fitPlane_216 : List eg_I := .inl (216, 3, .ifCond .eq (29), 245, 0) :: c_M_fitPlane_219
def c_M_fitPlane_213 : List eg_I := .inr (213, 0, 192, n_M_isLess, 4, 12, 0, 0) :: c_M_fitPlane_216
def c_M_fitPlane_211 : List eg_I := .inl (211, 2, .lload 6, 0, 0) :: c_M_fitPlane_213
def c_M_fitPlane_209 : List eg_I := .inl (209, 2, .lload 4, 0, 0) :: c_M_fitPlane_211
def c_M_fitPlane_207 : List eg_I := .inl (207, 2, .lload 17, 0, 0) :: c_M_fitPlane_209
def c_M_fitPlane_205 : List eg_I := .inl (205, 2, .lload 19, 0, 0) :: c_M_fitPlane_207
def c_M_fitPlane_202 : List eg_I := .inl (202, 3, .ifCond .eq (17), 219, 0) :: c_M_fitPlane_205
def c_M_fitPlane_201 : List eg_I := .inl (201, 1, .iload 3, 0, 0) :: c_M_fitPlane_202
def c_M_fitPlane_199 : List eg_I := .inl (199, 2, .lstore 19, 0, 0) :: c_M_fitPlane_201
def c_M_fitPlane_198 : List eg_I := .inl (198, 1, .lmul, 0, 0) :: c_M_fitPlane_199
def c_M_fitPlane_197 : List eg_I := .inl (197, 1, .lsub, 0, 0) :: c_M_fitPlane_198
def c_M_fitPlane_194 : List eg_I := .inl (194, 3, .getfield 182, 12, 30) :: c_M_fitPlane_197
def c_M_fitPlane_193 : List eg_I := .inl (193, 1, .aload 0, 0, 0) :: c_M_fitPlane_194
def c_M_fitPlane_190 : List eg_I := .inl (190, 3, .getfield 179, 12, 29) :: c_M_fitPlane_193
def c_M_fitPlane_189 : List eg_I := .inl (189, 1, .aload 0, 0, 0) :: c_M_fitPlane_190
def c_M_fitPlane_188 : List eg_I := .inl (188, 1, .lsub, 0, 0) :: c_M_fitPlane_189
def c_M_fitPlane_185 : List eg_I := .inl (185, 3, .getfield 182, 12, 30) :: c_M_fitPlane_188
def c_M_fitPlane_184 : List eg_I := .inl (184, 1, .aload 0, 0, 0) :: c_M_fitPlane_185
def c_M_fitPlane_181 : List eg_I := .inl (181, 3, .getfield 179, 12, 29) :: c_M_fitPlane_184
def c_M_fitPlane_180 : List eg_I := .inl (180, 1, .aload 0, 0, 0) :: c_M_fitPlane_181
def c_M_fitPlane_177 : List eg_I := .inr (177, 1, 188, n_M_crosses, 5, 12, 0, 0) :: c_M_fitPlane_180
def c_M_fitPlane_176 : List eg_I := .inl (176, 1, .laload, 0, 0) :: c_M_fitPlane_177
def c_M_fitPlane_175 : List eg_I := .inl (175, 1, .iconst (2), 0, 0) :: c_M_fitPlane_176
def c_M_fitPlane_172 : List eg_I := .inl (172, 3, .getfield 88, 12, 33) :: c_M_fitPlane_175
def c_M_fitPlane_171 : List eg_I := .inl (171, 1, .aload 0, 0, 0) :: c_M_fitPlane_172
def c_M_fitPlane_170 : List eg_I := .inl (170, 1, .laload, 0, 0) :: c_M_fitPlane_171
def c_M_fitPlane_169 : List eg_I := .inl (169, 1, .iconst (1), 0, 0) :: c_M_fitPlane_170
def c_M_fitPlane_166 : List eg_I := .inl (166, 3, .getfield 88, 12, 33) :: c_M_fitPlane_169
def c_M_fitPlane_165 : List eg_I := .inl (165, 1, .aload 0, 0, 0) :: c_M_fitPlane_166
def c_M_fitPlane_164 : List eg_I := .inl (164, 1, .laload, 0, 0) :: c_M_fitPlane_165
def c_M_fitPlane_163 : List eg_I := .inl (163, 1, .iconst (0), 0, 0) :: c_M_fitPlane_164
def c_M_fitPlane_160 : List eg_I := .inl (160, 3, .getfield 88, 12, 33) :: c_M_fitPlane_163
def c_M_fitPlane_159 : List eg_I := .inl (159, 1, .aload 0, 0, 0) :: c_M_fitPlane_160
def c_M_fitPlane_157 : List eg_I := .inl (157, 2, .iload 13, 0, 0) :: c_M_fitPlane_159
def c_M_fitPlane_156 : List eg_I := .inl (156, 1, .iload 2, 0, 0) :: c_M_fitPlane_157
def c_M_fitPlane_155 : List eg_I := .inl (155, 1, .aload 0, 0, 0) :: c_M_fitPlane_156
def c_M_fitPlane_152 : List eg_I := .inl (152, 3, .ifCond .le (93), 245, 0) :: c_M_fitPlane_155
def c_M_fitPlane_151 : List eg_I := .inl (151, 1, .lcmp, 0, 0) :: c_M_fitPlane_152
def c_M_fitPlane_150 : List eg_I := .inl (150, 1, .sipush (0), 0, 0) :: c_M_fitPlane_151
def c_M_fitPlane_148 : List eg_I := .inl (148, 2, .lload 17, 0, 0) :: c_M_fitPlane_150
def c_M_fitPlane_145 : List eg_I := .inl (145, 3, .ifCond .eq (100), 245, 0) :: c_M_fitPlane_148
def c_M_fitPlane_142 : List eg_I := .inr (142, 1, 185, n_M_isHere, 2, 12, 0, 0) :: c_M_fitPlane_145
def c_M_fitPlane_140 : List eg_I := .inl (140, 2, .iload 16, 0, 0) :: c_M_fitPlane_142
def c_M_fitPlane_139 : List eg_I := .inl (139, 1, .iload 2, 0, 0) :: c_M_fitPlane_140
def c_M_fitPlane_138 : List eg_I := .inl (138, 1, .aload 0, 0, 0) :: c_M_fitPlane_139
def c_M_fitPlane_136 : List eg_I := .inl (136, 2, .lstore 17, 0, 0) :: c_M_fitPlane_138
def c_M_fitPlane_133 : List eg_I := .inr (133, 1, 210, n_M_squareOf, 0, 12, 0, 0) :: c_M_fitPlane_136
def c_M_fitPlane_132 : List eg_I := .inl (132, 1, .aload 0, 0, 0) :: c_M_fitPlane_133
def c_M_fitPlane_129 : List eg_I := .inr (129, 1, 206, n_M_tellNormal, 5, 12, 0, 0) :: c_M_fitPlane_132
def c_M_fitPlane_127 : List eg_I := .inl (127, 2, .iload 16, 0, 0) :: c_M_fitPlane_129
def c_M_fitPlane_125 : List eg_I := .inl (125, 2, .iload 15, 0, 0) :: c_M_fitPlane_127
def c_M_fitPlane_123 : List eg_I := .inl (123, 2, .iload 14, 0, 0) :: c_M_fitPlane_125
def c_M_fitPlane_121 : List eg_I := .inl (121, 2, .iload 13, 0, 0) :: c_M_fitPlane_123
def c_M_fitPlane_120 : List eg_I := .inl (120, 1, .iload 2, 0, 0) :: c_M_fitPlane_121
def c_M_fitPlane_119 : List eg_I := .inl (119, 1, .aload 0, 0, 0) :: c_M_fitPlane_120
def c_M_fitPlane_116 : List eg_I := .inl (116, 3, .ifCond .eq (135), 251, 0) :: c_M_fitPlane_119
def c_M_fitPlane_113 : List eg_I := .inr (113, 1, 185, n_M_isHere, 2, 12, 0, 0) :: c_M_fitPlane_116
def c_M_fitPlane_111 : List eg_I := .inl (111, 2, .iload 15, 0, 0) :: c_M_fitPlane_113
def c_M_fitPlane_110 : List eg_I := .inl (110, 1, .iload 2, 0, 0) :: c_M_fitPlane_111
def c_M_fitPlane_109 : List eg_I := .inl (109, 1, .aload 0, 0, 0) :: c_M_fitPlane_110
def c_M_fitPlane_106 : List eg_I := .inl (106, 3, .if_icmp .ge (145), 251, 0) :: c_M_fitPlane_109
def c_M_fitPlane_104 : List eg_I := .inl (104, 2, .iload 12, 0, 0) :: c_M_fitPlane_106
def c_M_fitPlane_102 : List eg_I := .inl (102, 2, .iload 16, 0, 0) :: c_M_fitPlane_104
def c_M_fitPlane_100 : List eg_I := .inl (100, 2, .istore 16, 0, 0) :: z_M_fitPlane_102
def c_M_fitPlane_99 : List eg_I := .inl (99, 1, .iadd, 0, 0) :: c_M_fitPlane_100
def c_M_fitPlane_98 : List eg_I := .inl (98, 1, .iconst (1), 0, 0) :: c_M_fitPlane_99
def c_M_fitPlane_96 : List eg_I := .inl (96, 2, .iload 15, 0, 0) :: c_M_fitPlane_98
def c_M_fitPlane_93 : List eg_I := .inl (93, 3, .goto (7), 100, 0) :: []
def c_M_fitPlane_92 : List eg_I := .inl (92, 1, .iadd, 0, 0) :: c_M_fitPlane_93
def c_M_fitPlane_91 : List eg_I := .inl (91, 1, .iconst (1), 0, 0) :: c_M_fitPlane_92
def c_M_fitPlane_89 : List eg_I := .inl (89, 2, .iload 14, 0, 0) :: c_M_fitPlane_91
def c_M_fitPlane_86 : List eg_I := .inl (86, 3, .if_icmp .ne (10), 96, 0) :: c_M_fitPlane_89
def c_M_fitPlane_84 : List eg_I := .inl (84, 2, .iload 13, 0, 0) :: c_M_fitPlane_86
def c_M_fitPlane_82 : List eg_I := .inl (82, 2, .iload 15, 0, 0) :: c_M_fitPlane_84
def c_M_fitPlane_79 : List eg_I := .inl (79, 3, .ifCond .eq (178), 257, 0) :: c_M_fitPlane_82
def c_M_fitPlane_76 : List eg_I := .inr (76, 1, 185, n_M_isHere, 2, 12, 0, 0) :: c_M_fitPlane_79
def c_M_fitPlane_74 : List eg_I := .inl (74, 2, .iload 14, 0, 0) :: c_M_fitPlane_76
def c_M_fitPlane_73 : List eg_I := .inl (73, 1, .iload 2, 0, 0) :: c_M_fitPlane_74
def c_M_fitPlane_72 : List eg_I := .inl (72, 1, .aload 0, 0, 0) :: c_M_fitPlane_73
def c_M_fitPlane_69 : List eg_I := .inl (69, 3, .if_icmp .ge (188), 257, 0) :: c_M_fitPlane_72
def c_M_fitPlane_67 : List eg_I := .inl (67, 2, .iload 12, 0, 0) :: c_M_fitPlane_69
def c_M_fitPlane_65 : List eg_I := .inl (65, 2, .iload 15, 0, 0) :: c_M_fitPlane_67
def c_M_fitPlane_63 : List eg_I := .inl (63, 2, .istore 15, 0, 0) :: z_M_fitPlane_65
def c_M_fitPlane_61 : List eg_I := .inl (61, 2, .iload 13, 0, 0) :: c_M_fitPlane_63
def c_M_fitPlane_58 : List eg_I := .inl (58, 3, .ifCond .eq (205), 263, 0) :: c_M_fitPlane_61
def c_M_fitPlane_55 : List eg_I := .inr (55, 1, 185, n_M_isHere, 2, 12, 0, 0) :: c_M_fitPlane_58
def c_M_fitPlane_53 : List eg_I := .inl (53, 2, .iload 13, 0, 0) :: c_M_fitPlane_55
def c_M_fitPlane_52 : List eg_I := .inl (52, 1, .iload 2, 0, 0) :: c_M_fitPlane_53
def c_M_fitPlane_51 : List eg_I := .inl (51, 1, .aload 0, 0, 0) :: c_M_fitPlane_52
def c_M_fitPlane_48 : List eg_I := .inl (48, 3, .if_icmp .ge (215), 263, 0) :: c_M_fitPlane_51
def c_M_fitPlane_46 : List eg_I := .inl (46, 2, .iload 12, 0, 0) :: c_M_fitPlane_48
def c_M_fitPlane_44 : List eg_I := .inl (44, 2, .iload 14, 0, 0) :: c_M_fitPlane_46
def c_M_fitPlane_42 : List eg_I := .inl (42, 2, .istore 14, 0, 0) :: z_M_fitPlane_44
def c_M_fitPlane_41 : List eg_I := .inl (41, 1, .iadd, 0, 0) :: c_M_fitPlane_42
def c_M_fitPlane_40 : List eg_I := .inl (40, 1, .iconst (1), 0, 0) :: c_M_fitPlane_41
def c_M_fitPlane_38 : List eg_I := .inl (38, 2, .iload 13, 0, 0) :: c_M_fitPlane_40
def c_M_fitPlane_35 : List eg_I := .inl (35, 3, .if_icmp .ge (234), 269, 0) :: c_M_fitPlane_38
def c_M_fitPlane_33 : List eg_I := .inl (33, 2, .iload 12, 0, 0) :: c_M_fitPlane_35
def c_M_fitPlane_31 : List eg_I := .inl (31, 2, .iload 13, 0, 0) :: c_M_fitPlane_33
def c_M_fitPlane_29 : List eg_I := .inl (29, 2, .istore 13, 0, 0) :: z_M_fitPlane_31
def c_M_fitPlane_28 : List eg_I := .inl (28, 1, .iconst (0), 0, 0) :: c_M_fitPlane_29
def c_M_fitPlane_26 : List eg_I := .inl (26, 2, .istore 12, 0, 0) :: c_M_fitPlane_28
def c_M_fitPlane_25 : List eg_I := .inl (25, 1, .iaload, 0, 0) :: c_M_fitPlane_26
def c_M_fitPlane_24 : List eg_I := .inl (24, 1, .iload 2, 0, 0) :: c_M_fitPlane_25
def c_M_fitPlane_21 : List eg_I := .inl (21, 3, .getfield 9, 12, 0) :: c_M_fitPlane_24
def c_M_fitPlane_20 : List eg_I := .inl (20, 1, .aload 0, 0, 0) :: c_M_fitPlane_21
def c_M_fitPlane_18 : List eg_I := .inl (18, 2, .istore 11, 0, 0) :: c_M_fitPlane_20
def c_M_fitPlane_17 : List eg_I := .inl (17, 1, .iconst (0), 0, 0) :: c_M_fitPlane_18
def c_M_fitPlane_15 : List eg_I := .inl (15, 2, .istore 10, 0, 0) :: c_M_fitPlane_17
def c_M_fitPlane_14 : List eg_I := .inl (14, 1, .iconst (0), 0, 0) :: c_M_fitPlane_15
def c_M_fitPlane_12 : List eg_I := .inl (12, 2, .istore 9, 0, 0) :: c_M_fitPlane_14
def c_M_fitPlane_11 : List eg_I := .inl (11, 1, .iconst (0), 0, 0) :: c_M_fitPlane_12
def c_M_fitPlane_9 : List eg_I := .inl (9, 2, .istore 8, 0, 0) :: c_M_fitPlane_11
def c_M_fitPlane_8 : List eg_I := .inl (8, 1, .iconst (0), 0, 0) :: c_M_fitPlane_9
def c_M_fitPlane_6 : List eg_I := .inl (6, 2, .lstore 6, 0, 0) :: c_M_fitPlane_8
def c_M_fitPlane_5 : List eg_I := .inl (5, 1, .sipush (1), 0, 0) :: c_M_fitPlane_6
def c_M_fitPlane_3 : List eg_I := .inl (3, 2, .lstore 4, 0, 0) :: c_M_fitPlane_5
def c_M_fitPlane_2 : List eg_I := .inl (2, 1, .sipush (0), 0, 0) :: c_M_fitPlane_3
def c_M_fitPlane_1 : List eg_I := .inl (1, 1, .istore 3, 0, 0) :: c_M_fitPlane_2
def c_M_fitPlane_0 : List eg_I := .inl (0, 1, .iconst (0), 0, 0) :: c_M_fitPlane_1
section
variable {rm : Room} {K : Nat → Nat → Nat → eg_Lo → List Value → List eg_E → Prop} {Q : Option Value → List eg_E → Prop} {kc ks : Nat} {loc : eg_Lo} {st : List Value} {h : List eg_E}
theorem s_M_fitPlane_0  : wps rm K Q c_M_fitPlane_0 kc ks loc (st) h = wps rm K Q c_M_fitPlane_1 kc ks loc (.int (0) :: st) h := gk_ic (by decide)
theorem s_M_fitPlane_1 {x : Int32} : wps rm K Q c_M_fitPlane_1 kc ks loc (.int x :: st) h = wps rm K Q c_M_fitPlane_2 kc ks (eg_set1 loc 3 (.int x)) (st) h := gk_istore
theorem s_M_fitPlane_2  : wps rm K Q c_M_fitPlane_2 kc ks loc (st) h = wps rm K Q c_M_fitPlane_3 kc ks loc (.long (0) :: st) h := gk_lc (by decide)
theorem s_M_fitPlane_3 {x : Int64} : wps rm K Q c_M_fitPlane_3 kc ks loc (.long x :: st) h = wps rm K Q c_M_fitPlane_5 kc ks (eg_set2 loc 4 (.long x)) (st) h := gk_lstore
theorem s_M_fitPlane_5  : wps rm K Q c_M_fitPlane_5 kc ks loc (st) h = wps rm K Q c_M_fitPlane_6 kc ks loc (.long (1) :: st) h := gk_lc (by decide)
theorem s_M_fitPlane_6 {x : Int64} : wps rm K Q c_M_fitPlane_6 kc ks loc (.long x :: st) h = wps rm K Q c_M_fitPlane_8 kc ks (eg_set2 loc 6 (.long x)) (st) h := gk_lstore
theorem s_M_fitPlane_8  : wps rm K Q c_M_fitPlane_8 kc ks loc (st) h = wps rm K Q c_M_fitPlane_9 kc ks loc (.int (0) :: st) h := gk_ic (by decide)
theorem s_M_fitPlane_9 {x : Int32} : wps rm K Q c_M_fitPlane_9 kc ks loc (.int x :: st) h = wps rm K Q c_M_fitPlane_11 kc ks (eg_set1 loc 8 (.int x)) (st) h := gk_istore
theorem s_M_fitPlane_11  : wps rm K Q c_M_fitPlane_11 kc ks loc (st) h = wps rm K Q c_M_fitPlane_12 kc ks loc (.int (0) :: st) h := gk_ic (by decide)
theorem s_M_fitPlane_12 {x : Int32} : wps rm K Q c_M_fitPlane_12 kc ks loc (.int x :: st) h = wps rm K Q c_M_fitPlane_14 kc ks (eg_set1 loc 9 (.int x)) (st) h := gk_istore
theorem s_M_fitPlane_14  : wps rm K Q c_M_fitPlane_14 kc ks loc (st) h = wps rm K Q c_M_fitPlane_15 kc ks loc (.int (0) :: st) h := gk_ic (by decide)
theorem s_M_fitPlane_15 {x : Int32} : wps rm K Q c_M_fitPlane_15 kc ks loc (.int x :: st) h = wps rm K Q c_M_fitPlane_17 kc ks (eg_set1 loc 10 (.int x)) (st) h := gk_istore
theorem s_M_fitPlane_17  : wps rm K Q c_M_fitPlane_17 kc ks loc (st) h = wps rm K Q c_M_fitPlane_18 kc ks loc (.int (0) :: st) h := gk_ic (by decide)
theorem s_M_fitPlane_18 {x : Int32} : wps rm K Q c_M_fitPlane_18 kc ks loc (.int x :: st) h = wps rm K Q c_M_fitPlane_20 kc ks (eg_set1 loc 11 (.int x)) (st) h := gk_istore
theorem s_M_fitPlane_20 {x : Nat} {l : eg_Lo} : wps rm K Q c_M_fitPlane_20 kc ks (some (.ref x) :: l) (st) h = wps rm K Q c_M_fitPlane_21 kc ks (some (.ref x) :: l) (.ref x :: st) h := gk_aload rfl
theorem s_M_fitPlane_21 {x : Nat} : wps rm K Q c_M_fitPlane_21 kc ks loc (.ref (x + 1) :: st) h = eg_gf h x 12 0 (fun v => wps rm K Q c_M_fitPlane_24 kc ks loc (v :: st) h) := gk_gf
theorem s_M_fitPlane_24 {x : Int32} {l0 l1 : Option Value} {l : eg_Lo} : wps rm K Q c_M_fitPlane_24 kc ks (l0 :: l1 :: some (.int x) :: l) (st) h = wps rm K Q c_M_fitPlane_25 kc ks (l0 :: l1 :: some (.int x) :: l) (.int x :: st) h := gk_iload rfl
theorem s_M_fitPlane_25 {x : Nat} {i : Int32} : wps rm K Q c_M_fitPlane_25 kc ks loc (.int i :: .ref (x + 1) :: st) h = eg_ia h x i (fun v => wps rm K Q c_M_fitPlane_26 kc ks loc (.int v :: st) h) := gk_iaload
theorem s_M_fitPlane_26 {x : Int32} : wps rm K Q c_M_fitPlane_26 kc ks loc (.int x :: st) h = wps rm K Q c_M_fitPlane_28 kc ks (eg_set1 loc 12 (.int x)) (st) h := gk_istore
theorem s_M_fitPlane_28  : wps rm K Q c_M_fitPlane_28 kc ks loc (st) h = wps rm K Q c_M_fitPlane_29 kc ks loc (.int (0) :: st) h := gk_ic (by decide)
theorem s_M_fitPlane_29 {x : Int32} : wps rm K Q c_M_fitPlane_29 kc ks loc (.int x :: st) h = wps rm K Q z_M_fitPlane_31 kc ks (eg_set1 loc 13 (.int x)) (st) h := gk_istore
theorem s_M_fitPlane_31 {x : Int32} {l0 l1 l2 l3 l4 l5 l6 l7 l8 l9 l10 l11 l12 : Option Value} {l : eg_Lo} : wps rm K Q c_M_fitPlane_31 kc ks (l0 :: l1 :: l2 :: l3 :: l4 :: l5 :: l6 :: l7 :: l8 :: l9 :: l10 :: l11 :: l12 :: some (.int x) :: l) (st) h = wps rm K Q c_M_fitPlane_33 kc ks (l0 :: l1 :: l2 :: l3 :: l4 :: l5 :: l6 :: l7 :: l8 :: l9 :: l10 :: l11 :: l12 :: some (.int x) :: l) (.int x :: st) h := gk_iload rfl
theorem s_M_fitPlane_33 {x : Int32} {l0 l1 l2 l3 l4 l5 l6 l7 l8 l9 l10 l11 : Option Value} {l : eg_Lo} : wps rm K Q c_M_fitPlane_33 kc ks (l0 :: l1 :: l2 :: l3 :: l4 :: l5 :: l6 :: l7 :: l8 :: l9 :: l10 :: l11 :: some (.int x) :: l) (st) h = wps rm K Q c_M_fitPlane_35 kc ks (l0 :: l1 :: l2 :: l3 :: l4 :: l5 :: l6 :: l7 :: l8 :: l9 :: l10 :: l11 :: some (.int x) :: l) (.int x :: st) h := gk_iload rfl
theorem s_M_fitPlane_35 {x y : Int32} : wps rm K Q c_M_fitPlane_35 kc ks loc (.int y :: .int x :: st) h = ((y ≤ x → K 269 kc ks loc st h) ∧ (¬ y ≤ x → wps rm K Q c_M_fitPlane_38 kc ks loc (st) h)) := gk_if2_ge
theorem s_M_fitPlane_38 {x : Int32} {l0 l1 l2 l3 l4 l5 l6 l7 l8 l9 l10 l11 l12 : Option Value} {l : eg_Lo} : wps rm K Q c_M_fitPlane_38 kc ks (l0 :: l1 :: l2 :: l3 :: l4 :: l5 :: l6 :: l7 :: l8 :: l9 :: l10 :: l11 :: l12 :: some (.int x) :: l) (st) h = wps rm K Q c_M_fitPlane_40 kc ks (l0 :: l1 :: l2 :: l3 :: l4 :: l5 :: l6 :: l7 :: l8 :: l9 :: l10 :: l11 :: l12 :: some (.int x) :: l) (.int x :: st) h := gk_iload rfl
theorem s_M_fitPlane_40  : wps rm K Q c_M_fitPlane_40 kc ks loc (st) h = wps rm K Q c_M_fitPlane_41 kc ks loc (.int (1) :: st) h := gk_ic (by decide)
theorem s_M_fitPlane_41 {x y : Int32} : wps rm K Q c_M_fitPlane_41 kc ks loc (.int y :: .int x :: st) h = wps rm K Q c_M_fitPlane_42 kc ks loc (.int (x + y) :: st) h := gk_iadd
theorem s_M_fitPlane_42 {x : Int32} : wps rm K Q c_M_fitPlane_42 kc ks loc (.int x :: st) h = wps rm K Q z_M_fitPlane_44 kc ks (eg_set1 loc 14 (.int x)) (st) h := gk_istore
theorem s_M_fitPlane_44 {x : Int32} {l0 l1 l2 l3 l4 l5 l6 l7 l8 l9 l10 l11 l12 l13 : Option Value} {l : eg_Lo} : wps rm K Q c_M_fitPlane_44 kc ks (l0 :: l1 :: l2 :: l3 :: l4 :: l5 :: l6 :: l7 :: l8 :: l9 :: l10 :: l11 :: l12 :: l13 :: some (.int x) :: l) (st) h = wps rm K Q c_M_fitPlane_46 kc ks (l0 :: l1 :: l2 :: l3 :: l4 :: l5 :: l6 :: l7 :: l8 :: l9 :: l10 :: l11 :: l12 :: l13 :: some (.int x) :: l) (.int x :: st) h := gk_iload rfl
theorem s_M_fitPlane_46 {x : Int32} {l0 l1 l2 l3 l4 l5 l6 l7 l8 l9 l10 l11 : Option Value} {l : eg_Lo} : wps rm K Q c_M_fitPlane_46 kc ks (l0 :: l1 :: l2 :: l3 :: l4 :: l5 :: l6 :: l7 :: l8 :: l9 :: l10 :: l11 :: some (.int x) :: l) (st) h = wps rm K Q c_M_fitPlane_48 kc ks (l0 :: l1 :: l2 :: l3 :: l4 :: l5 :: l6 :: l7 :: l8 :: l9 :: l10 :: l11 :: some (.int x) :: l) (.int x :: st) h := gk_iload rfl
theorem s_M_fitPlane_48 {x y : Int32} : wps rm K Q c_M_fitPlane_48 kc ks loc (.int y :: .int x :: st) h = ((y ≤ x → K 263 kc ks loc st h) ∧ (¬ y ≤ x → wps rm K Q c_M_fitPlane_51 kc ks loc (st) h)) := gk_if2_ge
theorem s_M_fitPlane_51 {x : Nat} {l : eg_Lo} : wps rm K Q c_M_fitPlane_51 kc ks (some (.ref x) :: l) (st) h = wps rm K Q c_M_fitPlane_52 kc ks (some (.ref x) :: l) (.ref x :: st) h := gk_aload rfl
theorem s_M_fitPlane_52 {x : Int32} {l0 l1 : Option Value} {l : eg_Lo} : wps rm K Q c_M_fitPlane_52 kc ks (l0 :: l1 :: some (.int x) :: l) (st) h = wps rm K Q c_M_fitPlane_53 kc ks (l0 :: l1 :: some (.int x) :: l) (.int x :: st) h := gk_iload rfl
theorem s_M_fitPlane_53 {x : Int32} {l0 l1 l2 l3 l4 l5 l6 l7 l8 l9 l10 l11 l12 : Option Value} {l : eg_Lo} : wps rm K Q c_M_fitPlane_53 kc ks (l0 :: l1 :: l2 :: l3 :: l4 :: l5 :: l6 :: l7 :: l8 :: l9 :: l10 :: l11 :: l12 :: some (.int x) :: l) (st) h = wps rm K Q c_M_fitPlane_55 kc ks (l0 :: l1 :: l2 :: l3 :: l4 :: l5 :: l6 :: l7 :: l8 :: l9 :: l10 :: l11 :: l12 :: some (.int x) :: l) (.int x :: st) h := gk_iload rfl
theorem s_M_fitPlane_55  {a1 : Value} {a2 : Value} {x : Nat} : wps rm K Q c_M_fitPlane_55 kc ks loc (a2 :: a1 :: .ref (x + 1) :: st) h = (eg_cls h x 12 ∧ st.length ≤ 4 ∧ eg_Cs n_M_isHere (.ref (x + 1) :: [a1, a2]) h (fun v h9 => wps rm K Q c_M_fitPlane_58 kc ks loc (v.toList ++ st) h9)) := eg_c1_2
theorem s_M_fitPlane_58 {x : Int32} : wps rm K Q c_M_fitPlane_58 kc ks loc (.int x :: st) h = ((x = 0 → K 263 kc ks loc st h) ∧ (¬ x = 0 → wps rm K Q c_M_fitPlane_61 kc ks loc (st) h)) := gk_if1_eq
theorem s_M_fitPlane_61 {x : Int32} {l0 l1 l2 l3 l4 l5 l6 l7 l8 l9 l10 l11 l12 : Option Value} {l : eg_Lo} : wps rm K Q c_M_fitPlane_61 kc ks (l0 :: l1 :: l2 :: l3 :: l4 :: l5 :: l6 :: l7 :: l8 :: l9 :: l10 :: l11 :: l12 :: some (.int x) :: l) (st) h = wps rm K Q c_M_fitPlane_63 kc ks (l0 :: l1 :: l2 :: l3 :: l4 :: l5 :: l6 :: l7 :: l8 :: l9 :: l10 :: l11 :: l12 :: some (.int x) :: l) (.int x :: st) h := gk_iload rfl
theorem s_M_fitPlane_63 {x : Int32} : wps rm K Q c_M_fitPlane_63 kc ks loc (.int x :: st) h = wps rm K Q z_M_fitPlane_65 kc ks (eg_set1 loc 15 (.int x)) (st) h := gk_istore
theorem s_M_fitPlane_65 {x : Int32} {l0 l1 l2 l3 l4 l5 l6 l7 l8 l9 l10 l11 l12 l13 l14 : Option Value} {l : eg_Lo} : wps rm K Q c_M_fitPlane_65 kc ks (l0 :: l1 :: l2 :: l3 :: l4 :: l5 :: l6 :: l7 :: l8 :: l9 :: l10 :: l11 :: l12 :: l13 :: l14 :: some (.int x) :: l) (st) h = wps rm K Q c_M_fitPlane_67 kc ks (l0 :: l1 :: l2 :: l3 :: l4 :: l5 :: l6 :: l7 :: l8 :: l9 :: l10 :: l11 :: l12 :: l13 :: l14 :: some (.int x) :: l) (.int x :: st) h := gk_iload rfl
theorem s_M_fitPlane_67 {x : Int32} {l0 l1 l2 l3 l4 l5 l6 l7 l8 l9 l10 l11 : Option Value} {l : eg_Lo} : wps rm K Q c_M_fitPlane_67 kc ks (l0 :: l1 :: l2 :: l3 :: l4 :: l5 :: l6 :: l7 :: l8 :: l9 :: l10 :: l11 :: some (.int x) :: l) (st) h = wps rm K Q c_M_fitPlane_69 kc ks (l0 :: l1 :: l2 :: l3 :: l4 :: l5 :: l6 :: l7 :: l8 :: l9 :: l10 :: l11 :: some (.int x) :: l) (.int x :: st) h := gk_iload rfl
theorem s_M_fitPlane_69 {x y : Int32} : wps rm K Q c_M_fitPlane_69 kc ks loc (.int y :: .int x :: st) h = ((y ≤ x → K 257 kc ks loc st h) ∧ (¬ y ≤ x → wps rm K Q c_M_fitPlane_72 kc ks loc (st) h)) := gk_if2_ge
theorem s_M_fitPlane_72 {x : Nat} {l : eg_Lo} : wps rm K Q c_M_fitPlane_72 kc ks (some (.ref x) :: l) (st) h = wps rm K Q c_M_fitPlane_73 kc ks (some (.ref x) :: l) (.ref x :: st) h := gk_aload rfl
theorem s_M_fitPlane_73 {x : Int32} {l0 l1 : Option Value} {l : eg_Lo} : wps rm K Q c_M_fitPlane_73 kc ks (l0 :: l1 :: some (.int x) :: l) (st) h = wps rm K Q c_M_fitPlane_74 kc ks (l0 :: l1 :: some (.int x) :: l) (.int x :: st) h := gk_iload rfl
theorem s_M_fitPlane_74 {x : Int32} {l0 l1 l2 l3 l4 l5 l6 l7 l8 l9 l10 l11 l12 l13 : Option Value} {l : eg_Lo} : wps rm K Q c_M_fitPlane_74 kc ks (l0 :: l1 :: l2 :: l3 :: l4 :: l5 :: l6 :: l7 :: l8 :: l9 :: l10 :: l11 :: l12 :: l13 :: some (.int x) :: l) (st) h = wps rm K Q c_M_fitPlane_76 kc ks (l0 :: l1 :: l2 :: l3 :: l4 :: l5 :: l6 :: l7 :: l8 :: l9 :: l10 :: l11 :: l12 :: l13 :: some (.int x) :: l) (.int x :: st) h := gk_iload rfl
theorem s_M_fitPlane_76  {a1 : Value} {a2 : Value} {x : Nat} : wps rm K Q c_M_fitPlane_76 kc ks loc (a2 :: a1 :: .ref (x + 1) :: st) h = (eg_cls h x 12 ∧ st.length ≤ 4 ∧ eg_Cs n_M_isHere (.ref (x + 1) :: [a1, a2]) h (fun v h9 => wps rm K Q c_M_fitPlane_79 kc ks loc (v.toList ++ st) h9)) := eg_c1_2
theorem s_M_fitPlane_79 {x : Int32} : wps rm K Q c_M_fitPlane_79 kc ks loc (.int x :: st) h = ((x = 0 → K 257 kc ks loc st h) ∧ (¬ x = 0 → wps rm K Q c_M_fitPlane_82 kc ks loc (st) h)) := gk_if1_eq
theorem s_M_fitPlane_82 {x : Int32} {l0 l1 l2 l3 l4 l5 l6 l7 l8 l9 l10 l11 l12 l13 l14 : Option Value} {l : eg_Lo} : wps rm K Q c_M_fitPlane_82 kc ks (l0 :: l1 :: l2 :: l3 :: l4 :: l5 :: l6 :: l7 :: l8 :: l9 :: l10 :: l11 :: l12 :: l13 :: l14 :: some (.int x) :: l) (st) h = wps rm K Q c_M_fitPlane_84 kc ks (l0 :: l1 :: l2 :: l3 :: l4 :: l5 :: l6 :: l7 :: l8 :: l9 :: l10 :: l11 :: l12 :: l13 :: l14 :: some (.int x) :: l) (.int x :: st) h := gk_iload rfl
theorem s_M_fitPlane_84 {x : Int32} {l0 l1 l2 l3 l4 l5 l6 l7 l8 l9 l10 l11 l12 : Option Value} {l : eg_Lo} : wps rm K Q c_M_fitPlane_84 kc ks (l0 :: l1 :: l2 :: l3 :: l4 :: l5 :: l6 :: l7 :: l8 :: l9 :: l10 :: l11 :: l12 :: some (.int x) :: l) (st) h = wps rm K Q c_M_fitPlane_86 kc ks (l0 :: l1 :: l2 :: l3 :: l4 :: l5 :: l6 :: l7 :: l8 :: l9 :: l10 :: l11 :: l12 :: some (.int x) :: l) (.int x :: st) h := gk_iload rfl
theorem s_M_fitPlane_86 {x y : Int32} : wps rm K Q c_M_fitPlane_86 kc ks loc (.int y :: .int x :: st) h = ((¬ x = y → K 96 kc ks loc st h) ∧ (x = y → wps rm K Q c_M_fitPlane_89 kc ks loc (st) h)) := gk_if2_ne
theorem s_M_fitPlane_89 {x : Int32} {l0 l1 l2 l3 l4 l5 l6 l7 l8 l9 l10 l11 l12 l13 : Option Value} {l : eg_Lo} : wps rm K Q c_M_fitPlane_89 kc ks (l0 :: l1 :: l2 :: l3 :: l4 :: l5 :: l6 :: l7 :: l8 :: l9 :: l10 :: l11 :: l12 :: l13 :: some (.int x) :: l) (st) h = wps rm K Q c_M_fitPlane_91 kc ks (l0 :: l1 :: l2 :: l3 :: l4 :: l5 :: l6 :: l7 :: l8 :: l9 :: l10 :: l11 :: l12 :: l13 :: some (.int x) :: l) (.int x :: st) h := gk_iload rfl
theorem s_M_fitPlane_91  : wps rm K Q c_M_fitPlane_91 kc ks loc (st) h = wps rm K Q c_M_fitPlane_92 kc ks loc (.int (1) :: st) h := gk_ic (by decide)
theorem s_M_fitPlane_92 {x y : Int32} : wps rm K Q c_M_fitPlane_92 kc ks loc (.int y :: .int x :: st) h = wps rm K Q c_M_fitPlane_93 kc ks loc (.int (x + y) :: st) h := gk_iadd
theorem s_M_fitPlane_93  : wps rm K Q c_M_fitPlane_93 kc ks loc (st) h = K 100 kc ks loc st h := gk_goto
theorem s_M_fitPlane_96 {x : Int32} {l0 l1 l2 l3 l4 l5 l6 l7 l8 l9 l10 l11 l12 l13 l14 : Option Value} {l : eg_Lo} : wps rm K Q c_M_fitPlane_96 kc ks (l0 :: l1 :: l2 :: l3 :: l4 :: l5 :: l6 :: l7 :: l8 :: l9 :: l10 :: l11 :: l12 :: l13 :: l14 :: some (.int x) :: l) (st) h = wps rm K Q c_M_fitPlane_98 kc ks (l0 :: l1 :: l2 :: l3 :: l4 :: l5 :: l6 :: l7 :: l8 :: l9 :: l10 :: l11 :: l12 :: l13 :: l14 :: some (.int x) :: l) (.int x :: st) h := gk_iload rfl
theorem s_M_fitPlane_98  : wps rm K Q c_M_fitPlane_98 kc ks loc (st) h = wps rm K Q c_M_fitPlane_99 kc ks loc (.int (1) :: st) h := gk_ic (by decide)
theorem s_M_fitPlane_99 {x y : Int32} : wps rm K Q c_M_fitPlane_99 kc ks loc (.int y :: .int x :: st) h = wps rm K Q c_M_fitPlane_100 kc ks loc (.int (x + y) :: st) h := gk_iadd
theorem s_M_fitPlane_100 {x : Int32} : wps rm K Q c_M_fitPlane_100 kc ks loc (.int x :: st) h = wps rm K Q z_M_fitPlane_102 kc ks (eg_set1 loc 16 (.int x)) (st) h := gk_istore
theorem s_M_fitPlane_102 {x : Int32} {l0 l1 l2 l3 l4 l5 l6 l7 l8 l9 l10 l11 l12 l13 l14 l15 : Option Value} {l : eg_Lo} : wps rm K Q c_M_fitPlane_102 kc ks (l0 :: l1 :: l2 :: l3 :: l4 :: l5 :: l6 :: l7 :: l8 :: l9 :: l10 :: l11 :: l12 :: l13 :: l14 :: l15 :: some (.int x) :: l) (st) h = wps rm K Q c_M_fitPlane_104 kc ks (l0 :: l1 :: l2 :: l3 :: l4 :: l5 :: l6 :: l7 :: l8 :: l9 :: l10 :: l11 :: l12 :: l13 :: l14 :: l15 :: some (.int x) :: l) (.int x :: st) h := gk_iload rfl
theorem s_M_fitPlane_104 {x : Int32} {l0 l1 l2 l3 l4 l5 l6 l7 l8 l9 l10 l11 : Option Value} {l : eg_Lo} : wps rm K Q c_M_fitPlane_104 kc ks (l0 :: l1 :: l2 :: l3 :: l4 :: l5 :: l6 :: l7 :: l8 :: l9 :: l10 :: l11 :: some (.int x) :: l) (st) h = wps rm K Q c_M_fitPlane_106 kc ks (l0 :: l1 :: l2 :: l3 :: l4 :: l5 :: l6 :: l7 :: l8 :: l9 :: l10 :: l11 :: some (.int x) :: l) (.int x :: st) h := gk_iload rfl
theorem s_M_fitPlane_106 {x y : Int32} : wps rm K Q c_M_fitPlane_106 kc ks loc (.int y :: .int x :: st) h = ((y ≤ x → K 251 kc ks loc st h) ∧ (¬ y ≤ x → wps rm K Q c_M_fitPlane_109 kc ks loc (st) h)) := gk_if2_ge
theorem s_M_fitPlane_109 {x : Nat} {l : eg_Lo} : wps rm K Q c_M_fitPlane_109 kc ks (some (.ref x) :: l) (st) h = wps rm K Q c_M_fitPlane_110 kc ks (some (.ref x) :: l) (.ref x :: st) h := gk_aload rfl
theorem s_M_fitPlane_110 {x : Int32} {l0 l1 : Option Value} {l : eg_Lo} : wps rm K Q c_M_fitPlane_110 kc ks (l0 :: l1 :: some (.int x) :: l) (st) h = wps rm K Q c_M_fitPlane_111 kc ks (l0 :: l1 :: some (.int x) :: l) (.int x :: st) h := gk_iload rfl
theorem s_M_fitPlane_111 {x : Int32} {l0 l1 l2 l3 l4 l5 l6 l7 l8 l9 l10 l11 l12 l13 l14 : Option Value} {l : eg_Lo} : wps rm K Q c_M_fitPlane_111 kc ks (l0 :: l1 :: l2 :: l3 :: l4 :: l5 :: l6 :: l7 :: l8 :: l9 :: l10 :: l11 :: l12 :: l13 :: l14 :: some (.int x) :: l) (st) h = wps rm K Q c_M_fitPlane_113 kc ks (l0 :: l1 :: l2 :: l3 :: l4 :: l5 :: l6 :: l7 :: l8 :: l9 :: l10 :: l11 :: l12 :: l13 :: l14 :: some (.int x) :: l) (.int x :: st) h := gk_iload rfl
theorem s_M_fitPlane_113  {a1 : Value} {a2 : Value} {x : Nat} : wps rm K Q c_M_fitPlane_113 kc ks loc (a2 :: a1 :: .ref (x + 1) :: st) h = (eg_cls h x 12 ∧ st.length ≤ 4 ∧ eg_Cs n_M_isHere (.ref (x + 1) :: [a1, a2]) h (fun v h9 => wps rm K Q c_M_fitPlane_116 kc ks loc (v.toList ++ st) h9)) := eg_c1_2
theorem s_M_fitPlane_116 {x : Int32} : wps rm K Q c_M_fitPlane_116 kc ks loc (.int x :: st) h = ((x = 0 → K 251 kc ks loc st h) ∧ (¬ x = 0 → wps rm K Q c_M_fitPlane_119 kc ks loc (st) h)) := gk_if1_eq
theorem s_M_fitPlane_119 {x : Nat} {l : eg_Lo} : wps rm K Q c_M_fitPlane_119 kc ks (some (.ref x) :: l) (st) h = wps rm K Q c_M_fitPlane_120 kc ks (some (.ref x) :: l) (.ref x :: st) h := gk_aload rfl
theorem s_M_fitPlane_120 {x : Int32} {l0 l1 : Option Value} {l : eg_Lo} : wps rm K Q c_M_fitPlane_120 kc ks (l0 :: l1 :: some (.int x) :: l) (st) h = wps rm K Q c_M_fitPlane_121 kc ks (l0 :: l1 :: some (.int x) :: l) (.int x :: st) h := gk_iload rfl
theorem s_M_fitPlane_121 {x : Int32} {l0 l1 l2 l3 l4 l5 l6 l7 l8 l9 l10 l11 l12 : Option Value} {l : eg_Lo} : wps rm K Q c_M_fitPlane_121 kc ks (l0 :: l1 :: l2 :: l3 :: l4 :: l5 :: l6 :: l7 :: l8 :: l9 :: l10 :: l11 :: l12 :: some (.int x) :: l) (st) h = wps rm K Q c_M_fitPlane_123 kc ks (l0 :: l1 :: l2 :: l3 :: l4 :: l5 :: l6 :: l7 :: l8 :: l9 :: l10 :: l11 :: l12 :: some (.int x) :: l) (.int x :: st) h := gk_iload rfl
theorem s_M_fitPlane_123 {x : Int32} {l0 l1 l2 l3 l4 l5 l6 l7 l8 l9 l10 l11 l12 l13 : Option Value} {l : eg_Lo} : wps rm K Q c_M_fitPlane_123 kc ks (l0 :: l1 :: l2 :: l3 :: l4 :: l5 :: l6 :: l7 :: l8 :: l9 :: l10 :: l11 :: l12 :: l13 :: some (.int x) :: l) (st) h = wps rm K Q c_M_fitPlane_125 kc ks (l0 :: l1 :: l2 :: l3 :: l4 :: l5 :: l6 :: l7 :: l8 :: l9 :: l10 :: l11 :: l12 :: l13 :: some (.int x) :: l) (.int x :: st) h := gk_iload rfl
theorem s_M_fitPlane_125 {x : Int32} {l0 l1 l2 l3 l4 l5 l6 l7 l8 l9 l10 l11 l12 l13 l14 : Option Value} {l : eg_Lo} : wps rm K Q c_M_fitPlane_125 kc ks (l0 :: l1 :: l2 :: l3 :: l4 :: l5 :: l6 :: l7 :: l8 :: l9 :: l10 :: l11 :: l12 :: l13 :: l14 :: some (.int x) :: l) (st) h = wps rm K Q c_M_fitPlane_127 kc ks (l0 :: l1 :: l2 :: l3 :: l4 :: l5 :: l6 :: l7 :: l8 :: l9 :: l10 :: l11 :: l12 :: l13 :: l14 :: some (.int x) :: l) (.int x :: st) h := gk_iload rfl
theorem s_M_fitPlane_127 {x : Int32} {l0 l1 l2 l3 l4 l5 l6 l7 l8 l9 l10 l11 l12 l13 l14 l15 : Option Value} {l : eg_Lo} : wps rm K Q c_M_fitPlane_127 kc ks (l0 :: l1 :: l2 :: l3 :: l4 :: l5 :: l6 :: l7 :: l8 :: l9 :: l10 :: l11 :: l12 :: l13 :: l14 :: l15 :: some (.int x) :: l) (st) h = wps rm K Q c_M_fitPlane_129 kc ks (l0 :: l1 :: l2 :: l3 :: l4 :: l5 :: l6 :: l7 :: l8 :: l9 :: l10 :: l11 :: l12 :: l13 :: l14 :: l15 :: some (.int x) :: l) (.int x :: st) h := gk_iload rfl
theorem s_M_fitPlane_129  {a1 : Value} {a2 : Value} {a3 : Value} {a4 : Value} {a5 : Value} {x : Nat} : wps rm K Q c_M_fitPlane_129 kc ks loc (a5 :: a4 :: a3 :: a2 :: a1 :: .ref (x + 1) :: st) h = (eg_cls h x 12 ∧ st.length ≤ 4 ∧ eg_Cs n_M_tellNormal (.ref (x + 1) :: [a1, a2, a3, a4, a5]) h (fun v h9 => wps rm K Q c_M_fitPlane_132 kc ks loc (v.toList ++ st) h9)) := eg_c1_5
theorem s_M_fitPlane_132 {x : Nat} {l : eg_Lo} : wps rm K Q c_M_fitPlane_132 kc ks (some (.ref x) :: l) (st) h = wps rm K Q c_M_fitPlane_133 kc ks (some (.ref x) :: l) (.ref x :: st) h := gk_aload rfl
theorem s_M_fitPlane_133  {x : Nat} : wps rm K Q c_M_fitPlane_133 kc ks loc (.ref (x + 1) :: st) h = (eg_cls h x 12 ∧ st.length ≤ 4 ∧ eg_Cs n_M_squareOf (.ref (x + 1) :: []) h (fun v h9 => wps rm K Q c_M_fitPlane_136 kc ks loc (v.toList ++ st) h9)) := eg_c1_0
theorem s_M_fitPlane_136 {x : Int64} : wps rm K Q c_M_fitPlane_136 kc ks loc (.long x :: st) h = wps rm K Q c_M_fitPlane_138 kc ks (eg_set2 loc 17 (.long x)) (st) h := gk_lstore
theorem s_M_fitPlane_138 {x : Nat} {l : eg_Lo} : wps rm K Q c_M_fitPlane_138 kc ks (some (.ref x) :: l) (st) h = wps rm K Q c_M_fitPlane_139 kc ks (some (.ref x) :: l) (.ref x :: st) h := gk_aload rfl
theorem s_M_fitPlane_139 {x : Int32} {l0 l1 : Option Value} {l : eg_Lo} : wps rm K Q c_M_fitPlane_139 kc ks (l0 :: l1 :: some (.int x) :: l) (st) h = wps rm K Q c_M_fitPlane_140 kc ks (l0 :: l1 :: some (.int x) :: l) (.int x :: st) h := gk_iload rfl
theorem s_M_fitPlane_140 {x : Int32} {l0 l1 l2 l3 l4 l5 l6 l7 l8 l9 l10 l11 l12 l13 l14 l15 : Option Value} {l : eg_Lo} : wps rm K Q c_M_fitPlane_140 kc ks (l0 :: l1 :: l2 :: l3 :: l4 :: l5 :: l6 :: l7 :: l8 :: l9 :: l10 :: l11 :: l12 :: l13 :: l14 :: l15 :: some (.int x) :: l) (st) h = wps rm K Q c_M_fitPlane_142 kc ks (l0 :: l1 :: l2 :: l3 :: l4 :: l5 :: l6 :: l7 :: l8 :: l9 :: l10 :: l11 :: l12 :: l13 :: l14 :: l15 :: some (.int x) :: l) (.int x :: st) h := gk_iload rfl
theorem s_M_fitPlane_142  {a1 : Value} {a2 : Value} {x : Nat} : wps rm K Q c_M_fitPlane_142 kc ks loc (a2 :: a1 :: .ref (x + 1) :: st) h = (eg_cls h x 12 ∧ st.length ≤ 4 ∧ eg_Cs n_M_isHere (.ref (x + 1) :: [a1, a2]) h (fun v h9 => wps rm K Q c_M_fitPlane_145 kc ks loc (v.toList ++ st) h9)) := eg_c1_2
theorem s_M_fitPlane_145 {x : Int32} : wps rm K Q c_M_fitPlane_145 kc ks loc (.int x :: st) h = ((x = 0 → K 245 kc ks loc st h) ∧ (¬ x = 0 → wps rm K Q c_M_fitPlane_148 kc ks loc (st) h)) := gk_if1_eq
theorem s_M_fitPlane_148 {x : Int64} {l0 l1 l2 l3 l4 l5 l6 l7 l8 l9 l10 l11 l12 l13 l14 l15 l16 : Option Value} {l : eg_Lo} : wps rm K Q c_M_fitPlane_148 kc ks (l0 :: l1 :: l2 :: l3 :: l4 :: l5 :: l6 :: l7 :: l8 :: l9 :: l10 :: l11 :: l12 :: l13 :: l14 :: l15 :: l16 :: some (.long x) :: l) (st) h = wps rm K Q c_M_fitPlane_150 kc ks (l0 :: l1 :: l2 :: l3 :: l4 :: l5 :: l6 :: l7 :: l8 :: l9 :: l10 :: l11 :: l12 :: l13 :: l14 :: l15 :: l16 :: some (.long x) :: l) (.long x :: st) h := gk_lload rfl
theorem s_M_fitPlane_150  : wps rm K Q c_M_fitPlane_150 kc ks loc (st) h = wps rm K Q c_M_fitPlane_151 kc ks loc (.long (0) :: st) h := gk_lc (by decide)
theorem s_M_fitPlane_151 {x y : Int64} : wps rm K Q c_M_fitPlane_151 kc ks loc (.long y :: .long x :: st) h = wps rm K Q c_M_fitPlane_152 kc ks loc (.int (lg_cmp x y) :: st) h := gk_lcmp
theorem s_M_fitPlane_152 {x : Int32} : wps rm K Q c_M_fitPlane_152 kc ks loc (.int x :: st) h = ((x ≤ 0 → K 245 kc ks loc st h) ∧ (¬ x ≤ 0 → wps rm K Q c_M_fitPlane_155 kc ks loc (st) h)) := gk_if1_le
theorem s_M_fitPlane_155 {x : Nat} {l : eg_Lo} : wps rm K Q c_M_fitPlane_155 kc ks (some (.ref x) :: l) (st) h = wps rm K Q c_M_fitPlane_156 kc ks (some (.ref x) :: l) (.ref x :: st) h := gk_aload rfl
theorem s_M_fitPlane_156 {x : Int32} {l0 l1 : Option Value} {l : eg_Lo} : wps rm K Q c_M_fitPlane_156 kc ks (l0 :: l1 :: some (.int x) :: l) (st) h = wps rm K Q c_M_fitPlane_157 kc ks (l0 :: l1 :: some (.int x) :: l) (.int x :: st) h := gk_iload rfl
theorem s_M_fitPlane_157 {x : Int32} {l0 l1 l2 l3 l4 l5 l6 l7 l8 l9 l10 l11 l12 : Option Value} {l : eg_Lo} : wps rm K Q c_M_fitPlane_157 kc ks (l0 :: l1 :: l2 :: l3 :: l4 :: l5 :: l6 :: l7 :: l8 :: l9 :: l10 :: l11 :: l12 :: some (.int x) :: l) (st) h = wps rm K Q c_M_fitPlane_159 kc ks (l0 :: l1 :: l2 :: l3 :: l4 :: l5 :: l6 :: l7 :: l8 :: l9 :: l10 :: l11 :: l12 :: some (.int x) :: l) (.int x :: st) h := gk_iload rfl
theorem s_M_fitPlane_159 {x : Nat} {l : eg_Lo} : wps rm K Q c_M_fitPlane_159 kc ks (some (.ref x) :: l) (st) h = wps rm K Q c_M_fitPlane_160 kc ks (some (.ref x) :: l) (.ref x :: st) h := gk_aload rfl
theorem s_M_fitPlane_160 {x : Nat} : wps rm K Q c_M_fitPlane_160 kc ks loc (.ref (x + 1) :: st) h = eg_gf h x 12 33 (fun v => wps rm K Q c_M_fitPlane_163 kc ks loc (v :: st) h) := gk_gf
theorem s_M_fitPlane_163  : wps rm K Q c_M_fitPlane_163 kc ks loc (st) h = wps rm K Q c_M_fitPlane_164 kc ks loc (.int (0) :: st) h := gk_ic (by decide)
theorem s_M_fitPlane_164 {x : Nat} {i : Int32} : wps rm K Q c_M_fitPlane_164 kc ks loc (.int i :: .ref (x + 1) :: st) h = eg_la h x i (fun v => wps rm K Q c_M_fitPlane_165 kc ks loc (.long v :: st) h) := gk_laload
theorem s_M_fitPlane_165 {x : Nat} {l : eg_Lo} : wps rm K Q c_M_fitPlane_165 kc ks (some (.ref x) :: l) (st) h = wps rm K Q c_M_fitPlane_166 kc ks (some (.ref x) :: l) (.ref x :: st) h := gk_aload rfl
theorem s_M_fitPlane_166 {x : Nat} : wps rm K Q c_M_fitPlane_166 kc ks loc (.ref (x + 1) :: st) h = eg_gf h x 12 33 (fun v => wps rm K Q c_M_fitPlane_169 kc ks loc (v :: st) h) := gk_gf
theorem s_M_fitPlane_169  : wps rm K Q c_M_fitPlane_169 kc ks loc (st) h = wps rm K Q c_M_fitPlane_170 kc ks loc (.int (1) :: st) h := gk_ic (by decide)
theorem s_M_fitPlane_170 {x : Nat} {i : Int32} : wps rm K Q c_M_fitPlane_170 kc ks loc (.int i :: .ref (x + 1) :: st) h = eg_la h x i (fun v => wps rm K Q c_M_fitPlane_171 kc ks loc (.long v :: st) h) := gk_laload
theorem s_M_fitPlane_171 {x : Nat} {l : eg_Lo} : wps rm K Q c_M_fitPlane_171 kc ks (some (.ref x) :: l) (st) h = wps rm K Q c_M_fitPlane_172 kc ks (some (.ref x) :: l) (.ref x :: st) h := gk_aload rfl
theorem s_M_fitPlane_172 {x : Nat} : wps rm K Q c_M_fitPlane_172 kc ks loc (.ref (x + 1) :: st) h = eg_gf h x 12 33 (fun v => wps rm K Q c_M_fitPlane_175 kc ks loc (v :: st) h) := gk_gf
theorem s_M_fitPlane_175  : wps rm K Q c_M_fitPlane_175 kc ks loc (st) h = wps rm K Q c_M_fitPlane_176 kc ks loc (.int (2) :: st) h := gk_ic (by decide)
theorem s_M_fitPlane_176 {x : Nat} {i : Int32} : wps rm K Q c_M_fitPlane_176 kc ks loc (.int i :: .ref (x + 1) :: st) h = eg_la h x i (fun v => wps rm K Q c_M_fitPlane_177 kc ks loc (.long v :: st) h) := gk_laload
theorem s_M_fitPlane_177  {a1 : Value} {a2 : Value} {a3 : Value} {a4 : Value} {a5 : Value} {x : Nat} : wps rm K Q c_M_fitPlane_177 kc ks loc (a5 :: a4 :: a3 :: a2 :: a1 :: .ref (x + 1) :: st) h = (eg_cls h x 12 ∧ st.length ≤ 4 ∧ eg_Cs n_M_crosses (.ref (x + 1) :: [a1, a2, a3, a4, a5]) h (fun v h9 => wps rm K Q c_M_fitPlane_180 kc ks loc (v.toList ++ st) h9)) := eg_c1_5
theorem s_M_fitPlane_180 {x : Nat} {l : eg_Lo} : wps rm K Q c_M_fitPlane_180 kc ks (some (.ref x) :: l) (st) h = wps rm K Q c_M_fitPlane_181 kc ks (some (.ref x) :: l) (.ref x :: st) h := gk_aload rfl
theorem s_M_fitPlane_181 {x : Nat} : wps rm K Q c_M_fitPlane_181 kc ks loc (.ref (x + 1) :: st) h = eg_gf h x 12 29 (fun v => wps rm K Q c_M_fitPlane_184 kc ks loc (v :: st) h) := gk_gf
theorem s_M_fitPlane_184 {x : Nat} {l : eg_Lo} : wps rm K Q c_M_fitPlane_184 kc ks (some (.ref x) :: l) (st) h = wps rm K Q c_M_fitPlane_185 kc ks (some (.ref x) :: l) (.ref x :: st) h := gk_aload rfl
theorem s_M_fitPlane_185 {x : Nat} : wps rm K Q c_M_fitPlane_185 kc ks loc (.ref (x + 1) :: st) h = eg_gf h x 12 30 (fun v => wps rm K Q c_M_fitPlane_188 kc ks loc (v :: st) h) := gk_gf
theorem s_M_fitPlane_188 {x y : Int64} : wps rm K Q c_M_fitPlane_188 kc ks loc (.long y :: .long x :: st) h = wps rm K Q c_M_fitPlane_189 kc ks loc (.long (x - y) :: st) h := gk_lsub
theorem s_M_fitPlane_189 {x : Nat} {l : eg_Lo} : wps rm K Q c_M_fitPlane_189 kc ks (some (.ref x) :: l) (st) h = wps rm K Q c_M_fitPlane_190 kc ks (some (.ref x) :: l) (.ref x :: st) h := gk_aload rfl
theorem s_M_fitPlane_190 {x : Nat} : wps rm K Q c_M_fitPlane_190 kc ks loc (.ref (x + 1) :: st) h = eg_gf h x 12 29 (fun v => wps rm K Q c_M_fitPlane_193 kc ks loc (v :: st) h) := gk_gf
theorem s_M_fitPlane_193 {x : Nat} {l : eg_Lo} : wps rm K Q c_M_fitPlane_193 kc ks (some (.ref x) :: l) (st) h = wps rm K Q c_M_fitPlane_194 kc ks (some (.ref x) :: l) (.ref x :: st) h := gk_aload rfl
theorem s_M_fitPlane_194 {x : Nat} : wps rm K Q c_M_fitPlane_194 kc ks loc (.ref (x + 1) :: st) h = eg_gf h x 12 30 (fun v => wps rm K Q c_M_fitPlane_197 kc ks loc (v :: st) h) := gk_gf
theorem s_M_fitPlane_197 {x y : Int64} : wps rm K Q c_M_fitPlane_197 kc ks loc (.long y :: .long x :: st) h = wps rm K Q c_M_fitPlane_198 kc ks loc (.long (x - y) :: st) h := gk_lsub
theorem s_M_fitPlane_198 {x y : Int64} : wps rm K Q c_M_fitPlane_198 kc ks loc (.long y :: .long x :: st) h = wps rm K Q c_M_fitPlane_199 kc ks loc (.long (x * y) :: st) h := gk_lmul
theorem s_M_fitPlane_199 {x : Int64} : wps rm K Q c_M_fitPlane_199 kc ks loc (.long x :: st) h = wps rm K Q c_M_fitPlane_201 kc ks (eg_set2 loc 19 (.long x)) (st) h := gk_lstore
theorem s_M_fitPlane_201 {x : Int32} {l0 l1 l2 : Option Value} {l : eg_Lo} : wps rm K Q c_M_fitPlane_201 kc ks (l0 :: l1 :: l2 :: some (.int x) :: l) (st) h = wps rm K Q c_M_fitPlane_202 kc ks (l0 :: l1 :: l2 :: some (.int x) :: l) (.int x :: st) h := gk_iload rfl
theorem s_M_fitPlane_202 {x : Int32} : wps rm K Q c_M_fitPlane_202 kc ks loc (.int x :: st) h = ((x = 0 → K 219 kc ks loc st h) ∧ (¬ x = 0 → wps rm K Q c_M_fitPlane_205 kc ks loc (st) h)) := gk_if1_eq
theorem s_M_fitPlane_205 {x : Int64} {l0 l1 l2 l3 l4 l5 l6 l7 l8 l9 l10 l11 l12 l13 l14 l15 l16 l17 l18 : Option Value} {l : eg_Lo} : wps rm K Q c_M_fitPlane_205 kc ks (l0 :: l1 :: l2 :: l3 :: l4 :: l5 :: l6 :: l7 :: l8 :: l9 :: l10 :: l11 :: l12 :: l13 :: l14 :: l15 :: l16 :: l17 :: l18 :: some (.long x) :: l) (st) h = wps rm K Q c_M_fitPlane_207 kc ks (l0 :: l1 :: l2 :: l3 :: l4 :: l5 :: l6 :: l7 :: l8 :: l9 :: l10 :: l11 :: l12 :: l13 :: l14 :: l15 :: l16 :: l17 :: l18 :: some (.long x) :: l) (.long x :: st) h := gk_lload rfl
theorem s_M_fitPlane_207 {x : Int64} {l0 l1 l2 l3 l4 l5 l6 l7 l8 l9 l10 l11 l12 l13 l14 l15 l16 : Option Value} {l : eg_Lo} : wps rm K Q c_M_fitPlane_207 kc ks (l0 :: l1 :: l2 :: l3 :: l4 :: l5 :: l6 :: l7 :: l8 :: l9 :: l10 :: l11 :: l12 :: l13 :: l14 :: l15 :: l16 :: some (.long x) :: l) (st) h = wps rm K Q c_M_fitPlane_209 kc ks (l0 :: l1 :: l2 :: l3 :: l4 :: l5 :: l6 :: l7 :: l8 :: l9 :: l10 :: l11 :: l12 :: l13 :: l14 :: l15 :: l16 :: some (.long x) :: l) (.long x :: st) h := gk_lload rfl
theorem s_M_fitPlane_209 {x : Int64} {l0 l1 l2 l3 : Option Value} {l : eg_Lo} : wps rm K Q c_M_fitPlane_209 kc ks (l0 :: l1 :: l2 :: l3 :: some (.long x) :: l) (st) h = wps rm K Q c_M_fitPlane_211 kc ks (l0 :: l1 :: l2 :: l3 :: some (.long x) :: l) (.long x :: st) h := gk_lload rfl
theorem s_M_fitPlane_211 {x : Int64} {l0 l1 l2 l3 l4 l5 : Option Value} {l : eg_Lo} : wps rm K Q c_M_fitPlane_211 kc ks (l0 :: l1 :: l2 :: l3 :: l4 :: l5 :: some (.long x) :: l) (st) h = wps rm K Q c_M_fitPlane_213 kc ks (l0 :: l1 :: l2 :: l3 :: l4 :: l5 :: some (.long x) :: l) (.long x :: st) h := gk_lload rfl
theorem s_M_fitPlane_213  {a1 : Value} {a2 : Value} {a3 : Value} {a4 : Value} : wps rm K Q c_M_fitPlane_213 kc ks loc (a4 :: a3 :: a2 :: a1 :: st) h = (st.length ≤ 4 ∧ eg_Cs n_M_isLess [a1, a2, a3, a4] h (fun v h9 => wps rm K Q c_M_fitPlane_216 kc ks loc (v.toList ++ st) h9)) := eg_c0_4
theorem s_M_fitPlane_216 {x : Int32} : wps rm K Q c_M_fitPlane_216 kc ks loc (.int x :: st) h = ((x = 0 → K 245 kc ks loc st h) ∧ (¬ x = 0 → wps rm K Q c_M_fitPlane_219 kc ks loc (st) h)) := gk_if1_eq
theorem s_M_fitPlane_219  : wps rm K Q c_M_fitPlane_219 kc ks loc (st) h = wps rm K Q c_M_fitPlane_220 kc ks loc (.int (1) :: st) h := gk_ic (by decide)
theorem s_M_fitPlane_220 {x : Int32} : wps rm K Q c_M_fitPlane_220 kc ks loc (.int x :: st) h = wps rm K Q c_M_fitPlane_221 kc ks (eg_set1 loc 3 (.int x)) (st) h := gk_istore
theorem s_M_fitPlane_221 {x : Int64} {l0 l1 l2 l3 l4 l5 l6 l7 l8 l9 l10 l11 l12 l13 l14 l15 l16 l17 l18 : Option Value} {l : eg_Lo} : wps rm K Q c_M_fitPlane_221 kc ks (l0 :: l1 :: l2 :: l3 :: l4 :: l5 :: l6 :: l7 :: l8 :: l9 :: l10 :: l11 :: l12 :: l13 :: l14 :: l15 :: l16 :: l17 :: l18 :: some (.long x) :: l) (st) h = wps rm K Q c_M_fitPlane_223 kc ks (l0 :: l1 :: l2 :: l3 :: l4 :: l5 :: l6 :: l7 :: l8 :: l9 :: l10 :: l11 :: l12 :: l13 :: l14 :: l15 :: l16 :: l17 :: l18 :: some (.long x) :: l) (.long x :: st) h := gk_lload rfl
theorem s_M_fitPlane_223 {x : Int64} : wps rm K Q c_M_fitPlane_223 kc ks loc (.long x :: st) h = wps rm K Q c_M_fitPlane_225 kc ks (eg_set2 loc 4 (.long x)) (st) h := gk_lstore
theorem s_M_fitPlane_225 {x : Int64} {l0 l1 l2 l3 l4 l5 l6 l7 l8 l9 l10 l11 l12 l13 l14 l15 l16 : Option Value} {l : eg_Lo} : wps rm K Q c_M_fitPlane_225 kc ks (l0 :: l1 :: l2 :: l3 :: l4 :: l5 :: l6 :: l7 :: l8 :: l9 :: l10 :: l11 :: l12 :: l13 :: l14 :: l15 :: l16 :: some (.long x) :: l) (st) h = wps rm K Q c_M_fitPlane_227 kc ks (l0 :: l1 :: l2 :: l3 :: l4 :: l5 :: l6 :: l7 :: l8 :: l9 :: l10 :: l11 :: l12 :: l13 :: l14 :: l15 :: l16 :: some (.long x) :: l) (.long x :: st) h := gk_lload rfl
theorem s_M_fitPlane_227 {x : Int64} : wps rm K Q c_M_fitPlane_227 kc ks loc (.long x :: st) h = wps rm K Q c_M_fitPlane_229 kc ks (eg_set2 loc 6 (.long x)) (st) h := gk_lstore
theorem s_M_fitPlane_229 {x : Int32} {l0 l1 l2 l3 l4 l5 l6 l7 l8 l9 l10 l11 l12 : Option Value} {l : eg_Lo} : wps rm K Q c_M_fitPlane_229 kc ks (l0 :: l1 :: l2 :: l3 :: l4 :: l5 :: l6 :: l7 :: l8 :: l9 :: l10 :: l11 :: l12 :: some (.int x) :: l) (st) h = wps rm K Q c_M_fitPlane_231 kc ks (l0 :: l1 :: l2 :: l3 :: l4 :: l5 :: l6 :: l7 :: l8 :: l9 :: l10 :: l11 :: l12 :: some (.int x) :: l) (.int x :: st) h := gk_iload rfl
theorem s_M_fitPlane_231 {x : Int32} : wps rm K Q c_M_fitPlane_231 kc ks loc (.int x :: st) h = wps rm K Q c_M_fitPlane_233 kc ks (eg_set1 loc 8 (.int x)) (st) h := gk_istore
theorem s_M_fitPlane_233 {x : Int32} {l0 l1 l2 l3 l4 l5 l6 l7 l8 l9 l10 l11 l12 l13 : Option Value} {l : eg_Lo} : wps rm K Q c_M_fitPlane_233 kc ks (l0 :: l1 :: l2 :: l3 :: l4 :: l5 :: l6 :: l7 :: l8 :: l9 :: l10 :: l11 :: l12 :: l13 :: some (.int x) :: l) (st) h = wps rm K Q c_M_fitPlane_235 kc ks (l0 :: l1 :: l2 :: l3 :: l4 :: l5 :: l6 :: l7 :: l8 :: l9 :: l10 :: l11 :: l12 :: l13 :: some (.int x) :: l) (.int x :: st) h := gk_iload rfl
theorem s_M_fitPlane_235 {x : Int32} : wps rm K Q c_M_fitPlane_235 kc ks loc (.int x :: st) h = wps rm K Q c_M_fitPlane_237 kc ks (eg_set1 loc 9 (.int x)) (st) h := gk_istore
theorem s_M_fitPlane_237 {x : Int32} {l0 l1 l2 l3 l4 l5 l6 l7 l8 l9 l10 l11 l12 l13 l14 : Option Value} {l : eg_Lo} : wps rm K Q c_M_fitPlane_237 kc ks (l0 :: l1 :: l2 :: l3 :: l4 :: l5 :: l6 :: l7 :: l8 :: l9 :: l10 :: l11 :: l12 :: l13 :: l14 :: some (.int x) :: l) (st) h = wps rm K Q c_M_fitPlane_239 kc ks (l0 :: l1 :: l2 :: l3 :: l4 :: l5 :: l6 :: l7 :: l8 :: l9 :: l10 :: l11 :: l12 :: l13 :: l14 :: some (.int x) :: l) (.int x :: st) h := gk_iload rfl
theorem s_M_fitPlane_239 {x : Int32} : wps rm K Q c_M_fitPlane_239 kc ks loc (.int x :: st) h = wps rm K Q c_M_fitPlane_241 kc ks (eg_set1 loc 10 (.int x)) (st) h := gk_istore
theorem s_M_fitPlane_241 {x : Int32} {l0 l1 l2 l3 l4 l5 l6 l7 l8 l9 l10 l11 l12 l13 l14 l15 : Option Value} {l : eg_Lo} : wps rm K Q c_M_fitPlane_241 kc ks (l0 :: l1 :: l2 :: l3 :: l4 :: l5 :: l6 :: l7 :: l8 :: l9 :: l10 :: l11 :: l12 :: l13 :: l14 :: l15 :: some (.int x) :: l) (st) h = wps rm K Q c_M_fitPlane_243 kc ks (l0 :: l1 :: l2 :: l3 :: l4 :: l5 :: l6 :: l7 :: l8 :: l9 :: l10 :: l11 :: l12 :: l13 :: l14 :: l15 :: some (.int x) :: l) (.int x :: st) h := gk_iload rfl
theorem s_M_fitPlane_243 {x : Int32} : wps rm K Q c_M_fitPlane_243 kc ks loc (.int x :: st) h = wps rm K Q c_M_fitPlane_245 kc ks (eg_set1 loc 11 (.int x)) (st) h := gk_istore
theorem s_M_fitPlane_245 {x : Int32} {l0 l1 l2 l3 l4 l5 l6 l7 l8 l9 l10 l11 l12 l13 l14 l15 : Option Value} {lz : eg_Lo} : wps rm K Q c_M_fitPlane_245 kc ks (l0 :: l1 :: l2 :: l3 :: l4 :: l5 :: l6 :: l7 :: l8 :: l9 :: l10 :: l11 :: l12 :: l13 :: l14 :: l15 :: some (.int x) :: lz) (st) h = wps rm K Q c_M_fitPlane_248 kc ks (eg_set1 (l0 :: l1 :: l2 :: l3 :: l4 :: l5 :: l6 :: l7 :: l8 :: l9 :: l10 :: l11 :: l12 :: l13 :: l14 :: l15 :: some (.int x) :: lz) 16 (.int (x + (1)))) (st) h := gk_iinc rfl (by decide)
theorem s_M_fitPlane_248  : wps rm K Q c_M_fitPlane_248 kc ks loc (st) h = K 102 kc ks loc st h := gk_goto
theorem s_M_fitPlane_251 {x : Int32} {l0 l1 l2 l3 l4 l5 l6 l7 l8 l9 l10 l11 l12 l13 l14 : Option Value} {lz : eg_Lo} : wps rm K Q c_M_fitPlane_251 kc ks (l0 :: l1 :: l2 :: l3 :: l4 :: l5 :: l6 :: l7 :: l8 :: l9 :: l10 :: l11 :: l12 :: l13 :: l14 :: some (.int x) :: lz) (st) h = wps rm K Q c_M_fitPlane_254 kc ks (eg_set1 (l0 :: l1 :: l2 :: l3 :: l4 :: l5 :: l6 :: l7 :: l8 :: l9 :: l10 :: l11 :: l12 :: l13 :: l14 :: some (.int x) :: lz) 15 (.int (x + (1)))) (st) h := gk_iinc rfl (by decide)
theorem s_M_fitPlane_254  : wps rm K Q c_M_fitPlane_254 kc ks loc (st) h = K 65 kc ks loc st h := gk_goto
theorem s_M_fitPlane_257 {x : Int32} {l0 l1 l2 l3 l4 l5 l6 l7 l8 l9 l10 l11 l12 l13 : Option Value} {lz : eg_Lo} : wps rm K Q c_M_fitPlane_257 kc ks (l0 :: l1 :: l2 :: l3 :: l4 :: l5 :: l6 :: l7 :: l8 :: l9 :: l10 :: l11 :: l12 :: l13 :: some (.int x) :: lz) (st) h = wps rm K Q c_M_fitPlane_260 kc ks (eg_set1 (l0 :: l1 :: l2 :: l3 :: l4 :: l5 :: l6 :: l7 :: l8 :: l9 :: l10 :: l11 :: l12 :: l13 :: some (.int x) :: lz) 14 (.int (x + (1)))) (st) h := gk_iinc rfl (by decide)
theorem s_M_fitPlane_260  : wps rm K Q c_M_fitPlane_260 kc ks loc (st) h = K 44 kc ks loc st h := gk_goto
theorem s_M_fitPlane_263 {x : Int32} {l0 l1 l2 l3 l4 l5 l6 l7 l8 l9 l10 l11 l12 : Option Value} {lz : eg_Lo} : wps rm K Q c_M_fitPlane_263 kc ks (l0 :: l1 :: l2 :: l3 :: l4 :: l5 :: l6 :: l7 :: l8 :: l9 :: l10 :: l11 :: l12 :: some (.int x) :: lz) (st) h = wps rm K Q c_M_fitPlane_266 kc ks (eg_set1 (l0 :: l1 :: l2 :: l3 :: l4 :: l5 :: l6 :: l7 :: l8 :: l9 :: l10 :: l11 :: l12 :: some (.int x) :: lz) 13 (.int (x + (1)))) (st) h := gk_iinc rfl (by decide)
theorem s_M_fitPlane_266  : wps rm K Q c_M_fitPlane_266 kc ks loc (st) h = K 31 kc ks loc st h := gk_goto
theorem s_M_fitPlane_269 {x : Int32} {l0 l1 l2 : Option Value} {l : eg_Lo} : wps rm K Q c_M_fitPlane_269 kc ks (l0 :: l1 :: l2 :: some (.int x) :: l) (st) h = wps rm K Q c_M_fitPlane_270 kc ks (l0 :: l1 :: l2 :: some (.int x) :: l) (.int x :: st) h := gk_iload rfl
theorem s_M_fitPlane_270 {x : Int32} : wps rm K Q c_M_fitPlane_270 kc ks loc (.int x :: st) h = ((¬ x = 0 → K 281 kc ks loc st h) ∧ (x = 0 → wps rm K Q c_M_fitPlane_273 kc ks loc (st) h)) := gk_if1_ne
theorem s_M_fitPlane_273 {x : Nat} {l : eg_Lo} : wps rm K Q c_M_fitPlane_273 kc ks (some (.ref x) :: l) (st) h = wps rm K Q c_M_fitPlane_274 kc ks (some (.ref x) :: l) (.ref x :: st) h := gk_aload rfl
theorem s_M_fitPlane_274  : wps rm K Q c_M_fitPlane_274 kc ks loc (st) h = wps rm K Q c_M_fitPlane_277 kc ks loc (.long (-1000000000000000006) :: st) h := gk_lc (by decide)
theorem s_M_fitPlane_277  {a1 : Value} {x : Nat} : wps rm K Q c_M_fitPlane_277 kc ks loc (a1 :: .ref (x + 1) :: st) h = (eg_cls h x 12 ∧ st.length ≤ 4 ∧ eg_Cs n_M_finding (.ref (x + 1) :: [a1]) h (fun v h9 => wps rm K Q c_M_fitPlane_280 kc ks loc (v.toList ++ st) h9)) := eg_c1_1
theorem s_M_fitPlane_280 {x : Int64} : wps rm K Q c_M_fitPlane_280 kc ks loc ([.long x]) h = (kc = rm.cells ∧ Q (some (.long x)) h) := gk_lret
theorem s_M_fitPlane_281 {x : Nat} {l : eg_Lo} : wps rm K Q c_M_fitPlane_281 kc ks (some (.ref x) :: l) (st) h = wps rm K Q c_M_fitPlane_282 kc ks (some (.ref x) :: l) (.ref x :: st) h := gk_aload rfl
theorem s_M_fitPlane_282 {x : Int32} {l0 l1 : Option Value} {l : eg_Lo} : wps rm K Q c_M_fitPlane_282 kc ks (l0 :: l1 :: some (.int x) :: l) (st) h = wps rm K Q c_M_fitPlane_283 kc ks (l0 :: l1 :: some (.int x) :: l) (.int x :: st) h := gk_iload rfl
theorem s_M_fitPlane_283 {x : Int32} {l0 l1 l2 l3 l4 l5 l6 l7 : Option Value} {l : eg_Lo} : wps rm K Q c_M_fitPlane_283 kc ks (l0 :: l1 :: l2 :: l3 :: l4 :: l5 :: l6 :: l7 :: some (.int x) :: l) (st) h = wps rm K Q c_M_fitPlane_285 kc ks (l0 :: l1 :: l2 :: l3 :: l4 :: l5 :: l6 :: l7 :: some (.int x) :: l) (.int x :: st) h := gk_iload rfl
theorem s_M_fitPlane_285 {x : Int32} {l0 l1 l2 l3 l4 l5 l6 l7 l8 : Option Value} {l : eg_Lo} : wps rm K Q c_M_fitPlane_285 kc ks (l0 :: l1 :: l2 :: l3 :: l4 :: l5 :: l6 :: l7 :: l8 :: some (.int x) :: l) (st) h = wps rm K Q c_M_fitPlane_287 kc ks (l0 :: l1 :: l2 :: l3 :: l4 :: l5 :: l6 :: l7 :: l8 :: some (.int x) :: l) (.int x :: st) h := gk_iload rfl
theorem s_M_fitPlane_287 {x : Int32} {l0 l1 l2 l3 l4 l5 l6 l7 l8 l9 : Option Value} {l : eg_Lo} : wps rm K Q c_M_fitPlane_287 kc ks (l0 :: l1 :: l2 :: l3 :: l4 :: l5 :: l6 :: l7 :: l8 :: l9 :: some (.int x) :: l) (st) h = wps rm K Q c_M_fitPlane_289 kc ks (l0 :: l1 :: l2 :: l3 :: l4 :: l5 :: l6 :: l7 :: l8 :: l9 :: some (.int x) :: l) (.int x :: st) h := gk_iload rfl
theorem s_M_fitPlane_289 {x : Int32} {l0 l1 l2 l3 l4 l5 l6 l7 l8 l9 l10 : Option Value} {l : eg_Lo} : wps rm K Q c_M_fitPlane_289 kc ks (l0 :: l1 :: l2 :: l3 :: l4 :: l5 :: l6 :: l7 :: l8 :: l9 :: l10 :: some (.int x) :: l) (st) h = wps rm K Q c_M_fitPlane_291 kc ks (l0 :: l1 :: l2 :: l3 :: l4 :: l5 :: l6 :: l7 :: l8 :: l9 :: l10 :: some (.int x) :: l) (.int x :: st) h := gk_iload rfl
theorem s_M_fitPlane_291  {a1 : Value} {a2 : Value} {a3 : Value} {a4 : Value} {a5 : Value} {x : Nat} : wps rm K Q c_M_fitPlane_291 kc ks loc (a5 :: a4 :: a3 :: a2 :: a1 :: .ref (x + 1) :: st) h = (eg_cls h x 12 ∧ st.length ≤ 4 ∧ eg_Cs n_M_tellNormal (.ref (x + 1) :: [a1, a2, a3, a4, a5]) h (fun v h9 => wps rm K Q c_M_fitPlane_294 kc ks loc (v.toList ++ st) h9)) := eg_c1_5
theorem s_M_fitPlane_294 {x : Nat} {l : eg_Lo} : wps rm K Q c_M_fitPlane_294 kc ks (some (.ref x) :: l) (st) h = wps rm K Q c_M_fitPlane_295 kc ks (some (.ref x) :: l) (.ref x :: st) h := gk_aload rfl
theorem s_M_fitPlane_295 {x : Int32} {l0 l1 : Option Value} {l : eg_Lo} : wps rm K Q c_M_fitPlane_295 kc ks (l0 :: l1 :: some (.int x) :: l) (st) h = wps rm K Q c_M_fitPlane_296 kc ks (l0 :: l1 :: some (.int x) :: l) (.int x :: st) h := gk_iload rfl
theorem s_M_fitPlane_296 {x : Int32} {l0 l1 l2 l3 l4 l5 l6 l7 : Option Value} {l : eg_Lo} : wps rm K Q c_M_fitPlane_296 kc ks (l0 :: l1 :: l2 :: l3 :: l4 :: l5 :: l6 :: l7 :: some (.int x) :: l) (st) h = wps rm K Q c_M_fitPlane_298 kc ks (l0 :: l1 :: l2 :: l3 :: l4 :: l5 :: l6 :: l7 :: some (.int x) :: l) (.int x :: st) h := gk_iload rfl
theorem s_M_fitPlane_298 {x : Nat} {l : eg_Lo} : wps rm K Q c_M_fitPlane_298 kc ks (some (.ref x) :: l) (st) h = wps rm K Q c_M_fitPlane_299 kc ks (some (.ref x) :: l) (.ref x :: st) h := gk_aload rfl
theorem s_M_fitPlane_299 {x : Nat} : wps rm K Q c_M_fitPlane_299 kc ks loc (.ref (x + 1) :: st) h = eg_gf h x 12 33 (fun v => wps rm K Q c_M_fitPlane_302 kc ks loc (v :: st) h) := gk_gf
theorem s_M_fitPlane_302  : wps rm K Q c_M_fitPlane_302 kc ks loc (st) h = wps rm K Q c_M_fitPlane_303 kc ks loc (.int (0) :: st) h := gk_ic (by decide)
theorem s_M_fitPlane_303 {x : Nat} {i : Int32} : wps rm K Q c_M_fitPlane_303 kc ks loc (.int i :: .ref (x + 1) :: st) h = eg_la h x i (fun v => wps rm K Q c_M_fitPlane_304 kc ks loc (.long v :: st) h) := gk_laload
theorem s_M_fitPlane_304 {x : Nat} {l : eg_Lo} : wps rm K Q c_M_fitPlane_304 kc ks (some (.ref x) :: l) (st) h = wps rm K Q c_M_fitPlane_305 kc ks (some (.ref x) :: l) (.ref x :: st) h := gk_aload rfl
theorem s_M_fitPlane_305 {x : Nat} : wps rm K Q c_M_fitPlane_305 kc ks loc (.ref (x + 1) :: st) h = eg_gf h x 12 33 (fun v => wps rm K Q c_M_fitPlane_308 kc ks loc (v :: st) h) := gk_gf
theorem s_M_fitPlane_308  : wps rm K Q c_M_fitPlane_308 kc ks loc (st) h = wps rm K Q c_M_fitPlane_309 kc ks loc (.int (1) :: st) h := gk_ic (by decide)
theorem s_M_fitPlane_309 {x : Nat} {i : Int32} : wps rm K Q c_M_fitPlane_309 kc ks loc (.int i :: .ref (x + 1) :: st) h = eg_la h x i (fun v => wps rm K Q c_M_fitPlane_310 kc ks loc (.long v :: st) h) := gk_laload
theorem s_M_fitPlane_310 {x : Nat} {l : eg_Lo} : wps rm K Q c_M_fitPlane_310 kc ks (some (.ref x) :: l) (st) h = wps rm K Q c_M_fitPlane_311 kc ks (some (.ref x) :: l) (.ref x :: st) h := gk_aload rfl
theorem s_M_fitPlane_311 {x : Nat} : wps rm K Q c_M_fitPlane_311 kc ks loc (.ref (x + 1) :: st) h = eg_gf h x 12 33 (fun v => wps rm K Q c_M_fitPlane_314 kc ks loc (v :: st) h) := gk_gf
theorem s_M_fitPlane_314  : wps rm K Q c_M_fitPlane_314 kc ks loc (st) h = wps rm K Q c_M_fitPlane_315 kc ks loc (.int (2) :: st) h := gk_ic (by decide)
theorem s_M_fitPlane_315 {x : Nat} {i : Int32} : wps rm K Q c_M_fitPlane_315 kc ks loc (.int i :: .ref (x + 1) :: st) h = eg_la h x i (fun v => wps rm K Q c_M_fitPlane_316 kc ks loc (.long v :: st) h) := gk_laload
theorem s_M_fitPlane_316  {a1 : Value} {a2 : Value} {a3 : Value} {a4 : Value} {a5 : Value} {x : Nat} : wps rm K Q c_M_fitPlane_316 kc ks loc (a5 :: a4 :: a3 :: a2 :: a1 :: .ref (x + 1) :: st) h = (eg_cls h x 12 ∧ st.length ≤ 4 ∧ eg_Cs n_M_crosses (.ref (x + 1) :: [a1, a2, a3, a4, a5]) h (fun v h9 => wps rm K Q c_M_fitPlane_319 kc ks loc (v.toList ++ st) h9)) := eg_c1_5
theorem s_M_fitPlane_319 {x : Nat} {l : eg_Lo} : wps rm K Q c_M_fitPlane_319 kc ks (some (.ref x) :: l) (st) h = wps rm K Q c_M_fitPlane_320 kc ks (some (.ref x) :: l) (.ref x :: st) h := gk_aload rfl
theorem s_M_fitPlane_320 {x : Nat} : wps rm K Q c_M_fitPlane_320 kc ks loc (.ref (x + 1) :: st) h = eg_gf h x 12 7 (fun v => wps rm K Q c_M_fitPlane_323 kc ks loc (v :: st) h) := gk_gf
theorem s_M_fitPlane_323 {x : Int32} {l0 : Option Value} {l : eg_Lo} : wps rm K Q c_M_fitPlane_323 kc ks (l0 :: some (.int x) :: l) (st) h = wps rm K Q c_M_fitPlane_324 kc ks (l0 :: some (.int x) :: l) (.int x :: st) h := gk_iload rfl
theorem s_M_fitPlane_324  : wps rm K Q c_M_fitPlane_324 kc ks loc (st) h = wps rm K Q c_M_fitPlane_325 kc ks loc (.int (3) :: st) h := gk_ic (by decide)
theorem s_M_fitPlane_325 {x : Nat} {i : Int32} {v : Int32} : wps rm K Q c_M_fitPlane_325 kc ks loc (.int v :: .int i :: .ref (x + 1) :: st) h = eg_is h x i v (fun h9 => wps rm K Q c_M_fitPlane_326 kc ks loc (st) h9) := gk_iastore
theorem s_M_fitPlane_326 {x : Nat} {l : eg_Lo} : wps rm K Q c_M_fitPlane_326 kc ks (some (.ref x) :: l) (st) h = wps rm K Q c_M_fitPlane_327 kc ks (some (.ref x) :: l) (.ref x :: st) h := gk_aload rfl
theorem s_M_fitPlane_327 {x : Nat} : wps rm K Q c_M_fitPlane_327 kc ks loc (.ref (x + 1) :: st) h = eg_gf h x 12 8 (fun v => wps rm K Q c_M_fitPlane_330 kc ks loc (v :: st) h) := gk_gf
theorem s_M_fitPlane_330 {x : Int32} {l0 : Option Value} {l : eg_Lo} : wps rm K Q c_M_fitPlane_330 kc ks (l0 :: some (.int x) :: l) (st) h = wps rm K Q c_M_fitPlane_331 kc ks (l0 :: some (.int x) :: l) (.int x :: st) h := gk_iload rfl
theorem s_M_fitPlane_331  : wps rm K Q c_M_fitPlane_331 kc ks loc (st) h = wps rm K Q c_M_fitPlane_333 kc ks loc (.int (6) :: st) h := gk_ic (by decide)
theorem s_M_fitPlane_333 {x : Nat} {i : Int32} {v : Int32} : wps rm K Q c_M_fitPlane_333 kc ks loc (.int v :: .int i :: .ref (x + 1) :: st) h = eg_is h x i v (fun h9 => wps rm K Q c_M_fitPlane_334 kc ks loc (st) h9) := gk_iastore
theorem s_M_fitPlane_334 {x : Nat} {l : eg_Lo} : wps rm K Q c_M_fitPlane_334 kc ks (some (.ref x) :: l) (st) h = wps rm K Q c_M_fitPlane_335 kc ks (some (.ref x) :: l) (.ref x :: st) h := gk_aload rfl
theorem s_M_fitPlane_335 {x : Nat} : wps rm K Q c_M_fitPlane_335 kc ks loc (.ref (x + 1) :: st) h = eg_gf h x 12 9 (fun v => wps rm K Q c_M_fitPlane_338 kc ks loc (v :: st) h) := gk_gf
theorem s_M_fitPlane_338  : wps rm K Q c_M_fitPlane_338 kc ks loc (st) h = wps rm K Q c_M_fitPlane_340 kc ks loc (.int (6) :: st) h := gk_ic (by decide)
theorem s_M_fitPlane_340 {x : Int32} {l0 : Option Value} {l : eg_Lo} : wps rm K Q c_M_fitPlane_340 kc ks (l0 :: some (.int x) :: l) (st) h = wps rm K Q c_M_fitPlane_341 kc ks (l0 :: some (.int x) :: l) (.int x :: st) h := gk_iload rfl
theorem s_M_fitPlane_341 {x y : Int32} : wps rm K Q c_M_fitPlane_341 kc ks loc (.int y :: .int x :: st) h = wps rm K Q c_M_fitPlane_342 kc ks loc (.int (x * y) :: st) h := gk_imul
theorem s_M_fitPlane_342 {x : Int32} {l0 l1 l2 l3 l4 l5 l6 l7 : Option Value} {l : eg_Lo} : wps rm K Q c_M_fitPlane_342 kc ks (l0 :: l1 :: l2 :: l3 :: l4 :: l5 :: l6 :: l7 :: some (.int x) :: l) (st) h = wps rm K Q c_M_fitPlane_344 kc ks (l0 :: l1 :: l2 :: l3 :: l4 :: l5 :: l6 :: l7 :: some (.int x) :: l) (.int x :: st) h := gk_iload rfl
theorem s_M_fitPlane_344 {x : Nat} {i : Int32} {v : Int32} : wps rm K Q c_M_fitPlane_344 kc ks loc (.int v :: .int i :: .ref (x + 1) :: st) h = eg_is h x i v (fun h9 => wps rm K Q c_M_fitPlane_345 kc ks loc (st) h9) := gk_iastore
theorem s_M_fitPlane_345 {x : Nat} {l : eg_Lo} : wps rm K Q c_M_fitPlane_345 kc ks (some (.ref x) :: l) (st) h = wps rm K Q c_M_fitPlane_346 kc ks (some (.ref x) :: l) (.ref x :: st) h := gk_aload rfl
theorem s_M_fitPlane_346 {x : Nat} : wps rm K Q c_M_fitPlane_346 kc ks loc (.ref (x + 1) :: st) h = eg_gf h x 12 9 (fun v => wps rm K Q c_M_fitPlane_349 kc ks loc (v :: st) h) := gk_gf
theorem s_M_fitPlane_349  : wps rm K Q c_M_fitPlane_349 kc ks loc (st) h = wps rm K Q c_M_fitPlane_351 kc ks loc (.int (6) :: st) h := gk_ic (by decide)
theorem s_M_fitPlane_351 {x : Int32} {l0 : Option Value} {l : eg_Lo} : wps rm K Q c_M_fitPlane_351 kc ks (l0 :: some (.int x) :: l) (st) h = wps rm K Q c_M_fitPlane_352 kc ks (l0 :: some (.int x) :: l) (.int x :: st) h := gk_iload rfl
theorem s_M_fitPlane_352 {x y : Int32} : wps rm K Q c_M_fitPlane_352 kc ks loc (.int y :: .int x :: st) h = wps rm K Q c_M_fitPlane_353 kc ks loc (.int (x * y) :: st) h := gk_imul
theorem s_M_fitPlane_353  : wps rm K Q c_M_fitPlane_353 kc ks loc (st) h = wps rm K Q c_M_fitPlane_354 kc ks loc (.int (1) :: st) h := gk_ic (by decide)
theorem s_M_fitPlane_354 {x y : Int32} : wps rm K Q c_M_fitPlane_354 kc ks loc (.int y :: .int x :: st) h = wps rm K Q c_M_fitPlane_355 kc ks loc (.int (x + y) :: st) h := gk_iadd
theorem s_M_fitPlane_355 {x : Int32} {l0 l1 l2 l3 l4 l5 l6 l7 l8 : Option Value} {l : eg_Lo} : wps rm K Q c_M_fitPlane_355 kc ks (l0 :: l1 :: l2 :: l3 :: l4 :: l5 :: l6 :: l7 :: l8 :: some (.int x) :: l) (st) h = wps rm K Q c_M_fitPlane_357 kc ks (l0 :: l1 :: l2 :: l3 :: l4 :: l5 :: l6 :: l7 :: l8 :: some (.int x) :: l) (.int x :: st) h := gk_iload rfl
theorem s_M_fitPlane_357 {x : Nat} {i : Int32} {v : Int32} : wps rm K Q c_M_fitPlane_357 kc ks loc (.int v :: .int i :: .ref (x + 1) :: st) h = eg_is h x i v (fun h9 => wps rm K Q c_M_fitPlane_358 kc ks loc (st) h9) := gk_iastore
theorem s_M_fitPlane_358 {x : Nat} {l : eg_Lo} : wps rm K Q c_M_fitPlane_358 kc ks (some (.ref x) :: l) (st) h = wps rm K Q c_M_fitPlane_359 kc ks (some (.ref x) :: l) (.ref x :: st) h := gk_aload rfl
theorem s_M_fitPlane_359 {x : Nat} : wps rm K Q c_M_fitPlane_359 kc ks loc (.ref (x + 1) :: st) h = eg_gf h x 12 9 (fun v => wps rm K Q c_M_fitPlane_362 kc ks loc (v :: st) h) := gk_gf
theorem s_M_fitPlane_362  : wps rm K Q c_M_fitPlane_362 kc ks loc (st) h = wps rm K Q c_M_fitPlane_364 kc ks loc (.int (6) :: st) h := gk_ic (by decide)
theorem s_M_fitPlane_364 {x : Int32} {l0 : Option Value} {l : eg_Lo} : wps rm K Q c_M_fitPlane_364 kc ks (l0 :: some (.int x) :: l) (st) h = wps rm K Q c_M_fitPlane_365 kc ks (l0 :: some (.int x) :: l) (.int x :: st) h := gk_iload rfl
theorem s_M_fitPlane_365 {x y : Int32} : wps rm K Q c_M_fitPlane_365 kc ks loc (.int y :: .int x :: st) h = wps rm K Q c_M_fitPlane_366 kc ks loc (.int (x * y) :: st) h := gk_imul
theorem s_M_fitPlane_366  : wps rm K Q c_M_fitPlane_366 kc ks loc (st) h = wps rm K Q c_M_fitPlane_367 kc ks loc (.int (2) :: st) h := gk_ic (by decide)
theorem s_M_fitPlane_367 {x y : Int32} : wps rm K Q c_M_fitPlane_367 kc ks loc (.int y :: .int x :: st) h = wps rm K Q c_M_fitPlane_368 kc ks loc (.int (x + y) :: st) h := gk_iadd
theorem s_M_fitPlane_368 {x : Int32} {l0 l1 l2 l3 l4 l5 l6 l7 l8 l9 : Option Value} {l : eg_Lo} : wps rm K Q c_M_fitPlane_368 kc ks (l0 :: l1 :: l2 :: l3 :: l4 :: l5 :: l6 :: l7 :: l8 :: l9 :: some (.int x) :: l) (st) h = wps rm K Q c_M_fitPlane_370 kc ks (l0 :: l1 :: l2 :: l3 :: l4 :: l5 :: l6 :: l7 :: l8 :: l9 :: some (.int x) :: l) (.int x :: st) h := gk_iload rfl
theorem s_M_fitPlane_370 {x : Nat} {i : Int32} {v : Int32} : wps rm K Q c_M_fitPlane_370 kc ks loc (.int v :: .int i :: .ref (x + 1) :: st) h = eg_is h x i v (fun h9 => wps rm K Q c_M_fitPlane_371 kc ks loc (st) h9) := gk_iastore
theorem s_M_fitPlane_371 {x : Nat} {l : eg_Lo} : wps rm K Q c_M_fitPlane_371 kc ks (some (.ref x) :: l) (st) h = wps rm K Q c_M_fitPlane_372 kc ks (some (.ref x) :: l) (.ref x :: st) h := gk_aload rfl
theorem s_M_fitPlane_372 {x : Nat} : wps rm K Q c_M_fitPlane_372 kc ks loc (.ref (x + 1) :: st) h = eg_gf h x 12 9 (fun v => wps rm K Q c_M_fitPlane_375 kc ks loc (v :: st) h) := gk_gf
theorem s_M_fitPlane_375  : wps rm K Q c_M_fitPlane_375 kc ks loc (st) h = wps rm K Q c_M_fitPlane_377 kc ks loc (.int (6) :: st) h := gk_ic (by decide)
theorem s_M_fitPlane_377 {x : Int32} {l0 : Option Value} {l : eg_Lo} : wps rm K Q c_M_fitPlane_377 kc ks (l0 :: some (.int x) :: l) (st) h = wps rm K Q c_M_fitPlane_378 kc ks (l0 :: some (.int x) :: l) (.int x :: st) h := gk_iload rfl
theorem s_M_fitPlane_378 {x y : Int32} : wps rm K Q c_M_fitPlane_378 kc ks loc (.int y :: .int x :: st) h = wps rm K Q c_M_fitPlane_379 kc ks loc (.int (x * y) :: st) h := gk_imul
theorem s_M_fitPlane_379  : wps rm K Q c_M_fitPlane_379 kc ks loc (st) h = wps rm K Q c_M_fitPlane_380 kc ks loc (.int (3) :: st) h := gk_ic (by decide)
theorem s_M_fitPlane_380 {x y : Int32} : wps rm K Q c_M_fitPlane_380 kc ks loc (.int y :: .int x :: st) h = wps rm K Q c_M_fitPlane_381 kc ks loc (.int (x + y) :: st) h := gk_iadd
theorem s_M_fitPlane_381 {x : Int32} {l0 l1 l2 l3 l4 l5 l6 l7 l8 l9 l10 : Option Value} {l : eg_Lo} : wps rm K Q c_M_fitPlane_381 kc ks (l0 :: l1 :: l2 :: l3 :: l4 :: l5 :: l6 :: l7 :: l8 :: l9 :: l10 :: some (.int x) :: l) (st) h = wps rm K Q c_M_fitPlane_383 kc ks (l0 :: l1 :: l2 :: l3 :: l4 :: l5 :: l6 :: l7 :: l8 :: l9 :: l10 :: some (.int x) :: l) (.int x :: st) h := gk_iload rfl
theorem s_M_fitPlane_383 {x : Nat} {i : Int32} {v : Int32} : wps rm K Q c_M_fitPlane_383 kc ks loc (.int v :: .int i :: .ref (x + 1) :: st) h = eg_is h x i v (fun h9 => wps rm K Q c_M_fitPlane_384 kc ks loc (st) h9) := gk_iastore
theorem s_M_fitPlane_384 {x : Nat} {l : eg_Lo} : wps rm K Q c_M_fitPlane_384 kc ks (some (.ref x) :: l) (st) h = wps rm K Q c_M_fitPlane_385 kc ks (some (.ref x) :: l) (.ref x :: st) h := gk_aload rfl
theorem s_M_fitPlane_385 {x : Nat} : wps rm K Q c_M_fitPlane_385 kc ks loc (.ref (x + 1) :: st) h = eg_gf h x 12 9 (fun v => wps rm K Q c_M_fitPlane_388 kc ks loc (v :: st) h) := gk_gf
theorem s_M_fitPlane_388  : wps rm K Q c_M_fitPlane_388 kc ks loc (st) h = wps rm K Q c_M_fitPlane_390 kc ks loc (.int (6) :: st) h := gk_ic (by decide)
theorem s_M_fitPlane_390 {x : Int32} {l0 : Option Value} {l : eg_Lo} : wps rm K Q c_M_fitPlane_390 kc ks (l0 :: some (.int x) :: l) (st) h = wps rm K Q c_M_fitPlane_391 kc ks (l0 :: some (.int x) :: l) (.int x :: st) h := gk_iload rfl
theorem s_M_fitPlane_391 {x y : Int32} : wps rm K Q c_M_fitPlane_391 kc ks loc (.int y :: .int x :: st) h = wps rm K Q c_M_fitPlane_392 kc ks loc (.int (x * y) :: st) h := gk_imul
theorem s_M_fitPlane_392  : wps rm K Q c_M_fitPlane_392 kc ks loc (st) h = wps rm K Q c_M_fitPlane_393 kc ks loc (.int (4) :: st) h := gk_ic (by decide)
theorem s_M_fitPlane_393 {x y : Int32} : wps rm K Q c_M_fitPlane_393 kc ks loc (.int y :: .int x :: st) h = wps rm K Q c_M_fitPlane_394 kc ks loc (.int (x + y) :: st) h := gk_iadd
theorem s_M_fitPlane_394 {x : Nat} {l : eg_Lo} : wps rm K Q c_M_fitPlane_394 kc ks (some (.ref x) :: l) (st) h = wps rm K Q c_M_fitPlane_395 kc ks (some (.ref x) :: l) (.ref x :: st) h := gk_aload rfl
theorem s_M_fitPlane_395 {x : Nat} : wps rm K Q c_M_fitPlane_395 kc ks loc (.ref (x + 1) :: st) h = eg_gf h x 12 31 (fun v => wps rm K Q c_M_fitPlane_398 kc ks loc (v :: st) h) := gk_gf
theorem s_M_fitPlane_398 {x : Nat} {i : Int32} {v : Int32} : wps rm K Q c_M_fitPlane_398 kc ks loc (.int v :: .int i :: .ref (x + 1) :: st) h = eg_is h x i v (fun h9 => wps rm K Q c_M_fitPlane_399 kc ks loc (st) h9) := gk_iastore
theorem s_M_fitPlane_399 {x : Nat} {l : eg_Lo} : wps rm K Q c_M_fitPlane_399 kc ks (some (.ref x) :: l) (st) h = wps rm K Q c_M_fitPlane_400 kc ks (some (.ref x) :: l) (.ref x :: st) h := gk_aload rfl
theorem s_M_fitPlane_400 {x : Nat} : wps rm K Q c_M_fitPlane_400 kc ks loc (.ref (x + 1) :: st) h = eg_gf h x 12 9 (fun v => wps rm K Q c_M_fitPlane_403 kc ks loc (v :: st) h) := gk_gf
theorem s_M_fitPlane_403  : wps rm K Q c_M_fitPlane_403 kc ks loc (st) h = wps rm K Q c_M_fitPlane_405 kc ks loc (.int (6) :: st) h := gk_ic (by decide)
theorem s_M_fitPlane_405 {x : Int32} {l0 : Option Value} {l : eg_Lo} : wps rm K Q c_M_fitPlane_405 kc ks (l0 :: some (.int x) :: l) (st) h = wps rm K Q c_M_fitPlane_406 kc ks (l0 :: some (.int x) :: l) (.int x :: st) h := gk_iload rfl
theorem s_M_fitPlane_406 {x y : Int32} : wps rm K Q c_M_fitPlane_406 kc ks loc (.int y :: .int x :: st) h = wps rm K Q c_M_fitPlane_407 kc ks loc (.int (x * y) :: st) h := gk_imul
theorem s_M_fitPlane_407  : wps rm K Q c_M_fitPlane_407 kc ks loc (st) h = wps rm K Q c_M_fitPlane_408 kc ks loc (.int (5) :: st) h := gk_ic (by decide)
theorem s_M_fitPlane_408 {x y : Int32} : wps rm K Q c_M_fitPlane_408 kc ks loc (.int y :: .int x :: st) h = wps rm K Q c_M_fitPlane_409 kc ks loc (.int (x + y) :: st) h := gk_iadd
theorem s_M_fitPlane_409 {x : Nat} {l : eg_Lo} : wps rm K Q c_M_fitPlane_409 kc ks (some (.ref x) :: l) (st) h = wps rm K Q c_M_fitPlane_410 kc ks (some (.ref x) :: l) (.ref x :: st) h := gk_aload rfl
theorem s_M_fitPlane_410 {x : Nat} : wps rm K Q c_M_fitPlane_410 kc ks loc (.ref (x + 1) :: st) h = eg_gf h x 12 32 (fun v => wps rm K Q c_M_fitPlane_413 kc ks loc (v :: st) h) := gk_gf
theorem s_M_fitPlane_413 {x : Nat} {i : Int32} {v : Int32} : wps rm K Q c_M_fitPlane_413 kc ks loc (.int v :: .int i :: .ref (x + 1) :: st) h = eg_is h x i v (fun h9 => wps rm K Q c_M_fitPlane_414 kc ks loc (st) h9) := gk_iastore
theorem s_M_fitPlane_414 {x : Nat} {l : eg_Lo} : wps rm K Q c_M_fitPlane_414 kc ks (some (.ref x) :: l) (st) h = wps rm K Q c_M_fitPlane_415 kc ks (some (.ref x) :: l) (.ref x :: st) h := gk_aload rfl
theorem s_M_fitPlane_415 {x : Int32} {l0 : Option Value} {l : eg_Lo} : wps rm K Q c_M_fitPlane_415 kc ks (l0 :: some (.int x) :: l) (st) h = wps rm K Q c_M_fitPlane_416 kc ks (l0 :: some (.int x) :: l) (.int x :: st) h := gk_iload rfl
theorem s_M_fitPlane_416 {x : Int64} {l0 l1 l2 l3 : Option Value} {l : eg_Lo} : wps rm K Q c_M_fitPlane_416 kc ks (l0 :: l1 :: l2 :: l3 :: some (.long x) :: l) (st) h = wps rm K Q c_M_fitPlane_418 kc ks (l0 :: l1 :: l2 :: l3 :: some (.long x) :: l) (.long x :: st) h := gk_lload rfl
theorem s_M_fitPlane_418 {x : Int64} {l0 l1 l2 l3 l4 l5 : Option Value} {l : eg_Lo} : wps rm K Q c_M_fitPlane_418 kc ks (l0 :: l1 :: l2 :: l3 :: l4 :: l5 :: some (.long x) :: l) (st) h = wps rm K Q c_M_fitPlane_420 kc ks (l0 :: l1 :: l2 :: l3 :: l4 :: l5 :: some (.long x) :: l) (.long x :: st) h := gk_lload rfl
theorem s_M_fitPlane_420  {a1 : Value} {a2 : Value} {a3 : Value} {x : Nat} : wps rm K Q c_M_fitPlane_420 kc ks loc (a3 :: a2 :: a1 :: .ref (x + 1) :: st) h = (eg_cls h x 12 ∧ st.length ≤ 4 ∧ eg_Cs n_M_keepMiss (.ref (x + 1) :: [a1, a2, a3]) h (fun v h9 => wps rm K Q c_M_fitPlane_423 kc ks loc (v.toList ++ st) h9)) := eg_c1_3
theorem s_M_fitPlane_423 {x : Nat} {l : eg_Lo} : wps rm K Q c_M_fitPlane_423 kc ks (some (.ref x) :: l) (st) h = wps rm K Q c_M_fitPlane_424 kc ks (some (.ref x) :: l) (.ref x :: st) h := gk_aload rfl
theorem s_M_fitPlane_424 {x : Nat} : wps rm K Q c_M_fitPlane_424 kc ks loc (.ref (x + 1) :: st) h = eg_gf h x 12 33 (fun v => wps rm K Q c_M_fitPlane_427 kc ks loc (v :: st) h) := gk_gf
theorem s_M_fitPlane_427  : wps rm K Q c_M_fitPlane_427 kc ks loc (st) h = wps rm K Q c_M_fitPlane_428 kc ks loc (.int (0) :: st) h := gk_ic (by decide)
theorem s_M_fitPlane_428 {x : Nat} {i : Int32} : wps rm K Q c_M_fitPlane_428 kc ks loc (.int i :: .ref (x + 1) :: st) h = eg_la h x i (fun v => wps rm K Q c_M_fitPlane_429 kc ks loc (.long v :: st) h) := gk_laload
theorem s_M_fitPlane_429 {x : Nat} {l : eg_Lo} : wps rm K Q c_M_fitPlane_429 kc ks (some (.ref x) :: l) (st) h = wps rm K Q c_M_fitPlane_430 kc ks (some (.ref x) :: l) (.ref x :: st) h := gk_aload rfl
theorem s_M_fitPlane_430 {x : Nat} : wps rm K Q c_M_fitPlane_430 kc ks loc (.ref (x + 1) :: st) h = eg_gf h x 12 33 (fun v => wps rm K Q c_M_fitPlane_433 kc ks loc (v :: st) h) := gk_gf
theorem s_M_fitPlane_433  : wps rm K Q c_M_fitPlane_433 kc ks loc (st) h = wps rm K Q c_M_fitPlane_434 kc ks loc (.int (1) :: st) h := gk_ic (by decide)
theorem s_M_fitPlane_434 {x : Nat} {i : Int32} : wps rm K Q c_M_fitPlane_434 kc ks loc (.int i :: .ref (x + 1) :: st) h = eg_la h x i (fun v => wps rm K Q c_M_fitPlane_435 kc ks loc (.long v :: st) h) := gk_laload
theorem s_M_fitPlane_435 {x : Nat} {l : eg_Lo} : wps rm K Q c_M_fitPlane_435 kc ks (some (.ref x) :: l) (st) h = wps rm K Q c_M_fitPlane_436 kc ks (some (.ref x) :: l) (.ref x :: st) h := gk_aload rfl
theorem s_M_fitPlane_436 {x : Nat} : wps rm K Q c_M_fitPlane_436 kc ks loc (.ref (x + 1) :: st) h = eg_gf h x 12 33 (fun v => wps rm K Q c_M_fitPlane_439 kc ks loc (v :: st) h) := gk_gf
theorem s_M_fitPlane_439  : wps rm K Q c_M_fitPlane_439 kc ks loc (st) h = wps rm K Q c_M_fitPlane_440 kc ks loc (.int (2) :: st) h := gk_ic (by decide)
theorem s_M_fitPlane_440 {x : Nat} {i : Int32} : wps rm K Q c_M_fitPlane_440 kc ks loc (.int i :: .ref (x + 1) :: st) h = eg_la h x i (fun v => wps rm K Q c_M_fitPlane_441 kc ks loc (.long v :: st) h) := gk_laload
theorem s_M_fitPlane_441 {x : Nat} {l : eg_Lo} : wps rm K Q c_M_fitPlane_441 kc ks (some (.ref x) :: l) (st) h = wps rm K Q c_M_fitPlane_442 kc ks (some (.ref x) :: l) (.ref x :: st) h := gk_aload rfl
theorem s_M_fitPlane_442 {x : Nat} : wps rm K Q c_M_fitPlane_442 kc ks loc (.ref (x + 1) :: st) h = eg_gf h x 12 12 (fun v => wps rm K Q c_M_fitPlane_445 kc ks loc (v :: st) h) := gk_gf
theorem s_M_fitPlane_445  : wps rm K Q c_M_fitPlane_445 kc ks loc (st) h = wps rm K Q c_M_fitPlane_446 kc ks loc (.int (3) :: st) h := gk_ic (by decide)
theorem s_M_fitPlane_446 {x : Int32} {l0 : Option Value} {l : eg_Lo} : wps rm K Q c_M_fitPlane_446 kc ks (l0 :: some (.int x) :: l) (st) h = wps rm K Q c_M_fitPlane_447 kc ks (l0 :: some (.int x) :: l) (.int x :: st) h := gk_iload rfl
theorem s_M_fitPlane_447 {x y : Int32} : wps rm K Q c_M_fitPlane_447 kc ks loc (.int y :: .int x :: st) h = wps rm K Q c_M_fitPlane_448 kc ks loc (.int (x * y) :: st) h := gk_imul
theorem s_M_fitPlane_448  : wps rm K Q c_M_fitPlane_448 kc ks loc (st) h = wps rm K Q c_M_fitPlane_449 kc ks loc (.int (1) :: st) h := gk_ic (by decide)
theorem s_M_fitPlane_449  {a1 : Value} {a2 : Value} {a3 : Value} {a4 : Value} {a5 : Value} {a6 : Value} : wps rm K Q c_M_fitPlane_449 kc ks loc (a6 :: a5 :: a4 :: a3 :: a2 :: a1 :: st) h = (st.length ≤ 4 ∧ eg_Cs n_M_lowest [a1, a2, a3, a4, a5, a6] h (fun v h9 => wps rm K Q c_M_fitPlane_452 kc ks loc (v.toList ++ st) h9)) := eg_c0_6
theorem s_M_fitPlane_452  : wps rm K Q c_M_fitPlane_452 kc ks loc (st) h = wps rm K Q c_M_fitPlane_455 kc ks loc (.long (6) :: st) h := gk_lc (by decide)
theorem s_M_fitPlane_455 {x : Int64} : wps rm K Q c_M_fitPlane_455 kc ks loc ([.long x]) h = (kc = rm.cells ∧ Q (some (.long x)) h) := gk_lret
theorem sz_M_fitPlane_31 : wps rm K Q z_M_fitPlane_31 kc ks loc st h = K 31 kc ks loc st h := gk_nop
theorem sz_M_fitPlane_44 : wps rm K Q z_M_fitPlane_44 kc ks loc st h = K 44 kc ks loc st h := gk_nop
theorem sz_M_fitPlane_65 : wps rm K Q z_M_fitPlane_65 kc ks loc st h = K 65 kc ks loc st h := gk_nop
theorem sz_M_fitPlane_102 : wps rm K Q z_M_fitPlane_102 kc ks loc st h = K 102 kc ks loc st h := gk_nop
def T_M_fitPlane : List (Nat × List eg_I) := [(96, c_M_fitPlane_96), (100, c_M_fitPlane_100), (219, c_M_fitPlane_219), (245, c_M_fitPlane_245), (251, c_M_fitPlane_251), (257, c_M_fitPlane_257), (263, c_M_fitPlane_263), (269, c_M_fitPlane_269), (281, c_M_fitPlane_281)]
theorem j_M_fitPlane_96 {R : Nat → Nat → Nat → eg_Lo → List Value → List eg_E → Prop} {f pc0 : Nat} : eg_run rm R Q T_M_fitPlane (f + 1) 96 kc ks loc st h = wps rm (eg_run rm R Q T_M_fitPlane f) Q c_M_fitPlane_96 kc ks loc st h := rfl
theorem j_M_fitPlane_100 {R : Nat → Nat → Nat → eg_Lo → List Value → List eg_E → Prop} {f pc0 : Nat} : eg_run rm R Q T_M_fitPlane (f + 1) 100 kc ks loc st h = wps rm (eg_run rm R Q T_M_fitPlane f) Q c_M_fitPlane_100 kc ks loc st h := rfl
theorem j_M_fitPlane_219 {R : Nat → Nat → Nat → eg_Lo → List Value → List eg_E → Prop} {f pc0 : Nat} : eg_run rm R Q T_M_fitPlane (f + 1) 219 kc ks loc st h = wps rm (eg_run rm R Q T_M_fitPlane f) Q c_M_fitPlane_219 kc ks loc st h := rfl
theorem j_M_fitPlane_245 {R : Nat → Nat → Nat → eg_Lo → List Value → List eg_E → Prop} {f pc0 : Nat} : eg_run rm R Q T_M_fitPlane (f + 1) 245 kc ks loc st h = wps rm (eg_run rm R Q T_M_fitPlane f) Q c_M_fitPlane_245 kc ks loc st h := rfl
theorem j_M_fitPlane_251 {R : Nat → Nat → Nat → eg_Lo → List Value → List eg_E → Prop} {f pc0 : Nat} : eg_run rm R Q T_M_fitPlane (f + 1) 251 kc ks loc st h = wps rm (eg_run rm R Q T_M_fitPlane f) Q c_M_fitPlane_251 kc ks loc st h := rfl
theorem j_M_fitPlane_257 {R : Nat → Nat → Nat → eg_Lo → List Value → List eg_E → Prop} {f pc0 : Nat} : eg_run rm R Q T_M_fitPlane (f + 1) 257 kc ks loc st h = wps rm (eg_run rm R Q T_M_fitPlane f) Q c_M_fitPlane_257 kc ks loc st h := rfl
theorem j_M_fitPlane_263 {R : Nat → Nat → Nat → eg_Lo → List Value → List eg_E → Prop} {f pc0 : Nat} : eg_run rm R Q T_M_fitPlane (f + 1) 263 kc ks loc st h = wps rm (eg_run rm R Q T_M_fitPlane f) Q c_M_fitPlane_263 kc ks loc st h := rfl
theorem j_M_fitPlane_269 {R : Nat → Nat → Nat → eg_Lo → List Value → List eg_E → Prop} {f pc0 : Nat} : eg_run rm R Q T_M_fitPlane (f + 1) 269 kc ks loc st h = wps rm (eg_run rm R Q T_M_fitPlane f) Q c_M_fitPlane_269 kc ks loc st h := rfl
theorem j_M_fitPlane_281 {R : Nat → Nat → Nat → eg_Lo → List Value → List eg_E → Prop} {f pc0 : Nat} : eg_run rm R Q T_M_fitPlane (f + 1) 281 kc ks loc st h = wps rm (eg_run rm R Q T_M_fitPlane f) Q c_M_fitPlane_281 kc ks loc st h := rfl
theorem j_M_fitPlane_31 {R : Nat → Nat → Nat → eg_Lo → List Value → List eg_E → Prop} {f pc0 : Nat} : eg_run rm R Q T_M_fitPlane (f + 1) 31 kc ks loc st h = R 31 kc ks loc st h := rfl
theorem j_M_fitPlane_44 {R : Nat → Nat → Nat → eg_Lo → List Value → List eg_E → Prop} {f pc0 : Nat} : eg_run rm R Q T_M_fitPlane (f + 1) 44 kc ks loc st h = R 44 kc ks loc st h := rfl
theorem j_M_fitPlane_65 {R : Nat → Nat → Nat → eg_Lo → List Value → List eg_E → Prop} {f pc0 : Nat} : eg_run rm R Q T_M_fitPlane (f + 1) 65 kc ks loc st h = R 65 kc ks loc st h := rfl
theorem j_M_fitPlane_102 {R : Nat → Nat → Nat → eg_Lo → List Value → List eg_E → Prop} {f pc0 : Nat} : eg_run rm R Q T_M_fitPlane (f + 1) 102 kc ks loc st h = R 102 kc ks loc st h := rfl
end
theorem y_M_fitPlane_0 : eg_seq m_M_fitPlane 0 c_M_fitPlane_0 = true := by decide +kernel
theorem y_M_fitPlane_31 : eg_seq m_M_fitPlane 31 c_M_fitPlane_31 = true := by decide +kernel
theorem y_M_fitPlane_44 : eg_seq m_M_fitPlane 44 c_M_fitPlane_44 = true := by decide +kernel
theorem y_M_fitPlane_65 : eg_seq m_M_fitPlane 65 c_M_fitPlane_65 = true := by decide +kernel
theorem y_M_fitPlane_96 : eg_seq m_M_fitPlane 96 c_M_fitPlane_96 = true := by decide +kernel
theorem y_M_fitPlane_102 : eg_seq m_M_fitPlane 102 c_M_fitPlane_102 = true := by decide +kernel
theorem y_M_fitPlane_251 : eg_seq m_M_fitPlane 251 c_M_fitPlane_251 = true := by decide +kernel
theorem y_M_fitPlane_257 : eg_seq m_M_fitPlane 257 c_M_fitPlane_257 = true := by decide +kernel
theorem y_M_fitPlane_263 : eg_seq m_M_fitPlane 263 c_M_fitPlane_263 = true := by decide +kernel
theorem y_M_fitPlane_269 : eg_seq m_M_fitPlane 269 c_M_fitPlane_269 = true := by decide +kernel
theorem y_M_fitPlane_281 : eg_seq m_M_fitPlane 281 c_M_fitPlane_281 = true := by decide +kernel
theorem q_M_fitPlane : ∀ q ∈ T_M_fitPlane, eg_seq m_M_fitPlane q.1 q.2 = true := by
  intro q hq
  simp only [T_M_fitPlane, List.mem_cons, List.not_mem_nil, or_false] at hq
  rcases hq with rfl | rfl | rfl | rfl | rfl | rfl | rfl | rfl | rfl
  · exact y_M_fitPlane_96
  · exact (eg_seq_drop y_M_fitPlane_96 3 : eg_seq m_M_fitPlane 100 c_M_fitPlane_100 = true)
  · exact (eg_seq_drop y_M_fitPlane_102 63 : eg_seq m_M_fitPlane 219 c_M_fitPlane_219 = true)
  · exact (eg_seq_drop y_M_fitPlane_102 77 : eg_seq m_M_fitPlane 245 c_M_fitPlane_245 = true)
  · exact y_M_fitPlane_251
  · exact y_M_fitPlane_257
  · exact y_M_fitPlane_263
  · exact y_M_fitPlane_269
  · exact y_M_fitPlane_281
theorem md_M_fitPlane : eg_md n_M_fitPlane = m_M_fitPlane := rfl
theorem mn_M_fitPlane : n_M_fitPlane < 202 := Nat.le_of_ble_eq_true rfl
theorem b_M_fitPlane {as : List Value} {h : List eg_E} {Q : Option Value → List eg_E → Prop} (hf : (eg_fl as).length ≤ 21) : wps (eg_rm m_M_fitPlane) (eg_run (eg_rm m_M_fitPlane) (eg_R m_M_fitPlane Q (h.length + 0)) Q T_M_fitPlane 11) Q c_M_fitPlane_0 0 0 (eg_entry 21 as) [] h → eg_Runs n_M_fitPlane as h Q := eg_begin2 md_M_fitPlane mn_M_fitPlane y_M_fitPlane_0 q_M_fitPlane hf
theorem p_M_fitPlane_31 {Q : Option Value → List eg_E → Prop} {n0 kc ks : Nat} {loc : eg_Lo} {st : List Value} {h : List eg_E} : wps (eg_rm m_M_fitPlane) (eg_run (eg_rm m_M_fitPlane) (eg_R m_M_fitPlane Q n0) Q T_M_fitPlane 11) Q c_M_fitPlane_31 kc ks loc st h → eg_R m_M_fitPlane Q n0 31 kc ks loc st h := eg_go2 y_M_fitPlane_31 q_M_fitPlane
theorem p_M_fitPlane_44 {Q : Option Value → List eg_E → Prop} {n0 kc ks : Nat} {loc : eg_Lo} {st : List Value} {h : List eg_E} : wps (eg_rm m_M_fitPlane) (eg_run (eg_rm m_M_fitPlane) (eg_R m_M_fitPlane Q n0) Q T_M_fitPlane 11) Q c_M_fitPlane_44 kc ks loc st h → eg_R m_M_fitPlane Q n0 44 kc ks loc st h := eg_go2 y_M_fitPlane_44 q_M_fitPlane
theorem p_M_fitPlane_65 {Q : Option Value → List eg_E → Prop} {n0 kc ks : Nat} {loc : eg_Lo} {st : List Value} {h : List eg_E} : wps (eg_rm m_M_fitPlane) (eg_run (eg_rm m_M_fitPlane) (eg_R m_M_fitPlane Q n0) Q T_M_fitPlane 11) Q c_M_fitPlane_65 kc ks loc st h → eg_R m_M_fitPlane Q n0 65 kc ks loc st h := eg_go2 y_M_fitPlane_65 q_M_fitPlane
theorem p_M_fitPlane_102 {Q : Option Value → List eg_E → Prop} {n0 kc ks : Nat} {loc : eg_Lo} {st : List Value} {h : List eg_E} : wps (eg_rm m_M_fitPlane) (eg_run (eg_rm m_M_fitPlane) (eg_R m_M_fitPlane Q n0) Q T_M_fitPlane 11) Q c_M_fitPlane_102 kc ks loc st h → eg_R m_M_fitPlane Q n0 102 kc ks loc st h := eg_go2 y_M_fitPlane_102 q_M_fitPlane
/-! ===== M_isRoundOf ===== -/
def z_M_isRoundOf_20 : List eg_I := [.inl (20, 0, .nop, 0, 0)]
def c_M_isRoundOf_133 : List eg_I := .inl (133, 1, .ireturn, 0, 1) :: []
def c_M_isRoundOf_131 : List eg_I := .inl (131, 2, .iload 4, 0, 0) :: c_M_isRoundOf_133
def c_M_isRoundOf_128 : List eg_I := .inl (128, 3, .goto (-108), 20, 0) :: []
def c_M_isRoundOf_125 : List eg_I := .inl (125, 3, .iinc 7 (1), 0, 0) :: c_M_isRoundOf_128
def c_M_isRoundOf_123 : List eg_I := .inl (123, 2, .istore 4, 0, 0) :: c_M_isRoundOf_125
def c_M_isRoundOf_122 : List eg_I := .inl (122, 1, .iand, 0, 0) :: c_M_isRoundOf_123
def c_M_isRoundOf_121 : List eg_I := .inl (121, 1, .iconst (0), 0, 0) :: c_M_isRoundOf_122
def c_M_isRoundOf_118 : List eg_I := .inl (118, 3, .goto (4), 122, 0) :: []
def c_M_isRoundOf_117 : List eg_I := .inl (117, 1, .iconst (1), 0, 0) :: c_M_isRoundOf_118
def c_M_isRoundOf_114 : List eg_I := .inl (114, 3, .ifCond .gt (7), 121, 0) :: c_M_isRoundOf_117
def c_M_isRoundOf_113 : List eg_I := .inl (113, 1, .iadd, 0, 0) :: c_M_isRoundOf_114
def c_M_isRoundOf_112 : List eg_I := .inl (112, 1, .imul, 0, 0) :: c_M_isRoundOf_113
def c_M_isRoundOf_111 : List eg_I := .inl (111, 1, .isub, 0, 0) :: c_M_isRoundOf_112
def c_M_isRoundOf_110 : List eg_I := .inl (110, 1, .iaload, 0, 0) :: c_M_isRoundOf_111
def c_M_isRoundOf_108 : List eg_I := .inl (108, 2, .iload 6, 0, 0) :: c_M_isRoundOf_110
def c_M_isRoundOf_105 : List eg_I := .inl (105, 3, .getfield 16, 12, 2) :: c_M_isRoundOf_108
def c_M_isRoundOf_104 : List eg_I := .inl (104, 1, .aload 0, 0, 0) :: c_M_isRoundOf_105
def c_M_isRoundOf_103 : List eg_I := .inl (103, 1, .iaload, 0, 0) :: c_M_isRoundOf_104
def c_M_isRoundOf_101 : List eg_I := .inl (101, 2, .iload 8, 0, 0) :: c_M_isRoundOf_103
def c_M_isRoundOf_98 : List eg_I := .inl (98, 3, .getfield 16, 12, 2) :: c_M_isRoundOf_101
def c_M_isRoundOf_97 : List eg_I := .inl (97, 1, .aload 0, 0, 0) :: c_M_isRoundOf_98
def c_M_isRoundOf_96 : List eg_I := .inl (96, 1, .isub, 0, 0) :: c_M_isRoundOf_97
def c_M_isRoundOf_95 : List eg_I := .inl (95, 1, .iaload, 0, 0) :: c_M_isRoundOf_96
def c_M_isRoundOf_93 : List eg_I := .inl (93, 2, .iload 5, 0, 0) :: c_M_isRoundOf_95
def c_M_isRoundOf_90 : List eg_I := .inl (90, 3, .getfield 16, 12, 2) :: c_M_isRoundOf_93
def c_M_isRoundOf_89 : List eg_I := .inl (89, 1, .aload 0, 0, 0) :: c_M_isRoundOf_90
def c_M_isRoundOf_88 : List eg_I := .inl (88, 1, .iaload, 0, 0) :: c_M_isRoundOf_89
def c_M_isRoundOf_86 : List eg_I := .inl (86, 2, .iload 8, 0, 0) :: c_M_isRoundOf_88
def c_M_isRoundOf_83 : List eg_I := .inl (83, 3, .getfield 16, 12, 2) :: c_M_isRoundOf_86
def c_M_isRoundOf_82 : List eg_I := .inl (82, 1, .aload 0, 0, 0) :: c_M_isRoundOf_83
def c_M_isRoundOf_81 : List eg_I := .inl (81, 1, .imul, 0, 0) :: c_M_isRoundOf_82
def c_M_isRoundOf_80 : List eg_I := .inl (80, 1, .isub, 0, 0) :: c_M_isRoundOf_81
def c_M_isRoundOf_79 : List eg_I := .inl (79, 1, .iaload, 0, 0) :: c_M_isRoundOf_80
def c_M_isRoundOf_77 : List eg_I := .inl (77, 2, .iload 6, 0, 0) :: c_M_isRoundOf_79
def c_M_isRoundOf_74 : List eg_I := .inl (74, 3, .getfield 13, 12, 1) :: c_M_isRoundOf_77
def c_M_isRoundOf_73 : List eg_I := .inl (73, 1, .aload 0, 0, 0) :: c_M_isRoundOf_74
def c_M_isRoundOf_72 : List eg_I := .inl (72, 1, .iaload, 0, 0) :: c_M_isRoundOf_73
def c_M_isRoundOf_70 : List eg_I := .inl (70, 2, .iload 8, 0, 0) :: c_M_isRoundOf_72
def c_M_isRoundOf_67 : List eg_I := .inl (67, 3, .getfield 13, 12, 1) :: c_M_isRoundOf_70
def c_M_isRoundOf_66 : List eg_I := .inl (66, 1, .aload 0, 0, 0) :: c_M_isRoundOf_67
def c_M_isRoundOf_65 : List eg_I := .inl (65, 1, .isub, 0, 0) :: c_M_isRoundOf_66
def c_M_isRoundOf_64 : List eg_I := .inl (64, 1, .iaload, 0, 0) :: c_M_isRoundOf_65
def c_M_isRoundOf_62 : List eg_I := .inl (62, 2, .iload 5, 0, 0) :: c_M_isRoundOf_64
def c_M_isRoundOf_59 : List eg_I := .inl (59, 3, .getfield 13, 12, 1) :: c_M_isRoundOf_62
def c_M_isRoundOf_58 : List eg_I := .inl (58, 1, .aload 0, 0, 0) :: c_M_isRoundOf_59
def c_M_isRoundOf_57 : List eg_I := .inl (57, 1, .iaload, 0, 0) :: c_M_isRoundOf_58
def c_M_isRoundOf_55 : List eg_I := .inl (55, 2, .iload 8, 0, 0) :: c_M_isRoundOf_57
def c_M_isRoundOf_52 : List eg_I := .inl (52, 3, .getfield 13, 12, 1) :: c_M_isRoundOf_55
def c_M_isRoundOf_51 : List eg_I := .inl (51, 1, .aload 0, 0, 0) :: c_M_isRoundOf_52
def c_M_isRoundOf_48 : List eg_I := .inl (48, 3, .ifCond .ne (69), 117, 0) :: c_M_isRoundOf_51
def c_M_isRoundOf_47 : List eg_I := .inl (47, 1, .baload, 0, 0) :: c_M_isRoundOf_48
def c_M_isRoundOf_45 : List eg_I := .inl (45, 2, .iload 8, 0, 0) :: c_M_isRoundOf_47
def c_M_isRoundOf_42 : List eg_I := .inl (42, 3, .getfield 22, 12, 4) :: c_M_isRoundOf_45
def c_M_isRoundOf_41 : List eg_I := .inl (41, 1, .aload 0, 0, 0) :: c_M_isRoundOf_42
def c_M_isRoundOf_39 : List eg_I := .inl (39, 2, .iload 4, 0, 0) :: c_M_isRoundOf_41
def c_M_isRoundOf_37 : List eg_I := .inl (37, 2, .istore 8, 0, 0) :: c_M_isRoundOf_39
def c_M_isRoundOf_34 : List eg_I := .inr (34, 0, 103, n_M_at_II, 2, 12, 0, 0) :: c_M_isRoundOf_37
def c_M_isRoundOf_32 : List eg_I := .inl (32, 2, .iload 7, 0, 0) :: c_M_isRoundOf_34
def c_M_isRoundOf_31 : List eg_I := .inl (31, 1, .iload 1, 0, 0) :: c_M_isRoundOf_32
def c_M_isRoundOf_28 : List eg_I := .inl (28, 3, .if_icmp .ge (103), 131, 0) :: c_M_isRoundOf_31
def c_M_isRoundOf_27 : List eg_I := .inl (27, 1, .iaload, 0, 0) :: c_M_isRoundOf_28
def c_M_isRoundOf_26 : List eg_I := .inl (26, 1, .iload 1, 0, 0) :: c_M_isRoundOf_27
def c_M_isRoundOf_23 : List eg_I := .inl (23, 3, .getfield 9, 12, 0) :: c_M_isRoundOf_26
def c_M_isRoundOf_22 : List eg_I := .inl (22, 1, .aload 0, 0, 0) :: c_M_isRoundOf_23
def c_M_isRoundOf_20 : List eg_I := .inl (20, 2, .iload 7, 0, 0) :: c_M_isRoundOf_22
def c_M_isRoundOf_18 : List eg_I := .inl (18, 2, .istore 7, 0, 0) :: z_M_isRoundOf_20
def c_M_isRoundOf_17 : List eg_I := .inl (17, 1, .iconst (0), 0, 0) :: c_M_isRoundOf_18
def c_M_isRoundOf_15 : List eg_I := .inl (15, 2, .istore 6, 0, 0) :: c_M_isRoundOf_17
def c_M_isRoundOf_12 : List eg_I := .inr (12, 0, 103, n_M_at_II, 2, 12, 0, 0) :: c_M_isRoundOf_15
def c_M_isRoundOf_11 : List eg_I := .inl (11, 1, .iload 3, 0, 0) :: c_M_isRoundOf_12
def c_M_isRoundOf_10 : List eg_I := .inl (10, 1, .iload 1, 0, 0) :: c_M_isRoundOf_11
def c_M_isRoundOf_8 : List eg_I := .inl (8, 2, .istore 5, 0, 0) :: c_M_isRoundOf_10
def c_M_isRoundOf_5 : List eg_I := .inr (5, 0, 103, n_M_at_II, 2, 12, 0, 0) :: c_M_isRoundOf_8
def c_M_isRoundOf_4 : List eg_I := .inl (4, 1, .iload 2, 0, 0) :: c_M_isRoundOf_5
def c_M_isRoundOf_3 : List eg_I := .inl (3, 1, .iload 1, 0, 0) :: c_M_isRoundOf_4
def c_M_isRoundOf_1 : List eg_I := .inl (1, 2, .istore 4, 0, 0) :: c_M_isRoundOf_3
def c_M_isRoundOf_0 : List eg_I := .inl (0, 1, .iconst (1), 0, 0) :: c_M_isRoundOf_1
section
variable {rm : Room} {K : Nat → Nat → Nat → eg_Lo → List Value → List eg_E → Prop} {Q : Option Value → List eg_E → Prop} {kc ks : Nat} {loc : eg_Lo} {st : List Value} {h : List eg_E}
theorem s_M_isRoundOf_0  : wps rm K Q c_M_isRoundOf_0 kc ks loc (st) h = wps rm K Q c_M_isRoundOf_1 kc ks loc (.int (1) :: st) h := gk_ic (by decide)
theorem s_M_isRoundOf_1 {x : Int32} : wps rm K Q c_M_isRoundOf_1 kc ks loc (.int x :: st) h = wps rm K Q c_M_isRoundOf_3 kc ks (eg_set1 loc 4 (.int x)) (st) h := gk_istore
theorem s_M_isRoundOf_3 {x : Int32} {l0 : Option Value} {l : eg_Lo} : wps rm K Q c_M_isRoundOf_3 kc ks (l0 :: some (.int x) :: l) (st) h = wps rm K Q c_M_isRoundOf_4 kc ks (l0 :: some (.int x) :: l) (.int x :: st) h := gk_iload rfl
theorem s_M_isRoundOf_4 {x : Int32} {l0 l1 : Option Value} {l : eg_Lo} : wps rm K Q c_M_isRoundOf_4 kc ks (l0 :: l1 :: some (.int x) :: l) (st) h = wps rm K Q c_M_isRoundOf_5 kc ks (l0 :: l1 :: some (.int x) :: l) (.int x :: st) h := gk_iload rfl
theorem s_M_isRoundOf_5  {a1 : Value} {a2 : Value} : wps rm K Q c_M_isRoundOf_5 kc ks loc (a2 :: a1 :: st) h = (st.length ≤ 4 ∧ eg_Cs n_M_at_II [a1, a2] h (fun v h9 => wps rm K Q c_M_isRoundOf_8 kc ks loc (v.toList ++ st) h9)) := eg_c0_2
theorem s_M_isRoundOf_8 {x : Int32} : wps rm K Q c_M_isRoundOf_8 kc ks loc (.int x :: st) h = wps rm K Q c_M_isRoundOf_10 kc ks (eg_set1 loc 5 (.int x)) (st) h := gk_istore
theorem s_M_isRoundOf_10 {x : Int32} {l0 : Option Value} {l : eg_Lo} : wps rm K Q c_M_isRoundOf_10 kc ks (l0 :: some (.int x) :: l) (st) h = wps rm K Q c_M_isRoundOf_11 kc ks (l0 :: some (.int x) :: l) (.int x :: st) h := gk_iload rfl
theorem s_M_isRoundOf_11 {x : Int32} {l0 l1 l2 : Option Value} {l : eg_Lo} : wps rm K Q c_M_isRoundOf_11 kc ks (l0 :: l1 :: l2 :: some (.int x) :: l) (st) h = wps rm K Q c_M_isRoundOf_12 kc ks (l0 :: l1 :: l2 :: some (.int x) :: l) (.int x :: st) h := gk_iload rfl
theorem s_M_isRoundOf_12  {a1 : Value} {a2 : Value} : wps rm K Q c_M_isRoundOf_12 kc ks loc (a2 :: a1 :: st) h = (st.length ≤ 4 ∧ eg_Cs n_M_at_II [a1, a2] h (fun v h9 => wps rm K Q c_M_isRoundOf_15 kc ks loc (v.toList ++ st) h9)) := eg_c0_2
theorem s_M_isRoundOf_15 {x : Int32} : wps rm K Q c_M_isRoundOf_15 kc ks loc (.int x :: st) h = wps rm K Q c_M_isRoundOf_17 kc ks (eg_set1 loc 6 (.int x)) (st) h := gk_istore
theorem s_M_isRoundOf_17  : wps rm K Q c_M_isRoundOf_17 kc ks loc (st) h = wps rm K Q c_M_isRoundOf_18 kc ks loc (.int (0) :: st) h := gk_ic (by decide)
theorem s_M_isRoundOf_18 {x : Int32} : wps rm K Q c_M_isRoundOf_18 kc ks loc (.int x :: st) h = wps rm K Q z_M_isRoundOf_20 kc ks (eg_set1 loc 7 (.int x)) (st) h := gk_istore
theorem s_M_isRoundOf_20 {x : Int32} {l0 l1 l2 l3 l4 l5 l6 : Option Value} {l : eg_Lo} : wps rm K Q c_M_isRoundOf_20 kc ks (l0 :: l1 :: l2 :: l3 :: l4 :: l5 :: l6 :: some (.int x) :: l) (st) h = wps rm K Q c_M_isRoundOf_22 kc ks (l0 :: l1 :: l2 :: l3 :: l4 :: l5 :: l6 :: some (.int x) :: l) (.int x :: st) h := gk_iload rfl
theorem s_M_isRoundOf_22 {x : Nat} {l : eg_Lo} : wps rm K Q c_M_isRoundOf_22 kc ks (some (.ref x) :: l) (st) h = wps rm K Q c_M_isRoundOf_23 kc ks (some (.ref x) :: l) (.ref x :: st) h := gk_aload rfl
theorem s_M_isRoundOf_23 {x : Nat} : wps rm K Q c_M_isRoundOf_23 kc ks loc (.ref (x + 1) :: st) h = eg_gf h x 12 0 (fun v => wps rm K Q c_M_isRoundOf_26 kc ks loc (v :: st) h) := gk_gf
theorem s_M_isRoundOf_26 {x : Int32} {l0 : Option Value} {l : eg_Lo} : wps rm K Q c_M_isRoundOf_26 kc ks (l0 :: some (.int x) :: l) (st) h = wps rm K Q c_M_isRoundOf_27 kc ks (l0 :: some (.int x) :: l) (.int x :: st) h := gk_iload rfl
theorem s_M_isRoundOf_27 {x : Nat} {i : Int32} : wps rm K Q c_M_isRoundOf_27 kc ks loc (.int i :: .ref (x + 1) :: st) h = eg_ia h x i (fun v => wps rm K Q c_M_isRoundOf_28 kc ks loc (.int v :: st) h) := gk_iaload
theorem s_M_isRoundOf_28 {x y : Int32} : wps rm K Q c_M_isRoundOf_28 kc ks loc (.int y :: .int x :: st) h = ((y ≤ x → K 131 kc ks loc st h) ∧ (¬ y ≤ x → wps rm K Q c_M_isRoundOf_31 kc ks loc (st) h)) := gk_if2_ge
theorem s_M_isRoundOf_31 {x : Int32} {l0 : Option Value} {l : eg_Lo} : wps rm K Q c_M_isRoundOf_31 kc ks (l0 :: some (.int x) :: l) (st) h = wps rm K Q c_M_isRoundOf_32 kc ks (l0 :: some (.int x) :: l) (.int x :: st) h := gk_iload rfl
theorem s_M_isRoundOf_32 {x : Int32} {l0 l1 l2 l3 l4 l5 l6 : Option Value} {l : eg_Lo} : wps rm K Q c_M_isRoundOf_32 kc ks (l0 :: l1 :: l2 :: l3 :: l4 :: l5 :: l6 :: some (.int x) :: l) (st) h = wps rm K Q c_M_isRoundOf_34 kc ks (l0 :: l1 :: l2 :: l3 :: l4 :: l5 :: l6 :: some (.int x) :: l) (.int x :: st) h := gk_iload rfl
theorem s_M_isRoundOf_34  {a1 : Value} {a2 : Value} : wps rm K Q c_M_isRoundOf_34 kc ks loc (a2 :: a1 :: st) h = (st.length ≤ 4 ∧ eg_Cs n_M_at_II [a1, a2] h (fun v h9 => wps rm K Q c_M_isRoundOf_37 kc ks loc (v.toList ++ st) h9)) := eg_c0_2
theorem s_M_isRoundOf_37 {x : Int32} : wps rm K Q c_M_isRoundOf_37 kc ks loc (.int x :: st) h = wps rm K Q c_M_isRoundOf_39 kc ks (eg_set1 loc 8 (.int x)) (st) h := gk_istore
theorem s_M_isRoundOf_39 {x : Int32} {l0 l1 l2 l3 : Option Value} {l : eg_Lo} : wps rm K Q c_M_isRoundOf_39 kc ks (l0 :: l1 :: l2 :: l3 :: some (.int x) :: l) (st) h = wps rm K Q c_M_isRoundOf_41 kc ks (l0 :: l1 :: l2 :: l3 :: some (.int x) :: l) (.int x :: st) h := gk_iload rfl
theorem s_M_isRoundOf_41 {x : Nat} {l : eg_Lo} : wps rm K Q c_M_isRoundOf_41 kc ks (some (.ref x) :: l) (st) h = wps rm K Q c_M_isRoundOf_42 kc ks (some (.ref x) :: l) (.ref x :: st) h := gk_aload rfl
theorem s_M_isRoundOf_42 {x : Nat} : wps rm K Q c_M_isRoundOf_42 kc ks loc (.ref (x + 1) :: st) h = eg_gf h x 12 4 (fun v => wps rm K Q c_M_isRoundOf_45 kc ks loc (v :: st) h) := gk_gf
theorem s_M_isRoundOf_45 {x : Int32} {l0 l1 l2 l3 l4 l5 l6 l7 : Option Value} {l : eg_Lo} : wps rm K Q c_M_isRoundOf_45 kc ks (l0 :: l1 :: l2 :: l3 :: l4 :: l5 :: l6 :: l7 :: some (.int x) :: l) (st) h = wps rm K Q c_M_isRoundOf_47 kc ks (l0 :: l1 :: l2 :: l3 :: l4 :: l5 :: l6 :: l7 :: some (.int x) :: l) (.int x :: st) h := gk_iload rfl
theorem s_M_isRoundOf_47 {x : Nat} {i : Int32} : wps rm K Q c_M_isRoundOf_47 kc ks loc (.int i :: .ref (x + 1) :: st) h = eg_ba h x i (fun v => wps rm K Q c_M_isRoundOf_48 kc ks loc (.int v :: st) h) := gk_baload
theorem s_M_isRoundOf_48 {x : Int32} : wps rm K Q c_M_isRoundOf_48 kc ks loc (.int x :: st) h = ((¬ x = 0 → K 117 kc ks loc st h) ∧ (x = 0 → wps rm K Q c_M_isRoundOf_51 kc ks loc (st) h)) := gk_if1_ne
theorem s_M_isRoundOf_51 {x : Nat} {l : eg_Lo} : wps rm K Q c_M_isRoundOf_51 kc ks (some (.ref x) :: l) (st) h = wps rm K Q c_M_isRoundOf_52 kc ks (some (.ref x) :: l) (.ref x :: st) h := gk_aload rfl
theorem s_M_isRoundOf_52 {x : Nat} : wps rm K Q c_M_isRoundOf_52 kc ks loc (.ref (x + 1) :: st) h = eg_gf h x 12 1 (fun v => wps rm K Q c_M_isRoundOf_55 kc ks loc (v :: st) h) := gk_gf
theorem s_M_isRoundOf_55 {x : Int32} {l0 l1 l2 l3 l4 l5 l6 l7 : Option Value} {l : eg_Lo} : wps rm K Q c_M_isRoundOf_55 kc ks (l0 :: l1 :: l2 :: l3 :: l4 :: l5 :: l6 :: l7 :: some (.int x) :: l) (st) h = wps rm K Q c_M_isRoundOf_57 kc ks (l0 :: l1 :: l2 :: l3 :: l4 :: l5 :: l6 :: l7 :: some (.int x) :: l) (.int x :: st) h := gk_iload rfl
theorem s_M_isRoundOf_57 {x : Nat} {i : Int32} : wps rm K Q c_M_isRoundOf_57 kc ks loc (.int i :: .ref (x + 1) :: st) h = eg_ia h x i (fun v => wps rm K Q c_M_isRoundOf_58 kc ks loc (.int v :: st) h) := gk_iaload
theorem s_M_isRoundOf_58 {x : Nat} {l : eg_Lo} : wps rm K Q c_M_isRoundOf_58 kc ks (some (.ref x) :: l) (st) h = wps rm K Q c_M_isRoundOf_59 kc ks (some (.ref x) :: l) (.ref x :: st) h := gk_aload rfl
theorem s_M_isRoundOf_59 {x : Nat} : wps rm K Q c_M_isRoundOf_59 kc ks loc (.ref (x + 1) :: st) h = eg_gf h x 12 1 (fun v => wps rm K Q c_M_isRoundOf_62 kc ks loc (v :: st) h) := gk_gf
theorem s_M_isRoundOf_62 {x : Int32} {l0 l1 l2 l3 l4 : Option Value} {l : eg_Lo} : wps rm K Q c_M_isRoundOf_62 kc ks (l0 :: l1 :: l2 :: l3 :: l4 :: some (.int x) :: l) (st) h = wps rm K Q c_M_isRoundOf_64 kc ks (l0 :: l1 :: l2 :: l3 :: l4 :: some (.int x) :: l) (.int x :: st) h := gk_iload rfl
theorem s_M_isRoundOf_64 {x : Nat} {i : Int32} : wps rm K Q c_M_isRoundOf_64 kc ks loc (.int i :: .ref (x + 1) :: st) h = eg_ia h x i (fun v => wps rm K Q c_M_isRoundOf_65 kc ks loc (.int v :: st) h) := gk_iaload
theorem s_M_isRoundOf_65 {x y : Int32} : wps rm K Q c_M_isRoundOf_65 kc ks loc (.int y :: .int x :: st) h = wps rm K Q c_M_isRoundOf_66 kc ks loc (.int (x - y) :: st) h := gk_isub
theorem s_M_isRoundOf_66 {x : Nat} {l : eg_Lo} : wps rm K Q c_M_isRoundOf_66 kc ks (some (.ref x) :: l) (st) h = wps rm K Q c_M_isRoundOf_67 kc ks (some (.ref x) :: l) (.ref x :: st) h := gk_aload rfl
theorem s_M_isRoundOf_67 {x : Nat} : wps rm K Q c_M_isRoundOf_67 kc ks loc (.ref (x + 1) :: st) h = eg_gf h x 12 1 (fun v => wps rm K Q c_M_isRoundOf_70 kc ks loc (v :: st) h) := gk_gf
theorem s_M_isRoundOf_70 {x : Int32} {l0 l1 l2 l3 l4 l5 l6 l7 : Option Value} {l : eg_Lo} : wps rm K Q c_M_isRoundOf_70 kc ks (l0 :: l1 :: l2 :: l3 :: l4 :: l5 :: l6 :: l7 :: some (.int x) :: l) (st) h = wps rm K Q c_M_isRoundOf_72 kc ks (l0 :: l1 :: l2 :: l3 :: l4 :: l5 :: l6 :: l7 :: some (.int x) :: l) (.int x :: st) h := gk_iload rfl
theorem s_M_isRoundOf_72 {x : Nat} {i : Int32} : wps rm K Q c_M_isRoundOf_72 kc ks loc (.int i :: .ref (x + 1) :: st) h = eg_ia h x i (fun v => wps rm K Q c_M_isRoundOf_73 kc ks loc (.int v :: st) h) := gk_iaload
theorem s_M_isRoundOf_73 {x : Nat} {l : eg_Lo} : wps rm K Q c_M_isRoundOf_73 kc ks (some (.ref x) :: l) (st) h = wps rm K Q c_M_isRoundOf_74 kc ks (some (.ref x) :: l) (.ref x :: st) h := gk_aload rfl
theorem s_M_isRoundOf_74 {x : Nat} : wps rm K Q c_M_isRoundOf_74 kc ks loc (.ref (x + 1) :: st) h = eg_gf h x 12 1 (fun v => wps rm K Q c_M_isRoundOf_77 kc ks loc (v :: st) h) := gk_gf
theorem s_M_isRoundOf_77 {x : Int32} {l0 l1 l2 l3 l4 l5 : Option Value} {l : eg_Lo} : wps rm K Q c_M_isRoundOf_77 kc ks (l0 :: l1 :: l2 :: l3 :: l4 :: l5 :: some (.int x) :: l) (st) h = wps rm K Q c_M_isRoundOf_79 kc ks (l0 :: l1 :: l2 :: l3 :: l4 :: l5 :: some (.int x) :: l) (.int x :: st) h := gk_iload rfl
theorem s_M_isRoundOf_79 {x : Nat} {i : Int32} : wps rm K Q c_M_isRoundOf_79 kc ks loc (.int i :: .ref (x + 1) :: st) h = eg_ia h x i (fun v => wps rm K Q c_M_isRoundOf_80 kc ks loc (.int v :: st) h) := gk_iaload
theorem s_M_isRoundOf_80 {x y : Int32} : wps rm K Q c_M_isRoundOf_80 kc ks loc (.int y :: .int x :: st) h = wps rm K Q c_M_isRoundOf_81 kc ks loc (.int (x - y) :: st) h := gk_isub
theorem s_M_isRoundOf_81 {x y : Int32} : wps rm K Q c_M_isRoundOf_81 kc ks loc (.int y :: .int x :: st) h = wps rm K Q c_M_isRoundOf_82 kc ks loc (.int (x * y) :: st) h := gk_imul
theorem s_M_isRoundOf_82 {x : Nat} {l : eg_Lo} : wps rm K Q c_M_isRoundOf_82 kc ks (some (.ref x) :: l) (st) h = wps rm K Q c_M_isRoundOf_83 kc ks (some (.ref x) :: l) (.ref x :: st) h := gk_aload rfl
theorem s_M_isRoundOf_83 {x : Nat} : wps rm K Q c_M_isRoundOf_83 kc ks loc (.ref (x + 1) :: st) h = eg_gf h x 12 2 (fun v => wps rm K Q c_M_isRoundOf_86 kc ks loc (v :: st) h) := gk_gf
theorem s_M_isRoundOf_86 {x : Int32} {l0 l1 l2 l3 l4 l5 l6 l7 : Option Value} {l : eg_Lo} : wps rm K Q c_M_isRoundOf_86 kc ks (l0 :: l1 :: l2 :: l3 :: l4 :: l5 :: l6 :: l7 :: some (.int x) :: l) (st) h = wps rm K Q c_M_isRoundOf_88 kc ks (l0 :: l1 :: l2 :: l3 :: l4 :: l5 :: l6 :: l7 :: some (.int x) :: l) (.int x :: st) h := gk_iload rfl
theorem s_M_isRoundOf_88 {x : Nat} {i : Int32} : wps rm K Q c_M_isRoundOf_88 kc ks loc (.int i :: .ref (x + 1) :: st) h = eg_ia h x i (fun v => wps rm K Q c_M_isRoundOf_89 kc ks loc (.int v :: st) h) := gk_iaload
theorem s_M_isRoundOf_89 {x : Nat} {l : eg_Lo} : wps rm K Q c_M_isRoundOf_89 kc ks (some (.ref x) :: l) (st) h = wps rm K Q c_M_isRoundOf_90 kc ks (some (.ref x) :: l) (.ref x :: st) h := gk_aload rfl
theorem s_M_isRoundOf_90 {x : Nat} : wps rm K Q c_M_isRoundOf_90 kc ks loc (.ref (x + 1) :: st) h = eg_gf h x 12 2 (fun v => wps rm K Q c_M_isRoundOf_93 kc ks loc (v :: st) h) := gk_gf
theorem s_M_isRoundOf_93 {x : Int32} {l0 l1 l2 l3 l4 : Option Value} {l : eg_Lo} : wps rm K Q c_M_isRoundOf_93 kc ks (l0 :: l1 :: l2 :: l3 :: l4 :: some (.int x) :: l) (st) h = wps rm K Q c_M_isRoundOf_95 kc ks (l0 :: l1 :: l2 :: l3 :: l4 :: some (.int x) :: l) (.int x :: st) h := gk_iload rfl
theorem s_M_isRoundOf_95 {x : Nat} {i : Int32} : wps rm K Q c_M_isRoundOf_95 kc ks loc (.int i :: .ref (x + 1) :: st) h = eg_ia h x i (fun v => wps rm K Q c_M_isRoundOf_96 kc ks loc (.int v :: st) h) := gk_iaload
theorem s_M_isRoundOf_96 {x y : Int32} : wps rm K Q c_M_isRoundOf_96 kc ks loc (.int y :: .int x :: st) h = wps rm K Q c_M_isRoundOf_97 kc ks loc (.int (x - y) :: st) h := gk_isub
theorem s_M_isRoundOf_97 {x : Nat} {l : eg_Lo} : wps rm K Q c_M_isRoundOf_97 kc ks (some (.ref x) :: l) (st) h = wps rm K Q c_M_isRoundOf_98 kc ks (some (.ref x) :: l) (.ref x :: st) h := gk_aload rfl
theorem s_M_isRoundOf_98 {x : Nat} : wps rm K Q c_M_isRoundOf_98 kc ks loc (.ref (x + 1) :: st) h = eg_gf h x 12 2 (fun v => wps rm K Q c_M_isRoundOf_101 kc ks loc (v :: st) h) := gk_gf
theorem s_M_isRoundOf_101 {x : Int32} {l0 l1 l2 l3 l4 l5 l6 l7 : Option Value} {l : eg_Lo} : wps rm K Q c_M_isRoundOf_101 kc ks (l0 :: l1 :: l2 :: l3 :: l4 :: l5 :: l6 :: l7 :: some (.int x) :: l) (st) h = wps rm K Q c_M_isRoundOf_103 kc ks (l0 :: l1 :: l2 :: l3 :: l4 :: l5 :: l6 :: l7 :: some (.int x) :: l) (.int x :: st) h := gk_iload rfl
theorem s_M_isRoundOf_103 {x : Nat} {i : Int32} : wps rm K Q c_M_isRoundOf_103 kc ks loc (.int i :: .ref (x + 1) :: st) h = eg_ia h x i (fun v => wps rm K Q c_M_isRoundOf_104 kc ks loc (.int v :: st) h) := gk_iaload
theorem s_M_isRoundOf_104 {x : Nat} {l : eg_Lo} : wps rm K Q c_M_isRoundOf_104 kc ks (some (.ref x) :: l) (st) h = wps rm K Q c_M_isRoundOf_105 kc ks (some (.ref x) :: l) (.ref x :: st) h := gk_aload rfl
theorem s_M_isRoundOf_105 {x : Nat} : wps rm K Q c_M_isRoundOf_105 kc ks loc (.ref (x + 1) :: st) h = eg_gf h x 12 2 (fun v => wps rm K Q c_M_isRoundOf_108 kc ks loc (v :: st) h) := gk_gf
theorem s_M_isRoundOf_108 {x : Int32} {l0 l1 l2 l3 l4 l5 : Option Value} {l : eg_Lo} : wps rm K Q c_M_isRoundOf_108 kc ks (l0 :: l1 :: l2 :: l3 :: l4 :: l5 :: some (.int x) :: l) (st) h = wps rm K Q c_M_isRoundOf_110 kc ks (l0 :: l1 :: l2 :: l3 :: l4 :: l5 :: some (.int x) :: l) (.int x :: st) h := gk_iload rfl
theorem s_M_isRoundOf_110 {x : Nat} {i : Int32} : wps rm K Q c_M_isRoundOf_110 kc ks loc (.int i :: .ref (x + 1) :: st) h = eg_ia h x i (fun v => wps rm K Q c_M_isRoundOf_111 kc ks loc (.int v :: st) h) := gk_iaload
theorem s_M_isRoundOf_111 {x y : Int32} : wps rm K Q c_M_isRoundOf_111 kc ks loc (.int y :: .int x :: st) h = wps rm K Q c_M_isRoundOf_112 kc ks loc (.int (x - y) :: st) h := gk_isub
theorem s_M_isRoundOf_112 {x y : Int32} : wps rm K Q c_M_isRoundOf_112 kc ks loc (.int y :: .int x :: st) h = wps rm K Q c_M_isRoundOf_113 kc ks loc (.int (x * y) :: st) h := gk_imul
theorem s_M_isRoundOf_113 {x y : Int32} : wps rm K Q c_M_isRoundOf_113 kc ks loc (.int y :: .int x :: st) h = wps rm K Q c_M_isRoundOf_114 kc ks loc (.int (x + y) :: st) h := gk_iadd
theorem s_M_isRoundOf_114 {x : Int32} : wps rm K Q c_M_isRoundOf_114 kc ks loc (.int x :: st) h = ((0 < x → K 121 kc ks loc st h) ∧ (¬ 0 < x → wps rm K Q c_M_isRoundOf_117 kc ks loc (st) h)) := gk_if1_gt
theorem s_M_isRoundOf_117  : wps rm K Q c_M_isRoundOf_117 kc ks loc (st) h = wps rm K Q c_M_isRoundOf_118 kc ks loc (.int (1) :: st) h := gk_ic (by decide)
theorem s_M_isRoundOf_118  : wps rm K Q c_M_isRoundOf_118 kc ks loc (st) h = K 122 kc ks loc st h := gk_goto
theorem s_M_isRoundOf_121  : wps rm K Q c_M_isRoundOf_121 kc ks loc (st) h = wps rm K Q c_M_isRoundOf_122 kc ks loc (.int (0) :: st) h := gk_ic (by decide)
theorem s_M_isRoundOf_122 {x y : Int32} : wps rm K Q c_M_isRoundOf_122 kc ks loc (.int y :: .int x :: st) h = wps rm K Q c_M_isRoundOf_123 kc ks loc (.int (x &&& y) :: st) h := gk_iand
theorem s_M_isRoundOf_123 {x : Int32} : wps rm K Q c_M_isRoundOf_123 kc ks loc (.int x :: st) h = wps rm K Q c_M_isRoundOf_125 kc ks (eg_set1 loc 4 (.int x)) (st) h := gk_istore
theorem s_M_isRoundOf_125 {x : Int32} {l0 l1 l2 l3 l4 l5 l6 : Option Value} {lz : eg_Lo} : wps rm K Q c_M_isRoundOf_125 kc ks (l0 :: l1 :: l2 :: l3 :: l4 :: l5 :: l6 :: some (.int x) :: lz) (st) h = wps rm K Q c_M_isRoundOf_128 kc ks (eg_set1 (l0 :: l1 :: l2 :: l3 :: l4 :: l5 :: l6 :: some (.int x) :: lz) 7 (.int (x + (1)))) (st) h := gk_iinc rfl (by decide)
theorem s_M_isRoundOf_128  : wps rm K Q c_M_isRoundOf_128 kc ks loc (st) h = K 20 kc ks loc st h := gk_goto
theorem s_M_isRoundOf_131 {x : Int32} {l0 l1 l2 l3 : Option Value} {l : eg_Lo} : wps rm K Q c_M_isRoundOf_131 kc ks (l0 :: l1 :: l2 :: l3 :: some (.int x) :: l) (st) h = wps rm K Q c_M_isRoundOf_133 kc ks (l0 :: l1 :: l2 :: l3 :: some (.int x) :: l) (.int x :: st) h := gk_iload rfl
theorem s_M_isRoundOf_133 {x : Int32} : wps rm K Q c_M_isRoundOf_133 kc ks loc ([.int x]) h = (kc = rm.cells ∧ ((1 : Nat) = 1 → x = 0 ∨ x = 1) ∧ Q (some (.int x)) h) := gk_iret
theorem sz_M_isRoundOf_20 : wps rm K Q z_M_isRoundOf_20 kc ks loc st h = K 20 kc ks loc st h := gk_nop
def T_M_isRoundOf : List (Nat × List eg_I) := [(117, c_M_isRoundOf_117), (121, c_M_isRoundOf_121), (122, c_M_isRoundOf_122), (131, c_M_isRoundOf_131)]
theorem j_M_isRoundOf_117 {R : Nat → Nat → Nat → eg_Lo → List Value → List eg_E → Prop} {f pc0 : Nat} : eg_run rm R Q T_M_isRoundOf (f + 1) 117 kc ks loc st h = wps rm (eg_run rm R Q T_M_isRoundOf f) Q c_M_isRoundOf_117 kc ks loc st h := rfl
theorem j_M_isRoundOf_121 {R : Nat → Nat → Nat → eg_Lo → List Value → List eg_E → Prop} {f pc0 : Nat} : eg_run rm R Q T_M_isRoundOf (f + 1) 121 kc ks loc st h = wps rm (eg_run rm R Q T_M_isRoundOf f) Q c_M_isRoundOf_121 kc ks loc st h := rfl
theorem j_M_isRoundOf_122 {R : Nat → Nat → Nat → eg_Lo → List Value → List eg_E → Prop} {f pc0 : Nat} : eg_run rm R Q T_M_isRoundOf (f + 1) 122 kc ks loc st h = wps rm (eg_run rm R Q T_M_isRoundOf f) Q c_M_isRoundOf_122 kc ks loc st h := rfl
theorem j_M_isRoundOf_131 {R : Nat → Nat → Nat → eg_Lo → List Value → List eg_E → Prop} {f pc0 : Nat} : eg_run rm R Q T_M_isRoundOf (f + 1) 131 kc ks loc st h = wps rm (eg_run rm R Q T_M_isRoundOf f) Q c_M_isRoundOf_131 kc ks loc st h := rfl
theorem j_M_isRoundOf_20 {R : Nat → Nat → Nat → eg_Lo → List Value → List eg_E → Prop} {f pc0 : Nat} : eg_run rm R Q T_M_isRoundOf (f + 1) 20 kc ks loc st h = R 20 kc ks loc st h := rfl
end
theorem y_M_isRoundOf_0 : eg_seq m_M_isRoundOf 0 c_M_isRoundOf_0 = true := by decide +kernel
theorem y_M_isRoundOf_20 : eg_seq m_M_isRoundOf 20 c_M_isRoundOf_20 = true := by decide +kernel
theorem y_M_isRoundOf_121 : eg_seq m_M_isRoundOf 121 c_M_isRoundOf_121 = true := by decide +kernel
theorem y_M_isRoundOf_131 : eg_seq m_M_isRoundOf 131 c_M_isRoundOf_131 = true := by decide +kernel
theorem q_M_isRoundOf : ∀ q ∈ T_M_isRoundOf, eg_seq m_M_isRoundOf q.1 q.2 = true := by
  intro q hq
  simp only [T_M_isRoundOf, List.mem_cons, List.not_mem_nil, or_false] at hq
  rcases hq with rfl | rfl | rfl | rfl
  · exact (eg_seq_drop y_M_isRoundOf_20 56 : eg_seq m_M_isRoundOf 117 c_M_isRoundOf_117 = true)
  · exact y_M_isRoundOf_121
  · exact (eg_seq_drop y_M_isRoundOf_121 1 : eg_seq m_M_isRoundOf 122 c_M_isRoundOf_122 = true)
  · exact y_M_isRoundOf_131
theorem md_M_isRoundOf : eg_md n_M_isRoundOf = m_M_isRoundOf := rfl
theorem mn_M_isRoundOf : n_M_isRoundOf < 202 := Nat.le_of_ble_eq_true rfl
theorem b_M_isRoundOf {as : List Value} {h : List eg_E} {Q : Option Value → List eg_E → Prop} (hf : (eg_fl as).length ≤ 9) : wps (eg_rm m_M_isRoundOf) (eg_run (eg_rm m_M_isRoundOf) (eg_R m_M_isRoundOf Q (h.length + 0)) Q T_M_isRoundOf 6) Q c_M_isRoundOf_0 0 0 (eg_entry 9 as) [] h → eg_Runs n_M_isRoundOf as h Q := eg_begin2 md_M_isRoundOf mn_M_isRoundOf y_M_isRoundOf_0 q_M_isRoundOf hf
theorem p_M_isRoundOf_20 {Q : Option Value → List eg_E → Prop} {n0 kc ks : Nat} {loc : eg_Lo} {st : List Value} {h : List eg_E} : wps (eg_rm m_M_isRoundOf) (eg_run (eg_rm m_M_isRoundOf) (eg_R m_M_isRoundOf Q n0) Q T_M_isRoundOf 6) Q c_M_isRoundOf_20 kc ks loc st h → eg_R m_M_isRoundOf Q n0 20 kc ks loc st h := eg_go2 y_M_isRoundOf_20 q_M_isRoundOf
/-! ===== M_tellMiddle ===== -/
def c_M_tellMiddle_204 : List eg_I := .inl (204, 1, .return_, 0, 0) :: []
def c_M_tellMiddle_201 : List eg_I := .inl (201, 3, .putfield 224, 12, 35) :: c_M_tellMiddle_204
def c_M_tellMiddle_200 : List eg_I := .inl (200, 1, .lneg, 0, 0) :: c_M_tellMiddle_201
def c_M_tellMiddle_197 : List eg_I := .inl (197, 3, .getfield 224, 12, 35) :: c_M_tellMiddle_200
def c_M_tellMiddle_196 : List eg_I := .inl (196, 1, .aload 0, 0, 0) :: c_M_tellMiddle_197
def c_M_tellMiddle_195 : List eg_I := .inl (195, 1, .aload 0, 0, 0) :: c_M_tellMiddle_196
def c_M_tellMiddle_192 : List eg_I := .inl (192, 3, .putfield 221, 12, 34) :: c_M_tellMiddle_195
def c_M_tellMiddle_191 : List eg_I := .inl (191, 1, .lneg, 0, 0) :: c_M_tellMiddle_192
def c_M_tellMiddle_188 : List eg_I := .inl (188, 3, .getfield 221, 12, 34) :: c_M_tellMiddle_191
def c_M_tellMiddle_187 : List eg_I := .inl (187, 1, .aload 0, 0, 0) :: c_M_tellMiddle_188
def c_M_tellMiddle_186 : List eg_I := .inl (186, 1, .aload 0, 0, 0) :: c_M_tellMiddle_187
def c_M_tellMiddle_183 : List eg_I := .inl (183, 3, .putfield 218, 12, 36) :: c_M_tellMiddle_186
def c_M_tellMiddle_182 : List eg_I := .inl (182, 1, .lneg, 0, 0) :: c_M_tellMiddle_183
def c_M_tellMiddle_179 : List eg_I := .inl (179, 3, .getfield 218, 12, 36) :: c_M_tellMiddle_182
def c_M_tellMiddle_178 : List eg_I := .inl (178, 1, .aload 0, 0, 0) :: c_M_tellMiddle_179
def c_M_tellMiddle_177 : List eg_I := .inl (177, 1, .aload 0, 0, 0) :: c_M_tellMiddle_178
def c_M_tellMiddle_174 : List eg_I := .inl (174, 3, .ifCond .ge (30), 204, 0) :: c_M_tellMiddle_177
def c_M_tellMiddle_173 : List eg_I := .inl (173, 1, .lcmp, 0, 0) :: c_M_tellMiddle_174
def c_M_tellMiddle_172 : List eg_I := .inl (172, 1, .sipush (0), 0, 0) :: c_M_tellMiddle_173
def c_M_tellMiddle_169 : List eg_I := .inl (169, 3, .getfield 218, 12, 36) :: c_M_tellMiddle_172
def c_M_tellMiddle_168 : List eg_I := .inl (168, 1, .aload 0, 0, 0) :: c_M_tellMiddle_169
def c_M_tellMiddle_165 : List eg_I := .inl (165, 3, .putfield 224, 12, 35) :: c_M_tellMiddle_168
def c_M_tellMiddle_164 : List eg_I := .inl (164, 1, .lsub, 0, 0) :: c_M_tellMiddle_165
def c_M_tellMiddle_163 : List eg_I := .inl (163, 1, .lmul, 0, 0) :: c_M_tellMiddle_164
def c_M_tellMiddle_161 : List eg_I := .inl (161, 2, .lload 14, 0, 0) :: c_M_tellMiddle_163
def c_M_tellMiddle_159 : List eg_I := .inl (159, 2, .lload 10, 0, 0) :: c_M_tellMiddle_161
def c_M_tellMiddle_158 : List eg_I := .inl (158, 1, .lmul, 0, 0) :: c_M_tellMiddle_159
def c_M_tellMiddle_156 : List eg_I := .inl (156, 2, .lload 16, 0, 0) :: c_M_tellMiddle_158
def c_M_tellMiddle_154 : List eg_I := .inl (154, 2, .lload 6, 0, 0) :: c_M_tellMiddle_156
def c_M_tellMiddle_153 : List eg_I := .inl (153, 1, .aload 0, 0, 0) :: c_M_tellMiddle_154
def c_M_tellMiddle_150 : List eg_I := .inl (150, 3, .putfield 221, 12, 34) :: c_M_tellMiddle_153
def c_M_tellMiddle_149 : List eg_I := .inl (149, 1, .lsub, 0, 0) :: c_M_tellMiddle_150
def c_M_tellMiddle_148 : List eg_I := .inl (148, 1, .lmul, 0, 0) :: c_M_tellMiddle_149
def c_M_tellMiddle_146 : List eg_I := .inl (146, 2, .lload 16, 0, 0) :: c_M_tellMiddle_148
def c_M_tellMiddle_144 : List eg_I := .inl (144, 2, .lload 8, 0, 0) :: c_M_tellMiddle_146
def c_M_tellMiddle_143 : List eg_I := .inl (143, 1, .lmul, 0, 0) :: c_M_tellMiddle_144
def c_M_tellMiddle_141 : List eg_I := .inl (141, 2, .lload 14, 0, 0) :: c_M_tellMiddle_143
def c_M_tellMiddle_139 : List eg_I := .inl (139, 2, .lload 12, 0, 0) :: c_M_tellMiddle_141
def c_M_tellMiddle_138 : List eg_I := .inl (138, 1, .aload 0, 0, 0) :: c_M_tellMiddle_139
def c_M_tellMiddle_135 : List eg_I := .inl (135, 3, .putfield 218, 12, 36) :: c_M_tellMiddle_138
def c_M_tellMiddle_134 : List eg_I := .inl (134, 1, .lmul, 0, 0) :: c_M_tellMiddle_135
def c_M_tellMiddle_133 : List eg_I := .inl (133, 1, .lsub, 0, 0) :: c_M_tellMiddle_134
def c_M_tellMiddle_132 : List eg_I := .inl (132, 1, .lmul, 0, 0) :: c_M_tellMiddle_133
def c_M_tellMiddle_130 : List eg_I := .inl (130, 2, .lload 10, 0, 0) :: c_M_tellMiddle_132
def c_M_tellMiddle_128 : List eg_I := .inl (128, 2, .lload 8, 0, 0) :: c_M_tellMiddle_130
def c_M_tellMiddle_127 : List eg_I := .inl (127, 1, .lmul, 0, 0) :: c_M_tellMiddle_128
def c_M_tellMiddle_125 : List eg_I := .inl (125, 2, .lload 12, 0, 0) :: c_M_tellMiddle_127
def c_M_tellMiddle_123 : List eg_I := .inl (123, 2, .lload 6, 0, 0) :: c_M_tellMiddle_125
def c_M_tellMiddle_120 : List eg_I := .inl (120, 3, .sipush (2), 216, 0) :: c_M_tellMiddle_123
def c_M_tellMiddle_119 : List eg_I := .inl (119, 1, .aload 0, 0, 0) :: c_M_tellMiddle_120
def c_M_tellMiddle_117 : List eg_I := .inl (117, 2, .lstore 16, 0, 0) :: c_M_tellMiddle_119
def c_M_tellMiddle_116 : List eg_I := .inl (116, 1, .ladd, 0, 0) :: c_M_tellMiddle_117
def c_M_tellMiddle_115 : List eg_I := .inl (115, 1, .lmul, 0, 0) :: c_M_tellMiddle_116
def c_M_tellMiddle_113 : List eg_I := .inl (113, 2, .lload 12, 0, 0) :: c_M_tellMiddle_115
def c_M_tellMiddle_111 : List eg_I := .inl (111, 2, .lload 12, 0, 0) :: c_M_tellMiddle_113
def c_M_tellMiddle_110 : List eg_I := .inl (110, 1, .lmul, 0, 0) :: c_M_tellMiddle_111
def c_M_tellMiddle_108 : List eg_I := .inl (108, 2, .lload 10, 0, 0) :: c_M_tellMiddle_110
def c_M_tellMiddle_106 : List eg_I := .inl (106, 2, .lload 10, 0, 0) :: c_M_tellMiddle_108
def c_M_tellMiddle_104 : List eg_I := .inl (104, 2, .lstore 14, 0, 0) :: c_M_tellMiddle_106
def c_M_tellMiddle_103 : List eg_I := .inl (103, 1, .ladd, 0, 0) :: c_M_tellMiddle_104
def c_M_tellMiddle_102 : List eg_I := .inl (102, 1, .lmul, 0, 0) :: c_M_tellMiddle_103
def c_M_tellMiddle_100 : List eg_I := .inl (100, 2, .lload 8, 0, 0) :: c_M_tellMiddle_102
def c_M_tellMiddle_98 : List eg_I := .inl (98, 2, .lload 8, 0, 0) :: c_M_tellMiddle_100
def c_M_tellMiddle_97 : List eg_I := .inl (97, 1, .lmul, 0, 0) :: c_M_tellMiddle_98
def c_M_tellMiddle_95 : List eg_I := .inl (95, 2, .lload 6, 0, 0) :: c_M_tellMiddle_97
def c_M_tellMiddle_93 : List eg_I := .inl (93, 2, .lload 6, 0, 0) :: c_M_tellMiddle_95
def c_M_tellMiddle_91 : List eg_I := .inl (91, 2, .lstore 12, 0, 0) :: c_M_tellMiddle_93
def c_M_tellMiddle_90 : List eg_I := .inl (90, 1, .i2l, 0, 0) :: c_M_tellMiddle_91
def c_M_tellMiddle_89 : List eg_I := .inl (89, 1, .isub, 0, 0) :: c_M_tellMiddle_90
def c_M_tellMiddle_88 : List eg_I := .inl (88, 1, .iaload, 0, 0) :: c_M_tellMiddle_89
def c_M_tellMiddle_86 : List eg_I := .inl (86, 2, .iload 5, 0, 0) :: c_M_tellMiddle_88
def c_M_tellMiddle_83 : List eg_I := .inl (83, 3, .getfield 16, 12, 2) :: c_M_tellMiddle_86
def c_M_tellMiddle_82 : List eg_I := .inl (82, 1, .aload 0, 0, 0) :: c_M_tellMiddle_83
def c_M_tellMiddle_81 : List eg_I := .inl (81, 1, .iaload, 0, 0) :: c_M_tellMiddle_82
def c_M_tellMiddle_78 : List eg_I := .inr (78, 0, 103, n_M_at_II, 2, 12, 0, 0) :: c_M_tellMiddle_81
def c_M_tellMiddle_76 : List eg_I := .inl (76, 2, .iload 4, 0, 0) :: c_M_tellMiddle_78
def c_M_tellMiddle_75 : List eg_I := .inl (75, 1, .iload 1, 0, 0) :: c_M_tellMiddle_76
def c_M_tellMiddle_72 : List eg_I := .inl (72, 3, .getfield 16, 12, 2) :: c_M_tellMiddle_75
def c_M_tellMiddle_71 : List eg_I := .inl (71, 1, .aload 0, 0, 0) :: c_M_tellMiddle_72
def c_M_tellMiddle_69 : List eg_I := .inl (69, 2, .lstore 10, 0, 0) :: c_M_tellMiddle_71
def c_M_tellMiddle_68 : List eg_I := .inl (68, 1, .i2l, 0, 0) :: c_M_tellMiddle_69
def c_M_tellMiddle_67 : List eg_I := .inl (67, 1, .isub, 0, 0) :: c_M_tellMiddle_68
def c_M_tellMiddle_66 : List eg_I := .inl (66, 1, .iaload, 0, 0) :: c_M_tellMiddle_67
def c_M_tellMiddle_64 : List eg_I := .inl (64, 2, .iload 5, 0, 0) :: c_M_tellMiddle_66
def c_M_tellMiddle_61 : List eg_I := .inl (61, 3, .getfield 13, 12, 1) :: c_M_tellMiddle_64
def c_M_tellMiddle_60 : List eg_I := .inl (60, 1, .aload 0, 0, 0) :: c_M_tellMiddle_61
def c_M_tellMiddle_59 : List eg_I := .inl (59, 1, .iaload, 0, 0) :: c_M_tellMiddle_60
def c_M_tellMiddle_56 : List eg_I := .inr (56, 0, 103, n_M_at_II, 2, 12, 0, 0) :: c_M_tellMiddle_59
def c_M_tellMiddle_54 : List eg_I := .inl (54, 2, .iload 4, 0, 0) :: c_M_tellMiddle_56
def c_M_tellMiddle_53 : List eg_I := .inl (53, 1, .iload 1, 0, 0) :: c_M_tellMiddle_54
def c_M_tellMiddle_50 : List eg_I := .inl (50, 3, .getfield 13, 12, 1) :: c_M_tellMiddle_53
def c_M_tellMiddle_49 : List eg_I := .inl (49, 1, .aload 0, 0, 0) :: c_M_tellMiddle_50
def c_M_tellMiddle_47 : List eg_I := .inl (47, 2, .lstore 8, 0, 0) :: c_M_tellMiddle_49
def c_M_tellMiddle_46 : List eg_I := .inl (46, 1, .i2l, 0, 0) :: c_M_tellMiddle_47
def c_M_tellMiddle_45 : List eg_I := .inl (45, 1, .isub, 0, 0) :: c_M_tellMiddle_46
def c_M_tellMiddle_44 : List eg_I := .inl (44, 1, .iaload, 0, 0) :: c_M_tellMiddle_45
def c_M_tellMiddle_42 : List eg_I := .inl (42, 2, .iload 5, 0, 0) :: c_M_tellMiddle_44
def c_M_tellMiddle_39 : List eg_I := .inl (39, 3, .getfield 16, 12, 2) :: c_M_tellMiddle_42
def c_M_tellMiddle_38 : List eg_I := .inl (38, 1, .aload 0, 0, 0) :: c_M_tellMiddle_39
def c_M_tellMiddle_37 : List eg_I := .inl (37, 1, .iaload, 0, 0) :: c_M_tellMiddle_38
def c_M_tellMiddle_34 : List eg_I := .inr (34, 0, 103, n_M_at_II, 2, 12, 0, 0) :: c_M_tellMiddle_37
def c_M_tellMiddle_33 : List eg_I := .inl (33, 1, .iload 3, 0, 0) :: c_M_tellMiddle_34
def c_M_tellMiddle_32 : List eg_I := .inl (32, 1, .iload 1, 0, 0) :: c_M_tellMiddle_33
def c_M_tellMiddle_29 : List eg_I := .inl (29, 3, .getfield 16, 12, 2) :: c_M_tellMiddle_32
def c_M_tellMiddle_28 : List eg_I := .inl (28, 1, .aload 0, 0, 0) :: c_M_tellMiddle_29
def c_M_tellMiddle_26 : List eg_I := .inl (26, 2, .lstore 6, 0, 0) :: c_M_tellMiddle_28
def c_M_tellMiddle_25 : List eg_I := .inl (25, 1, .i2l, 0, 0) :: c_M_tellMiddle_26
def c_M_tellMiddle_24 : List eg_I := .inl (24, 1, .isub, 0, 0) :: c_M_tellMiddle_25
def c_M_tellMiddle_23 : List eg_I := .inl (23, 1, .iaload, 0, 0) :: c_M_tellMiddle_24
def c_M_tellMiddle_21 : List eg_I := .inl (21, 2, .iload 5, 0, 0) :: c_M_tellMiddle_23
def c_M_tellMiddle_18 : List eg_I := .inl (18, 3, .getfield 13, 12, 1) :: c_M_tellMiddle_21
def c_M_tellMiddle_17 : List eg_I := .inl (17, 1, .aload 0, 0, 0) :: c_M_tellMiddle_18
def c_M_tellMiddle_16 : List eg_I := .inl (16, 1, .iaload, 0, 0) :: c_M_tellMiddle_17
def c_M_tellMiddle_13 : List eg_I := .inr (13, 0, 103, n_M_at_II, 2, 12, 0, 0) :: c_M_tellMiddle_16
def c_M_tellMiddle_12 : List eg_I := .inl (12, 1, .iload 3, 0, 0) :: c_M_tellMiddle_13
def c_M_tellMiddle_11 : List eg_I := .inl (11, 1, .iload 1, 0, 0) :: c_M_tellMiddle_12
def c_M_tellMiddle_8 : List eg_I := .inl (8, 3, .getfield 13, 12, 1) :: c_M_tellMiddle_11
def c_M_tellMiddle_7 : List eg_I := .inl (7, 1, .aload 0, 0, 0) :: c_M_tellMiddle_8
def c_M_tellMiddle_5 : List eg_I := .inl (5, 2, .istore 5, 0, 0) :: c_M_tellMiddle_7
def c_M_tellMiddle_2 : List eg_I := .inr (2, 0, 103, n_M_at_II, 2, 12, 0, 0) :: c_M_tellMiddle_5
def c_M_tellMiddle_1 : List eg_I := .inl (1, 1, .iload 2, 0, 0) :: c_M_tellMiddle_2
def c_M_tellMiddle_0 : List eg_I := .inl (0, 1, .iload 1, 0, 0) :: c_M_tellMiddle_1
section
variable {rm : Room} {K : Nat → Nat → Nat → eg_Lo → List Value → List eg_E → Prop} {Q : Option Value → List eg_E → Prop} {kc ks : Nat} {loc : eg_Lo} {st : List Value} {h : List eg_E}
theorem s_M_tellMiddle_0 {x : Int32} {l0 : Option Value} {l : eg_Lo} : wps rm K Q c_M_tellMiddle_0 kc ks (l0 :: some (.int x) :: l) (st) h = wps rm K Q c_M_tellMiddle_1 kc ks (l0 :: some (.int x) :: l) (.int x :: st) h := gk_iload rfl
theorem s_M_tellMiddle_1 {x : Int32} {l0 l1 : Option Value} {l : eg_Lo} : wps rm K Q c_M_tellMiddle_1 kc ks (l0 :: l1 :: some (.int x) :: l) (st) h = wps rm K Q c_M_tellMiddle_2 kc ks (l0 :: l1 :: some (.int x) :: l) (.int x :: st) h := gk_iload rfl
theorem s_M_tellMiddle_2  {a1 : Value} {a2 : Value} : wps rm K Q c_M_tellMiddle_2 kc ks loc (a2 :: a1 :: st) h = (st.length ≤ 4 ∧ eg_Cs n_M_at_II [a1, a2] h (fun v h9 => wps rm K Q c_M_tellMiddle_5 kc ks loc (v.toList ++ st) h9)) := eg_c0_2
theorem s_M_tellMiddle_5 {x : Int32} : wps rm K Q c_M_tellMiddle_5 kc ks loc (.int x :: st) h = wps rm K Q c_M_tellMiddle_7 kc ks (eg_set1 loc 5 (.int x)) (st) h := gk_istore
theorem s_M_tellMiddle_7 {x : Nat} {l : eg_Lo} : wps rm K Q c_M_tellMiddle_7 kc ks (some (.ref x) :: l) (st) h = wps rm K Q c_M_tellMiddle_8 kc ks (some (.ref x) :: l) (.ref x :: st) h := gk_aload rfl
theorem s_M_tellMiddle_8 {x : Nat} : wps rm K Q c_M_tellMiddle_8 kc ks loc (.ref (x + 1) :: st) h = eg_gf h x 12 1 (fun v => wps rm K Q c_M_tellMiddle_11 kc ks loc (v :: st) h) := gk_gf
theorem s_M_tellMiddle_11 {x : Int32} {l0 : Option Value} {l : eg_Lo} : wps rm K Q c_M_tellMiddle_11 kc ks (l0 :: some (.int x) :: l) (st) h = wps rm K Q c_M_tellMiddle_12 kc ks (l0 :: some (.int x) :: l) (.int x :: st) h := gk_iload rfl
theorem s_M_tellMiddle_12 {x : Int32} {l0 l1 l2 : Option Value} {l : eg_Lo} : wps rm K Q c_M_tellMiddle_12 kc ks (l0 :: l1 :: l2 :: some (.int x) :: l) (st) h = wps rm K Q c_M_tellMiddle_13 kc ks (l0 :: l1 :: l2 :: some (.int x) :: l) (.int x :: st) h := gk_iload rfl
theorem s_M_tellMiddle_13  {a1 : Value} {a2 : Value} : wps rm K Q c_M_tellMiddle_13 kc ks loc (a2 :: a1 :: st) h = (st.length ≤ 4 ∧ eg_Cs n_M_at_II [a1, a2] h (fun v h9 => wps rm K Q c_M_tellMiddle_16 kc ks loc (v.toList ++ st) h9)) := eg_c0_2
theorem s_M_tellMiddle_16 {x : Nat} {i : Int32} : wps rm K Q c_M_tellMiddle_16 kc ks loc (.int i :: .ref (x + 1) :: st) h = eg_ia h x i (fun v => wps rm K Q c_M_tellMiddle_17 kc ks loc (.int v :: st) h) := gk_iaload
theorem s_M_tellMiddle_17 {x : Nat} {l : eg_Lo} : wps rm K Q c_M_tellMiddle_17 kc ks (some (.ref x) :: l) (st) h = wps rm K Q c_M_tellMiddle_18 kc ks (some (.ref x) :: l) (.ref x :: st) h := gk_aload rfl
theorem s_M_tellMiddle_18 {x : Nat} : wps rm K Q c_M_tellMiddle_18 kc ks loc (.ref (x + 1) :: st) h = eg_gf h x 12 1 (fun v => wps rm K Q c_M_tellMiddle_21 kc ks loc (v :: st) h) := gk_gf
theorem s_M_tellMiddle_21 {x : Int32} {l0 l1 l2 l3 l4 : Option Value} {l : eg_Lo} : wps rm K Q c_M_tellMiddle_21 kc ks (l0 :: l1 :: l2 :: l3 :: l4 :: some (.int x) :: l) (st) h = wps rm K Q c_M_tellMiddle_23 kc ks (l0 :: l1 :: l2 :: l3 :: l4 :: some (.int x) :: l) (.int x :: st) h := gk_iload rfl
theorem s_M_tellMiddle_23 {x : Nat} {i : Int32} : wps rm K Q c_M_tellMiddle_23 kc ks loc (.int i :: .ref (x + 1) :: st) h = eg_ia h x i (fun v => wps rm K Q c_M_tellMiddle_24 kc ks loc (.int v :: st) h) := gk_iaload
theorem s_M_tellMiddle_24 {x y : Int32} : wps rm K Q c_M_tellMiddle_24 kc ks loc (.int y :: .int x :: st) h = wps rm K Q c_M_tellMiddle_25 kc ks loc (.int (x - y) :: st) h := gk_isub
theorem s_M_tellMiddle_25 {x : Int32} : wps rm K Q c_M_tellMiddle_25 kc ks loc (.int x :: st) h = wps rm K Q c_M_tellMiddle_26 kc ks loc (.long (x.toInt64) :: st) h := gk_i2l
theorem s_M_tellMiddle_26 {x : Int64} : wps rm K Q c_M_tellMiddle_26 kc ks loc (.long x :: st) h = wps rm K Q c_M_tellMiddle_28 kc ks (eg_set2 loc 6 (.long x)) (st) h := gk_lstore
theorem s_M_tellMiddle_28 {x : Nat} {l : eg_Lo} : wps rm K Q c_M_tellMiddle_28 kc ks (some (.ref x) :: l) (st) h = wps rm K Q c_M_tellMiddle_29 kc ks (some (.ref x) :: l) (.ref x :: st) h := gk_aload rfl
theorem s_M_tellMiddle_29 {x : Nat} : wps rm K Q c_M_tellMiddle_29 kc ks loc (.ref (x + 1) :: st) h = eg_gf h x 12 2 (fun v => wps rm K Q c_M_tellMiddle_32 kc ks loc (v :: st) h) := gk_gf
theorem s_M_tellMiddle_32 {x : Int32} {l0 : Option Value} {l : eg_Lo} : wps rm K Q c_M_tellMiddle_32 kc ks (l0 :: some (.int x) :: l) (st) h = wps rm K Q c_M_tellMiddle_33 kc ks (l0 :: some (.int x) :: l) (.int x :: st) h := gk_iload rfl
theorem s_M_tellMiddle_33 {x : Int32} {l0 l1 l2 : Option Value} {l : eg_Lo} : wps rm K Q c_M_tellMiddle_33 kc ks (l0 :: l1 :: l2 :: some (.int x) :: l) (st) h = wps rm K Q c_M_tellMiddle_34 kc ks (l0 :: l1 :: l2 :: some (.int x) :: l) (.int x :: st) h := gk_iload rfl
theorem s_M_tellMiddle_34  {a1 : Value} {a2 : Value} : wps rm K Q c_M_tellMiddle_34 kc ks loc (a2 :: a1 :: st) h = (st.length ≤ 4 ∧ eg_Cs n_M_at_II [a1, a2] h (fun v h9 => wps rm K Q c_M_tellMiddle_37 kc ks loc (v.toList ++ st) h9)) := eg_c0_2
theorem s_M_tellMiddle_37 {x : Nat} {i : Int32} : wps rm K Q c_M_tellMiddle_37 kc ks loc (.int i :: .ref (x + 1) :: st) h = eg_ia h x i (fun v => wps rm K Q c_M_tellMiddle_38 kc ks loc (.int v :: st) h) := gk_iaload
theorem s_M_tellMiddle_38 {x : Nat} {l : eg_Lo} : wps rm K Q c_M_tellMiddle_38 kc ks (some (.ref x) :: l) (st) h = wps rm K Q c_M_tellMiddle_39 kc ks (some (.ref x) :: l) (.ref x :: st) h := gk_aload rfl
theorem s_M_tellMiddle_39 {x : Nat} : wps rm K Q c_M_tellMiddle_39 kc ks loc (.ref (x + 1) :: st) h = eg_gf h x 12 2 (fun v => wps rm K Q c_M_tellMiddle_42 kc ks loc (v :: st) h) := gk_gf
theorem s_M_tellMiddle_42 {x : Int32} {l0 l1 l2 l3 l4 : Option Value} {l : eg_Lo} : wps rm K Q c_M_tellMiddle_42 kc ks (l0 :: l1 :: l2 :: l3 :: l4 :: some (.int x) :: l) (st) h = wps rm K Q c_M_tellMiddle_44 kc ks (l0 :: l1 :: l2 :: l3 :: l4 :: some (.int x) :: l) (.int x :: st) h := gk_iload rfl
theorem s_M_tellMiddle_44 {x : Nat} {i : Int32} : wps rm K Q c_M_tellMiddle_44 kc ks loc (.int i :: .ref (x + 1) :: st) h = eg_ia h x i (fun v => wps rm K Q c_M_tellMiddle_45 kc ks loc (.int v :: st) h) := gk_iaload
theorem s_M_tellMiddle_45 {x y : Int32} : wps rm K Q c_M_tellMiddle_45 kc ks loc (.int y :: .int x :: st) h = wps rm K Q c_M_tellMiddle_46 kc ks loc (.int (x - y) :: st) h := gk_isub
theorem s_M_tellMiddle_46 {x : Int32} : wps rm K Q c_M_tellMiddle_46 kc ks loc (.int x :: st) h = wps rm K Q c_M_tellMiddle_47 kc ks loc (.long (x.toInt64) :: st) h := gk_i2l
theorem s_M_tellMiddle_47 {x : Int64} : wps rm K Q c_M_tellMiddle_47 kc ks loc (.long x :: st) h = wps rm K Q c_M_tellMiddle_49 kc ks (eg_set2 loc 8 (.long x)) (st) h := gk_lstore
theorem s_M_tellMiddle_49 {x : Nat} {l : eg_Lo} : wps rm K Q c_M_tellMiddle_49 kc ks (some (.ref x) :: l) (st) h = wps rm K Q c_M_tellMiddle_50 kc ks (some (.ref x) :: l) (.ref x :: st) h := gk_aload rfl
theorem s_M_tellMiddle_50 {x : Nat} : wps rm K Q c_M_tellMiddle_50 kc ks loc (.ref (x + 1) :: st) h = eg_gf h x 12 1 (fun v => wps rm K Q c_M_tellMiddle_53 kc ks loc (v :: st) h) := gk_gf
theorem s_M_tellMiddle_53 {x : Int32} {l0 : Option Value} {l : eg_Lo} : wps rm K Q c_M_tellMiddle_53 kc ks (l0 :: some (.int x) :: l) (st) h = wps rm K Q c_M_tellMiddle_54 kc ks (l0 :: some (.int x) :: l) (.int x :: st) h := gk_iload rfl
theorem s_M_tellMiddle_54 {x : Int32} {l0 l1 l2 l3 : Option Value} {l : eg_Lo} : wps rm K Q c_M_tellMiddle_54 kc ks (l0 :: l1 :: l2 :: l3 :: some (.int x) :: l) (st) h = wps rm K Q c_M_tellMiddle_56 kc ks (l0 :: l1 :: l2 :: l3 :: some (.int x) :: l) (.int x :: st) h := gk_iload rfl
theorem s_M_tellMiddle_56  {a1 : Value} {a2 : Value} : wps rm K Q c_M_tellMiddle_56 kc ks loc (a2 :: a1 :: st) h = (st.length ≤ 4 ∧ eg_Cs n_M_at_II [a1, a2] h (fun v h9 => wps rm K Q c_M_tellMiddle_59 kc ks loc (v.toList ++ st) h9)) := eg_c0_2
theorem s_M_tellMiddle_59 {x : Nat} {i : Int32} : wps rm K Q c_M_tellMiddle_59 kc ks loc (.int i :: .ref (x + 1) :: st) h = eg_ia h x i (fun v => wps rm K Q c_M_tellMiddle_60 kc ks loc (.int v :: st) h) := gk_iaload
theorem s_M_tellMiddle_60 {x : Nat} {l : eg_Lo} : wps rm K Q c_M_tellMiddle_60 kc ks (some (.ref x) :: l) (st) h = wps rm K Q c_M_tellMiddle_61 kc ks (some (.ref x) :: l) (.ref x :: st) h := gk_aload rfl
theorem s_M_tellMiddle_61 {x : Nat} : wps rm K Q c_M_tellMiddle_61 kc ks loc (.ref (x + 1) :: st) h = eg_gf h x 12 1 (fun v => wps rm K Q c_M_tellMiddle_64 kc ks loc (v :: st) h) := gk_gf
theorem s_M_tellMiddle_64 {x : Int32} {l0 l1 l2 l3 l4 : Option Value} {l : eg_Lo} : wps rm K Q c_M_tellMiddle_64 kc ks (l0 :: l1 :: l2 :: l3 :: l4 :: some (.int x) :: l) (st) h = wps rm K Q c_M_tellMiddle_66 kc ks (l0 :: l1 :: l2 :: l3 :: l4 :: some (.int x) :: l) (.int x :: st) h := gk_iload rfl
theorem s_M_tellMiddle_66 {x : Nat} {i : Int32} : wps rm K Q c_M_tellMiddle_66 kc ks loc (.int i :: .ref (x + 1) :: st) h = eg_ia h x i (fun v => wps rm K Q c_M_tellMiddle_67 kc ks loc (.int v :: st) h) := gk_iaload
theorem s_M_tellMiddle_67 {x y : Int32} : wps rm K Q c_M_tellMiddle_67 kc ks loc (.int y :: .int x :: st) h = wps rm K Q c_M_tellMiddle_68 kc ks loc (.int (x - y) :: st) h := gk_isub
theorem s_M_tellMiddle_68 {x : Int32} : wps rm K Q c_M_tellMiddle_68 kc ks loc (.int x :: st) h = wps rm K Q c_M_tellMiddle_69 kc ks loc (.long (x.toInt64) :: st) h := gk_i2l
theorem s_M_tellMiddle_69 {x : Int64} : wps rm K Q c_M_tellMiddle_69 kc ks loc (.long x :: st) h = wps rm K Q c_M_tellMiddle_71 kc ks (eg_set2 loc 10 (.long x)) (st) h := gk_lstore
theorem s_M_tellMiddle_71 {x : Nat} {l : eg_Lo} : wps rm K Q c_M_tellMiddle_71 kc ks (some (.ref x) :: l) (st) h = wps rm K Q c_M_tellMiddle_72 kc ks (some (.ref x) :: l) (.ref x :: st) h := gk_aload rfl
theorem s_M_tellMiddle_72 {x : Nat} : wps rm K Q c_M_tellMiddle_72 kc ks loc (.ref (x + 1) :: st) h = eg_gf h x 12 2 (fun v => wps rm K Q c_M_tellMiddle_75 kc ks loc (v :: st) h) := gk_gf
theorem s_M_tellMiddle_75 {x : Int32} {l0 : Option Value} {l : eg_Lo} : wps rm K Q c_M_tellMiddle_75 kc ks (l0 :: some (.int x) :: l) (st) h = wps rm K Q c_M_tellMiddle_76 kc ks (l0 :: some (.int x) :: l) (.int x :: st) h := gk_iload rfl
theorem s_M_tellMiddle_76 {x : Int32} {l0 l1 l2 l3 : Option Value} {l : eg_Lo} : wps rm K Q c_M_tellMiddle_76 kc ks (l0 :: l1 :: l2 :: l3 :: some (.int x) :: l) (st) h = wps rm K Q c_M_tellMiddle_78 kc ks (l0 :: l1 :: l2 :: l3 :: some (.int x) :: l) (.int x :: st) h := gk_iload rfl
theorem s_M_tellMiddle_78  {a1 : Value} {a2 : Value} : wps rm K Q c_M_tellMiddle_78 kc ks loc (a2 :: a1 :: st) h = (st.length ≤ 4 ∧ eg_Cs n_M_at_II [a1, a2] h (fun v h9 => wps rm K Q c_M_tellMiddle_81 kc ks loc (v.toList ++ st) h9)) := eg_c0_2
theorem s_M_tellMiddle_81 {x : Nat} {i : Int32} : wps rm K Q c_M_tellMiddle_81 kc ks loc (.int i :: .ref (x + 1) :: st) h = eg_ia h x i (fun v => wps rm K Q c_M_tellMiddle_82 kc ks loc (.int v :: st) h) := gk_iaload
theorem s_M_tellMiddle_82 {x : Nat} {l : eg_Lo} : wps rm K Q c_M_tellMiddle_82 kc ks (some (.ref x) :: l) (st) h = wps rm K Q c_M_tellMiddle_83 kc ks (some (.ref x) :: l) (.ref x :: st) h := gk_aload rfl
theorem s_M_tellMiddle_83 {x : Nat} : wps rm K Q c_M_tellMiddle_83 kc ks loc (.ref (x + 1) :: st) h = eg_gf h x 12 2 (fun v => wps rm K Q c_M_tellMiddle_86 kc ks loc (v :: st) h) := gk_gf
theorem s_M_tellMiddle_86 {x : Int32} {l0 l1 l2 l3 l4 : Option Value} {l : eg_Lo} : wps rm K Q c_M_tellMiddle_86 kc ks (l0 :: l1 :: l2 :: l3 :: l4 :: some (.int x) :: l) (st) h = wps rm K Q c_M_tellMiddle_88 kc ks (l0 :: l1 :: l2 :: l3 :: l4 :: some (.int x) :: l) (.int x :: st) h := gk_iload rfl
theorem s_M_tellMiddle_88 {x : Nat} {i : Int32} : wps rm K Q c_M_tellMiddle_88 kc ks loc (.int i :: .ref (x + 1) :: st) h = eg_ia h x i (fun v => wps rm K Q c_M_tellMiddle_89 kc ks loc (.int v :: st) h) := gk_iaload
theorem s_M_tellMiddle_89 {x y : Int32} : wps rm K Q c_M_tellMiddle_89 kc ks loc (.int y :: .int x :: st) h = wps rm K Q c_M_tellMiddle_90 kc ks loc (.int (x - y) :: st) h := gk_isub
theorem s_M_tellMiddle_90 {x : Int32} : wps rm K Q c_M_tellMiddle_90 kc ks loc (.int x :: st) h = wps rm K Q c_M_tellMiddle_91 kc ks loc (.long (x.toInt64) :: st) h := gk_i2l
theorem s_M_tellMiddle_91 {x : Int64} : wps rm K Q c_M_tellMiddle_91 kc ks loc (.long x :: st) h = wps rm K Q c_M_tellMiddle_93 kc ks (eg_set2 loc 12 (.long x)) (st) h := gk_lstore
theorem s_M_tellMiddle_93 {x : Int64} {l0 l1 l2 l3 l4 l5 : Option Value} {l : eg_Lo} : wps rm K Q c_M_tellMiddle_93 kc ks (l0 :: l1 :: l2 :: l3 :: l4 :: l5 :: some (.long x) :: l) (st) h = wps rm K Q c_M_tellMiddle_95 kc ks (l0 :: l1 :: l2 :: l3 :: l4 :: l5 :: some (.long x) :: l) (.long x :: st) h := gk_lload rfl
theorem s_M_tellMiddle_95 {x : Int64} {l0 l1 l2 l3 l4 l5 : Option Value} {l : eg_Lo} : wps rm K Q c_M_tellMiddle_95 kc ks (l0 :: l1 :: l2 :: l3 :: l4 :: l5 :: some (.long x) :: l) (st) h = wps rm K Q c_M_tellMiddle_97 kc ks (l0 :: l1 :: l2 :: l3 :: l4 :: l5 :: some (.long x) :: l) (.long x :: st) h := gk_lload rfl
theorem s_M_tellMiddle_97 {x y : Int64} : wps rm K Q c_M_tellMiddle_97 kc ks loc (.long y :: .long x :: st) h = wps rm K Q c_M_tellMiddle_98 kc ks loc (.long (x * y) :: st) h := gk_lmul
theorem s_M_tellMiddle_98 {x : Int64} {l0 l1 l2 l3 l4 l5 l6 l7 : Option Value} {l : eg_Lo} : wps rm K Q c_M_tellMiddle_98 kc ks (l0 :: l1 :: l2 :: l3 :: l4 :: l5 :: l6 :: l7 :: some (.long x) :: l) (st) h = wps rm K Q c_M_tellMiddle_100 kc ks (l0 :: l1 :: l2 :: l3 :: l4 :: l5 :: l6 :: l7 :: some (.long x) :: l) (.long x :: st) h := gk_lload rfl
theorem s_M_tellMiddle_100 {x : Int64} {l0 l1 l2 l3 l4 l5 l6 l7 : Option Value} {l : eg_Lo} : wps rm K Q c_M_tellMiddle_100 kc ks (l0 :: l1 :: l2 :: l3 :: l4 :: l5 :: l6 :: l7 :: some (.long x) :: l) (st) h = wps rm K Q c_M_tellMiddle_102 kc ks (l0 :: l1 :: l2 :: l3 :: l4 :: l5 :: l6 :: l7 :: some (.long x) :: l) (.long x :: st) h := gk_lload rfl
theorem s_M_tellMiddle_102 {x y : Int64} : wps rm K Q c_M_tellMiddle_102 kc ks loc (.long y :: .long x :: st) h = wps rm K Q c_M_tellMiddle_103 kc ks loc (.long (x * y) :: st) h := gk_lmul
theorem s_M_tellMiddle_103 {x y : Int64} : wps rm K Q c_M_tellMiddle_103 kc ks loc (.long y :: .long x :: st) h = wps rm K Q c_M_tellMiddle_104 kc ks loc (.long (x + y) :: st) h := gk_ladd
theorem s_M_tellMiddle_104 {x : Int64} : wps rm K Q c_M_tellMiddle_104 kc ks loc (.long x :: st) h = wps rm K Q c_M_tellMiddle_106 kc ks (eg_set2 loc 14 (.long x)) (st) h := gk_lstore
theorem s_M_tellMiddle_106 {x : Int64} {l0 l1 l2 l3 l4 l5 l6 l7 l8 l9 : Option Value} {l : eg_Lo} : wps rm K Q c_M_tellMiddle_106 kc ks (l0 :: l1 :: l2 :: l3 :: l4 :: l5 :: l6 :: l7 :: l8 :: l9 :: some (.long x) :: l) (st) h = wps rm K Q c_M_tellMiddle_108 kc ks (l0 :: l1 :: l2 :: l3 :: l4 :: l5 :: l6 :: l7 :: l8 :: l9 :: some (.long x) :: l) (.long x :: st) h := gk_lload rfl
theorem s_M_tellMiddle_108 {x : Int64} {l0 l1 l2 l3 l4 l5 l6 l7 l8 l9 : Option Value} {l : eg_Lo} : wps rm K Q c_M_tellMiddle_108 kc ks (l0 :: l1 :: l2 :: l3 :: l4 :: l5 :: l6 :: l7 :: l8 :: l9 :: some (.long x) :: l) (st) h = wps rm K Q c_M_tellMiddle_110 kc ks (l0 :: l1 :: l2 :: l3 :: l4 :: l5 :: l6 :: l7 :: l8 :: l9 :: some (.long x) :: l) (.long x :: st) h := gk_lload rfl
theorem s_M_tellMiddle_110 {x y : Int64} : wps rm K Q c_M_tellMiddle_110 kc ks loc (.long y :: .long x :: st) h = wps rm K Q c_M_tellMiddle_111 kc ks loc (.long (x * y) :: st) h := gk_lmul
theorem s_M_tellMiddle_111 {x : Int64} {l0 l1 l2 l3 l4 l5 l6 l7 l8 l9 l10 l11 : Option Value} {l : eg_Lo} : wps rm K Q c_M_tellMiddle_111 kc ks (l0 :: l1 :: l2 :: l3 :: l4 :: l5 :: l6 :: l7 :: l8 :: l9 :: l10 :: l11 :: some (.long x) :: l) (st) h = wps rm K Q c_M_tellMiddle_113 kc ks (l0 :: l1 :: l2 :: l3 :: l4 :: l5 :: l6 :: l7 :: l8 :: l9 :: l10 :: l11 :: some (.long x) :: l) (.long x :: st) h := gk_lload rfl
theorem s_M_tellMiddle_113 {x : Int64} {l0 l1 l2 l3 l4 l5 l6 l7 l8 l9 l10 l11 : Option Value} {l : eg_Lo} : wps rm K Q c_M_tellMiddle_113 kc ks (l0 :: l1 :: l2 :: l3 :: l4 :: l5 :: l6 :: l7 :: l8 :: l9 :: l10 :: l11 :: some (.long x) :: l) (st) h = wps rm K Q c_M_tellMiddle_115 kc ks (l0 :: l1 :: l2 :: l3 :: l4 :: l5 :: l6 :: l7 :: l8 :: l9 :: l10 :: l11 :: some (.long x) :: l) (.long x :: st) h := gk_lload rfl
theorem s_M_tellMiddle_115 {x y : Int64} : wps rm K Q c_M_tellMiddle_115 kc ks loc (.long y :: .long x :: st) h = wps rm K Q c_M_tellMiddle_116 kc ks loc (.long (x * y) :: st) h := gk_lmul
theorem s_M_tellMiddle_116 {x y : Int64} : wps rm K Q c_M_tellMiddle_116 kc ks loc (.long y :: .long x :: st) h = wps rm K Q c_M_tellMiddle_117 kc ks loc (.long (x + y) :: st) h := gk_ladd
theorem s_M_tellMiddle_117 {x : Int64} : wps rm K Q c_M_tellMiddle_117 kc ks loc (.long x :: st) h = wps rm K Q c_M_tellMiddle_119 kc ks (eg_set2 loc 16 (.long x)) (st) h := gk_lstore
theorem s_M_tellMiddle_119 {x : Nat} {l : eg_Lo} : wps rm K Q c_M_tellMiddle_119 kc ks (some (.ref x) :: l) (st) h = wps rm K Q c_M_tellMiddle_120 kc ks (some (.ref x) :: l) (.ref x :: st) h := gk_aload rfl
theorem s_M_tellMiddle_120  : wps rm K Q c_M_tellMiddle_120 kc ks loc (st) h = wps rm K Q c_M_tellMiddle_123 kc ks loc (.long (2) :: st) h := gk_lc (by decide)
theorem s_M_tellMiddle_123 {x : Int64} {l0 l1 l2 l3 l4 l5 : Option Value} {l : eg_Lo} : wps rm K Q c_M_tellMiddle_123 kc ks (l0 :: l1 :: l2 :: l3 :: l4 :: l5 :: some (.long x) :: l) (st) h = wps rm K Q c_M_tellMiddle_125 kc ks (l0 :: l1 :: l2 :: l3 :: l4 :: l5 :: some (.long x) :: l) (.long x :: st) h := gk_lload rfl
theorem s_M_tellMiddle_125 {x : Int64} {l0 l1 l2 l3 l4 l5 l6 l7 l8 l9 l10 l11 : Option Value} {l : eg_Lo} : wps rm K Q c_M_tellMiddle_125 kc ks (l0 :: l1 :: l2 :: l3 :: l4 :: l5 :: l6 :: l7 :: l8 :: l9 :: l10 :: l11 :: some (.long x) :: l) (st) h = wps rm K Q c_M_tellMiddle_127 kc ks (l0 :: l1 :: l2 :: l3 :: l4 :: l5 :: l6 :: l7 :: l8 :: l9 :: l10 :: l11 :: some (.long x) :: l) (.long x :: st) h := gk_lload rfl
theorem s_M_tellMiddle_127 {x y : Int64} : wps rm K Q c_M_tellMiddle_127 kc ks loc (.long y :: .long x :: st) h = wps rm K Q c_M_tellMiddle_128 kc ks loc (.long (x * y) :: st) h := gk_lmul
theorem s_M_tellMiddle_128 {x : Int64} {l0 l1 l2 l3 l4 l5 l6 l7 : Option Value} {l : eg_Lo} : wps rm K Q c_M_tellMiddle_128 kc ks (l0 :: l1 :: l2 :: l3 :: l4 :: l5 :: l6 :: l7 :: some (.long x) :: l) (st) h = wps rm K Q c_M_tellMiddle_130 kc ks (l0 :: l1 :: l2 :: l3 :: l4 :: l5 :: l6 :: l7 :: some (.long x) :: l) (.long x :: st) h := gk_lload rfl
theorem s_M_tellMiddle_130 {x : Int64} {l0 l1 l2 l3 l4 l5 l6 l7 l8 l9 : Option Value} {l : eg_Lo} : wps rm K Q c_M_tellMiddle_130 kc ks (l0 :: l1 :: l2 :: l3 :: l4 :: l5 :: l6 :: l7 :: l8 :: l9 :: some (.long x) :: l) (st) h = wps rm K Q c_M_tellMiddle_132 kc ks (l0 :: l1 :: l2 :: l3 :: l4 :: l5 :: l6 :: l7 :: l8 :: l9 :: some (.long x) :: l) (.long x :: st) h := gk_lload rfl
theorem s_M_tellMiddle_132 {x y : Int64} : wps rm K Q c_M_tellMiddle_132 kc ks loc (.long y :: .long x :: st) h = wps rm K Q c_M_tellMiddle_133 kc ks loc (.long (x * y) :: st) h := gk_lmul
theorem s_M_tellMiddle_133 {x y : Int64} : wps rm K Q c_M_tellMiddle_133 kc ks loc (.long y :: .long x :: st) h = wps rm K Q c_M_tellMiddle_134 kc ks loc (.long (x - y) :: st) h := gk_lsub
theorem s_M_tellMiddle_134 {x y : Int64} : wps rm K Q c_M_tellMiddle_134 kc ks loc (.long y :: .long x :: st) h = wps rm K Q c_M_tellMiddle_135 kc ks loc (.long (x * y) :: st) h := gk_lmul
theorem s_M_tellMiddle_135 {x : Nat} {v : Value} : wps rm K Q c_M_tellMiddle_135 kc ks loc (v :: .ref (x + 1) :: st) h = eg_pf h x 12 36 v (fun h9 => wps rm K Q c_M_tellMiddle_138 kc ks loc (st) h9) := gk_pf
theorem s_M_tellMiddle_138 {x : Nat} {l : eg_Lo} : wps rm K Q c_M_tellMiddle_138 kc ks (some (.ref x) :: l) (st) h = wps rm K Q c_M_tellMiddle_139 kc ks (some (.ref x) :: l) (.ref x :: st) h := gk_aload rfl
theorem s_M_tellMiddle_139 {x : Int64} {l0 l1 l2 l3 l4 l5 l6 l7 l8 l9 l10 l11 : Option Value} {l : eg_Lo} : wps rm K Q c_M_tellMiddle_139 kc ks (l0 :: l1 :: l2 :: l3 :: l4 :: l5 :: l6 :: l7 :: l8 :: l9 :: l10 :: l11 :: some (.long x) :: l) (st) h = wps rm K Q c_M_tellMiddle_141 kc ks (l0 :: l1 :: l2 :: l3 :: l4 :: l5 :: l6 :: l7 :: l8 :: l9 :: l10 :: l11 :: some (.long x) :: l) (.long x :: st) h := gk_lload rfl
theorem s_M_tellMiddle_141 {x : Int64} {l0 l1 l2 l3 l4 l5 l6 l7 l8 l9 l10 l11 l12 l13 : Option Value} {l : eg_Lo} : wps rm K Q c_M_tellMiddle_141 kc ks (l0 :: l1 :: l2 :: l3 :: l4 :: l5 :: l6 :: l7 :: l8 :: l9 :: l10 :: l11 :: l12 :: l13 :: some (.long x) :: l) (st) h = wps rm K Q c_M_tellMiddle_143 kc ks (l0 :: l1 :: l2 :: l3 :: l4 :: l5 :: l6 :: l7 :: l8 :: l9 :: l10 :: l11 :: l12 :: l13 :: some (.long x) :: l) (.long x :: st) h := gk_lload rfl
theorem s_M_tellMiddle_143 {x y : Int64} : wps rm K Q c_M_tellMiddle_143 kc ks loc (.long y :: .long x :: st) h = wps rm K Q c_M_tellMiddle_144 kc ks loc (.long (x * y) :: st) h := gk_lmul
theorem s_M_tellMiddle_144 {x : Int64} {l0 l1 l2 l3 l4 l5 l6 l7 : Option Value} {l : eg_Lo} : wps rm K Q c_M_tellMiddle_144 kc ks (l0 :: l1 :: l2 :: l3 :: l4 :: l5 :: l6 :: l7 :: some (.long x) :: l) (st) h = wps rm K Q c_M_tellMiddle_146 kc ks (l0 :: l1 :: l2 :: l3 :: l4 :: l5 :: l6 :: l7 :: some (.long x) :: l) (.long x :: st) h := gk_lload rfl
theorem s_M_tellMiddle_146 {x : Int64} {l0 l1 l2 l3 l4 l5 l6 l7 l8 l9 l10 l11 l12 l13 l14 l15 : Option Value} {l : eg_Lo} : wps rm K Q c_M_tellMiddle_146 kc ks (l0 :: l1 :: l2 :: l3 :: l4 :: l5 :: l6 :: l7 :: l8 :: l9 :: l10 :: l11 :: l12 :: l13 :: l14 :: l15 :: some (.long x) :: l) (st) h = wps rm K Q c_M_tellMiddle_148 kc ks (l0 :: l1 :: l2 :: l3 :: l4 :: l5 :: l6 :: l7 :: l8 :: l9 :: l10 :: l11 :: l12 :: l13 :: l14 :: l15 :: some (.long x) :: l) (.long x :: st) h := gk_lload rfl
theorem s_M_tellMiddle_148 {x y : Int64} : wps rm K Q c_M_tellMiddle_148 kc ks loc (.long y :: .long x :: st) h = wps rm K Q c_M_tellMiddle_149 kc ks loc (.long (x * y) :: st) h := gk_lmul
theorem s_M_tellMiddle_149 {x y : Int64} : wps rm K Q c_M_tellMiddle_149 kc ks loc (.long y :: .long x :: st) h = wps rm K Q c_M_tellMiddle_150 kc ks loc (.long (x - y) :: st) h := gk_lsub
theorem s_M_tellMiddle_150 {x : Nat} {v : Value} : wps rm K Q c_M_tellMiddle_150 kc ks loc (v :: .ref (x + 1) :: st) h = eg_pf h x 12 34 v (fun h9 => wps rm K Q c_M_tellMiddle_153 kc ks loc (st) h9) := gk_pf
theorem s_M_tellMiddle_153 {x : Nat} {l : eg_Lo} : wps rm K Q c_M_tellMiddle_153 kc ks (some (.ref x) :: l) (st) h = wps rm K Q c_M_tellMiddle_154 kc ks (some (.ref x) :: l) (.ref x :: st) h := gk_aload rfl
theorem s_M_tellMiddle_154 {x : Int64} {l0 l1 l2 l3 l4 l5 : Option Value} {l : eg_Lo} : wps rm K Q c_M_tellMiddle_154 kc ks (l0 :: l1 :: l2 :: l3 :: l4 :: l5 :: some (.long x) :: l) (st) h = wps rm K Q c_M_tellMiddle_156 kc ks (l0 :: l1 :: l2 :: l3 :: l4 :: l5 :: some (.long x) :: l) (.long x :: st) h := gk_lload rfl
theorem s_M_tellMiddle_156 {x : Int64} {l0 l1 l2 l3 l4 l5 l6 l7 l8 l9 l10 l11 l12 l13 l14 l15 : Option Value} {l : eg_Lo} : wps rm K Q c_M_tellMiddle_156 kc ks (l0 :: l1 :: l2 :: l3 :: l4 :: l5 :: l6 :: l7 :: l8 :: l9 :: l10 :: l11 :: l12 :: l13 :: l14 :: l15 :: some (.long x) :: l) (st) h = wps rm K Q c_M_tellMiddle_158 kc ks (l0 :: l1 :: l2 :: l3 :: l4 :: l5 :: l6 :: l7 :: l8 :: l9 :: l10 :: l11 :: l12 :: l13 :: l14 :: l15 :: some (.long x) :: l) (.long x :: st) h := gk_lload rfl
theorem s_M_tellMiddle_158 {x y : Int64} : wps rm K Q c_M_tellMiddle_158 kc ks loc (.long y :: .long x :: st) h = wps rm K Q c_M_tellMiddle_159 kc ks loc (.long (x * y) :: st) h := gk_lmul
theorem s_M_tellMiddle_159 {x : Int64} {l0 l1 l2 l3 l4 l5 l6 l7 l8 l9 : Option Value} {l : eg_Lo} : wps rm K Q c_M_tellMiddle_159 kc ks (l0 :: l1 :: l2 :: l3 :: l4 :: l5 :: l6 :: l7 :: l8 :: l9 :: some (.long x) :: l) (st) h = wps rm K Q c_M_tellMiddle_161 kc ks (l0 :: l1 :: l2 :: l3 :: l4 :: l5 :: l6 :: l7 :: l8 :: l9 :: some (.long x) :: l) (.long x :: st) h := gk_lload rfl
theorem s_M_tellMiddle_161 {x : Int64} {l0 l1 l2 l3 l4 l5 l6 l7 l8 l9 l10 l11 l12 l13 : Option Value} {l : eg_Lo} : wps rm K Q c_M_tellMiddle_161 kc ks (l0 :: l1 :: l2 :: l3 :: l4 :: l5 :: l6 :: l7 :: l8 :: l9 :: l10 :: l11 :: l12 :: l13 :: some (.long x) :: l) (st) h = wps rm K Q c_M_tellMiddle_163 kc ks (l0 :: l1 :: l2 :: l3 :: l4 :: l5 :: l6 :: l7 :: l8 :: l9 :: l10 :: l11 :: l12 :: l13 :: some (.long x) :: l) (.long x :: st) h := gk_lload rfl
theorem s_M_tellMiddle_163 {x y : Int64} : wps rm K Q c_M_tellMiddle_163 kc ks loc (.long y :: .long x :: st) h = wps rm K Q c_M_tellMiddle_164 kc ks loc (.long (x * y) :: st) h := gk_lmul
theorem s_M_tellMiddle_164 {x y : Int64} : wps rm K Q c_M_tellMiddle_164 kc ks loc (.long y :: .long x :: st) h = wps rm K Q c_M_tellMiddle_165 kc ks loc (.long (x - y) :: st) h := gk_lsub
theorem s_M_tellMiddle_165 {x : Nat} {v : Value} : wps rm K Q c_M_tellMiddle_165 kc ks loc (v :: .ref (x + 1) :: st) h = eg_pf h x 12 35 v (fun h9 => wps rm K Q c_M_tellMiddle_168 kc ks loc (st) h9) := gk_pf
theorem s_M_tellMiddle_168 {x : Nat} {l : eg_Lo} : wps rm K Q c_M_tellMiddle_168 kc ks (some (.ref x) :: l) (st) h = wps rm K Q c_M_tellMiddle_169 kc ks (some (.ref x) :: l) (.ref x :: st) h := gk_aload rfl
theorem s_M_tellMiddle_169 {x : Nat} : wps rm K Q c_M_tellMiddle_169 kc ks loc (.ref (x + 1) :: st) h = eg_gf h x 12 36 (fun v => wps rm K Q c_M_tellMiddle_172 kc ks loc (v :: st) h) := gk_gf
theorem s_M_tellMiddle_172  : wps rm K Q c_M_tellMiddle_172 kc ks loc (st) h = wps rm K Q c_M_tellMiddle_173 kc ks loc (.long (0) :: st) h := gk_lc (by decide)
theorem s_M_tellMiddle_173 {x y : Int64} : wps rm K Q c_M_tellMiddle_173 kc ks loc (.long y :: .long x :: st) h = wps rm K Q c_M_tellMiddle_174 kc ks loc (.int (lg_cmp x y) :: st) h := gk_lcmp
theorem s_M_tellMiddle_174 {x : Int32} : wps rm K Q c_M_tellMiddle_174 kc ks loc (.int x :: st) h = ((0 ≤ x → K 204 kc ks loc st h) ∧ (¬ 0 ≤ x → wps rm K Q c_M_tellMiddle_177 kc ks loc (st) h)) := gk_if1_ge
theorem s_M_tellMiddle_177 {x : Nat} {l : eg_Lo} : wps rm K Q c_M_tellMiddle_177 kc ks (some (.ref x) :: l) (st) h = wps rm K Q c_M_tellMiddle_178 kc ks (some (.ref x) :: l) (.ref x :: st) h := gk_aload rfl
theorem s_M_tellMiddle_178 {x : Nat} {l : eg_Lo} : wps rm K Q c_M_tellMiddle_178 kc ks (some (.ref x) :: l) (st) h = wps rm K Q c_M_tellMiddle_179 kc ks (some (.ref x) :: l) (.ref x :: st) h := gk_aload rfl
theorem s_M_tellMiddle_179 {x : Nat} : wps rm K Q c_M_tellMiddle_179 kc ks loc (.ref (x + 1) :: st) h = eg_gf h x 12 36 (fun v => wps rm K Q c_M_tellMiddle_182 kc ks loc (v :: st) h) := gk_gf
theorem s_M_tellMiddle_182 {x : Int64} : wps rm K Q c_M_tellMiddle_182 kc ks loc (.long x :: st) h = wps rm K Q c_M_tellMiddle_183 kc ks loc (.long (-x) :: st) h := gk_lneg
theorem s_M_tellMiddle_183 {x : Nat} {v : Value} : wps rm K Q c_M_tellMiddle_183 kc ks loc (v :: .ref (x + 1) :: st) h = eg_pf h x 12 36 v (fun h9 => wps rm K Q c_M_tellMiddle_186 kc ks loc (st) h9) := gk_pf
theorem s_M_tellMiddle_186 {x : Nat} {l : eg_Lo} : wps rm K Q c_M_tellMiddle_186 kc ks (some (.ref x) :: l) (st) h = wps rm K Q c_M_tellMiddle_187 kc ks (some (.ref x) :: l) (.ref x :: st) h := gk_aload rfl
theorem s_M_tellMiddle_187 {x : Nat} {l : eg_Lo} : wps rm K Q c_M_tellMiddle_187 kc ks (some (.ref x) :: l) (st) h = wps rm K Q c_M_tellMiddle_188 kc ks (some (.ref x) :: l) (.ref x :: st) h := gk_aload rfl
theorem s_M_tellMiddle_188 {x : Nat} : wps rm K Q c_M_tellMiddle_188 kc ks loc (.ref (x + 1) :: st) h = eg_gf h x 12 34 (fun v => wps rm K Q c_M_tellMiddle_191 kc ks loc (v :: st) h) := gk_gf
theorem s_M_tellMiddle_191 {x : Int64} : wps rm K Q c_M_tellMiddle_191 kc ks loc (.long x :: st) h = wps rm K Q c_M_tellMiddle_192 kc ks loc (.long (-x) :: st) h := gk_lneg
theorem s_M_tellMiddle_192 {x : Nat} {v : Value} : wps rm K Q c_M_tellMiddle_192 kc ks loc (v :: .ref (x + 1) :: st) h = eg_pf h x 12 34 v (fun h9 => wps rm K Q c_M_tellMiddle_195 kc ks loc (st) h9) := gk_pf
theorem s_M_tellMiddle_195 {x : Nat} {l : eg_Lo} : wps rm K Q c_M_tellMiddle_195 kc ks (some (.ref x) :: l) (st) h = wps rm K Q c_M_tellMiddle_196 kc ks (some (.ref x) :: l) (.ref x :: st) h := gk_aload rfl
theorem s_M_tellMiddle_196 {x : Nat} {l : eg_Lo} : wps rm K Q c_M_tellMiddle_196 kc ks (some (.ref x) :: l) (st) h = wps rm K Q c_M_tellMiddle_197 kc ks (some (.ref x) :: l) (.ref x :: st) h := gk_aload rfl
theorem s_M_tellMiddle_197 {x : Nat} : wps rm K Q c_M_tellMiddle_197 kc ks loc (.ref (x + 1) :: st) h = eg_gf h x 12 35 (fun v => wps rm K Q c_M_tellMiddle_200 kc ks loc (v :: st) h) := gk_gf
theorem s_M_tellMiddle_200 {x : Int64} : wps rm K Q c_M_tellMiddle_200 kc ks loc (.long x :: st) h = wps rm K Q c_M_tellMiddle_201 kc ks loc (.long (-x) :: st) h := gk_lneg
theorem s_M_tellMiddle_201 {x : Nat} {v : Value} : wps rm K Q c_M_tellMiddle_201 kc ks loc (v :: .ref (x + 1) :: st) h = eg_pf h x 12 35 v (fun h9 => wps rm K Q c_M_tellMiddle_204 kc ks loc (st) h9) := gk_pf
theorem s_M_tellMiddle_204  : wps rm K Q c_M_tellMiddle_204 kc ks loc ([]) h = (kc = rm.cells ∧ Q none h) := gk_vret
def T_M_tellMiddle : List (Nat × List eg_I) := [(204, c_M_tellMiddle_204)]
theorem j_M_tellMiddle_204 {R : Nat → Nat → Nat → eg_Lo → List Value → List eg_E → Prop} {f pc0 : Nat} : eg_run rm R Q T_M_tellMiddle (f + 1) 204 kc ks loc st h = wps rm (eg_run rm R Q T_M_tellMiddle f) Q c_M_tellMiddle_204 kc ks loc st h := rfl
end
theorem y_M_tellMiddle_0 : eg_seq m_M_tellMiddle 0 c_M_tellMiddle_0 = true := by decide +kernel
theorem q_M_tellMiddle : ∀ q ∈ T_M_tellMiddle, eg_seq m_M_tellMiddle q.1 q.2 = true := by
  intro q hq
  simp only [T_M_tellMiddle, List.mem_cons, List.not_mem_nil, or_false] at hq
  rcases hq with rfl
  · exact (eg_seq_drop y_M_tellMiddle_0 121 : eg_seq m_M_tellMiddle 204 c_M_tellMiddle_204 = true)
theorem md_M_tellMiddle : eg_md n_M_tellMiddle = m_M_tellMiddle := rfl
theorem mn_M_tellMiddle : n_M_tellMiddle < 202 := Nat.le_of_ble_eq_true rfl
theorem b_M_tellMiddle {as : List Value} {h : List eg_E} {Q : Option Value → List eg_E → Prop} (hf : (eg_fl as).length ≤ 18) : wps (eg_rm m_M_tellMiddle) (eg_run (eg_rm m_M_tellMiddle) (eg_R m_M_tellMiddle Q (h.length + 0)) Q T_M_tellMiddle 3) Q c_M_tellMiddle_0 0 0 (eg_entry 18 as) [] h → eg_Runs n_M_tellMiddle as h Q := eg_begin2 md_M_tellMiddle mn_M_tellMiddle y_M_tellMiddle_0 q_M_tellMiddle hf
/-! ===== M_outside ===== -/
def c_M_outside_84 : List eg_I := .inl (84, 1, .lreturn, 0, 0) :: []
def c_M_outside_83 : List eg_I := .inl (83, 1, .lsub, 0, 0) :: c_M_outside_84
def c_M_outside_82 : List eg_I := .inl (82, 1, .lmul, 0, 0) :: c_M_outside_83
def c_M_outside_81 : List eg_I := .inl (81, 1, .ladd, 0, 0) :: c_M_outside_82
def c_M_outside_80 : List eg_I := .inl (80, 1, .lmul, 0, 0) :: c_M_outside_81
def c_M_outside_77 : List eg_I := .inl (77, 3, .getfield 224, 12, 35) :: c_M_outside_80
def c_M_outside_76 : List eg_I := .inl (76, 1, .aload 0, 0, 0) :: c_M_outside_77
def c_M_outside_74 : List eg_I := .inl (74, 2, .lload 6, 0, 0) :: c_M_outside_76
def c_M_outside_73 : List eg_I := .inl (73, 1, .lmul, 0, 0) :: c_M_outside_74
def c_M_outside_70 : List eg_I := .inl (70, 3, .getfield 221, 12, 34) :: c_M_outside_73
def c_M_outside_69 : List eg_I := .inl (69, 1, .aload 0, 0, 0) :: c_M_outside_70
def c_M_outside_67 : List eg_I := .inl (67, 2, .lload 4, 0, 0) :: c_M_outside_69
def c_M_outside_64 : List eg_I := .inl (64, 3, .sipush (2), 216, 0) :: c_M_outside_67
def c_M_outside_63 : List eg_I := .inl (63, 1, .lmul, 0, 0) :: c_M_outside_64
def c_M_outside_60 : List eg_I := .inl (60, 3, .getfield 218, 12, 36) :: c_M_outside_63
def c_M_outside_59 : List eg_I := .inl (59, 1, .aload 0, 0, 0) :: c_M_outside_60
def c_M_outside_58 : List eg_I := .inl (58, 1, .ladd, 0, 0) :: c_M_outside_59
def c_M_outside_57 : List eg_I := .inl (57, 1, .lmul, 0, 0) :: c_M_outside_58
def c_M_outside_55 : List eg_I := .inl (55, 2, .lload 6, 0, 0) :: c_M_outside_57
def c_M_outside_53 : List eg_I := .inl (53, 2, .lload 6, 0, 0) :: c_M_outside_55
def c_M_outside_52 : List eg_I := .inl (52, 1, .lmul, 0, 0) :: c_M_outside_53
def c_M_outside_50 : List eg_I := .inl (50, 2, .lload 4, 0, 0) :: c_M_outside_52
def c_M_outside_48 : List eg_I := .inl (48, 2, .lload 4, 0, 0) :: c_M_outside_50
def c_M_outside_46 : List eg_I := .inl (46, 2, .lstore 6, 0, 0) :: c_M_outside_48
def c_M_outside_45 : List eg_I := .inl (45, 1, .i2l, 0, 0) :: c_M_outside_46
def c_M_outside_44 : List eg_I := .inl (44, 1, .isub, 0, 0) :: c_M_outside_45
def c_M_outside_43 : List eg_I := .inl (43, 1, .iaload, 0, 0) :: c_M_outside_44
def c_M_outside_40 : List eg_I := .inr (40, 0, 103, n_M_at_II, 2, 12, 0, 0) :: c_M_outside_43
def c_M_outside_39 : List eg_I := .inl (39, 1, .iload 2, 0, 0) :: c_M_outside_40
def c_M_outside_38 : List eg_I := .inl (38, 1, .iload 1, 0, 0) :: c_M_outside_39
def c_M_outside_35 : List eg_I := .inl (35, 3, .getfield 16, 12, 2) :: c_M_outside_38
def c_M_outside_34 : List eg_I := .inl (34, 1, .aload 0, 0, 0) :: c_M_outside_35
def c_M_outside_33 : List eg_I := .inl (33, 1, .iaload, 0, 0) :: c_M_outside_34
def c_M_outside_30 : List eg_I := .inr (30, 0, 103, n_M_at_II, 2, 12, 0, 0) :: c_M_outside_33
def c_M_outside_29 : List eg_I := .inl (29, 1, .iload 3, 0, 0) :: c_M_outside_30
def c_M_outside_28 : List eg_I := .inl (28, 1, .iload 1, 0, 0) :: c_M_outside_29
def c_M_outside_25 : List eg_I := .inl (25, 3, .getfield 16, 12, 2) :: c_M_outside_28
def c_M_outside_24 : List eg_I := .inl (24, 1, .aload 0, 0, 0) :: c_M_outside_25
def c_M_outside_22 : List eg_I := .inl (22, 2, .lstore 4, 0, 0) :: c_M_outside_24
def c_M_outside_21 : List eg_I := .inl (21, 1, .i2l, 0, 0) :: c_M_outside_22
def c_M_outside_20 : List eg_I := .inl (20, 1, .isub, 0, 0) :: c_M_outside_21
def c_M_outside_19 : List eg_I := .inl (19, 1, .iaload, 0, 0) :: c_M_outside_20
def c_M_outside_16 : List eg_I := .inr (16, 0, 103, n_M_at_II, 2, 12, 0, 0) :: c_M_outside_19
def c_M_outside_15 : List eg_I := .inl (15, 1, .iload 2, 0, 0) :: c_M_outside_16
def c_M_outside_14 : List eg_I := .inl (14, 1, .iload 1, 0, 0) :: c_M_outside_15
def c_M_outside_11 : List eg_I := .inl (11, 3, .getfield 13, 12, 1) :: c_M_outside_14
def c_M_outside_10 : List eg_I := .inl (10, 1, .aload 0, 0, 0) :: c_M_outside_11
def c_M_outside_9 : List eg_I := .inl (9, 1, .iaload, 0, 0) :: c_M_outside_10
def c_M_outside_6 : List eg_I := .inr (6, 0, 103, n_M_at_II, 2, 12, 0, 0) :: c_M_outside_9
def c_M_outside_5 : List eg_I := .inl (5, 1, .iload 3, 0, 0) :: c_M_outside_6
def c_M_outside_4 : List eg_I := .inl (4, 1, .iload 1, 0, 0) :: c_M_outside_5
def c_M_outside_1 : List eg_I := .inl (1, 3, .getfield 13, 12, 1) :: c_M_outside_4
def c_M_outside_0 : List eg_I := .inl (0, 1, .aload 0, 0, 0) :: c_M_outside_1
section
variable {rm : Room} {K : Nat → Nat → Nat → eg_Lo → List Value → List eg_E → Prop} {Q : Option Value → List eg_E → Prop} {kc ks : Nat} {loc : eg_Lo} {st : List Value} {h : List eg_E}
theorem s_M_outside_0 {x : Nat} {l : eg_Lo} : wps rm K Q c_M_outside_0 kc ks (some (.ref x) :: l) (st) h = wps rm K Q c_M_outside_1 kc ks (some (.ref x) :: l) (.ref x :: st) h := gk_aload rfl
theorem s_M_outside_1 {x : Nat} : wps rm K Q c_M_outside_1 kc ks loc (.ref (x + 1) :: st) h = eg_gf h x 12 1 (fun v => wps rm K Q c_M_outside_4 kc ks loc (v :: st) h) := gk_gf
theorem s_M_outside_4 {x : Int32} {l0 : Option Value} {l : eg_Lo} : wps rm K Q c_M_outside_4 kc ks (l0 :: some (.int x) :: l) (st) h = wps rm K Q c_M_outside_5 kc ks (l0 :: some (.int x) :: l) (.int x :: st) h := gk_iload rfl
theorem s_M_outside_5 {x : Int32} {l0 l1 l2 : Option Value} {l : eg_Lo} : wps rm K Q c_M_outside_5 kc ks (l0 :: l1 :: l2 :: some (.int x) :: l) (st) h = wps rm K Q c_M_outside_6 kc ks (l0 :: l1 :: l2 :: some (.int x) :: l) (.int x :: st) h := gk_iload rfl
theorem s_M_outside_6  {a1 : Value} {a2 : Value} : wps rm K Q c_M_outside_6 kc ks loc (a2 :: a1 :: st) h = (st.length ≤ 4 ∧ eg_Cs n_M_at_II [a1, a2] h (fun v h9 => wps rm K Q c_M_outside_9 kc ks loc (v.toList ++ st) h9)) := eg_c0_2
theorem s_M_outside_9 {x : Nat} {i : Int32} : wps rm K Q c_M_outside_9 kc ks loc (.int i :: .ref (x + 1) :: st) h = eg_ia h x i (fun v => wps rm K Q c_M_outside_10 kc ks loc (.int v :: st) h) := gk_iaload
theorem s_M_outside_10 {x : Nat} {l : eg_Lo} : wps rm K Q c_M_outside_10 kc ks (some (.ref x) :: l) (st) h = wps rm K Q c_M_outside_11 kc ks (some (.ref x) :: l) (.ref x :: st) h := gk_aload rfl
theorem s_M_outside_11 {x : Nat} : wps rm K Q c_M_outside_11 kc ks loc (.ref (x + 1) :: st) h = eg_gf h x 12 1 (fun v => wps rm K Q c_M_outside_14 kc ks loc (v :: st) h) := gk_gf
theorem s_M_outside_14 {x : Int32} {l0 : Option Value} {l : eg_Lo} : wps rm K Q c_M_outside_14 kc ks (l0 :: some (.int x) :: l) (st) h = wps rm K Q c_M_outside_15 kc ks (l0 :: some (.int x) :: l) (.int x :: st) h := gk_iload rfl
theorem s_M_outside_15 {x : Int32} {l0 l1 : Option Value} {l : eg_Lo} : wps rm K Q c_M_outside_15 kc ks (l0 :: l1 :: some (.int x) :: l) (st) h = wps rm K Q c_M_outside_16 kc ks (l0 :: l1 :: some (.int x) :: l) (.int x :: st) h := gk_iload rfl
theorem s_M_outside_16  {a1 : Value} {a2 : Value} : wps rm K Q c_M_outside_16 kc ks loc (a2 :: a1 :: st) h = (st.length ≤ 4 ∧ eg_Cs n_M_at_II [a1, a2] h (fun v h9 => wps rm K Q c_M_outside_19 kc ks loc (v.toList ++ st) h9)) := eg_c0_2
theorem s_M_outside_19 {x : Nat} {i : Int32} : wps rm K Q c_M_outside_19 kc ks loc (.int i :: .ref (x + 1) :: st) h = eg_ia h x i (fun v => wps rm K Q c_M_outside_20 kc ks loc (.int v :: st) h) := gk_iaload
theorem s_M_outside_20 {x y : Int32} : wps rm K Q c_M_outside_20 kc ks loc (.int y :: .int x :: st) h = wps rm K Q c_M_outside_21 kc ks loc (.int (x - y) :: st) h := gk_isub
theorem s_M_outside_21 {x : Int32} : wps rm K Q c_M_outside_21 kc ks loc (.int x :: st) h = wps rm K Q c_M_outside_22 kc ks loc (.long (x.toInt64) :: st) h := gk_i2l
theorem s_M_outside_22 {x : Int64} : wps rm K Q c_M_outside_22 kc ks loc (.long x :: st) h = wps rm K Q c_M_outside_24 kc ks (eg_set2 loc 4 (.long x)) (st) h := gk_lstore
theorem s_M_outside_24 {x : Nat} {l : eg_Lo} : wps rm K Q c_M_outside_24 kc ks (some (.ref x) :: l) (st) h = wps rm K Q c_M_outside_25 kc ks (some (.ref x) :: l) (.ref x :: st) h := gk_aload rfl
theorem s_M_outside_25 {x : Nat} : wps rm K Q c_M_outside_25 kc ks loc (.ref (x + 1) :: st) h = eg_gf h x 12 2 (fun v => wps rm K Q c_M_outside_28 kc ks loc (v :: st) h) := gk_gf
theorem s_M_outside_28 {x : Int32} {l0 : Option Value} {l : eg_Lo} : wps rm K Q c_M_outside_28 kc ks (l0 :: some (.int x) :: l) (st) h = wps rm K Q c_M_outside_29 kc ks (l0 :: some (.int x) :: l) (.int x :: st) h := gk_iload rfl
theorem s_M_outside_29 {x : Int32} {l0 l1 l2 : Option Value} {l : eg_Lo} : wps rm K Q c_M_outside_29 kc ks (l0 :: l1 :: l2 :: some (.int x) :: l) (st) h = wps rm K Q c_M_outside_30 kc ks (l0 :: l1 :: l2 :: some (.int x) :: l) (.int x :: st) h := gk_iload rfl
theorem s_M_outside_30  {a1 : Value} {a2 : Value} : wps rm K Q c_M_outside_30 kc ks loc (a2 :: a1 :: st) h = (st.length ≤ 4 ∧ eg_Cs n_M_at_II [a1, a2] h (fun v h9 => wps rm K Q c_M_outside_33 kc ks loc (v.toList ++ st) h9)) := eg_c0_2
theorem s_M_outside_33 {x : Nat} {i : Int32} : wps rm K Q c_M_outside_33 kc ks loc (.int i :: .ref (x + 1) :: st) h = eg_ia h x i (fun v => wps rm K Q c_M_outside_34 kc ks loc (.int v :: st) h) := gk_iaload
theorem s_M_outside_34 {x : Nat} {l : eg_Lo} : wps rm K Q c_M_outside_34 kc ks (some (.ref x) :: l) (st) h = wps rm K Q c_M_outside_35 kc ks (some (.ref x) :: l) (.ref x :: st) h := gk_aload rfl
theorem s_M_outside_35 {x : Nat} : wps rm K Q c_M_outside_35 kc ks loc (.ref (x + 1) :: st) h = eg_gf h x 12 2 (fun v => wps rm K Q c_M_outside_38 kc ks loc (v :: st) h) := gk_gf
theorem s_M_outside_38 {x : Int32} {l0 : Option Value} {l : eg_Lo} : wps rm K Q c_M_outside_38 kc ks (l0 :: some (.int x) :: l) (st) h = wps rm K Q c_M_outside_39 kc ks (l0 :: some (.int x) :: l) (.int x :: st) h := gk_iload rfl
theorem s_M_outside_39 {x : Int32} {l0 l1 : Option Value} {l : eg_Lo} : wps rm K Q c_M_outside_39 kc ks (l0 :: l1 :: some (.int x) :: l) (st) h = wps rm K Q c_M_outside_40 kc ks (l0 :: l1 :: some (.int x) :: l) (.int x :: st) h := gk_iload rfl
theorem s_M_outside_40  {a1 : Value} {a2 : Value} : wps rm K Q c_M_outside_40 kc ks loc (a2 :: a1 :: st) h = (st.length ≤ 4 ∧ eg_Cs n_M_at_II [a1, a2] h (fun v h9 => wps rm K Q c_M_outside_43 kc ks loc (v.toList ++ st) h9)) := eg_c0_2
theorem s_M_outside_43 {x : Nat} {i : Int32} : wps rm K Q c_M_outside_43 kc ks loc (.int i :: .ref (x + 1) :: st) h = eg_ia h x i (fun v => wps rm K Q c_M_outside_44 kc ks loc (.int v :: st) h) := gk_iaload
theorem s_M_outside_44 {x y : Int32} : wps rm K Q c_M_outside_44 kc ks loc (.int y :: .int x :: st) h = wps rm K Q c_M_outside_45 kc ks loc (.int (x - y) :: st) h := gk_isub
theorem s_M_outside_45 {x : Int32} : wps rm K Q c_M_outside_45 kc ks loc (.int x :: st) h = wps rm K Q c_M_outside_46 kc ks loc (.long (x.toInt64) :: st) h := gk_i2l
theorem s_M_outside_46 {x : Int64} : wps rm K Q c_M_outside_46 kc ks loc (.long x :: st) h = wps rm K Q c_M_outside_48 kc ks (eg_set2 loc 6 (.long x)) (st) h := gk_lstore
theorem s_M_outside_48 {x : Int64} {l0 l1 l2 l3 : Option Value} {l : eg_Lo} : wps rm K Q c_M_outside_48 kc ks (l0 :: l1 :: l2 :: l3 :: some (.long x) :: l) (st) h = wps rm K Q c_M_outside_50 kc ks (l0 :: l1 :: l2 :: l3 :: some (.long x) :: l) (.long x :: st) h := gk_lload rfl
theorem s_M_outside_50 {x : Int64} {l0 l1 l2 l3 : Option Value} {l : eg_Lo} : wps rm K Q c_M_outside_50 kc ks (l0 :: l1 :: l2 :: l3 :: some (.long x) :: l) (st) h = wps rm K Q c_M_outside_52 kc ks (l0 :: l1 :: l2 :: l3 :: some (.long x) :: l) (.long x :: st) h := gk_lload rfl
theorem s_M_outside_52 {x y : Int64} : wps rm K Q c_M_outside_52 kc ks loc (.long y :: .long x :: st) h = wps rm K Q c_M_outside_53 kc ks loc (.long (x * y) :: st) h := gk_lmul
theorem s_M_outside_53 {x : Int64} {l0 l1 l2 l3 l4 l5 : Option Value} {l : eg_Lo} : wps rm K Q c_M_outside_53 kc ks (l0 :: l1 :: l2 :: l3 :: l4 :: l5 :: some (.long x) :: l) (st) h = wps rm K Q c_M_outside_55 kc ks (l0 :: l1 :: l2 :: l3 :: l4 :: l5 :: some (.long x) :: l) (.long x :: st) h := gk_lload rfl
theorem s_M_outside_55 {x : Int64} {l0 l1 l2 l3 l4 l5 : Option Value} {l : eg_Lo} : wps rm K Q c_M_outside_55 kc ks (l0 :: l1 :: l2 :: l3 :: l4 :: l5 :: some (.long x) :: l) (st) h = wps rm K Q c_M_outside_57 kc ks (l0 :: l1 :: l2 :: l3 :: l4 :: l5 :: some (.long x) :: l) (.long x :: st) h := gk_lload rfl
theorem s_M_outside_57 {x y : Int64} : wps rm K Q c_M_outside_57 kc ks loc (.long y :: .long x :: st) h = wps rm K Q c_M_outside_58 kc ks loc (.long (x * y) :: st) h := gk_lmul
theorem s_M_outside_58 {x y : Int64} : wps rm K Q c_M_outside_58 kc ks loc (.long y :: .long x :: st) h = wps rm K Q c_M_outside_59 kc ks loc (.long (x + y) :: st) h := gk_ladd
theorem s_M_outside_59 {x : Nat} {l : eg_Lo} : wps rm K Q c_M_outside_59 kc ks (some (.ref x) :: l) (st) h = wps rm K Q c_M_outside_60 kc ks (some (.ref x) :: l) (.ref x :: st) h := gk_aload rfl
theorem s_M_outside_60 {x : Nat} : wps rm K Q c_M_outside_60 kc ks loc (.ref (x + 1) :: st) h = eg_gf h x 12 36 (fun v => wps rm K Q c_M_outside_63 kc ks loc (v :: st) h) := gk_gf
theorem s_M_outside_63 {x y : Int64} : wps rm K Q c_M_outside_63 kc ks loc (.long y :: .long x :: st) h = wps rm K Q c_M_outside_64 kc ks loc (.long (x * y) :: st) h := gk_lmul
theorem s_M_outside_64  : wps rm K Q c_M_outside_64 kc ks loc (st) h = wps rm K Q c_M_outside_67 kc ks loc (.long (2) :: st) h := gk_lc (by decide)
theorem s_M_outside_67 {x : Int64} {l0 l1 l2 l3 : Option Value} {l : eg_Lo} : wps rm K Q c_M_outside_67 kc ks (l0 :: l1 :: l2 :: l3 :: some (.long x) :: l) (st) h = wps rm K Q c_M_outside_69 kc ks (l0 :: l1 :: l2 :: l3 :: some (.long x) :: l) (.long x :: st) h := gk_lload rfl
theorem s_M_outside_69 {x : Nat} {l : eg_Lo} : wps rm K Q c_M_outside_69 kc ks (some (.ref x) :: l) (st) h = wps rm K Q c_M_outside_70 kc ks (some (.ref x) :: l) (.ref x :: st) h := gk_aload rfl
theorem s_M_outside_70 {x : Nat} : wps rm K Q c_M_outside_70 kc ks loc (.ref (x + 1) :: st) h = eg_gf h x 12 34 (fun v => wps rm K Q c_M_outside_73 kc ks loc (v :: st) h) := gk_gf
theorem s_M_outside_73 {x y : Int64} : wps rm K Q c_M_outside_73 kc ks loc (.long y :: .long x :: st) h = wps rm K Q c_M_outside_74 kc ks loc (.long (x * y) :: st) h := gk_lmul
theorem s_M_outside_74 {x : Int64} {l0 l1 l2 l3 l4 l5 : Option Value} {l : eg_Lo} : wps rm K Q c_M_outside_74 kc ks (l0 :: l1 :: l2 :: l3 :: l4 :: l5 :: some (.long x) :: l) (st) h = wps rm K Q c_M_outside_76 kc ks (l0 :: l1 :: l2 :: l3 :: l4 :: l5 :: some (.long x) :: l) (.long x :: st) h := gk_lload rfl
theorem s_M_outside_76 {x : Nat} {l : eg_Lo} : wps rm K Q c_M_outside_76 kc ks (some (.ref x) :: l) (st) h = wps rm K Q c_M_outside_77 kc ks (some (.ref x) :: l) (.ref x :: st) h := gk_aload rfl
theorem s_M_outside_77 {x : Nat} : wps rm K Q c_M_outside_77 kc ks loc (.ref (x + 1) :: st) h = eg_gf h x 12 35 (fun v => wps rm K Q c_M_outside_80 kc ks loc (v :: st) h) := gk_gf
theorem s_M_outside_80 {x y : Int64} : wps rm K Q c_M_outside_80 kc ks loc (.long y :: .long x :: st) h = wps rm K Q c_M_outside_81 kc ks loc (.long (x * y) :: st) h := gk_lmul
theorem s_M_outside_81 {x y : Int64} : wps rm K Q c_M_outside_81 kc ks loc (.long y :: .long x :: st) h = wps rm K Q c_M_outside_82 kc ks loc (.long (x + y) :: st) h := gk_ladd
theorem s_M_outside_82 {x y : Int64} : wps rm K Q c_M_outside_82 kc ks loc (.long y :: .long x :: st) h = wps rm K Q c_M_outside_83 kc ks loc (.long (x * y) :: st) h := gk_lmul
theorem s_M_outside_83 {x y : Int64} : wps rm K Q c_M_outside_83 kc ks loc (.long y :: .long x :: st) h = wps rm K Q c_M_outside_84 kc ks loc (.long (x - y) :: st) h := gk_lsub
theorem s_M_outside_84 {x : Int64} : wps rm K Q c_M_outside_84 kc ks loc ([.long x]) h = (kc = rm.cells ∧ Q (some (.long x)) h) := gk_lret
def T_M_outside : List (Nat × List eg_I) := []
end
theorem y_M_outside_0 : eg_seq m_M_outside 0 c_M_outside_0 = true := by decide +kernel
theorem q_M_outside : ∀ q ∈ T_M_outside, eg_seq m_M_outside q.1 q.2 = true := by
  intro q hq
  cases hq
theorem md_M_outside : eg_md n_M_outside = m_M_outside := rfl
theorem mn_M_outside : n_M_outside < 202 := Nat.le_of_ble_eq_true rfl
theorem b_M_outside {as : List Value} {h : List eg_E} {Q : Option Value → List eg_E → Prop} (hf : (eg_fl as).length ≤ 8) : wps (eg_rm m_M_outside) (eg_run (eg_rm m_M_outside) (eg_R m_M_outside Q (h.length + 0)) Q T_M_outside 2) Q c_M_outside_0 0 0 (eg_entry 8 as) [] h → eg_Runs n_M_outside as h Q := eg_begin2 md_M_outside mn_M_outside y_M_outside_0 q_M_outside hf
/-! ===== M_hasAll ===== -/
def z_M_hasAll_5 : List eg_I := [.inl (5, 0, .nop, 0, 0)]
def c_M_hasAll_58 : List eg_I := .inl (58, 1, .ireturn, 0, 1) :: []
def c_M_hasAll_57 : List eg_I := .inl (57, 1, .iload 3, 0, 0) :: c_M_hasAll_58
def c_M_hasAll_54 : List eg_I := .inl (54, 3, .goto (-49), 5, 0) :: []
def c_M_hasAll_51 : List eg_I := .inl (51, 3, .iinc 4 (1), 0, 0) :: c_M_hasAll_54
def c_M_hasAll_50 : List eg_I := .inl (50, 1, .istore 3, 0, 0) :: c_M_hasAll_51
def c_M_hasAll_49 : List eg_I := .inl (49, 1, .iand, 0, 0) :: c_M_hasAll_50
def c_M_hasAll_48 : List eg_I := .inl (48, 1, .iconst (0), 0, 0) :: c_M_hasAll_49
def c_M_hasAll_45 : List eg_I := .inl (45, 3, .goto (4), 49, 0) :: []
def c_M_hasAll_44 : List eg_I := .inl (44, 1, .iconst (1), 0, 0) :: c_M_hasAll_45
def c_M_hasAll_41 : List eg_I := .inl (41, 3, .ifCond .gt (7), 48, 0) :: c_M_hasAll_44
def c_M_hasAll_40 : List eg_I := .inl (40, 1, .lcmp, 0, 0) :: c_M_hasAll_41
def c_M_hasAll_39 : List eg_I := .inl (39, 1, .sipush (0), 0, 0) :: c_M_hasAll_40
def c_M_hasAll_36 : List eg_I := .inr (36, 1, 227, n_M_outside, 3, 12, 0, 0) :: c_M_hasAll_39
def c_M_hasAll_34 : List eg_I := .inl (34, 2, .iload 4, 0, 0) :: c_M_hasAll_36
def c_M_hasAll_33 : List eg_I := .inl (33, 1, .iload 2, 0, 0) :: c_M_hasAll_34
def c_M_hasAll_32 : List eg_I := .inl (32, 1, .iload 1, 0, 0) :: c_M_hasAll_33
def c_M_hasAll_31 : List eg_I := .inl (31, 1, .aload 0, 0, 0) :: c_M_hasAll_32
def c_M_hasAll_28 : List eg_I := .inl (28, 3, .ifCond .ne (16), 44, 0) :: c_M_hasAll_31
def c_M_hasAll_27 : List eg_I := .inl (27, 1, .baload, 0, 0) :: c_M_hasAll_28
def c_M_hasAll_24 : List eg_I := .inr (24, 0, 103, n_M_at_II, 2, 12, 0, 0) :: c_M_hasAll_27
def c_M_hasAll_22 : List eg_I := .inl (22, 2, .iload 4, 0, 0) :: c_M_hasAll_24
def c_M_hasAll_21 : List eg_I := .inl (21, 1, .iload 1, 0, 0) :: c_M_hasAll_22
def c_M_hasAll_18 : List eg_I := .inl (18, 3, .getfield 22, 12, 4) :: c_M_hasAll_21
def c_M_hasAll_17 : List eg_I := .inl (17, 1, .aload 0, 0, 0) :: c_M_hasAll_18
def c_M_hasAll_16 : List eg_I := .inl (16, 1, .iload 3, 0, 0) :: c_M_hasAll_17
def c_M_hasAll_13 : List eg_I := .inl (13, 3, .if_icmp .ge (44), 57, 0) :: c_M_hasAll_16
def c_M_hasAll_12 : List eg_I := .inl (12, 1, .iaload, 0, 0) :: c_M_hasAll_13
def c_M_hasAll_11 : List eg_I := .inl (11, 1, .iload 1, 0, 0) :: c_M_hasAll_12
def c_M_hasAll_8 : List eg_I := .inl (8, 3, .getfield 9, 12, 0) :: c_M_hasAll_11
def c_M_hasAll_7 : List eg_I := .inl (7, 1, .aload 0, 0, 0) :: c_M_hasAll_8
def c_M_hasAll_5 : List eg_I := .inl (5, 2, .iload 4, 0, 0) :: c_M_hasAll_7
def c_M_hasAll_3 : List eg_I := .inl (3, 2, .istore 4, 0, 0) :: z_M_hasAll_5
def c_M_hasAll_2 : List eg_I := .inl (2, 1, .iconst (0), 0, 0) :: c_M_hasAll_3
def c_M_hasAll_1 : List eg_I := .inl (1, 1, .istore 3, 0, 0) :: c_M_hasAll_2
def c_M_hasAll_0 : List eg_I := .inl (0, 1, .iconst (1), 0, 0) :: c_M_hasAll_1
section
variable {rm : Room} {K : Nat → Nat → Nat → eg_Lo → List Value → List eg_E → Prop} {Q : Option Value → List eg_E → Prop} {kc ks : Nat} {loc : eg_Lo} {st : List Value} {h : List eg_E}
theorem s_M_hasAll_0  : wps rm K Q c_M_hasAll_0 kc ks loc (st) h = wps rm K Q c_M_hasAll_1 kc ks loc (.int (1) :: st) h := gk_ic (by decide)
theorem s_M_hasAll_1 {x : Int32} : wps rm K Q c_M_hasAll_1 kc ks loc (.int x :: st) h = wps rm K Q c_M_hasAll_2 kc ks (eg_set1 loc 3 (.int x)) (st) h := gk_istore
theorem s_M_hasAll_2  : wps rm K Q c_M_hasAll_2 kc ks loc (st) h = wps rm K Q c_M_hasAll_3 kc ks loc (.int (0) :: st) h := gk_ic (by decide)
theorem s_M_hasAll_3 {x : Int32} : wps rm K Q c_M_hasAll_3 kc ks loc (.int x :: st) h = wps rm K Q z_M_hasAll_5 kc ks (eg_set1 loc 4 (.int x)) (st) h := gk_istore
theorem s_M_hasAll_5 {x : Int32} {l0 l1 l2 l3 : Option Value} {l : eg_Lo} : wps rm K Q c_M_hasAll_5 kc ks (l0 :: l1 :: l2 :: l3 :: some (.int x) :: l) (st) h = wps rm K Q c_M_hasAll_7 kc ks (l0 :: l1 :: l2 :: l3 :: some (.int x) :: l) (.int x :: st) h := gk_iload rfl
theorem s_M_hasAll_7 {x : Nat} {l : eg_Lo} : wps rm K Q c_M_hasAll_7 kc ks (some (.ref x) :: l) (st) h = wps rm K Q c_M_hasAll_8 kc ks (some (.ref x) :: l) (.ref x :: st) h := gk_aload rfl
theorem s_M_hasAll_8 {x : Nat} : wps rm K Q c_M_hasAll_8 kc ks loc (.ref (x + 1) :: st) h = eg_gf h x 12 0 (fun v => wps rm K Q c_M_hasAll_11 kc ks loc (v :: st) h) := gk_gf
theorem s_M_hasAll_11 {x : Int32} {l0 : Option Value} {l : eg_Lo} : wps rm K Q c_M_hasAll_11 kc ks (l0 :: some (.int x) :: l) (st) h = wps rm K Q c_M_hasAll_12 kc ks (l0 :: some (.int x) :: l) (.int x :: st) h := gk_iload rfl
theorem s_M_hasAll_12 {x : Nat} {i : Int32} : wps rm K Q c_M_hasAll_12 kc ks loc (.int i :: .ref (x + 1) :: st) h = eg_ia h x i (fun v => wps rm K Q c_M_hasAll_13 kc ks loc (.int v :: st) h) := gk_iaload
theorem s_M_hasAll_13 {x y : Int32} : wps rm K Q c_M_hasAll_13 kc ks loc (.int y :: .int x :: st) h = ((y ≤ x → K 57 kc ks loc st h) ∧ (¬ y ≤ x → wps rm K Q c_M_hasAll_16 kc ks loc (st) h)) := gk_if2_ge
theorem s_M_hasAll_16 {x : Int32} {l0 l1 l2 : Option Value} {l : eg_Lo} : wps rm K Q c_M_hasAll_16 kc ks (l0 :: l1 :: l2 :: some (.int x) :: l) (st) h = wps rm K Q c_M_hasAll_17 kc ks (l0 :: l1 :: l2 :: some (.int x) :: l) (.int x :: st) h := gk_iload rfl
theorem s_M_hasAll_17 {x : Nat} {l : eg_Lo} : wps rm K Q c_M_hasAll_17 kc ks (some (.ref x) :: l) (st) h = wps rm K Q c_M_hasAll_18 kc ks (some (.ref x) :: l) (.ref x :: st) h := gk_aload rfl
theorem s_M_hasAll_18 {x : Nat} : wps rm K Q c_M_hasAll_18 kc ks loc (.ref (x + 1) :: st) h = eg_gf h x 12 4 (fun v => wps rm K Q c_M_hasAll_21 kc ks loc (v :: st) h) := gk_gf
theorem s_M_hasAll_21 {x : Int32} {l0 : Option Value} {l : eg_Lo} : wps rm K Q c_M_hasAll_21 kc ks (l0 :: some (.int x) :: l) (st) h = wps rm K Q c_M_hasAll_22 kc ks (l0 :: some (.int x) :: l) (.int x :: st) h := gk_iload rfl
theorem s_M_hasAll_22 {x : Int32} {l0 l1 l2 l3 : Option Value} {l : eg_Lo} : wps rm K Q c_M_hasAll_22 kc ks (l0 :: l1 :: l2 :: l3 :: some (.int x) :: l) (st) h = wps rm K Q c_M_hasAll_24 kc ks (l0 :: l1 :: l2 :: l3 :: some (.int x) :: l) (.int x :: st) h := gk_iload rfl
theorem s_M_hasAll_24  {a1 : Value} {a2 : Value} : wps rm K Q c_M_hasAll_24 kc ks loc (a2 :: a1 :: st) h = (st.length ≤ 4 ∧ eg_Cs n_M_at_II [a1, a2] h (fun v h9 => wps rm K Q c_M_hasAll_27 kc ks loc (v.toList ++ st) h9)) := eg_c0_2
theorem s_M_hasAll_27 {x : Nat} {i : Int32} : wps rm K Q c_M_hasAll_27 kc ks loc (.int i :: .ref (x + 1) :: st) h = eg_ba h x i (fun v => wps rm K Q c_M_hasAll_28 kc ks loc (.int v :: st) h) := gk_baload
theorem s_M_hasAll_28 {x : Int32} : wps rm K Q c_M_hasAll_28 kc ks loc (.int x :: st) h = ((¬ x = 0 → K 44 kc ks loc st h) ∧ (x = 0 → wps rm K Q c_M_hasAll_31 kc ks loc (st) h)) := gk_if1_ne
theorem s_M_hasAll_31 {x : Nat} {l : eg_Lo} : wps rm K Q c_M_hasAll_31 kc ks (some (.ref x) :: l) (st) h = wps rm K Q c_M_hasAll_32 kc ks (some (.ref x) :: l) (.ref x :: st) h := gk_aload rfl
theorem s_M_hasAll_32 {x : Int32} {l0 : Option Value} {l : eg_Lo} : wps rm K Q c_M_hasAll_32 kc ks (l0 :: some (.int x) :: l) (st) h = wps rm K Q c_M_hasAll_33 kc ks (l0 :: some (.int x) :: l) (.int x :: st) h := gk_iload rfl
theorem s_M_hasAll_33 {x : Int32} {l0 l1 : Option Value} {l : eg_Lo} : wps rm K Q c_M_hasAll_33 kc ks (l0 :: l1 :: some (.int x) :: l) (st) h = wps rm K Q c_M_hasAll_34 kc ks (l0 :: l1 :: some (.int x) :: l) (.int x :: st) h := gk_iload rfl
theorem s_M_hasAll_34 {x : Int32} {l0 l1 l2 l3 : Option Value} {l : eg_Lo} : wps rm K Q c_M_hasAll_34 kc ks (l0 :: l1 :: l2 :: l3 :: some (.int x) :: l) (st) h = wps rm K Q c_M_hasAll_36 kc ks (l0 :: l1 :: l2 :: l3 :: some (.int x) :: l) (.int x :: st) h := gk_iload rfl
theorem s_M_hasAll_36  {a1 : Value} {a2 : Value} {a3 : Value} {x : Nat} : wps rm K Q c_M_hasAll_36 kc ks loc (a3 :: a2 :: a1 :: .ref (x + 1) :: st) h = (eg_cls h x 12 ∧ st.length ≤ 4 ∧ eg_Cs n_M_outside (.ref (x + 1) :: [a1, a2, a3]) h (fun v h9 => wps rm K Q c_M_hasAll_39 kc ks loc (v.toList ++ st) h9)) := eg_c1_3
theorem s_M_hasAll_39  : wps rm K Q c_M_hasAll_39 kc ks loc (st) h = wps rm K Q c_M_hasAll_40 kc ks loc (.long (0) :: st) h := gk_lc (by decide)
theorem s_M_hasAll_40 {x y : Int64} : wps rm K Q c_M_hasAll_40 kc ks loc (.long y :: .long x :: st) h = wps rm K Q c_M_hasAll_41 kc ks loc (.int (lg_cmp x y) :: st) h := gk_lcmp
theorem s_M_hasAll_41 {x : Int32} : wps rm K Q c_M_hasAll_41 kc ks loc (.int x :: st) h = ((0 < x → K 48 kc ks loc st h) ∧ (¬ 0 < x → wps rm K Q c_M_hasAll_44 kc ks loc (st) h)) := gk_if1_gt
theorem s_M_hasAll_44  : wps rm K Q c_M_hasAll_44 kc ks loc (st) h = wps rm K Q c_M_hasAll_45 kc ks loc (.int (1) :: st) h := gk_ic (by decide)
theorem s_M_hasAll_45  : wps rm K Q c_M_hasAll_45 kc ks loc (st) h = K 49 kc ks loc st h := gk_goto
theorem s_M_hasAll_48  : wps rm K Q c_M_hasAll_48 kc ks loc (st) h = wps rm K Q c_M_hasAll_49 kc ks loc (.int (0) :: st) h := gk_ic (by decide)
theorem s_M_hasAll_49 {x y : Int32} : wps rm K Q c_M_hasAll_49 kc ks loc (.int y :: .int x :: st) h = wps rm K Q c_M_hasAll_50 kc ks loc (.int (x &&& y) :: st) h := gk_iand
theorem s_M_hasAll_50 {x : Int32} : wps rm K Q c_M_hasAll_50 kc ks loc (.int x :: st) h = wps rm K Q c_M_hasAll_51 kc ks (eg_set1 loc 3 (.int x)) (st) h := gk_istore
theorem s_M_hasAll_51 {x : Int32} {l0 l1 l2 l3 : Option Value} {lz : eg_Lo} : wps rm K Q c_M_hasAll_51 kc ks (l0 :: l1 :: l2 :: l3 :: some (.int x) :: lz) (st) h = wps rm K Q c_M_hasAll_54 kc ks (eg_set1 (l0 :: l1 :: l2 :: l3 :: some (.int x) :: lz) 4 (.int (x + (1)))) (st) h := gk_iinc rfl (by decide)
theorem s_M_hasAll_54  : wps rm K Q c_M_hasAll_54 kc ks loc (st) h = K 5 kc ks loc st h := gk_goto
theorem s_M_hasAll_57 {x : Int32} {l0 l1 l2 : Option Value} {l : eg_Lo} : wps rm K Q c_M_hasAll_57 kc ks (l0 :: l1 :: l2 :: some (.int x) :: l) (st) h = wps rm K Q c_M_hasAll_58 kc ks (l0 :: l1 :: l2 :: some (.int x) :: l) (.int x :: st) h := gk_iload rfl
theorem s_M_hasAll_58 {x : Int32} : wps rm K Q c_M_hasAll_58 kc ks loc ([.int x]) h = (kc = rm.cells ∧ ((1 : Nat) = 1 → x = 0 ∨ x = 1) ∧ Q (some (.int x)) h) := gk_iret
theorem sz_M_hasAll_5 : wps rm K Q z_M_hasAll_5 kc ks loc st h = K 5 kc ks loc st h := gk_nop
def T_M_hasAll : List (Nat × List eg_I) := [(44, c_M_hasAll_44), (48, c_M_hasAll_48), (49, c_M_hasAll_49), (57, c_M_hasAll_57)]
theorem j_M_hasAll_44 {R : Nat → Nat → Nat → eg_Lo → List Value → List eg_E → Prop} {f pc0 : Nat} : eg_run rm R Q T_M_hasAll (f + 1) 44 kc ks loc st h = wps rm (eg_run rm R Q T_M_hasAll f) Q c_M_hasAll_44 kc ks loc st h := rfl
theorem j_M_hasAll_48 {R : Nat → Nat → Nat → eg_Lo → List Value → List eg_E → Prop} {f pc0 : Nat} : eg_run rm R Q T_M_hasAll (f + 1) 48 kc ks loc st h = wps rm (eg_run rm R Q T_M_hasAll f) Q c_M_hasAll_48 kc ks loc st h := rfl
theorem j_M_hasAll_49 {R : Nat → Nat → Nat → eg_Lo → List Value → List eg_E → Prop} {f pc0 : Nat} : eg_run rm R Q T_M_hasAll (f + 1) 49 kc ks loc st h = wps rm (eg_run rm R Q T_M_hasAll f) Q c_M_hasAll_49 kc ks loc st h := rfl
theorem j_M_hasAll_57 {R : Nat → Nat → Nat → eg_Lo → List Value → List eg_E → Prop} {f pc0 : Nat} : eg_run rm R Q T_M_hasAll (f + 1) 57 kc ks loc st h = wps rm (eg_run rm R Q T_M_hasAll f) Q c_M_hasAll_57 kc ks loc st h := rfl
theorem j_M_hasAll_5 {R : Nat → Nat → Nat → eg_Lo → List Value → List eg_E → Prop} {f pc0 : Nat} : eg_run rm R Q T_M_hasAll (f + 1) 5 kc ks loc st h = R 5 kc ks loc st h := rfl
end
theorem y_M_hasAll_0 : eg_seq m_M_hasAll 0 c_M_hasAll_0 = true := by decide +kernel
theorem y_M_hasAll_5 : eg_seq m_M_hasAll 5 c_M_hasAll_5 = true := by decide +kernel
theorem y_M_hasAll_48 : eg_seq m_M_hasAll 48 c_M_hasAll_48 = true := by decide +kernel
theorem y_M_hasAll_57 : eg_seq m_M_hasAll 57 c_M_hasAll_57 = true := by decide +kernel
theorem q_M_hasAll : ∀ q ∈ T_M_hasAll, eg_seq m_M_hasAll q.1 q.2 = true := by
  intro q hq
  simp only [T_M_hasAll, List.mem_cons, List.not_mem_nil, or_false] at hq
  rcases hq with rfl | rfl | rfl | rfl
  · exact (eg_seq_drop y_M_hasAll_5 22 : eg_seq m_M_hasAll 44 c_M_hasAll_44 = true)
  · exact y_M_hasAll_48
  · exact (eg_seq_drop y_M_hasAll_48 1 : eg_seq m_M_hasAll 49 c_M_hasAll_49 = true)
  · exact y_M_hasAll_57
theorem md_M_hasAll : eg_md n_M_hasAll = m_M_hasAll := rfl
theorem mn_M_hasAll : n_M_hasAll < 202 := Nat.le_of_ble_eq_true rfl
theorem b_M_hasAll {as : List Value} {h : List eg_E} {Q : Option Value → List eg_E → Prop} (hf : (eg_fl as).length ≤ 5) : wps (eg_rm m_M_hasAll) (eg_run (eg_rm m_M_hasAll) (eg_R m_M_hasAll Q (h.length + 0)) Q T_M_hasAll 6) Q c_M_hasAll_0 0 0 (eg_entry 5 as) [] h → eg_Runs n_M_hasAll as h Q := eg_begin2 md_M_hasAll mn_M_hasAll y_M_hasAll_0 q_M_hasAll hf
theorem p_M_hasAll_5 {Q : Option Value → List eg_E → Prop} {n0 kc ks : Nat} {loc : eg_Lo} {st : List Value} {h : List eg_E} : wps (eg_rm m_M_hasAll) (eg_run (eg_rm m_M_hasAll) (eg_R m_M_hasAll Q n0) Q T_M_hasAll 6) Q c_M_hasAll_5 kc ks loc st h → eg_R m_M_hasAll Q n0 5 kc ks loc st h := eg_go2 y_M_hasAll_5 q_M_hasAll
/-! ===== M_isSharp ===== -/
def c_M_isSharp_93 : List eg_I := .inl (93, 1, .ireturn, 0, 1) :: []
def c_M_isSharp_92 : List eg_I := .inl (92, 1, .iconst (0), 0, 0) :: c_M_isSharp_93
def c_M_isSharp_89 : List eg_I := .inl (89, 3, .goto (4), 93, 0) :: []
def c_M_isSharp_88 : List eg_I := .inl (88, 1, .iconst (1), 0, 0) :: c_M_isSharp_89
def c_M_isSharp_85 : List eg_I := .inl (85, 3, .ifCond .lt (7), 92, 0) :: c_M_isSharp_88
def c_M_isSharp_84 : List eg_I := .inl (84, 1, .iadd, 0, 0) :: c_M_isSharp_85
def c_M_isSharp_83 : List eg_I := .inl (83, 1, .imul, 0, 0) :: c_M_isSharp_84
def c_M_isSharp_82 : List eg_I := .inl (82, 1, .isub, 0, 0) :: c_M_isSharp_83
def c_M_isSharp_81 : List eg_I := .inl (81, 1, .iaload, 0, 0) :: c_M_isSharp_82
def c_M_isSharp_79 : List eg_I := .inl (79, 2, .iload 5, 0, 0) :: c_M_isSharp_81
def c_M_isSharp_76 : List eg_I := .inl (76, 3, .getfield 16, 12, 2) :: c_M_isSharp_79
def c_M_isSharp_75 : List eg_I := .inl (75, 1, .aload 0, 0, 0) :: c_M_isSharp_76
def c_M_isSharp_74 : List eg_I := .inl (74, 1, .iaload, 0, 0) :: c_M_isSharp_75
def c_M_isSharp_72 : List eg_I := .inl (72, 2, .iload 7, 0, 0) :: c_M_isSharp_74
def c_M_isSharp_69 : List eg_I := .inl (69, 3, .getfield 16, 12, 2) :: c_M_isSharp_72
def c_M_isSharp_68 : List eg_I := .inl (68, 1, .aload 0, 0, 0) :: c_M_isSharp_69
def c_M_isSharp_67 : List eg_I := .inl (67, 1, .isub, 0, 0) :: c_M_isSharp_68
def c_M_isSharp_66 : List eg_I := .inl (66, 1, .iaload, 0, 0) :: c_M_isSharp_67
def c_M_isSharp_64 : List eg_I := .inl (64, 2, .iload 5, 0, 0) :: c_M_isSharp_66
def c_M_isSharp_61 : List eg_I := .inl (61, 3, .getfield 16, 12, 2) :: c_M_isSharp_64
def c_M_isSharp_60 : List eg_I := .inl (60, 1, .aload 0, 0, 0) :: c_M_isSharp_61
def c_M_isSharp_59 : List eg_I := .inl (59, 1, .iaload, 0, 0) :: c_M_isSharp_60
def c_M_isSharp_57 : List eg_I := .inl (57, 2, .iload 6, 0, 0) :: c_M_isSharp_59
def c_M_isSharp_54 : List eg_I := .inl (54, 3, .getfield 16, 12, 2) :: c_M_isSharp_57
def c_M_isSharp_53 : List eg_I := .inl (53, 1, .aload 0, 0, 0) :: c_M_isSharp_54
def c_M_isSharp_52 : List eg_I := .inl (52, 1, .imul, 0, 0) :: c_M_isSharp_53
def c_M_isSharp_51 : List eg_I := .inl (51, 1, .isub, 0, 0) :: c_M_isSharp_52
def c_M_isSharp_50 : List eg_I := .inl (50, 1, .iaload, 0, 0) :: c_M_isSharp_51
def c_M_isSharp_48 : List eg_I := .inl (48, 2, .iload 5, 0, 0) :: c_M_isSharp_50
def c_M_isSharp_45 : List eg_I := .inl (45, 3, .getfield 13, 12, 1) :: c_M_isSharp_48
def c_M_isSharp_44 : List eg_I := .inl (44, 1, .aload 0, 0, 0) :: c_M_isSharp_45
def c_M_isSharp_43 : List eg_I := .inl (43, 1, .iaload, 0, 0) :: c_M_isSharp_44
def c_M_isSharp_41 : List eg_I := .inl (41, 2, .iload 7, 0, 0) :: c_M_isSharp_43
def c_M_isSharp_38 : List eg_I := .inl (38, 3, .getfield 13, 12, 1) :: c_M_isSharp_41
def c_M_isSharp_37 : List eg_I := .inl (37, 1, .aload 0, 0, 0) :: c_M_isSharp_38
def c_M_isSharp_36 : List eg_I := .inl (36, 1, .isub, 0, 0) :: c_M_isSharp_37
def c_M_isSharp_35 : List eg_I := .inl (35, 1, .iaload, 0, 0) :: c_M_isSharp_36
def c_M_isSharp_33 : List eg_I := .inl (33, 2, .iload 5, 0, 0) :: c_M_isSharp_35
def c_M_isSharp_30 : List eg_I := .inl (30, 3, .getfield 13, 12, 1) :: c_M_isSharp_33
def c_M_isSharp_29 : List eg_I := .inl (29, 1, .aload 0, 0, 0) :: c_M_isSharp_30
def c_M_isSharp_28 : List eg_I := .inl (28, 1, .iaload, 0, 0) :: c_M_isSharp_29
def c_M_isSharp_26 : List eg_I := .inl (26, 2, .iload 6, 0, 0) :: c_M_isSharp_28
def c_M_isSharp_23 : List eg_I := .inl (23, 3, .getfield 13, 12, 1) :: c_M_isSharp_26
def c_M_isSharp_22 : List eg_I := .inl (22, 1, .aload 0, 0, 0) :: c_M_isSharp_23
def c_M_isSharp_20 : List eg_I := .inl (20, 2, .istore 7, 0, 0) :: c_M_isSharp_22
def c_M_isSharp_17 : List eg_I := .inr (17, 0, 103, n_M_at_II, 2, 12, 0, 0) :: c_M_isSharp_20
def c_M_isSharp_15 : List eg_I := .inl (15, 2, .iload 4, 0, 0) :: c_M_isSharp_17
def c_M_isSharp_14 : List eg_I := .inl (14, 1, .iload 1, 0, 0) :: c_M_isSharp_15
def c_M_isSharp_12 : List eg_I := .inl (12, 2, .istore 6, 0, 0) :: c_M_isSharp_14
def c_M_isSharp_9 : List eg_I := .inr (9, 0, 103, n_M_at_II, 2, 12, 0, 0) :: c_M_isSharp_12
def c_M_isSharp_8 : List eg_I := .inl (8, 1, .iload 3, 0, 0) :: c_M_isSharp_9
def c_M_isSharp_7 : List eg_I := .inl (7, 1, .iload 1, 0, 0) :: c_M_isSharp_8
def c_M_isSharp_5 : List eg_I := .inl (5, 2, .istore 5, 0, 0) :: c_M_isSharp_7
def c_M_isSharp_2 : List eg_I := .inr (2, 0, 103, n_M_at_II, 2, 12, 0, 0) :: c_M_isSharp_5
def c_M_isSharp_1 : List eg_I := .inl (1, 1, .iload 2, 0, 0) :: c_M_isSharp_2
def c_M_isSharp_0 : List eg_I := .inl (0, 1, .iload 1, 0, 0) :: c_M_isSharp_1
section
variable {rm : Room} {K : Nat → Nat → Nat → eg_Lo → List Value → List eg_E → Prop} {Q : Option Value → List eg_E → Prop} {kc ks : Nat} {loc : eg_Lo} {st : List Value} {h : List eg_E}
theorem s_M_isSharp_0 {x : Int32} {l0 : Option Value} {l : eg_Lo} : wps rm K Q c_M_isSharp_0 kc ks (l0 :: some (.int x) :: l) (st) h = wps rm K Q c_M_isSharp_1 kc ks (l0 :: some (.int x) :: l) (.int x :: st) h := gk_iload rfl
theorem s_M_isSharp_1 {x : Int32} {l0 l1 : Option Value} {l : eg_Lo} : wps rm K Q c_M_isSharp_1 kc ks (l0 :: l1 :: some (.int x) :: l) (st) h = wps rm K Q c_M_isSharp_2 kc ks (l0 :: l1 :: some (.int x) :: l) (.int x :: st) h := gk_iload rfl
theorem s_M_isSharp_2  {a1 : Value} {a2 : Value} : wps rm K Q c_M_isSharp_2 kc ks loc (a2 :: a1 :: st) h = (st.length ≤ 4 ∧ eg_Cs n_M_at_II [a1, a2] h (fun v h9 => wps rm K Q c_M_isSharp_5 kc ks loc (v.toList ++ st) h9)) := eg_c0_2
theorem s_M_isSharp_5 {x : Int32} : wps rm K Q c_M_isSharp_5 kc ks loc (.int x :: st) h = wps rm K Q c_M_isSharp_7 kc ks (eg_set1 loc 5 (.int x)) (st) h := gk_istore
theorem s_M_isSharp_7 {x : Int32} {l0 : Option Value} {l : eg_Lo} : wps rm K Q c_M_isSharp_7 kc ks (l0 :: some (.int x) :: l) (st) h = wps rm K Q c_M_isSharp_8 kc ks (l0 :: some (.int x) :: l) (.int x :: st) h := gk_iload rfl
theorem s_M_isSharp_8 {x : Int32} {l0 l1 l2 : Option Value} {l : eg_Lo} : wps rm K Q c_M_isSharp_8 kc ks (l0 :: l1 :: l2 :: some (.int x) :: l) (st) h = wps rm K Q c_M_isSharp_9 kc ks (l0 :: l1 :: l2 :: some (.int x) :: l) (.int x :: st) h := gk_iload rfl
theorem s_M_isSharp_9  {a1 : Value} {a2 : Value} : wps rm K Q c_M_isSharp_9 kc ks loc (a2 :: a1 :: st) h = (st.length ≤ 4 ∧ eg_Cs n_M_at_II [a1, a2] h (fun v h9 => wps rm K Q c_M_isSharp_12 kc ks loc (v.toList ++ st) h9)) := eg_c0_2
theorem s_M_isSharp_12 {x : Int32} : wps rm K Q c_M_isSharp_12 kc ks loc (.int x :: st) h = wps rm K Q c_M_isSharp_14 kc ks (eg_set1 loc 6 (.int x)) (st) h := gk_istore
theorem s_M_isSharp_14 {x : Int32} {l0 : Option Value} {l : eg_Lo} : wps rm K Q c_M_isSharp_14 kc ks (l0 :: some (.int x) :: l) (st) h = wps rm K Q c_M_isSharp_15 kc ks (l0 :: some (.int x) :: l) (.int x :: st) h := gk_iload rfl
theorem s_M_isSharp_15 {x : Int32} {l0 l1 l2 l3 : Option Value} {l : eg_Lo} : wps rm K Q c_M_isSharp_15 kc ks (l0 :: l1 :: l2 :: l3 :: some (.int x) :: l) (st) h = wps rm K Q c_M_isSharp_17 kc ks (l0 :: l1 :: l2 :: l3 :: some (.int x) :: l) (.int x :: st) h := gk_iload rfl
theorem s_M_isSharp_17  {a1 : Value} {a2 : Value} : wps rm K Q c_M_isSharp_17 kc ks loc (a2 :: a1 :: st) h = (st.length ≤ 4 ∧ eg_Cs n_M_at_II [a1, a2] h (fun v h9 => wps rm K Q c_M_isSharp_20 kc ks loc (v.toList ++ st) h9)) := eg_c0_2
theorem s_M_isSharp_20 {x : Int32} : wps rm K Q c_M_isSharp_20 kc ks loc (.int x :: st) h = wps rm K Q c_M_isSharp_22 kc ks (eg_set1 loc 7 (.int x)) (st) h := gk_istore
theorem s_M_isSharp_22 {x : Nat} {l : eg_Lo} : wps rm K Q c_M_isSharp_22 kc ks (some (.ref x) :: l) (st) h = wps rm K Q c_M_isSharp_23 kc ks (some (.ref x) :: l) (.ref x :: st) h := gk_aload rfl
theorem s_M_isSharp_23 {x : Nat} : wps rm K Q c_M_isSharp_23 kc ks loc (.ref (x + 1) :: st) h = eg_gf h x 12 1 (fun v => wps rm K Q c_M_isSharp_26 kc ks loc (v :: st) h) := gk_gf
theorem s_M_isSharp_26 {x : Int32} {l0 l1 l2 l3 l4 l5 : Option Value} {l : eg_Lo} : wps rm K Q c_M_isSharp_26 kc ks (l0 :: l1 :: l2 :: l3 :: l4 :: l5 :: some (.int x) :: l) (st) h = wps rm K Q c_M_isSharp_28 kc ks (l0 :: l1 :: l2 :: l3 :: l4 :: l5 :: some (.int x) :: l) (.int x :: st) h := gk_iload rfl
theorem s_M_isSharp_28 {x : Nat} {i : Int32} : wps rm K Q c_M_isSharp_28 kc ks loc (.int i :: .ref (x + 1) :: st) h = eg_ia h x i (fun v => wps rm K Q c_M_isSharp_29 kc ks loc (.int v :: st) h) := gk_iaload
theorem s_M_isSharp_29 {x : Nat} {l : eg_Lo} : wps rm K Q c_M_isSharp_29 kc ks (some (.ref x) :: l) (st) h = wps rm K Q c_M_isSharp_30 kc ks (some (.ref x) :: l) (.ref x :: st) h := gk_aload rfl
theorem s_M_isSharp_30 {x : Nat} : wps rm K Q c_M_isSharp_30 kc ks loc (.ref (x + 1) :: st) h = eg_gf h x 12 1 (fun v => wps rm K Q c_M_isSharp_33 kc ks loc (v :: st) h) := gk_gf
theorem s_M_isSharp_33 {x : Int32} {l0 l1 l2 l3 l4 : Option Value} {l : eg_Lo} : wps rm K Q c_M_isSharp_33 kc ks (l0 :: l1 :: l2 :: l3 :: l4 :: some (.int x) :: l) (st) h = wps rm K Q c_M_isSharp_35 kc ks (l0 :: l1 :: l2 :: l3 :: l4 :: some (.int x) :: l) (.int x :: st) h := gk_iload rfl
theorem s_M_isSharp_35 {x : Nat} {i : Int32} : wps rm K Q c_M_isSharp_35 kc ks loc (.int i :: .ref (x + 1) :: st) h = eg_ia h x i (fun v => wps rm K Q c_M_isSharp_36 kc ks loc (.int v :: st) h) := gk_iaload
theorem s_M_isSharp_36 {x y : Int32} : wps rm K Q c_M_isSharp_36 kc ks loc (.int y :: .int x :: st) h = wps rm K Q c_M_isSharp_37 kc ks loc (.int (x - y) :: st) h := gk_isub
theorem s_M_isSharp_37 {x : Nat} {l : eg_Lo} : wps rm K Q c_M_isSharp_37 kc ks (some (.ref x) :: l) (st) h = wps rm K Q c_M_isSharp_38 kc ks (some (.ref x) :: l) (.ref x :: st) h := gk_aload rfl
theorem s_M_isSharp_38 {x : Nat} : wps rm K Q c_M_isSharp_38 kc ks loc (.ref (x + 1) :: st) h = eg_gf h x 12 1 (fun v => wps rm K Q c_M_isSharp_41 kc ks loc (v :: st) h) := gk_gf
theorem s_M_isSharp_41 {x : Int32} {l0 l1 l2 l3 l4 l5 l6 : Option Value} {l : eg_Lo} : wps rm K Q c_M_isSharp_41 kc ks (l0 :: l1 :: l2 :: l3 :: l4 :: l5 :: l6 :: some (.int x) :: l) (st) h = wps rm K Q c_M_isSharp_43 kc ks (l0 :: l1 :: l2 :: l3 :: l4 :: l5 :: l6 :: some (.int x) :: l) (.int x :: st) h := gk_iload rfl
theorem s_M_isSharp_43 {x : Nat} {i : Int32} : wps rm K Q c_M_isSharp_43 kc ks loc (.int i :: .ref (x + 1) :: st) h = eg_ia h x i (fun v => wps rm K Q c_M_isSharp_44 kc ks loc (.int v :: st) h) := gk_iaload
theorem s_M_isSharp_44 {x : Nat} {l : eg_Lo} : wps rm K Q c_M_isSharp_44 kc ks (some (.ref x) :: l) (st) h = wps rm K Q c_M_isSharp_45 kc ks (some (.ref x) :: l) (.ref x :: st) h := gk_aload rfl
theorem s_M_isSharp_45 {x : Nat} : wps rm K Q c_M_isSharp_45 kc ks loc (.ref (x + 1) :: st) h = eg_gf h x 12 1 (fun v => wps rm K Q c_M_isSharp_48 kc ks loc (v :: st) h) := gk_gf
theorem s_M_isSharp_48 {x : Int32} {l0 l1 l2 l3 l4 : Option Value} {l : eg_Lo} : wps rm K Q c_M_isSharp_48 kc ks (l0 :: l1 :: l2 :: l3 :: l4 :: some (.int x) :: l) (st) h = wps rm K Q c_M_isSharp_50 kc ks (l0 :: l1 :: l2 :: l3 :: l4 :: some (.int x) :: l) (.int x :: st) h := gk_iload rfl
theorem s_M_isSharp_50 {x : Nat} {i : Int32} : wps rm K Q c_M_isSharp_50 kc ks loc (.int i :: .ref (x + 1) :: st) h = eg_ia h x i (fun v => wps rm K Q c_M_isSharp_51 kc ks loc (.int v :: st) h) := gk_iaload
theorem s_M_isSharp_51 {x y : Int32} : wps rm K Q c_M_isSharp_51 kc ks loc (.int y :: .int x :: st) h = wps rm K Q c_M_isSharp_52 kc ks loc (.int (x - y) :: st) h := gk_isub
theorem s_M_isSharp_52 {x y : Int32} : wps rm K Q c_M_isSharp_52 kc ks loc (.int y :: .int x :: st) h = wps rm K Q c_M_isSharp_53 kc ks loc (.int (x * y) :: st) h := gk_imul
theorem s_M_isSharp_53 {x : Nat} {l : eg_Lo} : wps rm K Q c_M_isSharp_53 kc ks (some (.ref x) :: l) (st) h = wps rm K Q c_M_isSharp_54 kc ks (some (.ref x) :: l) (.ref x :: st) h := gk_aload rfl
theorem s_M_isSharp_54 {x : Nat} : wps rm K Q c_M_isSharp_54 kc ks loc (.ref (x + 1) :: st) h = eg_gf h x 12 2 (fun v => wps rm K Q c_M_isSharp_57 kc ks loc (v :: st) h) := gk_gf
theorem s_M_isSharp_57 {x : Int32} {l0 l1 l2 l3 l4 l5 : Option Value} {l : eg_Lo} : wps rm K Q c_M_isSharp_57 kc ks (l0 :: l1 :: l2 :: l3 :: l4 :: l5 :: some (.int x) :: l) (st) h = wps rm K Q c_M_isSharp_59 kc ks (l0 :: l1 :: l2 :: l3 :: l4 :: l5 :: some (.int x) :: l) (.int x :: st) h := gk_iload rfl
theorem s_M_isSharp_59 {x : Nat} {i : Int32} : wps rm K Q c_M_isSharp_59 kc ks loc (.int i :: .ref (x + 1) :: st) h = eg_ia h x i (fun v => wps rm K Q c_M_isSharp_60 kc ks loc (.int v :: st) h) := gk_iaload
theorem s_M_isSharp_60 {x : Nat} {l : eg_Lo} : wps rm K Q c_M_isSharp_60 kc ks (some (.ref x) :: l) (st) h = wps rm K Q c_M_isSharp_61 kc ks (some (.ref x) :: l) (.ref x :: st) h := gk_aload rfl
theorem s_M_isSharp_61 {x : Nat} : wps rm K Q c_M_isSharp_61 kc ks loc (.ref (x + 1) :: st) h = eg_gf h x 12 2 (fun v => wps rm K Q c_M_isSharp_64 kc ks loc (v :: st) h) := gk_gf
theorem s_M_isSharp_64 {x : Int32} {l0 l1 l2 l3 l4 : Option Value} {l : eg_Lo} : wps rm K Q c_M_isSharp_64 kc ks (l0 :: l1 :: l2 :: l3 :: l4 :: some (.int x) :: l) (st) h = wps rm K Q c_M_isSharp_66 kc ks (l0 :: l1 :: l2 :: l3 :: l4 :: some (.int x) :: l) (.int x :: st) h := gk_iload rfl
theorem s_M_isSharp_66 {x : Nat} {i : Int32} : wps rm K Q c_M_isSharp_66 kc ks loc (.int i :: .ref (x + 1) :: st) h = eg_ia h x i (fun v => wps rm K Q c_M_isSharp_67 kc ks loc (.int v :: st) h) := gk_iaload
theorem s_M_isSharp_67 {x y : Int32} : wps rm K Q c_M_isSharp_67 kc ks loc (.int y :: .int x :: st) h = wps rm K Q c_M_isSharp_68 kc ks loc (.int (x - y) :: st) h := gk_isub
theorem s_M_isSharp_68 {x : Nat} {l : eg_Lo} : wps rm K Q c_M_isSharp_68 kc ks (some (.ref x) :: l) (st) h = wps rm K Q c_M_isSharp_69 kc ks (some (.ref x) :: l) (.ref x :: st) h := gk_aload rfl
theorem s_M_isSharp_69 {x : Nat} : wps rm K Q c_M_isSharp_69 kc ks loc (.ref (x + 1) :: st) h = eg_gf h x 12 2 (fun v => wps rm K Q c_M_isSharp_72 kc ks loc (v :: st) h) := gk_gf
theorem s_M_isSharp_72 {x : Int32} {l0 l1 l2 l3 l4 l5 l6 : Option Value} {l : eg_Lo} : wps rm K Q c_M_isSharp_72 kc ks (l0 :: l1 :: l2 :: l3 :: l4 :: l5 :: l6 :: some (.int x) :: l) (st) h = wps rm K Q c_M_isSharp_74 kc ks (l0 :: l1 :: l2 :: l3 :: l4 :: l5 :: l6 :: some (.int x) :: l) (.int x :: st) h := gk_iload rfl
theorem s_M_isSharp_74 {x : Nat} {i : Int32} : wps rm K Q c_M_isSharp_74 kc ks loc (.int i :: .ref (x + 1) :: st) h = eg_ia h x i (fun v => wps rm K Q c_M_isSharp_75 kc ks loc (.int v :: st) h) := gk_iaload
theorem s_M_isSharp_75 {x : Nat} {l : eg_Lo} : wps rm K Q c_M_isSharp_75 kc ks (some (.ref x) :: l) (st) h = wps rm K Q c_M_isSharp_76 kc ks (some (.ref x) :: l) (.ref x :: st) h := gk_aload rfl
theorem s_M_isSharp_76 {x : Nat} : wps rm K Q c_M_isSharp_76 kc ks loc (.ref (x + 1) :: st) h = eg_gf h x 12 2 (fun v => wps rm K Q c_M_isSharp_79 kc ks loc (v :: st) h) := gk_gf
theorem s_M_isSharp_79 {x : Int32} {l0 l1 l2 l3 l4 : Option Value} {l : eg_Lo} : wps rm K Q c_M_isSharp_79 kc ks (l0 :: l1 :: l2 :: l3 :: l4 :: some (.int x) :: l) (st) h = wps rm K Q c_M_isSharp_81 kc ks (l0 :: l1 :: l2 :: l3 :: l4 :: some (.int x) :: l) (.int x :: st) h := gk_iload rfl
theorem s_M_isSharp_81 {x : Nat} {i : Int32} : wps rm K Q c_M_isSharp_81 kc ks loc (.int i :: .ref (x + 1) :: st) h = eg_ia h x i (fun v => wps rm K Q c_M_isSharp_82 kc ks loc (.int v :: st) h) := gk_iaload
theorem s_M_isSharp_82 {x y : Int32} : wps rm K Q c_M_isSharp_82 kc ks loc (.int y :: .int x :: st) h = wps rm K Q c_M_isSharp_83 kc ks loc (.int (x - y) :: st) h := gk_isub
theorem s_M_isSharp_83 {x y : Int32} : wps rm K Q c_M_isSharp_83 kc ks loc (.int y :: .int x :: st) h = wps rm K Q c_M_isSharp_84 kc ks loc (.int (x * y) :: st) h := gk_imul
theorem s_M_isSharp_84 {x y : Int32} : wps rm K Q c_M_isSharp_84 kc ks loc (.int y :: .int x :: st) h = wps rm K Q c_M_isSharp_85 kc ks loc (.int (x + y) :: st) h := gk_iadd
theorem s_M_isSharp_85 {x : Int32} : wps rm K Q c_M_isSharp_85 kc ks loc (.int x :: st) h = ((x < 0 → K 92 kc ks loc st h) ∧ (¬ x < 0 → wps rm K Q c_M_isSharp_88 kc ks loc (st) h)) := gk_if1_lt
theorem s_M_isSharp_88  : wps rm K Q c_M_isSharp_88 kc ks loc (st) h = wps rm K Q c_M_isSharp_89 kc ks loc (.int (1) :: st) h := gk_ic (by decide)
theorem s_M_isSharp_89  : wps rm K Q c_M_isSharp_89 kc ks loc (st) h = K 93 kc ks loc st h := gk_goto
theorem s_M_isSharp_92  : wps rm K Q c_M_isSharp_92 kc ks loc (st) h = wps rm K Q c_M_isSharp_93 kc ks loc (.int (0) :: st) h := gk_ic (by decide)
theorem s_M_isSharp_93 {x : Int32} : wps rm K Q c_M_isSharp_93 kc ks loc ([.int x]) h = (kc = rm.cells ∧ ((1 : Nat) = 1 → x = 0 ∨ x = 1) ∧ Q (some (.int x)) h) := gk_iret
def T_M_isSharp : List (Nat × List eg_I) := [(92, c_M_isSharp_92), (93, c_M_isSharp_93)]
theorem j_M_isSharp_92 {R : Nat → Nat → Nat → eg_Lo → List Value → List eg_E → Prop} {f pc0 : Nat} : eg_run rm R Q T_M_isSharp (f + 1) 92 kc ks loc st h = wps rm (eg_run rm R Q T_M_isSharp f) Q c_M_isSharp_92 kc ks loc st h := rfl
theorem j_M_isSharp_93 {R : Nat → Nat → Nat → eg_Lo → List Value → List eg_E → Prop} {f pc0 : Nat} : eg_run rm R Q T_M_isSharp (f + 1) 93 kc ks loc st h = wps rm (eg_run rm R Q T_M_isSharp f) Q c_M_isSharp_93 kc ks loc st h := rfl
end
theorem y_M_isSharp_0 : eg_seq m_M_isSharp 0 c_M_isSharp_0 = true := by decide +kernel
theorem y_M_isSharp_92 : eg_seq m_M_isSharp 92 c_M_isSharp_92 = true := by decide +kernel
theorem q_M_isSharp : ∀ q ∈ T_M_isSharp, eg_seq m_M_isSharp q.1 q.2 = true := by
  intro q hq
  simp only [T_M_isSharp, List.mem_cons, List.not_mem_nil, or_false] at hq
  rcases hq with rfl | rfl
  · exact y_M_isSharp_92
  · exact (eg_seq_drop y_M_isSharp_92 1 : eg_seq m_M_isSharp 93 c_M_isSharp_93 = true)
theorem md_M_isSharp : eg_md n_M_isSharp = m_M_isSharp := rfl
theorem mn_M_isSharp : n_M_isSharp < 202 := Nat.le_of_ble_eq_true rfl
theorem b_M_isSharp {as : List Value} {h : List eg_E} {Q : Option Value → List eg_E → Prop} (hf : (eg_fl as).length ≤ 8) : wps (eg_rm m_M_isSharp) (eg_run (eg_rm m_M_isSharp) (eg_R m_M_isSharp Q (h.length + 0)) Q T_M_isSharp 4) Q c_M_isSharp_0 0 0 (eg_entry 8 as) [] h → eg_Runs n_M_isSharp as h Q := eg_begin2 md_M_isSharp mn_M_isSharp y_M_isSharp_0 q_M_isSharp hf
/-! ===== M_keepMiddle ===== -/
def c_M_keepMiddle_74 : List eg_I := .inl (74, 1, .return_, 0, 0) :: []
def c_M_keepMiddle_73 : List eg_I := .inl (73, 1, .lastore, 0, 0) :: c_M_keepMiddle_74
def c_M_keepMiddle_72 : List eg_I := .inl (72, 1, .ldiv, 0, 0) :: c_M_keepMiddle_73
def c_M_keepMiddle_70 : List eg_I := .inl (70, 2, .lload 8, 0, 0) :: c_M_keepMiddle_72
def c_M_keepMiddle_68 : List eg_I := .inl (68, 2, .lload 6, 0, 0) :: c_M_keepMiddle_70
def c_M_keepMiddle_67 : List eg_I := .inl (67, 1, .iadd, 0, 0) :: c_M_keepMiddle_68
def c_M_keepMiddle_66 : List eg_I := .inl (66, 1, .iconst (3), 0, 0) :: c_M_keepMiddle_67
def c_M_keepMiddle_65 : List eg_I := .inl (65, 1, .imul, 0, 0) :: c_M_keepMiddle_66
def c_M_keepMiddle_64 : List eg_I := .inl (64, 1, .iload 1, 0, 0) :: c_M_keepMiddle_65
def c_M_keepMiddle_63 : List eg_I := .inl (63, 1, .iconst (4), 0, 0) :: c_M_keepMiddle_64
def c_M_keepMiddle_60 : List eg_I := .inl (60, 3, .getfield 51, 12, 13) :: c_M_keepMiddle_63
def c_M_keepMiddle_59 : List eg_I := .inl (59, 1, .aload 0, 0, 0) :: c_M_keepMiddle_60
def c_M_keepMiddle_58 : List eg_I := .inl (58, 1, .lastore, 0, 0) :: c_M_keepMiddle_59
def c_M_keepMiddle_57 : List eg_I := .inl (57, 1, .ldiv, 0, 0) :: c_M_keepMiddle_58
def c_M_keepMiddle_55 : List eg_I := .inl (55, 2, .lload 8, 0, 0) :: c_M_keepMiddle_57
def c_M_keepMiddle_53 : List eg_I := .inl (53, 2, .lload 4, 0, 0) :: c_M_keepMiddle_55
def c_M_keepMiddle_52 : List eg_I := .inl (52, 1, .iadd, 0, 0) :: c_M_keepMiddle_53
def c_M_keepMiddle_51 : List eg_I := .inl (51, 1, .iconst (2), 0, 0) :: c_M_keepMiddle_52
def c_M_keepMiddle_50 : List eg_I := .inl (50, 1, .imul, 0, 0) :: c_M_keepMiddle_51
def c_M_keepMiddle_49 : List eg_I := .inl (49, 1, .iload 1, 0, 0) :: c_M_keepMiddle_50
def c_M_keepMiddle_48 : List eg_I := .inl (48, 1, .iconst (4), 0, 0) :: c_M_keepMiddle_49
def c_M_keepMiddle_45 : List eg_I := .inl (45, 3, .getfield 51, 12, 13) :: c_M_keepMiddle_48
def c_M_keepMiddle_44 : List eg_I := .inl (44, 1, .aload 0, 0, 0) :: c_M_keepMiddle_45
def c_M_keepMiddle_42 : List eg_I := .inl (42, 2, .lstore 8, 0, 0) :: c_M_keepMiddle_44
def c_M_keepMiddle_39 : List eg_I := .inr (39, 0, 168, n_M_common, 2, 12, 0, 0) :: c_M_keepMiddle_42
def c_M_keepMiddle_37 : List eg_I := .inl (37, 2, .lload 6, 0, 0) :: c_M_keepMiddle_39
def c_M_keepMiddle_35 : List eg_I := .inl (35, 2, .lload 4, 0, 0) :: c_M_keepMiddle_37
def c_M_keepMiddle_34 : List eg_I := .inl (34, 1, .lastore, 0, 0) :: c_M_keepMiddle_35
def c_M_keepMiddle_33 : List eg_I := .inl (33, 1, .ldiv, 0, 0) :: c_M_keepMiddle_34
def c_M_keepMiddle_31 : List eg_I := .inl (31, 2, .lload 8, 0, 0) :: c_M_keepMiddle_33
def c_M_keepMiddle_29 : List eg_I := .inl (29, 2, .lload 6, 0, 0) :: c_M_keepMiddle_31
def c_M_keepMiddle_28 : List eg_I := .inl (28, 1, .iadd, 0, 0) :: c_M_keepMiddle_29
def c_M_keepMiddle_27 : List eg_I := .inl (27, 1, .iconst (1), 0, 0) :: c_M_keepMiddle_28
def c_M_keepMiddle_26 : List eg_I := .inl (26, 1, .imul, 0, 0) :: c_M_keepMiddle_27
def c_M_keepMiddle_25 : List eg_I := .inl (25, 1, .iload 1, 0, 0) :: c_M_keepMiddle_26
def c_M_keepMiddle_24 : List eg_I := .inl (24, 1, .iconst (4), 0, 0) :: c_M_keepMiddle_25
def c_M_keepMiddle_21 : List eg_I := .inl (21, 3, .getfield 51, 12, 13) :: c_M_keepMiddle_24
def c_M_keepMiddle_20 : List eg_I := .inl (20, 1, .aload 0, 0, 0) :: c_M_keepMiddle_21
def c_M_keepMiddle_19 : List eg_I := .inl (19, 1, .lastore, 0, 0) :: c_M_keepMiddle_20
def c_M_keepMiddle_18 : List eg_I := .inl (18, 1, .ldiv, 0, 0) :: c_M_keepMiddle_19
def c_M_keepMiddle_16 : List eg_I := .inl (16, 2, .lload 8, 0, 0) :: c_M_keepMiddle_18
def c_M_keepMiddle_15 : List eg_I := .inl (15, 1, .lload 2, 0, 0) :: c_M_keepMiddle_16
def c_M_keepMiddle_14 : List eg_I := .inl (14, 1, .imul, 0, 0) :: c_M_keepMiddle_15
def c_M_keepMiddle_13 : List eg_I := .inl (13, 1, .iload 1, 0, 0) :: c_M_keepMiddle_14
def c_M_keepMiddle_12 : List eg_I := .inl (12, 1, .iconst (4), 0, 0) :: c_M_keepMiddle_13
def c_M_keepMiddle_9 : List eg_I := .inl (9, 3, .getfield 51, 12, 13) :: c_M_keepMiddle_12
def c_M_keepMiddle_8 : List eg_I := .inl (8, 1, .aload 0, 0, 0) :: c_M_keepMiddle_9
def c_M_keepMiddle_6 : List eg_I := .inl (6, 2, .lstore 8, 0, 0) :: c_M_keepMiddle_8
def c_M_keepMiddle_3 : List eg_I := .inr (3, 0, 168, n_M_common, 2, 12, 0, 0) :: c_M_keepMiddle_6
def c_M_keepMiddle_1 : List eg_I := .inl (1, 2, .lload 6, 0, 0) :: c_M_keepMiddle_3
def c_M_keepMiddle_0 : List eg_I := .inl (0, 1, .lload 2, 0, 0) :: c_M_keepMiddle_1
section
variable {rm : Room} {K : Nat → Nat → Nat → eg_Lo → List Value → List eg_E → Prop} {Q : Option Value → List eg_E → Prop} {kc ks : Nat} {loc : eg_Lo} {st : List Value} {h : List eg_E}
theorem s_M_keepMiddle_0 {x : Int64} {l0 l1 : Option Value} {l : eg_Lo} : wps rm K Q c_M_keepMiddle_0 kc ks (l0 :: l1 :: some (.long x) :: l) (st) h = wps rm K Q c_M_keepMiddle_1 kc ks (l0 :: l1 :: some (.long x) :: l) (.long x :: st) h := gk_lload rfl
theorem s_M_keepMiddle_1 {x : Int64} {l0 l1 l2 l3 l4 l5 : Option Value} {l : eg_Lo} : wps rm K Q c_M_keepMiddle_1 kc ks (l0 :: l1 :: l2 :: l3 :: l4 :: l5 :: some (.long x) :: l) (st) h = wps rm K Q c_M_keepMiddle_3 kc ks (l0 :: l1 :: l2 :: l3 :: l4 :: l5 :: some (.long x) :: l) (.long x :: st) h := gk_lload rfl
theorem s_M_keepMiddle_3  {a1 : Value} {a2 : Value} : wps rm K Q c_M_keepMiddle_3 kc ks loc (a2 :: a1 :: st) h = (st.length ≤ 4 ∧ eg_Cs n_M_common [a1, a2] h (fun v h9 => wps rm K Q c_M_keepMiddle_6 kc ks loc (v.toList ++ st) h9)) := eg_c0_2
theorem s_M_keepMiddle_6 {x : Int64} : wps rm K Q c_M_keepMiddle_6 kc ks loc (.long x :: st) h = wps rm K Q c_M_keepMiddle_8 kc ks (eg_set2 loc 8 (.long x)) (st) h := gk_lstore
theorem s_M_keepMiddle_8 {x : Nat} {l : eg_Lo} : wps rm K Q c_M_keepMiddle_8 kc ks (some (.ref x) :: l) (st) h = wps rm K Q c_M_keepMiddle_9 kc ks (some (.ref x) :: l) (.ref x :: st) h := gk_aload rfl
theorem s_M_keepMiddle_9 {x : Nat} : wps rm K Q c_M_keepMiddle_9 kc ks loc (.ref (x + 1) :: st) h = eg_gf h x 12 13 (fun v => wps rm K Q c_M_keepMiddle_12 kc ks loc (v :: st) h) := gk_gf
theorem s_M_keepMiddle_12  : wps rm K Q c_M_keepMiddle_12 kc ks loc (st) h = wps rm K Q c_M_keepMiddle_13 kc ks loc (.int (4) :: st) h := gk_ic (by decide)
theorem s_M_keepMiddle_13 {x : Int32} {l0 : Option Value} {l : eg_Lo} : wps rm K Q c_M_keepMiddle_13 kc ks (l0 :: some (.int x) :: l) (st) h = wps rm K Q c_M_keepMiddle_14 kc ks (l0 :: some (.int x) :: l) (.int x :: st) h := gk_iload rfl
theorem s_M_keepMiddle_14 {x y : Int32} : wps rm K Q c_M_keepMiddle_14 kc ks loc (.int y :: .int x :: st) h = wps rm K Q c_M_keepMiddle_15 kc ks loc (.int (x * y) :: st) h := gk_imul
theorem s_M_keepMiddle_15 {x : Int64} {l0 l1 : Option Value} {l : eg_Lo} : wps rm K Q c_M_keepMiddle_15 kc ks (l0 :: l1 :: some (.long x) :: l) (st) h = wps rm K Q c_M_keepMiddle_16 kc ks (l0 :: l1 :: some (.long x) :: l) (.long x :: st) h := gk_lload rfl
theorem s_M_keepMiddle_16 {x : Int64} {l0 l1 l2 l3 l4 l5 l6 l7 : Option Value} {l : eg_Lo} : wps rm K Q c_M_keepMiddle_16 kc ks (l0 :: l1 :: l2 :: l3 :: l4 :: l5 :: l6 :: l7 :: some (.long x) :: l) (st) h = wps rm K Q c_M_keepMiddle_18 kc ks (l0 :: l1 :: l2 :: l3 :: l4 :: l5 :: l6 :: l7 :: some (.long x) :: l) (.long x :: st) h := gk_lload rfl
theorem s_M_keepMiddle_18 {x y : Int64} : wps rm K Q c_M_keepMiddle_18 kc ks loc (.long y :: .long x :: st) h = (¬ y = 0 ∧ wps rm K Q c_M_keepMiddle_19 kc ks loc (.long (x / y) :: st) h) := gk_ldiv
theorem s_M_keepMiddle_19 {x : Nat} {i : Int32} {v : Int64} : wps rm K Q c_M_keepMiddle_19 kc ks loc (.long v :: .int i :: .ref (x + 1) :: st) h = eg_lst h x i v (fun h9 => wps rm K Q c_M_keepMiddle_20 kc ks loc (st) h9) := gk_lastore
theorem s_M_keepMiddle_20 {x : Nat} {l : eg_Lo} : wps rm K Q c_M_keepMiddle_20 kc ks (some (.ref x) :: l) (st) h = wps rm K Q c_M_keepMiddle_21 kc ks (some (.ref x) :: l) (.ref x :: st) h := gk_aload rfl
theorem s_M_keepMiddle_21 {x : Nat} : wps rm K Q c_M_keepMiddle_21 kc ks loc (.ref (x + 1) :: st) h = eg_gf h x 12 13 (fun v => wps rm K Q c_M_keepMiddle_24 kc ks loc (v :: st) h) := gk_gf
theorem s_M_keepMiddle_24  : wps rm K Q c_M_keepMiddle_24 kc ks loc (st) h = wps rm K Q c_M_keepMiddle_25 kc ks loc (.int (4) :: st) h := gk_ic (by decide)
theorem s_M_keepMiddle_25 {x : Int32} {l0 : Option Value} {l : eg_Lo} : wps rm K Q c_M_keepMiddle_25 kc ks (l0 :: some (.int x) :: l) (st) h = wps rm K Q c_M_keepMiddle_26 kc ks (l0 :: some (.int x) :: l) (.int x :: st) h := gk_iload rfl
theorem s_M_keepMiddle_26 {x y : Int32} : wps rm K Q c_M_keepMiddle_26 kc ks loc (.int y :: .int x :: st) h = wps rm K Q c_M_keepMiddle_27 kc ks loc (.int (x * y) :: st) h := gk_imul
theorem s_M_keepMiddle_27  : wps rm K Q c_M_keepMiddle_27 kc ks loc (st) h = wps rm K Q c_M_keepMiddle_28 kc ks loc (.int (1) :: st) h := gk_ic (by decide)
theorem s_M_keepMiddle_28 {x y : Int32} : wps rm K Q c_M_keepMiddle_28 kc ks loc (.int y :: .int x :: st) h = wps rm K Q c_M_keepMiddle_29 kc ks loc (.int (x + y) :: st) h := gk_iadd
theorem s_M_keepMiddle_29 {x : Int64} {l0 l1 l2 l3 l4 l5 : Option Value} {l : eg_Lo} : wps rm K Q c_M_keepMiddle_29 kc ks (l0 :: l1 :: l2 :: l3 :: l4 :: l5 :: some (.long x) :: l) (st) h = wps rm K Q c_M_keepMiddle_31 kc ks (l0 :: l1 :: l2 :: l3 :: l4 :: l5 :: some (.long x) :: l) (.long x :: st) h := gk_lload rfl
theorem s_M_keepMiddle_31 {x : Int64} {l0 l1 l2 l3 l4 l5 l6 l7 : Option Value} {l : eg_Lo} : wps rm K Q c_M_keepMiddle_31 kc ks (l0 :: l1 :: l2 :: l3 :: l4 :: l5 :: l6 :: l7 :: some (.long x) :: l) (st) h = wps rm K Q c_M_keepMiddle_33 kc ks (l0 :: l1 :: l2 :: l3 :: l4 :: l5 :: l6 :: l7 :: some (.long x) :: l) (.long x :: st) h := gk_lload rfl
theorem s_M_keepMiddle_33 {x y : Int64} : wps rm K Q c_M_keepMiddle_33 kc ks loc (.long y :: .long x :: st) h = (¬ y = 0 ∧ wps rm K Q c_M_keepMiddle_34 kc ks loc (.long (x / y) :: st) h) := gk_ldiv
theorem s_M_keepMiddle_34 {x : Nat} {i : Int32} {v : Int64} : wps rm K Q c_M_keepMiddle_34 kc ks loc (.long v :: .int i :: .ref (x + 1) :: st) h = eg_lst h x i v (fun h9 => wps rm K Q c_M_keepMiddle_35 kc ks loc (st) h9) := gk_lastore
theorem s_M_keepMiddle_35 {x : Int64} {l0 l1 l2 l3 : Option Value} {l : eg_Lo} : wps rm K Q c_M_keepMiddle_35 kc ks (l0 :: l1 :: l2 :: l3 :: some (.long x) :: l) (st) h = wps rm K Q c_M_keepMiddle_37 kc ks (l0 :: l1 :: l2 :: l3 :: some (.long x) :: l) (.long x :: st) h := gk_lload rfl
theorem s_M_keepMiddle_37 {x : Int64} {l0 l1 l2 l3 l4 l5 : Option Value} {l : eg_Lo} : wps rm K Q c_M_keepMiddle_37 kc ks (l0 :: l1 :: l2 :: l3 :: l4 :: l5 :: some (.long x) :: l) (st) h = wps rm K Q c_M_keepMiddle_39 kc ks (l0 :: l1 :: l2 :: l3 :: l4 :: l5 :: some (.long x) :: l) (.long x :: st) h := gk_lload rfl
theorem s_M_keepMiddle_39  {a1 : Value} {a2 : Value} : wps rm K Q c_M_keepMiddle_39 kc ks loc (a2 :: a1 :: st) h = (st.length ≤ 4 ∧ eg_Cs n_M_common [a1, a2] h (fun v h9 => wps rm K Q c_M_keepMiddle_42 kc ks loc (v.toList ++ st) h9)) := eg_c0_2
theorem s_M_keepMiddle_42 {x : Int64} : wps rm K Q c_M_keepMiddle_42 kc ks loc (.long x :: st) h = wps rm K Q c_M_keepMiddle_44 kc ks (eg_set2 loc 8 (.long x)) (st) h := gk_lstore
theorem s_M_keepMiddle_44 {x : Nat} {l : eg_Lo} : wps rm K Q c_M_keepMiddle_44 kc ks (some (.ref x) :: l) (st) h = wps rm K Q c_M_keepMiddle_45 kc ks (some (.ref x) :: l) (.ref x :: st) h := gk_aload rfl
theorem s_M_keepMiddle_45 {x : Nat} : wps rm K Q c_M_keepMiddle_45 kc ks loc (.ref (x + 1) :: st) h = eg_gf h x 12 13 (fun v => wps rm K Q c_M_keepMiddle_48 kc ks loc (v :: st) h) := gk_gf
theorem s_M_keepMiddle_48  : wps rm K Q c_M_keepMiddle_48 kc ks loc (st) h = wps rm K Q c_M_keepMiddle_49 kc ks loc (.int (4) :: st) h := gk_ic (by decide)
theorem s_M_keepMiddle_49 {x : Int32} {l0 : Option Value} {l : eg_Lo} : wps rm K Q c_M_keepMiddle_49 kc ks (l0 :: some (.int x) :: l) (st) h = wps rm K Q c_M_keepMiddle_50 kc ks (l0 :: some (.int x) :: l) (.int x :: st) h := gk_iload rfl
theorem s_M_keepMiddle_50 {x y : Int32} : wps rm K Q c_M_keepMiddle_50 kc ks loc (.int y :: .int x :: st) h = wps rm K Q c_M_keepMiddle_51 kc ks loc (.int (x * y) :: st) h := gk_imul
theorem s_M_keepMiddle_51  : wps rm K Q c_M_keepMiddle_51 kc ks loc (st) h = wps rm K Q c_M_keepMiddle_52 kc ks loc (.int (2) :: st) h := gk_ic (by decide)
theorem s_M_keepMiddle_52 {x y : Int32} : wps rm K Q c_M_keepMiddle_52 kc ks loc (.int y :: .int x :: st) h = wps rm K Q c_M_keepMiddle_53 kc ks loc (.int (x + y) :: st) h := gk_iadd
theorem s_M_keepMiddle_53 {x : Int64} {l0 l1 l2 l3 : Option Value} {l : eg_Lo} : wps rm K Q c_M_keepMiddle_53 kc ks (l0 :: l1 :: l2 :: l3 :: some (.long x) :: l) (st) h = wps rm K Q c_M_keepMiddle_55 kc ks (l0 :: l1 :: l2 :: l3 :: some (.long x) :: l) (.long x :: st) h := gk_lload rfl
theorem s_M_keepMiddle_55 {x : Int64} {l0 l1 l2 l3 l4 l5 l6 l7 : Option Value} {l : eg_Lo} : wps rm K Q c_M_keepMiddle_55 kc ks (l0 :: l1 :: l2 :: l3 :: l4 :: l5 :: l6 :: l7 :: some (.long x) :: l) (st) h = wps rm K Q c_M_keepMiddle_57 kc ks (l0 :: l1 :: l2 :: l3 :: l4 :: l5 :: l6 :: l7 :: some (.long x) :: l) (.long x :: st) h := gk_lload rfl
theorem s_M_keepMiddle_57 {x y : Int64} : wps rm K Q c_M_keepMiddle_57 kc ks loc (.long y :: .long x :: st) h = (¬ y = 0 ∧ wps rm K Q c_M_keepMiddle_58 kc ks loc (.long (x / y) :: st) h) := gk_ldiv
theorem s_M_keepMiddle_58 {x : Nat} {i : Int32} {v : Int64} : wps rm K Q c_M_keepMiddle_58 kc ks loc (.long v :: .int i :: .ref (x + 1) :: st) h = eg_lst h x i v (fun h9 => wps rm K Q c_M_keepMiddle_59 kc ks loc (st) h9) := gk_lastore
theorem s_M_keepMiddle_59 {x : Nat} {l : eg_Lo} : wps rm K Q c_M_keepMiddle_59 kc ks (some (.ref x) :: l) (st) h = wps rm K Q c_M_keepMiddle_60 kc ks (some (.ref x) :: l) (.ref x :: st) h := gk_aload rfl
theorem s_M_keepMiddle_60 {x : Nat} : wps rm K Q c_M_keepMiddle_60 kc ks loc (.ref (x + 1) :: st) h = eg_gf h x 12 13 (fun v => wps rm K Q c_M_keepMiddle_63 kc ks loc (v :: st) h) := gk_gf
theorem s_M_keepMiddle_63  : wps rm K Q c_M_keepMiddle_63 kc ks loc (st) h = wps rm K Q c_M_keepMiddle_64 kc ks loc (.int (4) :: st) h := gk_ic (by decide)
theorem s_M_keepMiddle_64 {x : Int32} {l0 : Option Value} {l : eg_Lo} : wps rm K Q c_M_keepMiddle_64 kc ks (l0 :: some (.int x) :: l) (st) h = wps rm K Q c_M_keepMiddle_65 kc ks (l0 :: some (.int x) :: l) (.int x :: st) h := gk_iload rfl
theorem s_M_keepMiddle_65 {x y : Int32} : wps rm K Q c_M_keepMiddle_65 kc ks loc (.int y :: .int x :: st) h = wps rm K Q c_M_keepMiddle_66 kc ks loc (.int (x * y) :: st) h := gk_imul
theorem s_M_keepMiddle_66  : wps rm K Q c_M_keepMiddle_66 kc ks loc (st) h = wps rm K Q c_M_keepMiddle_67 kc ks loc (.int (3) :: st) h := gk_ic (by decide)
theorem s_M_keepMiddle_67 {x y : Int32} : wps rm K Q c_M_keepMiddle_67 kc ks loc (.int y :: .int x :: st) h = wps rm K Q c_M_keepMiddle_68 kc ks loc (.int (x + y) :: st) h := gk_iadd
theorem s_M_keepMiddle_68 {x : Int64} {l0 l1 l2 l3 l4 l5 : Option Value} {l : eg_Lo} : wps rm K Q c_M_keepMiddle_68 kc ks (l0 :: l1 :: l2 :: l3 :: l4 :: l5 :: some (.long x) :: l) (st) h = wps rm K Q c_M_keepMiddle_70 kc ks (l0 :: l1 :: l2 :: l3 :: l4 :: l5 :: some (.long x) :: l) (.long x :: st) h := gk_lload rfl
theorem s_M_keepMiddle_70 {x : Int64} {l0 l1 l2 l3 l4 l5 l6 l7 : Option Value} {l : eg_Lo} : wps rm K Q c_M_keepMiddle_70 kc ks (l0 :: l1 :: l2 :: l3 :: l4 :: l5 :: l6 :: l7 :: some (.long x) :: l) (st) h = wps rm K Q c_M_keepMiddle_72 kc ks (l0 :: l1 :: l2 :: l3 :: l4 :: l5 :: l6 :: l7 :: some (.long x) :: l) (.long x :: st) h := gk_lload rfl
theorem s_M_keepMiddle_72 {x y : Int64} : wps rm K Q c_M_keepMiddle_72 kc ks loc (.long y :: .long x :: st) h = (¬ y = 0 ∧ wps rm K Q c_M_keepMiddle_73 kc ks loc (.long (x / y) :: st) h) := gk_ldiv
theorem s_M_keepMiddle_73 {x : Nat} {i : Int32} {v : Int64} : wps rm K Q c_M_keepMiddle_73 kc ks loc (.long v :: .int i :: .ref (x + 1) :: st) h = eg_lst h x i v (fun h9 => wps rm K Q c_M_keepMiddle_74 kc ks loc (st) h9) := gk_lastore
theorem s_M_keepMiddle_74  : wps rm K Q c_M_keepMiddle_74 kc ks loc ([]) h = (kc = rm.cells ∧ Q none h) := gk_vret
def T_M_keepMiddle : List (Nat × List eg_I) := []
end
theorem y_M_keepMiddle_0 : eg_seq m_M_keepMiddle 0 c_M_keepMiddle_0 = true := by decide +kernel
theorem q_M_keepMiddle : ∀ q ∈ T_M_keepMiddle, eg_seq m_M_keepMiddle q.1 q.2 = true := by
  intro q hq
  cases hq
theorem md_M_keepMiddle : eg_md n_M_keepMiddle = m_M_keepMiddle := rfl
theorem mn_M_keepMiddle : n_M_keepMiddle < 202 := Nat.le_of_ble_eq_true rfl
theorem b_M_keepMiddle {as : List Value} {h : List eg_E} {Q : Option Value → List eg_E → Prop} (hf : (eg_fl as).length ≤ 10) : wps (eg_rm m_M_keepMiddle) (eg_run (eg_rm m_M_keepMiddle) (eg_R m_M_keepMiddle Q (h.length + 0)) Q T_M_keepMiddle 2) Q c_M_keepMiddle_0 0 0 (eg_entry 10 as) [] h → eg_Runs n_M_keepMiddle as h Q := eg_begin2 md_M_keepMiddle mn_M_keepMiddle y_M_keepMiddle_0 q_M_keepMiddle hf
