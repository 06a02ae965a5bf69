/-! code of the law, decoded -/
noncomputable def am_tL_law : Nat → am_I := fun pc => bif Nat.blt pc 943 then (bif Nat.blt pc 590 then (bif Nat.blt pc 409 then (bif Nat.blt pc 327 then (bif Nat.blt pc 280 then (bif Nat.blt pc 257 then (bif Nat.blt pc 22 then (bif Nat.blt pc 18 then (bif Nat.blt pc 16 then (bif Nat.blt pc 11 then (bif Nat.beq pc 3 then (4, 30, 0, 0, 0, 0, []) else am_bad) else (bif Nat.beq pc 11 then (12, 30, 0, 0, 0, 0, []) else am_bad)) else (bif Nat.blt pc 17 then (bif Nat.beq pc 16 then (17, 0, 0, 0, 0, 0, []) else am_bad) else (bif Nat.beq pc 17 then (18, 3, 3, 0, 0, 0, []) else am_bad))) else (bif Nat.blt pc 20 then (bif Nat.blt pc 19 then (bif Nat.beq pc 18 then (19, 2, 3, 0, 0, 0, []) else am_bad) else (bif Nat.beq pc 19 then (20, 6, 0, 0, 0, 0, []) else am_bad)) else (bif Nat.blt pc 21 then (bif Nat.beq pc 20 then (21, 12, 0, 0, 0, 0, []) else am_bad) else (bif Nat.beq pc 21 then (22, 0, 0, 0, 0, 5, []) else am_bad)))) else (bif Nat.blt pc 28 then (bif Nat.blt pc 26 then (bif Nat.blt pc 23 then (bif Nat.beq pc 22 then (23, 14, 0, 0, 0, 0, []) else am_bad) else (bif Nat.beq pc 23 then (26, 27, 1668, 4, 0, 0, []) else am_bad)) else (bif Nat.blt pc 27 then (bif Nat.beq pc 26 then (27, 6, 0, 0, 0, 0, []) else am_bad) else (bif Nat.beq pc 27 then (28, 2, 3, 0, 0, 0, []) else am_bad))) else (bif Nat.blt pc 31 then (bif Nat.blt pc 29 then (bif Nat.beq pc 28 then (29, 9, 0, 0, 0, 0, []) else am_bad) else (bif Nat.beq pc 29 then (31, 0, 0, 0, 0, 63, []) else am_bad)) else (bif Nat.blt pc 32 then (bif Nat.beq pc 31 then (32, 18, 0, 0, 0, 0, []) else am_bad) else (bif Nat.blt pc 256 then (bif Nat.beq pc 32 then (0, 45, 1662, 0, 0, 0, [(0, 256), (1, 279), (2, 292), (3, 325), (4, 358), (5, 401), (6, 434), (7, 447), (8, 460), (9, 493), (10, 526), (11, 559), (12, 582), (13, 615), (14, 648), (15, 671), (16, 714), (17, 727), (18, 750), (19, 783), (20, 816), (21, 859), (22, 882), (23, 905), (24, 938), (25, 951), (26, 974), (27, 987), (28, 1000), (29, 1053), (30, 1066), (31, 1089), (32, 1102), (33, 1145), (34, 1178), (35, 1221), (36, 1244), (37, 1277), (38, 1290), (39, 1323), (40, 1376), (41, 1389), (42, 1412), (43, 1445), (44, 1458), (45, 1491), (46, 1544), (47, 1567), (48, 1600), (49, 1613), (50, 1626), (51, 1639)]) else am_bad) else (bif Nat.beq pc 256 then (257, 6, 1, 0, 0, 0, []) else am_bad)))))) else (bif Nat.blt pc 267 then (bif Nat.blt pc 261 then (bif Nat.blt pc 259 then (bif Nat.blt pc 258 then (bif Nat.beq pc 257 then (258, 6, 0, 0, 0, 0, []) else am_bad) else (bif Nat.beq pc 258 then (259, 2, 3, 0, 0, 0, []) else am_bad)) else (bif Nat.blt pc 260 then (bif Nat.beq pc 259 then (260, 0, 0, 0, 0, 1, []) else am_bad) else (bif Nat.beq pc 260 then (261, 13, 0, 0, 0, 0, []) else am_bad))) else (bif Nat.blt pc 265 then (bif Nat.blt pc 262 then (bif Nat.beq pc 261 then (262, 9, 0, 0, 0, 0, []) else am_bad) else (bif Nat.beq pc 262 then (265, 40, 61, 2, 8, 0, []) else am_bad)) else (bif Nat.blt pc 266 then (bif Nat.beq pc 265 then (266, 28, 0, 0, 0, 0, []) else am_bad) else (bif Nat.beq pc 266 then (267, 6, 2, 0, 0, 0, []) else am_bad)))) else (bif Nat.blt pc 271 then (bif Nat.blt pc 269 then (bif Nat.blt pc 268 then (bif Nat.beq pc 267 then (268, 6, 0, 0, 0, 0, []) else am_bad) else (bif Nat.beq pc 268 then (269, 2, 3, 0, 0, 0, []) else am_bad)) else (bif Nat.blt pc 270 then (bif Nat.beq pc 269 then (270, 0, 0, 0, 0, 1, []) else am_bad) else (bif Nat.beq pc 270 then (271, 13, 0, 0, 0, 0, []) else am_bad))) else (bif Nat.blt pc 275 then (bif Nat.blt pc 272 then (bif Nat.beq pc 271 then (272, 9, 0, 0, 0, 0, []) else am_bad) else (bif Nat.beq pc 272 then (275, 40, 148, 2, 9, 0, []) else am_bad)) else (bif Nat.blt pc 276 then (bif Nat.beq pc 275 then (276, 28, 0, 0, 0, 0, []) else am_bad) else (bif Nat.blt pc 279 then (bif Nat.beq pc 276 then (0, 25, 1662, 0, 0, 0, []) else am_bad) else (bif Nat.beq pc 279 then (280, 6, 1, 0, 0, 0, []) else am_bad))))))) else (bif Nat.blt pc 303 then (bif Nat.blt pc 294 then (bif Nat.blt pc 288 then (bif Nat.blt pc 284 then (bif Nat.blt pc 283 then (bif Nat.beq pc 280 then (283, 40, 62, 1, 8, 0, []) else am_bad) else (bif Nat.beq pc 283 then (284, 28, 0, 0, 0, 0, []) else am_bad)) else (bif Nat.blt pc 285 then (bif Nat.beq pc 284 then (285, 6, 2, 0, 0, 0, []) else am_bad) else (bif Nat.beq pc 285 then (288, 40, 156, 1, 9, 0, []) else am_bad))) else (bif Nat.blt pc 292 then (bif Nat.blt pc 289 then (bif Nat.beq pc 288 then (289, 28, 0, 0, 0, 0, []) else am_bad) else (bif Nat.beq pc 289 then (0, 25, 1662, 0, 0, 0, []) else am_bad)) else (bif Nat.blt pc 293 then (bif Nat.beq pc 292 then (293, 6, 1, 0, 0, 0, []) else am_bad) else (bif Nat.beq pc 293 then (294, 6, 0, 0, 0, 0, []) else am_bad)))) else (bif Nat.blt pc 298 then (bif Nat.blt pc 296 then (bif Nat.blt pc 295 then (bif Nat.beq pc 294 then (295, 2, 3, 0, 0, 0, []) else am_bad) else (bif Nat.beq pc 295 then (296, 0, 0, 0, 0, 1, []) else am_bad)) else (bif Nat.blt pc 297 then (bif Nat.beq pc 296 then (297, 13, 0, 0, 0, 0, []) else am_bad) else (bif Nat.beq pc 297 then (298, 9, 0, 0, 0, 0, []) else am_bad))) else (bif Nat.blt pc 300 then (bif Nat.blt pc 299 then (bif Nat.beq pc 298 then (299, 6, 0, 0, 0, 0, []) else am_bad) else (bif Nat.beq pc 299 then (300, 2, 3, 0, 0, 0, []) else am_bad)) else (bif Nat.blt pc 301 then (bif Nat.beq pc 300 then (301, 0, 0, 0, 0, 2, []) else am_bad) else (bif Nat.blt pc 302 then (bif Nat.beq pc 301 then (302, 13, 0, 0, 0, 0, []) else am_bad) else (bif Nat.beq pc 302 then (303, 9, 0, 0, 0, 0, []) else am_bad)))))) else (bif Nat.blt pc 314 then (bif Nat.blt pc 309 then (bif Nat.blt pc 307 then (bif Nat.blt pc 306 then (bif Nat.beq pc 303 then (306, 40, 63, 3, 8, 0, []) else am_bad) else (bif Nat.beq pc 306 then (307, 28, 0, 0, 0, 0, []) else am_bad)) else (bif Nat.blt pc 308 then (bif Nat.beq pc 307 then (308, 6, 2, 0, 0, 0, []) else am_bad) else (bif Nat.beq pc 308 then (309, 6, 0, 0, 0, 0, []) else am_bad))) else (bif Nat.blt pc 311 then (bif Nat.blt pc 310 then (bif Nat.beq pc 309 then (310, 2, 3, 0, 0, 0, []) else am_bad) else (bif Nat.beq pc 310 then (311, 0, 0, 0, 0, 1, []) else am_bad)) else (bif Nat.blt pc 312 then (bif Nat.beq pc 311 then (312, 13, 0, 0, 0, 0, []) else am_bad) else (bif Nat.blt pc 313 then (bif Nat.beq pc 312 then (313, 9, 0, 0, 0, 0, []) else am_bad) else (bif Nat.beq pc 313 then (314, 6, 0, 0, 0, 0, []) else am_bad))))) else (bif Nat.blt pc 318 then (bif Nat.blt pc 316 then (bif Nat.blt pc 315 then (bif Nat.beq pc 314 then (315, 2, 3, 0, 0, 0, []) else am_bad) else (bif Nat.beq pc 315 then (316, 0, 0, 0, 0, 2, []) else am_bad)) else (bif Nat.blt pc 317 then (bif Nat.beq pc 316 then (317, 13, 0, 0, 0, 0, []) else am_bad) else (bif Nat.beq pc 317 then (318, 9, 0, 0, 0, 0, []) else am_bad))) else (bif Nat.blt pc 322 then (bif Nat.blt pc 321 then (bif Nat.beq pc 318 then (321, 40, 173, 3, 9, 0, []) else am_bad) else (bif Nat.beq pc 321 then (322, 28, 0, 0, 0, 0, []) else am_bad)) else (bif Nat.blt pc 325 then (bif Nat.beq pc 322 then (0, 25, 1662, 0, 0, 0, []) else am_bad) else (bif Nat.blt pc 326 then (bif Nat.beq pc 325 then (326, 6, 1, 0, 0, 0, []) else am_bad) else (bif Nat.beq pc 326 then (327, 6, 0, 0, 0, 0, []) else am_bad)))))))) else (bif Nat.blt pc 368 then (bif Nat.blt pc 346 then (bif Nat.blt pc 335 then (bif Nat.blt pc 331 then (bif Nat.blt pc 329 then (bif Nat.blt pc 328 then (bif Nat.beq pc 327 then (328, 2, 3, 0, 0, 0, []) else am_bad) else (bif Nat.beq pc 328 then (329, 0, 0, 0, 0, 1, []) else am_bad)) else (bif Nat.blt pc 330 then (bif Nat.beq pc 329 then (330, 13, 0, 0, 0, 0, []) else am_bad) else (bif Nat.beq pc 330 then (331, 9, 0, 0, 0, 0, []) else am_bad))) else (bif Nat.blt pc 333 then (bif Nat.blt pc 332 then (bif Nat.beq pc 331 then (332, 6, 0, 0, 0, 0, []) else am_bad) else (bif Nat.beq pc 332 then (333, 2, 3, 0, 0, 0, []) else am_bad)) else (bif Nat.blt pc 334 then (bif Nat.beq pc 333 then (334, 0, 0, 0, 0, 2, []) else am_bad) else (bif Nat.beq pc 334 then (335, 13, 0, 0, 0, 0, []) else am_bad)))) else (bif Nat.blt pc 341 then (bif Nat.blt pc 339 then (bif Nat.blt pc 336 then (bif Nat.beq pc 335 then (336, 9, 0, 0, 0, 0, []) else am_bad) else (bif Nat.beq pc 336 then (339, 40, 64, 3, 8, 0, []) else am_bad)) else (bif Nat.blt pc 340 then (bif Nat.beq pc 339 then (340, 28, 0, 0, 0, 0, []) else am_bad) else (bif Nat.beq pc 340 then (341, 6, 2, 0, 0, 0, []) else am_bad))) else (bif Nat.blt pc 343 then (bif Nat.blt pc 342 then (bif Nat.beq pc 341 then (342, 6, 0, 0, 0, 0, []) else am_bad) else (bif Nat.beq pc 342 then (343, 2, 3, 0, 0, 0, []) else am_bad)) else (bif Nat.blt pc 344 then (bif Nat.beq pc 343 then (344, 0, 0, 0, 0, 1, []) else am_bad) else (bif Nat.blt pc 345 then (bif Nat.beq pc 344 then (345, 13, 0, 0, 0, 0, []) else am_bad) else (bif Nat.beq pc 345 then (346, 9, 0, 0, 0, 0, []) else am_bad)))))) else (bif Nat.blt pc 359 then (bif Nat.blt pc 350 then (bif Nat.blt pc 348 then (bif Nat.blt pc 347 then (bif Nat.beq pc 346 then (347, 6, 0, 0, 0, 0, []) else am_bad) else (bif Nat.beq pc 347 then (348, 2, 3, 0, 0, 0, []) else am_bad)) else (bif Nat.blt pc 349 then (bif Nat.beq pc 348 then (349, 0, 0, 0, 0, 2, []) else am_bad) else (bif Nat.beq pc 349 then (350, 13, 0, 0, 0, 0, []) else am_bad))) else (bif Nat.blt pc 354 then (bif Nat.blt pc 351 then (bif Nat.beq pc 350 then (351, 9, 0, 0, 0, 0, []) else am_bad) else (bif Nat.beq pc 351 then (354, 40, 174, 3, 9, 0, []) else am_bad)) else (bif Nat.blt pc 355 then (bif Nat.beq pc 354 then (355, 28, 0, 0, 0, 0, []) else am_bad) else (bif Nat.blt pc 358 then (bif Nat.beq pc 355 then (0, 25, 1662, 0, 0, 0, []) else am_bad) else (bif Nat.beq pc 358 then (359, 6, 1, 0, 0, 0, []) else am_bad))))) else (bif Nat.blt pc 363 then (bif Nat.blt pc 361 then (bif Nat.blt pc 360 then (bif Nat.beq pc 359 then (360, 6, 0, 0, 0, 0, []) else am_bad) else (bif Nat.beq pc 360 then (361, 2, 3, 0, 0, 0, []) else am_bad)) else (bif Nat.blt pc 362 then (bif Nat.beq pc 361 then (362, 0, 0, 0, 0, 1, []) else am_bad) else (bif Nat.beq pc 362 then (363, 13, 0, 0, 0, 0, []) else am_bad))) else (bif Nat.blt pc 365 then (bif Nat.blt pc 364 then (bif Nat.beq pc 363 then (364, 9, 0, 0, 0, 0, []) else am_bad) else (bif Nat.beq pc 364 then (365, 6, 0, 0, 0, 0, []) else am_bad)) else (bif Nat.blt pc 366 then (bif Nat.beq pc 365 then (366, 2, 3, 0, 0, 0, []) else am_bad) else (bif Nat.blt pc 367 then (bif Nat.beq pc 366 then (367, 0, 0, 0, 0, 2, []) else am_bad) else (bif Nat.beq pc 367 then (368, 13, 0, 0, 0, 0, []) else am_bad))))))) else (bif Nat.blt pc 387 then (bif Nat.blt pc 378 then (bif Nat.blt pc 372 then (bif Nat.blt pc 370 then (bif Nat.blt pc 369 then (bif Nat.beq pc 368 then (369, 9, 0, 0, 0, 0, []) else am_bad) else (bif Nat.beq pc 369 then (370, 6, 0, 0, 0, 0, []) else am_bad)) else (bif Nat.blt pc 371 then (bif Nat.beq pc 370 then (371, 2, 3, 0, 0, 0, []) else am_bad) else (bif Nat.beq pc 371 then (372, 0, 0, 0, 0, 3, []) else am_bad))) else (bif Nat.blt pc 374 then (bif Nat.blt pc 373 then (bif Nat.beq pc 372 then (373, 13, 0, 0, 0, 0, []) else am_bad) else (bif Nat.beq pc 373 then (374, 9, 0, 0, 0, 0, []) else am_bad)) else (bif Nat.blt pc 377 then (bif Nat.beq pc 374 then (377, 40, 65, 4, 8, 0, []) else am_bad) else (bif Nat.beq pc 377 then (378, 28, 0, 0, 0, 0, []) else am_bad)))) else (bif Nat.blt pc 382 then (bif Nat.blt pc 380 then (bif Nat.blt pc 379 then (bif Nat.beq pc 378 then (379, 6, 2, 0, 0, 0, []) else am_bad) else (bif Nat.beq pc 379 then (380, 6, 0, 0, 0, 0, []) else am_bad)) else (bif Nat.blt pc 381 then (bif Nat.beq pc 380 then (381, 2, 3, 0, 0, 0, []) else am_bad) else (bif Nat.beq pc 381 then (382, 0, 0, 0, 0, 1, []) else am_bad))) else (bif Nat.blt pc 384 then (bif Nat.blt pc 383 then (bif Nat.beq pc 382 then (383, 13, 0, 0, 0, 0, []) else am_bad) else (bif Nat.beq pc 383 then (384, 9, 0, 0, 0, 0, []) else am_bad)) else (bif Nat.blt pc 385 then (bif Nat.beq pc 384 then (385, 6, 0, 0, 0, 0, []) else am_bad) else (bif Nat.blt pc 386 then (bif Nat.beq pc 385 then (386, 2, 3, 0, 0, 0, []) else am_bad) else (bif Nat.beq pc 386 then (387, 0, 0, 0, 0, 2, []) else am_bad)))))) else (bif Nat.blt pc 398 then (bif Nat.blt pc 391 then (bif Nat.blt pc 389 then (bif Nat.blt pc 388 then (bif Nat.beq pc 387 then (388, 13, 0, 0, 0, 0, []) else am_bad) else (bif Nat.beq pc 388 then (389, 9, 0, 0, 0, 0, []) else am_bad)) else (bif Nat.blt pc 390 then (bif Nat.beq pc 389 then (390, 6, 0, 0, 0, 0, []) else am_bad) else (bif Nat.beq pc 390 then (391, 2, 3, 0, 0, 0, []) else am_bad))) else (bif Nat.blt pc 393 then (bif Nat.blt pc 392 then (bif Nat.beq pc 391 then (392, 0, 0, 0, 0, 3, []) else am_bad) else (bif Nat.beq pc 392 then (393, 13, 0, 0, 0, 0, []) else am_bad)) else (bif Nat.blt pc 394 then (bif Nat.beq pc 393 then (394, 9, 0, 0, 0, 0, []) else am_bad) else (bif Nat.blt pc 397 then (bif Nat.beq pc 394 then (397, 40, 175, 4, 9, 0, []) else am_bad) else (bif Nat.beq pc 397 then (398, 28, 0, 0, 0, 0, []) else am_bad))))) else (bif Nat.blt pc 404 then (bif Nat.blt pc 402 then (bif Nat.blt pc 401 then (bif Nat.beq pc 398 then (0, 25, 1662, 0, 0, 0, []) else am_bad) else (bif Nat.beq pc 401 then (402, 6, 1, 0, 0, 0, []) else am_bad)) else (bif Nat.blt pc 403 then (bif Nat.beq pc 402 then (403, 6, 0, 0, 0, 0, []) else am_bad) else (bif Nat.beq pc 403 then (404, 2, 3, 0, 0, 0, []) else am_bad))) else (bif Nat.blt pc 406 then (bif Nat.blt pc 405 then (bif Nat.beq pc 404 then (405, 0, 0, 0, 0, 1, []) else am_bad) else (bif Nat.beq pc 405 then (406, 13, 0, 0, 0, 0, []) else am_bad)) else (bif Nat.blt pc 407 then (bif Nat.beq pc 406 then (407, 9, 0, 0, 0, 0, []) else am_bad) else (bif Nat.blt pc 408 then (bif Nat.beq pc 407 then (408, 6, 0, 0, 0, 0, []) else am_bad) else (bif Nat.beq pc 408 then (409, 2, 3, 0, 0, 0, []) else am_bad))))))))) else (bif Nat.blt pc 502 then (bif Nat.blt pc 461 then (bif Nat.blt pc 430 then (bif Nat.blt pc 419 then (bif Nat.blt pc 415 then (bif Nat.blt pc 411 then (bif Nat.blt pc 410 then (bif Nat.beq pc 409 then (410, 0, 0, 0, 0, 2, []) else am_bad) else (bif Nat.beq pc 410 then (411, 13, 0, 0, 0, 0, []) else am_bad)) else (bif Nat.blt pc 412 then (bif Nat.beq pc 411 then (412, 9, 0, 0, 0, 0, []) else am_bad) else (bif Nat.beq pc 412 then (415, 40, 66, 3, 8, 0, []) else am_bad))) else (bif Nat.blt pc 417 then (bif Nat.blt pc 416 then (bif Nat.beq pc 415 then (416, 28, 0, 0, 0, 0, []) else am_bad) else (bif Nat.beq pc 416 then (417, 6, 2, 0, 0, 0, []) else am_bad)) else (bif Nat.blt pc 418 then (bif Nat.beq pc 417 then (418, 6, 0, 0, 0, 0, []) else am_bad) else (bif Nat.beq pc 418 then (419, 2, 3, 0, 0, 0, []) else am_bad)))) else (bif Nat.blt pc 423 then (bif Nat.blt pc 421 then (bif Nat.blt pc 420 then (bif Nat.beq pc 419 then (420, 0, 0, 0, 0, 1, []) else am_bad) else (bif Nat.beq pc 420 then (421, 13, 0, 0, 0, 0, []) else am_bad)) else (bif Nat.blt pc 422 then (bif Nat.beq pc 421 then (422, 9, 0, 0, 0, 0, []) else am_bad) else (bif Nat.beq pc 422 then (423, 6, 0, 0, 0, 0, []) else am_bad))) else (bif Nat.blt pc 425 then (bif Nat.blt pc 424 then (bif Nat.beq pc 423 then (424, 2, 3, 0, 0, 0, []) else am_bad) else (bif Nat.beq pc 424 then (425, 0, 0, 0, 0, 2, []) else am_bad)) else (bif Nat.blt pc 426 then (bif Nat.beq pc 425 then (426, 13, 0, 0, 0, 0, []) else am_bad) else (bif Nat.blt pc 427 then (bif Nat.beq pc 426 then (427, 9, 0, 0, 0, 0, []) else am_bad) else (bif Nat.beq pc 427 then (430, 40, 176, 3, 9, 0, []) else am_bad)))))) else (bif Nat.blt pc 444 then (bif Nat.blt pc 438 then (bif Nat.blt pc 434 then (bif Nat.blt pc 431 then (bif Nat.beq pc 430 then (431, 28, 0, 0, 0, 0, []) else am_bad) else (bif Nat.beq pc 431 then (0, 25, 1662, 0, 0, 0, []) else am_bad)) else (bif Nat.blt pc 435 then (bif Nat.beq pc 434 then (435, 6, 1, 0, 0, 0, []) else am_bad) else (bif Nat.beq pc 435 then (438, 40, 67, 1, 8, 0, []) else am_bad))) else (bif Nat.blt pc 440 then (bif Nat.blt pc 439 then (bif Nat.beq pc 438 then (439, 28, 0, 0, 0, 0, []) else am_bad) else (bif Nat.beq pc 439 then (440, 6, 2, 0, 0, 0, []) else am_bad)) else (bif Nat.blt pc 443 then (bif Nat.beq pc 440 then (443, 40, 177, 1, 9, 0, []) else am_bad) else (bif Nat.beq pc 443 then (444, 28, 0, 0, 0, 0, []) else am_bad)))) else (bif Nat.blt pc 452 then (bif Nat.blt pc 448 then (bif Nat.blt pc 447 then (bif Nat.beq pc 444 then (0, 25, 1662, 0, 0, 0, []) else am_bad) else (bif Nat.beq pc 447 then (448, 6, 1, 0, 0, 0, []) else am_bad)) else (bif Nat.blt pc 451 then (bif Nat.beq pc 448 then (451, 40, 68, 1, 8, 0, []) else am_bad) else (bif Nat.beq pc 451 then (452, 28, 0, 0, 0, 0, []) else am_bad))) else (bif Nat.blt pc 456 then (bif Nat.blt pc 453 then (bif Nat.beq pc 452 then (453, 6, 2, 0, 0, 0, []) else am_bad) else (bif Nat.beq pc 453 then (456, 40, 181, 1, 9, 0, []) else am_bad)) else (bif Nat.blt pc 457 then (bif Nat.beq pc 456 then (457, 28, 0, 0, 0, 0, []) else am_bad) else (bif Nat.blt pc 460 then (bif Nat.beq pc 457 then (0, 25, 1662, 0, 0, 0, []) else am_bad) else (bif Nat.beq pc 460 then (461, 6, 1, 0, 0, 0, []) else am_bad))))))) else (bif Nat.blt pc 480 then (bif Nat.blt pc 469 then (bif Nat.blt pc 465 then (bif Nat.blt pc 463 then (bif Nat.blt pc 462 then (bif Nat.beq pc 461 then (462, 6, 0, 0, 0, 0, []) else am_bad) else (bif Nat.beq pc 462 then (463, 2, 3, 0, 0, 0, []) else am_bad)) else (bif Nat.blt pc 464 then (bif Nat.beq pc 463 then (464, 0, 0, 0, 0, 1, []) else am_bad) else (bif Nat.beq pc 464 then (465, 13, 0, 0, 0, 0, []) else am_bad))) else (bif Nat.blt pc 467 then (bif Nat.blt pc 466 then (bif Nat.beq pc 465 then (466, 9, 0, 0, 0, 0, []) else am_bad) else (bif Nat.beq pc 466 then (467, 6, 0, 0, 0, 0, []) else am_bad)) else (bif Nat.blt pc 468 then (bif Nat.beq pc 467 then (468, 2, 3, 0, 0, 0, []) else am_bad) else (bif Nat.beq pc 468 then (469, 0, 0, 0, 0, 2, []) else am_bad)))) else (bif Nat.blt pc 475 then (bif Nat.blt pc 471 then (bif Nat.blt pc 470 then (bif Nat.beq pc 469 then (470, 13, 0, 0, 0, 0, []) else am_bad) else (bif Nat.beq pc 470 then (471, 9, 0, 0, 0, 0, []) else am_bad)) else (bif Nat.blt pc 474 then (bif Nat.beq pc 471 then (474, 40, 69, 3, 8, 0, []) else am_bad) else (bif Nat.beq pc 474 then (475, 29, 0, 0, 0, 0, []) else am_bad))) else (bif Nat.blt pc 477 then (bif Nat.blt pc 476 then (bif Nat.beq pc 475 then (476, 6, 2, 0, 0, 0, []) else am_bad) else (bif Nat.beq pc 476 then (477, 6, 0, 0, 0, 0, []) else am_bad)) else (bif Nat.blt pc 478 then (bif Nat.beq pc 477 then (478, 2, 3, 0, 0, 0, []) else am_bad) else (bif Nat.blt pc 479 then (bif Nat.beq pc 478 then (479, 0, 0, 0, 0, 1, []) else am_bad) else (bif Nat.beq pc 479 then (480, 13, 0, 0, 0, 0, []) else am_bad)))))) else (bif Nat.blt pc 493 then (bif Nat.blt pc 484 then (bif Nat.blt pc 482 then (bif Nat.blt pc 481 then (bif Nat.beq pc 480 then (481, 9, 0, 0, 0, 0, []) else am_bad) else (bif Nat.beq pc 481 then (482, 6, 0, 0, 0, 0, []) else am_bad)) else (bif Nat.blt pc 483 then (bif Nat.beq pc 482 then (483, 2, 3, 0, 0, 0, []) else am_bad) else (bif Nat.beq pc 483 then (484, 0, 0, 0, 0, 2, []) else am_bad))) else (bif Nat.blt pc 486 then (bif Nat.blt pc 485 then (bif Nat.beq pc 484 then (485, 13, 0, 0, 0, 0, []) else am_bad) else (bif Nat.beq pc 485 then (486, 9, 0, 0, 0, 0, []) else am_bad)) else (bif Nat.blt pc 489 then (bif Nat.beq pc 486 then (489, 40, 186, 3, 9, 0, []) else am_bad) else (bif Nat.blt pc 490 then (bif Nat.beq pc 489 then (490, 29, 0, 0, 0, 0, []) else am_bad) else (bif Nat.beq pc 490 then (0, 25, 1662, 0, 0, 0, []) else am_bad))))) else (bif Nat.blt pc 497 then (bif Nat.blt pc 495 then (bif Nat.blt pc 494 then (bif Nat.beq pc 493 then (494, 6, 1, 0, 0, 0, []) else am_bad) else (bif Nat.beq pc 494 then (495, 6, 0, 0, 0, 0, []) else am_bad)) else (bif Nat.blt pc 496 then (bif Nat.beq pc 495 then (496, 2, 3, 0, 0, 0, []) else am_bad) else (bif Nat.beq pc 496 then (497, 0, 0, 0, 0, 1, []) else am_bad))) else (bif Nat.blt pc 499 then (bif Nat.blt pc 498 then (bif Nat.beq pc 497 then (498, 13, 0, 0, 0, 0, []) else am_bad) else (bif Nat.beq pc 498 then (499, 9, 0, 0, 0, 0, []) else am_bad)) else (bif Nat.blt pc 500 then (bif Nat.beq pc 499 then (500, 6, 0, 0, 0, 0, []) else am_bad) else (bif Nat.blt pc 501 then (bif Nat.beq pc 500 then (501, 2, 3, 0, 0, 0, []) else am_bad) else (bif Nat.beq pc 501 then (502, 0, 0, 0, 0, 2, []) else am_bad)))))))) else (bif Nat.blt pc 545 then (bif Nat.blt pc 523 then (bif Nat.blt pc 512 then (bif Nat.blt pc 508 then (bif Nat.blt pc 504 then (bif Nat.blt pc 503 then (bif Nat.beq pc 502 then (503, 13, 0, 0, 0, 0, []) else am_bad) else (bif Nat.beq pc 503 then (504, 9, 0, 0, 0, 0, []) else am_bad)) else (bif Nat.blt pc 507 then (bif Nat.beq pc 504 then (507, 40, 70, 3, 8, 0, []) else am_bad) else (bif Nat.beq pc 507 then (508, 29, 0, 0, 0, 0, []) else am_bad))) else (bif Nat.blt pc 510 then (bif Nat.blt pc 509 then (bif Nat.beq pc 508 then (509, 6, 2, 0, 0, 0, []) else am_bad) else (bif Nat.beq pc 509 then (510, 6, 0, 0, 0, 0, []) else am_bad)) else (bif Nat.blt pc 511 then (bif Nat.beq pc 510 then (511, 2, 3, 0, 0, 0, []) else am_bad) else (bif Nat.beq pc 511 then (512, 0, 0, 0, 0, 1, []) else am_bad)))) else (bif Nat.blt pc 516 then (bif Nat.blt pc 514 then (bif Nat.blt pc 513 then (bif Nat.beq pc 512 then (513, 13, 0, 0, 0, 0, []) else am_bad) else (bif Nat.beq pc 513 then (514, 9, 0, 0, 0, 0, []) else am_bad)) else (bif Nat.blt pc 515 then (bif Nat.beq pc 514 then (515, 6, 0, 0, 0, 0, []) else am_bad) else (bif Nat.beq pc 515 then (516, 2, 3, 0, 0, 0, []) else am_bad))) else (bif Nat.blt pc 518 then (bif Nat.blt pc 517 then (bif Nat.beq pc 516 then (517, 0, 0, 0, 0, 2, []) else am_bad) else (bif Nat.beq pc 517 then (518, 13, 0, 0, 0, 0, []) else am_bad)) else (bif Nat.blt pc 519 then (bif Nat.beq pc 518 then (519, 9, 0, 0, 0, 0, []) else am_bad) else (bif Nat.blt pc 522 then (bif Nat.beq pc 519 then (522, 40, 188, 3, 9, 0, []) else am_bad) else (bif Nat.beq pc 522 then (523, 29, 0, 0, 0, 0, []) else am_bad)))))) else (bif Nat.blt pc 534 then (bif Nat.blt pc 529 then (bif Nat.blt pc 527 then (bif Nat.blt pc 526 then (bif Nat.beq pc 523 then (0, 25, 1662, 0, 0, 0, []) else am_bad) else (bif Nat.beq pc 526 then (527, 6, 1, 0, 0, 0, []) else am_bad)) else (bif Nat.blt pc 528 then (bif Nat.beq pc 527 then (528, 6, 0, 0, 0, 0, []) else am_bad) else (bif Nat.beq pc 528 then (529, 2, 3, 0, 0, 0, []) else am_bad))) else (bif Nat.blt pc 531 then (bif Nat.blt pc 530 then (bif Nat.beq pc 529 then (530, 0, 0, 0, 0, 1, []) else am_bad) else (bif Nat.beq pc 530 then (531, 13, 0, 0, 0, 0, []) else am_bad)) else (bif Nat.blt pc 532 then (bif Nat.beq pc 531 then (532, 9, 0, 0, 0, 0, []) else am_bad) else (bif Nat.blt pc 533 then (bif Nat.beq pc 532 then (533, 6, 0, 0, 0, 0, []) else am_bad) else (bif Nat.beq pc 533 then (534, 2, 3, 0, 0, 0, []) else am_bad))))) else (bif Nat.blt pc 540 then (bif Nat.blt pc 536 then (bif Nat.blt pc 535 then (bif Nat.beq pc 534 then (535, 0, 0, 0, 0, 2, []) else am_bad) else (bif Nat.beq pc 535 then (536, 13, 0, 0, 0, 0, []) else am_bad)) else (bif Nat.blt pc 537 then (bif Nat.beq pc 536 then (537, 9, 0, 0, 0, 0, []) else am_bad) else (bif Nat.beq pc 537 then (540, 40, 71, 3, 8, 0, []) else am_bad))) else (bif Nat.blt pc 542 then (bif Nat.blt pc 541 then (bif Nat.beq pc 540 then (541, 29, 0, 0, 0, 0, []) else am_bad) else (bif Nat.beq pc 541 then (542, 6, 2, 0, 0, 0, []) else am_bad)) else (bif Nat.blt pc 543 then (bif Nat.beq pc 542 then (543, 6, 0, 0, 0, 0, []) else am_bad) else (bif Nat.blt pc 544 then (bif Nat.beq pc 543 then (544, 2, 3, 0, 0, 0, []) else am_bad) else (bif Nat.beq pc 544 then (545, 0, 0, 0, 0, 1, []) else am_bad))))))) else (bif Nat.blt pc 568 then (bif Nat.blt pc 555 then (bif Nat.blt pc 549 then (bif Nat.blt pc 547 then (bif Nat.blt pc 546 then (bif Nat.beq pc 545 then (546, 13, 0, 0, 0, 0, []) else am_bad) else (bif Nat.beq pc 546 then (547, 9, 0, 0, 0, 0, []) else am_bad)) else (bif Nat.blt pc 548 then (bif Nat.beq pc 547 then (548, 6, 0, 0, 0, 0, []) else am_bad) else (bif Nat.beq pc 548 then (549, 2, 3, 0, 0, 0, []) else am_bad))) else (bif Nat.blt pc 551 then (bif Nat.blt pc 550 then (bif Nat.beq pc 549 then (550, 0, 0, 0, 0, 2, []) else am_bad) else (bif Nat.beq pc 550 then (551, 13, 0, 0, 0, 0, []) else am_bad)) else (bif Nat.blt pc 552 then (bif Nat.beq pc 551 then (552, 9, 0, 0, 0, 0, []) else am_bad) else (bif Nat.beq pc 552 then (555, 40, 190, 3, 9, 0, []) else am_bad)))) else (bif Nat.blt pc 561 then (bif Nat.blt pc 559 then (bif Nat.blt pc 556 then (bif Nat.beq pc 555 then (556, 29, 0, 0, 0, 0, []) else am_bad) else (bif Nat.beq pc 556 then (0, 25, 1662, 0, 0, 0, []) else am_bad)) else (bif Nat.blt pc 560 then (bif Nat.beq pc 559 then (560, 6, 1, 0, 0, 0, []) else am_bad) else (bif Nat.beq pc 560 then (561, 6, 0, 0, 0, 0, []) else am_bad))) else (bif Nat.blt pc 563 then (bif Nat.blt pc 562 then (bif Nat.beq pc 561 then (562, 2, 3, 0, 0, 0, []) else am_bad) else (bif Nat.beq pc 562 then (563, 0, 0, 0, 0, 1, []) else am_bad)) else (bif Nat.blt pc 564 then (bif Nat.beq pc 563 then (564, 13, 0, 0, 0, 0, []) else am_bad) else (bif Nat.blt pc 565 then (bif Nat.beq pc 564 then (565, 9, 0, 0, 0, 0, []) else am_bad) else (bif Nat.beq pc 565 then (568, 40, 72, 2, 8, 0, []) else am_bad)))))) else (bif Nat.blt pc 579 then (bif Nat.blt pc 572 then (bif Nat.blt pc 570 then (bif Nat.blt pc 569 then (bif Nat.beq pc 568 then (569, 28, 0, 0, 0, 0, []) else am_bad) else (bif Nat.beq pc 569 then (570, 6, 2, 0, 0, 0, []) else am_bad)) else (bif Nat.blt pc 571 then (bif Nat.beq pc 570 then (571, 6, 0, 0, 0, 0, []) else am_bad) else (bif Nat.beq pc 571 then (572, 2, 3, 0, 0, 0, []) else am_bad))) else (bif Nat.blt pc 574 then (bif Nat.blt pc 573 then (bif Nat.beq pc 572 then (573, 0, 0, 0, 0, 1, []) else am_bad) else (bif Nat.beq pc 573 then (574, 13, 0, 0, 0, 0, []) else am_bad)) else (bif Nat.blt pc 575 then (bif Nat.beq pc 574 then (575, 9, 0, 0, 0, 0, []) else am_bad) else (bif Nat.blt pc 578 then (bif Nat.beq pc 575 then (578, 40, 191, 2, 9, 0, []) else am_bad) else (bif Nat.beq pc 578 then (579, 28, 0, 0, 0, 0, []) else am_bad))))) else (bif Nat.blt pc 585 then (bif Nat.blt pc 583 then (bif Nat.blt pc 582 then (bif Nat.beq pc 579 then (0, 25, 1662, 0, 0, 0, []) else am_bad) else (bif Nat.beq pc 582 then (583, 6, 1, 0, 0, 0, []) else am_bad)) else (bif Nat.blt pc 584 then (bif Nat.beq pc 583 then (584, 6, 0, 0, 0, 0, []) else am_bad) else (bif Nat.beq pc 584 then (585, 2, 3, 0, 0, 0, []) else am_bad))) else (bif Nat.blt pc 587 then (bif Nat.blt pc 586 then (bif Nat.beq pc 585 then (586, 0, 0, 0, 0, 1, []) else am_bad) else (bif Nat.beq pc 586 then (587, 13, 0, 0, 0, 0, []) else am_bad)) else (bif Nat.blt pc 588 then (bif Nat.beq pc 587 then (588, 9, 0, 0, 0, 0, []) else am_bad) else (bif Nat.blt pc 589 then (bif Nat.beq pc 588 then (589, 6, 0, 0, 0, 0, []) else am_bad) else (bif Nat.beq pc 589 then (590, 2, 3, 0, 0, 0, []) else am_bad)))))))))) else (bif Nat.blt pc 767 then (bif Nat.blt pc 677 then (bif Nat.blt pc 632 then (bif Nat.blt pc 611 then (bif Nat.blt pc 600 then (bif Nat.blt pc 596 then (bif Nat.blt pc 592 then (bif Nat.blt pc 591 then (bif Nat.beq pc 590 then (591, 0, 0, 0, 0, 2, []) else am_bad) else (bif Nat.beq pc 591 then (592, 13, 0, 0, 0, 0, []) else am_bad)) else (bif Nat.blt pc 593 then (bif Nat.beq pc 592 then (593, 9, 0, 0, 0, 0, []) else am_bad) else (bif Nat.beq pc 593 then (596, 40, 73, 3, 8, 0, []) else am_bad))) else (bif Nat.blt pc 598 then (bif Nat.blt pc 597 then (bif Nat.beq pc 596 then (597, 28, 0, 0, 0, 0, []) else am_bad) else (bif Nat.beq pc 597 then (598, 6, 2, 0, 0, 0, []) else am_bad)) else (bif Nat.blt pc 599 then (bif Nat.beq pc 598 then (599, 6, 0, 0, 0, 0, []) else am_bad) else (bif Nat.beq pc 599 then (600, 2, 3, 0, 0, 0, []) else am_bad)))) else (bif Nat.blt pc 604 then (bif Nat.blt pc 602 then (bif Nat.blt pc 601 then (bif Nat.beq pc 600 then (601, 0, 0, 0, 0, 1, []) else am_bad) else (bif Nat.beq pc 601 then (602, 13, 0, 0, 0, 0, []) else am_bad)) else (bif Nat.blt pc 603 then (bif Nat.beq pc 602 then (603, 9, 0, 0, 0, 0, []) else am_bad) else (bif Nat.beq pc 603 then (604, 6, 0, 0, 0, 0, []) else am_bad))) else (bif Nat.blt pc 606 then (bif Nat.blt pc 605 then (bif Nat.beq pc 604 then (605, 2, 3, 0, 0, 0, []) else am_bad) else (bif Nat.beq pc 605 then (606, 0, 0, 0, 0, 2, []) else am_bad)) else (bif Nat.blt pc 607 then (bif Nat.beq pc 606 then (607, 13, 0, 0, 0, 0, []) else am_bad) else (bif Nat.blt pc 608 then (bif Nat.beq pc 607 then (608, 9, 0, 0, 0, 0, []) else am_bad) else (bif Nat.beq pc 608 then (611, 40, 195, 3, 9, 0, []) else am_bad)))))) else (bif Nat.blt pc 621 then (bif Nat.blt pc 617 then (bif Nat.blt pc 615 then (bif Nat.blt pc 612 then (bif Nat.beq pc 611 then (612, 28, 0, 0, 0, 0, []) else am_bad) else (bif Nat.beq pc 612 then (0, 25, 1662, 0, 0, 0, []) else am_bad)) else (bif Nat.blt pc 616 then (bif Nat.beq pc 615 then (616, 6, 1, 0, 0, 0, []) else am_bad) else (bif Nat.beq pc 616 then (617, 6, 0, 0, 0, 0, []) else am_bad))) else (bif Nat.blt pc 619 then (bif Nat.blt pc 618 then (bif Nat.beq pc 617 then (618, 2, 3, 0, 0, 0, []) else am_bad) else (bif Nat.beq pc 618 then (619, 0, 0, 0, 0, 1, []) else am_bad)) else (bif Nat.blt pc 620 then (bif Nat.beq pc 619 then (620, 13, 0, 0, 0, 0, []) else am_bad) else (bif Nat.beq pc 620 then (621, 9, 0, 0, 0, 0, []) else am_bad)))) else (bif Nat.blt pc 625 then (bif Nat.blt pc 623 then (bif Nat.blt pc 622 then (bif Nat.beq pc 621 then (622, 6, 0, 0, 0, 0, []) else am_bad) else (bif Nat.beq pc 622 then (623, 2, 3, 0, 0, 0, []) else am_bad)) else (bif Nat.blt pc 624 then (bif Nat.beq pc 623 then (624, 0, 0, 0, 0, 2, []) else am_bad) else (bif Nat.beq pc 624 then (625, 13, 0, 0, 0, 0, []) else am_bad))) else (bif Nat.blt pc 629 then (bif Nat.blt pc 626 then (bif Nat.beq pc 625 then (626, 9, 0, 0, 0, 0, []) else am_bad) else (bif Nat.beq pc 626 then (629, 40, 74, 3, 8, 0, []) else am_bad)) else (bif Nat.blt pc 630 then (bif Nat.beq pc 629 then (630, 28, 0, 0, 0, 0, []) else am_bad) else (bif Nat.blt pc 631 then (bif Nat.beq pc 630 then (631, 6, 2, 0, 0, 0, []) else am_bad) else (bif Nat.beq pc 631 then (632, 6, 0, 0, 0, 0, []) else am_bad))))))) else (bif Nat.blt pc 653 then (bif Nat.blt pc 640 then (bif Nat.blt pc 636 then (bif Nat.blt pc 634 then (bif Nat.blt pc 633 then (bif Nat.beq pc 632 then (633, 2, 3, 0, 0, 0, []) else am_bad) else (bif Nat.beq pc 633 then (634, 0, 0, 0, 0, 1, []) else am_bad)) else (bif Nat.blt pc 635 then (bif Nat.beq pc 634 then (635, 13, 0, 0, 0, 0, []) else am_bad) else (bif Nat.beq pc 635 then (636, 9, 0, 0, 0, 0, []) else am_bad))) else (bif Nat.blt pc 638 then (bif Nat.blt pc 637 then (bif Nat.beq pc 636 then (637, 6, 0, 0, 0, 0, []) else am_bad) else (bif Nat.beq pc 637 then (638, 2, 3, 0, 0, 0, []) else am_bad)) else (bif Nat.blt pc 639 then (bif Nat.beq pc 638 then (639, 0, 0, 0, 0, 2, []) else am_bad) else (bif Nat.beq pc 639 then (640, 13, 0, 0, 0, 0, []) else am_bad)))) else (bif Nat.blt pc 648 then (bif Nat.blt pc 644 then (bif Nat.blt pc 641 then (bif Nat.beq pc 640 then (641, 9, 0, 0, 0, 0, []) else am_bad) else (bif Nat.beq pc 641 then (644, 40, 197, 3, 9, 0, []) else am_bad)) else (bif Nat.blt pc 645 then (bif Nat.beq pc 644 then (645, 28, 0, 0, 0, 0, []) else am_bad) else (bif Nat.beq pc 645 then (0, 25, 1662, 0, 0, 0, []) else am_bad))) else (bif Nat.blt pc 650 then (bif Nat.blt pc 649 then (bif Nat.beq pc 648 then (649, 6, 1, 0, 0, 0, []) else am_bad) else (bif Nat.beq pc 649 then (650, 6, 0, 0, 0, 0, []) else am_bad)) else (bif Nat.blt pc 651 then (bif Nat.beq pc 650 then (651, 2, 3, 0, 0, 0, []) else am_bad) else (bif Nat.blt pc 652 then (bif Nat.beq pc 651 then (652, 0, 0, 0, 0, 1, []) else am_bad) else (bif Nat.beq pc 652 then (653, 13, 0, 0, 0, 0, []) else am_bad)))))) else (bif Nat.blt pc 664 then (bif Nat.blt pc 659 then (bif Nat.blt pc 657 then (bif Nat.blt pc 654 then (bif Nat.beq pc 653 then (654, 9, 0, 0, 0, 0, []) else am_bad) else (bif Nat.beq pc 654 then (657, 40, 75, 2, 8, 0, []) else am_bad)) else (bif Nat.blt pc 658 then (bif Nat.beq pc 657 then (658, 28, 0, 0, 0, 0, []) else am_bad) else (bif Nat.beq pc 658 then (659, 6, 2, 0, 0, 0, []) else am_bad))) else (bif Nat.blt pc 661 then (bif Nat.blt pc 660 then (bif Nat.beq pc 659 then (660, 6, 0, 0, 0, 0, []) else am_bad) else (bif Nat.beq pc 660 then (661, 2, 3, 0, 0, 0, []) else am_bad)) else (bif Nat.blt pc 662 then (bif Nat.beq pc 661 then (662, 0, 0, 0, 0, 1, []) else am_bad) else (bif Nat.blt pc 663 then (bif Nat.beq pc 662 then (663, 13, 0, 0, 0, 0, []) else am_bad) else (bif Nat.beq pc 663 then (664, 9, 0, 0, 0, 0, []) else am_bad))))) else (bif Nat.blt pc 672 then (bif Nat.blt pc 668 then (bif Nat.blt pc 667 then (bif Nat.beq pc 664 then (667, 40, 198, 2, 9, 0, []) else am_bad) else (bif Nat.beq pc 667 then (668, 28, 0, 0, 0, 0, []) else am_bad)) else (bif Nat.blt pc 671 then (bif Nat.beq pc 668 then (0, 25, 1662, 0, 0, 0, []) else am_bad) else (bif Nat.beq pc 671 then (672, 6, 1, 0, 0, 0, []) else am_bad))) else (bif Nat.blt pc 674 then (bif Nat.blt pc 673 then (bif Nat.beq pc 672 then (673, 6, 0, 0, 0, 0, []) else am_bad) else (bif Nat.beq pc 673 then (674, 2, 3, 0, 0, 0, []) else am_bad)) else (bif Nat.blt pc 675 then (bif Nat.beq pc 674 then (675, 0, 0, 0, 0, 1, []) else am_bad) else (bif Nat.blt pc 676 then (bif Nat.beq pc 675 then (676, 13, 0, 0, 0, 0, []) else am_bad) else (bif Nat.beq pc 676 then (677, 9, 0, 0, 0, 0, []) else am_bad)))))))) else (bif Nat.blt pc 720 then (bif Nat.blt pc 696 then (bif Nat.blt pc 685 then (bif Nat.blt pc 681 then (bif Nat.blt pc 679 then (bif Nat.blt pc 678 then (bif Nat.beq pc 677 then (678, 6, 0, 0, 0, 0, []) else am_bad) else (bif Nat.beq pc 678 then (679, 2, 3, 0, 0, 0, []) else am_bad)) else (bif Nat.blt pc 680 then (bif Nat.beq pc 679 then (680, 0, 0, 0, 0, 2, []) else am_bad) else (bif Nat.beq pc 680 then (681, 13, 0, 0, 0, 0, []) else am_bad))) else (bif Nat.blt pc 683 then (bif Nat.blt pc 682 then (bif Nat.beq pc 681 then (682, 9, 0, 0, 0, 0, []) else am_bad) else (bif Nat.beq pc 682 then (683, 6, 0, 0, 0, 0, []) else am_bad)) else (bif Nat.blt pc 684 then (bif Nat.beq pc 683 then (684, 2, 3, 0, 0, 0, []) else am_bad) else (bif Nat.beq pc 684 then (685, 0, 0, 0, 0, 3, []) else am_bad)))) else (bif Nat.blt pc 691 then (bif Nat.blt pc 687 then (bif Nat.blt pc 686 then (bif Nat.beq pc 685 then (686, 13, 0, 0, 0, 0, []) else am_bad) else (bif Nat.beq pc 686 then (687, 9, 0, 0, 0, 0, []) else am_bad)) else (bif Nat.blt pc 690 then (bif Nat.beq pc 687 then (690, 40, 76, 4, 8, 0, []) else am_bad) else (bif Nat.beq pc 690 then (691, 28, 0, 0, 0, 0, []) else am_bad))) else (bif Nat.blt pc 693 then (bif Nat.blt pc 692 then (bif Nat.beq pc 691 then (692, 6, 2, 0, 0, 0, []) else am_bad) else (bif Nat.beq pc 692 then (693, 6, 0, 0, 0, 0, []) else am_bad)) else (bif Nat.blt pc 694 then (bif Nat.beq pc 693 then (694, 2, 3, 0, 0, 0, []) else am_bad) else (bif Nat.blt pc 695 then (bif Nat.beq pc 694 then (695, 0, 0, 0, 0, 1, []) else am_bad) else (bif Nat.beq pc 695 then (696, 13, 0, 0, 0, 0, []) else am_bad)))))) else (bif Nat.blt pc 705 then (bif Nat.blt pc 700 then (bif Nat.blt pc 698 then (bif Nat.blt pc 697 then (bif Nat.beq pc 696 then (697, 9, 0, 0, 0, 0, []) else am_bad) else (bif Nat.beq pc 697 then (698, 6, 0, 0, 0, 0, []) else am_bad)) else (bif Nat.blt pc 699 then (bif Nat.beq pc 698 then (699, 2, 3, 0, 0, 0, []) else am_bad) else (bif Nat.beq pc 699 then (700, 0, 0, 0, 0, 2, []) else am_bad))) else (bif Nat.blt pc 702 then (bif Nat.blt pc 701 then (bif Nat.beq pc 700 then (701, 13, 0, 0, 0, 0, []) else am_bad) else (bif Nat.beq pc 701 then (702, 9, 0, 0, 0, 0, []) else am_bad)) else (bif Nat.blt pc 703 then (bif Nat.beq pc 702 then (703, 6, 0, 0, 0, 0, []) else am_bad) else (bif Nat.blt pc 704 then (bif Nat.beq pc 703 then (704, 2, 3, 0, 0, 0, []) else am_bad) else (bif Nat.beq pc 704 then (705, 0, 0, 0, 0, 3, []) else am_bad))))) else (bif Nat.blt pc 711 then (bif Nat.blt pc 707 then (bif Nat.blt pc 706 then (bif Nat.beq pc 705 then (706, 13, 0, 0, 0, 0, []) else am_bad) else (bif Nat.beq pc 706 then (707, 9, 0, 0, 0, 0, []) else am_bad)) else (bif Nat.blt pc 710 then (bif Nat.beq pc 707 then (710, 40, 200, 4, 9, 0, []) else am_bad) else (bif Nat.beq pc 710 then (711, 28, 0, 0, 0, 0, []) else am_bad))) else (bif Nat.blt pc 715 then (bif Nat.blt pc 714 then (bif Nat.beq pc 711 then (0, 25, 1662, 0, 0, 0, []) else am_bad) else (bif Nat.beq pc 714 then (715, 6, 1, 0, 0, 0, []) else am_bad)) else (bif Nat.blt pc 718 then (bif Nat.beq pc 715 then (718, 40, 77, 1, 8, 0, []) else am_bad) else (bif Nat.blt pc 719 then (bif Nat.beq pc 718 then (719, 28, 0, 0, 0, 0, []) else am_bad) else (bif Nat.beq pc 719 then (720, 6, 2, 0, 0, 0, []) else am_bad))))))) else (bif Nat.blt pc 743 then (bif Nat.blt pc 732 then (bif Nat.blt pc 728 then (bif Nat.blt pc 724 then (bif Nat.blt pc 723 then (bif Nat.beq pc 720 then (723, 40, 202, 1, 9, 0, []) else am_bad) else (bif Nat.beq pc 723 then (724, 28, 0, 0, 0, 0, []) else am_bad)) else (bif Nat.blt pc 727 then (bif Nat.beq pc 724 then (0, 25, 1662, 0, 0, 0, []) else am_bad) else (bif Nat.beq pc 727 then (728, 6, 1, 0, 0, 0, []) else am_bad))) else (bif Nat.blt pc 730 then (bif Nat.blt pc 729 then (bif Nat.beq pc 728 then (729, 6, 0, 0, 0, 0, []) else am_bad) else (bif Nat.beq pc 729 then (730, 2, 3, 0, 0, 0, []) else am_bad)) else (bif Nat.blt pc 731 then (bif Nat.beq pc 730 then (731, 0, 0, 0, 0, 1, []) else am_bad) else (bif Nat.beq pc 731 then (732, 13, 0, 0, 0, 0, []) else am_bad)))) else (bif Nat.blt pc 738 then (bif Nat.blt pc 736 then (bif Nat.blt pc 733 then (bif Nat.beq pc 732 then (733, 9, 0, 0, 0, 0, []) else am_bad) else (bif Nat.beq pc 733 then (736, 40, 78, 2, 8, 0, []) else am_bad)) else (bif Nat.blt pc 737 then (bif Nat.beq pc 736 then (737, 28, 0, 0, 0, 0, []) else am_bad) else (bif Nat.beq pc 737 then (738, 6, 2, 0, 0, 0, []) else am_bad))) else (bif Nat.blt pc 740 then (bif Nat.blt pc 739 then (bif Nat.beq pc 738 then (739, 6, 0, 0, 0, 0, []) else am_bad) else (bif Nat.beq pc 739 then (740, 2, 3, 0, 0, 0, []) else am_bad)) else (bif Nat.blt pc 741 then (bif Nat.beq pc 740 then (741, 0, 0, 0, 0, 1, []) else am_bad) else (bif Nat.blt pc 742 then (bif Nat.beq pc 741 then (742, 13, 0, 0, 0, 0, []) else am_bad) else (bif Nat.beq pc 742 then (743, 9, 0, 0, 0, 0, []) else am_bad)))))) else (bif Nat.blt pc 756 then (bif Nat.blt pc 751 then (bif Nat.blt pc 747 then (bif Nat.blt pc 746 then (bif Nat.beq pc 743 then (746, 40, 204, 2, 9, 0, []) else am_bad) else (bif Nat.beq pc 746 then (747, 28, 0, 0, 0, 0, []) else am_bad)) else (bif Nat.blt pc 750 then (bif Nat.beq pc 747 then (0, 25, 1662, 0, 0, 0, []) else am_bad) else (bif Nat.beq pc 750 then (751, 6, 1, 0, 0, 0, []) else am_bad))) else (bif Nat.blt pc 753 then (bif Nat.blt pc 752 then (bif Nat.beq pc 751 then (752, 6, 0, 0, 0, 0, []) else am_bad) else (bif Nat.beq pc 752 then (753, 2, 3, 0, 0, 0, []) else am_bad)) else (bif Nat.blt pc 754 then (bif Nat.beq pc 753 then (754, 0, 0, 0, 0, 1, []) else am_bad) else (bif Nat.blt pc 755 then (bif Nat.beq pc 754 then (755, 13, 0, 0, 0, 0, []) else am_bad) else (bif Nat.beq pc 755 then (756, 9, 0, 0, 0, 0, []) else am_bad))))) else (bif Nat.blt pc 760 then (bif Nat.blt pc 758 then (bif Nat.blt pc 757 then (bif Nat.beq pc 756 then (757, 6, 0, 0, 0, 0, []) else am_bad) else (bif Nat.beq pc 757 then (758, 2, 3, 0, 0, 0, []) else am_bad)) else (bif Nat.blt pc 759 then (bif Nat.beq pc 758 then (759, 0, 0, 0, 0, 2, []) else am_bad) else (bif Nat.beq pc 759 then (760, 13, 0, 0, 0, 0, []) else am_bad))) else (bif Nat.blt pc 764 then (bif Nat.blt pc 761 then (bif Nat.beq pc 760 then (761, 9, 0, 0, 0, 0, []) else am_bad) else (bif Nat.beq pc 761 then (764, 40, 79, 3, 8, 0, []) else am_bad)) else (bif Nat.blt pc 765 then (bif Nat.beq pc 764 then (765, 28, 0, 0, 0, 0, []) else am_bad) else (bif Nat.blt pc 766 then (bif Nat.beq pc 765 then (766, 6, 2, 0, 0, 0, []) else am_bad) else (bif Nat.beq pc 766 then (767, 6, 0, 0, 0, 0, []) else am_bad))))))))) else (bif Nat.blt pc 849 then (bif Nat.blt pc 808 then (bif Nat.blt pc 788 then (bif Nat.blt pc 775 then (bif Nat.blt pc 771 then (bif Nat.blt pc 769 then (bif Nat.blt pc 768 then (bif Nat.beq pc 767 then (768, 2, 3, 0, 0, 0, []) else am_bad) else (bif Nat.beq pc 768 then (769, 0, 0, 0, 0, 1, []) else am_bad)) else (bif Nat.blt pc 770 then (bif Nat.beq pc 769 then (770, 13, 0, 0, 0, 0, []) else am_bad) else (bif Nat.beq pc 770 then (771, 9, 0, 0, 0, 0, []) else am_bad))) else (bif Nat.blt pc 773 then (bif Nat.blt pc 772 then (bif Nat.beq pc 771 then (772, 6, 0, 0, 0, 0, []) else am_bad) else (bif Nat.beq pc 772 then (773, 2, 3, 0, 0, 0, []) else am_bad)) else (bif Nat.blt pc 774 then (bif Nat.beq pc 773 then (774, 0, 0, 0, 0, 2, []) else am_bad) else (bif Nat.beq pc 774 then (775, 13, 0, 0, 0, 0, []) else am_bad)))) else (bif Nat.blt pc 783 then (bif Nat.blt pc 779 then (bif Nat.blt pc 776 then (bif Nat.beq pc 775 then (776, 9, 0, 0, 0, 0, []) else am_bad) else (bif Nat.beq pc 776 then (779, 40, 205, 3, 9, 0, []) else am_bad)) else (bif Nat.blt pc 780 then (bif Nat.beq pc 779 then (780, 28, 0, 0, 0, 0, []) else am_bad) else (bif Nat.beq pc 780 then (0, 25, 1662, 0, 0, 0, []) else am_bad))) else (bif Nat.blt pc 785 then (bif Nat.blt pc 784 then (bif Nat.beq pc 783 then (784, 6, 1, 0, 0, 0, []) else am_bad) else (bif Nat.beq pc 784 then (785, 6, 0, 0, 0, 0, []) else am_bad)) else (bif Nat.blt pc 786 then (bif Nat.beq pc 785 then (786, 2, 3, 0, 0, 0, []) else am_bad) else (bif Nat.blt pc 787 then (bif Nat.beq pc 786 then (787, 0, 0, 0, 0, 1, []) else am_bad) else (bif Nat.beq pc 787 then (788, 13, 0, 0, 0, 0, []) else am_bad)))))) else (bif Nat.blt pc 799 then (bif Nat.blt pc 792 then (bif Nat.blt pc 790 then (bif Nat.blt pc 789 then (bif Nat.beq pc 788 then (789, 9, 0, 0, 0, 0, []) else am_bad) else (bif Nat.beq pc 789 then (790, 6, 0, 0, 0, 0, []) else am_bad)) else (bif Nat.blt pc 791 then (bif Nat.beq pc 790 then (791, 2, 3, 0, 0, 0, []) else am_bad) else (bif Nat.beq pc 791 then (792, 0, 0, 0, 0, 2, []) else am_bad))) else (bif Nat.blt pc 794 then (bif Nat.blt pc 793 then (bif Nat.beq pc 792 then (793, 13, 0, 0, 0, 0, []) else am_bad) else (bif Nat.beq pc 793 then (794, 9, 0, 0, 0, 0, []) else am_bad)) else (bif Nat.blt pc 797 then (bif Nat.beq pc 794 then (797, 40, 80, 3, 8, 0, []) else am_bad) else (bif Nat.blt pc 798 then (bif Nat.beq pc 797 then (798, 28, 0, 0, 0, 0, []) else am_bad) else (bif Nat.beq pc 798 then (799, 6, 2, 0, 0, 0, []) else am_bad))))) else (bif Nat.blt pc 803 then (bif Nat.blt pc 801 then (bif Nat.blt pc 800 then (bif Nat.beq pc 799 then (800, 6, 0, 0, 0, 0, []) else am_bad) else (bif Nat.beq pc 800 then (801, 2, 3, 0, 0, 0, []) else am_bad)) else (bif Nat.blt pc 802 then (bif Nat.beq pc 801 then (802, 0, 0, 0, 0, 1, []) else am_bad) else (bif Nat.beq pc 802 then (803, 13, 0, 0, 0, 0, []) else am_bad))) else (bif Nat.blt pc 805 then (bif Nat.blt pc 804 then (bif Nat.beq pc 803 then (804, 9, 0, 0, 0, 0, []) else am_bad) else (bif Nat.beq pc 804 then (805, 6, 0, 0, 0, 0, []) else am_bad)) else (bif Nat.blt pc 806 then (bif Nat.beq pc 805 then (806, 2, 3, 0, 0, 0, []) else am_bad) else (bif Nat.blt pc 807 then (bif Nat.beq pc 806 then (807, 0, 0, 0, 0, 2, []) else am_bad) else (bif Nat.beq pc 807 then (808, 13, 0, 0, 0, 0, []) else am_bad))))))) else (bif Nat.blt pc 829 then (bif Nat.blt pc 820 then (bif Nat.blt pc 816 then (bif Nat.blt pc 812 then (bif Nat.blt pc 809 then (bif Nat.beq pc 808 then (809, 9, 0, 0, 0, 0, []) else am_bad) else (bif Nat.beq pc 809 then (812, 40, 207, 3, 9, 0, []) else am_bad)) else (bif Nat.blt pc 813 then (bif Nat.beq pc 812 then (813, 28, 0, 0, 0, 0, []) else am_bad) else (bif Nat.beq pc 813 then (0, 25, 1662, 0, 0, 0, []) else am_bad))) else (bif Nat.blt pc 818 then (bif Nat.blt pc 817 then (bif Nat.beq pc 816 then (817, 6, 1, 0, 0, 0, []) else am_bad) else (bif Nat.beq pc 817 then (818, 6, 0, 0, 0, 0, []) else am_bad)) else (bif Nat.blt pc 819 then (bif Nat.beq pc 818 then (819, 2, 3, 0, 0, 0, []) else am_bad) else (bif Nat.beq pc 819 then (820, 0, 0, 0, 0, 1, []) else am_bad)))) else (bif Nat.blt pc 824 then (bif Nat.blt pc 822 then (bif Nat.blt pc 821 then (bif Nat.beq pc 820 then (821, 13, 0, 0, 0, 0, []) else am_bad) else (bif Nat.beq pc 821 then (822, 9, 0, 0, 0, 0, []) else am_bad)) else (bif Nat.blt pc 823 then (bif Nat.beq pc 822 then (823, 6, 0, 0, 0, 0, []) else am_bad) else (bif Nat.beq pc 823 then (824, 2, 3, 0, 0, 0, []) else am_bad))) else (bif Nat.blt pc 826 then (bif Nat.blt pc 825 then (bif Nat.beq pc 824 then (825, 0, 0, 0, 0, 2, []) else am_bad) else (bif Nat.beq pc 825 then (826, 13, 0, 0, 0, 0, []) else am_bad)) else (bif Nat.blt pc 827 then (bif Nat.beq pc 826 then (827, 9, 0, 0, 0, 0, []) else am_bad) else (bif Nat.blt pc 828 then (bif Nat.beq pc 827 then (828, 6, 0, 0, 0, 0, []) else am_bad) else (bif Nat.beq pc 828 then (829, 2, 3, 0, 0, 0, []) else am_bad)))))) else (bif Nat.blt pc 840 then (bif Nat.blt pc 835 then (bif Nat.blt pc 831 then (bif Nat.blt pc 830 then (bif Nat.beq pc 829 then (830, 0, 0, 0, 0, 3, []) else am_bad) else (bif Nat.beq pc 830 then (831, 13, 0, 0, 0, 0, []) else am_bad)) else (bif Nat.blt pc 832 then (bif Nat.beq pc 831 then (832, 9, 0, 0, 0, 0, []) else am_bad) else (bif Nat.beq pc 832 then (835, 40, 81, 4, 8, 0, []) else am_bad))) else (bif Nat.blt pc 837 then (bif Nat.blt pc 836 then (bif Nat.beq pc 835 then (836, 28, 0, 0, 0, 0, []) else am_bad) else (bif Nat.beq pc 836 then (837, 6, 2, 0, 0, 0, []) else am_bad)) else (bif Nat.blt pc 838 then (bif Nat.beq pc 837 then (838, 6, 0, 0, 0, 0, []) else am_bad) else (bif Nat.blt pc 839 then (bif Nat.beq pc 838 then (839, 2, 3, 0, 0, 0, []) else am_bad) else (bif Nat.beq pc 839 then (840, 0, 0, 0, 0, 1, []) else am_bad))))) else (bif Nat.blt pc 844 then (bif Nat.blt pc 842 then (bif Nat.blt pc 841 then (bif Nat.beq pc 840 then (841, 13, 0, 0, 0, 0, []) else am_bad) else (bif Nat.beq pc 841 then (842, 9, 0, 0, 0, 0, []) else am_bad)) else (bif Nat.blt pc 843 then (bif Nat.beq pc 842 then (843, 6, 0, 0, 0, 0, []) else am_bad) else (bif Nat.beq pc 843 then (844, 2, 3, 0, 0, 0, []) else am_bad))) else (bif Nat.blt pc 846 then (bif Nat.blt pc 845 then (bif Nat.beq pc 844 then (845, 0, 0, 0, 0, 2, []) else am_bad) else (bif Nat.beq pc 845 then (846, 13, 0, 0, 0, 0, []) else am_bad)) else (bif Nat.blt pc 847 then (bif Nat.beq pc 846 then (847, 9, 0, 0, 0, 0, []) else am_bad) else (bif Nat.blt pc 848 then (bif Nat.beq pc 847 then (848, 6, 0, 0, 0, 0, []) else am_bad) else (bif Nat.beq pc 848 then (849, 2, 3, 0, 0, 0, []) else am_bad)))))))) else (bif Nat.blt pc 896 then (bif Nat.blt pc 872 then (bif Nat.blt pc 861 then (bif Nat.blt pc 855 then (bif Nat.blt pc 851 then (bif Nat.blt pc 850 then (bif Nat.beq pc 849 then (850, 0, 0, 0, 0, 3, []) else am_bad) else (bif Nat.beq pc 850 then (851, 13, 0, 0, 0, 0, []) else am_bad)) else (bif Nat.blt pc 852 then (bif Nat.beq pc 851 then (852, 9, 0, 0, 0, 0, []) else am_bad) else (bif Nat.beq pc 852 then (855, 40, 208, 4, 9, 0, []) else am_bad))) else (bif Nat.blt pc 859 then (bif Nat.blt pc 856 then (bif Nat.beq pc 855 then (856, 28, 0, 0, 0, 0, []) else am_bad) else (bif Nat.beq pc 856 then (0, 25, 1662, 0, 0, 0, []) else am_bad)) else (bif Nat.blt pc 860 then (bif Nat.beq pc 859 then (860, 6, 1, 0, 0, 0, []) else am_bad) else (bif Nat.beq pc 860 then (861, 6, 0, 0, 0, 0, []) else am_bad)))) else (bif Nat.blt pc 865 then (bif Nat.blt pc 863 then (bif Nat.blt pc 862 then (bif Nat.beq pc 861 then (862, 2, 3, 0, 0, 0, []) else am_bad) else (bif Nat.beq pc 862 then (863, 0, 0, 0, 0, 1, []) else am_bad)) else (bif Nat.blt pc 864 then (bif Nat.beq pc 863 then (864, 13, 0, 0, 0, 0, []) else am_bad) else (bif Nat.beq pc 864 then (865, 9, 0, 0, 0, 0, []) else am_bad))) else (bif Nat.blt pc 869 then (bif Nat.blt pc 868 then (bif Nat.beq pc 865 then (868, 40, 82, 2, 8, 0, []) else am_bad) else (bif Nat.beq pc 868 then (869, 28, 0, 0, 0, 0, []) else am_bad)) else (bif Nat.blt pc 870 then (bif Nat.beq pc 869 then (870, 6, 2, 0, 0, 0, []) else am_bad) else (bif Nat.blt pc 871 then (bif Nat.beq pc 870 then (871, 6, 0, 0, 0, 0, []) else am_bad) else (bif Nat.beq pc 871 then (872, 2, 3, 0, 0, 0, []) else am_bad)))))) else (bif Nat.blt pc 885 then (bif Nat.blt pc 878 then (bif Nat.blt pc 874 then (bif Nat.blt pc 873 then (bif Nat.beq pc 872 then (873, 0, 0, 0, 0, 1, []) else am_bad) else (bif Nat.beq pc 873 then (874, 13, 0, 0, 0, 0, []) else am_bad)) else (bif Nat.blt pc 875 then (bif Nat.beq pc 874 then (875, 9, 0, 0, 0, 0, []) else am_bad) else (bif Nat.beq pc 875 then (878, 40, 210, 2, 9, 0, []) else am_bad))) else (bif Nat.blt pc 882 then (bif Nat.blt pc 879 then (bif Nat.beq pc 878 then (879, 28, 0, 0, 0, 0, []) else am_bad) else (bif Nat.beq pc 879 then (0, 25, 1662, 0, 0, 0, []) else am_bad)) else (bif Nat.blt pc 883 then (bif Nat.beq pc 882 then (883, 6, 1, 0, 0, 0, []) else am_bad) else (bif Nat.blt pc 884 then (bif Nat.beq pc 883 then (884, 6, 0, 0, 0, 0, []) else am_bad) else (bif Nat.beq pc 884 then (885, 2, 3, 0, 0, 0, []) else am_bad))))) else (bif Nat.blt pc 891 then (bif Nat.blt pc 887 then (bif Nat.blt pc 886 then (bif Nat.beq pc 885 then (886, 0, 0, 0, 0, 1, []) else am_bad) else (bif Nat.beq pc 886 then (887, 13, 0, 0, 0, 0, []) else am_bad)) else (bif Nat.blt pc 888 then (bif Nat.beq pc 887 then (888, 9, 0, 0, 0, 0, []) else am_bad) else (bif Nat.beq pc 888 then (891, 40, 83, 2, 8, 0, []) else am_bad))) else (bif Nat.blt pc 893 then (bif Nat.blt pc 892 then (bif Nat.beq pc 891 then (892, 28, 0, 0, 0, 0, []) else am_bad) else (bif Nat.beq pc 892 then (893, 6, 2, 0, 0, 0, []) else am_bad)) else (bif Nat.blt pc 894 then (bif Nat.beq pc 893 then (894, 6, 0, 0, 0, 0, []) else am_bad) else (bif Nat.blt pc 895 then (bif Nat.beq pc 894 then (895, 2, 3, 0, 0, 0, []) else am_bad) else (bif Nat.beq pc 895 then (896, 0, 0, 0, 0, 1, []) else am_bad))))))) else (bif Nat.blt pc 919 then (bif Nat.blt pc 908 then (bif Nat.blt pc 902 then (bif Nat.blt pc 898 then (bif Nat.blt pc 897 then (bif Nat.beq pc 896 then (897, 13, 0, 0, 0, 0, []) else am_bad) else (bif Nat.beq pc 897 then (898, 9, 0, 0, 0, 0, []) else am_bad)) else (bif Nat.blt pc 901 then (bif Nat.beq pc 898 then (901, 40, 211, 2, 9, 0, []) else am_bad) else (bif Nat.beq pc 901 then (902, 28, 0, 0, 0, 0, []) else am_bad))) else (bif Nat.blt pc 906 then (bif Nat.blt pc 905 then (bif Nat.beq pc 902 then (0, 25, 1662, 0, 0, 0, []) else am_bad) else (bif Nat.beq pc 905 then (906, 6, 1, 0, 0, 0, []) else am_bad)) else (bif Nat.blt pc 907 then (bif Nat.beq pc 906 then (907, 6, 0, 0, 0, 0, []) else am_bad) else (bif Nat.beq pc 907 then (908, 2, 3, 0, 0, 0, []) else am_bad)))) else (bif Nat.blt pc 912 then (bif Nat.blt pc 910 then (bif Nat.blt pc 909 then (bif Nat.beq pc 908 then (909, 0, 0, 0, 0, 1, []) else am_bad) else (bif Nat.beq pc 909 then (910, 13, 0, 0, 0, 0, []) else am_bad)) else (bif Nat.blt pc 911 then (bif Nat.beq pc 910 then (911, 9, 0, 0, 0, 0, []) else am_bad) else (bif Nat.beq pc 911 then (912, 6, 0, 0, 0, 0, []) else am_bad))) else (bif Nat.blt pc 914 then (bif Nat.blt pc 913 then (bif Nat.beq pc 912 then (913, 2, 3, 0, 0, 0, []) else am_bad) else (bif Nat.beq pc 913 then (914, 0, 0, 0, 0, 2, []) else am_bad)) else (bif Nat.blt pc 915 then (bif Nat.beq pc 914 then (915, 13, 0, 0, 0, 0, []) else am_bad) else (bif Nat.blt pc 916 then (bif Nat.beq pc 915 then (916, 9, 0, 0, 0, 0, []) else am_bad) else (bif Nat.beq pc 916 then (919, 40, 84, 3, 8, 0, []) else am_bad)))))) else (bif Nat.blt pc 928 then (bif Nat.blt pc 923 then (bif Nat.blt pc 921 then (bif Nat.blt pc 920 then (bif Nat.beq pc 919 then (920, 28, 0, 0, 0, 0, []) else am_bad) else (bif Nat.beq pc 920 then (921, 6, 2, 0, 0, 0, []) else am_bad)) else (bif Nat.blt pc 922 then (bif Nat.beq pc 921 then (922, 6, 0, 0, 0, 0, []) else am_bad) else (bif Nat.beq pc 922 then (923, 2, 3, 0, 0, 0, []) else am_bad))) else (bif Nat.blt pc 925 then (bif Nat.blt pc 924 then (bif Nat.beq pc 923 then (924, 0, 0, 0, 0, 1, []) else am_bad) else (bif Nat.beq pc 924 then (925, 13, 0, 0, 0, 0, []) else am_bad)) else (bif Nat.blt pc 926 then (bif Nat.beq pc 925 then (926, 9, 0, 0, 0, 0, []) else am_bad) else (bif Nat.blt pc 927 then (bif Nat.beq pc 926 then (927, 6, 0, 0, 0, 0, []) else am_bad) else (bif Nat.beq pc 927 then (928, 2, 3, 0, 0, 0, []) else am_bad))))) else (bif Nat.blt pc 934 then (bif Nat.blt pc 930 then (bif Nat.blt pc 929 then (bif Nat.beq pc 928 then (929, 0, 0, 0, 0, 2, []) else am_bad) else (bif Nat.beq pc 929 then (930, 13, 0, 0, 0, 0, []) else am_bad)) else (bif Nat.blt pc 931 then (bif Nat.beq pc 930 then (931, 9, 0, 0, 0, 0, []) else am_bad) else (bif Nat.beq pc 931 then (934, 40, 246, 3, 9, 0, []) else am_bad))) else (bif Nat.blt pc 938 then (bif Nat.blt pc 935 then (bif Nat.beq pc 934 then (935, 28, 0, 0, 0, 0, []) else am_bad) else (bif Nat.beq pc 935 then (0, 25, 1662, 0, 0, 0, []) else am_bad)) else (bif Nat.blt pc 939 then (bif Nat.beq pc 938 then (939, 6, 1, 0, 0, 0, []) else am_bad) else (bif Nat.blt pc 942 then (bif Nat.beq pc 939 then (942, 40, 85, 1, 8, 0, []) else am_bad) else (bif Nat.beq pc 942 then (943, 28, 0, 0, 0, 0, []) else am_bad))))))))))) else (bif Nat.blt pc 1305 then (bif Nat.blt pc 1130 then (bif Nat.blt pc 1036 then (bif Nat.blt pc 997 then (bif Nat.blt pc 966 then (bif Nat.blt pc 955 then (bif Nat.blt pc 951 then (bif Nat.blt pc 947 then (bif Nat.blt pc 944 then (bif Nat.beq pc 943 then (944, 6, 2, 0, 0, 0, []) else am_bad) else (bif Nat.beq pc 944 then (947, 40, 212, 1, 9, 0, []) else am_bad)) else (bif Nat.blt pc 948 then (bif Nat.beq pc 947 then (948, 28, 0, 0, 0, 0, []) else am_bad) else (bif Nat.beq pc 948 then (0, 25, 1662, 0, 0, 0, []) else am_bad))) else (bif Nat.blt pc 953 then (bif Nat.blt pc 952 then (bif Nat.beq pc 951 then (952, 6, 1, 0, 0, 0, []) else am_bad) else (bif Nat.beq pc 952 then (953, 6, 0, 0, 0, 0, []) else am_bad)) else (bif Nat.blt pc 954 then (bif Nat.beq pc 953 then (954, 2, 3, 0, 0, 0, []) else am_bad) else (bif Nat.beq pc 954 then (955, 0, 0, 0, 0, 1, []) else am_bad)))) else (bif Nat.blt pc 961 then (bif Nat.blt pc 957 then (bif Nat.blt pc 956 then (bif Nat.beq pc 955 then (956, 13, 0, 0, 0, 0, []) else am_bad) else (bif Nat.beq pc 956 then (957, 9, 0, 0, 0, 0, []) else am_bad)) else (bif Nat.blt pc 960 then (bif Nat.beq pc 957 then (960, 40, 86, 2, 8, 0, []) else am_bad) else (bif Nat.beq pc 960 then (961, 28, 0, 0, 0, 0, []) else am_bad))) else (bif Nat.blt pc 963 then (bif Nat.blt pc 962 then (bif Nat.beq pc 961 then (962, 6, 2, 0, 0, 0, []) else am_bad) else (bif Nat.beq pc 962 then (963, 6, 0, 0, 0, 0, []) else am_bad)) else (bif Nat.blt pc 964 then (bif Nat.beq pc 963 then (964, 2, 3, 0, 0, 0, []) else am_bad) else (bif Nat.blt pc 965 then (bif Nat.beq pc 964 then (965, 0, 0, 0, 0, 1, []) else am_bad) else (bif Nat.beq pc 965 then (966, 13, 0, 0, 0, 0, []) else am_bad)))))) else (bif Nat.blt pc 980 then (bif Nat.blt pc 974 then (bif Nat.blt pc 970 then (bif Nat.blt pc 967 then (bif Nat.beq pc 966 then (967, 9, 0, 0, 0, 0, []) else am_bad) else (bif Nat.beq pc 967 then (970, 40, 244, 2, 9, 0, []) else am_bad)) else (bif Nat.blt pc 971 then (bif Nat.beq pc 970 then (971, 28, 0, 0, 0, 0, []) else am_bad) else (bif Nat.beq pc 971 then (0, 25, 1662, 0, 0, 0, []) else am_bad))) else (bif Nat.blt pc 978 then (bif Nat.blt pc 975 then (bif Nat.beq pc 974 then (975, 6, 1, 0, 0, 0, []) else am_bad) else (bif Nat.beq pc 975 then (978, 40, 87, 1, 8, 0, []) else am_bad)) else (bif Nat.blt pc 979 then (bif Nat.beq pc 978 then (979, 28, 0, 0, 0, 0, []) else am_bad) else (bif Nat.beq pc 979 then (980, 6, 2, 0, 0, 0, []) else am_bad)))) else (bif Nat.blt pc 988 then (bif Nat.blt pc 984 then (bif Nat.blt pc 983 then (bif Nat.beq pc 980 then (983, 40, 247, 1, 9, 0, []) else am_bad) else (bif Nat.beq pc 983 then (984, 28, 0, 0, 0, 0, []) else am_bad)) else (bif Nat.blt pc 987 then (bif Nat.beq pc 984 then (0, 25, 1662, 0, 0, 0, []) else am_bad) else (bif Nat.beq pc 987 then (988, 6, 1, 0, 0, 0, []) else am_bad))) else (bif Nat.blt pc 992 then (bif Nat.blt pc 991 then (bif Nat.beq pc 988 then (991, 40, 88, 1, 8, 0, []) else am_bad) else (bif Nat.beq pc 991 then (992, 28, 0, 0, 0, 0, []) else am_bad)) else (bif Nat.blt pc 993 then (bif Nat.beq pc 992 then (993, 6, 2, 0, 0, 0, []) else am_bad) else (bif Nat.blt pc 996 then (bif Nat.beq pc 993 then (996, 40, 248, 1, 9, 0, []) else am_bad) else (bif Nat.beq pc 996 then (997, 28, 0, 0, 0, 0, []) else am_bad))))))) else (bif Nat.blt pc 1016 then (bif Nat.blt pc 1007 then (bif Nat.blt pc 1003 then (bif Nat.blt pc 1001 then (bif Nat.blt pc 1000 then (bif Nat.beq pc 997 then (0, 25, 1662, 0, 0, 0, []) else am_bad) else (bif Nat.beq pc 1000 then (1001, 6, 1, 0, 0, 0, []) else am_bad)) else (bif Nat.blt pc 1002 then (bif Nat.beq pc 1001 then (1002, 6, 0, 0, 0, 0, []) else am_bad) else (bif Nat.beq pc 1002 then (1003, 2, 3, 0, 0, 0, []) else am_bad))) else (bif Nat.blt pc 1005 then (bif Nat.blt pc 1004 then (bif Nat.beq pc 1003 then (1004, 0, 0, 0, 0, 1, []) else am_bad) else (bif Nat.beq pc 1004 then (1005, 13, 0, 0, 0, 0, []) else am_bad)) else (bif Nat.blt pc 1006 then (bif Nat.beq pc 1005 then (1006, 9, 0, 0, 0, 0, []) else am_bad) else (bif Nat.beq pc 1006 then (1007, 6, 0, 0, 0, 0, []) else am_bad)))) else (bif Nat.blt pc 1011 then (bif Nat.blt pc 1009 then (bif Nat.blt pc 1008 then (bif Nat.beq pc 1007 then (1008, 2, 3, 0, 0, 0, []) else am_bad) else (bif Nat.beq pc 1008 then (1009, 0, 0, 0, 0, 2, []) else am_bad)) else (bif Nat.blt pc 1010 then (bif Nat.beq pc 1009 then (1010, 13, 0, 0, 0, 0, []) else am_bad) else (bif Nat.beq pc 1010 then (1011, 9, 0, 0, 0, 0, []) else am_bad))) else (bif Nat.blt pc 1013 then (bif Nat.blt pc 1012 then (bif Nat.beq pc 1011 then (1012, 6, 0, 0, 0, 0, []) else am_bad) else (bif Nat.beq pc 1012 then (1013, 2, 3, 0, 0, 0, []) else am_bad)) else (bif Nat.blt pc 1014 then (bif Nat.beq pc 1013 then (1014, 0, 0, 0, 0, 3, []) else am_bad) else (bif Nat.blt pc 1015 then (bif Nat.beq pc 1014 then (1015, 13, 0, 0, 0, 0, []) else am_bad) else (bif Nat.beq pc 1015 then (1016, 9, 0, 0, 0, 0, []) else am_bad)))))) else (bif Nat.blt pc 1027 then (bif Nat.blt pc 1020 then (bif Nat.blt pc 1018 then (bif Nat.blt pc 1017 then (bif Nat.beq pc 1016 then (1017, 6, 0, 0, 0, 0, []) else am_bad) else (bif Nat.beq pc 1017 then (1018, 2, 3, 0, 0, 0, []) else am_bad)) else (bif Nat.blt pc 1019 then (bif Nat.beq pc 1018 then (1019, 0, 0, 0, 0, 4, []) else am_bad) else (bif Nat.beq pc 1019 then (1020, 13, 0, 0, 0, 0, []) else am_bad))) else (bif Nat.blt pc 1024 then (bif Nat.blt pc 1021 then (bif Nat.beq pc 1020 then (1021, 9, 0, 0, 0, 0, []) else am_bad) else (bif Nat.beq pc 1021 then (1024, 40, 89, 5, 8, 0, []) else am_bad)) else (bif Nat.blt pc 1025 then (bif Nat.beq pc 1024 then (1025, 28, 0, 0, 0, 0, []) else am_bad) else (bif Nat.blt pc 1026 then (bif Nat.beq pc 1025 then (1026, 6, 2, 0, 0, 0, []) else am_bad) else (bif Nat.beq pc 1026 then (1027, 6, 0, 0, 0, 0, []) else am_bad))))) else (bif Nat.blt pc 1031 then (bif Nat.blt pc 1029 then (bif Nat.blt pc 1028 then (bif Nat.beq pc 1027 then (1028, 2, 3, 0, 0, 0, []) else am_bad) else (bif Nat.beq pc 1028 then (1029, 0, 0, 0, 0, 1, []) else am_bad)) else (bif Nat.blt pc 1030 then (bif Nat.beq pc 1029 then (1030, 13, 0, 0, 0, 0, []) else am_bad) else (bif Nat.beq pc 1030 then (1031, 9, 0, 0, 0, 0, []) else am_bad))) else (bif Nat.blt pc 1033 then (bif Nat.blt pc 1032 then (bif Nat.beq pc 1031 then (1032, 6, 0, 0, 0, 0, []) else am_bad) else (bif Nat.beq pc 1032 then (1033, 2, 3, 0, 0, 0, []) else am_bad)) else (bif Nat.blt pc 1034 then (bif Nat.beq pc 1033 then (1034, 0, 0, 0, 0, 2, []) else am_bad) else (bif Nat.blt pc 1035 then (bif Nat.beq pc 1034 then (1035, 13, 0, 0, 0, 0, []) else am_bad) else (bif Nat.beq pc 1035 then (1036, 9, 0, 0, 0, 0, []) else am_bad)))))))) else (bif Nat.blt pc 1085 then (bif Nat.blt pc 1059 then (bif Nat.blt pc 1044 then (bif Nat.blt pc 1040 then (bif Nat.blt pc 1038 then (bif Nat.blt pc 1037 then (bif Nat.beq pc 1036 then (1037, 6, 0, 0, 0, 0, []) else am_bad) else (bif Nat.beq pc 1037 then (1038, 2, 3, 0, 0, 0, []) else am_bad)) else (bif Nat.blt pc 1039 then (bif Nat.beq pc 1038 then (1039, 0, 0, 0, 0, 3, []) else am_bad) else (bif Nat.beq pc 1039 then (1040, 13, 0, 0, 0, 0, []) else am_bad))) else (bif Nat.blt pc 1042 then (bif Nat.blt pc 1041 then (bif Nat.beq pc 1040 then (1041, 9, 0, 0, 0, 0, []) else am_bad) else (bif Nat.beq pc 1041 then (1042, 6, 0, 0, 0, 0, []) else am_bad)) else (bif Nat.blt pc 1043 then (bif Nat.beq pc 1042 then (1043, 2, 3, 0, 0, 0, []) else am_bad) else (bif Nat.beq pc 1043 then (1044, 0, 0, 0, 0, 4, []) else am_bad)))) else (bif Nat.blt pc 1050 then (bif Nat.blt pc 1046 then (bif Nat.blt pc 1045 then (bif Nat.beq pc 1044 then (1045, 13, 0, 0, 0, 0, []) else am_bad) else (bif Nat.beq pc 1045 then (1046, 9, 0, 0, 0, 0, []) else am_bad)) else (bif Nat.blt pc 1049 then (bif Nat.beq pc 1046 then (1049, 40, 249, 5, 9, 0, []) else am_bad) else (bif Nat.beq pc 1049 then (1050, 28, 0, 0, 0, 0, []) else am_bad))) else (bif Nat.blt pc 1054 then (bif Nat.blt pc 1053 then (bif Nat.beq pc 1050 then (0, 25, 1662, 0, 0, 0, []) else am_bad) else (bif Nat.beq pc 1053 then (1054, 6, 1, 0, 0, 0, []) else am_bad)) else (bif Nat.blt pc 1057 then (bif Nat.beq pc 1054 then (1057, 40, 90, 1, 8, 0, []) else am_bad) else (bif Nat.blt pc 1058 then (bif Nat.beq pc 1057 then (1058, 28, 0, 0, 0, 0, []) else am_bad) else (bif Nat.beq pc 1058 then (1059, 6, 2, 0, 0, 0, []) else am_bad)))))) else (bif Nat.blt pc 1072 then (bif Nat.blt pc 1067 then (bif Nat.blt pc 1063 then (bif Nat.blt pc 1062 then (bif Nat.beq pc 1059 then (1062, 40, 180, 1, 9, 0, []) else am_bad) else (bif Nat.beq pc 1062 then (1063, 28, 0, 0, 0, 0, []) else am_bad)) else (bif Nat.blt pc 1066 then (bif Nat.beq pc 1063 then (0, 25, 1662, 0, 0, 0, []) else am_bad) else (bif Nat.beq pc 1066 then (1067, 6, 1, 0, 0, 0, []) else am_bad))) else (bif Nat.blt pc 1069 then (bif Nat.blt pc 1068 then (bif Nat.beq pc 1067 then (1068, 6, 0, 0, 0, 0, []) else am_bad) else (bif Nat.beq pc 1068 then (1069, 2, 3, 0, 0, 0, []) else am_bad)) else (bif Nat.blt pc 1070 then (bif Nat.beq pc 1069 then (1070, 0, 0, 0, 0, 1, []) else am_bad) else (bif Nat.blt pc 1071 then (bif Nat.beq pc 1070 then (1071, 13, 0, 0, 0, 0, []) else am_bad) else (bif Nat.beq pc 1071 then (1072, 9, 0, 0, 0, 0, []) else am_bad))))) else (bif Nat.blt pc 1078 then (bif Nat.blt pc 1076 then (bif Nat.blt pc 1075 then (bif Nat.beq pc 1072 then (1075, 40, 91, 2, 8, 0, []) else am_bad) else (bif Nat.beq pc 1075 then (1076, 28, 0, 0, 0, 0, []) else am_bad)) else (bif Nat.blt pc 1077 then (bif Nat.beq pc 1076 then (1077, 6, 2, 0, 0, 0, []) else am_bad) else (bif Nat.beq pc 1077 then (1078, 6, 0, 0, 0, 0, []) else am_bad))) else (bif Nat.blt pc 1080 then (bif Nat.blt pc 1079 then (bif Nat.beq pc 1078 then (1079, 2, 3, 0, 0, 0, []) else am_bad) else (bif Nat.beq pc 1079 then (1080, 0, 0, 0, 0, 1, []) else am_bad)) else (bif Nat.blt pc 1081 then (bif Nat.beq pc 1080 then (1081, 13, 0, 0, 0, 0, []) else am_bad) else (bif Nat.blt pc 1082 then (bif Nat.beq pc 1081 then (1082, 9, 0, 0, 0, 0, []) else am_bad) else (bif Nat.beq pc 1082 then (1085, 40, 213, 2, 9, 0, []) else am_bad))))))) else (bif Nat.blt pc 1110 then (bif Nat.blt pc 1099 then (bif Nat.blt pc 1093 then (bif Nat.blt pc 1089 then (bif Nat.blt pc 1086 then (bif Nat.beq pc 1085 then (1086, 28, 0, 0, 0, 0, []) else am_bad) else (bif Nat.beq pc 1086 then (0, 25, 1662, 0, 0, 0, []) else am_bad)) else (bif Nat.blt pc 1090 then (bif Nat.beq pc 1089 then (1090, 6, 1, 0, 0, 0, []) else am_bad) else (bif Nat.beq pc 1090 then (1093, 40, 92, 1, 8, 0, []) else am_bad))) else (bif Nat.blt pc 1095 then (bif Nat.blt pc 1094 then (bif Nat.beq pc 1093 then (1094, 28, 0, 0, 0, 0, []) else am_bad) else (bif Nat.beq pc 1094 then (1095, 6, 2, 0, 0, 0, []) else am_bad)) else (bif Nat.blt pc 1098 then (bif Nat.beq pc 1095 then (1098, 40, 214, 1, 9, 0, []) else am_bad) else (bif Nat.beq pc 1098 then (1099, 28, 0, 0, 0, 0, []) else am_bad)))) else (bif Nat.blt pc 1105 then (bif Nat.blt pc 1103 then (bif Nat.blt pc 1102 then (bif Nat.beq pc 1099 then (0, 25, 1662, 0, 0, 0, []) else am_bad) else (bif Nat.beq pc 1102 then (1103, 6, 1, 0, 0, 0, []) else am_bad)) else (bif Nat.blt pc 1104 then (bif Nat.beq pc 1103 then (1104, 6, 0, 0, 0, 0, []) else am_bad) else (bif Nat.beq pc 1104 then (1105, 2, 3, 0, 0, 0, []) else am_bad))) else (bif Nat.blt pc 1107 then (bif Nat.blt pc 1106 then (bif Nat.beq pc 1105 then (1106, 0, 0, 0, 0, 1, []) else am_bad) else (bif Nat.beq pc 1106 then (1107, 13, 0, 0, 0, 0, []) else am_bad)) else (bif Nat.blt pc 1108 then (bif Nat.beq pc 1107 then (1108, 9, 0, 0, 0, 0, []) else am_bad) else (bif Nat.blt pc 1109 then (bif Nat.beq pc 1108 then (1109, 6, 0, 0, 0, 0, []) else am_bad) else (bif Nat.beq pc 1109 then (1110, 2, 3, 0, 0, 0, []) else am_bad)))))) else (bif Nat.blt pc 1121 then (bif Nat.blt pc 1114 then (bif Nat.blt pc 1112 then (bif Nat.blt pc 1111 then (bif Nat.beq pc 1110 then (1111, 0, 0, 0, 0, 2, []) else am_bad) else (bif Nat.beq pc 1111 then (1112, 13, 0, 0, 0, 0, []) else am_bad)) else (bif Nat.blt pc 1113 then (bif Nat.beq pc 1112 then (1113, 9, 0, 0, 0, 0, []) else am_bad) else (bif Nat.beq pc 1113 then (1114, 6, 0, 0, 0, 0, []) else am_bad))) else (bif Nat.blt pc 1116 then (bif Nat.blt pc 1115 then (bif Nat.beq pc 1114 then (1115, 2, 3, 0, 0, 0, []) else am_bad) else (bif Nat.beq pc 1115 then (1116, 0, 0, 0, 0, 3, []) else am_bad)) else (bif Nat.blt pc 1117 then (bif Nat.beq pc 1116 then (1117, 13, 0, 0, 0, 0, []) else am_bad) else (bif Nat.blt pc 1118 then (bif Nat.beq pc 1117 then (1118, 9, 0, 0, 0, 0, []) else am_bad) else (bif Nat.beq pc 1118 then (1121, 40, 93, 4, 8, 0, []) else am_bad))))) else (bif Nat.blt pc 1125 then (bif Nat.blt pc 1123 then (bif Nat.blt pc 1122 then (bif Nat.beq pc 1121 then (1122, 28, 0, 0, 0, 0, []) else am_bad) else (bif Nat.beq pc 1122 then (1123, 6, 2, 0, 0, 0, []) else am_bad)) else (bif Nat.blt pc 1124 then (bif Nat.beq pc 1123 then (1124, 6, 0, 0, 0, 0, []) else am_bad) else (bif Nat.beq pc 1124 then (1125, 2, 3, 0, 0, 0, []) else am_bad))) else (bif Nat.blt pc 1127 then (bif Nat.blt pc 1126 then (bif Nat.beq pc 1125 then (1126, 0, 0, 0, 0, 1, []) else am_bad) else (bif Nat.beq pc 1126 then (1127, 13, 0, 0, 0, 0, []) else am_bad)) else (bif Nat.blt pc 1128 then (bif Nat.beq pc 1127 then (1128, 9, 0, 0, 0, 0, []) else am_bad) else (bif Nat.blt pc 1129 then (bif Nat.beq pc 1128 then (1129, 6, 0, 0, 0, 0, []) else am_bad) else (bif Nat.beq pc 1129 then (1130, 2, 3, 0, 0, 0, []) else am_bad))))))))) else (bif Nat.blt pc 1211 then (bif Nat.blt pc 1170 then (bif Nat.blt pc 1151 then (bif Nat.blt pc 1138 then (bif Nat.blt pc 1134 then (bif Nat.blt pc 1132 then (bif Nat.blt pc 1131 then (bif Nat.beq pc 1130 then (1131, 0, 0, 0, 0, 2, []) else am_bad) else (bif Nat.beq pc 1131 then (1132, 13, 0, 0, 0, 0, []) else am_bad)) else (bif Nat.blt pc 1133 then (bif Nat.beq pc 1132 then (1133, 9, 0, 0, 0, 0, []) else am_bad) else (bif Nat.beq pc 1133 then (1134, 6, 0, 0, 0, 0, []) else am_bad))) else (bif Nat.blt pc 1136 then (bif Nat.blt pc 1135 then (bif Nat.beq pc 1134 then (1135, 2, 3, 0, 0, 0, []) else am_bad) else (bif Nat.beq pc 1135 then (1136, 0, 0, 0, 0, 3, []) else am_bad)) else (bif Nat.blt pc 1137 then (bif Nat.beq pc 1136 then (1137, 13, 0, 0, 0, 0, []) else am_bad) else (bif Nat.beq pc 1137 then (1138, 9, 0, 0, 0, 0, []) else am_bad)))) else (bif Nat.blt pc 1146 then (bif Nat.blt pc 1142 then (bif Nat.blt pc 1141 then (bif Nat.beq pc 1138 then (1141, 40, 216, 4, 9, 0, []) else am_bad) else (bif Nat.beq pc 1141 then (1142, 28, 0, 0, 0, 0, []) else am_bad)) else (bif Nat.blt pc 1145 then (bif Nat.beq pc 1142 then (0, 25, 1662, 0, 0, 0, []) else am_bad) else (bif Nat.beq pc 1145 then (1146, 6, 1, 0, 0, 0, []) else am_bad))) else (bif Nat.blt pc 1148 then (bif Nat.blt pc 1147 then (bif Nat.beq pc 1146 then (1147, 6, 0, 0, 0, 0, []) else am_bad) else (bif Nat.beq pc 1147 then (1148, 2, 3, 0, 0, 0, []) else am_bad)) else (bif Nat.blt pc 1149 then (bif Nat.beq pc 1148 then (1149, 0, 0, 0, 0, 1, []) else am_bad) else (bif Nat.blt pc 1150 then (bif Nat.beq pc 1149 then (1150, 13, 0, 0, 0, 0, []) else am_bad) else (bif Nat.beq pc 1150 then (1151, 9, 0, 0, 0, 0, []) else am_bad)))))) else (bif Nat.blt pc 1161 then (bif Nat.blt pc 1155 then (bif Nat.blt pc 1153 then (bif Nat.blt pc 1152 then (bif Nat.beq pc 1151 then (1152, 6, 0, 0, 0, 0, []) else am_bad) else (bif Nat.beq pc 1152 then (1153, 2, 3, 0, 0, 0, []) else am_bad)) else (bif Nat.blt pc 1154 then (bif Nat.beq pc 1153 then (1154, 0, 0, 0, 0, 2, []) else am_bad) else (bif Nat.beq pc 1154 then (1155, 13, 0, 0, 0, 0, []) else am_bad))) else (bif Nat.blt pc 1159 then (bif Nat.blt pc 1156 then (bif Nat.beq pc 1155 then (1156, 9, 0, 0, 0, 0, []) else am_bad) else (bif Nat.beq pc 1156 then (1159, 40, 94, 3, 8, 0, []) else am_bad)) else (bif Nat.blt pc 1160 then (bif Nat.beq pc 1159 then (1160, 28, 0, 0, 0, 0, []) else am_bad) else (bif Nat.beq pc 1160 then (1161, 6, 2, 0, 0, 0, []) else am_bad)))) else (bif Nat.blt pc 1165 then (bif Nat.blt pc 1163 then (bif Nat.blt pc 1162 then (bif Nat.beq pc 1161 then (1162, 6, 0, 0, 0, 0, []) else am_bad) else (bif Nat.beq pc 1162 then (1163, 2, 3, 0, 0, 0, []) else am_bad)) else (bif Nat.blt pc 1164 then (bif Nat.beq pc 1163 then (1164, 0, 0, 0, 0, 1, []) else am_bad) else (bif Nat.beq pc 1164 then (1165, 13, 0, 0, 0, 0, []) else am_bad))) else (bif Nat.blt pc 1167 then (bif Nat.blt pc 1166 then (bif Nat.beq pc 1165 then (1166, 9, 0, 0, 0, 0, []) else am_bad) else (bif Nat.beq pc 1166 then (1167, 6, 0, 0, 0, 0, []) else am_bad)) else (bif Nat.blt pc 1168 then (bif Nat.beq pc 1167 then (1168, 2, 3, 0, 0, 0, []) else am_bad) else (bif Nat.blt pc 1169 then (bif Nat.beq pc 1168 then (1169, 0, 0, 0, 0, 2, []) else am_bad) else (bif Nat.beq pc 1169 then (1170, 13, 0, 0, 0, 0, []) else am_bad))))))) else (bif Nat.blt pc 1191 then (bif Nat.blt pc 1182 then (bif Nat.blt pc 1178 then (bif Nat.blt pc 1174 then (bif Nat.blt pc 1171 then (bif Nat.beq pc 1170 then (1171, 9, 0, 0, 0, 0, []) else am_bad) else (bif Nat.beq pc 1171 then (1174, 40, 217, 3, 9, 0, []) else am_bad)) else (bif Nat.blt pc 1175 then (bif Nat.beq pc 1174 then (1175, 28, 0, 0, 0, 0, []) else am_bad) else (bif Nat.beq pc 1175 then (0, 25, 1662, 0, 0, 0, []) else am_bad))) else (bif Nat.blt pc 1180 then (bif Nat.blt pc 1179 then (bif Nat.beq pc 1178 then (1179, 6, 1, 0, 0, 0, []) else am_bad) else (bif Nat.beq pc 1179 then (1180, 6, 0, 0, 0, 0, []) else am_bad)) else (bif Nat.blt pc 1181 then (bif Nat.beq pc 1180 then (1181, 2, 3, 0, 0, 0, []) else am_bad) else (bif Nat.beq pc 1181 then (1182, 0, 0, 0, 0, 1, []) else am_bad)))) else (bif Nat.blt pc 1186 then (bif Nat.blt pc 1184 then (bif Nat.blt pc 1183 then (bif Nat.beq pc 1182 then (1183, 13, 0, 0, 0, 0, []) else am_bad) else (bif Nat.beq pc 1183 then (1184, 9, 0, 0, 0, 0, []) else am_bad)) else (bif Nat.blt pc 1185 then (bif Nat.beq pc 1184 then (1185, 6, 0, 0, 0, 0, []) else am_bad) else (bif Nat.beq pc 1185 then (1186, 2, 3, 0, 0, 0, []) else am_bad))) else (bif Nat.blt pc 1188 then (bif Nat.blt pc 1187 then (bif Nat.beq pc 1186 then (1187, 0, 0, 0, 0, 2, []) else am_bad) else (bif Nat.beq pc 1187 then (1188, 13, 0, 0, 0, 0, []) else am_bad)) else (bif Nat.blt pc 1189 then (bif Nat.beq pc 1188 then (1189, 9, 0, 0, 0, 0, []) else am_bad) else (bif Nat.blt pc 1190 then (bif Nat.beq pc 1189 then (1190, 6, 0, 0, 0, 0, []) else am_bad) else (bif Nat.beq pc 1190 then (1191, 2, 3, 0, 0, 0, []) else am_bad)))))) else (bif Nat.blt pc 1202 then (bif Nat.blt pc 1197 then (bif Nat.blt pc 1193 then (bif Nat.blt pc 1192 then (bif Nat.beq pc 1191 then (1192, 0, 0, 0, 0, 3, []) else am_bad) else (bif Nat.beq pc 1192 then (1193, 13, 0, 0, 0, 0, []) else am_bad)) else (bif Nat.blt pc 1194 then (bif Nat.beq pc 1193 then (1194, 9, 0, 0, 0, 0, []) else am_bad) else (bif Nat.beq pc 1194 then (1197, 40, 95, 4, 8, 0, []) else am_bad))) else (bif Nat.blt pc 1199 then (bif Nat.blt pc 1198 then (bif Nat.beq pc 1197 then (1198, 29, 0, 0, 0, 0, []) else am_bad) else (bif Nat.beq pc 1198 then (1199, 6, 2, 0, 0, 0, []) else am_bad)) else (bif Nat.blt pc 1200 then (bif Nat.beq pc 1199 then (1200, 6, 0, 0, 0, 0, []) else am_bad) else (bif Nat.blt pc 1201 then (bif Nat.beq pc 1200 then (1201, 2, 3, 0, 0, 0, []) else am_bad) else (bif Nat.beq pc 1201 then (1202, 0, 0, 0, 0, 1, []) else am_bad))))) else (bif Nat.blt pc 1206 then (bif Nat.blt pc 1204 then (bif Nat.blt pc 1203 then (bif Nat.beq pc 1202 then (1203, 13, 0, 0, 0, 0, []) else am_bad) else (bif Nat.beq pc 1203 then (1204, 9, 0, 0, 0, 0, []) else am_bad)) else (bif Nat.blt pc 1205 then (bif Nat.beq pc 1204 then (1205, 6, 0, 0, 0, 0, []) else am_bad) else (bif Nat.beq pc 1205 then (1206, 2, 3, 0, 0, 0, []) else am_bad))) else (bif Nat.blt pc 1208 then (bif Nat.blt pc 1207 then (bif Nat.beq pc 1206 then (1207, 0, 0, 0, 0, 2, []) else am_bad) else (bif Nat.beq pc 1207 then (1208, 13, 0, 0, 0, 0, []) else am_bad)) else (bif Nat.blt pc 1209 then (bif Nat.beq pc 1208 then (1209, 9, 0, 0, 0, 0, []) else am_bad) else (bif Nat.blt pc 1210 then (bif Nat.beq pc 1209 then (1210, 6, 0, 0, 0, 0, []) else am_bad) else (bif Nat.beq pc 1210 then (1211, 2, 3, 0, 0, 0, []) else am_bad)))))))) else (bif Nat.blt pc 1258 then (bif Nat.blt pc 1234 then (bif Nat.blt pc 1223 then (bif Nat.blt pc 1217 then (bif Nat.blt pc 1213 then (bif Nat.blt pc 1212 then (bif Nat.beq pc 1211 then (1212, 0, 0, 0, 0, 3, []) else am_bad) else (bif Nat.beq pc 1212 then (1213, 13, 0, 0, 0, 0, []) else am_bad)) else (bif Nat.blt pc 1214 then (bif Nat.beq pc 1213 then (1214, 9, 0, 0, 0, 0, []) else am_bad) else (bif Nat.beq pc 1214 then (1217, 40, 220, 4, 9, 0, []) else am_bad))) else (bif Nat.blt pc 1221 then (bif Nat.blt pc 1218 then (bif Nat.beq pc 1217 then (1218, 29, 0, 0, 0, 0, []) else am_bad) else (bif Nat.beq pc 1218 then (0, 25, 1662, 0, 0, 0, []) else am_bad)) else (bif Nat.blt pc 1222 then (bif Nat.beq pc 1221 then (1222, 6, 1, 0, 0, 0, []) else am_bad) else (bif Nat.beq pc 1222 then (1223, 6, 0, 0, 0, 0, []) else am_bad)))) else (bif Nat.blt pc 1227 then (bif Nat.blt pc 1225 then (bif Nat.blt pc 1224 then (bif Nat.beq pc 1223 then (1224, 2, 3, 0, 0, 0, []) else am_bad) else (bif Nat.beq pc 1224 then (1225, 0, 0, 0, 0, 1, []) else am_bad)) else (bif Nat.blt pc 1226 then (bif Nat.beq pc 1225 then (1226, 13, 0, 0, 0, 0, []) else am_bad) else (bif Nat.beq pc 1226 then (1227, 9, 0, 0, 0, 0, []) else am_bad))) else (bif Nat.blt pc 1231 then (bif Nat.blt pc 1230 then (bif Nat.beq pc 1227 then (1230, 40, 96, 2, 8, 0, []) else am_bad) else (bif Nat.beq pc 1230 then (1231, 28, 0, 0, 0, 0, []) else am_bad)) else (bif Nat.blt pc 1232 then (bif Nat.beq pc 1231 then (1232, 6, 2, 0, 0, 0, []) else am_bad) else (bif Nat.blt pc 1233 then (bif Nat.beq pc 1232 then (1233, 6, 0, 0, 0, 0, []) else am_bad) else (bif Nat.beq pc 1233 then (1234, 2, 3, 0, 0, 0, []) else am_bad)))))) else (bif Nat.blt pc 1247 then (bif Nat.blt pc 1240 then (bif Nat.blt pc 1236 then (bif Nat.blt pc 1235 then (bif Nat.beq pc 1234 then (1235, 0, 0, 0, 0, 1, []) else am_bad) else (bif Nat.beq pc 1235 then (1236, 13, 0, 0, 0, 0, []) else am_bad)) else (bif Nat.blt pc 1237 then (bif Nat.beq pc 1236 then (1237, 9, 0, 0, 0, 0, []) else am_bad) else (bif Nat.beq pc 1237 then (1240, 40, 221, 2, 9, 0, []) else am_bad))) else (bif Nat.blt pc 1244 then (bif Nat.blt pc 1241 then (bif Nat.beq pc 1240 then (1241, 28, 0, 0, 0, 0, []) else am_bad) else (bif Nat.beq pc 1241 then (0, 25, 1662, 0, 0, 0, []) else am_bad)) else (bif Nat.blt pc 1245 then (bif Nat.beq pc 1244 then (1245, 6, 1, 0, 0, 0, []) else am_bad) else (bif Nat.blt pc 1246 then (bif Nat.beq pc 1245 then (1246, 6, 0, 0, 0, 0, []) else am_bad) else (bif Nat.beq pc 1246 then (1247, 2, 3, 0, 0, 0, []) else am_bad))))) else (bif Nat.blt pc 1251 then (bif Nat.blt pc 1249 then (bif Nat.blt pc 1248 then (bif Nat.beq pc 1247 then (1248, 0, 0, 0, 0, 1, []) else am_bad) else (bif Nat.beq pc 1248 then (1249, 13, 0, 0, 0, 0, []) else am_bad)) else (bif Nat.blt pc 1250 then (bif Nat.beq pc 1249 then (1250, 9, 0, 0, 0, 0, []) else am_bad) else (bif Nat.beq pc 1250 then (1251, 6, 0, 0, 0, 0, []) else am_bad))) else (bif Nat.blt pc 1253 then (bif Nat.blt pc 1252 then (bif Nat.beq pc 1251 then (1252, 2, 3, 0, 0, 0, []) else am_bad) else (bif Nat.beq pc 1252 then (1253, 0, 0, 0, 0, 2, []) else am_bad)) else (bif Nat.blt pc 1254 then (bif Nat.beq pc 1253 then (1254, 13, 0, 0, 0, 0, []) else am_bad) else (bif Nat.blt pc 1255 then (bif Nat.beq pc 1254 then (1255, 9, 0, 0, 0, 0, []) else am_bad) else (bif Nat.beq pc 1255 then (1258, 40, 97, 3, 8, 0, []) else am_bad))))))) else (bif Nat.blt pc 1281 then (bif Nat.blt pc 1266 then (bif Nat.blt pc 1262 then (bif Nat.blt pc 1260 then (bif Nat.blt pc 1259 then (bif Nat.beq pc 1258 then (1259, 29, 0, 0, 0, 0, []) else am_bad) else (bif Nat.beq pc 1259 then (1260, 6, 2, 0, 0, 0, []) else am_bad)) else (bif Nat.blt pc 1261 then (bif Nat.beq pc 1260 then (1261, 6, 0, 0, 0, 0, []) else am_bad) else (bif Nat.beq pc 1261 then (1262, 2, 3, 0, 0, 0, []) else am_bad))) else (bif Nat.blt pc 1264 then (bif Nat.blt pc 1263 then (bif Nat.beq pc 1262 then (1263, 0, 0, 0, 0, 1, []) else am_bad) else (bif Nat.beq pc 1263 then (1264, 13, 0, 0, 0, 0, []) else am_bad)) else (bif Nat.blt pc 1265 then (bif Nat.beq pc 1264 then (1265, 9, 0, 0, 0, 0, []) else am_bad) else (bif Nat.beq pc 1265 then (1266, 6, 0, 0, 0, 0, []) else am_bad)))) else (bif Nat.blt pc 1270 then (bif Nat.blt pc 1268 then (bif Nat.blt pc 1267 then (bif Nat.beq pc 1266 then (1267, 2, 3, 0, 0, 0, []) else am_bad) else (bif Nat.beq pc 1267 then (1268, 0, 0, 0, 0, 2, []) else am_bad)) else (bif Nat.blt pc 1269 then (bif Nat.beq pc 1268 then (1269, 13, 0, 0, 0, 0, []) else am_bad) else (bif Nat.beq pc 1269 then (1270, 9, 0, 0, 0, 0, []) else am_bad))) else (bif Nat.blt pc 1274 then (bif Nat.blt pc 1273 then (bif Nat.beq pc 1270 then (1273, 40, 223, 3, 9, 0, []) else am_bad) else (bif Nat.beq pc 1273 then (1274, 29, 0, 0, 0, 0, []) else am_bad)) else (bif Nat.blt pc 1277 then (bif Nat.beq pc 1274 then (0, 25, 1662, 0, 0, 0, []) else am_bad) else (bif Nat.blt pc 1278 then (bif Nat.beq pc 1277 then (1278, 6, 1, 0, 0, 0, []) else am_bad) else (bif Nat.beq pc 1278 then (1281, 40, 98, 1, 8, 0, []) else am_bad)))))) else (bif Nat.blt pc 1294 then (bif Nat.blt pc 1287 then (bif Nat.blt pc 1283 then (bif Nat.blt pc 1282 then (bif Nat.beq pc 1281 then (1282, 28, 0, 0, 0, 0, []) else am_bad) else (bif Nat.beq pc 1282 then (1283, 6, 2, 0, 0, 0, []) else am_bad)) else (bif Nat.blt pc 1286 then (bif Nat.beq pc 1283 then (1286, 40, 224, 1, 9, 0, []) else am_bad) else (bif Nat.beq pc 1286 then (1287, 28, 0, 0, 0, 0, []) else am_bad))) else (bif Nat.blt pc 1291 then (bif Nat.blt pc 1290 then (bif Nat.beq pc 1287 then (0, 25, 1662, 0, 0, 0, []) else am_bad) else (bif Nat.beq pc 1290 then (1291, 6, 1, 0, 0, 0, []) else am_bad)) else (bif Nat.blt pc 1292 then (bif Nat.beq pc 1291 then (1292, 6, 0, 0, 0, 0, []) else am_bad) else (bif Nat.blt pc 1293 then (bif Nat.beq pc 1292 then (1293, 2, 3, 0, 0, 0, []) else am_bad) else (bif Nat.beq pc 1293 then (1294, 0, 0, 0, 0, 1, []) else am_bad))))) else (bif Nat.blt pc 1298 then (bif Nat.blt pc 1296 then (bif Nat.blt pc 1295 then (bif Nat.beq pc 1294 then (1295, 13, 0, 0, 0, 0, []) else am_bad) else (bif Nat.beq pc 1295 then (1296, 9, 0, 0, 0, 0, []) else am_bad)) else (bif Nat.blt pc 1297 then (bif Nat.beq pc 1296 then (1297, 6, 0, 0, 0, 0, []) else am_bad) else (bif Nat.beq pc 1297 then (1298, 2, 3, 0, 0, 0, []) else am_bad))) else (bif Nat.blt pc 1300 then (bif Nat.blt pc 1299 then (bif Nat.beq pc 1298 then (1299, 0, 0, 0, 0, 2, []) else am_bad) else (bif Nat.beq pc 1299 then (1300, 13, 0, 0, 0, 0, []) else am_bad)) else (bif Nat.blt pc 1301 then (bif Nat.beq pc 1300 then (1301, 9, 0, 0, 0, 0, []) else am_bad) else (bif Nat.blt pc 1304 then (bif Nat.beq pc 1301 then (1304, 40, 99, 3, 8, 0, []) else am_bad) else (bif Nat.beq pc 1304 then (1305, 28, 0, 0, 0, 0, []) else am_bad)))))))))) else (bif Nat.blt pc 1480 then (bif Nat.blt pc 1390 then (bif Nat.blt pc 1343 then (bif Nat.blt pc 1326 then (bif Nat.blt pc 1313 then (bif Nat.blt pc 1309 then (bif Nat.blt pc 1307 then (bif Nat.blt pc 1306 then (bif Nat.beq pc 1305 then (1306, 6, 2, 0, 0, 0, []) else am_bad) else (bif Nat.beq pc 1306 then (1307, 6, 0, 0, 0, 0, []) else am_bad)) else (bif Nat.blt pc 1308 then (bif Nat.beq pc 1307 then (1308, 2, 3, 0, 0, 0, []) else am_bad) else (bif Nat.beq pc 1308 then (1309, 0, 0, 0, 0, 1, []) else am_bad))) else (bif Nat.blt pc 1311 then (bif Nat.blt pc 1310 then (bif Nat.beq pc 1309 then (1310, 13, 0, 0, 0, 0, []) else am_bad) else (bif Nat.beq pc 1310 then (1311, 9, 0, 0, 0, 0, []) else am_bad)) else (bif Nat.blt pc 1312 then (bif Nat.beq pc 1311 then (1312, 6, 0, 0, 0, 0, []) else am_bad) else (bif Nat.beq pc 1312 then (1313, 2, 3, 0, 0, 0, []) else am_bad)))) else (bif Nat.blt pc 1319 then (bif Nat.blt pc 1315 then (bif Nat.blt pc 1314 then (bif Nat.beq pc 1313 then (1314, 0, 0, 0, 0, 2, []) else am_bad) else (bif Nat.beq pc 1314 then (1315, 13, 0, 0, 0, 0, []) else am_bad)) else (bif Nat.blt pc 1316 then (bif Nat.beq pc 1315 then (1316, 9, 0, 0, 0, 0, []) else am_bad) else (bif Nat.beq pc 1316 then (1319, 40, 226, 3, 9, 0, []) else am_bad))) else (bif Nat.blt pc 1323 then (bif Nat.blt pc 1320 then (bif Nat.beq pc 1319 then (1320, 28, 0, 0, 0, 0, []) else am_bad) else (bif Nat.beq pc 1320 then (0, 25, 1662, 0, 0, 0, []) else am_bad)) else (bif Nat.blt pc 1324 then (bif Nat.beq pc 1323 then (1324, 6, 1, 0, 0, 0, []) else am_bad) else (bif Nat.blt pc 1325 then (bif Nat.beq pc 1324 then (1325, 6, 0, 0, 0, 0, []) else am_bad) else (bif Nat.beq pc 1325 then (1326, 2, 3, 0, 0, 0, []) else am_bad)))))) else (bif Nat.blt pc 1334 then (bif Nat.blt pc 1330 then (bif Nat.blt pc 1328 then (bif Nat.blt pc 1327 then (bif Nat.beq pc 1326 then (1327, 0, 0, 0, 0, 1, []) else am_bad) else (bif Nat.beq pc 1327 then (1328, 13, 0, 0, 0, 0, []) else am_bad)) else (bif Nat.blt pc 1329 then (bif Nat.beq pc 1328 then (1329, 9, 0, 0, 0, 0, []) else am_bad) else (bif Nat.beq pc 1329 then (1330, 6, 0, 0, 0, 0, []) else am_bad))) else (bif Nat.blt pc 1332 then (bif Nat.blt pc 1331 then (bif Nat.beq pc 1330 then (1331, 2, 3, 0, 0, 0, []) else am_bad) else (bif Nat.beq pc 1331 then (1332, 0, 0, 0, 0, 2, []) else am_bad)) else (bif Nat.blt pc 1333 then (bif Nat.beq pc 1332 then (1333, 13, 0, 0, 0, 0, []) else am_bad) else (bif Nat.beq pc 1333 then (1334, 9, 0, 0, 0, 0, []) else am_bad)))) else (bif Nat.blt pc 1338 then (bif Nat.blt pc 1336 then (bif Nat.blt pc 1335 then (bif Nat.beq pc 1334 then (1335, 6, 0, 0, 0, 0, []) else am_bad) else (bif Nat.beq pc 1335 then (1336, 2, 3, 0, 0, 0, []) else am_bad)) else (bif Nat.blt pc 1337 then (bif Nat.beq pc 1336 then (1337, 0, 0, 0, 0, 3, []) else am_bad) else (bif Nat.beq pc 1337 then (1338, 13, 0, 0, 0, 0, []) else am_bad))) else (bif Nat.blt pc 1340 then (bif Nat.blt pc 1339 then (bif Nat.beq pc 1338 then (1339, 9, 0, 0, 0, 0, []) else am_bad) else (bif Nat.beq pc 1339 then (1340, 6, 0, 0, 0, 0, []) else am_bad)) else (bif Nat.blt pc 1341 then (bif Nat.beq pc 1340 then (1341, 2, 3, 0, 0, 0, []) else am_bad) else (bif Nat.blt pc 1342 then (bif Nat.beq pc 1341 then (1342, 0, 0, 0, 0, 4, []) else am_bad) else (bif Nat.beq pc 1342 then (1343, 13, 0, 0, 0, 0, []) else am_bad))))))) else (bif Nat.blt pc 1362 then (bif Nat.blt pc 1353 then (bif Nat.blt pc 1349 then (bif Nat.blt pc 1347 then (bif Nat.blt pc 1344 then (bif Nat.beq pc 1343 then (1344, 9, 0, 0, 0, 0, []) else am_bad) else (bif Nat.beq pc 1344 then (1347, 40, 100, 5, 8, 0, []) else am_bad)) else (bif Nat.blt pc 1348 then (bif Nat.beq pc 1347 then (1348, 28, 0, 0, 0, 0, []) else am_bad) else (bif Nat.beq pc 1348 then (1349, 6, 2, 0, 0, 0, []) else am_bad))) else (bif Nat.blt pc 1351 then (bif Nat.blt pc 1350 then (bif Nat.beq pc 1349 then (1350, 6, 0, 0, 0, 0, []) else am_bad) else (bif Nat.beq pc 1350 then (1351, 2, 3, 0, 0, 0, []) else am_bad)) else (bif Nat.blt pc 1352 then (bif Nat.beq pc 1351 then (1352, 0, 0, 0, 0, 1, []) else am_bad) else (bif Nat.beq pc 1352 then (1353, 13, 0, 0, 0, 0, []) else am_bad)))) else (bif Nat.blt pc 1357 then (bif Nat.blt pc 1355 then (bif Nat.blt pc 1354 then (bif Nat.beq pc 1353 then (1354, 9, 0, 0, 0, 0, []) else am_bad) else (bif Nat.beq pc 1354 then (1355, 6, 0, 0, 0, 0, []) else am_bad)) else (bif Nat.blt pc 1356 then (bif Nat.beq pc 1355 then (1356, 2, 3, 0, 0, 0, []) else am_bad) else (bif Nat.beq pc 1356 then (1357, 0, 0, 0, 0, 2, []) else am_bad))) else (bif Nat.blt pc 1359 then (bif Nat.blt pc 1358 then (bif Nat.beq pc 1357 then (1358, 13, 0, 0, 0, 0, []) else am_bad) else (bif Nat.beq pc 1358 then (1359, 9, 0, 0, 0, 0, []) else am_bad)) else (bif Nat.blt pc 1360 then (bif Nat.beq pc 1359 then (1360, 6, 0, 0, 0, 0, []) else am_bad) else (bif Nat.blt pc 1361 then (bif Nat.beq pc 1360 then (1361, 2, 3, 0, 0, 0, []) else am_bad) else (bif Nat.beq pc 1361 then (1362, 0, 0, 0, 0, 3, []) else am_bad)))))) else (bif Nat.blt pc 1373 then (bif Nat.blt pc 1366 then (bif Nat.blt pc 1364 then (bif Nat.blt pc 1363 then (bif Nat.beq pc 1362 then (1363, 13, 0, 0, 0, 0, []) else am_bad) else (bif Nat.beq pc 1363 then (1364, 9, 0, 0, 0, 0, []) else am_bad)) else (bif Nat.blt pc 1365 then (bif Nat.beq pc 1364 then (1365, 6, 0, 0, 0, 0, []) else am_bad) else (bif Nat.beq pc 1365 then (1366, 2, 3, 0, 0, 0, []) else am_bad))) else (bif Nat.blt pc 1368 then (bif Nat.blt pc 1367 then (bif Nat.beq pc 1366 then (1367, 0, 0, 0, 0, 4, []) else am_bad) else (bif Nat.beq pc 1367 then (1368, 13, 0, 0, 0, 0, []) else am_bad)) else (bif Nat.blt pc 1369 then (bif Nat.beq pc 1368 then (1369, 9, 0, 0, 0, 0, []) else am_bad) else (bif Nat.blt pc 1372 then (bif Nat.beq pc 1369 then (1372, 40, 228, 5, 9, 0, []) else am_bad) else (bif Nat.beq pc 1372 then (1373, 28, 0, 0, 0, 0, []) else am_bad))))) else (bif Nat.blt pc 1381 then (bif Nat.blt pc 1377 then (bif Nat.blt pc 1376 then (bif Nat.beq pc 1373 then (0, 25, 1662, 0, 0, 0, []) else am_bad) else (bif Nat.beq pc 1376 then (1377, 6, 1, 0, 0, 0, []) else am_bad)) else (bif Nat.blt pc 1380 then (bif Nat.beq pc 1377 then (1380, 40, 101, 1, 8, 0, []) else am_bad) else (bif Nat.beq pc 1380 then (1381, 28, 0, 0, 0, 0, []) else am_bad))) else (bif Nat.blt pc 1385 then (bif Nat.blt pc 1382 then (bif Nat.beq pc 1381 then (1382, 6, 2, 0, 0, 0, []) else am_bad) else (bif Nat.beq pc 1382 then (1385, 40, 231, 1, 9, 0, []) else am_bad)) else (bif Nat.blt pc 1386 then (bif Nat.beq pc 1385 then (1386, 28, 0, 0, 0, 0, []) else am_bad) else (bif Nat.blt pc 1389 then (bif Nat.beq pc 1386 then (0, 25, 1662, 0, 0, 0, []) else am_bad) else (bif Nat.beq pc 1389 then (1390, 6, 1, 0, 0, 0, []) else am_bad)))))))) else (bif Nat.blt pc 1433 then (bif Nat.blt pc 1413 then (bif Nat.blt pc 1400 then (bif Nat.blt pc 1394 then (bif Nat.blt pc 1392 then (bif Nat.blt pc 1391 then (bif Nat.beq pc 1390 then (1391, 6, 0, 0, 0, 0, []) else am_bad) else (bif Nat.beq pc 1391 then (1392, 2, 3, 0, 0, 0, []) else am_bad)) else (bif Nat.blt pc 1393 then (bif Nat.beq pc 1392 then (1393, 0, 0, 0, 0, 1, []) else am_bad) else (bif Nat.beq pc 1393 then (1394, 13, 0, 0, 0, 0, []) else am_bad))) else (bif Nat.blt pc 1398 then (bif Nat.blt pc 1395 then (bif Nat.beq pc 1394 then (1395, 9, 0, 0, 0, 0, []) else am_bad) else (bif Nat.beq pc 1395 then (1398, 40, 102, 2, 8, 0, []) else am_bad)) else (bif Nat.blt pc 1399 then (bif Nat.beq pc 1398 then (1399, 29, 0, 0, 0, 0, []) else am_bad) else (bif Nat.beq pc 1399 then (1400, 6, 2, 0, 0, 0, []) else am_bad)))) else (bif Nat.blt pc 1404 then (bif Nat.blt pc 1402 then (bif Nat.blt pc 1401 then (bif Nat.beq pc 1400 then (1401, 6, 0, 0, 0, 0, []) else am_bad) else (bif Nat.beq pc 1401 then (1402, 2, 3, 0, 0, 0, []) else am_bad)) else (bif Nat.blt pc 1403 then (bif Nat.beq pc 1402 then (1403, 0, 0, 0, 0, 1, []) else am_bad) else (bif Nat.beq pc 1403 then (1404, 13, 0, 0, 0, 0, []) else am_bad))) else (bif Nat.blt pc 1408 then (bif Nat.blt pc 1405 then (bif Nat.beq pc 1404 then (1405, 9, 0, 0, 0, 0, []) else am_bad) else (bif Nat.beq pc 1405 then (1408, 40, 232, 2, 9, 0, []) else am_bad)) else (bif Nat.blt pc 1409 then (bif Nat.beq pc 1408 then (1409, 29, 0, 0, 0, 0, []) else am_bad) else (bif Nat.blt pc 1412 then (bif Nat.beq pc 1409 then (0, 25, 1662, 0, 0, 0, []) else am_bad) else (bif Nat.beq pc 1412 then (1413, 6, 1, 0, 0, 0, []) else am_bad)))))) else (bif Nat.blt pc 1422 then (bif Nat.blt pc 1417 then (bif Nat.blt pc 1415 then (bif Nat.blt pc 1414 then (bif Nat.beq pc 1413 then (1414, 6, 0, 0, 0, 0, []) else am_bad) else (bif Nat.beq pc 1414 then (1415, 2, 3, 0, 0, 0, []) else am_bad)) else (bif Nat.blt pc 1416 then (bif Nat.beq pc 1415 then (1416, 0, 0, 0, 0, 1, []) else am_bad) else (bif Nat.beq pc 1416 then (1417, 13, 0, 0, 0, 0, []) else am_bad))) else (bif Nat.blt pc 1419 then (bif Nat.blt pc 1418 then (bif Nat.beq pc 1417 then (1418, 9, 0, 0, 0, 0, []) else am_bad) else (bif Nat.beq pc 1418 then (1419, 6, 0, 0, 0, 0, []) else am_bad)) else (bif Nat.blt pc 1420 then (bif Nat.beq pc 1419 then (1420, 2, 3, 0, 0, 0, []) else am_bad) else (bif Nat.blt pc 1421 then (bif Nat.beq pc 1420 then (1421, 0, 0, 0, 0, 2, []) else am_bad) else (bif Nat.beq pc 1421 then (1422, 13, 0, 0, 0, 0, []) else am_bad))))) else (bif Nat.blt pc 1428 then (bif Nat.blt pc 1426 then (bif Nat.blt pc 1423 then (bif Nat.beq pc 1422 then (1423, 9, 0, 0, 0, 0, []) else am_bad) else (bif Nat.beq pc 1423 then (1426, 40, 103, 3, 8, 0, []) else am_bad)) else (bif Nat.blt pc 1427 then (bif Nat.beq pc 1426 then (1427, 6, 2, 0, 0, 0, []) else am_bad) else (bif Nat.beq pc 1427 then (1428, 6, 0, 0, 0, 0, []) else am_bad))) else (bif Nat.blt pc 1430 then (bif Nat.blt pc 1429 then (bif Nat.beq pc 1428 then (1429, 2, 3, 0, 0, 0, []) else am_bad) else (bif Nat.beq pc 1429 then (1430, 0, 0, 0, 0, 1, []) else am_bad)) else (bif Nat.blt pc 1431 then (bif Nat.beq pc 1430 then (1431, 13, 0, 0, 0, 0, []) else am_bad) else (bif Nat.blt pc 1432 then (bif Nat.beq pc 1431 then (1432, 9, 0, 0, 0, 0, []) else am_bad) else (bif Nat.beq pc 1432 then (1433, 6, 0, 0, 0, 0, []) else am_bad))))))) else (bif Nat.blt pc 1460 then (bif Nat.blt pc 1445 then (bif Nat.blt pc 1437 then (bif Nat.blt pc 1435 then (bif Nat.blt pc 1434 then (bif Nat.beq pc 1433 then (1434, 2, 3, 0, 0, 0, []) else am_bad) else (bif Nat.beq pc 1434 then (1435, 0, 0, 0, 0, 2, []) else am_bad)) else (bif Nat.blt pc 1436 then (bif Nat.beq pc 1435 then (1436, 13, 0, 0, 0, 0, []) else am_bad) else (bif Nat.beq pc 1436 then (1437, 9, 0, 0, 0, 0, []) else am_bad))) else (bif Nat.blt pc 1443 then (bif Nat.blt pc 1440 then (bif Nat.beq pc 1437 then (1440, 40, 233, 3, 9, 0, []) else am_bad) else (bif Nat.beq pc 1440 then (1443, 27, 1662, 0, 0, 0, []) else am_bad)) else (bif Nat.blt pc 1444 then (bif Nat.beq pc 1443 then (1444, 0, 0, 0, 0, 0, []) else am_bad) else (bif Nat.beq pc 1444 then (0, 43, 0, 0, 1, 0, []) else am_bad)))) else (bif Nat.blt pc 1451 then (bif Nat.blt pc 1449 then (bif Nat.blt pc 1446 then (bif Nat.beq pc 1445 then (1446, 6, 1, 0, 0, 0, []) else am_bad) else (bif Nat.beq pc 1446 then (1449, 40, 104, 1, 8, 0, []) else am_bad)) else (bif Nat.blt pc 1450 then (bif Nat.beq pc 1449 then (1450, 28, 0, 0, 0, 0, []) else am_bad) else (bif Nat.beq pc 1450 then (1451, 6, 2, 0, 0, 0, []) else am_bad))) else (bif Nat.blt pc 1455 then (bif Nat.blt pc 1454 then (bif Nat.beq pc 1451 then (1454, 40, 234, 1, 9, 0, []) else am_bad) else (bif Nat.beq pc 1454 then (1455, 28, 0, 0, 0, 0, []) else am_bad)) else (bif Nat.blt pc 1458 then (bif Nat.beq pc 1455 then (0, 25, 1662, 0, 0, 0, []) else am_bad) else (bif Nat.blt pc 1459 then (bif Nat.beq pc 1458 then (1459, 6, 1, 0, 0, 0, []) else am_bad) else (bif Nat.beq pc 1459 then (1460, 6, 0, 0, 0, 0, []) else am_bad)))))) else (bif Nat.blt pc 1469 then (bif Nat.blt pc 1464 then (bif Nat.blt pc 1462 then (bif Nat.blt pc 1461 then (bif Nat.beq pc 1460 then (1461, 2, 3, 0, 0, 0, []) else am_bad) else (bif Nat.beq pc 1461 then (1462, 0, 0, 0, 0, 1, []) else am_bad)) else (bif Nat.blt pc 1463 then (bif Nat.beq pc 1462 then (1463, 13, 0, 0, 0, 0, []) else am_bad) else (bif Nat.beq pc 1463 then (1464, 9, 0, 0, 0, 0, []) else am_bad))) else (bif Nat.blt pc 1466 then (bif Nat.blt pc 1465 then (bif Nat.beq pc 1464 then (1465, 6, 0, 0, 0, 0, []) else am_bad) else (bif Nat.beq pc 1465 then (1466, 2, 3, 0, 0, 0, []) else am_bad)) else (bif Nat.blt pc 1467 then (bif Nat.beq pc 1466 then (1467, 0, 0, 0, 0, 2, []) else am_bad) else (bif Nat.blt pc 1468 then (bif Nat.beq pc 1467 then (1468, 13, 0, 0, 0, 0, []) else am_bad) else (bif Nat.beq pc 1468 then (1469, 9, 0, 0, 0, 0, []) else am_bad))))) else (bif Nat.blt pc 1475 then (bif Nat.blt pc 1473 then (bif Nat.blt pc 1472 then (bif Nat.beq pc 1469 then (1472, 40, 105, 3, 8, 0, []) else am_bad) else (bif Nat.beq pc 1472 then (1473, 28, 0, 0, 0, 0, []) else am_bad)) else (bif Nat.blt pc 1474 then (bif Nat.beq pc 1473 then (1474, 6, 2, 0, 0, 0, []) else am_bad) else (bif Nat.beq pc 1474 then (1475, 6, 0, 0, 0, 0, []) else am_bad))) else (bif Nat.blt pc 1477 then (bif Nat.blt pc 1476 then (bif Nat.beq pc 1475 then (1476, 2, 3, 0, 0, 0, []) else am_bad) else (bif Nat.beq pc 1476 then (1477, 0, 0, 0, 0, 1, []) else am_bad)) else (bif Nat.blt pc 1478 then (bif Nat.beq pc 1477 then (1478, 13, 0, 0, 0, 0, []) else am_bad) else (bif Nat.blt pc 1479 then (bif Nat.beq pc 1478 then (1479, 9, 0, 0, 0, 0, []) else am_bad) else (bif Nat.beq pc 1479 then (1480, 6, 0, 0, 0, 0, []) else am_bad))))))))) else (bif Nat.blt pc 1564 then (bif Nat.blt pc 1521 then (bif Nat.blt pc 1501 then (bif Nat.blt pc 1492 then (bif Nat.blt pc 1484 then (bif Nat.blt pc 1482 then (bif Nat.blt pc 1481 then (bif Nat.beq pc 1480 then (1481, 2, 3, 0, 0, 0, []) else am_bad) else (bif Nat.beq pc 1481 then (1482, 0, 0, 0, 0, 2, []) else am_bad)) else (bif Nat.blt pc 1483 then (bif Nat.beq pc 1482 then (1483, 13, 0, 0, 0, 0, []) else am_bad) else (bif Nat.beq pc 1483 then (1484, 9, 0, 0, 0, 0, []) else am_bad))) else (bif Nat.blt pc 1488 then (bif Nat.blt pc 1487 then (bif Nat.beq pc 1484 then (1487, 40, 238, 3, 9, 0, []) else am_bad) else (bif Nat.beq pc 1487 then (1488, 28, 0, 0, 0, 0, []) else am_bad)) else (bif Nat.blt pc 1491 then (bif Nat.beq pc 1488 then (0, 25, 1662, 0, 0, 0, []) else am_bad) else (bif Nat.beq pc 1491 then (1492, 6, 1, 0, 0, 0, []) else am_bad)))) else (bif Nat.blt pc 1496 then (bif Nat.blt pc 1494 then (bif Nat.blt pc 1493 then (bif Nat.beq pc 1492 then (1493, 6, 0, 0, 0, 0, []) else am_bad) else (bif Nat.beq pc 1493 then (1494, 2, 3, 0, 0, 0, []) else am_bad)) else (bif Nat.blt pc 1495 then (bif Nat.beq pc 1494 then (1495, 0, 0, 0, 0, 1, []) else am_bad) else (bif Nat.beq pc 1495 then (1496, 13, 0, 0, 0, 0, []) else am_bad))) else (bif Nat.blt pc 1498 then (bif Nat.blt pc 1497 then (bif Nat.beq pc 1496 then (1497, 9, 0, 0, 0, 0, []) else am_bad) else (bif Nat.beq pc 1497 then (1498, 6, 0, 0, 0, 0, []) else am_bad)) else (bif Nat.blt pc 1499 then (bif Nat.beq pc 1498 then (1499, 2, 3, 0, 0, 0, []) else am_bad) else (bif Nat.blt pc 1500 then (bif Nat.beq pc 1499 then (1500, 0, 0, 0, 0, 2, []) else am_bad) else (bif Nat.beq pc 1500 then (1501, 13, 0, 0, 0, 0, []) else am_bad)))))) else (bif Nat.blt pc 1510 then (bif Nat.blt pc 1505 then (bif Nat.blt pc 1503 then (bif Nat.blt pc 1502 then (bif Nat.beq pc 1501 then (1502, 9, 0, 0, 0, 0, []) else am_bad) else (bif Nat.beq pc 1502 then (1503, 6, 0, 0, 0, 0, []) else am_bad)) else (bif Nat.blt pc 1504 then (bif Nat.beq pc 1503 then (1504, 2, 3, 0, 0, 0, []) else am_bad) else (bif Nat.beq pc 1504 then (1505, 0, 0, 0, 0, 3, []) else am_bad))) else (bif Nat.blt pc 1507 then (bif Nat.blt pc 1506 then (bif Nat.beq pc 1505 then (1506, 13, 0, 0, 0, 0, []) else am_bad) else (bif Nat.beq pc 1506 then (1507, 9, 0, 0, 0, 0, []) else am_bad)) else (bif Nat.blt pc 1508 then (bif Nat.beq pc 1507 then (1508, 6, 0, 0, 0, 0, []) else am_bad) else (bif Nat.blt pc 1509 then (bif Nat.beq pc 1508 then (1509, 2, 3, 0, 0, 0, []) else am_bad) else (bif Nat.beq pc 1509 then (1510, 0, 0, 0, 0, 4, []) else am_bad))))) else (bif Nat.blt pc 1516 then (bif Nat.blt pc 1512 then (bif Nat.blt pc 1511 then (bif Nat.beq pc 1510 then (1511, 13, 0, 0, 0, 0, []) else am_bad) else (bif Nat.beq pc 1511 then (1512, 9, 0, 0, 0, 0, []) else am_bad)) else (bif Nat.blt pc 1515 then (bif Nat.beq pc 1512 then (1515, 40, 106, 5, 8, 0, []) else am_bad) else (bif Nat.beq pc 1515 then (1516, 28, 0, 0, 0, 0, []) else am_bad))) else (bif Nat.blt pc 1518 then (bif Nat.blt pc 1517 then (bif Nat.beq pc 1516 then (1517, 6, 2, 0, 0, 0, []) else am_bad) else (bif Nat.beq pc 1517 then (1518, 6, 0, 0, 0, 0, []) else am_bad)) else (bif Nat.blt pc 1519 then (bif Nat.beq pc 1518 then (1519, 2, 3, 0, 0, 0, []) else am_bad) else (bif Nat.blt pc 1520 then (bif Nat.beq pc 1519 then (1520, 0, 0, 0, 0, 1, []) else am_bad) else (bif Nat.beq pc 1520 then (1521, 13, 0, 0, 0, 0, []) else am_bad))))))) else (bif Nat.blt pc 1540 then (bif Nat.blt pc 1529 then (bif Nat.blt pc 1525 then (bif Nat.blt pc 1523 then (bif Nat.blt pc 1522 then (bif Nat.beq pc 1521 then (1522, 9, 0, 0, 0, 0, []) else am_bad) else (bif Nat.beq pc 1522 then (1523, 6, 0, 0, 0, 0, []) else am_bad)) else (bif Nat.blt pc 1524 then (bif Nat.beq pc 1523 then (1524, 2, 3, 0, 0, 0, []) else am_bad) else (bif Nat.beq pc 1524 then (1525, 0, 0, 0, 0, 2, []) else am_bad))) else (bif Nat.blt pc 1527 then (bif Nat.blt pc 1526 then (bif Nat.beq pc 1525 then (1526, 13, 0, 0, 0, 0, []) else am_bad) else (bif Nat.beq pc 1526 then (1527, 9, 0, 0, 0, 0, []) else am_bad)) else (bif Nat.blt pc 1528 then (bif Nat.beq pc 1527 then (1528, 6, 0, 0, 0, 0, []) else am_bad) else (bif Nat.beq pc 1528 then (1529, 2, 3, 0, 0, 0, []) else am_bad)))) else (bif Nat.blt pc 1533 then (bif Nat.blt pc 1531 then (bif Nat.blt pc 1530 then (bif Nat.beq pc 1529 then (1530, 0, 0, 0, 0, 3, []) else am_bad) else (bif Nat.beq pc 1530 then (1531, 13, 0, 0, 0, 0, []) else am_bad)) else (bif Nat.blt pc 1532 then (bif Nat.beq pc 1531 then (1532, 9, 0, 0, 0, 0, []) else am_bad) else (bif Nat.beq pc 1532 then (1533, 6, 0, 0, 0, 0, []) else am_bad))) else (bif Nat.blt pc 1535 then (bif Nat.blt pc 1534 then (bif Nat.beq pc 1533 then (1534, 2, 3, 0, 0, 0, []) else am_bad) else (bif Nat.beq pc 1534 then (1535, 0, 0, 0, 0, 4, []) else am_bad)) else (bif Nat.blt pc 1536 then (bif Nat.beq pc 1535 then (1536, 13, 0, 0, 0, 0, []) else am_bad) else (bif Nat.blt pc 1537 then (bif Nat.beq pc 1536 then (1537, 9, 0, 0, 0, 0, []) else am_bad) else (bif Nat.beq pc 1537 then (1540, 40, 239, 5, 9, 0, []) else am_bad)))))) else (bif Nat.blt pc 1553 then (bif Nat.blt pc 1546 then (bif Nat.blt pc 1544 then (bif Nat.blt pc 1541 then (bif Nat.beq pc 1540 then (1541, 28, 0, 0, 0, 0, []) else am_bad) else (bif Nat.beq pc 1541 then (0, 25, 1662, 0, 0, 0, []) else am_bad)) else (bif Nat.blt pc 1545 then (bif Nat.beq pc 1544 then (1545, 6, 1, 0, 0, 0, []) else am_bad) else (bif Nat.beq pc 1545 then (1546, 6, 0, 0, 0, 0, []) else am_bad))) else (bif Nat.blt pc 1548 then (bif Nat.blt pc 1547 then (bif Nat.beq pc 1546 then (1547, 2, 3, 0, 0, 0, []) else am_bad) else (bif Nat.beq pc 1547 then (1548, 0, 0, 0, 0, 1, []) else am_bad)) else (bif Nat.blt pc 1549 then (bif Nat.beq pc 1548 then (1549, 13, 0, 0, 0, 0, []) else am_bad) else (bif Nat.blt pc 1550 then (bif Nat.beq pc 1549 then (1550, 9, 0, 0, 0, 0, []) else am_bad) else (bif Nat.beq pc 1550 then (1553, 40, 107, 2, 8, 0, []) else am_bad))))) else (bif Nat.blt pc 1557 then (bif Nat.blt pc 1555 then (bif Nat.blt pc 1554 then (bif Nat.beq pc 1553 then (1554, 28, 0, 0, 0, 0, []) else am_bad) else (bif Nat.beq pc 1554 then (1555, 6, 2, 0, 0, 0, []) else am_bad)) else (bif Nat.blt pc 1556 then (bif Nat.beq pc 1555 then (1556, 6, 0, 0, 0, 0, []) else am_bad) else (bif Nat.beq pc 1556 then (1557, 2, 3, 0, 0, 0, []) else am_bad))) else (bif Nat.blt pc 1559 then (bif Nat.blt pc 1558 then (bif Nat.beq pc 1557 then (1558, 0, 0, 0, 0, 1, []) else am_bad) else (bif Nat.beq pc 1558 then (1559, 13, 0, 0, 0, 0, []) else am_bad)) else (bif Nat.blt pc 1560 then (bif Nat.beq pc 1559 then (1560, 9, 0, 0, 0, 0, []) else am_bad) else (bif Nat.blt pc 1563 then (bif Nat.beq pc 1560 then (1563, 40, 240, 2, 9, 0, []) else am_bad) else (bif Nat.beq pc 1563 then (1564, 28, 0, 0, 0, 0, []) else am_bad)))))))) else (bif Nat.blt pc 1613 then (bif Nat.blt pc 1585 then (bif Nat.blt pc 1574 then (bif Nat.blt pc 1570 then (bif Nat.blt pc 1568 then (bif Nat.blt pc 1567 then (bif Nat.beq pc 1564 then (0, 25, 1662, 0, 0, 0, []) else am_bad) else (bif Nat.beq pc 1567 then (1568, 6, 1, 0, 0, 0, []) else am_bad)) else (bif Nat.blt pc 1569 then (bif Nat.beq pc 1568 then (1569, 6, 0, 0, 0, 0, []) else am_bad) else (bif Nat.beq pc 1569 then (1570, 2, 3, 0, 0, 0, []) else am_bad))) else (bif Nat.blt pc 1572 then (bif Nat.blt pc 1571 then (bif Nat.beq pc 1570 then (1571, 0, 0, 0, 0, 1, []) else am_bad) else (bif Nat.beq pc 1571 then (1572, 13, 0, 0, 0, 0, []) else am_bad)) else (bif Nat.blt pc 1573 then (bif Nat.beq pc 1572 then (1573, 9, 0, 0, 0, 0, []) else am_bad) else (bif Nat.beq pc 1573 then (1574, 6, 0, 0, 0, 0, []) else am_bad)))) else (bif Nat.blt pc 1578 then (bif Nat.blt pc 1576 then (bif Nat.blt pc 1575 then (bif Nat.beq pc 1574 then (1575, 2, 3, 0, 0, 0, []) else am_bad) else (bif Nat.beq pc 1575 then (1576, 0, 0, 0, 0, 2, []) else am_bad)) else (bif Nat.blt pc 1577 then (bif Nat.beq pc 1576 then (1577, 13, 0, 0, 0, 0, []) else am_bad) else (bif Nat.beq pc 1577 then (1578, 9, 0, 0, 0, 0, []) else am_bad))) else (bif Nat.blt pc 1582 then (bif Nat.blt pc 1581 then (bif Nat.beq pc 1578 then (1581, 40, 108, 3, 8, 0, []) else am_bad) else (bif Nat.beq pc 1581 then (1582, 28, 0, 0, 0, 0, []) else am_bad)) else (bif Nat.blt pc 1583 then (bif Nat.beq pc 1582 then (1583, 6, 2, 0, 0, 0, []) else am_bad) else (bif Nat.blt pc 1584 then (bif Nat.beq pc 1583 then (1584, 6, 0, 0, 0, 0, []) else am_bad) else (bif Nat.beq pc 1584 then (1585, 2, 3, 0, 0, 0, []) else am_bad)))))) else (bif Nat.blt pc 1596 then (bif Nat.blt pc 1589 then (bif Nat.blt pc 1587 then (bif Nat.blt pc 1586 then (bif Nat.beq pc 1585 then (1586, 0, 0, 0, 0, 1, []) else am_bad) else (bif Nat.beq pc 1586 then (1587, 13, 0, 0, 0, 0, []) else am_bad)) else (bif Nat.blt pc 1588 then (bif Nat.beq pc 1587 then (1588, 9, 0, 0, 0, 0, []) else am_bad) else (bif Nat.beq pc 1588 then (1589, 6, 0, 0, 0, 0, []) else am_bad))) else (bif Nat.blt pc 1591 then (bif Nat.blt pc 1590 then (bif Nat.beq pc 1589 then (1590, 2, 3, 0, 0, 0, []) else am_bad) else (bif Nat.beq pc 1590 then (1591, 0, 0, 0, 0, 2, []) else am_bad)) else (bif Nat.blt pc 1592 then (bif Nat.beq pc 1591 then (1592, 13, 0, 0, 0, 0, []) else am_bad) else (bif Nat.blt pc 1593 then (bif Nat.beq pc 1592 then (1593, 9, 0, 0, 0, 0, []) else am_bad) else (bif Nat.beq pc 1593 then (1596, 40, 243, 3, 9, 0, []) else am_bad))))) else (bif Nat.blt pc 1604 then (bif Nat.blt pc 1600 then (bif Nat.blt pc 1597 then (bif Nat.beq pc 1596 then (1597, 28, 0, 0, 0, 0, []) else am_bad) else (bif Nat.beq pc 1597 then (0, 25, 1662, 0, 0, 0, []) else am_bad)) else (bif Nat.blt pc 1601 then (bif Nat.beq pc 1600 then (1601, 6, 1, 0, 0, 0, []) else am_bad) else (bif Nat.beq pc 1601 then (1604, 40, 109, 1, 8, 0, []) else am_bad))) else (bif Nat.blt pc 1606 then (bif Nat.blt pc 1605 then (bif Nat.beq pc 1604 then (1605, 28, 0, 0, 0, 0, []) else am_bad) else (bif Nat.beq pc 1605 then (1606, 6, 2, 0, 0, 0, []) else am_bad)) else (bif Nat.blt pc 1609 then (bif Nat.beq pc 1606 then (1609, 40, 241, 1, 9, 0, []) else am_bad) else (bif Nat.blt pc 1610 then (bif Nat.beq pc 1609 then (1610, 28, 0, 0, 0, 0, []) else am_bad) else (bif Nat.beq pc 1610 then (0, 25, 1662, 0, 0, 0, []) else am_bad))))))) else (bif Nat.blt pc 1642 then (bif Nat.blt pc 1627 then (bif Nat.blt pc 1619 then (bif Nat.blt pc 1617 then (bif Nat.blt pc 1614 then (bif Nat.beq pc 1613 then (1614, 6, 1, 0, 0, 0, []) else am_bad) else (bif Nat.beq pc 1614 then (1617, 40, 110, 1, 8, 0, []) else am_bad)) else (bif Nat.blt pc 1618 then (bif Nat.beq pc 1617 then (1618, 28, 0, 0, 0, 0, []) else am_bad) else (bif Nat.beq pc 1618 then (1619, 6, 2, 0, 0, 0, []) else am_bad))) else (bif Nat.blt pc 1623 then (bif Nat.blt pc 1622 then (bif Nat.beq pc 1619 then (1622, 40, 160, 1, 9, 0, []) else am_bad) else (bif Nat.beq pc 1622 then (1623, 28, 0, 0, 0, 0, []) else am_bad)) else (bif Nat.blt pc 1626 then (bif Nat.beq pc 1623 then (0, 25, 1662, 0, 0, 0, []) else am_bad) else (bif Nat.beq pc 1626 then (1627, 6, 1, 0, 0, 0, []) else am_bad)))) else (bif Nat.blt pc 1635 then (bif Nat.blt pc 1631 then (bif Nat.blt pc 1630 then (bif Nat.beq pc 1627 then (1630, 40, 111, 1, 8, 0, []) else am_bad) else (bif Nat.beq pc 1630 then (1631, 28, 0, 0, 0, 0, []) else am_bad)) else (bif Nat.blt pc 1632 then (bif Nat.beq pc 1631 then (1632, 6, 2, 0, 0, 0, []) else am_bad) else (bif Nat.beq pc 1632 then (1635, 40, 161, 1, 9, 0, []) else am_bad))) else (bif Nat.blt pc 1639 then (bif Nat.blt pc 1636 then (bif Nat.beq pc 1635 then (1636, 28, 0, 0, 0, 0, []) else am_bad) else (bif Nat.beq pc 1636 then (0, 25, 1662, 0, 0, 0, []) else am_bad)) else (bif Nat.blt pc 1640 then (bif Nat.beq pc 1639 then (1640, 6, 1, 0, 0, 0, []) else am_bad) else (bif Nat.blt pc 1641 then (bif Nat.beq pc 1640 then (1641, 6, 0, 0, 0, 0, []) else am_bad) else (bif Nat.beq pc 1641 then (1642, 2, 3, 0, 0, 0, []) else am_bad)))))) else (bif Nat.blt pc 1653 then (bif Nat.blt pc 1648 then (bif Nat.blt pc 1644 then (bif Nat.blt pc 1643 then (bif Nat.beq pc 1642 then (1643, 0, 0, 0, 0, 1, []) else am_bad) else (bif Nat.beq pc 1643 then (1644, 13, 0, 0, 0, 0, []) else am_bad)) else (bif Nat.blt pc 1645 then (bif Nat.beq pc 1644 then (1645, 9, 0, 0, 0, 0, []) else am_bad) else (bif Nat.beq pc 1645 then (1648, 40, 112, 2, 8, 0, []) else am_bad))) else (bif Nat.blt pc 1650 then (bif Nat.blt pc 1649 then (bif Nat.beq pc 1648 then (1649, 28, 0, 0, 0, 0, []) else am_bad) else (bif Nat.beq pc 1649 then (1650, 6, 2, 0, 0, 0, []) else am_bad)) else (bif Nat.blt pc 1651 then (bif Nat.beq pc 1650 then (1651, 6, 0, 0, 0, 0, []) else am_bad) else (bif Nat.blt pc 1652 then (bif Nat.beq pc 1651 then (1652, 2, 3, 0, 0, 0, []) else am_bad) else (bif Nat.beq pc 1652 then (1653, 0, 0, 0, 0, 1, []) else am_bad))))) else (bif Nat.blt pc 1659 then (bif Nat.blt pc 1655 then (bif Nat.blt pc 1654 then (bif Nat.beq pc 1653 then (1654, 13, 0, 0, 0, 0, []) else am_bad) else (bif Nat.beq pc 1654 then (1655, 9, 0, 0, 0, 0, []) else am_bad)) else (bif Nat.blt pc 1658 then (bif Nat.beq pc 1655 then (1658, 40, 250, 2, 9, 0, []) else am_bad) else (bif Nat.beq pc 1658 then (1659, 28, 0, 0, 0, 0, []) else am_bad))) else (bif Nat.blt pc 1665 then (bif Nat.blt pc 1662 then (bif Nat.beq pc 1659 then (0, 25, 1662, 0, 0, 0, []) else am_bad) else (bif Nat.beq pc 1662 then (1665, 24, 3, 0, 0, 5, []) else am_bad)) else (bif Nat.blt pc 1668 then (bif Nat.beq pc 1665 then (0, 25, 18, 0, 0, 0, []) else am_bad) else (bif Nat.blt pc 1669 then (bif Nat.beq pc 1668 then (1669, 0, 0, 0, 0, 1, []) else am_bad) else (bif Nat.beq pc 1669 then (0, 43, 0, 0, 1, 0, []) else am_bad)))))))))))
noncomputable def am_kL_law : Nat → am_I := fun pc => bif Nat.blt pc 1670 then am_tL_law pc else am_bad
set_option maxRecDepth 20000 in
theorem am_oL_law : am_ok 0 am_kL_law := am_ok_ofF (N := 1670) (cd' := am_tL_law) (by decide +kernel)
/-! the law: what is claimed of a case -/
def lx_Q : Option am_V → am_N → Prop := fun r _ => r = some (.inl 1)
/-- canonical numbers -/
def lx_X (xs : Nat → Int) : Prop := ∀ j, -2147483648 ≤ xs j ∧ xs j ≤ 2147483647
/-- to the end of a case -/
def lx_H (l : Launch) (L : Nat) (xs : Nat → Int) (i : Int) : Prop := ∀ μ : am_N, lx_J μ → am_AW l L xs 0 lx_Q 1662 [some (.inr (.inr 999)), some (.inr (.inr 0)), some (.inr (.inr 83)), some (.inl i)] [] μ
/-! the law: cases -/
theorem lx_c0 {l : Launch} {L : Nat} {xs : Nat → Int} {i : Int} (hX : lx_X xs) (hL : L ≤ 2560) (i0 : 0 ≤ i) (i1 : i ≤ (L : Int) - 5) (hH : lx_H l L xs i) (μ : am_N) (hI : lx_J μ) : am_AW l L xs 0 lx_Q 256 [some (.inr (.inr 999)), some (.inr (.inr 0)), some (.inr (.inr 83)), some (.inl i)] [] μ := by
  have iL : (L : Int) ≤ 2560 := by omega
  have ix : ∀ k : Int, 0 ≤ k → k ≤ 4 → 0 ≤ am_c (i + k) ∧ am_c (i + k) < L := fun k h0 h1 => by rw [am_cR (by omega) (by omega)]; omega
  have cx : ∀ j, am_c (xs j) = xs j := fun j => am_cR (by have := (hX j).1; omega) (by have := (hX j).2; omega)
  have hb := sx_all hI.1.1
  have hc := mi_all hI.1.2.1
  have hR := hI.1.2.2
  have hwM := hR.1.2
  have hwC : fp_fw 999 (fv μ 1) := by rw [hR.1.1]; exact hwM
  have n14 : 0 ≤ μ 1 4 ∧ μ 1 4 ≤ 4 := by omega
  have nM : μ 1 4 = μ 83 14 := (fp_ct_n hR.1.1).1 4 (by decide)
  refine am_go (ct := fun pc => Nat.beq pc 1662) am_oL_law 60 ?_
  conv => whnf
  repeat' first
    | (refine (?_ : am_wp _ _ _ _ _ _ _ _ _ _ _ _); conv => whnf)
    | refine And.intro ⟨rfl, rfl⟩ ?_
    | refine And.intro (ix _ (by decide) (by decide)) ?_
    | refine And.intro trivial ?_
    | refine s_feedF _ (cx _) hI.1.1 (fun a1 a2 μ1 f1 e1 e2 => ?_) (fun r1 μ1 a0 f1 => ?_)
    | (have t21 : μ1 83 21 = μ 83 21 := f1 83 21 (by omega) (by omega); refine n_feedF _ (cx _) (by rw [t21]; omega) (by rw [t21]; omega) (fun b1 b2 μ2 f2 e3 e4 => ?_) (fun r2 μ2 b0 f2 => ?_))
    | (have t21 : μ1 83 21 = μ 83 21 := f1 83 21 (by omega); refine n_feedF _ (cx _) (by rw [t21]; omega) (by rw [t21]; omega) (fun b1 b2 μ2 f2 e3 e4 => ?_) (fun r2 μ2 b0 f2 => ?_))
    | (refine hH _ ?_; first | exact LJ_fr hI (LI_feed hI.1 a1 a2 f1 f2 e1 e2 e3 e4) (fun a b q => (f2 a b (by unfold rq_K at q; omega) (by unfold rq_K at q; omega)).trans (f1 a b (by unfold rq_K at q; omega) (by unfold rq_K at q; omega))) | exact LJ_fr hI (LI_ref hI.1 f1 f2) (fun a b q => (f2 a b (by unfold rq_K at q; omega)).trans (f1 a b (by unfold rq_K at q; omega))) | (exfalso; have h36 := hR.2.1.1; rw [t21] at *; omega))
  all_goals (first | exact LJ_fr hI (LI_feed hI.1 a1 a2 f1 f2 e1 e2 e3 e4) (fun a b q => (f2 a b (by unfold rq_K at q; omega) (by unfold rq_K at q; omega)).trans (f1 a b (by unfold rq_K at q; omega) (by unfold rq_K at q; omega))) | exact LJ_fr hI (LI_ref hI.1 f1 f2) (fun a b q => (f2 a b (by unfold rq_K at q; omega)).trans (f1 a b (by unfold rq_K at q; omega))) | (exfalso; have h36 := hR.2.1.1; rw [t21] at *; omega) | (trace_state; fail))
theorem lx_c1 {l : Launch} {L : Nat} {xs : Nat → Int} {i : Int} (hX : lx_X xs) (hL : L ≤ 2560) (i0 : 0 ≤ i) (i1 : i ≤ (L : Int) - 5) (hH : lx_H l L xs i) (μ : am_N) (hI : lx_J μ) : am_AW l L xs 0 lx_Q 279 [some (.inr (.inr 999)), some (.inr (.inr 0)), some (.inr (.inr 83)), some (.inl i)] [] μ := by
  have iL : (L : Int) ≤ 2560 := by omega
  have ix : ∀ k : Int, 0 ≤ k → k ≤ 4 → 0 ≤ am_c (i + k) ∧ am_c (i + k) < L := fun k h0 h1 => by rw [am_cR (by omega) (by omega)]; omega
  have cx : ∀ j, am_c (xs j) = xs j := fun j => am_cR (by have := (hX j).1; omega) (by have := (hX j).2; omega)
  have hb := sx_all hI.1.1
  have hc := mi_all hI.1.2.1
  have hR := hI.1.2.2
  have hwM := hR.1.2
  have hwC : fp_fw 999 (fv μ 1) := by rw [hR.1.1]; exact hwM
  have n14 : 0 ≤ μ 1 4 ∧ μ 1 4 ≤ 4 := by omega
  have nM : μ 1 4 = μ 83 14 := (fp_ct_n hR.1.1).1 4 (by decide)
  refine am_go (ct := fun pc => Nat.beq pc 1662) am_oL_law 60 ?_
  conv => whnf
  repeat' first
    | (refine (?_ : am_wp _ _ _ _ _ _ _ _ _ _ _ _); conv => whnf)
    | refine And.intro ⟨rfl, rfl⟩ ?_
    | refine And.intro (ix _ (by decide) (by decide)) ?_
    | refine And.intro trivial ?_
    | (refine s_lane hI.1.1 hwC hR.2.1.2.2 (fun r1 μ1 l1 f1 p43 b38 b8 b1 z36 e62 hw1 => ?_))
    | (have t21 : μ1 83 21 = μ 83 21 := f1 83 21 (by omega) (by omega) (by omega) (by omega); have m1 : mv μ1 = mv μ := mv_keep (fun a b q => f1 a b (by omega) (by omega) (by omega) (by omega)); have t94 : ∀ b, μ1 94 b = μ 94 b := (fun b => f1 94 b (by omega) (by omega) (by omega) (by omega)); refine x_mlane (μ1 94) (μ1 83 21) rfl rfl (by rw [t21]; omega) (by rw [t21]; omega) (fun x hx => by rw [t94, ← hR.2.1.2.1]; exact hR.2.1.2.2 x (by rw [t21] at hx; have := hR.2.1.1; omega)) (by rw [m1]; exact hwM) (fun p hp => by rw [f1 100 p (by omega) (by omega) (by omega) (by omega)]; exact mi_or hI.1.2.1 p hp) (fun r2 μ2 l2 f2 p100 z21 e33 => ?_); have hl := LI_lane hI.1 l1 f1 p43 b38 b8 b1 z36 e62 hw1 l2 f2 p100 z21 e33)
    | (refine hH _ ?_; first | exact LJ_fr hI hl.1 (fun a b q => (f2 a b (by unfold rq_K at q; omega) (by unfold rq_K at q; omega) (by unfold rq_K at q; omega) (by unfold rq_K at q; omega) (by unfold rq_K at q; omega) (by unfold rq_K at q; omega) (by unfold rq_K at q; omega) (by unfold rq_K at q; omega) (by unfold rq_K at q; omega)).trans (f1 a b (by unfold rq_K at q; omega) (by unfold rq_K at q; omega) (by unfold rq_K at q; omega) (by unfold rq_K at q; omega))))
  all_goals (first | exact LJ_fr hI hl.1 (fun a b q => (f2 a b (by unfold rq_K at q; omega) (by unfold rq_K at q; omega) (by unfold rq_K at q; omega) (by unfold rq_K at q; omega) (by unfold rq_K at q; omega) (by unfold rq_K at q; omega) (by unfold rq_K at q; omega) (by unfold rq_K at q; omega) (by unfold rq_K at q; omega)).trans (f1 a b (by unfold rq_K at q; omega) (by unfold rq_K at q; omega) (by unfold rq_K at q; omega) (by unfold rq_K at q; omega))) | (trace_state; fail))
theorem lx_c2 {l : Launch} {L : Nat} {xs : Nat → Int} {i : Int} (hX : lx_X xs) (hL : L ≤ 2560) (i0 : 0 ≤ i) (i1 : i ≤ (L : Int) - 5) (hH : lx_H l L xs i) (μ : am_N) (hI : lx_J μ) : am_AW l L xs 0 lx_Q 292 [some (.inr (.inr 999)), some (.inr (.inr 0)), some (.inr (.inr 83)), some (.inl i)] [] μ := by
  have iL : (L : Int) ≤ 2560 := by omega
  have ix : ∀ k : Int, 0 ≤ k → k ≤ 4 → 0 ≤ am_c (i + k) ∧ am_c (i + k) < L := fun k h0 h1 => by rw [am_cR (by omega) (by omega)]; omega
  have cx : ∀ j, am_c (xs j) = xs j := fun j => am_cR (by have := (hX j).1; omega) (by have := (hX j).2; omega)
  have hb := sx_all hI.1.1
  have hc := mi_all hI.1.2.1
  have hR := hI.1.2.2
  have hwM := hR.1.2
  have hwC : fp_fw 999 (fv μ 1) := by rw [hR.1.1]; exact hwM
  have n14 : 0 ≤ μ 1 4 ∧ μ 1 4 ≤ 4 := by omega
  have nM : μ 1 4 = μ 83 14 := (fp_ct_n hR.1.1).1 4 (by decide)
  refine am_go (ct := fun pc => Nat.beq pc 1662) am_oL_law 60 ?_
  conv => whnf
  repeat' first
    | (refine (?_ : am_wp _ _ _ _ _ _ _ _ _ _ _ _); conv => whnf)
    | refine And.intro ⟨rfl, rfl⟩ ?_
    | refine And.intro (ix _ (by decide) (by decide)) ?_
    | refine And.intro trivial ?_
    | refine s_runner _ _ (cx _) (cx _) hwC (fun μ1 f1 => ?_)
    | (have m1 : mv μ1 = mv μ := mv_keep (fun a b q => f1 a b (by omega)); refine n_runner _ _ (cx _) (cx _) (by rw [m1]; exact hwM) (fun μ2 f2 => ?_))
    | (refine hH _ ?_; first | exact LJ_fr hI (LI_ref hI.1 f1 f2) (fun a b q => (f2 a b (by unfold rq_K at q; omega)).trans (f1 a b (by unfold rq_K at q; omega))))
  all_goals (first | exact LJ_fr hI (LI_ref hI.1 f1 f2) (fun a b q => (f2 a b (by unfold rq_K at q; omega)).trans (f1 a b (by unfold rq_K at q; omega))) | (trace_state; fail))
theorem lx_c3 {l : Launch} {L : Nat} {xs : Nat → Int} {i : Int} (hX : lx_X xs) (hL : L ≤ 2560) (i0 : 0 ≤ i) (i1 : i ≤ (L : Int) - 5) (hH : lx_H l L xs i) (μ : am_N) (hI : lx_J μ) : am_AW l L xs 0 lx_Q 325 [some (.inr (.inr 999)), some (.inr (.inr 0)), some (.inr (.inr 83)), some (.inl i)] [] μ := by
  have iL : (L : Int) ≤ 2560 := by omega
  have ix : ∀ k : Int, 0 ≤ k → k ≤ 4 → 0 ≤ am_c (i + k) ∧ am_c (i + k) < L := fun k h0 h1 => by rw [am_cR (by omega) (by omega)]; omega
  have cx : ∀ j, am_c (xs j) = xs j := fun j => am_cR (by have := (hX j).1; omega) (by have := (hX j).2; omega)
  have hb := sx_all hI.1.1
  have hc := mi_all hI.1.2.1
  have hR := hI.1.2.2
  have hwM := hR.1.2
  have hwC : fp_fw 999 (fv μ 1) := by rw [hR.1.1]; exact hwM
  have n14 : 0 ≤ μ 1 4 ∧ μ 1 4 ≤ 4 := by omega
  have nM : μ 1 4 = μ 83 14 := (fp_ct_n hR.1.1).1 4 (by decide)
  refine am_go (ct := fun pc => Nat.beq pc 1662) am_oL_law 60 ?_
  conv => whnf
  repeat' first
    | (refine (?_ : am_wp _ _ _ _ _ _ _ _ _ _ _ _); conv => whnf)
    | refine And.intro ⟨rfl, rfl⟩ ?_
    | refine And.intro (ix _ (by decide) (by decide)) ?_
    | refine And.intro trivial ?_
    | refine s_startF _ _ (cx _) (cx _) n14.1 n14.2 (fun a1 a2 μ1 f1 e1 z1 => ?_) (fun r1 μ1 a0 f1 => ?_)
    | (have m1 : mv μ1 = mv μ := mv_keep (fun a b q => f1 a b (by omega) (by omega)); have t14 : μ1 83 14 = μ 83 14 := f1 83 14 (by omega) (by omega); refine n_startF _ _ (cx _) (cx _) (by rw [t14]; omega) (by rw [t14]; omega) (fun b1 b2 μ2 f2 e2 z2 => ?_) (fun r2 μ2 b0 f2 => ?_))
    | (have m1 : mv μ1 = mv μ := mv_keep (fun a b q => f1 a b (by omega)); have t14 : μ1 83 14 = μ 83 14 := f1 83 14 (by omega); refine n_startF _ _ (cx _) (cx _) (by rw [t14]; omega) (by rw [t14]; omega) (fun b1 b2 μ2 f2 e2 z2 => ?_) (fun r2 μ2 b0 f2 => ?_))
    | (refine hH _ ?_; first | exact LJ_fr hI (LI_fld hI.1 f1 f2 z1 z2 (by rw [e1, e2, m1, hR.1.1]) (by rw [e2, m1]; exact fw_ct (fw_arr hwM (by decide) (fun _ => a2) (Or.inr (by decide))))) (fun a b q => (f2 a b (by unfold rq_K at q; omega) (by unfold rq_K at q; omega)).trans (f1 a b (by unfold rq_K at q; omega) (by unfold rq_K at q; omega))) | exact LJ_fr hI (LI_ref hI.1 f1 f2) (fun a b q => (f2 a b (by unfold rq_K at q; omega)).trans (f1 a b (by unfold rq_K at q; omega))) | (exfalso; rw [t14] at *; omega) | (exfalso; exact a0 ⟨b1, b2⟩) | (exfalso; exact b0 ⟨a1, a2⟩) | (exfalso; omega))
  all_goals (first | exact LJ_fr hI (LI_fld hI.1 f1 f2 z1 z2 (by rw [e1, e2, m1, hR.1.1]) (by rw [e2, m1]; exact fw_ct (fw_arr hwM (by decide) (fun _ => a2) (Or.inr (by decide))))) (fun a b q => (f2 a b (by unfold rq_K at q; omega) (by unfold rq_K at q; omega)).trans (f1 a b (by unfold rq_K at q; omega) (by unfold rq_K at q; omega))) | exact LJ_fr hI (LI_ref hI.1 f1 f2) (fun a b q => (f2 a b (by unfold rq_K at q; omega)).trans (f1 a b (by unfold rq_K at q; omega))) | (exfalso; rw [t14] at *; omega) | (exfalso; exact a0 ⟨b1, b2⟩) | (exfalso; exact b0 ⟨a1, a2⟩) | (exfalso; omega) | (trace_state; fail))
theorem lx_c4 {l : Launch} {L : Nat} {xs : Nat → Int} {i : Int} (hX : lx_X xs) (hL : L ≤ 2560) (i0 : 0 ≤ i) (i1 : i ≤ (L : Int) - 5) (hH : lx_H l L xs i) (μ : am_N) (hI : lx_J μ) : am_AW l L xs 0 lx_Q 358 [some (.inr (.inr 999)), some (.inr (.inr 0)), some (.inr (.inr 83)), some (.inl i)] [] μ := by
  have iL : (L : Int) ≤ 2560 := by omega
  have ix : ∀ k : Int, 0 ≤ k → k ≤ 4 → 0 ≤ am_c (i + k) ∧ am_c (i + k) < L := fun k h0 h1 => by rw [am_cR (by omega) (by omega)]; omega
  have cx : ∀ j, am_c (xs j) = xs j := fun j => am_cR (by have := (hX j).1; omega) (by have := (hX j).2; omega)
  have hb := sx_all hI.1.1
  have hc := mi_all hI.1.2.1
  have hR := hI.1.2.2
  have hwM := hR.1.2
  have hwC : fp_fw 999 (fv μ 1) := by rw [hR.1.1]; exact hwM
  have n14 : 0 ≤ μ 1 4 ∧ μ 1 4 ≤ 4 := by omega
  have nM : μ 1 4 = μ 83 14 := (fp_ct_n hR.1.1).1 4 (by decide)
  refine am_go (ct := fun pc => Nat.beq pc 1662) am_oL_law 60 ?_
  conv => whnf
  repeat' first
    | (refine (?_ : am_wp _ _ _ _ _ _ _ _ _ _ _ _); conv => whnf)
    | refine And.intro ⟨rfl, rfl⟩ ?_
    | refine And.intro (ix _ (by decide) (by decide)) ?_
    | refine And.intro trivial ?_
    | refine s_kindF _ _ _ (cx _) (cx _) (cx _) n14.1 n14.2 (fun a1 a2 a3 μ1 f1 e1 z1 => ?_) (fun r1 μ1 a0 f1 => ?_)
    | (have m1 : mv μ1 = mv μ := mv_keep (fun a b q => f1 a b (by omega) (by omega)); have t14 : μ1 83 14 = μ 83 14 := f1 83 14 (by omega) (by omega); refine n_kindF _ _ _ (cx _) (cx _) (cx _) (by rw [t14]; omega) (by rw [t14]; omega) (fun b1 b2 b3 μ2 f2 e2 z2 => ?_) (fun r2 μ2 b0 f2 => ?_))
    | (have m1 : mv μ1 = mv μ := mv_keep (fun a b q => f1 a b (by omega)); have t14 : μ1 83 14 = μ 83 14 := f1 83 14 (by omega); refine n_kindF _ _ _ (cx _) (cx _) (cx _) (by rw [t14]; omega) (by rw [t14]; omega) (fun b1 b2 b3 μ2 f2 e2 z2 => ?_) (fun r2 μ2 b0 f2 => ?_))
    | (refine hH _ ?_; first | exact LJ_fr hI (LI_fld hI.1 f1 f2 z1 z2 (by rw [e1, e2, m1, hR.1.1]) (by rw [e2, m1]; exact fw_ct (fw_kind hwM a2 a3))) (fun a b q => (f2 a b (by unfold rq_K at q; omega) (by unfold rq_K at q; omega)).trans (f1 a b (by unfold rq_K at q; omega) (by unfold rq_K at q; omega))) | exact LJ_fr hI (LI_ref hI.1 f1 f2) (fun a b q => (f2 a b (by unfold rq_K at q; omega)).trans (f1 a b (by unfold rq_K at q; omega))) | (exfalso; rw [t14] at *; omega) | (exfalso; exact a0 ⟨b1, b2⟩) | (exfalso; exact b0 ⟨a1, a2⟩) | (exfalso; omega))
  all_goals (first | exact LJ_fr hI (LI_fld hI.1 f1 f2 z1 z2 (by rw [e1, e2, m1, hR.1.1]) (by rw [e2, m1]; exact fw_ct (fw_kind hwM a2 a3))) (fun a b q => (f2 a b (by unfold rq_K at q; omega) (by unfold rq_K at q; omega)).trans (f1 a b (by unfold rq_K at q; omega) (by unfold rq_K at q; omega))) | exact LJ_fr hI (LI_ref hI.1 f1 f2) (fun a b q => (f2 a b (by unfold rq_K at q; omega)).trans (f1 a b (by unfold rq_K at q; omega))) | (exfalso; rw [t14] at *; omega) | (exfalso; exact a0 ⟨b1, b2⟩) | (exfalso; exact b0 ⟨a1, a2⟩) | (exfalso; omega) | (trace_state; fail))
theorem lx_c5 {l : Launch} {L : Nat} {xs : Nat → Int} {i : Int} (hX : lx_X xs) (hL : L ≤ 2560) (i0 : 0 ≤ i) (i1 : i ≤ (L : Int) - 5) (hH : lx_H l L xs i) (μ : am_N) (hI : lx_J μ) : am_AW l L xs 0 lx_Q 401 [some (.inr (.inr 999)), some (.inr (.inr 0)), some (.inr (.inr 83)), some (.inl i)] [] μ := by
  have iL : (L : Int) ≤ 2560 := by omega
  have ix : ∀ k : Int, 0 ≤ k → k ≤ 4 → 0 ≤ am_c (i + k) ∧ am_c (i + k) < L := fun k h0 h1 => by rw [am_cR (by omega) (by omega)]; omega
  have cx : ∀ j, am_c (xs j) = xs j := fun j => am_cR (by have := (hX j).1; omega) (by have := (hX j).2; omega)
  have hb := sx_all hI.1.1
  have hc := mi_all hI.1.2.1
  have hR := hI.1.2.2
  have hwM := hR.1.2
  have hwC : fp_fw 999 (fv μ 1) := by rw [hR.1.1]; exact hwM
  have n14 : 0 ≤ μ 1 4 ∧ μ 1 4 ≤ 4 := by omega
  have nM : μ 1 4 = μ 83 14 := (fp_ct_n hR.1.1).1 4 (by decide)
  refine am_go (ct := fun pc => Nat.beq pc 1662) am_oL_law 60 ?_
  conv => whnf
  repeat' first
    | (refine (?_ : am_wp _ _ _ _ _ _ _ _ _ _ _ _); conv => whnf)
    | refine And.intro ⟨rfl, rfl⟩ ?_
    | refine And.intro (ix _ (by decide) (by decide)) ?_
    | refine And.intro trivial ?_
    | refine s_setF _ _ (cx _) (cx _) (fun a1 a2 μ1 f1 e1 z1 => ?_) (fun a0 r1 μ1 f1 => ?_)
    | (have m1 : mv μ1 = mv μ := mv_keep (fun a b q => f1 a b (by omega) (by omega)); have t14 : μ1 83 14 = μ 83 14 := f1 83 14 (by omega) (by omega); refine n_setF _ _ (cx _) (cx _) (fun b1 b2 μ2 f2 e2 z2 => ?_) (fun b0 r2 μ2 f2 => ?_))
    | (have m1 : mv μ1 = mv μ := mv_keep (fun a b q => f1 a b (by omega)); have t14 : μ1 83 14 = μ 83 14 := f1 83 14 (by omega); refine n_setF _ _ (cx _) (cx _) (fun b1 b2 μ2 f2 e2 z2 => ?_) (fun b0 r2 μ2 f2 => ?_))
    | (refine hH _ ?_; first | exact LJ_fr hI (LI_fld hI.1 f1 f2 z1 z2 (by rw [e1, e2, m1, hR.1.1]) (by rw [e2, m1]; exact fw_ct (fw_set hwM a1 a2))) (fun a b q => (f2 a b (by unfold rq_K at q; omega) (by unfold rq_K at q; omega)).trans (f1 a b (by unfold rq_K at q; omega) (by unfold rq_K at q; omega))) | exact LJ_fr hI (LI_ref hI.1 f1 f2) (fun a b q => (f2 a b (by unfold rq_K at q; omega)).trans (f1 a b (by unfold rq_K at q; omega))) | (exfalso; rw [t14] at *; omega) | (exfalso; exact a0 ⟨b1, b2⟩) | (exfalso; exact b0 ⟨a1, a2⟩) | (exfalso; omega))
  all_goals (first | exact LJ_fr hI (LI_fld hI.1 f1 f2 z1 z2 (by rw [e1, e2, m1, hR.1.1]) (by rw [e2, m1]; exact fw_ct (fw_set hwM a1 a2))) (fun a b q => (f2 a b (by unfold rq_K at q; omega) (by unfold rq_K at q; omega)).trans (f1 a b (by unfold rq_K at q; omega) (by unfold rq_K at q; omega))) | exact LJ_fr hI (LI_ref hI.1 f1 f2) (fun a b q => (f2 a b (by unfold rq_K at q; omega)).trans (f1 a b (by unfold rq_K at q; omega))) | (exfalso; rw [t14] at *; omega) | (exfalso; exact a0 ⟨b1, b2⟩) | (exfalso; exact b0 ⟨a1, a2⟩) | (exfalso; omega) | (trace_state; fail))
theorem lx_c6 {l : Launch} {L : Nat} {xs : Nat → Int} {i : Int} (hX : lx_X xs) (hL : L ≤ 2560) (i0 : 0 ≤ i) (i1 : i ≤ (L : Int) - 5) (hH : lx_H l L xs i) (μ : am_N) (hI : lx_J μ) : am_AW l L xs 0 lx_Q 434 [some (.inr (.inr 999)), some (.inr (.inr 0)), some (.inr (.inr 83)), some (.inl i)] [] μ := by
  have iL : (L : Int) ≤ 2560 := by omega
  have ix : ∀ k : Int, 0 ≤ k → k ≤ 4 → 0 ≤ am_c (i + k) ∧ am_c (i + k) < L := fun k h0 h1 => by rw [am_cR (by omega) (by omega)]; omega
  have cx : ∀ j, am_c (xs j) = xs j := fun j => am_cR (by have := (hX j).1; omega) (by have := (hX j).2; omega)
  have hb := sx_all hI.1.1
  have hc := mi_all hI.1.2.1
  have hR := hI.1.2.2
  have hwM := hR.1.2
  have hwC : fp_fw 999 (fv μ 1) := by rw [hR.1.1]; exact hwM
  have n14 : 0 ≤ μ 1 4 ∧ μ 1 4 ≤ 4 := by omega
  have nM : μ 1 4 = μ 83 14 := (fp_ct_n hR.1.1).1 4 (by decide)
  refine am_go (ct := fun pc => Nat.beq pc 1662) am_oL_law 60 ?_
  conv => whnf
  repeat' first
    | (refine (?_ : am_wp _ _ _ _ _ _ _ _ _ _ _ _); conv => whnf)
    | refine And.intro ⟨rfl, rfl⟩ ?_
    | refine And.intro (ix _ (by decide) (by decide)) ?_
    | refine And.intro trivial ?_
    | (refine s_run hwC hI.1.1.2.1 (by omega) (fun a1 a2 μ1 f1 h1 p34 e29 e62 r1 w1 o1 => ?_) (fun r1 μ1 a0 f1 => ?_))
    | (have m1 : mv μ1 = mv μ := mv_keep (fun a b q => f1 a b (by omega) (by omega) (by omega) (by omega) (by omega) (by omega) (by omega)); have t14 : μ1 83 14 = μ 83 14 := f1 83 14 (by omega) (by omega) (by omega) (by omega) (by omega) (by omega) (by omega); have t11 : μ1 83 11 = μ 83 11 := f1 83 11 (by omega) (by omega) (by omega) (by omega) (by omega) (by omega) (by omega); have t33 : μ1 83 33 = μ 83 33 := f1 83 33 (by omega) (by omega) (by omega) (by omega) (by omega) (by omega) (by omega); refine n_run (by rw [m1]; exact hwM) (fun p hp => by rw [f1 100 p (by omega) (by omega) (by omega) (by omega) (by omega) (by omega) (by omega)]; exact mi_or hI.1.2.1 p hp) (by rw [t33]; omega) (fun b1 b2 μ2 f2 h2 p100 e33 r2 w2 o2 q2 => ?_) (fun r2 μ2 b0 f2 => ?_))
    | (have m1 : mv μ1 = mv μ := mv_keep (fun a b q => f1 a b (by omega)); have t14 : μ1 83 14 = μ 83 14 := f1 83 14 (by omega); have t11 : μ1 83 11 = μ 83 11 := f1 83 11 (by omega); have t33 : μ1 83 33 = μ 83 33 := f1 83 33 (by omega); refine n_run (by rw [m1]; exact hwM) (fun p hp => by rw [f1 100 p (by omega)]; exact mi_or hI.1.2.1 p hp) (by rw [t33]; omega) (fun b1 b2 μ2 f2 h2 p100 e33 r2 w2 o2 q2 => ?_) (fun r2 μ2 b0 f2 => ?_))
    | (refine hH _ ?_; first | exact LJ_fr hI (LI_run hI.1 a2 f1 h1 p34 e29 e62 r1 w1 o1 f2 h2 p100 e33 r2 w2 o2 q2) (fun a b q => (f2 a b (by unfold rq_K at q; omega) (by unfold rq_K at q; omega) (by unfold rq_K at q; omega) (by unfold rq_K at q; omega) (by unfold rq_K at q; omega) (by unfold rq_K at q; omega) (by unfold rq_K at q; omega) (by unfold rq_K at q; omega) (by unfold rq_K at q; omega)).trans (f1 a b (by unfold rq_K at q; omega) (by unfold rq_K at q; omega) (by unfold rq_K at q; omega) (by unfold rq_K at q; omega) (by unfold rq_K at q; omega) (by unfold rq_K at q; omega) (by unfold rq_K at q; omega))) | exact LJ_fr hI (LI_ref hI.1 f1 f2) (fun a b q => (f2 a b (by unfold rq_K at q; omega)).trans (f1 a b (by unfold rq_K at q; omega))) | (exfalso; have nW : μ 1 1 = μ 83 11 := (fp_ct_n hR.1.1).1 1 (by decide); rw [t14, t11] at *; omega))
  all_goals (first | exact LJ_fr hI (LI_run hI.1 a2 f1 h1 p34 e29 e62 r1 w1 o1 f2 h2 p100 e33 r2 w2 o2 q2) (fun a b q => (f2 a b (by unfold rq_K at q; omega) (by unfold rq_K at q; omega) (by unfold rq_K at q; omega) (by unfold rq_K at q; omega) (by unfold rq_K at q; omega) (by unfold rq_K at q; omega) (by unfold rq_K at q; omega) (by unfold rq_K at q; omega) (by unfold rq_K at q; omega)).trans (f1 a b (by unfold rq_K at q; omega) (by unfold rq_K at q; omega) (by unfold rq_K at q; omega) (by unfold rq_K at q; omega) (by unfold rq_K at q; omega) (by unfold rq_K at q; omega) (by unfold rq_K at q; omega))) | exact LJ_fr hI (LI_ref hI.1 f1 f2) (fun a b q => (f2 a b (by unfold rq_K at q; omega)).trans (f1 a b (by unfold rq_K at q; omega))) | (exfalso; have nW : μ 1 1 = μ 83 11 := (fp_ct_n hR.1.1).1 1 (by decide); rw [t14, t11] at *; omega) | (trace_state; fail))
theorem lx_c7 {l : Launch} {L : Nat} {xs : Nat → Int} {i : Int} (hX : lx_X xs) (hL : L ≤ 2560) (i0 : 0 ≤ i) (i1 : i ≤ (L : Int) - 5) (hH : lx_H l L xs i) (μ : am_N) (hI : lx_J μ) : am_AW l L xs 0 lx_Q 447 [some (.inr (.inr 999)), some (.inr (.inr 0)), some (.inr (.inr 83)), some (.inl i)] [] μ := by
  have iL : (L : Int) ≤ 2560 := by omega
  have ix : ∀ k : Int, 0 ≤ k → k ≤ 4 → 0 ≤ am_c (i + k) ∧ am_c (i + k) < L := fun k h0 h1 => by rw [am_cR (by omega) (by omega)]; omega
  refine am_go (ct := fun pc => Nat.beq pc 1662) am_oL_law 60 ?_
  conv => whnf
  repeat' first
    | (refine (?_ : am_wp _ _ _ _ _ _ _ _ _ _ _ _); conv => whnf)
    | refine And.intro ⟨rfl, rfl⟩ ?_
    | refine And.intro (ix _ (by decide) (by decide)) ?_
    | refine And.intro trivial ?_
    | refine w_order_X6 (ν := μ)  hI.1.1  (fun r1 μ1 h0 => ?_)
  have h1 := gv_of_sx h0
  have hE : lx_E [] := lx_c rfl
  have hm1 := lx_mi hE h1 hI.1.2.1
  repeat' first
    | (refine (?_ : am_wp _ _ _ _ _ _ _ _ _ _ _ _); conv => whnf)
    | refine And.intro ⟨rfl, rfl⟩ ?_
    | refine And.intro (ix _ (by decide) (by decide)) ?_
    | refine And.intro trivial ?_
    | refine m_order  hm1  (fun r2 μ2 h2 => ?_)
  have hA : lx_A ms := lx_A0
  have hI2 : lx_J μ2 := LJ_weak hI h1 h2 hA fp_Acs fp_Ads
  repeat' first
    | (refine (?_ : am_wp _ _ _ _ _ _ _ _ _ _ _ _); conv => whnf)
    | refine And.intro trivial ?_
    | exact hH _ hI2
theorem lx_c8 {l : Launch} {L : Nat} {xs : Nat → Int} {i : Int} (hX : lx_X xs) (hL : L ≤ 2560) (i0 : 0 ≤ i) (i1 : i ≤ (L : Int) - 5) (hH : lx_H l L xs i) (μ : am_N) (hI : lx_J μ) : am_AW l L xs 0 lx_Q 460 [some (.inr (.inr 999)), some (.inr (.inr 0)), some (.inr (.inr 83)), some (.inl i)] [] μ := by
  have iL : (L : Int) ≤ 2560 := by omega
  have ix : ∀ k : Int, 0 ≤ k → k ≤ 4 → 0 ≤ am_c (i + k) ∧ am_c (i + k) < L := fun k h0 h1 => by rw [am_cR (by omega) (by omega)]; omega
  refine am_go (ct := fun pc => Nat.beq pc 1662) am_oL_law 60 ?_
  conv => whnf
  repeat' first
    | (refine (?_ : am_wp _ _ _ _ _ _ _ _ _ _ _ _); conv => whnf)
    | refine And.intro ⟨rfl, rfl⟩ ?_
    | refine And.intro (ix _ (by decide) (by decide)) ?_
    | refine And.intro trivial ?_
    | refine w_likely_X6 (ν := μ) _ _ hI.1.1 (hX _).1 (hX _).2 (hX _).1 (hX _).2 (fun r1 μ1 h0 => ?_)
  have h1 := gv_of_sx h0
  have hE : lx_E [] := lx_c rfl
  have hm1 := lx_mi hE h1 hI.1.2.1
  repeat' first
    | (refine (?_ : am_wp _ _ _ _ _ _ _ _ _ _ _ _); conv => whnf)
    | refine And.intro ⟨rfl, rfl⟩ ?_
    | refine And.intro (ix _ (by decide) (by decide)) ?_
    | refine And.intro trivial ?_
    | refine m_likely _ _ hm1 (hX _).1 (hX _).2 (hX _).1 (hX _).2 (fun r2 μ2 h2 => ?_)
  have hA : lx_A ms := lx_A0
  have hI2 : lx_J μ2 := LJ_weak hI h1 h2 hA fp_Acs fp_Ads
  repeat' first
    | (refine (?_ : am_wp _ _ _ _ _ _ _ _ _ _ _ _); conv => whnf)
    | refine And.intro trivial ?_
    | exact hH _ hI2
theorem lx_c9 {l : Launch} {L : Nat} {xs : Nat → Int} {i : Int} (hX : lx_X xs) (hL : L ≤ 2560) (i0 : 0 ≤ i) (i1 : i ≤ (L : Int) - 5) (hH : lx_H l L xs i) (μ : am_N) (hI : lx_J μ) : am_AW l L xs 0 lx_Q 493 [some (.inr (.inr 999)), some (.inr (.inr 0)), some (.inr (.inr 83)), some (.inl i)] [] μ := by
  have iL : (L : Int) ≤ 2560 := by omega
  have ix : ∀ k : Int, 0 ≤ k → k ≤ 4 → 0 ≤ am_c (i + k) ∧ am_c (i + k) < L := fun k h0 h1 => by rw [am_cR (by omega) (by omega)]; omega
  refine am_go (ct := fun pc => Nat.beq pc 1662) am_oL_law 60 ?_
  conv => whnf
  repeat' first
    | (refine (?_ : am_wp _ _ _ _ _ _ _ _ _ _ _ _); conv => whnf)
    | refine And.intro ⟨rfl, rfl⟩ ?_
    | refine And.intro (ix _ (by decide) (by decide)) ?_
    | refine And.intro trivial ?_
    | refine w_ordered_X6 (ν := μ) _ _ hI.1.1 (hX _).1 (hX _).2 (hX _).1 (hX _).2 (fun r1 μ1 h0 => ?_)
  have h1 := gv_of_sx h0
  have hE : lx_E [] := lx_c rfl
  have hm1 := lx_mi hE h1 hI.1.2.1
  repeat' first
    | (refine (?_ : am_wp _ _ _ _ _ _ _ _ _ _ _ _); conv => whnf)
    | refine And.intro ⟨rfl, rfl⟩ ?_
    | refine And.intro (ix _ (by decide) (by decide)) ?_
    | refine And.intro trivial ?_
    | refine m_ordered _ _ hm1 (hX _).1 (hX _).2 (hX _).1 (hX _).2 (fun r2 μ2 h2 => ?_)
  have hA : lx_A ms := lx_A0
  have hI2 : lx_J μ2 := LJ_weak hI h1 h2 hA fp_Acs fp_Ads
  repeat' first
    | (refine (?_ : am_wp _ _ _ _ _ _ _ _ _ _ _ _); conv => whnf)
    | refine And.intro trivial ?_
    | exact hH _ hI2
theorem lx_c10 {l : Launch} {L : Nat} {xs : Nat → Int} {i : Int} (hX : lx_X xs) (hL : L ≤ 2560) (i0 : 0 ≤ i) (i1 : i ≤ (L : Int) - 5) (hH : lx_H l L xs i) (μ : am_N) (hI : lx_J μ) : am_AW l L xs 0 lx_Q 526 [some (.inr (.inr 999)), some (.inr (.inr 0)), some (.inr (.inr 83)), some (.inl i)] [] μ := by
  have iL : (L : Int) ≤ 2560 := by omega
  have ix : ∀ k : Int, 0 ≤ k → k ≤ 4 → 0 ≤ am_c (i + k) ∧ am_c (i + k) < L := fun k h0 h1 => by rw [am_cR (by omega) (by omega)]; omega
  refine am_go (ct := fun pc => Nat.beq pc 1662) am_oL_law 60 ?_
  conv => whnf
  repeat' first
    | (refine (?_ : am_wp _ _ _ _ _ _ _ _ _ _ _ _); conv => whnf)
    | refine And.intro ⟨rfl, rfl⟩ ?_
    | refine And.intro (ix _ (by decide) (by decide)) ?_
    | refine And.intro trivial ?_
    | refine w_close_X6 (ν := μ) _ _ hI.1.1 (hX _).1 (hX _).2 (hX _).1 (hX _).2 (fun r1 μ1 h0 => ?_)
  have h1 := gv_of_sx h0
  have hE : lx_E [] := lx_c rfl
  have hm1 := lx_mi hE h1 hI.1.2.1
  repeat' first
    | (refine (?_ : am_wp _ _ _ _ _ _ _ _ _ _ _ _); conv => whnf)
    | refine And.intro ⟨rfl, rfl⟩ ?_
    | refine And.intro (ix _ (by decide) (by decide)) ?_
    | refine And.intro trivial ?_
    | refine m_close _ _ hm1 (hX _).1 (hX _).2 (hX _).1 (hX _).2 (fun r2 μ2 h2 => ?_)
  have hA : lx_A ms := lx_A0
  have hI2 : lx_J μ2 := LJ_weak hI h1 h2 hA fp_Acs fp_Ads
  repeat' first
    | (refine (?_ : am_wp _ _ _ _ _ _ _ _ _ _ _ _); conv => whnf)
    | refine And.intro trivial ?_
    | exact hH _ hI2
theorem lx_c11 {l : Launch} {L : Nat} {xs : Nat → Int} {i : Int} (hX : lx_X xs) (hL : L ≤ 2560) (i0 : 0 ≤ i) (i1 : i ≤ (L : Int) - 5) (hH : lx_H l L xs i) (μ : am_N) (hI : lx_J μ) : am_AW l L xs 0 lx_Q 559 [some (.inr (.inr 999)), some (.inr (.inr 0)), some (.inr (.inr 83)), some (.inl i)] [] μ := by
  have iL : (L : Int) ≤ 2560 := by omega
  have ix : ∀ k : Int, 0 ≤ k → k ≤ 4 → 0 ≤ am_c (i + k) ∧ am_c (i + k) < L := fun k h0 h1 => by rw [am_cR (by omega) (by omega)]; omega
  refine am_go (ct := fun pc => Nat.beq pc 1662) am_oL_law 60 ?_
  conv => whnf
  repeat' first
    | (refine (?_ : am_wp _ _ _ _ _ _ _ _ _ _ _ _); conv => whnf)
    | refine And.intro ⟨rfl, rfl⟩ ?_
    | refine And.intro (ix _ (by decide) (by decide)) ?_
    | refine And.intro trivial ?_
    | refine w_sure_X6 (ν := μ) _ hI.1.1 (hX _).1 (hX _).2 (fun r1 μ1 h0 => ?_)
  have h1 := gv_of_sx h0
  have hE : lx_E [] := lx_c rfl
  have hm1 := lx_mi hE h1 hI.1.2.1
  repeat' first
    | (refine (?_ : am_wp _ _ _ _ _ _ _ _ _ _ _ _); conv => whnf)
    | refine And.intro ⟨rfl, rfl⟩ ?_
    | refine And.intro (ix _ (by decide) (by decide)) ?_
    | refine And.intro trivial ?_
    | refine m_sure _ hm1 (hX _).1 (hX _).2 (fun r2 μ2 h2 => ?_)
  have hA : lx_A ms := lx_A0
  have hI2 : lx_J μ2 := LJ_weak hI h1 h2 hA fp_Acs fp_Ads
  repeat' first
    | (refine (?_ : am_wp _ _ _ _ _ _ _ _ _ _ _ _); conv => whnf)
    | refine And.intro trivial ?_
    | exact hH _ hI2
theorem lx_c12 {l : Launch} {L : Nat} {xs : Nat → Int} {i : Int} (hX : lx_X xs) (hL : L ≤ 2560) (i0 : 0 ≤ i) (i1 : i ≤ (L : Int) - 5) (hH : lx_H l L xs i) (μ : am_N) (hI : lx_J μ) : am_AW l L xs 0 lx_Q 582 [some (.inr (.inr 999)), some (.inr (.inr 0)), some (.inr (.inr 83)), some (.inl i)] [] μ := by
  have iL : (L : Int) ≤ 2560 := by omega
  have ix : ∀ k : Int, 0 ≤ k → k ≤ 4 → 0 ≤ am_c (i + k) ∧ am_c (i + k) < L := fun k h0 h1 => by rw [am_cR (by omega) (by omega)]; omega
  refine am_go (ct := fun pc => Nat.beq pc 1662) am_oL_law 60 ?_
  conv => whnf
  repeat' first
    | (refine (?_ : am_wp _ _ _ _ _ _ _ _ _ _ _ _); conv => whnf)
    | refine And.intro ⟨rfl, rfl⟩ ?_
    | refine And.intro (ix _ (by decide) (by decide)) ?_
    | refine And.intro trivial ?_
    | refine w_even_X6 (ν := μ) _ _ hI.1.1 (hX _).1 (hX _).2 (hX _).1 (hX _).2 (fun r1 μ1 h0 => ?_)
  have h1 := gv_of_sx h0
  have hE : lx_E [] := lx_c rfl
  have hm1 := lx_mi hE h1 hI.1.2.1
  repeat' first
    | (refine (?_ : am_wp _ _ _ _ _ _ _ _ _ _ _ _); conv => whnf)
    | refine And.intro ⟨rfl, rfl⟩ ?_
    | refine And.intro (ix _ (by decide) (by decide)) ?_
    | refine And.intro trivial ?_
    | refine m_even _ _ hm1 (hX _).1 (hX _).2 (hX _).1 (hX _).2 (fun r2 μ2 h2 => ?_)
  have hA : lx_A ms := lx_A0
  have hI2 : lx_J μ2 := LJ_weak hI h1 h2 hA fp_Acs fp_Ads
  repeat' first
    | (refine (?_ : am_wp _ _ _ _ _ _ _ _ _ _ _ _); conv => whnf)
    | refine And.intro trivial ?_
    | exact hH _ hI2
/-! the law: cases -/
theorem lx_c13 {l : Launch} {L : Nat} {xs : Nat → Int} {i : Int} (hX : lx_X xs) (hL : L ≤ 2560) (i0 : 0 ≤ i) (i1 : i ≤ (L : Int) - 5) (hH : lx_H l L xs i) (μ : am_N) (hI : lx_J μ) : am_AW l L xs 0 lx_Q 615 [some (.inr (.inr 999)), some (.inr (.inr 0)), some (.inr (.inr 83)), some (.inl i)] [] μ := by
  have iL : (L : Int) ≤ 2560 := by omega
  have ix : ∀ k : Int, 0 ≤ k → k ≤ 4 → 0 ≤ am_c (i + k) ∧ am_c (i + k) < L := fun k h0 h1 => by rw [am_cR (by omega) (by omega)]; omega
  refine am_go (ct := fun pc => Nat.beq pc 1662) am_oL_law 60 ?_
  conv => whnf
  repeat' first
    | (refine (?_ : am_wp _ _ _ _ _ _ _ _ _ _ _ _); conv => whnf)
    | refine And.intro ⟨rfl, rfl⟩ ?_
    | refine And.intro (ix _ (by decide) (by decide)) ?_
    | refine And.intro trivial ?_
    | refine w_starts_X6 (ν := μ) _ _ hI.1.1 (hX _).1 (hX _).2 (hX _).1 (hX _).2 (fun r1 μ1 h0 => ?_)
  have h1 := gv_of_sx h0
  have hE : lx_E [] := lx_c rfl
  have hm1 := lx_mi hE h1 hI.1.2.1
  repeat' first
    | (refine (?_ : am_wp _ _ _ _ _ _ _ _ _ _ _ _); conv => whnf)
    | refine And.intro ⟨rfl, rfl⟩ ?_
    | refine And.intro (ix _ (by decide) (by decide)) ?_
    | refine And.intro trivial ?_
    | refine m_starts _ _ hm1 (hX _).1 (hX _).2 (hX _).1 (hX _).2 (fun r2 μ2 h2 => ?_)
  have hA : lx_A mQ := (lx_Ao lx_A0 lx_Q1)
  have hI2 : lx_J μ2 := LJ_weak hI h1 h2 hA fp_AcQ fp_AdQ
  repeat' first
    | (refine (?_ : am_wp _ _ _ _ _ _ _ _ _ _ _ _); conv => whnf)
    | refine And.intro trivial ?_
    | exact hH _ hI2
theorem lx_c14 {l : Launch} {L : Nat} {xs : Nat → Int} {i : Int} (hX : lx_X xs) (hL : L ≤ 2560) (i0 : 0 ≤ i) (i1 : i ≤ (L : Int) - 5) (hH : lx_H l L xs i) (μ : am_N) (hI : lx_J μ) : am_AW l L xs 0 lx_Q 648 [some (.inr (.inr 999)), some (.inr (.inr 0)), some (.inr (.inr 83)), some (.inl i)] [] μ := by
  have iL : (L : Int) ≤ 2560 := by omega
  have ix : ∀ k : Int, 0 ≤ k → k ≤ 4 → 0 ≤ am_c (i + k) ∧ am_c (i + k) < L := fun k h0 h1 => by rw [am_cR (by omega) (by omega)]; omega
  refine am_go (ct := fun pc => Nat.beq pc 1662) am_oL_law 60 ?_
  conv => whnf
  repeat' first
    | (refine (?_ : am_wp _ _ _ _ _ _ _ _ _ _ _ _); conv => whnf)
    | refine And.intro ⟨rfl, rfl⟩ ?_
    | refine And.intro (ix _ (by decide) (by decide)) ?_
    | refine And.intro trivial ?_
    | refine w_load_X6 (ν := μ) _ hI.1.1 (hX _).1 (hX _).2 (fun r1 μ1 h0 => ?_)
  have h1 := gv_of_sx h0
  have hE : lx_E [] := lx_c rfl
  have hm1 := lx_mi hE h1 hI.1.2.1
  repeat' first
    | (refine (?_ : am_wp _ _ _ _ _ _ _ _ _ _ _ _); conv => whnf)
    | refine And.intro ⟨rfl, rfl⟩ ?_
    | refine And.intro (ix _ (by decide) (by decide)) ?_
    | refine And.intro trivial ?_
    | refine m_load _ hm1 (hX _).1 (hX _).2 (fun r2 μ2 h2 => ?_)
  have hA : lx_A mQ := (lx_Ao lx_A0 lx_Q1)
  have hI2 : lx_J μ2 := LJ_weak hI h1 h2 hA fp_AcQ fp_AdQ
  repeat' first
    | (refine (?_ : am_wp _ _ _ _ _ _ _ _ _ _ _ _); conv => whnf)
    | refine And.intro trivial ?_
    | exact hH _ hI2
theorem lx_c15 {l : Launch} {L : Nat} {xs : Nat → Int} {i : Int} (hX : lx_X xs) (hL : L ≤ 2560) (i0 : 0 ≤ i) (i1 : i ≤ (L : Int) - 5) (hH : lx_H l L xs i) (μ : am_N) (hI : lx_J μ) : am_AW l L xs 0 lx_Q 671 [some (.inr (.inr 999)), some (.inr (.inr 0)), some (.inr (.inr 83)), some (.inl i)] [] μ := by
  have iL : (L : Int) ≤ 2560 := by omega
  have ix : ∀ k : Int, 0 ≤ k → k ≤ 4 → 0 ≤ am_c (i + k) ∧ am_c (i + k) < L := fun k h0 h1 => by rw [am_cR (by omega) (by omega)]; omega
  refine am_go (ct := fun pc => Nat.beq pc 1662) am_oL_law 60 ?_
  conv => whnf
  repeat' first
    | (refine (?_ : am_wp _ _ _ _ _ _ _ _ _ _ _ _); conv => whnf)
    | refine And.intro ⟨rfl, rfl⟩ ?_
    | refine And.intro (ix _ (by decide) (by decide)) ?_
    | refine And.intro trivial ?_
    | refine w_on_X6 (ν := μ) _ _ _ hI.1.1 (hX _).1 (hX _).2 (hX _).1 (hX _).2 (hX _).1 (hX _).2 (fun r1 μ1 h0 => ?_)
  have h1 := gv_of_sx h0
  have hE : lx_E [] := lx_c rfl
  have hm1 := lx_mi hE h1 hI.1.2.1
  repeat' first
    | (refine (?_ : am_wp _ _ _ _ _ _ _ _ _ _ _ _); conv => whnf)
    | refine And.intro ⟨rfl, rfl⟩ ?_
    | refine And.intro (ix _ (by decide) (by decide)) ?_
    | refine And.intro trivial ?_
    | refine m_on _ _ _ hm1 (hX _).1 (hX _).2 (hX _).1 (hX _).2 (hX _).1 (hX _).2 (fun r2 μ2 h2 => ?_)
  have hA : lx_A mQ := (lx_Ao lx_A0 lx_Q1)
  have hI2 : lx_J μ2 := LJ_weak hI h1 h2 hA fp_AcQ fp_AdQ
  repeat' first
    | (refine (?_ : am_wp _ _ _ _ _ _ _ _ _ _ _ _); conv => whnf)
    | refine And.intro trivial ?_
    | exact hH _ hI2
theorem lx_c16 {l : Launch} {L : Nat} {xs : Nat → Int} {i : Int} (hX : lx_X xs) (hL : L ≤ 2560) (i0 : 0 ≤ i) (i1 : i ≤ (L : Int) - 5) (hH : lx_H l L xs i) (μ : am_N) (hI : lx_J μ) : am_AW l L xs 0 lx_Q 714 [some (.inr (.inr 999)), some (.inr (.inr 0)), some (.inr (.inr 83)), some (.inl i)] [] μ := by
  have iL : (L : Int) ≤ 2560 := by omega
  have ix : ∀ k : Int, 0 ≤ k → k ≤ 4 → 0 ≤ am_c (i + k) ∧ am_c (i + k) < L := fun k h0 h1 => by rw [am_cR (by omega) (by omega)]; omega
  refine am_go (ct := fun pc => Nat.beq pc 1662) am_oL_law 60 ?_
  conv => whnf
  repeat' first
    | (refine (?_ : am_wp _ _ _ _ _ _ _ _ _ _ _ _); conv => whnf)
    | refine And.intro ⟨rfl, rfl⟩ ?_
    | refine And.intro (ix _ (by decide) (by decide)) ?_
    | refine And.intro trivial ?_
    | refine w_settles_X6 (ν := μ)  hI.1.1  (fun r1 μ1 h0 => ?_)
  have h1 := gv_of_sx h0
  have hE : lx_E [] := lx_c rfl
  have hm1 := lx_mi hE h1 hI.1.2.1
  repeat' first
    | (refine (?_ : am_wp _ _ _ _ _ _ _ _ _ _ _ _); conv => whnf)
    | refine And.intro ⟨rfl, rfl⟩ ?_
    | refine And.intro (ix _ (by decide) (by decide)) ?_
    | refine And.intro trivial ?_
    | refine m_settles  hm1  (fun r2 μ2 h2 => ?_)
  have hA : lx_A mQ := (lx_Ao lx_A0 lx_Q1)
  have hI2 : lx_J μ2 := LJ_weak hI h1 h2 hA fp_AcQ fp_AdQ
  repeat' first
    | (refine (?_ : am_wp _ _ _ _ _ _ _ _ _ _ _ _); conv => whnf)
    | refine And.intro trivial ?_
    | exact hH _ hI2
theorem lx_c17 {l : Launch} {L : Nat} {xs : Nat → Int} {i : Int} (hX : lx_X xs) (hL : L ≤ 2560) (i0 : 0 ≤ i) (i1 : i ≤ (L : Int) - 5) (hH : lx_H l L xs i) (μ : am_N) (hI : lx_J μ) : am_AW l L xs 0 lx_Q 727 [some (.inr (.inr 999)), some (.inr (.inr 0)), some (.inr (.inr 83)), some (.inl i)] [] μ := by
  have iL : (L : Int) ≤ 2560 := by omega
  have ix : ∀ k : Int, 0 ≤ k → k ≤ 4 → 0 ≤ am_c (i + k) ∧ am_c (i + k) < L := fun k h0 h1 => by rw [am_cR (by omega) (by omega)]; omega
  refine am_go (ct := fun pc => Nat.beq pc 1662) am_oL_law 60 ?_
  conv => whnf
  repeat' first
    | (refine (?_ : am_wp _ _ _ _ _ _ _ _ _ _ _ _); conv => whnf)
    | refine And.intro ⟨rfl, rfl⟩ ?_
    | refine And.intro (ix _ (by decide) (by decide)) ?_
    | refine And.intro trivial ?_
    | refine w_best_X6 (ν := μ) _ hI.1.1 (hX _).1 (hX _).2 (fun r1 μ1 h0 => ?_)
  have h1 := gv_of_sx h0
  have hE : lx_E [] := lx_c rfl
  have hm1 := lx_mi hE h1 hI.1.2.1
  repeat' first
    | (refine (?_ : am_wp _ _ _ _ _ _ _ _ _ _ _ _); conv => whnf)
    | refine And.intro ⟨rfl, rfl⟩ ?_
    | refine And.intro (ix _ (by decide) (by decide)) ?_
    | refine And.intro trivial ?_
    | refine m_best _ hm1 (hX _).1 (hX _).2 (fun r2 μ2 h2 => ?_)
  have hA : lx_A mQ := (lx_Ao lx_A0 lx_Q1)
  have hI2 : lx_J μ2 := LJ_weak hI h1 h2 hA fp_AcQ fp_AdQ
  repeat' first
    | (refine (?_ : am_wp _ _ _ _ _ _ _ _ _ _ _ _); conv => whnf)
    | refine And.intro trivial ?_
    | exact hH _ hI2
theorem lx_c18 {l : Launch} {L : Nat} {xs : Nat → Int} {i : Int} (hX : lx_X xs) (hL : L ≤ 2560) (i0 : 0 ≤ i) (i1 : i ≤ (L : Int) - 5) (hH : lx_H l L xs i) (μ : am_N) (hI : lx_J μ) : am_AW l L xs 0 lx_Q 750 [some (.inr (.inr 999)), some (.inr (.inr 0)), some (.inr (.inr 83)), some (.inl i)] [] μ := by
  have iL : (L : Int) ≤ 2560 := by omega
  have ix : ∀ k : Int, 0 ≤ k → k ≤ 4 → 0 ≤ am_c (i + k) ∧ am_c (i + k) < L := fun k h0 h1 => by rw [am_cR (by omega) (by omega)]; omega
  refine am_go (ct := fun pc => Nat.beq pc 1662) am_oL_law 60 ?_
  conv => whnf
  repeat' first
    | (refine (?_ : am_wp _ _ _ _ _ _ _ _ _ _ _ _); conv => whnf)
    | refine And.intro ⟨rfl, rfl⟩ ?_
    | refine And.intro (ix _ (by decide) (by decide)) ?_
    | refine And.intro trivial ?_
    | refine w_pays_X6 (ν := μ) _ _ hI.1.1 (hX _).1 (hX _).2 (hX _).1 (hX _).2 (fun r1 μ1 h0 => ?_)
  have h1 := gv_of_sx h0
  have hE : lx_E [] := lx_c rfl
  have hm1 := lx_mi hE h1 hI.1.2.1
  repeat' first
    | (refine (?_ : am_wp _ _ _ _ _ _ _ _ _ _ _ _); conv => whnf)
    | refine And.intro ⟨rfl, rfl⟩ ?_
    | refine And.intro (ix _ (by decide) (by decide)) ?_
    | refine And.intro trivial ?_
    | refine m_pays _ _ hm1 (hX _).1 (hX _).2 (hX _).1 (hX _).2 (fun r2 μ2 h2 => ?_)
  have hA : lx_A mQ := (lx_Ao lx_A0 lx_Q1)
  have hI2 : lx_J μ2 := LJ_weak hI h1 h2 hA fp_AcQ fp_AdQ
  repeat' first
    | (refine (?_ : am_wp _ _ _ _ _ _ _ _ _ _ _ _); conv => whnf)
    | refine And.intro trivial ?_
    | exact hH _ hI2
theorem lx_c19 {l : Launch} {L : Nat} {xs : Nat → Int} {i : Int} (hX : lx_X xs) (hL : L ≤ 2560) (i0 : 0 ≤ i) (i1 : i ≤ (L : Int) - 5) (hH : lx_H l L xs i) (μ : am_N) (hI : lx_J μ) : am_AW l L xs 0 lx_Q 783 [some (.inr (.inr 999)), some (.inr (.inr 0)), some (.inr (.inr 83)), some (.inl i)] [] μ := by
  have iL : (L : Int) ≤ 2560 := by omega
  have ix : ∀ k : Int, 0 ≤ k → k ≤ 4 → 0 ≤ am_c (i + k) ∧ am_c (i + k) < L := fun k h0 h1 => by rw [am_cR (by omega) (by omega)]; omega
  refine am_go (ct := fun pc => Nat.beq pc 1662) am_oL_law 60 ?_
  conv => whnf
  repeat' first
    | (refine (?_ : am_wp _ _ _ _ _ _ _ _ _ _ _ _); conv => whnf)
    | refine And.intro ⟨rfl, rfl⟩ ?_
    | refine And.intro (ix _ (by decide) (by decide)) ?_
    | refine And.intro trivial ?_
    | refine w_worth_X6 (ν := μ) _ _ hI.1.1 (hX _).1 (hX _).2 (hX _).1 (hX _).2 (fun r1 μ1 h0 => ?_)
  have h1 := gv_of_sx h0
  have hE : lx_E [] := lx_c rfl
  have hm1 := lx_mi hE h1 hI.1.2.1
  repeat' first
    | (refine (?_ : am_wp _ _ _ _ _ _ _ _ _ _ _ _); conv => whnf)
    | refine And.intro ⟨rfl, rfl⟩ ?_
    | refine And.intro (ix _ (by decide) (by decide)) ?_
    | refine And.intro trivial ?_
    | refine m_worth _ _ hm1 (hX _).1 (hX _).2 (hX _).1 (hX _).2 (fun r2 μ2 h2 => ?_)
  have hA : lx_A ms := lx_A0
  have hI2 : lx_J μ2 := LJ_weak hI h1 h2 hA fp_Acs fp_Ads
  repeat' first
    | (refine (?_ : am_wp _ _ _ _ _ _ _ _ _ _ _ _); conv => whnf)
    | refine And.intro trivial ?_
    | exact hH _ hI2
theorem lx_c20 {l : Launch} {L : Nat} {xs : Nat → Int} {i : Int} (hX : lx_X xs) (hL : L ≤ 2560) (i0 : 0 ≤ i) (i1 : i ≤ (L : Int) - 5) (hH : lx_H l L xs i) (μ : am_N) (hI : lx_J μ) : am_AW l L xs 0 lx_Q 816 [some (.inr (.inr 999)), some (.inr (.inr 0)), some (.inr (.inr 83)), some (.inl i)] [] μ := by
  have iL : (L : Int) ≤ 2560 := by omega
  have ix : ∀ k : Int, 0 ≤ k → k ≤ 4 → 0 ≤ am_c (i + k) ∧ am_c (i + k) < L := fun k h0 h1 => by rw [am_cR (by omega) (by omega)]; omega
  refine am_go (ct := fun pc => Nat.beq pc 1662) am_oL_law 60 ?_
  conv => whnf
  repeat' first
    | (refine (?_ : am_wp _ _ _ _ _ _ _ _ _ _ _ _); conv => whnf)
    | refine And.intro ⟨rfl, rfl⟩ ?_
    | refine And.intro (ix _ (by decide) (by decide)) ?_
    | refine And.intro trivial ?_
    | refine w_same_X6 (ν := μ) _ _ _ hI.1.1 (hX _).1 (hX _).2 (hX _).1 (hX _).2 (hX _).1 (hX _).2 (fun r1 μ1 h0 => ?_)
  have h1 := gv_of_sx h0
  have hE : lx_E [] := lx_c rfl
  have hm1 := lx_mi hE h1 hI.1.2.1
  repeat' first
    | (refine (?_ : am_wp _ _ _ _ _ _ _ _ _ _ _ _); conv => whnf)
    | refine And.intro ⟨rfl, rfl⟩ ?_
    | refine And.intro (ix _ (by decide) (by decide)) ?_
    | refine And.intro trivial ?_
    | refine m_same _ _ _ hm1 (hX _).1 (hX _).2 (hX _).1 (hX _).2 (hX _).1 (hX _).2 (fun r2 μ2 h2 => ?_)
  have hA : lx_A ms := lx_A0
  have hI2 : lx_J μ2 := LJ_weak hI h1 h2 hA fp_Acs fp_Ads
  repeat' first
    | (refine (?_ : am_wp _ _ _ _ _ _ _ _ _ _ _ _); conv => whnf)
    | refine And.intro trivial ?_
    | exact hH _ hI2
theorem lx_c21 {l : Launch} {L : Nat} {xs : Nat → Int} {i : Int} (hX : lx_X xs) (hL : L ≤ 2560) (i0 : 0 ≤ i) (i1 : i ≤ (L : Int) - 5) (hH : lx_H l L xs i) (μ : am_N) (hI : lx_J μ) : am_AW l L xs 0 lx_Q 859 [some (.inr (.inr 999)), some (.inr (.inr 0)), some (.inr (.inr 83)), some (.inl i)] [] μ := by
  have iL : (L : Int) ≤ 2560 := by omega
  have ix : ∀ k : Int, 0 ≤ k → k ≤ 4 → 0 ≤ am_c (i + k) ∧ am_c (i + k) < L := fun k h0 h1 => by rw [am_cR (by omega) (by omega)]; omega
  refine am_go (ct := fun pc => Nat.beq pc 1662) am_oL_law 60 ?_
  conv => whnf
  repeat' first
    | (refine (?_ : am_wp _ _ _ _ _ _ _ _ _ _ _ _); conv => whnf)
    | refine And.intro ⟨rfl, rfl⟩ ?_
    | refine And.intro (ix _ (by decide) (by decide)) ?_
    | refine And.intro trivial ?_
    | refine w_teams_X6 (ν := μ) _ hI.1.1 (hX _).1 (hX _).2 (fun r1 μ1 h0 => ?_)
  have h1 := gv_of_sx h0
  have hE : lx_E [] := lx_c rfl
  have hm1 := lx_mi hE h1 hI.1.2.1
  repeat' first
    | (refine (?_ : am_wp _ _ _ _ _ _ _ _ _ _ _ _); conv => whnf)
    | refine And.intro ⟨rfl, rfl⟩ ?_
    | refine And.intro (ix _ (by decide) (by decide)) ?_
    | refine And.intro trivial ?_
    | refine m_teams _ hm1 (hX _).1 (hX _).2 (fun r2 μ2 h2 => ?_)
  have hA : lx_A ms := lx_A0
  have hI2 : lx_J μ2 := LJ_weak hI h1 h2 hA fp_Acs fp_Ads
  repeat' first
    | (refine (?_ : am_wp _ _ _ _ _ _ _ _ _ _ _ _); conv => whnf)
    | refine And.intro trivial ?_
    | exact hH _ hI2
theorem lx_c22 {l : Launch} {L : Nat} {xs : Nat → Int} {i : Int} (hX : lx_X xs) (hL : L ≤ 2560) (i0 : 0 ≤ i) (i1 : i ≤ (L : Int) - 5) (hH : lx_H l L xs i) (μ : am_N) (hI : lx_J μ) : am_AW l L xs 0 lx_Q 882 [some (.inr (.inr 999)), some (.inr (.inr 0)), some (.inr (.inr 83)), some (.inl i)] [] μ := by
  have iL : (L : Int) ≤ 2560 := by omega
  have ix : ∀ k : Int, 0 ≤ k → k ≤ 4 → 0 ≤ am_c (i + k) ∧ am_c (i + k) < L := fun k h0 h1 => by rw [am_cR (by omega) (by omega)]; omega
  refine am_go (ct := fun pc => Nat.beq pc 1662) am_oL_law 60 ?_
  conv => whnf
  repeat' first
    | (refine (?_ : am_wp _ _ _ _ _ _ _ _ _ _ _ _); conv => whnf)
    | refine And.intro ⟨rfl, rfl⟩ ?_
    | refine And.intro (ix _ (by decide) (by decide)) ?_
    | refine And.intro trivial ?_
    | refine w_longer_X6 (ν := μ) _ hI.1.1 (hX _).1 (hX _).2 (fun r1 μ1 h0 => ?_)
  have h1 := gv_of_sx h0
  have hE : lx_E [] := lx_c rfl
  have hm1 := lx_mi hE h1 hI.1.2.1
  repeat' first
    | (refine (?_ : am_wp _ _ _ _ _ _ _ _ _ _ _ _); conv => whnf)
    | refine And.intro ⟨rfl, rfl⟩ ?_
    | refine And.intro (ix _ (by decide) (by decide)) ?_
    | refine And.intro trivial ?_
    | refine m_longer _ hm1 (hX _).1 (hX _).2 (fun r2 μ2 h2 => ?_)
  have hA : lx_A ms := lx_A0
  have hI2 : lx_J μ2 := LJ_weak hI h1 h2 hA fp_Acs fp_Ads
  repeat' first
    | (refine (?_ : am_wp _ _ _ _ _ _ _ _ _ _ _ _); conv => whnf)
    | refine And.intro trivial ?_
    | exact hH _ hI2
theorem lx_c23 {l : Launch} {L : Nat} {xs : Nat → Int} {i : Int} (hX : lx_X xs) (hL : L ≤ 2560) (i0 : 0 ≤ i) (i1 : i ≤ (L : Int) - 5) (hH : lx_H l L xs i) (μ : am_N) (hI : lx_J μ) : am_AW l L xs 0 lx_Q 905 [some (.inr (.inr 999)), some (.inr (.inr 0)), some (.inr (.inr 83)), some (.inl i)] [] μ := by
  have iL : (L : Int) ≤ 2560 := by omega
  have ix : ∀ k : Int, 0 ≤ k → k ≤ 4 → 0 ≤ am_c (i + k) ∧ am_c (i + k) < L := fun k h0 h1 => by rw [am_cR (by omega) (by omega)]; omega
  refine am_go (ct := fun pc => Nat.beq pc 1662) am_oL_law 60 ?_
  conv => whnf
  repeat' first
    | (refine (?_ : am_wp _ _ _ _ _ _ _ _ _ _ _ _); conv => whnf)
    | refine And.intro ⟨rfl, rfl⟩ ?_
    | refine And.intro (ix _ (by decide) (by decide)) ?_
    | refine And.intro trivial ?_
    | refine w_fits_X6 (ν := μ) _ _ hI.1.1 (hX _).1 (hX _).2 (hX _).1 (hX _).2 (fun r1 μ1 h0 => ?_)
  have h1 := gv_of_sx h0
  have hE : lx_E [] := lx_c rfl
  have hm1 := lx_mi hE h1 hI.1.2.1
  repeat' first
    | (refine (?_ : am_wp _ _ _ _ _ _ _ _ _ _ _ _); conv => whnf)
    | refine And.intro ⟨rfl, rfl⟩ ?_
    | refine And.intro (ix _ (by decide) (by decide)) ?_
    | refine And.intro trivial ?_
    | refine m_fits _ _ hm1 (hX _).1 (hX _).2 (hX _).1 (hX _).2 (fun r2 μ2 h2 => ?_)
  have hA : lx_A mQ := (lx_Ao lx_A0 lx_Q1)
  have hI2 : lx_J μ2 := LJ_weak hI h1 h2 hA fp_AcQ fp_AdQ
  repeat' first
    | (refine (?_ : am_wp _ _ _ _ _ _ _ _ _ _ _ _); conv => whnf)
    | refine And.intro trivial ?_
    | exact hH _ hI2
theorem lx_c24 {l : Launch} {L : Nat} {xs : Nat → Int} {i : Int} (hX : lx_X xs) (hL : L ≤ 2560) (i0 : 0 ≤ i) (i1 : i ≤ (L : Int) - 5) (hH : lx_H l L xs i) (μ : am_N) (hI : lx_J μ) : am_AW l L xs 0 lx_Q 938 [some (.inr (.inr 999)), some (.inr (.inr 0)), some (.inr (.inr 83)), some (.inl i)] [] μ := by
  have iL : (L : Int) ≤ 2560 := by omega
  have ix : ∀ k : Int, 0 ≤ k → k ≤ 4 → 0 ≤ am_c (i + k) ∧ am_c (i + k) < L := fun k h0 h1 => by rw [am_cR (by omega) (by omega)]; omega
  refine am_go (ct := fun pc => Nat.beq pc 1662) am_oL_law 60 ?_
  conv => whnf
  repeat' first
    | (refine (?_ : am_wp _ _ _ _ _ _ _ _ _ _ _ _); conv => whnf)
    | refine And.intro ⟨rfl, rfl⟩ ?_
    | refine And.intro (ix _ (by decide) (by decide)) ?_
    | refine And.intro trivial ?_
    | refine w_let_X6 (ν := μ)  hI.1.1  (fun r1 μ1 h0 => ?_)
  have h1 := gv_of_sx h0
  have hE : lx_E [] := lx_c rfl
  have hm1 := lx_mi hE h1 hI.1.2.1
  repeat' first
    | (refine (?_ : am_wp _ _ _ _ _ _ _ _ _ _ _ _); conv => whnf)
    | refine And.intro ⟨rfl, rfl⟩ ?_
    | refine And.intro (ix _ (by decide) (by decide)) ?_
    | refine And.intro trivial ?_
    | refine m_let  hm1  (fun r2 μ2 h2 => ?_)
  have hA : lx_A ms := lx_A0
  have hI2 : lx_J μ2 := LJ_weak hI h1 h2 hA fp_Acs fp_Ads
  repeat' first
    | (refine (?_ : am_wp _ _ _ _ _ _ _ _ _ _ _ _); conv => whnf)
    | refine And.intro trivial ?_
    | exact hH _ hI2
theorem lx_c25 {l : Launch} {L : Nat} {xs : Nat → Int} {i : Int} (hX : lx_X xs) (hL : L ≤ 2560) (i0 : 0 ≤ i) (i1 : i ≤ (L : Int) - 5) (hH : lx_H l L xs i) (μ : am_N) (hI : lx_J μ) : am_AW l L xs 0 lx_Q 951 [some (.inr (.inr 999)), some (.inr (.inr 0)), some (.inr (.inr 83)), some (.inl i)] [] μ := by
  have iL : (L : Int) ≤ 2560 := by omega
  have ix : ∀ k : Int, 0 ≤ k → k ≤ 4 → 0 ≤ am_c (i + k) ∧ am_c (i + k) < L := fun k h0 h1 => by rw [am_cR (by omega) (by omega)]; omega
  have cx : ∀ j, am_c (xs j) = xs j := fun j => am_cR (by have := (hX j).1; omega) (by have := (hX j).2; omega)
  have hb := sx_all hI.1.1
  have hc := mi_all hI.1.2.1
  have hR := hI.1.2.2
  have hwM := hR.1.2
  have hwC : fp_fw 999 (fv μ 1) := by rw [hR.1.1]; exact hwM
  have n14 : 0 ≤ μ 1 4 ∧ μ 1 4 ≤ 4 := by omega
  have nM : μ 1 4 = μ 83 14 := (fp_ct_n hR.1.1).1 4 (by decide)
  refine am_go (ct := fun pc => Nat.beq pc 1662) am_oL_law 60 ?_
  conv => whnf
  repeat' first
    | (refine (?_ : am_wp _ _ _ _ _ _ _ _ _ _ _ _); conv => whnf)
    | refine And.intro ⟨rfl, rfl⟩ ?_
    | refine And.intro (ix _ (by decide) (by decide)) ?_
    | refine And.intro trivial ?_
    | refine s_row _ (cx _) hI.1.1 (fun a1 a2 μ1 f1 e1 x1 => ?_) (fun r1 μ1 a0 f1 => ?_)
    | (have tj : μ1 83 42 = μ 83 42 := f1 83 42 (by omega) (by omega); refine n_row _ (cx _) (by rw [tj]; omega) (by rw [tj]; omega) (fun b1 b2 μ2 f2 e2 x2 => ?_) (fun r2 μ2 b0 f2 => ?_))
    | (have tj : μ1 83 42 = μ 83 42 := f1 83 42 (by omega); refine n_row _ (cx _) (by rw [tj]; omega) (by rw [tj]; omega) (fun b1 b2 μ2 f2 e2 x2 => ?_) (fun r2 μ2 b0 f2 => ?_))
    | (refine hH _ ?_; first | exact LJ_row1 hI a1 a2 f1 e1 x1 f2 e2 x2 | exact LJ_fr hI (LI_ref hI.1 f1 f2) (fun a b q => (f2 a b (by unfold rq_K at q; omega)).trans (f1 a b (by unfold rq_K at q; omega))) | (exfalso; have h := hI.2.1.1; rw [tj] at *; omega))
  all_goals (first | exact LJ_row1 hI a1 a2 f1 e1 x1 f2 e2 x2 | exact LJ_fr hI (LI_ref hI.1 f1 f2) (fun a b q => (f2 a b (by unfold rq_K at q; omega)).trans (f1 a b (by unfold rq_K at q; omega))) | (exfalso; have h := hI.2.1.1; rw [tj] at *; omega) | (trace_state; fail))
/-! the law: cases -/
theorem lx_c26 {l : Launch} {L : Nat} {xs : Nat → Int} {i : Int} (hX : lx_X xs) (hL : L ≤ 2560) (i0 : 0 ≤ i) (i1 : i ≤ (L : Int) - 5) (hH : lx_H l L xs i) (μ : am_N) (hI : lx_J μ) : am_AW l L xs 0 lx_Q 974 [some (.inr (.inr 999)), some (.inr (.inr 0)), some (.inr (.inr 83)), some (.inl i)] [] μ := by
  have iL : (L : Int) ≤ 2560 := by omega
  have ix : ∀ k : Int, 0 ≤ k → k ≤ 4 → 0 ≤ am_c (i + k) ∧ am_c (i + k) < L := fun k h0 h1 => by rw [am_cR (by omega) (by omega)]; omega
  have cx : ∀ j, am_c (xs j) = xs j := fun j => am_cR (by have := (hX j).1; omega) (by have := (hX j).2; omega)
  have hb := sx_all hI.1.1
  have hc := mi_all hI.1.2.1
  have hR := hI.1.2.2
  have hwM := hR.1.2
  have hwC : fp_fw 999 (fv μ 1) := by rw [hR.1.1]; exact hwM
  have n14 : 0 ≤ μ 1 4 ∧ μ 1 4 ≤ 4 := by omega
  have nM : μ 1 4 = μ 83 14 := (fp_ct_n hR.1.1).1 4 (by decide)
  refine am_go (ct := fun pc => Nat.beq pc 1662) am_oL_law 60 ?_
  conv => whnf
  repeat' first
    | (refine (?_ : am_wp _ _ _ _ _ _ _ _ _ _ _ _); conv => whnf)
    | refine And.intro ⟨rfl, rfl⟩ ?_
    | refine And.intro (ix _ (by decide) (by decide)) ?_
    | refine And.intro trivial ?_
    | refine v_judge_X6 hI.1.1 (fun r1 μ1 h1 z1 => ?_)
    | refine m_judge (lx_mi (E := [44]) (lx_c rfl) h1 hI.1.2.1) (fun r2 μ2 h2 z2 => ?_)
    | (refine hH _ ?_; first | exact LJ_judge hI h1 z1 h2 z2)
  all_goals (first | exact LJ_judge hI h1 z1 h2 z2 | (trace_state; fail))
theorem lx_c27 {l : Launch} {L : Nat} {xs : Nat → Int} {i : Int} (hX : lx_X xs) (hL : L ≤ 2560) (i0 : 0 ≤ i) (i1 : i ≤ (L : Int) - 5) (hH : lx_H l L xs i) (μ : am_N) (hI : lx_J μ) : am_AW l L xs 0 lx_Q 987 [some (.inr (.inr 999)), some (.inr (.inr 0)), some (.inr (.inr 83)), some (.inl i)] [] μ := by
  have iL : (L : Int) ≤ 2560 := by omega
  have ix : ∀ k : Int, 0 ≤ k → k ≤ 4 → 0 ≤ am_c (i + k) ∧ am_c (i + k) < L := fun k h0 h1 => by rw [am_cR (by omega) (by omega)]; omega
  have cx : ∀ j, am_c (xs j) = xs j := fun j => am_cR (by have := (hX j).1; omega) (by have := (hX j).2; omega)
  have hb := sx_all hI.1.1
  have hc := mi_all hI.1.2.1
  have hR := hI.1.2.2
  have hwM := hR.1.2
  have hwC : fp_fw 999 (fv μ 1) := by rw [hR.1.1]; exact hwM
  have n14 : 0 ≤ μ 1 4 ∧ μ 1 4 ≤ 4 := by omega
  have nM : μ 1 4 = μ 83 14 := (fp_ct_n hR.1.1).1 4 (by decide)
  refine am_go (ct := fun pc => Nat.beq pc 1662) am_oL_law 60 ?_
  conv => whnf
  repeat' first
    | (refine (?_ : am_wp _ _ _ _ _ _ _ _ _ _ _ _); conv => whnf)
    | refine And.intro ⟨rfl, rfl⟩ ?_
    | refine And.intro (ix _ (by decide) (by decide)) ?_
    | refine And.intro trivial ?_
    | refine s_clear (fun μ1 f1 e1 => ?_)
    | refine n_clear (fun μ2 f2 e2 => ?_)
    | (refine hH _ ?_; first | exact LJ_row0 hI f1 e1 f2 e2)
  all_goals (first | exact LJ_row0 hI f1 e1 f2 e2 | (trace_state; fail))
theorem lx_c28 {l : Launch} {L : Nat} {xs : Nat → Int} {i : Int} (hX : lx_X xs) (hL : L ≤ 2560) (i0 : 0 ≤ i) (i1 : i ≤ (L : Int) - 5) (hH : lx_H l L xs i) (μ : am_N) (hI : lx_J μ) : am_AW l L xs 0 lx_Q 1000 [some (.inr (.inr 999)), some (.inr (.inr 0)), some (.inr (.inr 83)), some (.inl i)] [] μ := by
  have iL : (L : Int) ≤ 2560 := by omega
  have ix : ∀ k : Int, 0 ≤ k → k ≤ 4 → 0 ≤ am_c (i + k) ∧ am_c (i + k) < L := fun k h0 h1 => by rw [am_cR (by omega) (by omega)]; omega
  refine am_go (ct := fun pc => Nat.beq pc 1662) am_oL_law 60 ?_
  conv => whnf
  repeat' first
    | (refine (?_ : am_wp _ _ _ _ _ _ _ _ _ _ _ _); conv => whnf)
    | refine And.intro ⟨rfl, rfl⟩ ?_
    | refine And.intro (ix _ (by decide) (by decide)) ?_
    | refine And.intro trivial ?_
    | refine w_seeds_X6 (ν := μ) _ _ _ _ hI.1.1 (hX _).1 (hX _).2 (hX _).1 (hX _).2 (hX _).1 (hX _).2 (hX _).1 (hX _).2 (fun r1 μ1 h0 => ?_)
  have h1 := gv_of_sx h0
  have hE : lx_E [] := lx_c rfl
  have hm1 := lx_mi hE h1 hI.1.2.1
  repeat' first
    | (refine (?_ : am_wp _ _ _ _ _ _ _ _ _ _ _ _); conv => whnf)
    | refine And.intro ⟨rfl, rfl⟩ ?_
    | refine And.intro (ix _ (by decide) (by decide)) ?_
    | refine And.intro trivial ?_
    | refine m_seeds _ _ _ _ hm1 (hX _).1 (hX _).2 (hX _).1 (hX _).2 (hX _).1 (hX _).2 (hX _).1 (hX _).2 (fun r2 μ2 h2 => ?_)
  have hA : lx_A mQ := (lx_Ao lx_A0 lx_Q1)
  have hI2 : lx_J μ2 := LJ_weak hI h1 h2 hA fp_AcQ fp_AdQ
  repeat' first
    | (refine (?_ : am_wp _ _ _ _ _ _ _ _ _ _ _ _); conv => whnf)
    | refine And.intro trivial ?_
    | exact hH _ hI2
theorem lx_c29 {l : Launch} {L : Nat} {xs : Nat → Int} {i : Int} (hX : lx_X xs) (hL : L ≤ 2560) (i0 : 0 ≤ i) (i1 : i ≤ (L : Int) - 5) (hH : lx_H l L xs i) (μ : am_N) (hI : lx_J μ) : am_AW l L xs 0 lx_Q 1053 [some (.inr (.inr 999)), some (.inr (.inr 0)), some (.inr (.inr 83)), some (.inl i)] [] μ := by
  have iL : (L : Int) ≤ 2560 := by omega
  have ix : ∀ k : Int, 0 ≤ k → k ≤ 4 → 0 ≤ am_c (i + k) ∧ am_c (i + k) < L := fun k h0 h1 => by rw [am_cR (by omega) (by omega)]; omega
  have cx : ∀ j, am_c (xs j) = xs j := fun j => am_cR (by have := (hX j).1; omega) (by have := (hX j).2; omega)
  have hb := sx_all hI.1.1
  have hc := mi_all hI.1.2.1
  have hR := hI.1.2.2
  have hwM := hR.1.2
  have hwC : fp_fw 999 (fv μ 1) := by rw [hR.1.1]; exact hwM
  have n14 : 0 ≤ μ 1 4 ∧ μ 1 4 ≤ 4 := by omega
  have nM : μ 1 4 = μ 83 14 := (fp_ct_n hR.1.1).1 4 (by decide)
  refine am_go (ct := fun pc => Nat.beq pc 1662) am_oL_law 60 ?_
  conv => whnf
  repeat' first
    | (refine (?_ : am_wp _ _ _ _ _ _ _ _ _ _ _ _); conv => whnf)
    | refine And.intro ⟨rfl, rfl⟩ ?_
    | refine And.intro (ix _ (by decide) (by decide)) ?_
    | refine And.intro trivial ?_
    | (refine s_back (by omega) (fun a1 μ1 f1 e62 ew r1 => ?_) (fun a0 μ1 f1 => ?_))
    | (have t33 : μ1 83 33 = μ 83 33 := f1 83 33 (by omega) (by omega) (by omega) (by omega); have h33 := hR.2.2.1.1; refine x_mback (by rw [t33]; omega) (by rw [t33]; omega) (fun μ2 f2 e33 ew2 r2 o2 q2 => ?_))
    | (have t33 : μ1 83 33 = μ 83 33 := f1 83 33 (by omega); have h33 := hR.2.2.1.1; refine n_back0 (by rw [t33]; omega) (fun μ2 f2 => ?_))
    | (refine hH _ ?_; first | exact LJ_fr hI (LI_back hI.1 a1 f1 e62 ew r1 f2 e33 ew2 r2 o2 q2) (fun a b q => (f2 a b (by unfold rq_K at q; omega) (by unfold rq_K at q; omega) (by unfold rq_K at q; omega) (by unfold rq_K at q; omega) (by unfold rq_K at q; omega) (by unfold rq_K at q; omega) (by unfold rq_K at q; omega)).trans (f1 a b (by unfold rq_K at q; omega) (by unfold rq_K at q; omega) (by unfold rq_K at q; omega) (by unfold rq_K at q; omega))) | exact LJ_fr hI (LI_ref hI.1 f1 f2) (fun a b q => (f2 a b (by unfold rq_K at q; omega)).trans (f1 a b (by unfold rq_K at q; omega))))
  all_goals (first | exact LJ_fr hI (LI_back hI.1 a1 f1 e62 ew r1 f2 e33 ew2 r2 o2 q2) (fun a b q => (f2 a b (by unfold rq_K at q; omega) (by unfold rq_K at q; omega) (by unfold rq_K at q; omega) (by unfold rq_K at q; omega) (by unfold rq_K at q; omega) (by unfold rq_K at q; omega) (by unfold rq_K at q; omega)).trans (f1 a b (by unfold rq_K at q; omega) (by unfold rq_K at q; omega) (by unfold rq_K at q; omega) (by unfold rq_K at q; omega))) | exact LJ_fr hI (LI_ref hI.1 f1 f2) (fun a b q => (f2 a b (by unfold rq_K at q; omega)).trans (f1 a b (by unfold rq_K at q; omega))) | (trace_state; fail))
theorem lx_c30 {l : Launch} {L : Nat} {xs : Nat → Int} {i : Int} (hX : lx_X xs) (hL : L ≤ 2560) (i0 : 0 ≤ i) (i1 : i ≤ (L : Int) - 5) (hH : lx_H l L xs i) (μ : am_N) (hI : lx_J μ) : am_AW l L xs 0 lx_Q 1066 [some (.inr (.inr 999)), some (.inr (.inr 0)), some (.inr (.inr 83)), some (.inl i)] [] μ := by
  have iL : (L : Int) ≤ 2560 := by omega
  have ix : ∀ k : Int, 0 ≤ k → k ≤ 4 → 0 ≤ am_c (i + k) ∧ am_c (i + k) < L := fun k h0 h1 => by rw [am_cR (by omega) (by omega)]; omega
  have cx : ∀ j, am_c (xs j) = xs j := fun j => am_cR (by have := (hX j).1; omega) (by have := (hX j).2; omega)
  have hb := sx_all hI.1.1
  have hc := mi_all hI.1.2.1
  have hR := hI.1.2.2
  have hwM := hR.1.2
  have hwC : fp_fw 999 (fv μ 1) := by rw [hR.1.1]; exact hwM
  have n14 : 0 ≤ μ 1 4 ∧ μ 1 4 ≤ 4 := by omega
  have nM : μ 1 4 = μ 83 14 := (fp_ct_n hR.1.1).1 4 (by decide)
  refine am_go (ct := fun pc => Nat.beq pc 1662) am_oL_law 60 ?_
  conv => whnf
  repeat' first
    | (refine (?_ : am_wp _ _ _ _ _ _ _ _ _ _ _ _); conv => whnf)
    | refine And.intro ⟨rfl, rfl⟩ ?_
    | refine And.intro (ix _ (by decide) (by decide)) ?_
    | refine And.intro trivial ?_
    | refine s_bag _ (cx _) hI.1.1 (fun a1 a2 μ1 f1 e1 x1 => ?_) (fun r1 μ1 a0 f1 => ?_)
    | (have tj : μ1 83 15 = μ 83 15 := f1 83 15 (by omega) (by omega); refine n_bag _ (cx _) (by rw [tj]; omega) (by rw [tj]; omega) (fun b1 b2 μ2 f2 e2 x2 => ?_) (fun r2 μ2 b0 f2 => ?_))
    | (have tj : μ1 83 15 = μ 83 15 := f1 83 15 (by omega); refine n_bag _ (cx _) (by rw [tj]; omega) (by rw [tj]; omega) (fun b1 b2 μ2 f2 e2 x2 => ?_) (fun r2 μ2 b0 f2 => ?_))
    | (refine hH _ ?_; first | exact LJ_bag1 hI a1 a2 f1 e1 x1 f2 e2 x2 | exact LJ_fr hI (LI_ref hI.1 f1 f2) (fun a b q => (f2 a b (by unfold rq_K at q; omega)).trans (f1 a b (by unfold rq_K at q; omega))) | (exfalso; have h := hI.2.2.2.1.1; rw [tj] at *; omega))
  all_goals (first | exact LJ_bag1 hI a1 a2 f1 e1 x1 f2 e2 x2 | exact LJ_fr hI (LI_ref hI.1 f1 f2) (fun a b q => (f2 a b (by unfold rq_K at q; omega)).trans (f1 a b (by unfold rq_K at q; omega))) | (exfalso; have h := hI.2.2.2.1.1; rw [tj] at *; omega) | (trace_state; fail))
theorem lx_c31 {l : Launch} {L : Nat} {xs : Nat → Int} {i : Int} (hX : lx_X xs) (hL : L ≤ 2560) (i0 : 0 ≤ i) (i1 : i ≤ (L : Int) - 5) (hH : lx_H l L xs i) (μ : am_N) (hI : lx_J μ) : am_AW l L xs 0 lx_Q 1089 [some (.inr (.inr 999)), some (.inr (.inr 0)), some (.inr (.inr 83)), some (.inl i)] [] μ := by
  have iL : (L : Int) ≤ 2560 := by omega
  have ix : ∀ k : Int, 0 ≤ k → k ≤ 4 → 0 ≤ am_c (i + k) ∧ am_c (i + k) < L := fun k h0 h1 => by rw [am_cR (by omega) (by omega)]; omega
  have cx : ∀ j, am_c (xs j) = xs j := fun j => am_cR (by have := (hX j).1; omega) (by have := (hX j).2; omega)
  have hb := sx_all hI.1.1
  have hc := mi_all hI.1.2.1
  have hR := hI.1.2.2
  have hwM := hR.1.2
  have hwC : fp_fw 999 (fv μ 1) := by rw [hR.1.1]; exact hwM
  have n14 : 0 ≤ μ 1 4 ∧ μ 1 4 ≤ 4 := by omega
  have nM : μ 1 4 = μ 83 14 := (fp_ct_n hR.1.1).1 4 (by decide)
  refine am_go (ct := fun pc => Nat.beq pc 1662) am_oL_law 60 ?_
  conv => whnf
  repeat' first
    | (refine (?_ : am_wp _ _ _ _ _ _ _ _ _ _ _ _); conv => whnf)
    | refine And.intro ⟨rfl, rfl⟩ ?_
    | refine And.intro (ix _ (by decide) (by decide)) ?_
    | refine And.intro trivial ?_
    | refine s_empty (fun μ1 f1 e1 => ?_)
    | refine n_empty (fun μ2 f2 e2 => ?_)
    | (refine hH _ ?_; first | exact LJ_bag0 hI f1 e1 f2 e2)
  all_goals (first | exact LJ_bag0 hI f1 e1 f2 e2 | (trace_state; fail))
theorem lx_c32 {l : Launch} {L : Nat} {xs : Nat → Int} {i : Int} (hX : lx_X xs) (hL : L ≤ 2560) (i0 : 0 ≤ i) (i1 : i ≤ (L : Int) - 5) (hH : lx_H l L xs i) (μ : am_N) (hI : lx_J μ) : am_AW l L xs 0 lx_Q 1102 [some (.inr (.inr 999)), some (.inr (.inr 0)), some (.inr (.inr 83)), some (.inl i)] [] μ := by
  have iL : (L : Int) ≤ 2560 := by omega
  have ix : ∀ k : Int, 0 ≤ k → k ≤ 4 → 0 ≤ am_c (i + k) ∧ am_c (i + k) < L := fun k h0 h1 => by rw [am_cR (by omega) (by omega)]; omega
  refine am_go (ct := fun pc => Nat.beq pc 1662) am_oL_law 60 ?_
  conv => whnf
  repeat' first
    | (refine (?_ : am_wp _ _ _ _ _ _ _ _ _ _ _ _); conv => whnf)
    | refine And.intro ⟨rfl, rfl⟩ ?_
    | refine And.intro (ix _ (by decide) (by decide)) ?_
    | refine And.intro trivial ?_
    | refine w_bags_X6 (ν := μ) _ _ _ hI.1.1 (hX _).1 (hX _).2 (hX _).1 (hX _).2 (hX _).1 (hX _).2 (fun r1 μ1 h0 => ?_)
  have h1 := gv_of_sx h0
  have hE : lx_E [] := lx_c rfl
  have hm1 := lx_mi hE h1 hI.1.2.1
  repeat' first
    | (refine (?_ : am_wp _ _ _ _ _ _ _ _ _ _ _ _); conv => whnf)
    | refine And.intro ⟨rfl, rfl⟩ ?_
    | refine And.intro (ix _ (by decide) (by decide)) ?_
    | refine And.intro trivial ?_
    | refine m_bags _ _ _ hm1 (hX _).1 (hX _).2 (hX _).1 (hX _).2 (hX _).1 (hX _).2 (fun r2 μ2 h2 => ?_)
  have hA : lx_A ms := lx_A0
  have hI2 : lx_J μ2 := LJ_weak hI h1 h2 hA fp_Acs fp_Ads
  repeat' first
    | (refine (?_ : am_wp _ _ _ _ _ _ _ _ _ _ _ _); conv => whnf)
    | refine And.intro trivial ?_
    | exact hH _ hI2
theorem lx_c33 {l : Launch} {L : Nat} {xs : Nat → Int} {i : Int} (hX : lx_X xs) (hL : L ≤ 2560) (i0 : 0 ≤ i) (i1 : i ≤ (L : Int) - 5) (hH : lx_H l L xs i) (μ : am_N) (hI : lx_J μ) : am_AW l L xs 0 lx_Q 1145 [some (.inr (.inr 999)), some (.inr (.inr 0)), some (.inr (.inr 83)), some (.inl i)] [] μ := by
  have iL : (L : Int) ≤ 2560 := by omega
  have ix : ∀ k : Int, 0 ≤ k → k ≤ 4 → 0 ≤ am_c (i + k) ∧ am_c (i + k) < L := fun k h0 h1 => by rw [am_cR (by omega) (by omega)]; omega
  refine am_go (ct := fun pc => Nat.beq pc 1662) am_oL_law 60 ?_
  conv => whnf
  repeat' first
    | (refine (?_ : am_wp _ _ _ _ _ _ _ _ _ _ _ _); conv => whnf)
    | refine And.intro ⟨rfl, rfl⟩ ?_
    | refine And.intro (ix _ (by decide) (by decide)) ?_
    | refine And.intro trivial ?_
    | refine w_ahead_X6 (ν := μ) _ _ hI.1.1 (hX _).1 (hX _).2 (hX _).1 (hX _).2 (fun r1 μ1 h0 => ?_)
  have h1 := gv_of_sx h0
  have hE : lx_E [] := lx_c rfl
  have hm1 := lx_mi hE h1 hI.1.2.1
  repeat' first
    | (refine (?_ : am_wp _ _ _ _ _ _ _ _ _ _ _ _); conv => whnf)
    | refine And.intro ⟨rfl, rfl⟩ ?_
    | refine And.intro (ix _ (by decide) (by decide)) ?_
    | refine And.intro trivial ?_
    | refine m_ahead _ _ hm1 (hX _).1 (hX _).2 (hX _).1 (hX _).2 (fun r2 μ2 h2 => ?_)
  have hA : lx_A ms := lx_A0
  have hI2 : lx_J μ2 := LJ_weak hI h1 h2 hA fp_Acs fp_Ads
  repeat' first
    | (refine (?_ : am_wp _ _ _ _ _ _ _ _ _ _ _ _); conv => whnf)
    | refine And.intro trivial ?_
    | exact hH _ hI2
theorem lx_c34 {l : Launch} {L : Nat} {xs : Nat → Int} {i : Int} (hX : lx_X xs) (hL : L ≤ 2560) (i0 : 0 ≤ i) (i1 : i ≤ (L : Int) - 5) (hH : lx_H l L xs i) (μ : am_N) (hI : lx_J μ) : am_AW l L xs 0 lx_Q 1178 [some (.inr (.inr 999)), some (.inr (.inr 0)), some (.inr (.inr 83)), some (.inl i)] [] μ := by
  have iL : (L : Int) ≤ 2560 := by omega
  have ix : ∀ k : Int, 0 ≤ k → k ≤ 4 → 0 ≤ am_c (i + k) ∧ am_c (i + k) < L := fun k h0 h1 => by rw [am_cR (by omega) (by omega)]; omega
  refine am_go (ct := fun pc => Nat.beq pc 1662) am_oL_law 60 ?_
  conv => whnf
  repeat' first
    | (refine (?_ : am_wp _ _ _ _ _ _ _ _ _ _ _ _); conv => whnf)
    | refine And.intro ⟨rfl, rfl⟩ ?_
    | refine And.intro (ix _ (by decide) (by decide)) ?_
    | refine And.intro trivial ?_
    | refine w_cup_X6 (ν := μ) _ _ _ hI.1.1 (hX _).1 (hX _).2 (hX _).1 (hX _).2 (hX _).1 (hX _).2 (fun r1 μ1 h0 => ?_)
  have h1 := gv_of_sx h0
  have hE : lx_E [] := lx_c rfl
  have hm1 := lx_mi hE h1 hI.1.2.1
  repeat' first
    | (refine (?_ : am_wp _ _ _ _ _ _ _ _ _ _ _ _); conv => whnf)
    | refine And.intro ⟨rfl, rfl⟩ ?_
    | refine And.intro (ix _ (by decide) (by decide)) ?_
    | refine And.intro trivial ?_
    | refine m_cup _ _ _ hm1 (hX _).1 (hX _).2 (hX _).1 (hX _).2 (hX _).1 (hX _).2 (fun r2 μ2 h2 => ?_)
  have hA : lx_A ms := lx_A0
  have hI2 : lx_J μ2 := LJ_weak hI h1 h2 hA fp_Acs fp_Ads
  repeat' first
    | (refine (?_ : am_wp _ _ _ _ _ _ _ _ _ _ _ _); conv => whnf)
    | refine And.intro trivial ?_
    | exact hH _ hI2
theorem lx_c35 {l : Launch} {L : Nat} {xs : Nat → Int} {i : Int} (hX : lx_X xs) (hL : L ≤ 2560) (i0 : 0 ≤ i) (i1 : i ≤ (L : Int) - 5) (hH : lx_H l L xs i) (μ : am_N) (hI : lx_J μ) : am_AW l L xs 0 lx_Q 1221 [some (.inr (.inr 999)), some (.inr (.inr 0)), some (.inr (.inr 83)), some (.inl i)] [] μ := by
  have iL : (L : Int) ≤ 2560 := by omega
  have ix : ∀ k : Int, 0 ≤ k → k ≤ 4 → 0 ≤ am_c (i + k) ∧ am_c (i + k) < L := fun k h0 h1 => by rw [am_cR (by omega) (by omega)]; omega
  refine am_go (ct := fun pc => Nat.beq pc 1662) am_oL_law 60 ?_
  conv => whnf
  repeat' first
    | (refine (?_ : am_wp _ _ _ _ _ _ _ _ _ _ _ _); conv => whnf)
    | refine And.intro ⟨rfl, rfl⟩ ?_
    | refine And.intro (ix _ (by decide) (by decide)) ?_
    | refine And.intro trivial ?_
    | refine w_bracket_X6 (ν := μ) _ hI.1.1 (hX _).1 (hX _).2 (fun r1 μ1 h0 => ?_)
  have h1 := gv_of_sx h0
  have hE : lx_E [] := lx_c rfl
  have hm1 := lx_mi hE h1 hI.1.2.1
  repeat' first
    | (refine (?_ : am_wp _ _ _ _ _ _ _ _ _ _ _ _); conv => whnf)
    | refine And.intro ⟨rfl, rfl⟩ ?_
    | refine And.intro (ix _ (by decide) (by decide)) ?_
    | refine And.intro trivial ?_
    | refine m_bracket _ hm1 (hX _).1 (hX _).2 (fun r2 μ2 h2 => ?_)
  have hA : lx_A ms := lx_A0
  have hI2 : lx_J μ2 := LJ_weak hI h1 h2 hA fp_Acs fp_Ads
  repeat' first
    | (refine (?_ : am_wp _ _ _ _ _ _ _ _ _ _ _ _); conv => whnf)
    | refine And.intro trivial ?_
    | exact hH _ hI2
theorem lx_c36 {l : Launch} {L : Nat} {xs : Nat → Int} {i : Int} (hX : lx_X xs) (hL : L ≤ 2560) (i0 : 0 ≤ i) (i1 : i ≤ (L : Int) - 5) (hH : lx_H l L xs i) (μ : am_N) (hI : lx_J μ) : am_AW l L xs 0 lx_Q 1244 [some (.inr (.inr 999)), some (.inr (.inr 0)), some (.inr (.inr 83)), some (.inl i)] [] μ := by
  have iL : (L : Int) ≤ 2560 := by omega
  have ix : ∀ k : Int, 0 ≤ k → k ≤ 4 → 0 ≤ am_c (i + k) ∧ am_c (i + k) < L := fun k h0 h1 => by rw [am_cR (by omega) (by omega)]; omega
  refine am_go (ct := fun pc => Nat.beq pc 1662) am_oL_law 60 ?_
  conv => whnf
  repeat' first
    | (refine (?_ : am_wp _ _ _ _ _ _ _ _ _ _ _ _); conv => whnf)
    | refine And.intro ⟨rfl, rfl⟩ ?_
    | refine And.intro (ix _ (by decide) (by decide)) ?_
    | refine And.intro trivial ?_
    | refine w_league_X6 (ν := μ) _ _ hI.1.1 (hX _).1 (hX _).2 (hX _).1 (hX _).2 (fun r1 μ1 h0 => ?_)
  have h1 := gv_of_sx h0
  have hE : lx_E [] := lx_c rfl
  have hm1 := lx_mi hE h1 hI.1.2.1
  repeat' first
    | (refine (?_ : am_wp _ _ _ _ _ _ _ _ _ _ _ _); conv => whnf)
    | refine And.intro ⟨rfl, rfl⟩ ?_
    | refine And.intro (ix _ (by decide) (by decide)) ?_
    | refine And.intro trivial ?_
    | refine m_league _ _ hm1 (hX _).1 (hX _).2 (hX _).1 (hX _).2 (fun r2 μ2 h2 => ?_)
  have hA : lx_A ms := lx_A0
  have hI2 : lx_J μ2 := LJ_weak hI h1 h2 hA fp_Acs fp_Ads
  repeat' first
    | (refine (?_ : am_wp _ _ _ _ _ _ _ _ _ _ _ _); conv => whnf)
    | refine And.intro trivial ?_
    | exact hH _ hI2
theorem lx_c37 {l : Launch} {L : Nat} {xs : Nat → Int} {i : Int} (hX : lx_X xs) (hL : L ≤ 2560) (i0 : 0 ≤ i) (i1 : i ≤ (L : Int) - 5) (hH : lx_H l L xs i) (μ : am_N) (hI : lx_J μ) : am_AW l L xs 0 lx_Q 1277 [some (.inr (.inr 999)), some (.inr (.inr 0)), some (.inr (.inr 83)), some (.inl i)] [] μ := by
  have iL : (L : Int) ≤ 2560 := by omega
  have ix : ∀ k : Int, 0 ≤ k → k ≤ 4 → 0 ≤ am_c (i + k) ∧ am_c (i + k) < L := fun k h0 h1 => by rw [am_cR (by omega) (by omega)]; omega
  refine am_go (ct := fun pc => Nat.beq pc 1662) am_oL_law 60 ?_
  conv => whnf
  repeat' first
    | (refine (?_ : am_wp _ _ _ _ _ _ _ _ _ _ _ _); conv => whnf)
    | refine And.intro ⟨rfl, rfl⟩ ?_
    | refine And.intro (ix _ (by decide) (by decide)) ?_
    | refine And.intro trivial ?_
    | refine w_ranks_X6 (ν := μ)  hI.1.1  (fun r1 μ1 h0 => ?_)
  have h1 := gv_of_sx h0
  have hE : lx_E [] := lx_c rfl
  have hm1 := lx_mi hE h1 hI.1.2.1
  repeat' first
    | (refine (?_ : am_wp _ _ _ _ _ _ _ _ _ _ _ _); conv => whnf)
    | refine And.intro ⟨rfl, rfl⟩ ?_
    | refine And.intro (ix _ (by decide) (by decide)) ?_
    | refine And.intro trivial ?_
    | refine m_ranks  hm1  (fun r2 μ2 h2 => ?_)
  have hA : lx_A ms := lx_A0
  have hI2 : lx_J μ2 := LJ_weak hI h1 h2 hA fp_Acs fp_Ads
  repeat' first
    | (refine (?_ : am_wp _ _ _ _ _ _ _ _ _ _ _ _); conv => whnf)
    | refine And.intro trivial ?_
    | exact hH _ hI2
theorem lx_c38 {l : Launch} {L : Nat} {xs : Nat → Int} {i : Int} (hX : lx_X xs) (hL : L ≤ 2560) (i0 : 0 ≤ i) (i1 : i ≤ (L : Int) - 5) (hH : lx_H l L xs i) (μ : am_N) (hI : lx_J μ) : am_AW l L xs 0 lx_Q 1290 [some (.inr (.inr 999)), some (.inr (.inr 0)), some (.inr (.inr 83)), some (.inl i)] [] μ := by
  have iL : (L : Int) ≤ 2560 := by omega
  have ix : ∀ k : Int, 0 ≤ k → k ≤ 4 → 0 ≤ am_c (i + k) ∧ am_c (i + k) < L := fun k h0 h1 => by rw [am_cR (by omega) (by omega)]; omega
  refine am_go (ct := fun pc => Nat.beq pc 1662) am_oL_law 60 ?_
  conv => whnf
  repeat' first
    | (refine (?_ : am_wp _ _ _ _ _ _ _ _ _ _ _ _); conv => whnf)
    | refine And.intro ⟨rfl, rfl⟩ ?_
    | refine And.intro (ix _ (by decide) (by decide)) ?_
    | refine And.intro trivial ?_
    | refine w_hold_X6 (ν := μ) _ _ hI.1.1 (hX _).1 (hX _).2 (hX _).1 (hX _).2 (fun r1 μ1 h0 => ?_)
  have h1 := gv_of_sx h0
  have hE : lx_E [] := lx_c rfl
  have hm1 := lx_mi hE h1 hI.1.2.1
  repeat' first
    | (refine (?_ : am_wp _ _ _ _ _ _ _ _ _ _ _ _); conv => whnf)
    | refine And.intro ⟨rfl, rfl⟩ ?_
    | refine And.intro (ix _ (by decide) (by decide)) ?_
    | refine And.intro trivial ?_
    | refine m_hold _ _ hm1 (hX _).1 (hX _).2 (hX _).1 (hX _).2 (fun r2 μ2 h2 => ?_)
  have hA : lx_A ms := lx_A0
  have hI2 : lx_J μ2 := LJ_weak hI h1 h2 hA fp_Acs fp_Ads
  repeat' first
    | (refine (?_ : am_wp _ _ _ _ _ _ _ _ _ _ _ _); conv => whnf)
    | refine And.intro trivial ?_
    | exact hH _ hI2
/-! the law: cases -/
theorem lx_c39 {l : Launch} {L : Nat} {xs : Nat → Int} {i : Int} (hX : lx_X xs) (hL : L ≤ 2560) (i0 : 0 ≤ i) (i1 : i ≤ (L : Int) - 5) (hH : lx_H l L xs i) (μ : am_N) (hI : lx_J μ) : am_AW l L xs 0 lx_Q 1323 [some (.inr (.inr 999)), some (.inr (.inr 0)), some (.inr (.inr 83)), some (.inl i)] [] μ := by
  have iL : (L : Int) ≤ 2560 := by omega
  have ix : ∀ k : Int, 0 ≤ k → k ≤ 4 → 0 ≤ am_c (i + k) ∧ am_c (i + k) < L := fun k h0 h1 => by rw [am_cR (by omega) (by omega)]; omega
  refine am_go (ct := fun pc => Nat.beq pc 1662) am_oL_law 60 ?_
  conv => whnf
  repeat' first
    | (refine (?_ : am_wp _ _ _ _ _ _ _ _ _ _ _ _); conv => whnf)
    | refine And.intro ⟨rfl, rfl⟩ ?_
    | refine And.intro (ix _ (by decide) (by decide)) ?_
    | refine And.intro trivial ?_
    | refine w_legs_X6 (ν := μ) _ _ _ _ hI.1.1 (hX _).1 (hX _).2 (hX _).1 (hX _).2 (hX _).1 (hX _).2 (hX _).1 (hX _).2 (fun r1 μ1 h0 => ?_)
  have h1 := gv_of_sx h0
  have hE : lx_E [] := lx_c rfl
  have hm1 := lx_mi hE h1 hI.1.2.1
  repeat' first
    | (refine (?_ : am_wp _ _ _ _ _ _ _ _ _ _ _ _); conv => whnf)
    | refine And.intro ⟨rfl, rfl⟩ ?_
    | refine And.intro (ix _ (by decide) (by decide)) ?_
    | refine And.intro trivial ?_
    | refine m_legs _ _ _ _ hm1 (hX _).1 (hX _).2 (hX _).1 (hX _).2 (hX _).1 (hX _).2 (hX _).1 (hX _).2 (fun r2 μ2 h2 => ?_)
  have hA : lx_A ms := lx_A0
  have hI2 : lx_J μ2 := LJ_weak hI h1 h2 hA fp_Acs fp_Ads
  repeat' first
    | (refine (?_ : am_wp _ _ _ _ _ _ _ _ _ _ _ _); conv => whnf)
    | refine And.intro trivial ?_
    | exact hH _ hI2
theorem lx_c40 {l : Launch} {L : Nat} {xs : Nat → Int} {i : Int} (hX : lx_X xs) (hL : L ≤ 2560) (i0 : 0 ≤ i) (i1 : i ≤ (L : Int) - 5) (hH : lx_H l L xs i) (μ : am_N) (hI : lx_J μ) : am_AW l L xs 0 lx_Q 1376 [some (.inr (.inr 999)), some (.inr (.inr 0)), some (.inr (.inr 83)), some (.inl i)] [] μ := by
  have iL : (L : Int) ≤ 2560 := by omega
  have ix : ∀ k : Int, 0 ≤ k → k ≤ 4 → 0 ≤ am_c (i + k) ∧ am_c (i + k) < L := fun k h0 h1 => by rw [am_cR (by omega) (by omega)]; omega
  refine am_go (ct := fun pc => Nat.beq pc 1662) am_oL_law 60 ?_
  conv => whnf
  repeat' first
    | (refine (?_ : am_wp _ _ _ _ _ _ _ _ _ _ _ _); conv => whnf)
    | refine And.intro ⟨rfl, rfl⟩ ?_
    | refine And.intro (ix _ (by decide) (by decide)) ?_
    | refine And.intro trivial ?_
    | refine w_bet_X6 (ν := μ)  hI.1.1  (fun r1 μ1 h0 => ?_)
  have h1 := gv_of_sx h0
  have hE : lx_E [] := lx_c rfl
  have hm1 := lx_mi hE h1 hI.1.2.1
  repeat' first
    | (refine (?_ : am_wp _ _ _ _ _ _ _ _ _ _ _ _); conv => whnf)
    | refine And.intro ⟨rfl, rfl⟩ ?_
    | refine And.intro (ix _ (by decide) (by decide)) ?_
    | refine And.intro trivial ?_
    | refine m_bet  hm1  (fun r2 μ2 h2 => ?_)
  have hA : lx_A ms := lx_A0
  have hI2 : lx_J μ2 := LJ_weak hI h1 h2 hA fp_Acs fp_Ads
  repeat' first
    | (refine (?_ : am_wp _ _ _ _ _ _ _ _ _ _ _ _); conv => whnf)
    | refine And.intro trivial ?_
    | exact hH _ hI2
theorem lx_c41 {l : Launch} {L : Nat} {xs : Nat → Int} {i : Int} (hX : lx_X xs) (hL : L ≤ 2560) (i0 : 0 ≤ i) (i1 : i ≤ (L : Int) - 5) (hH : lx_H l L xs i) (μ : am_N) (hI : lx_J μ) : am_AW l L xs 0 lx_Q 1389 [some (.inr (.inr 999)), some (.inr (.inr 0)), some (.inr (.inr 83)), some (.inl i)] [] μ := by
  have iL : (L : Int) ≤ 2560 := by omega
  have ix : ∀ k : Int, 0 ≤ k → k ≤ 4 → 0 ≤ am_c (i + k) ∧ am_c (i + k) < L := fun k h0 h1 => by rw [am_cR (by omega) (by omega)]; omega
  refine am_go (ct := fun pc => Nat.beq pc 1662) am_oL_law 60 ?_
  conv => whnf
  repeat' first
    | (refine (?_ : am_wp _ _ _ _ _ _ _ _ _ _ _ _); conv => whnf)
    | refine And.intro ⟨rfl, rfl⟩ ?_
    | refine And.intro (ix _ (by decide) (by decide)) ?_
    | refine And.intro trivial ?_
    | refine w_bets_X6 (ν := μ) _ hI.1.1 (hX _).1 (hX _).2 (fun r1 μ1 h0 => ?_)
  have h1 := gv_of_sx h0
  have hE : lx_E [] := lx_c rfl
  have hm1 := lx_mi hE h1 hI.1.2.1
  repeat' first
    | (refine (?_ : am_wp _ _ _ _ _ _ _ _ _ _ _ _); conv => whnf)
    | refine And.intro ⟨rfl, rfl⟩ ?_
    | refine And.intro (ix _ (by decide) (by decide)) ?_
    | refine And.intro trivial ?_
    | refine m_bets _ hm1 (hX _).1 (hX _).2 (fun r2 μ2 h2 => ?_)
  have hA : lx_A ms := lx_A0
  have hI2 : lx_J μ2 := LJ_weak hI h1 h2 hA fp_Acs fp_Ads
  repeat' first
    | (refine (?_ : am_wp _ _ _ _ _ _ _ _ _ _ _ _); conv => whnf)
    | refine And.intro trivial ?_
    | exact hH _ hI2
theorem lx_c42 {l : Launch} {L : Nat} {xs : Nat → Int} {i : Int} (hX : lx_X xs) (hL : L ≤ 2560) (i0 : 0 ≤ i) (i1 : i ≤ (L : Int) - 5) (hH : lx_H l L xs i) (μ : am_N) (hI : lx_J μ) : am_AW l L xs 0 lx_Q 1412 [some (.inr (.inr 999)), some (.inr (.inr 0)), some (.inr (.inr 83)), some (.inl i)] [] μ := by
  have iL : (L : Int) ≤ 2560 := by omega
  have ix : ∀ k : Int, 0 ≤ k → k ≤ 4 → 0 ≤ am_c (i + k) ∧ am_c (i + k) < L := fun k h0 h1 => by rw [am_cR (by omega) (by omega)]; omega
  have cx : ∀ j, am_c (xs j) = xs j := fun j => am_cR (by have := (hX j).1; omega) (by have := (hX j).2; omega)
  have hb := sx_all hI.1.1
  have hc := mi_all hI.1.2.1
  have hR := hI.1.2.2
  have hwM := hR.1.2
  have hwC : fp_fw 999 (fv μ 1) := by rw [hR.1.1]; exact hwM
  have n14 : 0 ≤ μ 1 4 ∧ μ 1 4 ≤ 4 := by omega
  have nM : μ 1 4 = μ 83 14 := (fp_ct_n hR.1.1).1 4 (by decide)
  refine am_go (ct := fun pc => Nat.beq pc 1662) am_oL_law 60 ?_
  conv => whnf
  repeat' first
    | (refine (?_ : am_wp _ _ _ _ _ _ _ _ _ _ _ _); conv => whnf)
    | refine And.intro ⟨rfl, rfl⟩ ?_
    | refine And.intro (ix _ (by decide) (by decide)) ?_
    | refine And.intro trivial ?_
    | refine s_habit _ _ (cx _) (cx _) hI.1.1 (hI.2.2.2.2.2.1.1.trans hI.2.2.2.2.1.1.symm) (fun a1 a2 a3 μ1 f1 e1 e1x x1 x1x => ?_) (fun r1 μ1 a0 f1 => ?_)
    | (have tj : μ1 83 16 = μ 83 16 := f1 83 16 (by omega) (by omega) (by omega) (by omega); refine n_habit _ _ (cx _) (cx _) (by rw [tj]; omega) (by rw [tj]; omega) (fun b1 b2 b3 μ2 f2 e2 x2 x2x => ?_) (fun r2 μ2 b0 f2 => ?_))
    | (have tj : μ1 83 16 = μ 83 16 := f1 83 16 (by omega); refine n_habit _ _ (cx _) (cx _) (by rw [tj]; omega) (by rw [tj]; omega) (fun b1 b2 b3 μ2 f2 e2 x2 x2x => ?_) (fun r2 μ2 b0 f2 => ?_))
    | (refine hH _ ?_; first | exact LJ_habit1 hI a1 a2 a3 f1 e1 e1x x1 x1x f2 e2 x2 x2x | exact LJ_fr hI (LI_ref hI.1 f1 f2) (fun a b q => (f2 a b (by unfold rq_K at q; omega)).trans (f1 a b (by unfold rq_K at q; omega))) | (exfalso; have h := hI.2.2.2.2.1.1; rw [tj] at *; omega))
    | refine And.intro (fun _ => ?_) (fun hne => absurd ?_ hne)
    | refine And.intro (fun hne => absurd ?_ hne) (fun _ => ?_)
  all_goals (first | exact LJ_habit1 hI a1 a2 a3 f1 e1 e1x x1 x1x f2 e2 x2 x2x | exact LJ_fr hI (LI_ref hI.1 f1 f2) (fun a b q => (f2 a b (by unfold rq_K at q; omega)).trans (f1 a b (by unfold rq_K at q; omega))) | (exfalso; have h := hI.2.2.2.2.1.1; rw [tj] at *; omega) | rfl | (rw [tj]; exact congrArg (fun z => am_c (z + 1)) hI.2.2.2.2.1.1) | (have e : r1 = r2 := (by omega); rw [e]) | (have h := hI.2.2.2.2.1.1; rw [tj] at *; have e : r1 = r2 := (by omega); rw [e]) | (trace_state; fail))
theorem lx_c43 {l : Launch} {L : Nat} {xs : Nat → Int} {i : Int} (hX : lx_X xs) (hL : L ≤ 2560) (i0 : 0 ≤ i) (i1 : i ≤ (L : Int) - 5) (hH : lx_H l L xs i) (μ : am_N) (hI : lx_J μ) : am_AW l L xs 0 lx_Q 1445 [some (.inr (.inr 999)), some (.inr (.inr 0)), some (.inr (.inr 83)), some (.inl i)] [] μ := by
  have iL : (L : Int) ≤ 2560 := by omega
  have ix : ∀ k : Int, 0 ≤ k → k ≤ 4 → 0 ≤ am_c (i + k) ∧ am_c (i + k) < L := fun k h0 h1 => by rw [am_cR (by omega) (by omega)]; omega
  have cx : ∀ j, am_c (xs j) = xs j := fun j => am_cR (by have := (hX j).1; omega) (by have := (hX j).2; omega)
  have hb := sx_all hI.1.1
  have hc := mi_all hI.1.2.1
  have hR := hI.1.2.2
  have hwM := hR.1.2
  have hwC : fp_fw 999 (fv μ 1) := by rw [hR.1.1]; exact hwM
  have n14 : 0 ≤ μ 1 4 ∧ μ 1 4 ≤ 4 := by omega
  have nM : μ 1 4 = μ 83 14 := (fp_ct_n hR.1.1).1 4 (by decide)
  refine am_go (ct := fun pc => Nat.beq pc 1662) am_oL_law 60 ?_
  conv => whnf
  repeat' first
    | (refine (?_ : am_wp _ _ _ _ _ _ _ _ _ _ _ _); conv => whnf)
    | refine And.intro ⟨rfl, rfl⟩ ?_
    | refine And.intro (ix _ (by decide) (by decide)) ?_
    | refine And.intro trivial ?_
    | refine s_forget (fun μ1 f1 e1 e1x => ?_)
    | refine n_forget (fun μ2 f2 e2 => ?_)
    | (refine hH _ ?_; first | exact LJ_habit0 hI f1 e1 e1x f2 e2)
  all_goals (first | exact LJ_habit0 hI f1 e1 e1x f2 e2 | (trace_state; fail))
theorem lx_c44 {l : Launch} {L : Nat} {xs : Nat → Int} {i : Int} (hX : lx_X xs) (hL : L ≤ 2560) (i0 : 0 ≤ i) (i1 : i ≤ (L : Int) - 5) (hH : lx_H l L xs i) (μ : am_N) (hI : lx_J μ) : am_AW l L xs 0 lx_Q 1458 [some (.inr (.inr 999)), some (.inr (.inr 0)), some (.inr (.inr 83)), some (.inl i)] [] μ := by
  have iL : (L : Int) ≤ 2560 := by omega
  have ix : ∀ k : Int, 0 ≤ k → k ≤ 4 → 0 ≤ am_c (i + k) ∧ am_c (i + k) < L := fun k h0 h1 => by rw [am_cR (by omega) (by omega)]; omega
  refine am_go (ct := fun pc => Nat.beq pc 1662) am_oL_law 60 ?_
  conv => whnf
  repeat' first
    | (refine (?_ : am_wp _ _ _ _ _ _ _ _ _ _ _ _); conv => whnf)
    | refine And.intro ⟨rfl, rfl⟩ ?_
    | refine And.intro (ix _ (by decide) (by decide)) ?_
    | refine And.intro trivial ?_
    | refine w_tried_X6 (ν := μ) _ _ hI.1.1 (hX _).1 (hX _).2 (hX _).1 (hX _).2 (fun r1 μ1 h0 => ?_)
  have h1 := gv_of_sx h0
  have hE : lx_E [] := lx_c rfl
  have hm1 := lx_mi hE h1 hI.1.2.1
  repeat' first
    | (refine (?_ : am_wp _ _ _ _ _ _ _ _ _ _ _ _); conv => whnf)
    | refine And.intro ⟨rfl, rfl⟩ ?_
    | refine And.intro (ix _ (by decide) (by decide)) ?_
    | refine And.intro trivial ?_
    | refine m_tried _ _ hm1 (hX _).1 (hX _).2 (hX _).1 (hX _).2 (fun r2 μ2 h2 => ?_)
  have hA : lx_A mQ := (lx_Ao lx_A0 lx_Q1)
  have hI2 : lx_J μ2 := LJ_weak hI h1 h2 hA fp_AcQ fp_AdQ
  repeat' first
    | (refine (?_ : am_wp _ _ _ _ _ _ _ _ _ _ _ _); conv => whnf)
    | refine And.intro trivial ?_
    | exact hH _ hI2
theorem lx_c45 {l : Launch} {L : Nat} {xs : Nat → Int} {i : Int} (hX : lx_X xs) (hL : L ≤ 2560) (i0 : 0 ≤ i) (i1 : i ≤ (L : Int) - 5) (hH : lx_H l L xs i) (μ : am_N) (hI : lx_J μ) : am_AW l L xs 0 lx_Q 1491 [some (.inr (.inr 999)), some (.inr (.inr 0)), some (.inr (.inr 83)), some (.inl i)] [] μ := by
  have iL : (L : Int) ≤ 2560 := by omega
  have ix : ∀ k : Int, 0 ≤ k → k ≤ 4 → 0 ≤ am_c (i + k) ∧ am_c (i + k) < L := fun k h0 h1 => by rw [am_cR (by omega) (by omega)]; omega
  refine am_go (ct := fun pc => Nat.beq pc 1662) am_oL_law 60 ?_
  conv => whnf
  repeat' first
    | (refine (?_ : am_wp _ _ _ _ _ _ _ _ _ _ _ _); conv => whnf)
    | refine And.intro ⟨rfl, rfl⟩ ?_
    | refine And.intro (ix _ (by decide) (by decide)) ?_
    | refine And.intro trivial ?_
    | refine w_had_X6 (ν := μ) _ _ _ _ hI.1.1 (hX _).1 (hX _).2 (hX _).1 (hX _).2 (hX _).1 (hX _).2 (hX _).1 (hX _).2 (fun r1 μ1 h0 => ?_)
  have h1 := gv_of_sx h0
  have hE : lx_E [] := lx_c rfl
  have hm1 := lx_mi hE h1 hI.1.2.1
  repeat' first
    | (refine (?_ : am_wp _ _ _ _ _ _ _ _ _ _ _ _); conv => whnf)
    | refine And.intro ⟨rfl, rfl⟩ ?_
    | refine And.intro (ix _ (by decide) (by decide)) ?_
    | refine And.intro trivial ?_
    | refine m_had _ _ _ _ hm1 (hX _).1 (hX _).2 (hX _).1 (hX _).2 (hX _).1 (hX _).2 (hX _).1 (hX _).2 (fun r2 μ2 h2 => ?_)
  have hA : lx_A mQ := (lx_Ao lx_A0 lx_Q1)
  have hI2 : lx_J μ2 := LJ_weak hI h1 h2 hA fp_AcQ fp_AdQ
  repeat' first
    | (refine (?_ : am_wp _ _ _ _ _ _ _ _ _ _ _ _); conv => whnf)
    | refine And.intro trivial ?_
    | exact hH _ hI2
theorem lx_c46 {l : Launch} {L : Nat} {xs : Nat → Int} {i : Int} (hX : lx_X xs) (hL : L ≤ 2560) (i0 : 0 ≤ i) (i1 : i ≤ (L : Int) - 5) (hH : lx_H l L xs i) (μ : am_N) (hI : lx_J μ) : am_AW l L xs 0 lx_Q 1544 [some (.inr (.inr 999)), some (.inr (.inr 0)), some (.inr (.inr 83)), some (.inl i)] [] μ := by
  have iL : (L : Int) ≤ 2560 := by omega
  have ix : ∀ k : Int, 0 ≤ k → k ≤ 4 → 0 ≤ am_c (i + k) ∧ am_c (i + k) < L := fun k h0 h1 => by rw [am_cR (by omega) (by omega)]; omega
  have cx : ∀ j, am_c (xs j) = xs j := fun j => am_cR (by have := (hX j).1; omega) (by have := (hX j).2; omega)
  have hb := sx_all hI.1.1
  have hc := mi_all hI.1.2.1
  have hR := hI.1.2.2
  have hwM := hR.1.2
  have hwC : fp_fw 999 (fv μ 1) := by rw [hR.1.1]; exact hwM
  have n14 : 0 ≤ μ 1 4 ∧ μ 1 4 ≤ 4 := by omega
  have nM : μ 1 4 = μ 83 14 := (fp_ct_n hR.1.1).1 4 (by decide)
  refine am_go (ct := fun pc => Nat.beq pc 1662) am_oL_law 60 ?_
  conv => whnf
  repeat' first
    | (refine (?_ : am_wp _ _ _ _ _ _ _ _ _ _ _ _); conv => whnf)
    | refine And.intro ⟨rfl, rfl⟩ ?_
    | refine And.intro (ix _ (by decide) (by decide)) ?_
    | refine And.intro trivial ?_
    | refine s_time _ (cx _) hI.1.1 (fun a1 a2 μ1 f1 e1 x1 => ?_) (fun r1 μ1 a0 f1 => ?_)
    | (have tj : μ1 83 40 = μ 83 40 := f1 83 40 (by omega) (by omega); refine n_time _ (cx _) (by rw [tj]; omega) (by rw [tj]; omega) (fun b1 b2 μ2 f2 e2 x2 => ?_) (fun r2 μ2 b0 f2 => ?_))
    | (have tj : μ1 83 40 = μ 83 40 := f1 83 40 (by omega); refine n_time _ (cx _) (by rw [tj]; omega) (by rw [tj]; omega) (fun b1 b2 μ2 f2 e2 x2 => ?_) (fun r2 μ2 b0 f2 => ?_))
    | (refine hH _ ?_; first | exact LJ_time1 hI a1 a2 f1 e1 x1 f2 e2 x2 | exact LJ_fr hI (LI_ref hI.1 f1 f2) (fun a b q => (f2 a b (by unfold rq_K at q; omega)).trans (f1 a b (by unfold rq_K at q; omega))) | (exfalso; have h := hI.2.2.1.1; rw [tj] at *; omega))
  all_goals (first | exact LJ_time1 hI a1 a2 f1 e1 x1 f2 e2 x2 | exact LJ_fr hI (LI_ref hI.1 f1 f2) (fun a b q => (f2 a b (by unfold rq_K at q; omega)).trans (f1 a b (by unfold rq_K at q; omega))) | (exfalso; have h := hI.2.2.1.1; rw [tj] at *; omega) | (trace_state; fail))
theorem lx_c47 {l : Launch} {L : Nat} {xs : Nat → Int} {i : Int} (hX : lx_X xs) (hL : L ≤ 2560) (i0 : 0 ≤ i) (i1 : i ≤ (L : Int) - 5) (hH : lx_H l L xs i) (μ : am_N) (hI : lx_J μ) : am_AW l L xs 0 lx_Q 1567 [some (.inr (.inr 999)), some (.inr (.inr 0)), some (.inr (.inr 83)), some (.inl i)] [] μ := by
  have iL : (L : Int) ≤ 2560 := by omega
  have ix : ∀ k : Int, 0 ≤ k → k ≤ 4 → 0 ≤ am_c (i + k) ∧ am_c (i + k) < L := fun k h0 h1 => by rw [am_cR (by omega) (by omega)]; omega
  refine am_go (ct := fun pc => Nat.beq pc 1662) am_oL_law 60 ?_
  conv => whnf
  repeat' first
    | (refine (?_ : am_wp _ _ _ _ _ _ _ _ _ _ _ _); conv => whnf)
    | refine And.intro ⟨rfl, rfl⟩ ?_
    | refine And.intro (ix _ (by decide) (by decide)) ?_
    | refine And.intro trivial ?_
    | refine w_past_X6 (ν := μ) _ _ hI.1.1 (hX _).1 (hX _).2 (hX _).1 (hX _).2 (fun r1 μ1 h0 => ?_)
  have h1 := gv_of_sx h0
  have hE : lx_E [] := lx_c rfl
  have hm1 := lx_mi hE h1 hI.1.2.1
  repeat' first
    | (refine (?_ : am_wp _ _ _ _ _ _ _ _ _ _ _ _); conv => whnf)
    | refine And.intro ⟨rfl, rfl⟩ ?_
    | refine And.intro (ix _ (by decide) (by decide)) ?_
    | refine And.intro trivial ?_
    | refine m_past _ _ hm1 (hX _).1 (hX _).2 (hX _).1 (hX _).2 (fun r2 μ2 h2 => ?_)
  have hA : lx_A ms := lx_A0
  have hI2 : lx_J μ2 := LJ_weak hI h1 h2 hA fp_Acs fp_Ads
  repeat' first
    | (refine (?_ : am_wp _ _ _ _ _ _ _ _ _ _ _ _); conv => whnf)
    | refine And.intro trivial ?_
    | exact hH _ hI2
theorem lx_c48 {l : Launch} {L : Nat} {xs : Nat → Int} {i : Int} (hX : lx_X xs) (hL : L ≤ 2560) (i0 : 0 ≤ i) (i1 : i ≤ (L : Int) - 5) (hH : lx_H l L xs i) (μ : am_N) (hI : lx_J μ) : am_AW l L xs 0 lx_Q 1600 [some (.inr (.inr 999)), some (.inr (.inr 0)), some (.inr (.inr 83)), some (.inl i)] [] μ := by
  have iL : (L : Int) ≤ 2560 := by omega
  have ix : ∀ k : Int, 0 ≤ k → k ≤ 4 → 0 ≤ am_c (i + k) ∧ am_c (i + k) < L := fun k h0 h1 => by rw [am_cR (by omega) (by omega)]; omega
  have cx : ∀ j, am_c (xs j) = xs j := fun j => am_cR (by have := (hX j).1; omega) (by have := (hX j).2; omega)
  have hb := sx_all hI.1.1
  have hc := mi_all hI.1.2.1
  have hR := hI.1.2.2
  have hwM := hR.1.2
  have hwC : fp_fw 999 (fv μ 1) := by rw [hR.1.1]; exact hwM
  have n14 : 0 ≤ μ 1 4 ∧ μ 1 4 ≤ 4 := by omega
  have nM : μ 1 4 = μ 83 14 := (fp_ct_n hR.1.1).1 4 (by decide)
  refine am_go (ct := fun pc => Nat.beq pc 1662) am_oL_law 60 ?_
  conv => whnf
  repeat' first
    | (refine (?_ : am_wp _ _ _ _ _ _ _ _ _ _ _ _); conv => whnf)
    | refine And.intro ⟨rfl, rfl⟩ ?_
    | refine And.intro (ix _ (by decide) (by decide)) ?_
    | refine And.intro trivial ?_
    | refine s_wipe (fun μ1 f1 e1 => ?_)
    | refine n_wipe (fun μ2 f2 e2 => ?_)
    | (refine hH _ ?_; first | exact LJ_time0 hI f1 e1 f2 e2)
  all_goals (first | exact LJ_time0 hI f1 e1 f2 e2 | (trace_state; fail))
theorem lx_c49 {l : Launch} {L : Nat} {xs : Nat → Int} {i : Int} (hX : lx_X xs) (hL : L ≤ 2560) (i0 : 0 ≤ i) (i1 : i ≤ (L : Int) - 5) (hH : lx_H l L xs i) (μ : am_N) (hI : lx_J μ) : am_AW l L xs 0 lx_Q 1613 [some (.inr (.inr 999)), some (.inr (.inr 0)), some (.inr (.inr 83)), some (.inl i)] [] μ := by
  have iL : (L : Int) ≤ 2560 := by omega
  have ix : ∀ k : Int, 0 ≤ k → k ≤ 4 → 0 ≤ am_c (i + k) ∧ am_c (i + k) < L := fun k h0 h1 => by rw [am_cR (by omega) (by omega)]; omega
  have cx : ∀ j, am_c (xs j) = xs j := fun j => am_cR (by have := (hX j).1; omega) (by have := (hX j).2; omega)
  have hb := sx_all hI.1.1
  have hc := mi_all hI.1.2.1
  have hR := hI.1.2.2
  have hwM := hR.1.2
  have hwC : fp_fw 999 (fv μ 1) := by rw [hR.1.1]; exact hwM
  have n14 : 0 ≤ μ 1 4 ∧ μ 1 4 ≤ 4 := by omega
  have nM : μ 1 4 = μ 83 14 := (fp_ct_n hR.1.1).1 4 (by decide)
  refine am_go (ct := fun pc => Nat.beq pc 1662) am_oL_law 60 ?_
  conv => whnf
  repeat' first
    | (refine (?_ : am_wp _ _ _ _ _ _ _ _ _ _ _ _); conv => whnf)
    | refine And.intro ⟨rfl, rfl⟩ ?_
    | refine And.intro (ix _ (by decide) (by decide)) ?_
    | refine And.intro trivial ?_
    | (refine s_image (by omega) (fun μ1 f1 h1 e15 e50 x51 e58 x59 e60 x61 => ?_))
    | refine n_image (fun μ2 f2 e25 u => ?_)
    | (refine hH _ ?_; first | exact LJ_image hI f1 h1 e15 e50 x51 e58 x59 e60 x61 f2 e25 u)
  all_goals (first | exact LJ_image hI f1 h1 e15 e50 x51 e58 x59 e60 x61 f2 e25 u | (trace_state; fail))
theorem lx_c50 {l : Launch} {L : Nat} {xs : Nat → Int} {i : Int} (hX : lx_X xs) (hL : L ≤ 2560) (i0 : 0 ≤ i) (i1 : i ≤ (L : Int) - 5) (hH : lx_H l L xs i) (μ : am_N) (hI : lx_J μ) : am_AW l L xs 0 lx_Q 1626 [some (.inr (.inr 999)), some (.inr (.inr 0)), some (.inr (.inr 83)), some (.inl i)] [] μ := by
  have iL : (L : Int) ≤ 2560 := by omega
  have ix : ∀ k : Int, 0 ≤ k → k ≤ 4 → 0 ≤ am_c (i + k) ∧ am_c (i + k) < L := fun k h0 h1 => by rw [am_cR (by omega) (by omega)]; omega
  have cx : ∀ j, am_c (xs j) = xs j := fun j => am_cR (by have := (hX j).1; omega) (by have := (hX j).2; omega)
  have hb := sx_all hI.1.1
  have hc := mi_all hI.1.2.1
  have hR := hI.1.2.2
  have hwM := hR.1.2
  have hwC : fp_fw 999 (fv μ 1) := by rw [hR.1.1]; exact hwM
  have n14 : 0 ≤ μ 1 4 ∧ μ 1 4 ≤ 4 := by omega
  have nM : μ 1 4 = μ 83 14 := (fp_ct_n hR.1.1).1 4 (by decide)
  refine am_go (ct := fun pc => Nat.beq pc 1662) am_oL_law 60 ?_
  conv => whnf
  repeat' first
    | (refine (?_ : am_wp _ _ _ _ _ _ _ _ _ _ _ _); conv => whnf)
    | refine And.intro ⟨rfl, rfl⟩ ?_
    | refine And.intro (ix _ (by decide) (by decide)) ?_
    | refine And.intro trivial ?_
    | (have c15 : am_c (μ 0 15) = μ 0 15 := (by rcases hR.2.2.2 with ⟨a, -⟩ | ⟨a, -⟩ <;> rw [a] <;> rfl); refine s_restore (by omega) c15 (fun a1 μ1 f1 h1 z62 e48 x49 e53 x54 e55 x56 => ?_) (fun a0 μ1 f1 => ?_))
    | (have t25 : μ1 83 25 = μ 83 25 := f1 83 25 (by omega) (by omega) (by omega) (by omega); have c25 : am_c (μ1 83 25) = μ1 83 25 := (by rw [t25]; rcases hR.2.2.2 with ⟨-, a⟩ | ⟨-, a, -⟩ <;> rw [a] <;> rfl); refine n_restore c25 (fun b1 μ2 f2 u z33 => ?_) (fun b0 μ2 f2 => ?_))
    | (have t25 : μ1 83 25 = μ 83 25 := f1 83 25 (by omega); have c25 : am_c (μ1 83 25) = μ1 83 25 := (by rw [t25]; rcases hR.2.2.2 with ⟨-, a⟩ | ⟨-, a, -⟩ <;> rw [a] <;> rfl); refine n_restore c25 (fun b1 μ2 f2 u z33 => ?_) (fun b0 μ2 f2 => ?_))
    | (refine hH _ ?_; first | exact LJ_restore hI a1 f1 h1 z62 e48 x49 e53 x54 e55 x56 f2 u z33 | exact LJ_fr hI (LI_ref hI.1 f1 f2) (fun a b q => (f2 a b (by unfold rq_K at q; omega)).trans (f1 a b (by unfold rq_K at q; omega))) | (exfalso; rcases hR.2.2.2 with ⟨x, y⟩ | ⟨x, y, -⟩ <;> rw [t25] at * <;> omega))
  all_goals (first | exact LJ_restore hI a1 f1 h1 z62 e48 x49 e53 x54 e55 x56 f2 u z33 | exact LJ_fr hI (LI_ref hI.1 f1 f2) (fun a b q => (f2 a b (by unfold rq_K at q; omega)).trans (f1 a b (by unfold rq_K at q; omega))) | (exfalso; rcases hR.2.2.2 with ⟨x, y⟩ | ⟨x, y, -⟩ <;> rw [t25] at * <;> omega) | (trace_state; fail))
theorem lx_c51 {l : Launch} {L : Nat} {xs : Nat → Int} {i : Int} (hX : lx_X xs) (hL : L ≤ 2560) (i0 : 0 ≤ i) (i1 : i ≤ (L : Int) - 5) (hH : lx_H l L xs i) (μ : am_N) (hI : lx_J μ) : am_AW l L xs 0 lx_Q 1639 [some (.inr (.inr 999)), some (.inr (.inr 0)), some (.inr (.inr 83)), some (.inl i)] [] μ := by
  have iL : (L : Int) ≤ 2560 := by omega
  have ix : ∀ k : Int, 0 ≤ k → k ≤ 4 → 0 ≤ am_c (i + k) ∧ am_c (i + k) < L := fun k h0 h1 => by rw [am_cR (by omega) (by omega)]; omega
  refine am_go (ct := fun pc => Nat.beq pc 1662) am_oL_law 60 ?_
  conv => whnf
  repeat' first
    | (refine (?_ : am_wp _ _ _ _ _ _ _ _ _ _ _ _); conv => whnf)
    | refine And.intro ⟨rfl, rfl⟩ ?_
    | refine And.intro (ix _ (by decide) (by decide)) ?_
    | refine And.intro trivial ?_
    | refine w_count_X6 (ν := μ) _ hI.1.1 (hX _).1 (hX _).2 (fun r1 μ1 h0 => ?_)
  have h1 := gv_of_sx h0
  have hE : lx_E [] := lx_c rfl
  have hm1 := lx_mi hE h1 hI.1.2.1
  repeat' first
    | (refine (?_ : am_wp _ _ _ _ _ _ _ _ _ _ _ _); conv => whnf)
    | refine And.intro ⟨rfl, rfl⟩ ?_
    | refine And.intro (ix _ (by decide) (by decide)) ?_
    | refine And.intro trivial ?_
    | refine m_count _ hm1 (hX _).1 (hX _).2 (fun r2 μ2 h2 => ?_)
  have hA : lx_A ms := lx_A0
  have hI2 : lx_J μ2 := LJ_weak hI h1 h2 hA fp_Acs fp_Ads
  repeat' first
    | (refine (?_ : am_wp _ _ _ _ _ _ _ _ _ _ _ _); conv => whnf)
    | refine And.intro trivial ?_
    | exact hH _ hI2
