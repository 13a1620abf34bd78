theorem dL_fits_315 : decode cL_fits 315 = .ok (.iload 4, 2) := by decide +kernel
theorem dL_fits_317 : decode cL_fits 317 = .ok (.invokestatic 99, 3) := by decide +kernel
theorem dL_fits_320 : decode cL_fits 320 = .ok (.iconst 5, 1) := by decide +kernel
theorem dL_fits_321 : decode cL_fits 321 = .ok (.irem, 1) := by decide +kernel
theorem dL_fits_322 : decode cL_fits 322 = .ok (.ifCond .ne 55, 3) := by decide +kernel
theorem dL_fits_325 : decode cL_fits 325 = .ok (.aload_n 0, 1) := by decide +kernel
theorem dL_fits_326 : decode cL_fits 326 = .ok (.iload 4, 2) := by decide +kernel
theorem dL_fits_328 : decode cL_fits 328 = .ok (.invokestatic 99, 3) := by decide +kernel
theorem dL_fits_331 : decode cL_fits 331 = .ok (.ifCond .le 46, 3) := by decide +kernel
theorem dL_fits_334 : decode cL_fits 334 = .ok (.aload_n 0, 1) := by decide +kernel
theorem dL_fits_335 : decode cL_fits 335 = .ok (.iload 4, 2) := by decide +kernel
theorem dL_fits_337 : decode cL_fits 337 = .ok (.invokestatic 99, 3) := by decide +kernel
theorem dL_fits_340 : decode cL_fits 340 = .ok (.aload_n 0, 1) := by decide +kernel
theorem dL_fits_341 : decode cL_fits 341 = .ok (.invokevirtual 102, 3) := by decide +kernel
theorem dL_fits_344 : decode cL_fits 344 = .ok (.if_icmp .gt 9, 3) := by decide +kernel
theorem dL_fits_347 : decode cL_fits 347 = .ok (.iload 5, 2) := by decide +kernel
theorem dL_fits_349 : decode cL_fits 349 = .ok (.iconst 1, 1) := by decide +kernel
theorem dL_fits_350 : decode cL_fits 350 = .ok (.if_icmp .ne 27, 3) := by decide +kernel
theorem dL_fits_353 : decode cL_fits 353 = .ok (.aload_n 0, 1) := by decide +kernel
theorem dL_fits_354 : decode cL_fits 354 = .ok (.iload 4, 2) := by decide +kernel
theorem dL_fits_356 : decode cL_fits 356 = .ok (.invokestatic 106, 3) := by decide +kernel
theorem dL_fits_359 : decode cL_fits 359 = .ok (.ifCond .lt 18, 3) := by decide +kernel
theorem dL_fits_362 : decode cL_fits 362 = .ok (.aload_n 0, 1) := by decide +kernel
theorem dL_fits_363 : decode cL_fits 363 = .ok (.iload 4, 2) := by decide +kernel
theorem dL_fits_365 : decode cL_fits 365 = .ok (.invokestatic 106, 3) := by decide +kernel
theorem dL_fits_368 : decode cL_fits 368 = .ok (.bipush 64, 2) := by decide +kernel
theorem dL_fits_370 : decode cL_fits 370 = .ok (.if_icmp .ge 7, 3) := by decide +kernel
theorem dL_fits_373 : decode cL_fits 373 = .ok (.iconst 1, 1) := by decide +kernel
theorem dL_fits_374 : decode cL_fits 374 = .ok (.goto 4, 3) := by decide +kernel
theorem dL_fits_377 : decode cL_fits 377 = .ok (.iconst 0, 1) := by decide +kernel
theorem dL_fits_378 : decode cL_fits 378 = .ok (.istore_n 2, 1) := by decide +kernel
theorem dL_fits_379 : decode cL_fits 379 = .ok (.iinc 4 1, 3) := by decide +kernel
theorem dL_fits_382 : decode cL_fits 382 = .ok (.goto (-153), 3) := by decide +kernel
theorem dL_fits_385 : decode cL_fits 385 = .ok (.iload_n 2, 1) := by decide +kernel
theorem dL_fits_386 : decode cL_fits 386 = .ok (.ifCond .eq 15, 3) := by decide +kernel
theorem dL_fits_389 : decode cL_fits 389 = .ok (.iload_n 3, 1) := by decide +kernel
theorem dL_fits_390 : decode cL_fits 390 = .ok (.bipush 60, 2) := by decide +kernel
theorem dL_fits_392 : decode cL_fits 392 = .ok (.iload_n 1, 1) := by decide +kernel
theorem dL_fits_393 : decode cL_fits 393 = .ok (.iadd, 1) := by decide +kernel
theorem dL_fits_394 : decode cL_fits 394 = .ok (.if_icmp .ne 7, 3) := by decide +kernel
theorem dL_fits_397 : decode cL_fits 397 = .ok (.iconst 1, 1) := by decide +kernel
theorem dL_fits_398 : decode cL_fits 398 = .ok (.goto 4, 3) := by decide +kernel
theorem dL_fits_401 : decode cL_fits 401 = .ok (.iconst 0, 1) := by decide +kernel
theorem dL_fits_402 : decode cL_fits 402 = .ok (.ireturn, 1) := by decide +kernel
set_option maxRecDepth 20000 in
theorem ggL_law_X2_init : GoodIn wsL_law wsX2_init := goodIn_r _ [6, 7, 8, 9, 10, 11, 12, 13, 14, 15, 16, 17, 18, 19, 20, 21, 22, 23, 24, 25, 26, 27, 28, 29, 30, 31, 32, 33, 34, 3, 35, 36, 37, 38, 39, 40, 41, 42, 43, 44, 45, 46, 47, 48, 49, 50, 51, 52, 53, 54, 55, 56, 57, 58, 386, 387, 388, 389, 390, 391, 392, 393, 394, 395, 396, 397, 398, 399, 400, 401, 402, 403, 404, 405, 406, 407] (by decide +kernel) (by decide +kernel)
set_option maxRecDepth 20000 in
theorem gL_law_X2_init : GoodIn wsL_law (wsX2_init) := ggL_law_X2_init
set_option maxRecDepth 20000 in
theorem ggL_law_L_fits : GoodIn wsL_law wsL_fits := goodIn_ca (goodIn_r _ [62, 63, 64, 61, 65, 66, 67, 68, 69, 2, 70, 71, 72, 73, 74, 75, 76, 13, 77, 78, 79, 80, 81, 82, 83, 84, 85, 86, 87, 88, 89, 90, 91, 92, 93, 94, 95, 96, 97, 98, 99, 100, 101, 11, 102, 103, 104, 105, 106, 107, 108, 109, 110, 111, 112, 113, 114, 115, 116, 117, 118, 119, 120, 121, 122, 123, 124, 125, 126, 127, 128, 129, 130, 131, 132, 133, 134, 135, 136, 137, 138, 139, 140, 141, 142, 143, 144, 145, 146, 147, 148, 14, 149, 150, 151, 152, 153, 154, 155, 395, 396, 397, 398, 399, 400, 401, 402, 403, 404, 386, 387, 388, 389, 390, 391, 392, 393, 394] (by decide +kernel) (by decide +kernel)) (goodIn_sub (fun _ h => List.mem_append_left _ (List.mem_append_left _ (List.mem_append_right _ h))) (by decide +kernel))
set_option maxRecDepth 20000 in
theorem gL_law_L_fits : GoodIn wsL_law (va_wsS RL 109 yL_fits wsL_fits) := goodIn_app (goodIn_of _ (by decide +kernel)) ggL_law_L_fits
set_option maxRecDepth 20000 in
theorem ggL_law_L_cell : GoodIn wsL_law wsL_cell := goodIn_r _ [158, 159, 160] (by decide +kernel) (by decide +kernel)
set_option maxRecDepth 20000 in
theorem gL_law_L_cell : GoodIn wsL_law (va_wsS RL 113 yL_cell wsL_cell) := goodIn_app (goodIn_of _ (by decide +kernel)) ggL_law_L_cell
set_option maxRecDepth 20000 in
theorem ggL_law_L_plan : GoodIn wsL_law wsL_plan := goodIn_ca (goodIn_ca (goodIn_r _ [163, 66, 164, 165, 166, 167, 2, 168, 169, 170, 71, 72, 73, 74, 75, 76, 13, 98, 99, 100, 101, 11, 171, 172, 173, 174, 175, 176, 177, 33, 178, 179, 180, 181, 182, 183, 184, 185, 186, 187, 188, 189, 190, 191, 192, 193, 194, 195, 48, 196, 197, 198, 199, 200, 201, 202, 203, 204, 205, 206, 207, 208, 209, 210, 211, 212, 213, 47, 214, 215, 216, 217, 218, 219, 220, 221, 222, 223, 224, 225, 226, 227, 228, 229, 230, 231, 232, 233, 234, 235, 236, 237, 238, 239, 240, 241, 242, 243, 244, 245, 246, 247, 395, 396, 397, 398, 399, 400, 401, 402, 403, 404, 386, 387, 388, 405, 406, 407] (by decide +kernel) (by decide +kernel)) (goodIn_sub (fun _ h => List.mem_append_left _ (List.mem_append_right _ h)) (by decide +kernel))) (goodIn_sub (fun _ h => List.mem_append_left _ (List.mem_append_left _ (List.mem_append_right _ h))) (by decide +kernel))
set_option maxRecDepth 20000 in
theorem gL_law_L_plan : GoodIn wsL_law (va_wsS RL 117 yL_plan wsL_plan) := goodIn_app (goodIn_of _ (by decide +kernel)) ggL_law_L_plan
set_option maxRecDepth 20000 in
theorem ggL_law_L_drop : GoodIn wsL_law wsL_drop := goodIn_ca (goodIn_ca (goodIn_r _ [250, 66, 164, 251, 252, 253, 2, 254, 169, 170, 71, 72, 73, 74, 75, 76, 13, 98, 99, 100, 101, 11, 171, 172, 173, 174, 175, 176, 177, 33, 178, 179, 180, 181, 182, 183, 184, 185, 186, 187, 188, 189, 190, 191, 192, 193, 194, 195, 48, 255, 256, 257, 258, 259, 260, 261, 262, 200, 201, 263, 245, 246, 247, 120, 121, 122, 123, 264, 265, 266, 267, 268, 269, 270, 271, 272, 273, 274, 275, 395, 396, 397, 398, 399, 400, 401, 402, 403, 404, 386, 387, 388, 405, 406, 407, 389, 390, 391, 392, 393, 394] (by decide +kernel) (by decide +kernel)) (goodIn_sub (fun _ h => List.mem_append_left _ (List.mem_append_right _ h)) (by decide +kernel))) (goodIn_sub (fun _ h => List.mem_append_left _ (List.mem_append_left _ (List.mem_append_right _ h))) (by decide +kernel))
set_option maxRecDepth 20000 in
theorem gL_law_L_drop : GoodIn wsL_law (va_wsS RL 119 yL_drop wsL_drop) := goodIn_app (goodIn_of _ (by decide +kernel)) ggL_law_L_drop
set_option maxRecDepth 20000 in
theorem ggL_law_L_state : GoodIn wsL_law wsL_state := goodIn_ca (goodIn_r _ [79, 66, 80, 81, 82, 2, 83, 71, 72, 73, 74, 75, 76, 13, 395, 396, 397, 398, 399, 400, 401, 402, 403, 404, 386, 387, 388] (by decide +kernel) (by decide +kernel)) (goodIn_sub (fun _ h => List.mem_append_left _ (List.mem_append_left _ (List.mem_append_right _ h))) (by decide +kernel))
set_option maxRecDepth 20000 in
theorem gL_law_L_state : GoodIn wsL_law (va_wsS RL 82 yL_state wsL_state) := goodIn_app (goodIn_of _ (by decide +kernel)) ggL_law_L_state
set_option maxRecDepth 20000 in
theorem ggL_law_L_turn : GoodIn wsL_law wsL_turn := goodIn_ca (goodIn_r _ [140, 66, 141, 142, 143, 2, 144, 71, 72, 73, 74, 75, 76, 13, 395, 396, 397, 398, 399, 400, 401, 402, 403, 404, 386, 387, 388] (by decide +kernel) (by decide +kernel)) (goodIn_sub (fun _ h => List.mem_append_left _ (List.mem_append_left _ (List.mem_append_right _ h))) (by decide +kernel))
set_option maxRecDepth 20000 in
theorem gL_law_L_turn : GoodIn wsL_law (va_wsS RL 99 yL_turn wsL_turn) := goodIn_app (goodIn_of _ (by decide +kernel)) ggL_law_L_turn
set_option maxRecDepth 20000 in
theorem ggL_law_L_ask : GoodIn wsL_law wsL_ask := goodIn_ca (goodIn_ca (goodIn_r _ [278, 66, 164, 279, 280, 281, 2, 282, 169, 170, 71, 72, 73, 74, 75, 76, 13, 98, 99, 100, 101, 11, 283, 284, 285, 286, 14, 287, 288, 289, 290, 395, 396, 397, 398, 399, 400, 401, 402, 403, 404, 389, 390, 391, 392, 393, 394, 386, 387, 388] (by decide +kernel) (by decide +kernel)) (goodIn_sub (fun _ h => List.mem_append_left _ (List.mem_append_right _ h)) (by decide +kernel))) (goodIn_sub (fun _ h => List.mem_append_left _ (List.mem_append_left _ (List.mem_append_right _ h))) (by decide +kernel))
set_option maxRecDepth 20000 in
theorem gL_law_L_ask : GoodIn wsL_law (va_wsS RL 121 yL_ask wsL_ask) := goodIn_app (goodIn_of _ (by decide +kernel)) ggL_law_L_ask
set_option maxRecDepth 20000 in
theorem ggL_law_L_queue : GoodIn wsL_law wsL_queue := goodIn_ca (goodIn_r _ [111, 66, 112, 113, 114, 2, 115, 98, 99, 100, 101, 75, 76, 11, 116, 117, 118, 119, 13, 120, 121, 122, 123, 386, 387, 388, 395, 396, 397, 398, 399, 400, 401, 402, 403, 404, 389, 390, 391, 392, 393, 394] (by decide +kernel) (by decide +kernel)) (goodIn_sub (fun _ h => List.mem_append_left _ (List.mem_append_left _ (List.mem_append_right _ h))) (by decide +kernel))
set_option maxRecDepth 20000 in
theorem gL_law_L_queue : GoodIn wsL_law (va_wsS RL 93 yL_queue wsL_queue) := goodIn_app (goodIn_of _ (by decide +kernel)) ggL_law_L_queue
set_option maxRecDepth 20000 in
theorem ggL_law_L_inside : GoodIn wsL_law wsL_inside := goodIn_ca (goodIn_r _ [126, 66, 127, 128, 129, 2, 130, 98, 99, 100, 101, 75, 76, 11, 116, 117, 118, 119, 13, 120, 121, 122, 123, 386, 387, 388, 395, 396, 397, 398, 399, 400, 401, 402, 403, 404, 389, 390, 391, 392, 393, 394] (by decide +kernel) (by decide +kernel)) (goodIn_sub (fun _ h => List.mem_append_left _ (List.mem_append_left _ (List.mem_append_right _ h))) (by decide +kernel))
set_option maxRecDepth 20000 in
theorem gL_law_L_inside : GoodIn wsL_law (va_wsS RL 95 yL_inside wsL_inside) := goodIn_app (goodIn_of _ (by decide +kernel)) ggL_law_L_inside
set_option maxRecDepth 20000 in
theorem ggL_law_L_open : GoodIn wsL_law wsL_open := goodIn_ca (goodIn_r _ [293, 66, 294, 295, 296, 2, 297, 98, 99, 100, 101, 75, 76, 11, 298, 299, 300, 301, 13, 120, 121, 122, 123, 264, 265, 266, 267, 268, 269, 270, 271, 272, 273, 274, 275, 389, 390, 391, 392, 393, 394, 386, 387, 388, 395, 396, 397, 398, 399, 400, 401, 402, 403, 404] (by decide +kernel) (by decide +kernel)) (goodIn_sub (fun _ h => List.mem_append_left _ (List.mem_append_left _ (List.mem_append_right _ h))) (by decide +kernel))
set_option maxRecDepth 20000 in
theorem gL_law_L_open : GoodIn wsL_law (va_wsS RL 123 yL_open wsL_open) := goodIn_app (goodIn_of _ (by decide +kernel)) ggL_law_L_open
set_option maxRecDepth 20000 in
theorem ggL_law_L_setPavilion : GoodIn wsL_law wsL_setPavilion := goodIn_ca (goodIn_ca (goodIn_r _ [304, 66, 305, 306, 307, 308, 2, 309, 310, 311, 98, 99, 100, 101, 75, 76, 11, 389, 390, 391, 392, 393, 394, 386, 387, 388] (by decide +kernel) (by decide +kernel)) (goodIn_sub (fun _ h => List.mem_append_right _ h) (by decide +kernel))) (goodIn_sub (fun _ h => List.mem_append_left _ (List.mem_append_left _ (List.mem_append_right _ h))) (by decide +kernel))
set_option maxRecDepth 20000 in
theorem gL_law_L_setPavilion : GoodIn wsL_law (va_wsS RL 126 yL_setPavilion wsL_setPavilion) := goodIn_app (goodIn_of _ (by decide +kernel)) ggL_law_L_setPavilion
set_option maxRecDepth 20000 in
theorem ggL_law_L_stock : GoodIn wsL_law wsL_stock := goodIn_ca (goodIn_r _ [104, 66, 105, 106, 107, 2, 108, 98, 99, 100, 101, 75, 76, 11, 389, 390, 391, 392, 393, 394, 386, 387, 388] (by decide +kernel) (by decide +kernel)) (goodIn_sub (fun _ h => List.mem_append_left _ (List.mem_append_left _ (List.mem_append_right _ h))) (by decide +kernel))
set_option maxRecDepth 20000 in
theorem gL_law_L_stock : GoodIn wsL_law (va_wsS RL 91 yL_stock wsL_stock) := goodIn_app (goodIn_of _ (by decide +kernel)) ggL_law_L_stock
set_option maxRecDepth 20000 in
theorem ggL_law_L_demand : GoodIn wsL_law wsL_demand := goodIn_ca (goodIn_r _ [133, 66, 134, 135, 136, 2, 137, 98, 99, 100, 101, 75, 76, 11, 389, 390, 391, 392, 393, 394, 386, 387, 388] (by decide +kernel) (by decide +kernel)) (goodIn_sub (fun _ h => List.mem_append_left _ (List.mem_append_left _ (List.mem_append_right _ h))) (by decide +kernel))
set_option maxRecDepth 20000 in
theorem gL_law_L_demand : GoodIn wsL_law (va_wsS RL 97 yL_demand wsL_demand) := goodIn_app (goodIn_of _ (by decide +kernel)) ggL_law_L_demand
set_option maxRecDepth 20000 in
theorem ggL_law_L_sent : GoodIn wsL_law wsL_sent := goodIn_ca (goodIn_r _ [93, 66, 94, 95, 96, 2, 97, 71, 72, 73, 74, 75, 76, 13, 98, 99, 100, 101, 11, 395, 396, 397, 398, 399, 400, 401, 402, 403, 404, 389, 390, 391, 392, 393, 394, 386, 387, 388] (by decide +kernel) (by decide +kernel)) (goodIn_sub (fun _ h => List.mem_append_left _ (List.mem_append_left _ (List.mem_append_right _ h))) (by decide +kernel))
set_option maxRecDepth 20000 in
theorem gL_law_L_sent : GoodIn wsL_law (va_wsS RL 88 yL_sent wsL_sent) := goodIn_app (goodIn_of _ (by decide +kernel)) ggL_law_L_sent
set_option maxRecDepth 20000 in
theorem ggL_law_L_send : GoodIn wsL_law wsL_send := goodIn_ca (goodIn_ca (goodIn_r _ [314, 66, 164, 315, 316, 317, 2, 318, 169, 170, 71, 72, 73, 74, 75, 76, 13, 98, 99, 100, 101, 11, 319, 320, 321, 322, 389, 390, 391, 392, 393, 394, 395, 396, 397, 398, 399, 400, 401, 402, 403, 404, 386, 387, 388] (by decide +kernel) (by decide +kernel)) (goodIn_sub (fun _ h => List.mem_append_left _ (List.mem_append_right _ h)) (by decide +kernel))) (goodIn_sub (fun _ h => List.mem_append_left _ (List.mem_append_left _ (List.mem_append_right _ h))) (by decide +kernel))
set_option maxRecDepth 20000 in
theorem gL_law_L_send : GoodIn wsL_law (va_wsS RL 129 yL_send wsL_send) := goodIn_app (goodIn_of _ (by decide +kernel)) ggL_law_L_send
set_option maxRecDepth 20000 in
theorem ggL_law_L_stamps : GoodIn wsL_law wsL_stamps := goodIn_ca (goodIn_r _ [151, 66, 152, 153, 154, 2, 155, 71, 72, 73, 74, 75, 76, 13, 395, 396, 397, 398, 399, 400, 401, 402, 403, 404, 386, 387, 388] (by decide +kernel) (by decide +kernel)) (goodIn_sub (fun _ h => List.mem_append_left _ (List.mem_append_left _ (List.mem_append_right _ h))) (by decide +kernel))
set_option maxRecDepth 20000 in
theorem gL_law_L_stamps : GoodIn wsL_law (va_wsS RL 106 yL_stamps wsL_stamps) := goodIn_app (goodIn_of _ (by decide +kernel)) ggL_law_L_stamps
set_option maxRecDepth 20000 in
theorem ggL_law_L_reprint : GoodIn wsL_law wsL_reprint := goodIn_ca (goodIn_r _ [325, 305, 326, 327, 328, 2, 329, 310, 311, 11, 386, 387, 388, 389, 390, 391, 392, 393, 394] (by decide +kernel) (by decide +kernel)) (goodIn_sub (fun _ h => List.mem_append_right _ h) (by decide +kernel))
set_option maxRecDepth 20000 in
theorem gL_law_L_reprint : GoodIn wsL_law (va_wsS RL 131 yL_reprint wsL_reprint) := goodIn_app (goodIn_of _ (by decide +kernel)) ggL_law_L_reprint
set_option maxRecDepth 20000 in
theorem ggL_law_L_advance : GoodIn wsL_law wsL_advance := goodIn_ca (goodIn_ca (goodIn_r _ [332, 305, 164, 333, 334, 335, 2, 336, 310, 311, 169, 170, 14, 337, 338, 339, 340, 341, 342, 343, 344, 13, 272, 273, 274, 275, 345, 346, 347, 348, 349, 350, 351, 352, 268, 269, 270, 271, 264, 265, 266, 267, 353, 354, 355, 356, 120, 121, 122, 123, 357, 358, 359, 360, 361, 362, 363, 364, 365, 366, 367, 368, 369, 175, 176, 177, 33, 178, 179, 180, 181, 182, 183, 184, 185, 186, 187, 188, 189, 190, 191, 192, 193, 194, 195, 48, 319, 320, 321, 322, 116, 117, 118, 119, 370, 371, 372, 373, 11, 374, 375, 376, 377, 378, 379, 380, 381, 382, 383, 384, 385, 386, 387, 388, 395, 396, 397, 398, 399, 400, 401, 402, 403, 404, 389, 390, 391, 392, 393, 394, 405, 406, 407] (by decide +kernel) (by decide +kernel)) (goodIn_sub (fun _ h => List.mem_append_right _ h) (by decide +kernel))) (goodIn_sub (fun _ h => List.mem_append_left _ (List.mem_append_right _ h)) (by decide +kernel))
set_option maxRecDepth 20000 in
theorem gL_law_L_advance : GoodIn wsL_law (va_wsS RL 133 yL_advance wsL_advance) := goodIn_app (goodIn_of _ (by decide +kernel)) ggL_law_L_advance
set_option maxRecDepth 20000 in
theorem ggL_law_X2_minute : GoodIn wsL_law wsX2_minute := goodIn_r _ [148, 14, 386, 387, 388] (by decide +kernel) (by decide +kernel)
set_option maxRecDepth 20000 in
theorem gL_law_X2_minute : GoodIn wsL_law (wsV RL 102 RX2 yX2_minute wsX2_minute) := goodIn_app (goodIn_of _ (by decide +kernel)) ggL_law_X2_minute
theorem dL_law_0 : decode cL_law 0 = .ok (.new 10, 3) := by decide +kernel
theorem dL_law_3 : decode cL_law 3 = .ok (.dup, 1) := by decide +kernel
theorem dL_law_4 : decode cL_law 4 = .ok (.invokespecial 108, 3) := by decide +kernel
theorem dL_law_7 : decode cL_law 7 = .ok (.astore_n 1, 1) := by decide +kernel
theorem dL_law_8 : decode cL_law 8 = .ok (.bipush 8, 2) := by decide +kernel
theorem dL_law_10 : decode cL_law 10 = .ok (.newarray .int, 2) := by decide +kernel
theorem dL_law_12 : decode cL_law 12 = .ok (.astore_n 2, 1) := by decide +kernel
theorem dL_law_13 : decode cL_law 13 = .ok (.iconst 0, 1) := by decide +kernel
theorem dL_law_14 : decode cL_law 14 = .ok (.istore_n 3, 1) := by decide +kernel
theorem dL_law_15 : decode cL_law 15 = .ok (.iconst 0, 1) := by decide +kernel
theorem dL_law_16 : decode cL_law 16 = .ok (.istore 4, 2) := by decide +kernel
theorem dL_law_18 : decode cL_law 18 = .ok (.aload_n 1, 1) := by decide +kernel
theorem dL_law_19 : decode cL_law 19 = .ok (.iconst 0, 1) := by decide +kernel
theorem dL_law_20 : decode cL_law 20 = .ok (.invokestatic 109, 3) := by decide +kernel
theorem dL_law_23 : decode cL_law 23 = .ok (.istore 5, 2) := by decide +kernel
theorem dL_law_25 : decode cL_law 25 = .ok (.iconst 0, 1) := by decide +kernel
theorem dL_law_26 : decode cL_law 26 = .ok (.istore 6, 2) := by decide +kernel
theorem dL_law_28 : decode cL_law 28 = .ok (.iload 6, 2) := by decide +kernel
theorem dL_law_30 : decode cL_law 30 = .ok (.bipush 56, 2) := by decide +kernel
theorem dL_law_32 : decode cL_law 32 = .ok (.if_icmp .ge 966, 3) := by decide +kernel
theorem dL_law_35 : decode cL_law 35 = .ok (.iload 5, 2) := by decide +kernel
theorem dL_law_37 : decode cL_law 37 = .ok (.ifCond .eq 961, 3) := by decide +kernel
theorem dL_law_40 : decode cL_law 40 = .ok (.aload_n 0, 1) := by decide +kernel
theorem dL_law_41 : decode cL_law 41 = .ok (.iload 6, 2) := by decide +kernel
theorem dL_law_43 : decode cL_law 43 = .ok (.invokestatic 113, 3) := by decide +kernel
theorem dL_law_46 : decode cL_law 46 = .ok (.istore 7, 2) := by decide +kernel
theorem dL_law_48 : decode cL_law 48 = .ok (.iload 7, 2) := by decide +kernel
theorem dL_law_50 : decode cL_law 50 = .ok (.bipush 16, 2) := by decide +kernel
theorem dL_law_52 : decode cL_law 52 = .ok (.idiv, 1) := by decide +kernel
theorem dL_law_53 : decode cL_law 53 = .ok (.istore 8, 2) := by decide +kernel
theorem dL_law_55 : decode cL_law 55 = .ok (.iload 7, 2) := by decide +kernel
theorem dL_law_57 : decode cL_law 57 = .ok (.bipush 16, 2) := by decide +kernel
theorem dL_law_59 : decode cL_law 59 = .ok (.irem, 1) := by decide +kernel
theorem dL_law_60 : decode cL_law 60 = .ok (.istore 9, 2) := by decide +kernel
theorem dL_law_62 : decode cL_law 62 = .ok (.iload 8, 2) := by decide +kernel
theorem dL_law_64 : decode cL_law 64 = .ok (.bipush 8, 2) := by decide +kernel
theorem dL_law_66 : decode cL_law 66 = .ok (.irem, 1) := by decide +kernel
theorem dL_law_67 : decode cL_law 67 = .ok (.istore 10, 2) := by decide +kernel
theorem dL_law_69 : decode cL_law 69 = .ok (.iload 8, 2) := by decide +kernel
theorem dL_law_71 : decode cL_law 71 = .ok (.bipush 8, 2) := by decide +kernel
theorem dL_law_73 : decode cL_law 73 = .ok (.idiv, 1) := by decide +kernel
theorem dL_law_74 : decode cL_law 74 = .ok (.bipush 6, 2) := by decide +kernel
theorem dL_law_76 : decode cL_law 76 = .ok (.irem, 1) := by decide +kernel
theorem dL_law_77 : decode cL_law 77 = .ok (.istore 11, 2) := by decide +kernel
theorem dL_law_79 : decode cL_law 79 = .ok (.iload 9, 2) := by decide +kernel
theorem dL_law_81 : decode cL_law 81 = .ok (.iconst 4, 1) := by decide +kernel
theorem dL_law_82 : decode cL_law 82 = .ok (.if_icmp .ge 87, 3) := by decide +kernel
theorem dL_law_85 : decode cL_law 85 = .ok (.aload_n 1, 1) := by decide +kernel
theorem dL_law_86 : decode cL_law 86 = .ok (.iload 10, 2) := by decide +kernel
theorem dL_law_88 : decode cL_law 88 = .ok (.iload 11, 2) := by decide +kernel
theorem dL_law_90 : decode cL_law 90 = .ok (.invokestatic 117, 3) := by decide +kernel
theorem dL_law_93 : decode cL_law 93 = .ok (.istore 12, 2) := by decide +kernel
theorem dL_law_95 : decode cL_law 95 = .ok (.iload 12, 2) := by decide +kernel
theorem dL_law_97 : decode cL_law 97 = .ok (.bipush (-103), 2) := by decide +kernel
theorem dL_law_99 : decode cL_law 99 = .ok (.if_icmp .ne 34, 3) := by decide +kernel
theorem dL_law_102 : decode cL_law 102 = .ok (.aload_n 1, 1) := by decide +kernel
theorem dL_law_103 : decode cL_law 103 = .ok (.iload 10, 2) := by decide +kernel
theorem dL_law_105 : decode cL_law 105 = .ok (.iload 11, 2) := by decide +kernel
theorem dL_law_107 : decode cL_law 107 = .ok (.invokestatic 119, 3) := by decide +kernel
theorem dL_law_110 : decode cL_law 110 = .ok (.ifCond .lt 19, 3) := by decide +kernel
theorem dL_law_113 : decode cL_law 113 = .ok (.aload_n 1, 1) := by decide +kernel
theorem dL_law_114 : decode cL_law 114 = .ok (.iload 10, 2) := by decide +kernel
theorem dL_law_116 : decode cL_law 116 = .ok (.iload 11, 2) := by decide +kernel
theorem dL_law_118 : decode cL_law 118 = .ok (.invokestatic 117, 3) := by decide +kernel
theorem dL_law_121 : decode cL_law 121 = .ok (.iconst 1, 1) := by decide +kernel
theorem dL_law_122 : decode cL_law 122 = .ok (.if_icmp .lt 7, 3) := by decide +kernel
theorem dL_law_125 : decode cL_law 125 = .ok (.iconst 1, 1) := by decide +kernel
theorem dL_law_126 : decode cL_law 126 = .ok (.goto 38, 3) := by decide +kernel
theorem dL_law_129 : decode cL_law 129 = .ok (.iconst 0, 1) := by decide +kernel
theorem dL_law_130 : decode cL_law 130 = .ok (.goto 34, 3) := by decide +kernel
theorem dL_law_133 : decode cL_law 133 = .ok (.iload 12, 2) := by decide +kernel
theorem dL_law_135 : decode cL_law 135 = .ok (.iconst 1, 1) := by decide +kernel
theorem dL_law_136 : decode cL_law 136 = .ok (.if_icmp .lt 27, 3) := by decide +kernel
theorem dL_law_139 : decode cL_law 139 = .ok (.iload 12, 2) := by decide +kernel
theorem dL_law_141 : decode cL_law 141 = .ok (.bipush 6, 2) := by decide +kernel
theorem dL_law_143 : decode cL_law 143 = .ok (.if_icmp .gt 20, 3) := by decide +kernel
theorem dL_law_146 : decode cL_law 146 = .ok (.aload_n 1, 1) := by decide +kernel
theorem dL_law_147 : decode cL_law 147 = .ok (.iload 10, 2) := by decide +kernel
theorem dL_law_149 : decode cL_law 149 = .ok (.iload 11, 2) := by decide +kernel
theorem dL_law_151 : decode cL_law 151 = .ok (.invokestatic 117, 3) := by decide +kernel
theorem dL_law_154 : decode cL_law 154 = .ok (.bipush (-103), 2) := by decide +kernel
theorem dL_law_156 : decode cL_law 156 = .ok (.if_icmp .ne 7, 3) := by decide +kernel
theorem dL_law_159 : decode cL_law 159 = .ok (.iconst 1, 1) := by decide +kernel
theorem dL_law_160 : decode cL_law 160 = .ok (.goto 4, 3) := by decide +kernel
theorem dL_law_163 : decode cL_law 163 = .ok (.iconst 0, 1) := by decide +kernel
theorem dL_law_164 : decode cL_law 164 = .ok (.istore 5, 2) := by decide +kernel
theorem dL_law_166 : decode cL_law 166 = .ok (.goto 745, 3) := by decide +kernel
theorem dL_law_169 : decode cL_law 169 = .ok (.iload 9, 2) := by decide +kernel
theorem dL_law_171 : decode cL_law 171 = .ok (.iconst 4, 1) := by decide +kernel
theorem dL_law_172 : decode cL_law 172 = .ok (.if_icmp .ne 89, 3) := by decide +kernel
theorem dL_law_175 : decode cL_law 175 = .ok (.aload_n 1, 1) := by decide +kernel
theorem dL_law_176 : decode cL_law 176 = .ok (.iload 10, 2) := by decide +kernel
theorem dL_law_178 : decode cL_law 178 = .ok (.invokestatic 82, 3) := by decide +kernel
theorem dL_law_181 : decode cL_law 181 = .ok (.istore 12, 2) := by decide +kernel
theorem dL_law_183 : decode cL_law 183 = .ok (.aload_n 1, 1) := by decide +kernel
theorem dL_law_184 : decode cL_law 184 = .ok (.iload 10, 2) := by decide +kernel
theorem dL_law_186 : decode cL_law 186 = .ok (.iload 11, 2) := by decide +kernel
theorem dL_law_188 : decode cL_law 188 = .ok (.invokestatic 119, 3) := by decide +kernel
theorem dL_law_191 : decode cL_law 191 = .ok (.istore 13, 2) := by decide +kernel
theorem dL_law_193 : decode cL_law 193 = .ok (.iload 13, 2) := by decide +kernel
theorem dL_law_195 : decode cL_law 195 = .ok (.bipush (-103), 2) := by decide +kernel
theorem dL_law_197 : decode cL_law 197 = .ok (.if_icmp .eq 54, 3) := by decide +kernel
theorem dL_law_200 : decode cL_law 200 = .ok (.iload 13, 2) := by decide +kernel
theorem dL_law_202 : decode cL_law 202 = .ok (.ifCond .lt 53, 3) := by decide +kernel
theorem dL_law_205 : decode cL_law 205 = .ok (.iload 13, 2) := by decide +kernel
theorem dL_law_207 : decode cL_law 207 = .ok (.bipush 6, 2) := by decide +kernel
theorem dL_law_209 : decode cL_law 209 = .ok (.if_icmp .ge 46, 3) := by decide +kernel
theorem dL_law_212 : decode cL_law 212 = .ok (.aload_n 1, 1) := by decide +kernel
theorem dL_law_213 : decode cL_law 213 = .ok (.iload 10, 2) := by decide +kernel
theorem dL_law_215 : decode cL_law 215 = .ok (.iload 11, 2) := by decide +kernel
theorem dL_law_217 : decode cL_law 217 = .ok (.invokestatic 119, 3) := by decide +kernel
theorem dL_law_220 : decode cL_law 220 = .ok (.bipush (-103), 2) := by decide +kernel
theorem dL_law_222 : decode cL_law 222 = .ok (.if_icmp .ne 33, 3) := by decide +kernel
theorem dL_law_225 : decode cL_law 225 = .ok (.aload_n 1, 1) := by decide +kernel
theorem dL_law_226 : decode cL_law 226 = .ok (.iload 10, 2) := by decide +kernel
theorem dL_law_228 : decode cL_law 228 = .ok (.invokestatic 82, 3) := by decide +kernel
theorem dL_law_231 : decode cL_law 231 = .ok (.iload 12, 2) := by decide +kernel
theorem dL_law_233 : decode cL_law 233 = .ok (.if_icmp .eq 18, 3) := by decide +kernel
theorem dL_law_236 : decode cL_law 236 = .ok (.iload 12, 2) := by decide +kernel
theorem dL_law_238 : decode cL_law 238 = .ok (.iconst 1, 1) := by decide +kernel
theorem dL_law_239 : decode cL_law 239 = .ok (.if_icmp .ne 16, 3) := by decide +kernel
theorem dL_law_242 : decode cL_law 242 = .ok (.aload_n 1, 1) := by decide +kernel
theorem dL_law_243 : decode cL_law 243 = .ok (.iload 10, 2) := by decide +kernel
theorem dL_law_245 : decode cL_law 245 = .ok (.invokestatic 82, 3) := by decide +kernel
theorem dL_law_248 : decode cL_law 248 = .ok (.ifCond .ne 7, 3) := by decide +kernel
theorem dL_law_251 : decode cL_law 251 = .ok (.iconst 1, 1) := by decide +kernel
theorem dL_law_252 : decode cL_law 252 = .ok (.goto 4, 3) := by decide +kernel
theorem dL_law_255 : decode cL_law 255 = .ok (.iconst 0, 1) := by decide +kernel
theorem dL_law_256 : decode cL_law 256 = .ok (.istore 5, 2) := by decide +kernel
theorem dL_law_258 : decode cL_law 258 = .ok (.goto 653, 3) := by decide +kernel
theorem dL_law_261 : decode cL_law 261 = .ok (.iload 9, 2) := by decide +kernel
theorem dL_law_263 : decode cL_law 263 = .ok (.bipush 7, 2) := by decide +kernel
theorem dL_law_265 : decode cL_law 265 = .ok (.if_icmp .ge 165, 3) := by decide +kernel
theorem dL_law_268 : decode cL_law 268 = .ok (.aload_n 1, 1) := by decide +kernel
theorem dL_law_269 : decode cL_law 269 = .ok (.iload 10, 2) := by decide +kernel
theorem dL_law_271 : decode cL_law 271 = .ok (.invokestatic 99, 3) := by decide +kernel
theorem dL_law_274 : decode cL_law 274 = .ok (.istore 12, 2) := by decide +kernel
theorem dL_law_276 : decode cL_law 276 = .ok (.aload_n 1, 1) := by decide +kernel
theorem dL_law_277 : decode cL_law 277 = .ok (.iload 10, 2) := by decide +kernel
theorem dL_law_279 : decode cL_law 279 = .ok (.iload 11, 2) := by decide +kernel
theorem dL_law_281 : decode cL_law 281 = .ok (.invokestatic 121, 3) := by decide +kernel
theorem dL_law_284 : decode cL_law 284 = .ok (.istore 13, 2) := by decide +kernel
theorem dL_law_286 : decode cL_law 286 = .ok (.iload 13, 2) := by decide +kernel
theorem dL_law_288 : decode cL_law 288 = .ok (.bipush (-103), 2) := by decide +kernel
theorem dL_law_290 : decode cL_law 290 = .ok (.if_icmp .ne 22, 3) := by decide +kernel
theorem dL_law_293 : decode cL_law 293 = .ok (.aload_n 1, 1) := by decide +kernel
theorem dL_law_294 : decode cL_law 294 = .ok (.iload 10, 2) := by decide +kernel
theorem dL_law_296 : decode cL_law 296 = .ok (.invokestatic 99, 3) := by decide +kernel
theorem dL_law_299 : decode cL_law 299 = .ok (.iload 12, 2) := by decide +kernel
theorem dL_law_301 : decode cL_law 301 = .ok (.if_icmp .ne 7, 3) := by decide +kernel
theorem dL_law_304 : decode cL_law 304 = .ok (.iconst 1, 1) := by decide +kernel
theorem dL_law_305 : decode cL_law 305 = .ok (.goto 56, 3) := by decide +kernel
theorem dL_law_308 : decode cL_law 308 = .ok (.iconst 0, 1) := by decide +kernel
theorem dL_law_309 : decode cL_law 309 = .ok (.goto 52, 3) := by decide +kernel
theorem dL_law_312 : decode cL_law 312 = .ok (.iload 12, 2) := by decide +kernel
theorem dL_law_314 : decode cL_law 314 = .ok (.iconst (-1), 1) := by decide +kernel
theorem dL_law_315 : decode cL_law 315 = .ok (.if_icmp .ne 45, 3) := by decide +kernel
theorem dL_law_318 : decode cL_law 318 = .ok (.iload 13, 2) := by decide +kernel
theorem dL_law_320 : decode cL_law 320 = .ok (.iload 4, 2) := by decide +kernel
theorem dL_law_322 : decode cL_law 322 = .ok (.if_icmp .le 38, 3) := by decide +kernel
theorem dL_law_325 : decode cL_law 325 = .ok (.iload 13, 2) := by decide +kernel
theorem dL_law_327 : decode cL_law 327 = .ok (.iconst 5, 1) := by decide +kernel
theorem dL_law_328 : decode cL_law 328 = .ok (.irem, 1) := by decide +kernel
theorem dL_law_329 : decode cL_law 329 = .ok (.ifCond .ne 31, 3) := by decide +kernel
theorem dL_law_332 : decode cL_law 332 = .ok (.aload_n 1, 1) := by decide +kernel
theorem dL_law_333 : decode cL_law 333 = .ok (.iload 10, 2) := by decide +kernel
theorem dL_law_335 : decode cL_law 335 = .ok (.invokestatic 99, 3) := by decide +kernel
theorem dL_law_338 : decode cL_law 338 = .ok (.iload 13, 2) := by decide +kernel
theorem dL_law_340 : decode cL_law 340 = .ok (.if_icmp .ne 20, 3) := by decide +kernel
theorem dL_law_343 : decode cL_law 343 = .ok (.aload_n 1, 1) := by decide +kernel
theorem dL_law_344 : decode cL_law 344 = .ok (.iload 10, 2) := by decide +kernel
theorem dL_law_346 : decode cL_law 346 = .ok (.iload 11, 2) := by decide +kernel
theorem dL_law_348 : decode cL_law 348 = .ok (.invokestatic 121, 3) := by decide +kernel
theorem dL_law_351 : decode cL_law 351 = .ok (.bipush (-103), 2) := by decide +kernel
theorem dL_law_353 : decode cL_law 353 = .ok (.if_icmp .ne 7, 3) := by decide +kernel
theorem dL_law_356 : decode cL_law 356 = .ok (.iconst 1, 1) := by decide +kernel
theorem dL_law_357 : decode cL_law 357 = .ok (.goto 4, 3) := by decide +kernel
theorem dL_law_360 : decode cL_law 360 = .ok (.iconst 0, 1) := by decide +kernel
theorem dL_law_361 : decode cL_law 361 = .ok (.istore 5, 2) := by decide +kernel
theorem dL_law_363 : decode cL_law 363 = .ok (.iconst 0, 1) := by decide +kernel
theorem dL_law_364 : decode cL_law 364 = .ok (.istore 14, 2) := by decide +kernel
theorem dL_law_366 : decode cL_law 366 = .ok (.iload 14, 2) := by decide +kernel
theorem dL_law_368 : decode cL_law 368 = .ok (.bipush 8, 2) := by decide +kernel
theorem dL_law_370 : decode cL_law 370 = .ok (.if_icmp .ge 57, 3) := by decide +kernel
theorem dL_law_373 : decode cL_law 373 = .ok (.iload 5, 2) := by decide +kernel
theorem dL_law_375 : decode cL_law 375 = .ok (.ifCond .eq 52, 3) := by decide +kernel
theorem dL_law_378 : decode cL_law 378 = .ok (.iload 13, 2) := by decide +kernel
theorem dL_law_380 : decode cL_law 380 = .ok (.ifCond .le 47, 3) := by decide +kernel
theorem dL_law_383 : decode cL_law 383 = .ok (.iload 14, 2) := by decide +kernel
theorem dL_law_385 : decode cL_law 385 = .ok (.iload 10, 2) := by decide +kernel
theorem dL_law_387 : decode cL_law 387 = .ok (.if_icmp .eq 27, 3) := by decide +kernel
theorem dL_law_390 : decode cL_law 390 = .ok (.aload_n 1, 1) := by decide +kernel
theorem dL_law_391 : decode cL_law 391 = .ok (.iload 14, 2) := by decide +kernel
theorem dL_law_393 : decode cL_law 393 = .ok (.invokestatic 99, 3) := by decide +kernel
theorem dL_law_396 : decode cL_law 396 = .ok (.iload 13, 2) := by decide +kernel
theorem dL_law_398 : decode cL_law 398 = .ok (.if_icmp .ne 16, 3) := by decide +kernel
theorem dL_law_401 : decode cL_law 401 = .ok (.aload_n 1, 1) := by decide +kernel
theorem dL_law_402 : decode cL_law 402 = .ok (.iload 14, 2) := by decide +kernel
theorem dL_law_404 : decode cL_law 404 = .ok (.iload 11, 2) := by decide +kernel
theorem dL_law_406 : decode cL_law 406 = .ok (.invokestatic 121, 3) := by decide +kernel
theorem dL_law_409 : decode cL_law 409 = .ok (.bipush (-103), 2) := by decide +kernel
theorem dL_law_411 : decode cL_law 411 = .ok (.if_icmp .ne 7, 3) := by decide +kernel
theorem dL_law_414 : decode cL_law 414 = .ok (.iconst 1, 1) := by decide +kernel
theorem dL_law_415 : decode cL_law 415 = .ok (.goto 4, 3) := by decide +kernel
theorem dL_law_418 : decode cL_law 418 = .ok (.iconst 0, 1) := by decide +kernel
theorem dL_law_419 : decode cL_law 419 = .ok (.istore 5, 2) := by decide +kernel
theorem dL_law_421 : decode cL_law 421 = .ok (.iinc 14 1, 3) := by decide +kernel
theorem dL_law_424 : decode cL_law 424 = .ok (.goto (-58), 3) := by decide +kernel
theorem dL_law_427 : decode cL_law 427 = .ok (.goto 484, 3) := by decide +kernel
theorem dL_law_430 : decode cL_law 430 = .ok (.iload 9, 2) := by decide +kernel
theorem dL_law_432 : decode cL_law 432 = .ok (.bipush 7, 2) := by decide +kernel
theorem dL_law_434 : decode cL_law 434 = .ok (.if_icmp .ne 135, 3) := by decide +kernel
theorem dL_law_437 : decode cL_law 437 = .ok (.aload_n 1, 1) := by decide +kernel
theorem dL_law_438 : decode cL_law 438 = .ok (.iload 11, 2) := by decide +kernel
theorem dL_law_440 : decode cL_law 440 = .ok (.invokestatic 93, 3) := by decide +kernel
theorem dL_law_443 : decode cL_law 443 = .ok (.istore 12, 2) := by decide +kernel
theorem dL_law_445 : decode cL_law 445 = .ok (.aload_n 1, 1) := by decide +kernel
theorem dL_law_446 : decode cL_law 446 = .ok (.iload 11, 2) := by decide +kernel
theorem dL_law_448 : decode cL_law 448 = .ok (.invokestatic 95, 3) := by decide +kernel
theorem dL_law_451 : decode cL_law 451 = .ok (.istore 13, 2) := by decide +kernel
theorem dL_law_453 : decode cL_law 453 = .ok (.iload 8, 2) := by decide +kernel
theorem dL_law_455 : decode cL_law 455 = .ok (.bipush 48, 2) := by decide +kernel
theorem dL_law_457 : decode cL_law 457 = .ok (.idiv, 1) := by decide +kernel
theorem dL_law_458 : decode cL_law 458 = .ok (.iconst 2, 1) := by decide +kernel
theorem dL_law_459 : decode cL_law 459 = .ok (.irem, 1) := by decide +kernel
theorem dL_law_460 : decode cL_law 460 = .ok (.ifCond .ne 7, 3) := by decide +kernel
theorem dL_law_463 : decode cL_law 463 = .ok (.iconst 1, 1) := by decide +kernel
theorem dL_law_464 : decode cL_law 464 = .ok (.goto 4, 3) := by decide +kernel
theorem dL_law_467 : decode cL_law 467 = .ok (.iconst 0, 1) := by decide +kernel
theorem dL_law_468 : decode cL_law 468 = .ok (.istore 14, 2) := by decide +kernel
theorem dL_law_470 : decode cL_law 470 = .ok (.aload_n 1, 1) := by decide +kernel
theorem dL_law_471 : decode cL_law 471 = .ok (.iload 11, 2) := by decide +kernel
theorem dL_law_473 : decode cL_law 473 = .ok (.iload 14, 2) := by decide +kernel
theorem dL_law_475 : decode cL_law 475 = .ok (.invokestatic 123, 3) := by decide +kernel
theorem dL_law_478 : decode cL_law 478 = .ok (.iload 14, 2) := by decide +kernel
theorem dL_law_480 : decode cL_law 480 = .ok (.ifCond .eq 7, 3) := by decide +kernel
theorem dL_law_483 : decode cL_law 483 = .ok (.iconst 0, 1) := by decide +kernel
theorem dL_law_484 : decode cL_law 484 = .ok (.goto 5, 3) := by decide +kernel
theorem dL_law_487 : decode cL_law 487 = .ok (.iload 12, 2) := by decide +kernel
theorem dL_law_489 : decode cL_law 489 = .ok (.if_icmp .ne 38, 3) := by decide +kernel
theorem dL_law_492 : decode cL_law 492 = .ok (.aload_n 1, 1) := by decide +kernel
theorem dL_law_493 : decode cL_law 493 = .ok (.iload 11, 2) := by decide +kernel
theorem dL_law_495 : decode cL_law 495 = .ok (.invokestatic 93, 3) := by decide +kernel
theorem dL_law_498 : decode cL_law 498 = .ok (.iload 14, 2) := by decide +kernel
theorem dL_law_500 : decode cL_law 500 = .ok (.ifCond .eq 8, 3) := by decide +kernel
theorem dL_law_503 : decode cL_law 503 = .ok (.iload 12, 2) := by decide +kernel
theorem dL_law_505 : decode cL_law 505 = .ok (.goto 4, 3) := by decide +kernel
theorem dL_law_508 : decode cL_law 508 = .ok (.iconst 0, 1) := by decide +kernel
theorem dL_law_509 : decode cL_law 509 = .ok (.if_icmp .ne 18, 3) := by decide +kernel
theorem dL_law_512 : decode cL_law 512 = .ok (.aload_n 1, 1) := by decide +kernel
theorem dL_law_513 : decode cL_law 513 = .ok (.iload 11, 2) := by decide +kernel
theorem dL_law_515 : decode cL_law 515 = .ok (.invokestatic 95, 3) := by decide +kernel
theorem dL_law_518 : decode cL_law 518 = .ok (.iload 13, 2) := by decide +kernel
theorem dL_law_520 : decode cL_law 520 = .ok (.if_icmp .ne 7, 3) := by decide +kernel
theorem dL_law_523 : decode cL_law 523 = .ok (.iconst 1, 1) := by decide +kernel
theorem dL_law_524 : decode cL_law 524 = .ok (.goto 4, 3) := by decide +kernel
theorem dL_law_527 : decode cL_law 527 = .ok (.iconst 0, 1) := by decide +kernel
theorem dL_law_528 : decode cL_law 528 = .ok (.istore 5, 2) := by decide +kernel
theorem dL_law_530 : decode cL_law 530 = .ok (.iload 5, 2) := by decide +kernel
theorem dL_law_532 : decode cL_law 532 = .ok (.ifCond .eq 31, 3) := by decide +kernel
theorem dL_law_535 : decode cL_law 535 = .ok (.iload 14, 2) := by decide +kernel
theorem dL_law_537 : decode cL_law 537 = .ok (.ifCond .ne 22, 3) := by decide +kernel
theorem dL_law_540 : decode cL_law 540 = .ok (.aload_n 1, 1) := by decide +kernel
theorem dL_law_541 : decode cL_law 541 = .ok (.iload 11, 2) := by decide +kernel
theorem dL_law_543 : decode cL_law 543 = .ok (.iconst 1, 1) := by decide +kernel
theorem dL_law_544 : decode cL_law 544 = .ok (.invokestatic 123, 3) := by decide +kernel
theorem dL_law_547 : decode cL_law 547 = .ok (.ifCond .ne 16, 3) := by decide +kernel
theorem dL_law_550 : decode cL_law 550 = .ok (.aload_n 1, 1) := by decide +kernel
theorem dL_law_551 : decode cL_law 551 = .ok (.iload 11, 2) := by decide +kernel
theorem dL_law_553 : decode cL_law 553 = .ok (.invokestatic 93, 3) := by decide +kernel
theorem dL_law_556 : decode cL_law 556 = .ok (.ifCond .ne 7, 3) := by decide +kernel
theorem dL_law_559 : decode cL_law 559 = .ok (.iconst 1, 1) := by decide +kernel
theorem dL_law_560 : decode cL_law 560 = .ok (.goto 4, 3) := by decide +kernel
theorem dL_law_563 : decode cL_law 563 = .ok (.iconst 0, 1) := by decide +kernel
theorem dL_law_564 : decode cL_law 564 = .ok (.istore 5, 2) := by decide +kernel
theorem dL_law_566 : decode cL_law 566 = .ok (.goto 345, 3) := by decide +kernel
theorem dL_law_569 : decode cL_law 569 = .ok (.iload 9, 2) := by decide +kernel
theorem dL_law_571 : decode cL_law 571 = .ok (.bipush 8, 2) := by decide +kernel
theorem dL_law_573 : decode cL_law 573 = .ok (.if_icmp .ne 62, 3) := by decide +kernel
theorem dL_law_576 : decode cL_law 576 = .ok (.aload_n 1, 1) := by decide +kernel
theorem dL_law_577 : decode cL_law 577 = .ok (.iload 11, 2) := by decide +kernel
theorem dL_law_579 : decode cL_law 579 = .ok (.invokestatic 95, 3) := by decide +kernel
theorem dL_law_582 : decode cL_law 582 = .ok (.istore 12, 2) := by decide +kernel
theorem dL_law_584 : decode cL_law 584 = .ok (.aload_n 1, 1) := by decide +kernel
theorem dL_law_585 : decode cL_law 585 = .ok (.iload 11, 2) := by decide +kernel
theorem dL_law_587 : decode cL_law 587 = .ok (.iconst 1, 1) := by decide +kernel
theorem dL_law_588 : decode cL_law 588 = .ok (.iload 8, 2) := by decide +kernel
theorem dL_law_590 : decode cL_law 590 = .ok (.bipush 48, 2) := by decide +kernel
theorem dL_law_592 : decode cL_law 592 = .ok (.idiv, 1) := by decide +kernel
theorem dL_law_593 : decode cL_law 593 = .ok (.bipush 8, 2) := by decide +kernel
theorem dL_law_595 : decode cL_law 595 = .ok (.irem, 1) := by decide +kernel
theorem dL_law_596 : decode cL_law 596 = .ok (.iadd, 1) := by decide +kernel
theorem dL_law_597 : decode cL_law 597 = .ok (.iconst 1, 1) := by decide +kernel
theorem dL_law_598 : decode cL_law 598 = .ok (.iload 8, 2) := by decide +kernel
theorem dL_law_600 : decode cL_law 600 = .ok (.sipush 384, 3) := by decide +kernel
theorem dL_law_603 : decode cL_law 603 = .ok (.idiv, 1) := by decide +kernel
theorem dL_law_604 : decode cL_law 604 = .ok (.bipush 12, 2) := by decide +kernel
theorem dL_law_606 : decode cL_law 606 = .ok (.irem, 1) := by decide +kernel
theorem dL_law_607 : decode cL_law 607 = .ok (.iadd, 1) := by decide +kernel
theorem dL_law_608 : decode cL_law 608 = .ok (.invokestatic 126, 3) := by decide +kernel
theorem dL_law_611 : decode cL_law 611 = .ok (.ifCond .ne 18, 3) := by decide +kernel
theorem dL_law_614 : decode cL_law 614 = .ok (.aload_n 1, 1) := by decide +kernel
theorem dL_law_615 : decode cL_law 615 = .ok (.iload 11, 2) := by decide +kernel
theorem dL_law_617 : decode cL_law 617 = .ok (.invokestatic 95, 3) := by decide +kernel
theorem dL_law_620 : decode cL_law 620 = .ok (.iload 12, 2) := by decide +kernel
theorem dL_law_622 : decode cL_law 622 = .ok (.if_icmp .ne 7, 3) := by decide +kernel
theorem dL_law_625 : decode cL_law 625 = .ok (.iconst 1, 1) := by decide +kernel
theorem dL_law_626 : decode cL_law 626 = .ok (.goto 4, 3) := by decide +kernel
theorem dL_law_629 : decode cL_law 629 = .ok (.iconst 0, 1) := by decide +kernel
theorem dL_law_630 : decode cL_law 630 = .ok (.istore 5, 2) := by decide +kernel
theorem dL_law_632 : decode cL_law 632 = .ok (.goto 279, 3) := by decide +kernel
theorem dL_law_635 : decode cL_law 635 = .ok (.iload 9, 2) := by decide +kernel
theorem dL_law_637 : decode cL_law 637 = .ok (.bipush 11, 2) := by decide +kernel
theorem dL_law_639 : decode cL_law 639 = .ok (.if_icmp .ge 176, 3) := by decide +kernel
theorem dL_law_642 : decode cL_law 642 = .ok (.aload_n 1, 1) := by decide +kernel
theorem dL_law_643 : decode cL_law 643 = .ok (.iload 11, 2) := by decide +kernel
theorem dL_law_645 : decode cL_law 645 = .ok (.invokestatic 91, 3) := by decide +kernel
theorem dL_law_648 : decode cL_law 648 = .ok (.istore 12, 2) := by decide +kernel
theorem dL_law_650 : decode cL_law 650 = .ok (.aload_n 1, 1) := by decide +kernel
theorem dL_law_651 : decode cL_law 651 = .ok (.iload 11, 2) := by decide +kernel
theorem dL_law_653 : decode cL_law 653 = .ok (.invokestatic 97, 3) := by decide +kernel
theorem dL_law_656 : decode cL_law 656 = .ok (.istore 13, 2) := by decide +kernel
theorem dL_law_658 : decode cL_law 658 = .ok (.aload_n 1, 1) := by decide +kernel
theorem dL_law_659 : decode cL_law 659 = .ok (.iload 10, 2) := by decide +kernel
theorem dL_law_661 : decode cL_law 661 = .ok (.iload 11, 2) := by decide +kernel
theorem dL_law_663 : decode cL_law 663 = .ok (.invokestatic 88, 3) := by decide +kernel
theorem dL_law_666 : decode cL_law 666 = .ok (.istore 14, 2) := by decide +kernel
theorem dL_law_668 : decode cL_law 668 = .ok (.aload_n 1, 1) := by decide +kernel
theorem dL_law_669 : decode cL_law 669 = .ok (.iload 10, 2) := by decide +kernel
theorem dL_law_671 : decode cL_law 671 = .ok (.iload 11, 2) := by decide +kernel
theorem dL_law_673 : decode cL_law 673 = .ok (.invokestatic 129, 3) := by decide +kernel
theorem dL_law_676 : decode cL_law 676 = .ok (.istore 15, 2) := by decide +kernel
theorem dL_law_678 : decode cL_law 678 = .ok (.aload_n 1, 1) := by decide +kernel
theorem dL_law_679 : decode cL_law 679 = .ok (.iload 10, 2) := by decide +kernel
theorem dL_law_681 : decode cL_law 681 = .ok (.invokestatic 106, 3) := by decide +kernel
theorem dL_law_684 : decode cL_law 684 = .ok (.iload 11, 2) := by decide +kernel
theorem dL_law_686 : decode cL_law 686 = .ok (.ishr, 1) := by decide +kernel
theorem dL_law_687 : decode cL_law 687 = .ok (.iconst 1, 1) := by decide +kernel
theorem dL_law_688 : decode cL_law 688 = .ok (.iand, 1) := by decide +kernel
theorem dL_law_689 : decode cL_law 689 = .ok (.iconst 1, 1) := by decide +kernel
theorem dL_law_690 : decode cL_law 690 = .ok (.if_icmp .ne 7, 3) := by decide +kernel
theorem dL_law_693 : decode cL_law 693 = .ok (.iconst 1, 1) := by decide +kernel
theorem dL_law_694 : decode cL_law 694 = .ok (.goto 4, 3) := by decide +kernel
theorem dL_law_697 : decode cL_law 697 = .ok (.iconst 0, 1) := by decide +kernel
theorem dL_law_698 : decode cL_law 698 = .ok (.istore 16, 2) := by decide +kernel
theorem dL_law_700 : decode cL_law 700 = .ok (.iload 16, 2) := by decide +kernel
theorem dL_law_702 : decode cL_law 702 = .ok (.ifCond .ne 18, 3) := by decide +kernel
theorem dL_law_705 : decode cL_law 705 = .ok (.iload 15, 2) := by decide +kernel
theorem dL_law_707 : decode cL_law 707 = .ok (.bipush (-103), 2) := by decide +kernel
theorem dL_law_709 : decode cL_law 709 = .ok (.if_icmp .ne 7, 3) := by decide +kernel
theorem dL_law_712 : decode cL_law 712 = .ok (.iconst 1, 1) := by decide +kernel
theorem dL_law_713 : decode cL_law 713 = .ok (.goto 97, 3) := by decide +kernel
theorem dL_law_716 : decode cL_law 716 = .ok (.iconst 0, 1) := by decide +kernel
theorem dL_law_717 : decode cL_law 717 = .ok (.goto 93, 3) := by decide +kernel
theorem dL_law_720 : decode cL_law 720 = .ok (.iload 12, 2) := by decide +kernel
theorem dL_law_722 : decode cL_law 722 = .ok (.ifCond .le 56, 3) := by decide +kernel
theorem dL_law_725 : decode cL_law 725 = .ok (.iload 15, 2) := by decide +kernel
theorem dL_law_727 : decode cL_law 727 = .ok (.iconst 1, 1) := by decide +kernel
theorem dL_law_728 : decode cL_law 728 = .ok (.if_icmp .ne 46, 3) := by decide +kernel
theorem dL_law_731 : decode cL_law 731 = .ok (.aload_n 1, 1) := by decide +kernel
theorem dL_law_732 : decode cL_law 732 = .ok (.iload 11, 2) := by decide +kernel
theorem dL_law_734 : decode cL_law 734 = .ok (.invokestatic 91, 3) := by decide +kernel
theorem dL_law_737 : decode cL_law 737 = .ok (.iload 12, 2) := by decide +kernel
theorem dL_law_739 : decode cL_law 739 = .ok (.iconst 1, 1) := by decide +kernel
theorem dL_law_740 : decode cL_law 740 = .ok (.isub, 1) := by decide +kernel
theorem dL_law_741 : decode cL_law 741 = .ok (.if_icmp .ne 33, 3) := by decide +kernel
theorem dL_law_744 : decode cL_law 744 = .ok (.aload_n 1, 1) := by decide +kernel
theorem dL_law_745 : decode cL_law 745 = .ok (.iload 10, 2) := by decide +kernel
theorem dL_law_747 : decode cL_law 747 = .ok (.iload 11, 2) := by decide +kernel
theorem dL_law_749 : decode cL_law 749 = .ok (.invokestatic 88, 3) := by decide +kernel
theorem dL_law_752 : decode cL_law 752 = .ok (.iload 14, 2) := by decide +kernel
theorem dL_law_754 : decode cL_law 754 = .ok (.iconst 1, 1) := by decide +kernel
theorem dL_law_755 : decode cL_law 755 = .ok (.iadd, 1) := by decide +kernel
theorem dL_law_756 : decode cL_law 756 = .ok (.if_icmp .ne 18, 3) := by decide +kernel
theorem dL_law_759 : decode cL_law 759 = .ok (.aload_n 1, 1) := by decide +kernel
theorem dL_law_760 : decode cL_law 760 = .ok (.iload 11, 2) := by decide +kernel
theorem dL_law_762 : decode cL_law 762 = .ok (.invokestatic 97, 3) := by decide +kernel
theorem dL_law_765 : decode cL_law 765 = .ok (.iload 13, 2) := by decide +kernel
theorem dL_law_767 : decode cL_law 767 = .ok (.if_icmp .ne 7, 3) := by decide +kernel
theorem dL_law_770 : decode cL_law 770 = .ok (.iconst 1, 1) := by decide +kernel
theorem dL_law_771 : decode cL_law 771 = .ok (.goto 39, 3) := by decide +kernel
theorem dL_law_774 : decode cL_law 774 = .ok (.iconst 0, 1) := by decide +kernel
theorem dL_law_775 : decode cL_law 775 = .ok (.goto 35, 3) := by decide +kernel
theorem dL_law_778 : decode cL_law 778 = .ok (.iload 15, 2) := by decide +kernel
theorem dL_law_780 : decode cL_law 780 = .ok (.ifCond .ne 29, 3) := by decide +kernel
theorem dL_law_783 : decode cL_law 783 = .ok (.aload_n 1, 1) := by decide +kernel
theorem dL_law_784 : decode cL_law 784 = .ok (.iload 11, 2) := by decide +kernel
theorem dL_law_786 : decode cL_law 786 = .ok (.invokestatic 97, 3) := by decide +kernel
theorem dL_law_789 : decode cL_law 789 = .ok (.iload 13, 2) := by decide +kernel
theorem dL_law_791 : decode cL_law 791 = .ok (.iconst 1, 1) := by decide +kernel
theorem dL_law_792 : decode cL_law 792 = .ok (.iadd, 1) := by decide +kernel
theorem dL_law_793 : decode cL_law 793 = .ok (.if_icmp .ne 16, 3) := by decide +kernel
theorem dL_law_796 : decode cL_law 796 = .ok (.aload_n 1, 1) := by decide +kernel
theorem dL_law_797 : decode cL_law 797 = .ok (.iload 11, 2) := by decide +kernel
theorem dL_law_799 : decode cL_law 799 = .ok (.invokestatic 91, 3) := by decide +kernel
theorem dL_law_802 : decode cL_law 802 = .ok (.ifCond .ne 7, 3) := by decide +kernel
theorem dL_law_805 : decode cL_law 805 = .ok (.iconst 1, 1) := by decide +kernel
theorem dL_law_806 : decode cL_law 806 = .ok (.goto 4, 3) := by decide +kernel
theorem dL_law_809 : decode cL_law 809 = .ok (.iconst 0, 1) := by decide +kernel
theorem dL_law_810 : decode cL_law 810 = .ok (.istore 5, 2) := by decide +kernel
theorem dL_law_812 : decode cL_law 812 = .ok (.goto 99, 3) := by decide +kernel
theorem dL_law_815 : decode cL_law 815 = .ok (.iload 9, 2) := by decide +kernel
theorem dL_law_817 : decode cL_law 817 = .ok (.bipush 11, 2) := by decide +kernel
theorem dL_law_819 : decode cL_law 819 = .ok (.if_icmp .ne 48, 3) := by decide +kernel
theorem dL_law_822 : decode cL_law 822 = .ok (.aload_n 1, 1) := by decide +kernel
theorem dL_law_823 : decode cL_law 823 = .ok (.iconst 1, 1) := by decide +kernel
theorem dL_law_824 : decode cL_law 824 = .ok (.iload 8, 2) := by decide +kernel
theorem dL_law_826 : decode cL_law 826 = .ok (.iconst 3, 1) := by decide +kernel
theorem dL_law_827 : decode cL_law 827 = .ok (.irem, 1) := by decide +kernel
theorem dL_law_828 : decode cL_law 828 = .ok (.iadd, 1) := by decide +kernel
theorem dL_law_829 : decode cL_law 829 = .ok (.invokestatic 131, 3) := by decide +kernel
theorem dL_law_832 : decode cL_law 832 = .ok (.istore 12, 2) := by decide +kernel
theorem dL_law_834 : decode cL_law 834 = .ok (.iload_n 3, 1) := by decide +kernel
theorem dL_law_835 : decode cL_law 835 = .ok (.iload 12, 2) := by decide +kernel
theorem dL_law_837 : decode cL_law 837 = .ok (.iadd, 1) := by decide +kernel
theorem dL_law_838 : decode cL_law 838 = .ok (.istore_n 3, 1) := by decide +kernel
theorem dL_law_839 : decode cL_law 839 = .ok (.iload 12, 2) := by decide +kernel
theorem dL_law_841 : decode cL_law 841 = .ok (.ifCond .lt 20, 3) := by decide +kernel
theorem dL_law_844 : decode cL_law 844 = .ok (.aload_n 1, 1) := by decide +kernel
theorem dL_law_845 : decode cL_law 845 = .ok (.iconst 1, 1) := by decide +kernel
theorem dL_law_846 : decode cL_law 846 = .ok (.iload 8, 2) := by decide +kernel
theorem dL_law_848 : decode cL_law 848 = .ok (.iconst 3, 1) := by decide +kernel
theorem dL_law_849 : decode cL_law 849 = .ok (.irem, 1) := by decide +kernel
theorem dL_law_850 : decode cL_law 850 = .ok (.iadd, 1) := by decide +kernel
theorem dL_law_851 : decode cL_law 851 = .ok (.invokestatic 131, 3) := by decide +kernel
theorem dL_law_854 : decode cL_law 854 = .ok (.ifCond .ne 7, 3) := by decide +kernel
theorem dL_law_857 : decode cL_law 857 = .ok (.iconst 1, 1) := by decide +kernel
theorem dL_law_858 : decode cL_law 858 = .ok (.goto 4, 3) := by decide +kernel
theorem dL_law_861 : decode cL_law 861 = .ok (.iconst 0, 1) := by decide +kernel
theorem dL_law_862 : decode cL_law 862 = .ok (.istore 5, 2) := by decide +kernel
theorem dL_law_864 : decode cL_law 864 = .ok (.goto 47, 3) := by decide +kernel
theorem dL_law_867 : decode cL_law 867 = .ok (.iload 4, 2) := by decide +kernel
theorem dL_law_869 : decode cL_law 869 = .ok (.iconst 1, 1) := by decide +kernel
theorem dL_law_870 : decode cL_law 870 = .ok (.iload 8, 2) := by decide +kernel
theorem dL_law_872 : decode cL_law 872 = .ok (.bipush 9, 2) := by decide +kernel
theorem dL_law_874 : decode cL_law 874 = .ok (.irem, 1) := by decide +kernel
theorem dL_law_875 : decode cL_law 875 = .ok (.iadd, 1) := by decide +kernel
theorem dL_law_876 : decode cL_law 876 = .ok (.iadd, 1) := by decide +kernel
theorem dL_law_877 : decode cL_law 877 = .ok (.istore 4, 2) := by decide +kernel
theorem dL_law_879 : decode cL_law 879 = .ok (.aload_n 1, 1) := by decide +kernel
theorem dL_law_880 : decode cL_law 880 = .ok (.iconst 1, 1) := by decide +kernel
theorem dL_law_881 : decode cL_law 881 = .ok (.iload 8, 2) := by decide +kernel
theorem dL_law_883 : decode cL_law 883 = .ok (.bipush 9, 2) := by decide +kernel
theorem dL_law_885 : decode cL_law 885 = .ok (.irem, 1) := by decide +kernel
theorem dL_law_886 : decode cL_law 886 = .ok (.iadd, 1) := by decide +kernel
theorem dL_law_887 : decode cL_law 887 = .ok (.invokestatic 133, 3) := by decide +kernel
theorem dL_law_890 : decode cL_law 890 = .ok (.iload 4, 2) := by decide +kernel
theorem dL_law_892 : decode cL_law 892 = .ok (.if_icmp .ne 16, 3) := by decide +kernel
theorem dL_law_895 : decode cL_law 895 = .ok (.aload_n 1, 1) := by decide +kernel
theorem dL_law_896 : decode cL_law 896 = .ok (.invokevirtual 102, 3) := by decide +kernel
theorem dL_law_899 : decode cL_law 899 = .ok (.iload 4, 2) := by decide +kernel
theorem dL_law_901 : decode cL_law 901 = .ok (.if_icmp .ne 7, 3) := by decide +kernel
theorem dL_law_904 : decode cL_law 904 = .ok (.iconst 1, 1) := by decide +kernel
theorem dL_law_905 : decode cL_law 905 = .ok (.goto 4, 3) := by decide +kernel
theorem dL_law_908 : decode cL_law 908 = .ok (.iconst 0, 1) := by decide +kernel
theorem dL_law_909 : decode cL_law 909 = .ok (.istore 5, 2) := by decide +kernel
theorem dL_law_911 : decode cL_law 911 = .ok (.iconst 0, 1) := by decide +kernel
theorem dL_law_912 : decode cL_law 912 = .ok (.istore 12, 2) := by decide +kernel
theorem dL_law_914 : decode cL_law 914 = .ok (.iload 12, 2) := by decide +kernel
theorem dL_law_916 : decode cL_law 916 = .ok (.bipush 8, 2) := by decide +kernel
theorem dL_law_918 : decode cL_law 918 = .ok (.if_icmp .ge 47, 3) := by decide +kernel
theorem dL_law_921 : decode cL_law 921 = .ok (.iload 5, 2) := by decide +kernel
theorem dL_law_923 : decode cL_law 923 = .ok (.ifCond .eq 42, 3) := by decide +kernel
theorem dL_law_926 : decode cL_law 926 = .ok (.aload_n 2, 1) := by decide +kernel
theorem dL_law_927 : decode cL_law 927 = .ok (.iload 12, 2) := by decide +kernel
theorem dL_law_929 : decode cL_law 929 = .ok (.iaload, 1) := by decide +kernel
theorem dL_law_930 : decode cL_law 930 = .ok (.aload_n 1, 1) := by decide +kernel
theorem dL_law_931 : decode cL_law 931 = .ok (.iload 12, 2) := by decide +kernel
theorem dL_law_933 : decode cL_law 933 = .ok (.invokestatic 106, 3) := by decide +kernel
theorem dL_law_936 : decode cL_law 936 = .ok (.iconst (-1), 1) := by decide +kernel
theorem dL_law_937 : decode cL_law 937 = .ok (.ixor, 1) := by decide +kernel
theorem dL_law_938 : decode cL_law 938 = .ok (.iand, 1) := by decide +kernel
theorem dL_law_939 : decode cL_law 939 = .ok (.ifCond .ne 7, 3) := by decide +kernel
theorem dL_law_942 : decode cL_law 942 = .ok (.iconst 1, 1) := by decide +kernel
theorem dL_law_943 : decode cL_law 943 = .ok (.goto 4, 3) := by decide +kernel
theorem dL_law_946 : decode cL_law 946 = .ok (.iconst 0, 1) := by decide +kernel
theorem dL_law_947 : decode cL_law 947 = .ok (.istore 5, 2) := by decide +kernel
theorem dL_law_949 : decode cL_law 949 = .ok (.aload_n 2, 1) := by decide +kernel
theorem dL_law_950 : decode cL_law 950 = .ok (.iload 12, 2) := by decide +kernel
theorem dL_law_952 : decode cL_law 952 = .ok (.aload_n 1, 1) := by decide +kernel
theorem dL_law_953 : decode cL_law 953 = .ok (.iload 12, 2) := by decide +kernel
theorem dL_law_955 : decode cL_law 955 = .ok (.invokestatic 106, 3) := by decide +kernel
theorem dL_law_958 : decode cL_law 958 = .ok (.iastore, 1) := by decide +kernel
theorem dL_law_959 : decode cL_law 959 = .ok (.iinc 12 1, 3) := by decide +kernel
theorem dL_law_962 : decode cL_law 962 = .ok (.goto (-48), 3) := by decide +kernel
theorem dL_law_965 : decode cL_law 965 = .ok (.iload 5, 2) := by decide +kernel
theorem dL_law_967 : decode cL_law 967 = .ok (.ifCond .eq 22, 3) := by decide +kernel
theorem dL_law_970 : decode cL_law 970 = .ok (.iload 6, 2) := by decide +kernel
theorem dL_law_972 : decode cL_law 972 = .ok (.iconst 2, 1) := by decide +kernel
theorem dL_law_973 : decode cL_law 973 = .ok (.irem, 1) := by decide +kernel
theorem dL_law_974 : decode cL_law 974 = .ok (.ifCond .gt 11, 3) := by decide +kernel
theorem dL_law_977 : decode cL_law 977 = .ok (.aload_n 1, 1) := by decide +kernel
theorem dL_law_978 : decode cL_law 978 = .ok (.iload_n 3, 1) := by decide +kernel
theorem dL_law_979 : decode cL_law 979 = .ok (.invokestatic 109, 3) := by decide +kernel
theorem dL_law_982 : decode cL_law 982 = .ok (.ifCond .eq 7, 3) := by decide +kernel
theorem dL_law_985 : decode cL_law 985 = .ok (.iconst 1, 1) := by decide +kernel
theorem dL_law_986 : decode cL_law 986 = .ok (.goto 4, 3) := by decide +kernel
theorem dL_law_989 : decode cL_law 989 = .ok (.iconst 0, 1) := by decide +kernel
theorem dL_law_990 : decode cL_law 990 = .ok (.istore 5, 2) := by decide +kernel
theorem dL_law_992 : decode cL_law 992 = .ok (.iinc 6 1, 3) := by decide +kernel
theorem dL_law_995 : decode cL_law 995 = .ok (.goto (-967), 3) := by decide +kernel
theorem dL_law_998 : decode cL_law 998 = .ok (.iload 5, 2) := by decide +kernel
theorem dL_law_1000 : decode cL_law 1000 = .ok (.ireturn, 1) := by decide +kernel
abbrev vwCl : List vw_C := [(RJx4a65c, TJx4a65c, 3), (RX0, TX0, 6), (RX1, TX1, 10), (RX2, TX2, 3)]
