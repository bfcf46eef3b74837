set_option maxRecDepth 20000 in
theorem gp_wsX4_isSame_r1 : GoodIn wsL_law wsX4_isSame_r1 := goodIn_r _ [68, 63, 64, 3, 66, 65, 67, 304, 190, 370, 371, 372, 2, 373, 17, 104, 105, 106, 107, 108, 109, 110, 111, 349] (by decide +kernel) (by decide +kernel)
set_option maxRecDepth 20000 in
theorem gp_wsX4_isSame_r2 : GoodIn wsL_law wsX4_isSame_r2 := goodIn_r _ [143, 144, 374, 314, 315, 316, 126, 127, 128, 99, 100, 101, 102, 103, 317, 318, 319, 16, 320, 321, 130, 131, 132, 133] (by decide +kernel) (by decide +kernel)
set_option maxRecDepth 20000 in
theorem gp_wsX4_isSame_r3 : GoodIn wsL_law wsX4_isSame_r3 := goodIn_r _ [134, 135, 113, 114, 115, 25, 26, 137, 138, 322, 323, 324, 24, 325, 43, 38, 326, 327, 328, 329, 375, 376, 377, 57] (by decide +kernel) (by decide +kernel)
set_option maxRecDepth 20000 in
theorem gp_wsX4_isSame_r4 : GoodIn wsL_law wsX4_isSame_r4 := goodIn_r _ [378, 174, 175, 176, 379, 331, 332, 333, 96, 97, 98, 334, 112, 335, 218, 219, 220, 191, 171, 172, 173, 380, 159, 160] (by decide +kernel) (by decide +kernel)
set_option maxRecDepth 20000 in
theorem gp_wsX4_isSame_r5 : GoodIn wsL_law wsX4_isSame_r5 := goodIn_r _ [161, 381, 234, 235, 236, 237, 238, 239, 240, 41, 42, 44, 241, 167, 168, 169, 40, 242, 243, 244, 245, 45, 246, 247] (by decide +kernel) (by decide +kernel)
set_option maxRecDepth 20000 in
theorem gp_wsX4_isSame_r6 : GoodIn wsL_law wsX4_isSame_r6 := goodIn_r _ [248, 249, 382, 355, 356, 357, 383, 384, 385, 386, 387, 388, 389, 390, 391, 193, 194, 195, 196, 197, 198, 199, 31, 30] (by decide +kernel) (by decide +kernel)
set_option maxRecDepth 20000 in
theorem gp_wsX4_isSame_r7 : GoodIn wsL_law wsX4_isSame_r7 := goodIn_r _ [32, 200, 201, 202, 203, 204, 205, 206, 207, 208, 209, 210, 211, 37, 212, 213, 214, 215, 216, 5, 6, 7, 217, 221] (by decide +kernel) (by decide +kernel)
set_option maxRecDepth 20000 in
theorem gp_wsX4_isSame_r8 : GoodIn wsL_law wsX4_isSame_r8 := goodIn_r _ [222, 223, 224, 225, 226, 227, 29, 228, 50, 229, 230, 231, 232, 392, 393, 394, 395, 293, 294] (by decide +kernel) (by decide +kernel)
set_option maxRecDepth 20000 in
theorem gp_wsX4_isSame_X4 : GoodIn wsL_law wsX40 := goodIn_r _ [413, 414, 415, 416, 417, 418, 419, 420] (by decide +kernel) (by decide +kernel)
set_option maxRecDepth 20000 in
theorem gp_wsX4_isSame_X3 : GoodIn wsL_law wsX30 := goodIn_r _ [396, 397] (by decide +kernel) (by decide +kernel)
set_option maxRecDepth 20000 in
theorem gp_wsX4_isSame_X1 : GoodIn wsL_law wsX10 := goodIn_r _ [398, 399, 400, 401, 402] (by decide +kernel) (by decide +kernel)
set_option maxRecDepth 20000 in
theorem gp_wsX4_isSame_X0 : GoodIn wsL_law wsX00 := goodIn_r _ [412] (by decide +kernel) (by decide +kernel)
set_option maxRecDepth 20000 in
theorem gp_wsX4_isSame_X2 : GoodIn wsL_law wsX20 := goodIn_r _ [403, 404, 405, 406, 407, 408, 409, 410, 411] (by decide +kernel) (by decide +kernel)
set_option maxRecDepth 20000 in
theorem gp_wsX4_isSame_e0 : GoodIn wsL_law ((vx_atS RX3 181 "java/lang/IllegalArgumentException" ["java/lang/RuntimeException", "java/lang/Exception"]).filter goodWord) := goodIn_sub (fun _ h => List.mem_append_right _ h) (by decide +kernel)
set_option maxRecDepth 20000 in
theorem gp_wsX4_isSame_e1 : GoodIn wsL_law ((vx_atS RX3 176 "java/lang/IndexOutOfBoundsException" ["java/lang/RuntimeException", "java/lang/Exception"]).filter goodWord) := goodIn_sub (fun _ h => List.mem_append_left _ (List.mem_append_right _ h)) (by decide +kernel)
set_option maxRecDepth 20000 in
theorem ggL_law_X4_isSame : GoodIn wsL_law wsX4_isSame := goodIn_app gp_wsX4_isSame_0 (goodIn_app (goodIn_app (goodIn_app (goodIn_app (goodIn_app (goodIn_app (goodIn_app (goodIn_app gp_wsX4_isSame_r1 (goodIn_app gp_wsX4_isSame_r2 (goodIn_app gp_wsX4_isSame_r3 (goodIn_app gp_wsX4_isSame_r4 (goodIn_app gp_wsX4_isSame_r5 (goodIn_app gp_wsX4_isSame_r6 (goodIn_app gp_wsX4_isSame_r7 (gp_wsX4_isSame_r8)))))))) gp_wsX4_isSame_X4) gp_wsX4_isSame_X3) gp_wsX4_isSame_X1) gp_wsX4_isSame_X0) gp_wsX4_isSame_X2) gp_wsX4_isSame_e0) gp_wsX4_isSame_e1)
set_option maxRecDepth 20000 in
theorem gL_law_X4_isSame : GoodIn wsL_law (wsV RL 118 RX4 yX4_isSame wsX4_isSame) := goodIn_app (goodIn_of _ (by decide +kernel)) ggL_law_X4_isSame
