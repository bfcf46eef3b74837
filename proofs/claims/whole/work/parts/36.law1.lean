set_option maxRecDepth 20000 in
theorem ggL_law_X3_init : GoodIn wsL_law wsX3_init := goodIn_r _ [9, 10, 11, 12, 13, 14, 15, 16, 17, 18, 19, 20, 21, 22, 23, 24, 25, 26, 27, 28, 29, 30, 31, 32, 33, 34, 35, 36, 37, 38, 39, 40, 41, 42, 43, 44, 45, 46, 47, 48, 49, 50, 587, 588, 589, 590, 591, 578, 579, 592, 593, 594, 595, 596, 597, 598, 599, 600, 601] (by decide +kernel) (by decide +kernel)
set_option maxRecDepth 20000 in
theorem gL_law_X3_init : GoodIn wsL_law (wsX3_init) := ggL_law_X3_init
set_option maxRecDepth 20000 in
theorem ggL_law_X4_init : GoodIn wsL_law wsX4_init := goodIn_r _ [53, 54, 11, 12, 36, 55, 56, 57, 58, 59, 60, 580, 581, 582, 583, 584, 585, 586] (by decide +kernel) (by decide +kernel)
set_option maxRecDepth 20000 in
theorem gL_law_X4_init : GoodIn wsL_law (wsX4_init) := ggL_law_X4_init
set_option maxRecDepth 20000 in
theorem ggL_law_L_plan : GoodIn wsL_law wsL_plan := goodIn_ca (goodIn_ca (goodIn_r _ [64, 65, 66, 67, 68, 69, 2, 70, 16, 71, 72, 73, 74, 75, 76, 77, 78, 79, 80, 81, 82, 83, 84, 85, 86, 87, 88, 89, 15, 90, 91, 92, 93, 94, 95, 96, 24, 25, 97, 98, 99, 100, 101, 102, 23, 103, 37, 104, 105, 106, 107, 578, 579, 587, 588, 589, 590, 591, 592, 593, 594, 595, 596, 597, 598, 599, 600] (by decide +kernel) (by decide +kernel)) (goodIn_sub (fun _ h => List.mem_append_left _ (List.mem_append_left _ (List.mem_append_right _ h))) (by decide +kernel))) (goodIn_sub (fun _ h => List.mem_append_left _ (List.mem_append_right _ h)) (by decide +kernel))
set_option maxRecDepth 20000 in
theorem gL_law_L_plan : GoodIn wsL_law (va_wsS RL 77 yL_plan wsL_plan) := goodIn_app (goodIn_of _ (by decide +kernel)) ggL_law_L_plan
set_option maxRecDepth 20000 in
theorem ggL_law_X4_plan : GoodIn wsL_law wsX4_plan := goodIn_r _ [111, 112, 57, 113, 114, 5, 115, 116, 117, 118, 119, 120, 121, 122, 123, 124, 125, 126, 127, 128, 580, 581, 582, 583, 584, 585, 586] (by decide +kernel) (by decide +kernel)
set_option maxRecDepth 20000 in
theorem gL_law_X4_plan : GoodIn wsL_law (wsV RL 82 RX4 yX4_plan wsX4_plan) := goodIn_app (goodIn_of _ (by decide +kernel)) ggL_law_X4_plan
set_option maxRecDepth 20000 in
theorem ggL_law_X4_thrown : GoodIn wsL_law wsX4_thrown := goodIn_r _ [132, 112, 580, 581, 582, 583, 584, 585, 586] (by decide +kernel) (by decide +kernel)
set_option maxRecDepth 20000 in
theorem gL_law_X4_thrown : GoodIn wsL_law (wsV RL 83 RX4 yX4_thrown wsX4_thrown) := goodIn_app (goodIn_of _ (by decide +kernel)) ggL_law_X4_thrown
set_option maxRecDepth 20000 in
theorem ggL_law_L_bring : GoodIn wsL_law wsL_bring := goodIn_ca (goodIn_r _ [135, 66, 136, 137, 138, 2, 139, 16, 84, 85, 86, 79, 80, 81, 82, 83, 140, 141, 142, 28, 143, 50, 144, 145, 146, 147, 104, 105, 106, 107, 578, 579, 587, 588, 589, 590, 591, 601] (by decide +kernel) (by decide +kernel)) (goodIn_sub (fun _ h => List.mem_append_left _ (List.mem_append_right _ h)) (by decide +kernel))
set_option maxRecDepth 20000 in
theorem gL_law_L_bring : GoodIn wsL_law (va_wsS RL 87 yL_bring wsL_bring) := goodIn_app (goodIn_of _ (by decide +kernel)) ggL_law_L_bring
set_option maxRecDepth 20000 in
theorem ggL_law_X4_bring : GoodIn wsL_law wsX4_bring := goodIn_r _ [151, 112, 59, 152, 145, 146, 147, 123, 124, 5, 125, 116, 117, 118, 119, 120, 121, 122, 580, 581, 582, 583, 584, 585, 586] (by decide +kernel) (by decide +kernel)
set_option maxRecDepth 20000 in
theorem gL_law_X4_bring : GoodIn wsL_law (wsV RL 90 RX4 yX4_bring wsX4_bring) := goodIn_app (goodIn_of _ (by decide +kernel)) ggL_law_X4_bring
set_option maxRecDepth 20000 in
theorem ggL_law_L_setSpeed : GoodIn wsL_law wsL_setSpeed := goodIn_ca (goodIn_ca (goodIn_r _ [155, 65, 66, 156, 157, 158, 2, 159, 16, 160, 161, 162, 74, 75, 76, 77, 78, 79, 80, 81, 82, 83, 163, 94, 95, 15, 96, 24, 25, 578, 579, 592, 593, 594, 595, 596, 597, 598, 599, 600, 587, 588, 589, 590, 591] (by decide +kernel) (by decide +kernel)) (goodIn_sub (fun _ h => List.mem_append_left _ (List.mem_append_left _ (List.mem_append_right _ h))) (by decide +kernel))) (goodIn_sub (fun _ h => List.mem_append_left _ (List.mem_append_right _ h)) (by decide +kernel))
set_option maxRecDepth 20000 in
theorem gL_law_L_setSpeed : GoodIn wsL_law (va_wsS RL 91 yL_setSpeed wsL_setSpeed) := goodIn_app (goodIn_of _ (by decide +kernel)) ggL_law_L_setSpeed
set_option maxRecDepth 20000 in
theorem ggL_law_X4_setSpeed : GoodIn wsL_law wsX4_setSpeed := goodIn_r _ [167, 112, 168, 169, 5, 170, 116, 117, 118, 119, 120, 121, 122, 171, 172, 173, 174, 55, 175, 176, 177, 178, 580, 581, 582, 583, 584, 585, 586] (by decide +kernel) (by decide +kernel)
set_option maxRecDepth 20000 in
theorem gL_law_X4_setSpeed : GoodIn wsL_law (wsV RL 93 RX4 yX4_setSpeed wsX4_setSpeed) := goodIn_app (goodIn_of _ (by decide +kernel)) ggL_law_X4_setSpeed
set_option maxRecDepth 20000 in
theorem ggL_law_L_tell : GoodIn wsL_law wsL_tell := goodIn_ca (goodIn_ca (goodIn_ca (goodIn_r _ [181, 65, 66, 182, 183, 184, 185, 2, 186, 187, 188, 16, 160, 161, 162, 74, 75, 76, 77, 78, 84, 85, 86, 79, 80, 81, 82, 83, 163, 94, 95, 15, 96, 24, 25, 189, 190, 191, 23, 192, 39, 42, 40, 106, 107, 578, 579, 592, 593, 594, 595, 596, 597, 598, 599, 600, 587, 588, 589, 590, 591] (by decide +kernel) (by decide +kernel)) (goodIn_sub (fun _ h => List.mem_append_right _ h) (by decide +kernel))) (goodIn_sub (fun _ h => List.mem_append_left _ (List.mem_append_left _ (List.mem_append_right _ h))) (by decide +kernel))) (goodIn_sub (fun _ h => List.mem_append_left _ (List.mem_append_right _ h)) (by decide +kernel))
set_option maxRecDepth 20000 in
theorem gL_law_L_tell : GoodIn wsL_law (va_wsS RL 94 yL_tell wsL_tell) := goodIn_app (goodIn_of _ (by decide +kernel)) ggL_law_L_tell
set_option maxRecDepth 20000 in
theorem ggL_law_X4_tell : GoodIn wsL_law wsX4_tell := goodIn_r _ [196, 112, 58, 168, 169, 5, 170, 116, 117, 118, 119, 120, 121, 122, 123, 124, 125, 171, 172, 173, 174, 55, 197, 198, 199, 200, 175, 176, 177, 178, 580, 581, 582, 583, 584, 585, 586] (by decide +kernel) (by decide +kernel)
set_option maxRecDepth 20000 in
theorem gL_law_X4_tell : GoodIn wsL_law (wsV RL 97 RX4 yX4_tell wsX4_tell) := goodIn_app (goodIn_of _ (by decide +kernel)) ggL_law_X4_tell
set_option maxRecDepth 20000 in
theorem ggL_law_L_hush : GoodIn wsL_law wsL_hush := goodIn_ca (goodIn_r _ [203, 65, 204, 205, 206, 2, 207, 16, 160, 161, 162, 74, 75, 76, 77, 78, 163, 94, 95, 15, 96, 24, 25, 208, 209, 210, 23, 211, 42, 40, 104, 105, 578, 579, 592, 593, 594, 595, 596, 597, 598, 599, 600, 587, 588, 589, 590, 591] (by decide +kernel) (by decide +kernel)) (goodIn_sub (fun _ h => List.mem_append_left _ (List.mem_append_left _ (List.mem_append_right _ h))) (by decide +kernel))
set_option maxRecDepth 20000 in
theorem gL_law_L_hush : GoodIn wsL_law (va_wsS RL 98 yL_hush wsL_hush) := goodIn_app (goodIn_of _ (by decide +kernel)) ggL_law_L_hush
set_option maxRecDepth 20000 in
theorem ggL_law_X4_hush : GoodIn wsL_law wsX4_hush := goodIn_r _ [215, 112, 168, 169, 5, 170, 116, 117, 118, 119, 120, 121, 122, 216, 217, 218, 219, 58, 171, 172, 173, 174, 55, 197, 198, 199, 200, 175, 176, 177, 178, 580, 581, 582, 583, 584, 585, 586] (by decide +kernel) (by decide +kernel)
set_option maxRecDepth 20000 in
theorem gL_law_X4_hush : GoodIn wsL_law (wsV RL 101 RX4 yX4_hush wsX4_hush) := goodIn_app (goodIn_of _ (by decide +kernel)) ggL_law_X4_hush
set_option maxRecDepth 20000 in
theorem ggL_law_L_unpick : GoodIn wsL_law wsL_unpick := goodIn_ca (goodIn_ca (goodIn_ca (goodIn_r _ [222, 65, 66, 182, 223, 224, 225, 2, 226, 187, 188, 16, 160, 161, 162, 74, 75, 76, 77, 78, 79, 80, 81, 82, 83, 163, 94, 95, 15, 96, 24, 25, 227, 228, 229, 23, 230, 43, 38, 104, 105, 231, 141, 142, 28, 143, 50, 144, 145, 146, 147, 106, 107, 578, 579, 592, 593, 594, 595, 596, 597, 598, 599, 600, 587, 588, 589, 590, 591, 601] (by decide +kernel) (by decide +kernel)) (goodIn_sub (fun _ h => List.mem_append_right _ h) (by decide +kernel))) (goodIn_sub (fun _ h => List.mem_append_left _ (List.mem_append_left _ (List.mem_append_right _ h))) (by decide +kernel))) (goodIn_sub (fun _ h => List.mem_append_left _ (List.mem_append_right _ h)) (by decide +kernel))
set_option maxRecDepth 20000 in
theorem gL_law_L_unpick : GoodIn wsL_law (va_wsS RL 102 yL_unpick wsL_unpick) := goodIn_app (goodIn_of _ (by decide +kernel)) ggL_law_L_unpick
set_option maxRecDepth 20000 in
theorem ggL_law_X4_unpick : GoodIn wsL_law wsX4_unpick := goodIn_r _ [235, 112, 56, 59, 152, 145, 146, 147, 60, 168, 169, 5, 170, 116, 117, 118, 119, 120, 121, 122, 171, 172, 173, 174, 55, 175, 176, 177, 178, 580, 581, 582, 583, 584, 585, 586] (by decide +kernel) (by decide +kernel)
set_option maxRecDepth 20000 in
theorem gL_law_X4_unpick : GoodIn wsL_law (wsV RL 104 RX4 yX4_unpick wsX4_unpick) := goodIn_app (goodIn_of _ (by decide +kernel)) ggL_law_X4_unpick
set_option maxRecDepth 20000 in
theorem ggL_law_L_cell : GoodIn wsL_law wsL_cell := goodIn_ca (goodIn_r _ [238, 65, 239, 240, 241, 2, 242, 16, 71, 72, 73, 74, 75, 76, 77, 78, 243, 244, 245, 15, 246, 247, 88, 89, 90, 91, 92, 93, 94, 95, 96, 24, 25, 98, 99, 248, 249, 250, 23, 251, 43, 38, 104, 105, 252, 253, 254, 255, 578, 579, 587, 588, 589, 590, 591, 592, 593, 594, 595, 596, 597, 598, 599, 600] (by decide +kernel) (by decide +kernel)) (goodIn_sub (fun _ h => List.mem_append_left _ (List.mem_append_left _ (List.mem_append_right _ h))) (by decide +kernel))
set_option maxRecDepth 20000 in
theorem gL_law_L_cell : GoodIn wsL_law (va_wsS RL 105 yL_cell wsL_cell) := goodIn_app (goodIn_of _ (by decide +kernel)) ggL_law_L_cell
set_option maxRecDepth 20000 in
theorem ggL_law_X4_cell : GoodIn wsL_law wsX4_cell := goodIn_r _ [259, 112, 57, 113, 114, 5, 115, 116, 117, 118, 260, 261, 262, 263, 56, 126, 127, 128, 171, 172, 173, 174, 55, 119, 120, 121, 122, 580, 581, 582, 583, 584, 585, 586] (by decide +kernel) (by decide +kernel)
set_option maxRecDepth 20000 in
theorem gL_law_X4_cell : GoodIn wsL_law (wsV RL 107 RX4 yX4_cell wsX4_cell) := goodIn_app (goodIn_of _ (by decide +kernel)) ggL_law_X4_cell
set_option maxRecDepth 20000 in
theorem ggL_law_L_sees : GoodIn wsL_law wsL_sees := goodIn_ca (goodIn_r _ [266, 65, 267, 268, 269, 2, 270, 16, 160, 161, 162, 74, 75, 76, 77, 78, 71, 72, 73, 271, 91, 92, 163, 94, 95, 15, 96, 24, 25, 272, 273, 274, 23, 275, 43, 243, 244, 245, 246, 247, 88, 89, 90, 93, 98, 99, 248, 249, 250, 251, 38, 104, 105, 578, 579, 587, 588, 589, 590, 591, 592, 593, 594, 595, 596, 597, 598, 599, 600] (by decide +kernel) (by decide +kernel)) (goodIn_sub (fun _ h => List.mem_append_left _ (List.mem_append_left _ (List.mem_append_right _ h))) (by decide +kernel))
set_option maxRecDepth 20000 in
theorem gL_law_L_sees : GoodIn wsL_law (va_wsS RL 108 yL_sees wsL_sees) := goodIn_app (goodIn_of _ (by decide +kernel)) ggL_law_L_sees
set_option maxRecDepth 20000 in
theorem ggL_law_X4_sees : GoodIn wsL_law wsX4_sees := goodIn_r _ [279, 112, 168, 169, 5, 170, 116, 117, 118, 113, 114, 115, 119, 120, 121, 122, 171, 172, 173, 174, 55, 260, 261, 262, 263, 56, 126, 127, 128, 580, 581, 582, 583, 584, 585, 586] (by decide +kernel) (by decide +kernel)
set_option maxRecDepth 20000 in
theorem gL_law_X4_sees : GoodIn wsL_law (wsV RL 110 RX4 yX4_sees wsX4_sees) := goodIn_app (goodIn_of _ (by decide +kernel)) ggL_law_X4_sees
set_option maxRecDepth 20000 in
theorem ggL_law_L_weaver : GoodIn wsL_law wsL_weaver := goodIn_ca (goodIn_r _ [282, 65, 283, 284, 285, 2, 286, 16, 160, 161, 162, 74, 75, 76, 77, 78, 163, 94, 95, 15, 96, 24, 25, 287, 288, 289, 23, 290, 41, 42, 43, 44, 291, 209, 210, 211, 40, 104, 105, 292, 293, 294, 295, 45, 296, 297, 298, 299, 578, 579, 587, 588, 589, 590, 591, 592, 593, 594, 595, 596, 597, 598, 599, 600] (by decide +kernel) (by decide +kernel)) (goodIn_sub (fun _ h => List.mem_append_left _ (List.mem_append_left _ (List.mem_append_right _ h))) (by decide +kernel))
set_option maxRecDepth 20000 in
theorem gL_law_L_weaver : GoodIn wsL_law (va_wsS RL 111 yL_weaver wsL_weaver) := goodIn_app (goodIn_of _ (by decide +kernel)) ggL_law_L_weaver
set_option maxRecDepth 20000 in
theorem ggL_law_X4_weaver : GoodIn wsL_law wsX4_weaver := goodIn_r _ [303, 112, 168, 169, 5, 170, 116, 117, 118, 304, 305, 306, 307, 171, 172, 173, 174, 55, 216, 217, 218, 219, 58, 197, 198, 199, 200, 308, 309, 310, 119, 120, 121, 122, 580, 581, 582, 583, 584, 585, 586] (by decide +kernel) (by decide +kernel)
set_option maxRecDepth 20000 in
theorem gL_law_X4_weaver : GoodIn wsL_law (wsV RL 113 RX4 yX4_weaver wsX4_weaver) := goodIn_app (goodIn_of _ (by decide +kernel)) ggL_law_X4_weaver
set_option maxRecDepth 20000 in
theorem ggL_law_L_run : GoodIn wsL_law wsL_run := goodIn_ca (goodIn_r _ [313, 65, 314, 315, 316, 2, 317, 16, 160, 161, 162, 74, 75, 76, 77, 78, 163, 94, 95, 15, 96, 24, 25, 318, 104, 105, 578, 579, 592, 593, 594, 595, 596, 597, 598, 599, 600, 587, 588, 589, 590, 591] (by decide +kernel) (by decide +kernel)) (goodIn_sub (fun _ h => List.mem_append_left _ (List.mem_append_left _ (List.mem_append_right _ h))) (by decide +kernel))
set_option maxRecDepth 20000 in
theorem gL_law_L_run : GoodIn wsL_law (va_wsS RL 114 yL_run wsL_run) := goodIn_app (goodIn_of _ (by decide +kernel)) ggL_law_L_run
set_option maxRecDepth 20000 in
theorem ggL_law_X4_run : GoodIn wsL_law wsX4_run := goodIn_r _ [322, 112, 58, 168, 169, 5, 170, 116, 117, 118, 171, 172, 173, 174, 55, 197, 198, 199, 200, 119, 120, 121, 122, 580, 581, 582, 583, 584, 585, 586] (by decide +kernel) (by decide +kernel)
set_option maxRecDepth 20000 in
theorem gL_law_X4_run : GoodIn wsL_law (wsV RL 116 RX4 yX4_run wsX4_run) := goodIn_app (goodIn_of _ (by decide +kernel)) ggL_law_X4_run
set_option maxRecDepth 20000 in
theorem ggL_law_L_count : GoodIn wsL_law wsL_count := goodIn_ca (goodIn_r _ [325, 65, 326, 327, 328, 2, 329, 16, 74, 75, 76, 77, 78, 330, 331, 332, 15, 333, 30, 29, 31, 334, 335, 336, 337, 24, 25, 338, 339, 340, 341, 342, 343, 344, 23, 345, 43, 38, 37, 104, 105, 346, 347, 348, 349, 350, 145, 146, 147, 351, 273, 274, 275, 352, 353, 354, 355, 98, 99, 356, 357, 358, 28, 359, 50, 360, 361, 362, 363, 578, 579, 587, 588, 589, 590, 591, 592, 593, 594, 595, 596, 597, 598, 599, 600, 601] (by decide +kernel) (by decide +kernel)) (goodIn_sub (fun _ h => List.mem_append_left _ (List.mem_append_left _ (List.mem_append_right _ h))) (by decide +kernel))
set_option maxRecDepth 20000 in
theorem gL_law_L_count : GoodIn wsL_law (va_wsS RL 117 yL_count wsL_count) := goodIn_app (goodIn_of _ (by decide +kernel)) ggL_law_L_count
set_option maxRecDepth 20000 in
theorem ggL_law_X4_count : GoodIn wsL_law wsX4_count := goodIn_r _ [367, 112, 116, 117, 5, 118, 368, 369, 370, 371, 60, 59, 171, 172, 173, 174, 55, 372, 373, 374, 375, 56, 57, 376, 377, 378, 379, 152, 145, 146, 147, 380, 381, 382, 383, 260, 261, 262, 263, 126, 127, 128, 119, 120, 121, 122, 580, 581, 582, 583, 584, 585, 586] (by decide +kernel) (by decide +kernel)
set_option maxRecDepth 20000 in
theorem gL_law_X4_count : GoodIn wsL_law (wsV RL 119 RX4 yX4_count wsX4_count) := goodIn_app (goodIn_of _ (by decide +kernel)) ggL_law_X4_count
set_option maxRecDepth 20000 in
theorem ggL_law_L_wool : GoodIn wsL_law wsL_wool := goodIn_ca (goodIn_r _ [386, 66, 387, 388, 389, 2, 390, 16, 84, 85, 86, 79, 80, 81, 82, 83, 318, 104, 105, 578, 579, 587, 588, 589, 590, 591, 601] (by decide +kernel) (by decide +kernel)) (goodIn_sub (fun _ h => List.mem_append_left _ (List.mem_append_right _ h)) (by decide +kernel))
set_option maxRecDepth 20000 in
theorem gL_law_L_wool : GoodIn wsL_law (va_wsS RL 120 yL_wool wsL_wool) := goodIn_app (goodIn_of _ (by decide +kernel)) ggL_law_L_wool
set_option maxRecDepth 20000 in
theorem ggL_law_X4_wool : GoodIn wsL_law wsX4_wool := goodIn_r _ [394, 112, 59, 123, 124, 5, 125, 116, 117, 118, 119, 120, 121, 122, 580, 581, 582, 583, 584, 585, 586] (by decide +kernel) (by decide +kernel)
set_option maxRecDepth 20000 in
theorem gL_law_X4_wool : GoodIn wsL_law (wsV RL 122 RX4 yX4_wool wsX4_wool) := goodIn_app (goodIn_of _ (by decide +kernel)) ggL_law_X4_wool
set_option maxRecDepth 20000 in
theorem ggL_law_L_advise : GoodIn wsL_law wsL_advise := goodIn_ca (goodIn_r _ [397, 65, 398, 399, 400, 2, 401, 16, 160, 161, 162, 74, 75, 76, 77, 78, 163, 94, 95, 15, 96, 24, 25, 402, 297, 298, 23, 299, 43, 318, 104, 105, 403, 404, 405, 406, 37, 578, 579, 592, 593, 594, 595, 596, 597, 598, 599, 600, 587, 588, 589, 590, 591] (by decide +kernel) (by decide +kernel)) (goodIn_sub (fun _ h => List.mem_append_left _ (List.mem_append_left _ (List.mem_append_right _ h))) (by decide +kernel))
set_option maxRecDepth 20000 in
theorem gL_law_L_advise : GoodIn wsL_law (va_wsS RL 123 yL_advise wsL_advise) := goodIn_app (goodIn_of _ (by decide +kernel)) ggL_law_L_advise
set_option maxRecDepth 20000 in
theorem ggL_law_X4_advise : GoodIn wsL_law wsX4_advise := goodIn_r _ [410, 112, 57, 168, 169, 5, 170, 116, 117, 118, 119, 120, 121, 122, 171, 172, 173, 174, 55, 411, 412, 413, 414, 580, 581, 582, 583, 584, 585, 586] (by decide +kernel) (by decide +kernel)
set_option maxRecDepth 20000 in
theorem gL_law_X4_advise : GoodIn wsL_law (wsV RL 125 RX4 yX4_advise wsX4_advise) := goodIn_app (goodIn_of _ (by decide +kernel)) ggL_law_X4_advise
set_option maxRecDepth 20000 in
theorem ggL_law_L_runs : GoodIn wsL_law wsL_runs := goodIn_ca (goodIn_r _ [417, 65, 418, 419, 420, 2, 421, 16, 160, 161, 162, 74, 75, 76, 77, 78, 163, 94, 95, 15, 96, 24, 25, 422, 423, 424, 23, 425, 43, 37, 296, 297, 298, 299, 104, 105, 578, 579, 587, 588, 589, 590, 591, 592, 593, 594, 595, 596, 597, 598, 599, 600] (by decide +kernel) (by decide +kernel)) (goodIn_sub (fun _ h => List.mem_append_left _ (List.mem_append_left _ (List.mem_append_right _ h))) (by decide +kernel))
set_option maxRecDepth 20000 in
theorem gL_law_L_runs : GoodIn wsL_law (va_wsS RL 126 yL_runs wsL_runs) := goodIn_app (goodIn_of _ (by decide +kernel)) ggL_law_L_runs
set_option maxRecDepth 20000 in
theorem ggL_law_X4_runs : GoodIn wsL_law wsX4_runs := goodIn_r _ [429, 112, 168, 169, 5, 170, 116, 117, 118, 119, 120, 121, 122, 171, 172, 173, 174, 55, 411, 412, 413, 414, 57, 580, 581, 582, 583, 584, 585, 586] (by decide +kernel) (by decide +kernel)
set_option maxRecDepth 20000 in
theorem gL_law_X4_runs : GoodIn wsL_law (wsV RL 128 RX4 yX4_runs wsX4_runs) := goodIn_app (goodIn_of _ (by decide +kernel)) ggL_law_X4_runs
set_option maxRecDepth 20000 in
theorem ggL_law_L_mends : GoodIn wsL_law wsL_mends := goodIn_ca (goodIn_r _ [432, 65, 433, 434, 435, 2, 436, 16, 160, 161, 162, 74, 75, 76, 77, 78, 163, 94, 95, 15, 96, 24, 25, 437, 438, 439, 23, 440, 43, 38, 37, 104, 105, 578, 579, 592, 593, 594, 595, 596, 597, 598, 599, 600, 587, 588, 589, 590, 591] (by decide +kernel) (by decide +kernel)) (goodIn_sub (fun _ h => List.mem_append_left _ (List.mem_append_left _ (List.mem_append_right _ h))) (by decide +kernel))
set_option maxRecDepth 20000 in
theorem gL_law_L_mends : GoodIn wsL_law (va_wsS RL 129 yL_mends wsL_mends) := goodIn_app (goodIn_of _ (by decide +kernel)) ggL_law_L_mends
set_option maxRecDepth 20000 in
theorem ggL_law_X4_mends : GoodIn wsL_law wsX4_mends := goodIn_r _ [444, 112, 56, 57, 168, 169, 5, 170, 116, 117, 118, 119, 120, 121, 122, 171, 172, 173, 174, 55, 580, 581, 582, 583, 584, 585, 586] (by decide +kernel) (by decide +kernel)
set_option maxRecDepth 20000 in
theorem gL_law_X4_mends : GoodIn wsL_law (wsV RL 131 RX4 yX4_mends wsX4_mends) := goodIn_app (goodIn_of _ (by decide +kernel)) ggL_law_X4_mends
set_option maxRecDepth 20000 in
theorem ggL_law_L_pass : GoodIn wsL_law wsL_pass := goodIn_ca (goodIn_r _ [447, 66, 448, 449, 450, 2, 451, 16, 79, 80, 81, 82, 83, 452, 453, 454, 15, 455, 24, 29, 25, 30, 456, 457, 458, 23, 459, 41, 460, 461, 462, 463, 42, 296, 297, 298, 299, 43, 464, 465, 466, 467, 39, 38, 44, 104, 105, 468, 469, 470, 28, 471, 50, 106, 107, 472, 473, 474, 475, 40, 578, 579, 587, 588, 589, 590, 591, 592, 593, 594, 595, 596, 597, 598, 599, 600, 601] (by decide +kernel) (by decide +kernel)) (goodIn_sub (fun _ h => List.mem_append_left _ (List.mem_append_right _ h)) (by decide +kernel))
set_option maxRecDepth 20000 in
theorem gL_law_L_pass : GoodIn wsL_law (va_wsS RL 132 yL_pass wsL_pass) := goodIn_app (goodIn_of _ (by decide +kernel)) ggL_law_L_pass
set_option maxRecDepth 20000 in
theorem ggL_law_X4_pass : GoodIn wsL_law wsX4_pass := goodIn_r _ [479, 112, 116, 117, 5, 118, 119, 120, 121, 122, 368, 369, 370, 371, 60, 59, 171, 172, 173, 174, 55, 372, 373, 374, 375, 56, 57, 376, 377, 378, 379, 152, 145, 146, 147, 380, 381, 382, 383, 260, 261, 262, 263, 126, 127, 128, 480, 481, 482, 483, 484, 485, 486, 487, 488, 489, 490, 491, 58, 197, 198, 199, 200, 175, 176, 177, 178, 492, 493, 494, 495, 496, 497, 498, 499, 580, 581, 582, 583, 584, 585, 586] (by decide +kernel) (by decide +kernel)
set_option maxRecDepth 20000 in
theorem gL_law_X4_pass : GoodIn wsL_law (wsV RL 134 RX4 yX4_pass wsX4_pass) := goodIn_app (goodIn_of _ (by decide +kernel)) ggL_law_X4_pass
set_option maxRecDepth 20000 in
theorem ggL_law_L_done : GoodIn wsL_law wsL_done := goodIn_ca (goodIn_r _ [502, 65, 503, 504, 505, 2, 506, 17, 16, 160, 161, 162, 74, 75, 76, 77, 78, 507, 508, 509, 15, 510, 24, 25, 29, 30, 31, 511, 512, 513, 23, 514, 37, 38, 39, 40, 41, 42, 43, 44, 515, 516, 163, 94, 95, 96, 517, 461, 462, 463, 296, 297, 298, 299, 452, 453, 454, 455, 456, 457, 458, 459, 460, 464, 465, 466, 467, 104, 105, 468, 469, 470, 28, 471, 50, 106, 107, 472, 473, 474, 475, 578, 579, 587, 588, 589, 590, 591, 601, 592, 593, 594, 595, 596, 597, 598, 599, 600] (by decide +kernel) (by decide +kernel)) (goodIn_sub (fun _ h => List.mem_append_left _ (List.mem_append_left _ (List.mem_append_right _ h))) (by decide +kernel))
set_option maxRecDepth 20000 in
theorem gL_law_L_done : GoodIn wsL_law (va_wsS RL 135 yL_done wsL_done) := goodIn_app (goodIn_of _ (by decide +kernel)) ggL_law_L_done
set_option maxRecDepth 20000 in
theorem ggL_law_X4_done : GoodIn wsL_law wsX4_done := goodIn_r _ [521, 112, 168, 169, 5, 170, 116, 117, 118, 119, 120, 121, 122, 522, 523, 524, 525, 526, 55, 527, 528, 529, 530, 531, 56, 58, 59, 60, 484, 485, 486, 487, 171, 172, 173, 174, 480, 481, 482, 483, 488, 489, 490, 491, 197, 198, 199, 200, 175, 176, 177, 178, 492, 493, 494, 495, 496, 497, 498, 499, 532, 533, 534, 535, 580, 581, 582, 583, 584, 585, 586] (by decide +kernel) (by decide +kernel)
set_option maxRecDepth 20000 in
theorem gL_law_X4_done : GoodIn wsL_law (wsV RL 137 RX4 yX4_done wsX4_done) := goodIn_app (goodIn_of _ (by decide +kernel)) ggL_law_X4_done
set_option maxRecDepth 20000 in
theorem ggL_law_L_foresee : GoodIn wsL_law wsL_foresee := goodIn_ca (goodIn_ca (goodIn_r _ [538, 66, 65, 539, 540, 541, 2, 542, 17, 16, 79, 80, 81, 82, 83, 74, 75, 76, 77, 78, 507, 508, 509, 15, 510, 24, 25, 29, 30, 31, 511, 512, 513, 23, 514, 37, 38, 39, 40, 41, 42, 43, 44, 515, 516, 452, 453, 454, 455, 456, 457, 458, 459, 460, 461, 462, 463, 296, 297, 298, 299, 464, 465, 466, 467, 104, 105, 468, 469, 470, 28, 471, 50, 106, 107, 472, 473, 474, 475, 543, 335, 336, 337, 544, 339, 340, 341, 342, 343, 344, 345, 545, 353, 354, 355, 346, 347, 348, 349, 350, 145, 146, 147, 351, 273, 274, 275, 98, 99, 578, 579, 587, 588, 589, 590, 591, 601, 592, 593, 594, 595, 596, 597, 598, 599, 600] (by decide +kernel) (by decide +kernel)) (goodIn_sub (fun _ h => List.mem_append_left _ (List.mem_append_right _ h)) (by decide +kernel))) (goodIn_sub (fun _ h => List.mem_append_left _ (List.mem_append_left _ (List.mem_append_right _ h))) (by decide +kernel))
set_option maxRecDepth 20000 in
theorem gL_law_L_foresee : GoodIn wsL_law (va_wsS RL 138 yL_foresee wsL_foresee) := goodIn_app (goodIn_of _ (by decide +kernel)) ggL_law_L_foresee
set_option maxRecDepth 20000 in
theorem ggL_law_X4_foresee : GoodIn wsL_law wsX4_foresee := goodIn_r _ [549, 112, 116, 117, 5, 118, 119, 120, 121, 122, 522, 523, 524, 525, 526, 55, 527, 528, 529, 530, 531, 56, 58, 59, 60, 480, 481, 482, 483, 171, 172, 173, 174, 484, 485, 486, 487, 488, 489, 490, 491, 197, 198, 199, 200, 175, 176, 177, 178, 492, 493, 494, 495, 496, 497, 498, 499, 368, 369, 370, 371, 372, 373, 374, 375, 57, 376, 377, 378, 379, 152, 145, 146, 147, 380, 381, 382, 383, 260, 261, 262, 263, 126, 127, 128, 532, 533, 534, 535, 580, 581, 582, 583, 584, 585, 586] (by decide +kernel) (by decide +kernel)
set_option maxRecDepth 20000 in
theorem gL_law_X4_foresee : GoodIn wsL_law (wsV RL 140 RX4 yX4_foresee wsX4_foresee) := goodIn_app (goodIn_of _ (by decide +kernel)) ggL_law_X4_foresee
set_option maxRecDepth 20000 in
theorem ggL_law_X3_share : GoodIn wsL_law wsX3_share := goodIn_r _ [553, 16, 543, 335, 336, 15, 337, 24, 25, 544, 339, 340, 341, 342, 343, 344, 23, 345, 43, 38, 37, 104, 2, 105, 578, 579, 587, 588, 589, 590, 591, 592, 593, 594, 595, 596, 597, 598, 599, 600] (by decide +kernel) (by decide +kernel)
set_option maxRecDepth 20000 in
theorem gL_law_X3_share : GoodIn wsL_law (wsV RL 141 RX3 yX3_share wsX3_share) := goodIn_app (goodIn_of _ (by decide +kernel)) ggL_law_X3_share
set_option maxRecDepth 20000 in
theorem ggL_law_X4_share : GoodIn wsL_law wsX4_share := goodIn_r _ [557, 112, 368, 369, 370, 5, 371, 60, 59, 171, 172, 173, 174, 55, 372, 373, 374, 375, 56, 57, 376, 377, 378, 379, 152, 145, 146, 147, 380, 381, 382, 383, 260, 261, 262, 263, 126, 127, 128, 580, 581, 582, 583, 584, 585, 586] (by decide +kernel) (by decide +kernel)
set_option maxRecDepth 20000 in
theorem gL_law_X4_share : GoodIn wsL_law (wsV RL 145 RX4 yX4_share wsX4_share) := goodIn_app (goodIn_of _ (by decide +kernel)) ggL_law_X4_share
set_option maxRecDepth 20000 in
theorem ggL_law_X3_digest : GoodIn wsL_law wsX3_digest := goodIn_r _ [561, 562, 16, 330, 331, 332, 15, 333, 30, 29, 31, 334, 335, 336, 337, 24, 25, 338, 339, 340, 341, 342, 343, 344, 23, 345, 43, 38, 37, 104, 2, 105, 346, 347, 348, 349, 350, 145, 146, 147, 351, 273, 274, 275, 352, 353, 354, 355, 98, 99, 356, 357, 358, 28, 359, 50, 360, 361, 362, 363, 563, 564, 565, 566, 243, 244, 245, 246, 247, 88, 89, 90, 91, 92, 93, 94, 95, 96, 248, 249, 250, 251, 252, 253, 254, 255, 163, 567, 568, 569, 570, 42, 39, 40, 571, 288, 289, 290, 41, 44, 291, 209, 210, 211, 292, 293, 294, 295, 45, 296, 297, 298, 299, 318, 578, 579, 587, 588, 589, 590, 591, 601, 592, 593, 594, 595, 596, 597, 598, 599, 600] (by decide +kernel) (by decide +kernel)
set_option maxRecDepth 20000 in
theorem gL_law_X3_digest : GoodIn wsL_law (wsV RL 146 RX3 yX3_digest wsX3_digest) := goodIn_app (goodIn_of _ (by decide +kernel)) ggL_law_X3_digest
set_option maxRecDepth 20000 in
theorem ggL_law_X4_digest : GoodIn wsL_law wsX4_digest := goodIn_r _ [575, 112, 576, 577, 57, 58, 59, 368, 369, 370, 5, 371, 60, 171, 172, 173, 174, 55, 372, 373, 374, 375, 56, 376, 377, 378, 379, 152, 145, 146, 147, 380, 381, 382, 383, 260, 261, 262, 263, 126, 127, 128, 304, 305, 306, 307, 216, 217, 218, 219, 197, 198, 199, 200, 308, 309, 310, 580, 581, 582, 583, 584, 585, 586] (by decide +kernel) (by decide +kernel)
set_option maxRecDepth 20000 in
theorem gL_law_X4_digest : GoodIn wsL_law (wsV RL 150 RX4 yX4_digest wsX4_digest) := goodIn_app (goodIn_of _ (by decide +kernel)) ggL_law_X4_digest
