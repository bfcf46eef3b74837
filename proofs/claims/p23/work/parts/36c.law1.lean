set_option maxRecDepth 20000 in
theorem gL_law_X3_pass : GoodIn wsL_law (wsV RL 96 RX3 yX3_pass wsX3_pass) := goodIn_app (goodIn_of _ (by decide +kernel)) ggL_law_X3_pass
set_option maxRecDepth 20000 in
theorem ggL_law_X4_pass : GoodIn wsL_law wsX4_pass := goodIn_r _ [303, 66, 304, 305, 306, 307, 57, 308, 65, 191, 171, 172, 173, 63, 174, 175, 176, 309, 310, 311, 312, 68, 67, 89, 413, 414, 415, 416, 417, 418, 419, 420] (by decide +kernel) (by decide +kernel)
set_option maxRecDepth 20000 in
theorem gL_law_X4_pass : GoodIn wsL_law (wsV RL 99 RX4 yX4_pass wsX4_pass) := goodIn_app (goodIn_of _ (by decide +kernel)) ggL_law_X4_pass
set_option maxRecDepth 20000 in
theorem ggL_law_X3_cell : GoodIn wsL_law wsX3_cell := goodIn_ca (goodIn_r _ [316, 17, 126, 127, 2, 128, 99, 100, 101, 102, 103, 317, 318, 319, 16, 320, 321, 130, 131, 132, 133, 134, 135, 113, 114, 115, 25, 26, 137, 138, 322, 323, 324, 24, 325, 43, 38, 143, 144, 326, 327, 328, 329, 396, 397, 398, 399, 400, 401, 402, 403, 404, 405, 406, 407, 408, 409, 410, 411] (by decide +kernel) (by decide +kernel)) (goodIn_sub (fun _ h => List.mem_append_left _ (List.mem_append_right _ h)) (by decide +kernel))
set_option maxRecDepth 20000 in
theorem gL_law_X3_cell : GoodIn wsL_law (wsV RL 102 RX3 yX3_cell wsX3_cell) := goodIn_app (goodIn_of _ (by decide +kernel)) ggL_law_X3_cell
set_option maxRecDepth 20000 in
theorem ggL_law_X3_sees : GoodIn wsL_law wsX3_sees := goodIn_ca (goodIn_r _ [333, 17, 96, 97, 2, 98, 99, 100, 101, 102, 103, 126, 127, 128, 334, 133, 134, 112, 113, 114, 16, 115, 25, 26, 335, 218, 219, 24, 220, 43, 317, 318, 319, 320, 321, 130, 131, 132, 135, 137, 138, 322, 323, 324, 325, 38, 143, 144, 396, 397, 398, 399, 400, 401, 402, 403, 404, 405, 406, 407, 408, 409, 410, 411] (by decide +kernel) (by decide +kernel)) (goodIn_sub (fun _ h => List.mem_append_left _ (List.mem_append_right _ h)) (by decide +kernel))
set_option maxRecDepth 20000 in
theorem gL_law_X3_sees : GoodIn wsL_law (wsV RL 104 RX3 yX3_sees wsX3_sees) := goodIn_app (goodIn_of _ (by decide +kernel)) ggL_law_X3_sees
set_option maxRecDepth 20000 in
theorem ggL_law_X3_runs : GoodIn wsL_law wsX3_runs := goodIn_ca (goodIn_r _ [339, 17, 96, 97, 2, 98, 99, 100, 101, 102, 103, 112, 113, 114, 16, 115, 25, 26, 340, 341, 342, 24, 343, 43, 37, 246, 247, 248, 249, 143, 144, 396, 397, 398, 399, 400, 401, 402, 403, 404, 405, 406, 407, 408, 409, 410, 411] (by decide +kernel) (by decide +kernel)) (goodIn_sub (fun _ h => List.mem_append_left _ (List.mem_append_right _ h)) (by decide +kernel))
set_option maxRecDepth 20000 in
theorem gL_law_X3_runs : GoodIn wsL_law (wsV RL 107 RX3 yX3_runs wsX3_runs) := goodIn_app (goodIn_of _ (by decide +kernel)) ggL_law_X3_runs
set_option maxRecDepth 20000 in
theorem ggL_law_X3_advise : GoodIn wsL_law wsX3_advise := goodIn_ca (goodIn_r _ [347, 17, 96, 97, 2, 98, 99, 100, 101, 102, 103, 112, 113, 114, 16, 115, 25, 26, 348, 247, 248, 24, 249, 43, 349, 143, 144, 350, 351, 352, 353, 37, 396, 397, 403, 404, 405, 406, 407, 408, 409, 410, 411, 398, 399, 400, 401, 402] (by decide +kernel) (by decide +kernel)) (goodIn_sub (fun _ h => List.mem_append_left _ (List.mem_append_right _ h)) (by decide +kernel))
set_option maxRecDepth 20000 in
theorem gL_law_X3_advise : GoodIn wsL_law (wsV RL 109 RX3 yX3_advise wsX3_advise) := goodIn_app (goodIn_of _ (by decide +kernel)) ggL_law_X3_advise
set_option maxRecDepth 20000 in
theorem ggL_law_X3_run : GoodIn wsL_law wsX3_run := goodIn_ca (goodIn_r _ [357, 17, 96, 97, 2, 98, 99, 100, 101, 102, 103, 112, 113, 114, 16, 115, 25, 26, 349, 143, 144, 396, 397, 403, 404, 405, 406, 407, 408, 409, 410, 411, 398, 399, 400, 401, 402] (by decide +kernel) (by decide +kernel)) (goodIn_sub (fun _ h => List.mem_append_left _ (List.mem_append_right _ h)) (by decide +kernel))
set_option maxRecDepth 20000 in
theorem gL_law_X3_run : GoodIn wsL_law (wsV RL 112 RX3 yX3_run wsX3_run) := goodIn_app (goodIn_of _ (by decide +kernel)) ggL_law_X3_run
set_option maxRecDepth 20000 in
theorem ggL_law_X3_mends : GoodIn wsL_law wsX3_mends := goodIn_ca (goodIn_r _ [361, 17, 96, 97, 2, 98, 99, 100, 101, 102, 103, 112, 113, 114, 16, 115, 25, 26, 362, 363, 364, 24, 365, 43, 38, 37, 143, 144, 396, 397, 403, 404, 405, 406, 407, 408, 409, 410, 411, 398, 399, 400, 401, 402] (by decide +kernel) (by decide +kernel)) (goodIn_sub (fun _ h => List.mem_append_left _ (List.mem_append_right _ h)) (by decide +kernel))
set_option maxRecDepth 20000 in
theorem gL_law_X3_mends : GoodIn wsL_law (wsV RL 115 RX3 yX3_mends wsX3_mends) := goodIn_app (goodIn_of _ (by decide +kernel)) ggL_law_X3_mends
set_option maxRecDepth 20000 in
theorem gp_wsX4_isSame_m : (.code yX4_isSame cX4_isSame 9 (some .boolean) : Cond) ∈ wsL_law0 := (List.mem_append_left _ (List.mem_append_left _ (List.mem_append_left _ (List.mem_append_left _ (List.mem_append_left _ (List.mem_append_left _ (List.mem_append_right _ (List.mem_append_right _ (List.mem_append_right _ (List.mem_append_right _ (List.mem_append_right _ (List.mem_append_right _ (List.mem_append_right _ (List.mem_append_right _ (List.mem_append_right _ (List.mem_append_right _ (List.mem_append_right _ (List.mem_append_right _ (List.mem_append_right _ (List.mem_append_right _ (List.mem_append_right _ (List.mem_append_left _ (List.mem_of_getElem? (i := 9) rfl)))))))))))))))))))))))
set_option maxRecDepth 20000 in
theorem gp_wsX4_isSame_0 : GoodIn wsL_law [(.code yX4_isSame cX4_isSame 9 (some .boolean))] := goodIn_one (List.mem_append_left _ (List.mem_append_left _ (List.mem_append_left _ gp_wsX4_isSame_m))) rfl
