theorem goodIn_one {big : List Cond} {w : Cond} (h : w ∈ big) (hg : goodWord w = true) : GoodIn big [w] := fun v hv => by rw [List.mem_singleton.mp hv]; exact ⟨h, good_of_word hg⟩
set_option maxRecDepth 20000 in
theorem ggL_law_X3_init : GoodIn wsL_law wsX3_init := goodIn_r _ [10, 11, 12, 13, 14, 15, 16, 17, 18, 19, 20, 21, 22, 23, 24, 25, 26, 27, 28, 29, 30, 31, 32, 33, 34, 35, 36, 3, 37, 38, 39, 40, 41, 42, 43, 44, 45, 46, 47, 48, 49, 50, 398, 399, 400, 401, 402, 396, 397, 403, 404, 405, 406, 407, 408, 409, 410, 411, 412] (by decide +kernel) (by decide +kernel)
set_option maxRecDepth 20000 in
theorem gL_law_X3_init : GoodIn wsL_law (wsX3_init) := ggL_law_X3_init
set_option maxRecDepth 20000 in
theorem gp_wsL_build_m : (.code yL_build cL_build 4 (some (.object "KnotRugsLaw$Sim")) : Cond) ∈ wsL_law0 := (List.mem_append_left _ (List.mem_append_left _ (List.mem_append_left _ (List.mem_append_left _ (List.mem_append_left _ (List.mem_append_left _ (List.mem_append_right _ (List.mem_append_right _ (List.mem_append_left _ (List.mem_of_getElem? (i := 6) rfl))))))))))
set_option maxRecDepth 20000 in
theorem gp_wsL_build_0 : GoodIn wsL_law [(.code yL_build cL_build 4 (some (.object "KnotRugsLaw$Sim")))] := goodIn_one (List.mem_append_left _ (List.mem_append_left _ (List.mem_append_left _ gp_wsL_build_m))) rfl
set_option maxRecDepth 20000 in
theorem gp_wsL_build_r1 : GoodIn wsL_law wsL_build_r1 := goodIn_r _ [55, 56, 57, 58, 59, 60, 61, 12, 13, 62, 3, 63, 64, 65, 66, 67, 68, 69, 70, 53, 71, 72, 73, 74] (by decide +kernel) (by decide +kernel)
set_option maxRecDepth 20000 in
theorem gp_wsL_build_r2 : GoodIn wsL_law wsL_build_r2 := goodIn_r _ [75, 76, 77, 78, 4, 5, 6, 7, 79, 80, 81, 82, 83, 84, 85, 86, 87, 88, 89, 90, 91, 92, 2, 93] (by decide +kernel) (by decide +kernel)
set_option maxRecDepth 20000 in
theorem gp_wsL_build_r3 : GoodIn wsL_law wsL_build_r3 := goodIn_r _ [94, 95, 17, 96, 97, 98, 99, 100, 101, 102, 103, 104, 105, 106, 107, 108, 109, 110, 111, 112, 113, 114, 16, 115] (by decide +kernel) (by decide +kernel)
set_option maxRecDepth 20000 in
theorem gp_wsL_build_r4 : GoodIn wsL_law wsL_build_r4 := goodIn_r _ [25, 26, 116, 117, 118, 24, 119, 39, 42, 40, 120, 121, 122, 123, 124, 125, 126, 127, 128, 129, 130, 131, 132, 133] (by decide +kernel) (by decide +kernel)
set_option maxRecDepth 20000 in
theorem gp_wsL_build_r5 : GoodIn wsL_law wsL_build_r5 := goodIn_r _ [134, 135, 136, 137, 138, 139, 140, 141, 142, 37, 143, 144, 145, 146, 147, 148, 149, 150, 151, 29, 152, 50, 153, 154] (by decide +kernel) (by decide +kernel)
set_option maxRecDepth 20000 in
theorem gp_wsL_build_r6 : GoodIn wsL_law wsL_build_r6 := goodIn_r _ [155, 156, 157, 158, 159, 160, 161, 162, 163, 164, 165, 166, 167, 168, 169, 170, 171, 172, 173, 174, 175, 176, 177, 178] (by decide +kernel) (by decide +kernel)
set_option maxRecDepth 20000 in
theorem gp_wsL_build_r7 : GoodIn wsL_law wsL_build_r7 := goodIn_r _ [179, 180, 181, 182, 183, 184, 43, 38, 185, 186, 187, 188, 189, 190, 191] (by decide +kernel) (by decide +kernel)
set_option maxRecDepth 20000 in
theorem gp_wsL_build_X4 : GoodIn wsL_law wsX40 := goodIn_r _ [413, 414, 415, 416, 417, 418, 419, 420] (by decide +kernel) (by decide +kernel)
set_option maxRecDepth 20000 in
theorem gp_wsL_build_X3 : GoodIn wsL_law wsX30 := goodIn_r _ [396, 397] (by decide +kernel) (by decide +kernel)
set_option maxRecDepth 20000 in
theorem gp_wsL_build_X2 : GoodIn wsL_law wsX20 := goodIn_r _ [403, 404, 405, 406, 407, 408, 409, 410, 411] (by decide +kernel) (by decide +kernel)
set_option maxRecDepth 20000 in
theorem gp_wsL_build_X1 : GoodIn wsL_law wsX10 := goodIn_r _ [398, 399, 400, 401, 402] (by decide +kernel) (by decide +kernel)
set_option maxRecDepth 20000 in
theorem gp_wsL_build_X0 : GoodIn wsL_law wsX00 := goodIn_r _ [412] (by decide +kernel) (by decide +kernel)
set_option maxRecDepth 20000 in
theorem gp_wsL_build_e0 : GoodIn wsL_law ((vx_atS RX3 71 "java/lang/IllegalStateException" ["java/lang/RuntimeException", "java/lang/Exception"]).filter goodWord) := goodIn_sub (fun _ h => List.mem_append_left _ (List.mem_append_left _ (List.mem_append_right _ h))) (by decide +kernel)
