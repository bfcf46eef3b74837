theorem dX0_init_0 : decode cX0_init 0 = .ok (.aload_n 0, 1) := by decide +kernel
theorem dX0_init_1 : decode cX0_init 1 = .ok (.invokespecial 3, 3) := by decide +kernel
theorem dX0_init_4 : decode cX0_init 4 = .ok (.aload_n 0, 1) := by decide +kernel
theorem dX0_init_5 : decode cX0_init 5 = .ok (.bipush 8, 2) := by decide +kernel
theorem dX0_init_7 : decode cX0_init 7 = .ok (.newarray .int, 2) := by decide +kernel
theorem dX0_init_9 : decode cX0_init 9 = .ok (.putfield 9, 3) := by decide +kernel
theorem dX0_init_12 : decode cX0_init 12 = .ok (.iconst 0, 1) := by decide +kernel
theorem dX0_init_13 : decode cX0_init 13 = .ok (.istore_n 1, 1) := by decide +kernel
theorem dX0_init_14 : decode cX0_init 14 = .ok (.iload_n 1, 1) := by decide +kernel
theorem dX0_init_15 : decode cX0_init 15 = .ok (.aload_n 0, 1) := by decide +kernel
theorem dX0_init_16 : decode cX0_init 16 = .ok (.getfield 9, 3) := by decide +kernel
theorem dX0_init_19 : decode cX0_init 19 = .ok (.arraylength, 1) := by decide +kernel
theorem dX0_init_20 : decode cX0_init 20 = .ok (.if_icmp .ge 17, 3) := by decide +kernel
theorem dX0_init_23 : decode cX0_init 23 = .ok (.aload_n 0, 1) := by decide +kernel
theorem dX0_init_24 : decode cX0_init 24 = .ok (.getfield 9, 3) := by decide +kernel
theorem dX0_init_27 : decode cX0_init 27 = .ok (.iload_n 1, 1) := by decide +kernel
theorem dX0_init_28 : decode cX0_init 28 = .ok (.bipush 30, 2) := by decide +kernel
theorem dX0_init_30 : decode cX0_init 30 = .ok (.iastore, 1) := by decide +kernel
theorem dX0_init_31 : decode cX0_init 31 = .ok (.iinc 1 1, 3) := by decide +kernel
theorem dX0_init_34 : decode cX0_init 34 = .ok (.goto (-20), 3) := by decide +kernel
theorem dX0_init_37 : decode cX0_init 37 = .ok (.return_, 1) := by decide +kernel
set_option maxRecDepth 20000 in
theorem ggX0_fill_X3_at : GoodIn wsX0_fill wsX3_at := goodIn_r _ [8] (by decide +kernel) (by decide +kernel)
set_option maxRecDepth 20000 in
theorem gX0_fill_X3_at_n15 : GoodIn wsX0_fill (wsX3_at) := ggX0_fill_X3_at
set_option maxRecDepth 20000 in
theorem ggX0_fill_X3_put : GoodIn wsX0_fill wsX3_put := goodIn_r _ [10] (by decide +kernel) (by decide +kernel)
set_option maxRecDepth 20000 in
theorem gX0_fill_X3_put_n25 : GoodIn wsX0_fill (wsX3_put) := ggX0_fill_X3_put
theorem dX0_fill_0 : decode cX0_fill 0 = .ok (.sipush 200, 3) := by decide +kernel
theorem dX0_fill_3 : decode cX0_fill 3 = .ok (.aload_n 0, 1) := by decide +kernel
theorem dX0_fill_4 : decode cX0_fill 4 = .ok (.getfield 9, 3) := by decide +kernel
theorem dX0_fill_7 : decode cX0_fill 7 = .ok (.iload_n 1, 1) := by decide +kernel
theorem dX0_fill_8 : decode cX0_fill 8 = .ok (.invokestatic 15, 3) := by decide +kernel
theorem dX0_fill_11 : decode cX0_fill 11 = .ok (.iload_n 2, 1) := by decide +kernel
theorem dX0_fill_12 : decode cX0_fill 12 = .ok (.iadd, 1) := by decide +kernel
theorem dX0_fill_13 : decode cX0_fill 13 = .ok (.invokestatic 19, 3) := by decide +kernel
theorem dX0_fill_16 : decode cX0_fill 16 = .ok (.istore_n 3, 1) := by decide +kernel
theorem dX0_fill_17 : decode cX0_fill 17 = .ok (.aload_n 0, 1) := by decide +kernel
theorem dX0_fill_18 : decode cX0_fill 18 = .ok (.getfield 9, 3) := by decide +kernel
theorem dX0_fill_21 : decode cX0_fill 21 = .ok (.iload_n 1, 1) := by decide +kernel
theorem dX0_fill_22 : decode cX0_fill 22 = .ok (.iload_n 3, 1) := by decide +kernel
theorem dX0_fill_23 : decode cX0_fill 23 = .ok (.invokestatic 25, 3) := by decide +kernel
theorem dX0_fill_26 : decode cX0_fill 26 = .ok (.iload_n 3, 1) := by decide +kernel
theorem dX0_fill_27 : decode cX0_fill 27 = .ok (.ireturn, 1) := by decide +kernel
set_option maxRecDepth 20000 in
theorem ggX0_take_X3_at : GoodIn wsX0_take wsX3_at := goodIn_r _ [4] (by decide +kernel) (by decide +kernel)
set_option maxRecDepth 20000 in
theorem gX0_take_X3_at_n15 : GoodIn wsX0_take (wsX3_at) := ggX0_take_X3_at
set_option maxRecDepth 20000 in
theorem ggX0_take_X3_put : GoodIn wsX0_take wsX3_put := goodIn_r _ [6] (by decide +kernel) (by decide +kernel)
set_option maxRecDepth 20000 in
theorem gX0_take_X3_put_n25 : GoodIn wsX0_take (wsX3_put) := ggX0_take_X3_put
theorem dX0_take_0 : decode cX0_take 0 = .ok (.iconst 0, 1) := by decide +kernel
theorem dX0_take_1 : decode cX0_take 1 = .ok (.istore_n 2, 1) := by decide +kernel
theorem dX0_take_2 : decode cX0_take 2 = .ok (.iload_n 2, 1) := by decide +kernel
theorem dX0_take_3 : decode cX0_take 3 = .ok (.bipush 8, 2) := by decide +kernel
theorem dX0_take_5 : decode cX0_take 5 = .ok (.if_icmp .ge 45, 3) := by decide +kernel
theorem dX0_take_8 : decode cX0_take 8 = .ok (.iload_n 1, 1) := by decide +kernel
theorem dX0_take_9 : decode cX0_take 9 = .ok (.iload_n 2, 1) := by decide +kernel
theorem dX0_take_10 : decode cX0_take 10 = .ok (.iadd, 1) := by decide +kernel
theorem dX0_take_11 : decode cX0_take 11 = .ok (.bipush 8, 2) := by decide +kernel
theorem dX0_take_13 : decode cX0_take 13 = .ok (.irem, 1) := by decide +kernel
theorem dX0_take_14 : decode cX0_take 14 = .ok (.istore_n 3, 1) := by decide +kernel
theorem dX0_take_15 : decode cX0_take 15 = .ok (.aload_n 0, 1) := by decide +kernel
theorem dX0_take_16 : decode cX0_take 16 = .ok (.getfield 9, 3) := by decide +kernel
theorem dX0_take_19 : decode cX0_take 19 = .ok (.iload_n 3, 1) := by decide +kernel
theorem dX0_take_20 : decode cX0_take 20 = .ok (.invokestatic 15, 3) := by decide +kernel
theorem dX0_take_23 : decode cX0_take 23 = .ok (.istore 4, 2) := by decide +kernel
theorem dX0_take_25 : decode cX0_take 25 = .ok (.iload 4, 2) := by decide +kernel
theorem dX0_take_27 : decode cX0_take 27 = .ok (.ifCond .le 17, 3) := by decide +kernel
theorem dX0_take_30 : decode cX0_take 30 = .ok (.aload_n 0, 1) := by decide +kernel
theorem dX0_take_31 : decode cX0_take 31 = .ok (.getfield 9, 3) := by decide +kernel
theorem dX0_take_34 : decode cX0_take 34 = .ok (.iload_n 3, 1) := by decide +kernel
theorem dX0_take_35 : decode cX0_take 35 = .ok (.iload 4, 2) := by decide +kernel
theorem dX0_take_37 : decode cX0_take 37 = .ok (.iconst 1, 1) := by decide +kernel
theorem dX0_take_38 : decode cX0_take 38 = .ok (.isub, 1) := by decide +kernel
theorem dX0_take_39 : decode cX0_take 39 = .ok (.invokestatic 25, 3) := by decide +kernel
theorem dX0_take_42 : decode cX0_take 42 = .ok (.iload_n 3, 1) := by decide +kernel
theorem dX0_take_43 : decode cX0_take 43 = .ok (.ireturn, 1) := by decide +kernel
theorem dX0_take_44 : decode cX0_take 44 = .ok (.iinc 2 1, 3) := by decide +kernel
theorem dX0_take_47 : decode cX0_take 47 = .ok (.goto (-45), 3) := by decide +kernel
theorem dX0_take_50 : decode cX0_take 50 = .ok (.iconst (-1), 1) := by decide +kernel
theorem dX0_take_51 : decode cX0_take 51 = .ok (.ireturn, 1) := by decide +kernel
set_option maxRecDepth 20000 in
theorem ggX0_inAll_X3_at : GoodIn wsX0_inAll wsX3_at := goodIn_r _ [4] (by decide +kernel) (by decide +kernel)
set_option maxRecDepth 20000 in
theorem gX0_inAll_X3_at_n15 : GoodIn wsX0_inAll (wsX3_at) := ggX0_inAll_X3_at
theorem dX0_inAll_0 : decode cX0_inAll 0 = .ok (.iconst 0, 1) := by decide +kernel
theorem dX0_inAll_1 : decode cX0_inAll 1 = .ok (.istore_n 1, 1) := by decide +kernel
theorem dX0_inAll_2 : decode cX0_inAll 2 = .ok (.iconst 0, 1) := by decide +kernel
theorem dX0_inAll_3 : decode cX0_inAll 3 = .ok (.istore_n 2, 1) := by decide +kernel
theorem dX0_inAll_4 : decode cX0_inAll 4 = .ok (.iload_n 2, 1) := by decide +kernel
theorem dX0_inAll_5 : decode cX0_inAll 5 = .ok (.bipush 8, 2) := by decide +kernel
theorem dX0_inAll_7 : decode cX0_inAll 7 = .ok (.if_icmp .ge 20, 3) := by decide +kernel
theorem dX0_inAll_10 : decode cX0_inAll 10 = .ok (.iload_n 1, 1) := by decide +kernel
theorem dX0_inAll_11 : decode cX0_inAll 11 = .ok (.aload_n 0, 1) := by decide +kernel
theorem dX0_inAll_12 : decode cX0_inAll 12 = .ok (.getfield 9, 3) := by decide +kernel
theorem dX0_inAll_15 : decode cX0_inAll 15 = .ok (.iload_n 2, 1) := by decide +kernel
theorem dX0_inAll_16 : decode cX0_inAll 16 = .ok (.invokestatic 15, 3) := by decide +kernel
theorem dX0_inAll_19 : decode cX0_inAll 19 = .ok (.iadd, 1) := by decide +kernel
theorem dX0_inAll_20 : decode cX0_inAll 20 = .ok (.istore_n 1, 1) := by decide +kernel
theorem dX0_inAll_21 : decode cX0_inAll 21 = .ok (.iinc 2 1, 3) := by decide +kernel
theorem dX0_inAll_24 : decode cX0_inAll 24 = .ok (.goto (-20), 3) := by decide +kernel
theorem dX0_inAll_27 : decode cX0_inAll 27 = .ok (.iload_n 1, 1) := by decide +kernel
theorem dX0_inAll_28 : decode cX0_inAll 28 = .ok (.ireturn, 1) := by decide +kernel
set_option maxRecDepth 20000 in
theorem ggX0_empty_X3_at : GoodIn wsX0_empty wsX3_at := goodIn_r _ [4] (by decide +kernel) (by decide +kernel)
set_option maxRecDepth 20000 in
theorem gX0_empty_X3_at_n15 : GoodIn wsX0_empty (wsX3_at) := ggX0_empty_X3_at
theorem dX0_empty_0 : decode cX0_empty 0 = .ok (.iconst 0, 1) := by decide +kernel
theorem dX0_empty_1 : decode cX0_empty 1 = .ok (.istore_n 1, 1) := by decide +kernel
theorem dX0_empty_2 : decode cX0_empty 2 = .ok (.iconst 0, 1) := by decide +kernel
theorem dX0_empty_3 : decode cX0_empty 3 = .ok (.istore_n 2, 1) := by decide +kernel
theorem dX0_empty_4 : decode cX0_empty 4 = .ok (.iload_n 2, 1) := by decide +kernel
theorem dX0_empty_5 : decode cX0_empty 5 = .ok (.bipush 8, 2) := by decide +kernel
theorem dX0_empty_7 : decode cX0_empty 7 = .ok (.if_icmp .ge 23, 3) := by decide +kernel
theorem dX0_empty_10 : decode cX0_empty 10 = .ok (.aload_n 0, 1) := by decide +kernel
theorem dX0_empty_11 : decode cX0_empty 11 = .ok (.getfield 9, 3) := by decide +kernel
theorem dX0_empty_14 : decode cX0_empty 14 = .ok (.iload_n 2, 1) := by decide +kernel
theorem dX0_empty_15 : decode cX0_empty 15 = .ok (.invokestatic 15, 3) := by decide +kernel
theorem dX0_empty_18 : decode cX0_empty 18 = .ok (.ifCond .ne 6, 3) := by decide +kernel
theorem dX0_empty_21 : decode cX0_empty 21 = .ok (.iinc 1 1, 3) := by decide +kernel
theorem dX0_empty_24 : decode cX0_empty 24 = .ok (.iinc 2 1, 3) := by decide +kernel
theorem dX0_empty_27 : decode cX0_empty 27 = .ok (.goto (-23), 3) := by decide +kernel
theorem dX0_empty_30 : decode cX0_empty 30 = .ok (.iload_n 1, 1) := by decide +kernel
theorem dX0_empty_31 : decode cX0_empty 31 = .ok (.ireturn, 1) := by decide +kernel
set_option maxRecDepth 20000 in
theorem ggX1_init_X2_init : GoodIn wsX1_init wsX2_init := goodIn_r _ [17, 18, 2, 3, 19, 20, 21, 22, 23, 24, 25, 26, 27, 28, 34, 35, 36, 37, 38, 39, 40, 41, 42] (by decide +kernel) (by decide +kernel)
set_option maxRecDepth 20000 in
theorem gX1_init_X2_init : GoodIn wsX1_init (wsX2_init) := ggX1_init_X2_init
set_option maxRecDepth 20000 in
theorem ggX1_init_X0_init : GoodIn wsX1_init wsX0_init := goodIn_r _ [31, 32, 2, 3, 19, 33, 48] (by decide +kernel) (by decide +kernel)
set_option maxRecDepth 20000 in
theorem gX1_init_X0_init : GoodIn wsX1_init (wsX0_init) := ggX1_init_X0_init
theorem dX1_init_0 : decode cX1_init 0 = .ok (.aload_n 0, 1) := by decide +kernel
theorem dX1_init_1 : decode cX1_init 1 = .ok (.invokespecial 3, 3) := by decide +kernel
theorem dX1_init_4 : decode cX1_init 4 = .ok (.aload_n 0, 1) := by decide +kernel
theorem dX1_init_5 : decode cX1_init 5 = .ok (.new 9, 3) := by decide +kernel
theorem dX1_init_8 : decode cX1_init 8 = .ok (.dup, 1) := by decide +kernel
theorem dX1_init_9 : decode cX1_init 9 = .ok (.iconst 0, 1) := by decide +kernel
theorem dX1_init_10 : decode cX1_init 10 = .ok (.invokespecial 11, 3) := by decide +kernel
theorem dX1_init_13 : decode cX1_init 13 = .ok (.putfield 14, 3) := by decide +kernel
theorem dX1_init_16 : decode cX1_init 16 = .ok (.aload_n 0, 1) := by decide +kernel
theorem dX1_init_17 : decode cX1_init 17 = .ok (.new 9, 3) := by decide +kernel
theorem dX1_init_20 : decode cX1_init 20 = .ok (.dup, 1) := by decide +kernel
theorem dX1_init_21 : decode cX1_init 21 = .ok (.iconst 1, 1) := by decide +kernel
theorem dX1_init_22 : decode cX1_init 22 = .ok (.invokespecial 11, 3) := by decide +kernel
theorem dX1_init_25 : decode cX1_init 25 = .ok (.putfield 20, 3) := by decide +kernel
theorem dX1_init_28 : decode cX1_init 28 = .ok (.aload_n 0, 1) := by decide +kernel
theorem dX1_init_29 : decode cX1_init 29 = .ok (.new 23, 3) := by decide +kernel
theorem dX1_init_32 : decode cX1_init 32 = .ok (.dup, 1) := by decide +kernel
theorem dX1_init_33 : decode cX1_init 33 = .ok (.invokespecial 25, 3) := by decide +kernel
theorem dX1_init_36 : decode cX1_init 36 = .ok (.putfield 26, 3) := by decide +kernel
theorem dX1_init_39 : decode cX1_init 39 = .ok (.aload_n 0, 1) := by decide +kernel
theorem dX1_init_40 : decode cX1_init 40 = .ok (.iconst 0, 1) := by decide +kernel
theorem dX1_init_41 : decode cX1_init 41 = .ok (.putfield 30, 3) := by decide +kernel
theorem dX1_init_44 : decode cX1_init 44 = .ok (.aload_n 0, 1) := by decide +kernel
theorem dX1_init_45 : decode cX1_init 45 = .ok (.iconst 0, 1) := by decide +kernel
theorem dX1_init_46 : decode cX1_init 46 = .ok (.putfield 34, 3) := by decide +kernel
theorem dX1_init_49 : decode cX1_init 49 = .ok (.return_, 1) := by decide +kernel
theorem dX1_weaverAt_0 : decode cX1_weaverAt 0 = .ok (.iload_n 1, 1) := by decide +kernel
theorem dX1_weaverAt_1 : decode cX1_weaverAt 1 = .ok (.ifCond .ne 10, 3) := by decide +kernel
theorem dX1_weaverAt_4 : decode cX1_weaverAt 4 = .ok (.aload_n 0, 1) := by decide +kernel
theorem dX1_weaverAt_5 : decode cX1_weaverAt 5 = .ok (.getfield 14, 3) := by decide +kernel
theorem dX1_weaverAt_8 : decode cX1_weaverAt 8 = .ok (.goto 7, 3) := by decide +kernel
theorem dX1_weaverAt_11 : decode cX1_weaverAt 11 = .ok (.aload_n 0, 1) := by decide +kernel
theorem dX1_weaverAt_12 : decode cX1_weaverAt 12 = .ok (.getfield 20, 3) := by decide +kernel
theorem dX1_weaverAt_15 : decode cX1_weaverAt 15 = .ok (.areturn, 1) := by decide +kernel
set_option maxRecDepth 20000 in
theorem ggX1_ownerOf_X3_sideOf : GoodIn wsX1_ownerOf wsX3_sideOf := goodIn_r _ [3] (by decide +kernel) (by decide +kernel)
set_option maxRecDepth 20000 in
theorem gX1_ownerOf_X3_sideOf_n37 : GoodIn wsX1_ownerOf (wsX3_sideOf) := ggX1_ownerOf_X3_sideOf
set_option maxRecDepth 20000 in
theorem ggX1_ownerOf_X1_weaverAt : GoodIn wsX1_ownerOf wsX1_weaverAt := goodIn_r _ [8, 9, 10, 11, 12, 13, 14, 15] (by decide +kernel) (by decide +kernel)
set_option maxRecDepth 20000 in
theorem gX1_ownerOf_X1_weaverAt : GoodIn wsX1_ownerOf (wsV RX1 41 RX1 yX1_weaverAt wsX1_weaverAt) := goodIn_app (goodIn_of _ (by decide +kernel)) ggX1_ownerOf_X1_weaverAt
theorem dX1_ownerOf_0 : decode cX1_ownerOf 0 = .ok (.aload_n 0, 1) := by decide +kernel
theorem dX1_ownerOf_1 : decode cX1_ownerOf 1 = .ok (.iload_n 1, 1) := by decide +kernel
theorem dX1_ownerOf_2 : decode cX1_ownerOf 2 = .ok (.invokestatic 37, 3) := by decide +kernel
theorem dX1_ownerOf_5 : decode cX1_ownerOf 5 = .ok (.invokevirtual 41, 3) := by decide +kernel
theorem dX1_ownerOf_8 : decode cX1_ownerOf 8 = .ok (.areturn, 1) := by decide +kernel
set_option maxRecDepth 20000 in
theorem ggX1_knotAt_X1_ownerOf : GoodIn wsX1_knotAt wsX1_ownerOf := goodIn_r _ [5, 6, 7, 8, 9, 10, 11, 4, 12, 13, 14, 26, 27, 28, 29, 30] (by decide +kernel) (by decide +kernel)
set_option maxRecDepth 20000 in
theorem gX1_knotAt_X1_ownerOf : GoodIn wsX1_knotAt (wsV RX1 45 RX1 yX1_ownerOf wsX1_ownerOf) := goodIn_app (goodIn_of _ (by decide +kernel)) ggX1_knotAt_X1_ownerOf
set_option maxRecDepth 20000 in
theorem ggX1_knotAt_X3_placeOf : GoodIn wsX1_knotAt wsX3_placeOf := goodIn_r _ [16] (by decide +kernel) (by decide +kernel)
set_option maxRecDepth 20000 in
theorem gX1_knotAt_X3_placeOf_n48 : GoodIn wsX1_knotAt (wsX3_placeOf) := ggX1_knotAt_X3_placeOf
set_option maxRecDepth 20000 in
theorem ggX1_knotAt_X2_knotAtPlace : GoodIn wsX1_knotAt wsX2_knotAtPlace := goodIn_r _ [21, 22, 23, 24, 7, 25, 31, 32, 33, 34, 35, 36, 37, 38, 39] (by decide +kernel) (by decide +kernel)
set_option maxRecDepth 20000 in
theorem gX1_knotAt_X2_knotAtPlace : GoodIn wsX1_knotAt (wsV RX1 52 RX2 yX2_knotAtPlace wsX2_knotAtPlace) := goodIn_app (goodIn_of _ (by decide +kernel)) ggX1_knotAt_X2_knotAtPlace
theorem dX1_knotAt_0 : decode cX1_knotAt 0 = .ok (.aload_n 0, 1) := by decide +kernel
theorem dX1_knotAt_1 : decode cX1_knotAt 1 = .ok (.iload_n 1, 1) := by decide +kernel
theorem dX1_knotAt_2 : decode cX1_knotAt 2 = .ok (.invokevirtual 45, 3) := by decide +kernel
theorem dX1_knotAt_5 : decode cX1_knotAt 5 = .ok (.iload_n 1, 1) := by decide +kernel
theorem dX1_knotAt_6 : decode cX1_knotAt 6 = .ok (.iload_n 2, 1) := by decide +kernel
theorem dX1_knotAt_7 : decode cX1_knotAt 7 = .ok (.invokestatic 48, 3) := by decide +kernel
theorem dX1_knotAt_10 : decode cX1_knotAt 10 = .ok (.invokevirtual 52, 3) := by decide +kernel
theorem dX1_knotAt_13 : decode cX1_knotAt 13 = .ok (.ireturn, 1) := by decide +kernel
set_option maxRecDepth 20000 in
theorem ggX1_planAt_X1_ownerOf : GoodIn wsX1_planAt wsX1_ownerOf := goodIn_r _ [5, 6, 7, 8, 9, 10, 11, 4, 12, 13, 14, 28, 29, 30, 31, 32] (by decide +kernel) (by decide +kernel)
set_option maxRecDepth 20000 in
theorem gX1_planAt_X1_ownerOf : GoodIn wsX1_planAt (wsV RX1 45 RX1 yX1_ownerOf wsX1_ownerOf) := goodIn_app (goodIn_of _ (by decide +kernel)) ggX1_planAt_X1_ownerOf
set_option maxRecDepth 20000 in
theorem ggX1_planAt_X3_placeOf : GoodIn wsX1_planAt wsX3_placeOf := goodIn_r _ [16] (by decide +kernel) (by decide +kernel)
set_option maxRecDepth 20000 in
theorem gX1_planAt_X3_placeOf_n48 : GoodIn wsX1_planAt (wsX3_placeOf) := ggX1_planAt_X3_placeOf
set_option maxRecDepth 20000 in
theorem ggX1_planAt_X3_at : GoodIn wsX1_planAt wsX3_at := goodIn_r _ [18] (by decide +kernel) (by decide +kernel)
set_option maxRecDepth 20000 in
theorem gX1_planAt_X3_at_n59 : GoodIn wsX1_planAt (wsX3_at) := ggX1_planAt_X3_at
theorem dX1_planAt_0 : decode cX1_planAt 0 = .ok (.aload_n 0, 1) := by decide +kernel
theorem dX1_planAt_1 : decode cX1_planAt 1 = .ok (.iload_n 1, 1) := by decide +kernel
theorem dX1_planAt_2 : decode cX1_planAt 2 = .ok (.invokevirtual 45, 3) := by decide +kernel
theorem dX1_planAt_5 : decode cX1_planAt 5 = .ok (.getfield 55, 3) := by decide +kernel
theorem dX1_planAt_8 : decode cX1_planAt 8 = .ok (.iload_n 1, 1) := by decide +kernel
theorem dX1_planAt_9 : decode cX1_planAt 9 = .ok (.iload_n 2, 1) := by decide +kernel
theorem dX1_planAt_10 : decode cX1_planAt 10 = .ok (.invokestatic 48, 3) := by decide +kernel
theorem dX1_planAt_13 : decode cX1_planAt 13 = .ok (.invokestatic 59, 3) := by decide +kernel
theorem dX1_planAt_16 : decode cX1_planAt 16 = .ok (.ireturn, 1) := by decide +kernel
set_option maxRecDepth 20000 in
theorem ggX1_becomeLike_X2_becomeLike : GoodIn wsX1_becomeLike wsX2_becomeLike := goodIn_r _ [10, 11, 12, 13, 14, 15, 16, 17, 18, 19, 20, 21, 28, 29, 30, 31, 32, 33, 34, 35, 36] (by decide +kernel) (by decide +kernel)
set_option maxRecDepth 20000 in
theorem gX1_becomeLike_X2_becomeLike : GoodIn wsX1_becomeLike (wsV RX1 63 RX2 yX2_becomeLike wsX2_becomeLike) := goodIn_app (goodIn_of _ (by decide +kernel)) ggX1_becomeLike_X2_becomeLike
set_option maxRecDepth 20000 in
theorem ggX1_becomeLike_X3_copyRow : GoodIn wsX1_becomeLike wsX3_copyRow := goodIn_r _ [21] (by decide +kernel) (by decide +kernel)
set_option maxRecDepth 20000 in
theorem gX1_becomeLike_X3_copyRow_n70 : GoodIn wsX1_becomeLike (wsX3_copyRow) := ggX1_becomeLike_X3_copyRow
theorem dX1_becomeLike_0 : decode cX1_becomeLike 0 = .ok (.aload_n 0, 1) := by decide +kernel
theorem dX1_becomeLike_1 : decode cX1_becomeLike 1 = .ok (.getfield 14, 3) := by decide +kernel
theorem dX1_becomeLike_4 : decode cX1_becomeLike 4 = .ok (.aload_n 1, 1) := by decide +kernel
theorem dX1_becomeLike_5 : decode cX1_becomeLike 5 = .ok (.getfield 14, 3) := by decide +kernel
theorem dX1_becomeLike_8 : decode cX1_becomeLike 8 = .ok (.invokevirtual 63, 3) := by decide +kernel
theorem dX1_becomeLike_11 : decode cX1_becomeLike 11 = .ok (.aload_n 0, 1) := by decide +kernel
theorem dX1_becomeLike_12 : decode cX1_becomeLike 12 = .ok (.getfield 20, 3) := by decide +kernel
theorem dX1_becomeLike_15 : decode cX1_becomeLike 15 = .ok (.aload_n 1, 1) := by decide +kernel
theorem dX1_becomeLike_16 : decode cX1_becomeLike 16 = .ok (.getfield 20, 3) := by decide +kernel
theorem dX1_becomeLike_19 : decode cX1_becomeLike 19 = .ok (.invokevirtual 63, 3) := by decide +kernel
theorem dX1_becomeLike_22 : decode cX1_becomeLike 22 = .ok (.aload_n 1, 1) := by decide +kernel
theorem dX1_becomeLike_23 : decode cX1_becomeLike 23 = .ok (.getfield 26, 3) := by decide +kernel
theorem dX1_becomeLike_26 : decode cX1_becomeLike 26 = .ok (.getfield 67, 3) := by decide +kernel
theorem dX1_becomeLike_29 : decode cX1_becomeLike 29 = .ok (.aload_n 0, 1) := by decide +kernel
theorem dX1_becomeLike_30 : decode cX1_becomeLike 30 = .ok (.getfield 26, 3) := by decide +kernel
theorem dX1_becomeLike_33 : decode cX1_becomeLike 33 = .ok (.getfield 67, 3) := by decide +kernel
theorem dX1_becomeLike_36 : decode cX1_becomeLike 36 = .ok (.invokestatic 70, 3) := by decide +kernel
theorem dX1_becomeLike_39 : decode cX1_becomeLike 39 = .ok (.aload_n 0, 1) := by decide +kernel
theorem dX1_becomeLike_40 : decode cX1_becomeLike 40 = .ok (.aload_n 1, 1) := by decide +kernel
theorem dX1_becomeLike_41 : decode cX1_becomeLike 41 = .ok (.getfield 30, 3) := by decide +kernel
theorem dX1_becomeLike_44 : decode cX1_becomeLike 44 = .ok (.putfield 30, 3) := by decide +kernel
theorem dX1_becomeLike_47 : decode cX1_becomeLike 47 = .ok (.aload_n 0, 1) := by decide +kernel
theorem dX1_becomeLike_48 : decode cX1_becomeLike 48 = .ok (.aload_n 1, 1) := by decide +kernel
theorem dX1_becomeLike_49 : decode cX1_becomeLike 49 = .ok (.getfield 34, 3) := by decide +kernel
theorem dX1_becomeLike_52 : decode cX1_becomeLike 52 = .ok (.putfield 34, 3) := by decide +kernel
theorem dX1_becomeLike_55 : decode cX1_becomeLike 55 = .ok (.return_, 1) := by decide +kernel
set_option maxRecDepth 20000 in
theorem ggX1_letGoBy_X2_workAnHour : GoodIn wsX1_letGoBy wsX2_workAnHour := goodIn_r _ [9, 10, 11, 12, 13, 8, 14, 15, 16, 17, 18, 19, 20, 21, 22, 23, 24, 25, 26, 27, 28, 29, 30, 31, 32, 33, 34, 35, 36, 37, 38, 39, 40, 41, 42, 43, 49, 50, 51, 52, 53, 54, 55, 56, 57, 58] (by decide +kernel) (by decide +kernel)
set_option maxRecDepth 20000 in
theorem gX1_letGoBy_X2_workAnHour : GoodIn wsX1_letGoBy (wsV RX1 74 RX2 yX2_workAnHour wsX2_workAnHour) := goodIn_app (goodIn_of _ (by decide +kernel)) ggX1_letGoBy_X2_workAnHour
theorem dX1_letGoBy_0 : decode cX1_letGoBy 0 = .ok (.iconst 0, 1) := by decide +kernel
theorem dX1_letGoBy_1 : decode cX1_letGoBy 1 = .ok (.istore_n 2, 1) := by decide +kernel
theorem dX1_letGoBy_2 : decode cX1_letGoBy 2 = .ok (.iconst 0, 1) := by decide +kernel
theorem dX1_letGoBy_3 : decode cX1_letGoBy 3 = .ok (.istore_n 3, 1) := by decide +kernel
theorem dX1_letGoBy_4 : decode cX1_letGoBy 4 = .ok (.iload_n 3, 1) := by decide +kernel
theorem dX1_letGoBy_5 : decode cX1_letGoBy 5 = .ok (.iload_n 1, 1) := by decide +kernel
theorem dX1_letGoBy_6 : decode cX1_letGoBy 6 = .ok (.if_icmp .ge 47, 3) := by decide +kernel
theorem dX1_letGoBy_9 : decode cX1_letGoBy 9 = .ok (.iload_n 2, 1) := by decide +kernel
theorem dX1_letGoBy_10 : decode cX1_letGoBy 10 = .ok (.aload_n 0, 1) := by decide +kernel
theorem dX1_letGoBy_11 : decode cX1_letGoBy 11 = .ok (.getfield 14, 3) := by decide +kernel
theorem dX1_letGoBy_14 : decode cX1_letGoBy 14 = .ok (.aload_n 0, 1) := by decide +kernel
theorem dX1_letGoBy_15 : decode cX1_letGoBy 15 = .ok (.getfield 26, 3) := by decide +kernel
theorem dX1_letGoBy_18 : decode cX1_letGoBy 18 = .ok (.invokevirtual 74, 3) := by decide +kernel
theorem dX1_letGoBy_21 : decode cX1_letGoBy 21 = .ok (.iadd, 1) := by decide +kernel
theorem dX1_letGoBy_22 : decode cX1_letGoBy 22 = .ok (.istore_n 2, 1) := by decide +kernel
theorem dX1_letGoBy_23 : decode cX1_letGoBy 23 = .ok (.iload_n 2, 1) := by decide +kernel
theorem dX1_letGoBy_24 : decode cX1_letGoBy 24 = .ok (.aload_n 0, 1) := by decide +kernel
theorem dX1_letGoBy_25 : decode cX1_letGoBy 25 = .ok (.getfield 20, 3) := by decide +kernel
theorem dX1_letGoBy_28 : decode cX1_letGoBy 28 = .ok (.aload_n 0, 1) := by decide +kernel
theorem dX1_letGoBy_29 : decode cX1_letGoBy 29 = .ok (.getfield 26, 3) := by decide +kernel
theorem dX1_letGoBy_32 : decode cX1_letGoBy 32 = .ok (.invokevirtual 74, 3) := by decide +kernel
theorem dX1_letGoBy_35 : decode cX1_letGoBy 35 = .ok (.iadd, 1) := by decide +kernel
theorem dX1_letGoBy_36 : decode cX1_letGoBy 36 = .ok (.istore_n 2, 1) := by decide +kernel
theorem dX1_letGoBy_37 : decode cX1_letGoBy 37 = .ok (.aload_n 0, 1) := by decide +kernel
theorem dX1_letGoBy_38 : decode cX1_letGoBy 38 = .ok (.dup, 1) := by decide +kernel
theorem dX1_letGoBy_39 : decode cX1_letGoBy 39 = .ok (.getfield 30, 3) := by decide +kernel
theorem dX1_letGoBy_42 : decode cX1_letGoBy 42 = .ok (.iconst 1, 1) := by decide +kernel
theorem dX1_letGoBy_43 : decode cX1_letGoBy 43 = .ok (.iadd, 1) := by decide +kernel
theorem dX1_letGoBy_44 : decode cX1_letGoBy 44 = .ok (.putfield 30, 3) := by decide +kernel
theorem dX1_letGoBy_47 : decode cX1_letGoBy 47 = .ok (.iinc 3 1, 3) := by decide +kernel
theorem dX1_letGoBy_50 : decode cX1_letGoBy 50 = .ok (.goto (-46), 3) := by decide +kernel
theorem dX1_letGoBy_53 : decode cX1_letGoBy 53 = .ok (.iload_n 2, 1) := by decide +kernel
theorem dX1_letGoBy_54 : decode cX1_letGoBy 54 = .ok (.ireturn, 1) := by decide +kernel
set_option maxRecDepth 20000 in
theorem ggX1_number_X1_knots : GoodIn wsX1_number wsX1_knots := goodIn_r _ [8, 9, 10, 54, 55, 56, 57, 58, 59, 60, 61, 62, 63, 64, 65, 66, 67] (by decide +kernel) (by decide +kernel)
set_option maxRecDepth 20000 in
theorem gX1_number_X1_knots : GoodIn wsX1_number (wsV RX1 78 RX1 yX1_knots wsX1_knots) := goodIn_app (goodIn_of _ (by decide +kernel)) ggX1_number_X1_knots
set_option maxRecDepth 20000 in
theorem ggX1_number_X1_offPlan : GoodIn wsX1_number wsX1_offPlan := goodIn_r _ [14, 9, 10, 15, 16, 17, 18, 19, 20, 21, 22, 23, 24, 25, 54, 55, 56, 57, 58, 59, 60, 61, 62, 63, 64, 65, 66, 67] (by decide +kernel) (by decide +kernel)
set_option maxRecDepth 20000 in
theorem gX1_number_X1_offPlan : GoodIn wsX1_number (wsV RX1 82 RX1 yX1_offPlan wsX1_offPlan) := goodIn_app (goodIn_of _ (by decide +kernel)) ggX1_number_X1_offPlan
set_option maxRecDepth 20000 in
theorem ggX1_number_X1_rowsDone : GoodIn wsX1_number wsX1_rowsDone := goodIn_r _ [29, 9, 10, 30, 31, 32, 33, 34, 35, 36, 18, 37, 20, 54, 55, 56, 57, 58, 59, 60, 61, 62, 63, 64, 65, 66, 67] (by decide +kernel) (by decide +kernel)
set_option maxRecDepth 20000 in
theorem gX1_number_X1_rowsDone : GoodIn wsX1_number (wsV RX1 85 RX1 yX1_rowsDone wsX1_rowsDone) := goodIn_app (goodIn_of _ (by decide +kernel)) ggX1_number_X1_rowsDone
set_option maxRecDepth 20000 in
theorem ggX1_number_X1_tornRows : GoodIn wsX1_number wsX1_tornRows := goodIn_r _ [41, 9, 10, 26, 27, 28, 7, 29, 30, 31, 32, 33, 34, 35, 36, 18, 37, 20, 42, 24, 43, 23, 25, 54, 55, 56, 57, 58, 59, 60, 61, 62, 63, 64, 65, 66, 67] (by decide +kernel) (by decide +kernel)
set_option maxRecDepth 20000 in
theorem gX1_number_X1_tornRows : GoodIn wsX1_number (wsV RX1 88 RX1 yX1_tornRows wsX1_tornRows) := goodIn_app (goodIn_of _ (by decide +kernel)) ggX1_number_X1_tornRows
set_option maxRecDepth 20000 in
theorem ggX1_number_X0_inAll : GoodIn wsX1_number wsX0_inAll := goodIn_r _ [48, 49, 23, 24, 25, 68] (by decide +kernel) (by decide +kernel)
set_option maxRecDepth 20000 in
theorem gX1_number_X0_inAll : GoodIn wsX1_number (wsV RX1 91 RX0 yX0_inAll wsX0_inAll) := goodIn_app (goodIn_of _ (by decide +kernel)) ggX1_number_X0_inAll
set_option maxRecDepth 20000 in
theorem ggX1_number_X0_empty : GoodIn wsX1_number wsX0_empty := goodIn_r _ [53, 49, 23, 24, 25, 68] (by decide +kernel) (by decide +kernel)
set_option maxRecDepth 20000 in
theorem gX1_number_X0_empty : GoodIn wsX1_number (wsV RX1 94 RX0 yX0_empty wsX0_empty) := goodIn_app (goodIn_of _ (by decide +kernel)) ggX1_number_X0_empty
theorem dX1_number_0 : decode cX1_number 0 = .ok (.iload_n 1, 1) := by decide +kernel
theorem dX1_number_1 : decode cX1_number 1 = .ok (.tableswitch 84 0 6 #[43, 48, 53, 58, 63, 68, 76], 43) := by decide +kernel
theorem dX1_number_44 : decode cX1_number 44 = .ok (.aload_n 0, 1) := by decide +kernel
theorem dX1_number_45 : decode cX1_number 45 = .ok (.getfield 30, 3) := by decide +kernel
theorem dX1_number_48 : decode cX1_number 48 = .ok (.ireturn, 1) := by decide +kernel
theorem dX1_number_49 : decode cX1_number 49 = .ok (.aload_n 0, 1) := by decide +kernel
theorem dX1_number_50 : decode cX1_number 50 = .ok (.invokevirtual 78, 3) := by decide +kernel
theorem dX1_number_53 : decode cX1_number 53 = .ok (.ireturn, 1) := by decide +kernel
theorem dX1_number_54 : decode cX1_number 54 = .ok (.aload_n 0, 1) := by decide +kernel
theorem dX1_number_55 : decode cX1_number 55 = .ok (.invokevirtual 82, 3) := by decide +kernel
theorem dX1_number_58 : decode cX1_number 58 = .ok (.ireturn, 1) := by decide +kernel
theorem dX1_number_59 : decode cX1_number 59 = .ok (.aload_n 0, 1) := by decide +kernel
theorem dX1_number_60 : decode cX1_number 60 = .ok (.invokevirtual 85, 3) := by decide +kernel
theorem dX1_number_63 : decode cX1_number 63 = .ok (.ireturn, 1) := by decide +kernel
theorem dX1_number_64 : decode cX1_number 64 = .ok (.aload_n 0, 1) := by decide +kernel
theorem dX1_number_65 : decode cX1_number 65 = .ok (.invokevirtual 88, 3) := by decide +kernel
theorem dX1_number_68 : decode cX1_number 68 = .ok (.ireturn, 1) := by decide +kernel
theorem dX1_number_69 : decode cX1_number 69 = .ok (.aload_n 0, 1) := by decide +kernel
theorem dX1_number_70 : decode cX1_number 70 = .ok (.getfield 26, 3) := by decide +kernel
theorem dX1_number_73 : decode cX1_number 73 = .ok (.invokevirtual 91, 3) := by decide +kernel
theorem dX1_number_76 : decode cX1_number 76 = .ok (.ireturn, 1) := by decide +kernel
theorem dX1_number_77 : decode cX1_number 77 = .ok (.aload_n 0, 1) := by decide +kernel
theorem dX1_number_78 : decode cX1_number 78 = .ok (.getfield 26, 3) := by decide +kernel
theorem dX1_number_81 : decode cX1_number 81 = .ok (.invokevirtual 94, 3) := by decide +kernel
theorem dX1_number_84 : decode cX1_number 84 = .ok (.ireturn, 1) := by decide +kernel
theorem dX1_number_85 : decode cX1_number 85 = .ok (.aload_n 0, 1) := by decide +kernel
theorem dX1_number_86 : decode cX1_number 86 = .ok (.getfield 34, 3) := by decide +kernel
theorem dX1_number_89 : decode cX1_number 89 = .ok (.ireturn, 1) := by decide +kernel
theorem dX1_knots_0 : decode cX1_knots 0 = .ok (.aload_n 0, 1) := by decide +kernel
theorem dX1_knots_1 : decode cX1_knots 1 = .ok (.getfield 14, 3) := by decide +kernel
theorem dX1_knots_4 : decode cX1_knots 4 = .ok (.getfield 97, 3) := by decide +kernel
theorem dX1_knots_7 : decode cX1_knots 7 = .ok (.aload_n 0, 1) := by decide +kernel
theorem dX1_knots_8 : decode cX1_knots 8 = .ok (.getfield 20, 3) := by decide +kernel
theorem dX1_knots_11 : decode cX1_knots 11 = .ok (.getfield 97, 3) := by decide +kernel
theorem dX1_knots_14 : decode cX1_knots 14 = .ok (.iadd, 1) := by decide +kernel
theorem dX1_knots_15 : decode cX1_knots 15 = .ok (.ireturn, 1) := by decide +kernel
set_option maxRecDepth 20000 in
theorem ggX1_offPlan_X2_offPlan : GoodIn wsX1_offPlan wsX2_offPlan := goodIn_r _ [7, 8, 9, 10, 11, 12, 13, 19, 20, 21, 22, 23, 24, 25, 26, 27] (by decide +kernel) (by decide +kernel)
set_option maxRecDepth 20000 in
theorem gX1_offPlan_X2_offPlan : GoodIn wsX1_offPlan (wsV RX1 100 RX2 yX2_offPlan wsX2_offPlan) := goodIn_app (goodIn_of _ (by decide +kernel)) ggX1_offPlan_X2_offPlan
theorem dX1_offPlan_0 : decode cX1_offPlan 0 = .ok (.aload_n 0, 1) := by decide +kernel
theorem dX1_offPlan_1 : decode cX1_offPlan 1 = .ok (.getfield 14, 3) := by decide +kernel
theorem dX1_offPlan_4 : decode cX1_offPlan 4 = .ok (.invokevirtual 100, 3) := by decide +kernel
theorem dX1_offPlan_7 : decode cX1_offPlan 7 = .ok (.aload_n 0, 1) := by decide +kernel
theorem dX1_offPlan_8 : decode cX1_offPlan 8 = .ok (.getfield 20, 3) := by decide +kernel
theorem dX1_offPlan_11 : decode cX1_offPlan 11 = .ok (.invokevirtual 100, 3) := by decide +kernel
theorem dX1_offPlan_14 : decode cX1_offPlan 14 = .ok (.iadd, 1) := by decide +kernel
theorem dX1_offPlan_15 : decode cX1_offPlan 15 = .ok (.ireturn, 1) := by decide +kernel
set_option maxRecDepth 20000 in
theorem ggX1_rowsDone_X2_rowsDone : GoodIn wsX1_rowsDone wsX2_rowsDone := goodIn_r _ [11, 12, 18, 19, 20, 21, 22, 23, 24, 25, 26] (by decide +kernel) (by decide +kernel)
set_option maxRecDepth 20000 in
theorem gX1_rowsDone_X2_rowsDone : GoodIn wsX1_rowsDone (wsV RX1 101 RX2 yX2_rowsDone wsX2_rowsDone) := goodIn_app (goodIn_of _ (by decide +kernel)) ggX1_rowsDone_X2_rowsDone
theorem dX1_rowsDone_0 : decode cX1_rowsDone 0 = .ok (.aload_n 0, 1) := by decide +kernel
theorem dX1_rowsDone_1 : decode cX1_rowsDone 1 = .ok (.getfield 14, 3) := by decide +kernel
theorem dX1_rowsDone_4 : decode cX1_rowsDone 4 = .ok (.invokevirtual 101, 3) := by decide +kernel
theorem dX1_rowsDone_7 : decode cX1_rowsDone 7 = .ok (.aload_n 0, 1) := by decide +kernel
theorem dX1_rowsDone_8 : decode cX1_rowsDone 8 = .ok (.getfield 20, 3) := by decide +kernel
theorem dX1_rowsDone_11 : decode cX1_rowsDone 11 = .ok (.invokevirtual 101, 3) := by decide +kernel
theorem dX1_rowsDone_14 : decode cX1_rowsDone 14 = .ok (.invokestatic 102, 3) := by decide +kernel
theorem dX1_rowsDone_17 : decode cX1_rowsDone 17 = .ok (.ireturn, 1) := by decide +kernel
set_option maxRecDepth 20000 in
theorem ggX1_tornRows_X1_rowsDone : GoodIn wsX1_tornRows wsX1_rowsDone := goodIn_r _ [7, 1, 2, 8, 9, 10, 11, 12, 13, 14, 15, 16, 17, 23, 24, 25, 26, 27, 28, 29, 30, 31, 32, 33, 34, 35, 36] (by decide +kernel) (by decide +kernel)
set_option maxRecDepth 20000 in
theorem gX1_tornRows_X1_rowsDone : GoodIn wsX1_tornRows (wsV RX1 85 RX1 yX1_rowsDone wsX1_rowsDone) := goodIn_app (goodIn_of _ (by decide +kernel)) ggX1_tornRows_X1_rowsDone
set_option maxRecDepth 20000 in
theorem ggX1_tornRows_X3_placeOf : GoodIn wsX1_tornRows wsX3_placeOf := goodIn_r _ [20] (by decide +kernel) (by decide +kernel)
set_option maxRecDepth 20000 in
theorem gX1_tornRows_X3_placeOf_n48 : GoodIn wsX1_tornRows (wsX3_placeOf) := ggX1_tornRows_X3_placeOf
set_option maxRecDepth 20000 in
theorem ggX1_tornRows_X3_at : GoodIn wsX1_tornRows wsX3_at := goodIn_r _ [22] (by decide +kernel) (by decide +kernel)
set_option maxRecDepth 20000 in
theorem gX1_tornRows_X3_at_n59 : GoodIn wsX1_tornRows (wsX3_at) := ggX1_tornRows_X3_at
theorem dX1_tornRows_0 : decode cX1_tornRows 0 = .ok (.iconst 0, 1) := by decide +kernel
theorem dX1_tornRows_1 : decode cX1_tornRows 1 = .ok (.istore_n 1, 1) := by decide +kernel
theorem dX1_tornRows_2 : decode cX1_tornRows 2 = .ok (.aload_n 0, 1) := by decide +kernel
theorem dX1_tornRows_3 : decode cX1_tornRows 3 = .ok (.invokevirtual 85, 3) := by decide +kernel
theorem dX1_tornRows_6 : decode cX1_tornRows 6 = .ok (.istore_n 2, 1) := by decide +kernel
theorem dX1_tornRows_7 : decode cX1_tornRows 7 = .ok (.iconst 0, 1) := by decide +kernel
theorem dX1_tornRows_8 : decode cX1_tornRows 8 = .ok (.istore_n 3, 1) := by decide +kernel
theorem dX1_tornRows_9 : decode cX1_tornRows 9 = .ok (.iload_n 3, 1) := by decide +kernel
theorem dX1_tornRows_10 : decode cX1_tornRows 10 = .ok (.iload_n 2, 1) := by decide +kernel
theorem dX1_tornRows_11 : decode cX1_tornRows 11 = .ok (.if_icmp .ge 95, 3) := by decide +kernel
theorem dX1_tornRows_14 : decode cX1_tornRows 14 = .ok (.bipush 6, 2) := by decide +kernel
theorem dX1_tornRows_16 : decode cX1_tornRows 16 = .ok (.iload_n 3, 1) := by decide +kernel
theorem dX1_tornRows_17 : decode cX1_tornRows 17 = .ok (.invokestatic 48, 3) := by decide +kernel
theorem dX1_tornRows_20 : decode cX1_tornRows 20 = .ok (.istore 4, 2) := by decide +kernel
theorem dX1_tornRows_22 : decode cX1_tornRows 22 = .ok (.aload_n 0, 1) := by decide +kernel
theorem dX1_tornRows_23 : decode cX1_tornRows 23 = .ok (.getfield 14, 3) := by decide +kernel
theorem dX1_tornRows_26 : decode cX1_tornRows 26 = .ok (.getfield 107, 3) := by decide +kernel
theorem dX1_tornRows_29 : decode cX1_tornRows 29 = .ok (.iload 4, 2) := by decide +kernel
theorem dX1_tornRows_31 : decode cX1_tornRows 31 = .ok (.invokestatic 59, 3) := by decide +kernel
theorem dX1_tornRows_34 : decode cX1_tornRows 34 = .ok (.aload_n 0, 1) := by decide +kernel
theorem dX1_tornRows_35 : decode cX1_tornRows 35 = .ok (.getfield 20, 3) := by decide +kernel
theorem dX1_tornRows_38 : decode cX1_tornRows 38 = .ok (.getfield 107, 3) := by decide +kernel
theorem dX1_tornRows_41 : decode cX1_tornRows 41 = .ok (.iload 4, 2) := by decide +kernel
theorem dX1_tornRows_43 : decode cX1_tornRows 43 = .ok (.invokestatic 59, 3) := by decide +kernel
theorem dX1_tornRows_46 : decode cX1_tornRows 46 = .ok (.if_icmp .ne 7, 3) := by decide +kernel
theorem dX1_tornRows_49 : decode cX1_tornRows 49 = .ok (.iconst 1, 1) := by decide +kernel
theorem dX1_tornRows_50 : decode cX1_tornRows 50 = .ok (.goto 4, 3) := by decide +kernel
theorem dX1_tornRows_53 : decode cX1_tornRows 53 = .ok (.iconst 0, 1) := by decide +kernel
theorem dX1_tornRows_54 : decode cX1_tornRows 54 = .ok (.istore 5, 2) := by decide +kernel
theorem dX1_tornRows_56 : decode cX1_tornRows 56 = .ok (.aload_n 0, 1) := by decide +kernel
theorem dX1_tornRows_57 : decode cX1_tornRows 57 = .ok (.getfield 14, 3) := by decide +kernel
theorem dX1_tornRows_60 : decode cX1_tornRows 60 = .ok (.getfield 55, 3) := by decide +kernel
theorem dX1_tornRows_63 : decode cX1_tornRows 63 = .ok (.iload 4, 2) := by decide +kernel
theorem dX1_tornRows_65 : decode cX1_tornRows 65 = .ok (.invokestatic 59, 3) := by decide +kernel
theorem dX1_tornRows_68 : decode cX1_tornRows 68 = .ok (.aload_n 0, 1) := by decide +kernel
theorem dX1_tornRows_69 : decode cX1_tornRows 69 = .ok (.getfield 20, 3) := by decide +kernel
theorem dX1_tornRows_72 : decode cX1_tornRows 72 = .ok (.getfield 55, 3) := by decide +kernel
theorem dX1_tornRows_75 : decode cX1_tornRows 75 = .ok (.iload 4, 2) := by decide +kernel
theorem dX1_tornRows_77 : decode cX1_tornRows 77 = .ok (.invokestatic 59, 3) := by decide +kernel
theorem dX1_tornRows_80 : decode cX1_tornRows 80 = .ok (.if_icmp .ne 7, 3) := by decide +kernel
theorem dX1_tornRows_83 : decode cX1_tornRows 83 = .ok (.iconst 1, 1) := by decide +kernel
theorem dX1_tornRows_84 : decode cX1_tornRows 84 = .ok (.goto 4, 3) := by decide +kernel
theorem dX1_tornRows_87 : decode cX1_tornRows 87 = .ok (.iconst 0, 1) := by decide +kernel
theorem dX1_tornRows_88 : decode cX1_tornRows 88 = .ok (.istore 6, 2) := by decide +kernel
theorem dX1_tornRows_90 : decode cX1_tornRows 90 = .ok (.iload 5, 2) := by decide +kernel
theorem dX1_tornRows_92 : decode cX1_tornRows 92 = .ok (.iload 6, 2) := by decide +kernel
theorem dX1_tornRows_94 : decode cX1_tornRows 94 = .ok (.if_icmp .eq 6, 3) := by decide +kernel
theorem dX1_tornRows_97 : decode cX1_tornRows 97 = .ok (.iinc 1 1, 3) := by decide +kernel
theorem dX1_tornRows_100 : decode cX1_tornRows 100 = .ok (.iinc 3 1, 3) := by decide +kernel
theorem dX1_tornRows_103 : decode cX1_tornRows 103 = .ok (.goto (-94), 3) := by decide +kernel
theorem dX1_tornRows_106 : decode cX1_tornRows 106 = .ok (.iload_n 1, 1) := by decide +kernel
theorem dX1_tornRows_107 : decode cX1_tornRows 107 = .ok (.ireturn, 1) := by decide +kernel
theorem dX2_init_0 : decode cX2_init 0 = .ok (.aload_n 0, 1) := by decide +kernel
theorem dX2_init_1 : decode cX2_init 1 = .ok (.invokespecial 3, 3) := by decide +kernel
theorem dX2_init_4 : decode cX2_init 4 = .ok (.aload_n 0, 1) := by decide +kernel
theorem dX2_init_5 : decode cX2_init 5 = .ok (.bipush 60, 2) := by decide +kernel
theorem dX2_init_7 : decode cX2_init 7 = .ok (.newarray .int, 2) := by decide +kernel
theorem dX2_init_9 : decode cX2_init 9 = .ok (.putfield 9, 3) := by decide +kernel
theorem dX2_init_12 : decode cX2_init 12 = .ok (.aload_n 0, 1) := by decide +kernel
theorem dX2_init_13 : decode cX2_init 13 = .ok (.bipush 60, 2) := by decide +kernel
theorem dX2_init_15 : decode cX2_init 15 = .ok (.newarray .int, 2) := by decide +kernel
theorem dX2_init_17 : decode cX2_init 17 = .ok (.putfield 15, 3) := by decide +kernel
theorem dX2_init_20 : decode cX2_init 20 = .ok (.aload_n 0, 1) := by decide +kernel
theorem dX2_init_21 : decode cX2_init 21 = .ok (.bipush 20, 2) := by decide +kernel
theorem dX2_init_23 : decode cX2_init 23 = .ok (.newarray .int, 2) := by decide +kernel
theorem dX2_init_25 : decode cX2_init 25 = .ok (.putfield 18, 3) := by decide +kernel
theorem dX2_init_28 : decode cX2_init 28 = .ok (.aload_n 0, 1) := by decide +kernel
theorem dX2_init_29 : decode cX2_init 29 = .ok (.bipush 20, 2) := by decide +kernel
theorem dX2_init_31 : decode cX2_init 31 = .ok (.newarray .int, 2) := by decide +kernel
theorem dX2_init_33 : decode cX2_init 33 = .ok (.putfield 21, 3) := by decide +kernel
theorem dX2_init_36 : decode cX2_init 36 = .ok (.aload_n 0, 1) := by decide +kernel
theorem dX2_init_37 : decode cX2_init 37 = .ok (.iconst 1, 1) := by decide +kernel
theorem dX2_init_38 : decode cX2_init 38 = .ok (.putfield 24, 3) := by decide +kernel
theorem dX2_init_41 : decode cX2_init 41 = .ok (.aload_n 0, 1) := by decide +kernel
theorem dX2_init_42 : decode cX2_init 42 = .ok (.iconst 0, 1) := by decide +kernel
theorem dX2_init_43 : decode cX2_init 43 = .ok (.putfield 28, 3) := by decide +kernel
theorem dX2_init_46 : decode cX2_init 46 = .ok (.aload_n 0, 1) := by decide +kernel
theorem dX2_init_47 : decode cX2_init 47 = .ok (.iconst 0, 1) := by decide +kernel
theorem dX2_init_48 : decode cX2_init 48 = .ok (.putfield 31, 3) := by decide +kernel
theorem dX2_init_51 : decode cX2_init 51 = .ok (.aload_n 0, 1) := by decide +kernel
theorem dX2_init_52 : decode cX2_init 52 = .ok (.iconst 0, 1) := by decide +kernel
theorem dX2_init_53 : decode cX2_init 53 = .ok (.putfield 34, 3) := by decide +kernel
theorem dX2_init_56 : decode cX2_init 56 = .ok (.aload_n 0, 1) := by decide +kernel
theorem dX2_init_57 : decode cX2_init 57 = .ok (.iload_n 1, 1) := by decide +kernel
theorem dX2_init_58 : decode cX2_init 58 = .ok (.putfield 37, 3) := by decide +kernel
theorem dX2_init_61 : decode cX2_init 61 = .ok (.return_, 1) := by decide +kernel
set_option maxRecDepth 20000 in
theorem ggX2_becomeLike_X3_copyRow : GoodIn wsX2_becomeLike wsX3_copyRow := goodIn_r _ [11] (by decide +kernel) (by decide +kernel)
set_option maxRecDepth 20000 in
theorem gX2_becomeLike_X3_copyRow_n40 : GoodIn wsX2_becomeLike (wsX3_copyRow) := ggX2_becomeLike_X3_copyRow
theorem dX2_becomeLike_0 : decode cX2_becomeLike 0 = .ok (.aload_n 1, 1) := by decide +kernel
theorem dX2_becomeLike_1 : decode cX2_becomeLike 1 = .ok (.getfield 9, 3) := by decide +kernel
theorem dX2_becomeLike_4 : decode cX2_becomeLike 4 = .ok (.aload_n 0, 1) := by decide +kernel
theorem dX2_becomeLike_5 : decode cX2_becomeLike 5 = .ok (.getfield 9, 3) := by decide +kernel
theorem dX2_becomeLike_8 : decode cX2_becomeLike 8 = .ok (.invokestatic 40, 3) := by decide +kernel
theorem dX2_becomeLike_11 : decode cX2_becomeLike 11 = .ok (.aload_n 1, 1) := by decide +kernel
theorem dX2_becomeLike_12 : decode cX2_becomeLike 12 = .ok (.getfield 15, 3) := by decide +kernel
theorem dX2_becomeLike_15 : decode cX2_becomeLike 15 = .ok (.aload_n 0, 1) := by decide +kernel
theorem dX2_becomeLike_16 : decode cX2_becomeLike 16 = .ok (.getfield 15, 3) := by decide +kernel
theorem dX2_becomeLike_19 : decode cX2_becomeLike 19 = .ok (.invokestatic 40, 3) := by decide +kernel
theorem dX2_becomeLike_22 : decode cX2_becomeLike 22 = .ok (.aload_n 1, 1) := by decide +kernel
theorem dX2_becomeLike_23 : decode cX2_becomeLike 23 = .ok (.getfield 18, 3) := by decide +kernel
theorem dX2_becomeLike_26 : decode cX2_becomeLike 26 = .ok (.aload_n 0, 1) := by decide +kernel
theorem dX2_becomeLike_27 : decode cX2_becomeLike 27 = .ok (.getfield 18, 3) := by decide +kernel
theorem dX2_becomeLike_30 : decode cX2_becomeLike 30 = .ok (.invokestatic 40, 3) := by decide +kernel
theorem dX2_becomeLike_33 : decode cX2_becomeLike 33 = .ok (.aload_n 1, 1) := by decide +kernel
theorem dX2_becomeLike_34 : decode cX2_becomeLike 34 = .ok (.getfield 21, 3) := by decide +kernel
theorem dX2_becomeLike_37 : decode cX2_becomeLike 37 = .ok (.aload_n 0, 1) := by decide +kernel
theorem dX2_becomeLike_38 : decode cX2_becomeLike 38 = .ok (.getfield 21, 3) := by decide +kernel
theorem dX2_becomeLike_41 : decode cX2_becomeLike 41 = .ok (.invokestatic 40, 3) := by decide +kernel
theorem dX2_becomeLike_44 : decode cX2_becomeLike 44 = .ok (.aload_n 0, 1) := by decide +kernel
theorem dX2_becomeLike_45 : decode cX2_becomeLike 45 = .ok (.aload_n 1, 1) := by decide +kernel
theorem dX2_becomeLike_46 : decode cX2_becomeLike 46 = .ok (.getfield 24, 3) := by decide +kernel
theorem dX2_becomeLike_49 : decode cX2_becomeLike 49 = .ok (.putfield 24, 3) := by decide +kernel
theorem dX2_becomeLike_52 : decode cX2_becomeLike 52 = .ok (.aload_n 0, 1) := by decide +kernel
theorem dX2_becomeLike_53 : decode cX2_becomeLike 53 = .ok (.aload_n 1, 1) := by decide +kernel
theorem dX2_becomeLike_54 : decode cX2_becomeLike 54 = .ok (.getfield 28, 3) := by decide +kernel
theorem dX2_becomeLike_57 : decode cX2_becomeLike 57 = .ok (.putfield 28, 3) := by decide +kernel
theorem dX2_becomeLike_60 : decode cX2_becomeLike 60 = .ok (.aload_n 0, 1) := by decide +kernel
theorem dX2_becomeLike_61 : decode cX2_becomeLike 61 = .ok (.aload_n 1, 1) := by decide +kernel
theorem dX2_becomeLike_62 : decode cX2_becomeLike 62 = .ok (.getfield 31, 3) := by decide +kernel
theorem dX2_becomeLike_65 : decode cX2_becomeLike 65 = .ok (.putfield 31, 3) := by decide +kernel
theorem dX2_becomeLike_68 : decode cX2_becomeLike 68 = .ok (.aload_n 0, 1) := by decide +kernel
theorem dX2_becomeLike_69 : decode cX2_becomeLike 69 = .ok (.aload_n 1, 1) := by decide +kernel
theorem dX2_becomeLike_70 : decode cX2_becomeLike 70 = .ok (.getfield 34, 3) := by decide +kernel
theorem dX2_becomeLike_73 : decode cX2_becomeLike 73 = .ok (.putfield 34, 3) := by decide +kernel
theorem dX2_becomeLike_76 : decode cX2_becomeLike 76 = .ok (.return_, 1) := by decide +kernel
set_option maxRecDepth 20000 in
theorem ggX2_planCell_X3_at : GoodIn wsX2_planCell wsX3_at := goodIn_r _ [4] (by decide +kernel) (by decide +kernel)
set_option maxRecDepth 20000 in
theorem gX2_planCell_X3_at_n44 : GoodIn wsX2_planCell (wsX3_at) := ggX2_planCell_X3_at
set_option maxRecDepth 20000 in
theorem ggX2_planCell_X3_put : GoodIn wsX2_planCell wsX3_put := goodIn_r _ [6] (by decide +kernel) (by decide +kernel)
set_option maxRecDepth 20000 in
theorem gX2_planCell_X3_put_n48 : GoodIn wsX2_planCell (wsX3_put) := ggX2_planCell_X3_put
theorem dX2_planCell_0 : decode cX2_planCell 0 = .ok (.aload_n 0, 1) := by decide +kernel
theorem dX2_planCell_1 : decode cX2_planCell 1 = .ok (.getfield 9, 3) := by decide +kernel
theorem dX2_planCell_4 : decode cX2_planCell 4 = .ok (.iload_n 1, 1) := by decide +kernel
theorem dX2_planCell_5 : decode cX2_planCell 5 = .ok (.invokestatic 44, 3) := by decide +kernel
theorem dX2_planCell_8 : decode cX2_planCell 8 = .ok (.iload_n 2, 1) := by decide +kernel
theorem dX2_planCell_9 : decode cX2_planCell 9 = .ok (.if_icmp .eq 7, 3) := by decide +kernel
theorem dX2_planCell_12 : decode cX2_planCell 12 = .ok (.iconst 1, 1) := by decide +kernel
theorem dX2_planCell_13 : decode cX2_planCell 13 = .ok (.goto 4, 3) := by decide +kernel
theorem dX2_planCell_16 : decode cX2_planCell 16 = .ok (.iconst 0, 1) := by decide +kernel
theorem dX2_planCell_17 : decode cX2_planCell 17 = .ok (.istore_n 3, 1) := by decide +kernel
theorem dX2_planCell_18 : decode cX2_planCell 18 = .ok (.aload_n 0, 1) := by decide +kernel
theorem dX2_planCell_19 : decode cX2_planCell 19 = .ok (.getfield 9, 3) := by decide +kernel
theorem dX2_planCell_22 : decode cX2_planCell 22 = .ok (.iload_n 1, 1) := by decide +kernel
theorem dX2_planCell_23 : decode cX2_planCell 23 = .ok (.iload_n 2, 1) := by decide +kernel
theorem dX2_planCell_24 : decode cX2_planCell 24 = .ok (.invokestatic 48, 3) := by decide +kernel
theorem dX2_planCell_27 : decode cX2_planCell 27 = .ok (.iload_n 3, 1) := by decide +kernel
theorem dX2_planCell_28 : decode cX2_planCell 28 = .ok (.ireturn, 1) := by decide +kernel
set_option maxRecDepth 20000 in
theorem ggX2_knotAtPlace_X3_at : GoodIn wsX2_knotAtPlace wsX3_at := goodIn_r _ [5] (by decide +kernel) (by decide +kernel)
set_option maxRecDepth 20000 in
theorem gX2_knotAtPlace_X3_at_n44 : GoodIn wsX2_knotAtPlace (wsX3_at) := ggX2_knotAtPlace_X3_at
theorem dX2_knotAtPlace_0 : decode cX2_knotAtPlace 0 = .ok (.iload_n 1, 1) := by decide +kernel
theorem dX2_knotAtPlace_1 : decode cX2_knotAtPlace 1 = .ok (.aload_n 0, 1) := by decide +kernel
theorem dX2_knotAtPlace_2 : decode cX2_knotAtPlace 2 = .ok (.getfield 31, 3) := by decide +kernel
theorem dX2_knotAtPlace_5 : decode cX2_knotAtPlace 5 = .ok (.if_icmp .ge 14, 3) := by decide +kernel
theorem dX2_knotAtPlace_8 : decode cX2_knotAtPlace 8 = .ok (.aload_n 0, 1) := by decide +kernel
theorem dX2_knotAtPlace_9 : decode cX2_knotAtPlace 9 = .ok (.getfield 15, 3) := by decide +kernel
theorem dX2_knotAtPlace_12 : decode cX2_knotAtPlace 12 = .ok (.iload_n 1, 1) := by decide +kernel
theorem dX2_knotAtPlace_13 : decode cX2_knotAtPlace 13 = .ok (.invokestatic 44, 3) := by decide +kernel
theorem dX2_knotAtPlace_16 : decode cX2_knotAtPlace 16 = .ok (.goto 4, 3) := by decide +kernel
theorem dX2_knotAtPlace_19 : decode cX2_knotAtPlace 19 = .ok (.iconst (-1), 1) := by decide +kernel
theorem dX2_knotAtPlace_20 : decode cX2_knotAtPlace 20 = .ok (.ireturn, 1) := by decide +kernel
theorem dX2_isHalfDone_0 : decode cX2_isHalfDone 0 = .ok (.aload_n 0, 1) := by decide +kernel
theorem dX2_isHalfDone_1 : decode cX2_isHalfDone 1 = .ok (.getfield 31, 3) := by decide +kernel
theorem dX2_isHalfDone_4 : decode cX2_isHalfDone 4 = .ok (.bipush 60, 2) := by decide +kernel
theorem dX2_isHalfDone_6 : decode cX2_isHalfDone 6 = .ok (.if_icmp .lt 7, 3) := by decide +kernel
theorem dX2_isHalfDone_9 : decode cX2_isHalfDone 9 = .ok (.iconst 1, 1) := by decide +kernel
theorem dX2_isHalfDone_10 : decode cX2_isHalfDone 10 = .ok (.goto 4, 3) := by decide +kernel
theorem dX2_isHalfDone_13 : decode cX2_isHalfDone 13 = .ok (.iconst 0, 1) := by decide +kernel
theorem dX2_isHalfDone_14 : decode cX2_isHalfDone 14 = .ok (.ireturn, 1) := by decide +kernel
set_option maxRecDepth 20000 in
theorem ggX2_hasWork_X2_isHalfDone : GoodIn wsX2_hasWork wsX2_isHalfDone := goodIn_r _ [6, 7, 8, 9, 10, 11, 12, 13, 14, 15, 16] (by decide +kernel) (by decide +kernel)
set_option maxRecDepth 20000 in
theorem gX2_hasWork_X2_isHalfDone : GoodIn wsX2_hasWork (wsV RX2 52 RX2 yX2_isHalfDone wsX2_isHalfDone) := goodIn_app (goodIn_of _ (by decide +kernel)) ggX2_hasWork_X2_isHalfDone
theorem dX2_hasWork_0 : decode cX2_hasWork 0 = .ok (.aload_n 0, 1) := by decide +kernel
theorem dX2_hasWork_1 : decode cX2_hasWork 1 = .ok (.getfield 28, 3) := by decide +kernel
theorem dX2_hasWork_4 : decode cX2_hasWork 4 = .ok (.ifCond .le 14, 3) := by decide +kernel
theorem dX2_hasWork_7 : decode cX2_hasWork 7 = .ok (.aload_n 0, 1) := by decide +kernel
theorem dX2_hasWork_8 : decode cX2_hasWork 8 = .ok (.invokevirtual 52, 3) := by decide +kernel
theorem dX2_hasWork_11 : decode cX2_hasWork 11 = .ok (.ifCond .ne 7, 3) := by decide +kernel
theorem dX2_hasWork_14 : decode cX2_hasWork 14 = .ok (.iconst 1, 1) := by decide +kernel
theorem dX2_hasWork_15 : decode cX2_hasWork 15 = .ok (.goto 4, 3) := by decide +kernel
theorem dX2_hasWork_18 : decode cX2_hasWork 18 = .ok (.iconst 0, 1) := by decide +kernel
theorem dX2_hasWork_19 : decode cX2_hasWork 19 = .ok (.ireturn, 1) := by decide +kernel
theorem dX2_rowsDone_0 : decode cX2_rowsDone 0 = .ok (.aload_n 0, 1) := by decide +kernel
theorem dX2_rowsDone_1 : decode cX2_rowsDone 1 = .ok (.getfield 31, 3) := by decide +kernel
theorem dX2_rowsDone_4 : decode cX2_rowsDone 4 = .ok (.bipush 6, 2) := by decide +kernel
theorem dX2_rowsDone_6 : decode cX2_rowsDone 6 = .ok (.idiv, 1) := by decide +kernel
theorem dX2_rowsDone_7 : decode cX2_rowsDone 7 = .ok (.ireturn, 1) := by decide +kernel
set_option maxRecDepth 20000 in
theorem ggX2_addRun_X3_put : GoodIn wsX2_addRun wsX3_put := goodIn_r _ [6] (by decide +kernel) (by decide +kernel)
set_option maxRecDepth 20000 in
theorem gX2_addRun_X3_put_n48 : GoodIn wsX2_addRun (wsX3_put) := ggX2_addRun_X3_put
theorem dX2_addRun_0 : decode cX2_addRun 0 = .ok (.aload_n 0, 1) := by decide +kernel
theorem dX2_addRun_1 : decode cX2_addRun 1 = .ok (.getfield 18, 3) := by decide +kernel
theorem dX2_addRun_4 : decode cX2_addRun 4 = .ok (.aload_n 0, 1) := by decide +kernel
theorem dX2_addRun_5 : decode cX2_addRun 5 = .ok (.getfield 28, 3) := by decide +kernel
theorem dX2_addRun_8 : decode cX2_addRun 8 = .ok (.iload_n 1, 1) := by decide +kernel
theorem dX2_addRun_9 : decode cX2_addRun 9 = .ok (.invokestatic 48, 3) := by decide +kernel
theorem dX2_addRun_12 : decode cX2_addRun 12 = .ok (.aload_n 0, 1) := by decide +kernel
theorem dX2_addRun_13 : decode cX2_addRun 13 = .ok (.getfield 21, 3) := by decide +kernel
theorem dX2_addRun_16 : decode cX2_addRun 16 = .ok (.aload_n 0, 1) := by decide +kernel
theorem dX2_addRun_17 : decode cX2_addRun 17 = .ok (.getfield 28, 3) := by decide +kernel
theorem dX2_addRun_20 : decode cX2_addRun 20 = .ok (.iload_n 2, 1) := by decide +kernel
theorem dX2_addRun_21 : decode cX2_addRun 21 = .ok (.invokestatic 48, 3) := by decide +kernel
theorem dX2_addRun_24 : decode cX2_addRun 24 = .ok (.aload_n 0, 1) := by decide +kernel
theorem dX2_addRun_25 : decode cX2_addRun 25 = .ok (.dup, 1) := by decide +kernel
theorem dX2_addRun_26 : decode cX2_addRun 26 = .ok (.getfield 28, 3) := by decide +kernel
theorem dX2_addRun_29 : decode cX2_addRun 29 = .ok (.iconst 1, 1) := by decide +kernel
theorem dX2_addRun_30 : decode cX2_addRun 30 = .ok (.iadd, 1) := by decide +kernel
theorem dX2_addRun_31 : decode cX2_addRun 31 = .ok (.putfield 28, 3) := by decide +kernel
theorem dX2_addRun_34 : decode cX2_addRun 34 = .ok (.return_, 1) := by decide +kernel
set_option maxRecDepth 20000 in
theorem ggX2_toldInAll_X3_at : GoodIn wsX2_toldInAll wsX3_at := goodIn_r _ [5] (by decide +kernel) (by decide +kernel)
set_option maxRecDepth 20000 in
theorem gX2_toldInAll_X3_at_n44 : GoodIn wsX2_toldInAll (wsX3_at) := ggX2_toldInAll_X3_at
theorem dX2_toldInAll_0 : decode cX2_toldInAll 0 = .ok (.iconst 0, 1) := by decide +kernel
theorem dX2_toldInAll_1 : decode cX2_toldInAll 1 = .ok (.istore_n 1, 1) := by decide +kernel
theorem dX2_toldInAll_2 : decode cX2_toldInAll 2 = .ok (.iconst 0, 1) := by decide +kernel
theorem dX2_toldInAll_3 : decode cX2_toldInAll 3 = .ok (.istore_n 2, 1) := by decide +kernel
theorem dX2_toldInAll_4 : decode cX2_toldInAll 4 = .ok (.iload_n 2, 1) := by decide +kernel
theorem dX2_toldInAll_5 : decode cX2_toldInAll 5 = .ok (.aload_n 0, 1) := by decide +kernel
theorem dX2_toldInAll_6 : decode cX2_toldInAll 6 = .ok (.getfield 28, 3) := by decide +kernel
theorem dX2_toldInAll_9 : decode cX2_toldInAll 9 = .ok (.if_icmp .ge 20, 3) := by decide +kernel
theorem dX2_toldInAll_12 : decode cX2_toldInAll 12 = .ok (.iload_n 1, 1) := by decide +kernel
theorem dX2_toldInAll_13 : decode cX2_toldInAll 13 = .ok (.aload_n 0, 1) := by decide +kernel
theorem dX2_toldInAll_14 : decode cX2_toldInAll 14 = .ok (.getfield 21, 3) := by decide +kernel
theorem dX2_toldInAll_17 : decode cX2_toldInAll 17 = .ok (.iload_n 2, 1) := by decide +kernel
theorem dX2_toldInAll_18 : decode cX2_toldInAll 18 = .ok (.invokestatic 44, 3) := by decide +kernel
theorem dX2_toldInAll_21 : decode cX2_toldInAll 21 = .ok (.iadd, 1) := by decide +kernel
theorem dX2_toldInAll_22 : decode cX2_toldInAll 22 = .ok (.istore_n 1, 1) := by decide +kernel
theorem dX2_toldInAll_23 : decode cX2_toldInAll 23 = .ok (.iinc 2 1, 3) := by decide +kernel
theorem dX2_toldInAll_26 : decode cX2_toldInAll 26 = .ok (.goto (-22), 3) := by decide +kernel
theorem dX2_toldInAll_29 : decode cX2_toldInAll 29 = .ok (.iload_n 1, 1) := by decide +kernel
theorem dX2_toldInAll_30 : decode cX2_toldInAll 30 = .ok (.ireturn, 1) := by decide +kernel
set_option maxRecDepth 20000 in
theorem ggX2_workAnHour_X2_hasWork : GoodIn wsX2_workAnHour wsX2_hasWork := goodIn_r _ [6, 7, 8, 9, 10, 5, 11, 12, 36, 37, 38, 39, 40, 41, 42, 43, 44] (by decide +kernel) (by decide +kernel)
set_option maxRecDepth 20000 in
theorem gX2_workAnHour_X2_hasWork : GoodIn wsX2_workAnHour (wsV RX2 56 RX2 yX2_hasWork wsX2_hasWork) := goodIn_app (goodIn_of _ (by decide +kernel)) ggX2_workAnHour_X2_hasWork
set_option maxRecDepth 20000 in
theorem ggX2_workAnHour_X2_knotNext : GoodIn wsX2_workAnHour wsX2_knotNext := goodIn_r _ [16, 17, 18, 12, 19, 20, 21, 22, 23, 24, 25, 26, 27, 28, 29, 30, 31, 32, 33, 5, 34, 35, 7, 36, 37, 38, 39, 40, 41, 42, 43, 44, 45] (by decide +kernel) (by decide +kernel)
set_option maxRecDepth 20000 in
theorem gX2_workAnHour_X2_knotNext : GoodIn wsX2_workAnHour (wsV RX2 59 RX2 yX2_knotNext wsX2_knotNext) := goodIn_app (goodIn_of _ (by decide +kernel)) ggX2_workAnHour_X2_knotNext
theorem dX2_workAnHour_0 : decode cX2_workAnHour 0 = .ok (.iconst 0, 1) := by decide +kernel
theorem dX2_workAnHour_1 : decode cX2_workAnHour 1 = .ok (.istore_n 2, 1) := by decide +kernel
theorem dX2_workAnHour_2 : decode cX2_workAnHour 2 = .ok (.iload_n 2, 1) := by decide +kernel
theorem dX2_workAnHour_3 : decode cX2_workAnHour 3 = .ok (.aload_n 0, 1) := by decide +kernel
theorem dX2_workAnHour_4 : decode cX2_workAnHour 4 = .ok (.getfield 24, 3) := by decide +kernel
theorem dX2_workAnHour_7 : decode cX2_workAnHour 7 = .ok (.if_icmp .ge 24, 3) := by decide +kernel
theorem dX2_workAnHour_10 : decode cX2_workAnHour 10 = .ok (.aload_n 0, 1) := by decide +kernel
theorem dX2_workAnHour_11 : decode cX2_workAnHour 11 = .ok (.invokevirtual 56, 3) := by decide +kernel
theorem dX2_workAnHour_14 : decode cX2_workAnHour 14 = .ok (.ifCond .eq 17, 3) := by decide +kernel
theorem dX2_workAnHour_17 : decode cX2_workAnHour 17 = .ok (.aload_n 0, 1) := by decide +kernel
theorem dX2_workAnHour_18 : decode cX2_workAnHour 18 = .ok (.aload_n 1, 1) := by decide +kernel
theorem dX2_workAnHour_19 : decode cX2_workAnHour 19 = .ok (.invokevirtual 59, 3) := by decide +kernel
theorem dX2_workAnHour_22 : decode cX2_workAnHour 22 = .ok (.ifCond .eq 9, 3) := by decide +kernel
theorem dX2_workAnHour_25 : decode cX2_workAnHour 25 = .ok (.iinc 2 1, 3) := by decide +kernel
theorem dX2_workAnHour_28 : decode cX2_workAnHour 28 = .ok (.goto (-26), 3) := by decide +kernel
theorem dX2_workAnHour_31 : decode cX2_workAnHour 31 = .ok (.iload_n 2, 1) := by decide +kernel
theorem dX2_workAnHour_32 : decode cX2_workAnHour 32 = .ok (.ireturn, 1) := by decide +kernel
set_option maxRecDepth 20000 in
theorem ggX2_knotNext_X3_at : GoodIn wsX2_knotNext wsX3_at := goodIn_r _ [7] (by decide +kernel) (by decide +kernel)
set_option maxRecDepth 20000 in
theorem gX2_knotNext_X3_at_n44 : GoodIn wsX2_knotNext (wsX3_at) := ggX2_knotNext_X3_at
set_option maxRecDepth 20000 in
theorem ggX2_knotNext_X0_take : GoodIn wsX2_knotNext wsX0_take := goodIn_r _ [12, 13, 5, 6, 7, 14, 15, 32] (by decide +kernel) (by decide +kernel)
set_option maxRecDepth 20000 in
theorem gX2_knotNext_X0_take : GoodIn wsX2_knotNext (wsV RX2 63 RX0 yX0_take wsX0_take) := goodIn_app (goodIn_of _ (by decide +kernel)) ggX2_knotNext_X0_take
set_option maxRecDepth 20000 in
theorem ggX2_knotNext_X3_put : GoodIn wsX2_knotNext wsX3_put := goodIn_r _ [15] (by decide +kernel) (by decide +kernel)
set_option maxRecDepth 20000 in
theorem gX2_knotNext_X3_put_n48 : GoodIn wsX2_knotNext (wsX3_put) := ggX2_knotNext_X3_put
set_option maxRecDepth 20000 in
theorem ggX2_knotNext_X2_shortenFirstRun : GoodIn wsX2_knotNext wsX2_shortenFirstRun := goodIn_r _ [20, 21, 22, 1, 5, 6, 7, 14, 15, 23, 24, 25, 26, 27, 28, 29, 30, 31] (by decide +kernel) (by decide +kernel)
set_option maxRecDepth 20000 in
theorem gX2_knotNext_X2_shortenFirstRun : GoodIn wsX2_knotNext (wsV RX2 69 RX2 yX2_shortenFirstRun wsX2_shortenFirstRun) := goodIn_app (goodIn_of _ (by decide +kernel)) ggX2_knotNext_X2_shortenFirstRun
theorem dX2_knotNext_0 : decode cX2_knotNext 0 = .ok (.aload_n 0, 1) := by decide +kernel
theorem dX2_knotNext_1 : decode cX2_knotNext 1 = .ok (.getfield 18, 3) := by decide +kernel
theorem dX2_knotNext_4 : decode cX2_knotNext 4 = .ok (.iconst 0, 1) := by decide +kernel
theorem dX2_knotNext_5 : decode cX2_knotNext 5 = .ok (.invokestatic 44, 3) := by decide +kernel
theorem dX2_knotNext_8 : decode cX2_knotNext 8 = .ok (.istore_n 2, 1) := by decide +kernel
theorem dX2_knotNext_9 : decode cX2_knotNext 9 = .ok (.aload_n 1, 1) := by decide +kernel
theorem dX2_knotNext_10 : decode cX2_knotNext 10 = .ok (.iload_n 2, 1) := by decide +kernel
theorem dX2_knotNext_11 : decode cX2_knotNext 11 = .ok (.invokevirtual 63, 3) := by decide +kernel
theorem dX2_knotNext_14 : decode cX2_knotNext 14 = .ok (.istore_n 3, 1) := by decide +kernel
theorem dX2_knotNext_15 : decode cX2_knotNext 15 = .ok (.iload_n 3, 1) := by decide +kernel
theorem dX2_knotNext_16 : decode cX2_knotNext 16 = .ok (.iconst (-1), 1) := by decide +kernel
theorem dX2_knotNext_17 : decode cX2_knotNext 17 = .ok (.if_icmp .ne 5, 3) := by decide +kernel
theorem dX2_knotNext_20 : decode cX2_knotNext 20 = .ok (.iconst 0, 1) := by decide +kernel
theorem dX2_knotNext_21 : decode cX2_knotNext 21 = .ok (.ireturn, 1) := by decide +kernel
theorem dX2_knotNext_22 : decode cX2_knotNext 22 = .ok (.aload_n 0, 1) := by decide +kernel
theorem dX2_knotNext_23 : decode cX2_knotNext 23 = .ok (.getfield 15, 3) := by decide +kernel
theorem dX2_knotNext_26 : decode cX2_knotNext 26 = .ok (.aload_n 0, 1) := by decide +kernel
theorem dX2_knotNext_27 : decode cX2_knotNext 27 = .ok (.getfield 31, 3) := by decide +kernel
theorem dX2_knotNext_30 : decode cX2_knotNext 30 = .ok (.iload_n 3, 1) := by decide +kernel
theorem dX2_knotNext_31 : decode cX2_knotNext 31 = .ok (.invokestatic 48, 3) := by decide +kernel
theorem dX2_knotNext_34 : decode cX2_knotNext 34 = .ok (.aload_n 0, 1) := by decide +kernel
theorem dX2_knotNext_35 : decode cX2_knotNext 35 = .ok (.dup, 1) := by decide +kernel
theorem dX2_knotNext_36 : decode cX2_knotNext 36 = .ok (.getfield 31, 3) := by decide +kernel
theorem dX2_knotNext_39 : decode cX2_knotNext 39 = .ok (.iconst 1, 1) := by decide +kernel
theorem dX2_knotNext_40 : decode cX2_knotNext 40 = .ok (.iadd, 1) := by decide +kernel
theorem dX2_knotNext_41 : decode cX2_knotNext 41 = .ok (.putfield 31, 3) := by decide +kernel
theorem dX2_knotNext_44 : decode cX2_knotNext 44 = .ok (.iload_n 3, 1) := by decide +kernel
theorem dX2_knotNext_45 : decode cX2_knotNext 45 = .ok (.iload_n 2, 1) := by decide +kernel
theorem dX2_knotNext_46 : decode cX2_knotNext 46 = .ok (.if_icmp .eq 13, 3) := by decide +kernel
theorem dX2_knotNext_49 : decode cX2_knotNext 49 = .ok (.aload_n 0, 1) := by decide +kernel
theorem dX2_knotNext_50 : decode cX2_knotNext 50 = .ok (.dup, 1) := by decide +kernel
theorem dX2_knotNext_51 : decode cX2_knotNext 51 = .ok (.getfield 34, 3) := by decide +kernel
theorem dX2_knotNext_54 : decode cX2_knotNext 54 = .ok (.iconst 1, 1) := by decide +kernel
theorem dX2_knotNext_55 : decode cX2_knotNext 55 = .ok (.iadd, 1) := by decide +kernel
theorem dX2_knotNext_56 : decode cX2_knotNext 56 = .ok (.putfield 34, 3) := by decide +kernel
theorem dX2_knotNext_59 : decode cX2_knotNext 59 = .ok (.aload_n 0, 1) := by decide +kernel
theorem dX2_knotNext_60 : decode cX2_knotNext 60 = .ok (.invokevirtual 69, 3) := by decide +kernel
theorem dX2_knotNext_63 : decode cX2_knotNext 63 = .ok (.iconst 1, 1) := by decide +kernel
theorem dX2_knotNext_64 : decode cX2_knotNext 64 = .ok (.ireturn, 1) := by decide +kernel
set_option maxRecDepth 20000 in
theorem ggX2_shortenFirstRun_X3_at : GoodIn wsX2_shortenFirstRun wsX3_at := goodIn_r _ [6] (by decide +kernel) (by decide +kernel)
set_option maxRecDepth 20000 in
theorem gX2_shortenFirstRun_X3_at_n44 : GoodIn wsX2_shortenFirstRun (wsX3_at) := ggX2_shortenFirstRun_X3_at
set_option maxRecDepth 20000 in
theorem ggX2_shortenFirstRun_X3_put : GoodIn wsX2_shortenFirstRun wsX3_put := goodIn_r _ [8] (by decide +kernel) (by decide +kernel)
set_option maxRecDepth 20000 in
theorem gX2_shortenFirstRun_X3_put_n48 : GoodIn wsX2_shortenFirstRun (wsX3_put) := ggX2_shortenFirstRun_X3_put
theorem dX2_shortenFirstRun_0 : decode cX2_shortenFirstRun 0 = .ok (.aload_n 0, 1) := by decide +kernel
theorem dX2_shortenFirstRun_1 : decode cX2_shortenFirstRun 1 = .ok (.getfield 21, 3) := by decide +kernel
theorem dX2_shortenFirstRun_4 : decode cX2_shortenFirstRun 4 = .ok (.iconst 0, 1) := by decide +kernel
theorem dX2_shortenFirstRun_5 : decode cX2_shortenFirstRun 5 = .ok (.invokestatic 44, 3) := by decide +kernel
theorem dX2_shortenFirstRun_8 : decode cX2_shortenFirstRun 8 = .ok (.iconst 1, 1) := by decide +kernel
theorem dX2_shortenFirstRun_9 : decode cX2_shortenFirstRun 9 = .ok (.isub, 1) := by decide +kernel
theorem dX2_shortenFirstRun_10 : decode cX2_shortenFirstRun 10 = .ok (.istore_n 1, 1) := by decide +kernel
theorem dX2_shortenFirstRun_11 : decode cX2_shortenFirstRun 11 = .ok (.aload_n 0, 1) := by decide +kernel
theorem dX2_shortenFirstRun_12 : decode cX2_shortenFirstRun 12 = .ok (.getfield 21, 3) := by decide +kernel
theorem dX2_shortenFirstRun_15 : decode cX2_shortenFirstRun 15 = .ok (.iconst 0, 1) := by decide +kernel
theorem dX2_shortenFirstRun_16 : decode cX2_shortenFirstRun 16 = .ok (.iload_n 1, 1) := by decide +kernel
theorem dX2_shortenFirstRun_17 : decode cX2_shortenFirstRun 17 = .ok (.invokestatic 48, 3) := by decide +kernel
theorem dX2_shortenFirstRun_20 : decode cX2_shortenFirstRun 20 = .ok (.iload_n 1, 1) := by decide +kernel
theorem dX2_shortenFirstRun_21 : decode cX2_shortenFirstRun 21 = .ok (.ifCond .le 4, 3) := by decide +kernel
theorem dX2_shortenFirstRun_24 : decode cX2_shortenFirstRun 24 = .ok (.return_, 1) := by decide +kernel
theorem dX2_shortenFirstRun_25 : decode cX2_shortenFirstRun 25 = .ok (.iconst 1, 1) := by decide +kernel
theorem dX2_shortenFirstRun_26 : decode cX2_shortenFirstRun 26 = .ok (.istore_n 2, 1) := by decide +kernel
theorem dX2_shortenFirstRun_27 : decode cX2_shortenFirstRun 27 = .ok (.iload_n 2, 1) := by decide +kernel
theorem dX2_shortenFirstRun_28 : decode cX2_shortenFirstRun 28 = .ok (.aload_n 0, 1) := by decide +kernel
theorem dX2_shortenFirstRun_29 : decode cX2_shortenFirstRun 29 = .ok (.getfield 28, 3) := by decide +kernel
theorem dX2_shortenFirstRun_32 : decode cX2_shortenFirstRun 32 = .ok (.if_icmp .ge 45, 3) := by decide +kernel
theorem dX2_shortenFirstRun_35 : decode cX2_shortenFirstRun 35 = .ok (.aload_n 0, 1) := by decide +kernel
theorem dX2_shortenFirstRun_36 : decode cX2_shortenFirstRun 36 = .ok (.getfield 18, 3) := by decide +kernel
theorem dX2_shortenFirstRun_39 : decode cX2_shortenFirstRun 39 = .ok (.iload_n 2, 1) := by decide +kernel
theorem dX2_shortenFirstRun_40 : decode cX2_shortenFirstRun 40 = .ok (.iconst 1, 1) := by decide +kernel
theorem dX2_shortenFirstRun_41 : decode cX2_shortenFirstRun 41 = .ok (.isub, 1) := by decide +kernel
theorem dX2_shortenFirstRun_42 : decode cX2_shortenFirstRun 42 = .ok (.aload_n 0, 1) := by decide +kernel
theorem dX2_shortenFirstRun_43 : decode cX2_shortenFirstRun 43 = .ok (.getfield 18, 3) := by decide +kernel
theorem dX2_shortenFirstRun_46 : decode cX2_shortenFirstRun 46 = .ok (.iload_n 2, 1) := by decide +kernel
theorem dX2_shortenFirstRun_47 : decode cX2_shortenFirstRun 47 = .ok (.invokestatic 44, 3) := by decide +kernel
theorem dX2_shortenFirstRun_50 : decode cX2_shortenFirstRun 50 = .ok (.invokestatic 48, 3) := by decide +kernel
theorem dX2_shortenFirstRun_53 : decode cX2_shortenFirstRun 53 = .ok (.aload_n 0, 1) := by decide +kernel
theorem dX2_shortenFirstRun_54 : decode cX2_shortenFirstRun 54 = .ok (.getfield 21, 3) := by decide +kernel
theorem dX2_shortenFirstRun_57 : decode cX2_shortenFirstRun 57 = .ok (.iload_n 2, 1) := by decide +kernel
theorem dX2_shortenFirstRun_58 : decode cX2_shortenFirstRun 58 = .ok (.iconst 1, 1) := by decide +kernel
theorem dX2_shortenFirstRun_59 : decode cX2_shortenFirstRun 59 = .ok (.isub, 1) := by decide +kernel
theorem dX2_shortenFirstRun_60 : decode cX2_shortenFirstRun 60 = .ok (.aload_n 0, 1) := by decide +kernel
theorem dX2_shortenFirstRun_61 : decode cX2_shortenFirstRun 61 = .ok (.getfield 21, 3) := by decide +kernel
theorem dX2_shortenFirstRun_64 : decode cX2_shortenFirstRun 64 = .ok (.iload_n 2, 1) := by decide +kernel
theorem dX2_shortenFirstRun_65 : decode cX2_shortenFirstRun 65 = .ok (.invokestatic 44, 3) := by decide +kernel
theorem dX2_shortenFirstRun_68 : decode cX2_shortenFirstRun 68 = .ok (.invokestatic 48, 3) := by decide +kernel
theorem dX2_shortenFirstRun_71 : decode cX2_shortenFirstRun 71 = .ok (.iinc 2 1, 3) := by decide +kernel
theorem dX2_shortenFirstRun_74 : decode cX2_shortenFirstRun 74 = .ok (.goto (-47), 3) := by decide +kernel
theorem dX2_shortenFirstRun_77 : decode cX2_shortenFirstRun 77 = .ok (.aload_n 0, 1) := by decide +kernel
theorem dX2_shortenFirstRun_78 : decode cX2_shortenFirstRun 78 = .ok (.dup, 1) := by decide +kernel
theorem dX2_shortenFirstRun_79 : decode cX2_shortenFirstRun 79 = .ok (.getfield 28, 3) := by decide +kernel
theorem dX2_shortenFirstRun_82 : decode cX2_shortenFirstRun 82 = .ok (.iconst 1, 1) := by decide +kernel
theorem dX2_shortenFirstRun_83 : decode cX2_shortenFirstRun 83 = .ok (.isub, 1) := by decide +kernel
theorem dX2_shortenFirstRun_84 : decode cX2_shortenFirstRun 84 = .ok (.putfield 28, 3) := by decide +kernel
theorem dX2_shortenFirstRun_87 : decode cX2_shortenFirstRun 87 = .ok (.return_, 1) := by decide +kernel
set_option maxRecDepth 20000 in
theorem ggX2_undo_X3_at : GoodIn wsX2_undo wsX3_at := goodIn_r _ [5] (by decide +kernel) (by decide +kernel)
set_option maxRecDepth 20000 in
theorem gX2_undo_X3_at_n44 : GoodIn wsX2_undo (wsX3_at) := ggX2_undo_X3_at
set_option maxRecDepth 20000 in
theorem ggX2_undo_X0_fill : GoodIn wsX2_undo wsX0_fill := goodIn_r _ [10, 11, 12, 13, 14, 15, 3, 4, 5, 16, 17, 27] (by decide +kernel) (by decide +kernel)
set_option maxRecDepth 20000 in
theorem gX2_undo_X0_fill : GoodIn wsX2_undo (wsV RX2 72 RX0 yX0_fill wsX0_fill) := goodIn_app (goodIn_of _ (by decide +kernel)) ggX2_undo_X0_fill
theorem dX2_undo_0 : decode cX2_undo 0 = .ok (.iconst 0, 1) := by decide +kernel
theorem dX2_undo_1 : decode cX2_undo 1 = .ok (.istore_n 3, 1) := by decide +kernel
theorem dX2_undo_2 : decode cX2_undo 2 = .ok (.iload_n 3, 1) := by decide +kernel
theorem dX2_undo_3 : decode cX2_undo 3 = .ok (.iload_n 1, 1) := by decide +kernel
theorem dX2_undo_4 : decode cX2_undo 4 = .ok (.if_icmp .ge 36, 3) := by decide +kernel
theorem dX2_undo_7 : decode cX2_undo 7 = .ok (.aload_n 0, 1) := by decide +kernel
theorem dX2_undo_8 : decode cX2_undo 8 = .ok (.dup, 1) := by decide +kernel
theorem dX2_undo_9 : decode cX2_undo 9 = .ok (.getfield 31, 3) := by decide +kernel
theorem dX2_undo_12 : decode cX2_undo 12 = .ok (.iconst 1, 1) := by decide +kernel
theorem dX2_undo_13 : decode cX2_undo 13 = .ok (.isub, 1) := by decide +kernel
theorem dX2_undo_14 : decode cX2_undo 14 = .ok (.putfield 31, 3) := by decide +kernel
theorem dX2_undo_17 : decode cX2_undo 17 = .ok (.aload_n 2, 1) := by decide +kernel
theorem dX2_undo_18 : decode cX2_undo 18 = .ok (.aload_n 0, 1) := by decide +kernel
theorem dX2_undo_19 : decode cX2_undo 19 = .ok (.getfield 15, 3) := by decide +kernel
theorem dX2_undo_22 : decode cX2_undo 22 = .ok (.aload_n 0, 1) := by decide +kernel
theorem dX2_undo_23 : decode cX2_undo 23 = .ok (.getfield 31, 3) := by decide +kernel
theorem dX2_undo_26 : decode cX2_undo 26 = .ok (.invokestatic 44, 3) := by decide +kernel
theorem dX2_undo_29 : decode cX2_undo 29 = .ok (.iconst 1, 1) := by decide +kernel
theorem dX2_undo_30 : decode cX2_undo 30 = .ok (.invokevirtual 72, 3) := by decide +kernel
theorem dX2_undo_33 : decode cX2_undo 33 = .ok (.pop, 1) := by decide +kernel
theorem dX2_undo_34 : decode cX2_undo 34 = .ok (.iinc 3 1, 3) := by decide +kernel
theorem dX2_undo_37 : decode cX2_undo 37 = .ok (.goto (-35), 3) := by decide +kernel
theorem dX2_undo_40 : decode cX2_undo 40 = .ok (.return_, 1) := by decide +kernel
set_option maxRecDepth 20000 in
theorem ggX2_number_X2_toldInAll : GoodIn wsX2_number wsX2_toldInAll := goodIn_r _ [9, 2, 10, 11, 12, 13, 23, 24, 25, 26, 27, 28, 29, 30, 31] (by decide +kernel) (by decide +kernel)
set_option maxRecDepth 20000 in
theorem gX2_number_X2_toldInAll : GoodIn wsX2_number (wsV RX2 76 RX2 yX2_toldInAll wsX2_toldInAll) := goodIn_app (goodIn_of _ (by decide +kernel)) ggX2_number_X2_toldInAll
set_option maxRecDepth 20000 in
theorem ggX2_number_X2_nextX : GoodIn wsX2_number wsX2_nextX := goodIn_r _ [17, 3, 18, 19, 20, 21, 8, 22, 23, 24, 25, 26, 27, 28, 29, 30, 31] (by decide +kernel) (by decide +kernel)
set_option maxRecDepth 20000 in
theorem gX2_number_X2_nextX : GoodIn wsX2_number (wsV RX2 80 RX2 yX2_nextX wsX2_nextX) := goodIn_app (goodIn_of _ (by decide +kernel)) ggX2_number_X2_nextX
set_option maxRecDepth 20000 in
theorem ggX2_number_X2_isHalfDone : GoodIn wsX2_number wsX2_isHalfDone := goodIn_r _ [22, 3, 23, 24, 25, 26, 27, 28, 29, 30, 31] (by decide +kernel) (by decide +kernel)
set_option maxRecDepth 20000 in
theorem gX2_number_X2_isHalfDone : GoodIn wsX2_number (wsV RX2 52 RX2 yX2_isHalfDone wsX2_isHalfDone) := goodIn_app (goodIn_of _ (by decide +kernel)) ggX2_number_X2_isHalfDone
theorem dX2_number_0 : decode cX2_number 0 = .ok (.iload_n 1, 1) := by decide +kernel
theorem dX2_number_1 : decode cX2_number 1 = .ok (.tableswitch 83 0 5 #[39, 44, 49, 54, 59, 64], 39) := by decide +kernel
theorem dX2_number_40 : decode cX2_number 40 = .ok (.aload_n 0, 1) := by decide +kernel
theorem dX2_number_41 : decode cX2_number 41 = .ok (.getfield 24, 3) := by decide +kernel
theorem dX2_number_44 : decode cX2_number 44 = .ok (.ireturn, 1) := by decide +kernel
theorem dX2_number_45 : decode cX2_number 45 = .ok (.aload_n 0, 1) := by decide +kernel
theorem dX2_number_46 : decode cX2_number 46 = .ok (.getfield 28, 3) := by decide +kernel
theorem dX2_number_49 : decode cX2_number 49 = .ok (.ireturn, 1) := by decide +kernel
theorem dX2_number_50 : decode cX2_number 50 = .ok (.aload_n 0, 1) := by decide +kernel
theorem dX2_number_51 : decode cX2_number 51 = .ok (.invokevirtual 76, 3) := by decide +kernel
theorem dX2_number_54 : decode cX2_number 54 = .ok (.ireturn, 1) := by decide +kernel
theorem dX2_number_55 : decode cX2_number 55 = .ok (.aload_n 0, 1) := by decide +kernel
theorem dX2_number_56 : decode cX2_number 56 = .ok (.getfield 31, 3) := by decide +kernel
theorem dX2_number_59 : decode cX2_number 59 = .ok (.ireturn, 1) := by decide +kernel
theorem dX2_number_60 : decode cX2_number 60 = .ok (.aload_n 0, 1) := by decide +kernel
theorem dX2_number_61 : decode cX2_number 61 = .ok (.invokevirtual 80, 3) := by decide +kernel
theorem dX2_number_64 : decode cX2_number 64 = .ok (.ireturn, 1) := by decide +kernel
theorem dX2_number_65 : decode cX2_number 65 = .ok (.aload_n 0, 1) := by decide +kernel
theorem dX2_number_66 : decode cX2_number 66 = .ok (.invokevirtual 52, 3) := by decide +kernel
theorem dX2_number_69 : decode cX2_number 69 = .ok (.ifCond .eq 7, 3) := by decide +kernel
theorem dX2_number_72 : decode cX2_number 72 = .ok (.iconst (-1), 1) := by decide +kernel
theorem dX2_number_73 : decode cX2_number 73 = .ok (.goto 10, 3) := by decide +kernel
theorem dX2_number_76 : decode cX2_number 76 = .ok (.aload_n 0, 1) := by decide +kernel
theorem dX2_number_77 : decode cX2_number 77 = .ok (.getfield 31, 3) := by decide +kernel
theorem dX2_number_80 : decode cX2_number 80 = .ok (.bipush 6, 2) := by decide +kernel
theorem dX2_number_82 : decode cX2_number 82 = .ok (.idiv, 1) := by decide +kernel
theorem dX2_number_83 : decode cX2_number 83 = .ok (.ireturn, 1) := by decide +kernel
theorem dX2_number_84 : decode cX2_number 84 = .ok (.aload_n 0, 1) := by decide +kernel
theorem dX2_number_85 : decode cX2_number 85 = .ok (.getfield 34, 3) := by decide +kernel
theorem dX2_number_88 : decode cX2_number 88 = .ok (.ireturn, 1) := by decide +kernel
set_option maxRecDepth 20000 in
theorem ggX2_nextX_X2_isHalfDone : GoodIn wsX2_nextX wsX2_isHalfDone := goodIn_r _ [7, 1, 8, 9, 10, 11, 12, 13, 14, 15, 16] (by decide +kernel) (by decide +kernel)
set_option maxRecDepth 20000 in
theorem gX2_nextX_X2_isHalfDone : GoodIn wsX2_nextX (wsV RX2 52 RX2 yX2_isHalfDone wsX2_isHalfDone) := goodIn_app (goodIn_of _ (by decide +kernel)) ggX2_nextX_X2_isHalfDone
theorem dX2_nextX_0 : decode cX2_nextX 0 = .ok (.aload_n 0, 1) := by decide +kernel
theorem dX2_nextX_1 : decode cX2_nextX 1 = .ok (.invokevirtual 52, 3) := by decide +kernel
theorem dX2_nextX_4 : decode cX2_nextX 4 = .ok (.ifCond .eq 5, 3) := by decide +kernel
theorem dX2_nextX_7 : decode cX2_nextX 7 = .ok (.iconst (-1), 1) := by decide +kernel
theorem dX2_nextX_8 : decode cX2_nextX 8 = .ok (.ireturn, 1) := by decide +kernel
theorem dX2_nextX_9 : decode cX2_nextX 9 = .ok (.aload_n 0, 1) := by decide +kernel
theorem dX2_nextX_10 : decode cX2_nextX 10 = .ok (.getfield 31, 3) := by decide +kernel
theorem dX2_nextX_13 : decode cX2_nextX 13 = .ok (.bipush 6, 2) := by decide +kernel
theorem dX2_nextX_15 : decode cX2_nextX 15 = .ok (.irem, 1) := by decide +kernel
theorem dX2_nextX_16 : decode cX2_nextX 16 = .ok (.istore_n 1, 1) := by decide +kernel
theorem dX2_nextX_17 : decode cX2_nextX 17 = .ok (.aload_n 0, 1) := by decide +kernel
theorem dX2_nextX_18 : decode cX2_nextX 18 = .ok (.getfield 37, 3) := by decide +kernel
theorem dX2_nextX_21 : decode cX2_nextX 21 = .ok (.ifCond .ne 7, 3) := by decide +kernel
theorem dX2_nextX_24 : decode cX2_nextX 24 = .ok (.iload_n 1, 1) := by decide +kernel
theorem dX2_nextX_25 : decode cX2_nextX 25 = .ok (.goto 7, 3) := by decide +kernel
theorem dX2_nextX_28 : decode cX2_nextX 28 = .ok (.bipush 11, 2) := by decide +kernel
theorem dX2_nextX_30 : decode cX2_nextX 30 = .ok (.iload_n 1, 1) := by decide +kernel
theorem dX2_nextX_31 : decode cX2_nextX 31 = .ok (.isub, 1) := by decide +kernel
theorem dX2_nextX_32 : decode cX2_nextX 32 = .ok (.ireturn, 1) := by decide +kernel
set_option maxRecDepth 20000 in
theorem ggX2_offPlan_X3_at : GoodIn wsX2_offPlan wsX3_at := goodIn_r _ [6] (by decide +kernel) (by decide +kernel)
set_option maxRecDepth 20000 in
theorem gX2_offPlan_X3_at_n44 : GoodIn wsX2_offPlan (wsX3_at) := ggX2_offPlan_X3_at
theorem dX2_offPlan_0 : decode cX2_offPlan 0 = .ok (.iconst 0, 1) := by decide +kernel
theorem dX2_offPlan_1 : decode cX2_offPlan 1 = .ok (.istore_n 1, 1) := by decide +kernel
theorem dX2_offPlan_2 : decode cX2_offPlan 2 = .ok (.iconst 0, 1) := by decide +kernel
theorem dX2_offPlan_3 : decode cX2_offPlan 3 = .ok (.istore_n 2, 1) := by decide +kernel
theorem dX2_offPlan_4 : decode cX2_offPlan 4 = .ok (.iload_n 2, 1) := by decide +kernel
theorem dX2_offPlan_5 : decode cX2_offPlan 5 = .ok (.aload_n 0, 1) := by decide +kernel
theorem dX2_offPlan_6 : decode cX2_offPlan 6 = .ok (.getfield 31, 3) := by decide +kernel
theorem dX2_offPlan_9 : decode cX2_offPlan 9 = .ok (.if_icmp .ge 31, 3) := by decide +kernel
theorem dX2_offPlan_12 : decode cX2_offPlan 12 = .ok (.aload_n 0, 1) := by decide +kernel
theorem dX2_offPlan_13 : decode cX2_offPlan 13 = .ok (.getfield 15, 3) := by decide +kernel
theorem dX2_offPlan_16 : decode cX2_offPlan 16 = .ok (.iload_n 2, 1) := by decide +kernel
theorem dX2_offPlan_17 : decode cX2_offPlan 17 = .ok (.invokestatic 44, 3) := by decide +kernel
theorem dX2_offPlan_20 : decode cX2_offPlan 20 = .ok (.aload_n 0, 1) := by decide +kernel
theorem dX2_offPlan_21 : decode cX2_offPlan 21 = .ok (.getfield 9, 3) := by decide +kernel
theorem dX2_offPlan_24 : decode cX2_offPlan 24 = .ok (.iload_n 2, 1) := by decide +kernel
theorem dX2_offPlan_25 : decode cX2_offPlan 25 = .ok (.invokestatic 44, 3) := by decide +kernel
theorem dX2_offPlan_28 : decode cX2_offPlan 28 = .ok (.if_icmp .eq 6, 3) := by decide +kernel
theorem dX2_offPlan_31 : decode cX2_offPlan 31 = .ok (.iinc 1 1, 3) := by decide +kernel
theorem dX2_offPlan_34 : decode cX2_offPlan 34 = .ok (.iinc 2 1, 3) := by decide +kernel
theorem dX2_offPlan_37 : decode cX2_offPlan 37 = .ok (.goto (-33), 3) := by decide +kernel
theorem dX2_offPlan_40 : decode cX2_offPlan 40 = .ok (.iload_n 1, 1) := by decide +kernel
theorem dX2_offPlan_41 : decode cX2_offPlan 41 = .ok (.ireturn, 1) := by decide +kernel
set_option maxRecDepth 20000 in
theorem ggX2_firstOffPlan_X3_at : GoodIn wsX2_firstOffPlan wsX3_at := goodIn_r _ [6] (by decide +kernel) (by decide +kernel)
set_option maxRecDepth 20000 in
theorem gX2_firstOffPlan_X3_at_n44 : GoodIn wsX2_firstOffPlan (wsX3_at) := ggX2_firstOffPlan_X3_at
theorem dX2_firstOffPlan_0 : decode cX2_firstOffPlan 0 = .ok (.iconst 0, 1) := by decide +kernel
theorem dX2_firstOffPlan_1 : decode cX2_firstOffPlan 1 = .ok (.istore_n 1, 1) := by decide +kernel
theorem dX2_firstOffPlan_2 : decode cX2_firstOffPlan 2 = .ok (.iload_n 1, 1) := by decide +kernel
theorem dX2_firstOffPlan_3 : decode cX2_firstOffPlan 3 = .ok (.aload_n 0, 1) := by decide +kernel
theorem dX2_firstOffPlan_4 : decode cX2_firstOffPlan 4 = .ok (.getfield 31, 3) := by decide +kernel
theorem dX2_firstOffPlan_7 : decode cX2_firstOffPlan 7 = .ok (.if_icmp .ge 28, 3) := by decide +kernel
theorem dX2_firstOffPlan_10 : decode cX2_firstOffPlan 10 = .ok (.aload_n 0, 1) := by decide +kernel
theorem dX2_firstOffPlan_11 : decode cX2_firstOffPlan 11 = .ok (.getfield 15, 3) := by decide +kernel
theorem dX2_firstOffPlan_14 : decode cX2_firstOffPlan 14 = .ok (.iload_n 1, 1) := by decide +kernel
theorem dX2_firstOffPlan_15 : decode cX2_firstOffPlan 15 = .ok (.invokestatic 44, 3) := by decide +kernel
theorem dX2_firstOffPlan_18 : decode cX2_firstOffPlan 18 = .ok (.aload_n 0, 1) := by decide +kernel
theorem dX2_firstOffPlan_19 : decode cX2_firstOffPlan 19 = .ok (.getfield 9, 3) := by decide +kernel
theorem dX2_firstOffPlan_22 : decode cX2_firstOffPlan 22 = .ok (.iload_n 1, 1) := by decide +kernel
theorem dX2_firstOffPlan_23 : decode cX2_firstOffPlan 23 = .ok (.invokestatic 44, 3) := by decide +kernel
theorem dX2_firstOffPlan_26 : decode cX2_firstOffPlan 26 = .ok (.if_icmp .ne 9, 3) := by decide +kernel
theorem dX2_firstOffPlan_29 : decode cX2_firstOffPlan 29 = .ok (.iinc 1 1, 3) := by decide +kernel
theorem dX2_firstOffPlan_32 : decode cX2_firstOffPlan 32 = .ok (.goto (-30), 3) := by decide +kernel
theorem dX2_firstOffPlan_35 : decode cX2_firstOffPlan 35 = .ok (.iload_n 1, 1) := by decide +kernel
theorem dX2_firstOffPlan_36 : decode cX2_firstOffPlan 36 = .ok (.ireturn, 1) := by decide +kernel
set_option maxRecDepth 20000 in
theorem ggX2_alikeAhead_X3_at : GoodIn wsX2_alikeAhead wsX3_at := goodIn_r _ [5] (by decide +kernel) (by decide +kernel)
set_option maxRecDepth 20000 in
theorem gX2_alikeAhead_X3_at_n44 : GoodIn wsX2_alikeAhead (wsX3_at) := ggX2_alikeAhead_X3_at
theorem dX2_alikeAhead_0 : decode cX2_alikeAhead 0 = .ok (.aload_n 0, 1) := by decide +kernel
theorem dX2_alikeAhead_1 : decode cX2_alikeAhead 1 = .ok (.getfield 31, 3) := by decide +kernel
theorem dX2_alikeAhead_4 : decode cX2_alikeAhead 4 = .ok (.istore_n 1, 1) := by decide +kernel
theorem dX2_alikeAhead_5 : decode cX2_alikeAhead 5 = .ok (.iload_n 1, 1) := by decide +kernel
theorem dX2_alikeAhead_6 : decode cX2_alikeAhead 6 = .ok (.bipush 60, 2) := by decide +kernel
theorem dX2_alikeAhead_8 : decode cX2_alikeAhead 8 = .ok (.if_icmp .ge 31, 3) := by decide +kernel
theorem dX2_alikeAhead_11 : decode cX2_alikeAhead 11 = .ok (.aload_n 0, 1) := by decide +kernel
theorem dX2_alikeAhead_12 : decode cX2_alikeAhead 12 = .ok (.getfield 9, 3) := by decide +kernel
theorem dX2_alikeAhead_15 : decode cX2_alikeAhead 15 = .ok (.iload_n 1, 1) := by decide +kernel
theorem dX2_alikeAhead_16 : decode cX2_alikeAhead 16 = .ok (.invokestatic 44, 3) := by decide +kernel
theorem dX2_alikeAhead_19 : decode cX2_alikeAhead 19 = .ok (.aload_n 0, 1) := by decide +kernel
theorem dX2_alikeAhead_20 : decode cX2_alikeAhead 20 = .ok (.getfield 9, 3) := by decide +kernel
theorem dX2_alikeAhead_23 : decode cX2_alikeAhead 23 = .ok (.aload_n 0, 1) := by decide +kernel
theorem dX2_alikeAhead_24 : decode cX2_alikeAhead 24 = .ok (.getfield 31, 3) := by decide +kernel
theorem dX2_alikeAhead_27 : decode cX2_alikeAhead 27 = .ok (.invokestatic 44, 3) := by decide +kernel
theorem dX2_alikeAhead_30 : decode cX2_alikeAhead 30 = .ok (.if_icmp .ne 9, 3) := by decide +kernel
theorem dX2_alikeAhead_33 : decode cX2_alikeAhead 33 = .ok (.iinc 1 1, 3) := by decide +kernel
theorem dX2_alikeAhead_36 : decode cX2_alikeAhead 36 = .ok (.goto (-31), 3) := by decide +kernel
theorem dX2_alikeAhead_39 : decode cX2_alikeAhead 39 = .ok (.iload_n 1, 1) := by decide +kernel
theorem dX2_alikeAhead_40 : decode cX2_alikeAhead 40 = .ok (.aload_n 0, 1) := by decide +kernel
theorem dX2_alikeAhead_41 : decode cX2_alikeAhead 41 = .ok (.getfield 31, 3) := by decide +kernel
theorem dX2_alikeAhead_44 : decode cX2_alikeAhead 44 = .ok (.isub, 1) := by decide +kernel
theorem dX2_alikeAhead_45 : decode cX2_alikeAhead 45 = .ok (.ireturn, 1) := by decide +kernel
set_option maxRecDepth 20000 in
theorem ggX2_fewestRuns_X2_isHalfDone : GoodIn wsX2_fewestRuns wsX2_isHalfDone := goodIn_r _ [7, 1, 11, 12, 13, 14, 15, 16, 17, 18, 19] (by decide +kernel) (by decide +kernel)
set_option maxRecDepth 20000 in
theorem gX2_fewestRuns_X2_isHalfDone : GoodIn wsX2_fewestRuns (wsV RX2 52 RX2 yX2_isHalfDone wsX2_isHalfDone) := goodIn_app (goodIn_of _ (by decide +kernel)) ggX2_fewestRuns_X2_isHalfDone
set_option maxRecDepth 20000 in
theorem ggX2_fewestRuns_X3_at : GoodIn wsX2_fewestRuns wsX3_at := goodIn_r _ [10] (by decide +kernel) (by decide +kernel)
set_option maxRecDepth 20000 in
theorem gX2_fewestRuns_X3_at_n44 : GoodIn wsX2_fewestRuns (wsX3_at) := ggX2_fewestRuns_X3_at
theorem dX2_fewestRuns_0 : decode cX2_fewestRuns 0 = .ok (.aload_n 0, 1) := by decide +kernel
theorem dX2_fewestRuns_1 : decode cX2_fewestRuns 1 = .ok (.invokevirtual 52, 3) := by decide +kernel
theorem dX2_fewestRuns_4 : decode cX2_fewestRuns 4 = .ok (.ifCond .eq 7, 3) := by decide +kernel
theorem dX2_fewestRuns_7 : decode cX2_fewestRuns 7 = .ok (.iconst 0, 1) := by decide +kernel
theorem dX2_fewestRuns_8 : decode cX2_fewestRuns 8 = .ok (.goto 4, 3) := by decide +kernel
theorem dX2_fewestRuns_11 : decode cX2_fewestRuns 11 = .ok (.iconst 1, 1) := by decide +kernel
theorem dX2_fewestRuns_12 : decode cX2_fewestRuns 12 = .ok (.istore_n 1, 1) := by decide +kernel
theorem dX2_fewestRuns_13 : decode cX2_fewestRuns 13 = .ok (.aload_n 0, 1) := by decide +kernel
theorem dX2_fewestRuns_14 : decode cX2_fewestRuns 14 = .ok (.getfield 31, 3) := by decide +kernel
theorem dX2_fewestRuns_17 : decode cX2_fewestRuns 17 = .ok (.iconst 1, 1) := by decide +kernel
theorem dX2_fewestRuns_18 : decode cX2_fewestRuns 18 = .ok (.iadd, 1) := by decide +kernel
theorem dX2_fewestRuns_19 : decode cX2_fewestRuns 19 = .ok (.istore_n 2, 1) := by decide +kernel
theorem dX2_fewestRuns_20 : decode cX2_fewestRuns 20 = .ok (.iload_n 2, 1) := by decide +kernel
theorem dX2_fewestRuns_21 : decode cX2_fewestRuns 21 = .ok (.bipush 60, 2) := by decide +kernel
theorem dX2_fewestRuns_23 : decode cX2_fewestRuns 23 = .ok (.if_icmp .ge 33, 3) := by decide +kernel
theorem dX2_fewestRuns_26 : decode cX2_fewestRuns 26 = .ok (.aload_n 0, 1) := by decide +kernel
theorem dX2_fewestRuns_27 : decode cX2_fewestRuns 27 = .ok (.getfield 9, 3) := by decide +kernel
theorem dX2_fewestRuns_30 : decode cX2_fewestRuns 30 = .ok (.iload_n 2, 1) := by decide +kernel
theorem dX2_fewestRuns_31 : decode cX2_fewestRuns 31 = .ok (.invokestatic 44, 3) := by decide +kernel
theorem dX2_fewestRuns_34 : decode cX2_fewestRuns 34 = .ok (.aload_n 0, 1) := by decide +kernel
theorem dX2_fewestRuns_35 : decode cX2_fewestRuns 35 = .ok (.getfield 9, 3) := by decide +kernel
theorem dX2_fewestRuns_38 : decode cX2_fewestRuns 38 = .ok (.iload_n 2, 1) := by decide +kernel
theorem dX2_fewestRuns_39 : decode cX2_fewestRuns 39 = .ok (.iconst 1, 1) := by decide +kernel
theorem dX2_fewestRuns_40 : decode cX2_fewestRuns 40 = .ok (.isub, 1) := by decide +kernel
theorem dX2_fewestRuns_41 : decode cX2_fewestRuns 41 = .ok (.invokestatic 44, 3) := by decide +kernel
theorem dX2_fewestRuns_44 : decode cX2_fewestRuns 44 = .ok (.if_icmp .eq 6, 3) := by decide +kernel
theorem dX2_fewestRuns_47 : decode cX2_fewestRuns 47 = .ok (.iinc 1 1, 3) := by decide +kernel
theorem dX2_fewestRuns_50 : decode cX2_fewestRuns 50 = .ok (.iinc 2 1, 3) := by decide +kernel
theorem dX2_fewestRuns_53 : decode cX2_fewestRuns 53 = .ok (.goto (-33), 3) := by decide +kernel
theorem dX2_fewestRuns_56 : decode cX2_fewestRuns 56 = .ok (.iload_n 1, 1) := by decide +kernel
theorem dX2_fewestRuns_57 : decode cX2_fewestRuns 57 = .ok (.ireturn, 1) := by decide +kernel
set_option maxRecDepth 20000 in
theorem ggX3_init_X1_init : GoodIn wsX3_init wsX1_init := goodIn_r _ [10, 11, 2, 3, 12, 13, 14, 15, 16, 17, 18, 19, 20, 21, 22, 23, 24, 25, 26, 27, 28, 29, 30, 31, 32, 33, 34, 35, 36, 37, 38, 39, 40, 41, 49, 50, 51, 52, 53, 54, 55, 56, 57, 42, 43, 44, 45, 46, 58] (by decide +kernel) (by decide +kernel)
set_option maxRecDepth 20000 in
theorem gX3_init_X1_init_n9 : GoodIn wsX3_init (wsX1_init) := ggX3_init_X1_init
theorem dX3_init_0 : decode cX3_init 0 = .ok (.aload_n 0, 1) := by decide +kernel
theorem dX3_init_1 : decode cX3_init 1 = .ok (.invokespecial 1, 3) := by decide +kernel
theorem dX3_init_4 : decode cX3_init 4 = .ok (.aload_n 0, 1) := by decide +kernel
theorem dX3_init_5 : decode cX3_init 5 = .ok (.new 7, 3) := by decide +kernel
theorem dX3_init_8 : decode cX3_init 8 = .ok (.dup, 1) := by decide +kernel
theorem dX3_init_9 : decode cX3_init 9 = .ok (.invokespecial 9, 3) := by decide +kernel
theorem dX3_init_12 : decode cX3_init 12 = .ok (.putfield 10, 3) := by decide +kernel
theorem dX3_init_15 : decode cX3_init 15 = .ok (.aload_n 0, 1) := by decide +kernel
theorem dX3_init_16 : decode cX3_init 16 = .ok (.new 7, 3) := by decide +kernel
theorem dX3_init_19 : decode cX3_init 19 = .ok (.dup, 1) := by decide +kernel
theorem dX3_init_20 : decode cX3_init 20 = .ok (.invokespecial 9, 3) := by decide +kernel
theorem dX3_init_23 : decode cX3_init 23 = .ok (.putfield 16, 3) := by decide +kernel
theorem dX3_init_26 : decode cX3_init 26 = .ok (.return_, 1) := by decide +kernel
set_option maxRecDepth 20000 in
theorem ggX3_plan_X3_checkCell : GoodIn wsX3_plan wsX3_checkCell := goodIn_ca (goodIn_r _ [5, 6, 7, 4, 8, 9, 10] (by decide +kernel) (by decide +kernel)) (goodIn_sub (fun _ h => List.mem_cons_of_mem _ (List.mem_append_left _ (List.mem_append_right _ h))) (by decide +kernel))
set_option maxRecDepth 20000 in
theorem gX3_plan_X3_checkCell : GoodIn wsX3_plan (va_wsS RX3 19 yX3_checkCell wsX3_checkCell) := goodIn_app (goodIn_of _ (by decide +kernel)) ggX3_plan_X3_checkCell
set_option maxRecDepth 20000 in
theorem ggX3_plan_X3_checkRange : GoodIn wsX3_plan wsX3_checkRange := goodIn_ca (goodIn_r _ [13, 14, 15] (by decide +kernel) (by decide +kernel)) (goodIn_sub (fun _ h => List.mem_cons_of_mem _ (List.mem_append_right _ h)) (by decide +kernel))
set_option maxRecDepth 20000 in
theorem gX3_plan_X3_checkRange : GoodIn wsX3_plan (va_wsS RX3 23 yX3_checkRange wsX3_checkRange) := goodIn_app (goodIn_of _ (by decide +kernel)) ggX3_plan_X3_checkRange
set_option maxRecDepth 20000 in
theorem ggX3_plan_X3_checkColour : GoodIn wsX3_plan wsX3_checkColour := goodIn_ca (goodIn_r _ [18, 11, 12, 4, 13, 14, 15] (by decide +kernel) (by decide +kernel)) (goodIn_sub (fun _ h => List.mem_cons_of_mem _ (List.mem_append_right _ h)) (by decide +kernel))
set_option maxRecDepth 20000 in
theorem gX3_plan_X3_checkColour : GoodIn wsX3_plan (va_wsS RX3 27 yX3_checkColour wsX3_checkColour) := goodIn_app (goodIn_of _ (by decide +kernel)) ggX3_plan_X3_checkColour
set_option maxRecDepth 20000 in
theorem ggX3_plan_X1_ownerOf : GoodIn wsX3_plan wsX1_ownerOf := goodIn_r _ [23, 24, 4, 25, 26, 27, 28, 22, 29, 30, 31, 47, 48, 49, 50, 51] (by decide +kernel) (by decide +kernel)
set_option maxRecDepth 20000 in
theorem gX3_plan_X1_ownerOf : GoodIn wsX3_plan (wsV RX3 31 RX1 yX1_ownerOf wsX1_ownerOf) := goodIn_app (goodIn_of _ (by decide +kernel)) ggX3_plan_X1_ownerOf
set_option maxRecDepth 20000 in
theorem ggX3_plan_X3_placeOf : GoodIn wsX3_plan wsX3_placeOf := goodIn_r _ [34] (by decide +kernel) (by decide +kernel)
set_option maxRecDepth 20000 in
theorem gX3_plan_X3_placeOf : GoodIn wsX3_plan (va_wsS RX3 35 yX3_placeOf wsX3_placeOf) := goodIn_app (goodIn_of _ (by decide +kernel)) ggX3_plan_X3_placeOf
set_option maxRecDepth 20000 in
theorem ggX3_plan_X2_planCell : GoodIn wsX3_plan wsX2_planCell := goodIn_r _ [39, 40, 41, 4, 42, 43, 44, 52, 53, 54, 55, 56, 57, 58, 59, 60] (by decide +kernel) (by decide +kernel)
set_option maxRecDepth 20000 in
theorem gX3_plan_X2_planCell : GoodIn wsX3_plan (wsV RX3 39 RX2 yX2_planCell wsX2_planCell) := goodIn_app (goodIn_of _ (by decide +kernel)) ggX3_plan_X2_planCell
theorem dX3_plan_0 : decode cX3_plan 0 = .ok (.iload_n 1, 1) := by decide +kernel
theorem dX3_plan_1 : decode cX3_plan 1 = .ok (.iload_n 2, 1) := by decide +kernel
theorem dX3_plan_2 : decode cX3_plan 2 = .ok (.invokestatic 19, 3) := by decide +kernel
theorem dX3_plan_5 : decode cX3_plan 5 = .ok (.iload_n 3, 1) := by decide +kernel
theorem dX3_plan_6 : decode cX3_plan 6 = .ok (.iconst 1, 1) := by decide +kernel
theorem dX3_plan_7 : decode cX3_plan 7 = .ok (.bipush 12, 2) := by decide +kernel
theorem dX3_plan_9 : decode cX3_plan 9 = .ok (.iload_n 1, 1) := by decide +kernel
theorem dX3_plan_10 : decode cX3_plan 10 = .ok (.isub, 1) := by decide +kernel
theorem dX3_plan_11 : decode cX3_plan 11 = .ok (.invokestatic 23, 3) := by decide +kernel
theorem dX3_plan_14 : decode cX3_plan 14 = .ok (.iload 4, 2) := by decide +kernel
theorem dX3_plan_16 : decode cX3_plan 16 = .ok (.iconst 1, 1) := by decide +kernel
theorem dX3_plan_17 : decode cX3_plan 17 = .ok (.bipush 10, 2) := by decide +kernel
theorem dX3_plan_19 : decode cX3_plan 19 = .ok (.iload_n 2, 1) := by decide +kernel
theorem dX3_plan_20 : decode cX3_plan 20 = .ok (.isub, 1) := by decide +kernel
theorem dX3_plan_21 : decode cX3_plan 21 = .ok (.invokestatic 23, 3) := by decide +kernel
theorem dX3_plan_24 : decode cX3_plan 24 = .ok (.iload 5, 2) := by decide +kernel
theorem dX3_plan_26 : decode cX3_plan 26 = .ok (.invokestatic 27, 3) := by decide +kernel
theorem dX3_plan_29 : decode cX3_plan 29 = .ok (.iconst 0, 1) := by decide +kernel
theorem dX3_plan_30 : decode cX3_plan 30 = .ok (.istore 6, 2) := by decide +kernel
theorem dX3_plan_32 : decode cX3_plan 32 = .ok (.iload_n 2, 1) := by decide +kernel
theorem dX3_plan_33 : decode cX3_plan 33 = .ok (.istore 7, 2) := by decide +kernel
theorem dX3_plan_35 : decode cX3_plan 35 = .ok (.iload 7, 2) := by decide +kernel
theorem dX3_plan_37 : decode cX3_plan 37 = .ok (.iload_n 2, 1) := by decide +kernel
theorem dX3_plan_38 : decode cX3_plan 38 = .ok (.iload 4, 2) := by decide +kernel
theorem dX3_plan_40 : decode cX3_plan 40 = .ok (.iadd, 1) := by decide +kernel
theorem dX3_plan_41 : decode cX3_plan 41 = .ok (.if_icmp .ge 53, 3) := by decide +kernel
theorem dX3_plan_44 : decode cX3_plan 44 = .ok (.iload_n 1, 1) := by decide +kernel
theorem dX3_plan_45 : decode cX3_plan 45 = .ok (.istore 8, 2) := by decide +kernel
theorem dX3_plan_47 : decode cX3_plan 47 = .ok (.iload 8, 2) := by decide +kernel
theorem dX3_plan_49 : decode cX3_plan 49 = .ok (.iload_n 1, 1) := by decide +kernel
theorem dX3_plan_50 : decode cX3_plan 50 = .ok (.iload_n 3, 1) := by decide +kernel
theorem dX3_plan_51 : decode cX3_plan 51 = .ok (.iadd, 1) := by decide +kernel
theorem dX3_plan_52 : decode cX3_plan 52 = .ok (.if_icmp .ge 36, 3) := by decide +kernel
theorem dX3_plan_55 : decode cX3_plan 55 = .ok (.aload_n 0, 1) := by decide +kernel
theorem dX3_plan_56 : decode cX3_plan 56 = .ok (.getfield 10, 3) := by decide +kernel
theorem dX3_plan_59 : decode cX3_plan 59 = .ok (.iload 8, 2) := by decide +kernel
theorem dX3_plan_61 : decode cX3_plan 61 = .ok (.invokevirtual 31, 3) := by decide +kernel
theorem dX3_plan_64 : decode cX3_plan 64 = .ok (.iload 8, 2) := by decide +kernel
theorem dX3_plan_66 : decode cX3_plan 66 = .ok (.iload 7, 2) := by decide +kernel
theorem dX3_plan_68 : decode cX3_plan 68 = .ok (.invokestatic 35, 3) := by decide +kernel
theorem dX3_plan_71 : decode cX3_plan 71 = .ok (.iload 5, 2) := by decide +kernel
theorem dX3_plan_73 : decode cX3_plan 73 = .ok (.invokevirtual 39, 3) := by decide +kernel
theorem dX3_plan_76 : decode cX3_plan 76 = .ok (.ifCond .eq 6, 3) := by decide +kernel
theorem dX3_plan_79 : decode cX3_plan 79 = .ok (.iinc 6 1, 3) := by decide +kernel
theorem dX3_plan_82 : decode cX3_plan 82 = .ok (.iinc 8 1, 3) := by decide +kernel
theorem dX3_plan_85 : decode cX3_plan 85 = .ok (.goto (-38), 3) := by decide +kernel
theorem dX3_plan_88 : decode cX3_plan 88 = .ok (.iinc 7 1, 3) := by decide +kernel
theorem dX3_plan_91 : decode cX3_plan 91 = .ok (.goto (-56), 3) := by decide +kernel
theorem dX3_plan_94 : decode cX3_plan 94 = .ok (.iload 6, 2) := by decide +kernel
theorem dX3_plan_96 : decode cX3_plan 96 = .ok (.ireturn, 1) := by decide +kernel
set_option maxRecDepth 20000 in
theorem ggX3_bring_X3_checkColour : GoodIn wsX3_bring wsX3_checkColour := goodIn_ca (goodIn_r _ [5, 6, 7, 4, 8, 9, 10] (by decide +kernel) (by decide +kernel)) (goodIn_sub (fun _ h => List.mem_cons_of_mem _ (List.mem_append_right _ h)) (by decide +kernel))
set_option maxRecDepth 20000 in
theorem gX3_bring_X3_checkColour : GoodIn wsX3_bring (va_wsS RX3 27 yX3_checkColour wsX3_checkColour) := goodIn_app (goodIn_of _ (by decide +kernel)) ggX3_bring_X3_checkColour
set_option maxRecDepth 20000 in
theorem ggX3_bring_X3_checkRange : GoodIn wsX3_bring wsX3_checkRange := goodIn_ca (goodIn_r _ [8, 9, 10] (by decide +kernel) (by decide +kernel)) (goodIn_sub (fun _ h => List.mem_cons_of_mem _ (List.mem_append_right _ h)) (by decide +kernel))
set_option maxRecDepth 20000 in
theorem gX3_bring_X3_checkRange : GoodIn wsX3_bring (va_wsS RX3 23 yX3_checkRange wsX3_checkRange) := goodIn_app (goodIn_of _ (by decide +kernel)) ggX3_bring_X3_checkRange
set_option maxRecDepth 20000 in
theorem ggX3_bring_X0_fill : GoodIn wsX3_bring wsX0_fill := goodIn_r _ [15, 16, 17, 18, 19, 20, 21, 4, 22, 23, 24, 32] (by decide +kernel) (by decide +kernel)
set_option maxRecDepth 20000 in
theorem gX3_bring_X0_fill : GoodIn wsX3_bring (wsV RX3 49 RX0 yX0_fill wsX0_fill) := goodIn_app (goodIn_of _ (by decide +kernel)) ggX3_bring_X0_fill
theorem dX3_bring_0 : decode cX3_bring 0 = .ok (.iload_n 1, 1) := by decide +kernel
theorem dX3_bring_1 : decode cX3_bring 1 = .ok (.invokestatic 27, 3) := by decide +kernel
theorem dX3_bring_4 : decode cX3_bring 4 = .ok (.iload_n 2, 1) := by decide +kernel
theorem dX3_bring_5 : decode cX3_bring 5 = .ok (.iconst 1, 1) := by decide +kernel
theorem dX3_bring_6 : decode cX3_bring 6 = .ok (.sipush 200, 3) := by decide +kernel
theorem dX3_bring_9 : decode cX3_bring 9 = .ok (.invokestatic 23, 3) := by decide +kernel
theorem dX3_bring_12 : decode cX3_bring 12 = .ok (.aload_n 0, 1) := by decide +kernel
theorem dX3_bring_13 : decode cX3_bring 13 = .ok (.getfield 10, 3) := by decide +kernel
theorem dX3_bring_16 : decode cX3_bring 16 = .ok (.getfield 45, 3) := by decide +kernel
theorem dX3_bring_19 : decode cX3_bring 19 = .ok (.iload_n 1, 1) := by decide +kernel
theorem dX3_bring_20 : decode cX3_bring 20 = .ok (.iload_n 2, 1) := by decide +kernel
theorem dX3_bring_21 : decode cX3_bring 21 = .ok (.invokevirtual 49, 3) := by decide +kernel
theorem dX3_bring_24 : decode cX3_bring 24 = .ok (.ireturn, 1) := by decide +kernel
set_option maxRecDepth 20000 in
theorem ggX3_setSpeed_X3_checkWeaver : GoodIn wsX3_setSpeed wsX3_checkWeaver := goodIn_ca (goodIn_r _ [5, 6, 7, 4, 8, 9, 10] (by decide +kernel) (by decide +kernel)) (goodIn_sub (fun _ h => List.mem_cons_of_mem _ (List.mem_append_left _ (List.mem_append_right _ h))) (by decide +kernel))
set_option maxRecDepth 20000 in
theorem gX3_setSpeed_X3_checkWeaver : GoodIn wsX3_setSpeed (va_wsS RX3 54 yX3_checkWeaver wsX3_checkWeaver) := goodIn_app (goodIn_of _ (by decide +kernel)) ggX3_setSpeed_X3_checkWeaver
set_option maxRecDepth 20000 in
theorem ggX3_setSpeed_X3_checkRange : GoodIn wsX3_setSpeed wsX3_checkRange := goodIn_ca (goodIn_r _ [13, 14, 15] (by decide +kernel) (by decide +kernel)) (goodIn_sub (fun _ h => List.mem_cons_of_mem _ (List.mem_append_right _ h)) (by decide +kernel))
set_option maxRecDepth 20000 in
theorem gX3_setSpeed_X3_checkRange : GoodIn wsX3_setSpeed (va_wsS RX3 23 yX3_checkRange wsX3_checkRange) := goodIn_app (goodIn_of _ (by decide +kernel)) ggX3_setSpeed_X3_checkRange
set_option maxRecDepth 20000 in
theorem ggX3_setSpeed_X1_weaverAt : GoodIn wsX3_setSpeed wsX1_weaverAt := goodIn_r _ [20, 21, 22, 34, 35, 36, 37, 38] (by decide +kernel) (by decide +kernel)
set_option maxRecDepth 20000 in
theorem gX3_setSpeed_X1_weaverAt : GoodIn wsX3_setSpeed (wsV RX3 57 RX1 yX1_weaverAt wsX1_weaverAt) := goodIn_app (goodIn_of _ (by decide +kernel)) ggX3_setSpeed_X1_weaverAt
theorem dX3_setSpeed_0 : decode cX3_setSpeed 0 = .ok (.iload_n 1, 1) := by decide +kernel
theorem dX3_setSpeed_1 : decode cX3_setSpeed 1 = .ok (.invokestatic 54, 3) := by decide +kernel
theorem dX3_setSpeed_4 : decode cX3_setSpeed 4 = .ok (.iload_n 2, 1) := by decide +kernel
theorem dX3_setSpeed_5 : decode cX3_setSpeed 5 = .ok (.iconst 1, 1) := by decide +kernel
theorem dX3_setSpeed_6 : decode cX3_setSpeed 6 = .ok (.bipush 6, 2) := by decide +kernel
theorem dX3_setSpeed_8 : decode cX3_setSpeed 8 = .ok (.invokestatic 23, 3) := by decide +kernel
theorem dX3_setSpeed_11 : decode cX3_setSpeed 11 = .ok (.aload_n 0, 1) := by decide +kernel
theorem dX3_setSpeed_12 : decode cX3_setSpeed 12 = .ok (.getfield 10, 3) := by decide +kernel
theorem dX3_setSpeed_15 : decode cX3_setSpeed 15 = .ok (.iload_n 1, 1) := by decide +kernel
theorem dX3_setSpeed_16 : decode cX3_setSpeed 16 = .ok (.invokevirtual 57, 3) := by decide +kernel
theorem dX3_setSpeed_19 : decode cX3_setSpeed 19 = .ok (.astore_n 3, 1) := by decide +kernel
theorem dX3_setSpeed_20 : decode cX3_setSpeed 20 = .ok (.aload_n 3, 1) := by decide +kernel
theorem dX3_setSpeed_21 : decode cX3_setSpeed 21 = .ok (.getfield 60, 3) := by decide +kernel
theorem dX3_setSpeed_24 : decode cX3_setSpeed 24 = .ok (.istore 4, 2) := by decide +kernel
theorem dX3_setSpeed_26 : decode cX3_setSpeed 26 = .ok (.aload_n 3, 1) := by decide +kernel
theorem dX3_setSpeed_27 : decode cX3_setSpeed 27 = .ok (.iload_n 2, 1) := by decide +kernel
theorem dX3_setSpeed_28 : decode cX3_setSpeed 28 = .ok (.putfield 60, 3) := by decide +kernel
theorem dX3_setSpeed_31 : decode cX3_setSpeed 31 = .ok (.iload 4, 2) := by decide +kernel
theorem dX3_setSpeed_33 : decode cX3_setSpeed 33 = .ok (.ireturn, 1) := by decide +kernel
set_option maxRecDepth 20000 in
theorem ggX3_tell_X3_checkWeaver : GoodIn wsX3_tell wsX3_checkWeaver := goodIn_ca (goodIn_r _ [7, 8, 9, 6, 10, 11, 12] (by decide +kernel) (by decide +kernel)) (goodIn_sub (fun _ h => List.mem_cons_of_mem _ (List.mem_append_left _ (List.mem_append_right _ h))) (by decide +kernel))
set_option maxRecDepth 20000 in
theorem gX3_tell_X3_checkWeaver : GoodIn wsX3_tell (va_wsS RX3 54 yX3_checkWeaver wsX3_checkWeaver) := goodIn_app (goodIn_of _ (by decide +kernel)) ggX3_tell_X3_checkWeaver
set_option maxRecDepth 20000 in
theorem ggX3_tell_X3_checkColour : GoodIn wsX3_tell wsX3_checkColour := goodIn_ca (goodIn_r _ [15, 16, 17, 6, 18, 19, 20] (by decide +kernel) (by decide +kernel)) (goodIn_sub (fun _ h => List.mem_cons_of_mem _ (List.mem_append_right _ h)) (by decide +kernel))
set_option maxRecDepth 20000 in
theorem gX3_tell_X3_checkColour : GoodIn wsX3_tell (va_wsS RX3 27 yX3_checkColour wsX3_checkColour) := goodIn_app (goodIn_of _ (by decide +kernel)) ggX3_tell_X3_checkColour
set_option maxRecDepth 20000 in
theorem ggX3_tell_X3_checkRange : GoodIn wsX3_tell wsX3_checkRange := goodIn_ca (goodIn_r _ [18, 19, 20] (by decide +kernel) (by decide +kernel)) (goodIn_sub (fun _ h => List.mem_cons_of_mem _ (List.mem_append_right _ h)) (by decide +kernel))
set_option maxRecDepth 20000 in
theorem gX3_tell_X3_checkRange : GoodIn wsX3_tell (va_wsS RX3 23 yX3_checkRange wsX3_checkRange) := goodIn_app (goodIn_of _ (by decide +kernel)) ggX3_tell_X3_checkRange
set_option maxRecDepth 20000 in
theorem ggX3_tell_X1_weaverAt : GoodIn wsX3_tell wsX1_weaverAt := goodIn_r _ [25, 26, 27, 49, 50, 51, 52, 53] (by decide +kernel) (by decide +kernel)
set_option maxRecDepth 20000 in
theorem gX3_tell_X1_weaverAt : GoodIn wsX3_tell (wsV RX3 57 RX1 yX1_weaverAt wsX1_weaverAt) := goodIn_app (goodIn_of _ (by decide +kernel)) ggX3_tell_X1_weaverAt
set_option maxRecDepth 20000 in
theorem ggX3_tell_X2_addRun : GoodIn wsX3_tell wsX2_addRun := goodIn_r _ [32, 33, 34, 35, 36, 6, 37, 40, 41, 42, 43, 44, 45, 46, 47, 48] (by decide +kernel) (by decide +kernel)
set_option maxRecDepth 20000 in
theorem gX3_tell_X2_addRun : GoodIn wsX3_tell (wsV RX3 74 RX2 yX2_addRun wsX2_addRun) := goodIn_app (goodIn_of _ (by decide +kernel)) ggX3_tell_X2_addRun
theorem dX3_tell_0 : decode cX3_tell 0 = .ok (.iload_n 1, 1) := by decide +kernel
theorem dX3_tell_1 : decode cX3_tell 1 = .ok (.invokestatic 54, 3) := by decide +kernel
theorem dX3_tell_4 : decode cX3_tell 4 = .ok (.iload_n 2, 1) := by decide +kernel
theorem dX3_tell_5 : decode cX3_tell 5 = .ok (.invokestatic 27, 3) := by decide +kernel
theorem dX3_tell_8 : decode cX3_tell 8 = .ok (.iload_n 3, 1) := by decide +kernel
theorem dX3_tell_9 : decode cX3_tell 9 = .ok (.iconst 1, 1) := by decide +kernel
theorem dX3_tell_10 : decode cX3_tell 10 = .ok (.bipush 60, 2) := by decide +kernel
theorem dX3_tell_12 : decode cX3_tell 12 = .ok (.invokestatic 23, 3) := by decide +kernel
theorem dX3_tell_15 : decode cX3_tell 15 = .ok (.aload_n 0, 1) := by decide +kernel
theorem dX3_tell_16 : decode cX3_tell 16 = .ok (.getfield 10, 3) := by decide +kernel
theorem dX3_tell_19 : decode cX3_tell 19 = .ok (.iload_n 1, 1) := by decide +kernel
theorem dX3_tell_20 : decode cX3_tell 20 = .ok (.invokevirtual 57, 3) := by decide +kernel
theorem dX3_tell_23 : decode cX3_tell 23 = .ok (.astore 4, 2) := by decide +kernel
theorem dX3_tell_25 : decode cX3_tell 25 = .ok (.aload 4, 2) := by decide +kernel
theorem dX3_tell_27 : decode cX3_tell 27 = .ok (.getfield 64, 3) := by decide +kernel
theorem dX3_tell_30 : decode cX3_tell 30 = .ok (.bipush 20, 2) := by decide +kernel
theorem dX3_tell_32 : decode cX3_tell 32 = .ok (.if_icmp .lt 13, 3) := by decide +kernel
theorem dX3_tell_35 : decode cX3_tell 35 = .ok (.new 67, 3) := by decide +kernel
theorem dX3_tell_38 : decode cX3_tell 38 = .ok (.dup, 1) := by decide +kernel
theorem dX3_tell_39 : decode cX3_tell 39 = .ok (.ldc 69, 2) := by decide +kernel
theorem dX3_tell_41 : decode cX3_tell 41 = .ok (.invokespecial 71, 3) := by decide +kernel
theorem dX3_tell_44 : decode cX3_tell 44 = .ok (.athrow, 1) := by decide +kernel
theorem dX3_tell_45 : decode cX3_tell 45 = .ok (.aload 4, 2) := by decide +kernel
theorem dX3_tell_47 : decode cX3_tell 47 = .ok (.iload_n 2, 1) := by decide +kernel
theorem dX3_tell_48 : decode cX3_tell 48 = .ok (.iload_n 3, 1) := by decide +kernel
theorem dX3_tell_49 : decode cX3_tell 49 = .ok (.invokevirtual 74, 3) := by decide +kernel
theorem dX3_tell_52 : decode cX3_tell 52 = .ok (.aload 4, 2) := by decide +kernel
theorem dX3_tell_54 : decode cX3_tell 54 = .ok (.getfield 64, 3) := by decide +kernel
theorem dX3_tell_57 : decode cX3_tell 57 = .ok (.ireturn, 1) := by decide +kernel
set_option maxRecDepth 20000 in
theorem ggX3_hush_X3_checkWeaver : GoodIn wsX3_hush wsX3_checkWeaver := goodIn_ca (goodIn_r _ [5, 6, 7, 4, 8, 9, 10] (by decide +kernel) (by decide +kernel)) (goodIn_sub (fun _ h => List.mem_cons_of_mem _ (List.mem_append_right _ h)) (by decide +kernel))
set_option maxRecDepth 20000 in
theorem gX3_hush_X3_checkWeaver : GoodIn wsX3_hush (va_wsS RX3 54 yX3_checkWeaver wsX3_checkWeaver) := goodIn_app (goodIn_of _ (by decide +kernel)) ggX3_hush_X3_checkWeaver
set_option maxRecDepth 20000 in
theorem ggX3_hush_X1_weaverAt : GoodIn wsX3_hush wsX1_weaverAt := goodIn_r _ [15, 16, 17, 38, 39, 40, 41, 42] (by decide +kernel) (by decide +kernel)
set_option maxRecDepth 20000 in
theorem gX3_hush_X1_weaverAt : GoodIn wsX3_hush (wsV RX3 57 RX1 yX1_weaverAt wsX1_weaverAt) := goodIn_app (goodIn_of _ (by decide +kernel)) ggX3_hush_X1_weaverAt
set_option maxRecDepth 20000 in
theorem ggX3_hush_X2_toldInAll : GoodIn wsX3_hush wsX2_toldInAll := goodIn_r _ [22, 23, 24, 25, 4, 26, 29, 30, 31, 32, 33, 34, 35, 36, 37] (by decide +kernel) (by decide +kernel)
set_option maxRecDepth 20000 in
theorem gX3_hush_X2_toldInAll : GoodIn wsX3_hush (wsV RX3 77 RX2 yX2_toldInAll wsX2_toldInAll) := goodIn_app (goodIn_of _ (by decide +kernel)) ggX3_hush_X2_toldInAll
theorem dX3_hush_0 : decode cX3_hush 0 = .ok (.iload_n 1, 1) := by decide +kernel
theorem dX3_hush_1 : decode cX3_hush 1 = .ok (.invokestatic 54, 3) := by decide +kernel
theorem dX3_hush_4 : decode cX3_hush 4 = .ok (.aload_n 0, 1) := by decide +kernel
theorem dX3_hush_5 : decode cX3_hush 5 = .ok (.getfield 10, 3) := by decide +kernel
theorem dX3_hush_8 : decode cX3_hush 8 = .ok (.iload_n 1, 1) := by decide +kernel
theorem dX3_hush_9 : decode cX3_hush 9 = .ok (.invokevirtual 57, 3) := by decide +kernel
theorem dX3_hush_12 : decode cX3_hush 12 = .ok (.astore_n 2, 1) := by decide +kernel
theorem dX3_hush_13 : decode cX3_hush 13 = .ok (.aload_n 2, 1) := by decide +kernel
theorem dX3_hush_14 : decode cX3_hush 14 = .ok (.invokevirtual 77, 3) := by decide +kernel
theorem dX3_hush_17 : decode cX3_hush 17 = .ok (.istore_n 3, 1) := by decide +kernel
theorem dX3_hush_18 : decode cX3_hush 18 = .ok (.aload_n 2, 1) := by decide +kernel
theorem dX3_hush_19 : decode cX3_hush 19 = .ok (.iconst 0, 1) := by decide +kernel
theorem dX3_hush_20 : decode cX3_hush 20 = .ok (.putfield 64, 3) := by decide +kernel
theorem dX3_hush_23 : decode cX3_hush 23 = .ok (.iload_n 3, 1) := by decide +kernel
theorem dX3_hush_24 : decode cX3_hush 24 = .ok (.ireturn, 1) := by decide +kernel
set_option maxRecDepth 20000 in
theorem ggX3_unpick_X3_checkWeaver : GoodIn wsX3_unpick wsX3_checkWeaver := goodIn_ca (goodIn_r _ [7, 8, 9, 6, 10, 11, 12] (by decide +kernel) (by decide +kernel)) (goodIn_sub (fun _ h => List.mem_cons_of_mem _ (List.mem_append_left _ (List.mem_append_right _ h))) (by decide +kernel))
set_option maxRecDepth 20000 in
theorem gX3_unpick_X3_checkWeaver : GoodIn wsX3_unpick (va_wsS RX3 54 yX3_checkWeaver wsX3_checkWeaver) := goodIn_app (goodIn_of _ (by decide +kernel)) ggX3_unpick_X3_checkWeaver
set_option maxRecDepth 20000 in
theorem ggX3_unpick_X3_checkRange : GoodIn wsX3_unpick wsX3_checkRange := goodIn_ca (goodIn_r _ [15, 16, 17] (by decide +kernel) (by decide +kernel)) (goodIn_sub (fun _ h => List.mem_cons_of_mem _ (List.mem_append_right _ h)) (by decide +kernel))
set_option maxRecDepth 20000 in
theorem gX3_unpick_X3_checkRange : GoodIn wsX3_unpick (va_wsS RX3 23 yX3_checkRange wsX3_checkRange) := goodIn_app (goodIn_of _ (by decide +kernel)) ggX3_unpick_X3_checkRange
set_option maxRecDepth 20000 in
theorem ggX3_unpick_X1_weaverAt : GoodIn wsX3_unpick wsX1_weaverAt := goodIn_r _ [22, 23, 24, 57, 58, 59, 60, 61] (by decide +kernel) (by decide +kernel)
set_option maxRecDepth 20000 in
theorem gX3_unpick_X1_weaverAt : GoodIn wsX3_unpick (wsV RX3 57 RX1 yX1_weaverAt wsX1_weaverAt) := goodIn_app (goodIn_of _ (by decide +kernel)) ggX3_unpick_X1_weaverAt
set_option maxRecDepth 20000 in
theorem ggX3_unpick_X2_undo : GoodIn wsX3_unpick wsX2_undo := goodIn_r _ [29, 30, 31, 32, 6, 33, 34, 35, 36, 37, 38, 39, 40, 41, 42, 43, 44, 45, 48, 49, 50, 51, 52, 53, 54, 55, 56, 62] (by decide +kernel) (by decide +kernel)
set_option maxRecDepth 20000 in
theorem gX3_unpick_X2_undo : GoodIn wsX3_unpick (wsV RX3 86 RX2 yX2_undo wsX2_undo) := goodIn_app (goodIn_of _ (by decide +kernel)) ggX3_unpick_X2_undo
theorem dX3_unpick_0 : decode cX3_unpick 0 = .ok (.iload_n 1, 1) := by decide +kernel
theorem dX3_unpick_1 : decode cX3_unpick 1 = .ok (.invokestatic 54, 3) := by decide +kernel
theorem dX3_unpick_4 : decode cX3_unpick 4 = .ok (.iload_n 2, 1) := by decide +kernel
theorem dX3_unpick_5 : decode cX3_unpick 5 = .ok (.iconst 1, 1) := by decide +kernel
theorem dX3_unpick_6 : decode cX3_unpick 6 = .ok (.bipush 60, 2) := by decide +kernel
theorem dX3_unpick_8 : decode cX3_unpick 8 = .ok (.invokestatic 23, 3) := by decide +kernel
theorem dX3_unpick_11 : decode cX3_unpick 11 = .ok (.aload_n 0, 1) := by decide +kernel
theorem dX3_unpick_12 : decode cX3_unpick 12 = .ok (.getfield 10, 3) := by decide +kernel
theorem dX3_unpick_15 : decode cX3_unpick 15 = .ok (.iload_n 1, 1) := by decide +kernel
theorem dX3_unpick_16 : decode cX3_unpick 16 = .ok (.invokevirtual 57, 3) := by decide +kernel
theorem dX3_unpick_19 : decode cX3_unpick 19 = .ok (.astore_n 3, 1) := by decide +kernel
theorem dX3_unpick_20 : decode cX3_unpick 20 = .ok (.aload_n 3, 1) := by decide +kernel
theorem dX3_unpick_21 : decode cX3_unpick 21 = .ok (.getfield 81, 3) := by decide +kernel
theorem dX3_unpick_24 : decode cX3_unpick 24 = .ok (.iload_n 2, 1) := by decide +kernel
theorem dX3_unpick_25 : decode cX3_unpick 25 = .ok (.if_icmp .ge 13, 3) := by decide +kernel
theorem dX3_unpick_28 : decode cX3_unpick 28 = .ok (.new 67, 3) := by decide +kernel
theorem dX3_unpick_31 : decode cX3_unpick 31 = .ok (.dup, 1) := by decide +kernel
theorem dX3_unpick_32 : decode cX3_unpick 32 = .ok (.ldc 84, 2) := by decide +kernel
theorem dX3_unpick_34 : decode cX3_unpick 34 = .ok (.invokespecial 71, 3) := by decide +kernel
theorem dX3_unpick_37 : decode cX3_unpick 37 = .ok (.athrow, 1) := by decide +kernel
theorem dX3_unpick_38 : decode cX3_unpick 38 = .ok (.aload_n 3, 1) := by decide +kernel
theorem dX3_unpick_39 : decode cX3_unpick 39 = .ok (.iload_n 2, 1) := by decide +kernel
theorem dX3_unpick_40 : decode cX3_unpick 40 = .ok (.aload_n 0, 1) := by decide +kernel
theorem dX3_unpick_41 : decode cX3_unpick 41 = .ok (.getfield 10, 3) := by decide +kernel
theorem dX3_unpick_44 : decode cX3_unpick 44 = .ok (.getfield 45, 3) := by decide +kernel
theorem dX3_unpick_47 : decode cX3_unpick 47 = .ok (.invokevirtual 86, 3) := by decide +kernel
theorem dX3_unpick_50 : decode cX3_unpick 50 = .ok (.aload_n 0, 1) := by decide +kernel
theorem dX3_unpick_51 : decode cX3_unpick 51 = .ok (.getfield 10, 3) := by decide +kernel
theorem dX3_unpick_54 : decode cX3_unpick 54 = .ok (.dup, 1) := by decide +kernel
theorem dX3_unpick_55 : decode cX3_unpick 55 = .ok (.getfield 90, 3) := by decide +kernel
theorem dX3_unpick_58 : decode cX3_unpick 58 = .ok (.iload_n 2, 1) := by decide +kernel
theorem dX3_unpick_59 : decode cX3_unpick 59 = .ok (.iadd, 1) := by decide +kernel
theorem dX3_unpick_60 : decode cX3_unpick 60 = .ok (.putfield 90, 3) := by decide +kernel
theorem dX3_unpick_63 : decode cX3_unpick 63 = .ok (.aload_n 3, 1) := by decide +kernel
theorem dX3_unpick_64 : decode cX3_unpick 64 = .ok (.getfield 81, 3) := by decide +kernel
theorem dX3_unpick_67 : decode cX3_unpick 67 = .ok (.ireturn, 1) := by decide +kernel
set_option maxRecDepth 20000 in
theorem ggX3_cell_X3_checkCell : GoodIn wsX3_cell wsX3_checkCell := goodIn_ca (goodIn_r _ [5, 6, 7, 4, 8, 9, 10] (by decide +kernel) (by decide +kernel)) (goodIn_sub (fun _ h => List.mem_cons_of_mem _ (List.mem_append_right _ h)) (by decide +kernel))
set_option maxRecDepth 20000 in
theorem gX3_cell_X3_checkCell : GoodIn wsX3_cell (va_wsS RX3 19 yX3_checkCell wsX3_checkCell) := goodIn_app (goodIn_of _ (by decide +kernel)) ggX3_cell_X3_checkCell
set_option maxRecDepth 20000 in
theorem ggX3_cell_X3_checkIndex : GoodIn wsX3_cell wsX3_checkIndex := goodIn_ca (goodIn_r _ [8, 9, 10] (by decide +kernel) (by decide +kernel)) (goodIn_sub (fun _ h => List.mem_cons_of_mem _ (List.mem_append_right _ h)) (by decide +kernel))
set_option maxRecDepth 20000 in
theorem gX3_cell_X3_checkIndex : GoodIn wsX3_cell (va_wsS RX3 93 yX3_checkIndex wsX3_checkIndex) := goodIn_app (goodIn_of _ (by decide +kernel)) ggX3_cell_X3_checkIndex
set_option maxRecDepth 20000 in
theorem ggX3_cell_X1_knotAt : GoodIn wsX3_cell wsX1_knotAt := goodIn_r _ [15, 16, 17, 18, 14, 19, 20, 4, 21, 22, 23, 24, 25, 26, 27, 28, 29, 30, 31, 32, 33, 34, 35, 36, 37, 38, 45, 46, 47, 48, 49, 50, 51, 52, 53, 54, 55, 56, 57, 58] (by decide +kernel) (by decide +kernel)
set_option maxRecDepth 20000 in
theorem gX3_cell_X1_knotAt : GoodIn wsX3_cell (wsV RX3 96 RX1 yX1_knotAt wsX1_knotAt) := goodIn_app (goodIn_of _ (by decide +kernel)) ggX3_cell_X1_knotAt
set_option maxRecDepth 20000 in
theorem ggX3_cell_X1_planAt : GoodIn wsX3_cell wsX1_planAt := goodIn_r _ [42, 16, 17, 18, 14, 19, 20, 4, 21, 22, 23, 24, 25, 26, 27, 28, 29, 37, 38, 50, 51, 52, 53, 54, 55, 56, 57, 58, 45, 46, 47, 48, 49] (by decide +kernel) (by decide +kernel)
set_option maxRecDepth 20000 in
theorem gX3_cell_X1_planAt : GoodIn wsX3_cell (wsV RX3 99 RX1 yX1_planAt wsX1_planAt) := goodIn_app (goodIn_of _ (by decide +kernel)) ggX3_cell_X1_planAt
theorem dX3_cell_0 : decode cX3_cell 0 = .ok (.iload_n 1, 1) := by decide +kernel
theorem dX3_cell_1 : decode cX3_cell 1 = .ok (.iload_n 2, 1) := by decide +kernel
theorem dX3_cell_2 : decode cX3_cell 2 = .ok (.invokestatic 19, 3) := by decide +kernel
theorem dX3_cell_5 : decode cX3_cell 5 = .ok (.iload_n 3, 1) := by decide +kernel
theorem dX3_cell_6 : decode cX3_cell 6 = .ok (.iconst 2, 1) := by decide +kernel
theorem dX3_cell_7 : decode cX3_cell 7 = .ok (.invokestatic 93, 3) := by decide +kernel
theorem dX3_cell_10 : decode cX3_cell 10 = .ok (.iload_n 3, 1) := by decide +kernel
theorem dX3_cell_11 : decode cX3_cell 11 = .ok (.ifCond .ne 15, 3) := by decide +kernel
theorem dX3_cell_14 : decode cX3_cell 14 = .ok (.aload_n 0, 1) := by decide +kernel
theorem dX3_cell_15 : decode cX3_cell 15 = .ok (.getfield 10, 3) := by decide +kernel
theorem dX3_cell_18 : decode cX3_cell 18 = .ok (.iload_n 1, 1) := by decide +kernel
theorem dX3_cell_19 : decode cX3_cell 19 = .ok (.iload_n 2, 1) := by decide +kernel
theorem dX3_cell_20 : decode cX3_cell 20 = .ok (.invokevirtual 96, 3) := by decide +kernel
theorem dX3_cell_23 : decode cX3_cell 23 = .ok (.goto 12, 3) := by decide +kernel
theorem dX3_cell_26 : decode cX3_cell 26 = .ok (.aload_n 0, 1) := by decide +kernel
theorem dX3_cell_27 : decode cX3_cell 27 = .ok (.getfield 10, 3) := by decide +kernel
theorem dX3_cell_30 : decode cX3_cell 30 = .ok (.iload_n 1, 1) := by decide +kernel
theorem dX3_cell_31 : decode cX3_cell 31 = .ok (.iload_n 2, 1) := by decide +kernel
theorem dX3_cell_32 : decode cX3_cell 32 = .ok (.invokevirtual 99, 3) := by decide +kernel
theorem dX3_cell_35 : decode cX3_cell 35 = .ok (.ireturn, 1) := by decide +kernel
set_option maxRecDepth 20000 in
theorem ggX3_sees_X3_checkWeaver : GoodIn wsX3_sees wsX3_checkWeaver := goodIn_ca (goodIn_r _ [5, 6, 7, 4, 8, 9, 10] (by decide +kernel) (by decide +kernel)) (goodIn_sub (fun _ h => List.mem_cons_of_mem _ (List.mem_append_right _ h)) (by decide +kernel))
set_option maxRecDepth 20000 in
theorem gX3_sees_X3_checkWeaver : GoodIn wsX3_sees (va_wsS RX3 54 yX3_checkWeaver wsX3_checkWeaver) := goodIn_app (goodIn_of _ (by decide +kernel)) ggX3_sees_X3_checkWeaver
set_option maxRecDepth 20000 in
theorem ggX3_sees_X3_checkCell : GoodIn wsX3_sees wsX3_checkCell := goodIn_ca (goodIn_r _ [13, 6, 7, 4, 8, 9, 10] (by decide +kernel) (by decide +kernel)) (goodIn_sub (fun _ h => List.mem_cons_of_mem _ (List.mem_append_right _ h)) (by decide +kernel))
set_option maxRecDepth 20000 in
theorem gX3_sees_X3_checkCell : GoodIn wsX3_sees (va_wsS RX3 19 yX3_checkCell wsX3_checkCell) := goodIn_app (goodIn_of _ (by decide +kernel)) ggX3_sees_X3_checkCell
set_option maxRecDepth 20000 in
theorem ggX3_sees_X3_sideOf : GoodIn wsX3_sees wsX3_sideOf := goodIn_r _ [16] (by decide +kernel) (by decide +kernel)
set_option maxRecDepth 20000 in
theorem gX3_sees_X3_sideOf : GoodIn wsX3_sees (va_wsS RX3 102 yX3_sideOf wsX3_sideOf) := goodIn_app (goodIn_of _ (by decide +kernel)) ggX3_sees_X3_sideOf
set_option maxRecDepth 20000 in
theorem ggX3_sees_X1_weaverAt : GoodIn wsX3_sees wsX1_weaverAt := goodIn_r _ [21, 22, 23, 50, 51, 52, 53, 54] (by decide +kernel) (by decide +kernel)
set_option maxRecDepth 20000 in
theorem gX3_sees_X1_weaverAt : GoodIn wsX3_sees (wsV RX3 57 RX1 yX1_weaverAt wsX1_weaverAt) := goodIn_app (goodIn_of _ (by decide +kernel)) ggX3_sees_X1_weaverAt
set_option maxRecDepth 20000 in
theorem ggX3_sees_X2_rowsDone : GoodIn wsX3_sees wsX2_rowsDone := goodIn_r _ [28, 29, 55, 56, 57, 58, 59, 60, 61, 62, 63] (by decide +kernel) (by decide +kernel)
set_option maxRecDepth 20000 in
theorem gX3_sees_X2_rowsDone : GoodIn wsX3_sees (wsV RX3 106 RX2 yX2_rowsDone wsX2_rowsDone) := goodIn_app (goodIn_of _ (by decide +kernel)) ggX3_sees_X2_rowsDone
set_option maxRecDepth 20000 in
theorem ggX3_sees_X1_knotAt : GoodIn wsX3_sees wsX1_knotAt := goodIn_r _ [33, 34, 35, 36, 20, 37, 15, 4, 16, 38, 18, 19, 21, 22, 23, 39, 40, 41, 42, 43, 27, 44, 29, 45, 46, 47, 50, 51, 52, 53, 54, 55, 56, 57, 58, 59, 60, 61, 62, 63] (by decide +kernel) (by decide +kernel)
set_option maxRecDepth 20000 in
theorem gX3_sees_X1_knotAt : GoodIn wsX3_sees (wsV RX3 96 RX1 yX1_knotAt wsX1_knotAt) := goodIn_app (goodIn_of _ (by decide +kernel)) ggX3_sees_X1_knotAt
theorem dX3_sees_0 : decode cX3_sees 0 = .ok (.iload_n 1, 1) := by decide +kernel
theorem dX3_sees_1 : decode cX3_sees 1 = .ok (.invokestatic 54, 3) := by decide +kernel
theorem dX3_sees_4 : decode cX3_sees 4 = .ok (.iload_n 2, 1) := by decide +kernel
theorem dX3_sees_5 : decode cX3_sees 5 = .ok (.iload_n 3, 1) := by decide +kernel
theorem dX3_sees_6 : decode cX3_sees 6 = .ok (.invokestatic 19, 3) := by decide +kernel
theorem dX3_sees_9 : decode cX3_sees 9 = .ok (.iload_n 1, 1) := by decide +kernel
theorem dX3_sees_10 : decode cX3_sees 10 = .ok (.iload_n 2, 1) := by decide +kernel
theorem dX3_sees_11 : decode cX3_sees 11 = .ok (.invokestatic 102, 3) := by decide +kernel
theorem dX3_sees_14 : decode cX3_sees 14 = .ok (.if_icmp .ne 7, 3) := by decide +kernel
theorem dX3_sees_17 : decode cX3_sees 17 = .ok (.iconst 1, 1) := by decide +kernel
theorem dX3_sees_18 : decode cX3_sees 18 = .ok (.goto 4, 3) := by decide +kernel
theorem dX3_sees_21 : decode cX3_sees 21 = .ok (.iconst 0, 1) := by decide +kernel
theorem dX3_sees_22 : decode cX3_sees 22 = .ok (.istore 4, 2) := by decide +kernel
theorem dX3_sees_24 : decode cX3_sees 24 = .ok (.iload_n 2, 1) := by decide +kernel
theorem dX3_sees_25 : decode cX3_sees 25 = .ok (.iconst 5, 1) := by decide +kernel
theorem dX3_sees_26 : decode cX3_sees 26 = .ok (.if_icmp .eq 9, 3) := by decide +kernel
theorem dX3_sees_29 : decode cX3_sees 29 = .ok (.iload_n 2, 1) := by decide +kernel
theorem dX3_sees_30 : decode cX3_sees 30 = .ok (.bipush 6, 2) := by decide +kernel
theorem dX3_sees_32 : decode cX3_sees 32 = .ok (.if_icmp .ne 7, 3) := by decide +kernel
theorem dX3_sees_35 : decode cX3_sees 35 = .ok (.iconst 1, 1) := by decide +kernel
theorem dX3_sees_36 : decode cX3_sees 36 = .ok (.goto 4, 3) := by decide +kernel
theorem dX3_sees_39 : decode cX3_sees 39 = .ok (.iconst 0, 1) := by decide +kernel
theorem dX3_sees_40 : decode cX3_sees 40 = .ok (.istore 5, 2) := by decide +kernel
theorem dX3_sees_42 : decode cX3_sees 42 = .ok (.iload 4, 2) := by decide +kernel
theorem dX3_sees_44 : decode cX3_sees 44 = .ok (.ifCond .ne 23, 3) := by decide +kernel
theorem dX3_sees_47 : decode cX3_sees 47 = .ok (.iload 5, 2) := by decide +kernel
theorem dX3_sees_49 : decode cX3_sees 49 = .ok (.ifCond .eq 28, 3) := by decide +kernel
theorem dX3_sees_52 : decode cX3_sees 52 = .ok (.aload_n 0, 1) := by decide +kernel
theorem dX3_sees_53 : decode cX3_sees 53 = .ok (.getfield 10, 3) := by decide +kernel
theorem dX3_sees_56 : decode cX3_sees 56 = .ok (.iload_n 1, 1) := by decide +kernel
theorem dX3_sees_57 : decode cX3_sees 57 = .ok (.invokevirtual 57, 3) := by decide +kernel
theorem dX3_sees_60 : decode cX3_sees 60 = .ok (.invokevirtual 106, 3) := by decide +kernel
theorem dX3_sees_63 : decode cX3_sees 63 = .ok (.iload_n 3, 1) := by decide +kernel
theorem dX3_sees_64 : decode cX3_sees 64 = .ok (.if_icmp .le 13, 3) := by decide +kernel
theorem dX3_sees_67 : decode cX3_sees 67 = .ok (.aload_n 0, 1) := by decide +kernel
theorem dX3_sees_68 : decode cX3_sees 68 = .ok (.getfield 10, 3) := by decide +kernel
theorem dX3_sees_71 : decode cX3_sees 71 = .ok (.iload_n 2, 1) := by decide +kernel
theorem dX3_sees_72 : decode cX3_sees 72 = .ok (.iload_n 3, 1) := by decide +kernel
theorem dX3_sees_73 : decode cX3_sees 73 = .ok (.invokevirtual 96, 3) := by decide +kernel
theorem dX3_sees_76 : decode cX3_sees 76 = .ok (.ireturn, 1) := by decide +kernel
theorem dX3_sees_77 : decode cX3_sees 77 = .ok (.bipush (-2), 2) := by decide +kernel
theorem dX3_sees_79 : decode cX3_sees 79 = .ok (.ireturn, 1) := by decide +kernel
set_option maxRecDepth 20000 in
theorem ggX3_weaver_X3_checkWeaver : GoodIn wsX3_weaver wsX3_checkWeaver := goodIn_ca (goodIn_r _ [5, 6, 7, 4, 8, 9, 10] (by decide +kernel) (by decide +kernel)) (goodIn_sub (fun _ h => List.mem_cons_of_mem _ (List.mem_append_right _ h)) (by decide +kernel))
set_option maxRecDepth 20000 in
theorem gX3_weaver_X3_checkWeaver : GoodIn wsX3_weaver (va_wsS RX3 54 yX3_checkWeaver wsX3_checkWeaver) := goodIn_app (goodIn_of _ (by decide +kernel)) ggX3_weaver_X3_checkWeaver
set_option maxRecDepth 20000 in
theorem ggX3_weaver_X3_checkIndex : GoodIn wsX3_weaver wsX3_checkIndex := goodIn_ca (goodIn_r _ [8, 9, 10] (by decide +kernel) (by decide +kernel)) (goodIn_sub (fun _ h => List.mem_cons_of_mem _ (List.mem_append_right _ h)) (by decide +kernel))
set_option maxRecDepth 20000 in
theorem gX3_weaver_X3_checkIndex : GoodIn wsX3_weaver (va_wsS RX3 93 yX3_checkIndex wsX3_checkIndex) := goodIn_app (goodIn_of _ (by decide +kernel)) ggX3_weaver_X3_checkIndex
set_option maxRecDepth 20000 in
theorem ggX3_weaver_X1_weaverAt : GoodIn wsX3_weaver wsX1_weaverAt := goodIn_r _ [15, 16, 17, 45, 46, 47, 48, 49] (by decide +kernel) (by decide +kernel)
set_option maxRecDepth 20000 in
theorem gX3_weaver_X1_weaverAt : GoodIn wsX3_weaver (wsV RX3 57 RX1 yX1_weaverAt wsX1_weaverAt) := goodIn_app (goodIn_of _ (by decide +kernel)) ggX3_weaver_X1_weaverAt
set_option maxRecDepth 20000 in
theorem ggX3_weaver_X2_number : GoodIn wsX3_weaver wsX2_number := goodIn_r _ [22, 23, 24, 25, 26, 27, 28, 29, 21, 30, 31, 32, 4, 33, 34, 35, 36, 37, 38, 39, 40, 41, 42, 50, 51, 52, 53, 54, 55, 56, 57, 58] (by decide +kernel) (by decide +kernel)
set_option maxRecDepth 20000 in
theorem gX3_weaver_X2_number : GoodIn wsX3_weaver (wsV RX3 109 RX2 yX2_number wsX2_number) := goodIn_app (goodIn_of _ (by decide +kernel)) ggX3_weaver_X2_number
theorem dX3_weaver_0 : decode cX3_weaver 0 = .ok (.iload_n 1, 1) := by decide +kernel
theorem dX3_weaver_1 : decode cX3_weaver 1 = .ok (.invokestatic 54, 3) := by decide +kernel
theorem dX3_weaver_4 : decode cX3_weaver 4 = .ok (.iload_n 2, 1) := by decide +kernel
theorem dX3_weaver_5 : decode cX3_weaver 5 = .ok (.bipush 7, 2) := by decide +kernel
theorem dX3_weaver_7 : decode cX3_weaver 7 = .ok (.invokestatic 93, 3) := by decide +kernel
theorem dX3_weaver_10 : decode cX3_weaver 10 = .ok (.aload_n 0, 1) := by decide +kernel
theorem dX3_weaver_11 : decode cX3_weaver 11 = .ok (.getfield 10, 3) := by decide +kernel
theorem dX3_weaver_14 : decode cX3_weaver 14 = .ok (.iload_n 1, 1) := by decide +kernel
theorem dX3_weaver_15 : decode cX3_weaver 15 = .ok (.invokevirtual 57, 3) := by decide +kernel
theorem dX3_weaver_18 : decode cX3_weaver 18 = .ok (.iload_n 2, 1) := by decide +kernel
theorem dX3_weaver_19 : decode cX3_weaver 19 = .ok (.invokevirtual 109, 3) := by decide +kernel
theorem dX3_weaver_22 : decode cX3_weaver 22 = .ok (.ireturn, 1) := by decide +kernel
set_option maxRecDepth 20000 in
theorem ggX3_run_X3_checkWeaver : GoodIn wsX3_run wsX3_checkWeaver := goodIn_ca (goodIn_r _ [5, 6, 7, 4, 8, 9, 10] (by decide +kernel) (by decide +kernel)) (goodIn_sub (fun _ h => List.mem_cons_of_mem _ (List.mem_append_right _ h)) (by decide +kernel))
set_option maxRecDepth 20000 in
theorem gX3_run_X3_checkWeaver : GoodIn wsX3_run (va_wsS RX3 54 yX3_checkWeaver wsX3_checkWeaver) := goodIn_app (goodIn_of _ (by decide +kernel)) ggX3_run_X3_checkWeaver
set_option maxRecDepth 20000 in
theorem ggX3_run_X1_weaverAt : GoodIn wsX3_run wsX1_weaverAt := goodIn_r _ [15, 16, 17, 32, 33, 34, 35, 36] (by decide +kernel) (by decide +kernel)
set_option maxRecDepth 20000 in
theorem gX3_run_X1_weaverAt : GoodIn wsX3_run (wsV RX3 57 RX1 yX1_weaverAt wsX1_weaverAt) := goodIn_app (goodIn_of _ (by decide +kernel)) ggX3_run_X1_weaverAt
set_option maxRecDepth 20000 in
theorem ggX3_run_X3_checkIndex : GoodIn wsX3_run wsX3_checkIndex := goodIn_ca (goodIn_r _ [8, 9, 10] (by decide +kernel) (by decide +kernel)) (goodIn_sub (fun _ h => List.mem_cons_of_mem _ (List.mem_append_right _ h)) (by decide +kernel))
set_option maxRecDepth 20000 in
theorem gX3_run_X3_checkIndex : GoodIn wsX3_run (va_wsS RX3 93 yX3_checkIndex wsX3_checkIndex) := goodIn_app (goodIn_of _ (by decide +kernel)) ggX3_run_X3_checkIndex
set_option maxRecDepth 20000 in
theorem ggX3_run_X3_at : GoodIn wsX3_run wsX3_at := goodIn_r _ [20] (by decide +kernel) (by decide +kernel)
set_option maxRecDepth 20000 in
theorem gX3_run_X3_at : GoodIn wsX3_run (va_wsS RX3 116 yX3_at wsX3_at) := goodIn_app (goodIn_of _ (by decide +kernel)) ggX3_run_X3_at
theorem dX3_run_0 : decode cX3_run 0 = .ok (.iload_n 1, 1) := by decide +kernel
theorem dX3_run_1 : decode cX3_run 1 = .ok (.invokestatic 54, 3) := by decide +kernel
theorem dX3_run_4 : decode cX3_run 4 = .ok (.aload_n 0, 1) := by decide +kernel
theorem dX3_run_5 : decode cX3_run 5 = .ok (.getfield 10, 3) := by decide +kernel
theorem dX3_run_8 : decode cX3_run 8 = .ok (.iload_n 1, 1) := by decide +kernel
theorem dX3_run_9 : decode cX3_run 9 = .ok (.invokevirtual 57, 3) := by decide +kernel
theorem dX3_run_12 : decode cX3_run 12 = .ok (.astore 4, 2) := by decide +kernel
theorem dX3_run_14 : decode cX3_run 14 = .ok (.iload_n 2, 1) := by decide +kernel
theorem dX3_run_15 : decode cX3_run 15 = .ok (.aload 4, 2) := by decide +kernel
theorem dX3_run_17 : decode cX3_run 17 = .ok (.getfield 64, 3) := by decide +kernel
theorem dX3_run_20 : decode cX3_run 20 = .ok (.invokestatic 93, 3) := by decide +kernel
theorem dX3_run_23 : decode cX3_run 23 = .ok (.iload_n 3, 1) := by decide +kernel
theorem dX3_run_24 : decode cX3_run 24 = .ok (.iconst 2, 1) := by decide +kernel
theorem dX3_run_25 : decode cX3_run 25 = .ok (.invokestatic 93, 3) := by decide +kernel
theorem dX3_run_28 : decode cX3_run 28 = .ok (.iload_n 3, 1) := by decide +kernel
theorem dX3_run_29 : decode cX3_run 29 = .ok (.ifCond .ne 15, 3) := by decide +kernel
theorem dX3_run_32 : decode cX3_run 32 = .ok (.aload 4, 2) := by decide +kernel
theorem dX3_run_34 : decode cX3_run 34 = .ok (.getfield 112, 3) := by decide +kernel
theorem dX3_run_37 : decode cX3_run 37 = .ok (.iload_n 2, 1) := by decide +kernel
theorem dX3_run_38 : decode cX3_run 38 = .ok (.invokestatic 116, 3) := by decide +kernel
theorem dX3_run_41 : decode cX3_run 41 = .ok (.goto 12, 3) := by decide +kernel
theorem dX3_run_44 : decode cX3_run 44 = .ok (.aload 4, 2) := by decide +kernel
theorem dX3_run_46 : decode cX3_run 46 = .ok (.getfield 120, 3) := by decide +kernel
theorem dX3_run_49 : decode cX3_run 49 = .ok (.iload_n 2, 1) := by decide +kernel
theorem dX3_run_50 : decode cX3_run 50 = .ok (.invokestatic 116, 3) := by decide +kernel
theorem dX3_run_53 : decode cX3_run 53 = .ok (.ireturn, 1) := by decide +kernel
set_option maxRecDepth 20000 in
theorem ggX3_count_X3_checkIndex : GoodIn wsX3_count wsX3_checkIndex := goodIn_ca (goodIn_r _ [5, 6, 7] (by decide +kernel) (by decide +kernel)) (goodIn_sub (fun _ h => List.mem_cons_of_mem _ (List.mem_append_right _ h)) (by decide +kernel))
set_option maxRecDepth 20000 in
theorem gX3_count_X3_checkIndex : GoodIn wsX3_count (va_wsS RX3 93 yX3_checkIndex wsX3_checkIndex) := goodIn_app (goodIn_of _ (by decide +kernel)) ggX3_count_X3_checkIndex
set_option maxRecDepth 20000 in
theorem ggX3_count_X1_number : GoodIn wsX3_count wsX1_number := goodIn_r _ [12, 13, 14, 15, 16, 17, 18, 11, 19, 20, 21, 22, 23, 24, 25, 26, 27, 28, 29, 30, 31, 32, 33, 34, 4, 35, 36, 37, 38, 39, 40, 41, 42, 43, 44, 45, 46, 47, 48, 49, 50, 51, 52, 53, 54, 55, 56, 57, 58, 59, 60, 61, 62, 63, 66, 67, 68, 69, 70, 71, 72, 73, 74, 75, 76, 77, 78, 79, 80] (by decide +kernel) (by decide +kernel)
set_option maxRecDepth 20000 in
theorem gX3_count_X1_number : GoodIn wsX3_count (wsV RX3 123 RX1 yX1_number wsX1_number) := goodIn_app (goodIn_of _ (by decide +kernel)) ggX3_count_X1_number
theorem dX3_count_0 : decode cX3_count 0 = .ok (.iload_n 1, 1) := by decide +kernel
theorem dX3_count_1 : decode cX3_count 1 = .ok (.bipush 8, 2) := by decide +kernel
theorem dX3_count_3 : decode cX3_count 3 = .ok (.invokestatic 93, 3) := by decide +kernel
theorem dX3_count_6 : decode cX3_count 6 = .ok (.aload_n 0, 1) := by decide +kernel
theorem dX3_count_7 : decode cX3_count 7 = .ok (.getfield 10, 3) := by decide +kernel
theorem dX3_count_10 : decode cX3_count 10 = .ok (.iload_n 1, 1) := by decide +kernel
theorem dX3_count_11 : decode cX3_count 11 = .ok (.invokevirtual 123, 3) := by decide +kernel
theorem dX3_count_14 : decode cX3_count 14 = .ok (.ireturn, 1) := by decide +kernel
set_option maxRecDepth 20000 in
theorem ggX3_wool_X3_checkColour : GoodIn wsX3_wool wsX3_checkColour := goodIn_ca (goodIn_r _ [5, 6, 7, 4, 8, 9, 10] (by decide +kernel) (by decide +kernel)) (goodIn_sub (fun _ h => List.mem_cons_of_mem _ (List.mem_append_right _ h)) (by decide +kernel))
set_option maxRecDepth 20000 in
theorem gX3_wool_X3_checkColour : GoodIn wsX3_wool (va_wsS RX3 27 yX3_checkColour wsX3_checkColour) := goodIn_app (goodIn_of _ (by decide +kernel)) ggX3_wool_X3_checkColour
set_option maxRecDepth 20000 in
theorem ggX3_wool_X3_at : GoodIn wsX3_wool wsX3_at := goodIn_r _ [13] (by decide +kernel) (by decide +kernel)
set_option maxRecDepth 20000 in
theorem gX3_wool_X3_at : GoodIn wsX3_wool (va_wsS RX3 116 yX3_at wsX3_at) := goodIn_app (goodIn_of _ (by decide +kernel)) ggX3_wool_X3_at
theorem dX3_wool_0 : decode cX3_wool 0 = .ok (.iload_n 1, 1) := by decide +kernel
theorem dX3_wool_1 : decode cX3_wool 1 = .ok (.invokestatic 27, 3) := by decide +kernel
theorem dX3_wool_4 : decode cX3_wool 4 = .ok (.aload_n 0, 1) := by decide +kernel
theorem dX3_wool_5 : decode cX3_wool 5 = .ok (.getfield 10, 3) := by decide +kernel
theorem dX3_wool_8 : decode cX3_wool 8 = .ok (.getfield 45, 3) := by decide +kernel
theorem dX3_wool_11 : decode cX3_wool 11 = .ok (.getfield 124, 3) := by decide +kernel
theorem dX3_wool_14 : decode cX3_wool 14 = .ok (.iload_n 1, 1) := by decide +kernel
theorem dX3_wool_15 : decode cX3_wool 15 = .ok (.invokestatic 116, 3) := by decide +kernel
theorem dX3_wool_18 : decode cX3_wool 18 = .ok (.ireturn, 1) := by decide +kernel
set_option maxRecDepth 20000 in
theorem ggX3_advise_X3_checkWeaver : GoodIn wsX3_advise wsX3_checkWeaver := goodIn_ca (goodIn_r _ [5, 6, 7, 4, 8, 9, 10] (by decide +kernel) (by decide +kernel)) (goodIn_sub (fun _ h => List.mem_cons_of_mem _ (List.mem_append_right _ h)) (by decide +kernel))
set_option maxRecDepth 20000 in
theorem gX3_advise_X3_checkWeaver : GoodIn wsX3_advise (va_wsS RX3 54 yX3_checkWeaver wsX3_checkWeaver) := goodIn_app (goodIn_of _ (by decide +kernel)) ggX3_advise_X3_checkWeaver
set_option maxRecDepth 20000 in
theorem ggX3_advise_X1_weaverAt : GoodIn wsX3_advise wsX1_weaverAt := goodIn_r _ [15, 16, 17, 43, 44, 45, 46, 47] (by decide +kernel) (by decide +kernel)
set_option maxRecDepth 20000 in
theorem gX3_advise_X1_weaverAt : GoodIn wsX3_advise (wsV RX3 57 RX1 yX1_weaverAt wsX1_weaverAt) := goodIn_app (goodIn_of _ (by decide +kernel)) ggX3_advise_X1_weaverAt
set_option maxRecDepth 20000 in
theorem ggX3_advise_X2_isHalfDone : GoodIn wsX3_advise wsX2_isHalfDone := goodIn_r _ [22, 23, 34, 35, 36, 37, 38, 39, 40, 41, 42] (by decide +kernel) (by decide +kernel)
set_option maxRecDepth 20000 in
theorem gX3_advise_X2_isHalfDone : GoodIn wsX3_advise (wsV RX3 127 RX2 yX2_isHalfDone wsX2_isHalfDone) := goodIn_app (goodIn_of _ (by decide +kernel)) ggX3_advise_X2_isHalfDone
set_option maxRecDepth 20000 in
theorem ggX3_advise_X3_at : GoodIn wsX3_advise wsX3_at := goodIn_r _ [26] (by decide +kernel) (by decide +kernel)
set_option maxRecDepth 20000 in
theorem gX3_advise_X3_at : GoodIn wsX3_advise (va_wsS RX3 116 yX3_at wsX3_at) := goodIn_app (goodIn_of _ (by decide +kernel)) ggX3_advise_X3_at
set_option maxRecDepth 20000 in
theorem ggX3_advise_X2_alikeAhead : GoodIn wsX3_advise wsX2_alikeAhead := goodIn_r _ [30, 23, 31, 25, 4, 26, 34, 35, 36, 37, 38, 39, 40, 41, 42] (by decide +kernel) (by decide +kernel)
set_option maxRecDepth 20000 in
theorem gX3_advise_X2_alikeAhead : GoodIn wsX3_advise (wsV RX3 134 RX2 yX2_alikeAhead wsX2_alikeAhead) := goodIn_app (goodIn_of _ (by decide +kernel)) ggX3_advise_X2_alikeAhead
theorem dX3_advise_0 : decode cX3_advise 0 = .ok (.iload_n 1, 1) := by decide +kernel
theorem dX3_advise_1 : decode cX3_advise 1 = .ok (.invokestatic 54, 3) := by decide +kernel
theorem dX3_advise_4 : decode cX3_advise 4 = .ok (.aload_n 0, 1) := by decide +kernel
theorem dX3_advise_5 : decode cX3_advise 5 = .ok (.getfield 10, 3) := by decide +kernel
theorem dX3_advise_8 : decode cX3_advise 8 = .ok (.iload_n 1, 1) := by decide +kernel
theorem dX3_advise_9 : decode cX3_advise 9 = .ok (.invokevirtual 57, 3) := by decide +kernel
theorem dX3_advise_12 : decode cX3_advise 12 = .ok (.astore_n 2, 1) := by decide +kernel
theorem dX3_advise_13 : decode cX3_advise 13 = .ok (.aload_n 2, 1) := by decide +kernel
theorem dX3_advise_14 : decode cX3_advise 14 = .ok (.invokevirtual 127, 3) := by decide +kernel
theorem dX3_advise_17 : decode cX3_advise 17 = .ok (.ifCond .eq 5, 3) := by decide +kernel
theorem dX3_advise_20 : decode cX3_advise 20 = .ok (.iconst (-1), 1) := by decide +kernel
theorem dX3_advise_21 : decode cX3_advise 21 = .ok (.ireturn, 1) := by decide +kernel
theorem dX3_advise_22 : decode cX3_advise 22 = .ok (.bipush 100, 2) := by decide +kernel
theorem dX3_advise_24 : decode cX3_advise 24 = .ok (.aload_n 2, 1) := by decide +kernel
theorem dX3_advise_25 : decode cX3_advise 25 = .ok (.getfield 131, 3) := by decide +kernel
theorem dX3_advise_28 : decode cX3_advise 28 = .ok (.aload_n 2, 1) := by decide +kernel
theorem dX3_advise_29 : decode cX3_advise 29 = .ok (.getfield 81, 3) := by decide +kernel
theorem dX3_advise_32 : decode cX3_advise 32 = .ok (.invokestatic 116, 3) := by decide +kernel
theorem dX3_advise_35 : decode cX3_advise 35 = .ok (.imul, 1) := by decide +kernel
theorem dX3_advise_36 : decode cX3_advise 36 = .ok (.aload_n 2, 1) := by decide +kernel
theorem dX3_advise_37 : decode cX3_advise 37 = .ok (.invokevirtual 134, 3) := by decide +kernel
theorem dX3_advise_40 : decode cX3_advise 40 = .ok (.iadd, 1) := by decide +kernel
theorem dX3_advise_41 : decode cX3_advise 41 = .ok (.ireturn, 1) := by decide +kernel
set_option maxRecDepth 20000 in
theorem ggX3_runs_X3_checkWeaver : GoodIn wsX3_runs wsX3_checkWeaver := goodIn_ca (goodIn_r _ [5, 6, 7, 4, 8, 9, 10] (by decide +kernel) (by decide +kernel)) (goodIn_sub (fun _ h => List.mem_cons_of_mem _ (List.mem_append_right _ h)) (by decide +kernel))
set_option maxRecDepth 20000 in
theorem gX3_runs_X3_checkWeaver : GoodIn wsX3_runs (va_wsS RX3 54 yX3_checkWeaver wsX3_checkWeaver) := goodIn_app (goodIn_of _ (by decide +kernel)) ggX3_runs_X3_checkWeaver
set_option maxRecDepth 20000 in
theorem ggX3_runs_X1_weaverAt : GoodIn wsX3_runs wsX1_weaverAt := goodIn_r _ [15, 16, 17, 33, 34, 35, 36, 37] (by decide +kernel) (by decide +kernel)
set_option maxRecDepth 20000 in
theorem gX3_runs_X1_weaverAt : GoodIn wsX3_runs (wsV RX3 57 RX1 yX1_weaverAt wsX1_weaverAt) := goodIn_app (goodIn_of _ (by decide +kernel)) ggX3_runs_X1_weaverAt
set_option maxRecDepth 20000 in
theorem ggX3_runs_X2_fewestRuns : GoodIn wsX3_runs wsX2_fewestRuns := goodIn_r _ [22, 23, 24, 25, 26, 27, 21, 28, 29, 4, 30, 38, 39, 40, 41, 42, 43, 44, 45, 46] (by decide +kernel) (by decide +kernel)
set_option maxRecDepth 20000 in
theorem gX3_runs_X2_fewestRuns : GoodIn wsX3_runs (wsV RX3 137 RX2 yX2_fewestRuns wsX2_fewestRuns) := goodIn_app (goodIn_of _ (by decide +kernel)) ggX3_runs_X2_fewestRuns
theorem dX3_runs_0 : decode cX3_runs 0 = .ok (.iload_n 1, 1) := by decide +kernel
theorem dX3_runs_1 : decode cX3_runs 1 = .ok (.invokestatic 54, 3) := by decide +kernel
theorem dX3_runs_4 : decode cX3_runs 4 = .ok (.aload_n 0, 1) := by decide +kernel
theorem dX3_runs_5 : decode cX3_runs 5 = .ok (.getfield 10, 3) := by decide +kernel
theorem dX3_runs_8 : decode cX3_runs 8 = .ok (.iload_n 1, 1) := by decide +kernel
theorem dX3_runs_9 : decode cX3_runs 9 = .ok (.invokevirtual 57, 3) := by decide +kernel
theorem dX3_runs_12 : decode cX3_runs 12 = .ok (.invokevirtual 137, 3) := by decide +kernel
theorem dX3_runs_15 : decode cX3_runs 15 = .ok (.ireturn, 1) := by decide +kernel
set_option maxRecDepth 20000 in
theorem ggX3_mends_X3_checkWeaver : GoodIn wsX3_mends wsX3_checkWeaver := goodIn_ca (goodIn_r _ [5, 6, 7, 4, 8, 9, 10] (by decide +kernel) (by decide +kernel)) (goodIn_sub (fun _ h => List.mem_cons_of_mem _ (List.mem_append_right _ h)) (by decide +kernel))
set_option maxRecDepth 20000 in
theorem gX3_mends_X3_checkWeaver : GoodIn wsX3_mends (va_wsS RX3 54 yX3_checkWeaver wsX3_checkWeaver) := goodIn_app (goodIn_of _ (by decide +kernel)) ggX3_mends_X3_checkWeaver
set_option maxRecDepth 20000 in
theorem ggX3_mends_X1_weaverAt : GoodIn wsX3_mends wsX1_weaverAt := goodIn_r _ [15, 16, 17, 39, 40, 41, 42, 43] (by decide +kernel) (by decide +kernel)
set_option maxRecDepth 20000 in
theorem gX3_mends_X1_weaverAt : GoodIn wsX3_mends (wsV RX3 57 RX1 yX1_weaverAt wsX1_weaverAt) := goodIn_app (goodIn_of _ (by decide +kernel)) ggX3_mends_X1_weaverAt
set_option maxRecDepth 20000 in
theorem ggX3_mends_X2_firstOffPlan : GoodIn wsX3_mends wsX2_firstOffPlan := goodIn_r _ [22, 23, 24, 25, 26, 4, 27, 30, 31, 32, 33, 34, 35, 36, 37, 38] (by decide +kernel) (by decide +kernel)
set_option maxRecDepth 20000 in
theorem gX3_mends_X2_firstOffPlan : GoodIn wsX3_mends (wsV RX3 140 RX2 yX2_firstOffPlan wsX2_firstOffPlan) := goodIn_app (goodIn_of _ (by decide +kernel)) ggX3_mends_X2_firstOffPlan
theorem dX3_mends_0 : decode cX3_mends 0 = .ok (.iload_n 1, 1) := by decide +kernel
theorem dX3_mends_1 : decode cX3_mends 1 = .ok (.invokestatic 54, 3) := by decide +kernel
theorem dX3_mends_4 : decode cX3_mends 4 = .ok (.aload_n 0, 1) := by decide +kernel
theorem dX3_mends_5 : decode cX3_mends 5 = .ok (.getfield 10, 3) := by decide +kernel
theorem dX3_mends_8 : decode cX3_mends 8 = .ok (.iload_n 1, 1) := by decide +kernel
theorem dX3_mends_9 : decode cX3_mends 9 = .ok (.invokevirtual 57, 3) := by decide +kernel
theorem dX3_mends_12 : decode cX3_mends 12 = .ok (.astore_n 2, 1) := by decide +kernel
theorem dX3_mends_13 : decode cX3_mends 13 = .ok (.aload_n 2, 1) := by decide +kernel
theorem dX3_mends_14 : decode cX3_mends 14 = .ok (.getfield 81, 3) := by decide +kernel
theorem dX3_mends_17 : decode cX3_mends 17 = .ok (.aload_n 2, 1) := by decide +kernel
theorem dX3_mends_18 : decode cX3_mends 18 = .ok (.invokevirtual 140, 3) := by decide +kernel
theorem dX3_mends_21 : decode cX3_mends 21 = .ok (.isub, 1) := by decide +kernel
theorem dX3_mends_22 : decode cX3_mends 22 = .ok (.ireturn, 1) := by decide +kernel
set_option maxRecDepth 20000 in
theorem ggX3_pass_X3_checkRange : GoodIn wsX3_pass wsX3_checkRange := goodIn_ca (goodIn_r _ [5, 6, 7] (by decide +kernel) (by decide +kernel)) (goodIn_sub (fun _ h => List.mem_cons_of_mem _ (List.mem_append_right _ h)) (by decide +kernel))
set_option maxRecDepth 20000 in
theorem gX3_pass_X3_checkRange : GoodIn wsX3_pass (va_wsS RX3 23 yX3_checkRange wsX3_checkRange) := goodIn_app (goodIn_of _ (by decide +kernel)) ggX3_pass_X3_checkRange
set_option maxRecDepth 20000 in
theorem ggX3_pass_X1_letGoBy : GoodIn wsX3_pass wsX1_letGoBy := goodIn_r _ [12, 13, 14, 15, 16, 17, 18, 19, 20, 21, 22, 23, 24, 25, 26, 27, 28, 29, 30, 31, 32, 33, 34, 35, 36, 37, 38, 39, 40, 4, 41, 42, 43, 44, 45, 46, 47, 48, 49, 50, 51, 52, 53, 54, 57, 58, 59, 60, 61, 62, 63, 64, 65, 66, 67, 68, 69, 70, 71] (by decide +kernel) (by decide +kernel)
set_option maxRecDepth 20000 in
theorem gX3_pass_X1_letGoBy : GoodIn wsX3_pass (wsV RX3 143 RX1 yX1_letGoBy wsX1_letGoBy) := goodIn_app (goodIn_of _ (by decide +kernel)) ggX3_pass_X1_letGoBy
theorem dX3_pass_0 : decode cX3_pass 0 = .ok (.iload_n 1, 1) := by decide +kernel
theorem dX3_pass_1 : decode cX3_pass 1 = .ok (.iconst 1, 1) := by decide +kernel
theorem dX3_pass_2 : decode cX3_pass 2 = .ok (.bipush 60, 2) := by decide +kernel
theorem dX3_pass_4 : decode cX3_pass 4 = .ok (.invokestatic 23, 3) := by decide +kernel
theorem dX3_pass_7 : decode cX3_pass 7 = .ok (.aload_n 0, 1) := by decide +kernel
theorem dX3_pass_8 : decode cX3_pass 8 = .ok (.getfield 10, 3) := by decide +kernel
theorem dX3_pass_11 : decode cX3_pass 11 = .ok (.iload_n 1, 1) := by decide +kernel
theorem dX3_pass_12 : decode cX3_pass 12 = .ok (.invokevirtual 143, 3) := by decide +kernel
theorem dX3_pass_15 : decode cX3_pass 15 = .ok (.ireturn, 1) := by decide +kernel
set_option maxRecDepth 20000 in
theorem ggX3_done_X3_checkWeaver : GoodIn wsX3_done wsX3_checkWeaver := goodIn_ca (goodIn_r _ [6, 7, 8, 5, 9, 10, 11] (by decide +kernel) (by decide +kernel)) (goodIn_sub (fun _ h => List.mem_cons_of_mem _ (List.mem_append_right _ h)) (by decide +kernel))
set_option maxRecDepth 20000 in
theorem gX3_done_X3_checkWeaver : GoodIn wsX3_done (va_wsS RX3 54 yX3_checkWeaver wsX3_checkWeaver) := goodIn_app (goodIn_of _ (by decide +kernel)) ggX3_done_X3_checkWeaver
set_option maxRecDepth 20000 in
theorem ggX3_done_X1_becomeLike : GoodIn wsX3_done wsX1_becomeLike := goodIn_r _ [16, 17, 18, 19, 20, 21, 22, 23, 24, 25, 26, 27, 28, 29, 30, 31, 32, 33, 34, 35, 5, 36, 78, 79, 80, 81, 82, 83, 84, 85, 86, 87, 88, 89, 90, 91, 92] (by decide +kernel) (by decide +kernel)
set_option maxRecDepth 20000 in
theorem gX3_done_X1_becomeLike : GoodIn wsX3_done (wsV RX3 146 RX1 yX1_becomeLike wsX1_becomeLike) := goodIn_app (goodIn_of _ (by decide +kernel)) ggX3_done_X1_becomeLike
set_option maxRecDepth 20000 in
theorem ggX3_done_X1_weaverAt : GoodIn wsX3_done wsX1_weaverAt := goodIn_r _ [40, 17, 18, 78, 79, 80, 81, 82] (by decide +kernel) (by decide +kernel)
set_option maxRecDepth 20000 in
theorem gX3_done_X1_weaverAt : GoodIn wsX3_done (wsV RX3 57 RX1 yX1_weaverAt wsX1_weaverAt) := goodIn_app (goodIn_of _ (by decide +kernel)) ggX3_done_X1_weaverAt
set_option maxRecDepth 20000 in
theorem ggX3_done_X2_hasWork : GoodIn wsX3_done wsX2_hasWork := goodIn_r _ [44, 32, 45, 46, 47, 25, 48, 33, 84, 85, 86, 87, 88, 89, 90, 91, 92] (by decide +kernel) (by decide +kernel)
set_option maxRecDepth 20000 in
theorem gX3_done_X2_hasWork : GoodIn wsX3_done (wsV RX3 150 RX2 yX2_hasWork wsX2_hasWork) := goodIn_app (goodIn_of _ (by decide +kernel)) ggX3_done_X2_hasWork
set_option maxRecDepth 20000 in
theorem ggX3_done_X1_letGoBy : GoodIn wsX3_done wsX1_letGoBy := goodIn_r _ [52, 17, 19, 18, 20, 53, 54, 55, 25, 56, 31, 57, 42, 43, 44, 32, 45, 46, 47, 48, 33, 58, 59, 60, 61, 29, 28, 34, 62, 5, 63, 64, 65, 66, 67, 68, 69, 70, 71, 72, 73, 74, 75, 30, 78, 79, 80, 81, 82, 84, 85, 86, 87, 88, 89, 90, 91, 92, 83] (by decide +kernel) (by decide +kernel)
set_option maxRecDepth 20000 in
theorem gX3_done_X1_letGoBy : GoodIn wsX3_done (wsV RX3 143 RX1 yX1_letGoBy wsX1_letGoBy) := goodIn_app (goodIn_of _ (by decide +kernel)) ggX3_done_X1_letGoBy
theorem dX3_done_0 : decode cX3_done 0 = .ok (.iload_n 1, 1) := by decide +kernel
theorem dX3_done_1 : decode cX3_done 1 = .ok (.invokestatic 54, 3) := by decide +kernel
theorem dX3_done_4 : decode cX3_done 4 = .ok (.aload_n 0, 1) := by decide +kernel
theorem dX3_done_5 : decode cX3_done 5 = .ok (.getfield 16, 3) := by decide +kernel
theorem dX3_done_8 : decode cX3_done 8 = .ok (.aload_n 0, 1) := by decide +kernel
theorem dX3_done_9 : decode cX3_done 9 = .ok (.getfield 10, 3) := by decide +kernel
theorem dX3_done_12 : decode cX3_done 12 = .ok (.invokevirtual 146, 3) := by decide +kernel
theorem dX3_done_15 : decode cX3_done 15 = .ok (.aload_n 0, 1) := by decide +kernel
theorem dX3_done_16 : decode cX3_done 16 = .ok (.getfield 16, 3) := by decide +kernel
theorem dX3_done_19 : decode cX3_done 19 = .ok (.iload_n 1, 1) := by decide +kernel
theorem dX3_done_20 : decode cX3_done 20 = .ok (.invokevirtual 57, 3) := by decide +kernel
theorem dX3_done_23 : decode cX3_done 23 = .ok (.astore_n 2, 1) := by decide +kernel
theorem dX3_done_24 : decode cX3_done 24 = .ok (.iconst 0, 1) := by decide +kernel
theorem dX3_done_25 : decode cX3_done 25 = .ok (.istore_n 3, 1) := by decide +kernel
theorem dX3_done_26 : decode cX3_done 26 = .ok (.iload_n 3, 1) := by decide +kernel
theorem dX3_done_27 : decode cX3_done 27 = .ok (.bipush 100, 2) := by decide +kernel
theorem dX3_done_29 : decode cX3_done 29 = .ok (.if_icmp .gt 27, 3) := by decide +kernel
theorem dX3_done_32 : decode cX3_done 32 = .ok (.aload_n 2, 1) := by decide +kernel
theorem dX3_done_33 : decode cX3_done 33 = .ok (.invokevirtual 150, 3) := by decide +kernel
theorem dX3_done_36 : decode cX3_done 36 = .ok (.ifCond .ne 5, 3) := by decide +kernel
theorem dX3_done_39 : decode cX3_done 39 = .ok (.iload_n 3, 1) := by decide +kernel
theorem dX3_done_40 : decode cX3_done 40 = .ok (.ireturn, 1) := by decide +kernel
theorem dX3_done_41 : decode cX3_done 41 = .ok (.aload_n 0, 1) := by decide +kernel
theorem dX3_done_42 : decode cX3_done 42 = .ok (.getfield 16, 3) := by decide +kernel
theorem dX3_done_45 : decode cX3_done 45 = .ok (.iconst 1, 1) := by decide +kernel
theorem dX3_done_46 : decode cX3_done 46 = .ok (.invokevirtual 143, 3) := by decide +kernel
theorem dX3_done_49 : decode cX3_done 49 = .ok (.pop, 1) := by decide +kernel
theorem dX3_done_50 : decode cX3_done 50 = .ok (.iinc 3 1, 3) := by decide +kernel
theorem dX3_done_53 : decode cX3_done 53 = .ok (.goto (-27), 3) := by decide +kernel
theorem dX3_done_56 : decode cX3_done 56 = .ok (.iconst (-1), 1) := by decide +kernel
theorem dX3_done_57 : decode cX3_done 57 = .ok (.ireturn, 1) := by decide +kernel
set_option maxRecDepth 20000 in
theorem ggX3_foresee_X3_checkRange : GoodIn wsX3_foresee wsX3_checkRange := goodIn_ca (goodIn_r _ [6, 7, 8] (by decide +kernel) (by decide +kernel)) (goodIn_sub (fun _ h => List.mem_cons_of_mem _ (List.mem_append_left _ (List.mem_append_right _ h))) (by decide +kernel))
set_option maxRecDepth 20000 in
theorem gX3_foresee_X3_checkRange : GoodIn wsX3_foresee (va_wsS RX3 23 yX3_checkRange wsX3_checkRange) := goodIn_app (goodIn_of _ (by decide +kernel)) ggX3_foresee_X3_checkRange
set_option maxRecDepth 20000 in
theorem ggX3_foresee_X3_checkIndex : GoodIn wsX3_foresee wsX3_checkIndex := goodIn_ca (goodIn_r _ [11, 12, 13] (by decide +kernel) (by decide +kernel)) (goodIn_sub (fun _ h => List.mem_cons_of_mem _ (List.mem_append_right _ h)) (by decide +kernel))
set_option maxRecDepth 20000 in
theorem gX3_foresee_X3_checkIndex : GoodIn wsX3_foresee (va_wsS RX3 93 yX3_checkIndex wsX3_checkIndex) := goodIn_app (goodIn_of _ (by decide +kernel)) ggX3_foresee_X3_checkIndex
set_option maxRecDepth 20000 in
theorem ggX3_foresee_X1_becomeLike : GoodIn wsX3_foresee wsX1_becomeLike := goodIn_r _ [18, 19, 20, 21, 22, 23, 24, 25, 26, 27, 28, 29, 30, 31, 32, 33, 34, 35, 36, 37, 5, 38, 105, 106, 107, 108, 109, 110, 111, 112, 113, 114, 115, 116, 117, 118, 119] (by decide +kernel) (by decide +kernel)
set_option maxRecDepth 20000 in
theorem gX3_foresee_X1_becomeLike : GoodIn wsX3_foresee (wsV RX3 146 RX1 yX1_becomeLike wsX1_becomeLike) := goodIn_app (goodIn_of _ (by decide +kernel)) ggX3_foresee_X1_becomeLike
set_option maxRecDepth 20000 in
theorem ggX3_foresee_X1_letGoBy : GoodIn wsX3_foresee wsX1_letGoBy := goodIn_r _ [42, 19, 21, 20, 22, 43, 44, 45, 27, 46, 33, 47, 48, 49, 50, 34, 51, 52, 53, 54, 35, 55, 56, 57, 58, 31, 30, 36, 59, 5, 60, 61, 62, 63, 64, 65, 66, 67, 68, 69, 70, 71, 72, 32, 105, 106, 107, 108, 109, 111, 112, 113, 114, 115, 116, 117, 118, 119, 110] (by decide +kernel) (by decide +kernel)
set_option maxRecDepth 20000 in
theorem gX3_foresee_X1_letGoBy : GoodIn wsX3_foresee (wsV RX3 143 RX1 yX1_letGoBy wsX1_letGoBy) := goodIn_app (goodIn_of _ (by decide +kernel)) ggX3_foresee_X1_letGoBy
set_option maxRecDepth 20000 in
theorem ggX3_foresee_X1_knots : GoodIn wsX3_foresee wsX1_knots := goodIn_r _ [76, 19, 20, 105, 106, 107, 108, 109, 111, 112, 113, 114, 115, 116, 117, 118, 119] (by decide +kernel) (by decide +kernel)
set_option maxRecDepth 20000 in
theorem gX3_foresee_X1_knots : GoodIn wsX3_foresee (wsV RX3 153 RX1 yX1_knots wsX1_knots) := goodIn_app (goodIn_of _ (by decide +kernel)) ggX3_foresee_X1_knots
set_option maxRecDepth 20000 in
theorem ggX3_foresee_X1_offPlan : GoodIn wsX3_foresee wsX1_offPlan := goodIn_r _ [80, 19, 20, 81, 82, 83, 27, 84, 35, 30, 29, 59, 5, 60, 105, 106, 107, 108, 109, 111, 112, 113, 114, 115, 116, 117, 118, 119] (by decide +kernel) (by decide +kernel)
set_option maxRecDepth 20000 in
theorem gX3_foresee_X1_offPlan : GoodIn wsX3_foresee (wsV RX3 156 RX1 yX1_offPlan wsX1_offPlan) := goodIn_app (goodIn_of _ (by decide +kernel)) ggX3_foresee_X1_offPlan
set_option maxRecDepth 20000 in
theorem ggX3_foresee_X1_tornRows : GoodIn wsX3_foresee wsX1_tornRows := goodIn_r _ [88, 19, 20, 89, 90, 91, 17, 92, 93, 94, 95, 96, 97, 98, 99, 27, 100, 35, 101, 5, 102, 59, 60, 105, 106, 107, 108, 109, 111, 112, 113, 114, 115, 116, 117, 118, 119] (by decide +kernel) (by decide +kernel)
set_option maxRecDepth 20000 in
theorem gX3_foresee_X1_tornRows : GoodIn wsX3_foresee (wsV RX3 159 RX1 yX1_tornRows wsX1_tornRows) := goodIn_app (goodIn_of _ (by decide +kernel)) ggX3_foresee_X1_tornRows
theorem dX3_foresee_0 : decode cX3_foresee 0 = .ok (.iload_n 1, 1) := by decide +kernel
theorem dX3_foresee_1 : decode cX3_foresee 1 = .ok (.iconst 1, 1) := by decide +kernel
theorem dX3_foresee_2 : decode cX3_foresee 2 = .ok (.bipush 60, 2) := by decide +kernel
theorem dX3_foresee_4 : decode cX3_foresee 4 = .ok (.invokestatic 23, 3) := by decide +kernel
theorem dX3_foresee_7 : decode cX3_foresee 7 = .ok (.iload_n 2, 1) := by decide +kernel
theorem dX3_foresee_8 : decode cX3_foresee 8 = .ok (.iconst 3, 1) := by decide +kernel
theorem dX3_foresee_9 : decode cX3_foresee 9 = .ok (.invokestatic 93, 3) := by decide +kernel
theorem dX3_foresee_12 : decode cX3_foresee 12 = .ok (.aload_n 0, 1) := by decide +kernel
theorem dX3_foresee_13 : decode cX3_foresee 13 = .ok (.getfield 16, 3) := by decide +kernel
theorem dX3_foresee_16 : decode cX3_foresee 16 = .ok (.aload_n 0, 1) := by decide +kernel
theorem dX3_foresee_17 : decode cX3_foresee 17 = .ok (.getfield 10, 3) := by decide +kernel
theorem dX3_foresee_20 : decode cX3_foresee 20 = .ok (.invokevirtual 146, 3) := by decide +kernel
theorem dX3_foresee_23 : decode cX3_foresee 23 = .ok (.aload_n 0, 1) := by decide +kernel
theorem dX3_foresee_24 : decode cX3_foresee 24 = .ok (.getfield 16, 3) := by decide +kernel
theorem dX3_foresee_27 : decode cX3_foresee 27 = .ok (.iload_n 1, 1) := by decide +kernel
theorem dX3_foresee_28 : decode cX3_foresee 28 = .ok (.invokevirtual 143, 3) := by decide +kernel
theorem dX3_foresee_31 : decode cX3_foresee 31 = .ok (.pop, 1) := by decide +kernel
theorem dX3_foresee_32 : decode cX3_foresee 32 = .ok (.iload_n 2, 1) := by decide +kernel
theorem dX3_foresee_33 : decode cX3_foresee 33 = .ok (.ifCond .ne 11, 3) := by decide +kernel
theorem dX3_foresee_36 : decode cX3_foresee 36 = .ok (.aload_n 0, 1) := by decide +kernel
theorem dX3_foresee_37 : decode cX3_foresee 37 = .ok (.getfield 16, 3) := by decide +kernel
theorem dX3_foresee_40 : decode cX3_foresee 40 = .ok (.invokevirtual 153, 3) := by decide +kernel
theorem dX3_foresee_43 : decode cX3_foresee 43 = .ok (.ireturn, 1) := by decide +kernel
theorem dX3_foresee_44 : decode cX3_foresee 44 = .ok (.iload_n 2, 1) := by decide +kernel
theorem dX3_foresee_45 : decode cX3_foresee 45 = .ok (.iconst 1, 1) := by decide +kernel
theorem dX3_foresee_46 : decode cX3_foresee 46 = .ok (.if_icmp .ne 13, 3) := by decide +kernel
theorem dX3_foresee_49 : decode cX3_foresee 49 = .ok (.aload_n 0, 1) := by decide +kernel
theorem dX3_foresee_50 : decode cX3_foresee 50 = .ok (.getfield 16, 3) := by decide +kernel
theorem dX3_foresee_53 : decode cX3_foresee 53 = .ok (.invokevirtual 156, 3) := by decide +kernel
theorem dX3_foresee_56 : decode cX3_foresee 56 = .ok (.goto 10, 3) := by decide +kernel
theorem dX3_foresee_59 : decode cX3_foresee 59 = .ok (.aload_n 0, 1) := by decide +kernel
theorem dX3_foresee_60 : decode cX3_foresee 60 = .ok (.getfield 16, 3) := by decide +kernel
theorem dX3_foresee_63 : decode cX3_foresee 63 = .ok (.invokevirtual 159, 3) := by decide +kernel
theorem dX3_foresee_66 : decode cX3_foresee 66 = .ok (.ireturn, 1) := by decide +kernel
set_option maxRecDepth 20000 in
theorem ggX3_share_X1_knots : GoodIn wsX3_share wsX1_knots := goodIn_r _ [6, 7, 8, 26, 27, 28, 29, 30, 31, 32, 33, 34, 35, 36, 37, 38, 39] (by decide +kernel) (by decide +kernel)
set_option maxRecDepth 20000 in
theorem gX3_share_X1_knots : GoodIn wsX3_share (wsV RX3 153 RX1 yX1_knots wsX1_knots) := goodIn_app (goodIn_of _ (by decide +kernel)) ggX3_share_X1_knots
set_option maxRecDepth 20000 in
theorem ggX3_share_X1_offPlan : GoodIn wsX3_share wsX1_offPlan := goodIn_r _ [12, 7, 8, 13, 14, 15, 16, 17, 18, 19, 20, 21, 22, 23, 26, 27, 28, 29, 30, 31, 32, 33, 34, 35, 36, 37, 38, 39] (by decide +kernel) (by decide +kernel)
set_option maxRecDepth 20000 in
theorem gX3_share_X1_offPlan : GoodIn wsX3_share (wsV RX3 156 RX1 yX1_offPlan wsX1_offPlan) := goodIn_app (goodIn_of _ (by decide +kernel)) ggX3_share_X1_offPlan
theorem dX3_share_0 : decode cX3_share 0 = .ok (.aload_n 0, 1) := by decide +kernel
theorem dX3_share_1 : decode cX3_share 1 = .ok (.getfield 10, 3) := by decide +kernel
theorem dX3_share_4 : decode cX3_share 4 = .ok (.invokevirtual 153, 3) := by decide +kernel
theorem dX3_share_7 : decode cX3_share 7 = .ok (.istore_n 1, 1) := by decide +kernel
theorem dX3_share_8 : decode cX3_share 8 = .ok (.iload_n 1, 1) := by decide +kernel
theorem dX3_share_9 : decode cX3_share 9 = .ok (.ifCond .gt 5, 3) := by decide +kernel
theorem dX3_share_12 : decode cX3_share 12 = .ok (.dconst 0, 1) := by decide +kernel
theorem dX3_share_13 : decode cX3_share 13 = .ok (.dreturn, 1) := by decide +kernel
theorem dX3_share_14 : decode cX3_share 14 = .ok (.iload_n 1, 1) := by decide +kernel
theorem dX3_share_15 : decode cX3_share 15 = .ok (.aload_n 0, 1) := by decide +kernel
theorem dX3_share_16 : decode cX3_share 16 = .ok (.getfield 10, 3) := by decide +kernel
theorem dX3_share_19 : decode cX3_share 19 = .ok (.invokevirtual 156, 3) := by decide +kernel
theorem dX3_share_22 : decode cX3_share 22 = .ok (.isub, 1) := by decide +kernel
theorem dX3_share_23 : decode cX3_share 23 = .ok (.i2d, 1) := by decide +kernel
theorem dX3_share_24 : decode cX3_share 24 = .ok (.iload_n 1, 1) := by decide +kernel
theorem dX3_share_25 : decode cX3_share 25 = .ok (.i2d, 1) := by decide +kernel
theorem dX3_share_26 : decode cX3_share 26 = .ok (.ddiv, 1) := by decide +kernel
theorem dX3_share_27 : decode cX3_share 27 = .ok (.dreturn, 1) := by decide +kernel
set_option maxRecDepth 20000 in
theorem ggX3_checkWeaver_X3_checkIndex : GoodIn wsX3_checkWeaver wsX3_checkIndex := goodIn_ca (goodIn_r _ [4, 5, 6] (by decide +kernel) (by decide +kernel)) (goodIn_sub (fun _ h => List.mem_cons_of_mem _ (List.mem_append_right _ h)) (by decide +kernel))
set_option maxRecDepth 20000 in
theorem gX3_checkWeaver_X3_checkIndex : GoodIn wsX3_checkWeaver (va_wsS RX3 93 yX3_checkIndex wsX3_checkIndex) := goodIn_app (goodIn_of _ (by decide +kernel)) ggX3_checkWeaver_X3_checkIndex
theorem dX3_checkWeaver_0 : decode cX3_checkWeaver 0 = .ok (.iload_n 0, 1) := by decide +kernel
theorem dX3_checkWeaver_1 : decode cX3_checkWeaver 1 = .ok (.iconst 2, 1) := by decide +kernel
theorem dX3_checkWeaver_2 : decode cX3_checkWeaver 2 = .ok (.invokestatic 93, 3) := by decide +kernel
theorem dX3_checkWeaver_5 : decode cX3_checkWeaver 5 = .ok (.return_, 1) := by decide +kernel
set_option maxRecDepth 20000 in
theorem ggX3_checkCell_X3_checkIndex : GoodIn wsX3_checkCell wsX3_checkIndex := goodIn_ca (goodIn_r _ [4, 5, 6] (by decide +kernel) (by decide +kernel)) (goodIn_sub (fun _ h => List.mem_cons_of_mem _ (List.mem_append_right _ h)) (by decide +kernel))
set_option maxRecDepth 20000 in
theorem gX3_checkCell_X3_checkIndex : GoodIn wsX3_checkCell (va_wsS RX3 93 yX3_checkIndex wsX3_checkIndex) := goodIn_app (goodIn_of _ (by decide +kernel)) ggX3_checkCell_X3_checkIndex
theorem dX3_checkCell_0 : decode cX3_checkCell 0 = .ok (.iload_n 0, 1) := by decide +kernel
theorem dX3_checkCell_1 : decode cX3_checkCell 1 = .ok (.bipush 12, 2) := by decide +kernel
theorem dX3_checkCell_3 : decode cX3_checkCell 3 = .ok (.invokestatic 93, 3) := by decide +kernel
theorem dX3_checkCell_6 : decode cX3_checkCell 6 = .ok (.iload_n 1, 1) := by decide +kernel
theorem dX3_checkCell_7 : decode cX3_checkCell 7 = .ok (.bipush 10, 2) := by decide +kernel
theorem dX3_checkCell_9 : decode cX3_checkCell 9 = .ok (.invokestatic 93, 3) := by decide +kernel
theorem dX3_checkCell_12 : decode cX3_checkCell 12 = .ok (.return_, 1) := by decide +kernel
set_option maxRecDepth 20000 in
theorem ggX3_checkColour_X3_checkRange : GoodIn wsX3_checkColour wsX3_checkRange := goodIn_ca (goodIn_r _ [4, 5, 6] (by decide +kernel) (by decide +kernel)) (goodIn_sub (fun _ h => List.mem_cons_of_mem _ (List.mem_append_right _ h)) (by decide +kernel))
set_option maxRecDepth 20000 in
theorem gX3_checkColour_X3_checkRange : GoodIn wsX3_checkColour (va_wsS RX3 23 yX3_checkRange wsX3_checkRange) := goodIn_app (goodIn_of _ (by decide +kernel)) ggX3_checkColour_X3_checkRange
theorem dX3_checkColour_0 : decode cX3_checkColour 0 = .ok (.iload_n 0, 1) := by decide +kernel
theorem dX3_checkColour_1 : decode cX3_checkColour 1 = .ok (.iconst 0, 1) := by decide +kernel
theorem dX3_checkColour_2 : decode cX3_checkColour 2 = .ok (.bipush 7, 2) := by decide +kernel
theorem dX3_checkColour_4 : decode cX3_checkColour 4 = .ok (.invokestatic 23, 3) := by decide +kernel
theorem dX3_checkColour_7 : decode cX3_checkColour 7 = .ok (.return_, 1) := by decide +kernel
theorem dX3_checkIndex_0 : decode cX3_checkIndex 0 = .ok (.iload_n 0, 1) := by decide +kernel
theorem dX3_checkIndex_1 : decode cX3_checkIndex 1 = .ok (.ifCond .lt 8, 3) := by decide +kernel
theorem dX3_checkIndex_4 : decode cX3_checkIndex 4 = .ok (.iload_n 0, 1) := by decide +kernel
theorem dX3_checkIndex_5 : decode cX3_checkIndex 5 = .ok (.iload_n 1, 1) := by decide +kernel
theorem dX3_checkIndex_6 : decode cX3_checkIndex 6 = .ok (.if_icmp .lt 13, 3) := by decide +kernel
theorem dX3_checkIndex_9 : decode cX3_checkIndex 9 = .ok (.new 172, 3) := by decide +kernel
theorem dX3_checkIndex_12 : decode cX3_checkIndex 12 = .ok (.dup, 1) := by decide +kernel
theorem dX3_checkIndex_13 : decode cX3_checkIndex 13 = .ok (.ldc 174, 2) := by decide +kernel
theorem dX3_checkIndex_15 : decode cX3_checkIndex 15 = .ok (.invokespecial 176, 3) := by decide +kernel
theorem dX3_checkIndex_18 : decode cX3_checkIndex 18 = .ok (.athrow, 1) := by decide +kernel
theorem dX3_checkIndex_19 : decode cX3_checkIndex 19 = .ok (.return_, 1) := by decide +kernel
theorem dX3_checkRange_0 : decode cX3_checkRange 0 = .ok (.iload_n 0, 1) := by decide +kernel
theorem dX3_checkRange_1 : decode cX3_checkRange 1 = .ok (.iload_n 1, 1) := by decide +kernel
theorem dX3_checkRange_2 : decode cX3_checkRange 2 = .ok (.if_icmp .lt 8, 3) := by decide +kernel
theorem dX3_checkRange_5 : decode cX3_checkRange 5 = .ok (.iload_n 0, 1) := by decide +kernel
theorem dX3_checkRange_6 : decode cX3_checkRange 6 = .ok (.iload_n 2, 1) := by decide +kernel
theorem dX3_checkRange_7 : decode cX3_checkRange 7 = .ok (.if_icmp .le 13, 3) := by decide +kernel
theorem dX3_checkRange_10 : decode cX3_checkRange 10 = .ok (.new 177, 3) := by decide +kernel
theorem dX3_checkRange_13 : decode cX3_checkRange 13 = .ok (.dup, 1) := by decide +kernel
theorem dX3_checkRange_14 : decode cX3_checkRange 14 = .ok (.ldc 179, 2) := by decide +kernel
theorem dX3_checkRange_16 : decode cX3_checkRange 16 = .ok (.invokespecial 181, 3) := by decide +kernel
theorem dX3_checkRange_19 : decode cX3_checkRange 19 = .ok (.athrow, 1) := by decide +kernel
theorem dX3_checkRange_20 : decode cX3_checkRange 20 = .ok (.return_, 1) := by decide +kernel
theorem dX3_at_0 : decode cX3_at 0 = .ok (.iload_n 1, 1) := by decide +kernel
theorem dX3_at_1 : decode cX3_at 1 = .ok (.ifCond .lt 15, 3) := by decide +kernel
theorem dX3_at_4 : decode cX3_at 4 = .ok (.iload_n 1, 1) := by decide +kernel
theorem dX3_at_5 : decode cX3_at 5 = .ok (.aload_n 0, 1) := by decide +kernel
theorem dX3_at_6 : decode cX3_at 6 = .ok (.arraylength, 1) := by decide +kernel
theorem dX3_at_7 : decode cX3_at 7 = .ok (.if_icmp .ge 9, 3) := by decide +kernel
theorem dX3_at_10 : decode cX3_at 10 = .ok (.aload_n 0, 1) := by decide +kernel
theorem dX3_at_11 : decode cX3_at 11 = .ok (.iload_n 1, 1) := by decide +kernel
theorem dX3_at_12 : decode cX3_at 12 = .ok (.iaload, 1) := by decide +kernel
theorem dX3_at_13 : decode cX3_at 13 = .ok (.goto 4, 3) := by decide +kernel
theorem dX3_at_16 : decode cX3_at 16 = .ok (.iconst (-1), 1) := by decide +kernel
theorem dX3_at_17 : decode cX3_at 17 = .ok (.ireturn, 1) := by decide +kernel
theorem dX3_put_0 : decode cX3_put 0 = .ok (.iload_n 1, 1) := by decide +kernel
theorem dX3_put_1 : decode cX3_put 1 = .ok (.ifCond .lt 13, 3) := by decide +kernel
theorem dX3_put_4 : decode cX3_put 4 = .ok (.iload_n 1, 1) := by decide +kernel
theorem dX3_put_5 : decode cX3_put 5 = .ok (.aload_n 0, 1) := by decide +kernel
theorem dX3_put_6 : decode cX3_put 6 = .ok (.arraylength, 1) := by decide +kernel
theorem dX3_put_7 : decode cX3_put 7 = .ok (.if_icmp .ge 7, 3) := by decide +kernel
theorem dX3_put_10 : decode cX3_put 10 = .ok (.aload_n 0, 1) := by decide +kernel
theorem dX3_put_11 : decode cX3_put 11 = .ok (.iload_n 1, 1) := by decide +kernel
theorem dX3_put_12 : decode cX3_put 12 = .ok (.iload_n 2, 1) := by decide +kernel
theorem dX3_put_13 : decode cX3_put 13 = .ok (.iastore, 1) := by decide +kernel
theorem dX3_put_14 : decode cX3_put 14 = .ok (.return_, 1) := by decide +kernel
theorem dX3_copyRow_0 : decode cX3_copyRow 0 = .ok (.iconst 0, 1) := by decide +kernel
theorem dX3_copyRow_1 : decode cX3_copyRow 1 = .ok (.istore_n 2, 1) := by decide +kernel
theorem dX3_copyRow_2 : decode cX3_copyRow 2 = .ok (.iload_n 2, 1) := by decide +kernel
theorem dX3_copyRow_3 : decode cX3_copyRow 3 = .ok (.aload_n 0, 1) := by decide +kernel
theorem dX3_copyRow_4 : decode cX3_copyRow 4 = .ok (.arraylength, 1) := by decide +kernel
theorem dX3_copyRow_5 : decode cX3_copyRow 5 = .ok (.if_icmp .ge 21, 3) := by decide +kernel
theorem dX3_copyRow_8 : decode cX3_copyRow 8 = .ok (.iload_n 2, 1) := by decide +kernel
theorem dX3_copyRow_9 : decode cX3_copyRow 9 = .ok (.aload_n 1, 1) := by decide +kernel
theorem dX3_copyRow_10 : decode cX3_copyRow 10 = .ok (.arraylength, 1) := by decide +kernel
theorem dX3_copyRow_11 : decode cX3_copyRow 11 = .ok (.if_icmp .ge 15, 3) := by decide +kernel
theorem dX3_copyRow_14 : decode cX3_copyRow 14 = .ok (.aload_n 1, 1) := by decide +kernel
theorem dX3_copyRow_15 : decode cX3_copyRow 15 = .ok (.iload_n 2, 1) := by decide +kernel
theorem dX3_copyRow_16 : decode cX3_copyRow 16 = .ok (.aload_n 0, 1) := by decide +kernel
theorem dX3_copyRow_17 : decode cX3_copyRow 17 = .ok (.iload_n 2, 1) := by decide +kernel
theorem dX3_copyRow_18 : decode cX3_copyRow 18 = .ok (.iaload, 1) := by decide +kernel
theorem dX3_copyRow_19 : decode cX3_copyRow 19 = .ok (.iastore, 1) := by decide +kernel
theorem dX3_copyRow_20 : decode cX3_copyRow 20 = .ok (.iinc 2 1, 3) := by decide +kernel
theorem dX3_copyRow_23 : decode cX3_copyRow 23 = .ok (.goto (-21), 3) := by decide +kernel
theorem dX3_copyRow_26 : decode cX3_copyRow 26 = .ok (.return_, 1) := by decide +kernel
theorem dX3_sideOf_0 : decode cX3_sideOf 0 = .ok (.iload_n 0, 1) := by decide +kernel
theorem dX3_sideOf_1 : decode cX3_sideOf 1 = .ok (.bipush 6, 2) := by decide +kernel
theorem dX3_sideOf_3 : decode cX3_sideOf 3 = .ok (.if_icmp .ge 7, 3) := by decide +kernel
theorem dX3_sideOf_6 : decode cX3_sideOf 6 = .ok (.iconst 0, 1) := by decide +kernel
theorem dX3_sideOf_7 : decode cX3_sideOf 7 = .ok (.goto 4, 3) := by decide +kernel
theorem dX3_sideOf_10 : decode cX3_sideOf 10 = .ok (.iconst 1, 1) := by decide +kernel
theorem dX3_sideOf_11 : decode cX3_sideOf 11 = .ok (.ireturn, 1) := by decide +kernel
theorem dX3_placeOf_0 : decode cX3_placeOf 0 = .ok (.bipush 6, 2) := by decide +kernel
theorem dX3_placeOf_2 : decode cX3_placeOf 2 = .ok (.iload_n 1, 1) := by decide +kernel
theorem dX3_placeOf_3 : decode cX3_placeOf 3 = .ok (.imul, 1) := by decide +kernel
theorem dX3_placeOf_4 : decode cX3_placeOf 4 = .ok (.iload_n 0, 1) := by decide +kernel
theorem dX3_placeOf_5 : decode cX3_placeOf 5 = .ok (.bipush 6, 2) := by decide +kernel
theorem dX3_placeOf_7 : decode cX3_placeOf 7 = .ok (.if_icmp .ge 7, 3) := by decide +kernel
theorem dX3_placeOf_10 : decode cX3_placeOf 10 = .ok (.iload_n 0, 1) := by decide +kernel
theorem dX3_placeOf_11 : decode cX3_placeOf 11 = .ok (.goto 7, 3) := by decide +kernel
theorem dX3_placeOf_14 : decode cX3_placeOf 14 = .ok (.bipush 11, 2) := by decide +kernel
theorem dX3_placeOf_16 : decode cX3_placeOf 16 = .ok (.iload_n 0, 1) := by decide +kernel
theorem dX3_placeOf_17 : decode cX3_placeOf 17 = .ok (.isub, 1) := by decide +kernel
theorem dX3_placeOf_18 : decode cX3_placeOf 18 = .ok (.iadd, 1) := by decide +kernel
theorem dX3_placeOf_19 : decode cX3_placeOf 19 = .ok (.ireturn, 1) := by decide +kernel
theorem dX4_init_0 : decode cX4_init 0 = .ok (.aload_n 0, 1) := by decide +kernel
theorem dX4_init_1 : decode cX4_init 1 = .ok (.invokespecial 1, 3) := by decide +kernel
theorem dX4_init_4 : decode cX4_init 4 = .ok (.aload_n 0, 1) := by decide +kernel
theorem dX4_init_5 : decode cX4_init 5 = .ok (.bipush 12, 2) := by decide +kernel
theorem dX4_init_7 : decode cX4_init 7 = .ok (.bipush 10, 2) := by decide +kernel
theorem dX4_init_9 : decode cX4_init 9 = .ok (.multianewarray 7 2, 4) := by decide +kernel
theorem dX4_init_13 : decode cX4_init 13 = .ok (.putfield 9, 3) := by decide +kernel
theorem dX4_init_16 : decode cX4_init 16 = .ok (.aload_n 0, 1) := by decide +kernel
theorem dX4_init_17 : decode cX4_init 17 = .ok (.bipush 12, 2) := by decide +kernel
theorem dX4_init_19 : decode cX4_init 19 = .ok (.bipush 10, 2) := by decide +kernel
theorem dX4_init_21 : decode cX4_init 21 = .ok (.multianewarray 7 2, 4) := by decide +kernel
theorem dX4_init_25 : decode cX4_init 25 = .ok (.putfield 14, 3) := by decide +kernel
theorem dX4_init_28 : decode cX4_init 28 = .ok (.aload_n 0, 1) := by decide +kernel
theorem dX4_init_29 : decode cX4_init 29 = .ok (.iconst 2, 1) := by decide +kernel
theorem dX4_init_30 : decode cX4_init 30 = .ok (.iconst 0, 1) := by decide +kernel
theorem dX4_init_31 : decode cX4_init 31 = .ok (.multianewarray 17 2, 4) := by decide +kernel
theorem dX4_init_35 : decode cX4_init 35 = .ok (.putfield 19, 3) := by decide +kernel
theorem dX4_init_38 : decode cX4_init 38 = .ok (.aload_n 0, 1) := by decide +kernel
theorem dX4_init_39 : decode cX4_init 39 = .ok (.iconst 2, 1) := by decide +kernel
theorem dX4_init_40 : decode cX4_init 40 = .ok (.newarray .int, 2) := by decide +kernel
theorem dX4_init_42 : decode cX4_init 42 = .ok (.dup, 1) := by decide +kernel
theorem dX4_init_43 : decode cX4_init 43 = .ok (.iconst 0, 1) := by decide +kernel
theorem dX4_init_44 : decode cX4_init 44 = .ok (.iconst 1, 1) := by decide +kernel
theorem dX4_init_45 : decode cX4_init 45 = .ok (.iastore, 1) := by decide +kernel
theorem dX4_init_46 : decode cX4_init 46 = .ok (.dup, 1) := by decide +kernel
theorem dX4_init_47 : decode cX4_init 47 = .ok (.iconst 1, 1) := by decide +kernel
theorem dX4_init_48 : decode cX4_init 48 = .ok (.iconst 1, 1) := by decide +kernel
theorem dX4_init_49 : decode cX4_init 49 = .ok (.iastore, 1) := by decide +kernel
theorem dX4_init_50 : decode cX4_init 50 = .ok (.putfield 22, 3) := by decide +kernel
theorem dX4_init_53 : decode cX4_init 53 = .ok (.aload_n 0, 1) := by decide +kernel
theorem dX4_init_54 : decode cX4_init 54 = .ok (.iconst 2, 1) := by decide +kernel
theorem dX4_init_55 : decode cX4_init 55 = .ok (.newarray .int, 2) := by decide +kernel
theorem dX4_init_57 : decode cX4_init 57 = .ok (.putfield 26, 3) := by decide +kernel
theorem dX4_init_60 : decode cX4_init 60 = .ok (.aload_n 0, 1) := by decide +kernel
theorem dX4_init_61 : decode cX4_init 61 = .ok (.bipush 8, 2) := by decide +kernel
theorem dX4_init_63 : decode cX4_init 63 = .ok (.newarray .int, 2) := by decide +kernel
theorem dX4_init_65 : decode cX4_init 65 = .ok (.dup, 1) := by decide +kernel
theorem dX4_init_66 : decode cX4_init 66 = .ok (.iconst 0, 1) := by decide +kernel
theorem dX4_init_67 : decode cX4_init 67 = .ok (.bipush 30, 2) := by decide +kernel
theorem dX4_init_69 : decode cX4_init 69 = .ok (.iastore, 1) := by decide +kernel
theorem dX4_init_70 : decode cX4_init 70 = .ok (.dup, 1) := by decide +kernel
theorem dX4_init_71 : decode cX4_init 71 = .ok (.iconst 1, 1) := by decide +kernel
theorem dX4_init_72 : decode cX4_init 72 = .ok (.bipush 30, 2) := by decide +kernel
theorem dX4_init_74 : decode cX4_init 74 = .ok (.iastore, 1) := by decide +kernel
theorem dX4_init_75 : decode cX4_init 75 = .ok (.dup, 1) := by decide +kernel
theorem dX4_init_76 : decode cX4_init 76 = .ok (.iconst 2, 1) := by decide +kernel
theorem dX4_init_77 : decode cX4_init 77 = .ok (.bipush 30, 2) := by decide +kernel
theorem dX4_init_79 : decode cX4_init 79 = .ok (.iastore, 1) := by decide +kernel
theorem dX4_init_80 : decode cX4_init 80 = .ok (.dup, 1) := by decide +kernel
theorem dX4_init_81 : decode cX4_init 81 = .ok (.iconst 3, 1) := by decide +kernel
theorem dX4_init_82 : decode cX4_init 82 = .ok (.bipush 30, 2) := by decide +kernel
theorem dX4_init_84 : decode cX4_init 84 = .ok (.iastore, 1) := by decide +kernel
theorem dX4_init_85 : decode cX4_init 85 = .ok (.dup, 1) := by decide +kernel
theorem dX4_init_86 : decode cX4_init 86 = .ok (.iconst 4, 1) := by decide +kernel
theorem dX4_init_87 : decode cX4_init 87 = .ok (.bipush 30, 2) := by decide +kernel
theorem dX4_init_89 : decode cX4_init 89 = .ok (.iastore, 1) := by decide +kernel
theorem dX4_init_90 : decode cX4_init 90 = .ok (.dup, 1) := by decide +kernel
theorem dX4_init_91 : decode cX4_init 91 = .ok (.iconst 5, 1) := by decide +kernel
theorem dX4_init_92 : decode cX4_init 92 = .ok (.bipush 30, 2) := by decide +kernel
theorem dX4_init_94 : decode cX4_init 94 = .ok (.iastore, 1) := by decide +kernel
theorem dX4_init_95 : decode cX4_init 95 = .ok (.dup, 1) := by decide +kernel
theorem dX4_init_96 : decode cX4_init 96 = .ok (.bipush 6, 2) := by decide +kernel
theorem dX4_init_98 : decode cX4_init 98 = .ok (.bipush 30, 2) := by decide +kernel
theorem dX4_init_100 : decode cX4_init 100 = .ok (.iastore, 1) := by decide +kernel
theorem dX4_init_101 : decode cX4_init 101 = .ok (.dup, 1) := by decide +kernel
theorem dX4_init_102 : decode cX4_init 102 = .ok (.bipush 7, 2) := by decide +kernel
theorem dX4_init_104 : decode cX4_init 104 = .ok (.bipush 30, 2) := by decide +kernel
theorem dX4_init_106 : decode cX4_init 106 = .ok (.iastore, 1) := by decide +kernel
theorem dX4_init_107 : decode cX4_init 107 = .ok (.putfield 29, 3) := by decide +kernel
theorem dX4_init_110 : decode cX4_init 110 = .ok (.iconst 0, 1) := by decide +kernel
theorem dX4_init_111 : decode cX4_init 111 = .ok (.istore_n 1, 1) := by decide +kernel
theorem dX4_init_112 : decode cX4_init 112 = .ok (.iload_n 1, 1) := by decide +kernel
theorem dX4_init_113 : decode cX4_init 113 = .ok (.bipush 12, 2) := by decide +kernel
theorem dX4_init_115 : decode cX4_init 115 = .ok (.if_icmp .ge 32, 3) := by decide +kernel
theorem dX4_init_118 : decode cX4_init 118 = .ok (.iconst 0, 1) := by decide +kernel
theorem dX4_init_119 : decode cX4_init 119 = .ok (.istore_n 2, 1) := by decide +kernel
theorem dX4_init_120 : decode cX4_init 120 = .ok (.iload_n 2, 1) := by decide +kernel
theorem dX4_init_121 : decode cX4_init 121 = .ok (.bipush 10, 2) := by decide +kernel
theorem dX4_init_123 : decode cX4_init 123 = .ok (.if_icmp .ge 18, 3) := by decide +kernel
theorem dX4_init_126 : decode cX4_init 126 = .ok (.aload_n 0, 1) := by decide +kernel
theorem dX4_init_127 : decode cX4_init 127 = .ok (.getfield 9, 3) := by decide +kernel
theorem dX4_init_130 : decode cX4_init 130 = .ok (.iload_n 1, 1) := by decide +kernel
theorem dX4_init_131 : decode cX4_init 131 = .ok (.aaload, 1) := by decide +kernel
theorem dX4_init_132 : decode cX4_init 132 = .ok (.iload_n 2, 1) := by decide +kernel
theorem dX4_init_133 : decode cX4_init 133 = .ok (.iconst (-1), 1) := by decide +kernel
theorem dX4_init_134 : decode cX4_init 134 = .ok (.iastore, 1) := by decide +kernel
theorem dX4_init_135 : decode cX4_init 135 = .ok (.iinc 2 1, 3) := by decide +kernel
theorem dX4_init_138 : decode cX4_init 138 = .ok (.goto (-18), 3) := by decide +kernel
theorem dX4_init_141 : decode cX4_init 141 = .ok (.iinc 1 1, 3) := by decide +kernel
theorem dX4_init_144 : decode cX4_init 144 = .ok (.goto (-32), 3) := by decide +kernel
theorem dX4_init_147 : decode cX4_init 147 = .ok (.return_, 1) := by decide +kernel
theorem dX4_x_0 : decode cX4_x 0 = .ok (.iload_n 0, 1) := by decide +kernel
theorem dX4_x_1 : decode cX4_x 1 = .ok (.ifCond .ne 10, 3) := by decide +kernel
theorem dX4_x_4 : decode cX4_x 4 = .ok (.iload_n 1, 1) := by decide +kernel
theorem dX4_x_5 : decode cX4_x 5 = .ok (.bipush 6, 2) := by decide +kernel
theorem dX4_x_7 : decode cX4_x 7 = .ok (.irem, 1) := by decide +kernel
theorem dX4_x_8 : decode cX4_x 8 = .ok (.goto 10, 3) := by decide +kernel
theorem dX4_x_11 : decode cX4_x 11 = .ok (.bipush 11, 2) := by decide +kernel
theorem dX4_x_13 : decode cX4_x 13 = .ok (.iload_n 1, 1) := by decide +kernel
theorem dX4_x_14 : decode cX4_x 14 = .ok (.bipush 6, 2) := by decide +kernel
theorem dX4_x_16 : decode cX4_x 16 = .ok (.irem, 1) := by decide +kernel
theorem dX4_x_17 : decode cX4_x 17 = .ok (.isub, 1) := by decide +kernel
theorem dX4_x_18 : decode cX4_x 18 = .ok (.ireturn, 1) := by decide +kernel
set_option maxRecDepth 20000 in
theorem ggX4_knots_X4_x : GoodIn wsX4_knots wsX4_x := goodIn_r _ [5] (by decide +kernel) (by decide +kernel)
set_option maxRecDepth 20000 in
theorem gX4_knots_X4_x : GoodIn wsX4_knots (va_wsS RX4 45 yX4_x wsX4_x) := goodIn_app (goodIn_of _ (by decide +kernel)) ggX4_knots_X4_x
theorem dX4_knots_0 : decode cX4_knots 0 = .ok (.iconst 0, 1) := by decide +kernel
theorem dX4_knots_1 : decode cX4_knots 1 = .ok (.istore_n 2, 1) := by decide +kernel
theorem dX4_knots_2 : decode cX4_knots 2 = .ok (.iload_n 2, 1) := by decide +kernel
theorem dX4_knots_3 : decode cX4_knots 3 = .ok (.bipush 60, 2) := by decide +kernel
theorem dX4_knots_5 : decode cX4_knots 5 = .ok (.if_icmp .ge 27, 3) := by decide +kernel
theorem dX4_knots_8 : decode cX4_knots 8 = .ok (.aload_n 0, 1) := by decide +kernel
theorem dX4_knots_9 : decode cX4_knots 9 = .ok (.getfield 9, 3) := by decide +kernel
theorem dX4_knots_12 : decode cX4_knots 12 = .ok (.iload_n 1, 1) := by decide +kernel
theorem dX4_knots_13 : decode cX4_knots 13 = .ok (.iload_n 2, 1) := by decide +kernel
theorem dX4_knots_14 : decode cX4_knots 14 = .ok (.invokestatic 45, 3) := by decide +kernel
theorem dX4_knots_17 : decode cX4_knots 17 = .ok (.aaload, 1) := by decide +kernel
theorem dX4_knots_18 : decode cX4_knots 18 = .ok (.iload_n 2, 1) := by decide +kernel
theorem dX4_knots_19 : decode cX4_knots 19 = .ok (.bipush 6, 2) := by decide +kernel
theorem dX4_knots_21 : decode cX4_knots 21 = .ok (.idiv, 1) := by decide +kernel
theorem dX4_knots_22 : decode cX4_knots 22 = .ok (.iaload, 1) := by decide +kernel
theorem dX4_knots_23 : decode cX4_knots 23 = .ok (.ifCond .lt 9, 3) := by decide +kernel
theorem dX4_knots_26 : decode cX4_knots 26 = .ok (.iinc 2 1, 3) := by decide +kernel
theorem dX4_knots_29 : decode cX4_knots 29 = .ok (.goto (-27), 3) := by decide +kernel
theorem dX4_knots_32 : decode cX4_knots 32 = .ok (.iload_n 2, 1) := by decide +kernel
theorem dX4_knots_33 : decode cX4_knots 33 = .ok (.ireturn, 1) := by decide +kernel
theorem dX4_tell_0 : decode cX4_tell 0 = .ok (.aload_n 0, 1) := by decide +kernel
theorem dX4_tell_1 : decode cX4_tell 1 = .ok (.getfield 19, 3) := by decide +kernel
theorem dX4_tell_4 : decode cX4_tell 4 = .ok (.iload_n 1, 1) := by decide +kernel
theorem dX4_tell_5 : decode cX4_tell 5 = .ok (.aaload, 1) := by decide +kernel
theorem dX4_tell_6 : decode cX4_tell 6 = .ok (.arraylength, 1) := by decide +kernel
theorem dX4_tell_7 : decode cX4_tell 7 = .ok (.iconst 1, 1) := by decide +kernel
theorem dX4_tell_8 : decode cX4_tell 8 = .ok (.iadd, 1) := by decide +kernel
theorem dX4_tell_9 : decode cX4_tell 9 = .ok (.anewarray 33, 3) := by decide +kernel
theorem dX4_tell_12 : decode cX4_tell 12 = .ok (.astore 4, 2) := by decide +kernel
theorem dX4_tell_14 : decode cX4_tell 14 = .ok (.iconst 0, 1) := by decide +kernel
theorem dX4_tell_15 : decode cX4_tell 15 = .ok (.istore 5, 2) := by decide +kernel
theorem dX4_tell_17 : decode cX4_tell 17 = .ok (.iload 5, 2) := by decide +kernel
theorem dX4_tell_19 : decode cX4_tell 19 = .ok (.aload_n 0, 1) := by decide +kernel
theorem dX4_tell_20 : decode cX4_tell 20 = .ok (.getfield 19, 3) := by decide +kernel
theorem dX4_tell_23 : decode cX4_tell 23 = .ok (.iload_n 1, 1) := by decide +kernel
theorem dX4_tell_24 : decode cX4_tell 24 = .ok (.aaload, 1) := by decide +kernel
theorem dX4_tell_25 : decode cX4_tell 25 = .ok (.arraylength, 1) := by decide +kernel
theorem dX4_tell_26 : decode cX4_tell 26 = .ok (.if_icmp .ge 23, 3) := by decide +kernel
theorem dX4_tell_29 : decode cX4_tell 29 = .ok (.aload 4, 2) := by decide +kernel
theorem dX4_tell_31 : decode cX4_tell 31 = .ok (.iload 5, 2) := by decide +kernel
theorem dX4_tell_33 : decode cX4_tell 33 = .ok (.aload_n 0, 1) := by decide +kernel
theorem dX4_tell_34 : decode cX4_tell 34 = .ok (.getfield 19, 3) := by decide +kernel
theorem dX4_tell_37 : decode cX4_tell 37 = .ok (.iload_n 1, 1) := by decide +kernel
theorem dX4_tell_38 : decode cX4_tell 38 = .ok (.aaload, 1) := by decide +kernel
theorem dX4_tell_39 : decode cX4_tell 39 = .ok (.iload 5, 2) := by decide +kernel
theorem dX4_tell_41 : decode cX4_tell 41 = .ok (.aaload, 1) := by decide +kernel
theorem dX4_tell_42 : decode cX4_tell 42 = .ok (.aastore, 1) := by decide +kernel
theorem dX4_tell_43 : decode cX4_tell 43 = .ok (.iinc 5 1, 3) := by decide +kernel
theorem dX4_tell_46 : decode cX4_tell 46 = .ok (.goto (-29), 3) := by decide +kernel
theorem dX4_tell_49 : decode cX4_tell 49 = .ok (.aload 4, 2) := by decide +kernel
theorem dX4_tell_51 : decode cX4_tell 51 = .ok (.aload_n 0, 1) := by decide +kernel
theorem dX4_tell_52 : decode cX4_tell 52 = .ok (.getfield 19, 3) := by decide +kernel
theorem dX4_tell_55 : decode cX4_tell 55 = .ok (.iload_n 1, 1) := by decide +kernel
theorem dX4_tell_56 : decode cX4_tell 56 = .ok (.aaload, 1) := by decide +kernel
theorem dX4_tell_57 : decode cX4_tell 57 = .ok (.arraylength, 1) := by decide +kernel
theorem dX4_tell_58 : decode cX4_tell 58 = .ok (.iconst 2, 1) := by decide +kernel
theorem dX4_tell_59 : decode cX4_tell 59 = .ok (.newarray .int, 2) := by decide +kernel
theorem dX4_tell_61 : decode cX4_tell 61 = .ok (.dup, 1) := by decide +kernel
theorem dX4_tell_62 : decode cX4_tell 62 = .ok (.iconst 0, 1) := by decide +kernel
theorem dX4_tell_63 : decode cX4_tell 63 = .ok (.iload_n 2, 1) := by decide +kernel
theorem dX4_tell_64 : decode cX4_tell 64 = .ok (.iastore, 1) := by decide +kernel
theorem dX4_tell_65 : decode cX4_tell 65 = .ok (.dup, 1) := by decide +kernel
theorem dX4_tell_66 : decode cX4_tell 66 = .ok (.iconst 1, 1) := by decide +kernel
theorem dX4_tell_67 : decode cX4_tell 67 = .ok (.iload_n 3, 1) := by decide +kernel
theorem dX4_tell_68 : decode cX4_tell 68 = .ok (.iastore, 1) := by decide +kernel
theorem dX4_tell_69 : decode cX4_tell 69 = .ok (.aastore, 1) := by decide +kernel
theorem dX4_tell_70 : decode cX4_tell 70 = .ok (.aload_n 0, 1) := by decide +kernel
theorem dX4_tell_71 : decode cX4_tell 71 = .ok (.getfield 19, 3) := by decide +kernel
theorem dX4_tell_74 : decode cX4_tell 74 = .ok (.iload_n 1, 1) := by decide +kernel
theorem dX4_tell_75 : decode cX4_tell 75 = .ok (.aload 4, 2) := by decide +kernel
theorem dX4_tell_77 : decode cX4_tell 77 = .ok (.aastore, 1) := by decide +kernel
theorem dX4_tell_78 : decode cX4_tell 78 = .ok (.return_, 1) := by decide +kernel
theorem dX4_told_0 : decode cX4_told 0 = .ok (.iconst 0, 1) := by decide +kernel
theorem dX4_told_1 : decode cX4_told 1 = .ok (.istore_n 2, 1) := by decide +kernel
theorem dX4_told_2 : decode cX4_told 2 = .ok (.aload_n 0, 1) := by decide +kernel
theorem dX4_told_3 : decode cX4_told 3 = .ok (.getfield 19, 3) := by decide +kernel
theorem dX4_told_6 : decode cX4_told 6 = .ok (.iload_n 1, 1) := by decide +kernel
theorem dX4_told_7 : decode cX4_told 7 = .ok (.aaload, 1) := by decide +kernel
theorem dX4_told_8 : decode cX4_told 8 = .ok (.astore_n 3, 1) := by decide +kernel
theorem dX4_told_9 : decode cX4_told 9 = .ok (.aload_n 3, 1) := by decide +kernel
theorem dX4_told_10 : decode cX4_told 10 = .ok (.arraylength, 1) := by decide +kernel
theorem dX4_told_11 : decode cX4_told 11 = .ok (.istore 4, 2) := by decide +kernel
theorem dX4_told_13 : decode cX4_told 13 = .ok (.iconst 0, 1) := by decide +kernel
theorem dX4_told_14 : decode cX4_told 14 = .ok (.istore 5, 2) := by decide +kernel
theorem dX4_told_16 : decode cX4_told 16 = .ok (.iload 5, 2) := by decide +kernel
theorem dX4_told_18 : decode cX4_told 18 = .ok (.iload 4, 2) := by decide +kernel
theorem dX4_told_20 : decode cX4_told 20 = .ok (.if_icmp .ge 22, 3) := by decide +kernel
theorem dX4_told_23 : decode cX4_told 23 = .ok (.aload_n 3, 1) := by decide +kernel
theorem dX4_told_24 : decode cX4_told 24 = .ok (.iload 5, 2) := by decide +kernel
theorem dX4_told_26 : decode cX4_told 26 = .ok (.aaload, 1) := by decide +kernel
theorem dX4_told_27 : decode cX4_told 27 = .ok (.astore 6, 2) := by decide +kernel
theorem dX4_told_29 : decode cX4_told 29 = .ok (.iload_n 2, 1) := by decide +kernel
theorem dX4_told_30 : decode cX4_told 30 = .ok (.aload 6, 2) := by decide +kernel
theorem dX4_told_32 : decode cX4_told 32 = .ok (.iconst 1, 1) := by decide +kernel
theorem dX4_told_33 : decode cX4_told 33 = .ok (.iaload, 1) := by decide +kernel
theorem dX4_told_34 : decode cX4_told 34 = .ok (.iadd, 1) := by decide +kernel
theorem dX4_told_35 : decode cX4_told 35 = .ok (.istore_n 2, 1) := by decide +kernel
theorem dX4_told_36 : decode cX4_told 36 = .ok (.iinc 5 1, 3) := by decide +kernel
theorem dX4_told_39 : decode cX4_told 39 = .ok (.goto (-23), 3) := by decide +kernel
theorem dX4_told_42 : decode cX4_told 42 = .ok (.iload_n 2, 1) := by decide +kernel
theorem dX4_told_43 : decode cX4_told 43 = .ok (.ireturn, 1) := by decide +kernel
set_option maxRecDepth 20000 in
theorem ggX4_isDone_X4_knots : GoodIn wsX4_isDone wsX4_knots := goodIn_r _ [6, 7, 8, 9, 5, 10, 11, 12, 13, 14, 15, 16, 17, 18] (by decide +kernel) (by decide +kernel)
set_option maxRecDepth 20000 in
theorem gX4_isDone_X4_knots : GoodIn wsX4_isDone (wsV RX4 49 RX4 yX4_knots wsX4_knots) := goodIn_app (goodIn_of _ (by decide +kernel)) ggX4_isDone_X4_knots
theorem dX4_isDone_0 : decode cX4_isDone 0 = .ok (.aload_n 0, 1) := by decide +kernel
theorem dX4_isDone_1 : decode cX4_isDone 1 = .ok (.getfield 19, 3) := by decide +kernel
theorem dX4_isDone_4 : decode cX4_isDone 4 = .ok (.iload_n 1, 1) := by decide +kernel
theorem dX4_isDone_5 : decode cX4_isDone 5 = .ok (.aaload, 1) := by decide +kernel
theorem dX4_isDone_6 : decode cX4_isDone 6 = .ok (.arraylength, 1) := by decide +kernel
theorem dX4_isDone_7 : decode cX4_isDone 7 = .ok (.ifCond .eq 13, 3) := by decide +kernel
theorem dX4_isDone_10 : decode cX4_isDone 10 = .ok (.aload_n 0, 1) := by decide +kernel
theorem dX4_isDone_11 : decode cX4_isDone 11 = .ok (.iload_n 1, 1) := by decide +kernel
theorem dX4_isDone_12 : decode cX4_isDone 12 = .ok (.invokevirtual 49, 3) := by decide +kernel
theorem dX4_isDone_15 : decode cX4_isDone 15 = .ok (.bipush 60, 2) := by decide +kernel
theorem dX4_isDone_17 : decode cX4_isDone 17 = .ok (.if_icmp .ne 7, 3) := by decide +kernel
theorem dX4_isDone_20 : decode cX4_isDone 20 = .ok (.iconst 1, 1) := by decide +kernel
theorem dX4_isDone_21 : decode cX4_isDone 21 = .ok (.goto 4, 3) := by decide +kernel
theorem dX4_isDone_24 : decode cX4_isDone 24 = .ok (.iconst 0, 1) := by decide +kernel
theorem dX4_isDone_25 : decode cX4_isDone 25 = .ok (.ireturn, 1) := by decide +kernel
set_option maxRecDepth 20000 in
theorem ggX4_knot_X4_knots : GoodIn wsX4_knot wsX4_knots := goodIn_r _ [10, 3, 11, 12, 9, 13, 14, 15, 16, 17, 18, 19, 20, 21] (by decide +kernel) (by decide +kernel)
set_option maxRecDepth 20000 in
theorem gX4_knot_X4_knots : GoodIn wsX4_knot (wsV RX4 49 RX4 yX4_knots wsX4_knots) := goodIn_app (goodIn_of _ (by decide +kernel)) ggX4_knot_X4_knots
set_option maxRecDepth 20000 in
theorem ggX4_knot_X4_x : GoodIn wsX4_knot wsX4_x := goodIn_r _ [13] (by decide +kernel) (by decide +kernel)
set_option maxRecDepth 20000 in
theorem gX4_knot_X4_x : GoodIn wsX4_knot (va_wsS RX4 45 yX4_x wsX4_x) := goodIn_app (goodIn_of _ (by decide +kernel)) ggX4_knot_X4_x
theorem dX4_knot_0 : decode cX4_knot 0 = .ok (.aload_n 0, 1) := by decide +kernel
theorem dX4_knot_1 : decode cX4_knot 1 = .ok (.getfield 19, 3) := by decide +kernel
theorem dX4_knot_4 : decode cX4_knot 4 = .ok (.iload_n 1, 1) := by decide +kernel
theorem dX4_knot_5 : decode cX4_knot 5 = .ok (.aaload, 1) := by decide +kernel
theorem dX4_knot_6 : decode cX4_knot 6 = .ok (.iconst 0, 1) := by decide +kernel
theorem dX4_knot_7 : decode cX4_knot 7 = .ok (.aaload, 1) := by decide +kernel
theorem dX4_knot_8 : decode cX4_knot 8 = .ok (.iconst 0, 1) := by decide +kernel
theorem dX4_knot_9 : decode cX4_knot 9 = .ok (.iaload, 1) := by decide +kernel
theorem dX4_knot_10 : decode cX4_knot 10 = .ok (.istore_n 2, 1) := by decide +kernel
theorem dX4_knot_11 : decode cX4_knot 11 = .ok (.iload_n 2, 1) := by decide +kernel
theorem dX4_knot_12 : decode cX4_knot 12 = .ok (.istore_n 3, 1) := by decide +kernel
theorem dX4_knot_13 : decode cX4_knot 13 = .ok (.aload_n 0, 1) := by decide +kernel
theorem dX4_knot_14 : decode cX4_knot 14 = .ok (.getfield 29, 3) := by decide +kernel
theorem dX4_knot_17 : decode cX4_knot 17 = .ok (.iload_n 3, 1) := by decide +kernel
theorem dX4_knot_18 : decode cX4_knot 18 = .ok (.iaload, 1) := by decide +kernel
theorem dX4_knot_19 : decode cX4_knot 19 = .ok (.ifCond .ne 24, 3) := by decide +kernel
theorem dX4_knot_22 : decode cX4_knot 22 = .ok (.iload_n 3, 1) := by decide +kernel
theorem dX4_knot_23 : decode cX4_knot 23 = .ok (.bipush 7, 2) := by decide +kernel
theorem dX4_knot_25 : decode cX4_knot 25 = .ok (.if_icmp .ne 7, 3) := by decide +kernel
theorem dX4_knot_28 : decode cX4_knot 28 = .ok (.iconst 0, 1) := by decide +kernel
theorem dX4_knot_29 : decode cX4_knot 29 = .ok (.goto 6, 3) := by decide +kernel
theorem dX4_knot_32 : decode cX4_knot 32 = .ok (.iload_n 3, 1) := by decide +kernel
theorem dX4_knot_33 : decode cX4_knot 33 = .ok (.iconst 1, 1) := by decide +kernel
theorem dX4_knot_34 : decode cX4_knot 34 = .ok (.iadd, 1) := by decide +kernel
theorem dX4_knot_35 : decode cX4_knot 35 = .ok (.istore_n 3, 1) := by decide +kernel
theorem dX4_knot_36 : decode cX4_knot 36 = .ok (.iload_n 3, 1) := by decide +kernel
theorem dX4_knot_37 : decode cX4_knot 37 = .ok (.iload_n 2, 1) := by decide +kernel
theorem dX4_knot_38 : decode cX4_knot 38 = .ok (.if_icmp .ne (-25), 3) := by decide +kernel
theorem dX4_knot_41 : decode cX4_knot 41 = .ok (.iconst 0, 1) := by decide +kernel
theorem dX4_knot_42 : decode cX4_knot 42 = .ok (.ireturn, 1) := by decide +kernel
theorem dX4_knot_43 : decode cX4_knot 43 = .ok (.aload_n 0, 1) := by decide +kernel
theorem dX4_knot_44 : decode cX4_knot 44 = .ok (.iload_n 1, 1) := by decide +kernel
theorem dX4_knot_45 : decode cX4_knot 45 = .ok (.invokevirtual 49, 3) := by decide +kernel
theorem dX4_knot_48 : decode cX4_knot 48 = .ok (.istore 4, 2) := by decide +kernel
theorem dX4_knot_50 : decode cX4_knot 50 = .ok (.aload_n 0, 1) := by decide +kernel
theorem dX4_knot_51 : decode cX4_knot 51 = .ok (.getfield 9, 3) := by decide +kernel
theorem dX4_knot_54 : decode cX4_knot 54 = .ok (.iload_n 1, 1) := by decide +kernel
theorem dX4_knot_55 : decode cX4_knot 55 = .ok (.iload 4, 2) := by decide +kernel
theorem dX4_knot_57 : decode cX4_knot 57 = .ok (.invokestatic 45, 3) := by decide +kernel
theorem dX4_knot_60 : decode cX4_knot 60 = .ok (.aaload, 1) := by decide +kernel
theorem dX4_knot_61 : decode cX4_knot 61 = .ok (.iload 4, 2) := by decide +kernel
theorem dX4_knot_63 : decode cX4_knot 63 = .ok (.bipush 6, 2) := by decide +kernel
theorem dX4_knot_65 : decode cX4_knot 65 = .ok (.idiv, 1) := by decide +kernel
theorem dX4_knot_66 : decode cX4_knot 66 = .ok (.iload_n 3, 1) := by decide +kernel
theorem dX4_knot_67 : decode cX4_knot 67 = .ok (.iastore, 1) := by decide +kernel
theorem dX4_knot_68 : decode cX4_knot 68 = .ok (.aload_n 0, 1) := by decide +kernel
theorem dX4_knot_69 : decode cX4_knot 69 = .ok (.getfield 29, 3) := by decide +kernel
theorem dX4_knot_72 : decode cX4_knot 72 = .ok (.iload_n 3, 1) := by decide +kernel
theorem dX4_knot_73 : decode cX4_knot 73 = .ok (.dup2, 1) := by decide +kernel
theorem dX4_knot_74 : decode cX4_knot 74 = .ok (.iaload, 1) := by decide +kernel
theorem dX4_knot_75 : decode cX4_knot 75 = .ok (.iconst 1, 1) := by decide +kernel
theorem dX4_knot_76 : decode cX4_knot 76 = .ok (.isub, 1) := by decide +kernel
theorem dX4_knot_77 : decode cX4_knot 77 = .ok (.iastore, 1) := by decide +kernel
theorem dX4_knot_78 : decode cX4_knot 78 = .ok (.aload_n 0, 1) := by decide +kernel
theorem dX4_knot_79 : decode cX4_knot 79 = .ok (.getfield 26, 3) := by decide +kernel
theorem dX4_knot_82 : decode cX4_knot 82 = .ok (.iload_n 1, 1) := by decide +kernel
theorem dX4_knot_83 : decode cX4_knot 83 = .ok (.dup2, 1) := by decide +kernel
theorem dX4_knot_84 : decode cX4_knot 84 = .ok (.iaload, 1) := by decide +kernel
theorem dX4_knot_85 : decode cX4_knot 85 = .ok (.iload_n 3, 1) := by decide +kernel
theorem dX4_knot_86 : decode cX4_knot 86 = .ok (.iload_n 2, 1) := by decide +kernel
theorem dX4_knot_87 : decode cX4_knot 87 = .ok (.if_icmp .ne 7, 3) := by decide +kernel
theorem dX4_knot_90 : decode cX4_knot 90 = .ok (.iconst 0, 1) := by decide +kernel
theorem dX4_knot_91 : decode cX4_knot 91 = .ok (.goto 4, 3) := by decide +kernel
theorem dX4_knot_94 : decode cX4_knot 94 = .ok (.iconst 1, 1) := by decide +kernel
theorem dX4_knot_95 : decode cX4_knot 95 = .ok (.iadd, 1) := by decide +kernel
theorem dX4_knot_96 : decode cX4_knot 96 = .ok (.iastore, 1) := by decide +kernel
theorem dX4_knot_97 : decode cX4_knot 97 = .ok (.aload_n 0, 1) := by decide +kernel
theorem dX4_knot_98 : decode cX4_knot 98 = .ok (.getfield 19, 3) := by decide +kernel
theorem dX4_knot_101 : decode cX4_knot 101 = .ok (.iload_n 1, 1) := by decide +kernel
theorem dX4_knot_102 : decode cX4_knot 102 = .ok (.aaload, 1) := by decide +kernel
theorem dX4_knot_103 : decode cX4_knot 103 = .ok (.iconst 0, 1) := by decide +kernel
theorem dX4_knot_104 : decode cX4_knot 104 = .ok (.aaload, 1) := by decide +kernel
theorem dX4_knot_105 : decode cX4_knot 105 = .ok (.iconst 1, 1) := by decide +kernel
theorem dX4_knot_106 : decode cX4_knot 106 = .ok (.dup2, 1) := by decide +kernel
theorem dX4_knot_107 : decode cX4_knot 107 = .ok (.iaload, 1) := by decide +kernel
theorem dX4_knot_108 : decode cX4_knot 108 = .ok (.iconst 1, 1) := by decide +kernel
theorem dX4_knot_109 : decode cX4_knot 109 = .ok (.isub, 1) := by decide +kernel
theorem dX4_knot_110 : decode cX4_knot 110 = .ok (.iastore, 1) := by decide +kernel
theorem dX4_knot_111 : decode cX4_knot 111 = .ok (.aload_n 0, 1) := by decide +kernel
theorem dX4_knot_112 : decode cX4_knot 112 = .ok (.getfield 19, 3) := by decide +kernel
theorem dX4_knot_115 : decode cX4_knot 115 = .ok (.iload_n 1, 1) := by decide +kernel
theorem dX4_knot_116 : decode cX4_knot 116 = .ok (.aaload, 1) := by decide +kernel
theorem dX4_knot_117 : decode cX4_knot 117 = .ok (.iconst 0, 1) := by decide +kernel
theorem dX4_knot_118 : decode cX4_knot 118 = .ok (.aaload, 1) := by decide +kernel
theorem dX4_knot_119 : decode cX4_knot 119 = .ok (.iconst 1, 1) := by decide +kernel
theorem dX4_knot_120 : decode cX4_knot 120 = .ok (.iaload, 1) := by decide +kernel
theorem dX4_knot_121 : decode cX4_knot 121 = .ok (.ifCond .le 5, 3) := by decide +kernel
theorem dX4_knot_124 : decode cX4_knot 124 = .ok (.iconst 1, 1) := by decide +kernel
theorem dX4_knot_125 : decode cX4_knot 125 = .ok (.ireturn, 1) := by decide +kernel
theorem dX4_knot_126 : decode cX4_knot 126 = .ok (.aload_n 0, 1) := by decide +kernel
theorem dX4_knot_127 : decode cX4_knot 127 = .ok (.getfield 19, 3) := by decide +kernel
theorem dX4_knot_130 : decode cX4_knot 130 = .ok (.iload_n 1, 1) := by decide +kernel
theorem dX4_knot_131 : decode cX4_knot 131 = .ok (.aaload, 1) := by decide +kernel
theorem dX4_knot_132 : decode cX4_knot 132 = .ok (.arraylength, 1) := by decide +kernel
theorem dX4_knot_133 : decode cX4_knot 133 = .ok (.iconst 1, 1) := by decide +kernel
theorem dX4_knot_134 : decode cX4_knot 134 = .ok (.isub, 1) := by decide +kernel
theorem dX4_knot_135 : decode cX4_knot 135 = .ok (.anewarray 33, 3) := by decide +kernel
theorem dX4_knot_138 : decode cX4_knot 138 = .ok (.astore 5, 2) := by decide +kernel
theorem dX4_knot_140 : decode cX4_knot 140 = .ok (.iconst 0, 1) := by decide +kernel
theorem dX4_knot_141 : decode cX4_knot 141 = .ok (.istore 6, 2) := by decide +kernel
theorem dX4_knot_143 : decode cX4_knot 143 = .ok (.iload 6, 2) := by decide +kernel
theorem dX4_knot_145 : decode cX4_knot 145 = .ok (.aload 5, 2) := by decide +kernel
theorem dX4_knot_147 : decode cX4_knot 147 = .ok (.arraylength, 1) := by decide +kernel
theorem dX4_knot_148 : decode cX4_knot 148 = .ok (.if_icmp .ge 25, 3) := by decide +kernel
theorem dX4_knot_151 : decode cX4_knot 151 = .ok (.aload 5, 2) := by decide +kernel
theorem dX4_knot_153 : decode cX4_knot 153 = .ok (.iload 6, 2) := by decide +kernel
theorem dX4_knot_155 : decode cX4_knot 155 = .ok (.aload_n 0, 1) := by decide +kernel
theorem dX4_knot_156 : decode cX4_knot 156 = .ok (.getfield 19, 3) := by decide +kernel
theorem dX4_knot_159 : decode cX4_knot 159 = .ok (.iload_n 1, 1) := by decide +kernel
theorem dX4_knot_160 : decode cX4_knot 160 = .ok (.aaload, 1) := by decide +kernel
theorem dX4_knot_161 : decode cX4_knot 161 = .ok (.iload 6, 2) := by decide +kernel
theorem dX4_knot_163 : decode cX4_knot 163 = .ok (.iconst 1, 1) := by decide +kernel
theorem dX4_knot_164 : decode cX4_knot 164 = .ok (.iadd, 1) := by decide +kernel
theorem dX4_knot_165 : decode cX4_knot 165 = .ok (.aaload, 1) := by decide +kernel
theorem dX4_knot_166 : decode cX4_knot 166 = .ok (.aastore, 1) := by decide +kernel
theorem dX4_knot_167 : decode cX4_knot 167 = .ok (.iinc 6 1, 3) := by decide +kernel
theorem dX4_knot_170 : decode cX4_knot 170 = .ok (.goto (-27), 3) := by decide +kernel
theorem dX4_knot_173 : decode cX4_knot 173 = .ok (.aload_n 0, 1) := by decide +kernel
theorem dX4_knot_174 : decode cX4_knot 174 = .ok (.getfield 19, 3) := by decide +kernel
theorem dX4_knot_177 : decode cX4_knot 177 = .ok (.iload_n 1, 1) := by decide +kernel
theorem dX4_knot_178 : decode cX4_knot 178 = .ok (.aload 5, 2) := by decide +kernel
theorem dX4_knot_180 : decode cX4_knot 180 = .ok (.aastore, 1) := by decide +kernel
theorem dX4_knot_181 : decode cX4_knot 181 = .ok (.iconst 1, 1) := by decide +kernel
theorem dX4_knot_182 : decode cX4_knot 182 = .ok (.ireturn, 1) := by decide +kernel
set_option maxRecDepth 20000 in
theorem ggX4_pass_X4_isDone : GoodIn wsX4_pass wsX4_isDone := goodIn_r _ [7, 8, 9, 10, 11, 6, 12, 13, 14, 15, 16, 24, 25, 26, 27, 28, 29, 30, 31] (by decide +kernel) (by decide +kernel)
set_option maxRecDepth 20000 in
theorem gX4_pass_X4_isDone : GoodIn wsX4_pass (wsV RX4 53 RX4 yX4_isDone wsX4_isDone) := goodIn_app (goodIn_of _ (by decide +kernel)) ggX4_pass_X4_isDone
set_option maxRecDepth 20000 in
theorem ggX4_pass_X4_knot : GoodIn wsX4_pass wsX4_knot := goodIn_r _ [20, 8, 21, 13, 22, 23, 9, 10, 11, 6, 12, 14, 15, 16, 24, 25, 26, 27, 28, 29, 30, 31] (by decide +kernel) (by decide +kernel)
set_option maxRecDepth 20000 in
theorem gX4_pass_X4_knot : GoodIn wsX4_pass (wsV RX4 57 RX4 yX4_knot wsX4_knot) := goodIn_app (goodIn_of _ (by decide +kernel)) ggX4_pass_X4_knot
theorem dX4_pass_0 : decode cX4_pass 0 = .ok (.iconst 0, 1) := by decide +kernel
theorem dX4_pass_1 : decode cX4_pass 1 = .ok (.istore_n 1, 1) := by decide +kernel
theorem dX4_pass_2 : decode cX4_pass 2 = .ok (.iconst 0, 1) := by decide +kernel
theorem dX4_pass_3 : decode cX4_pass 3 = .ok (.istore_n 2, 1) := by decide +kernel
theorem dX4_pass_4 : decode cX4_pass 4 = .ok (.iload_n 2, 1) := by decide +kernel
theorem dX4_pass_5 : decode cX4_pass 5 = .ok (.iconst 2, 1) := by decide +kernel
theorem dX4_pass_6 : decode cX4_pass 6 = .ok (.if_icmp .ge 49, 3) := by decide +kernel
theorem dX4_pass_9 : decode cX4_pass 9 = .ok (.iconst 0, 1) := by decide +kernel
theorem dX4_pass_10 : decode cX4_pass 10 = .ok (.istore_n 3, 1) := by decide +kernel
theorem dX4_pass_11 : decode cX4_pass 11 = .ok (.iload_n 3, 1) := by decide +kernel
theorem dX4_pass_12 : decode cX4_pass 12 = .ok (.aload_n 0, 1) := by decide +kernel
theorem dX4_pass_13 : decode cX4_pass 13 = .ok (.getfield 22, 3) := by decide +kernel
theorem dX4_pass_16 : decode cX4_pass 16 = .ok (.iload_n 2, 1) := by decide +kernel
theorem dX4_pass_17 : decode cX4_pass 17 = .ok (.iaload, 1) := by decide +kernel
theorem dX4_pass_18 : decode cX4_pass 18 = .ok (.if_icmp .ge 31, 3) := by decide +kernel
theorem dX4_pass_21 : decode cX4_pass 21 = .ok (.aload_n 0, 1) := by decide +kernel
theorem dX4_pass_22 : decode cX4_pass 22 = .ok (.iload_n 2, 1) := by decide +kernel
theorem dX4_pass_23 : decode cX4_pass 23 = .ok (.invokevirtual 53, 3) := by decide +kernel
theorem dX4_pass_26 : decode cX4_pass 26 = .ok (.ifCond .ne 23, 3) := by decide +kernel
theorem dX4_pass_29 : decode cX4_pass 29 = .ok (.aload_n 0, 1) := by decide +kernel
theorem dX4_pass_30 : decode cX4_pass 30 = .ok (.iload_n 2, 1) := by decide +kernel
theorem dX4_pass_31 : decode cX4_pass 31 = .ok (.invokevirtual 57, 3) := by decide +kernel
theorem dX4_pass_34 : decode cX4_pass 34 = .ok (.ifCond .ne 6, 3) := by decide +kernel
theorem dX4_pass_37 : decode cX4_pass 37 = .ok (.goto 12, 3) := by decide +kernel
theorem dX4_pass_40 : decode cX4_pass 40 = .ok (.iinc 1 1, 3) := by decide +kernel
theorem dX4_pass_43 : decode cX4_pass 43 = .ok (.iinc 3 1, 3) := by decide +kernel
theorem dX4_pass_46 : decode cX4_pass 46 = .ok (.goto (-35), 3) := by decide +kernel
theorem dX4_pass_49 : decode cX4_pass 49 = .ok (.iinc 2 1, 3) := by decide +kernel
theorem dX4_pass_52 : decode cX4_pass 52 = .ok (.goto (-48), 3) := by decide +kernel
theorem dX4_pass_55 : decode cX4_pass 55 = .ok (.aload_n 0, 1) := by decide +kernel
theorem dX4_pass_56 : decode cX4_pass 56 = .ok (.dup, 1) := by decide +kernel
theorem dX4_pass_57 : decode cX4_pass 57 = .ok (.getfield 38, 3) := by decide +kernel
theorem dX4_pass_60 : decode cX4_pass 60 = .ok (.iconst 1, 1) := by decide +kernel
theorem dX4_pass_61 : decode cX4_pass 61 = .ok (.iadd, 1) := by decide +kernel
theorem dX4_pass_62 : decode cX4_pass 62 = .ok (.putfield 38, 3) := by decide +kernel
theorem dX4_pass_65 : decode cX4_pass 65 = .ok (.iload_n 1, 1) := by decide +kernel
theorem dX4_pass_66 : decode cX4_pass 66 = .ok (.ireturn, 1) := by decide +kernel
set_option maxRecDepth 20000 in
theorem ggX4_unpick_X4_knots : GoodIn wsX4_unpick wsX4_knots := goodIn_r _ [8, 1, 9, 10, 7, 11, 12, 13, 14, 15, 16, 17, 18, 19] (by decide +kernel) (by decide +kernel)
set_option maxRecDepth 20000 in
theorem gX4_unpick_X4_knots : GoodIn wsX4_unpick (wsV RX4 49 RX4 yX4_knots wsX4_knots) := goodIn_app (goodIn_of _ (by decide +kernel)) ggX4_unpick_X4_knots
set_option maxRecDepth 20000 in
theorem ggX4_unpick_X4_x : GoodIn wsX4_unpick wsX4_x := goodIn_r _ [11] (by decide +kernel) (by decide +kernel)
set_option maxRecDepth 20000 in
theorem gX4_unpick_X4_x : GoodIn wsX4_unpick (va_wsS RX4 45 yX4_x wsX4_x) := goodIn_app (goodIn_of _ (by decide +kernel)) ggX4_unpick_X4_x
theorem dX4_unpick_0 : decode cX4_unpick 0 = .ok (.aload_n 0, 1) := by decide +kernel
theorem dX4_unpick_1 : decode cX4_unpick 1 = .ok (.iload_n 1, 1) := by decide +kernel
theorem dX4_unpick_2 : decode cX4_unpick 2 = .ok (.invokevirtual 49, 3) := by decide +kernel
theorem dX4_unpick_5 : decode cX4_unpick 5 = .ok (.istore_n 3, 1) := by decide +kernel
theorem dX4_unpick_6 : decode cX4_unpick 6 = .ok (.iconst 0, 1) := by decide +kernel
theorem dX4_unpick_7 : decode cX4_unpick 7 = .ok (.istore 4, 2) := by decide +kernel
theorem dX4_unpick_9 : decode cX4_unpick 9 = .ok (.iload 4, 2) := by decide +kernel
theorem dX4_unpick_11 : decode cX4_unpick 11 = .ok (.iload_n 2, 1) := by decide +kernel
theorem dX4_unpick_12 : decode cX4_unpick 12 = .ok (.if_icmp .ge 79, 3) := by decide +kernel
theorem dX4_unpick_15 : decode cX4_unpick 15 = .ok (.iinc 3 (-1), 3) := by decide +kernel
theorem dX4_unpick_18 : decode cX4_unpick 18 = .ok (.aload_n 0, 1) := by decide +kernel
theorem dX4_unpick_19 : decode cX4_unpick 19 = .ok (.getfield 9, 3) := by decide +kernel
theorem dX4_unpick_22 : decode cX4_unpick 22 = .ok (.iload_n 1, 1) := by decide +kernel
theorem dX4_unpick_23 : decode cX4_unpick 23 = .ok (.iload_n 3, 1) := by decide +kernel
theorem dX4_unpick_24 : decode cX4_unpick 24 = .ok (.invokestatic 45, 3) := by decide +kernel
theorem dX4_unpick_27 : decode cX4_unpick 27 = .ok (.aaload, 1) := by decide +kernel
theorem dX4_unpick_28 : decode cX4_unpick 28 = .ok (.iload_n 3, 1) := by decide +kernel
theorem dX4_unpick_29 : decode cX4_unpick 29 = .ok (.bipush 6, 2) := by decide +kernel
theorem dX4_unpick_31 : decode cX4_unpick 31 = .ok (.idiv, 1) := by decide +kernel
theorem dX4_unpick_32 : decode cX4_unpick 32 = .ok (.iaload, 1) := by decide +kernel
theorem dX4_unpick_33 : decode cX4_unpick 33 = .ok (.istore 5, 2) := by decide +kernel
theorem dX4_unpick_35 : decode cX4_unpick 35 = .ok (.aload_n 0, 1) := by decide +kernel
theorem dX4_unpick_36 : decode cX4_unpick 36 = .ok (.getfield 29, 3) := by decide +kernel
theorem dX4_unpick_39 : decode cX4_unpick 39 = .ok (.iload 5, 2) := by decide +kernel
theorem dX4_unpick_41 : decode cX4_unpick 41 = .ok (.iaload, 1) := by decide +kernel
theorem dX4_unpick_42 : decode cX4_unpick 42 = .ok (.sipush 200, 3) := by decide +kernel
theorem dX4_unpick_45 : decode cX4_unpick 45 = .ok (.if_icmp .ge 14, 3) := by decide +kernel
theorem dX4_unpick_48 : decode cX4_unpick 48 = .ok (.aload_n 0, 1) := by decide +kernel
theorem dX4_unpick_49 : decode cX4_unpick 49 = .ok (.getfield 29, 3) := by decide +kernel
theorem dX4_unpick_52 : decode cX4_unpick 52 = .ok (.iload 5, 2) := by decide +kernel
theorem dX4_unpick_54 : decode cX4_unpick 54 = .ok (.dup2, 1) := by decide +kernel
theorem dX4_unpick_55 : decode cX4_unpick 55 = .ok (.iaload, 1) := by decide +kernel
theorem dX4_unpick_56 : decode cX4_unpick 56 = .ok (.iconst 1, 1) := by decide +kernel
theorem dX4_unpick_57 : decode cX4_unpick 57 = .ok (.iadd, 1) := by decide +kernel
theorem dX4_unpick_58 : decode cX4_unpick 58 = .ok (.iastore, 1) := by decide +kernel
theorem dX4_unpick_59 : decode cX4_unpick 59 = .ok (.aload_n 0, 1) := by decide +kernel
theorem dX4_unpick_60 : decode cX4_unpick 60 = .ok (.getfield 9, 3) := by decide +kernel
theorem dX4_unpick_63 : decode cX4_unpick 63 = .ok (.iload_n 1, 1) := by decide +kernel
theorem dX4_unpick_64 : decode cX4_unpick 64 = .ok (.iload_n 3, 1) := by decide +kernel
theorem dX4_unpick_65 : decode cX4_unpick 65 = .ok (.invokestatic 45, 3) := by decide +kernel
theorem dX4_unpick_68 : decode cX4_unpick 68 = .ok (.aaload, 1) := by decide +kernel
theorem dX4_unpick_69 : decode cX4_unpick 69 = .ok (.iload_n 3, 1) := by decide +kernel
theorem dX4_unpick_70 : decode cX4_unpick 70 = .ok (.bipush 6, 2) := by decide +kernel
theorem dX4_unpick_72 : decode cX4_unpick 72 = .ok (.idiv, 1) := by decide +kernel
theorem dX4_unpick_73 : decode cX4_unpick 73 = .ok (.iconst (-1), 1) := by decide +kernel
theorem dX4_unpick_74 : decode cX4_unpick 74 = .ok (.iastore, 1) := by decide +kernel
theorem dX4_unpick_75 : decode cX4_unpick 75 = .ok (.aload_n 0, 1) := by decide +kernel
theorem dX4_unpick_76 : decode cX4_unpick 76 = .ok (.dup, 1) := by decide +kernel
theorem dX4_unpick_77 : decode cX4_unpick 77 = .ok (.getfield 42, 3) := by decide +kernel
theorem dX4_unpick_80 : decode cX4_unpick 80 = .ok (.iconst 1, 1) := by decide +kernel
theorem dX4_unpick_81 : decode cX4_unpick 81 = .ok (.iadd, 1) := by decide +kernel
theorem dX4_unpick_82 : decode cX4_unpick 82 = .ok (.putfield 42, 3) := by decide +kernel
theorem dX4_unpick_85 : decode cX4_unpick 85 = .ok (.iinc 4 1, 3) := by decide +kernel
theorem dX4_unpick_88 : decode cX4_unpick 88 = .ok (.goto (-79), 3) := by decide +kernel
theorem dX4_unpick_91 : decode cX4_unpick 91 = .ok (.iload_n 3, 1) := by decide +kernel
theorem dX4_unpick_92 : decode cX4_unpick 92 = .ok (.ireturn, 1) := by decide +kernel
theorem dX4_differ_0 : decode cX4_differ 0 = .ok (.iconst 0, 1) := by decide +kernel
theorem dX4_differ_1 : decode cX4_differ 1 = .ok (.istore_n 1, 1) := by decide +kernel
theorem dX4_differ_2 : decode cX4_differ 2 = .ok (.iconst 0, 1) := by decide +kernel
theorem dX4_differ_3 : decode cX4_differ 3 = .ok (.istore_n 2, 1) := by decide +kernel
theorem dX4_differ_4 : decode cX4_differ 4 = .ok (.iload_n 2, 1) := by decide +kernel
theorem dX4_differ_5 : decode cX4_differ 5 = .ok (.bipush 12, 2) := by decide +kernel
theorem dX4_differ_7 : decode cX4_differ 7 = .ok (.if_icmp .ge 61, 3) := by decide +kernel
theorem dX4_differ_10 : decode cX4_differ 10 = .ok (.iconst 0, 1) := by decide +kernel
theorem dX4_differ_11 : decode cX4_differ 11 = .ok (.istore_n 3, 1) := by decide +kernel
theorem dX4_differ_12 : decode cX4_differ 12 = .ok (.iload_n 3, 1) := by decide +kernel
theorem dX4_differ_13 : decode cX4_differ 13 = .ok (.bipush 10, 2) := by decide +kernel
theorem dX4_differ_15 : decode cX4_differ 15 = .ok (.if_icmp .ge 47, 3) := by decide +kernel
theorem dX4_differ_18 : decode cX4_differ 18 = .ok (.iload_n 1, 1) := by decide +kernel
theorem dX4_differ_19 : decode cX4_differ 19 = .ok (.aload_n 0, 1) := by decide +kernel
theorem dX4_differ_20 : decode cX4_differ 20 = .ok (.getfield 9, 3) := by decide +kernel
theorem dX4_differ_23 : decode cX4_differ 23 = .ok (.iload_n 2, 1) := by decide +kernel
theorem dX4_differ_24 : decode cX4_differ 24 = .ok (.aaload, 1) := by decide +kernel
theorem dX4_differ_25 : decode cX4_differ 25 = .ok (.iload_n 3, 1) := by decide +kernel
theorem dX4_differ_26 : decode cX4_differ 26 = .ok (.iaload, 1) := by decide +kernel
theorem dX4_differ_27 : decode cX4_differ 27 = .ok (.ifCond .lt 26, 3) := by decide +kernel
theorem dX4_differ_30 : decode cX4_differ 30 = .ok (.aload_n 0, 1) := by decide +kernel
theorem dX4_differ_31 : decode cX4_differ 31 = .ok (.getfield 9, 3) := by decide +kernel
theorem dX4_differ_34 : decode cX4_differ 34 = .ok (.iload_n 2, 1) := by decide +kernel
theorem dX4_differ_35 : decode cX4_differ 35 = .ok (.aaload, 1) := by decide +kernel
theorem dX4_differ_36 : decode cX4_differ 36 = .ok (.iload_n 3, 1) := by decide +kernel
theorem dX4_differ_37 : decode cX4_differ 37 = .ok (.iaload, 1) := by decide +kernel
theorem dX4_differ_38 : decode cX4_differ 38 = .ok (.aload_n 0, 1) := by decide +kernel
theorem dX4_differ_39 : decode cX4_differ 39 = .ok (.getfield 14, 3) := by decide +kernel
theorem dX4_differ_42 : decode cX4_differ 42 = .ok (.iload_n 2, 1) := by decide +kernel
theorem dX4_differ_43 : decode cX4_differ 43 = .ok (.aaload, 1) := by decide +kernel
theorem dX4_differ_44 : decode cX4_differ 44 = .ok (.iload_n 3, 1) := by decide +kernel
theorem dX4_differ_45 : decode cX4_differ 45 = .ok (.iaload, 1) := by decide +kernel
theorem dX4_differ_46 : decode cX4_differ 46 = .ok (.if_icmp .eq 7, 3) := by decide +kernel
theorem dX4_differ_49 : decode cX4_differ 49 = .ok (.iconst 1, 1) := by decide +kernel
theorem dX4_differ_50 : decode cX4_differ 50 = .ok (.goto 4, 3) := by decide +kernel
theorem dX4_differ_53 : decode cX4_differ 53 = .ok (.iconst 0, 1) := by decide +kernel
theorem dX4_differ_54 : decode cX4_differ 54 = .ok (.iadd, 1) := by decide +kernel
theorem dX4_differ_55 : decode cX4_differ 55 = .ok (.istore_n 1, 1) := by decide +kernel
theorem dX4_differ_56 : decode cX4_differ 56 = .ok (.iinc 3 1, 3) := by decide +kernel
theorem dX4_differ_59 : decode cX4_differ 59 = .ok (.goto (-47), 3) := by decide +kernel
theorem dX4_differ_62 : decode cX4_differ 62 = .ok (.iinc 2 1, 3) := by decide +kernel
theorem dX4_differ_65 : decode cX4_differ 65 = .ok (.goto (-61), 3) := by decide +kernel
theorem dX4_differ_68 : decode cX4_differ 68 = .ok (.iload_n 1, 1) := by decide +kernel
theorem dX4_differ_69 : decode cX4_differ 69 = .ok (.ireturn, 1) := by decide +kernel
set_option maxRecDepth 20000 in
theorem ggX4_isRow_X4_x : GoodIn wsX4_isRow wsX4_x := goodIn_r _ [5] (by decide +kernel) (by decide +kernel)
set_option maxRecDepth 20000 in
theorem gX4_isRow_X4_x : GoodIn wsX4_isRow (va_wsS RX4 45 yX4_x wsX4_x) := goodIn_app (goodIn_of _ (by decide +kernel)) ggX4_isRow_X4_x
theorem dX4_isRow_0 : decode cX4_isRow 0 = .ok (.iconst 0, 1) := by decide +kernel
theorem dX4_isRow_1 : decode cX4_isRow 1 = .ok (.istore_n 3, 1) := by decide +kernel
theorem dX4_isRow_2 : decode cX4_isRow 2 = .ok (.iload_n 3, 1) := by decide +kernel
theorem dX4_isRow_3 : decode cX4_isRow 3 = .ok (.bipush 6, 2) := by decide +kernel
theorem dX4_isRow_5 : decode cX4_isRow 5 = .ok (.if_icmp .ge 26, 3) := by decide +kernel
theorem dX4_isRow_8 : decode cX4_isRow 8 = .ok (.aload_n 0, 1) := by decide +kernel
theorem dX4_isRow_9 : decode cX4_isRow 9 = .ok (.getfield 9, 3) := by decide +kernel
theorem dX4_isRow_12 : decode cX4_isRow 12 = .ok (.iload_n 1, 1) := by decide +kernel
theorem dX4_isRow_13 : decode cX4_isRow 13 = .ok (.iload_n 3, 1) := by decide +kernel
theorem dX4_isRow_14 : decode cX4_isRow 14 = .ok (.invokestatic 45, 3) := by decide +kernel
theorem dX4_isRow_17 : decode cX4_isRow 17 = .ok (.aaload, 1) := by decide +kernel
theorem dX4_isRow_18 : decode cX4_isRow 18 = .ok (.iload_n 2, 1) := by decide +kernel
theorem dX4_isRow_19 : decode cX4_isRow 19 = .ok (.iaload, 1) := by decide +kernel
theorem dX4_isRow_20 : decode cX4_isRow 20 = .ok (.ifCond .ge 5, 3) := by decide +kernel
theorem dX4_isRow_23 : decode cX4_isRow 23 = .ok (.iconst 0, 1) := by decide +kernel
theorem dX4_isRow_24 : decode cX4_isRow 24 = .ok (.ireturn, 1) := by decide +kernel
theorem dX4_isRow_25 : decode cX4_isRow 25 = .ok (.iinc 3 1, 3) := by decide +kernel
theorem dX4_isRow_28 : decode cX4_isRow 28 = .ok (.goto (-26), 3) := by decide +kernel
theorem dX4_isRow_31 : decode cX4_isRow 31 = .ok (.iconst 1, 1) := by decide +kernel
theorem dX4_isRow_32 : decode cX4_isRow 32 = .ok (.ireturn, 1) := by decide +kernel
set_option maxRecDepth 20000 in
theorem ggX4_rows_X4_isRow : GoodIn wsX4_rows wsX4_isRow := goodIn_r _ [7, 1, 8, 9, 6, 10, 11, 12, 13, 14, 15, 16, 17, 18] (by decide +kernel) (by decide +kernel)
set_option maxRecDepth 20000 in
theorem gX4_rows_X4_isRow : GoodIn wsX4_rows (wsV RX4 60 RX4 yX4_isRow wsX4_isRow) := goodIn_app (goodIn_of _ (by decide +kernel)) ggX4_rows_X4_isRow
theorem dX4_rows_0 : decode cX4_rows 0 = .ok (.iconst 0, 1) := by decide +kernel
theorem dX4_rows_1 : decode cX4_rows 1 = .ok (.istore_n 2, 1) := by decide +kernel
theorem dX4_rows_2 : decode cX4_rows 2 = .ok (.iconst 0, 1) := by decide +kernel
theorem dX4_rows_3 : decode cX4_rows 3 = .ok (.istore_n 3, 1) := by decide +kernel
theorem dX4_rows_4 : decode cX4_rows 4 = .ok (.iload_n 3, 1) := by decide +kernel
theorem dX4_rows_5 : decode cX4_rows 5 = .ok (.bipush 10, 2) := by decide +kernel
theorem dX4_rows_7 : decode cX4_rows 7 = .ok (.if_icmp .ge 103, 3) := by decide +kernel
theorem dX4_rows_10 : decode cX4_rows 10 = .ok (.aload_n 0, 1) := by decide +kernel
theorem dX4_rows_11 : decode cX4_rows 11 = .ok (.iconst 0, 1) := by decide +kernel
theorem dX4_rows_12 : decode cX4_rows 12 = .ok (.iload_n 3, 1) := by decide +kernel
theorem dX4_rows_13 : decode cX4_rows 13 = .ok (.invokevirtual 60, 3) := by decide +kernel
theorem dX4_rows_16 : decode cX4_rows 16 = .ok (.ifCond .eq 88, 3) := by decide +kernel
theorem dX4_rows_19 : decode cX4_rows 19 = .ok (.aload_n 0, 1) := by decide +kernel
theorem dX4_rows_20 : decode cX4_rows 20 = .ok (.iconst 1, 1) := by decide +kernel
theorem dX4_rows_21 : decode cX4_rows 21 = .ok (.iload_n 3, 1) := by decide +kernel
theorem dX4_rows_22 : decode cX4_rows 22 = .ok (.invokevirtual 60, 3) := by decide +kernel
theorem dX4_rows_25 : decode cX4_rows 25 = .ok (.ifCond .ne 6, 3) := by decide +kernel
theorem dX4_rows_28 : decode cX4_rows 28 = .ok (.goto 76, 3) := by decide +kernel
theorem dX4_rows_31 : decode cX4_rows 31 = .ok (.aload_n 0, 1) := by decide +kernel
theorem dX4_rows_32 : decode cX4_rows 32 = .ok (.getfield 9, 3) := by decide +kernel
theorem dX4_rows_35 : decode cX4_rows 35 = .ok (.iconst 5, 1) := by decide +kernel
theorem dX4_rows_36 : decode cX4_rows 36 = .ok (.aaload, 1) := by decide +kernel
theorem dX4_rows_37 : decode cX4_rows 37 = .ok (.iload_n 3, 1) := by decide +kernel
theorem dX4_rows_38 : decode cX4_rows 38 = .ok (.iaload, 1) := by decide +kernel
theorem dX4_rows_39 : decode cX4_rows 39 = .ok (.aload_n 0, 1) := by decide +kernel
theorem dX4_rows_40 : decode cX4_rows 40 = .ok (.getfield 9, 3) := by decide +kernel
theorem dX4_rows_43 : decode cX4_rows 43 = .ok (.bipush 6, 2) := by decide +kernel
theorem dX4_rows_45 : decode cX4_rows 45 = .ok (.aaload, 1) := by decide +kernel
theorem dX4_rows_46 : decode cX4_rows 46 = .ok (.iload_n 3, 1) := by decide +kernel
theorem dX4_rows_47 : decode cX4_rows 47 = .ok (.iaload, 1) := by decide +kernel
theorem dX4_rows_48 : decode cX4_rows 48 = .ok (.if_icmp .ne 7, 3) := by decide +kernel
theorem dX4_rows_51 : decode cX4_rows 51 = .ok (.iconst 1, 1) := by decide +kernel
theorem dX4_rows_52 : decode cX4_rows 52 = .ok (.goto 4, 3) := by decide +kernel
theorem dX4_rows_55 : decode cX4_rows 55 = .ok (.iconst 0, 1) := by decide +kernel
theorem dX4_rows_56 : decode cX4_rows 56 = .ok (.istore 4, 2) := by decide +kernel
theorem dX4_rows_58 : decode cX4_rows 58 = .ok (.aload_n 0, 1) := by decide +kernel
theorem dX4_rows_59 : decode cX4_rows 59 = .ok (.getfield 14, 3) := by decide +kernel
theorem dX4_rows_62 : decode cX4_rows 62 = .ok (.iconst 5, 1) := by decide +kernel
theorem dX4_rows_63 : decode cX4_rows 63 = .ok (.aaload, 1) := by decide +kernel
theorem dX4_rows_64 : decode cX4_rows 64 = .ok (.iload_n 3, 1) := by decide +kernel
theorem dX4_rows_65 : decode cX4_rows 65 = .ok (.iaload, 1) := by decide +kernel
theorem dX4_rows_66 : decode cX4_rows 66 = .ok (.aload_n 0, 1) := by decide +kernel
theorem dX4_rows_67 : decode cX4_rows 67 = .ok (.getfield 14, 3) := by decide +kernel
theorem dX4_rows_70 : decode cX4_rows 70 = .ok (.bipush 6, 2) := by decide +kernel
theorem dX4_rows_72 : decode cX4_rows 72 = .ok (.aaload, 1) := by decide +kernel
theorem dX4_rows_73 : decode cX4_rows 73 = .ok (.iload_n 3, 1) := by decide +kernel
theorem dX4_rows_74 : decode cX4_rows 74 = .ok (.iaload, 1) := by decide +kernel
theorem dX4_rows_75 : decode cX4_rows 75 = .ok (.if_icmp .ne 7, 3) := by decide +kernel
theorem dX4_rows_78 : decode cX4_rows 78 = .ok (.iconst 1, 1) := by decide +kernel
theorem dX4_rows_79 : decode cX4_rows 79 = .ok (.goto 4, 3) := by decide +kernel
theorem dX4_rows_82 : decode cX4_rows 82 = .ok (.iconst 0, 1) := by decide +kernel
theorem dX4_rows_83 : decode cX4_rows 83 = .ok (.istore 5, 2) := by decide +kernel
theorem dX4_rows_85 : decode cX4_rows 85 = .ok (.iload_n 2, 1) := by decide +kernel
theorem dX4_rows_86 : decode cX4_rows 86 = .ok (.iload_n 1, 1) := by decide +kernel
theorem dX4_rows_87 : decode cX4_rows 87 = .ok (.ifCond .eq 10, 3) := by decide +kernel
theorem dX4_rows_90 : decode cX4_rows 90 = .ok (.iload 4, 2) := by decide +kernel
theorem dX4_rows_92 : decode cX4_rows 92 = .ok (.iload 5, 2) := by decide +kernel
theorem dX4_rows_94 : decode cX4_rows 94 = .ok (.if_icmp .eq 7, 3) := by decide +kernel
theorem dX4_rows_97 : decode cX4_rows 97 = .ok (.iconst 1, 1) := by decide +kernel
theorem dX4_rows_98 : decode cX4_rows 98 = .ok (.goto 4, 3) := by decide +kernel
theorem dX4_rows_101 : decode cX4_rows 101 = .ok (.iconst 0, 1) := by decide +kernel
theorem dX4_rows_102 : decode cX4_rows 102 = .ok (.iadd, 1) := by decide +kernel
theorem dX4_rows_103 : decode cX4_rows 103 = .ok (.istore_n 2, 1) := by decide +kernel
theorem dX4_rows_104 : decode cX4_rows 104 = .ok (.iinc 3 1, 3) := by decide +kernel
theorem dX4_rows_107 : decode cX4_rows 107 = .ok (.goto (-103), 3) := by decide +kernel
theorem dX4_rows_110 : decode cX4_rows 110 = .ok (.iload_n 2, 1) := by decide +kernel
theorem dX4_rows_111 : decode cX4_rows 111 = .ok (.ireturn, 1) := by decide +kernel
set_option maxRecDepth 20000 in
theorem ggX4_isSame_X3_wool : GoodIn wsX4_isSame wsX3_wool := goodIn_ca (goodIn_r _ [14, 15, 16, 17, 13, 18, 19, 20, 21, 22, 23, 24, 25, 26, 196, 197, 198, 199, 200, 201, 202, 203] (by decide +kernel) (by decide +kernel)) (goodIn_sub (fun _ h => List.mem_cons_of_mem _ (List.mem_append_left _ (List.mem_append_right _ h))) (by decide +kernel))
set_option maxRecDepth 20000 in
theorem gX4_isSame_X3_wool : GoodIn wsX4_isSame (wsV RX4 64 RX3 yX3_wool wsX3_wool) := goodIn_app (goodIn_of _ (by decide +kernel)) ggX4_isSame_X3_wool
set_option maxRecDepth 20000 in
theorem ggX4_isSame_X3_cell : GoodIn wsX4_isSame wsX3_cell := goodIn_ca (goodIn_r _ [30, 15, 31, 32, 13, 33, 34, 35, 36, 37, 38, 39, 40, 41, 42, 43, 44, 45, 46, 47, 48, 49, 50, 51, 52, 53, 54, 55, 56, 57, 58, 59, 60, 61, 62, 63, 64, 25, 26, 65, 66, 67, 68, 196, 197, 198, 199, 200, 201, 202, 204, 205, 206, 207, 208, 209, 210, 211, 212] (by decide +kernel) (by decide +kernel)) (goodIn_sub (fun _ h => List.mem_cons_of_mem _ (List.mem_append_right _ h)) (by decide +kernel))
set_option maxRecDepth 20000 in
theorem gX4_isSame_X3_cell : GoodIn wsX4_isSame (wsV RX4 68 RX3 yX3_cell wsX3_cell) := goodIn_app (goodIn_of _ (by decide +kernel)) ggX4_isSame_X3_cell
set_option maxRecDepth 20000 in
theorem ggX4_isSame_X4_isRow : GoodIn wsX4_isSame wsX4_isRow := goodIn_r _ [73, 2, 74, 75, 72, 76, 188, 189, 190, 191, 192, 193, 194, 195] (by decide +kernel) (by decide +kernel)
set_option maxRecDepth 20000 in
theorem gX4_isSame_X4_isRow : GoodIn wsX4_isSame (wsV RX4 60 RX4 yX4_isRow wsX4_isRow) := goodIn_app (goodIn_of _ (by decide +kernel)) ggX4_isSame_X4_isRow
set_option maxRecDepth 20000 in
theorem ggX4_isSame_X3_sees : GoodIn wsX4_isSame wsX3_sees := goodIn_ca (goodIn_r _ [80, 15, 81, 82, 13, 83, 34, 35, 36, 37, 38, 31, 32, 33, 84, 48, 49, 85, 51, 52, 42, 53, 54, 55, 86, 87, 88, 61, 89, 63, 39, 40, 41, 43, 44, 45, 46, 47, 50, 56, 57, 58, 59, 60, 62, 64, 25, 26, 196, 197, 198, 199, 200, 201, 202, 204, 205, 206, 207, 208, 209, 210, 211, 212] (by decide +kernel) (by decide +kernel)) (goodIn_sub (fun _ h => List.mem_cons_of_mem _ (List.mem_append_right _ h)) (by decide +kernel))
set_option maxRecDepth 20000 in
theorem gX4_isSame_X3_sees : GoodIn wsX4_isSame (wsV RX4 72 RX3 yX3_sees wsX3_sees) := goodIn_app (goodIn_of _ (by decide +kernel)) ggX4_isSame_X3_sees
set_option maxRecDepth 20000 in
theorem ggX4_isSame_X4_knots : GoodIn wsX4_isSame wsX4_knots := goodIn_r _ [93, 2, 74, 75, 72, 76, 188, 189, 190, 191, 192, 193, 194, 195] (by decide +kernel) (by decide +kernel)
set_option maxRecDepth 20000 in
theorem gX4_isSame_X4_knots : GoodIn wsX4_isSame (wsV RX4 49 RX4 yX4_knots wsX4_knots) := goodIn_app (goodIn_of _ (by decide +kernel)) ggX4_isSame_X4_knots
set_option maxRecDepth 20000 in
theorem ggX4_isSame_X4_told : GoodIn wsX4_isSame wsX4_told := goodIn_r _ [97, 6, 188, 189, 190, 191, 192, 193, 194, 195] (by decide +kernel) (by decide +kernel)
set_option maxRecDepth 20000 in
theorem gX4_isSame_X4_told : GoodIn wsX4_isSame (wsV RX4 75 RX4 yX4_told wsX4_told) := goodIn_app (goodIn_of _ (by decide +kernel)) ggX4_isSame_X4_told
set_option maxRecDepth 20000 in
theorem ggX4_isSame_X4_x : GoodIn wsX4_isSame wsX4_x := goodIn_r _ [76] (by decide +kernel) (by decide +kernel)
set_option maxRecDepth 20000 in
theorem gX4_isSame_X4_x : GoodIn wsX4_isSame (va_wsS RX4 45 yX4_x wsX4_x) := goodIn_app (goodIn_of _ (by decide +kernel)) ggX4_isSame_X4_x
set_option maxRecDepth 20000 in
theorem ggX4_isSame_X3_weaver : GoodIn wsX4_isSame wsX3_weaver := goodIn_ca (goodIn_r _ [101, 15, 81, 82, 13, 83, 34, 35, 36, 37, 38, 85, 51, 52, 42, 53, 54, 55, 102, 103, 104, 61, 105, 106, 107, 63, 108, 109, 110, 111, 112, 113, 25, 26, 114, 115, 116, 117, 118, 119, 120, 121, 122, 196, 197, 198, 199, 200, 201, 202, 204, 205, 206, 207, 208, 209, 210, 211, 212] (by decide +kernel) (by decide +kernel)) (goodIn_sub (fun _ h => List.mem_cons_of_mem _ (List.mem_append_right _ h)) (by decide +kernel))
set_option maxRecDepth 20000 in
theorem gX4_isSame_X3_weaver : GoodIn wsX4_isSame (wsV RX4 78 RX3 yX3_weaver wsX3_weaver) := goodIn_app (goodIn_of _ (by decide +kernel)) ggX4_isSame_X3_weaver
set_option maxRecDepth 20000 in
theorem ggX4_isSame_X3_run : GoodIn wsX4_isSame wsX3_run := goodIn_ca (goodIn_r _ [126, 15, 81, 82, 13, 83, 34, 35, 36, 37, 38, 85, 51, 52, 42, 53, 54, 55, 24, 25, 26, 196, 197, 204, 205, 206, 207, 208, 209, 210, 211, 212, 198, 199, 200, 201, 202] (by decide +kernel) (by decide +kernel)) (goodIn_sub (fun _ h => List.mem_cons_of_mem _ (List.mem_append_right _ h)) (by decide +kernel))
set_option maxRecDepth 20000 in
theorem gX4_isSame_X3_run : GoodIn wsX4_isSame (wsV RX4 81 RX3 yX3_run wsX3_run) := goodIn_app (goodIn_of _ (by decide +kernel)) ggX4_isSame_X3_run
set_option maxRecDepth 20000 in
theorem ggX4_isSame_X4_differ : GoodIn wsX4_isSame wsX4_differ := goodIn_r _ [130, 2, 3, 188, 189, 190, 191, 192, 193, 194, 195] (by decide +kernel) (by decide +kernel)
set_option maxRecDepth 20000 in
theorem gX4_isSame_X4_differ : GoodIn wsX4_isSame (wsV RX4 84 RX4 yX4_differ wsX4_differ) := goodIn_app (goodIn_of _ (by decide +kernel)) ggX4_isSame_X4_differ
set_option maxRecDepth 20000 in
theorem ggX4_isSame_X4_rows : GoodIn wsX4_isSame wsX4_rows := goodIn_r _ [134, 2, 3, 69, 70, 71, 72, 73, 74, 75, 76, 188, 189, 190, 191, 192, 193, 194, 195] (by decide +kernel) (by decide +kernel)
set_option maxRecDepth 20000 in
theorem gX4_isSame_X4_rows : GoodIn wsX4_isSame (wsV RX4 88 RX4 yX4_rows wsX4_rows) := goodIn_app (goodIn_of _ (by decide +kernel)) ggX4_isSame_X4_rows
set_option maxRecDepth 20000 in
theorem ggX4_isSame_X3_count : GoodIn wsX4_isSame wsX3_count := goodIn_ca (goodIn_r _ [138, 15, 34, 35, 13, 36, 37, 38, 139, 140, 141, 42, 142, 143, 144, 145, 146, 147, 148, 149, 54, 55, 150, 151, 152, 153, 154, 155, 156, 61, 157, 63, 64, 158, 25, 26, 159, 160, 161, 162, 163, 164, 165, 166, 167, 87, 88, 89, 168, 169, 170, 171, 56, 57, 172, 173, 174, 175, 176, 177, 178, 179, 180, 181, 196, 197, 198, 199, 200, 201, 202, 204, 205, 206, 207, 208, 209, 210, 211, 212, 203] (by decide +kernel) (by decide +kernel)) (goodIn_sub (fun _ h => List.mem_cons_of_mem _ (List.mem_append_right _ h)) (by decide +kernel))
set_option maxRecDepth 20000 in
theorem gX4_isSame_X3_count : GoodIn wsX4_isSame (wsV RX4 92 RX3 yX3_count wsX3_count) := goodIn_app (goodIn_of _ (by decide +kernel)) ggX4_isSame_X3_count
set_option maxRecDepth 20000 in
theorem ggX4_isSame_X3_share : GoodIn wsX4_isSame wsX3_share := goodIn_r _ [185, 15, 186, 147, 148, 42, 149, 54, 55, 187, 151, 152, 153, 154, 155, 156, 61, 157, 63, 64, 158, 25, 13, 26, 196, 197, 198, 199, 200, 201, 202, 204, 205, 206, 207, 208, 209, 210, 211, 212] (by decide +kernel) (by decide +kernel)
set_option maxRecDepth 20000 in
theorem gX4_isSame_X3_share : GoodIn wsX4_isSame (wsV RX4 95 RX3 yX3_share wsX3_share) := goodIn_app (goodIn_of _ (by decide +kernel)) ggX4_isSame_X3_share
theorem dX4_isSame_0 : decode cX4_isSame 0 = .ok (.iconst 0, 1) := by decide +kernel
theorem dX4_isSame_1 : decode cX4_isSame 1 = .ok (.istore_n 2, 1) := by decide +kernel
theorem dX4_isSame_2 : decode cX4_isSame 2 = .ok (.iconst 0, 1) := by decide +kernel
theorem dX4_isSame_3 : decode cX4_isSame 3 = .ok (.istore_n 3, 1) := by decide +kernel
theorem dX4_isSame_4 : decode cX4_isSame 4 = .ok (.iconst 0, 1) := by decide +kernel
theorem dX4_isSame_5 : decode cX4_isSame 5 = .ok (.istore 4, 2) := by decide +kernel
theorem dX4_isSame_7 : decode cX4_isSame 7 = .ok (.iload 4, 2) := by decide +kernel
theorem dX4_isSame_9 : decode cX4_isSame 9 = .ok (.bipush 8, 2) := by decide +kernel
theorem dX4_isSame_11 : decode cX4_isSame 11 = .ok (.if_icmp .ge 55, 3) := by decide +kernel
theorem dX4_isSame_14 : decode cX4_isSame 14 = .ok (.iload_n 2, 1) := by decide +kernel
theorem dX4_isSame_15 : decode cX4_isSame 15 = .ok (.aload_n 0, 1) := by decide +kernel
theorem dX4_isSame_16 : decode cX4_isSame 16 = .ok (.getfield 29, 3) := by decide +kernel
theorem dX4_isSame_19 : decode cX4_isSame 19 = .ok (.iload 4, 2) := by decide +kernel
theorem dX4_isSame_21 : decode cX4_isSame 21 = .ok (.iaload, 1) := by decide +kernel
theorem dX4_isSame_22 : decode cX4_isSame 22 = .ok (.iadd, 1) := by decide +kernel
theorem dX4_isSame_23 : decode cX4_isSame 23 = .ok (.istore_n 2, 1) := by decide +kernel
theorem dX4_isSame_24 : decode cX4_isSame 24 = .ok (.iload_n 3, 1) := by decide +kernel
theorem dX4_isSame_25 : decode cX4_isSame 25 = .ok (.aload_n 0, 1) := by decide +kernel
theorem dX4_isSame_26 : decode cX4_isSame 26 = .ok (.getfield 29, 3) := by decide +kernel
theorem dX4_isSame_29 : decode cX4_isSame 29 = .ok (.iload 4, 2) := by decide +kernel
theorem dX4_isSame_31 : decode cX4_isSame 31 = .ok (.iaload, 1) := by decide +kernel
theorem dX4_isSame_32 : decode cX4_isSame 32 = .ok (.ifCond .ne 7, 3) := by decide +kernel
theorem dX4_isSame_35 : decode cX4_isSame 35 = .ok (.iconst 1, 1) := by decide +kernel
theorem dX4_isSame_36 : decode cX4_isSame 36 = .ok (.goto 4, 3) := by decide +kernel
theorem dX4_isSame_39 : decode cX4_isSame 39 = .ok (.iconst 0, 1) := by decide +kernel
theorem dX4_isSame_40 : decode cX4_isSame 40 = .ok (.iadd, 1) := by decide +kernel
theorem dX4_isSame_41 : decode cX4_isSame 41 = .ok (.istore_n 3, 1) := by decide +kernel
theorem dX4_isSame_42 : decode cX4_isSame 42 = .ok (.aload_n 1, 1) := by decide +kernel
theorem dX4_isSame_43 : decode cX4_isSame 43 = .ok (.iload 4, 2) := by decide +kernel
theorem dX4_isSame_45 : decode cX4_isSame 45 = .ok (.invokevirtual 64, 3) := by decide +kernel
theorem dX4_isSame_48 : decode cX4_isSame 48 = .ok (.aload_n 0, 1) := by decide +kernel
theorem dX4_isSame_49 : decode cX4_isSame 49 = .ok (.getfield 29, 3) := by decide +kernel
theorem dX4_isSame_52 : decode cX4_isSame 52 = .ok (.iload 4, 2) := by decide +kernel
theorem dX4_isSame_54 : decode cX4_isSame 54 = .ok (.iaload, 1) := by decide +kernel
theorem dX4_isSame_55 : decode cX4_isSame 55 = .ok (.if_icmp .eq 5, 3) := by decide +kernel
theorem dX4_isSame_58 : decode cX4_isSame 58 = .ok (.iconst 0, 1) := by decide +kernel
theorem dX4_isSame_59 : decode cX4_isSame 59 = .ok (.ireturn, 1) := by decide +kernel
theorem dX4_isSame_60 : decode cX4_isSame 60 = .ok (.iinc 4 1, 3) := by decide +kernel
theorem dX4_isSame_63 : decode cX4_isSame 63 = .ok (.goto (-56), 3) := by decide +kernel
theorem dX4_isSame_66 : decode cX4_isSame 66 = .ok (.iconst 0, 1) := by decide +kernel
theorem dX4_isSame_67 : decode cX4_isSame 67 = .ok (.istore 4, 2) := by decide +kernel
theorem dX4_isSame_69 : decode cX4_isSame 69 = .ok (.iload 4, 2) := by decide +kernel
theorem dX4_isSame_71 : decode cX4_isSame 71 = .ok (.bipush 12, 2) := by decide +kernel
theorem dX4_isSame_73 : decode cX4_isSame 73 = .ok (.if_icmp .ge 197, 3) := by decide +kernel
theorem dX4_isSame_76 : decode cX4_isSame 76 = .ok (.iconst 0, 1) := by decide +kernel
theorem dX4_isSame_77 : decode cX4_isSame 77 = .ok (.istore 5, 2) := by decide +kernel
theorem dX4_isSame_79 : decode cX4_isSame 79 = .ok (.iload 5, 2) := by decide +kernel
theorem dX4_isSame_81 : decode cX4_isSame 81 = .ok (.bipush 10, 2) := by decide +kernel
theorem dX4_isSame_83 : decode cX4_isSame 83 = .ok (.if_icmp .ge 181, 3) := by decide +kernel
theorem dX4_isSame_86 : decode cX4_isSame 86 = .ok (.aload_n 1, 1) := by decide +kernel
theorem dX4_isSame_87 : decode cX4_isSame 87 = .ok (.iload 4, 2) := by decide +kernel
theorem dX4_isSame_89 : decode cX4_isSame 89 = .ok (.iload 5, 2) := by decide +kernel
theorem dX4_isSame_91 : decode cX4_isSame 91 = .ok (.iconst 0, 1) := by decide +kernel
theorem dX4_isSame_92 : decode cX4_isSame 92 = .ok (.invokevirtual 68, 3) := by decide +kernel
theorem dX4_isSame_95 : decode cX4_isSame 95 = .ok (.aload_n 0, 1) := by decide +kernel
theorem dX4_isSame_96 : decode cX4_isSame 96 = .ok (.getfield 9, 3) := by decide +kernel
theorem dX4_isSame_99 : decode cX4_isSame 99 = .ok (.iload 4, 2) := by decide +kernel
theorem dX4_isSame_101 : decode cX4_isSame 101 = .ok (.aaload, 1) := by decide +kernel
theorem dX4_isSame_102 : decode cX4_isSame 102 = .ok (.iload 5, 2) := by decide +kernel
theorem dX4_isSame_104 : decode cX4_isSame 104 = .ok (.iaload, 1) := by decide +kernel
theorem dX4_isSame_105 : decode cX4_isSame 105 = .ok (.if_icmp .ne 25, 3) := by decide +kernel
theorem dX4_isSame_108 : decode cX4_isSame 108 = .ok (.aload_n 1, 1) := by decide +kernel
theorem dX4_isSame_109 : decode cX4_isSame 109 = .ok (.iload 4, 2) := by decide +kernel
theorem dX4_isSame_111 : decode cX4_isSame 111 = .ok (.iload 5, 2) := by decide +kernel
theorem dX4_isSame_113 : decode cX4_isSame 113 = .ok (.iconst 1, 1) := by decide +kernel
theorem dX4_isSame_114 : decode cX4_isSame 114 = .ok (.invokevirtual 68, 3) := by decide +kernel
theorem dX4_isSame_117 : decode cX4_isSame 117 = .ok (.aload_n 0, 1) := by decide +kernel
theorem dX4_isSame_118 : decode cX4_isSame 118 = .ok (.getfield 14, 3) := by decide +kernel
theorem dX4_isSame_121 : decode cX4_isSame 121 = .ok (.iload 4, 2) := by decide +kernel
theorem dX4_isSame_123 : decode cX4_isSame 123 = .ok (.aaload, 1) := by decide +kernel
theorem dX4_isSame_124 : decode cX4_isSame 124 = .ok (.iload 5, 2) := by decide +kernel
theorem dX4_isSame_126 : decode cX4_isSame 126 = .ok (.iaload, 1) := by decide +kernel
theorem dX4_isSame_127 : decode cX4_isSame 127 = .ok (.if_icmp .eq 5, 3) := by decide +kernel
theorem dX4_isSame_130 : decode cX4_isSame 130 = .ok (.iconst 0, 1) := by decide +kernel
theorem dX4_isSame_131 : decode cX4_isSame 131 = .ok (.ireturn, 1) := by decide +kernel
theorem dX4_isSame_132 : decode cX4_isSame 132 = .ok (.iload 4, 2) := by decide +kernel
theorem dX4_isSame_134 : decode cX4_isSame 134 = .ok (.bipush 6, 2) := by decide +kernel
theorem dX4_isSame_136 : decode cX4_isSame 136 = .ok (.if_icmp .lt 20, 3) := by decide +kernel
theorem dX4_isSame_139 : decode cX4_isSame 139 = .ok (.iload 4, 2) := by decide +kernel
theorem dX4_isSame_141 : decode cX4_isSame 141 = .ok (.bipush 6, 2) := by decide +kernel
theorem dX4_isSame_143 : decode cX4_isSame 143 = .ok (.if_icmp .ne 17, 3) := by decide +kernel
theorem dX4_isSame_146 : decode cX4_isSame 146 = .ok (.aload_n 0, 1) := by decide +kernel
theorem dX4_isSame_147 : decode cX4_isSame 147 = .ok (.iconst 0, 1) := by decide +kernel
theorem dX4_isSame_148 : decode cX4_isSame 148 = .ok (.iload 5, 2) := by decide +kernel
theorem dX4_isSame_150 : decode cX4_isSame 150 = .ok (.invokevirtual 60, 3) := by decide +kernel
theorem dX4_isSame_153 : decode cX4_isSame 153 = .ok (.ifCond .eq 7, 3) := by decide +kernel
theorem dX4_isSame_156 : decode cX4_isSame 156 = .ok (.iconst 1, 1) := by decide +kernel
theorem dX4_isSame_157 : decode cX4_isSame 157 = .ok (.goto 4, 3) := by decide +kernel
theorem dX4_isSame_160 : decode cX4_isSame 160 = .ok (.iconst 0, 1) := by decide +kernel
theorem dX4_isSame_161 : decode cX4_isSame 161 = .ok (.istore 6, 2) := by decide +kernel
theorem dX4_isSame_163 : decode cX4_isSame 163 = .ok (.iload 4, 2) := by decide +kernel
theorem dX4_isSame_165 : decode cX4_isSame 165 = .ok (.iconst 5, 1) := by decide +kernel
theorem dX4_isSame_166 : decode cX4_isSame 166 = .ok (.if_icmp .gt 19, 3) := by decide +kernel
theorem dX4_isSame_169 : decode cX4_isSame 169 = .ok (.iload 4, 2) := by decide +kernel
theorem dX4_isSame_171 : decode cX4_isSame 171 = .ok (.iconst 5, 1) := by decide +kernel
theorem dX4_isSame_172 : decode cX4_isSame 172 = .ok (.if_icmp .ne 17, 3) := by decide +kernel
theorem dX4_isSame_175 : decode cX4_isSame 175 = .ok (.aload_n 0, 1) := by decide +kernel
theorem dX4_isSame_176 : decode cX4_isSame 176 = .ok (.iconst 1, 1) := by decide +kernel
theorem dX4_isSame_177 : decode cX4_isSame 177 = .ok (.iload 5, 2) := by decide +kernel
theorem dX4_isSame_179 : decode cX4_isSame 179 = .ok (.invokevirtual 60, 3) := by decide +kernel
theorem dX4_isSame_182 : decode cX4_isSame 182 = .ok (.ifCond .eq 7, 3) := by decide +kernel
theorem dX4_isSame_185 : decode cX4_isSame 185 = .ok (.iconst 1, 1) := by decide +kernel
theorem dX4_isSame_186 : decode cX4_isSame 186 = .ok (.goto 4, 3) := by decide +kernel
theorem dX4_isSame_189 : decode cX4_isSame 189 = .ok (.iconst 0, 1) := by decide +kernel
theorem dX4_isSame_190 : decode cX4_isSame 190 = .ok (.istore 7, 2) := by decide +kernel
theorem dX4_isSame_192 : decode cX4_isSame 192 = .ok (.aload_n 1, 1) := by decide +kernel
theorem dX4_isSame_193 : decode cX4_isSame 193 = .ok (.iconst 0, 1) := by decide +kernel
theorem dX4_isSame_194 : decode cX4_isSame 194 = .ok (.iload 4, 2) := by decide +kernel
theorem dX4_isSame_196 : decode cX4_isSame 196 = .ok (.iload 5, 2) := by decide +kernel
theorem dX4_isSame_198 : decode cX4_isSame 198 = .ok (.invokevirtual 72, 3) := by decide +kernel
theorem dX4_isSame_201 : decode cX4_isSame 201 = .ok (.iload 6, 2) := by decide +kernel
theorem dX4_isSame_203 : decode cX4_isSame 203 = .ok (.ifCond .eq 16, 3) := by decide +kernel
theorem dX4_isSame_206 : decode cX4_isSame 206 = .ok (.aload_n 0, 1) := by decide +kernel
theorem dX4_isSame_207 : decode cX4_isSame 207 = .ok (.getfield 9, 3) := by decide +kernel
theorem dX4_isSame_210 : decode cX4_isSame 210 = .ok (.iload 4, 2) := by decide +kernel
theorem dX4_isSame_212 : decode cX4_isSame 212 = .ok (.aaload, 1) := by decide +kernel
theorem dX4_isSame_213 : decode cX4_isSame 213 = .ok (.iload 5, 2) := by decide +kernel
theorem dX4_isSame_215 : decode cX4_isSame 215 = .ok (.iaload, 1) := by decide +kernel
theorem dX4_isSame_216 : decode cX4_isSame 216 = .ok (.goto 5, 3) := by decide +kernel
theorem dX4_isSame_219 : decode cX4_isSame 219 = .ok (.bipush (-2), 2) := by decide +kernel
theorem dX4_isSame_221 : decode cX4_isSame 221 = .ok (.if_icmp .ne 35, 3) := by decide +kernel
theorem dX4_isSame_224 : decode cX4_isSame 224 = .ok (.aload_n 1, 1) := by decide +kernel
theorem dX4_isSame_225 : decode cX4_isSame 225 = .ok (.iconst 1, 1) := by decide +kernel
theorem dX4_isSame_226 : decode cX4_isSame 226 = .ok (.iload 4, 2) := by decide +kernel
theorem dX4_isSame_228 : decode cX4_isSame 228 = .ok (.iload 5, 2) := by decide +kernel
theorem dX4_isSame_230 : decode cX4_isSame 230 = .ok (.invokevirtual 72, 3) := by decide +kernel
theorem dX4_isSame_233 : decode cX4_isSame 233 = .ok (.iload 7, 2) := by decide +kernel
theorem dX4_isSame_235 : decode cX4_isSame 235 = .ok (.ifCond .eq 16, 3) := by decide +kernel
theorem dX4_isSame_238 : decode cX4_isSame 238 = .ok (.aload_n 0, 1) := by decide +kernel
theorem dX4_isSame_239 : decode cX4_isSame 239 = .ok (.getfield 9, 3) := by decide +kernel
theorem dX4_isSame_242 : decode cX4_isSame 242 = .ok (.iload 4, 2) := by decide +kernel
theorem dX4_isSame_244 : decode cX4_isSame 244 = .ok (.aaload, 1) := by decide +kernel
theorem dX4_isSame_245 : decode cX4_isSame 245 = .ok (.iload 5, 2) := by decide +kernel
theorem dX4_isSame_247 : decode cX4_isSame 247 = .ok (.iaload, 1) := by decide +kernel
theorem dX4_isSame_248 : decode cX4_isSame 248 = .ok (.goto 5, 3) := by decide +kernel
theorem dX4_isSame_251 : decode cX4_isSame 251 = .ok (.bipush (-2), 2) := by decide +kernel
theorem dX4_isSame_253 : decode cX4_isSame 253 = .ok (.if_icmp .eq 5, 3) := by decide +kernel
theorem dX4_isSame_256 : decode cX4_isSame 256 = .ok (.iconst 0, 1) := by decide +kernel
theorem dX4_isSame_257 : decode cX4_isSame 257 = .ok (.ireturn, 1) := by decide +kernel
theorem dX4_isSame_258 : decode cX4_isSame 258 = .ok (.iinc 5 1, 3) := by decide +kernel
theorem dX4_isSame_261 : decode cX4_isSame 261 = .ok (.goto (-182), 3) := by decide +kernel
theorem dX4_isSame_264 : decode cX4_isSame 264 = .ok (.iinc 4 1, 3) := by decide +kernel
theorem dX4_isSame_267 : decode cX4_isSame 267 = .ok (.goto (-198), 3) := by decide +kernel
theorem dX4_isSame_270 : decode cX4_isSame 270 = .ok (.iconst 0, 1) := by decide +kernel
theorem dX4_isSame_271 : decode cX4_isSame 271 = .ok (.istore 4, 2) := by decide +kernel
theorem dX4_isSame_273 : decode cX4_isSame 273 = .ok (.iload 4, 2) := by decide +kernel
theorem dX4_isSame_275 : decode cX4_isSame 275 = .ok (.iconst 2, 1) := by decide +kernel
theorem dX4_isSame_276 : decode cX4_isSame 276 = .ok (.if_icmp .ge 208, 3) := by decide +kernel
theorem dX4_isSame_279 : decode cX4_isSame 279 = .ok (.aload_n 0, 1) := by decide +kernel
theorem dX4_isSame_280 : decode cX4_isSame 280 = .ok (.iload 4, 2) := by decide +kernel
theorem dX4_isSame_282 : decode cX4_isSame 282 = .ok (.invokevirtual 49, 3) := by decide +kernel
theorem dX4_isSame_285 : decode cX4_isSame 285 = .ok (.istore 5, 2) := by decide +kernel
theorem dX4_isSame_287 : decode cX4_isSame 287 = .ok (.bipush 7, 2) := by decide +kernel
theorem dX4_isSame_289 : decode cX4_isSame 289 = .ok (.newarray .int, 2) := by decide +kernel
theorem dX4_isSame_291 : decode cX4_isSame 291 = .ok (.dup, 1) := by decide +kernel
theorem dX4_isSame_292 : decode cX4_isSame 292 = .ok (.iconst 0, 1) := by decide +kernel
theorem dX4_isSame_293 : decode cX4_isSame 293 = .ok (.aload_n 0, 1) := by decide +kernel
theorem dX4_isSame_294 : decode cX4_isSame 294 = .ok (.getfield 22, 3) := by decide +kernel
theorem dX4_isSame_297 : decode cX4_isSame 297 = .ok (.iload 4, 2) := by decide +kernel
theorem dX4_isSame_299 : decode cX4_isSame 299 = .ok (.iaload, 1) := by decide +kernel
theorem dX4_isSame_300 : decode cX4_isSame 300 = .ok (.iastore, 1) := by decide +kernel
theorem dX4_isSame_301 : decode cX4_isSame 301 = .ok (.dup, 1) := by decide +kernel
theorem dX4_isSame_302 : decode cX4_isSame 302 = .ok (.iconst 1, 1) := by decide +kernel
theorem dX4_isSame_303 : decode cX4_isSame 303 = .ok (.aload_n 0, 1) := by decide +kernel
theorem dX4_isSame_304 : decode cX4_isSame 304 = .ok (.getfield 19, 3) := by decide +kernel
theorem dX4_isSame_307 : decode cX4_isSame 307 = .ok (.iload 4, 2) := by decide +kernel
theorem dX4_isSame_309 : decode cX4_isSame 309 = .ok (.aaload, 1) := by decide +kernel
theorem dX4_isSame_310 : decode cX4_isSame 310 = .ok (.arraylength, 1) := by decide +kernel
theorem dX4_isSame_311 : decode cX4_isSame 311 = .ok (.iastore, 1) := by decide +kernel
theorem dX4_isSame_312 : decode cX4_isSame 312 = .ok (.dup, 1) := by decide +kernel
theorem dX4_isSame_313 : decode cX4_isSame 313 = .ok (.iconst 2, 1) := by decide +kernel
theorem dX4_isSame_314 : decode cX4_isSame 314 = .ok (.aload_n 0, 1) := by decide +kernel
theorem dX4_isSame_315 : decode cX4_isSame 315 = .ok (.iload 4, 2) := by decide +kernel
theorem dX4_isSame_317 : decode cX4_isSame 317 = .ok (.invokevirtual 75, 3) := by decide +kernel
theorem dX4_isSame_320 : decode cX4_isSame 320 = .ok (.iastore, 1) := by decide +kernel
theorem dX4_isSame_321 : decode cX4_isSame 321 = .ok (.dup, 1) := by decide +kernel
theorem dX4_isSame_322 : decode cX4_isSame 322 = .ok (.iconst 3, 1) := by decide +kernel
theorem dX4_isSame_323 : decode cX4_isSame 323 = .ok (.iload 5, 2) := by decide +kernel
theorem dX4_isSame_325 : decode cX4_isSame 325 = .ok (.iastore, 1) := by decide +kernel
theorem dX4_isSame_326 : decode cX4_isSame 326 = .ok (.dup, 1) := by decide +kernel
theorem dX4_isSame_327 : decode cX4_isSame 327 = .ok (.iconst 4, 1) := by decide +kernel
theorem dX4_isSame_328 : decode cX4_isSame 328 = .ok (.iload 5, 2) := by decide +kernel
theorem dX4_isSame_330 : decode cX4_isSame 330 = .ok (.bipush 60, 2) := by decide +kernel
theorem dX4_isSame_332 : decode cX4_isSame 332 = .ok (.if_icmp .ne 7, 3) := by decide +kernel
theorem dX4_isSame_335 : decode cX4_isSame 335 = .ok (.iconst (-1), 1) := by decide +kernel
theorem dX4_isSame_336 : decode cX4_isSame 336 = .ok (.goto 10, 3) := by decide +kernel
theorem dX4_isSame_339 : decode cX4_isSame 339 = .ok (.iload 4, 2) := by decide +kernel
theorem dX4_isSame_341 : decode cX4_isSame 341 = .ok (.iload 5, 2) := by decide +kernel
theorem dX4_isSame_343 : decode cX4_isSame 343 = .ok (.invokestatic 45, 3) := by decide +kernel
theorem dX4_isSame_346 : decode cX4_isSame 346 = .ok (.iastore, 1) := by decide +kernel
theorem dX4_isSame_347 : decode cX4_isSame 347 = .ok (.dup, 1) := by decide +kernel
theorem dX4_isSame_348 : decode cX4_isSame 348 = .ok (.iconst 5, 1) := by decide +kernel
theorem dX4_isSame_349 : decode cX4_isSame 349 = .ok (.iload 5, 2) := by decide +kernel
theorem dX4_isSame_351 : decode cX4_isSame 351 = .ok (.bipush 60, 2) := by decide +kernel
theorem dX4_isSame_353 : decode cX4_isSame 353 = .ok (.if_icmp .ne 7, 3) := by decide +kernel
theorem dX4_isSame_356 : decode cX4_isSame 356 = .ok (.iconst (-1), 1) := by decide +kernel
theorem dX4_isSame_357 : decode cX4_isSame 357 = .ok (.goto 8, 3) := by decide +kernel
theorem dX4_isSame_360 : decode cX4_isSame 360 = .ok (.iload 5, 2) := by decide +kernel
theorem dX4_isSame_362 : decode cX4_isSame 362 = .ok (.bipush 6, 2) := by decide +kernel
theorem dX4_isSame_364 : decode cX4_isSame 364 = .ok (.idiv, 1) := by decide +kernel
theorem dX4_isSame_365 : decode cX4_isSame 365 = .ok (.iastore, 1) := by decide +kernel
theorem dX4_isSame_366 : decode cX4_isSame 366 = .ok (.dup, 1) := by decide +kernel
theorem dX4_isSame_367 : decode cX4_isSame 367 = .ok (.bipush 6, 2) := by decide +kernel
theorem dX4_isSame_369 : decode cX4_isSame 369 = .ok (.aload_n 0, 1) := by decide +kernel
theorem dX4_isSame_370 : decode cX4_isSame 370 = .ok (.getfield 26, 3) := by decide +kernel
theorem dX4_isSame_373 : decode cX4_isSame 373 = .ok (.iload 4, 2) := by decide +kernel
theorem dX4_isSame_375 : decode cX4_isSame 375 = .ok (.iaload, 1) := by decide +kernel
theorem dX4_isSame_376 : decode cX4_isSame 376 = .ok (.iastore, 1) := by decide +kernel
theorem dX4_isSame_377 : decode cX4_isSame 377 = .ok (.astore 6, 2) := by decide +kernel
theorem dX4_isSame_379 : decode cX4_isSame 379 = .ok (.iconst 0, 1) := by decide +kernel
theorem dX4_isSame_380 : decode cX4_isSame 380 = .ok (.istore 7, 2) := by decide +kernel
theorem dX4_isSame_382 : decode cX4_isSame 382 = .ok (.iload 7, 2) := by decide +kernel
theorem dX4_isSame_384 : decode cX4_isSame 384 = .ok (.bipush 7, 2) := by decide +kernel
theorem dX4_isSame_386 : decode cX4_isSame 386 = .ok (.if_icmp .ge 27, 3) := by decide +kernel
theorem dX4_isSame_389 : decode cX4_isSame 389 = .ok (.aload_n 1, 1) := by decide +kernel
theorem dX4_isSame_390 : decode cX4_isSame 390 = .ok (.iload 4, 2) := by decide +kernel
theorem dX4_isSame_392 : decode cX4_isSame 392 = .ok (.iload 7, 2) := by decide +kernel
theorem dX4_isSame_394 : decode cX4_isSame 394 = .ok (.invokevirtual 78, 3) := by decide +kernel
theorem dX4_isSame_397 : decode cX4_isSame 397 = .ok (.aload 6, 2) := by decide +kernel
theorem dX4_isSame_399 : decode cX4_isSame 399 = .ok (.iload 7, 2) := by decide +kernel
theorem dX4_isSame_401 : decode cX4_isSame 401 = .ok (.iaload, 1) := by decide +kernel
theorem dX4_isSame_402 : decode cX4_isSame 402 = .ok (.if_icmp .eq 5, 3) := by decide +kernel
theorem dX4_isSame_405 : decode cX4_isSame 405 = .ok (.iconst 0, 1) := by decide +kernel
theorem dX4_isSame_406 : decode cX4_isSame 406 = .ok (.ireturn, 1) := by decide +kernel
theorem dX4_isSame_407 : decode cX4_isSame 407 = .ok (.iinc 7 1, 3) := by decide +kernel
theorem dX4_isSame_410 : decode cX4_isSame 410 = .ok (.goto (-28), 3) := by decide +kernel
theorem dX4_isSame_413 : decode cX4_isSame 413 = .ok (.iconst 0, 1) := by decide +kernel
theorem dX4_isSame_414 : decode cX4_isSame 414 = .ok (.istore 7, 2) := by decide +kernel
theorem dX4_isSame_416 : decode cX4_isSame 416 = .ok (.iload 7, 2) := by decide +kernel
theorem dX4_isSame_418 : decode cX4_isSame 418 = .ok (.aload_n 0, 1) := by decide +kernel
theorem dX4_isSame_419 : decode cX4_isSame 419 = .ok (.getfield 19, 3) := by decide +kernel
theorem dX4_isSame_422 : decode cX4_isSame 422 = .ok (.iload 4, 2) := by decide +kernel
theorem dX4_isSame_424 : decode cX4_isSame 424 = .ok (.aaload, 1) := by decide +kernel
theorem dX4_isSame_425 : decode cX4_isSame 425 = .ok (.arraylength, 1) := by decide +kernel
theorem dX4_isSame_426 : decode cX4_isSame 426 = .ok (.if_icmp .ge 52, 3) := by decide +kernel
theorem dX4_isSame_429 : decode cX4_isSame 429 = .ok (.iconst 0, 1) := by decide +kernel
theorem dX4_isSame_430 : decode cX4_isSame 430 = .ok (.istore 8, 2) := by decide +kernel
theorem dX4_isSame_432 : decode cX4_isSame 432 = .ok (.iload 8, 2) := by decide +kernel
theorem dX4_isSame_434 : decode cX4_isSame 434 = .ok (.iconst 2, 1) := by decide +kernel
theorem dX4_isSame_435 : decode cX4_isSame 435 = .ok (.if_icmp .ge 37, 3) := by decide +kernel
theorem dX4_isSame_438 : decode cX4_isSame 438 = .ok (.aload_n 1, 1) := by decide +kernel
theorem dX4_isSame_439 : decode cX4_isSame 439 = .ok (.iload 4, 2) := by decide +kernel
theorem dX4_isSame_441 : decode cX4_isSame 441 = .ok (.iload 7, 2) := by decide +kernel
theorem dX4_isSame_443 : decode cX4_isSame 443 = .ok (.iload 8, 2) := by decide +kernel
theorem dX4_isSame_445 : decode cX4_isSame 445 = .ok (.invokevirtual 81, 3) := by decide +kernel
theorem dX4_isSame_448 : decode cX4_isSame 448 = .ok (.aload_n 0, 1) := by decide +kernel
theorem dX4_isSame_449 : decode cX4_isSame 449 = .ok (.getfield 19, 3) := by decide +kernel
theorem dX4_isSame_452 : decode cX4_isSame 452 = .ok (.iload 4, 2) := by decide +kernel
theorem dX4_isSame_454 : decode cX4_isSame 454 = .ok (.aaload, 1) := by decide +kernel
theorem dX4_isSame_455 : decode cX4_isSame 455 = .ok (.iload 7, 2) := by decide +kernel
theorem dX4_isSame_457 : decode cX4_isSame 457 = .ok (.aaload, 1) := by decide +kernel
theorem dX4_isSame_458 : decode cX4_isSame 458 = .ok (.iload 8, 2) := by decide +kernel
theorem dX4_isSame_460 : decode cX4_isSame 460 = .ok (.iaload, 1) := by decide +kernel
theorem dX4_isSame_461 : decode cX4_isSame 461 = .ok (.if_icmp .eq 5, 3) := by decide +kernel
theorem dX4_isSame_464 : decode cX4_isSame 464 = .ok (.iconst 0, 1) := by decide +kernel
theorem dX4_isSame_465 : decode cX4_isSame 465 = .ok (.ireturn, 1) := by decide +kernel
theorem dX4_isSame_466 : decode cX4_isSame 466 = .ok (.iinc 8 1, 3) := by decide +kernel
theorem dX4_isSame_469 : decode cX4_isSame 469 = .ok (.goto (-37), 3) := by decide +kernel
theorem dX4_isSame_472 : decode cX4_isSame 472 = .ok (.iinc 7 1, 3) := by decide +kernel
theorem dX4_isSame_475 : decode cX4_isSame 475 = .ok (.goto (-59), 3) := by decide +kernel
theorem dX4_isSame_478 : decode cX4_isSame 478 = .ok (.iinc 4 1, 3) := by decide +kernel
theorem dX4_isSame_481 : decode cX4_isSame 481 = .ok (.goto (-208), 3) := by decide +kernel
theorem dX4_isSame_484 : decode cX4_isSame 484 = .ok (.aload_n 0, 1) := by decide +kernel
theorem dX4_isSame_485 : decode cX4_isSame 485 = .ok (.iconst 0, 1) := by decide +kernel
theorem dX4_isSame_486 : decode cX4_isSame 486 = .ok (.invokevirtual 49, 3) := by decide +kernel
theorem dX4_isSame_489 : decode cX4_isSame 489 = .ok (.aload_n 0, 1) := by decide +kernel
theorem dX4_isSame_490 : decode cX4_isSame 490 = .ok (.iconst 1, 1) := by decide +kernel
theorem dX4_isSame_491 : decode cX4_isSame 491 = .ok (.invokevirtual 49, 3) := by decide +kernel
theorem dX4_isSame_494 : decode cX4_isSame 494 = .ok (.iadd, 1) := by decide +kernel
theorem dX4_isSame_495 : decode cX4_isSame 495 = .ok (.istore 4, 2) := by decide +kernel
theorem dX4_isSame_497 : decode cX4_isSame 497 = .ok (.bipush 8, 2) := by decide +kernel
theorem dX4_isSame_499 : decode cX4_isSame 499 = .ok (.newarray .int, 2) := by decide +kernel
theorem dX4_isSame_501 : decode cX4_isSame 501 = .ok (.dup, 1) := by decide +kernel
theorem dX4_isSame_502 : decode cX4_isSame 502 = .ok (.iconst 0, 1) := by decide +kernel
theorem dX4_isSame_503 : decode cX4_isSame 503 = .ok (.aload_n 0, 1) := by decide +kernel
theorem dX4_isSame_504 : decode cX4_isSame 504 = .ok (.getfield 38, 3) := by decide +kernel
theorem dX4_isSame_507 : decode cX4_isSame 507 = .ok (.iastore, 1) := by decide +kernel
theorem dX4_isSame_508 : decode cX4_isSame 508 = .ok (.dup, 1) := by decide +kernel
theorem dX4_isSame_509 : decode cX4_isSame 509 = .ok (.iconst 1, 1) := by decide +kernel
theorem dX4_isSame_510 : decode cX4_isSame 510 = .ok (.iload 4, 2) := by decide +kernel
theorem dX4_isSame_512 : decode cX4_isSame 512 = .ok (.iastore, 1) := by decide +kernel
theorem dX4_isSame_513 : decode cX4_isSame 513 = .ok (.dup, 1) := by decide +kernel
theorem dX4_isSame_514 : decode cX4_isSame 514 = .ok (.iconst 2, 1) := by decide +kernel
theorem dX4_isSame_515 : decode cX4_isSame 515 = .ok (.aload_n 0, 1) := by decide +kernel
theorem dX4_isSame_516 : decode cX4_isSame 516 = .ok (.invokevirtual 84, 3) := by decide +kernel
theorem dX4_isSame_519 : decode cX4_isSame 519 = .ok (.iastore, 1) := by decide +kernel
theorem dX4_isSame_520 : decode cX4_isSame 520 = .ok (.dup, 1) := by decide +kernel
theorem dX4_isSame_521 : decode cX4_isSame 521 = .ok (.iconst 3, 1) := by decide +kernel
theorem dX4_isSame_522 : decode cX4_isSame 522 = .ok (.aload_n 0, 1) := by decide +kernel
theorem dX4_isSame_523 : decode cX4_isSame 523 = .ok (.iconst 0, 1) := by decide +kernel
theorem dX4_isSame_524 : decode cX4_isSame 524 = .ok (.invokevirtual 88, 3) := by decide +kernel
theorem dX4_isSame_527 : decode cX4_isSame 527 = .ok (.iastore, 1) := by decide +kernel
theorem dX4_isSame_528 : decode cX4_isSame 528 = .ok (.dup, 1) := by decide +kernel
theorem dX4_isSame_529 : decode cX4_isSame 529 = .ok (.iconst 4, 1) := by decide +kernel
theorem dX4_isSame_530 : decode cX4_isSame 530 = .ok (.aload_n 0, 1) := by decide +kernel
theorem dX4_isSame_531 : decode cX4_isSame 531 = .ok (.iconst 1, 1) := by decide +kernel
theorem dX4_isSame_532 : decode cX4_isSame 532 = .ok (.invokevirtual 88, 3) := by decide +kernel
theorem dX4_isSame_535 : decode cX4_isSame 535 = .ok (.iastore, 1) := by decide +kernel
theorem dX4_isSame_536 : decode cX4_isSame 536 = .ok (.dup, 1) := by decide +kernel
theorem dX4_isSame_537 : decode cX4_isSame 537 = .ok (.iconst 5, 1) := by decide +kernel
theorem dX4_isSame_538 : decode cX4_isSame 538 = .ok (.iload_n 2, 1) := by decide +kernel
theorem dX4_isSame_539 : decode cX4_isSame 539 = .ok (.iastore, 1) := by decide +kernel
theorem dX4_isSame_540 : decode cX4_isSame 540 = .ok (.dup, 1) := by decide +kernel
theorem dX4_isSame_541 : decode cX4_isSame 541 = .ok (.bipush 6, 2) := by decide +kernel
theorem dX4_isSame_543 : decode cX4_isSame 543 = .ok (.iload_n 3, 1) := by decide +kernel
theorem dX4_isSame_544 : decode cX4_isSame 544 = .ok (.iastore, 1) := by decide +kernel
theorem dX4_isSame_545 : decode cX4_isSame 545 = .ok (.dup, 1) := by decide +kernel
theorem dX4_isSame_546 : decode cX4_isSame 546 = .ok (.bipush 7, 2) := by decide +kernel
theorem dX4_isSame_548 : decode cX4_isSame 548 = .ok (.aload_n 0, 1) := by decide +kernel
theorem dX4_isSame_549 : decode cX4_isSame 549 = .ok (.getfield 42, 3) := by decide +kernel
theorem dX4_isSame_552 : decode cX4_isSame 552 = .ok (.iastore, 1) := by decide +kernel
theorem dX4_isSame_553 : decode cX4_isSame 553 = .ok (.astore 5, 2) := by decide +kernel
theorem dX4_isSame_555 : decode cX4_isSame 555 = .ok (.iconst 0, 1) := by decide +kernel
theorem dX4_isSame_556 : decode cX4_isSame 556 = .ok (.istore 6, 2) := by decide +kernel
theorem dX4_isSame_558 : decode cX4_isSame 558 = .ok (.iload 6, 2) := by decide +kernel
theorem dX4_isSame_560 : decode cX4_isSame 560 = .ok (.bipush 8, 2) := by decide +kernel
theorem dX4_isSame_562 : decode cX4_isSame 562 = .ok (.if_icmp .ge 25, 3) := by decide +kernel
theorem dX4_isSame_565 : decode cX4_isSame 565 = .ok (.aload_n 1, 1) := by decide +kernel
theorem dX4_isSame_566 : decode cX4_isSame 566 = .ok (.iload 6, 2) := by decide +kernel
theorem dX4_isSame_568 : decode cX4_isSame 568 = .ok (.invokevirtual 92, 3) := by decide +kernel
theorem dX4_isSame_571 : decode cX4_isSame 571 = .ok (.aload 5, 2) := by decide +kernel
theorem dX4_isSame_573 : decode cX4_isSame 573 = .ok (.iload 6, 2) := by decide +kernel
theorem dX4_isSame_575 : decode cX4_isSame 575 = .ok (.iaload, 1) := by decide +kernel
theorem dX4_isSame_576 : decode cX4_isSame 576 = .ok (.if_icmp .eq 5, 3) := by decide +kernel
theorem dX4_isSame_579 : decode cX4_isSame 579 = .ok (.iconst 0, 1) := by decide +kernel
theorem dX4_isSame_580 : decode cX4_isSame 580 = .ok (.ireturn, 1) := by decide +kernel
theorem dX4_isSame_581 : decode cX4_isSame 581 = .ok (.iinc 6 1, 3) := by decide +kernel
theorem dX4_isSame_584 : decode cX4_isSame 584 = .ok (.goto (-26), 3) := by decide +kernel
theorem dX4_isSame_587 : decode cX4_isSame 587 = .ok (.aload_n 1, 1) := by decide +kernel
theorem dX4_isSame_588 : decode cX4_isSame 588 = .ok (.invokevirtual 95, 3) := by decide +kernel
theorem dX4_isSame_591 : decode cX4_isSame 591 = .ok (.iload 4, 2) := by decide +kernel
theorem dX4_isSame_593 : decode cX4_isSame 593 = .ok (.ifCond .ne 7, 3) := by decide +kernel
theorem dX4_isSame_596 : decode cX4_isSame 596 = .ok (.dconst 0, 1) := by decide +kernel
theorem dX4_isSame_597 : decode cX4_isSame 597 = .ok (.goto 15, 3) := by decide +kernel
theorem dX4_isSame_600 : decode cX4_isSame 600 = .ok (.iload 4, 2) := by decide +kernel
theorem dX4_isSame_602 : decode cX4_isSame 602 = .ok (.aload_n 0, 1) := by decide +kernel
theorem dX4_isSame_603 : decode cX4_isSame 603 = .ok (.invokevirtual 84, 3) := by decide +kernel
theorem dX4_isSame_606 : decode cX4_isSame 606 = .ok (.isub, 1) := by decide +kernel
theorem dX4_isSame_607 : decode cX4_isSame 607 = .ok (.i2d, 1) := by decide +kernel
theorem dX4_isSame_608 : decode cX4_isSame 608 = .ok (.iload 4, 2) := by decide +kernel
theorem dX4_isSame_610 : decode cX4_isSame 610 = .ok (.i2d, 1) := by decide +kernel
theorem dX4_isSame_611 : decode cX4_isSame 611 = .ok (.ddiv, 1) := by decide +kernel
theorem dX4_isSame_612 : decode cX4_isSame 612 = .ok (.dcmp .l, 1) := by decide +kernel
theorem dX4_isSame_613 : decode cX4_isSame 613 = .ok (.ifCond .ne 7, 3) := by decide +kernel
theorem dX4_isSame_616 : decode cX4_isSame 616 = .ok (.iconst 1, 1) := by decide +kernel
theorem dX4_isSame_617 : decode cX4_isSame 617 = .ok (.goto 4, 3) := by decide +kernel
theorem dX4_isSame_620 : decode cX4_isSame 620 = .ok (.iconst 0, 1) := by decide +kernel
theorem dX4_isSame_621 : decode cX4_isSame 621 = .ok (.ireturn, 1) := by decide +kernel
