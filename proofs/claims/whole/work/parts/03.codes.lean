theorem dX0_init_0 : decode cX0_init 0 = .ok (.aload_n 0, 1) := by decide +kernel
theorem dX0_init_1 : decode cX0_init 1 = .ok (.invokespecial 3, 3) := by decide +kernel
theorem dX0_init_4 : decode cX0_init 4 = .ok (.aload_n 0, 1) := by decide +kernel
theorem dX0_init_5 : decode cX0_init 5 = .ok (.bipush 8, 2) := by decide +kernel
theorem dX0_init_7 : decode cX0_init 7 = .ok (.newarray .int, 2) := by decide +kernel
theorem dX0_init_9 : decode cX0_init 9 = .ok (.putfield 9, 3) := by decide +kernel
theorem dX0_init_12 : decode cX0_init 12 = .ok (.iconst 0, 1) := by decide +kernel
theorem dX0_init_13 : decode cX0_init 13 = .ok (.istore_n 1, 1) := by decide +kernel
theorem dX0_init_14 : decode cX0_init 14 = .ok (.iload_n 1, 1) := by decide +kernel
theorem dX0_init_15 : decode cX0_init 15 = .ok (.aload_n 0, 1) := by decide +kernel
theorem dX0_init_16 : decode cX0_init 16 = .ok (.getfield 9, 3) := by decide +kernel
theorem dX0_init_19 : decode cX0_init 19 = .ok (.arraylength, 1) := by decide +kernel
theorem dX0_init_20 : decode cX0_init 20 = .ok (.if_icmp .ge 17, 3) := by decide +kernel
theorem dX0_init_23 : decode cX0_init 23 = .ok (.aload_n 0, 1) := by decide +kernel
theorem dX0_init_24 : decode cX0_init 24 = .ok (.getfield 9, 3) := by decide +kernel
theorem dX0_init_27 : decode cX0_init 27 = .ok (.iload_n 1, 1) := by decide +kernel
theorem dX0_init_28 : decode cX0_init 28 = .ok (.bipush 30, 2) := by decide +kernel
theorem dX0_init_30 : decode cX0_init 30 = .ok (.iastore, 1) := by decide +kernel
theorem dX0_init_31 : decode cX0_init 31 = .ok (.iinc 1 1, 3) := by decide +kernel
theorem dX0_init_34 : decode cX0_init 34 = .ok (.goto (-20), 3) := by decide +kernel
theorem dX0_init_37 : decode cX0_init 37 = .ok (.return_, 1) := by decide +kernel
set_option maxRecDepth 20000 in
theorem ggX0_fill_X3_at : GoodIn wsX0_fill wsX3_at := goodIn_r _ [8] (by decide +kernel) (by decide +kernel)
set_option maxRecDepth 20000 in
theorem gX0_fill_X3_at_n15 : GoodIn wsX0_fill (wsX3_at) := ggX0_fill_X3_at
set_option maxRecDepth 20000 in
theorem ggX0_fill_X3_put : GoodIn wsX0_fill wsX3_put := goodIn_r _ [10] (by decide +kernel) (by decide +kernel)
set_option maxRecDepth 20000 in
theorem gX0_fill_X3_put_n25 : GoodIn wsX0_fill (wsX3_put) := ggX0_fill_X3_put
theorem dX0_fill_0 : decode cX0_fill 0 = .ok (.sipush 200, 3) := by decide +kernel
theorem dX0_fill_3 : decode cX0_fill 3 = .ok (.aload_n 0, 1) := by decide +kernel
theorem dX0_fill_4 : decode cX0_fill 4 = .ok (.getfield 9, 3) := by decide +kernel
theorem dX0_fill_7 : decode cX0_fill 7 = .ok (.iload_n 1, 1) := by decide +kernel
theorem dX0_fill_8 : decode cX0_fill 8 = .ok (.invokestatic 15, 3) := by decide +kernel
theorem dX0_fill_11 : decode cX0_fill 11 = .ok (.iload_n 2, 1) := by decide +kernel
theorem dX0_fill_12 : decode cX0_fill 12 = .ok (.iadd, 1) := by decide +kernel
theorem dX0_fill_13 : decode cX0_fill 13 = .ok (.invokestatic 19, 3) := by decide +kernel
theorem dX0_fill_16 : decode cX0_fill 16 = .ok (.istore_n 3, 1) := by decide +kernel
theorem dX0_fill_17 : decode cX0_fill 17 = .ok (.aload_n 0, 1) := by decide +kernel
theorem dX0_fill_18 : decode cX0_fill 18 = .ok (.getfield 9, 3) := by decide +kernel
theorem dX0_fill_21 : decode cX0_fill 21 = .ok (.iload_n 1, 1) := by decide +kernel
theorem dX0_fill_22 : decode cX0_fill 22 = .ok (.iload_n 3, 1) := by decide +kernel
theorem dX0_fill_23 : decode cX0_fill 23 = .ok (.invokestatic 25, 3) := by decide +kernel
theorem dX0_fill_26 : decode cX0_fill 26 = .ok (.iload_n 3, 1) := by decide +kernel
theorem dX0_fill_27 : decode cX0_fill 27 = .ok (.ireturn, 1) := by decide +kernel
set_option maxRecDepth 20000 in
theorem ggX0_take_X3_at : GoodIn wsX0_take wsX3_at := goodIn_r _ [4] (by decide +kernel) (by decide +kernel)
set_option maxRecDepth 20000 in
theorem gX0_take_X3_at_n15 : GoodIn wsX0_take (wsX3_at) := ggX0_take_X3_at
set_option maxRecDepth 20000 in
theorem ggX0_take_X3_put : GoodIn wsX0_take wsX3_put := goodIn_r _ [6] (by decide +kernel) (by decide +kernel)
set_option maxRecDepth 20000 in
theorem gX0_take_X3_put_n25 : GoodIn wsX0_take (wsX3_put) := ggX0_take_X3_put
theorem dX0_take_0 : decode cX0_take 0 = .ok (.iconst 0, 1) := by decide +kernel
theorem dX0_take_1 : decode cX0_take 1 = .ok (.istore_n 2, 1) := by decide +kernel
theorem dX0_take_2 : decode cX0_take 2 = .ok (.iload_n 2, 1) := by decide +kernel
theorem dX0_take_3 : decode cX0_take 3 = .ok (.bipush 8, 2) := by decide +kernel
theorem dX0_take_5 : decode cX0_take 5 = .ok (.if_icmp .ge 45, 3) := by decide +kernel
theorem dX0_take_8 : decode cX0_take 8 = .ok (.iload_n 1, 1) := by decide +kernel
theorem dX0_take_9 : decode cX0_take 9 = .ok (.iload_n 2, 1) := by decide +kernel
theorem dX0_take_10 : decode cX0_take 10 = .ok (.iadd, 1) := by decide +kernel
theorem dX0_take_11 : decode cX0_take 11 = .ok (.bipush 8, 2) := by decide +kernel
theorem dX0_take_13 : decode cX0_take 13 = .ok (.irem, 1) := by decide +kernel
theorem dX0_take_14 : decode cX0_take 14 = .ok (.istore_n 3, 1) := by decide +kernel
theorem dX0_take_15 : decode cX0_take 15 = .ok (.aload_n 0, 1) := by decide +kernel
theorem dX0_take_16 : decode cX0_take 16 = .ok (.getfield 9, 3) := by decide +kernel
theorem dX0_take_19 : decode cX0_take 19 = .ok (.iload_n 3, 1) := by decide +kernel
theorem dX0_take_20 : decode cX0_take 20 = .ok (.invokestatic 15, 3) := by decide +kernel
theorem dX0_take_23 : decode cX0_take 23 = .ok (.istore 4, 2) := by decide +kernel
theorem dX0_take_25 : decode cX0_take 25 = .ok (.iload 4, 2) := by decide +kernel
theorem dX0_take_27 : decode cX0_take 27 = .ok (.ifCond .le 17, 3) := by decide +kernel
theorem dX0_take_30 : decode cX0_take 30 = .ok (.aload_n 0, 1) := by decide +kernel
theorem dX0_take_31 : decode cX0_take 31 = .ok (.getfield 9, 3) := by decide +kernel
theorem dX0_take_34 : decode cX0_take 34 = .ok (.iload_n 3, 1) := by decide +kernel
theorem dX0_take_35 : decode cX0_take 35 = .ok (.iload 4, 2) := by decide +kernel
theorem dX0_take_37 : decode cX0_take 37 = .ok (.iconst 1, 1) := by decide +kernel
theorem dX0_take_38 : decode cX0_take 38 = .ok (.isub, 1) := by decide +kernel
theorem dX0_take_39 : decode cX0_take 39 = .ok (.invokestatic 25, 3) := by decide +kernel
theorem dX0_take_42 : decode cX0_take 42 = .ok (.iload_n 3, 1) := by decide +kernel
theorem dX0_take_43 : decode cX0_take 43 = .ok (.ireturn, 1) := by decide +kernel
theorem dX0_take_44 : decode cX0_take 44 = .ok (.iinc 2 1, 3) := by decide +kernel
theorem dX0_take_47 : decode cX0_take 47 = .ok (.goto (-45), 3) := by decide +kernel
theorem dX0_take_50 : decode cX0_take 50 = .ok (.iconst (-1), 1) := by decide +kernel
theorem dX0_take_51 : decode cX0_take 51 = .ok (.ireturn, 1) := by decide +kernel
set_option maxRecDepth 20000 in
theorem ggX0_inAll_X3_at : GoodIn wsX0_inAll wsX3_at := goodIn_r _ [4] (by decide +kernel) (by decide +kernel)
set_option maxRecDepth 20000 in
theorem gX0_inAll_X3_at_n15 : GoodIn wsX0_inAll (wsX3_at) := ggX0_inAll_X3_at
theorem dX0_inAll_0 : decode cX0_inAll 0 = .ok (.iconst 0, 1) := by decide +kernel
theorem dX0_inAll_1 : decode cX0_inAll 1 = .ok (.istore_n 1, 1) := by decide +kernel
theorem dX0_inAll_2 : decode cX0_inAll 2 = .ok (.iconst 0, 1) := by decide +kernel
theorem dX0_inAll_3 : decode cX0_inAll 3 = .ok (.istore_n 2, 1) := by decide +kernel
theorem dX0_inAll_4 : decode cX0_inAll 4 = .ok (.iload_n 2, 1) := by decide +kernel
theorem dX0_inAll_5 : decode cX0_inAll 5 = .ok (.bipush 8, 2) := by decide +kernel
theorem dX0_inAll_7 : decode cX0_inAll 7 = .ok (.if_icmp .ge 20, 3) := by decide +kernel
theorem dX0_inAll_10 : decode cX0_inAll 10 = .ok (.iload_n 1, 1) := by decide +kernel
theorem dX0_inAll_11 : decode cX0_inAll 11 = .ok (.aload_n 0, 1) := by decide +kernel
theorem dX0_inAll_12 : decode cX0_inAll 12 = .ok (.getfield 9, 3) := by decide +kernel
theorem dX0_inAll_15 : decode cX0_inAll 15 = .ok (.iload_n 2, 1) := by decide +kernel
theorem dX0_inAll_16 : decode cX0_inAll 16 = .ok (.invokestatic 15, 3) := by decide +kernel
theorem dX0_inAll_19 : decode cX0_inAll 19 = .ok (.iadd, 1) := by decide +kernel
theorem dX0_inAll_20 : decode cX0_inAll 20 = .ok (.istore_n 1, 1) := by decide +kernel
theorem dX0_inAll_21 : decode cX0_inAll 21 = .ok (.iinc 2 1, 3) := by decide +kernel
theorem dX0_inAll_24 : decode cX0_inAll 24 = .ok (.goto (-20), 3) := by decide +kernel
theorem dX0_inAll_27 : decode cX0_inAll 27 = .ok (.iload_n 1, 1) := by decide +kernel
theorem dX0_inAll_28 : decode cX0_inAll 28 = .ok (.ireturn, 1) := by decide +kernel
set_option maxRecDepth 20000 in
theorem ggX0_empty_X3_at : GoodIn wsX0_empty wsX3_at := goodIn_r _ [4] (by decide +kernel) (by decide +kernel)
set_option maxRecDepth 20000 in
theorem gX0_empty_X3_at_n15 : GoodIn wsX0_empty (wsX3_at) := ggX0_empty_X3_at
theorem dX0_empty_0 : decode cX0_empty 0 = .ok (.iconst 0, 1) := by decide +kernel
theorem dX0_empty_1 : decode cX0_empty 1 = .ok (.istore_n 1, 1) := by decide +kernel
theorem dX0_empty_2 : decode cX0_empty 2 = .ok (.iconst 0, 1) := by decide +kernel
theorem dX0_empty_3 : decode cX0_empty 3 = .ok (.istore_n 2, 1) := by decide +kernel
theorem dX0_empty_4 : decode cX0_empty 4 = .ok (.iload_n 2, 1) := by decide +kernel
theorem dX0_empty_5 : decode cX0_empty 5 = .ok (.bipush 8, 2) := by decide +kernel
theorem dX0_empty_7 : decode cX0_empty 7 = .ok (.if_icmp .ge 23, 3) := by decide +kernel
theorem dX0_empty_10 : decode cX0_empty 10 = .ok (.aload_n 0, 1) := by decide +kernel
theorem dX0_empty_11 : decode cX0_empty 11 = .ok (.getfield 9, 3) := by decide +kernel
theorem dX0_empty_14 : decode cX0_empty 14 = .ok (.iload_n 2, 1) := by decide +kernel
theorem dX0_empty_15 : decode cX0_empty 15 = .ok (.invokestatic 15, 3) := by decide +kernel
theorem dX0_empty_18 : decode cX0_empty 18 = .ok (.ifCond .ne 6, 3) := by decide +kernel
theorem dX0_empty_21 : decode cX0_empty 21 = .ok (.iinc 1 1, 3) := by decide +kernel
theorem dX0_empty_24 : decode cX0_empty 24 = .ok (.iinc 2 1, 3) := by decide +kernel
theorem dX0_empty_27 : decode cX0_empty 27 = .ok (.goto (-23), 3) := by decide +kernel
theorem dX0_empty_30 : decode cX0_empty 30 = .ok (.iload_n 1, 1) := by decide +kernel
theorem dX0_empty_31 : decode cX0_empty 31 = .ok (.ireturn, 1) := by decide +kernel
set_option maxRecDepth 20000 in
theorem ggX1_init_X2_init : GoodIn wsX1_init wsX2_init := goodIn_r _ [17, 18, 2, 3, 19, 20, 21, 22, 23, 24, 25, 26, 27, 28, 34, 35, 36, 37, 38, 39, 40, 41, 42] (by decide +kernel) (by decide +kernel)
set_option maxRecDepth 20000 in
theorem gX1_init_X2_init : GoodIn wsX1_init (wsX2_init) := ggX1_init_X2_init
set_option maxRecDepth 20000 in
theorem ggX1_init_X0_init : GoodIn wsX1_init wsX0_init := goodIn_r _ [31, 32, 2, 3, 19, 33, 48] (by decide +kernel) (by decide +kernel)
set_option maxRecDepth 20000 in
theorem gX1_init_X0_init : GoodIn wsX1_init (wsX0_init) := ggX1_init_X0_init
theorem dX1_init_0 : decode cX1_init 0 = .ok (.aload_n 0, 1) := by decide +kernel
theorem dX1_init_1 : decode cX1_init 1 = .ok (.invokespecial 3, 3) := by decide +kernel
theorem dX1_init_4 : decode cX1_init 4 = .ok (.aload_n 0, 1) := by decide +kernel
theorem dX1_init_5 : decode cX1_init 5 = .ok (.new 9, 3) := by decide +kernel
theorem dX1_init_8 : decode cX1_init 8 = .ok (.dup, 1) := by decide +kernel
theorem dX1_init_9 : decode cX1_init 9 = .ok (.iconst 0, 1) := by decide +kernel
theorem dX1_init_10 : decode cX1_init 10 = .ok (.invokespecial 11, 3) := by decide +kernel
theorem dX1_init_13 : decode cX1_init 13 = .ok (.putfield 14, 3) := by decide +kernel
theorem dX1_init_16 : decode cX1_init 16 = .ok (.aload_n 0, 1) := by decide +kernel
theorem dX1_init_17 : decode cX1_init 17 = .ok (.new 9, 3) := by decide +kernel
theorem dX1_init_20 : decode cX1_init 20 = .ok (.dup, 1) := by decide +kernel
theorem dX1_init_21 : decode cX1_init 21 = .ok (.iconst 1, 1) := by decide +kernel
theorem dX1_init_22 : decode cX1_init 22 = .ok (.invokespecial 11, 3) := by decide +kernel
theorem dX1_init_25 : decode cX1_init 25 = .ok (.putfield 20, 3) := by decide +kernel
theorem dX1_init_28 : decode cX1_init 28 = .ok (.aload_n 0, 1) := by decide +kernel
theorem dX1_init_29 : decode cX1_init 29 = .ok (.new 23, 3) := by decide +kernel
theorem dX1_init_32 : decode cX1_init 32 = .ok (.dup, 1) := by decide +kernel
theorem dX1_init_33 : decode cX1_init 33 = .ok (.invokespecial 25, 3) := by decide +kernel
theorem dX1_init_36 : decode cX1_init 36 = .ok (.putfield 26, 3) := by decide +kernel
theorem dX1_init_39 : decode cX1_init 39 = .ok (.aload_n 0, 1) := by decide +kernel
theorem dX1_init_40 : decode cX1_init 40 = .ok (.iconst 0, 1) := by decide +kernel
theorem dX1_init_41 : decode cX1_init 41 = .ok (.putfield 30, 3) := by decide +kernel
theorem dX1_init_44 : decode cX1_init 44 = .ok (.aload_n 0, 1) := by decide +kernel
theorem dX1_init_45 : decode cX1_init 45 = .ok (.iconst 0, 1) := by decide +kernel
theorem dX1_init_46 : decode cX1_init 46 = .ok (.putfield 34, 3) := by decide +kernel
theorem dX1_init_49 : decode cX1_init 49 = .ok (.return_, 1) := by decide +kernel
theorem dX1_weaverAt_0 : decode cX1_weaverAt 0 = .ok (.iload_n 1, 1) := by decide +kernel
theorem dX1_weaverAt_1 : decode cX1_weaverAt 1 = .ok (.ifCond .ne 10, 3) := by decide +kernel
theorem dX1_weaverAt_4 : decode cX1_weaverAt 4 = .ok (.aload_n 0, 1) := by decide +kernel
theorem dX1_weaverAt_5 : decode cX1_weaverAt 5 = .ok (.getfield 14, 3) := by decide +kernel
theorem dX1_weaverAt_8 : decode cX1_weaverAt 8 = .ok (.goto 7, 3) := by decide +kernel
theorem dX1_weaverAt_11 : decode cX1_weaverAt 11 = .ok (.aload_n 0, 1) := by decide +kernel
theorem dX1_weaverAt_12 : decode cX1_weaverAt 12 = .ok (.getfield 20, 3) := by decide +kernel
theorem dX1_weaverAt_15 : decode cX1_weaverAt 15 = .ok (.areturn, 1) := by decide +kernel
set_option maxRecDepth 20000 in
theorem ggX1_ownerOf_X3_sideOf : GoodIn wsX1_ownerOf wsX3_sideOf := goodIn_r _ [3] (by decide +kernel) (by decide +kernel)
set_option maxRecDepth 20000 in
theorem gX1_ownerOf_X3_sideOf_n37 : GoodIn wsX1_ownerOf (wsX3_sideOf) := ggX1_ownerOf_X3_sideOf
set_option maxRecDepth 20000 in
theorem ggX1_ownerOf_X1_weaverAt : GoodIn wsX1_ownerOf wsX1_weaverAt := goodIn_r _ [8, 9, 10, 11, 12, 13, 14, 15] (by decide +kernel) (by decide +kernel)
set_option maxRecDepth 20000 in
theorem gX1_ownerOf_X1_weaverAt : GoodIn wsX1_ownerOf (wsV RX1 41 RX1 yX1_weaverAt wsX1_weaverAt) := goodIn_app (goodIn_of _ (by decide +kernel)) ggX1_ownerOf_X1_weaverAt
theorem dX1_ownerOf_0 : decode cX1_ownerOf 0 = .ok (.aload_n 0, 1) := by decide +kernel
theorem dX1_ownerOf_1 : decode cX1_ownerOf 1 = .ok (.iload_n 1, 1) := by decide +kernel
theorem dX1_ownerOf_2 : decode cX1_ownerOf 2 = .ok (.invokestatic 37, 3) := by decide +kernel
theorem dX1_ownerOf_5 : decode cX1_ownerOf 5 = .ok (.invokevirtual 41, 3) := by decide +kernel
theorem dX1_ownerOf_8 : decode cX1_ownerOf 8 = .ok (.areturn, 1) := by decide +kernel
set_option maxRecDepth 20000 in
theorem ggX1_knotAt_X1_ownerOf : GoodIn wsX1_knotAt wsX1_ownerOf := goodIn_r _ [5, 6, 7, 8, 9, 10, 11, 4, 12, 13, 14, 26, 27, 28, 29, 30] (by decide +kernel) (by decide +kernel)
set_option maxRecDepth 20000 in
theorem gX1_knotAt_X1_ownerOf : GoodIn wsX1_knotAt (wsV RX1 45 RX1 yX1_ownerOf wsX1_ownerOf) := goodIn_app (goodIn_of _ (by decide +kernel)) ggX1_knotAt_X1_ownerOf
set_option maxRecDepth 20000 in
theorem ggX1_knotAt_X3_placeOf : GoodIn wsX1_knotAt wsX3_placeOf := goodIn_r _ [16] (by decide +kernel) (by decide +kernel)
set_option maxRecDepth 20000 in
theorem gX1_knotAt_X3_placeOf_n48 : GoodIn wsX1_knotAt (wsX3_placeOf) := ggX1_knotAt_X3_placeOf
set_option maxRecDepth 20000 in
theorem ggX1_knotAt_X2_knotAtPlace : GoodIn wsX1_knotAt wsX2_knotAtPlace := goodIn_r _ [21, 22, 23, 24, 7, 25, 31, 32, 33, 34, 35, 36, 37, 38, 39] (by decide +kernel) (by decide +kernel)
set_option maxRecDepth 20000 in
theorem gX1_knotAt_X2_knotAtPlace : GoodIn wsX1_knotAt (wsV RX1 52 RX2 yX2_knotAtPlace wsX2_knotAtPlace) := goodIn_app (goodIn_of _ (by decide +kernel)) ggX1_knotAt_X2_knotAtPlace
theorem dX1_knotAt_0 : decode cX1_knotAt 0 = .ok (.aload_n 0, 1) := by decide +kernel
theorem dX1_knotAt_1 : decode cX1_knotAt 1 = .ok (.iload_n 1, 1) := by decide +kernel
theorem dX1_knotAt_2 : decode cX1_knotAt 2 = .ok (.invokevirtual 45, 3) := by decide +kernel
theorem dX1_knotAt_5 : decode cX1_knotAt 5 = .ok (.iload_n 1, 1) := by decide +kernel
theorem dX1_knotAt_6 : decode cX1_knotAt 6 = .ok (.iload_n 2, 1) := by decide +kernel
theorem dX1_knotAt_7 : decode cX1_knotAt 7 = .ok (.invokestatic 48, 3) := by decide +kernel
theorem dX1_knotAt_10 : decode cX1_knotAt 10 = .ok (.invokevirtual 52, 3) := by decide +kernel
theorem dX1_knotAt_13 : decode cX1_knotAt 13 = .ok (.ireturn, 1) := by decide +kernel
set_option maxRecDepth 20000 in
theorem ggX1_planAt_X1_ownerOf : GoodIn wsX1_planAt wsX1_ownerOf := goodIn_r _ [5, 6, 7, 8, 9, 10, 11, 4, 12, 13, 14, 28, 29, 30, 31, 32] (by decide +kernel) (by decide +kernel)
set_option maxRecDepth 20000 in
theorem gX1_planAt_X1_ownerOf : GoodIn wsX1_planAt (wsV RX1 45 RX1 yX1_ownerOf wsX1_ownerOf) := goodIn_app (goodIn_of _ (by decide +kernel)) ggX1_planAt_X1_ownerOf
set_option maxRecDepth 20000 in
theorem ggX1_planAt_X3_placeOf : GoodIn wsX1_planAt wsX3_placeOf := goodIn_r _ [16] (by decide +kernel) (by decide +kernel)
set_option maxRecDepth 20000 in
theorem gX1_planAt_X3_placeOf_n48 : GoodIn wsX1_planAt (wsX3_placeOf) := ggX1_planAt_X3_placeOf
set_option maxRecDepth 20000 in
theorem ggX1_planAt_X3_at : GoodIn wsX1_planAt wsX3_at := goodIn_r _ [18] (by decide +kernel) (by decide +kernel)
set_option maxRecDepth 20000 in
theorem gX1_planAt_X3_at_n59 : GoodIn wsX1_planAt (wsX3_at) := ggX1_planAt_X3_at
theorem dX1_planAt_0 : decode cX1_planAt 0 = .ok (.aload_n 0, 1) := by decide +kernel
theorem dX1_planAt_1 : decode cX1_planAt 1 = .ok (.iload_n 1, 1) := by decide +kernel
theorem dX1_planAt_2 : decode cX1_planAt 2 = .ok (.invokevirtual 45, 3) := by decide +kernel
theorem dX1_planAt_5 : decode cX1_planAt 5 = .ok (.getfield 55, 3) := by decide +kernel
theorem dX1_planAt_8 : decode cX1_planAt 8 = .ok (.iload_n 1, 1) := by decide +kernel
theorem dX1_planAt_9 : decode cX1_planAt 9 = .ok (.iload_n 2, 1) := by decide +kernel
theorem dX1_planAt_10 : decode cX1_planAt 10 = .ok (.invokestatic 48, 3) := by decide +kernel
theorem dX1_planAt_13 : decode cX1_planAt 13 = .ok (.invokestatic 59, 3) := by decide +kernel
theorem dX1_planAt_16 : decode cX1_planAt 16 = .ok (.ireturn, 1) := by decide +kernel
set_option maxRecDepth 20000 in
theorem ggX1_becomeLike_X2_becomeLike : GoodIn wsX1_becomeLike wsX2_becomeLike := goodIn_r _ [10, 11, 12, 13, 14, 15, 16, 17, 18, 19, 20, 21, 28, 29, 30, 31, 32, 33, 34, 35, 36] (by decide +kernel) (by decide +kernel)
set_option maxRecDepth 20000 in
theorem gX1_becomeLike_X2_becomeLike : GoodIn wsX1_becomeLike (wsV RX1 63 RX2 yX2_becomeLike wsX2_becomeLike) := goodIn_app (goodIn_of _ (by decide +kernel)) ggX1_becomeLike_X2_becomeLike
set_option maxRecDepth 20000 in
theorem ggX1_becomeLike_X3_copyRow : GoodIn wsX1_becomeLike wsX3_copyRow := goodIn_r _ [21] (by decide +kernel) (by decide +kernel)
set_option maxRecDepth 20000 in
theorem gX1_becomeLike_X3_copyRow_n70 : GoodIn wsX1_becomeLike (wsX3_copyRow) := ggX1_becomeLike_X3_copyRow
theorem dX1_becomeLike_0 : decode cX1_becomeLike 0 = .ok (.aload_n 0, 1) := by decide +kernel
theorem dX1_becomeLike_1 : decode cX1_becomeLike 1 = .ok (.getfield 14, 3) := by decide +kernel
theorem dX1_becomeLike_4 : decode cX1_becomeLike 4 = .ok (.aload_n 1, 1) := by decide +kernel
theorem dX1_becomeLike_5 : decode cX1_becomeLike 5 = .ok (.getfield 14, 3) := by decide +kernel
theorem dX1_becomeLike_8 : decode cX1_becomeLike 8 = .ok (.invokevirtual 63, 3) := by decide +kernel
theorem dX1_becomeLike_11 : decode cX1_becomeLike 11 = .ok (.aload_n 0, 1) := by decide +kernel
theorem dX1_becomeLike_12 : decode cX1_becomeLike 12 = .ok (.getfield 20, 3) := by decide +kernel
theorem dX1_becomeLike_15 : decode cX1_becomeLike 15 = .ok (.aload_n 1, 1) := by decide +kernel
theorem dX1_becomeLike_16 : decode cX1_becomeLike 16 = .ok (.getfield 20, 3) := by decide +kernel
theorem dX1_becomeLike_19 : decode cX1_becomeLike 19 = .ok (.invokevirtual 63, 3) := by decide +kernel
theorem dX1_becomeLike_22 : decode cX1_becomeLike 22 = .ok (.aload_n 1, 1) := by decide +kernel
theorem dX1_becomeLike_23 : decode cX1_becomeLike 23 = .ok (.getfield 26, 3) := by decide +kernel
theorem dX1_becomeLike_26 : decode cX1_becomeLike 26 = .ok (.getfield 67, 3) := by decide +kernel
theorem dX1_becomeLike_29 : decode cX1_becomeLike 29 = .ok (.aload_n 0, 1) := by decide +kernel
theorem dX1_becomeLike_30 : decode cX1_becomeLike 30 = .ok (.getfield 26, 3) := by decide +kernel
theorem dX1_becomeLike_33 : decode cX1_becomeLike 33 = .ok (.getfield 67, 3) := by decide +kernel
theorem dX1_becomeLike_36 : decode cX1_becomeLike 36 = .ok (.invokestatic 70, 3) := by decide +kernel
theorem dX1_becomeLike_39 : decode cX1_becomeLike 39 = .ok (.aload_n 0, 1) := by decide +kernel
theorem dX1_becomeLike_40 : decode cX1_becomeLike 40 = .ok (.aload_n 1, 1) := by decide +kernel
theorem dX1_becomeLike_41 : decode cX1_becomeLike 41 = .ok (.getfield 30, 3) := by decide +kernel
theorem dX1_becomeLike_44 : decode cX1_becomeLike 44 = .ok (.putfield 30, 3) := by decide +kernel
theorem dX1_becomeLike_47 : decode cX1_becomeLike 47 = .ok (.aload_n 0, 1) := by decide +kernel
theorem dX1_becomeLike_48 : decode cX1_becomeLike 48 = .ok (.aload_n 1, 1) := by decide +kernel
theorem dX1_becomeLike_49 : decode cX1_becomeLike 49 = .ok (.getfield 34, 3) := by decide +kernel
theorem dX1_becomeLike_52 : decode cX1_becomeLike 52 = .ok (.putfield 34, 3) := by decide +kernel
theorem dX1_becomeLike_55 : decode cX1_becomeLike 55 = .ok (.return_, 1) := by decide +kernel
set_option maxRecDepth 20000 in
theorem ggX1_letGoBy_X2_workAnHour : GoodIn wsX1_letGoBy wsX2_workAnHour := goodIn_r _ [9, 10, 11, 12, 13, 8, 14, 15, 16, 17, 18, 19, 20, 21, 22, 23, 24, 25, 26, 27, 28, 29, 30, 31, 32, 33, 34, 35, 36, 37, 38, 39, 40, 41, 42, 43, 49, 50, 51, 52, 53, 54, 55, 56, 57, 58] (by decide +kernel) (by decide +kernel)
set_option maxRecDepth 20000 in
theorem gX1_letGoBy_X2_workAnHour : GoodIn wsX1_letGoBy (wsV RX1 74 RX2 yX2_workAnHour wsX2_workAnHour) := goodIn_app (goodIn_of _ (by decide +kernel)) ggX1_letGoBy_X2_workAnHour
theorem dX1_letGoBy_0 : decode cX1_letGoBy 0 = .ok (.iconst 0, 1) := by decide +kernel
theorem dX1_letGoBy_1 : decode cX1_letGoBy 1 = .ok (.istore_n 2, 1) := by decide +kernel
theorem dX1_letGoBy_2 : decode cX1_letGoBy 2 = .ok (.iconst 0, 1) := by decide +kernel
theorem dX1_letGoBy_3 : decode cX1_letGoBy 3 = .ok (.istore_n 3, 1) := by decide +kernel
theorem dX1_letGoBy_4 : decode cX1_letGoBy 4 = .ok (.iload_n 3, 1) := by decide +kernel
theorem dX1_letGoBy_5 : decode cX1_letGoBy 5 = .ok (.iload_n 1, 1) := by decide +kernel
theorem dX1_letGoBy_6 : decode cX1_letGoBy 6 = .ok (.if_icmp .ge 47, 3) := by decide +kernel
theorem dX1_letGoBy_9 : decode cX1_letGoBy 9 = .ok (.iload_n 2, 1) := by decide +kernel
theorem dX1_letGoBy_10 : decode cX1_letGoBy 10 = .ok (.aload_n 0, 1) := by decide +kernel
theorem dX1_letGoBy_11 : decode cX1_letGoBy 11 = .ok (.getfield 14, 3) := by decide +kernel
theorem dX1_letGoBy_14 : decode cX1_letGoBy 14 = .ok (.aload_n 0, 1) := by decide +kernel
theorem dX1_letGoBy_15 : decode cX1_letGoBy 15 = .ok (.getfield 26, 3) := by decide +kernel
theorem dX1_letGoBy_18 : decode cX1_letGoBy 18 = .ok (.invokevirtual 74, 3) := by decide +kernel
theorem dX1_letGoBy_21 : decode cX1_letGoBy 21 = .ok (.iadd, 1) := by decide +kernel
theorem dX1_letGoBy_22 : decode cX1_letGoBy 22 = .ok (.istore_n 2, 1) := by decide +kernel
theorem dX1_letGoBy_23 : decode cX1_letGoBy 23 = .ok (.iload_n 2, 1) := by decide +kernel
theorem dX1_letGoBy_24 : decode cX1_letGoBy 24 = .ok (.aload_n 0, 1) := by decide +kernel
theorem dX1_letGoBy_25 : decode cX1_letGoBy 25 = .ok (.getfield 20, 3) := by decide +kernel
theorem dX1_letGoBy_28 : decode cX1_letGoBy 28 = .ok (.aload_n 0, 1) := by decide +kernel
theorem dX1_letGoBy_29 : decode cX1_letGoBy 29 = .ok (.getfield 26, 3) := by decide +kernel
theorem dX1_letGoBy_32 : decode cX1_letGoBy 32 = .ok (.invokevirtual 74, 3) := by decide +kernel
theorem dX1_letGoBy_35 : decode cX1_letGoBy 35 = .ok (.iadd, 1) := by decide +kernel
theorem dX1_letGoBy_36 : decode cX1_letGoBy 36 = .ok (.istore_n 2, 1) := by decide +kernel
theorem dX1_letGoBy_37 : decode cX1_letGoBy 37 = .ok (.aload_n 0, 1) := by decide +kernel
theorem dX1_letGoBy_38 : decode cX1_letGoBy 38 = .ok (.dup, 1) := by decide +kernel
theorem dX1_letGoBy_39 : decode cX1_letGoBy 39 = .ok (.getfield 30, 3) := by decide +kernel
theorem dX1_letGoBy_42 : decode cX1_letGoBy 42 = .ok (.iconst 1, 1) := by decide +kernel
theorem dX1_letGoBy_43 : decode cX1_letGoBy 43 = .ok (.iadd, 1) := by decide +kernel
theorem dX1_letGoBy_44 : decode cX1_letGoBy 44 = .ok (.putfield 30, 3) := by decide +kernel
theorem dX1_letGoBy_47 : decode cX1_letGoBy 47 = .ok (.iinc 3 1, 3) := by decide +kernel
theorem dX1_letGoBy_50 : decode cX1_letGoBy 50 = .ok (.goto (-46), 3) := by decide +kernel
theorem dX1_letGoBy_53 : decode cX1_letGoBy 53 = .ok (.iload_n 2, 1) := by decide +kernel
theorem dX1_letGoBy_54 : decode cX1_letGoBy 54 = .ok (.ireturn, 1) := by decide +kernel
set_option maxRecDepth 20000 in
theorem ggX1_number_X1_knots : GoodIn wsX1_number wsX1_knots := goodIn_r _ [8, 9, 10, 54, 55, 56, 57, 58, 59, 60, 61, 62, 63, 64, 65, 66, 67] (by decide +kernel) (by decide +kernel)
set_option maxRecDepth 20000 in
theorem gX1_number_X1_knots : GoodIn wsX1_number (wsV RX1 78 RX1 yX1_knots wsX1_knots) := goodIn_app (goodIn_of _ (by decide +kernel)) ggX1_number_X1_knots
set_option maxRecDepth 20000 in
theorem ggX1_number_X1_offPlan : GoodIn wsX1_number wsX1_offPlan := goodIn_r _ [14, 9, 10, 15, 16, 17, 18, 19, 20, 21, 22, 23, 24, 25, 54, 55, 56, 57, 58, 59, 60, 61, 62, 63, 64, 65, 66, 67] (by decide +kernel) (by decide +kernel)
set_option maxRecDepth 20000 in
theorem gX1_number_X1_offPlan : GoodIn wsX1_number (wsV RX1 82 RX1 yX1_offPlan wsX1_offPlan) := goodIn_app (goodIn_of _ (by decide +kernel)) ggX1_number_X1_offPlan
set_option maxRecDepth 20000 in
theorem ggX1_number_X1_rowsDone : GoodIn wsX1_number wsX1_rowsDone := goodIn_r _ [29, 9, 10, 30, 31, 32, 33, 34, 35, 36, 18, 37, 20, 54, 55, 56, 57, 58, 59, 60, 61, 62, 63, 64, 65, 66, 67] (by decide +kernel) (by decide +kernel)
set_option maxRecDepth 20000 in
theorem gX1_number_X1_rowsDone : GoodIn wsX1_number (wsV RX1 85 RX1 yX1_rowsDone wsX1_rowsDone) := goodIn_app (goodIn_of _ (by decide +kernel)) ggX1_number_X1_rowsDone
set_option maxRecDepth 20000 in
theorem ggX1_number_X1_tornRows : GoodIn wsX1_number wsX1_tornRows := goodIn_r _ [41, 9, 10, 26, 27, 28, 7, 29, 30, 31, 32, 33, 34, 35, 36, 18, 37, 20, 42, 24, 43, 23, 25, 54, 55, 56, 57, 58, 59, 60, 61, 62, 63, 64, 65, 66, 67] (by decide +kernel) (by decide +kernel)
set_option maxRecDepth 20000 in
theorem gX1_number_X1_tornRows : GoodIn wsX1_number (wsV RX1 88 RX1 yX1_tornRows wsX1_tornRows) := goodIn_app (goodIn_of _ (by decide +kernel)) ggX1_number_X1_tornRows
set_option maxRecDepth 20000 in
theorem ggX1_number_X0_inAll : GoodIn wsX1_number wsX0_inAll := goodIn_r _ [48, 49, 23, 24, 25, 68] (by decide +kernel) (by decide +kernel)
set_option maxRecDepth 20000 in
theorem gX1_number_X0_inAll : GoodIn wsX1_number (wsV RX1 91 RX0 yX0_inAll wsX0_inAll) := goodIn_app (goodIn_of _ (by decide +kernel)) ggX1_number_X0_inAll
set_option maxRecDepth 20000 in
theorem ggX1_number_X0_empty : GoodIn wsX1_number wsX0_empty := goodIn_r _ [53, 49, 23, 24, 25, 68] (by decide +kernel) (by decide +kernel)
set_option maxRecDepth 20000 in
theorem gX1_number_X0_empty : GoodIn wsX1_number (wsV RX1 94 RX0 yX0_empty wsX0_empty) := goodIn_app (goodIn_of _ (by decide +kernel)) ggX1_number_X0_empty
theorem dX1_number_0 : decode cX1_number 0 = .ok (.iload_n 1, 1) := by decide +kernel
theorem dX1_number_1 : decode cX1_number 1 = .ok (.tableswitch 84 0 6 #[43, 48, 53, 58, 63, 68, 76], 43) := by decide +kernel
theorem dX1_number_44 : decode cX1_number 44 = .ok (.aload_n 0, 1) := by decide +kernel
theorem dX1_number_45 : decode cX1_number 45 = .ok (.getfield 30, 3) := by decide +kernel
theorem dX1_number_48 : decode cX1_number 48 = .ok (.ireturn, 1) := by decide +kernel
theorem dX1_number_49 : decode cX1_number 49 = .ok (.aload_n 0, 1) := by decide +kernel
theorem dX1_number_50 : decode cX1_number 50 = .ok (.invokevirtual 78, 3) := by decide +kernel
theorem dX1_number_53 : decode cX1_number 53 = .ok (.ireturn, 1) := by decide +kernel
theorem dX1_number_54 : decode cX1_number 54 = .ok (.aload_n 0, 1) := by decide +kernel
theorem dX1_number_55 : decode cX1_number 55 = .ok (.invokevirtual 82, 3) := by decide +kernel
theorem dX1_number_58 : decode cX1_number 58 = .ok (.ireturn, 1) := by decide +kernel
theorem dX1_number_59 : decode cX1_number 59 = .ok (.aload_n 0, 1) := by decide +kernel
theorem dX1_number_60 : decode cX1_number 60 = .ok (.invokevirtual 85, 3) := by decide +kernel
theorem dX1_number_63 : decode cX1_number 63 = .ok (.ireturn, 1) := by decide +kernel
theorem dX1_number_64 : decode cX1_number 64 = .ok (.aload_n 0, 1) := by decide +kernel
theorem dX1_number_65 : decode cX1_number 65 = .ok (.invokevirtual 88, 3) := by decide +kernel
theorem dX1_number_68 : decode cX1_number 68 = .ok (.ireturn, 1) := by decide +kernel
theorem dX1_number_69 : decode cX1_number 69 = .ok (.aload_n 0, 1) := by decide +kernel
theorem dX1_number_70 : decode cX1_number 70 = .ok (.getfield 26, 3) := by decide +kernel
theorem dX1_number_73 : decode cX1_number 73 = .ok (.invokevirtual 91, 3) := by decide +kernel
theorem dX1_number_76 : decode cX1_number 76 = .ok (.ireturn, 1) := by decide +kernel
theorem dX1_number_77 : decode cX1_number 77 = .ok (.aload_n 0, 1) := by decide +kernel
theorem dX1_number_78 : decode cX1_number 78 = .ok (.getfield 26, 3) := by decide +kernel
theorem dX1_number_81 : decode cX1_number 81 = .ok (.invokevirtual 94, 3) := by decide +kernel
theorem dX1_number_84 : decode cX1_number 84 = .ok (.ireturn, 1) := by decide +kernel
theorem dX1_number_85 : decode cX1_number 85 = .ok (.aload_n 0, 1) := by decide +kernel
theorem dX1_number_86 : decode cX1_number 86 = .ok (.getfield 34, 3) := by decide +kernel
theorem dX1_number_89 : decode cX1_number 89 = .ok (.ireturn, 1) := by decide +kernel
theorem dX1_knots_0 : decode cX1_knots 0 = .ok (.aload_n 0, 1) := by decide +kernel
theorem dX1_knots_1 : decode cX1_knots 1 = .ok (.getfield 14, 3) := by decide +kernel
theorem dX1_knots_4 : decode cX1_knots 4 = .ok (.getfield 97, 3) := by decide +kernel
theorem dX1_knots_7 : decode cX1_knots 7 = .ok (.aload_n 0, 1) := by decide +kernel
theorem dX1_knots_8 : decode cX1_knots 8 = .ok (.getfield 20, 3) := by decide +kernel
theorem dX1_knots_11 : decode cX1_knots 11 = .ok (.getfield 97, 3) := by decide +kernel
theorem dX1_knots_14 : decode cX1_knots 14 = .ok (.iadd, 1) := by decide +kernel
theorem dX1_knots_15 : decode cX1_knots 15 = .ok (.ireturn, 1) := by decide +kernel
set_option maxRecDepth 20000 in
theorem ggX1_offPlan_X2_offPlan : GoodIn wsX1_offPlan wsX2_offPlan := goodIn_r _ [7, 8, 9, 10, 11, 12, 13, 19, 20, 21, 22, 23, 24, 25, 26, 27] (by decide +kernel) (by decide +kernel)
set_option maxRecDepth 20000 in
theorem gX1_offPlan_X2_offPlan : GoodIn wsX1_offPlan (wsV RX1 100 RX2 yX2_offPlan wsX2_offPlan) := goodIn_app (goodIn_of _ (by decide +kernel)) ggX1_offPlan_X2_offPlan
theorem dX1_offPlan_0 : decode cX1_offPlan 0 = .ok (.aload_n 0, 1) := by decide +kernel
theorem dX1_offPlan_1 : decode cX1_offPlan 1 = .ok (.getfield 14, 3) := by decide +kernel
theorem dX1_offPlan_4 : decode cX1_offPlan 4 = .ok (.invokevirtual 100, 3) := by decide +kernel
theorem dX1_offPlan_7 : decode cX1_offPlan 7 = .ok (.aload_n 0, 1) := by decide +kernel
theorem dX1_offPlan_8 : decode cX1_offPlan 8 = .ok (.getfield 20, 3) := by decide +kernel
theorem dX1_offPlan_11 : decode cX1_offPlan 11 = .ok (.invokevirtual 100, 3) := by decide +kernel
theorem dX1_offPlan_14 : decode cX1_offPlan 14 = .ok (.iadd, 1) := by decide +kernel
theorem dX1_offPlan_15 : decode cX1_offPlan 15 = .ok (.ireturn, 1) := by decide +kernel
set_option maxRecDepth 20000 in
theorem ggX1_rowsDone_X2_rowsDone : GoodIn wsX1_rowsDone wsX2_rowsDone := goodIn_r _ [11, 12, 18, 19, 20, 21, 22, 23, 24, 25, 26] (by decide +kernel) (by decide +kernel)
set_option maxRecDepth 20000 in
theorem gX1_rowsDone_X2_rowsDone : GoodIn wsX1_rowsDone (wsV RX1 101 RX2 yX2_rowsDone wsX2_rowsDone) := goodIn_app (goodIn_of _ (by decide +kernel)) ggX1_rowsDone_X2_rowsDone
theorem dX1_rowsDone_0 : decode cX1_rowsDone 0 = .ok (.aload_n 0, 1) := by decide +kernel
theorem dX1_rowsDone_1 : decode cX1_rowsDone 1 = .ok (.getfield 14, 3) := by decide +kernel
theorem dX1_rowsDone_4 : decode cX1_rowsDone 4 = .ok (.invokevirtual 101, 3) := by decide +kernel
theorem dX1_rowsDone_7 : decode cX1_rowsDone 7 = .ok (.aload_n 0, 1) := by decide +kernel
theorem dX1_rowsDone_8 : decode cX1_rowsDone 8 = .ok (.getfield 20, 3) := by decide +kernel
theorem dX1_rowsDone_11 : decode cX1_rowsDone 11 = .ok (.invokevirtual 101, 3) := by decide +kernel
theorem dX1_rowsDone_14 : decode cX1_rowsDone 14 = .ok (.invokestatic 102, 3) := by decide +kernel
theorem dX1_rowsDone_17 : decode cX1_rowsDone 17 = .ok (.ireturn, 1) := by decide +kernel
set_option maxRecDepth 20000 in
theorem ggX1_tornRows_X1_rowsDone : GoodIn wsX1_tornRows wsX1_rowsDone := goodIn_r _ [7, 1, 2, 8, 9, 10, 11, 12, 13, 14, 15, 16, 17, 23, 24, 25, 26, 27, 28, 29, 30, 31, 32, 33, 34, 35, 36] (by decide +kernel) (by decide +kernel)
set_option maxRecDepth 20000 in
theorem gX1_tornRows_X1_rowsDone : GoodIn wsX1_tornRows (wsV RX1 85 RX1 yX1_rowsDone wsX1_rowsDone) := goodIn_app (goodIn_of _ (by decide +kernel)) ggX1_tornRows_X1_rowsDone
set_option maxRecDepth 20000 in
theorem ggX1_tornRows_X3_placeOf : GoodIn wsX1_tornRows wsX3_placeOf := goodIn_r _ [20] (by decide +kernel) (by decide +kernel)
set_option maxRecDepth 20000 in
theorem gX1_tornRows_X3_placeOf_n48 : GoodIn wsX1_tornRows (wsX3_placeOf) := ggX1_tornRows_X3_placeOf
set_option maxRecDepth 20000 in
theorem ggX1_tornRows_X3_at : GoodIn wsX1_tornRows wsX3_at := goodIn_r _ [22] (by decide +kernel) (by decide +kernel)
set_option maxRecDepth 20000 in
theorem gX1_tornRows_X3_at_n59 : GoodIn wsX1_tornRows (wsX3_at) := ggX1_tornRows_X3_at
theorem dX1_tornRows_0 : decode cX1_tornRows 0 = .ok (.iconst 0, 1) := by decide +kernel
theorem dX1_tornRows_1 : decode cX1_tornRows 1 = .ok (.istore_n 1, 1) := by decide +kernel
theorem dX1_tornRows_2 : decode cX1_tornRows 2 = .ok (.aload_n 0, 1) := by decide +kernel
theorem dX1_tornRows_3 : decode cX1_tornRows 3 = .ok (.invokevirtual 85, 3) := by decide +kernel
theorem dX1_tornRows_6 : decode cX1_tornRows 6 = .ok (.istore_n 2, 1) := by decide +kernel
theorem dX1_tornRows_7 : decode cX1_tornRows 7 = .ok (.iconst 0, 1) := by decide +kernel
theorem dX1_tornRows_8 : decode cX1_tornRows 8 = .ok (.istore_n 3, 1) := by decide +kernel
theorem dX1_tornRows_9 : decode cX1_tornRows 9 = .ok (.iload_n 3, 1) := by decide +kernel
theorem dX1_tornRows_10 : decode cX1_tornRows 10 = .ok (.iload_n 2, 1) := by decide +kernel
theorem dX1_tornRows_11 : decode cX1_tornRows 11 = .ok (.if_icmp .ge 95, 3) := by decide +kernel
theorem dX1_tornRows_14 : decode cX1_tornRows 14 = .ok (.bipush 6, 2) := by decide +kernel
theorem dX1_tornRows_16 : decode cX1_tornRows 16 = .ok (.iload_n 3, 1) := by decide +kernel
theorem dX1_tornRows_17 : decode cX1_tornRows 17 = .ok (.invokestatic 48, 3) := by decide +kernel
theorem dX1_tornRows_20 : decode cX1_tornRows 20 = .ok (.istore 4, 2) := by decide +kernel
theorem dX1_tornRows_22 : decode cX1_tornRows 22 = .ok (.aload_n 0, 1) := by decide +kernel
theorem dX1_tornRows_23 : decode cX1_tornRows 23 = .ok (.getfield 14, 3) := by decide +kernel
theorem dX1_tornRows_26 : decode cX1_tornRows 26 = .ok (.getfield 107, 3) := by decide +kernel
theorem dX1_tornRows_29 : decode cX1_tornRows 29 = .ok (.iload 4, 2) := by decide +kernel
theorem dX1_tornRows_31 : decode cX1_tornRows 31 = .ok (.invokestatic 59, 3) := by decide +kernel
theorem dX1_tornRows_34 : decode cX1_tornRows 34 = .ok (.aload_n 0, 1) := by decide +kernel
theorem dX1_tornRows_35 : decode cX1_tornRows 35 = .ok (.getfield 20, 3) := by decide +kernel
theorem dX1_tornRows_38 : decode cX1_tornRows 38 = .ok (.getfield 107, 3) := by decide +kernel
theorem dX1_tornRows_41 : decode cX1_tornRows 41 = .ok (.iload 4, 2) := by decide +kernel
theorem dX1_tornRows_43 : decode cX1_tornRows 43 = .ok (.invokestatic 59, 3) := by decide +kernel
theorem dX1_tornRows_46 : decode cX1_tornRows 46 = .ok (.if_icmp .ne 7, 3) := by decide +kernel
theorem dX1_tornRows_49 : decode cX1_tornRows 49 = .ok (.iconst 1, 1) := by decide +kernel
theorem dX1_tornRows_50 : decode cX1_tornRows 50 = .ok (.goto 4, 3) := by decide +kernel
theorem dX1_tornRows_53 : decode cX1_tornRows 53 = .ok (.iconst 0, 1) := by decide +kernel
theorem dX1_tornRows_54 : decode cX1_tornRows 54 = .ok (.istore 5, 2) := by decide +kernel
theorem dX1_tornRows_56 : decode cX1_tornRows 56 = .ok (.aload_n 0, 1) := by decide +kernel
theorem dX1_tornRows_57 : decode cX1_tornRows 57 = .ok (.getfield 14, 3) := by decide +kernel
theorem dX1_tornRows_60 : decode cX1_tornRows 60 = .ok (.getfield 55, 3) := by decide +kernel
theorem dX1_tornRows_63 : decode cX1_tornRows 63 = .ok (.iload 4, 2) := by decide +kernel
theorem dX1_tornRows_65 : decode cX1_tornRows 65 = .ok (.invokestatic 59, 3) := by decide +kernel
theorem dX1_tornRows_68 : decode cX1_tornRows 68 = .ok (.aload_n 0, 1) := by decide +kernel
theorem dX1_tornRows_69 : decode cX1_tornRows 69 = .ok (.getfield 20, 3) := by decide +kernel
theorem dX1_tornRows_72 : decode cX1_tornRows 72 = .ok (.getfield 55, 3) := by decide +kernel
theorem dX1_tornRows_75 : decode cX1_tornRows 75 = .ok (.iload 4, 2) := by decide +kernel
theorem dX1_tornRows_77 : decode cX1_tornRows 77 = .ok (.invokestatic 59, 3) := by decide +kernel
theorem dX1_tornRows_80 : decode cX1_tornRows 80 = .ok (.if_icmp .ne 7, 3) := by decide +kernel
theorem dX1_tornRows_83 : decode cX1_tornRows 83 = .ok (.iconst 1, 1) := by decide +kernel
theorem dX1_tornRows_84 : decode cX1_tornRows 84 = .ok (.goto 4, 3) := by decide +kernel
theorem dX1_tornRows_87 : decode cX1_tornRows 87 = .ok (.iconst 0, 1) := by decide +kernel
theorem dX1_tornRows_88 : decode cX1_tornRows 88 = .ok (.istore 6, 2) := by decide +kernel
theorem dX1_tornRows_90 : decode cX1_tornRows 90 = .ok (.iload 5, 2) := by decide +kernel
theorem dX1_tornRows_92 : decode cX1_tornRows 92 = .ok (.iload 6, 2) := by decide +kernel
theorem dX1_tornRows_94 : decode cX1_tornRows 94 = .ok (.if_icmp .eq 6, 3) := by decide +kernel
theorem dX1_tornRows_97 : decode cX1_tornRows 97 = .ok (.iinc 1 1, 3) := by decide +kernel
theorem dX1_tornRows_100 : decode cX1_tornRows 100 = .ok (.iinc 3 1, 3) := by decide +kernel
theorem dX1_tornRows_103 : decode cX1_tornRows 103 = .ok (.goto (-94), 3) := by decide +kernel
theorem dX1_tornRows_106 : decode cX1_tornRows 106 = .ok (.iload_n 1, 1) := by decide +kernel
theorem dX1_tornRows_107 : decode cX1_tornRows 107 = .ok (.ireturn, 1) := by decide +kernel
theorem dX2_init_0 : decode cX2_init 0 = .ok (.aload_n 0, 1) := by decide +kernel
theorem dX2_init_1 : decode cX2_init 1 = .ok (.invokespecial 3, 3) := by decide +kernel
theorem dX2_init_4 : decode cX2_init 4 = .ok (.aload_n 0, 1) := by decide +kernel
theorem dX2_init_5 : decode cX2_init 5 = .ok (.bipush 60, 2) := by decide +kernel
theorem dX2_init_7 : decode cX2_init 7 = .ok (.newarray .int, 2) := by decide +kernel
theorem dX2_init_9 : decode cX2_init 9 = .ok (.putfield 9, 3) := by decide +kernel
theorem dX2_init_12 : decode cX2_init 12 = .ok (.aload_n 0, 1) := by decide +kernel
theorem dX2_init_13 : decode cX2_init 13 = .ok (.bipush 60, 2) := by decide +kernel
theorem dX2_init_15 : decode cX2_init 15 = .ok (.newarray .int, 2) := by decide +kernel
theorem dX2_init_17 : decode cX2_init 17 = .ok (.putfield 15, 3) := by decide +kernel
theorem dX2_init_20 : decode cX2_init 20 = .ok (.aload_n 0, 1) := by decide +kernel
theorem dX2_init_21 : decode cX2_init 21 = .ok (.bipush 20, 2) := by decide +kernel
theorem dX2_init_23 : decode cX2_init 23 = .ok (.newarray .int, 2) := by decide +kernel
theorem dX2_init_25 : decode cX2_init 25 = .ok (.putfield 18, 3) := by decide +kernel
theorem dX2_init_28 : decode cX2_init 28 = .ok (.aload_n 0, 1) := by decide +kernel
theorem dX2_init_29 : decode cX2_init 29 = .ok (.bipush 20, 2) := by decide +kernel
theorem dX2_init_31 : decode cX2_init 31 = .ok (.newarray .int, 2) := by decide +kernel
theorem dX2_init_33 : decode cX2_init 33 = .ok (.putfield 21, 3) := by decide +kernel
theorem dX2_init_36 : decode cX2_init 36 = .ok (.aload_n 0, 1) := by decide +kernel
theorem dX2_init_37 : decode cX2_init 37 = .ok (.iconst 1, 1) := by decide +kernel
theorem dX2_init_38 : decode cX2_init 38 = .ok (.putfield 24, 3) := by decide +kernel
theorem dX2_init_41 : decode cX2_init 41 = .ok (.aload_n 0, 1) := by decide +kernel
theorem dX2_init_42 : decode cX2_init 42 = .ok (.iconst 0, 1) := by decide +kernel
theorem dX2_init_43 : decode cX2_init 43 = .ok (.putfield 28, 3) := by decide +kernel
theorem dX2_init_46 : decode cX2_init 46 = .ok (.aload_n 0, 1) := by decide +kernel
theorem dX2_init_47 : decode cX2_init 47 = .ok (.iconst 0, 1) := by decide +kernel
theorem dX2_init_48 : decode cX2_init 48 = .ok (.putfield 31, 3) := by decide +kernel
theorem dX2_init_51 : decode cX2_init 51 = .ok (.aload_n 0, 1) := by decide +kernel
theorem dX2_init_52 : decode cX2_init 52 = .ok (.iconst 0, 1) := by decide +kernel
theorem dX2_init_53 : decode cX2_init 53 = .ok (.putfield 34, 3) := by decide +kernel
theorem dX2_init_56 : decode cX2_init 56 = .ok (.aload_n 0, 1) := by decide +kernel
theorem dX2_init_57 : decode cX2_init 57 = .ok (.iload_n 1, 1) := by decide +kernel
theorem dX2_init_58 : decode cX2_init 58 = .ok (.putfield 37, 3) := by decide +kernel
theorem dX2_init_61 : decode cX2_init 61 = .ok (.return_, 1) := by decide +kernel
set_option maxRecDepth 20000 in
theorem ggX2_becomeLike_X3_copyRow : GoodIn wsX2_becomeLike wsX3_copyRow := goodIn_r _ [11] (by decide +kernel) (by decide +kernel)
set_option maxRecDepth 20000 in
theorem gX2_becomeLike_X3_copyRow_n40 : GoodIn wsX2_becomeLike (wsX3_copyRow) := ggX2_becomeLike_X3_copyRow
theorem dX2_becomeLike_0 : decode cX2_becomeLike 0 = .ok (.aload_n 1, 1) := by decide +kernel
theorem dX2_becomeLike_1 : decode cX2_becomeLike 1 = .ok (.getfield 9, 3) := by decide +kernel
theorem dX2_becomeLike_4 : decode cX2_becomeLike 4 = .ok (.aload_n 0, 1) := by decide +kernel
theorem dX2_becomeLike_5 : decode cX2_becomeLike 5 = .ok (.getfield 9, 3) := by decide +kernel
theorem dX2_becomeLike_8 : decode cX2_becomeLike 8 = .ok (.invokestatic 40, 3) := by decide +kernel
theorem dX2_becomeLike_11 : decode cX2_becomeLike 11 = .ok (.aload_n 1, 1) := by decide +kernel
theorem dX2_becomeLike_12 : decode cX2_becomeLike 12 = .ok (.getfield 15, 3) := by decide +kernel
theorem dX2_becomeLike_15 : decode cX2_becomeLike 15 = .ok (.aload_n 0, 1) := by decide +kernel
theorem dX2_becomeLike_16 : decode cX2_becomeLike 16 = .ok (.getfield 15, 3) := by decide +kernel
theorem dX2_becomeLike_19 : decode cX2_becomeLike 19 = .ok (.invokestatic 40, 3) := by decide +kernel
theorem dX2_becomeLike_22 : decode cX2_becomeLike 22 = .ok (.aload_n 1, 1) := by decide +kernel
theorem dX2_becomeLike_23 : decode cX2_becomeLike 23 = .ok (.getfield 18, 3) := by decide +kernel
theorem dX2_becomeLike_26 : decode cX2_becomeLike 26 = .ok (.aload_n 0, 1) := by decide +kernel
theorem dX2_becomeLike_27 : decode cX2_becomeLike 27 = .ok (.getfield 18, 3) := by decide +kernel
theorem dX2_becomeLike_30 : decode cX2_becomeLike 30 = .ok (.invokestatic 40, 3) := by decide +kernel
theorem dX2_becomeLike_33 : decode cX2_becomeLike 33 = .ok (.aload_n 1, 1) := by decide +kernel
theorem dX2_becomeLike_34 : decode cX2_becomeLike 34 = .ok (.getfield 21, 3) := by decide +kernel
theorem dX2_becomeLike_37 : decode cX2_becomeLike 37 = .ok (.aload_n 0, 1) := by decide +kernel
theorem dX2_becomeLike_38 : decode cX2_becomeLike 38 = .ok (.getfield 21, 3) := by decide +kernel
theorem dX2_becomeLike_41 : decode cX2_becomeLike 41 = .ok (.invokestatic 40, 3) := by decide +kernel
theorem dX2_becomeLike_44 : decode cX2_becomeLike 44 = .ok (.aload_n 0, 1) := by decide +kernel
theorem dX2_becomeLike_45 : decode cX2_becomeLike 45 = .ok (.aload_n 1, 1) := by decide +kernel
theorem dX2_becomeLike_46 : decode cX2_becomeLike 46 = .ok (.getfield 24, 3) := by decide +kernel
theorem dX2_becomeLike_49 : decode cX2_becomeLike 49 = .ok (.putfield 24, 3) := by decide +kernel
theorem dX2_becomeLike_52 : decode cX2_becomeLike 52 = .ok (.aload_n 0, 1) := by decide +kernel
theorem dX2_becomeLike_53 : decode cX2_becomeLike 53 = .ok (.aload_n 1, 1) := by decide +kernel
theorem dX2_becomeLike_54 : decode cX2_becomeLike 54 = .ok (.getfield 28, 3) := by decide +kernel
theorem dX2_becomeLike_57 : decode cX2_becomeLike 57 = .ok (.putfield 28, 3) := by decide +kernel
theorem dX2_becomeLike_60 : decode cX2_becomeLike 60 = .ok (.aload_n 0, 1) := by decide +kernel
theorem dX2_becomeLike_61 : decode cX2_becomeLike 61 = .ok (.aload_n 1, 1) := by decide +kernel
theorem dX2_becomeLike_62 : decode cX2_becomeLike 62 = .ok (.getfield 31, 3) := by decide +kernel
theorem dX2_becomeLike_65 : decode cX2_becomeLike 65 = .ok (.putfield 31, 3) := by decide +kernel
theorem dX2_becomeLike_68 : decode cX2_becomeLike 68 = .ok (.aload_n 0, 1) := by decide +kernel
theorem dX2_becomeLike_69 : decode cX2_becomeLike 69 = .ok (.aload_n 1, 1) := by decide +kernel
theorem dX2_becomeLike_70 : decode cX2_becomeLike 70 = .ok (.getfield 34, 3) := by decide +kernel
theorem dX2_becomeLike_73 : decode cX2_becomeLike 73 = .ok (.putfield 34, 3) := by decide +kernel
theorem dX2_becomeLike_76 : decode cX2_becomeLike 76 = .ok (.return_, 1) := by decide +kernel
set_option maxRecDepth 20000 in
theorem ggX2_planCell_X3_at : GoodIn wsX2_planCell wsX3_at := goodIn_r _ [4] (by decide +kernel) (by decide +kernel)
set_option maxRecDepth 20000 in
theorem gX2_planCell_X3_at_n44 : GoodIn wsX2_planCell (wsX3_at) := ggX2_planCell_X3_at
set_option maxRecDepth 20000 in
theorem ggX2_planCell_X3_put : GoodIn wsX2_planCell wsX3_put := goodIn_r _ [6] (by decide +kernel) (by decide +kernel)
set_option maxRecDepth 20000 in
theorem gX2_planCell_X3_put_n48 : GoodIn wsX2_planCell (wsX3_put) := ggX2_planCell_X3_put
theorem dX2_planCell_0 : decode cX2_planCell 0 = .ok (.aload_n 0, 1) := by decide +kernel
theorem dX2_planCell_1 : decode cX2_planCell 1 = .ok (.getfield 9, 3) := by decide +kernel
theorem dX2_planCell_4 : decode cX2_planCell 4 = .ok (.iload_n 1, 1) := by decide +kernel
theorem dX2_planCell_5 : decode cX2_planCell 5 = .ok (.invokestatic 44, 3) := by decide +kernel
theorem dX2_planCell_8 : decode cX2_planCell 8 = .ok (.iload_n 2, 1) := by decide +kernel
theorem dX2_planCell_9 : decode cX2_planCell 9 = .ok (.if_icmp .eq 7, 3) := by decide +kernel
theorem dX2_planCell_12 : decode cX2_planCell 12 = .ok (.iconst 1, 1) := by decide +kernel
theorem dX2_planCell_13 : decode cX2_planCell 13 = .ok (.goto 4, 3) := by decide +kernel
theorem dX2_planCell_16 : decode cX2_planCell 16 = .ok (.iconst 0, 1) := by decide +kernel
theorem dX2_planCell_17 : decode cX2_planCell 17 = .ok (.istore_n 3, 1) := by decide +kernel
theorem dX2_planCell_18 : decode cX2_planCell 18 = .ok (.aload_n 0, 1) := by decide +kernel
theorem dX2_planCell_19 : decode cX2_planCell 19 = .ok (.getfield 9, 3) := by decide +kernel
theorem dX2_planCell_22 : decode cX2_planCell 22 = .ok (.iload_n 1, 1) := by decide +kernel
theorem dX2_planCell_23 : decode cX2_planCell 23 = .ok (.iload_n 2, 1) := by decide +kernel
theorem dX2_planCell_24 : decode cX2_planCell 24 = .ok (.invokestatic 48, 3) := by decide +kernel
theorem dX2_planCell_27 : decode cX2_planCell 27 = .ok (.iload_n 3, 1) := by decide +kernel
theorem dX2_planCell_28 : decode cX2_planCell 28 = .ok (.ireturn, 1) := by decide +kernel
set_option maxRecDepth 20000 in
theorem ggX2_knotAtPlace_X3_at : GoodIn wsX2_knotAtPlace wsX3_at := goodIn_r _ [5] (by decide +kernel) (by decide +kernel)
set_option maxRecDepth 20000 in
theorem gX2_knotAtPlace_X3_at_n44 : GoodIn wsX2_knotAtPlace (wsX3_at) := ggX2_knotAtPlace_X3_at
theorem dX2_knotAtPlace_0 : decode cX2_knotAtPlace 0 = .ok (.iload_n 1, 1) := by decide +kernel
theorem dX2_knotAtPlace_1 : decode cX2_knotAtPlace 1 = .ok (.aload_n 0, 1) := by decide +kernel
theorem dX2_knotAtPlace_2 : decode cX2_knotAtPlace 2 = .ok (.getfield 31, 3) := by decide +kernel
theorem dX2_knotAtPlace_5 : decode cX2_knotAtPlace 5 = .ok (.if_icmp .ge 14, 3) := by decide +kernel
theorem dX2_knotAtPlace_8 : decode cX2_knotAtPlace 8 = .ok (.aload_n 0, 1) := by decide +kernel
theorem dX2_knotAtPlace_9 : decode cX2_knotAtPlace 9 = .ok (.getfield 15, 3) := by decide +kernel
theorem dX2_knotAtPlace_12 : decode cX2_knotAtPlace 12 = .ok (.iload_n 1, 1) := by decide +kernel
theorem dX2_knotAtPlace_13 : decode cX2_knotAtPlace 13 = .ok (.invokestatic 44, 3) := by decide +kernel
theorem dX2_knotAtPlace_16 : decode cX2_knotAtPlace 16 = .ok (.goto 4, 3) := by decide +kernel
theorem dX2_knotAtPlace_19 : decode cX2_knotAtPlace 19 = .ok (.iconst (-1), 1) := by decide +kernel
theorem dX2_knotAtPlace_20 : decode cX2_knotAtPlace 20 = .ok (.ireturn, 1) := by decide +kernel
theorem dX2_isHalfDone_0 : decode cX2_isHalfDone 0 = .ok (.aload_n 0, 1) := by decide +kernel
theorem dX2_isHalfDone_1 : decode cX2_isHalfDone 1 = .ok (.getfield 31, 3) := by decide +kernel
theorem dX2_isHalfDone_4 : decode cX2_isHalfDone 4 = .ok (.bipush 60, 2) := by decide +kernel
theorem dX2_isHalfDone_6 : decode cX2_isHalfDone 6 = .ok (.if_icmp .lt 7, 3) := by decide +kernel
theorem dX2_isHalfDone_9 : decode cX2_isHalfDone 9 = .ok (.iconst 1, 1) := by decide +kernel
theorem dX2_isHalfDone_10 : decode cX2_isHalfDone 10 = .ok (.goto 4, 3) := by decide +kernel
theorem dX2_isHalfDone_13 : decode cX2_isHalfDone 13 = .ok (.iconst 0, 1) := by decide +kernel
theorem dX2_isHalfDone_14 : decode cX2_isHalfDone 14 = .ok (.ireturn, 1) := by decide +kernel
set_option maxRecDepth 20000 in
theorem ggX2_hasWork_X2_isHalfDone : GoodIn wsX2_hasWork wsX2_isHalfDone := goodIn_r _ [6, 7, 8, 9, 10, 11, 12, 13, 14, 15, 16] (by decide +kernel) (by decide +kernel)
set_option maxRecDepth 20000 in
theorem gX2_hasWork_X2_isHalfDone : GoodIn wsX2_hasWork (wsV RX2 52 RX2 yX2_isHalfDone wsX2_isHalfDone) := goodIn_app (goodIn_of _ (by decide +kernel)) ggX2_hasWork_X2_isHalfDone
theorem dX2_hasWork_0 : decode cX2_hasWork 0 = .ok (.aload_n 0, 1) := by decide +kernel
theorem dX2_hasWork_1 : decode cX2_hasWork 1 = .ok (.getfield 28, 3) := by decide +kernel
theorem dX2_hasWork_4 : decode cX2_hasWork 4 = .ok (.ifCond .le 14, 3) := by decide +kernel
theorem dX2_hasWork_7 : decode cX2_hasWork 7 = .ok (.aload_n 0, 1) := by decide +kernel
theorem dX2_hasWork_8 : decode cX2_hasWork 8 = .ok (.invokevirtual 52, 3) := by decide +kernel
theorem dX2_hasWork_11 : decode cX2_hasWork 11 = .ok (.ifCond .ne 7, 3) := by decide +kernel
theorem dX2_hasWork_14 : decode cX2_hasWork 14 = .ok (.iconst 1, 1) := by decide +kernel
theorem dX2_hasWork_15 : decode cX2_hasWork 15 = .ok (.goto 4, 3) := by decide +kernel
theorem dX2_hasWork_18 : decode cX2_hasWork 18 = .ok (.iconst 0, 1) := by decide +kernel
theorem dX2_hasWork_19 : decode cX2_hasWork 19 = .ok (.ireturn, 1) := by decide +kernel
theorem dX2_rowsDone_0 : decode cX2_rowsDone 0 = .ok (.aload_n 0, 1) := by decide +kernel
theorem dX2_rowsDone_1 : decode cX2_rowsDone 1 = .ok (.getfield 31, 3) := by decide +kernel
theorem dX2_rowsDone_4 : decode cX2_rowsDone 4 = .ok (.bipush 6, 2) := by decide +kernel
theorem dX2_rowsDone_6 : decode cX2_rowsDone 6 = .ok (.idiv, 1) := by decide +kernel
theorem dX2_rowsDone_7 : decode cX2_rowsDone 7 = .ok (.ireturn, 1) := by decide +kernel
set_option maxRecDepth 20000 in
theorem ggX2_addRun_X3_put : GoodIn wsX2_addRun wsX3_put := goodIn_r _ [6] (by decide +kernel) (by decide +kernel)
set_option maxRecDepth 20000 in
theorem gX2_addRun_X3_put_n48 : GoodIn wsX2_addRun (wsX3_put) := ggX2_addRun_X3_put
theorem dX2_addRun_0 : decode cX2_addRun 0 = .ok (.aload_n 0, 1) := by decide +kernel
theorem dX2_addRun_1 : decode cX2_addRun 1 = .ok (.getfield 18, 3) := by decide +kernel
theorem dX2_addRun_4 : decode cX2_addRun 4 = .ok (.aload_n 0, 1) := by decide +kernel
theorem dX2_addRun_5 : decode cX2_addRun 5 = .ok (.getfield 28, 3) := by decide +kernel
theorem dX2_addRun_8 : decode cX2_addRun 8 = .ok (.iload_n 1, 1) := by decide +kernel
theorem dX2_addRun_9 : decode cX2_addRun 9 = .ok (.invokestatic 48, 3) := by decide +kernel
theorem dX2_addRun_12 : decode cX2_addRun 12 = .ok (.aload_n 0, 1) := by decide +kernel
theorem dX2_addRun_13 : decode cX2_addRun 13 = .ok (.getfield 21, 3) := by decide +kernel
theorem dX2_addRun_16 : decode cX2_addRun 16 = .ok (.aload_n 0, 1) := by decide +kernel
theorem dX2_addRun_17 : decode cX2_addRun 17 = .ok (.getfield 28, 3) := by decide +kernel
theorem dX2_addRun_20 : decode cX2_addRun 20 = .ok (.iload_n 2, 1) := by decide +kernel
theorem dX2_addRun_21 : decode cX2_addRun 21 = .ok (.invokestatic 48, 3) := by decide +kernel
theorem dX2_addRun_24 : decode cX2_addRun 24 = .ok (.aload_n 0, 1) := by decide +kernel
theorem dX2_addRun_25 : decode cX2_addRun 25 = .ok (.dup, 1) := by decide +kernel
theorem dX2_addRun_26 : decode cX2_addRun 26 = .ok (.getfield 28, 3) := by decide +kernel
theorem dX2_addRun_29 : decode cX2_addRun 29 = .ok (.iconst 1, 1) := by decide +kernel
theorem dX2_addRun_30 : decode cX2_addRun 30 = .ok (.iadd, 1) := by decide +kernel
theorem dX2_addRun_31 : decode cX2_addRun 31 = .ok (.putfield 28, 3) := by decide +kernel
theorem dX2_addRun_34 : decode cX2_addRun 34 = .ok (.return_, 1) := by decide +kernel
set_option maxRecDepth 20000 in
theorem ggX2_toldInAll_X3_at : GoodIn wsX2_toldInAll wsX3_at := goodIn_r _ [5] (by decide +kernel) (by decide +kernel)
set_option maxRecDepth 20000 in
theorem gX2_toldInAll_X3_at_n44 : GoodIn wsX2_toldInAll (wsX3_at) := ggX2_toldInAll_X3_at
theorem dX2_toldInAll_0 : decode cX2_toldInAll 0 = .ok (.iconst 0, 1) := by decide +kernel
theorem dX2_toldInAll_1 : decode cX2_toldInAll 1 = .ok (.istore_n 1, 1) := by decide +kernel
theorem dX2_toldInAll_2 : decode cX2_toldInAll 2 = .ok (.iconst 0, 1) := by decide +kernel
theorem dX2_toldInAll_3 : decode cX2_toldInAll 3 = .ok (.istore_n 2, 1) := by decide +kernel
theorem dX2_toldInAll_4 : decode cX2_toldInAll 4 = .ok (.iload_n 2, 1) := by decide +kernel
theorem dX2_toldInAll_5 : decode cX2_toldInAll 5 = .ok (.aload_n 0, 1) := by decide +kernel
theorem dX2_toldInAll_6 : decode cX2_toldInAll 6 = .ok (.getfield 28, 3) := by decide +kernel
theorem dX2_toldInAll_9 : decode cX2_toldInAll 9 = .ok (.if_icmp .ge 20, 3) := by decide +kernel
theorem dX2_toldInAll_12 : decode cX2_toldInAll 12 = .ok (.iload_n 1, 1) := by decide +kernel
theorem dX2_toldInAll_13 : decode cX2_toldInAll 13 = .ok (.aload_n 0, 1) := by decide +kernel
theorem dX2_toldInAll_14 : decode cX2_toldInAll 14 = .ok (.getfield 21, 3) := by decide +kernel
theorem dX2_toldInAll_17 : decode cX2_toldInAll 17 = .ok (.iload_n 2, 1) := by decide +kernel
theorem dX2_toldInAll_18 : decode cX2_toldInAll 18 = .ok (.invokestatic 44, 3) := by decide +kernel
theorem dX2_toldInAll_21 : decode cX2_toldInAll 21 = .ok (.iadd, 1) := by decide +kernel
theorem dX2_toldInAll_22 : decode cX2_toldInAll 22 = .ok (.istore_n 1, 1) := by decide +kernel
theorem dX2_toldInAll_23 : decode cX2_toldInAll 23 = .ok (.iinc 2 1, 3) := by decide +kernel
theorem dX2_toldInAll_26 : decode cX2_toldInAll 26 = .ok (.goto (-22), 3) := by decide +kernel
theorem dX2_toldInAll_29 : decode cX2_toldInAll 29 = .ok (.iload_n 1, 1) := by decide +kernel
theorem dX2_toldInAll_30 : decode cX2_toldInAll 30 = .ok (.ireturn, 1) := by decide +kernel
set_option maxRecDepth 20000 in
theorem ggX2_workAnHour_X2_hasWork : GoodIn wsX2_workAnHour wsX2_hasWork := goodIn_r _ [6, 7, 8, 9, 10, 5, 11, 12, 36, 37, 38, 39, 40, 41, 42, 43, 44] (by decide +kernel) (by decide +kernel)
set_option maxRecDepth 20000 in
theorem gX2_workAnHour_X2_hasWork : GoodIn wsX2_workAnHour (wsV RX2 56 RX2 yX2_hasWork wsX2_hasWork) := goodIn_app (goodIn_of _ (by decide +kernel)) ggX2_workAnHour_X2_hasWork
set_option maxRecDepth 20000 in
theorem ggX2_workAnHour_X2_knotNext : GoodIn wsX2_workAnHour wsX2_knotNext := goodIn_r _ [16, 17, 18, 12, 19, 20, 21, 22, 23, 24, 25, 26, 27, 28, 29, 30, 31, 32, 33, 5, 34, 35, 7, 36, 37, 38, 39, 40, 41, 42, 43, 44, 45] (by decide +kernel) (by decide +kernel)
set_option maxRecDepth 20000 in
theorem gX2_workAnHour_X2_knotNext : GoodIn wsX2_workAnHour (wsV RX2 59 RX2 yX2_knotNext wsX2_knotNext) := goodIn_app (goodIn_of _ (by decide +kernel)) ggX2_workAnHour_X2_knotNext
theorem dX2_workAnHour_0 : decode cX2_workAnHour 0 = .ok (.iconst 0, 1) := by decide +kernel
theorem dX2_workAnHour_1 : decode cX2_workAnHour 1 = .ok (.istore_n 2, 1) := by decide +kernel
theorem dX2_workAnHour_2 : decode cX2_workAnHour 2 = .ok (.iload_n 2, 1) := by decide +kernel
theorem dX2_workAnHour_3 : decode cX2_workAnHour 3 = .ok (.aload_n 0, 1) := by decide +kernel
theorem dX2_workAnHour_4 : decode cX2_workAnHour 4 = .ok (.getfield 24, 3) := by decide +kernel
theorem dX2_workAnHour_7 : decode cX2_workAnHour 7 = .ok (.if_icmp .ge 24, 3) := by decide +kernel
theorem dX2_workAnHour_10 : decode cX2_workAnHour 10 = .ok (.aload_n 0, 1) := by decide +kernel
theorem dX2_workAnHour_11 : decode cX2_workAnHour 11 = .ok (.invokevirtual 56, 3) := by decide +kernel
theorem dX2_workAnHour_14 : decode cX2_workAnHour 14 = .ok (.ifCond .eq 17, 3) := by decide +kernel
theorem dX2_workAnHour_17 : decode cX2_workAnHour 17 = .ok (.aload_n 0, 1) := by decide +kernel
theorem dX2_workAnHour_18 : decode cX2_workAnHour 18 = .ok (.aload_n 1, 1) := by decide +kernel
theorem dX2_workAnHour_19 : decode cX2_workAnHour 19 = .ok (.invokevirtual 59, 3) := by decide +kernel
theorem dX2_workAnHour_22 : decode cX2_workAnHour 22 = .ok (.ifCond .eq 9, 3) := by decide +kernel
theorem dX2_workAnHour_25 : decode cX2_workAnHour 25 = .ok (.iinc 2 1, 3) := by decide +kernel
theorem dX2_workAnHour_28 : decode cX2_workAnHour 28 = .ok (.goto (-26), 3) := by decide +kernel
theorem dX2_workAnHour_31 : decode cX2_workAnHour 31 = .ok (.iload_n 2, 1) := by decide +kernel
theorem dX2_workAnHour_32 : decode cX2_workAnHour 32 = .ok (.ireturn, 1) := by decide +kernel
set_option maxRecDepth 20000 in
theorem ggX2_knotNext_X3_at : GoodIn wsX2_knotNext wsX3_at := goodIn_r _ [7] (by decide +kernel) (by decide +kernel)
set_option maxRecDepth 20000 in
theorem gX2_knotNext_X3_at_n44 : GoodIn wsX2_knotNext (wsX3_at) := ggX2_knotNext_X3_at
set_option maxRecDepth 20000 in
theorem ggX2_knotNext_X0_take : GoodIn wsX2_knotNext wsX0_take := goodIn_r _ [12, 13, 5, 6, 7, 14, 15, 32] (by decide +kernel) (by decide +kernel)
set_option maxRecDepth 20000 in
theorem gX2_knotNext_X0_take : GoodIn wsX2_knotNext (wsV RX2 63 RX0 yX0_take wsX0_take) := goodIn_app (goodIn_of _ (by decide +kernel)) ggX2_knotNext_X0_take
set_option maxRecDepth 20000 in
theorem ggX2_knotNext_X3_put : GoodIn wsX2_knotNext wsX3_put := goodIn_r _ [15] (by decide +kernel) (by decide +kernel)
set_option maxRecDepth 20000 in
theorem gX2_knotNext_X3_put_n48 : GoodIn wsX2_knotNext (wsX3_put) := ggX2_knotNext_X3_put
set_option maxRecDepth 20000 in
theorem ggX2_knotNext_X2_shortenFirstRun : GoodIn wsX2_knotNext wsX2_shortenFirstRun := goodIn_r _ [20, 21, 22, 1, 5, 6, 7, 14, 15, 23, 24, 25, 26, 27, 28, 29, 30, 31] (by decide +kernel) (by decide +kernel)
set_option maxRecDepth 20000 in
theorem gX2_knotNext_X2_shortenFirstRun : GoodIn wsX2_knotNext (wsV RX2 69 RX2 yX2_shortenFirstRun wsX2_shortenFirstRun) := goodIn_app (goodIn_of _ (by decide +kernel)) ggX2_knotNext_X2_shortenFirstRun
theorem dX2_knotNext_0 : decode cX2_knotNext 0 = .ok (.aload_n 0, 1) := by decide +kernel
theorem dX2_knotNext_1 : decode cX2_knotNext 1 = .ok (.getfield 18, 3) := by decide +kernel
theorem dX2_knotNext_4 : decode cX2_knotNext 4 = .ok (.iconst 0, 1) := by decide +kernel
theorem dX2_knotNext_5 : decode cX2_knotNext 5 = .ok (.invokestatic 44, 3) := by decide +kernel
theorem dX2_knotNext_8 : decode cX2_knotNext 8 = .ok (.istore_n 2, 1) := by decide +kernel
theorem dX2_knotNext_9 : decode cX2_knotNext 9 = .ok (.aload_n 1, 1) := by decide +kernel
theorem dX2_knotNext_10 : decode cX2_knotNext 10 = .ok (.iload_n 2, 1) := by decide +kernel
theorem dX2_knotNext_11 : decode cX2_knotNext 11 = .ok (.invokevirtual 63, 3) := by decide +kernel
theorem dX2_knotNext_14 : decode cX2_knotNext 14 = .ok (.istore_n 3, 1) := by decide +kernel
theorem dX2_knotNext_15 : decode cX2_knotNext 15 = .ok (.iload_n 3, 1) := by decide +kernel
theorem dX2_knotNext_16 : decode cX2_knotNext 16 = .ok (.iconst (-1), 1) := by decide +kernel
theorem dX2_knotNext_17 : decode cX2_knotNext 17 = .ok (.if_icmp .ne 5, 3) := by decide +kernel
theorem dX2_knotNext_20 : decode cX2_knotNext 20 = .ok (.iconst 0, 1) := by decide +kernel
theorem dX2_knotNext_21 : decode cX2_knotNext 21 = .ok (.ireturn, 1) := by decide +kernel
theorem dX2_knotNext_22 : decode cX2_knotNext 22 = .ok (.aload_n 0, 1) := by decide +kernel
theorem dX2_knotNext_23 : decode cX2_knotNext 23 = .ok (.getfield 15, 3) := by decide +kernel
theorem dX2_knotNext_26 : decode cX2_knotNext 26 = .ok (.aload_n 0, 1) := by decide +kernel
theorem dX2_knotNext_27 : decode cX2_knotNext 27 = .ok (.getfield 31, 3) := by decide +kernel
theorem dX2_knotNext_30 : decode cX2_knotNext 30 = .ok (.iload_n 3, 1) := by decide +kernel
theorem dX2_knotNext_31 : decode cX2_knotNext 31 = .ok (.invokestatic 48, 3) := by decide +kernel
theorem dX2_knotNext_34 : decode cX2_knotNext 34 = .ok (.aload_n 0, 1) := by decide +kernel
theorem dX2_knotNext_35 : decode cX2_knotNext 35 = .ok (.dup, 1) := by decide +kernel
theorem dX2_knotNext_36 : decode cX2_knotNext 36 = .ok (.getfield 31, 3) := by decide +kernel
theorem dX2_knotNext_39 : decode cX2_knotNext 39 = .ok (.iconst 1, 1) := by decide +kernel
theorem dX2_knotNext_40 : decode cX2_knotNext 40 = .ok (.iadd, 1) := by decide +kernel
theorem dX2_knotNext_41 : decode cX2_knotNext 41 = .ok (.putfield 31, 3) := by decide +kernel
theorem dX2_knotNext_44 : decode cX2_knotNext 44 = .ok (.iload_n 3, 1) := by decide +kernel
theorem dX2_knotNext_45 : decode cX2_knotNext 45 = .ok (.iload_n 2, 1) := by decide +kernel
theorem dX2_knotNext_46 : decode cX2_knotNext 46 = .ok (.if_icmp .eq 13, 3) := by decide +kernel
theorem dX2_knotNext_49 : decode cX2_knotNext 49 = .ok (.aload_n 0, 1) := by decide +kernel
theorem dX2_knotNext_50 : decode cX2_knotNext 50 = .ok (.dup, 1) := by decide +kernel
theorem dX2_knotNext_51 : decode cX2_knotNext 51 = .ok (.getfield 34, 3) := by decide +kernel
theorem dX2_knotNext_54 : decode cX2_knotNext 54 = .ok (.iconst 1, 1) := by decide +kernel
theorem dX2_knotNext_55 : decode cX2_knotNext 55 = .ok (.iadd, 1) := by decide +kernel
theorem dX2_knotNext_56 : decode cX2_knotNext 56 = .ok (.putfield 34, 3) := by decide +kernel
theorem dX2_knotNext_59 : decode cX2_knotNext 59 = .ok (.aload_n 0, 1) := by decide +kernel
theorem dX2_knotNext_60 : decode cX2_knotNext 60 = .ok (.invokevirtual 69, 3) := by decide +kernel
theorem dX2_knotNext_63 : decode cX2_knotNext 63 = .ok (.iconst 1, 1) := by decide +kernel
theorem dX2_knotNext_64 : decode cX2_knotNext 64 = .ok (.ireturn, 1) := by decide +kernel
set_option maxRecDepth 20000 in
theorem ggX2_shortenFirstRun_X3_at : GoodIn wsX2_shortenFirstRun wsX3_at := goodIn_r _ [6] (by decide +kernel) (by decide +kernel)
set_option maxRecDepth 20000 in
theorem gX2_shortenFirstRun_X3_at_n44 : GoodIn wsX2_shortenFirstRun (wsX3_at) := ggX2_shortenFirstRun_X3_at
set_option maxRecDepth 20000 in
theorem ggX2_shortenFirstRun_X3_put : GoodIn wsX2_shortenFirstRun wsX3_put := goodIn_r _ [8] (by decide +kernel) (by decide +kernel)
set_option maxRecDepth 20000 in
theorem gX2_shortenFirstRun_X3_put_n48 : GoodIn wsX2_shortenFirstRun (wsX3_put) := ggX2_shortenFirstRun_X3_put
theorem dX2_shortenFirstRun_0 : decode cX2_shortenFirstRun 0 = .ok (.aload_n 0, 1) := by decide +kernel
theorem dX2_shortenFirstRun_1 : decode cX2_shortenFirstRun 1 = .ok (.getfield 21, 3) := by decide +kernel
theorem dX2_shortenFirstRun_4 : decode cX2_shortenFirstRun 4 = .ok (.iconst 0, 1) := by decide +kernel
theorem dX2_shortenFirstRun_5 : decode cX2_shortenFirstRun 5 = .ok (.invokestatic 44, 3) := by decide +kernel
theorem dX2_shortenFirstRun_8 : decode cX2_shortenFirstRun 8 = .ok (.iconst 1, 1) := by decide +kernel
theorem dX2_shortenFirstRun_9 : decode cX2_shortenFirstRun 9 = .ok (.isub, 1) := by decide +kernel
theorem dX2_shortenFirstRun_10 : decode cX2_shortenFirstRun 10 = .ok (.istore_n 1, 1) := by decide +kernel
theorem dX2_shortenFirstRun_11 : decode cX2_shortenFirstRun 11 = .ok (.aload_n 0, 1) := by decide +kernel
theorem dX2_shortenFirstRun_12 : decode cX2_shortenFirstRun 12 = .ok (.getfield 21, 3) := by decide +kernel
theorem dX2_shortenFirstRun_15 : decode cX2_shortenFirstRun 15 = .ok (.iconst 0, 1) := by decide +kernel
theorem dX2_shortenFirstRun_16 : decode cX2_shortenFirstRun 16 = .ok (.iload_n 1, 1) := by decide +kernel
theorem dX2_shortenFirstRun_17 : decode cX2_shortenFirstRun 17 = .ok (.invokestatic 48, 3) := by decide +kernel
theorem dX2_shortenFirstRun_20 : decode cX2_shortenFirstRun 20 = .ok (.iload_n 1, 1) := by decide +kernel
theorem dX2_shortenFirstRun_21 : decode cX2_shortenFirstRun 21 = .ok (.ifCond .le 4, 3) := by decide +kernel
theorem dX2_shortenFirstRun_24 : decode cX2_shortenFirstRun 24 = .ok (.return_, 1) := by decide +kernel
theorem dX2_shortenFirstRun_25 : decode cX2_shortenFirstRun 25 = .ok (.iconst 1, 1) := by decide +kernel
theorem dX2_shortenFirstRun_26 : decode cX2_shortenFirstRun 26 = .ok (.istore_n 2, 1) := by decide +kernel
theorem dX2_shortenFirstRun_27 : decode cX2_shortenFirstRun 27 = .ok (.iload_n 2, 1) := by decide +kernel
theorem dX2_shortenFirstRun_28 : decode cX2_shortenFirstRun 28 = .ok (.aload_n 0, 1) := by decide +kernel
theorem dX2_shortenFirstRun_29 : decode cX2_shortenFirstRun 29 = .ok (.getfield 28, 3) := by decide +kernel
theorem dX2_shortenFirstRun_32 : decode cX2_shortenFirstRun 32 = .ok (.if_icmp .ge 45, 3) := by decide +kernel
theorem dX2_shortenFirstRun_35 : decode cX2_shortenFirstRun 35 = .ok (.aload_n 0, 1) := by decide +kernel
theorem dX2_shortenFirstRun_36 : decode cX2_shortenFirstRun 36 = .ok (.getfield 18, 3) := by decide +kernel
theorem dX2_shortenFirstRun_39 : decode cX2_shortenFirstRun 39 = .ok (.iload_n 2, 1) := by decide +kernel
theorem dX2_shortenFirstRun_40 : decode cX2_shortenFirstRun 40 = .ok (.iconst 1, 1) := by decide +kernel
theorem dX2_shortenFirstRun_41 : decode cX2_shortenFirstRun 41 = .ok (.isub, 1) := by decide +kernel
theorem dX2_shortenFirstRun_42 : decode cX2_shortenFirstRun 42 = .ok (.aload_n 0, 1) := by decide +kernel
theorem dX2_shortenFirstRun_43 : decode cX2_shortenFirstRun 43 = .ok (.getfield 18, 3) := by decide +kernel
theorem dX2_shortenFirstRun_46 : decode cX2_shortenFirstRun 46 = .ok (.iload_n 2, 1) := by decide +kernel
theorem dX2_shortenFirstRun_47 : decode cX2_shortenFirstRun 47 = .ok (.invokestatic 44, 3) := by decide +kernel
theorem dX2_shortenFirstRun_50 : decode cX2_shortenFirstRun 50 = .ok (.invokestatic 48, 3) := by decide +kernel
theorem dX2_shortenFirstRun_53 : decode cX2_shortenFirstRun 53 = .ok (.aload_n 0, 1) := by decide +kernel
theorem dX2_shortenFirstRun_54 : decode cX2_shortenFirstRun 54 = .ok (.getfield 21, 3) := by decide +kernel
theorem dX2_shortenFirstRun_57 : decode cX2_shortenFirstRun 57 = .ok (.iload_n 2, 1) := by decide +kernel
theorem dX2_shortenFirstRun_58 : decode cX2_shortenFirstRun 58 = .ok (.iconst 1, 1) := by decide +kernel
theorem dX2_shortenFirstRun_59 : decode cX2_shortenFirstRun 59 = .ok (.isub, 1) := by decide +kernel
theorem dX2_shortenFirstRun_60 : decode cX2_shortenFirstRun 60 = .ok (.aload_n 0, 1) := by decide +kernel
theorem dX2_shortenFirstRun_61 : decode cX2_shortenFirstRun 61 = .ok (.getfield 21, 3) := by decide +kernel
theorem dX2_shortenFirstRun_64 : decode cX2_shortenFirstRun 64 = .ok (.iload_n 2, 1) := by decide +kernel
theorem dX2_shortenFirstRun_65 : decode cX2_shortenFirstRun 65 = .ok (.invokestatic 44, 3) := by decide +kernel
theorem dX2_shortenFirstRun_68 : decode cX2_shortenFirstRun 68 = .ok (.invokestatic 48, 3) := by decide +kernel
theorem dX2_shortenFirstRun_71 : decode cX2_shortenFirstRun 71 = .ok (.iinc 2 1, 3) := by decide +kernel
theorem dX2_shortenFirstRun_74 : decode cX2_shortenFirstRun 74 = .ok (.goto (-47), 3) := by decide +kernel
theorem dX2_shortenFirstRun_77 : decode cX2_shortenFirstRun 77 = .ok (.aload_n 0, 1) := by decide +kernel
theorem dX2_shortenFirstRun_78 : decode cX2_shortenFirstRun 78 = .ok (.dup, 1) := by decide +kernel
theorem dX2_shortenFirstRun_79 : decode cX2_shortenFirstRun 79 = .ok (.getfield 28, 3) := by decide +kernel
theorem dX2_shortenFirstRun_82 : decode cX2_shortenFirstRun 82 = .ok (.iconst 1, 1) := by decide +kernel
theorem dX2_shortenFirstRun_83 : decode cX2_shortenFirstRun 83 = .ok (.isub, 1) := by decide +kernel
theorem dX2_shortenFirstRun_84 : decode cX2_shortenFirstRun 84 = .ok (.putfield 28, 3) := by decide +kernel
theorem dX2_shortenFirstRun_87 : decode cX2_shortenFirstRun 87 = .ok (.return_, 1) := by decide +kernel
set_option maxRecDepth 20000 in
theorem ggX2_undo_X3_at : GoodIn wsX2_undo wsX3_at := goodIn_r _ [5] (by decide +kernel) (by decide +kernel)
set_option maxRecDepth 20000 in
theorem gX2_undo_X3_at_n44 : GoodIn wsX2_undo (wsX3_at) := ggX2_undo_X3_at
set_option maxRecDepth 20000 in
theorem ggX2_undo_X0_fill : GoodIn wsX2_undo wsX0_fill := goodIn_r _ [10, 11, 12, 13, 14, 15, 3, 4, 5, 16, 17, 27] (by decide +kernel) (by decide +kernel)
set_option maxRecDepth 20000 in
theorem gX2_undo_X0_fill : GoodIn wsX2_undo (wsV RX2 72 RX0 yX0_fill wsX0_fill) := goodIn_app (goodIn_of _ (by decide +kernel)) ggX2_undo_X0_fill
theorem dX2_undo_0 : decode cX2_undo 0 = .ok (.iconst 0, 1) := by decide +kernel
theorem dX2_undo_1 : decode cX2_undo 1 = .ok (.istore_n 3, 1) := by decide +kernel
theorem dX2_undo_2 : decode cX2_undo 2 = .ok (.iload_n 3, 1) := by decide +kernel
theorem dX2_undo_3 : decode cX2_undo 3 = .ok (.iload_n 1, 1) := by decide +kernel
theorem dX2_undo_4 : decode cX2_undo 4 = .ok (.if_icmp .ge 36, 3) := by decide +kernel
theorem dX2_undo_7 : decode cX2_undo 7 = .ok (.aload_n 0, 1) := by decide +kernel
theorem dX2_undo_8 : decode cX2_undo 8 = .ok (.dup, 1) := by decide +kernel
theorem dX2_undo_9 : decode cX2_undo 9 = .ok (.getfield 31, 3) := by decide +kernel
theorem dX2_undo_12 : decode cX2_undo 12 = .ok (.iconst 1, 1) := by decide +kernel
theorem dX2_undo_13 : decode cX2_undo 13 = .ok (.isub, 1) := by decide +kernel
theorem dX2_undo_14 : decode cX2_undo 14 = .ok (.putfield 31, 3) := by decide +kernel
theorem dX2_undo_17 : decode cX2_undo 17 = .ok (.aload_n 2, 1) := by decide +kernel
theorem dX2_undo_18 : decode cX2_undo 18 = .ok (.aload_n 0, 1) := by decide +kernel
theorem dX2_undo_19 : decode cX2_undo 19 = .ok (.getfield 15, 3) := by decide +kernel
theorem dX2_undo_22 : decode cX2_undo 22 = .ok (.aload_n 0, 1) := by decide +kernel
theorem dX2_undo_23 : decode cX2_undo 23 = .ok (.getfield 31, 3) := by decide +kernel
theorem dX2_undo_26 : decode cX2_undo 26 = .ok (.invokestatic 44, 3) := by decide +kernel
theorem dX2_undo_29 : decode cX2_undo 29 = .ok (.iconst 1, 1) := by decide +kernel
theorem dX2_undo_30 : decode cX2_undo 30 = .ok (.invokevirtual 72, 3) := by decide +kernel
theorem dX2_undo_33 : decode cX2_undo 33 = .ok (.pop, 1) := by decide +kernel
theorem dX2_undo_34 : decode cX2_undo 34 = .ok (.iinc 3 1, 3) := by decide +kernel
theorem dX2_undo_37 : decode cX2_undo 37 = .ok (.goto (-35), 3) := by decide +kernel
theorem dX2_undo_40 : decode cX2_undo 40 = .ok (.return_, 1) := by decide +kernel
set_option maxRecDepth 20000 in
theorem ggX2_number_X2_toldInAll : GoodIn wsX2_number wsX2_toldInAll := goodIn_r _ [9, 2, 10, 11, 12, 13, 23, 24, 25, 26, 27, 28, 29, 30, 31] (by decide +kernel) (by decide +kernel)
set_option maxRecDepth 20000 in
theorem gX2_number_X2_toldInAll : GoodIn wsX2_number (wsV RX2 76 RX2 yX2_toldInAll wsX2_toldInAll) := goodIn_app (goodIn_of _ (by decide +kernel)) ggX2_number_X2_toldInAll
set_option maxRecDepth 20000 in
theorem ggX2_number_X2_nextX : GoodIn wsX2_number wsX2_nextX := goodIn_r _ [17, 3, 18, 19, 20, 21, 8, 22, 23, 24, 25, 26, 27, 28, 29, 30, 31] (by decide +kernel) (by decide +kernel)
set_option maxRecDepth 20000 in
theorem gX2_number_X2_nextX : GoodIn wsX2_number (wsV RX2 80 RX2 yX2_nextX wsX2_nextX) := goodIn_app (goodIn_of _ (by decide +kernel)) ggX2_number_X2_nextX
set_option maxRecDepth 20000 in
theorem ggX2_number_X2_isHalfDone : GoodIn wsX2_number wsX2_isHalfDone := goodIn_r _ [22, 3, 23, 24, 25, 26, 27, 28, 29, 30, 31] (by decide +kernel) (by decide +kernel)
set_option maxRecDepth 20000 in
theorem gX2_number_X2_isHalfDone : GoodIn wsX2_number (wsV RX2 52 RX2 yX2_isHalfDone wsX2_isHalfDone) := goodIn_app (goodIn_of _ (by decide +kernel)) ggX2_number_X2_isHalfDone
theorem dX2_number_0 : decode cX2_number 0 = .ok (.iload_n 1, 1) := by decide +kernel
theorem dX2_number_1 : decode cX2_number 1 = .ok (.tableswitch 83 0 5 #[39, 44, 49, 54, 59, 64], 39) := by decide +kernel
theorem dX2_number_40 : decode cX2_number 40 = .ok (.aload_n 0, 1) := by decide +kernel
theorem dX2_number_41 : decode cX2_number 41 = .ok (.getfield 24, 3) := by decide +kernel
theorem dX2_number_44 : decode cX2_number 44 = .ok (.ireturn, 1) := by decide +kernel
theorem dX2_number_45 : decode cX2_number 45 = .ok (.aload_n 0, 1) := by decide +kernel
theorem dX2_number_46 : decode cX2_number 46 = .ok (.getfield 28, 3) := by decide +kernel
theorem dX2_number_49 : decode cX2_number 49 = .ok (.ireturn, 1) := by decide +kernel
theorem dX2_number_50 : decode cX2_number 50 = .ok (.aload_n 0, 1) := by decide +kernel
theorem dX2_number_51 : decode cX2_number 51 = .ok (.invokevirtual 76, 3) := by decide +kernel
theorem dX2_number_54 : decode cX2_number 54 = .ok (.ireturn, 1) := by decide +kernel
theorem dX2_number_55 : decode cX2_number 55 = .ok (.aload_n 0, 1) := by decide +kernel
theorem dX2_number_56 : decode cX2_number 56 = .ok (.getfield 31, 3) := by decide +kernel
theorem dX2_number_59 : decode cX2_number 59 = .ok (.ireturn, 1) := by decide +kernel
theorem dX2_number_60 : decode cX2_number 60 = .ok (.aload_n 0, 1) := by decide +kernel
theorem dX2_number_61 : decode cX2_number 61 = .ok (.invokevirtual 80, 3) := by decide +kernel
theorem dX2_number_64 : decode cX2_number 64 = .ok (.ireturn, 1) := by decide +kernel
theorem dX2_number_65 : decode cX2_number 65 = .ok (.aload_n 0, 1) := by decide +kernel
theorem dX2_number_66 : decode cX2_number 66 = .ok (.invokevirtual 52, 3) := by decide +kernel
theorem dX2_number_69 : decode cX2_number 69 = .ok (.ifCond .eq 7, 3) := by decide +kernel
theorem dX2_number_72 : decode cX2_number 72 = .ok (.iconst (-1), 1) := by decide +kernel
theorem dX2_number_73 : decode cX2_number 73 = .ok (.goto 10, 3) := by decide +kernel
theorem dX2_number_76 : decode cX2_number 76 = .ok (.aload_n 0, 1) := by decide +kernel
theorem dX2_number_77 : decode cX2_number 77 = .ok (.getfield 31, 3) := by decide +kernel
theorem dX2_number_80 : decode cX2_number 80 = .ok (.bipush 6, 2) := by decide +kernel
theorem dX2_number_82 : decode cX2_number 82 = .ok (.idiv, 1) := by decide +kernel
theorem dX2_number_83 : decode cX2_number 83 = .ok (.ireturn, 1) := by decide +kernel
theorem dX2_number_84 : decode cX2_number 84 = .ok (.aload_n 0, 1) := by decide +kernel
theorem dX2_number_85 : decode cX2_number 85 = .ok (.getfield 34, 3) := by decide +kernel
theorem dX2_number_88 : decode cX2_number 88 = .ok (.ireturn, 1) := by decide +kernel
set_option maxRecDepth 20000 in
theorem ggX2_nextX_X2_isHalfDone : GoodIn wsX2_nextX wsX2_isHalfDone := goodIn_r _ [7, 1, 8, 9, 10, 11, 12, 13, 14, 15, 16] (by decide +kernel) (by decide +kernel)
set_option maxRecDepth 20000 in
theorem gX2_nextX_X2_isHalfDone : GoodIn wsX2_nextX (wsV RX2 52 RX2 yX2_isHalfDone wsX2_isHalfDone) := goodIn_app (goodIn_of _ (by decide +kernel)) ggX2_nextX_X2_isHalfDone
theorem dX2_nextX_0 : decode cX2_nextX 0 = .ok (.aload_n 0, 1) := by decide +kernel
theorem dX2_nextX_1 : decode cX2_nextX 1 = .ok (.invokevirtual 52, 3) := by decide +kernel
theorem dX2_nextX_4 : decode cX2_nextX 4 = .ok (.ifCond .eq 5, 3) := by decide +kernel
theorem dX2_nextX_7 : decode cX2_nextX 7 = .ok (.iconst (-1), 1) := by decide +kernel
theorem dX2_nextX_8 : decode cX2_nextX 8 = .ok (.ireturn, 1) := by decide +kernel
theorem dX2_nextX_9 : decode cX2_nextX 9 = .ok (.aload_n 0, 1) := by decide +kernel
theorem dX2_nextX_10 : decode cX2_nextX 10 = .ok (.getfield 31, 3) := by decide +kernel
theorem dX2_nextX_13 : decode cX2_nextX 13 = .ok (.bipush 6, 2) := by decide +kernel
theorem dX2_nextX_15 : decode cX2_nextX 15 = .ok (.irem, 1) := by decide +kernel
theorem dX2_nextX_16 : decode cX2_nextX 16 = .ok (.istore_n 1, 1) := by decide +kernel
theorem dX2_nextX_17 : decode cX2_nextX 17 = .ok (.aload_n 0, 1) := by decide +kernel
theorem dX2_nextX_18 : decode cX2_nextX 18 = .ok (.getfield 37, 3) := by decide +kernel
theorem dX2_nextX_21 : decode cX2_nextX 21 = .ok (.ifCond .ne 7, 3) := by decide +kernel
theorem dX2_nextX_24 : decode cX2_nextX 24 = .ok (.iload_n 1, 1) := by decide +kernel
theorem dX2_nextX_25 : decode cX2_nextX 25 = .ok (.goto 7, 3) := by decide +kernel
theorem dX2_nextX_28 : decode cX2_nextX 28 = .ok (.bipush 11, 2) := by decide +kernel
theorem dX2_nextX_30 : decode cX2_nextX 30 = .ok (.iload_n 1, 1) := by decide +kernel
theorem dX2_nextX_31 : decode cX2_nextX 31 = .ok (.isub, 1) := by decide +kernel
theorem dX2_nextX_32 : decode cX2_nextX 32 = .ok (.ireturn, 1) := by decide +kernel
set_option maxRecDepth 20000 in
theorem ggX2_offPlan_X3_at : GoodIn wsX2_offPlan wsX3_at := goodIn_r _ [6] (by decide +kernel) (by decide +kernel)
set_option maxRecDepth 20000 in
theorem gX2_offPlan_X3_at_n44 : GoodIn wsX2_offPlan (wsX3_at) := ggX2_offPlan_X3_at
theorem dX2_offPlan_0 : decode cX2_offPlan 0 = .ok (.iconst 0, 1) := by decide +kernel
theorem dX2_offPlan_1 : decode cX2_offPlan 1 = .ok (.istore_n 1, 1) := by decide +kernel
theorem dX2_offPlan_2 : decode cX2_offPlan 2 = .ok (.iconst 0, 1) := by decide +kernel
theorem dX2_offPlan_3 : decode cX2_offPlan 3 = .ok (.istore_n 2, 1) := by decide +kernel
theorem dX2_offPlan_4 : decode cX2_offPlan 4 = .ok (.iload_n 2, 1) := by decide +kernel
theorem dX2_offPlan_5 : decode cX2_offPlan 5 = .ok (.aload_n 0, 1) := by decide +kernel
theorem dX2_offPlan_6 : decode cX2_offPlan 6 = .ok (.getfield 31, 3) := by decide +kernel
theorem dX2_offPlan_9 : decode cX2_offPlan 9 = .ok (.if_icmp .ge 31, 3) := by decide +kernel
theorem dX2_offPlan_12 : decode cX2_offPlan 12 = .ok (.aload_n 0, 1) := by decide +kernel
theorem dX2_offPlan_13 : decode cX2_offPlan 13 = .ok (.getfield 15, 3) := by decide +kernel
theorem dX2_offPlan_16 : decode cX2_offPlan 16 = .ok (.iload_n 2, 1) := by decide +kernel
theorem dX2_offPlan_17 : decode cX2_offPlan 17 = .ok (.invokestatic 44, 3) := by decide +kernel
theorem dX2_offPlan_20 : decode cX2_offPlan 20 = .ok (.aload_n 0, 1) := by decide +kernel
theorem dX2_offPlan_21 : decode cX2_offPlan 21 = .ok (.getfield 9, 3) := by decide +kernel
theorem dX2_offPlan_24 : decode cX2_offPlan 24 = .ok (.iload_n 2, 1) := by decide +kernel
theorem dX2_offPlan_25 : decode cX2_offPlan 25 = .ok (.invokestatic 44, 3) := by decide +kernel
theorem dX2_offPlan_28 : decode cX2_offPlan 28 = .ok (.if_icmp .eq 6, 3) := by decide +kernel
theorem dX2_offPlan_31 : decode cX2_offPlan 31 = .ok (.iinc 1 1, 3) := by decide +kernel
theorem dX2_offPlan_34 : decode cX2_offPlan 34 = .ok (.iinc 2 1, 3) := by decide +kernel
theorem dX2_offPlan_37 : decode cX2_offPlan 37 = .ok (.goto (-33), 3) := by decide +kernel
theorem dX2_offPlan_40 : decode cX2_offPlan 40 = .ok (.iload_n 1, 1) := by decide +kernel
theorem dX2_offPlan_41 : decode cX2_offPlan 41 = .ok (.ireturn, 1) := by decide +kernel
set_option maxRecDepth 20000 in
theorem ggX2_firstOffPlan_X3_at : GoodIn wsX2_firstOffPlan wsX3_at := goodIn_r _ [6] (by decide +kernel) (by decide +kernel)
set_option maxRecDepth 20000 in
theorem gX2_firstOffPlan_X3_at_n44 : GoodIn wsX2_firstOffPlan (wsX3_at) := ggX2_firstOffPlan_X3_at
theorem dX2_firstOffPlan_0 : decode cX2_firstOffPlan 0 = .ok (.iconst 0, 1) := by decide +kernel
theorem dX2_firstOffPlan_1 : decode cX2_firstOffPlan 1 = .ok (.istore_n 1, 1) := by decide +kernel
theorem dX2_firstOffPlan_2 : decode cX2_firstOffPlan 2 = .ok (.iload_n 1, 1) := by decide +kernel
theorem dX2_firstOffPlan_3 : decode cX2_firstOffPlan 3 = .ok (.aload_n 0, 1) := by decide +kernel
theorem dX2_firstOffPlan_4 : decode cX2_firstOffPlan 4 = .ok (.getfield 31, 3) := by decide +kernel
theorem dX2_firstOffPlan_7 : decode cX2_firstOffPlan 7 = .ok (.if_icmp .ge 28, 3) := by decide +kernel
theorem dX2_firstOffPlan_10 : decode cX2_firstOffPlan 10 = .ok (.aload_n 0, 1) := by decide +kernel
theorem dX2_firstOffPlan_11 : decode cX2_firstOffPlan 11 = .ok (.getfield 15, 3) := by decide +kernel
theorem dX2_firstOffPlan_14 : decode cX2_firstOffPlan 14 = .ok (.iload_n 1, 1) := by decide +kernel
theorem dX2_firstOffPlan_15 : decode cX2_firstOffPlan 15 = .ok (.invokestatic 44, 3) := by decide +kernel
theorem dX2_firstOffPlan_18 : decode cX2_firstOffPlan 18 = .ok (.aload_n 0, 1) := by decide +kernel
theorem dX2_firstOffPlan_19 : decode cX2_firstOffPlan 19 = .ok (.getfield 9, 3) := by decide +kernel
theorem dX2_firstOffPlan_22 : decode cX2_firstOffPlan 22 = .ok (.iload_n 1, 1) := by decide +kernel
theorem dX2_firstOffPlan_23 : decode cX2_firstOffPlan 23 = .ok (.invokestatic 44, 3) := by decide +kernel
theorem dX2_firstOffPlan_26 : decode cX2_firstOffPlan 26 = .ok (.if_icmp .ne 9, 3) := by decide +kernel
theorem dX2_firstOffPlan_29 : decode cX2_firstOffPlan 29 = .ok (.iinc 1 1, 3) := by decide +kernel
theorem dX2_firstOffPlan_32 : decode cX2_firstOffPlan 32 = .ok (.goto (-30), 3) := by decide +kernel
theorem dX2_firstOffPlan_35 : decode cX2_firstOffPlan 35 = .ok (.iload_n 1, 1) := by decide +kernel
theorem dX2_firstOffPlan_36 : decode cX2_firstOffPlan 36 = .ok (.ireturn, 1) := by decide +kernel
set_option maxRecDepth 20000 in
theorem ggX2_alikeAhead_X3_at : GoodIn wsX2_alikeAhead wsX3_at := goodIn_r _ [5] (by decide +kernel) (by decide +kernel)
set_option maxRecDepth 20000 in
theorem gX2_alikeAhead_X3_at_n44 : GoodIn wsX2_alikeAhead (wsX3_at) := ggX2_alikeAhead_X3_at
theorem dX2_alikeAhead_0 : decode cX2_alikeAhead 0 = .ok (.aload_n 0, 1) := by decide +kernel
theorem dX2_alikeAhead_1 : decode cX2_alikeAhead 1 = .ok (.getfield 31, 3) := by decide +kernel
theorem dX2_alikeAhead_4 : decode cX2_alikeAhead 4 = .ok (.istore_n 1, 1) := by decide +kernel
theorem dX2_alikeAhead_5 : decode cX2_alikeAhead 5 = .ok (.iload_n 1, 1) := by decide +kernel
theorem dX2_alikeAhead_6 : decode cX2_alikeAhead 6 = .ok (.bipush 60, 2) := by decide +kernel
theorem dX2_alikeAhead_8 : decode cX2_alikeAhead 8 = .ok (.if_icmp .ge 31, 3) := by decide +kernel
theorem dX2_alikeAhead_11 : decode cX2_alikeAhead 11 = .ok (.aload_n 0, 1) := by decide +kernel
theorem dX2_alikeAhead_12 : decode cX2_alikeAhead 12 = .ok (.getfield 9, 3) := by decide +kernel
theorem dX2_alikeAhead_15 : decode cX2_alikeAhead 15 = .ok (.iload_n 1, 1) := by decide +kernel
theorem dX2_alikeAhead_16 : decode cX2_alikeAhead 16 = .ok (.invokestatic 44, 3) := by decide +kernel
theorem dX2_alikeAhead_19 : decode cX2_alikeAhead 19 = .ok (.aload_n 0, 1) := by decide +kernel
theorem dX2_alikeAhead_20 : decode cX2_alikeAhead 20 = .ok (.getfield 9, 3) := by decide +kernel
theorem dX2_alikeAhead_23 : decode cX2_alikeAhead 23 = .ok (.aload_n 0, 1) := by decide +kernel
theorem dX2_alikeAhead_24 : decode cX2_alikeAhead 24 = .ok (.getfield 31, 3) := by decide +kernel
theorem dX2_alikeAhead_27 : decode cX2_alikeAhead 27 = .ok (.invokestatic 44, 3) := by decide +kernel
theorem dX2_alikeAhead_30 : decode cX2_alikeAhead 30 = .ok (.if_icmp .ne 9, 3) := by decide +kernel
theorem dX2_alikeAhead_33 : decode cX2_alikeAhead 33 = .ok (.iinc 1 1, 3) := by decide +kernel
theorem dX2_alikeAhead_36 : decode cX2_alikeAhead 36 = .ok (.goto (-31), 3) := by decide +kernel
theorem dX2_alikeAhead_39 : decode cX2_alikeAhead 39 = .ok (.iload_n 1, 1) := by decide +kernel
theorem dX2_alikeAhead_40 : decode cX2_alikeAhead 40 = .ok (.aload_n 0, 1) := by decide +kernel
theorem dX2_alikeAhead_41 : decode cX2_alikeAhead 41 = .ok (.getfield 31, 3) := by decide +kernel
theorem dX2_alikeAhead_44 : decode cX2_alikeAhead 44 = .ok (.isub, 1) := by decide +kernel
theorem dX2_alikeAhead_45 : decode cX2_alikeAhead 45 = .ok (.ireturn, 1) := by decide +kernel
set_option maxRecDepth 20000 in
theorem ggX2_fewestRuns_X2_isHalfDone : GoodIn wsX2_fewestRuns wsX2_isHalfDone := goodIn_r _ [7, 1, 11, 12, 13, 14, 15, 16, 17, 18, 19] (by decide +kernel) (by decide +kernel)
set_option maxRecDepth 20000 in
theorem gX2_fewestRuns_X2_isHalfDone : GoodIn wsX2_fewestRuns (wsV RX2 52 RX2 yX2_isHalfDone wsX2_isHalfDone) := goodIn_app (goodIn_of _ (by decide +kernel)) ggX2_fewestRuns_X2_isHalfDone
set_option maxRecDepth 20000 in
theorem ggX2_fewestRuns_X3_at : GoodIn wsX2_fewestRuns wsX3_at := goodIn_r _ [10] (by decide +kernel) (by decide +kernel)
set_option maxRecDepth 20000 in
theorem gX2_fewestRuns_X3_at_n44 : GoodIn wsX2_fewestRuns (wsX3_at) := ggX2_fewestRuns_X3_at
theorem dX2_fewestRuns_0 : decode cX2_fewestRuns 0 = .ok (.aload_n 0, 1) := by decide +kernel
theorem dX2_fewestRuns_1 : decode cX2_fewestRuns 1 = .ok (.invokevirtual 52, 3) := by decide +kernel
theorem dX2_fewestRuns_4 : decode cX2_fewestRuns 4 = .ok (.ifCond .eq 7, 3) := by decide +kernel
theorem dX2_fewestRuns_7 : decode cX2_fewestRuns 7 = .ok (.iconst 0, 1) := by decide +kernel
theorem dX2_fewestRuns_8 : decode cX2_fewestRuns 8 = .ok (.goto 4, 3) := by decide +kernel
theorem dX2_fewestRuns_11 : decode cX2_fewestRuns 11 = .ok (.iconst 1, 1) := by decide +kernel
theorem dX2_fewestRuns_12 : decode cX2_fewestRuns 12 = .ok (.istore_n 1, 1) := by decide +kernel
theorem dX2_fewestRuns_13 : decode cX2_fewestRuns 13 = .ok (.aload_n 0, 1) := by decide +kernel
theorem dX2_fewestRuns_14 : decode cX2_fewestRuns 14 = .ok (.getfield 31, 3) := by decide +kernel
theorem dX2_fewestRuns_17 : decode cX2_fewestRuns 17 = .ok (.iconst 1, 1) := by decide +kernel
theorem dX2_fewestRuns_18 : decode cX2_fewestRuns 18 = .ok (.iadd, 1) := by decide +kernel
theorem dX2_fewestRuns_19 : decode cX2_fewestRuns 19 = .ok (.istore_n 2, 1) := by decide +kernel
theorem dX2_fewestRuns_20 : decode cX2_fewestRuns 20 = .ok (.iload_n 2, 1) := by decide +kernel
theorem dX2_fewestRuns_21 : decode cX2_fewestRuns 21 = .ok (.bipush 60, 2) := by decide +kernel
theorem dX2_fewestRuns_23 : decode cX2_fewestRuns 23 = .ok (.if_icmp .ge 33, 3) := by decide +kernel
theorem dX2_fewestRuns_26 : decode cX2_fewestRuns 26 = .ok (.aload_n 0, 1) := by decide +kernel
theorem dX2_fewestRuns_27 : decode cX2_fewestRuns 27 = .ok (.getfield 9, 3) := by decide +kernel
theorem dX2_fewestRuns_30 : decode cX2_fewestRuns 30 = .ok (.iload_n 2, 1) := by decide +kernel
theorem dX2_fewestRuns_31 : decode cX2_fewestRuns 31 = .ok (.invokestatic 44, 3) := by decide +kernel
theorem dX2_fewestRuns_34 : decode cX2_fewestRuns 34 = .ok (.aload_n 0, 1) := by decide +kernel
theorem dX2_fewestRuns_35 : decode cX2_fewestRuns 35 = .ok (.getfield 9, 3) := by decide +kernel
theorem dX2_fewestRuns_38 : decode cX2_fewestRuns 38 = .ok (.iload_n 2, 1) := by decide +kernel
theorem dX2_fewestRuns_39 : decode cX2_fewestRuns 39 = .ok (.iconst 1, 1) := by decide +kernel
theorem dX2_fewestRuns_40 : decode cX2_fewestRuns 40 = .ok (.isub, 1) := by decide +kernel
theorem dX2_fewestRuns_41 : decode cX2_fewestRuns 41 = .ok (.invokestatic 44, 3) := by decide +kernel
theorem dX2_fewestRuns_44 : decode cX2_fewestRuns 44 = .ok (.if_icmp .eq 6, 3) := by decide +kernel
theorem dX2_fewestRuns_47 : decode cX2_fewestRuns 47 = .ok (.iinc 1 1, 3) := by decide +kernel
theorem dX2_fewestRuns_50 : decode cX2_fewestRuns 50 = .ok (.iinc 2 1, 3) := by decide +kernel
theorem dX2_fewestRuns_53 : decode cX2_fewestRuns 53 = .ok (.goto (-33), 3) := by decide +kernel
theorem dX2_fewestRuns_56 : decode cX2_fewestRuns 56 = .ok (.iload_n 1, 1) := by decide +kernel
theorem dX2_fewestRuns_57 : decode cX2_fewestRuns 57 = .ok (.ireturn, 1) := by decide +kernel
set_option maxRecDepth 20000 in
theorem ggX2_mixInto_X2_number : GoodIn wsX2_mixInto wsX2_number := goodIn_r _ [8, 9, 1, 10, 11, 12, 13, 14, 7, 15, 3, 16, 17, 18, 19, 20, 21, 22, 23, 24, 25, 26, 27, 31, 32, 33, 34, 35, 36, 37, 38, 39] (by decide +kernel) (by decide +kernel)
set_option maxRecDepth 20000 in
theorem gX2_mixInto_X2_number : GoodIn wsX2_mixInto (wsV RX2 83 RX2 yX2_number wsX2_number) := goodIn_app (goodIn_of _ (by decide +kernel)) ggX2_mixInto_X2_number
set_option maxRecDepth 20000 in
theorem ggX2_mixInto_X3_mix : GoodIn wsX2_mixInto wsX3_mix := goodIn_r _ [29, 30] (by decide +kernel) (by decide +kernel)
set_option maxRecDepth 20000 in
theorem gX2_mixInto_X3_mix_n86 : GoodIn wsX2_mixInto (wsX3_mix) := ggX2_mixInto_X3_mix
set_option maxRecDepth 20000 in
theorem ggX2_mixInto_X3_at : GoodIn wsX2_mixInto wsX3_at := goodIn_r _ [18] (by decide +kernel) (by decide +kernel)
set_option maxRecDepth 20000 in
theorem gX2_mixInto_X3_at_n44 : GoodIn wsX2_mixInto (wsX3_at) := ggX2_mixInto_X3_at
theorem dX2_mixInto_0 : decode cX2_mixInto 0 = .ok (.lload_n 1, 1) := by decide +kernel
theorem dX2_mixInto_1 : decode cX2_mixInto 1 = .ok (.lstore_n 3, 1) := by decide +kernel
theorem dX2_mixInto_2 : decode cX2_mixInto 2 = .ok (.iconst 0, 1) := by decide +kernel
theorem dX2_mixInto_3 : decode cX2_mixInto 3 = .ok (.istore 5, 2) := by decide +kernel
theorem dX2_mixInto_5 : decode cX2_mixInto 5 = .ok (.iload 5, 2) := by decide +kernel
theorem dX2_mixInto_7 : decode cX2_mixInto 7 = .ok (.bipush 7, 2) := by decide +kernel
theorem dX2_mixInto_9 : decode cX2_mixInto 9 = .ok (.if_icmp .ge 20, 3) := by decide +kernel
theorem dX2_mixInto_12 : decode cX2_mixInto 12 = .ok (.lload_n 3, 1) := by decide +kernel
theorem dX2_mixInto_13 : decode cX2_mixInto 13 = .ok (.aload_n 0, 1) := by decide +kernel
theorem dX2_mixInto_14 : decode cX2_mixInto 14 = .ok (.iload 5, 2) := by decide +kernel
theorem dX2_mixInto_16 : decode cX2_mixInto 16 = .ok (.invokevirtual 83, 3) := by decide +kernel
theorem dX2_mixInto_19 : decode cX2_mixInto 19 = .ok (.invokestatic 86, 3) := by decide +kernel
theorem dX2_mixInto_22 : decode cX2_mixInto 22 = .ok (.lstore_n 3, 1) := by decide +kernel
theorem dX2_mixInto_23 : decode cX2_mixInto 23 = .ok (.iinc 5 1, 3) := by decide +kernel
theorem dX2_mixInto_26 : decode cX2_mixInto 26 = .ok (.goto (-21), 3) := by decide +kernel
theorem dX2_mixInto_29 : decode cX2_mixInto 29 = .ok (.iconst 0, 1) := by decide +kernel
theorem dX2_mixInto_30 : decode cX2_mixInto 30 = .ok (.istore 5, 2) := by decide +kernel
theorem dX2_mixInto_32 : decode cX2_mixInto 32 = .ok (.iload 5, 2) := by decide +kernel
theorem dX2_mixInto_34 : decode cX2_mixInto 34 = .ok (.aload_n 0, 1) := by decide +kernel
theorem dX2_mixInto_35 : decode cX2_mixInto 35 = .ok (.getfield 28, 3) := by decide +kernel
theorem dX2_mixInto_38 : decode cX2_mixInto 38 = .ok (.if_icmp .ge 37, 3) := by decide +kernel
theorem dX2_mixInto_41 : decode cX2_mixInto 41 = .ok (.lload_n 3, 1) := by decide +kernel
theorem dX2_mixInto_42 : decode cX2_mixInto 42 = .ok (.aload_n 0, 1) := by decide +kernel
theorem dX2_mixInto_43 : decode cX2_mixInto 43 = .ok (.getfield 18, 3) := by decide +kernel
theorem dX2_mixInto_46 : decode cX2_mixInto 46 = .ok (.iload 5, 2) := by decide +kernel
theorem dX2_mixInto_48 : decode cX2_mixInto 48 = .ok (.invokestatic 44, 3) := by decide +kernel
theorem dX2_mixInto_51 : decode cX2_mixInto 51 = .ok (.invokestatic 86, 3) := by decide +kernel
theorem dX2_mixInto_54 : decode cX2_mixInto 54 = .ok (.lstore_n 3, 1) := by decide +kernel
theorem dX2_mixInto_55 : decode cX2_mixInto 55 = .ok (.lload_n 3, 1) := by decide +kernel
theorem dX2_mixInto_56 : decode cX2_mixInto 56 = .ok (.aload_n 0, 1) := by decide +kernel
theorem dX2_mixInto_57 : decode cX2_mixInto 57 = .ok (.getfield 21, 3) := by decide +kernel
theorem dX2_mixInto_60 : decode cX2_mixInto 60 = .ok (.iload 5, 2) := by decide +kernel
theorem dX2_mixInto_62 : decode cX2_mixInto 62 = .ok (.invokestatic 44, 3) := by decide +kernel
theorem dX2_mixInto_65 : decode cX2_mixInto 65 = .ok (.invokestatic 86, 3) := by decide +kernel
theorem dX2_mixInto_68 : decode cX2_mixInto 68 = .ok (.lstore_n 3, 1) := by decide +kernel
theorem dX2_mixInto_69 : decode cX2_mixInto 69 = .ok (.iinc 5 1, 3) := by decide +kernel
theorem dX2_mixInto_72 : decode cX2_mixInto 72 = .ok (.goto (-40), 3) := by decide +kernel
theorem dX2_mixInto_75 : decode cX2_mixInto 75 = .ok (.lload_n 3, 1) := by decide +kernel
theorem dX2_mixInto_76 : decode cX2_mixInto 76 = .ok (.lreturn, 1) := by decide +kernel
set_option maxRecDepth 20000 in
theorem ggX3_init_X1_init : GoodIn wsX3_init wsX1_init := goodIn_r _ [10, 11, 2, 3, 12, 13, 14, 15, 16, 17, 18, 19, 20, 21, 22, 23, 24, 25, 26, 27, 28, 29, 30, 31, 32, 33, 34, 35, 36, 37, 38, 39, 40, 41, 49, 50, 51, 52, 53, 54, 55, 56, 57, 42, 43, 44, 45, 46, 58] (by decide +kernel) (by decide +kernel)
set_option maxRecDepth 20000 in
theorem gX3_init_X1_init_n9 : GoodIn wsX3_init (wsX1_init) := ggX3_init_X1_init
theorem dX3_init_0 : decode cX3_init 0 = .ok (.aload_n 0, 1) := by decide +kernel
theorem dX3_init_1 : decode cX3_init 1 = .ok (.invokespecial 1, 3) := by decide +kernel
theorem dX3_init_4 : decode cX3_init 4 = .ok (.aload_n 0, 1) := by decide +kernel
theorem dX3_init_5 : decode cX3_init 5 = .ok (.new 7, 3) := by decide +kernel
theorem dX3_init_8 : decode cX3_init 8 = .ok (.dup, 1) := by decide +kernel
theorem dX3_init_9 : decode cX3_init 9 = .ok (.invokespecial 9, 3) := by decide +kernel
theorem dX3_init_12 : decode cX3_init 12 = .ok (.putfield 10, 3) := by decide +kernel
theorem dX3_init_15 : decode cX3_init 15 = .ok (.aload_n 0, 1) := by decide +kernel
theorem dX3_init_16 : decode cX3_init 16 = .ok (.new 7, 3) := by decide +kernel
theorem dX3_init_19 : decode cX3_init 19 = .ok (.dup, 1) := by decide +kernel
theorem dX3_init_20 : decode cX3_init 20 = .ok (.invokespecial 9, 3) := by decide +kernel
theorem dX3_init_23 : decode cX3_init 23 = .ok (.putfield 16, 3) := by decide +kernel
theorem dX3_init_26 : decode cX3_init 26 = .ok (.return_, 1) := by decide +kernel
set_option maxRecDepth 20000 in
theorem ggX3_plan_X3_checkCell : GoodIn wsX3_plan wsX3_checkCell := goodIn_ca (goodIn_r _ [5, 6, 7, 4, 8, 9, 10] (by decide +kernel) (by decide +kernel)) (goodIn_sub (fun _ h => List.mem_cons_of_mem _ (List.mem_append_left _ (List.mem_append_right _ h))) (by decide +kernel))
set_option maxRecDepth 20000 in
theorem gX3_plan_X3_checkCell : GoodIn wsX3_plan (va_wsS RX3 19 yX3_checkCell wsX3_checkCell) := goodIn_app (goodIn_of _ (by decide +kernel)) ggX3_plan_X3_checkCell
set_option maxRecDepth 20000 in
theorem ggX3_plan_X3_checkRange : GoodIn wsX3_plan wsX3_checkRange := goodIn_ca (goodIn_r _ [13, 14, 15] (by decide +kernel) (by decide +kernel)) (goodIn_sub (fun _ h => List.mem_cons_of_mem _ (List.mem_append_right _ h)) (by decide +kernel))
set_option maxRecDepth 20000 in
theorem gX3_plan_X3_checkRange : GoodIn wsX3_plan (va_wsS RX3 23 yX3_checkRange wsX3_checkRange) := goodIn_app (goodIn_of _ (by decide +kernel)) ggX3_plan_X3_checkRange
set_option maxRecDepth 20000 in
theorem ggX3_plan_X3_checkColour : GoodIn wsX3_plan wsX3_checkColour := goodIn_ca (goodIn_r _ [18, 11, 12, 4, 13, 14, 15] (by decide +kernel) (by decide +kernel)) (goodIn_sub (fun _ h => List.mem_cons_of_mem _ (List.mem_append_right _ h)) (by decide +kernel))
set_option maxRecDepth 20000 in
theorem gX3_plan_X3_checkColour : GoodIn wsX3_plan (va_wsS RX3 27 yX3_checkColour wsX3_checkColour) := goodIn_app (goodIn_of _ (by decide +kernel)) ggX3_plan_X3_checkColour
set_option maxRecDepth 20000 in
theorem ggX3_plan_X1_ownerOf : GoodIn wsX3_plan wsX1_ownerOf := goodIn_r _ [23, 24, 4, 25, 26, 27, 28, 22, 29, 30, 31, 47, 48, 49, 50, 51] (by decide +kernel) (by decide +kernel)
set_option maxRecDepth 20000 in
theorem gX3_plan_X1_ownerOf : GoodIn wsX3_plan (wsV RX3 31 RX1 yX1_ownerOf wsX1_ownerOf) := goodIn_app (goodIn_of _ (by decide +kernel)) ggX3_plan_X1_ownerOf
set_option maxRecDepth 20000 in
theorem ggX3_plan_X3_placeOf : GoodIn wsX3_plan wsX3_placeOf := goodIn_r _ [34] (by decide +kernel) (by decide +kernel)
set_option maxRecDepth 20000 in
theorem gX3_plan_X3_placeOf : GoodIn wsX3_plan (va_wsS RX3 35 yX3_placeOf wsX3_placeOf) := goodIn_app (goodIn_of _ (by decide +kernel)) ggX3_plan_X3_placeOf
set_option maxRecDepth 20000 in
theorem ggX3_plan_X2_planCell : GoodIn wsX3_plan wsX2_planCell := goodIn_r _ [39, 40, 41, 4, 42, 43, 44, 52, 53, 54, 55, 56, 57, 58, 59, 60] (by decide +kernel) (by decide +kernel)
set_option maxRecDepth 20000 in
theorem gX3_plan_X2_planCell : GoodIn wsX3_plan (wsV RX3 39 RX2 yX2_planCell wsX2_planCell) := goodIn_app (goodIn_of _ (by decide +kernel)) ggX3_plan_X2_planCell
theorem dX3_plan_0 : decode cX3_plan 0 = .ok (.iload_n 1, 1) := by decide +kernel
theorem dX3_plan_1 : decode cX3_plan 1 = .ok (.iload_n 2, 1) := by decide +kernel
theorem dX3_plan_2 : decode cX3_plan 2 = .ok (.invokestatic 19, 3) := by decide +kernel
theorem dX3_plan_5 : decode cX3_plan 5 = .ok (.iload_n 3, 1) := by decide +kernel
theorem dX3_plan_6 : decode cX3_plan 6 = .ok (.iconst 1, 1) := by decide +kernel
theorem dX3_plan_7 : decode cX3_plan 7 = .ok (.bipush 12, 2) := by decide +kernel
theorem dX3_plan_9 : decode cX3_plan 9 = .ok (.iload_n 1, 1) := by decide +kernel
theorem dX3_plan_10 : decode cX3_plan 10 = .ok (.isub, 1) := by decide +kernel
theorem dX3_plan_11 : decode cX3_plan 11 = .ok (.invokestatic 23, 3) := by decide +kernel
theorem dX3_plan_14 : decode cX3_plan 14 = .ok (.iload 4, 2) := by decide +kernel
theorem dX3_plan_16 : decode cX3_plan 16 = .ok (.iconst 1, 1) := by decide +kernel
theorem dX3_plan_17 : decode cX3_plan 17 = .ok (.bipush 10, 2) := by decide +kernel
theorem dX3_plan_19 : decode cX3_plan 19 = .ok (.iload_n 2, 1) := by decide +kernel
theorem dX3_plan_20 : decode cX3_plan 20 = .ok (.isub, 1) := by decide +kernel
theorem dX3_plan_21 : decode cX3_plan 21 = .ok (.invokestatic 23, 3) := by decide +kernel
theorem dX3_plan_24 : decode cX3_plan 24 = .ok (.iload 5, 2) := by decide +kernel
theorem dX3_plan_26 : decode cX3_plan 26 = .ok (.invokestatic 27, 3) := by decide +kernel
theorem dX3_plan_29 : decode cX3_plan 29 = .ok (.iconst 0, 1) := by decide +kernel
theorem dX3_plan_30 : decode cX3_plan 30 = .ok (.istore 6, 2) := by decide +kernel
theorem dX3_plan_32 : decode cX3_plan 32 = .ok (.iload_n 2, 1) := by decide +kernel
theorem dX3_plan_33 : decode cX3_plan 33 = .ok (.istore 7, 2) := by decide +kernel
theorem dX3_plan_35 : decode cX3_plan 35 = .ok (.iload 7, 2) := by decide +kernel
theorem dX3_plan_37 : decode cX3_plan 37 = .ok (.iload_n 2, 1) := by decide +kernel
theorem dX3_plan_38 : decode cX3_plan 38 = .ok (.iload 4, 2) := by decide +kernel
theorem dX3_plan_40 : decode cX3_plan 40 = .ok (.iadd, 1) := by decide +kernel
theorem dX3_plan_41 : decode cX3_plan 41 = .ok (.if_icmp .ge 53, 3) := by decide +kernel
theorem dX3_plan_44 : decode cX3_plan 44 = .ok (.iload_n 1, 1) := by decide +kernel
theorem dX3_plan_45 : decode cX3_plan 45 = .ok (.istore 8, 2) := by decide +kernel
theorem dX3_plan_47 : decode cX3_plan 47 = .ok (.iload 8, 2) := by decide +kernel
theorem dX3_plan_49 : decode cX3_plan 49 = .ok (.iload_n 1, 1) := by decide +kernel
theorem dX3_plan_50 : decode cX3_plan 50 = .ok (.iload_n 3, 1) := by decide +kernel
theorem dX3_plan_51 : decode cX3_plan 51 = .ok (.iadd, 1) := by decide +kernel
theorem dX3_plan_52 : decode cX3_plan 52 = .ok (.if_icmp .ge 36, 3) := by decide +kernel
theorem dX3_plan_55 : decode cX3_plan 55 = .ok (.aload_n 0, 1) := by decide +kernel
theorem dX3_plan_56 : decode cX3_plan 56 = .ok (.getfield 10, 3) := by decide +kernel
theorem dX3_plan_59 : decode cX3_plan 59 = .ok (.iload 8, 2) := by decide +kernel
theorem dX3_plan_61 : decode cX3_plan 61 = .ok (.invokevirtual 31, 3) := by decide +kernel
theorem dX3_plan_64 : decode cX3_plan 64 = .ok (.iload 8, 2) := by decide +kernel
theorem dX3_plan_66 : decode cX3_plan 66 = .ok (.iload 7, 2) := by decide +kernel
theorem dX3_plan_68 : decode cX3_plan 68 = .ok (.invokestatic 35, 3) := by decide +kernel
theorem dX3_plan_71 : decode cX3_plan 71 = .ok (.iload 5, 2) := by decide +kernel
theorem dX3_plan_73 : decode cX3_plan 73 = .ok (.invokevirtual 39, 3) := by decide +kernel
theorem dX3_plan_76 : decode cX3_plan 76 = .ok (.ifCond .eq 6, 3) := by decide +kernel
theorem dX3_plan_79 : decode cX3_plan 79 = .ok (.iinc 6 1, 3) := by decide +kernel
theorem dX3_plan_82 : decode cX3_plan 82 = .ok (.iinc 8 1, 3) := by decide +kernel
theorem dX3_plan_85 : decode cX3_plan 85 = .ok (.goto (-38), 3) := by decide +kernel
theorem dX3_plan_88 : decode cX3_plan 88 = .ok (.iinc 7 1, 3) := by decide +kernel
theorem dX3_plan_91 : decode cX3_plan 91 = .ok (.goto (-56), 3) := by decide +kernel
theorem dX3_plan_94 : decode cX3_plan 94 = .ok (.iload 6, 2) := by decide +kernel
theorem dX3_plan_96 : decode cX3_plan 96 = .ok (.ireturn, 1) := by decide +kernel
set_option maxRecDepth 20000 in
theorem ggX3_bring_X3_checkColour : GoodIn wsX3_bring wsX3_checkColour := goodIn_ca (goodIn_r _ [5, 6, 7, 4, 8, 9, 10] (by decide +kernel) (by decide +kernel)) (goodIn_sub (fun _ h => List.mem_cons_of_mem _ (List.mem_append_right _ h)) (by decide +kernel))
set_option maxRecDepth 20000 in
theorem gX3_bring_X3_checkColour : GoodIn wsX3_bring (va_wsS RX3 27 yX3_checkColour wsX3_checkColour) := goodIn_app (goodIn_of _ (by decide +kernel)) ggX3_bring_X3_checkColour
set_option maxRecDepth 20000 in
theorem ggX3_bring_X3_checkRange : GoodIn wsX3_bring wsX3_checkRange := goodIn_ca (goodIn_r _ [8, 9, 10] (by decide +kernel) (by decide +kernel)) (goodIn_sub (fun _ h => List.mem_cons_of_mem _ (List.mem_append_right _ h)) (by decide +kernel))
set_option maxRecDepth 20000 in
theorem gX3_bring_X3_checkRange : GoodIn wsX3_bring (va_wsS RX3 23 yX3_checkRange wsX3_checkRange) := goodIn_app (goodIn_of _ (by decide +kernel)) ggX3_bring_X3_checkRange
set_option maxRecDepth 20000 in
theorem ggX3_bring_X0_fill : GoodIn wsX3_bring wsX0_fill := goodIn_r _ [15, 16, 17, 18, 19, 20, 21, 4, 22, 23, 24, 32] (by decide +kernel) (by decide +kernel)
set_option maxRecDepth 20000 in
theorem gX3_bring_X0_fill : GoodIn wsX3_bring (wsV RX3 49 RX0 yX0_fill wsX0_fill) := goodIn_app (goodIn_of _ (by decide +kernel)) ggX3_bring_X0_fill
theorem dX3_bring_0 : decode cX3_bring 0 = .ok (.iload_n 1, 1) := by decide +kernel
theorem dX3_bring_1 : decode cX3_bring 1 = .ok (.invokestatic 27, 3) := by decide +kernel
theorem dX3_bring_4 : decode cX3_bring 4 = .ok (.iload_n 2, 1) := by decide +kernel
theorem dX3_bring_5 : decode cX3_bring 5 = .ok (.iconst 1, 1) := by decide +kernel
theorem dX3_bring_6 : decode cX3_bring 6 = .ok (.sipush 200, 3) := by decide +kernel
theorem dX3_bring_9 : decode cX3_bring 9 = .ok (.invokestatic 23, 3) := by decide +kernel
theorem dX3_bring_12 : decode cX3_bring 12 = .ok (.aload_n 0, 1) := by decide +kernel
theorem dX3_bring_13 : decode cX3_bring 13 = .ok (.getfield 10, 3) := by decide +kernel
theorem dX3_bring_16 : decode cX3_bring 16 = .ok (.getfield 45, 3) := by decide +kernel
theorem dX3_bring_19 : decode cX3_bring 19 = .ok (.iload_n 1, 1) := by decide +kernel
theorem dX3_bring_20 : decode cX3_bring 20 = .ok (.iload_n 2, 1) := by decide +kernel
theorem dX3_bring_21 : decode cX3_bring 21 = .ok (.invokevirtual 49, 3) := by decide +kernel
theorem dX3_bring_24 : decode cX3_bring 24 = .ok (.ireturn, 1) := by decide +kernel
set_option maxRecDepth 20000 in
theorem ggX3_setSpeed_X3_checkWeaver : GoodIn wsX3_setSpeed wsX3_checkWeaver := goodIn_ca (goodIn_r _ [5, 6, 7, 4, 8, 9, 10] (by decide +kernel) (by decide +kernel)) (goodIn_sub (fun _ h => List.mem_cons_of_mem _ (List.mem_append_left _ (List.mem_append_right _ h))) (by decide +kernel))
set_option maxRecDepth 20000 in
theorem gX3_setSpeed_X3_checkWeaver : GoodIn wsX3_setSpeed (va_wsS RX3 54 yX3_checkWeaver wsX3_checkWeaver) := goodIn_app (goodIn_of _ (by decide +kernel)) ggX3_setSpeed_X3_checkWeaver
set_option maxRecDepth 20000 in
theorem ggX3_setSpeed_X3_checkRange : GoodIn wsX3_setSpeed wsX3_checkRange := goodIn_ca (goodIn_r _ [13, 14, 15] (by decide +kernel) (by decide +kernel)) (goodIn_sub (fun _ h => List.mem_cons_of_mem _ (List.mem_append_right _ h)) (by decide +kernel))
set_option maxRecDepth 20000 in
theorem gX3_setSpeed_X3_checkRange : GoodIn wsX3_setSpeed (va_wsS RX3 23 yX3_checkRange wsX3_checkRange) := goodIn_app (goodIn_of _ (by decide +kernel)) ggX3_setSpeed_X3_checkRange
set_option maxRecDepth 20000 in
theorem ggX3_setSpeed_X1_weaverAt : GoodIn wsX3_setSpeed wsX1_weaverAt := goodIn_r _ [20, 21, 22, 34, 35, 36, 37, 38] (by decide +kernel) (by decide +kernel)
set_option maxRecDepth 20000 in
theorem gX3_setSpeed_X1_weaverAt : GoodIn wsX3_setSpeed (wsV RX3 57 RX1 yX1_weaverAt wsX1_weaverAt) := goodIn_app (goodIn_of _ (by decide +kernel)) ggX3_setSpeed_X1_weaverAt
theorem dX3_setSpeed_0 : decode cX3_setSpeed 0 = .ok (.iload_n 1, 1) := by decide +kernel
theorem dX3_setSpeed_1 : decode cX3_setSpeed 1 = .ok (.invokestatic 54, 3) := by decide +kernel
theorem dX3_setSpeed_4 : decode cX3_setSpeed 4 = .ok (.iload_n 2, 1) := by decide +kernel
theorem dX3_setSpeed_5 : decode cX3_setSpeed 5 = .ok (.iconst 1, 1) := by decide +kernel
theorem dX3_setSpeed_6 : decode cX3_setSpeed 6 = .ok (.bipush 6, 2) := by decide +kernel
theorem dX3_setSpeed_8 : decode cX3_setSpeed 8 = .ok (.invokestatic 23, 3) := by decide +kernel
theorem dX3_setSpeed_11 : decode cX3_setSpeed 11 = .ok (.aload_n 0, 1) := by decide +kernel
theorem dX3_setSpeed_12 : decode cX3_setSpeed 12 = .ok (.getfield 10, 3) := by decide +kernel
theorem dX3_setSpeed_15 : decode cX3_setSpeed 15 = .ok (.iload_n 1, 1) := by decide +kernel
theorem dX3_setSpeed_16 : decode cX3_setSpeed 16 = .ok (.invokevirtual 57, 3) := by decide +kernel
theorem dX3_setSpeed_19 : decode cX3_setSpeed 19 = .ok (.astore_n 3, 1) := by decide +kernel
theorem dX3_setSpeed_20 : decode cX3_setSpeed 20 = .ok (.aload_n 3, 1) := by decide +kernel
theorem dX3_setSpeed_21 : decode cX3_setSpeed 21 = .ok (.getfield 60, 3) := by decide +kernel
theorem dX3_setSpeed_24 : decode cX3_setSpeed 24 = .ok (.istore 4, 2) := by decide +kernel
theorem dX3_setSpeed_26 : decode cX3_setSpeed 26 = .ok (.aload_n 3, 1) := by decide +kernel
theorem dX3_setSpeed_27 : decode cX3_setSpeed 27 = .ok (.iload_n 2, 1) := by decide +kernel
theorem dX3_setSpeed_28 : decode cX3_setSpeed 28 = .ok (.putfield 60, 3) := by decide +kernel
theorem dX3_setSpeed_31 : decode cX3_setSpeed 31 = .ok (.iload 4, 2) := by decide +kernel
theorem dX3_setSpeed_33 : decode cX3_setSpeed 33 = .ok (.ireturn, 1) := by decide +kernel
set_option maxRecDepth 20000 in
theorem ggX3_tell_X3_checkWeaver : GoodIn wsX3_tell wsX3_checkWeaver := goodIn_ca (goodIn_r _ [7, 8, 9, 6, 10, 11, 12] (by decide +kernel) (by decide +kernel)) (goodIn_sub (fun _ h => List.mem_cons_of_mem _ (List.mem_append_left _ (List.mem_append_right _ h))) (by decide +kernel))
set_option maxRecDepth 20000 in
theorem gX3_tell_X3_checkWeaver : GoodIn wsX3_tell (va_wsS RX3 54 yX3_checkWeaver wsX3_checkWeaver) := goodIn_app (goodIn_of _ (by decide +kernel)) ggX3_tell_X3_checkWeaver
set_option maxRecDepth 20000 in
theorem ggX3_tell_X3_checkColour : GoodIn wsX3_tell wsX3_checkColour := goodIn_ca (goodIn_r _ [15, 16, 17, 6, 18, 19, 20] (by decide +kernel) (by decide +kernel)) (goodIn_sub (fun _ h => List.mem_cons_of_mem _ (List.mem_append_right _ h)) (by decide +kernel))
set_option maxRecDepth 20000 in
theorem gX3_tell_X3_checkColour : GoodIn wsX3_tell (va_wsS RX3 27 yX3_checkColour wsX3_checkColour) := goodIn_app (goodIn_of _ (by decide +kernel)) ggX3_tell_X3_checkColour
set_option maxRecDepth 20000 in
theorem ggX3_tell_X3_checkRange : GoodIn wsX3_tell wsX3_checkRange := goodIn_ca (goodIn_r _ [18, 19, 20] (by decide +kernel) (by decide +kernel)) (goodIn_sub (fun _ h => List.mem_cons_of_mem _ (List.mem_append_right _ h)) (by decide +kernel))
set_option maxRecDepth 20000 in
theorem gX3_tell_X3_checkRange : GoodIn wsX3_tell (va_wsS RX3 23 yX3_checkRange wsX3_checkRange) := goodIn_app (goodIn_of _ (by decide +kernel)) ggX3_tell_X3_checkRange
set_option maxRecDepth 20000 in
theorem ggX3_tell_X1_weaverAt : GoodIn wsX3_tell wsX1_weaverAt := goodIn_r _ [25, 26, 27, 49, 50, 51, 52, 53] (by decide +kernel) (by decide +kernel)
set_option maxRecDepth 20000 in
theorem gX3_tell_X1_weaverAt : GoodIn wsX3_tell (wsV RX3 57 RX1 yX1_weaverAt wsX1_weaverAt) := goodIn_app (goodIn_of _ (by decide +kernel)) ggX3_tell_X1_weaverAt
set_option maxRecDepth 20000 in
theorem ggX3_tell_X2_addRun : GoodIn wsX3_tell wsX2_addRun := goodIn_r _ [32, 33, 34, 35, 36, 6, 37, 40, 41, 42, 43, 44, 45, 46, 47, 48] (by decide +kernel) (by decide +kernel)
set_option maxRecDepth 20000 in
theorem gX3_tell_X2_addRun : GoodIn wsX3_tell (wsV RX3 74 RX2 yX2_addRun wsX2_addRun) := goodIn_app (goodIn_of _ (by decide +kernel)) ggX3_tell_X2_addRun
theorem dX3_tell_0 : decode cX3_tell 0 = .ok (.iload_n 1, 1) := by decide +kernel
theorem dX3_tell_1 : decode cX3_tell 1 = .ok (.invokestatic 54, 3) := by decide +kernel
theorem dX3_tell_4 : decode cX3_tell 4 = .ok (.iload_n 2, 1) := by decide +kernel
theorem dX3_tell_5 : decode cX3_tell 5 = .ok (.invokestatic 27, 3) := by decide +kernel
theorem dX3_tell_8 : decode cX3_tell 8 = .ok (.iload_n 3, 1) := by decide +kernel
theorem dX3_tell_9 : decode cX3_tell 9 = .ok (.iconst 1, 1) := by decide +kernel
theorem dX3_tell_10 : decode cX3_tell 10 = .ok (.bipush 60, 2) := by decide +kernel
theorem dX3_tell_12 : decode cX3_tell 12 = .ok (.invokestatic 23, 3) := by decide +kernel
theorem dX3_tell_15 : decode cX3_tell 15 = .ok (.aload_n 0, 1) := by decide +kernel
theorem dX3_tell_16 : decode cX3_tell 16 = .ok (.getfield 10, 3) := by decide +kernel
theorem dX3_tell_19 : decode cX3_tell 19 = .ok (.iload_n 1, 1) := by decide +kernel
theorem dX3_tell_20 : decode cX3_tell 20 = .ok (.invokevirtual 57, 3) := by decide +kernel
theorem dX3_tell_23 : decode cX3_tell 23 = .ok (.astore 4, 2) := by decide +kernel
theorem dX3_tell_25 : decode cX3_tell 25 = .ok (.aload 4, 2) := by decide +kernel
theorem dX3_tell_27 : decode cX3_tell 27 = .ok (.getfield 64, 3) := by decide +kernel
theorem dX3_tell_30 : decode cX3_tell 30 = .ok (.bipush 20, 2) := by decide +kernel
theorem dX3_tell_32 : decode cX3_tell 32 = .ok (.if_icmp .lt 13, 3) := by decide +kernel
theorem dX3_tell_35 : decode cX3_tell 35 = .ok (.new 67, 3) := by decide +kernel
theorem dX3_tell_38 : decode cX3_tell 38 = .ok (.dup, 1) := by decide +kernel
theorem dX3_tell_39 : decode cX3_tell 39 = .ok (.ldc 69, 2) := by decide +kernel
theorem dX3_tell_41 : decode cX3_tell 41 = .ok (.invokespecial 71, 3) := by decide +kernel
theorem dX3_tell_44 : decode cX3_tell 44 = .ok (.athrow, 1) := by decide +kernel
theorem dX3_tell_45 : decode cX3_tell 45 = .ok (.aload 4, 2) := by decide +kernel
theorem dX3_tell_47 : decode cX3_tell 47 = .ok (.iload_n 2, 1) := by decide +kernel
theorem dX3_tell_48 : decode cX3_tell 48 = .ok (.iload_n 3, 1) := by decide +kernel
theorem dX3_tell_49 : decode cX3_tell 49 = .ok (.invokevirtual 74, 3) := by decide +kernel
theorem dX3_tell_52 : decode cX3_tell 52 = .ok (.aload 4, 2) := by decide +kernel
theorem dX3_tell_54 : decode cX3_tell 54 = .ok (.getfield 64, 3) := by decide +kernel
theorem dX3_tell_57 : decode cX3_tell 57 = .ok (.ireturn, 1) := by decide +kernel
set_option maxRecDepth 20000 in
theorem ggX3_hush_X3_checkWeaver : GoodIn wsX3_hush wsX3_checkWeaver := goodIn_ca (goodIn_r _ [5, 6, 7, 4, 8, 9, 10] (by decide +kernel) (by decide +kernel)) (goodIn_sub (fun _ h => List.mem_cons_of_mem _ (List.mem_append_right _ h)) (by decide +kernel))
set_option maxRecDepth 20000 in
theorem gX3_hush_X3_checkWeaver : GoodIn wsX3_hush (va_wsS RX3 54 yX3_checkWeaver wsX3_checkWeaver) := goodIn_app (goodIn_of _ (by decide +kernel)) ggX3_hush_X3_checkWeaver
set_option maxRecDepth 20000 in
theorem ggX3_hush_X1_weaverAt : GoodIn wsX3_hush wsX1_weaverAt := goodIn_r _ [15, 16, 17, 38, 39, 40, 41, 42] (by decide +kernel) (by decide +kernel)
set_option maxRecDepth 20000 in
theorem gX3_hush_X1_weaverAt : GoodIn wsX3_hush (wsV RX3 57 RX1 yX1_weaverAt wsX1_weaverAt) := goodIn_app (goodIn_of _ (by decide +kernel)) ggX3_hush_X1_weaverAt
set_option maxRecDepth 20000 in
theorem ggX3_hush_X2_toldInAll : GoodIn wsX3_hush wsX2_toldInAll := goodIn_r _ [22, 23, 24, 25, 4, 26, 29, 30, 31, 32, 33, 34, 35, 36, 37] (by decide +kernel) (by decide +kernel)
set_option maxRecDepth 20000 in
theorem gX3_hush_X2_toldInAll : GoodIn wsX3_hush (wsV RX3 77 RX2 yX2_toldInAll wsX2_toldInAll) := goodIn_app (goodIn_of _ (by decide +kernel)) ggX3_hush_X2_toldInAll
theorem dX3_hush_0 : decode cX3_hush 0 = .ok (.iload_n 1, 1) := by decide +kernel
theorem dX3_hush_1 : decode cX3_hush 1 = .ok (.invokestatic 54, 3) := by decide +kernel
theorem dX3_hush_4 : decode cX3_hush 4 = .ok (.aload_n 0, 1) := by decide +kernel
theorem dX3_hush_5 : decode cX3_hush 5 = .ok (.getfield 10, 3) := by decide +kernel
theorem dX3_hush_8 : decode cX3_hush 8 = .ok (.iload_n 1, 1) := by decide +kernel
theorem dX3_hush_9 : decode cX3_hush 9 = .ok (.invokevirtual 57, 3) := by decide +kernel
theorem dX3_hush_12 : decode cX3_hush 12 = .ok (.astore_n 2, 1) := by decide +kernel
theorem dX3_hush_13 : decode cX3_hush 13 = .ok (.aload_n 2, 1) := by decide +kernel
theorem dX3_hush_14 : decode cX3_hush 14 = .ok (.invokevirtual 77, 3) := by decide +kernel
theorem dX3_hush_17 : decode cX3_hush 17 = .ok (.istore_n 3, 1) := by decide +kernel
theorem dX3_hush_18 : decode cX3_hush 18 = .ok (.aload_n 2, 1) := by decide +kernel
theorem dX3_hush_19 : decode cX3_hush 19 = .ok (.iconst 0, 1) := by decide +kernel
theorem dX3_hush_20 : decode cX3_hush 20 = .ok (.putfield 64, 3) := by decide +kernel
theorem dX3_hush_23 : decode cX3_hush 23 = .ok (.iload_n 3, 1) := by decide +kernel
theorem dX3_hush_24 : decode cX3_hush 24 = .ok (.ireturn, 1) := by decide +kernel
set_option maxRecDepth 20000 in
theorem ggX3_unpick_X3_checkWeaver : GoodIn wsX3_unpick wsX3_checkWeaver := goodIn_ca (goodIn_r _ [7, 8, 9, 6, 10, 11, 12] (by decide +kernel) (by decide +kernel)) (goodIn_sub (fun _ h => List.mem_cons_of_mem _ (List.mem_append_left _ (List.mem_append_right _ h))) (by decide +kernel))
set_option maxRecDepth 20000 in
theorem gX3_unpick_X3_checkWeaver : GoodIn wsX3_unpick (va_wsS RX3 54 yX3_checkWeaver wsX3_checkWeaver) := goodIn_app (goodIn_of _ (by decide +kernel)) ggX3_unpick_X3_checkWeaver
set_option maxRecDepth 20000 in
theorem ggX3_unpick_X3_checkRange : GoodIn wsX3_unpick wsX3_checkRange := goodIn_ca (goodIn_r _ [15, 16, 17] (by decide +kernel) (by decide +kernel)) (goodIn_sub (fun _ h => List.mem_cons_of_mem _ (List.mem_append_right _ h)) (by decide +kernel))
set_option maxRecDepth 20000 in
theorem gX3_unpick_X3_checkRange : GoodIn wsX3_unpick (va_wsS RX3 23 yX3_checkRange wsX3_checkRange) := goodIn_app (goodIn_of _ (by decide +kernel)) ggX3_unpick_X3_checkRange
set_option maxRecDepth 20000 in
theorem ggX3_unpick_X1_weaverAt : GoodIn wsX3_unpick wsX1_weaverAt := goodIn_r _ [22, 23, 24, 57, 58, 59, 60, 61] (by decide +kernel) (by decide +kernel)
set_option maxRecDepth 20000 in
theorem gX3_unpick_X1_weaverAt : GoodIn wsX3_unpick (wsV RX3 57 RX1 yX1_weaverAt wsX1_weaverAt) := goodIn_app (goodIn_of _ (by decide +kernel)) ggX3_unpick_X1_weaverAt
set_option maxRecDepth 20000 in
theorem ggX3_unpick_X2_undo : GoodIn wsX3_unpick wsX2_undo := goodIn_r _ [29, 30, 31, 32, 6, 33, 34, 35, 36, 37, 38, 39, 40, 41, 42, 43, 44, 45, 48, 49, 50, 51, 52, 53, 54, 55, 56, 62] (by decide +kernel) (by decide +kernel)
set_option maxRecDepth 20000 in
theorem gX3_unpick_X2_undo : GoodIn wsX3_unpick (wsV RX3 86 RX2 yX2_undo wsX2_undo) := goodIn_app (goodIn_of _ (by decide +kernel)) ggX3_unpick_X2_undo
theorem dX3_unpick_0 : decode cX3_unpick 0 = .ok (.iload_n 1, 1) := by decide +kernel
theorem dX3_unpick_1 : decode cX3_unpick 1 = .ok (.invokestatic 54, 3) := by decide +kernel
theorem dX3_unpick_4 : decode cX3_unpick 4 = .ok (.iload_n 2, 1) := by decide +kernel
theorem dX3_unpick_5 : decode cX3_unpick 5 = .ok (.iconst 1, 1) := by decide +kernel
theorem dX3_unpick_6 : decode cX3_unpick 6 = .ok (.bipush 60, 2) := by decide +kernel
theorem dX3_unpick_8 : decode cX3_unpick 8 = .ok (.invokestatic 23, 3) := by decide +kernel
theorem dX3_unpick_11 : decode cX3_unpick 11 = .ok (.aload_n 0, 1) := by decide +kernel
theorem dX3_unpick_12 : decode cX3_unpick 12 = .ok (.getfield 10, 3) := by decide +kernel
theorem dX3_unpick_15 : decode cX3_unpick 15 = .ok (.iload_n 1, 1) := by decide +kernel
theorem dX3_unpick_16 : decode cX3_unpick 16 = .ok (.invokevirtual 57, 3) := by decide +kernel
theorem dX3_unpick_19 : decode cX3_unpick 19 = .ok (.astore_n 3, 1) := by decide +kernel
theorem dX3_unpick_20 : decode cX3_unpick 20 = .ok (.aload_n 3, 1) := by decide +kernel
theorem dX3_unpick_21 : decode cX3_unpick 21 = .ok (.getfield 81, 3) := by decide +kernel
theorem dX3_unpick_24 : decode cX3_unpick 24 = .ok (.iload_n 2, 1) := by decide +kernel
theorem dX3_unpick_25 : decode cX3_unpick 25 = .ok (.if_icmp .ge 13, 3) := by decide +kernel
theorem dX3_unpick_28 : decode cX3_unpick 28 = .ok (.new 67, 3) := by decide +kernel
theorem dX3_unpick_31 : decode cX3_unpick 31 = .ok (.dup, 1) := by decide +kernel
theorem dX3_unpick_32 : decode cX3_unpick 32 = .ok (.ldc 84, 2) := by decide +kernel
theorem dX3_unpick_34 : decode cX3_unpick 34 = .ok (.invokespecial 71, 3) := by decide +kernel
theorem dX3_unpick_37 : decode cX3_unpick 37 = .ok (.athrow, 1) := by decide +kernel
theorem dX3_unpick_38 : decode cX3_unpick 38 = .ok (.aload_n 3, 1) := by decide +kernel
theorem dX3_unpick_39 : decode cX3_unpick 39 = .ok (.iload_n 2, 1) := by decide +kernel
theorem dX3_unpick_40 : decode cX3_unpick 40 = .ok (.aload_n 0, 1) := by decide +kernel
theorem dX3_unpick_41 : decode cX3_unpick 41 = .ok (.getfield 10, 3) := by decide +kernel
theorem dX3_unpick_44 : decode cX3_unpick 44 = .ok (.getfield 45, 3) := by decide +kernel
theorem dX3_unpick_47 : decode cX3_unpick 47 = .ok (.invokevirtual 86, 3) := by decide +kernel
theorem dX3_unpick_50 : decode cX3_unpick 50 = .ok (.aload_n 0, 1) := by decide +kernel
theorem dX3_unpick_51 : decode cX3_unpick 51 = .ok (.getfield 10, 3) := by decide +kernel
theorem dX3_unpick_54 : decode cX3_unpick 54 = .ok (.dup, 1) := by decide +kernel
theorem dX3_unpick_55 : decode cX3_unpick 55 = .ok (.getfield 90, 3) := by decide +kernel
theorem dX3_unpick_58 : decode cX3_unpick 58 = .ok (.iload_n 2, 1) := by decide +kernel
theorem dX3_unpick_59 : decode cX3_unpick 59 = .ok (.iadd, 1) := by decide +kernel
theorem dX3_unpick_60 : decode cX3_unpick 60 = .ok (.putfield 90, 3) := by decide +kernel
theorem dX3_unpick_63 : decode cX3_unpick 63 = .ok (.aload_n 3, 1) := by decide +kernel
theorem dX3_unpick_64 : decode cX3_unpick 64 = .ok (.getfield 81, 3) := by decide +kernel
theorem dX3_unpick_67 : decode cX3_unpick 67 = .ok (.ireturn, 1) := by decide +kernel
set_option maxRecDepth 20000 in
theorem ggX3_cell_X3_checkCell : GoodIn wsX3_cell wsX3_checkCell := goodIn_ca (goodIn_r _ [5, 6, 7, 4, 8, 9, 10] (by decide +kernel) (by decide +kernel)) (goodIn_sub (fun _ h => List.mem_cons_of_mem _ (List.mem_append_right _ h)) (by decide +kernel))
set_option maxRecDepth 20000 in
theorem gX3_cell_X3_checkCell : GoodIn wsX3_cell (va_wsS RX3 19 yX3_checkCell wsX3_checkCell) := goodIn_app (goodIn_of _ (by decide +kernel)) ggX3_cell_X3_checkCell
set_option maxRecDepth 20000 in
theorem ggX3_cell_X3_checkIndex : GoodIn wsX3_cell wsX3_checkIndex := goodIn_ca (goodIn_r _ [8, 9, 10] (by decide +kernel) (by decide +kernel)) (goodIn_sub (fun _ h => List.mem_cons_of_mem _ (List.mem_append_right _ h)) (by decide +kernel))
set_option maxRecDepth 20000 in
theorem gX3_cell_X3_checkIndex : GoodIn wsX3_cell (va_wsS RX3 93 yX3_checkIndex wsX3_checkIndex) := goodIn_app (goodIn_of _ (by decide +kernel)) ggX3_cell_X3_checkIndex
set_option maxRecDepth 20000 in
theorem ggX3_cell_X1_knotAt : GoodIn wsX3_cell wsX1_knotAt := goodIn_r _ [15, 16, 17, 18, 14, 19, 20, 4, 21, 22, 23, 24, 25, 26, 27, 28, 29, 30, 31, 32, 33, 34, 35, 36, 37, 38, 45, 46, 47, 48, 49, 50, 51, 52, 53, 54, 55, 56, 57, 58] (by decide +kernel) (by decide +kernel)
set_option maxRecDepth 20000 in
theorem gX3_cell_X1_knotAt : GoodIn wsX3_cell (wsV RX3 96 RX1 yX1_knotAt wsX1_knotAt) := goodIn_app (goodIn_of _ (by decide +kernel)) ggX3_cell_X1_knotAt
set_option maxRecDepth 20000 in
theorem ggX3_cell_X1_planAt : GoodIn wsX3_cell wsX1_planAt := goodIn_r _ [42, 16, 17, 18, 14, 19, 20, 4, 21, 22, 23, 24, 25, 26, 27, 28, 29, 37, 38, 50, 51, 52, 53, 54, 55, 56, 57, 58, 45, 46, 47, 48, 49] (by decide +kernel) (by decide +kernel)
set_option maxRecDepth 20000 in
theorem gX3_cell_X1_planAt : GoodIn wsX3_cell (wsV RX3 99 RX1 yX1_planAt wsX1_planAt) := goodIn_app (goodIn_of _ (by decide +kernel)) ggX3_cell_X1_planAt
theorem dX3_cell_0 : decode cX3_cell 0 = .ok (.iload_n 1, 1) := by decide +kernel
theorem dX3_cell_1 : decode cX3_cell 1 = .ok (.iload_n 2, 1) := by decide +kernel
theorem dX3_cell_2 : decode cX3_cell 2 = .ok (.invokestatic 19, 3) := by decide +kernel
theorem dX3_cell_5 : decode cX3_cell 5 = .ok (.iload_n 3, 1) := by decide +kernel
theorem dX3_cell_6 : decode cX3_cell 6 = .ok (.iconst 2, 1) := by decide +kernel
theorem dX3_cell_7 : decode cX3_cell 7 = .ok (.invokestatic 93, 3) := by decide +kernel
theorem dX3_cell_10 : decode cX3_cell 10 = .ok (.iload_n 3, 1) := by decide +kernel
theorem dX3_cell_11 : decode cX3_cell 11 = .ok (.ifCond .ne 15, 3) := by decide +kernel
theorem dX3_cell_14 : decode cX3_cell 14 = .ok (.aload_n 0, 1) := by decide +kernel
theorem dX3_cell_15 : decode cX3_cell 15 = .ok (.getfield 10, 3) := by decide +kernel
theorem dX3_cell_18 : decode cX3_cell 18 = .ok (.iload_n 1, 1) := by decide +kernel
theorem dX3_cell_19 : decode cX3_cell 19 = .ok (.iload_n 2, 1) := by decide +kernel
theorem dX3_cell_20 : decode cX3_cell 20 = .ok (.invokevirtual 96, 3) := by decide +kernel
theorem dX3_cell_23 : decode cX3_cell 23 = .ok (.goto 12, 3) := by decide +kernel
theorem dX3_cell_26 : decode cX3_cell 26 = .ok (.aload_n 0, 1) := by decide +kernel
theorem dX3_cell_27 : decode cX3_cell 27 = .ok (.getfield 10, 3) := by decide +kernel
theorem dX3_cell_30 : decode cX3_cell 30 = .ok (.iload_n 1, 1) := by decide +kernel
theorem dX3_cell_31 : decode cX3_cell 31 = .ok (.iload_n 2, 1) := by decide +kernel
theorem dX3_cell_32 : decode cX3_cell 32 = .ok (.invokevirtual 99, 3) := by decide +kernel
theorem dX3_cell_35 : decode cX3_cell 35 = .ok (.ireturn, 1) := by decide +kernel
set_option maxRecDepth 20000 in
theorem ggX3_sees_X3_checkWeaver : GoodIn wsX3_sees wsX3_checkWeaver := goodIn_ca (goodIn_r _ [5, 6, 7, 4, 8, 9, 10] (by decide +kernel) (by decide +kernel)) (goodIn_sub (fun _ h => List.mem_cons_of_mem _ (List.mem_append_right _ h)) (by decide +kernel))
set_option maxRecDepth 20000 in
theorem gX3_sees_X3_checkWeaver : GoodIn wsX3_sees (va_wsS RX3 54 yX3_checkWeaver wsX3_checkWeaver) := goodIn_app (goodIn_of _ (by decide +kernel)) ggX3_sees_X3_checkWeaver
set_option maxRecDepth 20000 in
theorem ggX3_sees_X3_checkCell : GoodIn wsX3_sees wsX3_checkCell := goodIn_ca (goodIn_r _ [13, 6, 7, 4, 8, 9, 10] (by decide +kernel) (by decide +kernel)) (goodIn_sub (fun _ h => List.mem_cons_of_mem _ (List.mem_append_right _ h)) (by decide +kernel))
set_option maxRecDepth 20000 in
theorem gX3_sees_X3_checkCell : GoodIn wsX3_sees (va_wsS RX3 19 yX3_checkCell wsX3_checkCell) := goodIn_app (goodIn_of _ (by decide +kernel)) ggX3_sees_X3_checkCell
set_option maxRecDepth 20000 in
theorem ggX3_sees_X3_sideOf : GoodIn wsX3_sees wsX3_sideOf := goodIn_r _ [16] (by decide +kernel) (by decide +kernel)
set_option maxRecDepth 20000 in
theorem gX3_sees_X3_sideOf : GoodIn wsX3_sees (va_wsS RX3 102 yX3_sideOf wsX3_sideOf) := goodIn_app (goodIn_of _ (by decide +kernel)) ggX3_sees_X3_sideOf
set_option maxRecDepth 20000 in
theorem ggX3_sees_X1_weaverAt : GoodIn wsX3_sees wsX1_weaverAt := goodIn_r _ [21, 22, 23, 50, 51, 52, 53, 54] (by decide +kernel) (by decide +kernel)
set_option maxRecDepth 20000 in
theorem gX3_sees_X1_weaverAt : GoodIn wsX3_sees (wsV RX3 57 RX1 yX1_weaverAt wsX1_weaverAt) := goodIn_app (goodIn_of _ (by decide +kernel)) ggX3_sees_X1_weaverAt
set_option maxRecDepth 20000 in
theorem ggX3_sees_X2_rowsDone : GoodIn wsX3_sees wsX2_rowsDone := goodIn_r _ [28, 29, 55, 56, 57, 58, 59, 60, 61, 62, 63] (by decide +kernel) (by decide +kernel)
set_option maxRecDepth 20000 in
theorem gX3_sees_X2_rowsDone : GoodIn wsX3_sees (wsV RX3 106 RX2 yX2_rowsDone wsX2_rowsDone) := goodIn_app (goodIn_of _ (by decide +kernel)) ggX3_sees_X2_rowsDone
set_option maxRecDepth 20000 in
theorem ggX3_sees_X1_knotAt : GoodIn wsX3_sees wsX1_knotAt := goodIn_r _ [33, 34, 35, 36, 20, 37, 15, 4, 16, 38, 18, 19, 21, 22, 23, 39, 40, 41, 42, 43, 27, 44, 29, 45, 46, 47, 50, 51, 52, 53, 54, 55, 56, 57, 58, 59, 60, 61, 62, 63] (by decide +kernel) (by decide +kernel)
set_option maxRecDepth 20000 in
theorem gX3_sees_X1_knotAt : GoodIn wsX3_sees (wsV RX3 96 RX1 yX1_knotAt wsX1_knotAt) := goodIn_app (goodIn_of _ (by decide +kernel)) ggX3_sees_X1_knotAt
theorem dX3_sees_0 : decode cX3_sees 0 = .ok (.iload_n 1, 1) := by decide +kernel
theorem dX3_sees_1 : decode cX3_sees 1 = .ok (.invokestatic 54, 3) := by decide +kernel
theorem dX3_sees_4 : decode cX3_sees 4 = .ok (.iload_n 2, 1) := by decide +kernel
theorem dX3_sees_5 : decode cX3_sees 5 = .ok (.iload_n 3, 1) := by decide +kernel
theorem dX3_sees_6 : decode cX3_sees 6 = .ok (.invokestatic 19, 3) := by decide +kernel
theorem dX3_sees_9 : decode cX3_sees 9 = .ok (.iload_n 1, 1) := by decide +kernel
theorem dX3_sees_10 : decode cX3_sees 10 = .ok (.iload_n 2, 1) := by decide +kernel
theorem dX3_sees_11 : decode cX3_sees 11 = .ok (.invokestatic 102, 3) := by decide +kernel
theorem dX3_sees_14 : decode cX3_sees 14 = .ok (.if_icmp .ne 7, 3) := by decide +kernel
theorem dX3_sees_17 : decode cX3_sees 17 = .ok (.iconst 1, 1) := by decide +kernel
theorem dX3_sees_18 : decode cX3_sees 18 = .ok (.goto 4, 3) := by decide +kernel
theorem dX3_sees_21 : decode cX3_sees 21 = .ok (.iconst 0, 1) := by decide +kernel
theorem dX3_sees_22 : decode cX3_sees 22 = .ok (.istore 4, 2) := by decide +kernel
theorem dX3_sees_24 : decode cX3_sees 24 = .ok (.iload_n 2, 1) := by decide +kernel
theorem dX3_sees_25 : decode cX3_sees 25 = .ok (.iconst 5, 1) := by decide +kernel
theorem dX3_sees_26 : decode cX3_sees 26 = .ok (.if_icmp .eq 9, 3) := by decide +kernel
theorem dX3_sees_29 : decode cX3_sees 29 = .ok (.iload_n 2, 1) := by decide +kernel
theorem dX3_sees_30 : decode cX3_sees 30 = .ok (.bipush 6, 2) := by decide +kernel
theorem dX3_sees_32 : decode cX3_sees 32 = .ok (.if_icmp .ne 7, 3) := by decide +kernel
theorem dX3_sees_35 : decode cX3_sees 35 = .ok (.iconst 1, 1) := by decide +kernel
theorem dX3_sees_36 : decode cX3_sees 36 = .ok (.goto 4, 3) := by decide +kernel
theorem dX3_sees_39 : decode cX3_sees 39 = .ok (.iconst 0, 1) := by decide +kernel
theorem dX3_sees_40 : decode cX3_sees 40 = .ok (.istore 5, 2) := by decide +kernel
theorem dX3_sees_42 : decode cX3_sees 42 = .ok (.iload 4, 2) := by decide +kernel
theorem dX3_sees_44 : decode cX3_sees 44 = .ok (.ifCond .ne 23, 3) := by decide +kernel
theorem dX3_sees_47 : decode cX3_sees 47 = .ok (.iload 5, 2) := by decide +kernel
theorem dX3_sees_49 : decode cX3_sees 49 = .ok (.ifCond .eq 28, 3) := by decide +kernel
theorem dX3_sees_52 : decode cX3_sees 52 = .ok (.aload_n 0, 1) := by decide +kernel
theorem dX3_sees_53 : decode cX3_sees 53 = .ok (.getfield 10, 3) := by decide +kernel
theorem dX3_sees_56 : decode cX3_sees 56 = .ok (.iload_n 1, 1) := by decide +kernel
theorem dX3_sees_57 : decode cX3_sees 57 = .ok (.invokevirtual 57, 3) := by decide +kernel
theorem dX3_sees_60 : decode cX3_sees 60 = .ok (.invokevirtual 106, 3) := by decide +kernel
theorem dX3_sees_63 : decode cX3_sees 63 = .ok (.iload_n 3, 1) := by decide +kernel
theorem dX3_sees_64 : decode cX3_sees 64 = .ok (.if_icmp .le 13, 3) := by decide +kernel
theorem dX3_sees_67 : decode cX3_sees 67 = .ok (.aload_n 0, 1) := by decide +kernel
theorem dX3_sees_68 : decode cX3_sees 68 = .ok (.getfield 10, 3) := by decide +kernel
theorem dX3_sees_71 : decode cX3_sees 71 = .ok (.iload_n 2, 1) := by decide +kernel
theorem dX3_sees_72 : decode cX3_sees 72 = .ok (.iload_n 3, 1) := by decide +kernel
theorem dX3_sees_73 : decode cX3_sees 73 = .ok (.invokevirtual 96, 3) := by decide +kernel
theorem dX3_sees_76 : decode cX3_sees 76 = .ok (.ireturn, 1) := by decide +kernel
theorem dX3_sees_77 : decode cX3_sees 77 = .ok (.bipush (-2), 2) := by decide +kernel
theorem dX3_sees_79 : decode cX3_sees 79 = .ok (.ireturn, 1) := by decide +kernel
set_option maxRecDepth 20000 in
theorem ggX3_weaver_X3_checkWeaver : GoodIn wsX3_weaver wsX3_checkWeaver := goodIn_ca (goodIn_r _ [5, 6, 7, 4, 8, 9, 10] (by decide +kernel) (by decide +kernel)) (goodIn_sub (fun _ h => List.mem_cons_of_mem _ (List.mem_append_right _ h)) (by decide +kernel))
set_option maxRecDepth 20000 in
theorem gX3_weaver_X3_checkWeaver : GoodIn wsX3_weaver (va_wsS RX3 54 yX3_checkWeaver wsX3_checkWeaver) := goodIn_app (goodIn_of _ (by decide +kernel)) ggX3_weaver_X3_checkWeaver
set_option maxRecDepth 20000 in
theorem ggX3_weaver_X3_checkIndex : GoodIn wsX3_weaver wsX3_checkIndex := goodIn_ca (goodIn_r _ [8, 9, 10] (by decide +kernel) (by decide +kernel)) (goodIn_sub (fun _ h => List.mem_cons_of_mem _ (List.mem_append_right _ h)) (by decide +kernel))
set_option maxRecDepth 20000 in
theorem gX3_weaver_X3_checkIndex : GoodIn wsX3_weaver (va_wsS RX3 93 yX3_checkIndex wsX3_checkIndex) := goodIn_app (goodIn_of _ (by decide +kernel)) ggX3_weaver_X3_checkIndex
set_option maxRecDepth 20000 in
theorem ggX3_weaver_X1_weaverAt : GoodIn wsX3_weaver wsX1_weaverAt := goodIn_r _ [15, 16, 17, 45, 46, 47, 48, 49] (by decide +kernel) (by decide +kernel)
set_option maxRecDepth 20000 in
theorem gX3_weaver_X1_weaverAt : GoodIn wsX3_weaver (wsV RX3 57 RX1 yX1_weaverAt wsX1_weaverAt) := goodIn_app (goodIn_of _ (by decide +kernel)) ggX3_weaver_X1_weaverAt
set_option maxRecDepth 20000 in
theorem ggX3_weaver_X2_number : GoodIn wsX3_weaver wsX2_number := goodIn_r _ [22, 23, 24, 25, 26, 27, 28, 29, 21, 30, 31, 32, 4, 33, 34, 35, 36, 37, 38, 39, 40, 41, 42, 50, 51, 52, 53, 54, 55, 56, 57, 58] (by decide +kernel) (by decide +kernel)
set_option maxRecDepth 20000 in
theorem gX3_weaver_X2_number : GoodIn wsX3_weaver (wsV RX3 109 RX2 yX2_number wsX2_number) := goodIn_app (goodIn_of _ (by decide +kernel)) ggX3_weaver_X2_number
theorem dX3_weaver_0 : decode cX3_weaver 0 = .ok (.iload_n 1, 1) := by decide +kernel
theorem dX3_weaver_1 : decode cX3_weaver 1 = .ok (.invokestatic 54, 3) := by decide +kernel
theorem dX3_weaver_4 : decode cX3_weaver 4 = .ok (.iload_n 2, 1) := by decide +kernel
theorem dX3_weaver_5 : decode cX3_weaver 5 = .ok (.bipush 7, 2) := by decide +kernel
theorem dX3_weaver_7 : decode cX3_weaver 7 = .ok (.invokestatic 93, 3) := by decide +kernel
theorem dX3_weaver_10 : decode cX3_weaver 10 = .ok (.aload_n 0, 1) := by decide +kernel
theorem dX3_weaver_11 : decode cX3_weaver 11 = .ok (.getfield 10, 3) := by decide +kernel
theorem dX3_weaver_14 : decode cX3_weaver 14 = .ok (.iload_n 1, 1) := by decide +kernel
theorem dX3_weaver_15 : decode cX3_weaver 15 = .ok (.invokevirtual 57, 3) := by decide +kernel
theorem dX3_weaver_18 : decode cX3_weaver 18 = .ok (.iload_n 2, 1) := by decide +kernel
theorem dX3_weaver_19 : decode cX3_weaver 19 = .ok (.invokevirtual 109, 3) := by decide +kernel
theorem dX3_weaver_22 : decode cX3_weaver 22 = .ok (.ireturn, 1) := by decide +kernel
set_option maxRecDepth 20000 in
theorem ggX3_run_X3_checkWeaver : GoodIn wsX3_run wsX3_checkWeaver := goodIn_ca (goodIn_r _ [5, 6, 7, 4, 8, 9, 10] (by decide +kernel) (by decide +kernel)) (goodIn_sub (fun _ h => List.mem_cons_of_mem _ (List.mem_append_right _ h)) (by decide +kernel))
set_option maxRecDepth 20000 in
theorem gX3_run_X3_checkWeaver : GoodIn wsX3_run (va_wsS RX3 54 yX3_checkWeaver wsX3_checkWeaver) := goodIn_app (goodIn_of _ (by decide +kernel)) ggX3_run_X3_checkWeaver
set_option maxRecDepth 20000 in
theorem ggX3_run_X1_weaverAt : GoodIn wsX3_run wsX1_weaverAt := goodIn_r _ [15, 16, 17, 32, 33, 34, 35, 36] (by decide +kernel) (by decide +kernel)
set_option maxRecDepth 20000 in
theorem gX3_run_X1_weaverAt : GoodIn wsX3_run (wsV RX3 57 RX1 yX1_weaverAt wsX1_weaverAt) := goodIn_app (goodIn_of _ (by decide +kernel)) ggX3_run_X1_weaverAt
set_option maxRecDepth 20000 in
theorem ggX3_run_X3_checkIndex : GoodIn wsX3_run wsX3_checkIndex := goodIn_ca (goodIn_r _ [8, 9, 10] (by decide +kernel) (by decide +kernel)) (goodIn_sub (fun _ h => List.mem_cons_of_mem _ (List.mem_append_right _ h)) (by decide +kernel))
set_option maxRecDepth 20000 in
theorem gX3_run_X3_checkIndex : GoodIn wsX3_run (va_wsS RX3 93 yX3_checkIndex wsX3_checkIndex) := goodIn_app (goodIn_of _ (by decide +kernel)) ggX3_run_X3_checkIndex
set_option maxRecDepth 20000 in
theorem ggX3_run_X3_at : GoodIn wsX3_run wsX3_at := goodIn_r _ [20] (by decide +kernel) (by decide +kernel)
set_option maxRecDepth 20000 in
theorem gX3_run_X3_at : GoodIn wsX3_run (va_wsS RX3 116 yX3_at wsX3_at) := goodIn_app (goodIn_of _ (by decide +kernel)) ggX3_run_X3_at
theorem dX3_run_0 : decode cX3_run 0 = .ok (.iload_n 1, 1) := by decide +kernel
theorem dX3_run_1 : decode cX3_run 1 = .ok (.invokestatic 54, 3) := by decide +kernel
theorem dX3_run_4 : decode cX3_run 4 = .ok (.aload_n 0, 1) := by decide +kernel
theorem dX3_run_5 : decode cX3_run 5 = .ok (.getfield 10, 3) := by decide +kernel
theorem dX3_run_8 : decode cX3_run 8 = .ok (.iload_n 1, 1) := by decide +kernel
theorem dX3_run_9 : decode cX3_run 9 = .ok (.invokevirtual 57, 3) := by decide +kernel
theorem dX3_run_12 : decode cX3_run 12 = .ok (.astore 4, 2) := by decide +kernel
theorem dX3_run_14 : decode cX3_run 14 = .ok (.iload_n 2, 1) := by decide +kernel
theorem dX3_run_15 : decode cX3_run 15 = .ok (.aload 4, 2) := by decide +kernel
theorem dX3_run_17 : decode cX3_run 17 = .ok (.getfield 64, 3) := by decide +kernel
theorem dX3_run_20 : decode cX3_run 20 = .ok (.invokestatic 93, 3) := by decide +kernel
theorem dX3_run_23 : decode cX3_run 23 = .ok (.iload_n 3, 1) := by decide +kernel
theorem dX3_run_24 : decode cX3_run 24 = .ok (.iconst 2, 1) := by decide +kernel
theorem dX3_run_25 : decode cX3_run 25 = .ok (.invokestatic 93, 3) := by decide +kernel
theorem dX3_run_28 : decode cX3_run 28 = .ok (.iload_n 3, 1) := by decide +kernel
theorem dX3_run_29 : decode cX3_run 29 = .ok (.ifCond .ne 15, 3) := by decide +kernel
theorem dX3_run_32 : decode cX3_run 32 = .ok (.aload 4, 2) := by decide +kernel
theorem dX3_run_34 : decode cX3_run 34 = .ok (.getfield 112, 3) := by decide +kernel
theorem dX3_run_37 : decode cX3_run 37 = .ok (.iload_n 2, 1) := by decide +kernel
theorem dX3_run_38 : decode cX3_run 38 = .ok (.invokestatic 116, 3) := by decide +kernel
theorem dX3_run_41 : decode cX3_run 41 = .ok (.goto 12, 3) := by decide +kernel
theorem dX3_run_44 : decode cX3_run 44 = .ok (.aload 4, 2) := by decide +kernel
theorem dX3_run_46 : decode cX3_run 46 = .ok (.getfield 120, 3) := by decide +kernel
theorem dX3_run_49 : decode cX3_run 49 = .ok (.iload_n 2, 1) := by decide +kernel
theorem dX3_run_50 : decode cX3_run 50 = .ok (.invokestatic 116, 3) := by decide +kernel
theorem dX3_run_53 : decode cX3_run 53 = .ok (.ireturn, 1) := by decide +kernel
set_option maxRecDepth 20000 in
theorem ggX3_count_X3_checkIndex : GoodIn wsX3_count wsX3_checkIndex := goodIn_ca (goodIn_r _ [5, 6, 7] (by decide +kernel) (by decide +kernel)) (goodIn_sub (fun _ h => List.mem_cons_of_mem _ (List.mem_append_right _ h)) (by decide +kernel))
set_option maxRecDepth 20000 in
theorem gX3_count_X3_checkIndex : GoodIn wsX3_count (va_wsS RX3 93 yX3_checkIndex wsX3_checkIndex) := goodIn_app (goodIn_of _ (by decide +kernel)) ggX3_count_X3_checkIndex
set_option maxRecDepth 20000 in
theorem ggX3_count_X1_number : GoodIn wsX3_count wsX1_number := goodIn_r _ [12, 13, 14, 15, 16, 17, 18, 11, 19, 20, 21, 22, 23, 24, 25, 26, 27, 28, 29, 30, 31, 32, 33, 34, 4, 35, 36, 37, 38, 39, 40, 41, 42, 43, 44, 45, 46, 47, 48, 49, 50, 51, 52, 53, 54, 55, 56, 57, 58, 59, 60, 61, 62, 63, 66, 67, 68, 69, 70, 71, 72, 73, 74, 75, 76, 77, 78, 79, 80] (by decide +kernel) (by decide +kernel)
set_option maxRecDepth 20000 in
theorem gX3_count_X1_number : GoodIn wsX3_count (wsV RX3 123 RX1 yX1_number wsX1_number) := goodIn_app (goodIn_of _ (by decide +kernel)) ggX3_count_X1_number
theorem dX3_count_0 : decode cX3_count 0 = .ok (.iload_n 1, 1) := by decide +kernel
theorem dX3_count_1 : decode cX3_count 1 = .ok (.bipush 8, 2) := by decide +kernel
theorem dX3_count_3 : decode cX3_count 3 = .ok (.invokestatic 93, 3) := by decide +kernel
theorem dX3_count_6 : decode cX3_count 6 = .ok (.aload_n 0, 1) := by decide +kernel
theorem dX3_count_7 : decode cX3_count 7 = .ok (.getfield 10, 3) := by decide +kernel
theorem dX3_count_10 : decode cX3_count 10 = .ok (.iload_n 1, 1) := by decide +kernel
theorem dX3_count_11 : decode cX3_count 11 = .ok (.invokevirtual 123, 3) := by decide +kernel
theorem dX3_count_14 : decode cX3_count 14 = .ok (.ireturn, 1) := by decide +kernel
set_option maxRecDepth 20000 in
theorem ggX3_wool_X3_checkColour : GoodIn wsX3_wool wsX3_checkColour := goodIn_ca (goodIn_r _ [5, 6, 7, 4, 8, 9, 10] (by decide +kernel) (by decide +kernel)) (goodIn_sub (fun _ h => List.mem_cons_of_mem _ (List.mem_append_right _ h)) (by decide +kernel))
set_option maxRecDepth 20000 in
theorem gX3_wool_X3_checkColour : GoodIn wsX3_wool (va_wsS RX3 27 yX3_checkColour wsX3_checkColour) := goodIn_app (goodIn_of _ (by decide +kernel)) ggX3_wool_X3_checkColour
set_option maxRecDepth 20000 in
theorem ggX3_wool_X3_at : GoodIn wsX3_wool wsX3_at := goodIn_r _ [13] (by decide +kernel) (by decide +kernel)
set_option maxRecDepth 20000 in
theorem gX3_wool_X3_at : GoodIn wsX3_wool (va_wsS RX3 116 yX3_at wsX3_at) := goodIn_app (goodIn_of _ (by decide +kernel)) ggX3_wool_X3_at
theorem dX3_wool_0 : decode cX3_wool 0 = .ok (.iload_n 1, 1) := by decide +kernel
theorem dX3_wool_1 : decode cX3_wool 1 = .ok (.invokestatic 27, 3) := by decide +kernel
theorem dX3_wool_4 : decode cX3_wool 4 = .ok (.aload_n 0, 1) := by decide +kernel
theorem dX3_wool_5 : decode cX3_wool 5 = .ok (.getfield 10, 3) := by decide +kernel
theorem dX3_wool_8 : decode cX3_wool 8 = .ok (.getfield 45, 3) := by decide +kernel
theorem dX3_wool_11 : decode cX3_wool 11 = .ok (.getfield 124, 3) := by decide +kernel
theorem dX3_wool_14 : decode cX3_wool 14 = .ok (.iload_n 1, 1) := by decide +kernel
theorem dX3_wool_15 : decode cX3_wool 15 = .ok (.invokestatic 116, 3) := by decide +kernel
theorem dX3_wool_18 : decode cX3_wool 18 = .ok (.ireturn, 1) := by decide +kernel
set_option maxRecDepth 20000 in
theorem ggX3_advise_X3_checkWeaver : GoodIn wsX3_advise wsX3_checkWeaver := goodIn_ca (goodIn_r _ [5, 6, 7, 4, 8, 9, 10] (by decide +kernel) (by decide +kernel)) (goodIn_sub (fun _ h => List.mem_cons_of_mem _ (List.mem_append_right _ h)) (by decide +kernel))
set_option maxRecDepth 20000 in
theorem gX3_advise_X3_checkWeaver : GoodIn wsX3_advise (va_wsS RX3 54 yX3_checkWeaver wsX3_checkWeaver) := goodIn_app (goodIn_of _ (by decide +kernel)) ggX3_advise_X3_checkWeaver
set_option maxRecDepth 20000 in
theorem ggX3_advise_X1_weaverAt : GoodIn wsX3_advise wsX1_weaverAt := goodIn_r _ [15, 16, 17, 43, 44, 45, 46, 47] (by decide +kernel) (by decide +kernel)
set_option maxRecDepth 20000 in
theorem gX3_advise_X1_weaverAt : GoodIn wsX3_advise (wsV RX3 57 RX1 yX1_weaverAt wsX1_weaverAt) := goodIn_app (goodIn_of _ (by decide +kernel)) ggX3_advise_X1_weaverAt
set_option maxRecDepth 20000 in
theorem ggX3_advise_X2_isHalfDone : GoodIn wsX3_advise wsX2_isHalfDone := goodIn_r _ [22, 23, 34, 35, 36, 37, 38, 39, 40, 41, 42] (by decide +kernel) (by decide +kernel)
set_option maxRecDepth 20000 in
theorem gX3_advise_X2_isHalfDone : GoodIn wsX3_advise (wsV RX3 127 RX2 yX2_isHalfDone wsX2_isHalfDone) := goodIn_app (goodIn_of _ (by decide +kernel)) ggX3_advise_X2_isHalfDone
set_option maxRecDepth 20000 in
theorem ggX3_advise_X3_at : GoodIn wsX3_advise wsX3_at := goodIn_r _ [26] (by decide +kernel) (by decide +kernel)
set_option maxRecDepth 20000 in
theorem gX3_advise_X3_at : GoodIn wsX3_advise (va_wsS RX3 116 yX3_at wsX3_at) := goodIn_app (goodIn_of _ (by decide +kernel)) ggX3_advise_X3_at
set_option maxRecDepth 20000 in
theorem ggX3_advise_X2_alikeAhead : GoodIn wsX3_advise wsX2_alikeAhead := goodIn_r _ [30, 23, 31, 25, 4, 26, 34, 35, 36, 37, 38, 39, 40, 41, 42] (by decide +kernel) (by decide +kernel)
set_option maxRecDepth 20000 in
theorem gX3_advise_X2_alikeAhead : GoodIn wsX3_advise (wsV RX3 134 RX2 yX2_alikeAhead wsX2_alikeAhead) := goodIn_app (goodIn_of _ (by decide +kernel)) ggX3_advise_X2_alikeAhead
theorem dX3_advise_0 : decode cX3_advise 0 = .ok (.iload_n 1, 1) := by decide +kernel
theorem dX3_advise_1 : decode cX3_advise 1 = .ok (.invokestatic 54, 3) := by decide +kernel
theorem dX3_advise_4 : decode cX3_advise 4 = .ok (.aload_n 0, 1) := by decide +kernel
theorem dX3_advise_5 : decode cX3_advise 5 = .ok (.getfield 10, 3) := by decide +kernel
theorem dX3_advise_8 : decode cX3_advise 8 = .ok (.iload_n 1, 1) := by decide +kernel
theorem dX3_advise_9 : decode cX3_advise 9 = .ok (.invokevirtual 57, 3) := by decide +kernel
theorem dX3_advise_12 : decode cX3_advise 12 = .ok (.astore_n 2, 1) := by decide +kernel
theorem dX3_advise_13 : decode cX3_advise 13 = .ok (.aload_n 2, 1) := by decide +kernel
theorem dX3_advise_14 : decode cX3_advise 14 = .ok (.invokevirtual 127, 3) := by decide +kernel
theorem dX3_advise_17 : decode cX3_advise 17 = .ok (.ifCond .eq 5, 3) := by decide +kernel
theorem dX3_advise_20 : decode cX3_advise 20 = .ok (.iconst (-1), 1) := by decide +kernel
theorem dX3_advise_21 : decode cX3_advise 21 = .ok (.ireturn, 1) := by decide +kernel
theorem dX3_advise_22 : decode cX3_advise 22 = .ok (.bipush 100, 2) := by decide +kernel
theorem dX3_advise_24 : decode cX3_advise 24 = .ok (.aload_n 2, 1) := by decide +kernel
theorem dX3_advise_25 : decode cX3_advise 25 = .ok (.getfield 131, 3) := by decide +kernel
theorem dX3_advise_28 : decode cX3_advise 28 = .ok (.aload_n 2, 1) := by decide +kernel
theorem dX3_advise_29 : decode cX3_advise 29 = .ok (.getfield 81, 3) := by decide +kernel
theorem dX3_advise_32 : decode cX3_advise 32 = .ok (.invokestatic 116, 3) := by decide +kernel
theorem dX3_advise_35 : decode cX3_advise 35 = .ok (.imul, 1) := by decide +kernel
theorem dX3_advise_36 : decode cX3_advise 36 = .ok (.aload_n 2, 1) := by decide +kernel
theorem dX3_advise_37 : decode cX3_advise 37 = .ok (.invokevirtual 134, 3) := by decide +kernel
theorem dX3_advise_40 : decode cX3_advise 40 = .ok (.iadd, 1) := by decide +kernel
theorem dX3_advise_41 : decode cX3_advise 41 = .ok (.ireturn, 1) := by decide +kernel
set_option maxRecDepth 20000 in
theorem ggX3_runs_X3_checkWeaver : GoodIn wsX3_runs wsX3_checkWeaver := goodIn_ca (goodIn_r _ [5, 6, 7, 4, 8, 9, 10] (by decide +kernel) (by decide +kernel)) (goodIn_sub (fun _ h => List.mem_cons_of_mem _ (List.mem_append_right _ h)) (by decide +kernel))
set_option maxRecDepth 20000 in
theorem gX3_runs_X3_checkWeaver : GoodIn wsX3_runs (va_wsS RX3 54 yX3_checkWeaver wsX3_checkWeaver) := goodIn_app (goodIn_of _ (by decide +kernel)) ggX3_runs_X3_checkWeaver
set_option maxRecDepth 20000 in
theorem ggX3_runs_X1_weaverAt : GoodIn wsX3_runs wsX1_weaverAt := goodIn_r _ [15, 16, 17, 33, 34, 35, 36, 37] (by decide +kernel) (by decide +kernel)
set_option maxRecDepth 20000 in
theorem gX3_runs_X1_weaverAt : GoodIn wsX3_runs (wsV RX3 57 RX1 yX1_weaverAt wsX1_weaverAt) := goodIn_app (goodIn_of _ (by decide +kernel)) ggX3_runs_X1_weaverAt
set_option maxRecDepth 20000 in
theorem ggX3_runs_X2_fewestRuns : GoodIn wsX3_runs wsX2_fewestRuns := goodIn_r _ [22, 23, 24, 25, 26, 27, 21, 28, 29, 4, 30, 38, 39, 40, 41, 42, 43, 44, 45, 46] (by decide +kernel) (by decide +kernel)
set_option maxRecDepth 20000 in
theorem gX3_runs_X2_fewestRuns : GoodIn wsX3_runs (wsV RX3 137 RX2 yX2_fewestRuns wsX2_fewestRuns) := goodIn_app (goodIn_of _ (by decide +kernel)) ggX3_runs_X2_fewestRuns
theorem dX3_runs_0 : decode cX3_runs 0 = .ok (.iload_n 1, 1) := by decide +kernel
theorem dX3_runs_1 : decode cX3_runs 1 = .ok (.invokestatic 54, 3) := by decide +kernel
theorem dX3_runs_4 : decode cX3_runs 4 = .ok (.aload_n 0, 1) := by decide +kernel
theorem dX3_runs_5 : decode cX3_runs 5 = .ok (.getfield 10, 3) := by decide +kernel
theorem dX3_runs_8 : decode cX3_runs 8 = .ok (.iload_n 1, 1) := by decide +kernel
theorem dX3_runs_9 : decode cX3_runs 9 = .ok (.invokevirtual 57, 3) := by decide +kernel
theorem dX3_runs_12 : decode cX3_runs 12 = .ok (.invokevirtual 137, 3) := by decide +kernel
theorem dX3_runs_15 : decode cX3_runs 15 = .ok (.ireturn, 1) := by decide +kernel
set_option maxRecDepth 20000 in
theorem ggX3_mends_X3_checkWeaver : GoodIn wsX3_mends wsX3_checkWeaver := goodIn_ca (goodIn_r _ [5, 6, 7, 4, 8, 9, 10] (by decide +kernel) (by decide +kernel)) (goodIn_sub (fun _ h => List.mem_cons_of_mem _ (List.mem_append_right _ h)) (by decide +kernel))
set_option maxRecDepth 20000 in
theorem gX3_mends_X3_checkWeaver : GoodIn wsX3_mends (va_wsS RX3 54 yX3_checkWeaver wsX3_checkWeaver) := goodIn_app (goodIn_of _ (by decide +kernel)) ggX3_mends_X3_checkWeaver
set_option maxRecDepth 20000 in
theorem ggX3_mends_X1_weaverAt : GoodIn wsX3_mends wsX1_weaverAt := goodIn_r _ [15, 16, 17, 39, 40, 41, 42, 43] (by decide +kernel) (by decide +kernel)
set_option maxRecDepth 20000 in
theorem gX3_mends_X1_weaverAt : GoodIn wsX3_mends (wsV RX3 57 RX1 yX1_weaverAt wsX1_weaverAt) := goodIn_app (goodIn_of _ (by decide +kernel)) ggX3_mends_X1_weaverAt
set_option maxRecDepth 20000 in
theorem ggX3_mends_X2_firstOffPlan : GoodIn wsX3_mends wsX2_firstOffPlan := goodIn_r _ [22, 23, 24, 25, 26, 4, 27, 30, 31, 32, 33, 34, 35, 36, 37, 38] (by decide +kernel) (by decide +kernel)
set_option maxRecDepth 20000 in
theorem gX3_mends_X2_firstOffPlan : GoodIn wsX3_mends (wsV RX3 140 RX2 yX2_firstOffPlan wsX2_firstOffPlan) := goodIn_app (goodIn_of _ (by decide +kernel)) ggX3_mends_X2_firstOffPlan
theorem dX3_mends_0 : decode cX3_mends 0 = .ok (.iload_n 1, 1) := by decide +kernel
theorem dX3_mends_1 : decode cX3_mends 1 = .ok (.invokestatic 54, 3) := by decide +kernel
theorem dX3_mends_4 : decode cX3_mends 4 = .ok (.aload_n 0, 1) := by decide +kernel
theorem dX3_mends_5 : decode cX3_mends 5 = .ok (.getfield 10, 3) := by decide +kernel
theorem dX3_mends_8 : decode cX3_mends 8 = .ok (.iload_n 1, 1) := by decide +kernel
theorem dX3_mends_9 : decode cX3_mends 9 = .ok (.invokevirtual 57, 3) := by decide +kernel
theorem dX3_mends_12 : decode cX3_mends 12 = .ok (.astore_n 2, 1) := by decide +kernel
theorem dX3_mends_13 : decode cX3_mends 13 = .ok (.aload_n 2, 1) := by decide +kernel
theorem dX3_mends_14 : decode cX3_mends 14 = .ok (.getfield 81, 3) := by decide +kernel
theorem dX3_mends_17 : decode cX3_mends 17 = .ok (.aload_n 2, 1) := by decide +kernel
theorem dX3_mends_18 : decode cX3_mends 18 = .ok (.invokevirtual 140, 3) := by decide +kernel
theorem dX3_mends_21 : decode cX3_mends 21 = .ok (.isub, 1) := by decide +kernel
theorem dX3_mends_22 : decode cX3_mends 22 = .ok (.ireturn, 1) := by decide +kernel
set_option maxRecDepth 20000 in
theorem ggX3_pass_X3_checkRange : GoodIn wsX3_pass wsX3_checkRange := goodIn_ca (goodIn_r _ [5, 6, 7] (by decide +kernel) (by decide +kernel)) (goodIn_sub (fun _ h => List.mem_cons_of_mem _ (List.mem_append_right _ h)) (by decide +kernel))
set_option maxRecDepth 20000 in
theorem gX3_pass_X3_checkRange : GoodIn wsX3_pass (va_wsS RX3 23 yX3_checkRange wsX3_checkRange) := goodIn_app (goodIn_of _ (by decide +kernel)) ggX3_pass_X3_checkRange
set_option maxRecDepth 20000 in
theorem ggX3_pass_X1_letGoBy : GoodIn wsX3_pass wsX1_letGoBy := goodIn_r _ [12, 13, 14, 15, 16, 17, 18, 19, 20, 21, 22, 23, 24, 25, 26, 27, 28, 29, 30, 31, 32, 33, 34, 35, 36, 37, 38, 39, 40, 4, 41, 42, 43, 44, 45, 46, 47, 48, 49, 50, 51, 52, 53, 54, 57, 58, 59, 60, 61, 62, 63, 64, 65, 66, 67, 68, 69, 70, 71] (by decide +kernel) (by decide +kernel)
set_option maxRecDepth 20000 in
theorem gX3_pass_X1_letGoBy : GoodIn wsX3_pass (wsV RX3 143 RX1 yX1_letGoBy wsX1_letGoBy) := goodIn_app (goodIn_of _ (by decide +kernel)) ggX3_pass_X1_letGoBy
theorem dX3_pass_0 : decode cX3_pass 0 = .ok (.iload_n 1, 1) := by decide +kernel
theorem dX3_pass_1 : decode cX3_pass 1 = .ok (.iconst 1, 1) := by decide +kernel
theorem dX3_pass_2 : decode cX3_pass 2 = .ok (.bipush 60, 2) := by decide +kernel
theorem dX3_pass_4 : decode cX3_pass 4 = .ok (.invokestatic 23, 3) := by decide +kernel
theorem dX3_pass_7 : decode cX3_pass 7 = .ok (.aload_n 0, 1) := by decide +kernel
theorem dX3_pass_8 : decode cX3_pass 8 = .ok (.getfield 10, 3) := by decide +kernel
theorem dX3_pass_11 : decode cX3_pass 11 = .ok (.iload_n 1, 1) := by decide +kernel
theorem dX3_pass_12 : decode cX3_pass 12 = .ok (.invokevirtual 143, 3) := by decide +kernel
theorem dX3_pass_15 : decode cX3_pass 15 = .ok (.ireturn, 1) := by decide +kernel
set_option maxRecDepth 20000 in
theorem ggX3_done_X3_checkWeaver : GoodIn wsX3_done wsX3_checkWeaver := goodIn_ca (goodIn_r _ [6, 7, 8, 5, 9, 10, 11] (by decide +kernel) (by decide +kernel)) (goodIn_sub (fun _ h => List.mem_cons_of_mem _ (List.mem_append_right _ h)) (by decide +kernel))
set_option maxRecDepth 20000 in
theorem gX3_done_X3_checkWeaver : GoodIn wsX3_done (va_wsS RX3 54 yX3_checkWeaver wsX3_checkWeaver) := goodIn_app (goodIn_of _ (by decide +kernel)) ggX3_done_X3_checkWeaver
set_option maxRecDepth 20000 in
theorem ggX3_done_X1_becomeLike : GoodIn wsX3_done wsX1_becomeLike := goodIn_r _ [16, 17, 18, 19, 20, 21, 22, 23, 24, 25, 26, 27, 28, 29, 30, 31, 32, 33, 34, 35, 5, 36, 78, 79, 80, 81, 82, 83, 84, 85, 86, 87, 88, 89, 90, 91, 92] (by decide +kernel) (by decide +kernel)
set_option maxRecDepth 20000 in
theorem gX3_done_X1_becomeLike : GoodIn wsX3_done (wsV RX3 146 RX1 yX1_becomeLike wsX1_becomeLike) := goodIn_app (goodIn_of _ (by decide +kernel)) ggX3_done_X1_becomeLike
set_option maxRecDepth 20000 in
theorem ggX3_done_X1_weaverAt : GoodIn wsX3_done wsX1_weaverAt := goodIn_r _ [40, 17, 18, 78, 79, 80, 81, 82] (by decide +kernel) (by decide +kernel)
set_option maxRecDepth 20000 in
theorem gX3_done_X1_weaverAt : GoodIn wsX3_done (wsV RX3 57 RX1 yX1_weaverAt wsX1_weaverAt) := goodIn_app (goodIn_of _ (by decide +kernel)) ggX3_done_X1_weaverAt
set_option maxRecDepth 20000 in
theorem ggX3_done_X2_hasWork : GoodIn wsX3_done wsX2_hasWork := goodIn_r _ [44, 32, 45, 46, 47, 25, 48, 33, 84, 85, 86, 87, 88, 89, 90, 91, 92] (by decide +kernel) (by decide +kernel)
set_option maxRecDepth 20000 in
theorem gX3_done_X2_hasWork : GoodIn wsX3_done (wsV RX3 150 RX2 yX2_hasWork wsX2_hasWork) := goodIn_app (goodIn_of _ (by decide +kernel)) ggX3_done_X2_hasWork
set_option maxRecDepth 20000 in
theorem ggX3_done_X1_letGoBy : GoodIn wsX3_done wsX1_letGoBy := goodIn_r _ [52, 17, 19, 18, 20, 53, 54, 55, 25, 56, 31, 57, 42, 43, 44, 32, 45, 46, 47, 48, 33, 58, 59, 60, 61, 29, 28, 34, 62, 5, 63, 64, 65, 66, 67, 68, 69, 70, 71, 72, 73, 74, 75, 30, 78, 79, 80, 81, 82, 84, 85, 86, 87, 88, 89, 90, 91, 92, 83] (by decide +kernel) (by decide +kernel)
set_option maxRecDepth 20000 in
theorem gX3_done_X1_letGoBy : GoodIn wsX3_done (wsV RX3 143 RX1 yX1_letGoBy wsX1_letGoBy) := goodIn_app (goodIn_of _ (by decide +kernel)) ggX3_done_X1_letGoBy
theorem dX3_done_0 : decode cX3_done 0 = .ok (.iload_n 1, 1) := by decide +kernel
theorem dX3_done_1 : decode cX3_done 1 = .ok (.invokestatic 54, 3) := by decide +kernel
theorem dX3_done_4 : decode cX3_done 4 = .ok (.aload_n 0, 1) := by decide +kernel
theorem dX3_done_5 : decode cX3_done 5 = .ok (.getfield 16, 3) := by decide +kernel
theorem dX3_done_8 : decode cX3_done 8 = .ok (.aload_n 0, 1) := by decide +kernel
theorem dX3_done_9 : decode cX3_done 9 = .ok (.getfield 10, 3) := by decide +kernel
theorem dX3_done_12 : decode cX3_done 12 = .ok (.invokevirtual 146, 3) := by decide +kernel
theorem dX3_done_15 : decode cX3_done 15 = .ok (.aload_n 0, 1) := by decide +kernel
theorem dX3_done_16 : decode cX3_done 16 = .ok (.getfield 16, 3) := by decide +kernel
theorem dX3_done_19 : decode cX3_done 19 = .ok (.iload_n 1, 1) := by decide +kernel
theorem dX3_done_20 : decode cX3_done 20 = .ok (.invokevirtual 57, 3) := by decide +kernel
theorem dX3_done_23 : decode cX3_done 23 = .ok (.astore_n 2, 1) := by decide +kernel
theorem dX3_done_24 : decode cX3_done 24 = .ok (.iconst 0, 1) := by decide +kernel
theorem dX3_done_25 : decode cX3_done 25 = .ok (.istore_n 3, 1) := by decide +kernel
theorem dX3_done_26 : decode cX3_done 26 = .ok (.iload_n 3, 1) := by decide +kernel
theorem dX3_done_27 : decode cX3_done 27 = .ok (.bipush 100, 2) := by decide +kernel
theorem dX3_done_29 : decode cX3_done 29 = .ok (.if_icmp .gt 27, 3) := by decide +kernel
theorem dX3_done_32 : decode cX3_done 32 = .ok (.aload_n 2, 1) := by decide +kernel
theorem dX3_done_33 : decode cX3_done 33 = .ok (.invokevirtual 150, 3) := by decide +kernel
theorem dX3_done_36 : decode cX3_done 36 = .ok (.ifCond .ne 5, 3) := by decide +kernel
theorem dX3_done_39 : decode cX3_done 39 = .ok (.iload_n 3, 1) := by decide +kernel
theorem dX3_done_40 : decode cX3_done 40 = .ok (.ireturn, 1) := by decide +kernel
theorem dX3_done_41 : decode cX3_done 41 = .ok (.aload_n 0, 1) := by decide +kernel
theorem dX3_done_42 : decode cX3_done 42 = .ok (.getfield 16, 3) := by decide +kernel
theorem dX3_done_45 : decode cX3_done 45 = .ok (.iconst 1, 1) := by decide +kernel
theorem dX3_done_46 : decode cX3_done 46 = .ok (.invokevirtual 143, 3) := by decide +kernel
theorem dX3_done_49 : decode cX3_done 49 = .ok (.pop, 1) := by decide +kernel
theorem dX3_done_50 : decode cX3_done 50 = .ok (.iinc 3 1, 3) := by decide +kernel
theorem dX3_done_53 : decode cX3_done 53 = .ok (.goto (-27), 3) := by decide +kernel
theorem dX3_done_56 : decode cX3_done 56 = .ok (.iconst (-1), 1) := by decide +kernel
theorem dX3_done_57 : decode cX3_done 57 = .ok (.ireturn, 1) := by decide +kernel
set_option maxRecDepth 20000 in
theorem ggX3_foresee_X3_checkRange : GoodIn wsX3_foresee wsX3_checkRange := goodIn_ca (goodIn_r _ [6, 7, 8] (by decide +kernel) (by decide +kernel)) (goodIn_sub (fun _ h => List.mem_cons_of_mem _ (List.mem_append_left _ (List.mem_append_right _ h))) (by decide +kernel))
set_option maxRecDepth 20000 in
theorem gX3_foresee_X3_checkRange : GoodIn wsX3_foresee (va_wsS RX3 23 yX3_checkRange wsX3_checkRange) := goodIn_app (goodIn_of _ (by decide +kernel)) ggX3_foresee_X3_checkRange
set_option maxRecDepth 20000 in
theorem ggX3_foresee_X3_checkIndex : GoodIn wsX3_foresee wsX3_checkIndex := goodIn_ca (goodIn_r _ [11, 12, 13] (by decide +kernel) (by decide +kernel)) (goodIn_sub (fun _ h => List.mem_cons_of_mem _ (List.mem_append_right _ h)) (by decide +kernel))
set_option maxRecDepth 20000 in
theorem gX3_foresee_X3_checkIndex : GoodIn wsX3_foresee (va_wsS RX3 93 yX3_checkIndex wsX3_checkIndex) := goodIn_app (goodIn_of _ (by decide +kernel)) ggX3_foresee_X3_checkIndex
set_option maxRecDepth 20000 in
theorem ggX3_foresee_X1_becomeLike : GoodIn wsX3_foresee wsX1_becomeLike := goodIn_r _ [18, 19, 20, 21, 22, 23, 24, 25, 26, 27, 28, 29, 30, 31, 32, 33, 34, 35, 36, 37, 5, 38, 105, 106, 107, 108, 109, 110, 111, 112, 113, 114, 115, 116, 117, 118, 119] (by decide +kernel) (by decide +kernel)
set_option maxRecDepth 20000 in
theorem gX3_foresee_X1_becomeLike : GoodIn wsX3_foresee (wsV RX3 146 RX1 yX1_becomeLike wsX1_becomeLike) := goodIn_app (goodIn_of _ (by decide +kernel)) ggX3_foresee_X1_becomeLike
set_option maxRecDepth 20000 in
theorem ggX3_foresee_X1_letGoBy : GoodIn wsX3_foresee wsX1_letGoBy := goodIn_r _ [42, 19, 21, 20, 22, 43, 44, 45, 27, 46, 33, 47, 48, 49, 50, 34, 51, 52, 53, 54, 35, 55, 56, 57, 58, 31, 30, 36, 59, 5, 60, 61, 62, 63, 64, 65, 66, 67, 68, 69, 70, 71, 72, 32, 105, 106, 107, 108, 109, 111, 112, 113, 114, 115, 116, 117, 118, 119, 110] (by decide +kernel) (by decide +kernel)
set_option maxRecDepth 20000 in
theorem gX3_foresee_X1_letGoBy : GoodIn wsX3_foresee (wsV RX3 143 RX1 yX1_letGoBy wsX1_letGoBy) := goodIn_app (goodIn_of _ (by decide +kernel)) ggX3_foresee_X1_letGoBy
set_option maxRecDepth 20000 in
theorem ggX3_foresee_X1_knots : GoodIn wsX3_foresee wsX1_knots := goodIn_r _ [76, 19, 20, 105, 106, 107, 108, 109, 111, 112, 113, 114, 115, 116, 117, 118, 119] (by decide +kernel) (by decide +kernel)
set_option maxRecDepth 20000 in
theorem gX3_foresee_X1_knots : GoodIn wsX3_foresee (wsV RX3 153 RX1 yX1_knots wsX1_knots) := goodIn_app (goodIn_of _ (by decide +kernel)) ggX3_foresee_X1_knots
set_option maxRecDepth 20000 in
theorem ggX3_foresee_X1_offPlan : GoodIn wsX3_foresee wsX1_offPlan := goodIn_r _ [80, 19, 20, 81, 82, 83, 27, 84, 35, 30, 29, 59, 5, 60, 105, 106, 107, 108, 109, 111, 112, 113, 114, 115, 116, 117, 118, 119] (by decide +kernel) (by decide +kernel)
set_option maxRecDepth 20000 in
theorem gX3_foresee_X1_offPlan : GoodIn wsX3_foresee (wsV RX3 156 RX1 yX1_offPlan wsX1_offPlan) := goodIn_app (goodIn_of _ (by decide +kernel)) ggX3_foresee_X1_offPlan
set_option maxRecDepth 20000 in
theorem ggX3_foresee_X1_tornRows : GoodIn wsX3_foresee wsX1_tornRows := goodIn_r _ [88, 19, 20, 89, 90, 91, 17, 92, 93, 94, 95, 96, 97, 98, 99, 27, 100, 35, 101, 5, 102, 59, 60, 105, 106, 107, 108, 109, 111, 112, 113, 114, 115, 116, 117, 118, 119] (by decide +kernel) (by decide +kernel)
set_option maxRecDepth 20000 in
theorem gX3_foresee_X1_tornRows : GoodIn wsX3_foresee (wsV RX3 159 RX1 yX1_tornRows wsX1_tornRows) := goodIn_app (goodIn_of _ (by decide +kernel)) ggX3_foresee_X1_tornRows
theorem dX3_foresee_0 : decode cX3_foresee 0 = .ok (.iload_n 1, 1) := by decide +kernel
theorem dX3_foresee_1 : decode cX3_foresee 1 = .ok (.iconst 1, 1) := by decide +kernel
theorem dX3_foresee_2 : decode cX3_foresee 2 = .ok (.bipush 60, 2) := by decide +kernel
theorem dX3_foresee_4 : decode cX3_foresee 4 = .ok (.invokestatic 23, 3) := by decide +kernel
theorem dX3_foresee_7 : decode cX3_foresee 7 = .ok (.iload_n 2, 1) := by decide +kernel
theorem dX3_foresee_8 : decode cX3_foresee 8 = .ok (.iconst 3, 1) := by decide +kernel
theorem dX3_foresee_9 : decode cX3_foresee 9 = .ok (.invokestatic 93, 3) := by decide +kernel
theorem dX3_foresee_12 : decode cX3_foresee 12 = .ok (.aload_n 0, 1) := by decide +kernel
theorem dX3_foresee_13 : decode cX3_foresee 13 = .ok (.getfield 16, 3) := by decide +kernel
theorem dX3_foresee_16 : decode cX3_foresee 16 = .ok (.aload_n 0, 1) := by decide +kernel
theorem dX3_foresee_17 : decode cX3_foresee 17 = .ok (.getfield 10, 3) := by decide +kernel
theorem dX3_foresee_20 : decode cX3_foresee 20 = .ok (.invokevirtual 146, 3) := by decide +kernel
theorem dX3_foresee_23 : decode cX3_foresee 23 = .ok (.aload_n 0, 1) := by decide +kernel
theorem dX3_foresee_24 : decode cX3_foresee 24 = .ok (.getfield 16, 3) := by decide +kernel
theorem dX3_foresee_27 : decode cX3_foresee 27 = .ok (.iload_n 1, 1) := by decide +kernel
theorem dX3_foresee_28 : decode cX3_foresee 28 = .ok (.invokevirtual 143, 3) := by decide +kernel
theorem dX3_foresee_31 : decode cX3_foresee 31 = .ok (.pop, 1) := by decide +kernel
theorem dX3_foresee_32 : decode cX3_foresee 32 = .ok (.iload_n 2, 1) := by decide +kernel
theorem dX3_foresee_33 : decode cX3_foresee 33 = .ok (.ifCond .ne 11, 3) := by decide +kernel
theorem dX3_foresee_36 : decode cX3_foresee 36 = .ok (.aload_n 0, 1) := by decide +kernel
theorem dX3_foresee_37 : decode cX3_foresee 37 = .ok (.getfield 16, 3) := by decide +kernel
theorem dX3_foresee_40 : decode cX3_foresee 40 = .ok (.invokevirtual 153, 3) := by decide +kernel
theorem dX3_foresee_43 : decode cX3_foresee 43 = .ok (.ireturn, 1) := by decide +kernel
theorem dX3_foresee_44 : decode cX3_foresee 44 = .ok (.iload_n 2, 1) := by decide +kernel
theorem dX3_foresee_45 : decode cX3_foresee 45 = .ok (.iconst 1, 1) := by decide +kernel
theorem dX3_foresee_46 : decode cX3_foresee 46 = .ok (.if_icmp .ne 13, 3) := by decide +kernel
theorem dX3_foresee_49 : decode cX3_foresee 49 = .ok (.aload_n 0, 1) := by decide +kernel
theorem dX3_foresee_50 : decode cX3_foresee 50 = .ok (.getfield 16, 3) := by decide +kernel
theorem dX3_foresee_53 : decode cX3_foresee 53 = .ok (.invokevirtual 156, 3) := by decide +kernel
theorem dX3_foresee_56 : decode cX3_foresee 56 = .ok (.goto 10, 3) := by decide +kernel
theorem dX3_foresee_59 : decode cX3_foresee 59 = .ok (.aload_n 0, 1) := by decide +kernel
theorem dX3_foresee_60 : decode cX3_foresee 60 = .ok (.getfield 16, 3) := by decide +kernel
theorem dX3_foresee_63 : decode cX3_foresee 63 = .ok (.invokevirtual 159, 3) := by decide +kernel
theorem dX3_foresee_66 : decode cX3_foresee 66 = .ok (.ireturn, 1) := by decide +kernel
set_option maxRecDepth 20000 in
theorem ggX3_share_X1_knots : GoodIn wsX3_share wsX1_knots := goodIn_r _ [6, 7, 8, 26, 27, 28, 29, 30, 31, 32, 33, 34, 35, 36, 37, 38, 39] (by decide +kernel) (by decide +kernel)
set_option maxRecDepth 20000 in
theorem gX3_share_X1_knots : GoodIn wsX3_share (wsV RX3 153 RX1 yX1_knots wsX1_knots) := goodIn_app (goodIn_of _ (by decide +kernel)) ggX3_share_X1_knots
set_option maxRecDepth 20000 in
theorem ggX3_share_X1_offPlan : GoodIn wsX3_share wsX1_offPlan := goodIn_r _ [12, 7, 8, 13, 14, 15, 16, 17, 18, 19, 20, 21, 22, 23, 26, 27, 28, 29, 30, 31, 32, 33, 34, 35, 36, 37, 38, 39] (by decide +kernel) (by decide +kernel)
set_option maxRecDepth 20000 in
theorem gX3_share_X1_offPlan : GoodIn wsX3_share (wsV RX3 156 RX1 yX1_offPlan wsX1_offPlan) := goodIn_app (goodIn_of _ (by decide +kernel)) ggX3_share_X1_offPlan
theorem dX3_share_0 : decode cX3_share 0 = .ok (.aload_n 0, 1) := by decide +kernel
theorem dX3_share_1 : decode cX3_share 1 = .ok (.getfield 10, 3) := by decide +kernel
theorem dX3_share_4 : decode cX3_share 4 = .ok (.invokevirtual 153, 3) := by decide +kernel
theorem dX3_share_7 : decode cX3_share 7 = .ok (.istore_n 1, 1) := by decide +kernel
theorem dX3_share_8 : decode cX3_share 8 = .ok (.iload_n 1, 1) := by decide +kernel
theorem dX3_share_9 : decode cX3_share 9 = .ok (.ifCond .gt 5, 3) := by decide +kernel
theorem dX3_share_12 : decode cX3_share 12 = .ok (.dconst 0, 1) := by decide +kernel
theorem dX3_share_13 : decode cX3_share 13 = .ok (.dreturn, 1) := by decide +kernel
theorem dX3_share_14 : decode cX3_share 14 = .ok (.iload_n 1, 1) := by decide +kernel
theorem dX3_share_15 : decode cX3_share 15 = .ok (.aload_n 0, 1) := by decide +kernel
theorem dX3_share_16 : decode cX3_share 16 = .ok (.getfield 10, 3) := by decide +kernel
theorem dX3_share_19 : decode cX3_share 19 = .ok (.invokevirtual 156, 3) := by decide +kernel
theorem dX3_share_22 : decode cX3_share 22 = .ok (.isub, 1) := by decide +kernel
theorem dX3_share_23 : decode cX3_share 23 = .ok (.i2d, 1) := by decide +kernel
theorem dX3_share_24 : decode cX3_share 24 = .ok (.iload_n 1, 1) := by decide +kernel
theorem dX3_share_25 : decode cX3_share 25 = .ok (.i2d, 1) := by decide +kernel
theorem dX3_share_26 : decode cX3_share 26 = .ok (.ddiv, 1) := by decide +kernel
theorem dX3_share_27 : decode cX3_share 27 = .ok (.dreturn, 1) := by decide +kernel
set_option maxRecDepth 20000 in
theorem ggX3_digest_X1_number : GoodIn wsX3_digest wsX1_number := goodIn_r _ [7, 8, 9, 10, 11, 12, 13, 6, 14, 15, 16, 17, 18, 19, 20, 21, 22, 23, 24, 25, 26, 27, 28, 29, 30, 31, 32, 33, 34, 35, 36, 37, 38, 39, 40, 41, 42, 43, 44, 45, 46, 47, 48, 49, 50, 51, 52, 53, 54, 55, 56, 57, 58, 59, 116, 117, 118, 119, 120, 122, 123, 124, 125, 126, 127, 128, 129, 130, 121] (by decide +kernel) (by decide +kernel)
set_option maxRecDepth 20000 in
theorem gX3_digest_X1_number : GoodIn wsX3_digest (wsV RX3 123 RX1 yX1_number wsX1_number) := goodIn_app (goodIn_of _ (by decide +kernel)) ggX3_digest_X1_number
set_option maxRecDepth 20000 in
theorem ggX3_digest_X3_mix : GoodIn wsX3_digest wsX3_mix := goodIn_r _ [62, 63] (by decide +kernel) (by decide +kernel)
set_option maxRecDepth 20000 in
theorem gX3_digest_X3_mix : GoodIn wsX3_digest (va_wsS RX3 164 yX3_mix wsX3_mix) := goodIn_app (goodIn_of _ (by decide +kernel)) ggX3_digest_X3_mix
set_option maxRecDepth 20000 in
theorem ggX3_digest_X1_knotAt : GoodIn wsX3_digest wsX1_knotAt := goodIn_r _ [67, 68, 69, 70, 6, 71, 72, 30, 73, 74, 75, 76, 77, 15, 16, 48, 49, 78, 79, 80, 24, 81, 26, 27, 29, 31, 116, 117, 118, 119, 120, 122, 123, 124, 125, 126, 127, 128, 129, 130] (by decide +kernel) (by decide +kernel)
set_option maxRecDepth 20000 in
theorem gX3_digest_X1_knotAt : GoodIn wsX3_digest (wsV RX3 96 RX1 yX1_knotAt wsX1_knotAt) := goodIn_app (goodIn_of _ (by decide +kernel)) ggX3_digest_X1_knotAt
set_option maxRecDepth 20000 in
theorem ggX3_digest_X1_planAt : GoodIn wsX3_digest wsX1_planAt := goodIn_r _ [85, 68, 69, 70, 6, 71, 72, 30, 73, 74, 75, 76, 77, 15, 16, 48, 49, 29, 31, 122, 123, 124, 125, 126, 127, 128, 129, 130, 116, 117, 118, 119, 120] (by decide +kernel) (by decide +kernel)
set_option maxRecDepth 20000 in
theorem gX3_digest_X1_planAt : GoodIn wsX3_digest (wsV RX3 99 RX1 yX1_planAt wsX1_planAt) := goodIn_app (goodIn_of _ (by decide +kernel)) ggX3_digest_X1_planAt
set_option maxRecDepth 20000 in
theorem ggX3_digest_X1_weaverAt : GoodIn wsX3_digest wsX1_weaverAt := goodIn_r _ [77, 15, 16, 116, 117, 118, 119, 120] (by decide +kernel) (by decide +kernel)
set_option maxRecDepth 20000 in
theorem gX3_digest_X1_weaverAt : GoodIn wsX3_digest (wsV RX3 57 RX1 yX1_weaverAt wsX1_weaverAt) := goodIn_app (goodIn_of _ (by decide +kernel)) ggX3_digest_X1_weaverAt
set_option maxRecDepth 20000 in
theorem ggX3_digest_X2_mixInto : GoodIn wsX3_digest wsX2_mixInto := goodIn_r _ [90, 91, 92, 93, 94, 95, 96, 24, 97, 98, 26, 99, 100, 101, 102, 103, 29, 30, 31, 104, 105, 106, 107, 108, 109, 110, 111, 112, 61, 62, 63, 122, 123, 124, 125, 126, 127, 128, 129, 130] (by decide +kernel) (by decide +kernel)
set_option maxRecDepth 20000 in
theorem gX3_digest_X2_mixInto : GoodIn wsX3_digest (wsV RX3 168 RX2 yX2_mixInto wsX2_mixInto) := goodIn_app (goodIn_of _ (by decide +kernel)) ggX3_digest_X2_mixInto
set_option maxRecDepth 20000 in
theorem ggX3_digest_X3_at : GoodIn wsX3_digest wsX3_at := goodIn_r _ [31] (by decide +kernel) (by decide +kernel)
set_option maxRecDepth 20000 in
theorem gX3_digest_X3_at : GoodIn wsX3_digest (va_wsS RX3 116 yX3_at wsX3_at) := goodIn_app (goodIn_of _ (by decide +kernel)) ggX3_digest_X3_at
theorem dX3_digest_0 : decode cX3_digest 0 = .ok (.ldc2_w 162, 3) := by decide +kernel
theorem dX3_digest_3 : decode cX3_digest 3 = .ok (.lstore_n 1, 1) := by decide +kernel
theorem dX3_digest_4 : decode cX3_digest 4 = .ok (.iconst 0, 1) := by decide +kernel
theorem dX3_digest_5 : decode cX3_digest 5 = .ok (.istore_n 3, 1) := by decide +kernel
theorem dX3_digest_6 : decode cX3_digest 6 = .ok (.iload_n 3, 1) := by decide +kernel
theorem dX3_digest_7 : decode cX3_digest 7 = .ok (.bipush 8, 2) := by decide +kernel
theorem dX3_digest_9 : decode cX3_digest 9 = .ok (.if_icmp .ge 22, 3) := by decide +kernel
theorem dX3_digest_12 : decode cX3_digest 12 = .ok (.lload_n 1, 1) := by decide +kernel
theorem dX3_digest_13 : decode cX3_digest 13 = .ok (.aload_n 0, 1) := by decide +kernel
theorem dX3_digest_14 : decode cX3_digest 14 = .ok (.getfield 10, 3) := by decide +kernel
theorem dX3_digest_17 : decode cX3_digest 17 = .ok (.iload_n 3, 1) := by decide +kernel
theorem dX3_digest_18 : decode cX3_digest 18 = .ok (.invokevirtual 123, 3) := by decide +kernel
theorem dX3_digest_21 : decode cX3_digest 21 = .ok (.invokestatic 164, 3) := by decide +kernel
theorem dX3_digest_24 : decode cX3_digest 24 = .ok (.lstore_n 1, 1) := by decide +kernel
theorem dX3_digest_25 : decode cX3_digest 25 = .ok (.iinc 3 1, 3) := by decide +kernel
theorem dX3_digest_28 : decode cX3_digest 28 = .ok (.goto (-22), 3) := by decide +kernel
theorem dX3_digest_31 : decode cX3_digest 31 = .ok (.iconst 0, 1) := by decide +kernel
theorem dX3_digest_32 : decode cX3_digest 32 = .ok (.istore_n 3, 1) := by decide +kernel
theorem dX3_digest_33 : decode cX3_digest 33 = .ok (.iload_n 3, 1) := by decide +kernel
theorem dX3_digest_34 : decode cX3_digest 34 = .ok (.bipush 10, 2) := by decide +kernel
theorem dX3_digest_36 : decode cX3_digest 36 = .ok (.if_icmp .ge 55, 3) := by decide +kernel
theorem dX3_digest_39 : decode cX3_digest 39 = .ok (.iconst 0, 1) := by decide +kernel
theorem dX3_digest_40 : decode cX3_digest 40 = .ok (.istore 4, 2) := by decide +kernel
theorem dX3_digest_42 : decode cX3_digest 42 = .ok (.iload 4, 2) := by decide +kernel
theorem dX3_digest_44 : decode cX3_digest 44 = .ok (.bipush 12, 2) := by decide +kernel
theorem dX3_digest_46 : decode cX3_digest 46 = .ok (.if_icmp .ge 39, 3) := by decide +kernel
theorem dX3_digest_49 : decode cX3_digest 49 = .ok (.lload_n 1, 1) := by decide +kernel
theorem dX3_digest_50 : decode cX3_digest 50 = .ok (.aload_n 0, 1) := by decide +kernel
theorem dX3_digest_51 : decode cX3_digest 51 = .ok (.getfield 10, 3) := by decide +kernel
theorem dX3_digest_54 : decode cX3_digest 54 = .ok (.iload 4, 2) := by decide +kernel
theorem dX3_digest_56 : decode cX3_digest 56 = .ok (.iload_n 3, 1) := by decide +kernel
theorem dX3_digest_57 : decode cX3_digest 57 = .ok (.invokevirtual 96, 3) := by decide +kernel
theorem dX3_digest_60 : decode cX3_digest 60 = .ok (.invokestatic 164, 3) := by decide +kernel
theorem dX3_digest_63 : decode cX3_digest 63 = .ok (.lstore_n 1, 1) := by decide +kernel
theorem dX3_digest_64 : decode cX3_digest 64 = .ok (.lload_n 1, 1) := by decide +kernel
theorem dX3_digest_65 : decode cX3_digest 65 = .ok (.aload_n 0, 1) := by decide +kernel
theorem dX3_digest_66 : decode cX3_digest 66 = .ok (.getfield 10, 3) := by decide +kernel
theorem dX3_digest_69 : decode cX3_digest 69 = .ok (.iload 4, 2) := by decide +kernel
theorem dX3_digest_71 : decode cX3_digest 71 = .ok (.iload_n 3, 1) := by decide +kernel
theorem dX3_digest_72 : decode cX3_digest 72 = .ok (.invokevirtual 99, 3) := by decide +kernel
theorem dX3_digest_75 : decode cX3_digest 75 = .ok (.invokestatic 164, 3) := by decide +kernel
theorem dX3_digest_78 : decode cX3_digest 78 = .ok (.lstore_n 1, 1) := by decide +kernel
theorem dX3_digest_79 : decode cX3_digest 79 = .ok (.iinc 4 1, 3) := by decide +kernel
theorem dX3_digest_82 : decode cX3_digest 82 = .ok (.goto (-40), 3) := by decide +kernel
theorem dX3_digest_85 : decode cX3_digest 85 = .ok (.iinc 3 1, 3) := by decide +kernel
theorem dX3_digest_88 : decode cX3_digest 88 = .ok (.goto (-55), 3) := by decide +kernel
theorem dX3_digest_91 : decode cX3_digest 91 = .ok (.iconst 0, 1) := by decide +kernel
theorem dX3_digest_92 : decode cX3_digest 92 = .ok (.istore_n 3, 1) := by decide +kernel
theorem dX3_digest_93 : decode cX3_digest 93 = .ok (.iload_n 3, 1) := by decide +kernel
theorem dX3_digest_94 : decode cX3_digest 94 = .ok (.iconst 2, 1) := by decide +kernel
theorem dX3_digest_95 : decode cX3_digest 95 = .ok (.if_icmp .ge 22, 3) := by decide +kernel
theorem dX3_digest_98 : decode cX3_digest 98 = .ok (.aload_n 0, 1) := by decide +kernel
theorem dX3_digest_99 : decode cX3_digest 99 = .ok (.getfield 10, 3) := by decide +kernel
theorem dX3_digest_102 : decode cX3_digest 102 = .ok (.iload_n 3, 1) := by decide +kernel
theorem dX3_digest_103 : decode cX3_digest 103 = .ok (.invokevirtual 57, 3) := by decide +kernel
theorem dX3_digest_106 : decode cX3_digest 106 = .ok (.lload_n 1, 1) := by decide +kernel
theorem dX3_digest_107 : decode cX3_digest 107 = .ok (.invokevirtual 168, 3) := by decide +kernel
theorem dX3_digest_110 : decode cX3_digest 110 = .ok (.lstore_n 1, 1) := by decide +kernel
theorem dX3_digest_111 : decode cX3_digest 111 = .ok (.iinc 3 1, 3) := by decide +kernel
theorem dX3_digest_114 : decode cX3_digest 114 = .ok (.goto (-21), 3) := by decide +kernel
theorem dX3_digest_117 : decode cX3_digest 117 = .ok (.iconst 0, 1) := by decide +kernel
theorem dX3_digest_118 : decode cX3_digest 118 = .ok (.istore_n 3, 1) := by decide +kernel
theorem dX3_digest_119 : decode cX3_digest 119 = .ok (.iload_n 3, 1) := by decide +kernel
theorem dX3_digest_120 : decode cX3_digest 120 = .ok (.bipush 8, 2) := by decide +kernel
theorem dX3_digest_122 : decode cX3_digest 122 = .ok (.if_icmp .ge 28, 3) := by decide +kernel
theorem dX3_digest_125 : decode cX3_digest 125 = .ok (.lload_n 1, 1) := by decide +kernel
theorem dX3_digest_126 : decode cX3_digest 126 = .ok (.aload_n 0, 1) := by decide +kernel
theorem dX3_digest_127 : decode cX3_digest 127 = .ok (.getfield 10, 3) := by decide +kernel
theorem dX3_digest_130 : decode cX3_digest 130 = .ok (.getfield 45, 3) := by decide +kernel
theorem dX3_digest_133 : decode cX3_digest 133 = .ok (.getfield 124, 3) := by decide +kernel
theorem dX3_digest_136 : decode cX3_digest 136 = .ok (.iload_n 3, 1) := by decide +kernel
theorem dX3_digest_137 : decode cX3_digest 137 = .ok (.invokestatic 116, 3) := by decide +kernel
theorem dX3_digest_140 : decode cX3_digest 140 = .ok (.invokestatic 164, 3) := by decide +kernel
theorem dX3_digest_143 : decode cX3_digest 143 = .ok (.lstore_n 1, 1) := by decide +kernel
theorem dX3_digest_144 : decode cX3_digest 144 = .ok (.iinc 3 1, 3) := by decide +kernel
theorem dX3_digest_147 : decode cX3_digest 147 = .ok (.goto (-28), 3) := by decide +kernel
theorem dX3_digest_150 : decode cX3_digest 150 = .ok (.lload_n 1, 1) := by decide +kernel
theorem dX3_digest_151 : decode cX3_digest 151 = .ok (.lreturn, 1) := by decide +kernel
set_option maxRecDepth 20000 in
theorem ggX3_checkWeaver_X3_checkIndex : GoodIn wsX3_checkWeaver wsX3_checkIndex := goodIn_ca (goodIn_r _ [4, 5, 6] (by decide +kernel) (by decide +kernel)) (goodIn_sub (fun _ h => List.mem_cons_of_mem _ (List.mem_append_right _ h)) (by decide +kernel))
set_option maxRecDepth 20000 in
theorem gX3_checkWeaver_X3_checkIndex : GoodIn wsX3_checkWeaver (va_wsS RX3 93 yX3_checkIndex wsX3_checkIndex) := goodIn_app (goodIn_of _ (by decide +kernel)) ggX3_checkWeaver_X3_checkIndex
theorem dX3_checkWeaver_0 : decode cX3_checkWeaver 0 = .ok (.iload_n 0, 1) := by decide +kernel
theorem dX3_checkWeaver_1 : decode cX3_checkWeaver 1 = .ok (.iconst 2, 1) := by decide +kernel
theorem dX3_checkWeaver_2 : decode cX3_checkWeaver 2 = .ok (.invokestatic 93, 3) := by decide +kernel
theorem dX3_checkWeaver_5 : decode cX3_checkWeaver 5 = .ok (.return_, 1) := by decide +kernel
set_option maxRecDepth 20000 in
theorem ggX3_checkCell_X3_checkIndex : GoodIn wsX3_checkCell wsX3_checkIndex := goodIn_ca (goodIn_r _ [4, 5, 6] (by decide +kernel) (by decide +kernel)) (goodIn_sub (fun _ h => List.mem_cons_of_mem _ (List.mem_append_right _ h)) (by decide +kernel))
set_option maxRecDepth 20000 in
theorem gX3_checkCell_X3_checkIndex : GoodIn wsX3_checkCell (va_wsS RX3 93 yX3_checkIndex wsX3_checkIndex) := goodIn_app (goodIn_of _ (by decide +kernel)) ggX3_checkCell_X3_checkIndex
theorem dX3_checkCell_0 : decode cX3_checkCell 0 = .ok (.iload_n 0, 1) := by decide +kernel
theorem dX3_checkCell_1 : decode cX3_checkCell 1 = .ok (.bipush 12, 2) := by decide +kernel
theorem dX3_checkCell_3 : decode cX3_checkCell 3 = .ok (.invokestatic 93, 3) := by decide +kernel
theorem dX3_checkCell_6 : decode cX3_checkCell 6 = .ok (.iload_n 1, 1) := by decide +kernel
theorem dX3_checkCell_7 : decode cX3_checkCell 7 = .ok (.bipush 10, 2) := by decide +kernel
theorem dX3_checkCell_9 : decode cX3_checkCell 9 = .ok (.invokestatic 93, 3) := by decide +kernel
theorem dX3_checkCell_12 : decode cX3_checkCell 12 = .ok (.return_, 1) := by decide +kernel
set_option maxRecDepth 20000 in
theorem ggX3_checkColour_X3_checkRange : GoodIn wsX3_checkColour wsX3_checkRange := goodIn_ca (goodIn_r _ [4, 5, 6] (by decide +kernel) (by decide +kernel)) (goodIn_sub (fun _ h => List.mem_cons_of_mem _ (List.mem_append_right _ h)) (by decide +kernel))
set_option maxRecDepth 20000 in
theorem gX3_checkColour_X3_checkRange : GoodIn wsX3_checkColour (va_wsS RX3 23 yX3_checkRange wsX3_checkRange) := goodIn_app (goodIn_of _ (by decide +kernel)) ggX3_checkColour_X3_checkRange
theorem dX3_checkColour_0 : decode cX3_checkColour 0 = .ok (.iload_n 0, 1) := by decide +kernel
theorem dX3_checkColour_1 : decode cX3_checkColour 1 = .ok (.iconst 0, 1) := by decide +kernel
theorem dX3_checkColour_2 : decode cX3_checkColour 2 = .ok (.bipush 7, 2) := by decide +kernel
theorem dX3_checkColour_4 : decode cX3_checkColour 4 = .ok (.invokestatic 23, 3) := by decide +kernel
theorem dX3_checkColour_7 : decode cX3_checkColour 7 = .ok (.return_, 1) := by decide +kernel
theorem dX3_checkIndex_0 : decode cX3_checkIndex 0 = .ok (.iload_n 0, 1) := by decide +kernel
theorem dX3_checkIndex_1 : decode cX3_checkIndex 1 = .ok (.ifCond .lt 8, 3) := by decide +kernel
theorem dX3_checkIndex_4 : decode cX3_checkIndex 4 = .ok (.iload_n 0, 1) := by decide +kernel
theorem dX3_checkIndex_5 : decode cX3_checkIndex 5 = .ok (.iload_n 1, 1) := by decide +kernel
theorem dX3_checkIndex_6 : decode cX3_checkIndex 6 = .ok (.if_icmp .lt 13, 3) := by decide +kernel
theorem dX3_checkIndex_9 : decode cX3_checkIndex 9 = .ok (.new 172, 3) := by decide +kernel
theorem dX3_checkIndex_12 : decode cX3_checkIndex 12 = .ok (.dup, 1) := by decide +kernel
theorem dX3_checkIndex_13 : decode cX3_checkIndex 13 = .ok (.ldc 174, 2) := by decide +kernel
theorem dX3_checkIndex_15 : decode cX3_checkIndex 15 = .ok (.invokespecial 176, 3) := by decide +kernel
theorem dX3_checkIndex_18 : decode cX3_checkIndex 18 = .ok (.athrow, 1) := by decide +kernel
theorem dX3_checkIndex_19 : decode cX3_checkIndex 19 = .ok (.return_, 1) := by decide +kernel
theorem dX3_checkRange_0 : decode cX3_checkRange 0 = .ok (.iload_n 0, 1) := by decide +kernel
theorem dX3_checkRange_1 : decode cX3_checkRange 1 = .ok (.iload_n 1, 1) := by decide +kernel
theorem dX3_checkRange_2 : decode cX3_checkRange 2 = .ok (.if_icmp .lt 8, 3) := by decide +kernel
theorem dX3_checkRange_5 : decode cX3_checkRange 5 = .ok (.iload_n 0, 1) := by decide +kernel
theorem dX3_checkRange_6 : decode cX3_checkRange 6 = .ok (.iload_n 2, 1) := by decide +kernel
theorem dX3_checkRange_7 : decode cX3_checkRange 7 = .ok (.if_icmp .le 13, 3) := by decide +kernel
theorem dX3_checkRange_10 : decode cX3_checkRange 10 = .ok (.new 177, 3) := by decide +kernel
theorem dX3_checkRange_13 : decode cX3_checkRange 13 = .ok (.dup, 1) := by decide +kernel
theorem dX3_checkRange_14 : decode cX3_checkRange 14 = .ok (.ldc 179, 2) := by decide +kernel
theorem dX3_checkRange_16 : decode cX3_checkRange 16 = .ok (.invokespecial 181, 3) := by decide +kernel
theorem dX3_checkRange_19 : decode cX3_checkRange 19 = .ok (.athrow, 1) := by decide +kernel
theorem dX3_checkRange_20 : decode cX3_checkRange 20 = .ok (.return_, 1) := by decide +kernel
theorem dX3_at_0 : decode cX3_at 0 = .ok (.iload_n 1, 1) := by decide +kernel
theorem dX3_at_1 : decode cX3_at 1 = .ok (.ifCond .lt 15, 3) := by decide +kernel
theorem dX3_at_4 : decode cX3_at 4 = .ok (.iload_n 1, 1) := by decide +kernel
theorem dX3_at_5 : decode cX3_at 5 = .ok (.aload_n 0, 1) := by decide +kernel
theorem dX3_at_6 : decode cX3_at 6 = .ok (.arraylength, 1) := by decide +kernel
theorem dX3_at_7 : decode cX3_at 7 = .ok (.if_icmp .ge 9, 3) := by decide +kernel
theorem dX3_at_10 : decode cX3_at 10 = .ok (.aload_n 0, 1) := by decide +kernel
theorem dX3_at_11 : decode cX3_at 11 = .ok (.iload_n 1, 1) := by decide +kernel
theorem dX3_at_12 : decode cX3_at 12 = .ok (.iaload, 1) := by decide +kernel
theorem dX3_at_13 : decode cX3_at 13 = .ok (.goto 4, 3) := by decide +kernel
theorem dX3_at_16 : decode cX3_at 16 = .ok (.iconst (-1), 1) := by decide +kernel
theorem dX3_at_17 : decode cX3_at 17 = .ok (.ireturn, 1) := by decide +kernel
theorem dX3_put_0 : decode cX3_put 0 = .ok (.iload_n 1, 1) := by decide +kernel
theorem dX3_put_1 : decode cX3_put 1 = .ok (.ifCond .lt 13, 3) := by decide +kernel
theorem dX3_put_4 : decode cX3_put 4 = .ok (.iload_n 1, 1) := by decide +kernel
theorem dX3_put_5 : decode cX3_put 5 = .ok (.aload_n 0, 1) := by decide +kernel
theorem dX3_put_6 : decode cX3_put 6 = .ok (.arraylength, 1) := by decide +kernel
theorem dX3_put_7 : decode cX3_put 7 = .ok (.if_icmp .ge 7, 3) := by decide +kernel
theorem dX3_put_10 : decode cX3_put 10 = .ok (.aload_n 0, 1) := by decide +kernel
theorem dX3_put_11 : decode cX3_put 11 = .ok (.iload_n 1, 1) := by decide +kernel
theorem dX3_put_12 : decode cX3_put 12 = .ok (.iload_n 2, 1) := by decide +kernel
theorem dX3_put_13 : decode cX3_put 13 = .ok (.iastore, 1) := by decide +kernel
theorem dX3_put_14 : decode cX3_put 14 = .ok (.return_, 1) := by decide +kernel
theorem dX3_copyRow_0 : decode cX3_copyRow 0 = .ok (.iconst 0, 1) := by decide +kernel
theorem dX3_copyRow_1 : decode cX3_copyRow 1 = .ok (.istore_n 2, 1) := by decide +kernel
theorem dX3_copyRow_2 : decode cX3_copyRow 2 = .ok (.iload_n 2, 1) := by decide +kernel
theorem dX3_copyRow_3 : decode cX3_copyRow 3 = .ok (.aload_n 0, 1) := by decide +kernel
theorem dX3_copyRow_4 : decode cX3_copyRow 4 = .ok (.arraylength, 1) := by decide +kernel
theorem dX3_copyRow_5 : decode cX3_copyRow 5 = .ok (.if_icmp .ge 21, 3) := by decide +kernel
theorem dX3_copyRow_8 : decode cX3_copyRow 8 = .ok (.iload_n 2, 1) := by decide +kernel
theorem dX3_copyRow_9 : decode cX3_copyRow 9 = .ok (.aload_n 1, 1) := by decide +kernel
theorem dX3_copyRow_10 : decode cX3_copyRow 10 = .ok (.arraylength, 1) := by decide +kernel
theorem dX3_copyRow_11 : decode cX3_copyRow 11 = .ok (.if_icmp .ge 15, 3) := by decide +kernel
theorem dX3_copyRow_14 : decode cX3_copyRow 14 = .ok (.aload_n 1, 1) := by decide +kernel
theorem dX3_copyRow_15 : decode cX3_copyRow 15 = .ok (.iload_n 2, 1) := by decide +kernel
theorem dX3_copyRow_16 : decode cX3_copyRow 16 = .ok (.aload_n 0, 1) := by decide +kernel
theorem dX3_copyRow_17 : decode cX3_copyRow 17 = .ok (.iload_n 2, 1) := by decide +kernel
theorem dX3_copyRow_18 : decode cX3_copyRow 18 = .ok (.iaload, 1) := by decide +kernel
theorem dX3_copyRow_19 : decode cX3_copyRow 19 = .ok (.iastore, 1) := by decide +kernel
theorem dX3_copyRow_20 : decode cX3_copyRow 20 = .ok (.iinc 2 1, 3) := by decide +kernel
theorem dX3_copyRow_23 : decode cX3_copyRow 23 = .ok (.goto (-21), 3) := by decide +kernel
theorem dX3_copyRow_26 : decode cX3_copyRow 26 = .ok (.return_, 1) := by decide +kernel
theorem dX3_sideOf_0 : decode cX3_sideOf 0 = .ok (.iload_n 0, 1) := by decide +kernel
theorem dX3_sideOf_1 : decode cX3_sideOf 1 = .ok (.bipush 6, 2) := by decide +kernel
theorem dX3_sideOf_3 : decode cX3_sideOf 3 = .ok (.if_icmp .ge 7, 3) := by decide +kernel
theorem dX3_sideOf_6 : decode cX3_sideOf 6 = .ok (.iconst 0, 1) := by decide +kernel
theorem dX3_sideOf_7 : decode cX3_sideOf 7 = .ok (.goto 4, 3) := by decide +kernel
theorem dX3_sideOf_10 : decode cX3_sideOf 10 = .ok (.iconst 1, 1) := by decide +kernel
theorem dX3_sideOf_11 : decode cX3_sideOf 11 = .ok (.ireturn, 1) := by decide +kernel
theorem dX3_placeOf_0 : decode cX3_placeOf 0 = .ok (.bipush 6, 2) := by decide +kernel
theorem dX3_placeOf_2 : decode cX3_placeOf 2 = .ok (.iload_n 1, 1) := by decide +kernel
theorem dX3_placeOf_3 : decode cX3_placeOf 3 = .ok (.imul, 1) := by decide +kernel
theorem dX3_placeOf_4 : decode cX3_placeOf 4 = .ok (.iload_n 0, 1) := by decide +kernel
theorem dX3_placeOf_5 : decode cX3_placeOf 5 = .ok (.bipush 6, 2) := by decide +kernel
theorem dX3_placeOf_7 : decode cX3_placeOf 7 = .ok (.if_icmp .ge 7, 3) := by decide +kernel
theorem dX3_placeOf_10 : decode cX3_placeOf 10 = .ok (.iload_n 0, 1) := by decide +kernel
theorem dX3_placeOf_11 : decode cX3_placeOf 11 = .ok (.goto 7, 3) := by decide +kernel
theorem dX3_placeOf_14 : decode cX3_placeOf 14 = .ok (.bipush 11, 2) := by decide +kernel
theorem dX3_placeOf_16 : decode cX3_placeOf 16 = .ok (.iload_n 0, 1) := by decide +kernel
theorem dX3_placeOf_17 : decode cX3_placeOf 17 = .ok (.isub, 1) := by decide +kernel
theorem dX3_placeOf_18 : decode cX3_placeOf 18 = .ok (.iadd, 1) := by decide +kernel
theorem dX3_placeOf_19 : decode cX3_placeOf 19 = .ok (.ireturn, 1) := by decide +kernel
theorem dX3_mix_0 : decode cX3_mix 0 = .ok (.lload_n 0, 1) := by decide +kernel
theorem dX3_mix_1 : decode cX3_mix 1 = .ok (.ldc2_w 182, 3) := by decide +kernel
theorem dX3_mix_4 : decode cX3_mix 4 = .ok (.lmul, 1) := by decide +kernel
theorem dX3_mix_5 : decode cX3_mix 5 = .ok (.iload_n 2, 1) := by decide +kernel
theorem dX3_mix_6 : decode cX3_mix 6 = .ok (.i2l, 1) := by decide +kernel
theorem dX3_mix_7 : decode cX3_mix 7 = .ok (.ladd, 1) := by decide +kernel
theorem dX3_mix_8 : decode cX3_mix 8 = .ok (.lreturn, 1) := by decide +kernel
theorem dX4_init_0 : decode cX4_init 0 = .ok (.aload_n 0, 1) := by decide +kernel
theorem dX4_init_1 : decode cX4_init 1 = .ok (.invokespecial 1, 3) := by decide +kernel
theorem dX4_init_4 : decode cX4_init 4 = .ok (.aload_n 0, 1) := by decide +kernel
theorem dX4_init_5 : decode cX4_init 5 = .ok (.bipush 8, 2) := by decide +kernel
theorem dX4_init_7 : decode cX4_init 7 = .ok (.newarray .int, 2) := by decide +kernel
theorem dX4_init_9 : decode cX4_init 9 = .ok (.dup, 1) := by decide +kernel
theorem dX4_init_10 : decode cX4_init 10 = .ok (.iconst 0, 1) := by decide +kernel
theorem dX4_init_11 : decode cX4_init 11 = .ok (.iconst 1, 1) := by decide +kernel
theorem dX4_init_12 : decode cX4_init 12 = .ok (.iastore, 1) := by decide +kernel
theorem dX4_init_13 : decode cX4_init 13 = .ok (.dup, 1) := by decide +kernel
theorem dX4_init_14 : decode cX4_init 14 = .ok (.iconst 1, 1) := by decide +kernel
theorem dX4_init_15 : decode cX4_init 15 = .ok (.iconst 0, 1) := by decide +kernel
theorem dX4_init_16 : decode cX4_init 16 = .ok (.iastore, 1) := by decide +kernel
theorem dX4_init_17 : decode cX4_init 17 = .ok (.dup, 1) := by decide +kernel
theorem dX4_init_18 : decode cX4_init 18 = .ok (.iconst 2, 1) := by decide +kernel
theorem dX4_init_19 : decode cX4_init 19 = .ok (.iconst 0, 1) := by decide +kernel
theorem dX4_init_20 : decode cX4_init 20 = .ok (.iastore, 1) := by decide +kernel
theorem dX4_init_21 : decode cX4_init 21 = .ok (.dup, 1) := by decide +kernel
theorem dX4_init_22 : decode cX4_init 22 = .ok (.iconst 3, 1) := by decide +kernel
theorem dX4_init_23 : decode cX4_init 23 = .ok (.iconst 0, 1) := by decide +kernel
theorem dX4_init_24 : decode cX4_init 24 = .ok (.iastore, 1) := by decide +kernel
theorem dX4_init_25 : decode cX4_init 25 = .ok (.dup, 1) := by decide +kernel
theorem dX4_init_26 : decode cX4_init 26 = .ok (.iconst 4, 1) := by decide +kernel
theorem dX4_init_27 : decode cX4_init 27 = .ok (.iconst 1, 1) := by decide +kernel
theorem dX4_init_28 : decode cX4_init 28 = .ok (.iastore, 1) := by decide +kernel
theorem dX4_init_29 : decode cX4_init 29 = .ok (.dup, 1) := by decide +kernel
theorem dX4_init_30 : decode cX4_init 30 = .ok (.iconst 5, 1) := by decide +kernel
theorem dX4_init_31 : decode cX4_init 31 = .ok (.iconst 0, 1) := by decide +kernel
theorem dX4_init_32 : decode cX4_init 32 = .ok (.iastore, 1) := by decide +kernel
theorem dX4_init_33 : decode cX4_init 33 = .ok (.dup, 1) := by decide +kernel
theorem dX4_init_34 : decode cX4_init 34 = .ok (.bipush 6, 2) := by decide +kernel
theorem dX4_init_36 : decode cX4_init 36 = .ok (.iconst 0, 1) := by decide +kernel
theorem dX4_init_37 : decode cX4_init 37 = .ok (.iastore, 1) := by decide +kernel
theorem dX4_init_38 : decode cX4_init 38 = .ok (.dup, 1) := by decide +kernel
theorem dX4_init_39 : decode cX4_init 39 = .ok (.bipush 7, 2) := by decide +kernel
theorem dX4_init_41 : decode cX4_init 41 = .ok (.iconst 0, 1) := by decide +kernel
theorem dX4_init_42 : decode cX4_init 42 = .ok (.iastore, 1) := by decide +kernel
theorem dX4_init_43 : decode cX4_init 43 = .ok (.putfield 7, 3) := by decide +kernel
theorem dX4_init_46 : decode cX4_init 46 = .ok (.aload_n 0, 1) := by decide +kernel
theorem dX4_init_47 : decode cX4_init 47 = .ok (.bipush 120, 2) := by decide +kernel
theorem dX4_init_49 : decode cX4_init 49 = .ok (.newarray .int, 2) := by decide +kernel
theorem dX4_init_51 : decode cX4_init 51 = .ok (.putfield 13, 3) := by decide +kernel
theorem dX4_init_54 : decode cX4_init 54 = .ok (.aload_n 0, 1) := by decide +kernel
theorem dX4_init_55 : decode cX4_init 55 = .ok (.bipush 120, 2) := by decide +kernel
theorem dX4_init_57 : decode cX4_init 57 = .ok (.newarray .int, 2) := by decide +kernel
theorem dX4_init_59 : decode cX4_init 59 = .ok (.putfield 16, 3) := by decide +kernel
theorem dX4_init_62 : decode cX4_init 62 = .ok (.aload_n 0, 1) := by decide +kernel
theorem dX4_init_63 : decode cX4_init 63 = .ok (.bipush 80, 2) := by decide +kernel
theorem dX4_init_65 : decode cX4_init 65 = .ok (.newarray .int, 2) := by decide +kernel
theorem dX4_init_67 : decode cX4_init 67 = .ok (.putfield 19, 3) := by decide +kernel
theorem dX4_init_70 : decode cX4_init 70 = .ok (.aload_n 0, 1) := by decide +kernel
theorem dX4_init_71 : decode cX4_init 71 = .ok (.bipush 8, 2) := by decide +kernel
theorem dX4_init_73 : decode cX4_init 73 = .ok (.newarray .int, 2) := by decide +kernel
theorem dX4_init_75 : decode cX4_init 75 = .ok (.putfield 22, 3) := by decide +kernel
theorem dX4_init_78 : decode cX4_init 78 = .ok (.aload_n 0, 1) := by decide +kernel
theorem dX4_init_79 : decode cX4_init 79 = .ok (.iconst 2, 1) := by decide +kernel
theorem dX4_init_80 : decode cX4_init 80 = .ok (.newarray .int, 2) := by decide +kernel
theorem dX4_init_82 : decode cX4_init 82 = .ok (.putfield 25, 3) := by decide +kernel
theorem dX4_init_85 : decode cX4_init 85 = .ok (.iconst 0, 1) := by decide +kernel
theorem dX4_init_86 : decode cX4_init 86 = .ok (.istore_n 1, 1) := by decide +kernel
theorem dX4_init_87 : decode cX4_init 87 = .ok (.iload_n 1, 1) := by decide +kernel
theorem dX4_init_88 : decode cX4_init 88 = .ok (.bipush 8, 2) := by decide +kernel
theorem dX4_init_90 : decode cX4_init 90 = .ok (.if_icmp .ge 17, 3) := by decide +kernel
theorem dX4_init_93 : decode cX4_init 93 = .ok (.aload_n 0, 1) := by decide +kernel
theorem dX4_init_94 : decode cX4_init 94 = .ok (.getfield 22, 3) := by decide +kernel
theorem dX4_init_97 : decode cX4_init 97 = .ok (.iload_n 1, 1) := by decide +kernel
theorem dX4_init_98 : decode cX4_init 98 = .ok (.bipush 30, 2) := by decide +kernel
theorem dX4_init_100 : decode cX4_init 100 = .ok (.iastore, 1) := by decide +kernel
theorem dX4_init_101 : decode cX4_init 101 = .ok (.iinc 1 1, 3) := by decide +kernel
theorem dX4_init_104 : decode cX4_init 104 = .ok (.goto (-17), 3) := by decide +kernel
theorem dX4_init_107 : decode cX4_init 107 = .ok (.return_, 1) := by decide +kernel
theorem dX4_thrown_0 : decode cX4_thrown 0 = .ok (.aload_n 0, 1) := by decide +kernel
theorem dX4_thrown_1 : decode cX4_thrown 1 = .ok (.getfield 28, 3) := by decide +kernel
theorem dX4_thrown_4 : decode cX4_thrown 4 = .ok (.ireturn, 1) := by decide +kernel
theorem dX4_fail_0 : decode cX4_fail 0 = .ok (.aload_n 0, 1) := by decide +kernel
theorem dX4_fail_1 : decode cX4_fail 1 = .ok (.iload_n 1, 1) := by decide +kernel
theorem dX4_fail_2 : decode cX4_fail 2 = .ok (.putfield 28, 3) := by decide +kernel
theorem dX4_fail_5 : decode cX4_fail 5 = .ok (.iconst 0, 1) := by decide +kernel
theorem dX4_fail_6 : decode cX4_fail 6 = .ok (.ireturn, 1) := by decide +kernel
theorem dX4_isIn_0 : decode cX4_isIn 0 = .ok (.iload_n 0, 1) := by decide +kernel
theorem dX4_isIn_1 : decode cX4_isIn 1 = .ok (.iload_n 1, 1) := by decide +kernel
theorem dX4_isIn_2 : decode cX4_isIn 2 = .ok (.if_icmp .lt 12, 3) := by decide +kernel
theorem dX4_isIn_5 : decode cX4_isIn 5 = .ok (.iload_n 0, 1) := by decide +kernel
theorem dX4_isIn_6 : decode cX4_isIn 6 = .ok (.iload_n 2, 1) := by decide +kernel
theorem dX4_isIn_7 : decode cX4_isIn 7 = .ok (.if_icmp .gt 7, 3) := by decide +kernel
theorem dX4_isIn_10 : decode cX4_isIn 10 = .ok (.iconst 1, 1) := by decide +kernel
theorem dX4_isIn_11 : decode cX4_isIn 11 = .ok (.goto 4, 3) := by decide +kernel
theorem dX4_isIn_14 : decode cX4_isIn 14 = .ok (.iconst 0, 1) := by decide +kernel
theorem dX4_isIn_15 : decode cX4_isIn 15 = .ok (.ireturn, 1) := by decide +kernel
set_option maxRecDepth 20000 in
theorem ggX4_isWeaver_X4_isIn : GoodIn wsX4_isWeaver wsX4_isIn := goodIn_r _ [4] (by decide +kernel) (by decide +kernel)
set_option maxRecDepth 20000 in
theorem gX4_isWeaver_X4_isIn : GoodIn wsX4_isWeaver (va_wsS RX4 32 yX4_isIn wsX4_isIn) := goodIn_app (goodIn_of _ (by decide +kernel)) ggX4_isWeaver_X4_isIn
theorem dX4_isWeaver_0 : decode cX4_isWeaver 0 = .ok (.iload_n 0, 1) := by decide +kernel
theorem dX4_isWeaver_1 : decode cX4_isWeaver 1 = .ok (.iconst 0, 1) := by decide +kernel
theorem dX4_isWeaver_2 : decode cX4_isWeaver 2 = .ok (.iconst 1, 1) := by decide +kernel
theorem dX4_isWeaver_3 : decode cX4_isWeaver 3 = .ok (.invokestatic 32, 3) := by decide +kernel
theorem dX4_isWeaver_6 : decode cX4_isWeaver 6 = .ok (.ireturn, 1) := by decide +kernel
set_option maxRecDepth 20000 in
theorem ggX4_isCell_X4_isIn : GoodIn wsX4_isCell wsX4_isIn := goodIn_r _ [4] (by decide +kernel) (by decide +kernel)
set_option maxRecDepth 20000 in
theorem gX4_isCell_X4_isIn : GoodIn wsX4_isCell (va_wsS RX4 32 yX4_isIn wsX4_isIn) := goodIn_app (goodIn_of _ (by decide +kernel)) ggX4_isCell_X4_isIn
theorem dX4_isCell_0 : decode cX4_isCell 0 = .ok (.iload_n 0, 1) := by decide +kernel
theorem dX4_isCell_1 : decode cX4_isCell 1 = .ok (.iconst 0, 1) := by decide +kernel
theorem dX4_isCell_2 : decode cX4_isCell 2 = .ok (.bipush 11, 2) := by decide +kernel
theorem dX4_isCell_4 : decode cX4_isCell 4 = .ok (.invokestatic 32, 3) := by decide +kernel
theorem dX4_isCell_7 : decode cX4_isCell 7 = .ok (.ifCond .eq 17, 3) := by decide +kernel
theorem dX4_isCell_10 : decode cX4_isCell 10 = .ok (.iload_n 1, 1) := by decide +kernel
theorem dX4_isCell_11 : decode cX4_isCell 11 = .ok (.iconst 0, 1) := by decide +kernel
theorem dX4_isCell_12 : decode cX4_isCell 12 = .ok (.bipush 9, 2) := by decide +kernel
theorem dX4_isCell_14 : decode cX4_isCell 14 = .ok (.invokestatic 32, 3) := by decide +kernel
theorem dX4_isCell_17 : decode cX4_isCell 17 = .ok (.ifCond .eq 7, 3) := by decide +kernel
theorem dX4_isCell_20 : decode cX4_isCell 20 = .ok (.iconst 1, 1) := by decide +kernel
theorem dX4_isCell_21 : decode cX4_isCell 21 = .ok (.goto 4, 3) := by decide +kernel
theorem dX4_isCell_24 : decode cX4_isCell 24 = .ok (.iconst 0, 1) := by decide +kernel
theorem dX4_isCell_25 : decode cX4_isCell 25 = .ok (.ireturn, 1) := by decide +kernel
set_option maxRecDepth 20000 in
theorem ggX4_isColour_X4_isIn : GoodIn wsX4_isColour wsX4_isIn := goodIn_r _ [4] (by decide +kernel) (by decide +kernel)
set_option maxRecDepth 20000 in
theorem gX4_isColour_X4_isIn : GoodIn wsX4_isColour (va_wsS RX4 32 yX4_isIn wsX4_isIn) := goodIn_app (goodIn_of _ (by decide +kernel)) ggX4_isColour_X4_isIn
theorem dX4_isColour_0 : decode cX4_isColour 0 = .ok (.iload_n 0, 1) := by decide +kernel
theorem dX4_isColour_1 : decode cX4_isColour 1 = .ok (.iconst 0, 1) := by decide +kernel
theorem dX4_isColour_2 : decode cX4_isColour 2 = .ok (.bipush 7, 2) := by decide +kernel
theorem dX4_isColour_4 : decode cX4_isColour 4 = .ok (.invokestatic 32, 3) := by decide +kernel
theorem dX4_isColour_7 : decode cX4_isColour 7 = .ok (.ireturn, 1) := by decide +kernel
theorem dX4_pe_0 : decode cX4_pe 0 = .ok (.aload_n 0, 1) := by decide +kernel
theorem dX4_pe_1 : decode cX4_pe 1 = .ok (.getfield 7, 3) := by decide +kernel
theorem dX4_pe_4 : decode cX4_pe 4 = .ok (.iconst 4, 1) := by decide +kernel
theorem dX4_pe_5 : decode cX4_pe 5 = .ok (.iload_n 1, 1) := by decide +kernel
theorem dX4_pe_6 : decode cX4_pe 6 = .ok (.imul, 1) := by decide +kernel
theorem dX4_pe_7 : decode cX4_pe 7 = .ok (.iload_n 2, 1) := by decide +kernel
theorem dX4_pe_8 : decode cX4_pe 8 = .ok (.iadd, 1) := by decide +kernel
theorem dX4_pe_9 : decode cX4_pe 9 = .ok (.iaload, 1) := by decide +kernel
theorem dX4_pe_10 : decode cX4_pe 10 = .ok (.ireturn, 1) := by decide +kernel
theorem dX4_put_0 : decode cX4_put 0 = .ok (.aload_n 0, 1) := by decide +kernel
theorem dX4_put_1 : decode cX4_put 1 = .ok (.getfield 7, 3) := by decide +kernel
theorem dX4_put_4 : decode cX4_put 4 = .ok (.iconst 4, 1) := by decide +kernel
theorem dX4_put_5 : decode cX4_put 5 = .ok (.iload_n 1, 1) := by decide +kernel
theorem dX4_put_6 : decode cX4_put 6 = .ok (.imul, 1) := by decide +kernel
theorem dX4_put_7 : decode cX4_put 7 = .ok (.iload_n 2, 1) := by decide +kernel
theorem dX4_put_8 : decode cX4_put 8 = .ok (.iadd, 1) := by decide +kernel
theorem dX4_put_9 : decode cX4_put 9 = .ok (.iload_n 3, 1) := by decide +kernel
theorem dX4_put_10 : decode cX4_put 10 = .ok (.iastore, 1) := by decide +kernel
theorem dX4_put_11 : decode cX4_put 11 = .ok (.return_, 1) := by decide +kernel
theorem dX4_at_0 : decode cX4_at 0 = .ok (.iload_n 0, 1) := by decide +kernel
theorem dX4_at_1 : decode cX4_at 1 = .ok (.bipush 6, 2) := by decide +kernel
theorem dX4_at_3 : decode cX4_at 3 = .ok (.if_icmp .ge 12, 3) := by decide +kernel
theorem dX4_at_6 : decode cX4_at 6 = .ok (.bipush 6, 2) := by decide +kernel
theorem dX4_at_8 : decode cX4_at 8 = .ok (.iload_n 1, 1) := by decide +kernel
theorem dX4_at_9 : decode cX4_at 9 = .ok (.imul, 1) := by decide +kernel
theorem dX4_at_10 : decode cX4_at 10 = .ok (.iload_n 0, 1) := by decide +kernel
theorem dX4_at_11 : decode cX4_at 11 = .ok (.iadd, 1) := by decide +kernel
theorem dX4_at_12 : decode cX4_at 12 = .ok (.goto 17, 3) := by decide +kernel
theorem dX4_at_15 : decode cX4_at 15 = .ok (.bipush 60, 2) := by decide +kernel
theorem dX4_at_17 : decode cX4_at 17 = .ok (.bipush 6, 2) := by decide +kernel
theorem dX4_at_19 : decode cX4_at 19 = .ok (.iload_n 1, 1) := by decide +kernel
theorem dX4_at_20 : decode cX4_at 20 = .ok (.imul, 1) := by decide +kernel
theorem dX4_at_21 : decode cX4_at 21 = .ok (.iadd, 1) := by decide +kernel
theorem dX4_at_22 : decode cX4_at 22 = .ok (.bipush 12, 2) := by decide +kernel
theorem dX4_at_24 : decode cX4_at 24 = .ok (.iadd, 1) := by decide +kernel
theorem dX4_at_25 : decode cX4_at 25 = .ok (.iconst 1, 1) := by decide +kernel
theorem dX4_at_26 : decode cX4_at 26 = .ok (.isub, 1) := by decide +kernel
theorem dX4_at_27 : decode cX4_at 27 = .ok (.iload_n 0, 1) := by decide +kernel
theorem dX4_at_28 : decode cX4_at 28 = .ok (.isub, 1) := by decide +kernel
theorem dX4_at_29 : decode cX4_at 29 = .ok (.ireturn, 1) := by decide +kernel
theorem dX4_xOf_0 : decode cX4_xOf 0 = .ok (.iload_n 0, 1) := by decide +kernel
theorem dX4_xOf_1 : decode cX4_xOf 1 = .ok (.ifCond .ne 10, 3) := by decide +kernel
theorem dX4_xOf_4 : decode cX4_xOf 4 = .ok (.iload_n 1, 1) := by decide +kernel
theorem dX4_xOf_5 : decode cX4_xOf 5 = .ok (.bipush 6, 2) := by decide +kernel
theorem dX4_xOf_7 : decode cX4_xOf 7 = .ok (.irem, 1) := by decide +kernel
theorem dX4_xOf_8 : decode cX4_xOf 8 = .ok (.goto 10, 3) := by decide +kernel
theorem dX4_xOf_11 : decode cX4_xOf 11 = .ok (.bipush 11, 2) := by decide +kernel
theorem dX4_xOf_13 : decode cX4_xOf 13 = .ok (.iload_n 1, 1) := by decide +kernel
theorem dX4_xOf_14 : decode cX4_xOf 14 = .ok (.bipush 6, 2) := by decide +kernel
theorem dX4_xOf_16 : decode cX4_xOf 16 = .ok (.irem, 1) := by decide +kernel
theorem dX4_xOf_17 : decode cX4_xOf 17 = .ok (.isub, 1) := by decide +kernel
theorem dX4_xOf_18 : decode cX4_xOf 18 = .ok (.ireturn, 1) := by decide +kernel
set_option maxRecDepth 20000 in
theorem ggX4_colour_X4_at : GoodIn wsX4_colour wsX4_at := goodIn_r _ [5] (by decide +kernel) (by decide +kernel)
set_option maxRecDepth 20000 in
theorem gX4_colour_X4_at : GoodIn wsX4_colour (va_wsS RX4 36 yX4_at wsX4_at) := goodIn_app (goodIn_of _ (by decide +kernel)) ggX4_colour_X4_at
set_option maxRecDepth 20000 in
theorem ggX4_colour_X4_pe : GoodIn wsX4_colour wsX4_pe := goodIn_r _ [9, 10, 11, 12, 13, 14, 15, 16, 17] (by decide +kernel) (by decide +kernel)
set_option maxRecDepth 20000 in
theorem gX4_colour_X4_pe : GoodIn wsX4_colour (wsV RX4 40 RX4 yX4_pe wsX4_pe) := goodIn_app (goodIn_of _ (by decide +kernel)) ggX4_colour_X4_pe
theorem dX4_colour_0 : decode cX4_colour 0 = .ok (.iload_n 1, 1) := by decide +kernel
theorem dX4_colour_1 : decode cX4_colour 1 = .ok (.bipush 6, 2) := by decide +kernel
theorem dX4_colour_3 : decode cX4_colour 3 = .ok (.idiv, 1) := by decide +kernel
theorem dX4_colour_4 : decode cX4_colour 4 = .ok (.istore_n 3, 1) := by decide +kernel
theorem dX4_colour_5 : decode cX4_colour 5 = .ok (.iload_n 1, 1) := by decide +kernel
theorem dX4_colour_6 : decode cX4_colour 6 = .ok (.iload_n 2, 1) := by decide +kernel
theorem dX4_colour_7 : decode cX4_colour 7 = .ok (.invokestatic 36, 3) := by decide +kernel
theorem dX4_colour_10 : decode cX4_colour 10 = .ok (.bipush 60, 2) := by decide +kernel
theorem dX4_colour_12 : decode cX4_colour 12 = .ok (.iload_n 3, 1) := by decide +kernel
theorem dX4_colour_13 : decode cX4_colour 13 = .ok (.imul, 1) := by decide +kernel
theorem dX4_colour_14 : decode cX4_colour 14 = .ok (.isub, 1) := by decide +kernel
theorem dX4_colour_15 : decode cX4_colour 15 = .ok (.aload_n 0, 1) := by decide +kernel
theorem dX4_colour_16 : decode cX4_colour 16 = .ok (.iload_n 3, 1) := by decide +kernel
theorem dX4_colour_17 : decode cX4_colour 17 = .ok (.iconst 1, 1) := by decide +kernel
theorem dX4_colour_18 : decode cX4_colour 18 = .ok (.invokevirtual 40, 3) := by decide +kernel
theorem dX4_colour_21 : decode cX4_colour 21 = .ok (.if_icmp .ge 16, 3) := by decide +kernel
theorem dX4_colour_24 : decode cX4_colour 24 = .ok (.aload_n 0, 1) := by decide +kernel
theorem dX4_colour_25 : decode cX4_colour 25 = .ok (.getfield 13, 3) := by decide +kernel
theorem dX4_colour_28 : decode cX4_colour 28 = .ok (.iload_n 1, 1) := by decide +kernel
theorem dX4_colour_29 : decode cX4_colour 29 = .ok (.iload_n 2, 1) := by decide +kernel
theorem dX4_colour_30 : decode cX4_colour 30 = .ok (.invokestatic 36, 3) := by decide +kernel
theorem dX4_colour_33 : decode cX4_colour 33 = .ok (.iaload, 1) := by decide +kernel
theorem dX4_colour_34 : decode cX4_colour 34 = .ok (.goto 4, 3) := by decide +kernel
theorem dX4_colour_37 : decode cX4_colour 37 = .ok (.iconst (-1), 1) := by decide +kernel
theorem dX4_colour_38 : decode cX4_colour 38 = .ok (.ireturn, 1) := by decide +kernel
set_option maxRecDepth 20000 in
theorem ggX4_plan_X4_isCell : GoodIn wsX4_plan wsX4_isCell := goodIn_r _ [6, 7, 8, 5, 9] (by decide +kernel) (by decide +kernel)
set_option maxRecDepth 20000 in
theorem gX4_plan_X4_isCell : GoodIn wsX4_plan (va_wsS RX4 43 yX4_isCell wsX4_isCell) := goodIn_app (goodIn_of _ (by decide +kernel)) ggX4_plan_X4_isCell
set_option maxRecDepth 20000 in
theorem ggX4_plan_X4_fail : GoodIn wsX4_plan wsX4_fail := goodIn_r _ [13, 1, 20, 21, 22, 23, 24, 25, 26] (by decide +kernel) (by decide +kernel)
set_option maxRecDepth 20000 in
theorem gX4_plan_X4_fail : GoodIn wsX4_plan (wsV RX4 47 RX4 yX4_fail wsX4_fail) := goodIn_app (goodIn_of _ (by decide +kernel)) ggX4_plan_X4_fail
set_option maxRecDepth 20000 in
theorem ggX4_plan_X4_isIn : GoodIn wsX4_plan wsX4_isIn := goodIn_r _ [9] (by decide +kernel) (by decide +kernel)
set_option maxRecDepth 20000 in
theorem gX4_plan_X4_isIn : GoodIn wsX4_plan (va_wsS RX4 32 yX4_isIn wsX4_isIn) := goodIn_app (goodIn_of _ (by decide +kernel)) ggX4_plan_X4_isIn
set_option maxRecDepth 20000 in
theorem ggX4_plan_X4_isColour : GoodIn wsX4_plan wsX4_isColour := goodIn_r _ [16, 7, 8, 5, 9] (by decide +kernel) (by decide +kernel)
set_option maxRecDepth 20000 in
theorem gX4_plan_X4_isColour : GoodIn wsX4_plan (va_wsS RX4 51 yX4_isColour wsX4_isColour) := goodIn_app (goodIn_of _ (by decide +kernel)) ggX4_plan_X4_isColour
set_option maxRecDepth 20000 in
theorem ggX4_plan_X4_at : GoodIn wsX4_plan wsX4_at := goodIn_r _ [19] (by decide +kernel) (by decide +kernel)
set_option maxRecDepth 20000 in
theorem gX4_plan_X4_at : GoodIn wsX4_plan (va_wsS RX4 36 yX4_at wsX4_at) := goodIn_app (goodIn_of _ (by decide +kernel)) ggX4_plan_X4_at
theorem dX4_plan_0 : decode cX4_plan 0 = .ok (.aload_n 0, 1) := by decide +kernel
theorem dX4_plan_1 : decode cX4_plan 1 = .ok (.iconst 0, 1) := by decide +kernel
theorem dX4_plan_2 : decode cX4_plan 2 = .ok (.putfield 28, 3) := by decide +kernel
theorem dX4_plan_5 : decode cX4_plan 5 = .ok (.iload_n 1, 1) := by decide +kernel
theorem dX4_plan_6 : decode cX4_plan 6 = .ok (.iload_n 2, 1) := by decide +kernel
theorem dX4_plan_7 : decode cX4_plan 7 = .ok (.invokestatic 43, 3) := by decide +kernel
theorem dX4_plan_10 : decode cX4_plan 10 = .ok (.ifCond .ne 9, 3) := by decide +kernel
theorem dX4_plan_13 : decode cX4_plan 13 = .ok (.aload_n 0, 1) := by decide +kernel
theorem dX4_plan_14 : decode cX4_plan 14 = .ok (.iconst 1, 1) := by decide +kernel
theorem dX4_plan_15 : decode cX4_plan 15 = .ok (.invokevirtual 47, 3) := by decide +kernel
theorem dX4_plan_18 : decode cX4_plan 18 = .ok (.ireturn, 1) := by decide +kernel
theorem dX4_plan_19 : decode cX4_plan 19 = .ok (.iload_n 3, 1) := by decide +kernel
theorem dX4_plan_20 : decode cX4_plan 20 = .ok (.iconst 1, 1) := by decide +kernel
theorem dX4_plan_21 : decode cX4_plan 21 = .ok (.bipush 12, 2) := by decide +kernel
theorem dX4_plan_23 : decode cX4_plan 23 = .ok (.iload_n 1, 1) := by decide +kernel
theorem dX4_plan_24 : decode cX4_plan 24 = .ok (.isub, 1) := by decide +kernel
theorem dX4_plan_25 : decode cX4_plan 25 = .ok (.invokestatic 32, 3) := by decide +kernel
theorem dX4_plan_28 : decode cX4_plan 28 = .ok (.ifCond .eq 24, 3) := by decide +kernel
theorem dX4_plan_31 : decode cX4_plan 31 = .ok (.iload 4, 2) := by decide +kernel
theorem dX4_plan_33 : decode cX4_plan 33 = .ok (.iconst 1, 1) := by decide +kernel
theorem dX4_plan_34 : decode cX4_plan 34 = .ok (.bipush 10, 2) := by decide +kernel
theorem dX4_plan_36 : decode cX4_plan 36 = .ok (.iload_n 2, 1) := by decide +kernel
theorem dX4_plan_37 : decode cX4_plan 37 = .ok (.isub, 1) := by decide +kernel
theorem dX4_plan_38 : decode cX4_plan 38 = .ok (.invokestatic 32, 3) := by decide +kernel
theorem dX4_plan_41 : decode cX4_plan 41 = .ok (.ifCond .eq 11, 3) := by decide +kernel
theorem dX4_plan_44 : decode cX4_plan 44 = .ok (.iload 5, 2) := by decide +kernel
theorem dX4_plan_46 : decode cX4_plan 46 = .ok (.invokestatic 51, 3) := by decide +kernel
theorem dX4_plan_49 : decode cX4_plan 49 = .ok (.ifCond .ne 9, 3) := by decide +kernel
theorem dX4_plan_52 : decode cX4_plan 52 = .ok (.aload_n 0, 1) := by decide +kernel
theorem dX4_plan_53 : decode cX4_plan 53 = .ok (.iconst 2, 1) := by decide +kernel
theorem dX4_plan_54 : decode cX4_plan 54 = .ok (.invokevirtual 47, 3) := by decide +kernel
theorem dX4_plan_57 : decode cX4_plan 57 = .ok (.ireturn, 1) := by decide +kernel
theorem dX4_plan_58 : decode cX4_plan 58 = .ok (.iconst 0, 1) := by decide +kernel
theorem dX4_plan_59 : decode cX4_plan 59 = .ok (.istore 6, 2) := by decide +kernel
theorem dX4_plan_61 : decode cX4_plan 61 = .ok (.iload_n 1, 1) := by decide +kernel
theorem dX4_plan_62 : decode cX4_plan 62 = .ok (.istore 7, 2) := by decide +kernel
theorem dX4_plan_64 : decode cX4_plan 64 = .ok (.iload 7, 2) := by decide +kernel
theorem dX4_plan_66 : decode cX4_plan 66 = .ok (.iload_n 1, 1) := by decide +kernel
theorem dX4_plan_67 : decode cX4_plan 67 = .ok (.iload_n 3, 1) := by decide +kernel
theorem dX4_plan_68 : decode cX4_plan 68 = .ok (.iadd, 1) := by decide +kernel
theorem dX4_plan_69 : decode cX4_plan 69 = .ok (.if_icmp .ge 68, 3) := by decide +kernel
theorem dX4_plan_72 : decode cX4_plan 72 = .ok (.iload_n 2, 1) := by decide +kernel
theorem dX4_plan_73 : decode cX4_plan 73 = .ok (.istore 8, 2) := by decide +kernel
theorem dX4_plan_75 : decode cX4_plan 75 = .ok (.iload 8, 2) := by decide +kernel
theorem dX4_plan_77 : decode cX4_plan 77 = .ok (.iload_n 2, 1) := by decide +kernel
theorem dX4_plan_78 : decode cX4_plan 78 = .ok (.iload 4, 2) := by decide +kernel
theorem dX4_plan_80 : decode cX4_plan 80 = .ok (.iadd, 1) := by decide +kernel
theorem dX4_plan_81 : decode cX4_plan 81 = .ok (.if_icmp .ge 50, 3) := by decide +kernel
theorem dX4_plan_84 : decode cX4_plan 84 = .ok (.iload 6, 2) := by decide +kernel
theorem dX4_plan_86 : decode cX4_plan 86 = .ok (.aload_n 0, 1) := by decide +kernel
theorem dX4_plan_87 : decode cX4_plan 87 = .ok (.getfield 16, 3) := by decide +kernel
theorem dX4_plan_90 : decode cX4_plan 90 = .ok (.iload 7, 2) := by decide +kernel
theorem dX4_plan_92 : decode cX4_plan 92 = .ok (.iload 8, 2) := by decide +kernel
theorem dX4_plan_94 : decode cX4_plan 94 = .ok (.invokestatic 36, 3) := by decide +kernel
theorem dX4_plan_97 : decode cX4_plan 97 = .ok (.iaload, 1) := by decide +kernel
theorem dX4_plan_98 : decode cX4_plan 98 = .ok (.iload 5, 2) := by decide +kernel
theorem dX4_plan_100 : decode cX4_plan 100 = .ok (.if_icmp .ne 7, 3) := by decide +kernel
theorem dX4_plan_103 : decode cX4_plan 103 = .ok (.iconst 0, 1) := by decide +kernel
theorem dX4_plan_104 : decode cX4_plan 104 = .ok (.goto 4, 3) := by decide +kernel
theorem dX4_plan_107 : decode cX4_plan 107 = .ok (.iconst 1, 1) := by decide +kernel
theorem dX4_plan_108 : decode cX4_plan 108 = .ok (.iadd, 1) := by decide +kernel
theorem dX4_plan_109 : decode cX4_plan 109 = .ok (.istore 6, 2) := by decide +kernel
theorem dX4_plan_111 : decode cX4_plan 111 = .ok (.aload_n 0, 1) := by decide +kernel
theorem dX4_plan_112 : decode cX4_plan 112 = .ok (.getfield 16, 3) := by decide +kernel
theorem dX4_plan_115 : decode cX4_plan 115 = .ok (.iload 7, 2) := by decide +kernel
theorem dX4_plan_117 : decode cX4_plan 117 = .ok (.iload 8, 2) := by decide +kernel
theorem dX4_plan_119 : decode cX4_plan 119 = .ok (.invokestatic 36, 3) := by decide +kernel
theorem dX4_plan_122 : decode cX4_plan 122 = .ok (.iload 5, 2) := by decide +kernel
theorem dX4_plan_124 : decode cX4_plan 124 = .ok (.iastore, 1) := by decide +kernel
theorem dX4_plan_125 : decode cX4_plan 125 = .ok (.iinc 8 1, 3) := by decide +kernel
theorem dX4_plan_128 : decode cX4_plan 128 = .ok (.goto (-53), 3) := by decide +kernel
theorem dX4_plan_131 : decode cX4_plan 131 = .ok (.iinc 7 1, 3) := by decide +kernel
theorem dX4_plan_134 : decode cX4_plan 134 = .ok (.goto (-70), 3) := by decide +kernel
theorem dX4_plan_137 : decode cX4_plan 137 = .ok (.iload 6, 2) := by decide +kernel
theorem dX4_plan_139 : decode cX4_plan 139 = .ok (.ireturn, 1) := by decide +kernel
set_option maxRecDepth 20000 in
theorem ggX4_bring_X4_isColour : GoodIn wsX4_bring wsX4_isColour := goodIn_r _ [10, 11, 12, 9, 13] (by decide +kernel) (by decide +kernel)
set_option maxRecDepth 20000 in
theorem gX4_bring_X4_isColour : GoodIn wsX4_bring (va_wsS RX4 51 yX4_isColour wsX4_isColour) := goodIn_app (goodIn_of _ (by decide +kernel)) ggX4_bring_X4_isColour
set_option maxRecDepth 20000 in
theorem ggX4_bring_X4_isIn : GoodIn wsX4_bring wsX4_isIn := goodIn_r _ [13] (by decide +kernel) (by decide +kernel)
set_option maxRecDepth 20000 in
theorem gX4_bring_X4_isIn : GoodIn wsX4_bring (va_wsS RX4 32 yX4_isIn wsX4_isIn) := goodIn_app (goodIn_of _ (by decide +kernel)) ggX4_bring_X4_isIn
set_option maxRecDepth 20000 in
theorem ggX4_bring_X4_fail : GoodIn wsX4_bring wsX4_fail := goodIn_r _ [17, 1, 18, 19, 20, 21, 22, 23, 24] (by decide +kernel) (by decide +kernel)
set_option maxRecDepth 20000 in
theorem gX4_bring_X4_fail : GoodIn wsX4_bring (wsV RX4 47 RX4 yX4_fail wsX4_fail) := goodIn_app (goodIn_of _ (by decide +kernel)) ggX4_bring_X4_fail
theorem dX4_bring_0 : decode cX4_bring 0 = .ok (.aload_n 0, 1) := by decide +kernel
theorem dX4_bring_1 : decode cX4_bring 1 = .ok (.iconst 0, 1) := by decide +kernel
theorem dX4_bring_2 : decode cX4_bring 2 = .ok (.putfield 28, 3) := by decide +kernel
theorem dX4_bring_5 : decode cX4_bring 5 = .ok (.iload_n 1, 1) := by decide +kernel
theorem dX4_bring_6 : decode cX4_bring 6 = .ok (.invokestatic 51, 3) := by decide +kernel
theorem dX4_bring_9 : decode cX4_bring 9 = .ok (.ifCond .eq 14, 3) := by decide +kernel
theorem dX4_bring_12 : decode cX4_bring 12 = .ok (.iload_n 2, 1) := by decide +kernel
theorem dX4_bring_13 : decode cX4_bring 13 = .ok (.iconst 1, 1) := by decide +kernel
theorem dX4_bring_14 : decode cX4_bring 14 = .ok (.sipush 200, 3) := by decide +kernel
theorem dX4_bring_17 : decode cX4_bring 17 = .ok (.invokestatic 32, 3) := by decide +kernel
theorem dX4_bring_20 : decode cX4_bring 20 = .ok (.ifCond .ne 9, 3) := by decide +kernel
theorem dX4_bring_23 : decode cX4_bring 23 = .ok (.aload_n 0, 1) := by decide +kernel
theorem dX4_bring_24 : decode cX4_bring 24 = .ok (.iconst 1, 1) := by decide +kernel
theorem dX4_bring_25 : decode cX4_bring 25 = .ok (.invokevirtual 47, 3) := by decide +kernel
theorem dX4_bring_28 : decode cX4_bring 28 = .ok (.ireturn, 1) := by decide +kernel
theorem dX4_bring_29 : decode cX4_bring 29 = .ok (.aload_n 0, 1) := by decide +kernel
theorem dX4_bring_30 : decode cX4_bring 30 = .ok (.getfield 22, 3) := by decide +kernel
theorem dX4_bring_33 : decode cX4_bring 33 = .ok (.iload_n 1, 1) := by decide +kernel
theorem dX4_bring_34 : decode cX4_bring 34 = .ok (.sipush 200, 3) := by decide +kernel
theorem dX4_bring_37 : decode cX4_bring 37 = .ok (.aload_n 0, 1) := by decide +kernel
theorem dX4_bring_38 : decode cX4_bring 38 = .ok (.getfield 22, 3) := by decide +kernel
theorem dX4_bring_41 : decode cX4_bring 41 = .ok (.iload_n 1, 1) := by decide +kernel
theorem dX4_bring_42 : decode cX4_bring 42 = .ok (.iaload, 1) := by decide +kernel
theorem dX4_bring_43 : decode cX4_bring 43 = .ok (.iload_n 2, 1) := by decide +kernel
theorem dX4_bring_44 : decode cX4_bring 44 = .ok (.iadd, 1) := by decide +kernel
theorem dX4_bring_45 : decode cX4_bring 45 = .ok (.invokestatic 55, 3) := by decide +kernel
theorem dX4_bring_48 : decode cX4_bring 48 = .ok (.iastore, 1) := by decide +kernel
theorem dX4_bring_49 : decode cX4_bring 49 = .ok (.aload_n 0, 1) := by decide +kernel
theorem dX4_bring_50 : decode cX4_bring 50 = .ok (.getfield 22, 3) := by decide +kernel
theorem dX4_bring_53 : decode cX4_bring 53 = .ok (.iload_n 1, 1) := by decide +kernel
theorem dX4_bring_54 : decode cX4_bring 54 = .ok (.iaload, 1) := by decide +kernel
theorem dX4_bring_55 : decode cX4_bring 55 = .ok (.ireturn, 1) := by decide +kernel
set_option maxRecDepth 20000 in
theorem ggX4_setSpeed_X4_isWeaver : GoodIn wsX4_setSpeed wsX4_isWeaver := goodIn_r _ [5, 6, 7, 4, 8] (by decide +kernel) (by decide +kernel)
set_option maxRecDepth 20000 in
theorem gX4_setSpeed_X4_isWeaver : GoodIn wsX4_setSpeed (va_wsS RX4 60 yX4_isWeaver wsX4_isWeaver) := goodIn_app (goodIn_of _ (by decide +kernel)) ggX4_setSpeed_X4_isWeaver
set_option maxRecDepth 20000 in
theorem ggX4_setSpeed_X4_fail : GoodIn wsX4_setSpeed wsX4_fail := goodIn_r _ [12, 1, 22, 23, 24, 25, 26, 27, 28] (by decide +kernel) (by decide +kernel)
set_option maxRecDepth 20000 in
theorem gX4_setSpeed_X4_fail : GoodIn wsX4_setSpeed (wsV RX4 47 RX4 yX4_fail wsX4_fail) := goodIn_app (goodIn_of _ (by decide +kernel)) ggX4_setSpeed_X4_fail
set_option maxRecDepth 20000 in
theorem ggX4_setSpeed_X4_isIn : GoodIn wsX4_setSpeed wsX4_isIn := goodIn_r _ [8] (by decide +kernel) (by decide +kernel)
set_option maxRecDepth 20000 in
theorem gX4_setSpeed_X4_isIn : GoodIn wsX4_setSpeed (va_wsS RX4 32 yX4_isIn wsX4_isIn) := goodIn_app (goodIn_of _ (by decide +kernel)) ggX4_setSpeed_X4_isIn
set_option maxRecDepth 20000 in
theorem ggX4_setSpeed_X4_pe : GoodIn wsX4_setSpeed wsX4_pe := goodIn_r _ [16, 17, 22, 23, 24, 25, 26, 27, 28] (by decide +kernel) (by decide +kernel)
set_option maxRecDepth 20000 in
theorem gX4_setSpeed_X4_pe : GoodIn wsX4_setSpeed (wsV RX4 40 RX4 yX4_pe wsX4_pe) := goodIn_app (goodIn_of _ (by decide +kernel)) ggX4_setSpeed_X4_pe
set_option maxRecDepth 20000 in
theorem ggX4_setSpeed_X4_put : GoodIn wsX4_setSpeed wsX4_put := goodIn_r _ [21, 17, 22, 23, 24, 25, 26, 27, 28] (by decide +kernel) (by decide +kernel)
set_option maxRecDepth 20000 in
theorem gX4_setSpeed_X4_put : GoodIn wsX4_setSpeed (wsV RX4 63 RX4 yX4_put wsX4_put) := goodIn_app (goodIn_of _ (by decide +kernel)) ggX4_setSpeed_X4_put
theorem dX4_setSpeed_0 : decode cX4_setSpeed 0 = .ok (.aload_n 0, 1) := by decide +kernel
theorem dX4_setSpeed_1 : decode cX4_setSpeed 1 = .ok (.iconst 0, 1) := by decide +kernel
theorem dX4_setSpeed_2 : decode cX4_setSpeed 2 = .ok (.putfield 28, 3) := by decide +kernel
theorem dX4_setSpeed_5 : decode cX4_setSpeed 5 = .ok (.iload_n 1, 1) := by decide +kernel
theorem dX4_setSpeed_6 : decode cX4_setSpeed 6 = .ok (.invokestatic 60, 3) := by decide +kernel
theorem dX4_setSpeed_9 : decode cX4_setSpeed 9 = .ok (.ifCond .ne 9, 3) := by decide +kernel
theorem dX4_setSpeed_12 : decode cX4_setSpeed 12 = .ok (.aload_n 0, 1) := by decide +kernel
theorem dX4_setSpeed_13 : decode cX4_setSpeed 13 = .ok (.iconst 1, 1) := by decide +kernel
theorem dX4_setSpeed_14 : decode cX4_setSpeed 14 = .ok (.invokevirtual 47, 3) := by decide +kernel
theorem dX4_setSpeed_17 : decode cX4_setSpeed 17 = .ok (.ireturn, 1) := by decide +kernel
theorem dX4_setSpeed_18 : decode cX4_setSpeed 18 = .ok (.iload_n 2, 1) := by decide +kernel
theorem dX4_setSpeed_19 : decode cX4_setSpeed 19 = .ok (.iconst 1, 1) := by decide +kernel
theorem dX4_setSpeed_20 : decode cX4_setSpeed 20 = .ok (.bipush 6, 2) := by decide +kernel
theorem dX4_setSpeed_22 : decode cX4_setSpeed 22 = .ok (.invokestatic 32, 3) := by decide +kernel
theorem dX4_setSpeed_25 : decode cX4_setSpeed 25 = .ok (.ifCond .ne 9, 3) := by decide +kernel
theorem dX4_setSpeed_28 : decode cX4_setSpeed 28 = .ok (.aload_n 0, 1) := by decide +kernel
theorem dX4_setSpeed_29 : decode cX4_setSpeed 29 = .ok (.iconst 2, 1) := by decide +kernel
theorem dX4_setSpeed_30 : decode cX4_setSpeed 30 = .ok (.invokevirtual 47, 3) := by decide +kernel
theorem dX4_setSpeed_33 : decode cX4_setSpeed 33 = .ok (.ireturn, 1) := by decide +kernel
theorem dX4_setSpeed_34 : decode cX4_setSpeed 34 = .ok (.aload_n 0, 1) := by decide +kernel
theorem dX4_setSpeed_35 : decode cX4_setSpeed 35 = .ok (.iload_n 1, 1) := by decide +kernel
theorem dX4_setSpeed_36 : decode cX4_setSpeed 36 = .ok (.iconst 0, 1) := by decide +kernel
theorem dX4_setSpeed_37 : decode cX4_setSpeed 37 = .ok (.invokevirtual 40, 3) := by decide +kernel
theorem dX4_setSpeed_40 : decode cX4_setSpeed 40 = .ok (.istore_n 3, 1) := by decide +kernel
theorem dX4_setSpeed_41 : decode cX4_setSpeed 41 = .ok (.aload_n 0, 1) := by decide +kernel
theorem dX4_setSpeed_42 : decode cX4_setSpeed 42 = .ok (.iload_n 1, 1) := by decide +kernel
theorem dX4_setSpeed_43 : decode cX4_setSpeed 43 = .ok (.iconst 0, 1) := by decide +kernel
theorem dX4_setSpeed_44 : decode cX4_setSpeed 44 = .ok (.iload_n 2, 1) := by decide +kernel
theorem dX4_setSpeed_45 : decode cX4_setSpeed 45 = .ok (.invokevirtual 63, 3) := by decide +kernel
theorem dX4_setSpeed_48 : decode cX4_setSpeed 48 = .ok (.iload_n 3, 1) := by decide +kernel
theorem dX4_setSpeed_49 : decode cX4_setSpeed 49 = .ok (.ireturn, 1) := by decide +kernel
theorem dX4_runAt_0 : decode cX4_runAt 0 = .ok (.iconst 2, 1) := by decide +kernel
theorem dX4_runAt_1 : decode cX4_runAt 1 = .ok (.bipush 20, 2) := by decide +kernel
theorem dX4_runAt_3 : decode cX4_runAt 3 = .ok (.iload_n 1, 1) := by decide +kernel
theorem dX4_runAt_4 : decode cX4_runAt 4 = .ok (.imul, 1) := by decide +kernel
theorem dX4_runAt_5 : decode cX4_runAt 5 = .ok (.iload_n 2, 1) := by decide +kernel
theorem dX4_runAt_6 : decode cX4_runAt 6 = .ok (.iadd, 1) := by decide +kernel
theorem dX4_runAt_7 : decode cX4_runAt 7 = .ok (.imul, 1) := by decide +kernel
theorem dX4_runAt_8 : decode cX4_runAt 8 = .ok (.ireturn, 1) := by decide +kernel
set_option maxRecDepth 20000 in
theorem ggX4_tell_X4_isWeaver : GoodIn wsX4_tell wsX4_isWeaver := goodIn_r _ [6, 7, 8, 5, 9] (by decide +kernel) (by decide +kernel)
set_option maxRecDepth 20000 in
theorem gX4_tell_X4_isWeaver : GoodIn wsX4_tell (va_wsS RX4 60 yX4_isWeaver wsX4_isWeaver) := goodIn_app (goodIn_of _ (by decide +kernel)) ggX4_tell_X4_isWeaver
set_option maxRecDepth 20000 in
theorem ggX4_tell_X4_fail : GoodIn wsX4_tell wsX4_fail := goodIn_r _ [13, 1, 30, 31, 32, 33, 34, 35, 36] (by decide +kernel) (by decide +kernel)
set_option maxRecDepth 20000 in
theorem gX4_tell_X4_fail : GoodIn wsX4_tell (wsV RX4 47 RX4 yX4_fail wsX4_fail) := goodIn_app (goodIn_of _ (by decide +kernel)) ggX4_tell_X4_fail
set_option maxRecDepth 20000 in
theorem ggX4_tell_X4_isColour : GoodIn wsX4_tell wsX4_isColour := goodIn_r _ [16, 7, 8, 5, 9] (by decide +kernel) (by decide +kernel)
set_option maxRecDepth 20000 in
theorem gX4_tell_X4_isColour : GoodIn wsX4_tell (va_wsS RX4 51 yX4_isColour wsX4_isColour) := goodIn_app (goodIn_of _ (by decide +kernel)) ggX4_tell_X4_isColour
set_option maxRecDepth 20000 in
theorem ggX4_tell_X4_isIn : GoodIn wsX4_tell wsX4_isIn := goodIn_r _ [9] (by decide +kernel) (by decide +kernel)
set_option maxRecDepth 20000 in
theorem gX4_tell_X4_isIn : GoodIn wsX4_tell (va_wsS RX4 32 yX4_isIn wsX4_isIn) := goodIn_app (goodIn_of _ (by decide +kernel)) ggX4_tell_X4_isIn
set_option maxRecDepth 20000 in
theorem ggX4_tell_X4_pe : GoodIn wsX4_tell wsX4_pe := goodIn_r _ [20, 21, 30, 31, 32, 33, 34, 35, 36] (by decide +kernel) (by decide +kernel)
set_option maxRecDepth 20000 in
theorem gX4_tell_X4_pe : GoodIn wsX4_tell (wsV RX4 40 RX4 yX4_pe wsX4_pe) := goodIn_app (goodIn_of _ (by decide +kernel)) ggX4_tell_X4_pe
set_option maxRecDepth 20000 in
theorem ggX4_tell_X4_runAt : GoodIn wsX4_tell wsX4_runAt := goodIn_r _ [25] (by decide +kernel) (by decide +kernel)
set_option maxRecDepth 20000 in
theorem gX4_tell_X4_runAt : GoodIn wsX4_tell (wsV RX4 67 RX4 yX4_runAt wsX4_runAt) := goodIn_app (goodIn_of _ (by decide +kernel)) ggX4_tell_X4_runAt
set_option maxRecDepth 20000 in
theorem ggX4_tell_X4_put : GoodIn wsX4_tell wsX4_put := goodIn_r _ [29, 21, 30, 31, 32, 33, 34, 35, 36] (by decide +kernel) (by decide +kernel)
set_option maxRecDepth 20000 in
theorem gX4_tell_X4_put : GoodIn wsX4_tell (wsV RX4 63 RX4 yX4_put wsX4_put) := goodIn_app (goodIn_of _ (by decide +kernel)) ggX4_tell_X4_put
theorem dX4_tell_0 : decode cX4_tell 0 = .ok (.aload_n 0, 1) := by decide +kernel
theorem dX4_tell_1 : decode cX4_tell 1 = .ok (.iconst 0, 1) := by decide +kernel
theorem dX4_tell_2 : decode cX4_tell 2 = .ok (.putfield 28, 3) := by decide +kernel
theorem dX4_tell_5 : decode cX4_tell 5 = .ok (.iload_n 1, 1) := by decide +kernel
theorem dX4_tell_6 : decode cX4_tell 6 = .ok (.invokestatic 60, 3) := by decide +kernel
theorem dX4_tell_9 : decode cX4_tell 9 = .ok (.ifCond .ne 9, 3) := by decide +kernel
theorem dX4_tell_12 : decode cX4_tell 12 = .ok (.aload_n 0, 1) := by decide +kernel
theorem dX4_tell_13 : decode cX4_tell 13 = .ok (.iconst 1, 1) := by decide +kernel
theorem dX4_tell_14 : decode cX4_tell 14 = .ok (.invokevirtual 47, 3) := by decide +kernel
theorem dX4_tell_17 : decode cX4_tell 17 = .ok (.ireturn, 1) := by decide +kernel
theorem dX4_tell_18 : decode cX4_tell 18 = .ok (.iload_n 2, 1) := by decide +kernel
theorem dX4_tell_19 : decode cX4_tell 19 = .ok (.invokestatic 51, 3) := by decide +kernel
theorem dX4_tell_22 : decode cX4_tell 22 = .ok (.ifCond .eq 13, 3) := by decide +kernel
theorem dX4_tell_25 : decode cX4_tell 25 = .ok (.iload_n 3, 1) := by decide +kernel
theorem dX4_tell_26 : decode cX4_tell 26 = .ok (.iconst 1, 1) := by decide +kernel
theorem dX4_tell_27 : decode cX4_tell 27 = .ok (.bipush 60, 2) := by decide +kernel
theorem dX4_tell_29 : decode cX4_tell 29 = .ok (.invokestatic 32, 3) := by decide +kernel
theorem dX4_tell_32 : decode cX4_tell 32 = .ok (.ifCond .ne 9, 3) := by decide +kernel
theorem dX4_tell_35 : decode cX4_tell 35 = .ok (.aload_n 0, 1) := by decide +kernel
theorem dX4_tell_36 : decode cX4_tell 36 = .ok (.iconst 2, 1) := by decide +kernel
theorem dX4_tell_37 : decode cX4_tell 37 = .ok (.invokevirtual 47, 3) := by decide +kernel
theorem dX4_tell_40 : decode cX4_tell 40 = .ok (.ireturn, 1) := by decide +kernel
theorem dX4_tell_41 : decode cX4_tell 41 = .ok (.aload_n 0, 1) := by decide +kernel
theorem dX4_tell_42 : decode cX4_tell 42 = .ok (.iload_n 1, 1) := by decide +kernel
theorem dX4_tell_43 : decode cX4_tell 43 = .ok (.iconst 2, 1) := by decide +kernel
theorem dX4_tell_44 : decode cX4_tell 44 = .ok (.invokevirtual 40, 3) := by decide +kernel
theorem dX4_tell_47 : decode cX4_tell 47 = .ok (.istore 4, 2) := by decide +kernel
theorem dX4_tell_49 : decode cX4_tell 49 = .ok (.iload 4, 2) := by decide +kernel
theorem dX4_tell_51 : decode cX4_tell 51 = .ok (.bipush 20, 2) := by decide +kernel
theorem dX4_tell_53 : decode cX4_tell 53 = .ok (.if_icmp .ne 9, 3) := by decide +kernel
theorem dX4_tell_56 : decode cX4_tell 56 = .ok (.aload_n 0, 1) := by decide +kernel
theorem dX4_tell_57 : decode cX4_tell 57 = .ok (.iconst 3, 1) := by decide +kernel
theorem dX4_tell_58 : decode cX4_tell 58 = .ok (.invokevirtual 47, 3) := by decide +kernel
theorem dX4_tell_61 : decode cX4_tell 61 = .ok (.ireturn, 1) := by decide +kernel
theorem dX4_tell_62 : decode cX4_tell 62 = .ok (.aload_n 0, 1) := by decide +kernel
theorem dX4_tell_63 : decode cX4_tell 63 = .ok (.getfield 19, 3) := by decide +kernel
theorem dX4_tell_66 : decode cX4_tell 66 = .ok (.aload_n 0, 1) := by decide +kernel
theorem dX4_tell_67 : decode cX4_tell 67 = .ok (.iload_n 1, 1) := by decide +kernel
theorem dX4_tell_68 : decode cX4_tell 68 = .ok (.iload 4, 2) := by decide +kernel
theorem dX4_tell_70 : decode cX4_tell 70 = .ok (.invokevirtual 67, 3) := by decide +kernel
theorem dX4_tell_73 : decode cX4_tell 73 = .ok (.iload_n 2, 1) := by decide +kernel
theorem dX4_tell_74 : decode cX4_tell 74 = .ok (.iastore, 1) := by decide +kernel
theorem dX4_tell_75 : decode cX4_tell 75 = .ok (.aload_n 0, 1) := by decide +kernel
theorem dX4_tell_76 : decode cX4_tell 76 = .ok (.getfield 19, 3) := by decide +kernel
theorem dX4_tell_79 : decode cX4_tell 79 = .ok (.aload_n 0, 1) := by decide +kernel
theorem dX4_tell_80 : decode cX4_tell 80 = .ok (.iload_n 1, 1) := by decide +kernel
theorem dX4_tell_81 : decode cX4_tell 81 = .ok (.iload 4, 2) := by decide +kernel
theorem dX4_tell_83 : decode cX4_tell 83 = .ok (.invokevirtual 67, 3) := by decide +kernel
theorem dX4_tell_86 : decode cX4_tell 86 = .ok (.iconst 1, 1) := by decide +kernel
theorem dX4_tell_87 : decode cX4_tell 87 = .ok (.iadd, 1) := by decide +kernel
theorem dX4_tell_88 : decode cX4_tell 88 = .ok (.iload_n 3, 1) := by decide +kernel
theorem dX4_tell_89 : decode cX4_tell 89 = .ok (.iastore, 1) := by decide +kernel
theorem dX4_tell_90 : decode cX4_tell 90 = .ok (.aload_n 0, 1) := by decide +kernel
theorem dX4_tell_91 : decode cX4_tell 91 = .ok (.iload_n 1, 1) := by decide +kernel
theorem dX4_tell_92 : decode cX4_tell 92 = .ok (.iconst 2, 1) := by decide +kernel
theorem dX4_tell_93 : decode cX4_tell 93 = .ok (.iload 4, 2) := by decide +kernel
theorem dX4_tell_95 : decode cX4_tell 95 = .ok (.iconst 1, 1) := by decide +kernel
theorem dX4_tell_96 : decode cX4_tell 96 = .ok (.iadd, 1) := by decide +kernel
theorem dX4_tell_97 : decode cX4_tell 97 = .ok (.invokevirtual 63, 3) := by decide +kernel
theorem dX4_tell_100 : decode cX4_tell 100 = .ok (.iload 4, 2) := by decide +kernel
theorem dX4_tell_102 : decode cX4_tell 102 = .ok (.iconst 1, 1) := by decide +kernel
theorem dX4_tell_103 : decode cX4_tell 103 = .ok (.iadd, 1) := by decide +kernel
theorem dX4_tell_104 : decode cX4_tell 104 = .ok (.ireturn, 1) := by decide +kernel
set_option maxRecDepth 20000 in
theorem ggX4_told_X4_pe : GoodIn wsX4_told wsX4_pe := goodIn_r _ [6, 7, 12, 13, 14, 15, 16, 17, 18] (by decide +kernel) (by decide +kernel)
set_option maxRecDepth 20000 in
theorem gX4_told_X4_pe : GoodIn wsX4_told (wsV RX4 40 RX4 yX4_pe wsX4_pe) := goodIn_app (goodIn_of _ (by decide +kernel)) ggX4_told_X4_pe
set_option maxRecDepth 20000 in
theorem ggX4_told_X4_runAt : GoodIn wsX4_told wsX4_runAt := goodIn_r _ [11] (by decide +kernel) (by decide +kernel)
set_option maxRecDepth 20000 in
theorem gX4_told_X4_runAt : GoodIn wsX4_told (wsV RX4 67 RX4 yX4_runAt wsX4_runAt) := goodIn_app (goodIn_of _ (by decide +kernel)) ggX4_told_X4_runAt
theorem dX4_told_0 : decode cX4_told 0 = .ok (.iconst 0, 1) := by decide +kernel
theorem dX4_told_1 : decode cX4_told 1 = .ok (.istore_n 2, 1) := by decide +kernel
theorem dX4_told_2 : decode cX4_told 2 = .ok (.iconst 0, 1) := by decide +kernel
theorem dX4_told_3 : decode cX4_told 3 = .ok (.istore_n 3, 1) := by decide +kernel
theorem dX4_told_4 : decode cX4_told 4 = .ok (.iload_n 3, 1) := by decide +kernel
theorem dX4_told_5 : decode cX4_told 5 = .ok (.aload_n 0, 1) := by decide +kernel
theorem dX4_told_6 : decode cX4_told 6 = .ok (.iload_n 1, 1) := by decide +kernel
theorem dX4_told_7 : decode cX4_told 7 = .ok (.iconst 2, 1) := by decide +kernel
theorem dX4_told_8 : decode cX4_told 8 = .ok (.invokevirtual 40, 3) := by decide +kernel
theorem dX4_told_11 : decode cX4_told 11 = .ok (.if_icmp .ge 25, 3) := by decide +kernel
theorem dX4_told_14 : decode cX4_told 14 = .ok (.iload_n 2, 1) := by decide +kernel
theorem dX4_told_15 : decode cX4_told 15 = .ok (.aload_n 0, 1) := by decide +kernel
theorem dX4_told_16 : decode cX4_told 16 = .ok (.getfield 19, 3) := by decide +kernel
theorem dX4_told_19 : decode cX4_told 19 = .ok (.aload_n 0, 1) := by decide +kernel
theorem dX4_told_20 : decode cX4_told 20 = .ok (.iload_n 1, 1) := by decide +kernel
theorem dX4_told_21 : decode cX4_told 21 = .ok (.iload_n 3, 1) := by decide +kernel
theorem dX4_told_22 : decode cX4_told 22 = .ok (.invokevirtual 67, 3) := by decide +kernel
theorem dX4_told_25 : decode cX4_told 25 = .ok (.iconst 1, 1) := by decide +kernel
theorem dX4_told_26 : decode cX4_told 26 = .ok (.iadd, 1) := by decide +kernel
theorem dX4_told_27 : decode cX4_told 27 = .ok (.iaload, 1) := by decide +kernel
theorem dX4_told_28 : decode cX4_told 28 = .ok (.iadd, 1) := by decide +kernel
theorem dX4_told_29 : decode cX4_told 29 = .ok (.istore_n 2, 1) := by decide +kernel
theorem dX4_told_30 : decode cX4_told 30 = .ok (.iinc 3 1, 3) := by decide +kernel
theorem dX4_told_33 : decode cX4_told 33 = .ok (.goto (-29), 3) := by decide +kernel
theorem dX4_told_36 : decode cX4_told 36 = .ok (.iload_n 2, 1) := by decide +kernel
theorem dX4_told_37 : decode cX4_told 37 = .ok (.ireturn, 1) := by decide +kernel
set_option maxRecDepth 20000 in
theorem ggX4_hush_X4_isWeaver : GoodIn wsX4_hush wsX4_isWeaver := goodIn_r _ [5, 6, 7, 4, 8] (by decide +kernel) (by decide +kernel)
set_option maxRecDepth 20000 in
theorem gX4_hush_X4_isWeaver : GoodIn wsX4_hush (va_wsS RX4 60 yX4_isWeaver wsX4_isWeaver) := goodIn_app (goodIn_of _ (by decide +kernel)) ggX4_hush_X4_isWeaver
set_option maxRecDepth 20000 in
theorem ggX4_hush_X4_fail : GoodIn wsX4_hush wsX4_fail := goodIn_r _ [12, 1, 31, 32, 33, 34, 35, 36, 37] (by decide +kernel) (by decide +kernel)
set_option maxRecDepth 20000 in
theorem gX4_hush_X4_fail : GoodIn wsX4_hush (wsV RX4 47 RX4 yX4_fail wsX4_fail) := goodIn_app (goodIn_of _ (by decide +kernel)) ggX4_hush_X4_fail
set_option maxRecDepth 20000 in
theorem ggX4_hush_X4_told : GoodIn wsX4_hush wsX4_told := goodIn_r _ [16, 17, 18, 19, 20, 4, 21, 22, 23, 24, 25, 26, 31, 32, 33, 34, 35, 36, 37] (by decide +kernel) (by decide +kernel)
set_option maxRecDepth 20000 in
theorem gX4_hush_X4_told : GoodIn wsX4_hush (wsV RX4 70 RX4 yX4_told wsX4_told) := goodIn_app (goodIn_of _ (by decide +kernel)) ggX4_hush_X4_told
set_option maxRecDepth 20000 in
theorem ggX4_hush_X4_put : GoodIn wsX4_hush wsX4_put := goodIn_r _ [30, 22, 31, 32, 33, 34, 35, 36, 37] (by decide +kernel) (by decide +kernel)
set_option maxRecDepth 20000 in
theorem gX4_hush_X4_put : GoodIn wsX4_hush (wsV RX4 63 RX4 yX4_put wsX4_put) := goodIn_app (goodIn_of _ (by decide +kernel)) ggX4_hush_X4_put
theorem dX4_hush_0 : decode cX4_hush 0 = .ok (.aload_n 0, 1) := by decide +kernel
theorem dX4_hush_1 : decode cX4_hush 1 = .ok (.iconst 0, 1) := by decide +kernel
theorem dX4_hush_2 : decode cX4_hush 2 = .ok (.putfield 28, 3) := by decide +kernel
theorem dX4_hush_5 : decode cX4_hush 5 = .ok (.iload_n 1, 1) := by decide +kernel
theorem dX4_hush_6 : decode cX4_hush 6 = .ok (.invokestatic 60, 3) := by decide +kernel
theorem dX4_hush_9 : decode cX4_hush 9 = .ok (.ifCond .ne 9, 3) := by decide +kernel
theorem dX4_hush_12 : decode cX4_hush 12 = .ok (.aload_n 0, 1) := by decide +kernel
theorem dX4_hush_13 : decode cX4_hush 13 = .ok (.iconst 1, 1) := by decide +kernel
theorem dX4_hush_14 : decode cX4_hush 14 = .ok (.invokevirtual 47, 3) := by decide +kernel
theorem dX4_hush_17 : decode cX4_hush 17 = .ok (.ireturn, 1) := by decide +kernel
theorem dX4_hush_18 : decode cX4_hush 18 = .ok (.aload_n 0, 1) := by decide +kernel
theorem dX4_hush_19 : decode cX4_hush 19 = .ok (.iload_n 1, 1) := by decide +kernel
theorem dX4_hush_20 : decode cX4_hush 20 = .ok (.invokevirtual 70, 3) := by decide +kernel
theorem dX4_hush_23 : decode cX4_hush 23 = .ok (.istore_n 2, 1) := by decide +kernel
theorem dX4_hush_24 : decode cX4_hush 24 = .ok (.aload_n 0, 1) := by decide +kernel
theorem dX4_hush_25 : decode cX4_hush 25 = .ok (.iload_n 1, 1) := by decide +kernel
theorem dX4_hush_26 : decode cX4_hush 26 = .ok (.iconst 2, 1) := by decide +kernel
theorem dX4_hush_27 : decode cX4_hush 27 = .ok (.iconst 0, 1) := by decide +kernel
theorem dX4_hush_28 : decode cX4_hush 28 = .ok (.invokevirtual 63, 3) := by decide +kernel
theorem dX4_hush_31 : decode cX4_hush 31 = .ok (.iload_n 2, 1) := by decide +kernel
theorem dX4_hush_32 : decode cX4_hush 32 = .ok (.ireturn, 1) := by decide +kernel
set_option maxRecDepth 20000 in
theorem ggX4_unpick_X4_isWeaver : GoodIn wsX4_unpick wsX4_isWeaver := goodIn_r _ [12, 13, 14, 11, 15] (by decide +kernel) (by decide +kernel)
set_option maxRecDepth 20000 in
theorem gX4_unpick_X4_isWeaver : GoodIn wsX4_unpick (va_wsS RX4 60 yX4_isWeaver wsX4_isWeaver) := goodIn_app (goodIn_of _ (by decide +kernel)) ggX4_unpick_X4_isWeaver
set_option maxRecDepth 20000 in
theorem ggX4_unpick_X4_fail : GoodIn wsX4_unpick wsX4_fail := goodIn_r _ [19, 1, 29, 30, 31, 32, 33, 34, 35] (by decide +kernel) (by decide +kernel)
set_option maxRecDepth 20000 in
theorem gX4_unpick_X4_fail : GoodIn wsX4_unpick (wsV RX4 47 RX4 yX4_fail wsX4_fail) := goodIn_app (goodIn_of _ (by decide +kernel)) ggX4_unpick_X4_fail
set_option maxRecDepth 20000 in
theorem ggX4_unpick_X4_isIn : GoodIn wsX4_unpick wsX4_isIn := goodIn_r _ [15] (by decide +kernel) (by decide +kernel)
set_option maxRecDepth 20000 in
theorem gX4_unpick_X4_isIn : GoodIn wsX4_unpick (va_wsS RX4 32 yX4_isIn wsX4_isIn) := goodIn_app (goodIn_of _ (by decide +kernel)) ggX4_unpick_X4_isIn
set_option maxRecDepth 20000 in
theorem ggX4_unpick_X4_pe : GoodIn wsX4_unpick wsX4_pe := goodIn_r _ [23, 24, 29, 30, 31, 32, 33, 34, 35] (by decide +kernel) (by decide +kernel)
set_option maxRecDepth 20000 in
theorem gX4_unpick_X4_pe : GoodIn wsX4_unpick (wsV RX4 40 RX4 yX4_pe wsX4_pe) := goodIn_app (goodIn_of _ (by decide +kernel)) ggX4_unpick_X4_pe
set_option maxRecDepth 20000 in
theorem ggX4_unpick_X4_put : GoodIn wsX4_unpick wsX4_put := goodIn_r _ [28, 24, 29, 30, 31, 32, 33, 34, 35] (by decide +kernel) (by decide +kernel)
set_option maxRecDepth 20000 in
theorem gX4_unpick_X4_put : GoodIn wsX4_unpick (wsV RX4 63 RX4 yX4_put wsX4_put) := goodIn_app (goodIn_of _ (by decide +kernel)) ggX4_unpick_X4_put
theorem dX4_unpick_0 : decode cX4_unpick 0 = .ok (.aload_n 0, 1) := by decide +kernel
theorem dX4_unpick_1 : decode cX4_unpick 1 = .ok (.iconst 0, 1) := by decide +kernel
theorem dX4_unpick_2 : decode cX4_unpick 2 = .ok (.putfield 28, 3) := by decide +kernel
theorem dX4_unpick_5 : decode cX4_unpick 5 = .ok (.iload_n 1, 1) := by decide +kernel
theorem dX4_unpick_6 : decode cX4_unpick 6 = .ok (.invokestatic 60, 3) := by decide +kernel
theorem dX4_unpick_9 : decode cX4_unpick 9 = .ok (.ifCond .ne 9, 3) := by decide +kernel
theorem dX4_unpick_12 : decode cX4_unpick 12 = .ok (.aload_n 0, 1) := by decide +kernel
theorem dX4_unpick_13 : decode cX4_unpick 13 = .ok (.iconst 1, 1) := by decide +kernel
theorem dX4_unpick_14 : decode cX4_unpick 14 = .ok (.invokevirtual 47, 3) := by decide +kernel
theorem dX4_unpick_17 : decode cX4_unpick 17 = .ok (.ireturn, 1) := by decide +kernel
theorem dX4_unpick_18 : decode cX4_unpick 18 = .ok (.iload_n 2, 1) := by decide +kernel
theorem dX4_unpick_19 : decode cX4_unpick 19 = .ok (.iconst 1, 1) := by decide +kernel
theorem dX4_unpick_20 : decode cX4_unpick 20 = .ok (.bipush 60, 2) := by decide +kernel
theorem dX4_unpick_22 : decode cX4_unpick 22 = .ok (.invokestatic 32, 3) := by decide +kernel
theorem dX4_unpick_25 : decode cX4_unpick 25 = .ok (.ifCond .ne 9, 3) := by decide +kernel
theorem dX4_unpick_28 : decode cX4_unpick 28 = .ok (.aload_n 0, 1) := by decide +kernel
theorem dX4_unpick_29 : decode cX4_unpick 29 = .ok (.iconst 2, 1) := by decide +kernel
theorem dX4_unpick_30 : decode cX4_unpick 30 = .ok (.invokevirtual 47, 3) := by decide +kernel
theorem dX4_unpick_33 : decode cX4_unpick 33 = .ok (.ireturn, 1) := by decide +kernel
theorem dX4_unpick_34 : decode cX4_unpick 34 = .ok (.aload_n 0, 1) := by decide +kernel
theorem dX4_unpick_35 : decode cX4_unpick 35 = .ok (.iload_n 1, 1) := by decide +kernel
theorem dX4_unpick_36 : decode cX4_unpick 36 = .ok (.iconst 1, 1) := by decide +kernel
theorem dX4_unpick_37 : decode cX4_unpick 37 = .ok (.invokevirtual 40, 3) := by decide +kernel
theorem dX4_unpick_40 : decode cX4_unpick 40 = .ok (.istore_n 3, 1) := by decide +kernel
theorem dX4_unpick_41 : decode cX4_unpick 41 = .ok (.iload_n 2, 1) := by decide +kernel
theorem dX4_unpick_42 : decode cX4_unpick 42 = .ok (.iload_n 3, 1) := by decide +kernel
theorem dX4_unpick_43 : decode cX4_unpick 43 = .ok (.if_icmp .le 9, 3) := by decide +kernel
theorem dX4_unpick_46 : decode cX4_unpick 46 = .ok (.aload_n 0, 1) := by decide +kernel
theorem dX4_unpick_47 : decode cX4_unpick 47 = .ok (.iconst 3, 1) := by decide +kernel
theorem dX4_unpick_48 : decode cX4_unpick 48 = .ok (.invokevirtual 47, 3) := by decide +kernel
theorem dX4_unpick_51 : decode cX4_unpick 51 = .ok (.ireturn, 1) := by decide +kernel
theorem dX4_unpick_52 : decode cX4_unpick 52 = .ok (.iload_n 3, 1) := by decide +kernel
theorem dX4_unpick_53 : decode cX4_unpick 53 = .ok (.iload_n 2, 1) := by decide +kernel
theorem dX4_unpick_54 : decode cX4_unpick 54 = .ok (.isub, 1) := by decide +kernel
theorem dX4_unpick_55 : decode cX4_unpick 55 = .ok (.istore 4, 2) := by decide +kernel
theorem dX4_unpick_57 : decode cX4_unpick 57 = .ok (.iload 4, 2) := by decide +kernel
theorem dX4_unpick_59 : decode cX4_unpick 59 = .ok (.iload_n 3, 1) := by decide +kernel
theorem dX4_unpick_60 : decode cX4_unpick 60 = .ok (.if_icmp .ge 45, 3) := by decide +kernel
theorem dX4_unpick_63 : decode cX4_unpick 63 = .ok (.aload_n 0, 1) := by decide +kernel
theorem dX4_unpick_64 : decode cX4_unpick 64 = .ok (.getfield 13, 3) := by decide +kernel
theorem dX4_unpick_67 : decode cX4_unpick 67 = .ok (.bipush 60, 2) := by decide +kernel
theorem dX4_unpick_69 : decode cX4_unpick 69 = .ok (.iload_n 1, 1) := by decide +kernel
theorem dX4_unpick_70 : decode cX4_unpick 70 = .ok (.imul, 1) := by decide +kernel
theorem dX4_unpick_71 : decode cX4_unpick 71 = .ok (.iload 4, 2) := by decide +kernel
theorem dX4_unpick_73 : decode cX4_unpick 73 = .ok (.iadd, 1) := by decide +kernel
theorem dX4_unpick_74 : decode cX4_unpick 74 = .ok (.iaload, 1) := by decide +kernel
theorem dX4_unpick_75 : decode cX4_unpick 75 = .ok (.istore 5, 2) := by decide +kernel
theorem dX4_unpick_77 : decode cX4_unpick 77 = .ok (.aload_n 0, 1) := by decide +kernel
theorem dX4_unpick_78 : decode cX4_unpick 78 = .ok (.getfield 22, 3) := by decide +kernel
theorem dX4_unpick_81 : decode cX4_unpick 81 = .ok (.iload 5, 2) := by decide +kernel
theorem dX4_unpick_83 : decode cX4_unpick 83 = .ok (.sipush 200, 3) := by decide +kernel
theorem dX4_unpick_86 : decode cX4_unpick 86 = .ok (.aload_n 0, 1) := by decide +kernel
theorem dX4_unpick_87 : decode cX4_unpick 87 = .ok (.getfield 22, 3) := by decide +kernel
theorem dX4_unpick_90 : decode cX4_unpick 90 = .ok (.iload 5, 2) := by decide +kernel
theorem dX4_unpick_92 : decode cX4_unpick 92 = .ok (.iaload, 1) := by decide +kernel
theorem dX4_unpick_93 : decode cX4_unpick 93 = .ok (.iconst 1, 1) := by decide +kernel
theorem dX4_unpick_94 : decode cX4_unpick 94 = .ok (.iadd, 1) := by decide +kernel
theorem dX4_unpick_95 : decode cX4_unpick 95 = .ok (.invokestatic 55, 3) := by decide +kernel
theorem dX4_unpick_98 : decode cX4_unpick 98 = .ok (.iastore, 1) := by decide +kernel
theorem dX4_unpick_99 : decode cX4_unpick 99 = .ok (.iinc 4 1, 3) := by decide +kernel
theorem dX4_unpick_102 : decode cX4_unpick 102 = .ok (.goto (-45), 3) := by decide +kernel
theorem dX4_unpick_105 : decode cX4_unpick 105 = .ok (.aload_n 0, 1) := by decide +kernel
theorem dX4_unpick_106 : decode cX4_unpick 106 = .ok (.iload_n 1, 1) := by decide +kernel
theorem dX4_unpick_107 : decode cX4_unpick 107 = .ok (.iconst 1, 1) := by decide +kernel
theorem dX4_unpick_108 : decode cX4_unpick 108 = .ok (.iload_n 3, 1) := by decide +kernel
theorem dX4_unpick_109 : decode cX4_unpick 109 = .ok (.iload_n 2, 1) := by decide +kernel
theorem dX4_unpick_110 : decode cX4_unpick 110 = .ok (.isub, 1) := by decide +kernel
theorem dX4_unpick_111 : decode cX4_unpick 111 = .ok (.invokevirtual 63, 3) := by decide +kernel
theorem dX4_unpick_114 : decode cX4_unpick 114 = .ok (.aload_n 0, 1) := by decide +kernel
theorem dX4_unpick_115 : decode cX4_unpick 115 = .ok (.getfield 25, 3) := by decide +kernel
theorem dX4_unpick_118 : decode cX4_unpick 118 = .ok (.iconst 1, 1) := by decide +kernel
theorem dX4_unpick_119 : decode cX4_unpick 119 = .ok (.dup2, 1) := by decide +kernel
theorem dX4_unpick_120 : decode cX4_unpick 120 = .ok (.iaload, 1) := by decide +kernel
theorem dX4_unpick_121 : decode cX4_unpick 121 = .ok (.iload_n 2, 1) := by decide +kernel
theorem dX4_unpick_122 : decode cX4_unpick 122 = .ok (.iadd, 1) := by decide +kernel
theorem dX4_unpick_123 : decode cX4_unpick 123 = .ok (.iastore, 1) := by decide +kernel
theorem dX4_unpick_124 : decode cX4_unpick 124 = .ok (.iload_n 3, 1) := by decide +kernel
theorem dX4_unpick_125 : decode cX4_unpick 125 = .ok (.iload_n 2, 1) := by decide +kernel
theorem dX4_unpick_126 : decode cX4_unpick 126 = .ok (.isub, 1) := by decide +kernel
theorem dX4_unpick_127 : decode cX4_unpick 127 = .ok (.ireturn, 1) := by decide +kernel
set_option maxRecDepth 20000 in
theorem ggX4_cell_X4_isCell : GoodIn wsX4_cell wsX4_isCell := goodIn_r _ [6, 7, 8, 5, 9] (by decide +kernel) (by decide +kernel)
set_option maxRecDepth 20000 in
theorem gX4_cell_X4_isCell : GoodIn wsX4_cell (va_wsS RX4 43 yX4_isCell wsX4_isCell) := goodIn_app (goodIn_of _ (by decide +kernel)) ggX4_cell_X4_isCell
set_option maxRecDepth 20000 in
theorem ggX4_cell_X4_isIn : GoodIn wsX4_cell wsX4_isIn := goodIn_r _ [9] (by decide +kernel) (by decide +kernel)
set_option maxRecDepth 20000 in
theorem gX4_cell_X4_isIn : GoodIn wsX4_cell (va_wsS RX4 32 yX4_isIn wsX4_isIn) := goodIn_app (goodIn_of _ (by decide +kernel)) ggX4_cell_X4_isIn
set_option maxRecDepth 20000 in
theorem ggX4_cell_X4_colour : GoodIn wsX4_cell wsX4_colour := goodIn_r _ [13, 14, 15, 16, 5, 17, 18, 19, 20, 21, 22, 27, 28, 29, 30, 31, 32, 33] (by decide +kernel) (by decide +kernel)
set_option maxRecDepth 20000 in
theorem gX4_cell_X4_colour : GoodIn wsX4_cell (wsV RX4 73 RX4 yX4_colour wsX4_colour) := goodIn_app (goodIn_of _ (by decide +kernel)) ggX4_cell_X4_colour
set_option maxRecDepth 20000 in
theorem ggX4_cell_X4_at : GoodIn wsX4_cell wsX4_at := goodIn_r _ [17] (by decide +kernel) (by decide +kernel)
set_option maxRecDepth 20000 in
theorem gX4_cell_X4_at : GoodIn wsX4_cell (va_wsS RX4 36 yX4_at wsX4_at) := goodIn_app (goodIn_of _ (by decide +kernel)) ggX4_cell_X4_at
set_option maxRecDepth 20000 in
theorem ggX4_cell_X4_fail : GoodIn wsX4_cell wsX4_fail := goodIn_r _ [26, 1, 27, 28, 29, 30, 31, 32, 33] (by decide +kernel) (by decide +kernel)
set_option maxRecDepth 20000 in
theorem gX4_cell_X4_fail : GoodIn wsX4_cell (wsV RX4 47 RX4 yX4_fail wsX4_fail) := goodIn_app (goodIn_of _ (by decide +kernel)) ggX4_cell_X4_fail
theorem dX4_cell_0 : decode cX4_cell 0 = .ok (.aload_n 0, 1) := by decide +kernel
theorem dX4_cell_1 : decode cX4_cell 1 = .ok (.iconst 0, 1) := by decide +kernel
theorem dX4_cell_2 : decode cX4_cell 2 = .ok (.putfield 28, 3) := by decide +kernel
theorem dX4_cell_5 : decode cX4_cell 5 = .ok (.iload_n 1, 1) := by decide +kernel
theorem dX4_cell_6 : decode cX4_cell 6 = .ok (.iload_n 2, 1) := by decide +kernel
theorem dX4_cell_7 : decode cX4_cell 7 = .ok (.invokestatic 43, 3) := by decide +kernel
theorem dX4_cell_10 : decode cX4_cell 10 = .ok (.ifCond .eq 38, 3) := by decide +kernel
theorem dX4_cell_13 : decode cX4_cell 13 = .ok (.iload_n 3, 1) := by decide +kernel
theorem dX4_cell_14 : decode cX4_cell 14 = .ok (.iconst 0, 1) := by decide +kernel
theorem dX4_cell_15 : decode cX4_cell 15 = .ok (.iconst 1, 1) := by decide +kernel
theorem dX4_cell_16 : decode cX4_cell 16 = .ok (.invokestatic 32, 3) := by decide +kernel
theorem dX4_cell_19 : decode cX4_cell 19 = .ok (.ifCond .eq 29, 3) := by decide +kernel
theorem dX4_cell_22 : decode cX4_cell 22 = .ok (.iload_n 3, 1) := by decide +kernel
theorem dX4_cell_23 : decode cX4_cell 23 = .ok (.ifCond .ne 12, 3) := by decide +kernel
theorem dX4_cell_26 : decode cX4_cell 26 = .ok (.aload_n 0, 1) := by decide +kernel
theorem dX4_cell_27 : decode cX4_cell 27 = .ok (.iload_n 1, 1) := by decide +kernel
theorem dX4_cell_28 : decode cX4_cell 28 = .ok (.iload_n 2, 1) := by decide +kernel
theorem dX4_cell_29 : decode cX4_cell 29 = .ok (.invokevirtual 73, 3) := by decide +kernel
theorem dX4_cell_32 : decode cX4_cell 32 = .ok (.goto 21, 3) := by decide +kernel
theorem dX4_cell_35 : decode cX4_cell 35 = .ok (.aload_n 0, 1) := by decide +kernel
theorem dX4_cell_36 : decode cX4_cell 36 = .ok (.getfield 16, 3) := by decide +kernel
theorem dX4_cell_39 : decode cX4_cell 39 = .ok (.iload_n 1, 1) := by decide +kernel
theorem dX4_cell_40 : decode cX4_cell 40 = .ok (.iload_n 2, 1) := by decide +kernel
theorem dX4_cell_41 : decode cX4_cell 41 = .ok (.invokestatic 36, 3) := by decide +kernel
theorem dX4_cell_44 : decode cX4_cell 44 = .ok (.iaload, 1) := by decide +kernel
theorem dX4_cell_45 : decode cX4_cell 45 = .ok (.goto 8, 3) := by decide +kernel
theorem dX4_cell_48 : decode cX4_cell 48 = .ok (.aload_n 0, 1) := by decide +kernel
theorem dX4_cell_49 : decode cX4_cell 49 = .ok (.iconst 1, 1) := by decide +kernel
theorem dX4_cell_50 : decode cX4_cell 50 = .ok (.invokevirtual 47, 3) := by decide +kernel
theorem dX4_cell_53 : decode cX4_cell 53 = .ok (.ireturn, 1) := by decide +kernel
set_option maxRecDepth 20000 in
theorem ggX4_sees_X4_isWeaver : GoodIn wsX4_sees wsX4_isWeaver := goodIn_r _ [5, 6, 7, 4, 8] (by decide +kernel) (by decide +kernel)
set_option maxRecDepth 20000 in
theorem gX4_sees_X4_isWeaver : GoodIn wsX4_sees (va_wsS RX4 60 yX4_isWeaver wsX4_isWeaver) := goodIn_app (goodIn_of _ (by decide +kernel)) ggX4_sees_X4_isWeaver
set_option maxRecDepth 20000 in
theorem ggX4_sees_X4_isCell : GoodIn wsX4_sees wsX4_isCell := goodIn_r _ [11, 6, 7, 4, 8] (by decide +kernel) (by decide +kernel)
set_option maxRecDepth 20000 in
theorem gX4_sees_X4_isCell : GoodIn wsX4_sees (va_wsS RX4 43 yX4_isCell wsX4_isCell) := goodIn_app (goodIn_of _ (by decide +kernel)) ggX4_sees_X4_isCell
set_option maxRecDepth 20000 in
theorem ggX4_sees_X4_fail : GoodIn wsX4_sees wsX4_fail := goodIn_r _ [15, 1, 29, 30, 31, 32, 33, 34, 35] (by decide +kernel) (by decide +kernel)
set_option maxRecDepth 20000 in
theorem gX4_sees_X4_fail : GoodIn wsX4_sees (wsV RX4 47 RX4 yX4_fail wsX4_fail) := goodIn_app (goodIn_of _ (by decide +kernel)) ggX4_sees_X4_fail
set_option maxRecDepth 20000 in
theorem ggX4_sees_X4_pe : GoodIn wsX4_sees wsX4_pe := goodIn_r _ [19, 20, 29, 30, 31, 32, 33, 34, 35] (by decide +kernel) (by decide +kernel)
set_option maxRecDepth 20000 in
theorem gX4_sees_X4_pe : GoodIn wsX4_sees (wsV RX4 40 RX4 yX4_pe wsX4_pe) := goodIn_app (goodIn_of _ (by decide +kernel)) ggX4_sees_X4_pe
set_option maxRecDepth 20000 in
theorem ggX4_sees_X4_colour : GoodIn wsX4_sees wsX4_colour := goodIn_r _ [24, 25, 26, 27, 4, 28, 16, 17, 18, 19, 20, 29, 30, 31, 32, 33, 34, 35] (by decide +kernel) (by decide +kernel)
set_option maxRecDepth 20000 in
theorem gX4_sees_X4_colour : GoodIn wsX4_sees (wsV RX4 73 RX4 yX4_colour wsX4_colour) := goodIn_app (goodIn_of _ (by decide +kernel)) ggX4_sees_X4_colour
theorem dX4_sees_0 : decode cX4_sees 0 = .ok (.aload_n 0, 1) := by decide +kernel
theorem dX4_sees_1 : decode cX4_sees 1 = .ok (.iconst 0, 1) := by decide +kernel
theorem dX4_sees_2 : decode cX4_sees 2 = .ok (.putfield 28, 3) := by decide +kernel
theorem dX4_sees_5 : decode cX4_sees 5 = .ok (.iload_n 1, 1) := by decide +kernel
theorem dX4_sees_6 : decode cX4_sees 6 = .ok (.invokestatic 60, 3) := by decide +kernel
theorem dX4_sees_9 : decode cX4_sees 9 = .ok (.ifCond .eq 11, 3) := by decide +kernel
theorem dX4_sees_12 : decode cX4_sees 12 = .ok (.iload_n 2, 1) := by decide +kernel
theorem dX4_sees_13 : decode cX4_sees 13 = .ok (.iload_n 3, 1) := by decide +kernel
theorem dX4_sees_14 : decode cX4_sees 14 = .ok (.invokestatic 43, 3) := by decide +kernel
theorem dX4_sees_17 : decode cX4_sees 17 = .ok (.ifCond .ne 9, 3) := by decide +kernel
theorem dX4_sees_20 : decode cX4_sees 20 = .ok (.aload_n 0, 1) := by decide +kernel
theorem dX4_sees_21 : decode cX4_sees 21 = .ok (.iconst 1, 1) := by decide +kernel
theorem dX4_sees_22 : decode cX4_sees 22 = .ok (.invokevirtual 47, 3) := by decide +kernel
theorem dX4_sees_25 : decode cX4_sees 25 = .ok (.ireturn, 1) := by decide +kernel
theorem dX4_sees_26 : decode cX4_sees 26 = .ok (.iload_n 2, 1) := by decide +kernel
theorem dX4_sees_27 : decode cX4_sees 27 = .ok (.bipush 6, 2) := by decide +kernel
theorem dX4_sees_29 : decode cX4_sees 29 = .ok (.idiv, 1) := by decide +kernel
theorem dX4_sees_30 : decode cX4_sees 30 = .ok (.iload_n 1, 1) := by decide +kernel
theorem dX4_sees_31 : decode cX4_sees 31 = .ok (.if_icmp .ne 7, 3) := by decide +kernel
theorem dX4_sees_34 : decode cX4_sees 34 = .ok (.iconst 1, 1) := by decide +kernel
theorem dX4_sees_35 : decode cX4_sees 35 = .ok (.goto 4, 3) := by decide +kernel
theorem dX4_sees_38 : decode cX4_sees 38 = .ok (.iconst 0, 1) := by decide +kernel
theorem dX4_sees_39 : decode cX4_sees 39 = .ok (.istore 4, 2) := by decide +kernel
theorem dX4_sees_41 : decode cX4_sees 41 = .ok (.iload_n 2, 1) := by decide +kernel
theorem dX4_sees_42 : decode cX4_sees 42 = .ok (.iload_n 1, 1) := by decide +kernel
theorem dX4_sees_43 : decode cX4_sees 43 = .ok (.ifCond .ne 8, 3) := by decide +kernel
theorem dX4_sees_46 : decode cX4_sees 46 = .ok (.bipush 6, 2) := by decide +kernel
theorem dX4_sees_48 : decode cX4_sees 48 = .ok (.goto 4, 3) := by decide +kernel
theorem dX4_sees_51 : decode cX4_sees 51 = .ok (.iconst 5, 1) := by decide +kernel
theorem dX4_sees_52 : decode cX4_sees 52 = .ok (.if_icmp .ne 23, 3) := by decide +kernel
theorem dX4_sees_55 : decode cX4_sees 55 = .ok (.aload_n 0, 1) := by decide +kernel
theorem dX4_sees_56 : decode cX4_sees 56 = .ok (.iload_n 1, 1) := by decide +kernel
theorem dX4_sees_57 : decode cX4_sees 57 = .ok (.iconst 1, 1) := by decide +kernel
theorem dX4_sees_58 : decode cX4_sees 58 = .ok (.invokevirtual 40, 3) := by decide +kernel
theorem dX4_sees_61 : decode cX4_sees 61 = .ok (.bipush 6, 2) := by decide +kernel
theorem dX4_sees_63 : decode cX4_sees 63 = .ok (.iload_n 3, 1) := by decide +kernel
theorem dX4_sees_64 : decode cX4_sees 64 = .ok (.imul, 1) := by decide +kernel
theorem dX4_sees_65 : decode cX4_sees 65 = .ok (.bipush 6, 2) := by decide +kernel
theorem dX4_sees_67 : decode cX4_sees 67 = .ok (.iadd, 1) := by decide +kernel
theorem dX4_sees_68 : decode cX4_sees 68 = .ok (.if_icmp .lt 7, 3) := by decide +kernel
theorem dX4_sees_71 : decode cX4_sees 71 = .ok (.iconst 1, 1) := by decide +kernel
theorem dX4_sees_72 : decode cX4_sees 72 = .ok (.goto 4, 3) := by decide +kernel
theorem dX4_sees_75 : decode cX4_sees 75 = .ok (.iconst 0, 1) := by decide +kernel
theorem dX4_sees_76 : decode cX4_sees 76 = .ok (.istore 5, 2) := by decide +kernel
theorem dX4_sees_78 : decode cX4_sees 78 = .ok (.iload 4, 2) := by decide +kernel
theorem dX4_sees_80 : decode cX4_sees 80 = .ok (.ifCond .ne 8, 3) := by decide +kernel
theorem dX4_sees_83 : decode cX4_sees 83 = .ok (.iload 5, 2) := by decide +kernel
theorem dX4_sees_85 : decode cX4_sees 85 = .ok (.ifCond .eq 12, 3) := by decide +kernel
theorem dX4_sees_88 : decode cX4_sees 88 = .ok (.aload_n 0, 1) := by decide +kernel
theorem dX4_sees_89 : decode cX4_sees 89 = .ok (.iload_n 2, 1) := by decide +kernel
theorem dX4_sees_90 : decode cX4_sees 90 = .ok (.iload_n 3, 1) := by decide +kernel
theorem dX4_sees_91 : decode cX4_sees 91 = .ok (.invokevirtual 73, 3) := by decide +kernel
theorem dX4_sees_94 : decode cX4_sees 94 = .ok (.goto 5, 3) := by decide +kernel
theorem dX4_sees_97 : decode cX4_sees 97 = .ok (.bipush (-2), 2) := by decide +kernel
theorem dX4_sees_99 : decode cX4_sees 99 = .ok (.ireturn, 1) := by decide +kernel
set_option maxRecDepth 20000 in
theorem ggX4_weaverTold_X4_pe : GoodIn wsX4_weaverTold wsX4_pe := goodIn_r _ [5, 6, 19, 20, 21, 22, 23, 24, 25] (by decide +kernel) (by decide +kernel)
set_option maxRecDepth 20000 in
theorem gX4_weaverTold_X4_pe : GoodIn wsX4_weaverTold (wsV RX4 40 RX4 yX4_pe wsX4_pe) := goodIn_app (goodIn_of _ (by decide +kernel)) ggX4_weaverTold_X4_pe
set_option maxRecDepth 20000 in
theorem ggX4_weaverTold_X4_told : GoodIn wsX4_weaverTold wsX4_told := goodIn_r _ [10, 11, 1, 2, 3, 4, 5, 6, 12, 13, 14, 15, 19, 20, 21, 22, 23, 24, 25] (by decide +kernel) (by decide +kernel)
set_option maxRecDepth 20000 in
theorem gX4_weaverTold_X4_told : GoodIn wsX4_weaverTold (wsV RX4 70 RX4 yX4_told wsX4_told) := goodIn_app (goodIn_of _ (by decide +kernel)) ggX4_weaverTold_X4_told
set_option maxRecDepth 20000 in
theorem ggX4_weaverTold_X4_xOf : GoodIn wsX4_weaverTold wsX4_xOf := goodIn_r _ [18] (by decide +kernel) (by decide +kernel)
set_option maxRecDepth 20000 in
theorem gX4_weaverTold_X4_xOf : GoodIn wsX4_weaverTold (va_wsS RX4 76 yX4_xOf wsX4_xOf) := goodIn_app (goodIn_of _ (by decide +kernel)) ggX4_weaverTold_X4_xOf
theorem dX4_weaverTold_0 : decode cX4_weaverTold 0 = .ok (.aload_n 0, 1) := by decide +kernel
theorem dX4_weaverTold_1 : decode cX4_weaverTold 1 = .ok (.iload_n 1, 1) := by decide +kernel
theorem dX4_weaverTold_2 : decode cX4_weaverTold 2 = .ok (.iconst 1, 1) := by decide +kernel
theorem dX4_weaverTold_3 : decode cX4_weaverTold 3 = .ok (.invokevirtual 40, 3) := by decide +kernel
theorem dX4_weaverTold_6 : decode cX4_weaverTold 6 = .ok (.istore_n 3, 1) := by decide +kernel
theorem dX4_weaverTold_7 : decode cX4_weaverTold 7 = .ok (.iload_n 2, 1) := by decide +kernel
theorem dX4_weaverTold_8 : decode cX4_weaverTold 8 = .ok (.tableswitch 93 0 5 #[40, 47, 54, 60, 62, 78], 40) := by decide +kernel
theorem dX4_weaverTold_48 : decode cX4_weaverTold 48 = .ok (.aload_n 0, 1) := by decide +kernel
theorem dX4_weaverTold_49 : decode cX4_weaverTold 49 = .ok (.iload_n 1, 1) := by decide +kernel
theorem dX4_weaverTold_50 : decode cX4_weaverTold 50 = .ok (.iconst 0, 1) := by decide +kernel
theorem dX4_weaverTold_51 : decode cX4_weaverTold 51 = .ok (.invokevirtual 40, 3) := by decide +kernel
theorem dX4_weaverTold_54 : decode cX4_weaverTold 54 = .ok (.ireturn, 1) := by decide +kernel
theorem dX4_weaverTold_55 : decode cX4_weaverTold 55 = .ok (.aload_n 0, 1) := by decide +kernel
theorem dX4_weaverTold_56 : decode cX4_weaverTold 56 = .ok (.iload_n 1, 1) := by decide +kernel
theorem dX4_weaverTold_57 : decode cX4_weaverTold 57 = .ok (.iconst 2, 1) := by decide +kernel
theorem dX4_weaverTold_58 : decode cX4_weaverTold 58 = .ok (.invokevirtual 40, 3) := by decide +kernel
theorem dX4_weaverTold_61 : decode cX4_weaverTold 61 = .ok (.ireturn, 1) := by decide +kernel
theorem dX4_weaverTold_62 : decode cX4_weaverTold 62 = .ok (.aload_n 0, 1) := by decide +kernel
theorem dX4_weaverTold_63 : decode cX4_weaverTold 63 = .ok (.iload_n 1, 1) := by decide +kernel
theorem dX4_weaverTold_64 : decode cX4_weaverTold 64 = .ok (.invokevirtual 70, 3) := by decide +kernel
theorem dX4_weaverTold_67 : decode cX4_weaverTold 67 = .ok (.ireturn, 1) := by decide +kernel
theorem dX4_weaverTold_68 : decode cX4_weaverTold 68 = .ok (.iload_n 3, 1) := by decide +kernel
theorem dX4_weaverTold_69 : decode cX4_weaverTold 69 = .ok (.ireturn, 1) := by decide +kernel
theorem dX4_weaverTold_70 : decode cX4_weaverTold 70 = .ok (.iload_n 3, 1) := by decide +kernel
theorem dX4_weaverTold_71 : decode cX4_weaverTold 71 = .ok (.bipush 60, 2) := by decide +kernel
theorem dX4_weaverTold_73 : decode cX4_weaverTold 73 = .ok (.if_icmp .ne 7, 3) := by decide +kernel
theorem dX4_weaverTold_76 : decode cX4_weaverTold 76 = .ok (.iconst (-1), 1) := by decide +kernel
theorem dX4_weaverTold_77 : decode cX4_weaverTold 77 = .ok (.goto 8, 3) := by decide +kernel
theorem dX4_weaverTold_80 : decode cX4_weaverTold 80 = .ok (.iload_n 1, 1) := by decide +kernel
theorem dX4_weaverTold_81 : decode cX4_weaverTold 81 = .ok (.iload_n 3, 1) := by decide +kernel
theorem dX4_weaverTold_82 : decode cX4_weaverTold 82 = .ok (.invokestatic 76, 3) := by decide +kernel
theorem dX4_weaverTold_85 : decode cX4_weaverTold 85 = .ok (.ireturn, 1) := by decide +kernel
theorem dX4_weaverTold_86 : decode cX4_weaverTold 86 = .ok (.iload_n 3, 1) := by decide +kernel
theorem dX4_weaverTold_87 : decode cX4_weaverTold 87 = .ok (.bipush 60, 2) := by decide +kernel
theorem dX4_weaverTold_89 : decode cX4_weaverTold 89 = .ok (.if_icmp .ne 7, 3) := by decide +kernel
theorem dX4_weaverTold_92 : decode cX4_weaverTold 92 = .ok (.iconst (-1), 1) := by decide +kernel
theorem dX4_weaverTold_93 : decode cX4_weaverTold 93 = .ok (.goto 7, 3) := by decide +kernel
theorem dX4_weaverTold_96 : decode cX4_weaverTold 96 = .ok (.iload_n 3, 1) := by decide +kernel
theorem dX4_weaverTold_97 : decode cX4_weaverTold 97 = .ok (.bipush 6, 2) := by decide +kernel
theorem dX4_weaverTold_99 : decode cX4_weaverTold 99 = .ok (.idiv, 1) := by decide +kernel
theorem dX4_weaverTold_100 : decode cX4_weaverTold 100 = .ok (.ireturn, 1) := by decide +kernel
theorem dX4_weaverTold_101 : decode cX4_weaverTold 101 = .ok (.aload_n 0, 1) := by decide +kernel
theorem dX4_weaverTold_102 : decode cX4_weaverTold 102 = .ok (.iload_n 1, 1) := by decide +kernel
theorem dX4_weaverTold_103 : decode cX4_weaverTold 103 = .ok (.iconst 3, 1) := by decide +kernel
theorem dX4_weaverTold_104 : decode cX4_weaverTold 104 = .ok (.invokevirtual 40, 3) := by decide +kernel
theorem dX4_weaverTold_107 : decode cX4_weaverTold 107 = .ok (.ireturn, 1) := by decide +kernel
set_option maxRecDepth 20000 in
theorem ggX4_weaver_X4_isWeaver : GoodIn wsX4_weaver wsX4_isWeaver := goodIn_r _ [5, 6, 7, 4, 8] (by decide +kernel) (by decide +kernel)
set_option maxRecDepth 20000 in
theorem gX4_weaver_X4_isWeaver : GoodIn wsX4_weaver (va_wsS RX4 60 yX4_isWeaver wsX4_isWeaver) := goodIn_app (goodIn_of _ (by decide +kernel)) ggX4_weaver_X4_isWeaver
set_option maxRecDepth 20000 in
theorem ggX4_weaver_X4_isIn : GoodIn wsX4_weaver wsX4_isIn := goodIn_r _ [8] (by decide +kernel) (by decide +kernel)
set_option maxRecDepth 20000 in
theorem gX4_weaver_X4_isIn : GoodIn wsX4_weaver (va_wsS RX4 32 yX4_isIn wsX4_isIn) := goodIn_app (goodIn_of _ (by decide +kernel)) ggX4_weaver_X4_isIn
set_option maxRecDepth 20000 in
theorem ggX4_weaver_X4_weaverTold : GoodIn wsX4_weaver wsX4_weaverTold := goodIn_r _ [12, 13, 14, 15, 4, 16, 17, 18, 19, 20, 21, 22, 23, 24, 25, 26, 27, 28, 29, 34, 35, 36, 37, 38, 39, 40] (by decide +kernel) (by decide +kernel)
set_option maxRecDepth 20000 in
theorem gX4_weaver_X4_weaverTold : GoodIn wsX4_weaver (wsV RX4 79 RX4 yX4_weaverTold wsX4_weaverTold) := goodIn_app (goodIn_of _ (by decide +kernel)) ggX4_weaver_X4_weaverTold
set_option maxRecDepth 20000 in
theorem ggX4_weaver_X4_fail : GoodIn wsX4_weaver wsX4_fail := goodIn_r _ [33, 1, 34, 35, 36, 37, 38, 39, 40] (by decide +kernel) (by decide +kernel)
set_option maxRecDepth 20000 in
theorem gX4_weaver_X4_fail : GoodIn wsX4_weaver (wsV RX4 47 RX4 yX4_fail wsX4_fail) := goodIn_app (goodIn_of _ (by decide +kernel)) ggX4_weaver_X4_fail
theorem dX4_weaver_0 : decode cX4_weaver 0 = .ok (.aload_n 0, 1) := by decide +kernel
theorem dX4_weaver_1 : decode cX4_weaver 1 = .ok (.iconst 0, 1) := by decide +kernel
theorem dX4_weaver_2 : decode cX4_weaver 2 = .ok (.putfield 28, 3) := by decide +kernel
theorem dX4_weaver_5 : decode cX4_weaver 5 = .ok (.iload_n 1, 1) := by decide +kernel
theorem dX4_weaver_6 : decode cX4_weaver 6 = .ok (.invokestatic 60, 3) := by decide +kernel
theorem dX4_weaver_9 : decode cX4_weaver 9 = .ok (.ifCond .eq 22, 3) := by decide +kernel
theorem dX4_weaver_12 : decode cX4_weaver 12 = .ok (.iload_n 2, 1) := by decide +kernel
theorem dX4_weaver_13 : decode cX4_weaver 13 = .ok (.iconst 0, 1) := by decide +kernel
theorem dX4_weaver_14 : decode cX4_weaver 14 = .ok (.bipush 6, 2) := by decide +kernel
theorem dX4_weaver_16 : decode cX4_weaver 16 = .ok (.invokestatic 32, 3) := by decide +kernel
theorem dX4_weaver_19 : decode cX4_weaver 19 = .ok (.ifCond .eq 12, 3) := by decide +kernel
theorem dX4_weaver_22 : decode cX4_weaver 22 = .ok (.aload_n 0, 1) := by decide +kernel
theorem dX4_weaver_23 : decode cX4_weaver 23 = .ok (.iload_n 1, 1) := by decide +kernel
theorem dX4_weaver_24 : decode cX4_weaver 24 = .ok (.iload_n 2, 1) := by decide +kernel
theorem dX4_weaver_25 : decode cX4_weaver 25 = .ok (.invokevirtual 79, 3) := by decide +kernel
theorem dX4_weaver_28 : decode cX4_weaver 28 = .ok (.goto 8, 3) := by decide +kernel
theorem dX4_weaver_31 : decode cX4_weaver 31 = .ok (.aload_n 0, 1) := by decide +kernel
theorem dX4_weaver_32 : decode cX4_weaver 32 = .ok (.iconst 1, 1) := by decide +kernel
theorem dX4_weaver_33 : decode cX4_weaver 33 = .ok (.invokevirtual 47, 3) := by decide +kernel
theorem dX4_weaver_36 : decode cX4_weaver 36 = .ok (.ireturn, 1) := by decide +kernel
set_option maxRecDepth 20000 in
theorem ggX4_run_X4_isWeaver : GoodIn wsX4_run wsX4_isWeaver := goodIn_r _ [6, 7, 8, 5, 9] (by decide +kernel) (by decide +kernel)
set_option maxRecDepth 20000 in
theorem gX4_run_X4_isWeaver : GoodIn wsX4_run (va_wsS RX4 60 yX4_isWeaver wsX4_isWeaver) := goodIn_app (goodIn_of _ (by decide +kernel)) ggX4_run_X4_isWeaver
set_option maxRecDepth 20000 in
theorem ggX4_run_X4_pe : GoodIn wsX4_run wsX4_pe := goodIn_r _ [13, 14, 23, 24, 25, 26, 27, 28, 29] (by decide +kernel) (by decide +kernel)
set_option maxRecDepth 20000 in
theorem gX4_run_X4_pe : GoodIn wsX4_run (wsV RX4 40 RX4 yX4_pe wsX4_pe) := goodIn_app (goodIn_of _ (by decide +kernel)) ggX4_run_X4_pe
set_option maxRecDepth 20000 in
theorem ggX4_run_X4_isIn : GoodIn wsX4_run wsX4_isIn := goodIn_r _ [9] (by decide +kernel) (by decide +kernel)
set_option maxRecDepth 20000 in
theorem gX4_run_X4_isIn : GoodIn wsX4_run (va_wsS RX4 32 yX4_isIn wsX4_isIn) := goodIn_app (goodIn_of _ (by decide +kernel)) ggX4_run_X4_isIn
set_option maxRecDepth 20000 in
theorem ggX4_run_X4_runAt : GoodIn wsX4_run wsX4_runAt := goodIn_r _ [18] (by decide +kernel) (by decide +kernel)
set_option maxRecDepth 20000 in
theorem gX4_run_X4_runAt : GoodIn wsX4_run (wsV RX4 67 RX4 yX4_runAt wsX4_runAt) := goodIn_app (goodIn_of _ (by decide +kernel)) ggX4_run_X4_runAt
set_option maxRecDepth 20000 in
theorem ggX4_run_X4_fail : GoodIn wsX4_run wsX4_fail := goodIn_r _ [22, 1, 23, 24, 25, 26, 27, 28, 29] (by decide +kernel) (by decide +kernel)
set_option maxRecDepth 20000 in
theorem gX4_run_X4_fail : GoodIn wsX4_run (wsV RX4 47 RX4 yX4_fail wsX4_fail) := goodIn_app (goodIn_of _ (by decide +kernel)) ggX4_run_X4_fail
theorem dX4_run_0 : decode cX4_run 0 = .ok (.aload_n 0, 1) := by decide +kernel
theorem dX4_run_1 : decode cX4_run 1 = .ok (.iconst 0, 1) := by decide +kernel
theorem dX4_run_2 : decode cX4_run 2 = .ok (.putfield 28, 3) := by decide +kernel
theorem dX4_run_5 : decode cX4_run 5 = .ok (.iload_n 1, 1) := by decide +kernel
theorem dX4_run_6 : decode cX4_run 6 = .ok (.invokestatic 60, 3) := by decide +kernel
theorem dX4_run_9 : decode cX4_run 9 = .ok (.ifCond .eq 44, 3) := by decide +kernel
theorem dX4_run_12 : decode cX4_run 12 = .ok (.iload_n 2, 1) := by decide +kernel
theorem dX4_run_13 : decode cX4_run 13 = .ok (.iconst 0, 1) := by decide +kernel
theorem dX4_run_14 : decode cX4_run 14 = .ok (.aload_n 0, 1) := by decide +kernel
theorem dX4_run_15 : decode cX4_run 15 = .ok (.iload_n 1, 1) := by decide +kernel
theorem dX4_run_16 : decode cX4_run 16 = .ok (.iconst 2, 1) := by decide +kernel
theorem dX4_run_17 : decode cX4_run 17 = .ok (.invokevirtual 40, 3) := by decide +kernel
theorem dX4_run_20 : decode cX4_run 20 = .ok (.iconst 1, 1) := by decide +kernel
theorem dX4_run_21 : decode cX4_run 21 = .ok (.isub, 1) := by decide +kernel
theorem dX4_run_22 : decode cX4_run 22 = .ok (.invokestatic 32, 3) := by decide +kernel
theorem dX4_run_25 : decode cX4_run 25 = .ok (.ifCond .eq 28, 3) := by decide +kernel
theorem dX4_run_28 : decode cX4_run 28 = .ok (.iload_n 3, 1) := by decide +kernel
theorem dX4_run_29 : decode cX4_run 29 = .ok (.iconst 0, 1) := by decide +kernel
theorem dX4_run_30 : decode cX4_run 30 = .ok (.iconst 1, 1) := by decide +kernel
theorem dX4_run_31 : decode cX4_run 31 = .ok (.invokestatic 32, 3) := by decide +kernel
theorem dX4_run_34 : decode cX4_run 34 = .ok (.ifCond .eq 19, 3) := by decide +kernel
theorem dX4_run_37 : decode cX4_run 37 = .ok (.aload_n 0, 1) := by decide +kernel
theorem dX4_run_38 : decode cX4_run 38 = .ok (.getfield 19, 3) := by decide +kernel
theorem dX4_run_41 : decode cX4_run 41 = .ok (.aload_n 0, 1) := by decide +kernel
theorem dX4_run_42 : decode cX4_run 42 = .ok (.iload_n 1, 1) := by decide +kernel
theorem dX4_run_43 : decode cX4_run 43 = .ok (.iload_n 2, 1) := by decide +kernel
theorem dX4_run_44 : decode cX4_run 44 = .ok (.invokevirtual 67, 3) := by decide +kernel
theorem dX4_run_47 : decode cX4_run 47 = .ok (.iload_n 3, 1) := by decide +kernel
theorem dX4_run_48 : decode cX4_run 48 = .ok (.iadd, 1) := by decide +kernel
theorem dX4_run_49 : decode cX4_run 49 = .ok (.iaload, 1) := by decide +kernel
theorem dX4_run_50 : decode cX4_run 50 = .ok (.goto 8, 3) := by decide +kernel
theorem dX4_run_53 : decode cX4_run 53 = .ok (.aload_n 0, 1) := by decide +kernel
theorem dX4_run_54 : decode cX4_run 54 = .ok (.iconst 1, 1) := by decide +kernel
theorem dX4_run_55 : decode cX4_run 55 = .ok (.invokevirtual 47, 3) := by decide +kernel
theorem dX4_run_58 : decode cX4_run 58 = .ok (.ireturn, 1) := by decide +kernel
set_option maxRecDepth 20000 in
theorem ggX4_differ_X4_pe : GoodIn wsX4_differ wsX4_pe := goodIn_r _ [7, 8, 9, 10, 11, 12, 13, 14, 15] (by decide +kernel) (by decide +kernel)
set_option maxRecDepth 20000 in
theorem gX4_differ_X4_pe : GoodIn wsX4_differ (wsV RX4 40 RX4 yX4_pe wsX4_pe) := goodIn_app (goodIn_of _ (by decide +kernel)) ggX4_differ_X4_pe
theorem dX4_differ_0 : decode cX4_differ 0 = .ok (.iconst 0, 1) := by decide +kernel
theorem dX4_differ_1 : decode cX4_differ 1 = .ok (.istore_n 1, 1) := by decide +kernel
theorem dX4_differ_2 : decode cX4_differ 2 = .ok (.iconst 0, 1) := by decide +kernel
theorem dX4_differ_3 : decode cX4_differ 3 = .ok (.istore_n 2, 1) := by decide +kernel
theorem dX4_differ_4 : decode cX4_differ 4 = .ok (.iload_n 2, 1) := by decide +kernel
theorem dX4_differ_5 : decode cX4_differ 5 = .ok (.iconst 2, 1) := by decide +kernel
theorem dX4_differ_6 : decode cX4_differ 6 = .ok (.if_icmp .ge 60, 3) := by decide +kernel
theorem dX4_differ_9 : decode cX4_differ 9 = .ok (.iconst 0, 1) := by decide +kernel
theorem dX4_differ_10 : decode cX4_differ 10 = .ok (.istore_n 3, 1) := by decide +kernel
theorem dX4_differ_11 : decode cX4_differ 11 = .ok (.iload_n 3, 1) := by decide +kernel
theorem dX4_differ_12 : decode cX4_differ 12 = .ok (.aload_n 0, 1) := by decide +kernel
theorem dX4_differ_13 : decode cX4_differ 13 = .ok (.iload_n 2, 1) := by decide +kernel
theorem dX4_differ_14 : decode cX4_differ 14 = .ok (.iconst 1, 1) := by decide +kernel
theorem dX4_differ_15 : decode cX4_differ 15 = .ok (.invokevirtual 40, 3) := by decide +kernel
theorem dX4_differ_18 : decode cX4_differ 18 = .ok (.if_icmp .ge 42, 3) := by decide +kernel
theorem dX4_differ_21 : decode cX4_differ 21 = .ok (.iload_n 1, 1) := by decide +kernel
theorem dX4_differ_22 : decode cX4_differ 22 = .ok (.aload_n 0, 1) := by decide +kernel
theorem dX4_differ_23 : decode cX4_differ 23 = .ok (.getfield 13, 3) := by decide +kernel
theorem dX4_differ_26 : decode cX4_differ 26 = .ok (.bipush 60, 2) := by decide +kernel
theorem dX4_differ_28 : decode cX4_differ 28 = .ok (.iload_n 2, 1) := by decide +kernel
theorem dX4_differ_29 : decode cX4_differ 29 = .ok (.imul, 1) := by decide +kernel
theorem dX4_differ_30 : decode cX4_differ 30 = .ok (.iload_n 3, 1) := by decide +kernel
theorem dX4_differ_31 : decode cX4_differ 31 = .ok (.iadd, 1) := by decide +kernel
theorem dX4_differ_32 : decode cX4_differ 32 = .ok (.iaload, 1) := by decide +kernel
theorem dX4_differ_33 : decode cX4_differ 33 = .ok (.aload_n 0, 1) := by decide +kernel
theorem dX4_differ_34 : decode cX4_differ 34 = .ok (.getfield 16, 3) := by decide +kernel
theorem dX4_differ_37 : decode cX4_differ 37 = .ok (.bipush 60, 2) := by decide +kernel
theorem dX4_differ_39 : decode cX4_differ 39 = .ok (.iload_n 2, 1) := by decide +kernel
theorem dX4_differ_40 : decode cX4_differ 40 = .ok (.imul, 1) := by decide +kernel
theorem dX4_differ_41 : decode cX4_differ 41 = .ok (.iload_n 3, 1) := by decide +kernel
theorem dX4_differ_42 : decode cX4_differ 42 = .ok (.iadd, 1) := by decide +kernel
theorem dX4_differ_43 : decode cX4_differ 43 = .ok (.iaload, 1) := by decide +kernel
theorem dX4_differ_44 : decode cX4_differ 44 = .ok (.if_icmp .ne 7, 3) := by decide +kernel
theorem dX4_differ_47 : decode cX4_differ 47 = .ok (.iconst 0, 1) := by decide +kernel
theorem dX4_differ_48 : decode cX4_differ 48 = .ok (.goto 4, 3) := by decide +kernel
theorem dX4_differ_51 : decode cX4_differ 51 = .ok (.iconst 1, 1) := by decide +kernel
theorem dX4_differ_52 : decode cX4_differ 52 = .ok (.iadd, 1) := by decide +kernel
theorem dX4_differ_53 : decode cX4_differ 53 = .ok (.istore_n 1, 1) := by decide +kernel
theorem dX4_differ_54 : decode cX4_differ 54 = .ok (.iinc 3 1, 3) := by decide +kernel
theorem dX4_differ_57 : decode cX4_differ 57 = .ok (.goto (-46), 3) := by decide +kernel
theorem dX4_differ_60 : decode cX4_differ 60 = .ok (.iinc 2 1, 3) := by decide +kernel
theorem dX4_differ_63 : decode cX4_differ 63 = .ok (.goto (-59), 3) := by decide +kernel
theorem dX4_differ_66 : decode cX4_differ 66 = .ok (.iload_n 1, 1) := by decide +kernel
theorem dX4_differ_67 : decode cX4_differ 67 = .ok (.ireturn, 1) := by decide +kernel
set_option maxRecDepth 20000 in
theorem ggX4_doneRows_X4_pe : GoodIn wsX4_doneRows wsX4_pe := goodIn_r _ [9, 10, 11, 12, 13, 14, 15, 16, 17] (by decide +kernel) (by decide +kernel)
set_option maxRecDepth 20000 in
theorem gX4_doneRows_X4_pe : GoodIn wsX4_doneRows (wsV RX4 40 RX4 yX4_pe wsX4_pe) := goodIn_app (goodIn_of _ (by decide +kernel)) ggX4_doneRows_X4_pe
theorem dX4_doneRows_0 : decode cX4_doneRows 0 = .ok (.aload_n 0, 1) := by decide +kernel
theorem dX4_doneRows_1 : decode cX4_doneRows 1 = .ok (.iconst 0, 1) := by decide +kernel
theorem dX4_doneRows_2 : decode cX4_doneRows 2 = .ok (.iconst 1, 1) := by decide +kernel
theorem dX4_doneRows_3 : decode cX4_doneRows 3 = .ok (.invokevirtual 40, 3) := by decide +kernel
theorem dX4_doneRows_6 : decode cX4_doneRows 6 = .ok (.aload_n 0, 1) := by decide +kernel
theorem dX4_doneRows_7 : decode cX4_doneRows 7 = .ok (.iconst 1, 1) := by decide +kernel
theorem dX4_doneRows_8 : decode cX4_doneRows 8 = .ok (.iconst 1, 1) := by decide +kernel
theorem dX4_doneRows_9 : decode cX4_doneRows 9 = .ok (.invokevirtual 40, 3) := by decide +kernel
theorem dX4_doneRows_12 : decode cX4_doneRows 12 = .ok (.invokestatic 55, 3) := by decide +kernel
theorem dX4_doneRows_15 : decode cX4_doneRows 15 = .ok (.bipush 6, 2) := by decide +kernel
theorem dX4_doneRows_17 : decode cX4_doneRows 17 = .ok (.idiv, 1) := by decide +kernel
theorem dX4_doneRows_18 : decode cX4_doneRows 18 = .ok (.ireturn, 1) := by decide +kernel
set_option maxRecDepth 20000 in
theorem ggX4_torn_X4_doneRows : GoodIn wsX4_torn wsX4_doneRows := goodIn_r _ [6, 7, 8, 9, 10, 11, 12, 13, 5, 14, 15, 24, 25, 26, 27, 28, 29, 30] (by decide +kernel) (by decide +kernel)
set_option maxRecDepth 20000 in
theorem gX4_torn_X4_doneRows : GoodIn wsX4_torn (wsV RX4 82 RX4 yX4_doneRows wsX4_doneRows) := goodIn_app (goodIn_of _ (by decide +kernel)) ggX4_torn_X4_doneRows
set_option maxRecDepth 20000 in
theorem ggX4_torn_X4_colour : GoodIn wsX4_torn wsX4_colour := goodIn_r _ [19, 20, 21, 22, 5, 23, 11, 12, 13, 14, 15, 24, 25, 26, 27, 28, 29, 30] (by decide +kernel) (by decide +kernel)
set_option maxRecDepth 20000 in
theorem gX4_torn_X4_colour : GoodIn wsX4_torn (wsV RX4 73 RX4 yX4_colour wsX4_colour) := goodIn_app (goodIn_of _ (by decide +kernel)) ggX4_torn_X4_colour
set_option maxRecDepth 20000 in
theorem ggX4_torn_X4_at : GoodIn wsX4_torn wsX4_at := goodIn_r _ [23] (by decide +kernel) (by decide +kernel)
set_option maxRecDepth 20000 in
theorem gX4_torn_X4_at : GoodIn wsX4_torn (va_wsS RX4 36 yX4_at wsX4_at) := goodIn_app (goodIn_of _ (by decide +kernel)) ggX4_torn_X4_at
theorem dX4_torn_0 : decode cX4_torn 0 = .ok (.iconst 0, 1) := by decide +kernel
theorem dX4_torn_1 : decode cX4_torn 1 = .ok (.istore_n 1, 1) := by decide +kernel
theorem dX4_torn_2 : decode cX4_torn 2 = .ok (.iconst 0, 1) := by decide +kernel
theorem dX4_torn_3 : decode cX4_torn 3 = .ok (.istore_n 2, 1) := by decide +kernel
theorem dX4_torn_4 : decode cX4_torn 4 = .ok (.iload_n 2, 1) := by decide +kernel
theorem dX4_torn_5 : decode cX4_torn 5 = .ok (.aload_n 0, 1) := by decide +kernel
theorem dX4_torn_6 : decode cX4_torn 6 = .ok (.invokevirtual 82, 3) := by decide +kernel
theorem dX4_torn_9 : decode cX4_torn 9 = .ok (.if_icmp .ge 72, 3) := by decide +kernel
theorem dX4_torn_12 : decode cX4_torn 12 = .ok (.aload_n 0, 1) := by decide +kernel
theorem dX4_torn_13 : decode cX4_torn 13 = .ok (.iconst 5, 1) := by decide +kernel
theorem dX4_torn_14 : decode cX4_torn 14 = .ok (.iload_n 2, 1) := by decide +kernel
theorem dX4_torn_15 : decode cX4_torn 15 = .ok (.invokevirtual 73, 3) := by decide +kernel
theorem dX4_torn_18 : decode cX4_torn 18 = .ok (.aload_n 0, 1) := by decide +kernel
theorem dX4_torn_19 : decode cX4_torn 19 = .ok (.bipush 6, 2) := by decide +kernel
theorem dX4_torn_21 : decode cX4_torn 21 = .ok (.iload_n 2, 1) := by decide +kernel
theorem dX4_torn_22 : decode cX4_torn 22 = .ok (.invokevirtual 73, 3) := by decide +kernel
theorem dX4_torn_25 : decode cX4_torn 25 = .ok (.if_icmp .ne 7, 3) := by decide +kernel
theorem dX4_torn_28 : decode cX4_torn 28 = .ok (.iconst 1, 1) := by decide +kernel
theorem dX4_torn_29 : decode cX4_torn 29 = .ok (.goto 4, 3) := by decide +kernel
theorem dX4_torn_32 : decode cX4_torn 32 = .ok (.iconst 0, 1) := by decide +kernel
theorem dX4_torn_33 : decode cX4_torn 33 = .ok (.istore_n 3, 1) := by decide +kernel
theorem dX4_torn_34 : decode cX4_torn 34 = .ok (.iload_n 1, 1) := by decide +kernel
theorem dX4_torn_35 : decode cX4_torn 35 = .ok (.iload_n 3, 1) := by decide +kernel
theorem dX4_torn_36 : decode cX4_torn 36 = .ok (.aload_n 0, 1) := by decide +kernel
theorem dX4_torn_37 : decode cX4_torn 37 = .ok (.getfield 16, 3) := by decide +kernel
theorem dX4_torn_40 : decode cX4_torn 40 = .ok (.iconst 5, 1) := by decide +kernel
theorem dX4_torn_41 : decode cX4_torn 41 = .ok (.iload_n 2, 1) := by decide +kernel
theorem dX4_torn_42 : decode cX4_torn 42 = .ok (.invokestatic 36, 3) := by decide +kernel
theorem dX4_torn_45 : decode cX4_torn 45 = .ok (.iaload, 1) := by decide +kernel
theorem dX4_torn_46 : decode cX4_torn 46 = .ok (.aload_n 0, 1) := by decide +kernel
theorem dX4_torn_47 : decode cX4_torn 47 = .ok (.getfield 16, 3) := by decide +kernel
theorem dX4_torn_50 : decode cX4_torn 50 = .ok (.bipush 6, 2) := by decide +kernel
theorem dX4_torn_52 : decode cX4_torn 52 = .ok (.iload_n 2, 1) := by decide +kernel
theorem dX4_torn_53 : decode cX4_torn 53 = .ok (.invokestatic 36, 3) := by decide +kernel
theorem dX4_torn_56 : decode cX4_torn 56 = .ok (.iaload, 1) := by decide +kernel
theorem dX4_torn_57 : decode cX4_torn 57 = .ok (.if_icmp .ne 7, 3) := by decide +kernel
theorem dX4_torn_60 : decode cX4_torn 60 = .ok (.iconst 1, 1) := by decide +kernel
theorem dX4_torn_61 : decode cX4_torn 61 = .ok (.goto 4, 3) := by decide +kernel
theorem dX4_torn_64 : decode cX4_torn 64 = .ok (.iconst 0, 1) := by decide +kernel
theorem dX4_torn_65 : decode cX4_torn 65 = .ok (.if_icmp .ne 7, 3) := by decide +kernel
theorem dX4_torn_68 : decode cX4_torn 68 = .ok (.iconst 0, 1) := by decide +kernel
theorem dX4_torn_69 : decode cX4_torn 69 = .ok (.goto 4, 3) := by decide +kernel
theorem dX4_torn_72 : decode cX4_torn 72 = .ok (.iconst 1, 1) := by decide +kernel
theorem dX4_torn_73 : decode cX4_torn 73 = .ok (.iadd, 1) := by decide +kernel
theorem dX4_torn_74 : decode cX4_torn 74 = .ok (.istore_n 1, 1) := by decide +kernel
theorem dX4_torn_75 : decode cX4_torn 75 = .ok (.iinc 2 1, 3) := by decide +kernel
theorem dX4_torn_78 : decode cX4_torn 78 = .ok (.goto (-74), 3) := by decide +kernel
theorem dX4_torn_81 : decode cX4_torn 81 = .ok (.iload_n 1, 1) := by decide +kernel
theorem dX4_torn_82 : decode cX4_torn 82 = .ok (.ireturn, 1) := by decide +kernel
set_option maxRecDepth 20000 in
theorem ggX4_counted_X4_pe : GoodIn wsX4_counted wsX4_pe := goodIn_r _ [7, 8, 34, 35, 36, 37, 38, 39, 40] (by decide +kernel) (by decide +kernel)
set_option maxRecDepth 20000 in
theorem gX4_counted_X4_pe : GoodIn wsX4_counted (wsV RX4 40 RX4 yX4_pe wsX4_pe) := goodIn_app (goodIn_of _ (by decide +kernel)) ggX4_counted_X4_pe
set_option maxRecDepth 20000 in
theorem ggX4_counted_X4_differ : GoodIn wsX4_counted wsX4_differ := goodIn_r _ [12, 13, 14, 3, 4, 5, 6, 7, 8, 34, 35, 36, 37, 38, 39, 40] (by decide +kernel) (by decide +kernel)
set_option maxRecDepth 20000 in
theorem gX4_counted_X4_differ : GoodIn wsX4_counted (wsV RX4 86 RX4 yX4_differ wsX4_differ) := goodIn_app (goodIn_of _ (by decide +kernel)) ggX4_counted_X4_differ
set_option maxRecDepth 20000 in
theorem ggX4_counted_X4_doneRows : GoodIn wsX4_counted wsX4_doneRows := goodIn_r _ [18, 19, 20, 21, 22, 3, 4, 5, 6, 7, 8, 34, 35, 36, 37, 38, 39, 40] (by decide +kernel) (by decide +kernel)
set_option maxRecDepth 20000 in
theorem gX4_counted_X4_doneRows : GoodIn wsX4_counted (wsV RX4 82 RX4 yX4_doneRows wsX4_doneRows) := goodIn_app (goodIn_of _ (by decide +kernel)) ggX4_counted_X4_doneRows
set_option maxRecDepth 20000 in
theorem ggX4_counted_X4_torn : GoodIn wsX4_counted wsX4_torn := goodIn_r _ [26, 14, 15, 16, 17, 6, 18, 19, 20, 21, 22, 3, 4, 5, 7, 8, 27, 28, 29, 30, 13, 31, 32, 33, 34, 35, 36, 37, 38, 39, 40] (by decide +kernel) (by decide +kernel)
set_option maxRecDepth 20000 in
theorem gX4_counted_X4_torn : GoodIn wsX4_counted (wsV RX4 89 RX4 yX4_torn wsX4_torn) := goodIn_app (goodIn_of _ (by decide +kernel)) ggX4_counted_X4_torn
theorem dX4_counted_0 : decode cX4_counted 0 = .ok (.iconst 0, 1) := by decide +kernel
theorem dX4_counted_1 : decode cX4_counted 1 = .ok (.istore_n 2, 1) := by decide +kernel
theorem dX4_counted_2 : decode cX4_counted 2 = .ok (.iload_n 1, 1) := by decide +kernel
theorem dX4_counted_3 : decode cX4_counted 3 = .ok (.tableswitch 88 0 7 #[45, 52, 66, 71, 76, 88, 88, 81], 45) := by decide +kernel
theorem dX4_counted_48 : decode cX4_counted 48 = .ok (.aload_n 0, 1) := by decide +kernel
theorem dX4_counted_49 : decode cX4_counted 49 = .ok (.getfield 25, 3) := by decide +kernel
theorem dX4_counted_52 : decode cX4_counted 52 = .ok (.iconst 0, 1) := by decide +kernel
theorem dX4_counted_53 : decode cX4_counted 53 = .ok (.iaload, 1) := by decide +kernel
theorem dX4_counted_54 : decode cX4_counted 54 = .ok (.ireturn, 1) := by decide +kernel
theorem dX4_counted_55 : decode cX4_counted 55 = .ok (.aload_n 0, 1) := by decide +kernel
theorem dX4_counted_56 : decode cX4_counted 56 = .ok (.iconst 0, 1) := by decide +kernel
theorem dX4_counted_57 : decode cX4_counted 57 = .ok (.iconst 1, 1) := by decide +kernel
theorem dX4_counted_58 : decode cX4_counted 58 = .ok (.invokevirtual 40, 3) := by decide +kernel
theorem dX4_counted_61 : decode cX4_counted 61 = .ok (.aload_n 0, 1) := by decide +kernel
theorem dX4_counted_62 : decode cX4_counted 62 = .ok (.iconst 1, 1) := by decide +kernel
theorem dX4_counted_63 : decode cX4_counted 63 = .ok (.iconst 1, 1) := by decide +kernel
theorem dX4_counted_64 : decode cX4_counted 64 = .ok (.invokevirtual 40, 3) := by decide +kernel
theorem dX4_counted_67 : decode cX4_counted 67 = .ok (.iadd, 1) := by decide +kernel
theorem dX4_counted_68 : decode cX4_counted 68 = .ok (.ireturn, 1) := by decide +kernel
theorem dX4_counted_69 : decode cX4_counted 69 = .ok (.aload_n 0, 1) := by decide +kernel
theorem dX4_counted_70 : decode cX4_counted 70 = .ok (.invokevirtual 86, 3) := by decide +kernel
theorem dX4_counted_73 : decode cX4_counted 73 = .ok (.ireturn, 1) := by decide +kernel
theorem dX4_counted_74 : decode cX4_counted 74 = .ok (.aload_n 0, 1) := by decide +kernel
theorem dX4_counted_75 : decode cX4_counted 75 = .ok (.invokevirtual 82, 3) := by decide +kernel
theorem dX4_counted_78 : decode cX4_counted 78 = .ok (.ireturn, 1) := by decide +kernel
theorem dX4_counted_79 : decode cX4_counted 79 = .ok (.aload_n 0, 1) := by decide +kernel
theorem dX4_counted_80 : decode cX4_counted 80 = .ok (.invokevirtual 89, 3) := by decide +kernel
theorem dX4_counted_83 : decode cX4_counted 83 = .ok (.ireturn, 1) := by decide +kernel
theorem dX4_counted_84 : decode cX4_counted 84 = .ok (.aload_n 0, 1) := by decide +kernel
theorem dX4_counted_85 : decode cX4_counted 85 = .ok (.getfield 25, 3) := by decide +kernel
theorem dX4_counted_88 : decode cX4_counted 88 = .ok (.iconst 1, 1) := by decide +kernel
theorem dX4_counted_89 : decode cX4_counted 89 = .ok (.iaload, 1) := by decide +kernel
theorem dX4_counted_90 : decode cX4_counted 90 = .ok (.ireturn, 1) := by decide +kernel
theorem dX4_counted_91 : decode cX4_counted 91 = .ok (.aload_n 0, 1) := by decide +kernel
theorem dX4_counted_92 : decode cX4_counted 92 = .ok (.getfield 22, 3) := by decide +kernel
theorem dX4_counted_95 : decode cX4_counted 95 = .ok (.astore_n 3, 1) := by decide +kernel
theorem dX4_counted_96 : decode cX4_counted 96 = .ok (.aload_n 3, 1) := by decide +kernel
theorem dX4_counted_97 : decode cX4_counted 97 = .ok (.arraylength, 1) := by decide +kernel
theorem dX4_counted_98 : decode cX4_counted 98 = .ok (.istore 4, 2) := by decide +kernel
theorem dX4_counted_100 : decode cX4_counted 100 = .ok (.iconst 0, 1) := by decide +kernel
theorem dX4_counted_101 : decode cX4_counted 101 = .ok (.istore 5, 2) := by decide +kernel
theorem dX4_counted_103 : decode cX4_counted 103 = .ok (.iload 5, 2) := by decide +kernel
theorem dX4_counted_105 : decode cX4_counted 105 = .ok (.iload 4, 2) := by decide +kernel
theorem dX4_counted_107 : decode cX4_counted 107 = .ok (.if_icmp .ge 38, 3) := by decide +kernel
theorem dX4_counted_110 : decode cX4_counted 110 = .ok (.aload_n 3, 1) := by decide +kernel
theorem dX4_counted_111 : decode cX4_counted 111 = .ok (.iload 5, 2) := by decide +kernel
theorem dX4_counted_113 : decode cX4_counted 113 = .ok (.iaload, 1) := by decide +kernel
theorem dX4_counted_114 : decode cX4_counted 114 = .ok (.istore 6, 2) := by decide +kernel
theorem dX4_counted_116 : decode cX4_counted 116 = .ok (.iload_n 2, 1) := by decide +kernel
theorem dX4_counted_117 : decode cX4_counted 117 = .ok (.iload_n 1, 1) := by decide +kernel
theorem dX4_counted_118 : decode cX4_counted 118 = .ok (.iconst 5, 1) := by decide +kernel
theorem dX4_counted_119 : decode cX4_counted 119 = .ok (.if_icmp .ne 8, 3) := by decide +kernel
theorem dX4_counted_122 : decode cX4_counted 122 = .ok (.iload 6, 2) := by decide +kernel
theorem dX4_counted_124 : decode cX4_counted 124 = .ok (.goto 13, 3) := by decide +kernel
theorem dX4_counted_127 : decode cX4_counted 127 = .ok (.iload 6, 2) := by decide +kernel
theorem dX4_counted_129 : decode cX4_counted 129 = .ok (.ifCond .ne 7, 3) := by decide +kernel
theorem dX4_counted_132 : decode cX4_counted 132 = .ok (.iconst 1, 1) := by decide +kernel
theorem dX4_counted_133 : decode cX4_counted 133 = .ok (.goto 4, 3) := by decide +kernel
theorem dX4_counted_136 : decode cX4_counted 136 = .ok (.iconst 0, 1) := by decide +kernel
theorem dX4_counted_137 : decode cX4_counted 137 = .ok (.iadd, 1) := by decide +kernel
theorem dX4_counted_138 : decode cX4_counted 138 = .ok (.istore_n 2, 1) := by decide +kernel
theorem dX4_counted_139 : decode cX4_counted 139 = .ok (.iinc 5 1, 3) := by decide +kernel
theorem dX4_counted_142 : decode cX4_counted 142 = .ok (.goto (-39), 3) := by decide +kernel
theorem dX4_counted_145 : decode cX4_counted 145 = .ok (.iload_n 2, 1) := by decide +kernel
theorem dX4_counted_146 : decode cX4_counted 146 = .ok (.ireturn, 1) := by decide +kernel
set_option maxRecDepth 20000 in
theorem ggX4_count_X4_isIn : GoodIn wsX4_count wsX4_isIn := goodIn_r _ [5] (by decide +kernel) (by decide +kernel)
set_option maxRecDepth 20000 in
theorem gX4_count_X4_isIn : GoodIn wsX4_count (va_wsS RX4 32 yX4_isIn wsX4_isIn) := goodIn_app (goodIn_of _ (by decide +kernel)) ggX4_count_X4_isIn
set_option maxRecDepth 20000 in
theorem ggX4_count_X4_counted : GoodIn wsX4_count wsX4_counted := goodIn_r _ [9, 10, 11, 12, 13, 14, 4, 15, 16, 17, 18, 19, 20, 21, 22, 23, 24, 25, 26, 27, 28, 29, 30, 31, 32, 33, 34, 35, 36, 37, 38, 39, 40, 41, 46, 47, 48, 49, 50, 51, 52] (by decide +kernel) (by decide +kernel)
set_option maxRecDepth 20000 in
theorem gX4_count_X4_counted : GoodIn wsX4_count (wsV RX4 92 RX4 yX4_counted wsX4_counted) := goodIn_app (goodIn_of _ (by decide +kernel)) ggX4_count_X4_counted
set_option maxRecDepth 20000 in
theorem ggX4_count_X4_fail : GoodIn wsX4_count wsX4_fail := goodIn_r _ [45, 1, 46, 47, 48, 49, 50, 51, 52] (by decide +kernel) (by decide +kernel)
set_option maxRecDepth 20000 in
theorem gX4_count_X4_fail : GoodIn wsX4_count (wsV RX4 47 RX4 yX4_fail wsX4_fail) := goodIn_app (goodIn_of _ (by decide +kernel)) ggX4_count_X4_fail
theorem dX4_count_0 : decode cX4_count 0 = .ok (.aload_n 0, 1) := by decide +kernel
theorem dX4_count_1 : decode cX4_count 1 = .ok (.iconst 0, 1) := by decide +kernel
theorem dX4_count_2 : decode cX4_count 2 = .ok (.putfield 28, 3) := by decide +kernel
theorem dX4_count_5 : decode cX4_count 5 = .ok (.iload_n 1, 1) := by decide +kernel
theorem dX4_count_6 : decode cX4_count 6 = .ok (.iconst 0, 1) := by decide +kernel
theorem dX4_count_7 : decode cX4_count 7 = .ok (.bipush 7, 2) := by decide +kernel
theorem dX4_count_9 : decode cX4_count 9 = .ok (.invokestatic 32, 3) := by decide +kernel
theorem dX4_count_12 : decode cX4_count 12 = .ok (.ifCond .eq 11, 3) := by decide +kernel
theorem dX4_count_15 : decode cX4_count 15 = .ok (.aload_n 0, 1) := by decide +kernel
theorem dX4_count_16 : decode cX4_count 16 = .ok (.iload_n 1, 1) := by decide +kernel
theorem dX4_count_17 : decode cX4_count 17 = .ok (.invokevirtual 92, 3) := by decide +kernel
theorem dX4_count_20 : decode cX4_count 20 = .ok (.goto 8, 3) := by decide +kernel
theorem dX4_count_23 : decode cX4_count 23 = .ok (.aload_n 0, 1) := by decide +kernel
theorem dX4_count_24 : decode cX4_count 24 = .ok (.iconst 1, 1) := by decide +kernel
theorem dX4_count_25 : decode cX4_count 25 = .ok (.invokevirtual 47, 3) := by decide +kernel
theorem dX4_count_28 : decode cX4_count 28 = .ok (.ireturn, 1) := by decide +kernel
set_option maxRecDepth 20000 in
theorem ggX4_wool_X4_isColour : GoodIn wsX4_wool wsX4_isColour := goodIn_r _ [6, 7, 8, 5, 9] (by decide +kernel) (by decide +kernel)
set_option maxRecDepth 20000 in
theorem gX4_wool_X4_isColour : GoodIn wsX4_wool (va_wsS RX4 51 yX4_isColour wsX4_isColour) := goodIn_app (goodIn_of _ (by decide +kernel)) ggX4_wool_X4_isColour
set_option maxRecDepth 20000 in
theorem ggX4_wool_X4_fail : GoodIn wsX4_wool wsX4_fail := goodIn_r _ [13, 1, 14, 15, 16, 17, 18, 19, 20] (by decide +kernel) (by decide +kernel)
set_option maxRecDepth 20000 in
theorem gX4_wool_X4_fail : GoodIn wsX4_wool (wsV RX4 47 RX4 yX4_fail wsX4_fail) := goodIn_app (goodIn_of _ (by decide +kernel)) ggX4_wool_X4_fail
theorem dX4_wool_0 : decode cX4_wool 0 = .ok (.aload_n 0, 1) := by decide +kernel
theorem dX4_wool_1 : decode cX4_wool 1 = .ok (.iconst 0, 1) := by decide +kernel
theorem dX4_wool_2 : decode cX4_wool 2 = .ok (.putfield 28, 3) := by decide +kernel
theorem dX4_wool_5 : decode cX4_wool 5 = .ok (.iload_n 1, 1) := by decide +kernel
theorem dX4_wool_6 : decode cX4_wool 6 = .ok (.invokestatic 51, 3) := by decide +kernel
theorem dX4_wool_9 : decode cX4_wool 9 = .ok (.ifCond .eq 12, 3) := by decide +kernel
theorem dX4_wool_12 : decode cX4_wool 12 = .ok (.aload_n 0, 1) := by decide +kernel
theorem dX4_wool_13 : decode cX4_wool 13 = .ok (.getfield 22, 3) := by decide +kernel
theorem dX4_wool_16 : decode cX4_wool 16 = .ok (.iload_n 1, 1) := by decide +kernel
theorem dX4_wool_17 : decode cX4_wool 17 = .ok (.iaload, 1) := by decide +kernel
theorem dX4_wool_18 : decode cX4_wool 18 = .ok (.goto 8, 3) := by decide +kernel
theorem dX4_wool_21 : decode cX4_wool 21 = .ok (.aload_n 0, 1) := by decide +kernel
theorem dX4_wool_22 : decode cX4_wool 22 = .ok (.iconst 1, 1) := by decide +kernel
theorem dX4_wool_23 : decode cX4_wool 23 = .ok (.invokevirtual 47, 3) := by decide +kernel
theorem dX4_wool_26 : decode cX4_wool 26 = .ok (.ireturn, 1) := by decide +kernel
theorem dX4_runEnd_0 : decode cX4_runEnd 0 = .ok (.iload_n 2, 1) := by decide +kernel
theorem dX4_runEnd_1 : decode cX4_runEnd 1 = .ok (.iconst 1, 1) := by decide +kernel
theorem dX4_runEnd_2 : decode cX4_runEnd 2 = .ok (.iadd, 1) := by decide +kernel
theorem dX4_runEnd_3 : decode cX4_runEnd 3 = .ok (.istore_n 3, 1) := by decide +kernel
theorem dX4_runEnd_4 : decode cX4_runEnd 4 = .ok (.iload_n 3, 1) := by decide +kernel
theorem dX4_runEnd_5 : decode cX4_runEnd 5 = .ok (.bipush 60, 2) := by decide +kernel
theorem dX4_runEnd_7 : decode cX4_runEnd 7 = .ok (.if_icmp .ge 34, 3) := by decide +kernel
theorem dX4_runEnd_10 : decode cX4_runEnd 10 = .ok (.aload_n 0, 1) := by decide +kernel
theorem dX4_runEnd_11 : decode cX4_runEnd 11 = .ok (.getfield 16, 3) := by decide +kernel
theorem dX4_runEnd_14 : decode cX4_runEnd 14 = .ok (.bipush 60, 2) := by decide +kernel
theorem dX4_runEnd_16 : decode cX4_runEnd 16 = .ok (.iload_n 1, 1) := by decide +kernel
theorem dX4_runEnd_17 : decode cX4_runEnd 17 = .ok (.imul, 1) := by decide +kernel
theorem dX4_runEnd_18 : decode cX4_runEnd 18 = .ok (.iload_n 3, 1) := by decide +kernel
theorem dX4_runEnd_19 : decode cX4_runEnd 19 = .ok (.iadd, 1) := by decide +kernel
theorem dX4_runEnd_20 : decode cX4_runEnd 20 = .ok (.iaload, 1) := by decide +kernel
theorem dX4_runEnd_21 : decode cX4_runEnd 21 = .ok (.aload_n 0, 1) := by decide +kernel
theorem dX4_runEnd_22 : decode cX4_runEnd 22 = .ok (.getfield 16, 3) := by decide +kernel
theorem dX4_runEnd_25 : decode cX4_runEnd 25 = .ok (.bipush 60, 2) := by decide +kernel
theorem dX4_runEnd_27 : decode cX4_runEnd 27 = .ok (.iload_n 1, 1) := by decide +kernel
theorem dX4_runEnd_28 : decode cX4_runEnd 28 = .ok (.imul, 1) := by decide +kernel
theorem dX4_runEnd_29 : decode cX4_runEnd 29 = .ok (.iload_n 2, 1) := by decide +kernel
theorem dX4_runEnd_30 : decode cX4_runEnd 30 = .ok (.iadd, 1) := by decide +kernel
theorem dX4_runEnd_31 : decode cX4_runEnd 31 = .ok (.iaload, 1) := by decide +kernel
theorem dX4_runEnd_32 : decode cX4_runEnd 32 = .ok (.if_icmp .ne 9, 3) := by decide +kernel
theorem dX4_runEnd_35 : decode cX4_runEnd 35 = .ok (.iinc 3 1, 3) := by decide +kernel
theorem dX4_runEnd_38 : decode cX4_runEnd 38 = .ok (.goto (-34), 3) := by decide +kernel
theorem dX4_runEnd_41 : decode cX4_runEnd 41 = .ok (.iload_n 3, 1) := by decide +kernel
theorem dX4_runEnd_42 : decode cX4_runEnd 42 = .ok (.ireturn, 1) := by decide +kernel
set_option maxRecDepth 20000 in
theorem ggX4_advise_X4_isWeaver : GoodIn wsX4_advise wsX4_isWeaver := goodIn_r _ [6, 7, 8, 5, 9] (by decide +kernel) (by decide +kernel)
set_option maxRecDepth 20000 in
theorem gX4_advise_X4_isWeaver : GoodIn wsX4_advise (va_wsS RX4 60 yX4_isWeaver wsX4_isWeaver) := goodIn_app (goodIn_of _ (by decide +kernel)) ggX4_advise_X4_isWeaver
set_option maxRecDepth 20000 in
theorem ggX4_advise_X4_fail : GoodIn wsX4_advise wsX4_fail := goodIn_r _ [13, 1, 23, 24, 25, 26, 27, 28, 29] (by decide +kernel) (by decide +kernel)
set_option maxRecDepth 20000 in
theorem gX4_advise_X4_fail : GoodIn wsX4_advise (wsV RX4 47 RX4 yX4_fail wsX4_fail) := goodIn_app (goodIn_of _ (by decide +kernel)) ggX4_advise_X4_fail
set_option maxRecDepth 20000 in
theorem ggX4_advise_X4_pe : GoodIn wsX4_advise wsX4_pe := goodIn_r _ [17, 18, 23, 24, 25, 26, 27, 28, 29] (by decide +kernel) (by decide +kernel)
set_option maxRecDepth 20000 in
theorem gX4_advise_X4_pe : GoodIn wsX4_advise (wsV RX4 40 RX4 yX4_pe wsX4_pe) := goodIn_app (goodIn_of _ (by decide +kernel)) ggX4_advise_X4_pe
set_option maxRecDepth 20000 in
theorem ggX4_advise_X4_runEnd : GoodIn wsX4_advise wsX4_runEnd := goodIn_r _ [22, 2, 23, 24, 25, 26, 27, 28, 29] (by decide +kernel) (by decide +kernel)
set_option maxRecDepth 20000 in
theorem gX4_advise_X4_runEnd : GoodIn wsX4_advise (wsV RX4 95 RX4 yX4_runEnd wsX4_runEnd) := goodIn_app (goodIn_of _ (by decide +kernel)) ggX4_advise_X4_runEnd
theorem dX4_advise_0 : decode cX4_advise 0 = .ok (.aload_n 0, 1) := by decide +kernel
theorem dX4_advise_1 : decode cX4_advise 1 = .ok (.iconst 0, 1) := by decide +kernel
theorem dX4_advise_2 : decode cX4_advise 2 = .ok (.putfield 28, 3) := by decide +kernel
theorem dX4_advise_5 : decode cX4_advise 5 = .ok (.iload_n 1, 1) := by decide +kernel
theorem dX4_advise_6 : decode cX4_advise 6 = .ok (.invokestatic 60, 3) := by decide +kernel
theorem dX4_advise_9 : decode cX4_advise 9 = .ok (.ifCond .ne 9, 3) := by decide +kernel
theorem dX4_advise_12 : decode cX4_advise 12 = .ok (.aload_n 0, 1) := by decide +kernel
theorem dX4_advise_13 : decode cX4_advise 13 = .ok (.iconst 1, 1) := by decide +kernel
theorem dX4_advise_14 : decode cX4_advise 14 = .ok (.invokevirtual 47, 3) := by decide +kernel
theorem dX4_advise_17 : decode cX4_advise 17 = .ok (.ireturn, 1) := by decide +kernel
theorem dX4_advise_18 : decode cX4_advise 18 = .ok (.aload_n 0, 1) := by decide +kernel
theorem dX4_advise_19 : decode cX4_advise 19 = .ok (.iload_n 1, 1) := by decide +kernel
theorem dX4_advise_20 : decode cX4_advise 20 = .ok (.iconst 1, 1) := by decide +kernel
theorem dX4_advise_21 : decode cX4_advise 21 = .ok (.invokevirtual 40, 3) := by decide +kernel
theorem dX4_advise_24 : decode cX4_advise 24 = .ok (.istore_n 2, 1) := by decide +kernel
theorem dX4_advise_25 : decode cX4_advise 25 = .ok (.iload_n 2, 1) := by decide +kernel
theorem dX4_advise_26 : decode cX4_advise 26 = .ok (.bipush 60, 2) := by decide +kernel
theorem dX4_advise_28 : decode cX4_advise 28 = .ok (.if_icmp .ne 7, 3) := by decide +kernel
theorem dX4_advise_31 : decode cX4_advise 31 = .ok (.iconst (-1), 1) := by decide +kernel
theorem dX4_advise_32 : decode cX4_advise 32 = .ok (.goto 26, 3) := by decide +kernel
theorem dX4_advise_35 : decode cX4_advise 35 = .ok (.bipush 100, 2) := by decide +kernel
theorem dX4_advise_37 : decode cX4_advise 37 = .ok (.aload_n 0, 1) := by decide +kernel
theorem dX4_advise_38 : decode cX4_advise 38 = .ok (.getfield 16, 3) := by decide +kernel
theorem dX4_advise_41 : decode cX4_advise 41 = .ok (.bipush 60, 2) := by decide +kernel
theorem dX4_advise_43 : decode cX4_advise 43 = .ok (.iload_n 1, 1) := by decide +kernel
theorem dX4_advise_44 : decode cX4_advise 44 = .ok (.imul, 1) := by decide +kernel
theorem dX4_advise_45 : decode cX4_advise 45 = .ok (.iload_n 2, 1) := by decide +kernel
theorem dX4_advise_46 : decode cX4_advise 46 = .ok (.iadd, 1) := by decide +kernel
theorem dX4_advise_47 : decode cX4_advise 47 = .ok (.iaload, 1) := by decide +kernel
theorem dX4_advise_48 : decode cX4_advise 48 = .ok (.imul, 1) := by decide +kernel
theorem dX4_advise_49 : decode cX4_advise 49 = .ok (.aload_n 0, 1) := by decide +kernel
theorem dX4_advise_50 : decode cX4_advise 50 = .ok (.iload_n 1, 1) := by decide +kernel
theorem dX4_advise_51 : decode cX4_advise 51 = .ok (.iload_n 2, 1) := by decide +kernel
theorem dX4_advise_52 : decode cX4_advise 52 = .ok (.invokevirtual 95, 3) := by decide +kernel
theorem dX4_advise_55 : decode cX4_advise 55 = .ok (.iadd, 1) := by decide +kernel
theorem dX4_advise_56 : decode cX4_advise 56 = .ok (.iload_n 2, 1) := by decide +kernel
theorem dX4_advise_57 : decode cX4_advise 57 = .ok (.isub, 1) := by decide +kernel
theorem dX4_advise_58 : decode cX4_advise 58 = .ok (.ireturn, 1) := by decide +kernel
set_option maxRecDepth 20000 in
theorem ggX4_runs_X4_isWeaver : GoodIn wsX4_runs wsX4_isWeaver := goodIn_r _ [5, 6, 7, 4, 8] (by decide +kernel) (by decide +kernel)
set_option maxRecDepth 20000 in
theorem gX4_runs_X4_isWeaver : GoodIn wsX4_runs (va_wsS RX4 60 yX4_isWeaver wsX4_isWeaver) := goodIn_app (goodIn_of _ (by decide +kernel)) ggX4_runs_X4_isWeaver
set_option maxRecDepth 20000 in
theorem ggX4_runs_X4_fail : GoodIn wsX4_runs wsX4_fail := goodIn_r _ [12, 1, 23, 24, 25, 26, 27, 28, 29] (by decide +kernel) (by decide +kernel)
set_option maxRecDepth 20000 in
theorem gX4_runs_X4_fail : GoodIn wsX4_runs (wsV RX4 47 RX4 yX4_fail wsX4_fail) := goodIn_app (goodIn_of _ (by decide +kernel)) ggX4_runs_X4_fail
set_option maxRecDepth 20000 in
theorem ggX4_runs_X4_pe : GoodIn wsX4_runs wsX4_pe := goodIn_r _ [16, 17, 23, 24, 25, 26, 27, 28, 29] (by decide +kernel) (by decide +kernel)
set_option maxRecDepth 20000 in
theorem gX4_runs_X4_pe : GoodIn wsX4_runs (wsV RX4 40 RX4 yX4_pe wsX4_pe) := goodIn_app (goodIn_of _ (by decide +kernel)) ggX4_runs_X4_pe
set_option maxRecDepth 20000 in
theorem ggX4_runs_X4_runEnd : GoodIn wsX4_runs wsX4_runEnd := goodIn_r _ [21, 22, 23, 24, 25, 26, 27, 28, 29] (by decide +kernel) (by decide +kernel)
set_option maxRecDepth 20000 in
theorem gX4_runs_X4_runEnd : GoodIn wsX4_runs (wsV RX4 95 RX4 yX4_runEnd wsX4_runEnd) := goodIn_app (goodIn_of _ (by decide +kernel)) ggX4_runs_X4_runEnd
theorem dX4_runs_0 : decode cX4_runs 0 = .ok (.aload_n 0, 1) := by decide +kernel
theorem dX4_runs_1 : decode cX4_runs 1 = .ok (.iconst 0, 1) := by decide +kernel
theorem dX4_runs_2 : decode cX4_runs 2 = .ok (.putfield 28, 3) := by decide +kernel
theorem dX4_runs_5 : decode cX4_runs 5 = .ok (.iload_n 1, 1) := by decide +kernel
theorem dX4_runs_6 : decode cX4_runs 6 = .ok (.invokestatic 60, 3) := by decide +kernel
theorem dX4_runs_9 : decode cX4_runs 9 = .ok (.ifCond .ne 9, 3) := by decide +kernel
theorem dX4_runs_12 : decode cX4_runs 12 = .ok (.aload_n 0, 1) := by decide +kernel
theorem dX4_runs_13 : decode cX4_runs 13 = .ok (.iconst 1, 1) := by decide +kernel
theorem dX4_runs_14 : decode cX4_runs 14 = .ok (.invokevirtual 47, 3) := by decide +kernel
theorem dX4_runs_17 : decode cX4_runs 17 = .ok (.ireturn, 1) := by decide +kernel
theorem dX4_runs_18 : decode cX4_runs 18 = .ok (.iconst 0, 1) := by decide +kernel
theorem dX4_runs_19 : decode cX4_runs 19 = .ok (.istore_n 2, 1) := by decide +kernel
theorem dX4_runs_20 : decode cX4_runs 20 = .ok (.aload_n 0, 1) := by decide +kernel
theorem dX4_runs_21 : decode cX4_runs 21 = .ok (.iload_n 1, 1) := by decide +kernel
theorem dX4_runs_22 : decode cX4_runs 22 = .ok (.iconst 1, 1) := by decide +kernel
theorem dX4_runs_23 : decode cX4_runs 23 = .ok (.invokevirtual 40, 3) := by decide +kernel
theorem dX4_runs_26 : decode cX4_runs 26 = .ok (.istore_n 3, 1) := by decide +kernel
theorem dX4_runs_27 : decode cX4_runs 27 = .ok (.iload_n 3, 1) := by decide +kernel
theorem dX4_runs_28 : decode cX4_runs 28 = .ok (.bipush 60, 2) := by decide +kernel
theorem dX4_runs_30 : decode cX4_runs 30 = .ok (.if_icmp .ge 16, 3) := by decide +kernel
theorem dX4_runs_33 : decode cX4_runs 33 = .ok (.iinc 2 1, 3) := by decide +kernel
theorem dX4_runs_36 : decode cX4_runs 36 = .ok (.aload_n 0, 1) := by decide +kernel
theorem dX4_runs_37 : decode cX4_runs 37 = .ok (.iload_n 1, 1) := by decide +kernel
theorem dX4_runs_38 : decode cX4_runs 38 = .ok (.iload_n 3, 1) := by decide +kernel
theorem dX4_runs_39 : decode cX4_runs 39 = .ok (.invokevirtual 95, 3) := by decide +kernel
theorem dX4_runs_42 : decode cX4_runs 42 = .ok (.istore_n 3, 1) := by decide +kernel
theorem dX4_runs_43 : decode cX4_runs 43 = .ok (.goto (-16), 3) := by decide +kernel
theorem dX4_runs_46 : decode cX4_runs 46 = .ok (.iload_n 2, 1) := by decide +kernel
theorem dX4_runs_47 : decode cX4_runs 47 = .ok (.ireturn, 1) := by decide +kernel
set_option maxRecDepth 20000 in
theorem ggX4_mends_X4_isWeaver : GoodIn wsX4_mends wsX4_isWeaver := goodIn_r _ [7, 8, 9, 6, 10] (by decide +kernel) (by decide +kernel)
set_option maxRecDepth 20000 in
theorem gX4_mends_X4_isWeaver : GoodIn wsX4_mends (va_wsS RX4 60 yX4_isWeaver wsX4_isWeaver) := goodIn_app (goodIn_of _ (by decide +kernel)) ggX4_mends_X4_isWeaver
set_option maxRecDepth 20000 in
theorem ggX4_mends_X4_fail : GoodIn wsX4_mends wsX4_fail := goodIn_r _ [14, 1, 20, 21, 22, 23, 24, 25, 26] (by decide +kernel) (by decide +kernel)
set_option maxRecDepth 20000 in
theorem gX4_mends_X4_fail : GoodIn wsX4_mends (wsV RX4 47 RX4 yX4_fail wsX4_fail) := goodIn_app (goodIn_of _ (by decide +kernel)) ggX4_mends_X4_fail
set_option maxRecDepth 20000 in
theorem ggX4_mends_X4_pe : GoodIn wsX4_mends wsX4_pe := goodIn_r _ [18, 19, 20, 21, 22, 23, 24, 25, 26] (by decide +kernel) (by decide +kernel)
set_option maxRecDepth 20000 in
theorem gX4_mends_X4_pe : GoodIn wsX4_mends (wsV RX4 40 RX4 yX4_pe wsX4_pe) := goodIn_app (goodIn_of _ (by decide +kernel)) ggX4_mends_X4_pe
theorem dX4_mends_0 : decode cX4_mends 0 = .ok (.aload_n 0, 1) := by decide +kernel
theorem dX4_mends_1 : decode cX4_mends 1 = .ok (.iconst 0, 1) := by decide +kernel
theorem dX4_mends_2 : decode cX4_mends 2 = .ok (.putfield 28, 3) := by decide +kernel
theorem dX4_mends_5 : decode cX4_mends 5 = .ok (.iload_n 1, 1) := by decide +kernel
theorem dX4_mends_6 : decode cX4_mends 6 = .ok (.invokestatic 60, 3) := by decide +kernel
theorem dX4_mends_9 : decode cX4_mends 9 = .ok (.ifCond .ne 9, 3) := by decide +kernel
theorem dX4_mends_12 : decode cX4_mends 12 = .ok (.aload_n 0, 1) := by decide +kernel
theorem dX4_mends_13 : decode cX4_mends 13 = .ok (.iconst 1, 1) := by decide +kernel
theorem dX4_mends_14 : decode cX4_mends 14 = .ok (.invokevirtual 47, 3) := by decide +kernel
theorem dX4_mends_17 : decode cX4_mends 17 = .ok (.ireturn, 1) := by decide +kernel
theorem dX4_mends_18 : decode cX4_mends 18 = .ok (.iconst 0, 1) := by decide +kernel
theorem dX4_mends_19 : decode cX4_mends 19 = .ok (.istore_n 2, 1) := by decide +kernel
theorem dX4_mends_20 : decode cX4_mends 20 = .ok (.iload_n 2, 1) := by decide +kernel
theorem dX4_mends_21 : decode cX4_mends 21 = .ok (.aload_n 0, 1) := by decide +kernel
theorem dX4_mends_22 : decode cX4_mends 22 = .ok (.iload_n 1, 1) := by decide +kernel
theorem dX4_mends_23 : decode cX4_mends 23 = .ok (.iconst 1, 1) := by decide +kernel
theorem dX4_mends_24 : decode cX4_mends 24 = .ok (.invokevirtual 40, 3) := by decide +kernel
theorem dX4_mends_27 : decode cX4_mends 27 = .ok (.if_icmp .ge 34, 3) := by decide +kernel
theorem dX4_mends_30 : decode cX4_mends 30 = .ok (.aload_n 0, 1) := by decide +kernel
theorem dX4_mends_31 : decode cX4_mends 31 = .ok (.getfield 13, 3) := by decide +kernel
theorem dX4_mends_34 : decode cX4_mends 34 = .ok (.bipush 60, 2) := by decide +kernel
theorem dX4_mends_36 : decode cX4_mends 36 = .ok (.iload_n 1, 1) := by decide +kernel
theorem dX4_mends_37 : decode cX4_mends 37 = .ok (.imul, 1) := by decide +kernel
theorem dX4_mends_38 : decode cX4_mends 38 = .ok (.iload_n 2, 1) := by decide +kernel
theorem dX4_mends_39 : decode cX4_mends 39 = .ok (.iadd, 1) := by decide +kernel
theorem dX4_mends_40 : decode cX4_mends 40 = .ok (.iaload, 1) := by decide +kernel
theorem dX4_mends_41 : decode cX4_mends 41 = .ok (.aload_n 0, 1) := by decide +kernel
theorem dX4_mends_42 : decode cX4_mends 42 = .ok (.getfield 16, 3) := by decide +kernel
theorem dX4_mends_45 : decode cX4_mends 45 = .ok (.bipush 60, 2) := by decide +kernel
theorem dX4_mends_47 : decode cX4_mends 47 = .ok (.iload_n 1, 1) := by decide +kernel
theorem dX4_mends_48 : decode cX4_mends 48 = .ok (.imul, 1) := by decide +kernel
theorem dX4_mends_49 : decode cX4_mends 49 = .ok (.iload_n 2, 1) := by decide +kernel
theorem dX4_mends_50 : decode cX4_mends 50 = .ok (.iadd, 1) := by decide +kernel
theorem dX4_mends_51 : decode cX4_mends 51 = .ok (.iaload, 1) := by decide +kernel
theorem dX4_mends_52 : decode cX4_mends 52 = .ok (.if_icmp .ne 9, 3) := by decide +kernel
theorem dX4_mends_55 : decode cX4_mends 55 = .ok (.iinc 2 1, 3) := by decide +kernel
theorem dX4_mends_58 : decode cX4_mends 58 = .ok (.goto (-38), 3) := by decide +kernel
theorem dX4_mends_61 : decode cX4_mends 61 = .ok (.aload_n 0, 1) := by decide +kernel
theorem dX4_mends_62 : decode cX4_mends 62 = .ok (.iload_n 1, 1) := by decide +kernel
theorem dX4_mends_63 : decode cX4_mends 63 = .ok (.iconst 1, 1) := by decide +kernel
theorem dX4_mends_64 : decode cX4_mends 64 = .ok (.invokevirtual 40, 3) := by decide +kernel
theorem dX4_mends_67 : decode cX4_mends 67 = .ok (.iload_n 2, 1) := by decide +kernel
theorem dX4_mends_68 : decode cX4_mends 68 = .ok (.isub, 1) := by decide +kernel
theorem dX4_mends_69 : decode cX4_mends 69 = .ok (.ireturn, 1) := by decide +kernel
set_option maxRecDepth 20000 in
theorem ggX4_isDone_X4_pe : GoodIn wsX4_isDone wsX4_pe := goodIn_r _ [5, 6, 7, 8, 9, 10, 11, 12, 13] (by decide +kernel) (by decide +kernel)
set_option maxRecDepth 20000 in
theorem gX4_isDone_X4_pe : GoodIn wsX4_isDone (wsV RX4 40 RX4 yX4_pe wsX4_pe) := goodIn_app (goodIn_of _ (by decide +kernel)) ggX4_isDone_X4_pe
theorem dX4_isDone_0 : decode cX4_isDone 0 = .ok (.aload_n 0, 1) := by decide +kernel
theorem dX4_isDone_1 : decode cX4_isDone 1 = .ok (.iload_n 1, 1) := by decide +kernel
theorem dX4_isDone_2 : decode cX4_isDone 2 = .ok (.iconst 2, 1) := by decide +kernel
theorem dX4_isDone_3 : decode cX4_isDone 3 = .ok (.invokevirtual 40, 3) := by decide +kernel
theorem dX4_isDone_6 : decode cX4_isDone 6 = .ok (.ifCond .eq 14, 3) := by decide +kernel
theorem dX4_isDone_9 : decode cX4_isDone 9 = .ok (.aload_n 0, 1) := by decide +kernel
theorem dX4_isDone_10 : decode cX4_isDone 10 = .ok (.iload_n 1, 1) := by decide +kernel
theorem dX4_isDone_11 : decode cX4_isDone 11 = .ok (.iconst 1, 1) := by decide +kernel
theorem dX4_isDone_12 : decode cX4_isDone 12 = .ok (.invokevirtual 40, 3) := by decide +kernel
theorem dX4_isDone_15 : decode cX4_isDone 15 = .ok (.bipush 60, 2) := by decide +kernel
theorem dX4_isDone_17 : decode cX4_isDone 17 = .ok (.if_icmp .ne 7, 3) := by decide +kernel
theorem dX4_isDone_20 : decode cX4_isDone 20 = .ok (.iconst 1, 1) := by decide +kernel
theorem dX4_isDone_21 : decode cX4_isDone 21 = .ok (.goto 4, 3) := by decide +kernel
theorem dX4_isDone_24 : decode cX4_isDone 24 = .ok (.iconst 0, 1) := by decide +kernel
theorem dX4_isDone_25 : decode cX4_isDone 25 = .ok (.ireturn, 1) := by decide +kernel
set_option maxRecDepth 20000 in
theorem ggX4_dropRun_X4_runAt : GoodIn wsX4_dropRun wsX4_runAt := goodIn_r _ [10] (by decide +kernel) (by decide +kernel)
set_option maxRecDepth 20000 in
theorem gX4_dropRun_X4_runAt : GoodIn wsX4_dropRun (wsV RX4 67 RX4 yX4_runAt wsX4_runAt) := goodIn_app (goodIn_of _ (by decide +kernel)) ggX4_dropRun_X4_runAt
set_option maxRecDepth 20000 in
theorem ggX4_dropRun_X4_pe : GoodIn wsX4_dropRun wsX4_pe := goodIn_r _ [14, 15, 20, 21, 22, 23, 24, 25, 26] (by decide +kernel) (by decide +kernel)
set_option maxRecDepth 20000 in
theorem gX4_dropRun_X4_pe : GoodIn wsX4_dropRun (wsV RX4 40 RX4 yX4_pe wsX4_pe) := goodIn_app (goodIn_of _ (by decide +kernel)) ggX4_dropRun_X4_pe
set_option maxRecDepth 20000 in
theorem ggX4_dropRun_X4_put : GoodIn wsX4_dropRun wsX4_put := goodIn_r _ [19, 15, 20, 21, 22, 23, 24, 25, 26] (by decide +kernel) (by decide +kernel)
set_option maxRecDepth 20000 in
theorem gX4_dropRun_X4_put : GoodIn wsX4_dropRun (wsV RX4 63 RX4 yX4_put wsX4_put) := goodIn_app (goodIn_of _ (by decide +kernel)) ggX4_dropRun_X4_put
theorem dX4_dropRun_0 : decode cX4_dropRun 0 = .ok (.aload_n 0, 1) := by decide +kernel
theorem dX4_dropRun_1 : decode cX4_dropRun 1 = .ok (.getfield 19, 3) := by decide +kernel
theorem dX4_dropRun_4 : decode cX4_dropRun 4 = .ok (.aload_n 0, 1) := by decide +kernel
theorem dX4_dropRun_5 : decode cX4_dropRun 5 = .ok (.iload_n 1, 1) := by decide +kernel
theorem dX4_dropRun_6 : decode cX4_dropRun 6 = .ok (.iconst 1, 1) := by decide +kernel
theorem dX4_dropRun_7 : decode cX4_dropRun 7 = .ok (.invokevirtual 67, 3) := by decide +kernel
theorem dX4_dropRun_10 : decode cX4_dropRun 10 = .ok (.aload_n 0, 1) := by decide +kernel
theorem dX4_dropRun_11 : decode cX4_dropRun 11 = .ok (.getfield 19, 3) := by decide +kernel
theorem dX4_dropRun_14 : decode cX4_dropRun 14 = .ok (.aload_n 0, 1) := by decide +kernel
theorem dX4_dropRun_15 : decode cX4_dropRun 15 = .ok (.iload_n 1, 1) := by decide +kernel
theorem dX4_dropRun_16 : decode cX4_dropRun 16 = .ok (.iconst 0, 1) := by decide +kernel
theorem dX4_dropRun_17 : decode cX4_dropRun 17 = .ok (.invokevirtual 67, 3) := by decide +kernel
theorem dX4_dropRun_20 : decode cX4_dropRun 20 = .ok (.bipush 38, 2) := by decide +kernel
theorem dX4_dropRun_22 : decode cX4_dropRun 22 = .ok (.invokestatic 98, 3) := by decide +kernel
theorem dX4_dropRun_25 : decode cX4_dropRun 25 = .ok (.aload_n 0, 1) := by decide +kernel
theorem dX4_dropRun_26 : decode cX4_dropRun 26 = .ok (.iload_n 1, 1) := by decide +kernel
theorem dX4_dropRun_27 : decode cX4_dropRun 27 = .ok (.iconst 2, 1) := by decide +kernel
theorem dX4_dropRun_28 : decode cX4_dropRun 28 = .ok (.aload_n 0, 1) := by decide +kernel
theorem dX4_dropRun_29 : decode cX4_dropRun 29 = .ok (.iload_n 1, 1) := by decide +kernel
theorem dX4_dropRun_30 : decode cX4_dropRun 30 = .ok (.iconst 2, 1) := by decide +kernel
theorem dX4_dropRun_31 : decode cX4_dropRun 31 = .ok (.invokevirtual 40, 3) := by decide +kernel
theorem dX4_dropRun_34 : decode cX4_dropRun 34 = .ok (.iconst 1, 1) := by decide +kernel
theorem dX4_dropRun_35 : decode cX4_dropRun 35 = .ok (.isub, 1) := by decide +kernel
theorem dX4_dropRun_36 : decode cX4_dropRun 36 = .ok (.invokevirtual 63, 3) := by decide +kernel
theorem dX4_dropRun_39 : decode cX4_dropRun 39 = .ok (.return_, 1) := by decide +kernel
set_option maxRecDepth 20000 in
theorem ggX4_knot_X4_runAt : GoodIn wsX4_knot wsX4_runAt := goodIn_r _ [8] (by decide +kernel) (by decide +kernel)
set_option maxRecDepth 20000 in
theorem gX4_knot_X4_runAt : GoodIn wsX4_knot (wsV RX4 67 RX4 yX4_runAt wsX4_runAt) := goodIn_app (goodIn_of _ (by decide +kernel)) ggX4_knot_X4_runAt
set_option maxRecDepth 20000 in
theorem ggX4_knot_X4_pe : GoodIn wsX4_knot wsX4_pe := goodIn_r _ [12, 13, 26, 27, 28, 29, 30, 31, 32] (by decide +kernel) (by decide +kernel)
set_option maxRecDepth 20000 in
theorem gX4_knot_X4_pe : GoodIn wsX4_knot (wsV RX4 40 RX4 yX4_pe wsX4_pe) := goodIn_app (goodIn_of _ (by decide +kernel)) ggX4_knot_X4_pe
set_option maxRecDepth 20000 in
theorem ggX4_knot_X4_put : GoodIn wsX4_knot wsX4_put := goodIn_r _ [17, 13, 26, 27, 28, 29, 30, 31, 32] (by decide +kernel) (by decide +kernel)
set_option maxRecDepth 20000 in
theorem gX4_knot_X4_put : GoodIn wsX4_knot (wsV RX4 63 RX4 yX4_put wsX4_put) := goodIn_app (goodIn_of _ (by decide +kernel)) ggX4_knot_X4_put
set_option maxRecDepth 20000 in
theorem ggX4_knot_X4_dropRun : GoodIn wsX4_knot wsX4_dropRun := goodIn_r _ [21, 1, 22, 23, 24, 25, 4, 5, 6, 7, 8, 9, 10, 11, 12, 13, 14, 15, 16, 17, 26, 27, 28, 29, 30, 31, 32] (by decide +kernel) (by decide +kernel)
set_option maxRecDepth 20000 in
theorem gX4_knot_X4_dropRun : GoodIn wsX4_knot (wsV RX4 104 RX4 yX4_dropRun wsX4_dropRun) := goodIn_app (goodIn_of _ (by decide +kernel)) ggX4_knot_X4_dropRun
theorem dX4_knot_0 : decode cX4_knot 0 = .ok (.aload_n 0, 1) := by decide +kernel
theorem dX4_knot_1 : decode cX4_knot 1 = .ok (.getfield 19, 3) := by decide +kernel
theorem dX4_knot_4 : decode cX4_knot 4 = .ok (.aload_n 0, 1) := by decide +kernel
theorem dX4_knot_5 : decode cX4_knot 5 = .ok (.iload_n 1, 1) := by decide +kernel
theorem dX4_knot_6 : decode cX4_knot 6 = .ok (.iconst 0, 1) := by decide +kernel
theorem dX4_knot_7 : decode cX4_knot 7 = .ok (.invokevirtual 67, 3) := by decide +kernel
theorem dX4_knot_10 : decode cX4_knot 10 = .ok (.iaload, 1) := by decide +kernel
theorem dX4_knot_11 : decode cX4_knot 11 = .ok (.istore_n 2, 1) := by decide +kernel
theorem dX4_knot_12 : decode cX4_knot 12 = .ok (.iconst 0, 1) := by decide +kernel
theorem dX4_knot_13 : decode cX4_knot 13 = .ok (.istore_n 3, 1) := by decide +kernel
theorem dX4_knot_14 : decode cX4_knot 14 = .ok (.iload_n 3, 1) := by decide +kernel
theorem dX4_knot_15 : decode cX4_knot 15 = .ok (.bipush 8, 2) := by decide +kernel
theorem dX4_knot_17 : decode cX4_knot 17 = .ok (.if_icmp .ge 23, 3) := by decide +kernel
theorem dX4_knot_20 : decode cX4_knot 20 = .ok (.aload_n 0, 1) := by decide +kernel
theorem dX4_knot_21 : decode cX4_knot 21 = .ok (.getfield 22, 3) := by decide +kernel
theorem dX4_knot_24 : decode cX4_knot 24 = .ok (.iload_n 2, 1) := by decide +kernel
theorem dX4_knot_25 : decode cX4_knot 25 = .ok (.iload_n 3, 1) := by decide +kernel
theorem dX4_knot_26 : decode cX4_knot 26 = .ok (.iadd, 1) := by decide +kernel
theorem dX4_knot_27 : decode cX4_knot 27 = .ok (.bipush 8, 2) := by decide +kernel
theorem dX4_knot_29 : decode cX4_knot 29 = .ok (.irem, 1) := by decide +kernel
theorem dX4_knot_30 : decode cX4_knot 30 = .ok (.iaload, 1) := by decide +kernel
theorem dX4_knot_31 : decode cX4_knot 31 = .ok (.ifCond .ne 9, 3) := by decide +kernel
theorem dX4_knot_34 : decode cX4_knot 34 = .ok (.iinc 3 1, 3) := by decide +kernel
theorem dX4_knot_37 : decode cX4_knot 37 = .ok (.goto (-23), 3) := by decide +kernel
theorem dX4_knot_40 : decode cX4_knot 40 = .ok (.iload_n 3, 1) := by decide +kernel
theorem dX4_knot_41 : decode cX4_knot 41 = .ok (.bipush 8, 2) := by decide +kernel
theorem dX4_knot_43 : decode cX4_knot 43 = .ok (.if_icmp .ne 5, 3) := by decide +kernel
theorem dX4_knot_46 : decode cX4_knot 46 = .ok (.iconst 0, 1) := by decide +kernel
theorem dX4_knot_47 : decode cX4_knot 47 = .ok (.ireturn, 1) := by decide +kernel
theorem dX4_knot_48 : decode cX4_knot 48 = .ok (.iload_n 2, 1) := by decide +kernel
theorem dX4_knot_49 : decode cX4_knot 49 = .ok (.iload_n 3, 1) := by decide +kernel
theorem dX4_knot_50 : decode cX4_knot 50 = .ok (.iadd, 1) := by decide +kernel
theorem dX4_knot_51 : decode cX4_knot 51 = .ok (.bipush 8, 2) := by decide +kernel
theorem dX4_knot_53 : decode cX4_knot 53 = .ok (.irem, 1) := by decide +kernel
theorem dX4_knot_54 : decode cX4_knot 54 = .ok (.istore 4, 2) := by decide +kernel
theorem dX4_knot_56 : decode cX4_knot 56 = .ok (.aload_n 0, 1) := by decide +kernel
theorem dX4_knot_57 : decode cX4_knot 57 = .ok (.getfield 22, 3) := by decide +kernel
theorem dX4_knot_60 : decode cX4_knot 60 = .ok (.iload 4, 2) := by decide +kernel
theorem dX4_knot_62 : decode cX4_knot 62 = .ok (.dup2, 1) := by decide +kernel
theorem dX4_knot_63 : decode cX4_knot 63 = .ok (.iaload, 1) := by decide +kernel
theorem dX4_knot_64 : decode cX4_knot 64 = .ok (.iconst 1, 1) := by decide +kernel
theorem dX4_knot_65 : decode cX4_knot 65 = .ok (.isub, 1) := by decide +kernel
theorem dX4_knot_66 : decode cX4_knot 66 = .ok (.iastore, 1) := by decide +kernel
theorem dX4_knot_67 : decode cX4_knot 67 = .ok (.aload_n 0, 1) := by decide +kernel
theorem dX4_knot_68 : decode cX4_knot 68 = .ok (.getfield 13, 3) := by decide +kernel
theorem dX4_knot_71 : decode cX4_knot 71 = .ok (.bipush 60, 2) := by decide +kernel
theorem dX4_knot_73 : decode cX4_knot 73 = .ok (.iload_n 1, 1) := by decide +kernel
theorem dX4_knot_74 : decode cX4_knot 74 = .ok (.imul, 1) := by decide +kernel
theorem dX4_knot_75 : decode cX4_knot 75 = .ok (.aload_n 0, 1) := by decide +kernel
theorem dX4_knot_76 : decode cX4_knot 76 = .ok (.iload_n 1, 1) := by decide +kernel
theorem dX4_knot_77 : decode cX4_knot 77 = .ok (.iconst 1, 1) := by decide +kernel
theorem dX4_knot_78 : decode cX4_knot 78 = .ok (.invokevirtual 40, 3) := by decide +kernel
theorem dX4_knot_81 : decode cX4_knot 81 = .ok (.iadd, 1) := by decide +kernel
theorem dX4_knot_82 : decode cX4_knot 82 = .ok (.iload 4, 2) := by decide +kernel
theorem dX4_knot_84 : decode cX4_knot 84 = .ok (.iastore, 1) := by decide +kernel
theorem dX4_knot_85 : decode cX4_knot 85 = .ok (.aload_n 0, 1) := by decide +kernel
theorem dX4_knot_86 : decode cX4_knot 86 = .ok (.iload_n 1, 1) := by decide +kernel
theorem dX4_knot_87 : decode cX4_knot 87 = .ok (.iconst 1, 1) := by decide +kernel
theorem dX4_knot_88 : decode cX4_knot 88 = .ok (.aload_n 0, 1) := by decide +kernel
theorem dX4_knot_89 : decode cX4_knot 89 = .ok (.iload_n 1, 1) := by decide +kernel
theorem dX4_knot_90 : decode cX4_knot 90 = .ok (.iconst 1, 1) := by decide +kernel
theorem dX4_knot_91 : decode cX4_knot 91 = .ok (.invokevirtual 40, 3) := by decide +kernel
theorem dX4_knot_94 : decode cX4_knot 94 = .ok (.iconst 1, 1) := by decide +kernel
theorem dX4_knot_95 : decode cX4_knot 95 = .ok (.iadd, 1) := by decide +kernel
theorem dX4_knot_96 : decode cX4_knot 96 = .ok (.invokevirtual 63, 3) := by decide +kernel
theorem dX4_knot_99 : decode cX4_knot 99 = .ok (.iload_n 3, 1) := by decide +kernel
theorem dX4_knot_100 : decode cX4_knot 100 = .ok (.ifCond .le 17, 3) := by decide +kernel
theorem dX4_knot_103 : decode cX4_knot 103 = .ok (.aload_n 0, 1) := by decide +kernel
theorem dX4_knot_104 : decode cX4_knot 104 = .ok (.iload_n 1, 1) := by decide +kernel
theorem dX4_knot_105 : decode cX4_knot 105 = .ok (.iconst 3, 1) := by decide +kernel
theorem dX4_knot_106 : decode cX4_knot 106 = .ok (.aload_n 0, 1) := by decide +kernel
theorem dX4_knot_107 : decode cX4_knot 107 = .ok (.iload_n 1, 1) := by decide +kernel
theorem dX4_knot_108 : decode cX4_knot 108 = .ok (.iconst 3, 1) := by decide +kernel
theorem dX4_knot_109 : decode cX4_knot 109 = .ok (.invokevirtual 40, 3) := by decide +kernel
theorem dX4_knot_112 : decode cX4_knot 112 = .ok (.iconst 1, 1) := by decide +kernel
theorem dX4_knot_113 : decode cX4_knot 113 = .ok (.iadd, 1) := by decide +kernel
theorem dX4_knot_114 : decode cX4_knot 114 = .ok (.invokevirtual 63, 3) := by decide +kernel
theorem dX4_knot_117 : decode cX4_knot 117 = .ok (.aload_n 0, 1) := by decide +kernel
theorem dX4_knot_118 : decode cX4_knot 118 = .ok (.getfield 19, 3) := by decide +kernel
theorem dX4_knot_121 : decode cX4_knot 121 = .ok (.aload_n 0, 1) := by decide +kernel
theorem dX4_knot_122 : decode cX4_knot 122 = .ok (.iload_n 1, 1) := by decide +kernel
theorem dX4_knot_123 : decode cX4_knot 123 = .ok (.iconst 0, 1) := by decide +kernel
theorem dX4_knot_124 : decode cX4_knot 124 = .ok (.invokevirtual 67, 3) := by decide +kernel
theorem dX4_knot_127 : decode cX4_knot 127 = .ok (.iconst 1, 1) := by decide +kernel
theorem dX4_knot_128 : decode cX4_knot 128 = .ok (.iadd, 1) := by decide +kernel
theorem dX4_knot_129 : decode cX4_knot 129 = .ok (.dup2, 1) := by decide +kernel
theorem dX4_knot_130 : decode cX4_knot 130 = .ok (.iaload, 1) := by decide +kernel
theorem dX4_knot_131 : decode cX4_knot 131 = .ok (.iconst 1, 1) := by decide +kernel
theorem dX4_knot_132 : decode cX4_knot 132 = .ok (.isub, 1) := by decide +kernel
theorem dX4_knot_133 : decode cX4_knot 133 = .ok (.iastore, 1) := by decide +kernel
theorem dX4_knot_134 : decode cX4_knot 134 = .ok (.aload_n 0, 1) := by decide +kernel
theorem dX4_knot_135 : decode cX4_knot 135 = .ok (.getfield 19, 3) := by decide +kernel
theorem dX4_knot_138 : decode cX4_knot 138 = .ok (.aload_n 0, 1) := by decide +kernel
theorem dX4_knot_139 : decode cX4_knot 139 = .ok (.iload_n 1, 1) := by decide +kernel
theorem dX4_knot_140 : decode cX4_knot 140 = .ok (.iconst 0, 1) := by decide +kernel
theorem dX4_knot_141 : decode cX4_knot 141 = .ok (.invokevirtual 67, 3) := by decide +kernel
theorem dX4_knot_144 : decode cX4_knot 144 = .ok (.iconst 1, 1) := by decide +kernel
theorem dX4_knot_145 : decode cX4_knot 145 = .ok (.iadd, 1) := by decide +kernel
theorem dX4_knot_146 : decode cX4_knot 146 = .ok (.iaload, 1) := by decide +kernel
theorem dX4_knot_147 : decode cX4_knot 147 = .ok (.ifCond .ne 8, 3) := by decide +kernel
theorem dX4_knot_150 : decode cX4_knot 150 = .ok (.aload_n 0, 1) := by decide +kernel
theorem dX4_knot_151 : decode cX4_knot 151 = .ok (.iload_n 1, 1) := by decide +kernel
theorem dX4_knot_152 : decode cX4_knot 152 = .ok (.invokevirtual 104, 3) := by decide +kernel
theorem dX4_knot_155 : decode cX4_knot 155 = .ok (.iconst 1, 1) := by decide +kernel
theorem dX4_knot_156 : decode cX4_knot 156 = .ok (.ireturn, 1) := by decide +kernel
set_option maxRecDepth 20000 in
theorem ggX4_hoursOn_X4_pe : GoodIn wsX4_hoursOn wsX4_pe := goodIn_r _ [6, 7, 35, 36, 37, 38, 39, 40, 41] (by decide +kernel) (by decide +kernel)
set_option maxRecDepth 20000 in
theorem gX4_hoursOn_X4_pe : GoodIn wsX4_hoursOn (wsV RX4 40 RX4 yX4_pe wsX4_pe) := goodIn_app (goodIn_of _ (by decide +kernel)) ggX4_hoursOn_X4_pe
set_option maxRecDepth 20000 in
theorem ggX4_hoursOn_X4_isDone : GoodIn wsX4_hoursOn wsX4_isDone := goodIn_r _ [11, 2, 3, 4, 5, 6, 7, 35, 36, 37, 38, 39, 40, 41] (by decide +kernel) (by decide +kernel)
set_option maxRecDepth 20000 in
theorem gX4_hoursOn_X4_isDone : GoodIn wsX4_hoursOn (wsV RX4 108 RX4 yX4_isDone wsX4_isDone) := goodIn_app (goodIn_of _ (by decide +kernel)) ggX4_hoursOn_X4_isDone
set_option maxRecDepth 20000 in
theorem ggX4_hoursOn_X4_knot : GoodIn wsX4_hoursOn wsX4_knot := goodIn_r _ [15, 16, 17, 18, 19, 20, 21, 5, 22, 2, 3, 4, 6, 7, 23, 24, 25, 26, 27, 28, 29, 30, 31, 32, 33, 34, 35, 36, 37, 38, 39, 40, 41] (by decide +kernel) (by decide +kernel)
set_option maxRecDepth 20000 in
theorem gX4_hoursOn_X4_knot : GoodIn wsX4_hoursOn (wsV RX4 111 RX4 yX4_knot wsX4_knot) := goodIn_app (goodIn_of _ (by decide +kernel)) ggX4_hoursOn_X4_knot
theorem dX4_hoursOn_0 : decode cX4_hoursOn 0 = .ok (.iconst 0, 1) := by decide +kernel
theorem dX4_hoursOn_1 : decode cX4_hoursOn 1 = .ok (.istore_n 2, 1) := by decide +kernel
theorem dX4_hoursOn_2 : decode cX4_hoursOn 2 = .ok (.iload_n 2, 1) := by decide +kernel
theorem dX4_hoursOn_3 : decode cX4_hoursOn 3 = .ok (.iload_n 1, 1) := by decide +kernel
theorem dX4_hoursOn_4 : decode cX4_hoursOn 4 = .ok (.if_icmp .ge 67, 3) := by decide +kernel
theorem dX4_hoursOn_7 : decode cX4_hoursOn 7 = .ok (.iconst 0, 1) := by decide +kernel
theorem dX4_hoursOn_8 : decode cX4_hoursOn 8 = .ok (.istore_n 3, 1) := by decide +kernel
theorem dX4_hoursOn_9 : decode cX4_hoursOn 9 = .ok (.iload_n 3, 1) := by decide +kernel
theorem dX4_hoursOn_10 : decode cX4_hoursOn 10 = .ok (.iconst 2, 1) := by decide +kernel
theorem dX4_hoursOn_11 : decode cX4_hoursOn 11 = .ok (.if_icmp .ge 44, 3) := by decide +kernel
theorem dX4_hoursOn_14 : decode cX4_hoursOn 14 = .ok (.aload_n 0, 1) := by decide +kernel
theorem dX4_hoursOn_15 : decode cX4_hoursOn 15 = .ok (.iload_n 3, 1) := by decide +kernel
theorem dX4_hoursOn_16 : decode cX4_hoursOn 16 = .ok (.iconst 0, 1) := by decide +kernel
theorem dX4_hoursOn_17 : decode cX4_hoursOn 17 = .ok (.invokevirtual 40, 3) := by decide +kernel
theorem dX4_hoursOn_20 : decode cX4_hoursOn 20 = .ok (.istore 4, 2) := by decide +kernel
theorem dX4_hoursOn_22 : decode cX4_hoursOn 22 = .ok (.iload 4, 2) := by decide +kernel
theorem dX4_hoursOn_24 : decode cX4_hoursOn 24 = .ok (.ifCond .le 25, 3) := by decide +kernel
theorem dX4_hoursOn_27 : decode cX4_hoursOn 27 = .ok (.aload_n 0, 1) := by decide +kernel
theorem dX4_hoursOn_28 : decode cX4_hoursOn 28 = .ok (.iload_n 3, 1) := by decide +kernel
theorem dX4_hoursOn_29 : decode cX4_hoursOn 29 = .ok (.invokevirtual 108, 3) := by decide +kernel
theorem dX4_hoursOn_32 : decode cX4_hoursOn 32 = .ok (.ifCond .ne 17, 3) := by decide +kernel
theorem dX4_hoursOn_35 : decode cX4_hoursOn 35 = .ok (.aload_n 0, 1) := by decide +kernel
theorem dX4_hoursOn_36 : decode cX4_hoursOn 36 = .ok (.iload_n 3, 1) := by decide +kernel
theorem dX4_hoursOn_37 : decode cX4_hoursOn 37 = .ok (.invokevirtual 111, 3) := by decide +kernel
theorem dX4_hoursOn_40 : decode cX4_hoursOn 40 = .ok (.ifCond .eq 9, 3) := by decide +kernel
theorem dX4_hoursOn_43 : decode cX4_hoursOn 43 = .ok (.iinc 4 (-1), 3) := by decide +kernel
theorem dX4_hoursOn_46 : decode cX4_hoursOn 46 = .ok (.goto (-24), 3) := by decide +kernel
theorem dX4_hoursOn_49 : decode cX4_hoursOn 49 = .ok (.iinc 3 1, 3) := by decide +kernel
theorem dX4_hoursOn_52 : decode cX4_hoursOn 52 = .ok (.goto (-43), 3) := by decide +kernel
theorem dX4_hoursOn_55 : decode cX4_hoursOn 55 = .ok (.aload_n 0, 1) := by decide +kernel
theorem dX4_hoursOn_56 : decode cX4_hoursOn 56 = .ok (.getfield 25, 3) := by decide +kernel
theorem dX4_hoursOn_59 : decode cX4_hoursOn 59 = .ok (.iconst 0, 1) := by decide +kernel
theorem dX4_hoursOn_60 : decode cX4_hoursOn 60 = .ok (.dup2, 1) := by decide +kernel
theorem dX4_hoursOn_61 : decode cX4_hoursOn 61 = .ok (.iaload, 1) := by decide +kernel
theorem dX4_hoursOn_62 : decode cX4_hoursOn 62 = .ok (.iconst 1, 1) := by decide +kernel
theorem dX4_hoursOn_63 : decode cX4_hoursOn 63 = .ok (.iadd, 1) := by decide +kernel
theorem dX4_hoursOn_64 : decode cX4_hoursOn 64 = .ok (.iastore, 1) := by decide +kernel
theorem dX4_hoursOn_65 : decode cX4_hoursOn 65 = .ok (.iinc 2 1, 3) := by decide +kernel
theorem dX4_hoursOn_68 : decode cX4_hoursOn 68 = .ok (.goto (-66), 3) := by decide +kernel
theorem dX4_hoursOn_71 : decode cX4_hoursOn 71 = .ok (.return_, 1) := by decide +kernel
set_option maxRecDepth 20000 in
theorem ggX4_pass_X4_isIn : GoodIn wsX4_pass wsX4_isIn := goodIn_r _ [5] (by decide +kernel) (by decide +kernel)
set_option maxRecDepth 20000 in
theorem gX4_pass_X4_isIn : GoodIn wsX4_pass (va_wsS RX4 32 yX4_isIn wsX4_isIn) := goodIn_app (goodIn_of _ (by decide +kernel)) ggX4_pass_X4_isIn
set_option maxRecDepth 20000 in
theorem ggX4_pass_X4_fail : GoodIn wsX4_pass wsX4_fail := goodIn_r _ [9, 1, 75, 76, 77, 78, 79, 80, 81] (by decide +kernel) (by decide +kernel)
set_option maxRecDepth 20000 in
theorem gX4_pass_X4_fail : GoodIn wsX4_pass (wsV RX4 47 RX4 yX4_fail wsX4_fail) := goodIn_app (goodIn_of _ (by decide +kernel)) ggX4_pass_X4_fail
set_option maxRecDepth 20000 in
theorem ggX4_pass_X4_counted : GoodIn wsX4_pass wsX4_counted := goodIn_r _ [13, 14, 15, 16, 17, 18, 4, 19, 20, 21, 22, 23, 24, 25, 26, 27, 28, 29, 30, 31, 32, 33, 34, 35, 36, 37, 38, 39, 40, 41, 42, 43, 44, 45, 75, 76, 77, 78, 79, 80, 81] (by decide +kernel) (by decide +kernel)
set_option maxRecDepth 20000 in
theorem gX4_pass_X4_counted : GoodIn wsX4_pass (wsV RX4 92 RX4 yX4_counted wsX4_counted) := goodIn_app (goodIn_of _ (by decide +kernel)) ggX4_pass_X4_counted
set_option maxRecDepth 20000 in
theorem ggX4_pass_X4_hoursOn : GoodIn wsX4_pass wsX4_hoursOn := goodIn_r _ [49, 14, 16, 17, 18, 4, 19, 20, 50, 51, 52, 53, 54, 55, 56, 57, 58, 15, 25, 59, 60, 61, 62, 63, 64, 65, 66, 67, 68, 69, 70, 71, 72, 73, 74, 75, 76, 77, 78, 79, 80, 81] (by decide +kernel) (by decide +kernel)
set_option maxRecDepth 20000 in
theorem gX4_pass_X4_hoursOn : GoodIn wsX4_pass (wsV RX4 114 RX4 yX4_hoursOn wsX4_hoursOn) := goodIn_app (goodIn_of _ (by decide +kernel)) ggX4_pass_X4_hoursOn
theorem dX4_pass_0 : decode cX4_pass 0 = .ok (.aload_n 0, 1) := by decide +kernel
theorem dX4_pass_1 : decode cX4_pass 1 = .ok (.iconst 0, 1) := by decide +kernel
theorem dX4_pass_2 : decode cX4_pass 2 = .ok (.putfield 28, 3) := by decide +kernel
theorem dX4_pass_5 : decode cX4_pass 5 = .ok (.iload_n 1, 1) := by decide +kernel
theorem dX4_pass_6 : decode cX4_pass 6 = .ok (.iconst 1, 1) := by decide +kernel
theorem dX4_pass_7 : decode cX4_pass 7 = .ok (.bipush 60, 2) := by decide +kernel
theorem dX4_pass_9 : decode cX4_pass 9 = .ok (.invokestatic 32, 3) := by decide +kernel
theorem dX4_pass_12 : decode cX4_pass 12 = .ok (.ifCond .ne 9, 3) := by decide +kernel
theorem dX4_pass_15 : decode cX4_pass 15 = .ok (.aload_n 0, 1) := by decide +kernel
theorem dX4_pass_16 : decode cX4_pass 16 = .ok (.iconst 1, 1) := by decide +kernel
theorem dX4_pass_17 : decode cX4_pass 17 = .ok (.invokevirtual 47, 3) := by decide +kernel
theorem dX4_pass_20 : decode cX4_pass 20 = .ok (.ireturn, 1) := by decide +kernel
theorem dX4_pass_21 : decode cX4_pass 21 = .ok (.aload_n 0, 1) := by decide +kernel
theorem dX4_pass_22 : decode cX4_pass 22 = .ok (.iconst 1, 1) := by decide +kernel
theorem dX4_pass_23 : decode cX4_pass 23 = .ok (.invokevirtual 92, 3) := by decide +kernel
theorem dX4_pass_26 : decode cX4_pass 26 = .ok (.istore_n 2, 1) := by decide +kernel
theorem dX4_pass_27 : decode cX4_pass 27 = .ok (.aload_n 0, 1) := by decide +kernel
theorem dX4_pass_28 : decode cX4_pass 28 = .ok (.iload_n 1, 1) := by decide +kernel
theorem dX4_pass_29 : decode cX4_pass 29 = .ok (.invokevirtual 114, 3) := by decide +kernel
theorem dX4_pass_32 : decode cX4_pass 32 = .ok (.aload_n 0, 1) := by decide +kernel
theorem dX4_pass_33 : decode cX4_pass 33 = .ok (.iconst 1, 1) := by decide +kernel
theorem dX4_pass_34 : decode cX4_pass 34 = .ok (.invokevirtual 92, 3) := by decide +kernel
theorem dX4_pass_37 : decode cX4_pass 37 = .ok (.iload_n 2, 1) := by decide +kernel
theorem dX4_pass_38 : decode cX4_pass 38 = .ok (.isub, 1) := by decide +kernel
theorem dX4_pass_39 : decode cX4_pass 39 = .ok (.ireturn, 1) := by decide +kernel
theorem dX4_kept_0 : decode cX4_kept 0 = .ok (.iconst 5, 1) := by decide +kernel
theorem dX4_kept_1 : decode cX4_kept 1 = .ok (.anewarray 117, 3) := by decide +kernel
theorem dX4_kept_4 : decode cX4_kept 4 = .ok (.dup, 1) := by decide +kernel
theorem dX4_kept_5 : decode cX4_kept 5 = .ok (.iconst 0, 1) := by decide +kernel
theorem dX4_kept_6 : decode cX4_kept 6 = .ok (.aload_n 0, 1) := by decide +kernel
theorem dX4_kept_7 : decode cX4_kept 7 = .ok (.getfield 7, 3) := by decide +kernel
theorem dX4_kept_10 : decode cX4_kept 10 = .ok (.invokevirtual 118, 3) := by decide +kernel
theorem dX4_kept_13 : decode cX4_kept 13 = .ok (.checkcast 117, 3) := by decide +kernel
theorem dX4_kept_16 : decode cX4_kept 16 = .ok (.aastore, 1) := by decide +kernel
theorem dX4_kept_17 : decode cX4_kept 17 = .ok (.dup, 1) := by decide +kernel
theorem dX4_kept_18 : decode cX4_kept 18 = .ok (.iconst 1, 1) := by decide +kernel
theorem dX4_kept_19 : decode cX4_kept 19 = .ok (.aload_n 0, 1) := by decide +kernel
theorem dX4_kept_20 : decode cX4_kept 20 = .ok (.getfield 13, 3) := by decide +kernel
theorem dX4_kept_23 : decode cX4_kept 23 = .ok (.invokevirtual 118, 3) := by decide +kernel
theorem dX4_kept_26 : decode cX4_kept 26 = .ok (.checkcast 117, 3) := by decide +kernel
theorem dX4_kept_29 : decode cX4_kept 29 = .ok (.aastore, 1) := by decide +kernel
theorem dX4_kept_30 : decode cX4_kept 30 = .ok (.dup, 1) := by decide +kernel
theorem dX4_kept_31 : decode cX4_kept 31 = .ok (.iconst 2, 1) := by decide +kernel
theorem dX4_kept_32 : decode cX4_kept 32 = .ok (.aload_n 0, 1) := by decide +kernel
theorem dX4_kept_33 : decode cX4_kept 33 = .ok (.getfield 19, 3) := by decide +kernel
theorem dX4_kept_36 : decode cX4_kept 36 = .ok (.invokevirtual 118, 3) := by decide +kernel
theorem dX4_kept_39 : decode cX4_kept 39 = .ok (.checkcast 117, 3) := by decide +kernel
theorem dX4_kept_42 : decode cX4_kept 42 = .ok (.aastore, 1) := by decide +kernel
theorem dX4_kept_43 : decode cX4_kept 43 = .ok (.dup, 1) := by decide +kernel
theorem dX4_kept_44 : decode cX4_kept 44 = .ok (.iconst 3, 1) := by decide +kernel
theorem dX4_kept_45 : decode cX4_kept 45 = .ok (.aload_n 0, 1) := by decide +kernel
theorem dX4_kept_46 : decode cX4_kept 46 = .ok (.getfield 22, 3) := by decide +kernel
theorem dX4_kept_49 : decode cX4_kept 49 = .ok (.invokevirtual 118, 3) := by decide +kernel
theorem dX4_kept_52 : decode cX4_kept 52 = .ok (.checkcast 117, 3) := by decide +kernel
theorem dX4_kept_55 : decode cX4_kept 55 = .ok (.aastore, 1) := by decide +kernel
theorem dX4_kept_56 : decode cX4_kept 56 = .ok (.dup, 1) := by decide +kernel
theorem dX4_kept_57 : decode cX4_kept 57 = .ok (.iconst 4, 1) := by decide +kernel
theorem dX4_kept_58 : decode cX4_kept 58 = .ok (.aload_n 0, 1) := by decide +kernel
theorem dX4_kept_59 : decode cX4_kept 59 = .ok (.getfield 25, 3) := by decide +kernel
theorem dX4_kept_62 : decode cX4_kept 62 = .ok (.invokevirtual 118, 3) := by decide +kernel
theorem dX4_kept_65 : decode cX4_kept 65 = .ok (.checkcast 117, 3) := by decide +kernel
theorem dX4_kept_68 : decode cX4_kept 68 = .ok (.aastore, 1) := by decide +kernel
theorem dX4_kept_69 : decode cX4_kept 69 = .ok (.areturn, 1) := by decide +kernel
theorem dX4_bringBack_0 : decode cX4_bringBack 0 = .ok (.iconst 5, 1) := by decide +kernel
theorem dX4_bringBack_1 : decode cX4_bringBack 1 = .ok (.anewarray 117, 3) := by decide +kernel
theorem dX4_bringBack_4 : decode cX4_bringBack 4 = .ok (.dup, 1) := by decide +kernel
theorem dX4_bringBack_5 : decode cX4_bringBack 5 = .ok (.iconst 0, 1) := by decide +kernel
theorem dX4_bringBack_6 : decode cX4_bringBack 6 = .ok (.aload_n 0, 1) := by decide +kernel
theorem dX4_bringBack_7 : decode cX4_bringBack 7 = .ok (.getfield 7, 3) := by decide +kernel
theorem dX4_bringBack_10 : decode cX4_bringBack 10 = .ok (.aastore, 1) := by decide +kernel
theorem dX4_bringBack_11 : decode cX4_bringBack 11 = .ok (.dup, 1) := by decide +kernel
theorem dX4_bringBack_12 : decode cX4_bringBack 12 = .ok (.iconst 1, 1) := by decide +kernel
theorem dX4_bringBack_13 : decode cX4_bringBack 13 = .ok (.aload_n 0, 1) := by decide +kernel
theorem dX4_bringBack_14 : decode cX4_bringBack 14 = .ok (.getfield 13, 3) := by decide +kernel
theorem dX4_bringBack_17 : decode cX4_bringBack 17 = .ok (.aastore, 1) := by decide +kernel
theorem dX4_bringBack_18 : decode cX4_bringBack 18 = .ok (.dup, 1) := by decide +kernel
theorem dX4_bringBack_19 : decode cX4_bringBack 19 = .ok (.iconst 2, 1) := by decide +kernel
theorem dX4_bringBack_20 : decode cX4_bringBack 20 = .ok (.aload_n 0, 1) := by decide +kernel
theorem dX4_bringBack_21 : decode cX4_bringBack 21 = .ok (.getfield 19, 3) := by decide +kernel
theorem dX4_bringBack_24 : decode cX4_bringBack 24 = .ok (.aastore, 1) := by decide +kernel
theorem dX4_bringBack_25 : decode cX4_bringBack 25 = .ok (.dup, 1) := by decide +kernel
theorem dX4_bringBack_26 : decode cX4_bringBack 26 = .ok (.iconst 3, 1) := by decide +kernel
theorem dX4_bringBack_27 : decode cX4_bringBack 27 = .ok (.aload_n 0, 1) := by decide +kernel
theorem dX4_bringBack_28 : decode cX4_bringBack 28 = .ok (.getfield 22, 3) := by decide +kernel
theorem dX4_bringBack_31 : decode cX4_bringBack 31 = .ok (.aastore, 1) := by decide +kernel
theorem dX4_bringBack_32 : decode cX4_bringBack 32 = .ok (.dup, 1) := by decide +kernel
theorem dX4_bringBack_33 : decode cX4_bringBack 33 = .ok (.iconst 4, 1) := by decide +kernel
theorem dX4_bringBack_34 : decode cX4_bringBack 34 = .ok (.aload_n 0, 1) := by decide +kernel
theorem dX4_bringBack_35 : decode cX4_bringBack 35 = .ok (.getfield 25, 3) := by decide +kernel
theorem dX4_bringBack_38 : decode cX4_bringBack 38 = .ok (.aastore, 1) := by decide +kernel
theorem dX4_bringBack_39 : decode cX4_bringBack 39 = .ok (.astore_n 2, 1) := by decide +kernel
theorem dX4_bringBack_40 : decode cX4_bringBack 40 = .ok (.iconst 0, 1) := by decide +kernel
theorem dX4_bringBack_41 : decode cX4_bringBack 41 = .ok (.istore_n 3, 1) := by decide +kernel
theorem dX4_bringBack_42 : decode cX4_bringBack 42 = .ok (.iload_n 3, 1) := by decide +kernel
theorem dX4_bringBack_43 : decode cX4_bringBack 43 = .ok (.aload_n 2, 1) := by decide +kernel
theorem dX4_bringBack_44 : decode cX4_bringBack 44 = .ok (.arraylength, 1) := by decide +kernel
theorem dX4_bringBack_45 : decode cX4_bringBack 45 = .ok (.if_icmp .ge 24, 3) := by decide +kernel
theorem dX4_bringBack_48 : decode cX4_bringBack 48 = .ok (.aload_n 1, 1) := by decide +kernel
theorem dX4_bringBack_49 : decode cX4_bringBack 49 = .ok (.iload_n 3, 1) := by decide +kernel
theorem dX4_bringBack_50 : decode cX4_bringBack 50 = .ok (.aaload, 1) := by decide +kernel
theorem dX4_bringBack_51 : decode cX4_bringBack 51 = .ok (.iconst 0, 1) := by decide +kernel
theorem dX4_bringBack_52 : decode cX4_bringBack 52 = .ok (.aload_n 2, 1) := by decide +kernel
theorem dX4_bringBack_53 : decode cX4_bringBack 53 = .ok (.iload_n 3, 1) := by decide +kernel
theorem dX4_bringBack_54 : decode cX4_bringBack 54 = .ok (.aaload, 1) := by decide +kernel
theorem dX4_bringBack_55 : decode cX4_bringBack 55 = .ok (.iconst 0, 1) := by decide +kernel
theorem dX4_bringBack_56 : decode cX4_bringBack 56 = .ok (.aload_n 2, 1) := by decide +kernel
theorem dX4_bringBack_57 : decode cX4_bringBack 57 = .ok (.iload_n 3, 1) := by decide +kernel
theorem dX4_bringBack_58 : decode cX4_bringBack 58 = .ok (.aaload, 1) := by decide +kernel
theorem dX4_bringBack_59 : decode cX4_bringBack 59 = .ok (.arraylength, 1) := by decide +kernel
theorem dX4_bringBack_60 : decode cX4_bringBack 60 = .ok (.invokestatic 98, 3) := by decide +kernel
theorem dX4_bringBack_63 : decode cX4_bringBack 63 = .ok (.iinc 3 1, 3) := by decide +kernel
theorem dX4_bringBack_66 : decode cX4_bringBack 66 = .ok (.goto (-24), 3) := by decide +kernel
theorem dX4_bringBack_69 : decode cX4_bringBack 69 = .ok (.return_, 1) := by decide +kernel
set_option maxRecDepth 20000 in
theorem ggX4_done_X4_isWeaver : GoodIn wsX4_done wsX4_isWeaver := goodIn_r _ [5, 6, 7, 4, 8] (by decide +kernel) (by decide +kernel)
set_option maxRecDepth 20000 in
theorem gX4_done_X4_isWeaver : GoodIn wsX4_done (va_wsS RX4 60 yX4_isWeaver wsX4_isWeaver) := goodIn_app (goodIn_of _ (by decide +kernel)) ggX4_done_X4_isWeaver
set_option maxRecDepth 20000 in
theorem ggX4_done_X4_fail : GoodIn wsX4_done wsX4_fail := goodIn_r _ [12, 1, 64, 65, 66, 67, 68, 69, 70] (by decide +kernel) (by decide +kernel)
set_option maxRecDepth 20000 in
theorem gX4_done_X4_fail : GoodIn wsX4_done (wsV RX4 47 RX4 yX4_fail wsX4_fail) := goodIn_app (goodIn_of _ (by decide +kernel)) ggX4_done_X4_fail
set_option maxRecDepth 20000 in
theorem ggX4_done_X4_kept : GoodIn wsX4_done wsX4_kept := goodIn_r _ [16, 17, 18, 19, 20, 21, 22, 23, 24, 25, 26, 27, 64, 65, 66, 67, 68, 69, 70] (by decide +kernel) (by decide +kernel)
set_option maxRecDepth 20000 in
theorem gX4_done_X4_kept : GoodIn wsX4_done (wsV RX4 122 RX4 yX4_kept wsX4_kept) := goodIn_app (goodIn_of _ (by decide +kernel)) ggX4_done_X4_kept
set_option maxRecDepth 20000 in
theorem ggX4_done_X4_isDone : GoodIn wsX4_done wsX4_isDone := goodIn_r _ [31, 32, 33, 34, 4, 35, 18, 64, 65, 66, 67, 68, 69, 70] (by decide +kernel) (by decide +kernel)
set_option maxRecDepth 20000 in
theorem gX4_done_X4_isDone : GoodIn wsX4_done (wsV RX4 108 RX4 yX4_isDone wsX4_isDone) := goodIn_app (goodIn_of _ (by decide +kernel)) ggX4_done_X4_isDone
set_option maxRecDepth 20000 in
theorem ggX4_done_X4_hoursOn : GoodIn wsX4_done wsX4_hoursOn := goodIn_r _ [39, 27, 32, 33, 34, 4, 35, 18, 28, 29, 30, 31, 40, 41, 42, 43, 25, 26, 24, 44, 45, 46, 47, 48, 49, 50, 51, 52, 53, 54, 55, 56, 57, 58, 59, 64, 65, 66, 67, 68, 69, 70] (by decide +kernel) (by decide +kernel)
set_option maxRecDepth 20000 in
theorem gX4_done_X4_hoursOn : GoodIn wsX4_done (wsV RX4 114 RX4 yX4_hoursOn wsX4_hoursOn) := goodIn_app (goodIn_of _ (by decide +kernel)) ggX4_done_X4_hoursOn
set_option maxRecDepth 20000 in
theorem ggX4_done_X4_bringBack : GoodIn wsX4_done wsX4_bringBack := goodIn_r _ [63, 17, 18, 24, 25, 26, 27, 56, 57, 58, 59, 64, 65, 66, 67, 68, 69, 70] (by decide +kernel) (by decide +kernel)
set_option maxRecDepth 20000 in
theorem gX4_done_X4_bringBack : GoodIn wsX4_done (wsV RX4 126 RX4 yX4_bringBack wsX4_bringBack) := goodIn_app (goodIn_of _ (by decide +kernel)) ggX4_done_X4_bringBack
theorem dX4_done_0 : decode cX4_done 0 = .ok (.aload_n 0, 1) := by decide +kernel
theorem dX4_done_1 : decode cX4_done 1 = .ok (.iconst 0, 1) := by decide +kernel
theorem dX4_done_2 : decode cX4_done 2 = .ok (.putfield 28, 3) := by decide +kernel
theorem dX4_done_5 : decode cX4_done 5 = .ok (.iload_n 1, 1) := by decide +kernel
theorem dX4_done_6 : decode cX4_done 6 = .ok (.invokestatic 60, 3) := by decide +kernel
theorem dX4_done_9 : decode cX4_done 9 = .ok (.ifCond .ne 9, 3) := by decide +kernel
theorem dX4_done_12 : decode cX4_done 12 = .ok (.aload_n 0, 1) := by decide +kernel
theorem dX4_done_13 : decode cX4_done 13 = .ok (.iconst 1, 1) := by decide +kernel
theorem dX4_done_14 : decode cX4_done 14 = .ok (.invokevirtual 47, 3) := by decide +kernel
theorem dX4_done_17 : decode cX4_done 17 = .ok (.ireturn, 1) := by decide +kernel
theorem dX4_done_18 : decode cX4_done 18 = .ok (.aload_n 0, 1) := by decide +kernel
theorem dX4_done_19 : decode cX4_done 19 = .ok (.invokevirtual 122, 3) := by decide +kernel
theorem dX4_done_22 : decode cX4_done 22 = .ok (.astore_n 2, 1) := by decide +kernel
theorem dX4_done_23 : decode cX4_done 23 = .ok (.iconst 0, 1) := by decide +kernel
theorem dX4_done_24 : decode cX4_done 24 = .ok (.istore_n 3, 1) := by decide +kernel
theorem dX4_done_25 : decode cX4_done 25 = .ok (.iload_n 3, 1) := by decide +kernel
theorem dX4_done_26 : decode cX4_done 26 = .ok (.bipush 100, 2) := by decide +kernel
theorem dX4_done_28 : decode cX4_done 28 = .ok (.if_icmp .ge 22, 3) := by decide +kernel
theorem dX4_done_31 : decode cX4_done 31 = .ok (.aload_n 0, 1) := by decide +kernel
theorem dX4_done_32 : decode cX4_done 32 = .ok (.iload_n 1, 1) := by decide +kernel
theorem dX4_done_33 : decode cX4_done 33 = .ok (.invokevirtual 108, 3) := by decide +kernel
theorem dX4_done_36 : decode cX4_done 36 = .ok (.ifCond .ne 14, 3) := by decide +kernel
theorem dX4_done_39 : decode cX4_done 39 = .ok (.aload_n 0, 1) := by decide +kernel
theorem dX4_done_40 : decode cX4_done 40 = .ok (.iconst 1, 1) := by decide +kernel
theorem dX4_done_41 : decode cX4_done 41 = .ok (.invokevirtual 114, 3) := by decide +kernel
theorem dX4_done_44 : decode cX4_done 44 = .ok (.iinc 3 1, 3) := by decide +kernel
theorem dX4_done_47 : decode cX4_done 47 = .ok (.goto (-22), 3) := by decide +kernel
theorem dX4_done_50 : decode cX4_done 50 = .ok (.aload_n 0, 1) := by decide +kernel
theorem dX4_done_51 : decode cX4_done 51 = .ok (.iload_n 1, 1) := by decide +kernel
theorem dX4_done_52 : decode cX4_done 52 = .ok (.invokevirtual 108, 3) := by decide +kernel
theorem dX4_done_55 : decode cX4_done 55 = .ok (.ifCond .ne 5, 3) := by decide +kernel
theorem dX4_done_58 : decode cX4_done 58 = .ok (.iconst (-1), 1) := by decide +kernel
theorem dX4_done_59 : decode cX4_done 59 = .ok (.istore_n 3, 1) := by decide +kernel
theorem dX4_done_60 : decode cX4_done 60 = .ok (.aload_n 0, 1) := by decide +kernel
theorem dX4_done_61 : decode cX4_done 61 = .ok (.aload_n 2, 1) := by decide +kernel
theorem dX4_done_62 : decode cX4_done 62 = .ok (.invokevirtual 126, 3) := by decide +kernel
theorem dX4_done_65 : decode cX4_done 65 = .ok (.iload_n 3, 1) := by decide +kernel
theorem dX4_done_66 : decode cX4_done 66 = .ok (.ireturn, 1) := by decide +kernel
set_option maxRecDepth 20000 in
theorem ggX4_foresee_X4_isIn : GoodIn wsX4_foresee wsX4_isIn := goodIn_r _ [5] (by decide +kernel) (by decide +kernel)
set_option maxRecDepth 20000 in
theorem gX4_foresee_X4_isIn : GoodIn wsX4_foresee (va_wsS RX4 32 yX4_isIn wsX4_isIn) := goodIn_app (goodIn_of _ (by decide +kernel)) ggX4_foresee_X4_isIn
set_option maxRecDepth 20000 in
theorem ggX4_foresee_X4_fail : GoodIn wsX4_foresee wsX4_fail := goodIn_r _ [9, 1, 89, 90, 91, 92, 93, 94, 95] (by decide +kernel) (by decide +kernel)
set_option maxRecDepth 20000 in
theorem gX4_foresee_X4_fail : GoodIn wsX4_foresee (wsV RX4 47 RX4 yX4_fail wsX4_fail) := goodIn_app (goodIn_of _ (by decide +kernel)) ggX4_foresee_X4_fail
set_option maxRecDepth 20000 in
theorem ggX4_foresee_X4_kept : GoodIn wsX4_foresee wsX4_kept := goodIn_r _ [13, 14, 15, 16, 17, 18, 19, 20, 21, 22, 23, 24, 89, 90, 91, 92, 93, 94, 95] (by decide +kernel) (by decide +kernel)
set_option maxRecDepth 20000 in
theorem gX4_foresee_X4_kept : GoodIn wsX4_foresee (wsV RX4 122 RX4 yX4_kept wsX4_kept) := goodIn_app (goodIn_of _ (by decide +kernel)) ggX4_foresee_X4_kept
set_option maxRecDepth 20000 in
theorem ggX4_foresee_X4_hoursOn : GoodIn wsX4_foresee wsX4_hoursOn := goodIn_r _ [28, 24, 29, 30, 31, 4, 32, 15, 33, 34, 35, 36, 37, 38, 39, 40, 22, 23, 21, 41, 42, 43, 44, 45, 46, 47, 48, 49, 50, 51, 52, 53, 54, 55, 56, 89, 90, 91, 92, 93, 94, 95] (by decide +kernel) (by decide +kernel)
set_option maxRecDepth 20000 in
theorem gX4_foresee_X4_hoursOn : GoodIn wsX4_foresee (wsV RX4 114 RX4 yX4_hoursOn wsX4_hoursOn) := goodIn_app (goodIn_of _ (by decide +kernel)) ggX4_foresee_X4_hoursOn
set_option maxRecDepth 20000 in
theorem ggX4_foresee_X4_counted : GoodIn wsX4_foresee wsX4_counted := goodIn_r _ [60, 24, 23, 29, 30, 31, 4, 32, 15, 61, 62, 63, 64, 21, 65, 66, 67, 68, 69, 70, 71, 72, 73, 74, 75, 76, 77, 78, 79, 80, 81, 82, 83, 84, 89, 90, 91, 92, 93, 94, 95] (by decide +kernel) (by decide +kernel)
set_option maxRecDepth 20000 in
theorem gX4_foresee_X4_counted : GoodIn wsX4_foresee (wsV RX4 92 RX4 yX4_counted wsX4_counted) := goodIn_app (goodIn_of _ (by decide +kernel)) ggX4_foresee_X4_counted
set_option maxRecDepth 20000 in
theorem ggX4_foresee_X4_bringBack : GoodIn wsX4_foresee wsX4_bringBack := goodIn_r _ [88, 14, 15, 21, 22, 23, 24, 53, 54, 55, 56, 89, 90, 91, 92, 93, 94, 95] (by decide +kernel) (by decide +kernel)
set_option maxRecDepth 20000 in
theorem gX4_foresee_X4_bringBack : GoodIn wsX4_foresee (wsV RX4 126 RX4 yX4_bringBack wsX4_bringBack) := goodIn_app (goodIn_of _ (by decide +kernel)) ggX4_foresee_X4_bringBack
theorem dX4_foresee_0 : decode cX4_foresee 0 = .ok (.aload_n 0, 1) := by decide +kernel
theorem dX4_foresee_1 : decode cX4_foresee 1 = .ok (.iconst 0, 1) := by decide +kernel
theorem dX4_foresee_2 : decode cX4_foresee 2 = .ok (.putfield 28, 3) := by decide +kernel
theorem dX4_foresee_5 : decode cX4_foresee 5 = .ok (.iload_n 1, 1) := by decide +kernel
theorem dX4_foresee_6 : decode cX4_foresee 6 = .ok (.iconst 1, 1) := by decide +kernel
theorem dX4_foresee_7 : decode cX4_foresee 7 = .ok (.bipush 60, 2) := by decide +kernel
theorem dX4_foresee_9 : decode cX4_foresee 9 = .ok (.invokestatic 32, 3) := by decide +kernel
theorem dX4_foresee_12 : decode cX4_foresee 12 = .ok (.ifCond .ne 9, 3) := by decide +kernel
theorem dX4_foresee_15 : decode cX4_foresee 15 = .ok (.aload_n 0, 1) := by decide +kernel
theorem dX4_foresee_16 : decode cX4_foresee 16 = .ok (.iconst 1, 1) := by decide +kernel
theorem dX4_foresee_17 : decode cX4_foresee 17 = .ok (.invokevirtual 47, 3) := by decide +kernel
theorem dX4_foresee_20 : decode cX4_foresee 20 = .ok (.ireturn, 1) := by decide +kernel
theorem dX4_foresee_21 : decode cX4_foresee 21 = .ok (.iload_n 2, 1) := by decide +kernel
theorem dX4_foresee_22 : decode cX4_foresee 22 = .ok (.iconst 0, 1) := by decide +kernel
theorem dX4_foresee_23 : decode cX4_foresee 23 = .ok (.iconst 2, 1) := by decide +kernel
theorem dX4_foresee_24 : decode cX4_foresee 24 = .ok (.invokestatic 32, 3) := by decide +kernel
theorem dX4_foresee_27 : decode cX4_foresee 27 = .ok (.ifCond .ne 9, 3) := by decide +kernel
theorem dX4_foresee_30 : decode cX4_foresee 30 = .ok (.aload_n 0, 1) := by decide +kernel
theorem dX4_foresee_31 : decode cX4_foresee 31 = .ok (.iconst 2, 1) := by decide +kernel
theorem dX4_foresee_32 : decode cX4_foresee 32 = .ok (.invokevirtual 47, 3) := by decide +kernel
theorem dX4_foresee_35 : decode cX4_foresee 35 = .ok (.ireturn, 1) := by decide +kernel
theorem dX4_foresee_36 : decode cX4_foresee 36 = .ok (.aload_n 0, 1) := by decide +kernel
theorem dX4_foresee_37 : decode cX4_foresee 37 = .ok (.invokevirtual 122, 3) := by decide +kernel
theorem dX4_foresee_40 : decode cX4_foresee 40 = .ok (.astore_n 3, 1) := by decide +kernel
theorem dX4_foresee_41 : decode cX4_foresee 41 = .ok (.aload_n 0, 1) := by decide +kernel
theorem dX4_foresee_42 : decode cX4_foresee 42 = .ok (.iload_n 1, 1) := by decide +kernel
theorem dX4_foresee_43 : decode cX4_foresee 43 = .ok (.invokevirtual 114, 3) := by decide +kernel
theorem dX4_foresee_46 : decode cX4_foresee 46 = .ok (.aload_n 0, 1) := by decide +kernel
theorem dX4_foresee_47 : decode cX4_foresee 47 = .ok (.iload_n 2, 1) := by decide +kernel
theorem dX4_foresee_48 : decode cX4_foresee 48 = .ok (.ifCond .ne 7, 3) := by decide +kernel
theorem dX4_foresee_51 : decode cX4_foresee 51 = .ok (.iconst 1, 1) := by decide +kernel
theorem dX4_foresee_52 : decode cX4_foresee 52 = .ok (.goto 13, 3) := by decide +kernel
theorem dX4_foresee_55 : decode cX4_foresee 55 = .ok (.iload_n 2, 1) := by decide +kernel
theorem dX4_foresee_56 : decode cX4_foresee 56 = .ok (.iconst 1, 1) := by decide +kernel
theorem dX4_foresee_57 : decode cX4_foresee 57 = .ok (.if_icmp .ne 7, 3) := by decide +kernel
theorem dX4_foresee_60 : decode cX4_foresee 60 = .ok (.iconst 2, 1) := by decide +kernel
theorem dX4_foresee_61 : decode cX4_foresee 61 = .ok (.goto 4, 3) := by decide +kernel
theorem dX4_foresee_64 : decode cX4_foresee 64 = .ok (.iconst 4, 1) := by decide +kernel
theorem dX4_foresee_65 : decode cX4_foresee 65 = .ok (.invokevirtual 92, 3) := by decide +kernel
theorem dX4_foresee_68 : decode cX4_foresee 68 = .ok (.istore 4, 2) := by decide +kernel
theorem dX4_foresee_70 : decode cX4_foresee 70 = .ok (.aload_n 0, 1) := by decide +kernel
theorem dX4_foresee_71 : decode cX4_foresee 71 = .ok (.aload_n 3, 1) := by decide +kernel
theorem dX4_foresee_72 : decode cX4_foresee 72 = .ok (.invokevirtual 126, 3) := by decide +kernel
theorem dX4_foresee_75 : decode cX4_foresee 75 = .ok (.iload 4, 2) := by decide +kernel
theorem dX4_foresee_77 : decode cX4_foresee 77 = .ok (.ireturn, 1) := by decide +kernel
set_option maxRecDepth 20000 in
theorem ggX4_share_X4_counted : GoodIn wsX4_share wsX4_counted := goodIn_r _ [6, 7, 8, 9, 10, 11, 5, 12, 13, 14, 15, 16, 17, 18, 19, 20, 21, 22, 23, 24, 25, 26, 27, 28, 29, 30, 31, 32, 33, 34, 35, 36, 37, 38, 39, 40, 41, 42, 43, 44, 45] (by decide +kernel) (by decide +kernel)
set_option maxRecDepth 20000 in
theorem gX4_share_X4_counted : GoodIn wsX4_share (wsV RX4 92 RX4 yX4_counted wsX4_counted) := goodIn_app (goodIn_of _ (by decide +kernel)) ggX4_share_X4_counted
set_option maxRecDepth 20000 in
theorem ggX4_share_X4_differ : GoodIn wsX4_share wsX4_differ := goodIn_r _ [17, 18, 19, 9, 10, 11, 5, 12, 13, 39, 40, 41, 42, 43, 44, 45] (by decide +kernel) (by decide +kernel)
set_option maxRecDepth 20000 in
theorem gX4_share_X4_differ : GoodIn wsX4_share (wsV RX4 86 RX4 yX4_differ wsX4_differ) := goodIn_app (goodIn_of _ (by decide +kernel)) ggX4_share_X4_differ
theorem dX4_share_0 : decode cX4_share 0 = .ok (.aload_n 0, 1) := by decide +kernel
theorem dX4_share_1 : decode cX4_share 1 = .ok (.iconst 0, 1) := by decide +kernel
theorem dX4_share_2 : decode cX4_share 2 = .ok (.putfield 28, 3) := by decide +kernel
theorem dX4_share_5 : decode cX4_share 5 = .ok (.aload_n 0, 1) := by decide +kernel
theorem dX4_share_6 : decode cX4_share 6 = .ok (.iconst 1, 1) := by decide +kernel
theorem dX4_share_7 : decode cX4_share 7 = .ok (.invokevirtual 92, 3) := by decide +kernel
theorem dX4_share_10 : decode cX4_share 10 = .ok (.istore_n 1, 1) := by decide +kernel
theorem dX4_share_11 : decode cX4_share 11 = .ok (.iload_n 1, 1) := by decide +kernel
theorem dX4_share_12 : decode cX4_share 12 = .ok (.ifCond .ne 7, 3) := by decide +kernel
theorem dX4_share_15 : decode cX4_share 15 = .ok (.dconst 0, 1) := by decide +kernel
theorem dX4_share_16 : decode cX4_share 16 = .ok (.goto 13, 3) := by decide +kernel
theorem dX4_share_19 : decode cX4_share 19 = .ok (.iload_n 1, 1) := by decide +kernel
theorem dX4_share_20 : decode cX4_share 20 = .ok (.aload_n 0, 1) := by decide +kernel
theorem dX4_share_21 : decode cX4_share 21 = .ok (.invokevirtual 86, 3) := by decide +kernel
theorem dX4_share_24 : decode cX4_share 24 = .ok (.isub, 1) := by decide +kernel
theorem dX4_share_25 : decode cX4_share 25 = .ok (.i2d, 1) := by decide +kernel
theorem dX4_share_26 : decode cX4_share 26 = .ok (.iload_n 1, 1) := by decide +kernel
theorem dX4_share_27 : decode cX4_share 27 = .ok (.i2d, 1) := by decide +kernel
theorem dX4_share_28 : decode cX4_share 28 = .ok (.ddiv, 1) := by decide +kernel
theorem dX4_share_29 : decode cX4_share 29 = .ok (.dreturn, 1) := by decide +kernel
set_option maxRecDepth 20000 in
theorem ggX4_digest_X4_counted : GoodIn wsX4_digest wsX4_counted := goodIn_r _ [11, 12, 6, 13, 14, 15, 10, 16, 17, 18, 19, 20, 21, 22, 4, 23, 24, 25, 26, 27, 28, 29, 30, 31, 32, 33, 34, 35, 36, 37, 38, 39, 40, 41, 57, 58, 59, 60, 61, 62, 63] (by decide +kernel) (by decide +kernel)
set_option maxRecDepth 20000 in
theorem gX4_digest_X4_counted : GoodIn wsX4_digest (wsV RX4 92 RX4 yX4_counted wsX4_counted) := goodIn_app (goodIn_of _ (by decide +kernel)) ggX4_digest_X4_counted
set_option maxRecDepth 20000 in
theorem ggX4_digest_X4_colour : GoodIn wsX4_digest wsX4_colour := goodIn_r _ [38, 22, 39, 40, 10, 41, 13, 14, 15, 16, 17, 57, 58, 59, 60, 61, 62, 63] (by decide +kernel) (by decide +kernel)
set_option maxRecDepth 20000 in
theorem gX4_digest_X4_colour : GoodIn wsX4_digest (wsV RX4 73 RX4 yX4_colour wsX4_colour) := goodIn_app (goodIn_of _ (by decide +kernel)) ggX4_digest_X4_colour
set_option maxRecDepth 20000 in
theorem ggX4_digest_X4_at : GoodIn wsX4_digest wsX4_at := goodIn_r _ [41] (by decide +kernel) (by decide +kernel)
set_option maxRecDepth 20000 in
theorem gX4_digest_X4_at : GoodIn wsX4_digest (va_wsS RX4 36 yX4_at wsX4_at) := goodIn_app (goodIn_of _ (by decide +kernel)) ggX4_digest_X4_at
set_option maxRecDepth 20000 in
theorem ggX4_digest_X4_weaverTold : GoodIn wsX4_digest wsX4_weaverTold := goodIn_r _ [45, 13, 14, 15, 10, 16, 17, 46, 47, 48, 49, 5, 50, 51, 52, 53, 54, 55, 56, 57, 58, 59, 60, 61, 62, 63] (by decide +kernel) (by decide +kernel)
set_option maxRecDepth 20000 in
theorem gX4_digest_X4_weaverTold : GoodIn wsX4_digest (wsV RX4 79 RX4 yX4_weaverTold wsX4_weaverTold) := goodIn_app (goodIn_of _ (by decide +kernel)) ggX4_digest_X4_weaverTold
set_option maxRecDepth 20000 in
theorem ggX4_digest_X4_pe : GoodIn wsX4_digest wsX4_pe := goodIn_r _ [16, 17, 57, 58, 59, 60, 61, 62, 63] (by decide +kernel) (by decide +kernel)
set_option maxRecDepth 20000 in
theorem gX4_digest_X4_pe : GoodIn wsX4_digest (wsV RX4 40 RX4 yX4_pe wsX4_pe) := goodIn_app (goodIn_of _ (by decide +kernel)) ggX4_digest_X4_pe
set_option maxRecDepth 20000 in
theorem ggX4_digest_X4_runAt : GoodIn wsX4_digest wsX4_runAt := goodIn_r _ [53] (by decide +kernel) (by decide +kernel)
set_option maxRecDepth 20000 in
theorem gX4_digest_X4_runAt : GoodIn wsX4_digest (wsV RX4 67 RX4 yX4_runAt wsX4_runAt) := goodIn_app (goodIn_of _ (by decide +kernel)) ggX4_digest_X4_runAt
theorem dX4_digest_0 : decode cX4_digest 0 = .ok (.aload_n 0, 1) := by decide +kernel
theorem dX4_digest_1 : decode cX4_digest 1 = .ok (.iconst 0, 1) := by decide +kernel
theorem dX4_digest_2 : decode cX4_digest 2 = .ok (.putfield 28, 3) := by decide +kernel
theorem dX4_digest_5 : decode cX4_digest 5 = .ok (.ldc2_w 130, 3) := by decide +kernel
theorem dX4_digest_8 : decode cX4_digest 8 = .ok (.lstore_n 1, 1) := by decide +kernel
theorem dX4_digest_9 : decode cX4_digest 9 = .ok (.iconst 0, 1) := by decide +kernel
theorem dX4_digest_10 : decode cX4_digest 10 = .ok (.istore_n 3, 1) := by decide +kernel
theorem dX4_digest_11 : decode cX4_digest 11 = .ok (.iload_n 3, 1) := by decide +kernel
theorem dX4_digest_12 : decode cX4_digest 12 = .ok (.bipush 8, 2) := by decide +kernel
theorem dX4_digest_14 : decode cX4_digest 14 = .ok (.if_icmp .ge 22, 3) := by decide +kernel
theorem dX4_digest_17 : decode cX4_digest 17 = .ok (.lload_n 1, 1) := by decide +kernel
theorem dX4_digest_18 : decode cX4_digest 18 = .ok (.ldc2_w 132, 3) := by decide +kernel
theorem dX4_digest_21 : decode cX4_digest 21 = .ok (.lmul, 1) := by decide +kernel
theorem dX4_digest_22 : decode cX4_digest 22 = .ok (.aload_n 0, 1) := by decide +kernel
theorem dX4_digest_23 : decode cX4_digest 23 = .ok (.iload_n 3, 1) := by decide +kernel
theorem dX4_digest_24 : decode cX4_digest 24 = .ok (.invokevirtual 92, 3) := by decide +kernel
theorem dX4_digest_27 : decode cX4_digest 27 = .ok (.i2l, 1) := by decide +kernel
theorem dX4_digest_28 : decode cX4_digest 28 = .ok (.ladd, 1) := by decide +kernel
theorem dX4_digest_29 : decode cX4_digest 29 = .ok (.lstore_n 1, 1) := by decide +kernel
theorem dX4_digest_30 : decode cX4_digest 30 = .ok (.iinc 3 1, 3) := by decide +kernel
theorem dX4_digest_33 : decode cX4_digest 33 = .ok (.goto (-22), 3) := by decide +kernel
theorem dX4_digest_36 : decode cX4_digest 36 = .ok (.iconst 0, 1) := by decide +kernel
theorem dX4_digest_37 : decode cX4_digest 37 = .ok (.istore_n 3, 1) := by decide +kernel
theorem dX4_digest_38 : decode cX4_digest 38 = .ok (.iload_n 3, 1) := by decide +kernel
theorem dX4_digest_39 : decode cX4_digest 39 = .ok (.bipush 120, 2) := by decide +kernel
theorem dX4_digest_41 : decode cX4_digest 41 = .ok (.if_icmp .ge 51, 3) := by decide +kernel
theorem dX4_digest_44 : decode cX4_digest 44 = .ok (.lload_n 1, 1) := by decide +kernel
theorem dX4_digest_45 : decode cX4_digest 45 = .ok (.ldc2_w 132, 3) := by decide +kernel
theorem dX4_digest_48 : decode cX4_digest 48 = .ok (.lmul, 1) := by decide +kernel
theorem dX4_digest_49 : decode cX4_digest 49 = .ok (.aload_n 0, 1) := by decide +kernel
theorem dX4_digest_50 : decode cX4_digest 50 = .ok (.iload_n 3, 1) := by decide +kernel
theorem dX4_digest_51 : decode cX4_digest 51 = .ok (.bipush 12, 2) := by decide +kernel
theorem dX4_digest_53 : decode cX4_digest 53 = .ok (.irem, 1) := by decide +kernel
theorem dX4_digest_54 : decode cX4_digest 54 = .ok (.iload_n 3, 1) := by decide +kernel
theorem dX4_digest_55 : decode cX4_digest 55 = .ok (.bipush 12, 2) := by decide +kernel
theorem dX4_digest_57 : decode cX4_digest 57 = .ok (.idiv, 1) := by decide +kernel
theorem dX4_digest_58 : decode cX4_digest 58 = .ok (.invokevirtual 73, 3) := by decide +kernel
theorem dX4_digest_61 : decode cX4_digest 61 = .ok (.i2l, 1) := by decide +kernel
theorem dX4_digest_62 : decode cX4_digest 62 = .ok (.ladd, 1) := by decide +kernel
theorem dX4_digest_63 : decode cX4_digest 63 = .ok (.ldc2_w 132, 3) := by decide +kernel
theorem dX4_digest_66 : decode cX4_digest 66 = .ok (.lmul, 1) := by decide +kernel
theorem dX4_digest_67 : decode cX4_digest 67 = .ok (.aload_n 0, 1) := by decide +kernel
theorem dX4_digest_68 : decode cX4_digest 68 = .ok (.getfield 16, 3) := by decide +kernel
theorem dX4_digest_71 : decode cX4_digest 71 = .ok (.iload_n 3, 1) := by decide +kernel
theorem dX4_digest_72 : decode cX4_digest 72 = .ok (.bipush 12, 2) := by decide +kernel
theorem dX4_digest_74 : decode cX4_digest 74 = .ok (.irem, 1) := by decide +kernel
theorem dX4_digest_75 : decode cX4_digest 75 = .ok (.iload_n 3, 1) := by decide +kernel
theorem dX4_digest_76 : decode cX4_digest 76 = .ok (.bipush 12, 2) := by decide +kernel
theorem dX4_digest_78 : decode cX4_digest 78 = .ok (.idiv, 1) := by decide +kernel
theorem dX4_digest_79 : decode cX4_digest 79 = .ok (.invokestatic 36, 3) := by decide +kernel
theorem dX4_digest_82 : decode cX4_digest 82 = .ok (.iaload, 1) := by decide +kernel
theorem dX4_digest_83 : decode cX4_digest 83 = .ok (.i2l, 1) := by decide +kernel
theorem dX4_digest_84 : decode cX4_digest 84 = .ok (.ladd, 1) := by decide +kernel
theorem dX4_digest_85 : decode cX4_digest 85 = .ok (.lstore_n 1, 1) := by decide +kernel
theorem dX4_digest_86 : decode cX4_digest 86 = .ok (.iinc 3 1, 3) := by decide +kernel
theorem dX4_digest_89 : decode cX4_digest 89 = .ok (.goto (-51), 3) := by decide +kernel
theorem dX4_digest_92 : decode cX4_digest 92 = .ok (.iconst 0, 1) := by decide +kernel
theorem dX4_digest_93 : decode cX4_digest 93 = .ok (.istore_n 3, 1) := by decide +kernel
theorem dX4_digest_94 : decode cX4_digest 94 = .ok (.iload_n 3, 1) := by decide +kernel
theorem dX4_digest_95 : decode cX4_digest 95 = .ok (.iconst 2, 1) := by decide +kernel
theorem dX4_digest_96 : decode cX4_digest 96 = .ok (.if_icmp .ge 84, 3) := by decide +kernel
theorem dX4_digest_99 : decode cX4_digest 99 = .ok (.iconst 0, 1) := by decide +kernel
theorem dX4_digest_100 : decode cX4_digest 100 = .ok (.istore 4, 2) := by decide +kernel
theorem dX4_digest_102 : decode cX4_digest 102 = .ok (.iload 4, 2) := by decide +kernel
theorem dX4_digest_104 : decode cX4_digest 104 = .ok (.bipush 7, 2) := by decide +kernel
theorem dX4_digest_106 : decode cX4_digest 106 = .ok (.if_icmp .ge 24, 3) := by decide +kernel
theorem dX4_digest_109 : decode cX4_digest 109 = .ok (.lload_n 1, 1) := by decide +kernel
theorem dX4_digest_110 : decode cX4_digest 110 = .ok (.ldc2_w 132, 3) := by decide +kernel
theorem dX4_digest_113 : decode cX4_digest 113 = .ok (.lmul, 1) := by decide +kernel
theorem dX4_digest_114 : decode cX4_digest 114 = .ok (.aload_n 0, 1) := by decide +kernel
theorem dX4_digest_115 : decode cX4_digest 115 = .ok (.iload_n 3, 1) := by decide +kernel
theorem dX4_digest_116 : decode cX4_digest 116 = .ok (.iload 4, 2) := by decide +kernel
theorem dX4_digest_118 : decode cX4_digest 118 = .ok (.invokevirtual 79, 3) := by decide +kernel
theorem dX4_digest_121 : decode cX4_digest 121 = .ok (.i2l, 1) := by decide +kernel
theorem dX4_digest_122 : decode cX4_digest 122 = .ok (.ladd, 1) := by decide +kernel
theorem dX4_digest_123 : decode cX4_digest 123 = .ok (.lstore_n 1, 1) := by decide +kernel
theorem dX4_digest_124 : decode cX4_digest 124 = .ok (.iinc 4 1, 3) := by decide +kernel
theorem dX4_digest_127 : decode cX4_digest 127 = .ok (.goto (-25), 3) := by decide +kernel
theorem dX4_digest_130 : decode cX4_digest 130 = .ok (.iconst 0, 1) := by decide +kernel
theorem dX4_digest_131 : decode cX4_digest 131 = .ok (.istore 4, 2) := by decide +kernel
theorem dX4_digest_133 : decode cX4_digest 133 = .ok (.iload 4, 2) := by decide +kernel
theorem dX4_digest_135 : decode cX4_digest 135 = .ok (.iconst 2, 1) := by decide +kernel
theorem dX4_digest_136 : decode cX4_digest 136 = .ok (.aload_n 0, 1) := by decide +kernel
theorem dX4_digest_137 : decode cX4_digest 137 = .ok (.iload_n 3, 1) := by decide +kernel
theorem dX4_digest_138 : decode cX4_digest 138 = .ok (.iconst 2, 1) := by decide +kernel
theorem dX4_digest_139 : decode cX4_digest 139 = .ok (.invokevirtual 40, 3) := by decide +kernel
theorem dX4_digest_142 : decode cX4_digest 142 = .ok (.imul, 1) := by decide +kernel
theorem dX4_digest_143 : decode cX4_digest 143 = .ok (.if_icmp .ge 31, 3) := by decide +kernel
theorem dX4_digest_146 : decode cX4_digest 146 = .ok (.lload_n 1, 1) := by decide +kernel
theorem dX4_digest_147 : decode cX4_digest 147 = .ok (.ldc2_w 132, 3) := by decide +kernel
theorem dX4_digest_150 : decode cX4_digest 150 = .ok (.lmul, 1) := by decide +kernel
theorem dX4_digest_151 : decode cX4_digest 151 = .ok (.aload_n 0, 1) := by decide +kernel
theorem dX4_digest_152 : decode cX4_digest 152 = .ok (.getfield 19, 3) := by decide +kernel
theorem dX4_digest_155 : decode cX4_digest 155 = .ok (.aload_n 0, 1) := by decide +kernel
theorem dX4_digest_156 : decode cX4_digest 156 = .ok (.iload_n 3, 1) := by decide +kernel
theorem dX4_digest_157 : decode cX4_digest 157 = .ok (.iconst 0, 1) := by decide +kernel
theorem dX4_digest_158 : decode cX4_digest 158 = .ok (.invokevirtual 67, 3) := by decide +kernel
theorem dX4_digest_161 : decode cX4_digest 161 = .ok (.iload 4, 2) := by decide +kernel
theorem dX4_digest_163 : decode cX4_digest 163 = .ok (.iadd, 1) := by decide +kernel
theorem dX4_digest_164 : decode cX4_digest 164 = .ok (.iaload, 1) := by decide +kernel
theorem dX4_digest_165 : decode cX4_digest 165 = .ok (.i2l, 1) := by decide +kernel
theorem dX4_digest_166 : decode cX4_digest 166 = .ok (.ladd, 1) := by decide +kernel
theorem dX4_digest_167 : decode cX4_digest 167 = .ok (.lstore_n 1, 1) := by decide +kernel
theorem dX4_digest_168 : decode cX4_digest 168 = .ok (.iinc 4 1, 3) := by decide +kernel
theorem dX4_digest_171 : decode cX4_digest 171 = .ok (.goto (-38), 3) := by decide +kernel
theorem dX4_digest_174 : decode cX4_digest 174 = .ok (.iinc 3 1, 3) := by decide +kernel
theorem dX4_digest_177 : decode cX4_digest 177 = .ok (.goto (-83), 3) := by decide +kernel
theorem dX4_digest_180 : decode cX4_digest 180 = .ok (.aload_n 0, 1) := by decide +kernel
theorem dX4_digest_181 : decode cX4_digest 181 = .ok (.getfield 22, 3) := by decide +kernel
theorem dX4_digest_184 : decode cX4_digest 184 = .ok (.astore_n 3, 1) := by decide +kernel
theorem dX4_digest_185 : decode cX4_digest 185 = .ok (.aload_n 3, 1) := by decide +kernel
theorem dX4_digest_186 : decode cX4_digest 186 = .ok (.arraylength, 1) := by decide +kernel
theorem dX4_digest_187 : decode cX4_digest 187 = .ok (.istore 4, 2) := by decide +kernel
theorem dX4_digest_189 : decode cX4_digest 189 = .ok (.iconst 0, 1) := by decide +kernel
theorem dX4_digest_190 : decode cX4_digest 190 = .ok (.istore 5, 2) := by decide +kernel
theorem dX4_digest_192 : decode cX4_digest 192 = .ok (.iload 5, 2) := by decide +kernel
theorem dX4_digest_194 : decode cX4_digest 194 = .ok (.iload 4, 2) := by decide +kernel
theorem dX4_digest_196 : decode cX4_digest 196 = .ok (.if_icmp .ge 25, 3) := by decide +kernel
theorem dX4_digest_199 : decode cX4_digest 199 = .ok (.aload_n 3, 1) := by decide +kernel
theorem dX4_digest_200 : decode cX4_digest 200 = .ok (.iload 5, 2) := by decide +kernel
theorem dX4_digest_202 : decode cX4_digest 202 = .ok (.iaload, 1) := by decide +kernel
theorem dX4_digest_203 : decode cX4_digest 203 = .ok (.istore 6, 2) := by decide +kernel
theorem dX4_digest_205 : decode cX4_digest 205 = .ok (.lload_n 1, 1) := by decide +kernel
theorem dX4_digest_206 : decode cX4_digest 206 = .ok (.ldc2_w 132, 3) := by decide +kernel
theorem dX4_digest_209 : decode cX4_digest 209 = .ok (.lmul, 1) := by decide +kernel
theorem dX4_digest_210 : decode cX4_digest 210 = .ok (.iload 6, 2) := by decide +kernel
theorem dX4_digest_212 : decode cX4_digest 212 = .ok (.i2l, 1) := by decide +kernel
theorem dX4_digest_213 : decode cX4_digest 213 = .ok (.ladd, 1) := by decide +kernel
theorem dX4_digest_214 : decode cX4_digest 214 = .ok (.lstore_n 1, 1) := by decide +kernel
theorem dX4_digest_215 : decode cX4_digest 215 = .ok (.iinc 5 1, 3) := by decide +kernel
theorem dX4_digest_218 : decode cX4_digest 218 = .ok (.goto (-26), 3) := by decide +kernel
theorem dX4_digest_221 : decode cX4_digest 221 = .ok (.lload_n 1, 1) := by decide +kernel
theorem dX4_digest_222 : decode cX4_digest 222 = .ok (.lreturn, 1) := by decide +kernel
