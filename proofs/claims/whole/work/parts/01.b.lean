set_option maxRecDepth 20000 in
theorem ggX0_init_X4_init : GoodIn wsX0_init wsX4_init := goodIn_r _ [10, 11, 2, 3, 12, 13, 14, 15, 16, 17, 18, 19, 20] (by decide +kernel) (by decide +kernel)
set_option maxRecDepth 20000 in
theorem gX0_init_X4_init : GoodIn wsX0_init (wsX4_init) := ggX0_init_X4_init
theorem dX0_init_0 : decode cX0_init 0 = .ok (.aload_n 0, 1) := by decide +kernel
theorem dX0_init_1 : decode cX0_init 1 = .ok (.invokespecial 3, 3) := by decide +kernel
theorem dX0_init_4 : decode cX0_init 4 = .ok (.aload_n 0, 1) := by decide +kernel
theorem dX0_init_5 : decode cX0_init 5 = .ok (.new 9, 3) := by decide +kernel
theorem dX0_init_8 : decode cX0_init 8 = .ok (.dup, 1) := by decide +kernel
theorem dX0_init_9 : decode cX0_init 9 = .ok (.bipush 100, 2) := by decide +kernel
theorem dX0_init_11 : decode cX0_init 11 = .ok (.bipush 53, 2) := by decide +kernel
theorem dX0_init_13 : decode cX0_init 13 = .ok (.iconst (-1), 1) := by decide +kernel
theorem dX0_init_14 : decode cX0_init 14 = .ok (.invokespecial 11, 3) := by decide +kernel
theorem dX0_init_17 : decode cX0_init 17 = .ok (.putfield 14, 3) := by decide +kernel
theorem dX0_init_20 : decode cX0_init 20 = .ok (.return_, 1) := by decide +kernel
set_option maxRecDepth 20000 in
theorem ggX0_find_X4_isSame : GoodIn wsX0_find wsX4_isSame := goodIn_r _ [6, 7, 8, 9, 5, 10, 11, 12, 13, 14, 18, 19, 20, 21] (by decide +kernel) (by decide +kernel)
set_option maxRecDepth 20000 in
theorem gX0_find_X4_isSame : GoodIn wsX0_find (wsV RX0 20 RX4 yX4_isSame wsX4_isSame) := goodIn_app (goodIn_of _ (by decide +kernel)) ggX0_find_X4_isSame
theorem dX0_find_0 : decode cX0_find 0 = .ok (.iconst 0, 1) := by decide +kernel
theorem dX0_find_1 : decode cX0_find 1 = .ok (.istore_n 3, 1) := by decide +kernel
theorem dX0_find_2 : decode cX0_find 2 = .ok (.iload_n 3, 1) := by decide +kernel
theorem dX0_find_3 : decode cX0_find 3 = .ok (.bipush 100, 2) := by decide +kernel
theorem dX0_find_5 : decode cX0_find 5 = .ok (.if_icmp .ge 27, 3) := by decide +kernel
theorem dX0_find_8 : decode cX0_find 8 = .ok (.aload_n 0, 1) := by decide +kernel
theorem dX0_find_9 : decode cX0_find 9 = .ok (.getfield 14, 3) := by decide +kernel
theorem dX0_find_12 : decode cX0_find 12 = .ok (.iload_n 3, 1) := by decide +kernel
theorem dX0_find_13 : decode cX0_find 13 = .ok (.aload_n 1, 1) := by decide +kernel
theorem dX0_find_14 : decode cX0_find 14 = .ok (.iload_n 2, 1) := by decide +kernel
theorem dX0_find_15 : decode cX0_find 15 = .ok (.iconst 1, 1) := by decide +kernel
theorem dX0_find_16 : decode cX0_find 16 = .ok (.bipush 50, 2) := by decide +kernel
theorem dX0_find_18 : decode cX0_find 18 = .ok (.invokevirtual 20, 3) := by decide +kernel
theorem dX0_find_21 : decode cX0_find 21 = .ok (.ifCond .eq 5, 3) := by decide +kernel
theorem dX0_find_24 : decode cX0_find 24 = .ok (.iload_n 3, 1) := by decide +kernel
theorem dX0_find_25 : decode cX0_find 25 = .ok (.ireturn, 1) := by decide +kernel
theorem dX0_find_26 : decode cX0_find 26 = .ok (.iinc 3 1, 3) := by decide +kernel
theorem dX0_find_29 : decode cX0_find 29 = .ok (.goto (-27), 3) := by decide +kernel
theorem dX0_find_32 : decode cX0_find 32 = .ok (.iconst (-1), 1) := by decide +kernel
theorem dX0_find_33 : decode cX0_find 33 = .ok (.ireturn, 1) := by decide +kernel
set_option maxRecDepth 20000 in
theorem ggX0_add_X0_firstToGo : GoodIn wsX0_add wsX0_firstToGo := goodIn_r _ [7, 1, 8, 9, 10, 11, 12, 13, 14, 15, 16, 27, 28, 29, 30, 31, 32, 33] (by decide +kernel) (by decide +kernel)
set_option maxRecDepth 20000 in
theorem gX0_add_X0_firstToGo : GoodIn wsX0_add (wsV RX0 24 RX0 yX0_firstToGo wsX0_firstToGo) := goodIn_app (goodIn_of _ (by decide +kernel)) ggX0_add_X0_firstToGo
set_option maxRecDepth 20000 in
theorem ggX0_add_X4_copy : GoodIn wsX0_add wsX4_copy := goodIn_r _ [20, 14, 21, 9, 10, 11, 12, 13, 15, 16, 22, 23, 24, 25, 30, 31, 32, 33] (by decide +kernel) (by decide +kernel)
set_option maxRecDepth 20000 in
theorem gX0_add_X4_copy : GoodIn wsX0_add (wsV RX0 28 RX4 yX4_copy wsX4_copy) := goodIn_app (goodIn_of _ (by decide +kernel)) ggX0_add_X4_copy
set_option maxRecDepth 20000 in
theorem ggX0_add_X4_set : GoodIn wsX0_add wsX4_set := goodIn_r _ [25, 13, 14, 15, 30, 31, 32, 33] (by decide +kernel) (by decide +kernel)
set_option maxRecDepth 20000 in
theorem gX0_add_X4_set : GoodIn wsX0_add (wsV RX0 36 RX4 yX4_set wsX4_set) := goodIn_app (goodIn_of _ (by decide +kernel)) ggX0_add_X4_set
theorem dX0_add_0 : decode cX0_add 0 = .ok (.aload_n 0, 1) := by decide +kernel
theorem dX0_add_1 : decode cX0_add 1 = .ok (.invokevirtual 24, 3) := by decide +kernel
theorem dX0_add_4 : decode cX0_add 4 = .ok (.istore_n 3, 1) := by decide +kernel
theorem dX0_add_5 : decode cX0_add 5 = .ok (.aload_n 0, 1) := by decide +kernel
theorem dX0_add_6 : decode cX0_add 6 = .ok (.getfield 14, 3) := by decide +kernel
theorem dX0_add_9 : decode cX0_add 9 = .ok (.iload_n 3, 1) := by decide +kernel
theorem dX0_add_10 : decode cX0_add 10 = .ok (.aload_n 1, 1) := by decide +kernel
theorem dX0_add_11 : decode cX0_add 11 = .ok (.iload_n 2, 1) := by decide +kernel
theorem dX0_add_12 : decode cX0_add 12 = .ok (.invokevirtual 28, 3) := by decide +kernel
theorem dX0_add_15 : decode cX0_add 15 = .ok (.aload_n 0, 1) := by decide +kernel
theorem dX0_add_16 : decode cX0_add 16 = .ok (.getfield 14, 3) := by decide +kernel
theorem dX0_add_19 : decode cX0_add 19 = .ok (.iload_n 3, 1) := by decide +kernel
theorem dX0_add_20 : decode cX0_add 20 = .ok (.bipush 52, 2) := by decide +kernel
theorem dX0_add_22 : decode cX0_add 22 = .ok (.aload_n 0, 1) := by decide +kernel
theorem dX0_add_23 : decode cX0_add 23 = .ok (.getfield 32, 3) := by decide +kernel
theorem dX0_add_26 : decode cX0_add 26 = .ok (.invokevirtual 36, 3) := by decide +kernel
theorem dX0_add_29 : decode cX0_add 29 = .ok (.aload_n 0, 1) := by decide +kernel
theorem dX0_add_30 : decode cX0_add 30 = .ok (.dup, 1) := by decide +kernel
theorem dX0_add_31 : decode cX0_add 31 = .ok (.getfield 32, 3) := by decide +kernel
theorem dX0_add_34 : decode cX0_add 34 = .ok (.iconst 1, 1) := by decide +kernel
theorem dX0_add_35 : decode cX0_add 35 = .ok (.iadd, 1) := by decide +kernel
theorem dX0_add_36 : decode cX0_add 36 = .ok (.putfield 32, 3) := by decide +kernel
theorem dX0_add_39 : decode cX0_add 39 = .ok (.return_, 1) := by decide +kernel
set_option maxRecDepth 20000 in
theorem ggX0_firstToGo_X4_get : GoodIn wsX0_firstToGo wsX4_get := goodIn_r _ [6, 7, 8, 9, 10, 14, 15, 16, 17] (by decide +kernel) (by decide +kernel)
set_option maxRecDepth 20000 in
theorem gX0_firstToGo_X4_get : GoodIn wsX0_firstToGo (wsV RX0 39 RX4 yX4_get wsX4_get) := goodIn_app (goodIn_of _ (by decide +kernel)) ggX0_firstToGo_X4_get
theorem dX0_firstToGo_0 : decode cX0_firstToGo 0 = .ok (.iconst 0, 1) := by decide +kernel
theorem dX0_firstToGo_1 : decode cX0_firstToGo 1 = .ok (.istore_n 1, 1) := by decide +kernel
theorem dX0_firstToGo_2 : decode cX0_firstToGo 2 = .ok (.iconst 1, 1) := by decide +kernel
theorem dX0_firstToGo_3 : decode cX0_firstToGo 3 = .ok (.istore_n 2, 1) := by decide +kernel
theorem dX0_firstToGo_4 : decode cX0_firstToGo 4 = .ok (.iload_n 2, 1) := by decide +kernel
theorem dX0_firstToGo_5 : decode cX0_firstToGo 5 = .ok (.bipush 100, 2) := by decide +kernel
theorem dX0_firstToGo_7 : decode cX0_firstToGo 7 = .ok (.if_icmp .ge 34, 3) := by decide +kernel
theorem dX0_firstToGo_10 : decode cX0_firstToGo 10 = .ok (.aload_n 0, 1) := by decide +kernel
theorem dX0_firstToGo_11 : decode cX0_firstToGo 11 = .ok (.getfield 14, 3) := by decide +kernel
theorem dX0_firstToGo_14 : decode cX0_firstToGo 14 = .ok (.iload_n 2, 1) := by decide +kernel
theorem dX0_firstToGo_15 : decode cX0_firstToGo 15 = .ok (.bipush 52, 2) := by decide +kernel
theorem dX0_firstToGo_17 : decode cX0_firstToGo 17 = .ok (.invokevirtual 39, 3) := by decide +kernel
theorem dX0_firstToGo_20 : decode cX0_firstToGo 20 = .ok (.aload_n 0, 1) := by decide +kernel
theorem dX0_firstToGo_21 : decode cX0_firstToGo 21 = .ok (.getfield 14, 3) := by decide +kernel
theorem dX0_firstToGo_24 : decode cX0_firstToGo 24 = .ok (.iload_n 1, 1) := by decide +kernel
theorem dX0_firstToGo_25 : decode cX0_firstToGo 25 = .ok (.bipush 52, 2) := by decide +kernel
theorem dX0_firstToGo_27 : decode cX0_firstToGo 27 = .ok (.invokevirtual 39, 3) := by decide +kernel
theorem dX0_firstToGo_30 : decode cX0_firstToGo 30 = .ok (.if_icmp .ge 5, 3) := by decide +kernel
theorem dX0_firstToGo_33 : decode cX0_firstToGo 33 = .ok (.iload_n 2, 1) := by decide +kernel
theorem dX0_firstToGo_34 : decode cX0_firstToGo 34 = .ok (.istore_n 1, 1) := by decide +kernel
theorem dX0_firstToGo_35 : decode cX0_firstToGo 35 = .ok (.iinc 2 1, 3) := by decide +kernel
theorem dX0_firstToGo_38 : decode cX0_firstToGo 38 = .ok (.goto (-34), 3) := by decide +kernel
theorem dX0_firstToGo_41 : decode cX0_firstToGo 41 = .ok (.iload_n 1, 1) := by decide +kernel
theorem dX0_firstToGo_42 : decode cX0_firstToGo 42 = .ok (.ireturn, 1) := by decide +kernel
set_option maxRecDepth 20000 in
theorem ggX0_loseAllFrom_X4_get : GoodIn wsX0_loseAllFrom wsX4_get := goodIn_r _ [6, 7, 8, 9, 10, 18, 19, 20, 21] (by decide +kernel) (by decide +kernel)
set_option maxRecDepth 20000 in
theorem gX0_loseAllFrom_X4_get : GoodIn wsX0_loseAllFrom (wsV RX0 39 RX4 yX4_get wsX4_get) := goodIn_app (goodIn_of _ (by decide +kernel)) ggX0_loseAllFrom_X4_get
set_option maxRecDepth 20000 in
theorem ggX0_loseAllFrom_X4_clear : GoodIn wsX0_loseAllFrom wsX4_clear := goodIn_r _ [14, 7, 8, 9, 10, 18, 19, 20, 21] (by decide +kernel) (by decide +kernel)
set_option maxRecDepth 20000 in
theorem gX0_loseAllFrom_X4_clear : GoodIn wsX0_loseAllFrom (wsV RX0 43 RX4 yX4_clear wsX4_clear) := goodIn_app (goodIn_of _ (by decide +kernel)) ggX0_loseAllFrom_X4_clear
theorem dX0_loseAllFrom_0 : decode cX0_loseAllFrom 0 = .ok (.iconst 0, 1) := by decide +kernel
theorem dX0_loseAllFrom_1 : decode cX0_loseAllFrom 1 = .ok (.istore_n 2, 1) := by decide +kernel
theorem dX0_loseAllFrom_2 : decode cX0_loseAllFrom 2 = .ok (.iload_n 2, 1) := by decide +kernel
theorem dX0_loseAllFrom_3 : decode cX0_loseAllFrom 3 = .ok (.bipush 100, 2) := by decide +kernel
theorem dX0_loseAllFrom_5 : decode cX0_loseAllFrom 5 = .ok (.if_icmp .ge 31, 3) := by decide +kernel
theorem dX0_loseAllFrom_8 : decode cX0_loseAllFrom 8 = .ok (.aload_n 0, 1) := by decide +kernel
theorem dX0_loseAllFrom_9 : decode cX0_loseAllFrom 9 = .ok (.getfield 14, 3) := by decide +kernel
theorem dX0_loseAllFrom_12 : decode cX0_loseAllFrom 12 = .ok (.iload_n 2, 1) := by decide +kernel
theorem dX0_loseAllFrom_13 : decode cX0_loseAllFrom 13 = .ok (.bipush 51, 2) := by decide +kernel
theorem dX0_loseAllFrom_15 : decode cX0_loseAllFrom 15 = .ok (.invokevirtual 39, 3) := by decide +kernel
theorem dX0_loseAllFrom_18 : decode cX0_loseAllFrom 18 = .ok (.iload_n 1, 1) := by decide +kernel
theorem dX0_loseAllFrom_19 : decode cX0_loseAllFrom 19 = .ok (.if_icmp .ne 11, 3) := by decide +kernel
theorem dX0_loseAllFrom_22 : decode cX0_loseAllFrom 22 = .ok (.aload_n 0, 1) := by decide +kernel
theorem dX0_loseAllFrom_23 : decode cX0_loseAllFrom 23 = .ok (.getfield 14, 3) := by decide +kernel
theorem dX0_loseAllFrom_26 : decode cX0_loseAllFrom 26 = .ok (.iload_n 2, 1) := by decide +kernel
theorem dX0_loseAllFrom_27 : decode cX0_loseAllFrom 27 = .ok (.invokevirtual 43, 3) := by decide +kernel
theorem dX0_loseAllFrom_30 : decode cX0_loseAllFrom 30 = .ok (.iinc 2 1, 3) := by decide +kernel
theorem dX0_loseAllFrom_33 : decode cX0_loseAllFrom 33 = .ok (.goto (-31), 3) := by decide +kernel
theorem dX0_loseAllFrom_36 : decode cX0_loseAllFrom 36 = .ok (.return_, 1) := by decide +kernel
set_option maxRecDepth 20000 in
theorem ggX1_init_X4_init : GoodIn wsX1_init wsX4_init := goodIn_r _ [11, 12, 2, 3, 13, 14, 15, 16, 17, 18, 19, 20, 21] (by decide +kernel) (by decide +kernel)
set_option maxRecDepth 20000 in
theorem gX1_init_X4_init : GoodIn wsX1_init (wsX4_init) := ggX1_init_X4_init
theorem dX1_init_0 : decode cX1_init 0 = .ok (.aload_n 0, 1) := by decide +kernel
theorem dX1_init_1 : decode cX1_init 1 = .ok (.invokespecial 3, 3) := by decide +kernel
theorem dX1_init_4 : decode cX1_init 4 = .ok (.aload_n 0, 1) := by decide +kernel
theorem dX1_init_5 : decode cX1_init 5 = .ok (.new 9, 3) := by decide +kernel
theorem dX1_init_8 : decode cX1_init 8 = .ok (.dup, 1) := by decide +kernel
theorem dX1_init_9 : decode cX1_init 9 = .ok (.bipush 16, 2) := by decide +kernel
theorem dX1_init_11 : decode cX1_init 11 = .ok (.iconst 2, 1) := by decide +kernel
theorem dX1_init_12 : decode cX1_init 12 = .ok (.iconst 0, 1) := by decide +kernel
theorem dX1_init_13 : decode cX1_init 13 = .ok (.invokespecial 11, 3) := by decide +kernel
theorem dX1_init_16 : decode cX1_init 16 = .ok (.putfield 14, 3) := by decide +kernel
theorem dX1_init_19 : decode cX1_init 19 = .ok (.aload_n 0, 1) := by decide +kernel
theorem dX1_init_20 : decode cX1_init 20 = .ok (.aload_n 1, 1) := by decide +kernel
theorem dX1_init_21 : decode cX1_init 21 = .ok (.putfield 20, 3) := by decide +kernel
theorem dX1_init_24 : decode cX1_init 24 = .ok (.return_, 1) := by decide +kernel
set_option maxRecDepth 20000 in
theorem ggX1_draw_X1_directNeeds : GoodIn wsX1_draw wsX1_directNeeds := goodIn_r _ [6, 7, 8, 9, 10, 11, 12, 13, 14, 15, 16, 21, 22, 23, 24, 25, 26] (by decide +kernel) (by decide +kernel)
set_option maxRecDepth 20000 in
theorem gX1_draw_X1_directNeeds : GoodIn wsX1_draw (wsV RX1 23 RX1 yX1_directNeeds wsX1_directNeeds) := goodIn_app (goodIn_of _ (by decide +kernel)) ggX1_draw_X1_directNeeds
set_option maxRecDepth 20000 in
theorem ggX1_draw_X4_set : GoodIn wsX1_draw wsX4_set := goodIn_r _ [20, 13, 14, 15, 23, 24, 25, 26] (by decide +kernel) (by decide +kernel)
set_option maxRecDepth 20000 in
theorem gX1_draw_X4_set : GoodIn wsX1_draw (wsV RX1 27 RX4 yX4_set wsX4_set) := goodIn_app (goodIn_of _ (by decide +kernel)) ggX1_draw_X4_set
theorem dX1_draw_0 : decode cX1_draw 0 = .ok (.iconst 0, 1) := by decide +kernel
theorem dX1_draw_1 : decode cX1_draw 1 = .ok (.istore_n 1, 1) := by decide +kernel
theorem dX1_draw_2 : decode cX1_draw 2 = .ok (.iload_n 1, 1) := by decide +kernel
theorem dX1_draw_3 : decode cX1_draw 3 = .ok (.bipush 16, 2) := by decide +kernel
theorem dX1_draw_5 : decode cX1_draw 5 = .ok (.if_icmp .ge 23, 3) := by decide +kernel
theorem dX1_draw_8 : decode cX1_draw 8 = .ok (.aload_n 0, 1) := by decide +kernel
theorem dX1_draw_9 : decode cX1_draw 9 = .ok (.getfield 14, 3) := by decide +kernel
theorem dX1_draw_12 : decode cX1_draw 12 = .ok (.iload_n 1, 1) := by decide +kernel
theorem dX1_draw_13 : decode cX1_draw 13 = .ok (.iconst 0, 1) := by decide +kernel
theorem dX1_draw_14 : decode cX1_draw 14 = .ok (.aload_n 0, 1) := by decide +kernel
theorem dX1_draw_15 : decode cX1_draw 15 = .ok (.iload_n 1, 1) := by decide +kernel
theorem dX1_draw_16 : decode cX1_draw 16 = .ok (.invokevirtual 23, 3) := by decide +kernel
theorem dX1_draw_19 : decode cX1_draw 19 = .ok (.invokevirtual 27, 3) := by decide +kernel
theorem dX1_draw_22 : decode cX1_draw 22 = .ok (.iinc 1 1, 3) := by decide +kernel
theorem dX1_draw_25 : decode cX1_draw 25 = .ok (.goto (-23), 3) := by decide +kernel
theorem dX1_draw_28 : decode cX1_draw 28 = .ok (.return_, 1) := by decide +kernel
set_option maxRecDepth 20000 in
theorem ggX1_directNeeds_X4_get : GoodIn wsX1_directNeeds wsX4_get := goodIn_r _ [6, 7, 8, 9, 10, 13, 14, 15, 16] (by decide +kernel) (by decide +kernel)
set_option maxRecDepth 20000 in
theorem gX1_directNeeds_X4_get : GoodIn wsX1_directNeeds (wsV RX1 30 RX4 yX4_get wsX4_get) := goodIn_app (goodIn_of _ (by decide +kernel)) ggX1_directNeeds_X4_get
theorem dX1_directNeeds_0 : decode cX1_directNeeds 0 = .ok (.iconst 0, 1) := by decide +kernel
theorem dX1_directNeeds_1 : decode cX1_directNeeds 1 = .ok (.istore_n 2, 1) := by decide +kernel
theorem dX1_directNeeds_2 : decode cX1_directNeeds 2 = .ok (.aload_n 0, 1) := by decide +kernel
theorem dX1_directNeeds_3 : decode cX1_directNeeds 3 = .ok (.getfield 20, 3) := by decide +kernel
theorem dX1_directNeeds_6 : decode cX1_directNeeds 6 = .ok (.iload_n 1, 1) := by decide +kernel
theorem dX1_directNeeds_7 : decode cX1_directNeeds 7 = .ok (.iconst 4, 1) := by decide +kernel
theorem dX1_directNeeds_8 : decode cX1_directNeeds 8 = .ok (.invokevirtual 30, 3) := by decide +kernel
theorem dX1_directNeeds_11 : decode cX1_directNeeds 11 = .ok (.istore_n 3, 1) := by decide +kernel
theorem dX1_directNeeds_12 : decode cX1_directNeeds 12 = .ok (.iconst 0, 1) := by decide +kernel
theorem dX1_directNeeds_13 : decode cX1_directNeeds 13 = .ok (.istore 4, 2) := by decide +kernel
theorem dX1_directNeeds_15 : decode cX1_directNeeds 15 = .ok (.iload 4, 2) := by decide +kernel
theorem dX1_directNeeds_17 : decode cX1_directNeeds 17 = .ok (.iload_n 3, 1) := by decide +kernel
theorem dX1_directNeeds_18 : decode cX1_directNeeds 18 = .ok (.if_icmp .ge 66, 3) := by decide +kernel
theorem dX1_directNeeds_21 : decode cX1_directNeeds 21 = .ok (.iload 4, 2) := by decide +kernel
theorem dX1_directNeeds_23 : decode cX1_directNeeds 23 = .ok (.iconst 4, 1) := by decide +kernel
theorem dX1_directNeeds_24 : decode cX1_directNeeds 24 = .ok (.if_icmp .ge 60, 3) := by decide +kernel
theorem dX1_directNeeds_27 : decode cX1_directNeeds 27 = .ok (.aload_n 0, 1) := by decide +kernel
theorem dX1_directNeeds_28 : decode cX1_directNeeds 28 = .ok (.getfield 20, 3) := by decide +kernel
theorem dX1_directNeeds_31 : decode cX1_directNeeds 31 = .ok (.iload_n 1, 1) := by decide +kernel
theorem dX1_directNeeds_32 : decode cX1_directNeeds 32 = .ok (.iconst 5, 1) := by decide +kernel
theorem dX1_directNeeds_33 : decode cX1_directNeeds 33 = .ok (.iload 4, 2) := by decide +kernel
theorem dX1_directNeeds_35 : decode cX1_directNeeds 35 = .ok (.iconst 2, 1) := by decide +kernel
theorem dX1_directNeeds_36 : decode cX1_directNeeds 36 = .ok (.imul, 1) := by decide +kernel
theorem dX1_directNeeds_37 : decode cX1_directNeeds 37 = .ok (.iadd, 1) := by decide +kernel
theorem dX1_directNeeds_38 : decode cX1_directNeeds 38 = .ok (.iconst 0, 1) := by decide +kernel
theorem dX1_directNeeds_39 : decode cX1_directNeeds 39 = .ok (.iadd, 1) := by decide +kernel
theorem dX1_directNeeds_40 : decode cX1_directNeeds 40 = .ok (.invokevirtual 30, 3) := by decide +kernel
theorem dX1_directNeeds_43 : decode cX1_directNeeds 43 = .ok (.istore 5, 2) := by decide +kernel
theorem dX1_directNeeds_45 : decode cX1_directNeeds 45 = .ok (.iload 5, 2) := by decide +kernel
theorem dX1_directNeeds_47 : decode cX1_directNeeds 47 = .ok (.iconst 2, 1) := by decide +kernel
theorem dX1_directNeeds_48 : decode cX1_directNeeds 48 = .ok (.if_icmp .eq 9, 3) := by decide +kernel
theorem dX1_directNeeds_51 : decode cX1_directNeeds 51 = .ok (.iload 5, 2) := by decide +kernel
theorem dX1_directNeeds_53 : decode cX1_directNeeds 53 = .ok (.iconst 3, 1) := by decide +kernel
theorem dX1_directNeeds_54 : decode cX1_directNeeds 54 = .ok (.if_icmp .ne 24, 3) := by decide +kernel
theorem dX1_directNeeds_57 : decode cX1_directNeeds 57 = .ok (.iload_n 2, 1) := by decide +kernel
theorem dX1_directNeeds_58 : decode cX1_directNeeds 58 = .ok (.iconst 1, 1) := by decide +kernel
theorem dX1_directNeeds_59 : decode cX1_directNeeds 59 = .ok (.aload_n 0, 1) := by decide +kernel
theorem dX1_directNeeds_60 : decode cX1_directNeeds 60 = .ok (.getfield 20, 3) := by decide +kernel
theorem dX1_directNeeds_63 : decode cX1_directNeeds 63 = .ok (.iload_n 1, 1) := by decide +kernel
theorem dX1_directNeeds_64 : decode cX1_directNeeds 64 = .ok (.iconst 5, 1) := by decide +kernel
theorem dX1_directNeeds_65 : decode cX1_directNeeds 65 = .ok (.iload 4, 2) := by decide +kernel
theorem dX1_directNeeds_67 : decode cX1_directNeeds 67 = .ok (.iconst 2, 1) := by decide +kernel
theorem dX1_directNeeds_68 : decode cX1_directNeeds 68 = .ok (.imul, 1) := by decide +kernel
theorem dX1_directNeeds_69 : decode cX1_directNeeds 69 = .ok (.iadd, 1) := by decide +kernel
theorem dX1_directNeeds_70 : decode cX1_directNeeds 70 = .ok (.iconst 1, 1) := by decide +kernel
theorem dX1_directNeeds_71 : decode cX1_directNeeds 71 = .ok (.iadd, 1) := by decide +kernel
theorem dX1_directNeeds_72 : decode cX1_directNeeds 72 = .ok (.invokevirtual 30, 3) := by decide +kernel
theorem dX1_directNeeds_75 : decode cX1_directNeeds 75 = .ok (.ishl, 1) := by decide +kernel
theorem dX1_directNeeds_76 : decode cX1_directNeeds 76 = .ok (.ior, 1) := by decide +kernel
theorem dX1_directNeeds_77 : decode cX1_directNeeds 77 = .ok (.istore_n 2, 1) := by decide +kernel
theorem dX1_directNeeds_78 : decode cX1_directNeeds 78 = .ok (.iinc 4 1, 3) := by decide +kernel
theorem dX1_directNeeds_81 : decode cX1_directNeeds 81 = .ok (.goto (-66), 3) := by decide +kernel
theorem dX1_directNeeds_84 : decode cX1_directNeeds 84 = .ok (.iload_n 2, 1) := by decide +kernel
theorem dX1_directNeeds_85 : decode cX1_directNeeds 85 = .ok (.ireturn, 1) := by decide +kernel
set_option maxRecDepth 20000 in
theorem ggX1_allFrom_X4_get : GoodIn wsX1_allFrom wsX4_get := goodIn_r _ [6, 7, 8, 9, 10, 17, 18, 19, 20] (by decide +kernel) (by decide +kernel)
set_option maxRecDepth 20000 in
theorem gX1_allFrom_X4_get : GoodIn wsX1_allFrom (wsV RX1 30 RX4 yX4_get wsX4_get) := goodIn_app (goodIn_of _ (by decide +kernel)) ggX1_allFrom_X4_get
set_option maxRecDepth 20000 in
theorem ggX1_allFrom_X1_has : GoodIn wsX1_allFrom wsX1_has := goodIn_r _ [14] (by decide +kernel) (by decide +kernel)
set_option maxRecDepth 20000 in
theorem gX1_allFrom_X1_has : GoodIn wsX1_allFrom (va_wsS RX1 34 yX1_has wsX1_has) := goodIn_app (goodIn_of _ (by decide +kernel)) ggX1_allFrom_X1_has
theorem dX1_allFrom_0 : decode cX1_allFrom 0 = .ok (.aload_n 0, 1) := by decide +kernel
theorem dX1_allFrom_1 : decode cX1_allFrom 1 = .ok (.getfield 14, 3) := by decide +kernel
theorem dX1_allFrom_4 : decode cX1_allFrom 4 = .ok (.iload_n 1, 1) := by decide +kernel
theorem dX1_allFrom_5 : decode cX1_allFrom 5 = .ok (.iconst 0, 1) := by decide +kernel
theorem dX1_allFrom_6 : decode cX1_allFrom 6 = .ok (.invokevirtual 30, 3) := by decide +kernel
theorem dX1_allFrom_9 : decode cX1_allFrom 9 = .ok (.istore_n 2, 1) := by decide +kernel
theorem dX1_allFrom_10 : decode cX1_allFrom 10 = .ok (.iconst 0, 1) := by decide +kernel
theorem dX1_allFrom_11 : decode cX1_allFrom 11 = .ok (.istore_n 3, 1) := by decide +kernel
theorem dX1_allFrom_12 : decode cX1_allFrom 12 = .ok (.iload_n 3, 1) := by decide +kernel
theorem dX1_allFrom_13 : decode cX1_allFrom 13 = .ok (.bipush 16, 2) := by decide +kernel
theorem dX1_allFrom_15 : decode cX1_allFrom 15 = .ok (.if_icmp .ge 47, 3) := by decide +kernel
theorem dX1_allFrom_18 : decode cX1_allFrom 18 = .ok (.iconst 0, 1) := by decide +kernel
theorem dX1_allFrom_19 : decode cX1_allFrom 19 = .ok (.istore 4, 2) := by decide +kernel
theorem dX1_allFrom_21 : decode cX1_allFrom 21 = .ok (.iload 4, 2) := by decide +kernel
theorem dX1_allFrom_23 : decode cX1_allFrom 23 = .ok (.bipush 16, 2) := by decide +kernel
theorem dX1_allFrom_25 : decode cX1_allFrom 25 = .ok (.if_icmp .ge 31, 3) := by decide +kernel
theorem dX1_allFrom_28 : decode cX1_allFrom 28 = .ok (.iload_n 2, 1) := by decide +kernel
theorem dX1_allFrom_29 : decode cX1_allFrom 29 = .ok (.iload 4, 2) := by decide +kernel
theorem dX1_allFrom_31 : decode cX1_allFrom 31 = .ok (.invokestatic 34, 3) := by decide +kernel
theorem dX1_allFrom_34 : decode cX1_allFrom 34 = .ok (.ifCond .eq 16, 3) := by decide +kernel
theorem dX1_allFrom_37 : decode cX1_allFrom 37 = .ok (.iload_n 2, 1) := by decide +kernel
theorem dX1_allFrom_38 : decode cX1_allFrom 38 = .ok (.aload_n 0, 1) := by decide +kernel
theorem dX1_allFrom_39 : decode cX1_allFrom 39 = .ok (.getfield 14, 3) := by decide +kernel
theorem dX1_allFrom_42 : decode cX1_allFrom 42 = .ok (.iload 4, 2) := by decide +kernel
theorem dX1_allFrom_44 : decode cX1_allFrom 44 = .ok (.iconst 0, 1) := by decide +kernel
theorem dX1_allFrom_45 : decode cX1_allFrom 45 = .ok (.invokevirtual 30, 3) := by decide +kernel
theorem dX1_allFrom_48 : decode cX1_allFrom 48 = .ok (.ior, 1) := by decide +kernel
theorem dX1_allFrom_49 : decode cX1_allFrom 49 = .ok (.istore_n 2, 1) := by decide +kernel
theorem dX1_allFrom_50 : decode cX1_allFrom 50 = .ok (.iinc 4 1, 3) := by decide +kernel
theorem dX1_allFrom_53 : decode cX1_allFrom 53 = .ok (.goto (-32), 3) := by decide +kernel
theorem dX1_allFrom_56 : decode cX1_allFrom 56 = .ok (.iinc 3 1, 3) := by decide +kernel
theorem dX1_allFrom_59 : decode cX1_allFrom 59 = .ok (.goto (-47), 3) := by decide +kernel
theorem dX1_allFrom_62 : decode cX1_allFrom 62 = .ok (.iload_n 2, 1) := by decide +kernel
theorem dX1_allFrom_63 : decode cX1_allFrom 63 = .ok (.ireturn, 1) := by decide +kernel
set_option maxRecDepth 20000 in
theorem ggX1_thatNeed_X1_allFrom : GoodIn wsX1_thatNeed wsX1_allFrom := goodIn_r _ [5, 6, 7, 8, 9, 10, 11, 12, 13, 14, 15, 16, 17, 4, 18, 19, 20, 21, 22, 23, 24] (by decide +kernel) (by decide +kernel)
set_option maxRecDepth 20000 in
theorem gX1_thatNeed_X1_allFrom : GoodIn wsX1_thatNeed (wsV RX1 38 RX1 yX1_allFrom wsX1_allFrom) := goodIn_app (goodIn_of _ (by decide +kernel)) ggX1_thatNeed_X1_allFrom
theorem dX1_thatNeed_0 : decode cX1_thatNeed 0 = .ok (.iconst 0, 1) := by decide +kernel
theorem dX1_thatNeed_1 : decode cX1_thatNeed 1 = .ok (.istore_n 2, 1) := by decide +kernel
theorem dX1_thatNeed_2 : decode cX1_thatNeed 2 = .ok (.iconst 0, 1) := by decide +kernel
theorem dX1_thatNeed_3 : decode cX1_thatNeed 3 = .ok (.istore_n 3, 1) := by decide +kernel
theorem dX1_thatNeed_4 : decode cX1_thatNeed 4 = .ok (.iload_n 3, 1) := by decide +kernel
theorem dX1_thatNeed_5 : decode cX1_thatNeed 5 = .ok (.bipush 16, 2) := by decide +kernel
theorem dX1_thatNeed_7 : decode cX1_thatNeed 7 = .ok (.if_icmp .ge 25, 3) := by decide +kernel
theorem dX1_thatNeed_10 : decode cX1_thatNeed 10 = .ok (.aload_n 0, 1) := by decide +kernel
theorem dX1_thatNeed_11 : decode cX1_thatNeed 11 = .ok (.iload_n 3, 1) := by decide +kernel
theorem dX1_thatNeed_12 : decode cX1_thatNeed 12 = .ok (.invokevirtual 38, 3) := by decide +kernel
theorem dX1_thatNeed_15 : decode cX1_thatNeed 15 = .ok (.iload_n 1, 1) := by decide +kernel
theorem dX1_thatNeed_16 : decode cX1_thatNeed 16 = .ok (.iand, 1) := by decide +kernel
theorem dX1_thatNeed_17 : decode cX1_thatNeed 17 = .ok (.ifCond .eq 9, 3) := by decide +kernel
theorem dX1_thatNeed_20 : decode cX1_thatNeed 20 = .ok (.iload_n 2, 1) := by decide +kernel
theorem dX1_thatNeed_21 : decode cX1_thatNeed 21 = .ok (.iconst 1, 1) := by decide +kernel
theorem dX1_thatNeed_22 : decode cX1_thatNeed 22 = .ok (.iload_n 3, 1) := by decide +kernel
theorem dX1_thatNeed_23 : decode cX1_thatNeed 23 = .ok (.ishl, 1) := by decide +kernel
theorem dX1_thatNeed_24 : decode cX1_thatNeed 24 = .ok (.ior, 1) := by decide +kernel
theorem dX1_thatNeed_25 : decode cX1_thatNeed 25 = .ok (.istore_n 2, 1) := by decide +kernel
theorem dX1_thatNeed_26 : decode cX1_thatNeed 26 = .ok (.iinc 3 1, 3) := by decide +kernel
theorem dX1_thatNeed_29 : decode cX1_thatNeed 29 = .ok (.goto (-25), 3) := by decide +kernel
theorem dX1_thatNeed_32 : decode cX1_thatNeed 32 = .ok (.iload_n 2, 1) := by decide +kernel
theorem dX1_thatNeed_33 : decode cX1_thatNeed 33 = .ok (.ireturn, 1) := by decide +kernel
set_option maxRecDepth 20000 in
theorem ggX1_withFile_X4_get : GoodIn wsX1_withFile wsX4_get := goodIn_r _ [6, 7, 8, 9, 10, 13, 14, 15, 16] (by decide +kernel) (by decide +kernel)
set_option maxRecDepth 20000 in
theorem gX1_withFile_X4_get : GoodIn wsX1_withFile (wsV RX1 30 RX4 yX4_get wsX4_get) := goodIn_app (goodIn_of _ (by decide +kernel)) ggX1_withFile_X4_get
theorem dX1_withFile_0 : decode cX1_withFile 0 = .ok (.iconst 0, 1) := by decide +kernel
theorem dX1_withFile_1 : decode cX1_withFile 1 = .ok (.istore_n 2, 1) := by decide +kernel
theorem dX1_withFile_2 : decode cX1_withFile 2 = .ok (.iconst 0, 1) := by decide +kernel
theorem dX1_withFile_3 : decode cX1_withFile 3 = .ok (.istore_n 3, 1) := by decide +kernel
theorem dX1_withFile_4 : decode cX1_withFile 4 = .ok (.iload_n 3, 1) := by decide +kernel
theorem dX1_withFile_5 : decode cX1_withFile 5 = .ok (.bipush 16, 2) := by decide +kernel
theorem dX1_withFile_7 : decode cX1_withFile 7 = .ok (.if_icmp .ge 109, 3) := by decide +kernel
theorem dX1_withFile_10 : decode cX1_withFile 10 = .ok (.aload_n 0, 1) := by decide +kernel
theorem dX1_withFile_11 : decode cX1_withFile 11 = .ok (.getfield 20, 3) := by decide +kernel
theorem dX1_withFile_14 : decode cX1_withFile 14 = .ok (.iload_n 3, 1) := by decide +kernel
theorem dX1_withFile_15 : decode cX1_withFile 15 = .ok (.iconst 4, 1) := by decide +kernel
theorem dX1_withFile_16 : decode cX1_withFile 16 = .ok (.invokevirtual 30, 3) := by decide +kernel
theorem dX1_withFile_19 : decode cX1_withFile 19 = .ok (.istore 4, 2) := by decide +kernel
theorem dX1_withFile_21 : decode cX1_withFile 21 = .ok (.iconst 0, 1) := by decide +kernel
theorem dX1_withFile_22 : decode cX1_withFile 22 = .ok (.istore 5, 2) := by decide +kernel
theorem dX1_withFile_24 : decode cX1_withFile 24 = .ok (.iload 5, 2) := by decide +kernel
theorem dX1_withFile_26 : decode cX1_withFile 26 = .ok (.iload 4, 2) := by decide +kernel
theorem dX1_withFile_28 : decode cX1_withFile 28 = .ok (.if_icmp .ge 82, 3) := by decide +kernel
theorem dX1_withFile_31 : decode cX1_withFile 31 = .ok (.iload 5, 2) := by decide +kernel
theorem dX1_withFile_33 : decode cX1_withFile 33 = .ok (.iconst 4, 1) := by decide +kernel
theorem dX1_withFile_34 : decode cX1_withFile 34 = .ok (.if_icmp .ge 76, 3) := by decide +kernel
theorem dX1_withFile_37 : decode cX1_withFile 37 = .ok (.aload_n 0, 1) := by decide +kernel
theorem dX1_withFile_38 : decode cX1_withFile 38 = .ok (.getfield 20, 3) := by decide +kernel
theorem dX1_withFile_41 : decode cX1_withFile 41 = .ok (.iload_n 3, 1) := by decide +kernel
theorem dX1_withFile_42 : decode cX1_withFile 42 = .ok (.iconst 5, 1) := by decide +kernel
theorem dX1_withFile_43 : decode cX1_withFile 43 = .ok (.iload 5, 2) := by decide +kernel
theorem dX1_withFile_45 : decode cX1_withFile 45 = .ok (.iconst 2, 1) := by decide +kernel
theorem dX1_withFile_46 : decode cX1_withFile 46 = .ok (.imul, 1) := by decide +kernel
theorem dX1_withFile_47 : decode cX1_withFile 47 = .ok (.iadd, 1) := by decide +kernel
theorem dX1_withFile_48 : decode cX1_withFile 48 = .ok (.iconst 0, 1) := by decide +kernel
theorem dX1_withFile_49 : decode cX1_withFile 49 = .ok (.iadd, 1) := by decide +kernel
theorem dX1_withFile_50 : decode cX1_withFile 50 = .ok (.invokevirtual 30, 3) := by decide +kernel
theorem dX1_withFile_53 : decode cX1_withFile 53 = .ok (.istore 6, 2) := by decide +kernel
theorem dX1_withFile_55 : decode cX1_withFile 55 = .ok (.aload_n 0, 1) := by decide +kernel
theorem dX1_withFile_56 : decode cX1_withFile 56 = .ok (.getfield 20, 3) := by decide +kernel
theorem dX1_withFile_59 : decode cX1_withFile 59 = .ok (.iload_n 3, 1) := by decide +kernel
theorem dX1_withFile_60 : decode cX1_withFile 60 = .ok (.iconst 5, 1) := by decide +kernel
theorem dX1_withFile_61 : decode cX1_withFile 61 = .ok (.iload 5, 2) := by decide +kernel
theorem dX1_withFile_63 : decode cX1_withFile 63 = .ok (.iconst 2, 1) := by decide +kernel
theorem dX1_withFile_64 : decode cX1_withFile 64 = .ok (.imul, 1) := by decide +kernel
theorem dX1_withFile_65 : decode cX1_withFile 65 = .ok (.iadd, 1) := by decide +kernel
theorem dX1_withFile_66 : decode cX1_withFile 66 = .ok (.iconst 1, 1) := by decide +kernel
theorem dX1_withFile_67 : decode cX1_withFile 67 = .ok (.iadd, 1) := by decide +kernel
theorem dX1_withFile_68 : decode cX1_withFile 68 = .ok (.invokevirtual 30, 3) := by decide +kernel
theorem dX1_withFile_71 : decode cX1_withFile 71 = .ok (.istore 7, 2) := by decide +kernel
theorem dX1_withFile_73 : decode cX1_withFile 73 = .ok (.iload 6, 2) := by decide +kernel
theorem dX1_withFile_75 : decode cX1_withFile 75 = .ok (.ifCond .ne 9, 3) := by decide +kernel
theorem dX1_withFile_78 : decode cX1_withFile 78 = .ok (.iload 7, 2) := by decide +kernel
theorem dX1_withFile_80 : decode cX1_withFile 80 = .ok (.iload_n 1, 1) := by decide +kernel
theorem dX1_withFile_81 : decode cX1_withFile 81 = .ok (.if_icmp .eq 17, 3) := by decide +kernel
theorem dX1_withFile_84 : decode cX1_withFile 84 = .ok (.iload 6, 2) := by decide +kernel
theorem dX1_withFile_86 : decode cX1_withFile 86 = .ok (.iconst 1, 1) := by decide +kernel
theorem dX1_withFile_87 : decode cX1_withFile 87 = .ok (.if_icmp .ne 17, 3) := by decide +kernel
theorem dX1_withFile_90 : decode cX1_withFile 90 = .ok (.iload 7, 2) := by decide +kernel
theorem dX1_withFile_92 : decode cX1_withFile 92 = .ok (.iload_n 1, 1) := by decide +kernel
theorem dX1_withFile_93 : decode cX1_withFile 93 = .ok (.iconst 5, 1) := by decide +kernel
theorem dX1_withFile_94 : decode cX1_withFile 94 = .ok (.idiv, 1) := by decide +kernel
theorem dX1_withFile_95 : decode cX1_withFile 95 = .ok (.if_icmp .ne 9, 3) := by decide +kernel
theorem dX1_withFile_98 : decode cX1_withFile 98 = .ok (.iload_n 2, 1) := by decide +kernel
theorem dX1_withFile_99 : decode cX1_withFile 99 = .ok (.iconst 1, 1) := by decide +kernel
theorem dX1_withFile_100 : decode cX1_withFile 100 = .ok (.iload_n 3, 1) := by decide +kernel
theorem dX1_withFile_101 : decode cX1_withFile 101 = .ok (.ishl, 1) := by decide +kernel
theorem dX1_withFile_102 : decode cX1_withFile 102 = .ok (.ior, 1) := by decide +kernel
theorem dX1_withFile_103 : decode cX1_withFile 103 = .ok (.istore_n 2, 1) := by decide +kernel
theorem dX1_withFile_104 : decode cX1_withFile 104 = .ok (.iinc 5 1, 3) := by decide +kernel
theorem dX1_withFile_107 : decode cX1_withFile 107 = .ok (.goto (-83), 3) := by decide +kernel
theorem dX1_withFile_110 : decode cX1_withFile 110 = .ok (.iinc 3 1, 3) := by decide +kernel
theorem dX1_withFile_113 : decode cX1_withFile 113 = .ok (.goto (-109), 3) := by decide +kernel
theorem dX1_withFile_116 : decode cX1_withFile 116 = .ok (.iload_n 2, 1) := by decide +kernel
theorem dX1_withFile_117 : decode cX1_withFile 117 = .ok (.ireturn, 1) := by decide +kernel
set_option maxRecDepth 20000 in
theorem ggX1_shortestRing_X1_measure : GoodIn wsX1_shortestRing wsX1_measure := goodIn_r _ [6, 1, 7, 8, 9, 10, 11, 12, 13, 14, 15, 16, 5, 17, 18, 19, 20, 21, 22, 23, 24, 25, 26, 27, 28] (by decide +kernel) (by decide +kernel)
set_option maxRecDepth 20000 in
theorem gX1_shortestRing_X1_measure : GoodIn wsX1_shortestRing (wsV RX1 41 RX1 yX1_measure wsX1_measure) := goodIn_app (goodIn_of _ (by decide +kernel)) ggX1_shortestRing_X1_measure
set_option maxRecDepth 20000 in
theorem ggX1_shortestRing_X4_get : GoodIn wsX1_shortestRing wsX4_get := goodIn_r _ [21, 12, 13, 14, 22, 25, 26, 27, 28] (by decide +kernel) (by decide +kernel)
set_option maxRecDepth 20000 in
theorem gX1_shortestRing_X4_get : GoodIn wsX1_shortestRing (wsV RX1 30 RX4 yX4_get wsX4_get) := goodIn_app (goodIn_of _ (by decide +kernel)) ggX1_shortestRing_X4_get
set_option maxRecDepth 20000 in
theorem ggX1_shortestRing_X1_has : GoodIn wsX1_shortestRing wsX1_has := goodIn_r _ [17] (by decide +kernel) (by decide +kernel)
set_option maxRecDepth 20000 in
theorem gX1_shortestRing_X1_has : GoodIn wsX1_shortestRing (va_wsS RX1 34 yX1_has wsX1_has) := goodIn_app (goodIn_of _ (by decide +kernel)) ggX1_shortestRing_X1_has
theorem dX1_shortestRing_0 : decode cX1_shortestRing 0 = .ok (.aload_n 0, 1) := by decide +kernel
theorem dX1_shortestRing_1 : decode cX1_shortestRing 1 = .ok (.iload_n 1, 1) := by decide +kernel
theorem dX1_shortestRing_2 : decode cX1_shortestRing 2 = .ok (.invokevirtual 41, 3) := by decide +kernel
theorem dX1_shortestRing_5 : decode cX1_shortestRing 5 = .ok (.iconst (-1), 1) := by decide +kernel
theorem dX1_shortestRing_6 : decode cX1_shortestRing 6 = .ok (.istore_n 2, 1) := by decide +kernel
theorem dX1_shortestRing_7 : decode cX1_shortestRing 7 = .ok (.iconst 0, 1) := by decide +kernel
theorem dX1_shortestRing_8 : decode cX1_shortestRing 8 = .ok (.istore_n 3, 1) := by decide +kernel
theorem dX1_shortestRing_9 : decode cX1_shortestRing 9 = .ok (.iload_n 3, 1) := by decide +kernel
theorem dX1_shortestRing_10 : decode cX1_shortestRing 10 = .ok (.bipush 16, 2) := by decide +kernel
theorem dX1_shortestRing_12 : decode cX1_shortestRing 12 = .ok (.if_icmp .ge 72, 3) := by decide +kernel
theorem dX1_shortestRing_15 : decode cX1_shortestRing 15 = .ok (.aload_n 0, 1) := by decide +kernel
theorem dX1_shortestRing_16 : decode cX1_shortestRing 16 = .ok (.getfield 14, 3) := by decide +kernel
theorem dX1_shortestRing_19 : decode cX1_shortestRing 19 = .ok (.iload_n 3, 1) := by decide +kernel
theorem dX1_shortestRing_20 : decode cX1_shortestRing 20 = .ok (.iconst 1, 1) := by decide +kernel
theorem dX1_shortestRing_21 : decode cX1_shortestRing 21 = .ok (.invokevirtual 30, 3) := by decide +kernel
theorem dX1_shortestRing_24 : decode cX1_shortestRing 24 = .ok (.istore 4, 2) := by decide +kernel
theorem dX1_shortestRing_26 : decode cX1_shortestRing 26 = .ok (.aload_n 0, 1) := by decide +kernel
theorem dX1_shortestRing_27 : decode cX1_shortestRing 27 = .ok (.getfield 14, 3) := by decide +kernel
theorem dX1_shortestRing_30 : decode cX1_shortestRing 30 = .ok (.iload_n 1, 1) := by decide +kernel
theorem dX1_shortestRing_31 : decode cX1_shortestRing 31 = .ok (.iconst 0, 1) := by decide +kernel
theorem dX1_shortestRing_32 : decode cX1_shortestRing 32 = .ok (.invokevirtual 30, 3) := by decide +kernel
theorem dX1_shortestRing_35 : decode cX1_shortestRing 35 = .ok (.iload_n 3, 1) := by decide +kernel
theorem dX1_shortestRing_36 : decode cX1_shortestRing 36 = .ok (.invokestatic 34, 3) := by decide +kernel
theorem dX1_shortestRing_39 : decode cX1_shortestRing 39 = .ok (.ifCond .eq 13, 3) := by decide +kernel
theorem dX1_shortestRing_42 : decode cX1_shortestRing 42 = .ok (.iload 4, 2) := by decide +kernel
theorem dX1_shortestRing_44 : decode cX1_shortestRing 44 = .ok (.iconst (-1), 1) := by decide +kernel
theorem dX1_shortestRing_45 : decode cX1_shortestRing 45 = .ok (.if_icmp .eq 7, 3) := by decide +kernel
theorem dX1_shortestRing_48 : decode cX1_shortestRing 48 = .ok (.iconst 1, 1) := by decide +kernel
theorem dX1_shortestRing_49 : decode cX1_shortestRing 49 = .ok (.goto 4, 3) := by decide +kernel
theorem dX1_shortestRing_52 : decode cX1_shortestRing 52 = .ok (.iconst 0, 1) := by decide +kernel
theorem dX1_shortestRing_53 : decode cX1_shortestRing 53 = .ok (.istore 5, 2) := by decide +kernel
theorem dX1_shortestRing_55 : decode cX1_shortestRing 55 = .ok (.iload 5, 2) := by decide +kernel
theorem dX1_shortestRing_57 : decode cX1_shortestRing 57 = .ok (.ifCond .eq 21, 3) := by decide +kernel
theorem dX1_shortestRing_60 : decode cX1_shortestRing 60 = .ok (.iload_n 2, 1) := by decide +kernel
theorem dX1_shortestRing_61 : decode cX1_shortestRing 61 = .ok (.iconst (-1), 1) := by decide +kernel
theorem dX1_shortestRing_62 : decode cX1_shortestRing 62 = .ok (.if_icmp .eq 11, 3) := by decide +kernel
theorem dX1_shortestRing_65 : decode cX1_shortestRing 65 = .ok (.iload 4, 2) := by decide +kernel
theorem dX1_shortestRing_67 : decode cX1_shortestRing 67 = .ok (.iconst 1, 1) := by decide +kernel
theorem dX1_shortestRing_68 : decode cX1_shortestRing 68 = .ok (.iadd, 1) := by decide +kernel
theorem dX1_shortestRing_69 : decode cX1_shortestRing 69 = .ok (.iload_n 2, 1) := by decide +kernel
theorem dX1_shortestRing_70 : decode cX1_shortestRing 70 = .ok (.if_icmp .ge 8, 3) := by decide +kernel
theorem dX1_shortestRing_73 : decode cX1_shortestRing 73 = .ok (.iload 4, 2) := by decide +kernel
theorem dX1_shortestRing_75 : decode cX1_shortestRing 75 = .ok (.iconst 1, 1) := by decide +kernel
theorem dX1_shortestRing_76 : decode cX1_shortestRing 76 = .ok (.iadd, 1) := by decide +kernel
theorem dX1_shortestRing_77 : decode cX1_shortestRing 77 = .ok (.istore_n 2, 1) := by decide +kernel
theorem dX1_shortestRing_78 : decode cX1_shortestRing 78 = .ok (.iinc 3 1, 3) := by decide +kernel
theorem dX1_shortestRing_81 : decode cX1_shortestRing 81 = .ok (.goto (-72), 3) := by decide +kernel
theorem dX1_shortestRing_84 : decode cX1_shortestRing 84 = .ok (.iload_n 2, 1) := by decide +kernel
theorem dX1_shortestRing_85 : decode cX1_shortestRing 85 = .ok (.ireturn, 1) := by decide +kernel
set_option maxRecDepth 20000 in
theorem ggX1_onShortestWay_X1_measure : GoodIn wsX1_onShortestWay wsX1_measure := goodIn_r _ [6, 1, 7, 8, 9, 10, 11, 12, 13, 14, 15, 16, 5, 17, 18, 19, 20, 21, 22, 27, 28, 29, 30, 31, 32] (by decide +kernel) (by decide +kernel)
set_option maxRecDepth 20000 in
theorem gX1_onShortestWay_X1_measure : GoodIn wsX1_onShortestWay (wsV RX1 41 RX1 yX1_measure wsX1_measure) := goodIn_app (goodIn_of _ (by decide +kernel)) ggX1_onShortestWay_X1_measure
set_option maxRecDepth 20000 in
theorem ggX1_onShortestWay_X4_get : GoodIn wsX1_onShortestWay wsX4_get := goodIn_r _ [21, 12, 13, 14, 22, 29, 30, 31, 32] (by decide +kernel) (by decide +kernel)
set_option maxRecDepth 20000 in
theorem gX1_onShortestWay_X4_get : GoodIn wsX1_onShortestWay (wsV RX1 30 RX4 yX4_get wsX4_get) := goodIn_app (goodIn_of _ (by decide +kernel)) ggX1_onShortestWay_X4_get
set_option maxRecDepth 20000 in
theorem ggX1_onShortestWay_X1_lowestAt : GoodIn wsX1_onShortestWay wsX1_lowestAt := goodIn_r _ [26, 1, 15, 16, 5, 17, 18, 19, 20, 10, 21, 12, 13, 14, 22, 27, 28, 29, 30, 31, 32] (by decide +kernel) (by decide +kernel)
set_option maxRecDepth 20000 in
theorem gX1_onShortestWay_X1_lowestAt : GoodIn wsX1_onShortestWay (wsV RX1 45 RX1 yX1_lowestAt wsX1_lowestAt) := goodIn_app (goodIn_of _ (by decide +kernel)) ggX1_onShortestWay_X1_lowestAt
theorem dX1_onShortestWay_0 : decode cX1_onShortestWay 0 = .ok (.aload_n 0, 1) := by decide +kernel
theorem dX1_onShortestWay_1 : decode cX1_onShortestWay 1 = .ok (.iload_n 2, 1) := by decide +kernel
theorem dX1_onShortestWay_2 : decode cX1_onShortestWay 2 = .ok (.invokevirtual 41, 3) := by decide +kernel
theorem dX1_onShortestWay_5 : decode cX1_onShortestWay 5 = .ok (.aload_n 0, 1) := by decide +kernel
theorem dX1_onShortestWay_6 : decode cX1_onShortestWay 6 = .ok (.getfield 14, 3) := by decide +kernel
theorem dX1_onShortestWay_9 : decode cX1_onShortestWay 9 = .ok (.iload_n 1, 1) := by decide +kernel
theorem dX1_onShortestWay_10 : decode cX1_onShortestWay 10 = .ok (.iconst 1, 1) := by decide +kernel
theorem dX1_onShortestWay_11 : decode cX1_onShortestWay 11 = .ok (.invokevirtual 30, 3) := by decide +kernel
theorem dX1_onShortestWay_14 : decode cX1_onShortestWay 14 = .ok (.istore 4, 2) := by decide +kernel
theorem dX1_onShortestWay_16 : decode cX1_onShortestWay 16 = .ok (.iload 4, 2) := by decide +kernel
theorem dX1_onShortestWay_18 : decode cX1_onShortestWay 18 = .ok (.iconst (-1), 1) := by decide +kernel
theorem dX1_onShortestWay_19 : decode cX1_onShortestWay 19 = .ok (.if_icmp .eq 9, 3) := by decide +kernel
theorem dX1_onShortestWay_22 : decode cX1_onShortestWay 22 = .ok (.iload_n 3, 1) := by decide +kernel
theorem dX1_onShortestWay_23 : decode cX1_onShortestWay 23 = .ok (.iload 4, 2) := by decide +kernel
theorem dX1_onShortestWay_25 : decode cX1_onShortestWay 25 = .ok (.if_icmp .le 5, 3) := by decide +kernel
theorem dX1_onShortestWay_28 : decode cX1_onShortestWay 28 = .ok (.iconst (-1), 1) := by decide +kernel
theorem dX1_onShortestWay_29 : decode cX1_onShortestWay 29 = .ok (.ireturn, 1) := by decide +kernel
theorem dX1_onShortestWay_30 : decode cX1_onShortestWay 30 = .ok (.iload_n 1, 1) := by decide +kernel
theorem dX1_onShortestWay_31 : decode cX1_onShortestWay 31 = .ok (.istore 5, 2) := by decide +kernel
theorem dX1_onShortestWay_33 : decode cX1_onShortestWay 33 = .ok (.iconst 0, 1) := by decide +kernel
theorem dX1_onShortestWay_34 : decode cX1_onShortestWay 34 = .ok (.istore 6, 2) := by decide +kernel
theorem dX1_onShortestWay_36 : decode cX1_onShortestWay 36 = .ok (.iload 6, 2) := by decide +kernel
theorem dX1_onShortestWay_38 : decode cX1_onShortestWay 38 = .ok (.iload_n 3, 1) := by decide +kernel
theorem dX1_onShortestWay_39 : decode cX1_onShortestWay 39 = .ok (.if_icmp .ge 39, 3) := by decide +kernel
theorem dX1_onShortestWay_42 : decode cX1_onShortestWay 42 = .ok (.iload 6, 2) := by decide +kernel
theorem dX1_onShortestWay_44 : decode cX1_onShortestWay 44 = .ok (.bipush 16, 2) := by decide +kernel
theorem dX1_onShortestWay_46 : decode cX1_onShortestWay 46 = .ok (.if_icmp .ge 32, 3) := by decide +kernel
theorem dX1_onShortestWay_49 : decode cX1_onShortestWay 49 = .ok (.aload_n 0, 1) := by decide +kernel
theorem dX1_onShortestWay_50 : decode cX1_onShortestWay 50 = .ok (.aload_n 0, 1) := by decide +kernel
theorem dX1_onShortestWay_51 : decode cX1_onShortestWay 51 = .ok (.getfield 14, 3) := by decide +kernel
theorem dX1_onShortestWay_54 : decode cX1_onShortestWay 54 = .ok (.iload 5, 2) := by decide +kernel
theorem dX1_onShortestWay_56 : decode cX1_onShortestWay 56 = .ok (.iconst 0, 1) := by decide +kernel
theorem dX1_onShortestWay_57 : decode cX1_onShortestWay 57 = .ok (.invokevirtual 30, 3) := by decide +kernel
theorem dX1_onShortestWay_60 : decode cX1_onShortestWay 60 = .ok (.iload 4, 2) := by decide +kernel
theorem dX1_onShortestWay_62 : decode cX1_onShortestWay 62 = .ok (.iload 6, 2) := by decide +kernel
theorem dX1_onShortestWay_64 : decode cX1_onShortestWay 64 = .ok (.isub, 1) := by decide +kernel
theorem dX1_onShortestWay_65 : decode cX1_onShortestWay 65 = .ok (.iconst 1, 1) := by decide +kernel
theorem dX1_onShortestWay_66 : decode cX1_onShortestWay 66 = .ok (.isub, 1) := by decide +kernel
theorem dX1_onShortestWay_67 : decode cX1_onShortestWay 67 = .ok (.invokevirtual 45, 3) := by decide +kernel
theorem dX1_onShortestWay_70 : decode cX1_onShortestWay 70 = .ok (.istore 5, 2) := by decide +kernel
theorem dX1_onShortestWay_72 : decode cX1_onShortestWay 72 = .ok (.iinc 6 1, 3) := by decide +kernel
theorem dX1_onShortestWay_75 : decode cX1_onShortestWay 75 = .ok (.goto (-39), 3) := by decide +kernel
theorem dX1_onShortestWay_78 : decode cX1_onShortestWay 78 = .ok (.iload 5, 2) := by decide +kernel
theorem dX1_onShortestWay_80 : decode cX1_onShortestWay 80 = .ok (.ireturn, 1) := by decide +kernel
set_option maxRecDepth 20000 in
theorem ggX1_lowestAt_X1_has : GoodIn wsX1_lowestAt wsX1_has := goodIn_r _ [5] (by decide +kernel) (by decide +kernel)
set_option maxRecDepth 20000 in
theorem gX1_lowestAt_X1_has : GoodIn wsX1_lowestAt (va_wsS RX1 34 yX1_has wsX1_has) := goodIn_app (goodIn_of _ (by decide +kernel)) ggX1_lowestAt_X1_has
set_option maxRecDepth 20000 in
theorem ggX1_lowestAt_X4_get : GoodIn wsX1_lowestAt wsX4_get := goodIn_r _ [10, 11, 12, 13, 14, 17, 18, 19, 20] (by decide +kernel) (by decide +kernel)
set_option maxRecDepth 20000 in
theorem gX1_lowestAt_X4_get : GoodIn wsX1_lowestAt (wsV RX1 30 RX4 yX4_get wsX4_get) := goodIn_app (goodIn_of _ (by decide +kernel)) ggX1_lowestAt_X4_get
theorem dX1_lowestAt_0 : decode cX1_lowestAt 0 = .ok (.iconst 0, 1) := by decide +kernel
theorem dX1_lowestAt_1 : decode cX1_lowestAt 1 = .ok (.istore_n 3, 1) := by decide +kernel
theorem dX1_lowestAt_2 : decode cX1_lowestAt 2 = .ok (.iload_n 3, 1) := by decide +kernel
theorem dX1_lowestAt_3 : decode cX1_lowestAt 3 = .ok (.bipush 16, 2) := by decide +kernel
theorem dX1_lowestAt_5 : decode cX1_lowestAt 5 = .ok (.if_icmp .ge 32, 3) := by decide +kernel
theorem dX1_lowestAt_8 : decode cX1_lowestAt 8 = .ok (.iload_n 1, 1) := by decide +kernel
theorem dX1_lowestAt_9 : decode cX1_lowestAt 9 = .ok (.iload_n 3, 1) := by decide +kernel
theorem dX1_lowestAt_10 : decode cX1_lowestAt 10 = .ok (.invokestatic 34, 3) := by decide +kernel
theorem dX1_lowestAt_13 : decode cX1_lowestAt 13 = .ok (.ifCond .eq 18, 3) := by decide +kernel
theorem dX1_lowestAt_16 : decode cX1_lowestAt 16 = .ok (.aload_n 0, 1) := by decide +kernel
theorem dX1_lowestAt_17 : decode cX1_lowestAt 17 = .ok (.getfield 14, 3) := by decide +kernel
theorem dX1_lowestAt_20 : decode cX1_lowestAt 20 = .ok (.iload_n 3, 1) := by decide +kernel
theorem dX1_lowestAt_21 : decode cX1_lowestAt 21 = .ok (.iconst 1, 1) := by decide +kernel
theorem dX1_lowestAt_22 : decode cX1_lowestAt 22 = .ok (.invokevirtual 30, 3) := by decide +kernel
theorem dX1_lowestAt_25 : decode cX1_lowestAt 25 = .ok (.iload_n 2, 1) := by decide +kernel
theorem dX1_lowestAt_26 : decode cX1_lowestAt 26 = .ok (.if_icmp .ne 5, 3) := by decide +kernel
theorem dX1_lowestAt_29 : decode cX1_lowestAt 29 = .ok (.iload_n 3, 1) := by decide +kernel
theorem dX1_lowestAt_30 : decode cX1_lowestAt 30 = .ok (.ireturn, 1) := by decide +kernel
theorem dX1_lowestAt_31 : decode cX1_lowestAt 31 = .ok (.iinc 3 1, 3) := by decide +kernel
theorem dX1_lowestAt_34 : decode cX1_lowestAt 34 = .ok (.goto (-32), 3) := by decide +kernel
theorem dX1_lowestAt_37 : decode cX1_lowestAt 37 = .ok (.iconst (-1), 1) := by decide +kernel
theorem dX1_lowestAt_38 : decode cX1_lowestAt 38 = .ok (.ireturn, 1) := by decide +kernel
set_option maxRecDepth 20000 in
theorem ggX1_measure_X4_set : GoodIn wsX1_measure wsX4_set := goodIn_r _ [6, 7, 8, 9, 21, 22, 23, 24] (by decide +kernel) (by decide +kernel)
set_option maxRecDepth 20000 in
theorem gX1_measure_X4_set : GoodIn wsX1_measure (wsV RX1 27 RX4 yX4_set wsX4_set) := goodIn_app (goodIn_of _ (by decide +kernel)) ggX1_measure_X4_set
set_option maxRecDepth 20000 in
theorem ggX1_measure_X1_has : GoodIn wsX1_measure wsX1_has := goodIn_r _ [13] (by decide +kernel) (by decide +kernel)
set_option maxRecDepth 20000 in
theorem gX1_measure_X1_has : GoodIn wsX1_measure (va_wsS RX1 34 yX1_has wsX1_has) := goodIn_app (goodIn_of _ (by decide +kernel)) ggX1_measure_X1_has
set_option maxRecDepth 20000 in
theorem ggX1_measure_X4_get : GoodIn wsX1_measure wsX4_get := goodIn_r _ [17, 7, 8, 9, 18, 21, 22, 23, 24] (by decide +kernel) (by decide +kernel)
set_option maxRecDepth 20000 in
theorem gX1_measure_X4_get : GoodIn wsX1_measure (wsV RX1 30 RX4 yX4_get wsX4_get) := goodIn_app (goodIn_of _ (by decide +kernel)) ggX1_measure_X4_get
theorem dX1_measure_0 : decode cX1_measure 0 = .ok (.iconst 0, 1) := by decide +kernel
theorem dX1_measure_1 : decode cX1_measure 1 = .ok (.istore_n 2, 1) := by decide +kernel
theorem dX1_measure_2 : decode cX1_measure 2 = .ok (.iload_n 2, 1) := by decide +kernel
theorem dX1_measure_3 : decode cX1_measure 3 = .ok (.bipush 16, 2) := by decide +kernel
theorem dX1_measure_5 : decode cX1_measure 5 = .ok (.if_icmp .ge 28, 3) := by decide +kernel
theorem dX1_measure_8 : decode cX1_measure 8 = .ok (.aload_n 0, 1) := by decide +kernel
theorem dX1_measure_9 : decode cX1_measure 9 = .ok (.getfield 14, 3) := by decide +kernel
theorem dX1_measure_12 : decode cX1_measure 12 = .ok (.iload_n 2, 1) := by decide +kernel
theorem dX1_measure_13 : decode cX1_measure 13 = .ok (.iconst 1, 1) := by decide +kernel
theorem dX1_measure_14 : decode cX1_measure 14 = .ok (.iload_n 2, 1) := by decide +kernel
theorem dX1_measure_15 : decode cX1_measure 15 = .ok (.iload_n 1, 1) := by decide +kernel
theorem dX1_measure_16 : decode cX1_measure 16 = .ok (.if_icmp .ne 7, 3) := by decide +kernel
theorem dX1_measure_19 : decode cX1_measure 19 = .ok (.iconst 0, 1) := by decide +kernel
theorem dX1_measure_20 : decode cX1_measure 20 = .ok (.goto 4, 3) := by decide +kernel
theorem dX1_measure_23 : decode cX1_measure 23 = .ok (.iconst (-1), 1) := by decide +kernel
theorem dX1_measure_24 : decode cX1_measure 24 = .ok (.invokevirtual 27, 3) := by decide +kernel
theorem dX1_measure_27 : decode cX1_measure 27 = .ok (.iinc 2 1, 3) := by decide +kernel
theorem dX1_measure_30 : decode cX1_measure 30 = .ok (.goto (-28), 3) := by decide +kernel
theorem dX1_measure_33 : decode cX1_measure 33 = .ok (.iconst 1, 1) := by decide +kernel
theorem dX1_measure_34 : decode cX1_measure 34 = .ok (.iload_n 1, 1) := by decide +kernel
theorem dX1_measure_35 : decode cX1_measure 35 = .ok (.ishl, 1) := by decide +kernel
theorem dX1_measure_36 : decode cX1_measure 36 = .ok (.istore_n 2, 1) := by decide +kernel
theorem dX1_measure_37 : decode cX1_measure 37 = .ok (.iconst 1, 1) := by decide +kernel
theorem dX1_measure_38 : decode cX1_measure 38 = .ok (.istore_n 3, 1) := by decide +kernel
theorem dX1_measure_39 : decode cX1_measure 39 = .ok (.iload_n 3, 1) := by decide +kernel
theorem dX1_measure_40 : decode cX1_measure 40 = .ok (.bipush 16, 2) := by decide +kernel
theorem dX1_measure_42 : decode cX1_measure 42 = .ok (.if_icmp .ge 75, 3) := by decide +kernel
theorem dX1_measure_45 : decode cX1_measure 45 = .ok (.iload_n 2, 1) := by decide +kernel
theorem dX1_measure_46 : decode cX1_measure 46 = .ok (.istore 4, 2) := by decide +kernel
theorem dX1_measure_48 : decode cX1_measure 48 = .ok (.iconst 0, 1) := by decide +kernel
theorem dX1_measure_49 : decode cX1_measure 49 = .ok (.istore 5, 2) := by decide +kernel
theorem dX1_measure_51 : decode cX1_measure 51 = .ok (.iload 5, 2) := by decide +kernel
theorem dX1_measure_53 : decode cX1_measure 53 = .ok (.bipush 16, 2) := by decide +kernel
theorem dX1_measure_55 : decode cX1_measure 55 = .ok (.if_icmp .ge 53, 3) := by decide +kernel
theorem dX1_measure_58 : decode cX1_measure 58 = .ok (.iload_n 2, 1) := by decide +kernel
theorem dX1_measure_59 : decode cX1_measure 59 = .ok (.iload 5, 2) := by decide +kernel
theorem dX1_measure_61 : decode cX1_measure 61 = .ok (.invokestatic 34, 3) := by decide +kernel
theorem dX1_measure_64 : decode cX1_measure 64 = .ok (.ifCond .ne 38, 3) := by decide +kernel
theorem dX1_measure_67 : decode cX1_measure 67 = .ok (.aload_n 0, 1) := by decide +kernel
theorem dX1_measure_68 : decode cX1_measure 68 = .ok (.getfield 14, 3) := by decide +kernel
theorem dX1_measure_71 : decode cX1_measure 71 = .ok (.iload 5, 2) := by decide +kernel
theorem dX1_measure_73 : decode cX1_measure 73 = .ok (.iconst 0, 1) := by decide +kernel
theorem dX1_measure_74 : decode cX1_measure 74 = .ok (.invokevirtual 30, 3) := by decide +kernel
theorem dX1_measure_77 : decode cX1_measure 77 = .ok (.iload_n 2, 1) := by decide +kernel
theorem dX1_measure_78 : decode cX1_measure 78 = .ok (.iand, 1) := by decide +kernel
theorem dX1_measure_79 : decode cX1_measure 79 = .ok (.ifCond .eq 23, 3) := by decide +kernel
theorem dX1_measure_82 : decode cX1_measure 82 = .ok (.aload_n 0, 1) := by decide +kernel
theorem dX1_measure_83 : decode cX1_measure 83 = .ok (.getfield 14, 3) := by decide +kernel
theorem dX1_measure_86 : decode cX1_measure 86 = .ok (.iload 5, 2) := by decide +kernel
theorem dX1_measure_88 : decode cX1_measure 88 = .ok (.iconst 1, 1) := by decide +kernel
theorem dX1_measure_89 : decode cX1_measure 89 = .ok (.iload_n 3, 1) := by decide +kernel
theorem dX1_measure_90 : decode cX1_measure 90 = .ok (.invokevirtual 27, 3) := by decide +kernel
theorem dX1_measure_93 : decode cX1_measure 93 = .ok (.iload 4, 2) := by decide +kernel
theorem dX1_measure_95 : decode cX1_measure 95 = .ok (.iconst 1, 1) := by decide +kernel
theorem dX1_measure_96 : decode cX1_measure 96 = .ok (.iload 5, 2) := by decide +kernel
theorem dX1_measure_98 : decode cX1_measure 98 = .ok (.ishl, 1) := by decide +kernel
theorem dX1_measure_99 : decode cX1_measure 99 = .ok (.ior, 1) := by decide +kernel
theorem dX1_measure_100 : decode cX1_measure 100 = .ok (.istore 4, 2) := by decide +kernel
theorem dX1_measure_102 : decode cX1_measure 102 = .ok (.iinc 5 1, 3) := by decide +kernel
theorem dX1_measure_105 : decode cX1_measure 105 = .ok (.goto (-54), 3) := by decide +kernel
theorem dX1_measure_108 : decode cX1_measure 108 = .ok (.iload 4, 2) := by decide +kernel
theorem dX1_measure_110 : decode cX1_measure 110 = .ok (.istore_n 2, 1) := by decide +kernel
theorem dX1_measure_111 : decode cX1_measure 111 = .ok (.iinc 3 1, 3) := by decide +kernel
theorem dX1_measure_114 : decode cX1_measure 114 = .ok (.goto (-75), 3) := by decide +kernel
theorem dX1_measure_117 : decode cX1_measure 117 = .ok (.return_, 1) := by decide +kernel
theorem dX1_has_0 : decode cX1_has 0 = .ok (.iload_n 0, 1) := by decide +kernel
theorem dX1_has_1 : decode cX1_has 1 = .ok (.iload_n 1, 1) := by decide +kernel
theorem dX1_has_2 : decode cX1_has 2 = .ok (.ishr, 1) := by decide +kernel
theorem dX1_has_3 : decode cX1_has 3 = .ok (.iconst 1, 1) := by decide +kernel
theorem dX1_has_4 : decode cX1_has 4 = .ok (.iand, 1) := by decide +kernel
theorem dX1_has_5 : decode cX1_has 5 = .ok (.iconst 1, 1) := by decide +kernel
theorem dX1_has_6 : decode cX1_has 6 = .ok (.if_icmp .ne 7, 3) := by decide +kernel
theorem dX1_has_9 : decode cX1_has 9 = .ok (.iconst 1, 1) := by decide +kernel
theorem dX1_has_10 : decode cX1_has 10 = .ok (.goto 4, 3) := by decide +kernel
theorem dX1_has_13 : decode cX1_has 13 = .ok (.iconst 0, 1) := by decide +kernel
theorem dX1_has_14 : decode cX1_has 14 = .ok (.ireturn, 1) := by decide +kernel
set_option maxRecDepth 20000 in
theorem ggX2_init_X4_init : GoodIn wsX2_init wsX4_init := goodIn_r _ [17, 18, 2, 3, 19, 20, 21, 22, 23, 24, 25, 26, 27] (by decide +kernel) (by decide +kernel)
set_option maxRecDepth 20000 in
theorem gX2_init_X4_init : GoodIn wsX2_init (wsX4_init) := ggX2_init_X4_init
theorem dX2_init_0 : decode cX2_init 0 = .ok (.aload_n 0, 1) := by decide +kernel
theorem dX2_init_1 : decode cX2_init 1 = .ok (.invokespecial 3, 3) := by decide +kernel
theorem dX2_init_4 : decode cX2_init 4 = .ok (.aload_n 0, 1) := by decide +kernel
theorem dX2_init_5 : decode cX2_init 5 = .ok (.new 9, 3) := by decide +kernel
theorem dX2_init_8 : decode cX2_init 8 = .ok (.dup, 1) := by decide +kernel
theorem dX2_init_9 : decode cX2_init 9 = .ok (.bipush 32, 2) := by decide +kernel
theorem dX2_init_11 : decode cX2_init 11 = .ok (.iconst 3, 1) := by decide +kernel
theorem dX2_init_12 : decode cX2_init 12 = .ok (.iconst 0, 1) := by decide +kernel
theorem dX2_init_13 : decode cX2_init 13 = .ok (.invokespecial 11, 3) := by decide +kernel
theorem dX2_init_16 : decode cX2_init 16 = .ok (.putfield 14, 3) := by decide +kernel
theorem dX2_init_19 : decode cX2_init 19 = .ok (.aload_n 0, 1) := by decide +kernel
theorem dX2_init_20 : decode cX2_init 20 = .ok (.new 9, 3) := by decide +kernel
theorem dX2_init_23 : decode cX2_init 23 = .ok (.dup, 1) := by decide +kernel
theorem dX2_init_24 : decode cX2_init 24 = .ok (.bipush 32, 2) := by decide +kernel
theorem dX2_init_26 : decode cX2_init 26 = .ok (.bipush 53, 2) := by decide +kernel
theorem dX2_init_28 : decode cX2_init 28 = .ok (.iconst (-1), 1) := by decide +kernel
theorem dX2_init_29 : decode cX2_init 29 = .ok (.invokespecial 11, 3) := by decide +kernel
theorem dX2_init_32 : decode cX2_init 32 = .ok (.putfield 20, 3) := by decide +kernel
theorem dX2_init_35 : decode cX2_init 35 = .ok (.aload_n 0, 1) := by decide +kernel
theorem dX2_init_36 : decode cX2_init 36 = .ok (.aload_n 1, 1) := by decide +kernel
theorem dX2_init_37 : decode cX2_init 37 = .ok (.putfield 23, 3) := by decide +kernel
theorem dX2_init_40 : decode cX2_init 40 = .ok (.aload_n 0, 1) := by decide +kernel
theorem dX2_init_41 : decode cX2_init 41 = .ok (.aload_n 2, 1) := by decide +kernel
theorem dX2_init_42 : decode cX2_init 42 = .ok (.putfield 26, 3) := by decide +kernel
theorem dX2_init_45 : decode cX2_init 45 = .ok (.aload_n 0, 1) := by decide +kernel
theorem dX2_init_46 : decode cX2_init 46 = .ok (.aload_n 3, 1) := by decide +kernel
theorem dX2_init_47 : decode cX2_init 47 = .ok (.putfield 29, 3) := by decide +kernel
theorem dX2_init_50 : decode cX2_init 50 = .ok (.aload_n 0, 1) := by decide +kernel
theorem dX2_init_51 : decode cX2_init 51 = .ok (.aload 4, 2) := by decide +kernel
theorem dX2_init_53 : decode cX2_init 53 = .ok (.putfield 32, 3) := by decide +kernel
theorem dX2_init_56 : decode cX2_init 56 = .ok (.aload_n 0, 1) := by decide +kernel
theorem dX2_init_57 : decode cX2_init 57 = .ok (.aload 5, 2) := by decide +kernel
theorem dX2_init_59 : decode cX2_init 59 = .ok (.putfield 36, 3) := by decide +kernel
theorem dX2_init_62 : decode cX2_init 62 = .ok (.aload_n 0, 1) := by decide +kernel
theorem dX2_init_63 : decode cX2_init 63 = .ok (.iload 6, 2) := by decide +kernel
theorem dX2_init_65 : decode cX2_init 65 = .ok (.putfield 40, 3) := by decide +kernel
theorem dX2_init_68 : decode cX2_init 68 = .ok (.return_, 1) := by decide +kernel
set_option maxRecDepth 20000 in
theorem ggX2_start_X4_clear : GoodIn wsX2_start wsX4_clear := goodIn_r _ [8, 9, 10, 11, 12, 189, 190, 191, 192] (by decide +kernel) (by decide +kernel)
set_option maxRecDepth 20000 in
theorem gX2_start_X4_clear : GoodIn wsX2_start (wsV RX2 48 RX4 yX4_clear wsX4_clear) := goodIn_app (goodIn_of _ (by decide +kernel)) ggX2_start_X4_clear
set_option maxRecDepth 20000 in
theorem ggX2_start_X2_look : GoodIn wsX2_start wsX2_look := goodIn_r _ [17, 2, 3, 18, 19, 20, 7, 21, 9, 10, 11, 12, 22, 23, 24, 25, 26, 27, 28, 16, 29, 30, 31, 32, 33, 34, 35, 36, 37, 38, 39, 40, 41, 42, 43, 44, 45, 46, 47, 48, 49, 4, 5, 6, 8, 50, 51, 52, 53, 54, 55, 56, 57, 58, 59, 60, 61, 62, 63, 64, 65, 66, 67, 68, 69, 70, 71, 72, 73, 74, 75, 76, 77, 78, 79, 80, 81, 82, 83, 84, 85, 86, 87, 1, 88, 89, 90, 91, 92, 93, 94, 95, 96, 97, 98, 99, 100, 101, 102, 103, 104, 105, 106, 107, 108, 109, 110, 111, 112, 113, 114, 115, 116, 117, 118, 119, 120, 121, 122, 123, 124, 125, 126, 127, 128, 129, 130, 131, 132, 133, 134, 135, 136, 137, 138, 139, 140, 141, 142, 143, 144, 145, 146, 147, 148, 149, 150, 151, 152, 153, 154, 155, 156, 157, 158, 159, 160, 161, 162, 163, 164, 165, 166, 167, 168, 13, 14, 15, 169, 170, 171, 172, 173, 179, 180, 181, 182, 183, 184, 185, 186, 187, 188, 189, 190, 191, 192, 193, 194, 195, 196, 197, 198, 199] (by decide +kernel) (by decide +kernel)
set_option maxRecDepth 20000 in
theorem gX2_start_X2_look : GoodIn wsX2_start (wsV RX2 52 RX2 yX2_look wsX2_look) := goodIn_app (goodIn_of _ (by decide +kernel)) ggX2_start_X2_look
set_option maxRecDepth 20000 in
theorem ggX2_start_X2_loseKeptFromAway : GoodIn wsX2_start wsX2_loseKeptFromAway := goodIn_r _ [177, 87, 33, 18, 19, 20, 7, 21, 9, 10, 11, 12, 178, 95, 96, 91, 97, 98, 99, 4, 5, 6, 8, 179, 180, 181, 182, 183, 184, 185, 186, 187, 188, 189, 190, 191, 192, 196, 197, 198, 199] (by decide +kernel) (by decide +kernel)
set_option maxRecDepth 20000 in
theorem gX2_start_X2_loseKeptFromAway : GoodIn wsX2_start (wsV RX2 56 RX2 yX2_loseKeptFromAway wsX2_loseKeptFromAway) := goodIn_app (goodIn_of _ (by decide +kernel)) ggX2_start_X2_loseKeptFromAway
theorem dX2_start_0 : decode cX2_start 0 = .ok (.aload_n 0, 1) := by decide +kernel
theorem dX2_start_1 : decode cX2_start 1 = .ok (.iconst 0, 1) := by decide +kernel
theorem dX2_start_2 : decode cX2_start 2 = .ok (.putfield 44, 3) := by decide +kernel
theorem dX2_start_5 : decode cX2_start 5 = .ok (.iconst 0, 1) := by decide +kernel
theorem dX2_start_6 : decode cX2_start 6 = .ok (.istore_n 2, 1) := by decide +kernel
theorem dX2_start_7 : decode cX2_start 7 = .ok (.iload_n 2, 1) := by decide +kernel
theorem dX2_start_8 : decode cX2_start 8 = .ok (.bipush 32, 2) := by decide +kernel
theorem dX2_start_10 : decode cX2_start 10 = .ok (.if_icmp .ge 17, 3) := by decide +kernel
theorem dX2_start_13 : decode cX2_start 13 = .ok (.aload_n 0, 1) := by decide +kernel
theorem dX2_start_14 : decode cX2_start 14 = .ok (.getfield 14, 3) := by decide +kernel
theorem dX2_start_17 : decode cX2_start 17 = .ok (.iload_n 2, 1) := by decide +kernel
theorem dX2_start_18 : decode cX2_start 18 = .ok (.invokevirtual 48, 3) := by decide +kernel
theorem dX2_start_21 : decode cX2_start 21 = .ok (.iinc 2 1, 3) := by decide +kernel
theorem dX2_start_24 : decode cX2_start 24 = .ok (.goto (-17), 3) := by decide +kernel
theorem dX2_start_27 : decode cX2_start 27 = .ok (.aload_n 0, 1) := by decide +kernel
theorem dX2_start_28 : decode cX2_start 28 = .ok (.iload_n 1, 1) := by decide +kernel
theorem dX2_start_29 : decode cX2_start 29 = .ok (.iconst 0, 1) := by decide +kernel
theorem dX2_start_30 : decode cX2_start 30 = .ok (.invokevirtual 52, 3) := by decide +kernel
theorem dX2_start_33 : decode cX2_start 33 = .ok (.istore_n 2, 1) := by decide +kernel
theorem dX2_start_34 : decode cX2_start 34 = .ok (.aload_n 0, 1) := by decide +kernel
theorem dX2_start_35 : decode cX2_start 35 = .ok (.getfield 40, 3) := by decide +kernel
theorem dX2_start_38 : decode cX2_start 38 = .ok (.ifCond .ne 7, 3) := by decide +kernel
theorem dX2_start_41 : decode cX2_start 41 = .ok (.aload_n 0, 1) := by decide +kernel
theorem dX2_start_42 : decode cX2_start 42 = .ok (.invokevirtual 56, 3) := by decide +kernel
theorem dX2_start_45 : decode cX2_start 45 = .ok (.iload_n 2, 1) := by decide +kernel
theorem dX2_start_46 : decode cX2_start 46 = .ok (.ireturn, 1) := by decide +kernel
set_option maxRecDepth 20000 in
theorem ggX2_howMany_X4_get : GoodIn wsX2_howMany wsX4_get := goodIn_r _ [6, 7, 8, 9, 10, 21, 22, 23, 24] (by decide +kernel) (by decide +kernel)
set_option maxRecDepth 20000 in
theorem gX2_howMany_X4_get : GoodIn wsX2_howMany (wsV RX2 59 RX4 yX4_get wsX4_get) := goodIn_app (goodIn_of _ (by decide +kernel)) ggX2_howMany_X4_get
theorem dX2_howMany_0 : decode cX2_howMany 0 = .ok (.iconst 0, 1) := by decide +kernel
theorem dX2_howMany_1 : decode cX2_howMany 1 = .ok (.istore_n 2, 1) := by decide +kernel
theorem dX2_howMany_2 : decode cX2_howMany 2 = .ok (.iconst 0, 1) := by decide +kernel
theorem dX2_howMany_3 : decode cX2_howMany 3 = .ok (.istore_n 3, 1) := by decide +kernel
theorem dX2_howMany_4 : decode cX2_howMany 4 = .ok (.iload_n 3, 1) := by decide +kernel
theorem dX2_howMany_5 : decode cX2_howMany 5 = .ok (.bipush 32, 2) := by decide +kernel
theorem dX2_howMany_7 : decode cX2_howMany 7 = .ok (.if_icmp .ge 25, 3) := by decide +kernel
theorem dX2_howMany_10 : decode cX2_howMany 10 = .ok (.aload_n 0, 1) := by decide +kernel
theorem dX2_howMany_11 : decode cX2_howMany 11 = .ok (.getfield 14, 3) := by decide +kernel
theorem dX2_howMany_14 : decode cX2_howMany 14 = .ok (.iload_n 3, 1) := by decide +kernel
theorem dX2_howMany_15 : decode cX2_howMany 15 = .ok (.iconst 0, 1) := by decide +kernel
theorem dX2_howMany_16 : decode cX2_howMany 16 = .ok (.invokevirtual 59, 3) := by decide +kernel
theorem dX2_howMany_19 : decode cX2_howMany 19 = .ok (.iload_n 1, 1) := by decide +kernel
theorem dX2_howMany_20 : decode cX2_howMany 20 = .ok (.if_icmp .ne 6, 3) := by decide +kernel
theorem dX2_howMany_23 : decode cX2_howMany 23 = .ok (.iinc 2 1, 3) := by decide +kernel
theorem dX2_howMany_26 : decode cX2_howMany 26 = .ok (.iinc 3 1, 3) := by decide +kernel
theorem dX2_howMany_29 : decode cX2_howMany 29 = .ok (.goto (-25), 3) := by decide +kernel
theorem dX2_howMany_32 : decode cX2_howMany 32 = .ok (.iload_n 2, 1) := by decide +kernel
theorem dX2_howMany_33 : decode cX2_howMany 33 = .ok (.ireturn, 1) := by decide +kernel
set_option maxRecDepth 20000 in
theorem ggX2_look_X4_get : GoodIn wsX2_look wsX4_get := goodIn_r _ [7, 8, 9, 10, 11, 183, 184, 185, 186] (by decide +kernel) (by decide +kernel)
set_option maxRecDepth 20000 in
theorem gX2_look_X4_get : GoodIn wsX2_look (wsV RX2 59 RX4 yX4_get wsX4_get) := goodIn_app (goodIn_of _ (by decide +kernel)) ggX2_look_X4_get
set_option maxRecDepth 20000 in
theorem ggX2_look_X4_set : GoodIn wsX2_look wsX4_set := goodIn_r _ [15, 8, 9, 10, 183, 184, 185, 186] (by decide +kernel) (by decide +kernel)
set_option maxRecDepth 20000 in
theorem gX2_look_X4_set : GoodIn wsX2_look (wsV RX2 62 RX4 yX4_set wsX4_set) := goodIn_app (goodIn_of _ (by decide +kernel)) ggX2_look_X4_set
set_option maxRecDepth 20000 in
theorem ggX2_look_X2_answerPlainly : GoodIn wsX2_look wsX2_answerPlainly := goodIn_r _ [148, 34, 35, 36, 19, 30, 31, 32, 33, 1, 12, 13, 14, 6, 15, 8, 9, 10, 102, 103, 104, 105, 26, 106, 107, 108, 109, 110, 3, 4, 5, 7, 11, 111, 112, 113, 114, 50, 51, 52, 53, 115, 116, 117, 118, 23, 24, 25, 27, 28, 29, 37, 38, 39, 40, 41, 42, 43, 44, 45, 46, 47, 48, 49, 54, 55, 56, 57, 58, 59, 60, 61, 62, 63, 64, 65, 66, 67, 68, 69, 70, 71, 72, 73, 74, 75, 76, 77, 78, 79, 80, 81, 82, 83, 84, 85, 86, 87, 88, 89, 90, 91, 92, 93, 94, 95, 96, 97, 98, 99, 100, 101, 119, 120, 121, 122, 123, 124, 125, 126, 127, 128, 129, 130, 131, 132, 133, 134, 135, 136, 137, 138, 139, 140, 141, 142, 143, 144, 145, 146, 147, 149, 150, 151, 152, 0, 2, 16, 17, 18, 20, 21, 22, 153, 154, 155, 156, 157, 158, 159, 160, 161, 162, 163, 164, 165, 166, 167, 168, 169, 170, 171, 172, 173, 174, 175, 176, 177, 178, 179, 180, 181, 182, 183, 184, 185, 186, 187, 188, 189, 190, 191, 192, 193] (by decide +kernel) (by decide +kernel)
set_option maxRecDepth 20000 in
theorem gX2_look_X2_answerPlainly : GoodIn wsX2_look (wsV RX2 65 RX2 yX2_answerPlainly wsX2_answerPlainly) := goodIn_app (goodIn_of _ (by decide +kernel)) ggX2_look_X2_answerPlainly
set_option maxRecDepth 20000 in
theorem ggX2_look_X2_answerByKept : GoodIn wsX2_look wsX2_answerByKept := goodIn_r _ [23, 1, 24, 25, 26, 27, 28, 29, 19, 12, 13, 14, 6, 15, 8, 9, 10, 3, 4, 5, 7, 11, 30, 31, 32, 33, 34, 35, 36, 37, 38, 39, 40, 41, 42, 43, 44, 45, 46, 47, 48, 49, 50, 51, 52, 53, 54, 55, 56, 57, 58, 59, 60, 61, 62, 63, 64, 65, 66, 67, 68, 69, 70, 71, 72, 73, 74, 75, 76, 77, 78, 79, 80, 81, 82, 83, 84, 85, 86, 87, 88, 89, 90, 91, 92, 93, 94, 95, 96, 97, 98, 99, 100, 101, 102, 103, 104, 105, 106, 107, 108, 109, 110, 111, 112, 113, 114, 115, 116, 117, 118, 119, 120, 121, 122, 123, 124, 125, 126, 127, 128, 129, 130, 131, 132, 133, 134, 135, 136, 137, 138, 139, 140, 141, 142, 143, 144, 145, 146, 147, 148, 149, 150, 151, 152, 0, 2, 16, 17, 18, 20, 21, 22, 153, 154, 155, 156, 157, 158, 159, 160, 161, 162, 163, 164, 165, 166, 167, 168, 169, 170, 171, 172, 173, 174, 175, 176, 177, 178, 179, 180, 181, 182, 183, 184, 185, 186, 187, 188, 189, 190, 191, 192, 193] (by decide +kernel) (by decide +kernel)
set_option maxRecDepth 20000 in
theorem gX2_look_X2_answerByKept : GoodIn wsX2_look (wsV RX2 68 RX2 yX2_answerByKept wsX2_answerByKept) := goodIn_app (goodIn_of _ (by decide +kernel)) ggX2_look_X2_answerByKept
theorem dX2_look_0 : decode cX2_look 0 = .ok (.aload_n 0, 1) := by decide +kernel
theorem dX2_look_1 : decode cX2_look 1 = .ok (.getfield 14, 3) := by decide +kernel
theorem dX2_look_4 : decode cX2_look 4 = .ok (.iload_n 1, 1) := by decide +kernel
theorem dX2_look_5 : decode cX2_look 5 = .ok (.iconst 0, 1) := by decide +kernel
theorem dX2_look_6 : decode cX2_look 6 = .ok (.invokevirtual 59, 3) := by decide +kernel
theorem dX2_look_9 : decode cX2_look 9 = .ok (.istore_n 3, 1) := by decide +kernel
theorem dX2_look_10 : decode cX2_look 10 = .ok (.iload_n 3, 1) := by decide +kernel
theorem dX2_look_11 : decode cX2_look 11 = .ok (.iconst 5, 1) := by decide +kernel
theorem dX2_look_12 : decode cX2_look 12 = .ok (.if_icmp .eq 9, 3) := by decide +kernel
theorem dX2_look_15 : decode cX2_look 15 = .ok (.iload_n 2, 1) := by decide +kernel
theorem dX2_look_16 : decode cX2_look 16 = .ok (.bipush 32, 2) := by decide +kernel
theorem dX2_look_18 : decode cX2_look 18 = .ok (.if_icmp .lt 6, 3) := by decide +kernel
theorem dX2_look_21 : decode cX2_look 21 = .ok (.bipush (-4), 2) := by decide +kernel
theorem dX2_look_23 : decode cX2_look 23 = .ok (.ireturn, 1) := by decide +kernel
theorem dX2_look_24 : decode cX2_look 24 = .ok (.iload_n 3, 1) := by decide +kernel
theorem dX2_look_25 : decode cX2_look 25 = .ok (.ifCond .eq 13, 3) := by decide +kernel
theorem dX2_look_28 : decode cX2_look 28 = .ok (.aload_n 0, 1) := by decide +kernel
theorem dX2_look_29 : decode cX2_look 29 = .ok (.getfield 14, 3) := by decide +kernel
theorem dX2_look_32 : decode cX2_look 32 = .ok (.iload_n 1, 1) := by decide +kernel
theorem dX2_look_33 : decode cX2_look 33 = .ok (.iconst 1, 1) := by decide +kernel
theorem dX2_look_34 : decode cX2_look 34 = .ok (.invokevirtual 59, 3) := by decide +kernel
theorem dX2_look_37 : decode cX2_look 37 = .ok (.ireturn, 1) := by decide +kernel
theorem dX2_look_38 : decode cX2_look 38 = .ok (.aload_n 0, 1) := by decide +kernel
theorem dX2_look_39 : decode cX2_look 39 = .ok (.getfield 14, 3) := by decide +kernel
theorem dX2_look_42 : decode cX2_look 42 = .ok (.iload_n 1, 1) := by decide +kernel
theorem dX2_look_43 : decode cX2_look 43 = .ok (.iconst 0, 1) := by decide +kernel
theorem dX2_look_44 : decode cX2_look 44 = .ok (.iconst 5, 1) := by decide +kernel
theorem dX2_look_45 : decode cX2_look 45 = .ok (.invokevirtual 62, 3) := by decide +kernel
theorem dX2_look_48 : decode cX2_look 48 = .ok (.aload_n 0, 1) := by decide +kernel
theorem dX2_look_49 : decode cX2_look 49 = .ok (.getfield 40, 3) := by decide +kernel
theorem dX2_look_52 : decode cX2_look 52 = .ok (.ifCond .eq 12, 3) := by decide +kernel
theorem dX2_look_55 : decode cX2_look 55 = .ok (.aload_n 0, 1) := by decide +kernel
theorem dX2_look_56 : decode cX2_look 56 = .ok (.iload_n 1, 1) := by decide +kernel
theorem dX2_look_57 : decode cX2_look 57 = .ok (.iload_n 2, 1) := by decide +kernel
theorem dX2_look_58 : decode cX2_look 58 = .ok (.invokevirtual 65, 3) := by decide +kernel
theorem dX2_look_61 : decode cX2_look 61 = .ok (.goto 9, 3) := by decide +kernel
theorem dX2_look_64 : decode cX2_look 64 = .ok (.aload_n 0, 1) := by decide +kernel
theorem dX2_look_65 : decode cX2_look 65 = .ok (.iload_n 1, 1) := by decide +kernel
theorem dX2_look_66 : decode cX2_look 66 = .ok (.iload_n 2, 1) := by decide +kernel
theorem dX2_look_67 : decode cX2_look 67 = .ok (.invokevirtual 68, 3) := by decide +kernel
theorem dX2_look_70 : decode cX2_look 70 = .ok (.ireturn, 1) := by decide +kernel
set_option maxRecDepth 20000 in
theorem ggX2_answerPlainly_X2_readInputs : GoodIn wsX2_answerPlainly wsX2_readInputs := goodIn_r _ [154, 22, 155, 55, 56, 57, 13, 58, 15, 16, 17, 32, 83, 84, 85, 86, 78, 29, 30, 31, 87, 11, 12, 14, 28, 10, 156, 157, 158, 4, 24, 25, 26, 27, 33, 34, 35, 36, 45, 9, 46, 47, 48, 49, 50, 5, 6, 7, 8, 1, 2, 3, 51, 52, 53, 54, 59, 60, 61, 62, 63, 37, 38, 39, 40, 64, 65, 66, 67, 68, 69, 70, 71, 72, 73, 74, 75, 76, 77, 79, 80, 81, 82, 88, 89, 90, 91, 92, 93, 94, 95, 96, 97, 98, 99, 100, 101, 102, 103, 104, 105, 106, 107, 108, 109, 110, 111, 18, 19, 20, 21, 23, 41, 42, 43, 44, 112, 113, 114, 115, 116, 117, 118, 119, 120, 121, 122, 123, 124, 125, 126, 127, 128, 129, 130, 131, 132, 133, 134, 135, 136, 137, 138, 139, 140, 0, 141, 142, 143, 144, 145, 146, 147, 148, 149, 150, 151, 152, 153, 159, 160, 161, 162, 163, 164, 165, 166, 167, 168, 169, 170, 171, 172, 173, 174, 175, 176, 177, 178, 179, 180, 181, 182, 183, 184, 185, 186, 187, 188, 189, 190, 191, 192, 193] (by decide +kernel) (by decide +kernel)
set_option maxRecDepth 20000 in
theorem gX2_answerPlainly_X2_readInputs : GoodIn wsX2_answerPlainly (wsV RX2 71 RX2 yX2_readInputs wsX2_readInputs) := goodIn_app (goodIn_of _ (by decide +kernel)) ggX2_answerPlainly_X2_readInputs
set_option maxRecDepth 20000 in
theorem ggX2_answerPlainly_X2_end : GoodIn wsX2_answerPlainly wsX2_end := goodIn_r _ [8, 9, 10, 11, 12, 13, 14, 15, 16, 17, 173, 174, 175, 176, 177, 178, 179, 180, 181, 182, 183, 184, 185, 186] (by decide +kernel) (by decide +kernel)
set_option maxRecDepth 20000 in
theorem gX2_answerPlainly_X2_end : GoodIn wsX2_answerPlainly (wsV RX2 74 RX2 yX2_end wsX2_end) := goodIn_app (goodIn_of _ (by decide +kernel)) ggX2_answerPlainly_X2_end
set_option maxRecDepth 20000 in
theorem ggX2_answerPlainly_X2_resultOf : GoodIn wsX2_answerPlainly wsX2_resultOf := goodIn_r _ [21, 22, 23, 24, 25, 26, 4, 27, 28, 29, 30, 13, 31, 15, 16, 17, 32, 33, 34, 35, 36, 37, 38, 39, 40, 41, 42, 43, 44, 173, 174, 175, 176, 177, 178, 179, 180, 181, 182, 183, 184, 185, 186] (by decide +kernel) (by decide +kernel)
set_option maxRecDepth 20000 in
theorem gX2_answerPlainly_X2_resultOf : GoodIn wsX2_answerPlainly (wsV RX2 78 RX2 yX2_resultOf wsX2_resultOf) := goodIn_app (goodIn_of _ (by decide +kernel)) ggX2_answerPlainly_X2_resultOf
theorem dX2_answerPlainly_0 : decode cX2_answerPlainly 0 = .ok (.aload_n 0, 1) := by decide +kernel
theorem dX2_answerPlainly_1 : decode cX2_answerPlainly 1 = .ok (.iload_n 1, 1) := by decide +kernel
theorem dX2_answerPlainly_2 : decode cX2_answerPlainly 2 = .ok (.iload_n 2, 1) := by decide +kernel
theorem dX2_answerPlainly_3 : decode cX2_answerPlainly 3 = .ok (.invokevirtual 71, 3) := by decide +kernel
theorem dX2_answerPlainly_6 : decode cX2_answerPlainly 6 = .ok (.istore_n 3, 1) := by decide +kernel
theorem dX2_answerPlainly_7 : decode cX2_answerPlainly 7 = .ok (.iload_n 3, 1) := by decide +kernel
theorem dX2_answerPlainly_8 : decode cX2_answerPlainly 8 = .ok (.ifCond .ge 13, 3) := by decide +kernel
theorem dX2_answerPlainly_11 : decode cX2_answerPlainly 11 = .ok (.aload_n 0, 1) := by decide +kernel
theorem dX2_answerPlainly_12 : decode cX2_answerPlainly 12 = .ok (.iload_n 1, 1) := by decide +kernel
theorem dX2_answerPlainly_13 : decode cX2_answerPlainly 13 = .ok (.iconst 4, 1) := by decide +kernel
theorem dX2_answerPlainly_14 : decode cX2_answerPlainly 14 = .ok (.iload_n 3, 1) := by decide +kernel
theorem dX2_answerPlainly_15 : decode cX2_answerPlainly 15 = .ok (.invokevirtual 74, 3) := by decide +kernel
theorem dX2_answerPlainly_18 : decode cX2_answerPlainly 18 = .ok (.goto 14, 3) := by decide +kernel
theorem dX2_answerPlainly_21 : decode cX2_answerPlainly 21 = .ok (.aload_n 0, 1) := by decide +kernel
theorem dX2_answerPlainly_22 : decode cX2_answerPlainly 22 = .ok (.iload_n 1, 1) := by decide +kernel
theorem dX2_answerPlainly_23 : decode cX2_answerPlainly 23 = .ok (.iconst 3, 1) := by decide +kernel
theorem dX2_answerPlainly_24 : decode cX2_answerPlainly 24 = .ok (.aload_n 0, 1) := by decide +kernel
theorem dX2_answerPlainly_25 : decode cX2_answerPlainly 25 = .ok (.iload_n 1, 1) := by decide +kernel
theorem dX2_answerPlainly_26 : decode cX2_answerPlainly 26 = .ok (.invokevirtual 78, 3) := by decide +kernel
theorem dX2_answerPlainly_29 : decode cX2_answerPlainly 29 = .ok (.invokevirtual 74, 3) := by decide +kernel
theorem dX2_answerPlainly_32 : decode cX2_answerPlainly 32 = .ok (.ireturn, 1) := by decide +kernel
set_option maxRecDepth 20000 in
theorem ggX2_answerByKept_X2_whyNotReused : GoodIn wsX2_answerByKept wsX2_whyNotReused := goodIn_r _ [168, 2, 155, 17, 18, 19, 12, 20, 14, 15, 16, 21, 169, 57, 58, 59, 60, 170, 171, 172, 8, 0, 1, 3, 4, 5, 6, 7, 9, 10, 11, 13, 22, 23, 24, 25, 26, 27, 28, 29, 30, 31, 32, 33, 34, 35, 36, 37, 38, 39, 40, 41, 42, 43, 44, 45, 46, 47, 48, 49, 50, 51, 52, 53, 54, 55, 56, 61, 62, 63, 64, 65, 66, 67, 68, 69, 70, 71, 72, 73, 74, 75, 76, 77, 78, 79, 80, 81, 82, 83, 84, 85, 86, 87, 88, 89, 90, 91, 92, 93, 94, 95, 96, 97, 98, 99, 100, 101, 102, 103, 104, 105, 106, 107, 108, 109, 110, 111, 112, 113, 114, 115, 116, 117, 118, 119, 120, 121, 122, 123, 124, 125, 126, 127, 128, 129, 130, 131, 132, 133, 134, 135, 136, 137, 138, 139, 140, 141, 142, 143, 144, 145, 146, 147, 148, 149, 150, 151, 152, 153, 154, 156, 157, 158, 159, 160, 161, 162, 163, 164, 165, 166, 167, 173, 174, 175, 176, 177, 178, 179, 180, 181, 182, 183, 184, 185, 186, 187, 188, 189, 190, 191, 192, 193] (by decide +kernel) (by decide +kernel)
set_option maxRecDepth 20000 in
theorem gX2_answerByKept_X2_whyNotReused : GoodIn wsX2_answerByKept (wsV RX2 82 RX2 yX2_whyNotReused wsX2_whyNotReused) := goodIn_app (goodIn_of _ (by decide +kernel)) ggX2_answerByKept_X2_whyNotReused
set_option maxRecDepth 20000 in
theorem ggX2_answerByKept_X4_set : GoodIn wsX2_answerByKept wsX4_set := goodIn_r _ [13, 14, 15, 16, 183, 184, 185, 186] (by decide +kernel) (by decide +kernel)
set_option maxRecDepth 20000 in
theorem gX2_answerByKept_X4_set : GoodIn wsX2_answerByKept (wsV RX2 62 RX4 yX4_set wsX4_set) := goodIn_app (goodIn_of _ (by decide +kernel)) ggX2_answerByKept_X4_set
set_option maxRecDepth 20000 in
theorem ggX2_answerByKept_X4_get : GoodIn wsX2_answerByKept wsX4_get := goodIn_r _ [20, 14, 15, 16, 21, 183, 184, 185, 186] (by decide +kernel) (by decide +kernel)
set_option maxRecDepth 20000 in
theorem gX2_answerByKept_X4_get : GoodIn wsX2_answerByKept (wsV RX2 59 RX4 yX4_get wsX4_get) := goodIn_app (goodIn_of _ (by decide +kernel)) ggX2_answerByKept_X4_get
set_option maxRecDepth 20000 in
theorem ggX2_answerByKept_X2_end : GoodIn wsX2_answerByKept wsX2_end := goodIn_r _ [25, 1, 9, 10, 11, 12, 13, 14, 15, 16, 173, 174, 175, 176, 177, 178, 179, 180, 181, 182, 183, 184, 185, 186] (by decide +kernel) (by decide +kernel)
set_option maxRecDepth 20000 in
theorem gX2_answerByKept_X2_end : GoodIn wsX2_answerByKept (wsV RX2 74 RX2 yX2_end wsX2_end) := goodIn_app (goodIn_of _ (by decide +kernel)) ggX2_answerByKept_X2_end
set_option maxRecDepth 20000 in
theorem ggX2_answerByKept_X2_readInputs : GoodIn wsX2_answerByKept wsX2_readInputs := goodIn_r _ [154, 4, 155, 33, 34, 35, 12, 36, 14, 15, 16, 21, 65, 66, 67, 68, 60, 18, 19, 20, 69, 10, 11, 13, 17, 9, 156, 157, 158, 8, 99, 100, 101, 102, 103, 104, 105, 106, 0, 1, 2, 3, 5, 6, 7, 22, 23, 24, 25, 26, 27, 28, 29, 30, 31, 32, 37, 38, 39, 40, 41, 42, 43, 44, 45, 46, 47, 48, 49, 50, 51, 52, 53, 54, 55, 56, 57, 58, 59, 61, 62, 63, 64, 70, 71, 72, 73, 74, 75, 76, 77, 78, 79, 80, 81, 82, 83, 84, 85, 86, 87, 88, 89, 90, 91, 92, 93, 94, 95, 96, 97, 98, 107, 108, 109, 110, 111, 112, 113, 114, 115, 116, 117, 118, 119, 120, 121, 122, 123, 124, 125, 126, 127, 128, 129, 130, 131, 132, 133, 134, 135, 136, 137, 138, 139, 140, 141, 142, 143, 144, 145, 146, 147, 148, 149, 150, 151, 152, 153, 159, 160, 161, 162, 163, 164, 165, 166, 167, 168, 169, 170, 171, 172, 173, 174, 175, 176, 177, 178, 179, 180, 181, 182, 183, 184, 185, 186, 187, 188, 189, 190, 191, 192, 193] (by decide +kernel) (by decide +kernel)
set_option maxRecDepth 20000 in
theorem gX2_answerByKept_X2_readInputs : GoodIn wsX2_answerByKept (wsV RX2 71 RX2 yX2_readInputs wsX2_readInputs) := goodIn_app (goodIn_of _ (by decide +kernel)) ggX2_answerByKept_X2_readInputs
set_option maxRecDepth 20000 in
theorem ggX2_answerByKept_X2_fail : GoodIn wsX2_answerByKept wsX2_fail := goodIn_r _ [32, 2, 33, 34, 35, 12, 36, 14, 15, 16, 21, 22, 23, 24, 8, 25, 1, 9, 10, 11, 13, 173, 174, 175, 176, 177, 178, 179, 180, 181, 182, 183, 184, 185, 186] (by decide +kernel) (by decide +kernel)
set_option maxRecDepth 20000 in
theorem gX2_answerByKept_X2_fail : GoodIn wsX2_answerByKept (wsV RX2 85 RX2 yX2_fail wsX2_fail) := goodIn_app (goodIn_of _ (by decide +kernel)) ggX2_answerByKept_X2_fail
set_option maxRecDepth 20000 in
theorem ggX2_answerByKept_X2_noteLeak : GoodIn wsX2_answerByKept wsX2_noteLeak := goodIn_r _ [40, 4, 41, 17, 18, 19, 12, 20, 14, 15, 16, 21, 42, 43, 44, 8, 45, 173, 174, 175, 176, 177, 178, 179, 180, 181, 182, 183, 184, 185, 186] (by decide +kernel) (by decide +kernel)
set_option maxRecDepth 20000 in
theorem gX2_answerByKept_X2_noteLeak : GoodIn wsX2_answerByKept (wsV RX2 88 RX2 yX2_noteLeak wsX2_noteLeak) := goodIn_app (goodIn_of _ (by decide +kernel)) ggX2_answerByKept_X2_noteLeak
set_option maxRecDepth 20000 in
theorem ggX2_answerByKept_X2_isFetched : GoodIn wsX2_answerByKept wsX2_isFetched := goodIn_r _ [49, 3, 4, 50, 51, 52, 53, 54, 55, 56, 57, 58, 12, 59, 60, 18, 19, 20, 14, 15, 16, 21, 33, 34, 35, 36, 17, 9, 10, 11, 13, 173, 174, 175, 176, 177, 178, 179, 180, 181, 182, 187, 188, 189, 183, 184, 185, 186] (by decide +kernel) (by decide +kernel)
set_option maxRecDepth 20000 in
theorem gX2_answerByKept_X2_isFetched : GoodIn wsX2_answerByKept (wsV RX2 91 RX2 yX2_isFetched wsX2_isFetched) := goodIn_app (goodIn_of _ (by decide +kernel)) ggX2_answerByKept_X2_isFetched
set_option maxRecDepth 20000 in
theorem ggX2_answerByKept_X2_keep : GoodIn wsX2_answerByKept wsX2_keep := goodIn_r _ [64, 2, 4, 65, 66, 67, 12, 68, 15, 60, 18, 19, 20, 14, 16, 21, 69, 10, 11, 13, 17, 22, 23, 24, 8, 25, 1, 9, 173, 174, 175, 176, 177, 178, 179, 180, 181, 182, 183, 184, 185, 186] (by decide +kernel) (by decide +kernel)
set_option maxRecDepth 20000 in
theorem gX2_answerByKept_X2_keep : GoodIn wsX2_answerByKept (wsV RX2 95 RX2 yX2_keep wsX2_keep) := goodIn_app (goodIn_of _ (by decide +kernel)) ggX2_answerByKept_X2_keep
set_option maxRecDepth 20000 in
theorem ggX2_answerByKept_X2_runUntilGood : GoodIn wsX2_answerByKept wsX2_runUntilGood := goodIn_r _ [73, 74, 75, 76, 77, 78, 79, 80, 81, 82, 83, 84, 85, 86, 87, 18, 19, 12, 20, 14, 15, 16, 21, 88, 89, 90, 91, 92, 93, 10, 11, 13, 173, 174, 175, 176, 177, 178, 179, 180, 181, 182, 190, 191, 192, 193, 183, 184, 185, 186] (by decide +kernel) (by decide +kernel)
set_option maxRecDepth 20000 in
theorem gX2_answerByKept_X2_runUntilGood : GoodIn wsX2_answerByKept (wsV RX2 98 RX2 yX2_runUntilGood wsX2_runUntilGood) := goodIn_app (goodIn_of _ (by decide +kernel)) ggX2_answerByKept_X2_runUntilGood
set_option maxRecDepth 20000 in
theorem ggX2_answerByKept_X2_resultOf : GoodIn wsX2_answerByKept wsX2_resultOf := goodIn_r _ [97, 4, 98, 99, 100, 101, 8, 102, 17, 18, 19, 12, 20, 14, 15, 16, 21, 103, 104, 105, 106, 42, 43, 44, 45, 107, 108, 109, 110, 173, 174, 175, 176, 177, 178, 179, 180, 181, 182, 183, 184, 185, 186] (by decide +kernel) (by decide +kernel)
set_option maxRecDepth 20000 in
theorem gX2_answerByKept_X2_resultOf : GoodIn wsX2_answerByKept (wsV RX2 78 RX2 yX2_resultOf wsX2_resultOf) := goodIn_app (goodIn_of _ (by decide +kernel)) ggX2_answerByKept_X2_resultOf
set_option maxRecDepth 20000 in
theorem ggX2_answerByKept_X2_tell : GoodIn wsX2_answerByKept wsX2_tell := goodIn_r _ [114, 74, 75, 4, 115, 116, 117, 79, 118, 86, 87, 18, 19, 12, 20, 14, 15, 16, 21, 119, 120, 121, 8, 122, 3, 1, 2, 9, 10, 11, 13, 123, 124, 125, 53, 126, 55, 127, 128, 34, 35, 36, 17, 33, 173, 174, 175, 176, 177, 178, 179, 180, 181, 182, 190, 191, 192, 193, 183, 184, 185, 186, 187, 188, 189] (by decide +kernel) (by decide +kernel)
set_option maxRecDepth 20000 in
theorem gX2_answerByKept_X2_tell : GoodIn wsX2_answerByKept (wsV RX2 101 RX2 yX2_tell wsX2_tell) := goodIn_app (goodIn_of _ (by decide +kernel)) ggX2_answerByKept_X2_tell
set_option maxRecDepth 20000 in
theorem ggX2_answerByKept_X0_add : GoodIn wsX2_answerByKept wsX0_add := goodIn_r _ [132, 55, 133, 134, 135, 136, 53, 137, 127, 18, 19, 12, 20, 14, 15, 16, 21, 138, 66, 67, 68, 60, 69, 10, 11, 13, 139, 187, 188, 189, 183, 184, 185, 186] (by decide +kernel) (by decide +kernel)
set_option maxRecDepth 20000 in
theorem gX2_answerByKept_X0_add : GoodIn wsX2_answerByKept (wsV RX2 104 RX0 yX0_add wsX0_add) := goodIn_app (goodIn_of _ (by decide +kernel)) ggX2_answerByKept_X0_add
theorem dX2_answerByKept_0 : decode cX2_answerByKept 0 = .ok (.aload_n 0, 1) := by decide +kernel
theorem dX2_answerByKept_1 : decode cX2_answerByKept 1 = .ok (.iload_n 1, 1) := by decide +kernel
theorem dX2_answerByKept_2 : decode cX2_answerByKept 2 = .ok (.iload_n 2, 1) := by decide +kernel
theorem dX2_answerByKept_3 : decode cX2_answerByKept 3 = .ok (.invokevirtual 82, 3) := by decide +kernel
theorem dX2_answerByKept_6 : decode cX2_answerByKept 6 = .ok (.istore_n 3, 1) := by decide +kernel
theorem dX2_answerByKept_7 : decode cX2_answerByKept 7 = .ok (.aload_n 0, 1) := by decide +kernel
theorem dX2_answerByKept_8 : decode cX2_answerByKept 8 = .ok (.getfield 14, 3) := by decide +kernel
theorem dX2_answerByKept_11 : decode cX2_answerByKept 11 = .ok (.iload_n 1, 1) := by decide +kernel
theorem dX2_answerByKept_12 : decode cX2_answerByKept 12 = .ok (.iconst 2, 1) := by decide +kernel
theorem dX2_answerByKept_13 : decode cX2_answerByKept 13 = .ok (.iload_n 3, 1) := by decide +kernel
theorem dX2_answerByKept_14 : decode cX2_answerByKept 14 = .ok (.invokevirtual 62, 3) := by decide +kernel
theorem dX2_answerByKept_17 : decode cX2_answerByKept 17 = .ok (.iload_n 3, 1) := by decide +kernel
theorem dX2_answerByKept_18 : decode cX2_answerByKept 18 = .ok (.ifCond .ne 20, 3) := by decide +kernel
theorem dX2_answerByKept_21 : decode cX2_answerByKept 21 = .ok (.aload_n 0, 1) := by decide +kernel
theorem dX2_answerByKept_22 : decode cX2_answerByKept 22 = .ok (.iload_n 1, 1) := by decide +kernel
theorem dX2_answerByKept_23 : decode cX2_answerByKept 23 = .ok (.iconst 1, 1) := by decide +kernel
theorem dX2_answerByKept_24 : decode cX2_answerByKept 24 = .ok (.aload_n 0, 1) := by decide +kernel
theorem dX2_answerByKept_25 : decode cX2_answerByKept 25 = .ok (.getfield 29, 3) := by decide +kernel
theorem dX2_answerByKept_28 : decode cX2_answerByKept 28 = .ok (.iload_n 1, 1) := by decide +kernel
theorem dX2_answerByKept_29 : decode cX2_answerByKept 29 = .ok (.bipush 50, 2) := by decide +kernel
theorem dX2_answerByKept_31 : decode cX2_answerByKept 31 = .ok (.invokevirtual 59, 3) := by decide +kernel
theorem dX2_answerByKept_34 : decode cX2_answerByKept 34 = .ok (.invokevirtual 74, 3) := by decide +kernel
theorem dX2_answerByKept_37 : decode cX2_answerByKept 37 = .ok (.ireturn, 1) := by decide +kernel
theorem dX2_answerByKept_38 : decode cX2_answerByKept 38 = .ok (.aload_n 0, 1) := by decide +kernel
theorem dX2_answerByKept_39 : decode cX2_answerByKept 39 = .ok (.iload_n 1, 1) := by decide +kernel
theorem dX2_answerByKept_40 : decode cX2_answerByKept 40 = .ok (.iload_n 2, 1) := by decide +kernel
theorem dX2_answerByKept_41 : decode cX2_answerByKept 41 = .ok (.invokevirtual 71, 3) := by decide +kernel
theorem dX2_answerByKept_44 : decode cX2_answerByKept 44 = .ok (.istore 4, 2) := by decide +kernel
theorem dX2_answerByKept_46 : decode cX2_answerByKept 46 = .ok (.iload 4, 2) := by decide +kernel
theorem dX2_answerByKept_48 : decode cX2_answerByKept 48 = .ok (.ifCond .ge 11, 3) := by decide +kernel
theorem dX2_answerByKept_51 : decode cX2_answerByKept 51 = .ok (.aload_n 0, 1) := by decide +kernel
theorem dX2_answerByKept_52 : decode cX2_answerByKept 52 = .ok (.iload_n 1, 1) := by decide +kernel
theorem dX2_answerByKept_53 : decode cX2_answerByKept 53 = .ok (.iload 4, 2) := by decide +kernel
theorem dX2_answerByKept_55 : decode cX2_answerByKept 55 = .ok (.invokevirtual 85, 3) := by decide +kernel
theorem dX2_answerByKept_58 : decode cX2_answerByKept 58 = .ok (.ireturn, 1) := by decide +kernel
theorem dX2_answerByKept_59 : decode cX2_answerByKept 59 = .ok (.aload_n 0, 1) := by decide +kernel
theorem dX2_answerByKept_60 : decode cX2_answerByKept 60 = .ok (.iload_n 1, 1) := by decide +kernel
theorem dX2_answerByKept_61 : decode cX2_answerByKept 61 = .ok (.invokevirtual 88, 3) := by decide +kernel
theorem dX2_answerByKept_64 : decode cX2_answerByKept 64 = .ok (.aload_n 0, 1) := by decide +kernel
theorem dX2_answerByKept_65 : decode cX2_answerByKept 65 = .ok (.iload_n 1, 1) := by decide +kernel
theorem dX2_answerByKept_66 : decode cX2_answerByKept 66 = .ok (.invokevirtual 91, 3) := by decide +kernel
theorem dX2_answerByKept_69 : decode cX2_answerByKept 69 = .ok (.ifCond .eq 10, 3) := by decide +kernel
theorem dX2_answerByKept_72 : decode cX2_answerByKept 72 = .ok (.aload_n 0, 1) := by decide +kernel
theorem dX2_answerByKept_73 : decode cX2_answerByKept 73 = .ok (.iload_n 1, 1) := by decide +kernel
theorem dX2_answerByKept_74 : decode cX2_answerByKept 74 = .ok (.iconst 2, 1) := by decide +kernel
theorem dX2_answerByKept_75 : decode cX2_answerByKept 75 = .ok (.invokevirtual 95, 3) := by decide +kernel
theorem dX2_answerByKept_78 : decode cX2_answerByKept 78 = .ok (.ireturn, 1) := by decide +kernel
theorem dX2_answerByKept_79 : decode cX2_answerByKept 79 = .ok (.aload_n 0, 1) := by decide +kernel
theorem dX2_answerByKept_80 : decode cX2_answerByKept 80 = .ok (.iload_n 1, 1) := by decide +kernel
theorem dX2_answerByKept_81 : decode cX2_answerByKept 81 = .ok (.invokevirtual 98, 3) := by decide +kernel
theorem dX2_answerByKept_84 : decode cX2_answerByKept 84 = .ok (.istore 5, 2) := by decide +kernel
theorem dX2_answerByKept_86 : decode cX2_answerByKept 86 = .ok (.iload 5, 2) := by decide +kernel
theorem dX2_answerByKept_88 : decode cX2_answerByKept 88 = .ok (.iconst (-1), 1) := by decide +kernel
theorem dX2_answerByKept_89 : decode cX2_answerByKept 89 = .ok (.if_icmp .ne 11, 3) := by decide +kernel
theorem dX2_answerByKept_92 : decode cX2_answerByKept 92 = .ok (.aload_n 0, 1) := by decide +kernel
theorem dX2_answerByKept_93 : decode cX2_answerByKept 93 = .ok (.iload_n 1, 1) := by decide +kernel
theorem dX2_answerByKept_94 : decode cX2_answerByKept 94 = .ok (.bipush (-5), 2) := by decide +kernel
theorem dX2_answerByKept_96 : decode cX2_answerByKept 96 = .ok (.invokevirtual 85, 3) := by decide +kernel
theorem dX2_answerByKept_99 : decode cX2_answerByKept 99 = .ok (.ireturn, 1) := by decide +kernel
theorem dX2_answerByKept_100 : decode cX2_answerByKept 100 = .ok (.aload_n 0, 1) := by decide +kernel
theorem dX2_answerByKept_101 : decode cX2_answerByKept 101 = .ok (.iload_n 1, 1) := by decide +kernel
theorem dX2_answerByKept_102 : decode cX2_answerByKept 102 = .ok (.iload 5, 2) := by decide +kernel
theorem dX2_answerByKept_104 : decode cX2_answerByKept 104 = .ok (.aload_n 0, 1) := by decide +kernel
theorem dX2_answerByKept_105 : decode cX2_answerByKept 105 = .ok (.iload_n 1, 1) := by decide +kernel
theorem dX2_answerByKept_106 : decode cX2_answerByKept 106 = .ok (.invokevirtual 78, 3) := by decide +kernel
theorem dX2_answerByKept_109 : decode cX2_answerByKept 109 = .ok (.invokevirtual 101, 3) := by decide +kernel
theorem dX2_answerByKept_112 : decode cX2_answerByKept 112 = .ok (.aload_n 0, 1) := by decide +kernel
theorem dX2_answerByKept_113 : decode cX2_answerByKept 113 = .ok (.getfield 32, 3) := by decide +kernel
theorem dX2_answerByKept_116 : decode cX2_answerByKept 116 = .ok (.aload_n 0, 1) := by decide +kernel
theorem dX2_answerByKept_117 : decode cX2_answerByKept 117 = .ok (.getfield 20, 3) := by decide +kernel
theorem dX2_answerByKept_120 : decode cX2_answerByKept 120 = .ok (.iload_n 1, 1) := by decide +kernel
theorem dX2_answerByKept_121 : decode cX2_answerByKept 121 = .ok (.invokevirtual 104, 3) := by decide +kernel
theorem dX2_answerByKept_124 : decode cX2_answerByKept 124 = .ok (.aload_n 0, 1) := by decide +kernel
theorem dX2_answerByKept_125 : decode cX2_answerByKept 125 = .ok (.iload_n 1, 1) := by decide +kernel
theorem dX2_answerByKept_126 : decode cX2_answerByKept 126 = .ok (.iconst 3, 1) := by decide +kernel
theorem dX2_answerByKept_127 : decode cX2_answerByKept 127 = .ok (.invokevirtual 95, 3) := by decide +kernel
theorem dX2_answerByKept_130 : decode cX2_answerByKept 130 = .ok (.ireturn, 1) := by decide +kernel
set_option maxRecDepth 20000 in
theorem ggX2_end_X4_set : GoodIn wsX2_end wsX4_set := goodIn_r _ [6, 7, 8, 9, 20, 21, 22, 23] (by decide +kernel) (by decide +kernel)
set_option maxRecDepth 20000 in
theorem gX2_end_X4_set : GoodIn wsX2_end (wsV RX2 62 RX4 yX4_set wsX4_set) := goodIn_app (goodIn_of _ (by decide +kernel)) ggX2_end_X4_set
theorem dX2_end_0 : decode cX2_end 0 = .ok (.aload_n 0, 1) := by decide +kernel
theorem dX2_end_1 : decode cX2_end 1 = .ok (.getfield 14, 3) := by decide +kernel
theorem dX2_end_4 : decode cX2_end 4 = .ok (.iload_n 1, 1) := by decide +kernel
theorem dX2_end_5 : decode cX2_end 5 = .ok (.iconst 0, 1) := by decide +kernel
theorem dX2_end_6 : decode cX2_end 6 = .ok (.iload_n 2, 1) := by decide +kernel
theorem dX2_end_7 : decode cX2_end 7 = .ok (.invokevirtual 62, 3) := by decide +kernel
theorem dX2_end_10 : decode cX2_end 10 = .ok (.aload_n 0, 1) := by decide +kernel
theorem dX2_end_11 : decode cX2_end 11 = .ok (.getfield 14, 3) := by decide +kernel
theorem dX2_end_14 : decode cX2_end 14 = .ok (.iload_n 1, 1) := by decide +kernel
theorem dX2_end_15 : decode cX2_end 15 = .ok (.iconst 1, 1) := by decide +kernel
theorem dX2_end_16 : decode cX2_end 16 = .ok (.iload_n 3, 1) := by decide +kernel
theorem dX2_end_17 : decode cX2_end 17 = .ok (.invokevirtual 62, 3) := by decide +kernel
theorem dX2_end_20 : decode cX2_end 20 = .ok (.iload_n 3, 1) := by decide +kernel
theorem dX2_end_21 : decode cX2_end 21 = .ok (.ireturn, 1) := by decide +kernel
set_option maxRecDepth 20000 in
theorem ggX2_fail_X4_clear : GoodIn wsX2_fail wsX4_clear := goodIn_r _ [6, 7, 8, 9, 10, 31, 32, 33, 34] (by decide +kernel) (by decide +kernel)
set_option maxRecDepth 20000 in
theorem gX2_fail_X4_clear : GoodIn wsX2_fail (wsV RX2 48 RX4 yX4_clear wsX4_clear) := goodIn_app (goodIn_of _ (by decide +kernel)) ggX2_fail_X4_clear
set_option maxRecDepth 20000 in
theorem ggX2_fail_X2_end : GoodIn wsX2_fail wsX2_end := goodIn_r _ [15, 16, 17, 18, 19, 5, 20, 7, 8, 9, 21, 22, 23, 24, 25, 26, 27, 28, 29, 30, 31, 32, 33, 34] (by decide +kernel) (by decide +kernel)
set_option maxRecDepth 20000 in
theorem gX2_fail_X2_end : GoodIn wsX2_fail (wsV RX2 74 RX2 yX2_end wsX2_end) := goodIn_app (goodIn_of _ (by decide +kernel)) ggX2_fail_X2_end
theorem dX2_fail_0 : decode cX2_fail 0 = .ok (.aload_n 0, 1) := by decide +kernel
theorem dX2_fail_1 : decode cX2_fail 1 = .ok (.getfield 29, 3) := by decide +kernel
theorem dX2_fail_4 : decode cX2_fail 4 = .ok (.iload_n 1, 1) := by decide +kernel
theorem dX2_fail_5 : decode cX2_fail 5 = .ok (.invokevirtual 48, 3) := by decide +kernel
theorem dX2_fail_8 : decode cX2_fail 8 = .ok (.aload_n 0, 1) := by decide +kernel
theorem dX2_fail_9 : decode cX2_fail 9 = .ok (.iload_n 1, 1) := by decide +kernel
theorem dX2_fail_10 : decode cX2_fail 10 = .ok (.iconst 4, 1) := by decide +kernel
theorem dX2_fail_11 : decode cX2_fail 11 = .ok (.iload_n 2, 1) := by decide +kernel
theorem dX2_fail_12 : decode cX2_fail 12 = .ok (.invokevirtual 74, 3) := by decide +kernel
theorem dX2_fail_15 : decode cX2_fail 15 = .ok (.ireturn, 1) := by decide +kernel
set_option maxRecDepth 20000 in
theorem ggX2_keep_X4_copy : GoodIn wsX2_keep wsX4_copy := goodIn_r _ [7, 8, 9, 10, 11, 6, 12, 13, 14, 15, 16, 17, 18, 19, 38, 39, 40, 41] (by decide +kernel) (by decide +kernel)
set_option maxRecDepth 20000 in
theorem gX2_keep_X4_copy : GoodIn wsX2_keep (wsV RX2 110 RX4 yX4_copy wsX4_copy) := goodIn_app (goodIn_of _ (by decide +kernel)) ggX2_keep_X4_copy
set_option maxRecDepth 20000 in
theorem ggX2_keep_X4_get : GoodIn wsX2_keep wsX4_get := goodIn_r _ [12, 13, 8, 14, 15, 38, 39, 40, 41] (by decide +kernel) (by decide +kernel)
set_option maxRecDepth 20000 in
theorem gX2_keep_X4_get : GoodIn wsX2_keep (wsV RX2 59 RX4 yX4_get wsX4_get) := goodIn_app (goodIn_of _ (by decide +kernel)) ggX2_keep_X4_get
set_option maxRecDepth 20000 in
theorem ggX2_keep_X2_end : GoodIn wsX2_keep wsX2_end := goodIn_r _ [25, 26, 27, 17, 18, 6, 19, 13, 8, 14, 28, 29, 30, 31, 32, 33, 34, 35, 36, 37, 38, 39, 40, 41] (by decide +kernel) (by decide +kernel)
set_option maxRecDepth 20000 in
theorem gX2_keep_X2_end : GoodIn wsX2_keep (wsV RX2 74 RX2 yX2_end wsX2_end) := goodIn_app (goodIn_of _ (by decide +kernel)) ggX2_keep_X2_end
theorem dX2_keep_0 : decode cX2_keep 0 = .ok (.aload_n 0, 1) := by decide +kernel
theorem dX2_keep_1 : decode cX2_keep 1 = .ok (.getfield 29, 3) := by decide +kernel
theorem dX2_keep_4 : decode cX2_keep 4 = .ok (.iload_n 1, 1) := by decide +kernel
theorem dX2_keep_5 : decode cX2_keep 5 = .ok (.aload_n 0, 1) := by decide +kernel
theorem dX2_keep_6 : decode cX2_keep 6 = .ok (.getfield 20, 3) := by decide +kernel
theorem dX2_keep_9 : decode cX2_keep 9 = .ok (.iload_n 1, 1) := by decide +kernel
theorem dX2_keep_10 : decode cX2_keep 10 = .ok (.invokevirtual 110, 3) := by decide +kernel
theorem dX2_keep_13 : decode cX2_keep 13 = .ok (.aload_n 0, 1) := by decide +kernel
theorem dX2_keep_14 : decode cX2_keep 14 = .ok (.iload_n 1, 1) := by decide +kernel
theorem dX2_keep_15 : decode cX2_keep 15 = .ok (.iload_n 2, 1) := by decide +kernel
theorem dX2_keep_16 : decode cX2_keep 16 = .ok (.aload_n 0, 1) := by decide +kernel
theorem dX2_keep_17 : decode cX2_keep 17 = .ok (.getfield 29, 3) := by decide +kernel
theorem dX2_keep_20 : decode cX2_keep 20 = .ok (.iload_n 1, 1) := by decide +kernel
theorem dX2_keep_21 : decode cX2_keep 21 = .ok (.bipush 50, 2) := by decide +kernel
theorem dX2_keep_23 : decode cX2_keep 23 = .ok (.invokevirtual 59, 3) := by decide +kernel
theorem dX2_keep_26 : decode cX2_keep 26 = .ok (.invokevirtual 74, 3) := by decide +kernel
theorem dX2_keep_29 : decode cX2_keep 29 = .ok (.ireturn, 1) := by decide +kernel
set_option maxRecDepth 20000 in
theorem ggX2_whyNotReused_X4_get : GoodIn wsX2_whyNotReused wsX4_get := goodIn_r _ [7, 8, 9, 10, 11, 183, 184, 185, 186] (by decide +kernel) (by decide +kernel)
set_option maxRecDepth 20000 in
theorem gX2_whyNotReused_X4_get : GoodIn wsX2_whyNotReused (wsV RX2 59 RX4 yX4_get wsX4_get) := goodIn_app (goodIn_of _ (by decide +kernel)) ggX2_whyNotReused_X4_get
set_option maxRecDepth 20000 in
theorem ggX2_whyNotReused_X4_isSame : GoodIn wsX2_whyNotReused wsX4_isSame := goodIn_r _ [15, 16, 4, 5, 6, 7, 8, 9, 10, 11, 183, 184, 185, 186] (by decide +kernel) (by decide +kernel)
set_option maxRecDepth 20000 in
theorem gX2_whyNotReused_X4_isSame : GoodIn wsX2_whyNotReused (wsV RX2 114 RX4 yX4_isSame wsX4_isSame) := goodIn_app (goodIn_of _ (by decide +kernel)) ggX2_whyNotReused_X4_isSame
set_option maxRecDepth 20000 in
theorem ggX2_whyNotReused_X2_isAsItWas : GoodIn wsX2_whyNotReused wsX2_isAsItWas := goodIn_r _ [147, 1, 104, 3, 4, 5, 6, 7, 8, 9, 10, 11, 148, 149, 150, 20, 21, 22, 23, 24, 25, 26, 27, 28, 29, 30, 31, 32, 33, 34, 35, 36, 37, 38, 39, 40, 41, 42, 43, 44, 45, 46, 47, 48, 49, 50, 51, 52, 53, 54, 55, 56, 57, 58, 59, 60, 61, 62, 63, 64, 65, 66, 13, 14, 15, 16, 67, 68, 69, 70, 71, 72, 73, 74, 75, 76, 77, 78, 79, 80, 81, 82, 83, 84, 85, 86, 87, 88, 89, 90, 91, 92, 93, 94, 95, 96, 97, 98, 99, 100, 101, 102, 103, 105, 106, 107, 108, 109, 110, 111, 112, 113, 114, 115, 116, 117, 118, 119, 120, 121, 122, 123, 124, 125, 126, 127, 128, 129, 130, 131, 132, 133, 134, 135, 136, 137, 138, 139, 140, 141, 142, 143, 144, 145, 146, 151, 152, 153, 154, 155, 156, 157, 158, 159, 160, 2, 161, 162, 163, 164, 165, 166, 167, 168, 169, 170, 171, 172, 0, 12, 17, 18, 19, 173, 174, 175, 176, 177, 178, 179, 180, 181, 182, 183, 184, 185, 186, 187, 188, 189, 190, 191, 192, 193] (by decide +kernel) (by decide +kernel)
set_option maxRecDepth 20000 in
theorem gX2_whyNotReused_X2_isAsItWas : GoodIn wsX2_whyNotReused (wsV RX2 118 RX2 yX2_isAsItWas wsX2_isAsItWas) := goodIn_app (goodIn_of _ (by decide +kernel)) ggX2_whyNotReused_X2_isAsItWas
theorem dX2_whyNotReused_0 : decode cX2_whyNotReused 0 = .ok (.aload_n 0, 1) := by decide +kernel
theorem dX2_whyNotReused_1 : decode cX2_whyNotReused 1 = .ok (.getfield 29, 3) := by decide +kernel
theorem dX2_whyNotReused_4 : decode cX2_whyNotReused 4 = .ok (.iload_n 1, 1) := by decide +kernel
theorem dX2_whyNotReused_5 : decode cX2_whyNotReused 5 = .ok (.iconst 1, 1) := by decide +kernel
theorem dX2_whyNotReused_6 : decode cX2_whyNotReused 6 = .ok (.invokevirtual 59, 3) := by decide +kernel
theorem dX2_whyNotReused_9 : decode cX2_whyNotReused 9 = .ok (.iconst (-1), 1) := by decide +kernel
theorem dX2_whyNotReused_10 : decode cX2_whyNotReused 10 = .ok (.if_icmp .ne 5, 3) := by decide +kernel
theorem dX2_whyNotReused_13 : decode cX2_whyNotReused 13 = .ok (.iconst 1, 1) := by decide +kernel
theorem dX2_whyNotReused_14 : decode cX2_whyNotReused 14 = .ok (.ireturn, 1) := by decide +kernel
theorem dX2_whyNotReused_15 : decode cX2_whyNotReused 15 = .ok (.aload_n 0, 1) := by decide +kernel
theorem dX2_whyNotReused_16 : decode cX2_whyNotReused 16 = .ok (.getfield 29, 3) := by decide +kernel
theorem dX2_whyNotReused_19 : decode cX2_whyNotReused 19 = .ok (.iload_n 1, 1) := by decide +kernel
theorem dX2_whyNotReused_20 : decode cX2_whyNotReused 20 = .ok (.aload_n 0, 1) := by decide +kernel
theorem dX2_whyNotReused_21 : decode cX2_whyNotReused 21 = .ok (.getfield 26, 3) := by decide +kernel
theorem dX2_whyNotReused_24 : decode cX2_whyNotReused 24 = .ok (.iload_n 1, 1) := by decide +kernel
theorem dX2_whyNotReused_25 : decode cX2_whyNotReused 25 = .ok (.iconst 2, 1) := by decide +kernel
theorem dX2_whyNotReused_26 : decode cX2_whyNotReused 26 = .ok (.idiv, 1) := by decide +kernel
theorem dX2_whyNotReused_27 : decode cX2_whyNotReused 27 = .ok (.iconst 0, 1) := by decide +kernel
theorem dX2_whyNotReused_28 : decode cX2_whyNotReused 28 = .ok (.bipush 13, 2) := by decide +kernel
theorem dX2_whyNotReused_30 : decode cX2_whyNotReused 30 = .ok (.invokevirtual 114, 3) := by decide +kernel
theorem dX2_whyNotReused_33 : decode cX2_whyNotReused 33 = .ok (.ifCond .ne 5, 3) := by decide +kernel
theorem dX2_whyNotReused_36 : decode cX2_whyNotReused 36 = .ok (.iconst 2, 1) := by decide +kernel
theorem dX2_whyNotReused_37 : decode cX2_whyNotReused 37 = .ok (.ireturn, 1) := by decide +kernel
theorem dX2_whyNotReused_38 : decode cX2_whyNotReused 38 = .ok (.aload_n 0, 1) := by decide +kernel
theorem dX2_whyNotReused_39 : decode cX2_whyNotReused 39 = .ok (.getfield 29, 3) := by decide +kernel
theorem dX2_whyNotReused_42 : decode cX2_whyNotReused 42 = .ok (.iload_n 1, 1) := by decide +kernel
theorem dX2_whyNotReused_43 : decode cX2_whyNotReused 43 = .ok (.bipush 14, 2) := by decide +kernel
theorem dX2_whyNotReused_45 : decode cX2_whyNotReused 45 = .ok (.invokevirtual 59, 3) := by decide +kernel
theorem dX2_whyNotReused_48 : decode cX2_whyNotReused 48 = .ok (.istore_n 3, 1) := by decide +kernel
theorem dX2_whyNotReused_49 : decode cX2_whyNotReused 49 = .ok (.iconst 0, 1) := by decide +kernel
theorem dX2_whyNotReused_50 : decode cX2_whyNotReused 50 = .ok (.istore 4, 2) := by decide +kernel
theorem dX2_whyNotReused_52 : decode cX2_whyNotReused 52 = .ok (.iload 4, 2) := by decide +kernel
theorem dX2_whyNotReused_54 : decode cX2_whyNotReused 54 = .ok (.iload_n 3, 1) := by decide +kernel
theorem dX2_whyNotReused_55 : decode cX2_whyNotReused 55 = .ok (.if_icmp .ge 38, 3) := by decide +kernel
theorem dX2_whyNotReused_58 : decode cX2_whyNotReused 58 = .ok (.iload 4, 2) := by decide +kernel
theorem dX2_whyNotReused_60 : decode cX2_whyNotReused 60 = .ok (.iconst 5, 1) := by decide +kernel
theorem dX2_whyNotReused_61 : decode cX2_whyNotReused 61 = .ok (.if_icmp .ge 32, 3) := by decide +kernel
theorem dX2_whyNotReused_64 : decode cX2_whyNotReused 64 = .ok (.aload_n 0, 1) := by decide +kernel
theorem dX2_whyNotReused_65 : decode cX2_whyNotReused 65 = .ok (.iload_n 1, 1) := by decide +kernel
theorem dX2_whyNotReused_66 : decode cX2_whyNotReused 66 = .ok (.bipush 15, 2) := by decide +kernel
theorem dX2_whyNotReused_68 : decode cX2_whyNotReused 68 = .ok (.iload 4, 2) := by decide +kernel
theorem dX2_whyNotReused_70 : decode cX2_whyNotReused 70 = .ok (.bipush 7, 2) := by decide +kernel
theorem dX2_whyNotReused_72 : decode cX2_whyNotReused 72 = .ok (.imul, 1) := by decide +kernel
theorem dX2_whyNotReused_73 : decode cX2_whyNotReused 73 = .ok (.iadd, 1) := by decide +kernel
theorem dX2_whyNotReused_74 : decode cX2_whyNotReused 74 = .ok (.iload_n 2, 1) := by decide +kernel
theorem dX2_whyNotReused_75 : decode cX2_whyNotReused 75 = .ok (.invokevirtual 118, 3) := by decide +kernel
theorem dX2_whyNotReused_78 : decode cX2_whyNotReused 78 = .ok (.ifCond .ne 9, 3) := by decide +kernel
theorem dX2_whyNotReused_81 : decode cX2_whyNotReused 81 = .ok (.bipush 10, 2) := by decide +kernel
theorem dX2_whyNotReused_83 : decode cX2_whyNotReused 83 = .ok (.iload 4, 2) := by decide +kernel
theorem dX2_whyNotReused_85 : decode cX2_whyNotReused 85 = .ok (.iadd, 1) := by decide +kernel
theorem dX2_whyNotReused_86 : decode cX2_whyNotReused 86 = .ok (.ireturn, 1) := by decide +kernel
theorem dX2_whyNotReused_87 : decode cX2_whyNotReused 87 = .ok (.iinc 4 1, 3) := by decide +kernel
theorem dX2_whyNotReused_90 : decode cX2_whyNotReused 90 = .ok (.goto (-38), 3) := by decide +kernel
theorem dX2_whyNotReused_93 : decode cX2_whyNotReused 93 = .ok (.iconst 0, 1) := by decide +kernel
theorem dX2_whyNotReused_94 : decode cX2_whyNotReused 94 = .ok (.ireturn, 1) := by decide +kernel
set_option maxRecDepth 20000 in
theorem ggX2_isAsItWas_X4_get : GoodIn wsX2_isAsItWas wsX4_get := goodIn_r _ [7, 8, 9, 10, 11, 183, 184, 185, 186] (by decide +kernel) (by decide +kernel)
set_option maxRecDepth 20000 in
theorem gX2_isAsItWas_X4_get : GoodIn wsX2_isAsItWas (wsV RX2 59 RX4 yX4_get wsX4_get) := goodIn_app (goodIn_of _ (by decide +kernel)) ggX2_isAsItWas_X4_get
set_option maxRecDepth 20000 in
theorem ggX2_isAsItWas_X2_valueNow : GoodIn wsX2_isAsItWas wsX2_valueNow := goodIn_r _ [159, 2, 111, 112, 113, 114, 4, 5, 6, 7, 8, 9, 10, 11, 160, 161, 162, 163, 164, 165, 166, 167, 15, 16, 17, 1, 18, 19, 20, 21, 22, 23, 24, 25, 26, 3, 27, 28, 29, 30, 31, 32, 33, 34, 35, 36, 37, 38, 39, 40, 41, 42, 43, 44, 45, 46, 47, 48, 49, 50, 51, 52, 53, 54, 55, 56, 57, 58, 59, 60, 61, 62, 63, 64, 65, 66, 67, 68, 69, 70, 71, 72, 73, 74, 75, 76, 77, 78, 79, 80, 81, 82, 83, 84, 85, 86, 87, 88, 89, 90, 91, 92, 93, 94, 95, 96, 97, 98, 99, 100, 101, 102, 103, 104, 105, 106, 107, 108, 109, 110, 115, 116, 117, 118, 119, 120, 121, 122, 123, 124, 125, 126, 127, 128, 129, 130, 131, 132, 133, 134, 135, 136, 137, 138, 139, 140, 141, 142, 143, 144, 0, 12, 13, 14, 145, 146, 147, 148, 149, 150, 151, 152, 153, 154, 155, 156, 157, 158, 168, 169, 170, 171, 172, 173, 174, 175, 176, 177, 178, 179, 180, 181, 182, 183, 184, 185, 186, 187, 188, 189, 190, 191, 192, 193] (by decide +kernel) (by decide +kernel)
set_option maxRecDepth 20000 in
theorem gX2_isAsItWas_X2_valueNow : GoodIn wsX2_isAsItWas (wsV RX2 122 RX2 yX2_valueNow wsX2_valueNow) := goodIn_app (goodIn_of _ (by decide +kernel)) ggX2_isAsItWas_X2_valueNow
theorem dX2_isAsItWas_0 : decode cX2_isAsItWas 0 = .ok (.aload_n 0, 1) := by decide +kernel
theorem dX2_isAsItWas_1 : decode cX2_isAsItWas 1 = .ok (.getfield 29, 3) := by decide +kernel
theorem dX2_isAsItWas_4 : decode cX2_isAsItWas 4 = .ok (.iload_n 1, 1) := by decide +kernel
theorem dX2_isAsItWas_5 : decode cX2_isAsItWas 5 = .ok (.iload_n 2, 1) := by decide +kernel
theorem dX2_isAsItWas_6 : decode cX2_isAsItWas 6 = .ok (.iconst 0, 1) := by decide +kernel
theorem dX2_isAsItWas_7 : decode cX2_isAsItWas 7 = .ok (.iadd, 1) := by decide +kernel
theorem dX2_isAsItWas_8 : decode cX2_isAsItWas 8 = .ok (.invokevirtual 59, 3) := by decide +kernel
theorem dX2_isAsItWas_11 : decode cX2_isAsItWas 11 = .ok (.istore 4, 2) := by decide +kernel
theorem dX2_isAsItWas_13 : decode cX2_isAsItWas 13 = .ok (.aload_n 0, 1) := by decide +kernel
theorem dX2_isAsItWas_14 : decode cX2_isAsItWas 14 = .ok (.getfield 29, 3) := by decide +kernel
theorem dX2_isAsItWas_17 : decode cX2_isAsItWas 17 = .ok (.iload_n 1, 1) := by decide +kernel
theorem dX2_isAsItWas_18 : decode cX2_isAsItWas 18 = .ok (.iload_n 2, 1) := by decide +kernel
theorem dX2_isAsItWas_19 : decode cX2_isAsItWas 19 = .ok (.iconst 1, 1) := by decide +kernel
theorem dX2_isAsItWas_20 : decode cX2_isAsItWas 20 = .ok (.iadd, 1) := by decide +kernel
theorem dX2_isAsItWas_21 : decode cX2_isAsItWas 21 = .ok (.invokevirtual 59, 3) := by decide +kernel
theorem dX2_isAsItWas_24 : decode cX2_isAsItWas 24 = .ok (.istore 5, 2) := by decide +kernel
theorem dX2_isAsItWas_26 : decode cX2_isAsItWas 26 = .ok (.iload 4, 2) := by decide +kernel
theorem dX2_isAsItWas_28 : decode cX2_isAsItWas 28 = .ok (.iconst 1, 1) := by decide +kernel
theorem dX2_isAsItWas_29 : decode cX2_isAsItWas 29 = .ok (.if_icmp .eq 33, 3) := by decide +kernel
theorem dX2_isAsItWas_32 : decode cX2_isAsItWas 32 = .ok (.aload_n 0, 1) := by decide +kernel
theorem dX2_isAsItWas_33 : decode cX2_isAsItWas 33 = .ok (.iload_n 1, 1) := by decide +kernel
theorem dX2_isAsItWas_34 : decode cX2_isAsItWas 34 = .ok (.iload 4, 2) := by decide +kernel
theorem dX2_isAsItWas_36 : decode cX2_isAsItWas 36 = .ok (.iload 5, 2) := by decide +kernel
theorem dX2_isAsItWas_38 : decode cX2_isAsItWas 38 = .ok (.iload_n 3, 1) := by decide +kernel
theorem dX2_isAsItWas_39 : decode cX2_isAsItWas 39 = .ok (.invokevirtual 122, 3) := by decide +kernel
theorem dX2_isAsItWas_42 : decode cX2_isAsItWas 42 = .ok (.aload_n 0, 1) := by decide +kernel
theorem dX2_isAsItWas_43 : decode cX2_isAsItWas 43 = .ok (.getfield 29, 3) := by decide +kernel
theorem dX2_isAsItWas_46 : decode cX2_isAsItWas 46 = .ok (.iload_n 1, 1) := by decide +kernel
theorem dX2_isAsItWas_47 : decode cX2_isAsItWas 47 = .ok (.iload_n 2, 1) := by decide +kernel
theorem dX2_isAsItWas_48 : decode cX2_isAsItWas 48 = .ok (.iconst 2, 1) := by decide +kernel
theorem dX2_isAsItWas_49 : decode cX2_isAsItWas 49 = .ok (.iadd, 1) := by decide +kernel
theorem dX2_isAsItWas_50 : decode cX2_isAsItWas 50 = .ok (.invokevirtual 59, 3) := by decide +kernel
theorem dX2_isAsItWas_53 : decode cX2_isAsItWas 53 = .ok (.if_icmp .ne 7, 3) := by decide +kernel
theorem dX2_isAsItWas_56 : decode cX2_isAsItWas 56 = .ok (.iconst 1, 1) := by decide +kernel
theorem dX2_isAsItWas_57 : decode cX2_isAsItWas 57 = .ok (.goto 4, 3) := by decide +kernel
theorem dX2_isAsItWas_60 : decode cX2_isAsItWas 60 = .ok (.iconst 0, 1) := by decide +kernel
theorem dX2_isAsItWas_61 : decode cX2_isAsItWas 61 = .ok (.ireturn, 1) := by decide +kernel
theorem dX2_isAsItWas_62 : decode cX2_isAsItWas 62 = .ok (.iconst 0, 1) := by decide +kernel
theorem dX2_isAsItWas_63 : decode cX2_isAsItWas 63 = .ok (.istore 6, 2) := by decide +kernel
theorem dX2_isAsItWas_65 : decode cX2_isAsItWas 65 = .ok (.iload 6, 2) := by decide +kernel
theorem dX2_isAsItWas_67 : decode cX2_isAsItWas 67 = .ok (.iconst 5, 1) := by decide +kernel
theorem dX2_isAsItWas_68 : decode cX2_isAsItWas 68 = .ok (.if_icmp .ge 39, 3) := by decide +kernel
theorem dX2_isAsItWas_71 : decode cX2_isAsItWas 71 = .ok (.aload_n 0, 1) := by decide +kernel
theorem dX2_isAsItWas_72 : decode cX2_isAsItWas 72 = .ok (.getfield 23, 3) := by decide +kernel
theorem dX2_isAsItWas_75 : decode cX2_isAsItWas 75 = .ok (.iload 5, 2) := by decide +kernel
theorem dX2_isAsItWas_77 : decode cX2_isAsItWas 77 = .ok (.iload 6, 2) := by decide +kernel
theorem dX2_isAsItWas_79 : decode cX2_isAsItWas 79 = .ok (.invokevirtual 59, 3) := by decide +kernel
theorem dX2_isAsItWas_82 : decode cX2_isAsItWas 82 = .ok (.aload_n 0, 1) := by decide +kernel
theorem dX2_isAsItWas_83 : decode cX2_isAsItWas 83 = .ok (.getfield 29, 3) := by decide +kernel
theorem dX2_isAsItWas_86 : decode cX2_isAsItWas 86 = .ok (.iload_n 1, 1) := by decide +kernel
theorem dX2_isAsItWas_87 : decode cX2_isAsItWas 87 = .ok (.iload_n 2, 1) := by decide +kernel
theorem dX2_isAsItWas_88 : decode cX2_isAsItWas 88 = .ok (.iconst 2, 1) := by decide +kernel
theorem dX2_isAsItWas_89 : decode cX2_isAsItWas 89 = .ok (.iadd, 1) := by decide +kernel
theorem dX2_isAsItWas_90 : decode cX2_isAsItWas 90 = .ok (.iload 6, 2) := by decide +kernel
theorem dX2_isAsItWas_92 : decode cX2_isAsItWas 92 = .ok (.iadd, 1) := by decide +kernel
theorem dX2_isAsItWas_93 : decode cX2_isAsItWas 93 = .ok (.invokevirtual 59, 3) := by decide +kernel
theorem dX2_isAsItWas_96 : decode cX2_isAsItWas 96 = .ok (.if_icmp .eq 5, 3) := by decide +kernel
theorem dX2_isAsItWas_99 : decode cX2_isAsItWas 99 = .ok (.iconst 0, 1) := by decide +kernel
theorem dX2_isAsItWas_100 : decode cX2_isAsItWas 100 = .ok (.ireturn, 1) := by decide +kernel
theorem dX2_isAsItWas_101 : decode cX2_isAsItWas 101 = .ok (.iinc 6 1, 3) := by decide +kernel
theorem dX2_isAsItWas_104 : decode cX2_isAsItWas 104 = .ok (.goto (-39), 3) := by decide +kernel
theorem dX2_isAsItWas_107 : decode cX2_isAsItWas 107 = .ok (.iconst 1, 1) := by decide +kernel
theorem dX2_isAsItWas_108 : decode cX2_isAsItWas 108 = .ok (.ireturn, 1) := by decide +kernel
set_option maxRecDepth 20000 in
theorem ggX2_valueNow_X6_contentOf : GoodIn wsX2_valueNow wsX6_contentOf := goodIn_r _ [4, 5, 6, 7, 8, 9, 10, 11, 12, 13, 183, 184, 185, 186] (by decide +kernel) (by decide +kernel)
set_option maxRecDepth 20000 in
theorem gX2_valueNow_X6_contentOf_n126 : GoodIn wsX2_valueNow (wsX6_contentOf) := ggX2_valueNow_X6_contentOf
set_option maxRecDepth 20000 in
theorem ggX2_valueNow_X6_nodeRead : GoodIn wsX2_valueNow wsX6_nodeRead := goodIn_r _ [15, 16, 17, 3, 18] (by decide +kernel) (by decide +kernel)
set_option maxRecDepth 20000 in
theorem gX2_valueNow_X6_nodeRead_n130 : GoodIn wsX2_valueNow (wsX6_nodeRead) := ggX2_valueNow_X6_nodeRead
set_option maxRecDepth 20000 in
theorem ggX2_valueNow_X2_look : GoodIn wsX2_valueNow wsX2_look := goodIn_r _ [154, 24, 155, 35, 6, 7, 8, 9, 10, 11, 12, 13, 31, 32, 33, 34, 156, 157, 158, 22, 159, 160, 161, 23, 25, 26, 27, 28, 29, 30, 36, 37, 38, 39, 40, 41, 42, 43, 44, 45, 46, 47, 48, 49, 50, 51, 52, 53, 54, 55, 56, 57, 58, 59, 60, 61, 62, 63, 64, 65, 66, 67, 68, 69, 70, 71, 72, 73, 74, 75, 76, 77, 78, 79, 80, 81, 82, 83, 84, 85, 86, 87, 88, 89, 90, 91, 92, 93, 94, 95, 96, 97, 98, 99, 100, 101, 102, 103, 104, 105, 106, 107, 108, 109, 110, 111, 1, 112, 113, 114, 115, 116, 117, 118, 119, 2, 3, 4, 5, 120, 121, 122, 123, 124, 125, 126, 127, 128, 129, 130, 131, 132, 133, 134, 135, 136, 137, 138, 139, 140, 141, 142, 143, 144, 145, 146, 147, 148, 149, 150, 151, 152, 153, 162, 163, 164, 165, 166, 167, 0, 14, 15, 16, 17, 18, 19, 20, 21, 168, 169, 170, 171, 172, 173, 174, 175, 176, 177, 178, 179, 180, 181, 182, 183, 184, 185, 186, 187, 188, 189, 190, 191, 192, 193] (by decide +kernel) (by decide +kernel)
set_option maxRecDepth 20000 in
theorem gX2_valueNow_X2_look : GoodIn wsX2_valueNow (wsV RX2 52 RX2 yX2_look wsX2_look) := goodIn_app (goodIn_of _ (by decide +kernel)) ggX2_valueNow_X2_look
theorem dX2_valueNow_0 : decode cX2_valueNow 0 = .ok (.iload_n 2, 1) := by decide +kernel
theorem dX2_valueNow_1 : decode cX2_valueNow 1 = .ok (.ifCond .eq 8, 3) := by decide +kernel
theorem dX2_valueNow_4 : decode cX2_valueNow 4 = .ok (.iload_n 2, 1) := by decide +kernel
theorem dX2_valueNow_5 : decode cX2_valueNow 5 = .ok (.iconst 4, 1) := by decide +kernel
theorem dX2_valueNow_6 : decode cX2_valueNow 6 = .ok (.if_icmp .ne 31, 3) := by decide +kernel
theorem dX2_valueNow_9 : decode cX2_valueNow 9 = .ok (.aload_n 0, 1) := by decide +kernel
theorem dX2_valueNow_10 : decode cX2_valueNow 10 = .ok (.getfield 23, 3) := by decide +kernel
theorem dX2_valueNow_13 : decode cX2_valueNow 13 = .ok (.iload_n 3, 1) := by decide +kernel
theorem dX2_valueNow_14 : decode cX2_valueNow 14 = .ok (.invokestatic 126, 3) := by decide +kernel
theorem dX2_valueNow_17 : decode cX2_valueNow 17 = .ok (.istore 5, 2) := by decide +kernel
theorem dX2_valueNow_19 : decode cX2_valueNow 19 = .ok (.iload 5, 2) := by decide +kernel
theorem dX2_valueNow_21 : decode cX2_valueNow 21 = .ok (.iconst (-1), 1) := by decide +kernel
theorem dX2_valueNow_22 : decode cX2_valueNow 22 = .ok (.if_icmp .ne 12, 3) := by decide +kernel
theorem dX2_valueNow_25 : decode cX2_valueNow 25 = .ok (.iload_n 2, 1) := by decide +kernel
theorem dX2_valueNow_26 : decode cX2_valueNow 26 = .ok (.ifCond .ne 8, 3) := by decide +kernel
theorem dX2_valueNow_29 : decode cX2_valueNow 29 = .ok (.bipush (-3), 2) := by decide +kernel
theorem dX2_valueNow_31 : decode cX2_valueNow 31 = .ok (.goto 5, 3) := by decide +kernel
theorem dX2_valueNow_34 : decode cX2_valueNow 34 = .ok (.iload 5, 2) := by decide +kernel
theorem dX2_valueNow_36 : decode cX2_valueNow 36 = .ok (.ireturn, 1) := by decide +kernel
theorem dX2_valueNow_37 : decode cX2_valueNow 37 = .ok (.aload_n 0, 1) := by decide +kernel
