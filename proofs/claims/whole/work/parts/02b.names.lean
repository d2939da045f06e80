theorem dX1_init_0 : decode cX1_init 0 = .ok (.aload_n 0, 1) := by decide +kernel
theorem dX1_init_1 : decode cX1_init 1 = .ok (.invokespecial 1, 3) := by decide +kernel
theorem dX1_init_4 : decode cX1_init 4 = .ok (.aload_n 0, 1) := by decide +kernel
theorem dX1_init_5 : decode cX1_init 5 = .ok (.new 7, 3) := by decide +kernel
theorem dX1_init_8 : decode cX1_init 8 = .ok (.dup, 1) := by decide +kernel
theorem dX1_init_9 : decode cX1_init 9 = .ok (.iconst 0, 1) := by decide +kernel
theorem dX1_init_10 : decode cX1_init 10 = .ok (.iconst 0, 1) := by decide +kernel
theorem dX1_init_11 : decode cX1_init 11 = .ok (.iconst (-1), 1) := by decide +kernel
theorem dX1_init_12 : decode cX1_init 12 = .ok (.invokespecial 11, 3) := by decide +kernel
theorem dX1_init_15 : decode cX1_init 15 = .ok (.putfield 14, 3) := by decide +kernel
theorem dX1_init_18 : decode cX1_init 18 = .ok (.aload_n 0, 1) := by decide +kernel
theorem dX1_init_19 : decode cX1_init 19 = .ok (.iconst 1, 1) := by decide +kernel
theorem dX1_init_20 : decode cX1_init 20 = .ok (.putfield 18, 3) := by decide +kernel
theorem dX1_init_23 : decode cX1_init 23 = .ok (.return_, 1) := by decide +kernel
theorem dX1_init__0 : decode cX1_init_ 0 = .ok (.aload_n 0, 1) := by decide +kernel
theorem dX1_init__1 : decode cX1_init_ 1 = .ok (.getfield 14, 3) := by decide +kernel
theorem dX1_init__4 : decode cX1_init_ 4 = .ok (.iconst (-1), 1) := by decide +kernel
theorem dX1_init__5 : decode cX1_init_ 5 = .ok (.putfield 22, 3) := by decide +kernel
theorem dX1_init__8 : decode cX1_init_ 8 = .ok (.aload_n 0, 1) := by decide +kernel
theorem dX1_init__9 : decode cX1_init_ 9 = .ok (.getfield 14, 3) := by decide +kernel
theorem dX1_init__12 : decode cX1_init_ 12 = .ok (.iconst 0, 1) := by decide +kernel
theorem dX1_init__13 : decode cX1_init_ 13 = .ok (.putfield 25, 3) := by decide +kernel
theorem dX1_init__16 : decode cX1_init_ 16 = .ok (.aload_n 0, 1) := by decide +kernel
theorem dX1_init__17 : decode cX1_init_ 17 = .ok (.getfield 14, 3) := by decide +kernel
theorem dX1_init__20 : decode cX1_init_ 20 = .ok (.aconst_null, 1) := by decide +kernel
theorem dX1_init__21 : decode cX1_init_ 21 = .ok (.putfield 28, 3) := by decide +kernel
theorem dX1_init__24 : decode cX1_init_ 24 = .ok (.aload_n 0, 1) := by decide +kernel
theorem dX1_init__25 : decode cX1_init_ 25 = .ok (.getfield 14, 3) := by decide +kernel
theorem dX1_init__28 : decode cX1_init_ 28 = .ok (.aconst_null, 1) := by decide +kernel
theorem dX1_init__29 : decode cX1_init_ 29 = .ok (.putfield 31, 3) := by decide +kernel
theorem dX1_init__32 : decode cX1_init_ 32 = .ok (.aload_n 0, 1) := by decide +kernel
theorem dX1_init__33 : decode cX1_init_ 33 = .ok (.iconst 1, 1) := by decide +kernel
theorem dX1_init__34 : decode cX1_init_ 34 = .ok (.putfield 18, 3) := by decide +kernel
theorem dX1_init__37 : decode cX1_init_ 37 = .ok (.return_, 1) := by decide +kernel
set_option maxRecDepth 20000 in
theorem ggX1_insert_X1_isPrefix : GoodIn wsX1_insert wsX1_isPrefix := goodIn_r _ [5, 6, 7, 4, 8] (by decide +kernel) (by decide +kernel)
set_option maxRecDepth 20000 in
theorem gX1_insert_X1_isPrefix : GoodIn wsX1_insert (va_wsS RX1 34 yX1_isPrefix wsX1_isPrefix) := goodIn_app (goodIn_of _ (by decide +kernel)) ggX1_insert_X1_isPrefix
set_option maxRecDepth 20000 in
theorem ggX1_insert_X1_routeAt : GoodIn wsX1_insert wsX1_routeAt := goodIn_r _ [12, 2, 3, 4, 5, 6, 7, 8, 13, 14, 15, 16, 1, 17, 18, 19, 20, 21, 22, 23, 24, 25, 26, 27, 28, 29, 30, 31, 72, 73, 74, 75, 76, 77, 78, 79] (by decide +kernel) (by decide +kernel)
set_option maxRecDepth 20000 in
theorem gX1_insert_X1_routeAt : GoodIn wsX1_insert (wsV RX1 38 RX1 yX1_routeAt wsX1_routeAt) := goodIn_app (goodIn_of _ (by decide +kernel)) ggX1_insert_X1_routeAt
set_option maxRecDepth 20000 in
theorem ggX1_insert_X1_grow : GoodIn wsX1_insert wsX1_grow := goodIn_r _ [35, 1, 17, 18, 19, 20, 21, 22, 23, 24, 25, 26, 27, 36, 37, 38, 39, 7, 4, 8, 40, 41, 42, 43, 44, 45, 46, 47, 48, 49, 50, 51, 31, 52, 53, 54, 55, 56, 57, 58, 59, 60, 61, 62, 63, 64, 65, 66, 67, 68, 6, 69, 70, 71, 78, 79, 72, 73, 74, 75, 76, 77] (by decide +kernel) (by decide +kernel)
set_option maxRecDepth 20000 in
theorem gX1_insert_X1_grow : GoodIn wsX1_insert (wsV RX1 42 RX1 yX1_grow wsX1_grow) := goodIn_app (goodIn_of _ (by decide +kernel)) ggX1_insert_X1_grow
theorem dX1_insert_0 : decode cX1_insert 0 = .ok (.iload_n 1, 1) := by decide +kernel
theorem dX1_insert_1 : decode cX1_insert 1 = .ok (.iload_n 2, 1) := by decide +kernel
theorem dX1_insert_2 : decode cX1_insert 2 = .ok (.invokestatic 34, 3) := by decide +kernel
theorem dX1_insert_5 : decode cX1_insert 5 = .ok (.ifCond .eq 7, 3) := by decide +kernel
theorem dX1_insert_8 : decode cX1_insert 8 = .ok (.iload_n 3, 1) := by decide +kernel
theorem dX1_insert_9 : decode cX1_insert 9 = .ok (.ifCond .ge 5, 3) := by decide +kernel
theorem dX1_insert_12 : decode cX1_insert 12 = .ok (.iconst (-1), 1) := by decide +kernel
theorem dX1_insert_13 : decode cX1_insert 13 = .ok (.ireturn, 1) := by decide +kernel
theorem dX1_insert_14 : decode cX1_insert 14 = .ok (.aload_n 0, 1) := by decide +kernel
theorem dX1_insert_15 : decode cX1_insert 15 = .ok (.iload_n 1, 1) := by decide +kernel
theorem dX1_insert_16 : decode cX1_insert 16 = .ok (.iload_n 2, 1) := by decide +kernel
theorem dX1_insert_17 : decode cX1_insert 17 = .ok (.invokevirtual 38, 3) := by decide +kernel
theorem dX1_insert_20 : decode cX1_insert 20 = .ok (.astore 4, 2) := by decide +kernel
theorem dX1_insert_22 : decode cX1_insert 22 = .ok (.aload 4, 2) := by decide +kernel
theorem dX1_insert_24 : decode cX1_insert 24 = .ok (.ifnull 11, 3) := by decide +kernel
theorem dX1_insert_27 : decode cX1_insert 27 = .ok (.aload 4, 2) := by decide +kernel
theorem dX1_insert_29 : decode cX1_insert 29 = .ok (.iload_n 3, 1) := by decide +kernel
theorem dX1_insert_30 : decode cX1_insert 30 = .ok (.putfield 22, 3) := by decide +kernel
theorem dX1_insert_33 : decode cX1_insert 33 = .ok (.iconst 0, 1) := by decide +kernel
theorem dX1_insert_34 : decode cX1_insert 34 = .ok (.ireturn, 1) := by decide +kernel
theorem dX1_insert_35 : decode cX1_insert 35 = .ok (.aload_n 0, 1) := by decide +kernel
theorem dX1_insert_36 : decode cX1_insert 36 = .ok (.getfield 14, 3) := by decide +kernel
theorem dX1_insert_39 : decode cX1_insert 39 = .ok (.getfield 25, 3) := by decide +kernel
theorem dX1_insert_42 : decode cX1_insert 42 = .ok (.sipush 500, 3) := by decide +kernel
theorem dX1_insert_45 : decode cX1_insert 45 = .ok (.if_icmp .lt 6, 3) := by decide +kernel
theorem dX1_insert_48 : decode cX1_insert 48 = .ok (.bipush (-2), 2) := by decide +kernel
theorem dX1_insert_50 : decode cX1_insert 50 = .ok (.ireturn, 1) := by decide +kernel
theorem dX1_insert_51 : decode cX1_insert 51 = .ok (.aload_n 0, 1) := by decide +kernel
theorem dX1_insert_52 : decode cX1_insert 52 = .ok (.iload_n 1, 1) := by decide +kernel
theorem dX1_insert_53 : decode cX1_insert 53 = .ok (.iload_n 2, 1) := by decide +kernel
theorem dX1_insert_54 : decode cX1_insert 54 = .ok (.iload_n 3, 1) := by decide +kernel
theorem dX1_insert_55 : decode cX1_insert 55 = .ok (.invokevirtual 42, 3) := by decide +kernel
theorem dX1_insert_58 : decode cX1_insert 58 = .ok (.iconst 1, 1) := by decide +kernel
theorem dX1_insert_59 : decode cX1_insert 59 = .ok (.ireturn, 1) := by decide +kernel
set_option maxRecDepth 20000 in
theorem ggX1_remove_X1_routeAt : GoodIn wsX1_remove wsX1_routeAt := goodIn_r _ [5, 6, 7, 4, 8, 9, 10, 11, 12, 13, 14, 15, 16, 17, 18, 19, 20, 21, 22, 23, 24, 25, 26, 27, 28, 29, 30, 31, 44, 45, 46, 47, 48, 49, 50, 51] (by decide +kernel) (by decide +kernel)
set_option maxRecDepth 20000 in
theorem gX1_remove_X1_routeAt : GoodIn wsX1_remove (wsV RX1 38 RX1 yX1_routeAt wsX1_routeAt) := goodIn_app (goodIn_of _ (by decide +kernel)) ggX1_remove_X1_routeAt
set_option maxRecDepth 20000 in
theorem ggX1_remove_X1_cut : GoodIn wsX1_remove wsX1_cut := goodIn_r _ [35, 16, 17, 18, 19, 20, 21, 22, 23, 24, 25, 26, 27, 36, 37, 38, 4, 39, 40, 28, 29, 30, 31, 41, 42, 43, 50, 51, 44, 45, 46, 47, 48, 49] (by decide +kernel) (by decide +kernel)
set_option maxRecDepth 20000 in
theorem gX1_remove_X1_cut : GoodIn wsX1_remove (wsV RX1 45 RX1 yX1_cut wsX1_cut) := goodIn_app (goodIn_of _ (by decide +kernel)) ggX1_remove_X1_cut
theorem dX1_remove_0 : decode cX1_remove 0 = .ok (.aload_n 0, 1) := by decide +kernel
theorem dX1_remove_1 : decode cX1_remove 1 = .ok (.iload_n 1, 1) := by decide +kernel
theorem dX1_remove_2 : decode cX1_remove 2 = .ok (.iload_n 2, 1) := by decide +kernel
theorem dX1_remove_3 : decode cX1_remove 3 = .ok (.invokevirtual 38, 3) := by decide +kernel
theorem dX1_remove_6 : decode cX1_remove 6 = .ok (.astore_n 3, 1) := by decide +kernel
theorem dX1_remove_7 : decode cX1_remove 7 = .ok (.aload_n 3, 1) := by decide +kernel
theorem dX1_remove_8 : decode cX1_remove 8 = .ok (.ifnonnull 5, 3) := by decide +kernel
theorem dX1_remove_11 : decode cX1_remove 11 = .ok (.iconst 0, 1) := by decide +kernel
theorem dX1_remove_12 : decode cX1_remove 12 = .ok (.ireturn, 1) := by decide +kernel
theorem dX1_remove_13 : decode cX1_remove 13 = .ok (.aload_n 0, 1) := by decide +kernel
theorem dX1_remove_14 : decode cX1_remove 14 = .ok (.aload_n 3, 1) := by decide +kernel
theorem dX1_remove_15 : decode cX1_remove 15 = .ok (.invokevirtual 45, 3) := by decide +kernel
theorem dX1_remove_18 : decode cX1_remove 18 = .ok (.iconst 1, 1) := by decide +kernel
theorem dX1_remove_19 : decode cX1_remove 19 = .ok (.ireturn, 1) := by decide +kernel
set_option maxRecDepth 20000 in
theorem ggX1_lookup_X1_longestRoute : GoodIn wsX1_lookup wsX1_longestRoute := goodIn_r _ [5, 6, 7, 8, 9, 10, 11, 12, 13, 4, 14, 15, 16, 17, 18, 19, 20, 21, 22, 23, 24, 25, 26, 27, 34, 35, 28, 29, 30, 31, 32, 33] (by decide +kernel) (by decide +kernel)
set_option maxRecDepth 20000 in
theorem gX1_lookup_X1_longestRoute : GoodIn wsX1_lookup (wsV RX1 49 RX1 yX1_longestRoute wsX1_longestRoute) := goodIn_app (goodIn_of _ (by decide +kernel)) ggX1_lookup_X1_longestRoute
theorem dX1_lookup_0 : decode cX1_lookup 0 = .ok (.aload_n 0, 1) := by decide +kernel
theorem dX1_lookup_1 : decode cX1_lookup 1 = .ok (.iload_n 1, 1) := by decide +kernel
theorem dX1_lookup_2 : decode cX1_lookup 2 = .ok (.invokevirtual 49, 3) := by decide +kernel
theorem dX1_lookup_5 : decode cX1_lookup 5 = .ok (.astore_n 2, 1) := by decide +kernel
theorem dX1_lookup_6 : decode cX1_lookup 6 = .ok (.aload_n 2, 1) := by decide +kernel
theorem dX1_lookup_7 : decode cX1_lookup 7 = .ok (.ifnonnull 7, 3) := by decide +kernel
theorem dX1_lookup_10 : decode cX1_lookup 10 = .ok (.iconst (-1), 1) := by decide +kernel
theorem dX1_lookup_11 : decode cX1_lookup 11 = .ok (.goto 7, 3) := by decide +kernel
theorem dX1_lookup_14 : decode cX1_lookup 14 = .ok (.aload_n 2, 1) := by decide +kernel
theorem dX1_lookup_15 : decode cX1_lookup 15 = .ok (.getfield 22, 3) := by decide +kernel
theorem dX1_lookup_18 : decode cX1_lookup 18 = .ok (.ireturn, 1) := by decide +kernel
set_option maxRecDepth 20000 in
theorem ggX1_lookupLen_X1_longestRoute : GoodIn wsX1_lookupLen wsX1_longestRoute := goodIn_r _ [5, 6, 7, 8, 9, 10, 11, 12, 13, 4, 14, 15, 16, 17, 18, 19, 20, 21, 22, 23, 24, 25, 26, 27, 34, 35, 28, 29, 30, 31, 32, 33] (by decide +kernel) (by decide +kernel)
set_option maxRecDepth 20000 in
theorem gX1_lookupLen_X1_longestRoute : GoodIn wsX1_lookupLen (wsV RX1 49 RX1 yX1_longestRoute wsX1_longestRoute) := goodIn_app (goodIn_of _ (by decide +kernel)) ggX1_lookupLen_X1_longestRoute
theorem dX1_lookupLen_0 : decode cX1_lookupLen 0 = .ok (.aload_n 0, 1) := by decide +kernel
theorem dX1_lookupLen_1 : decode cX1_lookupLen 1 = .ok (.iload_n 1, 1) := by decide +kernel
theorem dX1_lookupLen_2 : decode cX1_lookupLen 2 = .ok (.invokevirtual 49, 3) := by decide +kernel
theorem dX1_lookupLen_5 : decode cX1_lookupLen 5 = .ok (.astore_n 2, 1) := by decide +kernel
theorem dX1_lookupLen_6 : decode cX1_lookupLen 6 = .ok (.aload_n 2, 1) := by decide +kernel
theorem dX1_lookupLen_7 : decode cX1_lookupLen 7 = .ok (.ifnonnull 7, 3) := by decide +kernel
theorem dX1_lookupLen_10 : decode cX1_lookupLen 10 = .ok (.iconst (-1), 1) := by decide +kernel
theorem dX1_lookupLen_11 : decode cX1_lookupLen 11 = .ok (.goto 7, 3) := by decide +kernel
theorem dX1_lookupLen_14 : decode cX1_lookupLen 14 = .ok (.aload_n 2, 1) := by decide +kernel
theorem dX1_lookupLen_15 : decode cX1_lookupLen 15 = .ok (.getfield 53, 3) := by decide +kernel
theorem dX1_lookupLen_18 : decode cX1_lookupLen 18 = .ok (.ireturn, 1) := by decide +kernel
set_option maxRecDepth 20000 in
theorem ggX1_exact_X1_routeAt : GoodIn wsX1_exact wsX1_routeAt := goodIn_r _ [5, 6, 7, 4, 8, 9, 10, 11, 12, 13, 14, 15, 16, 17, 18, 19, 20, 21, 22, 23, 24, 25, 26, 27, 28, 29, 30, 31, 32, 33, 34, 35, 36, 37, 38, 39] (by decide +kernel) (by decide +kernel)
set_option maxRecDepth 20000 in
theorem gX1_exact_X1_routeAt : GoodIn wsX1_exact (wsV RX1 38 RX1 yX1_routeAt wsX1_routeAt) := goodIn_app (goodIn_of _ (by decide +kernel)) ggX1_exact_X1_routeAt
theorem dX1_exact_0 : decode cX1_exact 0 = .ok (.aload_n 0, 1) := by decide +kernel
theorem dX1_exact_1 : decode cX1_exact 1 = .ok (.iload_n 1, 1) := by decide +kernel
theorem dX1_exact_2 : decode cX1_exact 2 = .ok (.iload_n 2, 1) := by decide +kernel
theorem dX1_exact_3 : decode cX1_exact 3 = .ok (.invokevirtual 38, 3) := by decide +kernel
theorem dX1_exact_6 : decode cX1_exact 6 = .ok (.astore_n 3, 1) := by decide +kernel
theorem dX1_exact_7 : decode cX1_exact 7 = .ok (.aload_n 3, 1) := by decide +kernel
theorem dX1_exact_8 : decode cX1_exact 8 = .ok (.ifnonnull 7, 3) := by decide +kernel
theorem dX1_exact_11 : decode cX1_exact 11 = .ok (.iconst (-1), 1) := by decide +kernel
theorem dX1_exact_12 : decode cX1_exact 12 = .ok (.goto 7, 3) := by decide +kernel
theorem dX1_exact_15 : decode cX1_exact 15 = .ok (.aload_n 3, 1) := by decide +kernel
theorem dX1_exact_16 : decode cX1_exact 16 = .ok (.getfield 22, 3) := by decide +kernel
theorem dX1_exact_19 : decode cX1_exact 19 = .ok (.ireturn, 1) := by decide +kernel
set_option maxRecDepth 20000 in
theorem ggX1_under_X1_isPrefix : GoodIn wsX1_under wsX1_isPrefix := goodIn_r _ [4, 5, 6, 3, 7] (by decide +kernel) (by decide +kernel)
set_option maxRecDepth 20000 in
theorem gX1_under_X1_isPrefix : GoodIn wsX1_under (va_wsS RX1 34 yX1_isPrefix wsX1_isPrefix) := goodIn_app (goodIn_of _ (by decide +kernel)) ggX1_under_X1_isPrefix
set_option maxRecDepth 20000 in
theorem ggX1_under_X1_topmost : GoodIn wsX1_under wsX1_topmost := goodIn_r _ [11, 12, 13, 14, 15, 16, 17, 18, 19, 20, 21, 22, 23, 5, 6, 3, 7, 30, 31, 24, 25, 26, 27, 28, 29] (by decide +kernel) (by decide +kernel)
set_option maxRecDepth 20000 in
theorem gX1_under_X1_topmost : GoodIn wsX1_under (wsV RX1 56 RX1 yX1_topmost wsX1_topmost) := goodIn_app (goodIn_of _ (by decide +kernel)) ggX1_under_X1_topmost
theorem dX1_under_0 : decode cX1_under 0 = .ok (.iload_n 1, 1) := by decide +kernel
theorem dX1_under_1 : decode cX1_under 1 = .ok (.iload_n 2, 1) := by decide +kernel
theorem dX1_under_2 : decode cX1_under 2 = .ok (.invokestatic 34, 3) := by decide +kernel
theorem dX1_under_5 : decode cX1_under 5 = .ok (.ifCond .ne 5, 3) := by decide +kernel
theorem dX1_under_8 : decode cX1_under 8 = .ok (.iconst (-1), 1) := by decide +kernel
theorem dX1_under_9 : decode cX1_under 9 = .ok (.ireturn, 1) := by decide +kernel
theorem dX1_under_10 : decode cX1_under 10 = .ok (.aload_n 0, 1) := by decide +kernel
theorem dX1_under_11 : decode cX1_under 11 = .ok (.iload_n 1, 1) := by decide +kernel
theorem dX1_under_12 : decode cX1_under 12 = .ok (.iload_n 2, 1) := by decide +kernel
theorem dX1_under_13 : decode cX1_under 13 = .ok (.invokevirtual 56, 3) := by decide +kernel
theorem dX1_under_16 : decode cX1_under 16 = .ok (.astore_n 3, 1) := by decide +kernel
theorem dX1_under_17 : decode cX1_under 17 = .ok (.aload_n 3, 1) := by decide +kernel
theorem dX1_under_18 : decode cX1_under 18 = .ok (.ifnonnull 7, 3) := by decide +kernel
theorem dX1_under_21 : decode cX1_under 21 = .ok (.iconst 0, 1) := by decide +kernel
theorem dX1_under_22 : decode cX1_under 22 = .ok (.goto 7, 3) := by decide +kernel
theorem dX1_under_25 : decode cX1_under 25 = .ok (.aload_n 3, 1) := by decide +kernel
theorem dX1_under_26 : decode cX1_under 26 = .ok (.getfield 25, 3) := by decide +kernel
theorem dX1_under_29 : decode cX1_under 29 = .ok (.ireturn, 1) := by decide +kernel
set_option maxRecDepth 20000 in
theorem ggX1_route_X1_inOrder : GoodIn wsX1_route wsX1_inOrder := goodIn_r _ [5, 6, 7, 8, 9, 10, 11, 18, 19, 12, 13, 14, 15, 16, 17] (by decide +kernel) (by decide +kernel)
set_option maxRecDepth 20000 in
theorem gX1_route_X1_inOrder : GoodIn wsX1_route (wsV RX1 59 RX1 yX1_inOrder wsX1_inOrder) := goodIn_app (goodIn_of _ (by decide +kernel)) ggX1_route_X1_inOrder
theorem dX1_route_0 : decode cX1_route 0 = .ok (.aload_n 0, 1) := by decide +kernel
theorem dX1_route_1 : decode cX1_route 1 = .ok (.iload_n 1, 1) := by decide +kernel
theorem dX1_route_2 : decode cX1_route 2 = .ok (.invokevirtual 59, 3) := by decide +kernel
theorem dX1_route_5 : decode cX1_route 5 = .ok (.astore_n 3, 1) := by decide +kernel
theorem dX1_route_6 : decode cX1_route 6 = .ok (.aload_n 3, 1) := by decide +kernel
theorem dX1_route_7 : decode cX1_route 7 = .ok (.ifnonnull 5, 3) := by decide +kernel
theorem dX1_route_10 : decode cX1_route 10 = .ok (.iconst 0, 1) := by decide +kernel
theorem dX1_route_11 : decode cX1_route 11 = .ok (.ireturn, 1) := by decide +kernel
theorem dX1_route_12 : decode cX1_route 12 = .ok (.iload_n 2, 1) := by decide +kernel
theorem dX1_route_13 : decode cX1_route 13 = .ok (.tableswitch 42 0 2 #[27, 32, 37], 27) := by decide +kernel
theorem dX1_route_40 : decode cX1_route 40 = .ok (.aload_n 3, 1) := by decide +kernel
theorem dX1_route_41 : decode cX1_route 41 = .ok (.getfield 62, 3) := by decide +kernel
theorem dX1_route_44 : decode cX1_route 44 = .ok (.ireturn, 1) := by decide +kernel
theorem dX1_route_45 : decode cX1_route 45 = .ok (.aload_n 3, 1) := by decide +kernel
theorem dX1_route_46 : decode cX1_route 46 = .ok (.getfield 53, 3) := by decide +kernel
theorem dX1_route_49 : decode cX1_route 49 = .ok (.ireturn, 1) := by decide +kernel
theorem dX1_route_50 : decode cX1_route 50 = .ok (.aload_n 3, 1) := by decide +kernel
theorem dX1_route_51 : decode cX1_route 51 = .ok (.getfield 22, 3) := by decide +kernel
theorem dX1_route_54 : decode cX1_route 54 = .ok (.ireturn, 1) := by decide +kernel
theorem dX1_route_55 : decode cX1_route 55 = .ok (.iconst 0, 1) := by decide +kernel
theorem dX1_route_56 : decode cX1_route 56 = .ok (.ireturn, 1) := by decide +kernel
theorem dX1_count_0 : decode cX1_count 0 = .ok (.aload_n 0, 1) := by decide +kernel
theorem dX1_count_1 : decode cX1_count 1 = .ok (.getfield 14, 3) := by decide +kernel
theorem dX1_count_4 : decode cX1_count 4 = .ok (.getfield 25, 3) := by decide +kernel
theorem dX1_count_7 : decode cX1_count 7 = .ok (.ireturn, 1) := by decide +kernel
theorem dX1_nodes_0 : decode cX1_nodes 0 = .ok (.aload_n 0, 1) := by decide +kernel
theorem dX1_nodes_1 : decode cX1_nodes 1 = .ok (.getfield 18, 3) := by decide +kernel
theorem dX1_nodes_4 : decode cX1_nodes 4 = .ok (.ireturn, 1) := by decide +kernel
set_option maxRecDepth 20000 in
theorem ggX1_depth_X0_isBeginOf : GoodIn wsX1_depth wsX0_isBeginOf := goodIn_r _ [5, 6, 7, 8, 9, 10, 22, 23, 24, 25, 26, 27] (by decide +kernel) (by decide +kernel)
set_option maxRecDepth 20000 in
theorem gX1_depth_X0_isBeginOf_n65 : GoodIn wsX1_depth (wsX0_isBeginOf) := ggX1_depth_X0_isBeginOf
set_option maxRecDepth 20000 in
theorem ggX1_depth_X0_toward : GoodIn wsX1_depth wsX0_toward := goodIn_r _ [13, 14, 15, 16, 17, 18, 3, 19, 6, 22, 23, 24, 25, 26, 27] (by decide +kernel) (by decide +kernel)
set_option maxRecDepth 20000 in
theorem gX1_depth_X0_toward_n69 : GoodIn wsX1_depth (wsX0_toward) := ggX1_depth_X0_toward
theorem dX1_depth_0 : decode cX1_depth 0 = .ok (.iconst 0, 1) := by decide +kernel
theorem dX1_depth_1 : decode cX1_depth 1 = .ok (.istore_n 2, 1) := by decide +kernel
theorem dX1_depth_2 : decode cX1_depth 2 = .ok (.aload_n 0, 1) := by decide +kernel
theorem dX1_depth_3 : decode cX1_depth 3 = .ok (.getfield 14, 3) := by decide +kernel
theorem dX1_depth_6 : decode cX1_depth 6 = .ok (.astore_n 3, 1) := by decide +kernel
theorem dX1_depth_7 : decode cX1_depth 7 = .ok (.aload_n 3, 1) := by decide +kernel
theorem dX1_depth_8 : decode cX1_depth 8 = .ok (.ifnull 23, 3) := by decide +kernel
theorem dX1_depth_11 : decode cX1_depth 11 = .ok (.aload_n 3, 1) := by decide +kernel
theorem dX1_depth_12 : decode cX1_depth 12 = .ok (.iload_n 1, 1) := by decide +kernel
theorem dX1_depth_13 : decode cX1_depth 13 = .ok (.invokevirtual 65, 3) := by decide +kernel
theorem dX1_depth_16 : decode cX1_depth 16 = .ok (.ifCond .eq 15, 3) := by decide +kernel
theorem dX1_depth_19 : decode cX1_depth 19 = .ok (.iinc 2 1, 3) := by decide +kernel
theorem dX1_depth_22 : decode cX1_depth 22 = .ok (.aload_n 3, 1) := by decide +kernel
theorem dX1_depth_23 : decode cX1_depth 23 = .ok (.iload_n 1, 1) := by decide +kernel
theorem dX1_depth_24 : decode cX1_depth 24 = .ok (.invokevirtual 69, 3) := by decide +kernel
theorem dX1_depth_27 : decode cX1_depth 27 = .ok (.astore_n 3, 1) := by decide +kernel
theorem dX1_depth_28 : decode cX1_depth 28 = .ok (.goto (-21), 3) := by decide +kernel
theorem dX1_depth_31 : decode cX1_depth 31 = .ok (.iload_n 2, 1) := by decide +kernel
theorem dX1_depth_32 : decode cX1_depth 32 = .ok (.ireturn, 1) := by decide +kernel
set_option maxRecDepth 20000 in
theorem ggX1_isPrefix_X1_firstBits : GoodIn wsX1_isPrefix wsX1_firstBits := goodIn_r _ [4] (by decide +kernel) (by decide +kernel)
set_option maxRecDepth 20000 in
theorem gX1_isPrefix_X1_firstBits : GoodIn wsX1_isPrefix (va_wsS RX1 72 yX1_firstBits wsX1_firstBits) := goodIn_app (goodIn_of _ (by decide +kernel)) ggX1_isPrefix_X1_firstBits
theorem dX1_isPrefix_0 : decode cX1_isPrefix 0 = .ok (.iload_n 1, 1) := by decide +kernel
theorem dX1_isPrefix_1 : decode cX1_isPrefix 1 = .ok (.ifCond .lt 22, 3) := by decide +kernel
theorem dX1_isPrefix_4 : decode cX1_isPrefix 4 = .ok (.iload_n 1, 1) := by decide +kernel
theorem dX1_isPrefix_5 : decode cX1_isPrefix 5 = .ok (.bipush 32, 2) := by decide +kernel
theorem dX1_isPrefix_7 : decode cX1_isPrefix 7 = .ok (.if_icmp .gt 16, 3) := by decide +kernel
theorem dX1_isPrefix_10 : decode cX1_isPrefix 10 = .ok (.iload_n 0, 1) := by decide +kernel
theorem dX1_isPrefix_11 : decode cX1_isPrefix 11 = .ok (.iload_n 1, 1) := by decide +kernel
theorem dX1_isPrefix_12 : decode cX1_isPrefix 12 = .ok (.invokestatic 72, 3) := by decide +kernel
theorem dX1_isPrefix_15 : decode cX1_isPrefix 15 = .ok (.iload_n 0, 1) := by decide +kernel
theorem dX1_isPrefix_16 : decode cX1_isPrefix 16 = .ok (.if_icmp .ne 7, 3) := by decide +kernel
theorem dX1_isPrefix_19 : decode cX1_isPrefix 19 = .ok (.iconst 1, 1) := by decide +kernel
theorem dX1_isPrefix_20 : decode cX1_isPrefix 20 = .ok (.goto 4, 3) := by decide +kernel
theorem dX1_isPrefix_23 : decode cX1_isPrefix 23 = .ok (.iconst 0, 1) := by decide +kernel
theorem dX1_isPrefix_24 : decode cX1_isPrefix 24 = .ok (.ireturn, 1) := by decide +kernel
theorem dX1_firstBits_0 : decode cX1_firstBits 0 = .ok (.iload_n 1, 1) := by decide +kernel
theorem dX1_firstBits_1 : decode cX1_firstBits 1 = .ok (.ifCond .ne 7, 3) := by decide +kernel
theorem dX1_firstBits_4 : decode cX1_firstBits 4 = .ok (.iconst 0, 1) := by decide +kernel
theorem dX1_firstBits_5 : decode cX1_firstBits 5 = .ok (.goto 11, 3) := by decide +kernel
theorem dX1_firstBits_8 : decode cX1_firstBits 8 = .ok (.iload_n 0, 1) := by decide +kernel
theorem dX1_firstBits_9 : decode cX1_firstBits 9 = .ok (.iconst (-1), 1) := by decide +kernel
theorem dX1_firstBits_10 : decode cX1_firstBits 10 = .ok (.bipush 32, 2) := by decide +kernel
theorem dX1_firstBits_12 : decode cX1_firstBits 12 = .ok (.iload_n 1, 1) := by decide +kernel
theorem dX1_firstBits_13 : decode cX1_firstBits 13 = .ok (.isub, 1) := by decide +kernel
theorem dX1_firstBits_14 : decode cX1_firstBits 14 = .ok (.ishl, 1) := by decide +kernel
theorem dX1_firstBits_15 : decode cX1_firstBits 15 = .ok (.iand, 1) := by decide +kernel
theorem dX1_firstBits_16 : decode cX1_firstBits 16 = .ok (.ireturn, 1) := by decide +kernel
set_option maxRecDepth 20000 in
theorem ggX1_commonLength_J6_numberOfLeadingZeros_0f7a4 : GoodIn wsX1_commonLength wsJ6_numberOfLeadingZeros_0f7a4 := goodIn_r _ [8, 9] (by decide +kernel) (by decide +kernel)
set_option maxRecDepth 20000 in
theorem gX1_commonLength_J6_numberOfLeadingZeros_0f7a4 : GoodIn wsX1_commonLength (va_wsS RX1 76 yJ6_numberOfLeadingZeros_0f7a4 wsJ6_numberOfLeadingZeros_0f7a4) := goodIn_app (goodIn_of _ (by decide +kernel)) ggX1_commonLength_J6_numberOfLeadingZeros_0f7a4
theorem dX1_commonLength_0 : decode cX1_commonLength 0 = .ok (.aload_n 0, 1) := by decide +kernel
theorem dX1_commonLength_1 : decode cX1_commonLength 1 = .ok (.getfield 62, 3) := by decide +kernel
theorem dX1_commonLength_4 : decode cX1_commonLength 4 = .ok (.aload_n 1, 1) := by decide +kernel
theorem dX1_commonLength_5 : decode cX1_commonLength 5 = .ok (.getfield 62, 3) := by decide +kernel
theorem dX1_commonLength_8 : decode cX1_commonLength 8 = .ok (.ixor, 1) := by decide +kernel
theorem dX1_commonLength_9 : decode cX1_commonLength 9 = .ok (.invokestatic 76, 3) := by decide +kernel
theorem dX1_commonLength_12 : decode cX1_commonLength 12 = .ok (.istore_n 2, 1) := by decide +kernel
theorem dX1_commonLength_13 : decode cX1_commonLength 13 = .ok (.iload_n 2, 1) := by decide +kernel
theorem dX1_commonLength_14 : decode cX1_commonLength 14 = .ok (.aload_n 0, 1) := by decide +kernel
theorem dX1_commonLength_15 : decode cX1_commonLength 15 = .ok (.getfield 53, 3) := by decide +kernel
theorem dX1_commonLength_18 : decode cX1_commonLength 18 = .ok (.aload_n 1, 1) := by decide +kernel
theorem dX1_commonLength_19 : decode cX1_commonLength 19 = .ok (.getfield 53, 3) := by decide +kernel
theorem dX1_commonLength_22 : decode cX1_commonLength 22 = .ok (.invokestatic 82, 3) := by decide +kernel
theorem dX1_commonLength_25 : decode cX1_commonLength 25 = .ok (.invokestatic 82, 3) := by decide +kernel
theorem dX1_commonLength_28 : decode cX1_commonLength 28 = .ok (.ireturn, 1) := by decide +kernel
set_option maxRecDepth 20000 in
theorem ggX1_topmost_X0_toward : GoodIn wsX1_topmost wsX0_toward := goodIn_r _ [5, 6, 7, 8, 9, 10, 3, 11, 12, 19, 20, 21, 22, 23, 24] (by decide +kernel) (by decide +kernel)
set_option maxRecDepth 20000 in
theorem gX1_topmost_X0_toward_n69 : GoodIn wsX1_topmost (wsX0_toward) := ggX1_topmost_X0_toward
set_option maxRecDepth 20000 in
theorem ggX1_topmost_X1_firstBits : GoodIn wsX1_topmost wsX1_firstBits := goodIn_r _ [16] (by decide +kernel) (by decide +kernel)
set_option maxRecDepth 20000 in
theorem gX1_topmost_X1_firstBits : GoodIn wsX1_topmost (va_wsS RX1 72 yX1_firstBits wsX1_firstBits) := goodIn_app (goodIn_of _ (by decide +kernel)) ggX1_topmost_X1_firstBits
theorem dX1_topmost_0 : decode cX1_topmost 0 = .ok (.aload_n 0, 1) := by decide +kernel
theorem dX1_topmost_1 : decode cX1_topmost 1 = .ok (.getfield 14, 3) := by decide +kernel
theorem dX1_topmost_4 : decode cX1_topmost 4 = .ok (.astore_n 3, 1) := by decide +kernel
theorem dX1_topmost_5 : decode cX1_topmost 5 = .ok (.aload_n 3, 1) := by decide +kernel
theorem dX1_topmost_6 : decode cX1_topmost 6 = .ok (.ifnull 20, 3) := by decide +kernel
theorem dX1_topmost_9 : decode cX1_topmost 9 = .ok (.aload_n 3, 1) := by decide +kernel
theorem dX1_topmost_10 : decode cX1_topmost 10 = .ok (.getfield 53, 3) := by decide +kernel
theorem dX1_topmost_13 : decode cX1_topmost 13 = .ok (.iload_n 2, 1) := by decide +kernel
theorem dX1_topmost_14 : decode cX1_topmost 14 = .ok (.if_icmp .ge 12, 3) := by decide +kernel
theorem dX1_topmost_17 : decode cX1_topmost 17 = .ok (.aload_n 3, 1) := by decide +kernel
theorem dX1_topmost_18 : decode cX1_topmost 18 = .ok (.iload_n 1, 1) := by decide +kernel
theorem dX1_topmost_19 : decode cX1_topmost 19 = .ok (.invokevirtual 69, 3) := by decide +kernel
theorem dX1_topmost_22 : decode cX1_topmost 22 = .ok (.astore_n 3, 1) := by decide +kernel
theorem dX1_topmost_23 : decode cX1_topmost 23 = .ok (.goto (-18), 3) := by decide +kernel
theorem dX1_topmost_26 : decode cX1_topmost 26 = .ok (.aload_n 3, 1) := by decide +kernel
theorem dX1_topmost_27 : decode cX1_topmost 27 = .ok (.ifnull 19, 3) := by decide +kernel
theorem dX1_topmost_30 : decode cX1_topmost 30 = .ok (.aload_n 3, 1) := by decide +kernel
theorem dX1_topmost_31 : decode cX1_topmost 31 = .ok (.getfield 62, 3) := by decide +kernel
theorem dX1_topmost_34 : decode cX1_topmost 34 = .ok (.iload_n 2, 1) := by decide +kernel
theorem dX1_topmost_35 : decode cX1_topmost 35 = .ok (.invokestatic 72, 3) := by decide +kernel
theorem dX1_topmost_38 : decode cX1_topmost 38 = .ok (.iload_n 1, 1) := by decide +kernel
theorem dX1_topmost_39 : decode cX1_topmost 39 = .ok (.if_icmp .ne 7, 3) := by decide +kernel
theorem dX1_topmost_42 : decode cX1_topmost 42 = .ok (.aload_n 3, 1) := by decide +kernel
theorem dX1_topmost_43 : decode cX1_topmost 43 = .ok (.goto 4, 3) := by decide +kernel
theorem dX1_topmost_46 : decode cX1_topmost 46 = .ok (.aconst_null, 1) := by decide +kernel
theorem dX1_topmost_47 : decode cX1_topmost 47 = .ok (.areturn, 1) := by decide +kernel
set_option maxRecDepth 20000 in
theorem ggX1_routeAt_X1_isPrefix : GoodIn wsX1_routeAt wsX1_isPrefix := goodIn_r _ [4, 5, 6, 3, 7] (by decide +kernel) (by decide +kernel)
set_option maxRecDepth 20000 in
theorem gX1_routeAt_X1_isPrefix : GoodIn wsX1_routeAt (va_wsS RX1 34 yX1_isPrefix wsX1_isPrefix) := goodIn_app (goodIn_of _ (by decide +kernel)) ggX1_routeAt_X1_isPrefix
set_option maxRecDepth 20000 in
theorem ggX1_routeAt_X1_topmost : GoodIn wsX1_routeAt wsX1_topmost := goodIn_r _ [11, 12, 13, 14, 15, 16, 17, 18, 19, 20, 21, 22, 23, 5, 6, 3, 7, 34, 35, 28, 29, 30, 31, 32, 33] (by decide +kernel) (by decide +kernel)
set_option maxRecDepth 20000 in
theorem gX1_routeAt_X1_topmost : GoodIn wsX1_routeAt (wsV RX1 56 RX1 yX1_topmost wsX1_topmost) := goodIn_app (goodIn_of _ (by decide +kernel)) ggX1_routeAt_X1_topmost
set_option maxRecDepth 20000 in
theorem ggX1_routeAt_X0_isRoute : GoodIn wsX1_routeAt wsX0_isRoute := goodIn_r _ [26, 27, 28, 29, 30, 31, 32, 33] (by decide +kernel) (by decide +kernel)
set_option maxRecDepth 20000 in
theorem gX1_routeAt_X0_isRoute_n87 : GoodIn wsX1_routeAt (wsX0_isRoute) := ggX1_routeAt_X0_isRoute
theorem dX1_routeAt_0 : decode cX1_routeAt 0 = .ok (.iload_n 1, 1) := by decide +kernel
theorem dX1_routeAt_1 : decode cX1_routeAt 1 = .ok (.iload_n 2, 1) := by decide +kernel
theorem dX1_routeAt_2 : decode cX1_routeAt 2 = .ok (.invokestatic 34, 3) := by decide +kernel
theorem dX1_routeAt_5 : decode cX1_routeAt 5 = .ok (.ifCond .ne 5, 3) := by decide +kernel
theorem dX1_routeAt_8 : decode cX1_routeAt 8 = .ok (.aconst_null, 1) := by decide +kernel
theorem dX1_routeAt_9 : decode cX1_routeAt 9 = .ok (.areturn, 1) := by decide +kernel
theorem dX1_routeAt_10 : decode cX1_routeAt 10 = .ok (.aload_n 0, 1) := by decide +kernel
theorem dX1_routeAt_11 : decode cX1_routeAt 11 = .ok (.iload_n 1, 1) := by decide +kernel
theorem dX1_routeAt_12 : decode cX1_routeAt 12 = .ok (.iload_n 2, 1) := by decide +kernel
theorem dX1_routeAt_13 : decode cX1_routeAt 13 = .ok (.invokevirtual 56, 3) := by decide +kernel
theorem dX1_routeAt_16 : decode cX1_routeAt 16 = .ok (.astore_n 3, 1) := by decide +kernel
theorem dX1_routeAt_17 : decode cX1_routeAt 17 = .ok (.aload_n 3, 1) := by decide +kernel
theorem dX1_routeAt_18 : decode cX1_routeAt 18 = .ok (.ifnull 22, 3) := by decide +kernel
theorem dX1_routeAt_21 : decode cX1_routeAt 21 = .ok (.aload_n 3, 1) := by decide +kernel
theorem dX1_routeAt_22 : decode cX1_routeAt 22 = .ok (.getfield 53, 3) := by decide +kernel
theorem dX1_routeAt_25 : decode cX1_routeAt 25 = .ok (.iload_n 2, 1) := by decide +kernel
theorem dX1_routeAt_26 : decode cX1_routeAt 26 = .ok (.if_icmp .ne 14, 3) := by decide +kernel
theorem dX1_routeAt_29 : decode cX1_routeAt 29 = .ok (.aload_n 3, 1) := by decide +kernel
theorem dX1_routeAt_30 : decode cX1_routeAt 30 = .ok (.invokevirtual 87, 3) := by decide +kernel
theorem dX1_routeAt_33 : decode cX1_routeAt 33 = .ok (.ifCond .eq 7, 3) := by decide +kernel
theorem dX1_routeAt_36 : decode cX1_routeAt 36 = .ok (.aload_n 3, 1) := by decide +kernel
theorem dX1_routeAt_37 : decode cX1_routeAt 37 = .ok (.goto 4, 3) := by decide +kernel
theorem dX1_routeAt_40 : decode cX1_routeAt 40 = .ok (.aconst_null, 1) := by decide +kernel
theorem dX1_routeAt_41 : decode cX1_routeAt 41 = .ok (.areturn, 1) := by decide +kernel
set_option maxRecDepth 20000 in
theorem ggX1_longestRoute_X0_isBeginOf : GoodIn wsX1_longestRoute wsX0_isBeginOf := goodIn_r _ [5, 6, 7, 8, 9, 10, 26, 27, 28, 29, 30, 31] (by decide +kernel) (by decide +kernel)
set_option maxRecDepth 20000 in
theorem gX1_longestRoute_X0_isBeginOf_n65 : GoodIn wsX1_longestRoute (wsX0_isBeginOf) := ggX1_longestRoute_X0_isBeginOf
set_option maxRecDepth 20000 in
theorem ggX1_longestRoute_X0_isRoute : GoodIn wsX1_longestRoute wsX0_isRoute := goodIn_r _ [13, 14, 26, 27, 28, 29, 30, 31] (by decide +kernel) (by decide +kernel)
set_option maxRecDepth 20000 in
theorem gX1_longestRoute_X0_isRoute_n87 : GoodIn wsX1_longestRoute (wsX0_isRoute) := ggX1_longestRoute_X0_isRoute
set_option maxRecDepth 20000 in
theorem ggX1_longestRoute_X0_toward : GoodIn wsX1_longestRoute wsX0_toward := goodIn_r _ [17, 18, 19, 20, 21, 22, 3, 23, 6, 26, 27, 28, 29, 30, 31] (by decide +kernel) (by decide +kernel)
set_option maxRecDepth 20000 in
theorem gX1_longestRoute_X0_toward_n69 : GoodIn wsX1_longestRoute (wsX0_toward) := ggX1_longestRoute_X0_toward
theorem dX1_longestRoute_0 : decode cX1_longestRoute 0 = .ok (.aconst_null, 1) := by decide +kernel
theorem dX1_longestRoute_1 : decode cX1_longestRoute 1 = .ok (.astore_n 2, 1) := by decide +kernel
theorem dX1_longestRoute_2 : decode cX1_longestRoute 2 = .ok (.aload_n 0, 1) := by decide +kernel
theorem dX1_longestRoute_3 : decode cX1_longestRoute 3 = .ok (.getfield 14, 3) := by decide +kernel
theorem dX1_longestRoute_6 : decode cX1_longestRoute 6 = .ok (.astore_n 3, 1) := by decide +kernel
theorem dX1_longestRoute_7 : decode cX1_longestRoute 7 = .ok (.aload_n 3, 1) := by decide +kernel
theorem dX1_longestRoute_8 : decode cX1_longestRoute 8 = .ok (.ifnull 29, 3) := by decide +kernel
theorem dX1_longestRoute_11 : decode cX1_longestRoute 11 = .ok (.aload_n 3, 1) := by decide +kernel
theorem dX1_longestRoute_12 : decode cX1_longestRoute 12 = .ok (.iload_n 1, 1) := by decide +kernel
theorem dX1_longestRoute_13 : decode cX1_longestRoute 13 = .ok (.invokevirtual 65, 3) := by decide +kernel
theorem dX1_longestRoute_16 : decode cX1_longestRoute 16 = .ok (.ifCond .eq 21, 3) := by decide +kernel
theorem dX1_longestRoute_19 : decode cX1_longestRoute 19 = .ok (.aload_n 3, 1) := by decide +kernel
theorem dX1_longestRoute_20 : decode cX1_longestRoute 20 = .ok (.invokevirtual 87, 3) := by decide +kernel
theorem dX1_longestRoute_23 : decode cX1_longestRoute 23 = .ok (.ifCond .eq 5, 3) := by decide +kernel
theorem dX1_longestRoute_26 : decode cX1_longestRoute 26 = .ok (.aload_n 3, 1) := by decide +kernel
theorem dX1_longestRoute_27 : decode cX1_longestRoute 27 = .ok (.astore_n 2, 1) := by decide +kernel
theorem dX1_longestRoute_28 : decode cX1_longestRoute 28 = .ok (.aload_n 3, 1) := by decide +kernel
theorem dX1_longestRoute_29 : decode cX1_longestRoute 29 = .ok (.iload_n 1, 1) := by decide +kernel
theorem dX1_longestRoute_30 : decode cX1_longestRoute 30 = .ok (.invokevirtual 69, 3) := by decide +kernel
theorem dX1_longestRoute_33 : decode cX1_longestRoute 33 = .ok (.astore_n 3, 1) := by decide +kernel
theorem dX1_longestRoute_34 : decode cX1_longestRoute 34 = .ok (.goto (-27), 3) := by decide +kernel
theorem dX1_longestRoute_37 : decode cX1_longestRoute 37 = .ok (.aload_n 2, 1) := by decide +kernel
theorem dX1_longestRoute_38 : decode cX1_longestRoute 38 = .ok (.areturn, 1) := by decide +kernel
set_option maxRecDepth 20000 in
theorem ggX1_inOrder_X0_isRoute : GoodIn wsX1_inOrder wsX0_isRoute := goodIn_r _ [5, 6, 9, 10, 11, 12, 13, 14] (by decide +kernel) (by decide +kernel)
set_option maxRecDepth 20000 in
theorem gX1_inOrder_X0_isRoute_n87 : GoodIn wsX1_inOrder (wsX0_isRoute) := ggX1_inOrder_X0_isRoute
theorem dX1_inOrder_0 : decode cX1_inOrder 0 = .ok (.iload_n 1, 1) := by decide +kernel
theorem dX1_inOrder_1 : decode cX1_inOrder 1 = .ok (.ifCond .lt 14, 3) := by decide +kernel
theorem dX1_inOrder_4 : decode cX1_inOrder 4 = .ok (.iload_n 1, 1) := by decide +kernel
theorem dX1_inOrder_5 : decode cX1_inOrder 5 = .ok (.aload_n 0, 1) := by decide +kernel
theorem dX1_inOrder_6 : decode cX1_inOrder 6 = .ok (.getfield 14, 3) := by decide +kernel
theorem dX1_inOrder_9 : decode cX1_inOrder 9 = .ok (.getfield 25, 3) := by decide +kernel
theorem dX1_inOrder_12 : decode cX1_inOrder 12 = .ok (.if_icmp .lt 5, 3) := by decide +kernel
theorem dX1_inOrder_15 : decode cX1_inOrder 15 = .ok (.aconst_null, 1) := by decide +kernel
theorem dX1_inOrder_16 : decode cX1_inOrder 16 = .ok (.areturn, 1) := by decide +kernel
theorem dX1_inOrder_17 : decode cX1_inOrder 17 = .ok (.iload_n 1, 1) := by decide +kernel
theorem dX1_inOrder_18 : decode cX1_inOrder 18 = .ok (.istore_n 2, 1) := by decide +kernel
theorem dX1_inOrder_19 : decode cX1_inOrder 19 = .ok (.aload_n 0, 1) := by decide +kernel
theorem dX1_inOrder_20 : decode cX1_inOrder 20 = .ok (.getfield 14, 3) := by decide +kernel
theorem dX1_inOrder_23 : decode cX1_inOrder 23 = .ok (.astore_n 3, 1) := by decide +kernel
theorem dX1_inOrder_24 : decode cX1_inOrder 24 = .ok (.aload_n 3, 1) := by decide +kernel
theorem dX1_inOrder_25 : decode cX1_inOrder 25 = .ok (.ifnull 66, 3) := by decide +kernel
theorem dX1_inOrder_28 : decode cX1_inOrder 28 = .ok (.aload_n 3, 1) := by decide +kernel
theorem dX1_inOrder_29 : decode cX1_inOrder 29 = .ok (.invokevirtual 87, 3) := by decide +kernel
theorem dX1_inOrder_32 : decode cX1_inOrder 32 = .ok (.ifCond .eq 12, 3) := by decide +kernel
theorem dX1_inOrder_35 : decode cX1_inOrder 35 = .ok (.iload_n 2, 1) := by decide +kernel
theorem dX1_inOrder_36 : decode cX1_inOrder 36 = .ok (.ifCond .ne 5, 3) := by decide +kernel
theorem dX1_inOrder_39 : decode cX1_inOrder 39 = .ok (.aload_n 3, 1) := by decide +kernel
theorem dX1_inOrder_40 : decode cX1_inOrder 40 = .ok (.areturn, 1) := by decide +kernel
theorem dX1_inOrder_41 : decode cX1_inOrder 41 = .ok (.iinc 2 (-1), 3) := by decide +kernel
theorem dX1_inOrder_44 : decode cX1_inOrder 44 = .ok (.aload_n 3, 1) := by decide +kernel
theorem dX1_inOrder_45 : decode cX1_inOrder 45 = .ok (.getfield 28, 3) := by decide +kernel
theorem dX1_inOrder_48 : decode cX1_inOrder 48 = .ok (.ifnonnull 7, 3) := by decide +kernel
theorem dX1_inOrder_51 : decode cX1_inOrder 51 = .ok (.iconst 0, 1) := by decide +kernel
theorem dX1_inOrder_52 : decode cX1_inOrder 52 = .ok (.goto 10, 3) := by decide +kernel
theorem dX1_inOrder_55 : decode cX1_inOrder 55 = .ok (.aload_n 3, 1) := by decide +kernel
theorem dX1_inOrder_56 : decode cX1_inOrder 56 = .ok (.getfield 28, 3) := by decide +kernel
theorem dX1_inOrder_59 : decode cX1_inOrder 59 = .ok (.getfield 25, 3) := by decide +kernel
theorem dX1_inOrder_62 : decode cX1_inOrder 62 = .ok (.istore 4, 2) := by decide +kernel
theorem dX1_inOrder_64 : decode cX1_inOrder 64 = .ok (.iload_n 2, 1) := by decide +kernel
theorem dX1_inOrder_65 : decode cX1_inOrder 65 = .ok (.iload 4, 2) := by decide +kernel
theorem dX1_inOrder_67 : decode cX1_inOrder 67 = .ok (.if_icmp .ge 11, 3) := by decide +kernel
theorem dX1_inOrder_70 : decode cX1_inOrder 70 = .ok (.aload_n 3, 1) := by decide +kernel
theorem dX1_inOrder_71 : decode cX1_inOrder 71 = .ok (.getfield 28, 3) := by decide +kernel
theorem dX1_inOrder_74 : decode cX1_inOrder 74 = .ok (.astore_n 3, 1) := by decide +kernel
theorem dX1_inOrder_75 : decode cX1_inOrder 75 = .ok (.goto 13, 3) := by decide +kernel
theorem dX1_inOrder_78 : decode cX1_inOrder 78 = .ok (.iload_n 2, 1) := by decide +kernel
theorem dX1_inOrder_79 : decode cX1_inOrder 79 = .ok (.iload 4, 2) := by decide +kernel
theorem dX1_inOrder_81 : decode cX1_inOrder 81 = .ok (.isub, 1) := by decide +kernel
theorem dX1_inOrder_82 : decode cX1_inOrder 82 = .ok (.istore_n 2, 1) := by decide +kernel
theorem dX1_inOrder_83 : decode cX1_inOrder 83 = .ok (.aload_n 3, 1) := by decide +kernel
theorem dX1_inOrder_84 : decode cX1_inOrder 84 = .ok (.getfield 31, 3) := by decide +kernel
theorem dX1_inOrder_87 : decode cX1_inOrder 87 = .ok (.astore_n 3, 1) := by decide +kernel
theorem dX1_inOrder_88 : decode cX1_inOrder 88 = .ok (.goto (-64), 3) := by decide +kernel
theorem dX1_inOrder_91 : decode cX1_inOrder 91 = .ok (.aconst_null, 1) := by decide +kernel
theorem dX1_inOrder_92 : decode cX1_inOrder 92 = .ok (.areturn, 1) := by decide +kernel
set_option maxRecDepth 20000 in
theorem ggX1_grow_X0_toward : GoodIn wsX1_grow wsX0_toward := goodIn_r _ [5, 6, 7, 8, 9, 10, 3, 11, 12, 56, 57, 58, 59, 60, 61] (by decide +kernel) (by decide +kernel)
set_option maxRecDepth 20000 in
theorem gX1_grow_X0_toward_n69 : GoodIn wsX1_grow (wsX0_toward) := ggX1_grow_X0_toward
set_option maxRecDepth 20000 in
theorem ggX1_grow_X0_isBeginOf : GoodIn wsX1_grow wsX0_isBeginOf := goodIn_r _ [15, 12, 16, 17, 18, 19, 56, 57, 58, 59, 60, 61] (by decide +kernel) (by decide +kernel)
set_option maxRecDepth 20000 in
theorem gX1_grow_X0_isBeginOf_n65 : GoodIn wsX1_grow (wsX0_isBeginOf) := ggX1_grow_X0_isBeginOf
set_option maxRecDepth 20000 in
theorem ggX1_grow_X1_newNode : GoodIn wsX1_grow wsX1_newNode := goodIn_r _ [23, 24, 25, 26, 3, 27, 28, 29, 30, 31, 16, 12, 32, 33, 54, 55, 56, 57, 58, 59, 60, 61] (by decide +kernel) (by decide +kernel)
set_option maxRecDepth 20000 in
theorem gX1_grow_X1_newNode : GoodIn wsX1_grow (wsV RX1 91 RX1 yX1_newNode wsX1_newNode) := goodIn_app (goodIn_of _ (by decide +kernel)) ggX1_grow_X1_newNode
set_option maxRecDepth 20000 in
theorem ggX1_grow_X1_joined : GoodIn wsX1_grow wsX1_joined := goodIn_r _ [37, 38, 39, 18, 40, 41, 42, 43, 44, 45, 46, 47, 48, 49, 50, 17, 19, 20, 21, 22, 23, 24, 25, 26, 3, 27, 28, 29, 30, 31, 16, 12, 32, 33, 51, 52, 53, 6, 7, 8, 9, 10, 11, 56, 57, 58, 59, 60, 61, 54, 55] (by decide +kernel) (by decide +kernel)
set_option maxRecDepth 20000 in
theorem gX1_grow_X1_joined : GoodIn wsX1_grow (wsV RX1 95 RX1 yX1_joined wsX1_joined) := goodIn_app (goodIn_of _ (by decide +kernel)) ggX1_grow_X1_joined
set_option maxRecDepth 20000 in
theorem ggX1_grow_X0_hang : GoodIn wsX1_grow wsX0_hang := goodIn_r _ [53, 16, 6, 7, 8, 9, 10, 3, 11, 12, 56, 57, 58, 59, 60, 61] (by decide +kernel) (by decide +kernel)
set_option maxRecDepth 20000 in
theorem gX1_grow_X0_hang_n99 : GoodIn wsX1_grow (wsX0_hang) := ggX1_grow_X0_hang
theorem dX1_grow_0 : decode cX1_grow 0 = .ok (.aload_n 0, 1) := by decide +kernel
theorem dX1_grow_1 : decode cX1_grow 1 = .ok (.getfield 14, 3) := by decide +kernel
theorem dX1_grow_4 : decode cX1_grow 4 = .ok (.astore 4, 2) := by decide +kernel
theorem dX1_grow_6 : decode cX1_grow 6 = .ok (.aload 4, 2) := by decide +kernel
theorem dX1_grow_8 : decode cX1_grow 8 = .ok (.iload_n 1, 1) := by decide +kernel
theorem dX1_grow_9 : decode cX1_grow 9 = .ok (.invokevirtual 69, 3) := by decide +kernel
theorem dX1_grow_12 : decode cX1_grow 12 = .ok (.astore 5, 2) := by decide +kernel
theorem dX1_grow_14 : decode cX1_grow 14 = .ok (.aload 4, 2) := by decide +kernel
theorem dX1_grow_16 : decode cX1_grow 16 = .ok (.dup, 1) := by decide +kernel
theorem dX1_grow_17 : decode cX1_grow 17 = .ok (.getfield 25, 3) := by decide +kernel
theorem dX1_grow_20 : decode cX1_grow 20 = .ok (.iconst 1, 1) := by decide +kernel
theorem dX1_grow_21 : decode cX1_grow 21 = .ok (.iadd, 1) := by decide +kernel
theorem dX1_grow_22 : decode cX1_grow 22 = .ok (.putfield 25, 3) := by decide +kernel
theorem dX1_grow_25 : decode cX1_grow 25 = .ok (.aload 5, 2) := by decide +kernel
theorem dX1_grow_27 : decode cX1_grow 27 = .ok (.ifnull 47, 3) := by decide +kernel
theorem dX1_grow_30 : decode cX1_grow 30 = .ok (.aload 5, 2) := by decide +kernel
theorem dX1_grow_32 : decode cX1_grow 32 = .ok (.getfield 53, 3) := by decide +kernel
theorem dX1_grow_35 : decode cX1_grow 35 = .ok (.iload_n 2, 1) := by decide +kernel
theorem dX1_grow_36 : decode cX1_grow 36 = .ok (.if_icmp .gt 38, 3) := by decide +kernel
theorem dX1_grow_39 : decode cX1_grow 39 = .ok (.aload 5, 2) := by decide +kernel
theorem dX1_grow_41 : decode cX1_grow 41 = .ok (.iload_n 1, 1) := by decide +kernel
theorem dX1_grow_42 : decode cX1_grow 42 = .ok (.invokevirtual 65, 3) := by decide +kernel
theorem dX1_grow_45 : decode cX1_grow 45 = .ok (.ifCond .eq 29, 3) := by decide +kernel
theorem dX1_grow_48 : decode cX1_grow 48 = .ok (.aload 5, 2) := by decide +kernel
theorem dX1_grow_50 : decode cX1_grow 50 = .ok (.astore 4, 2) := by decide +kernel
theorem dX1_grow_52 : decode cX1_grow 52 = .ok (.aload 4, 2) := by decide +kernel
theorem dX1_grow_54 : decode cX1_grow 54 = .ok (.iload_n 1, 1) := by decide +kernel
theorem dX1_grow_55 : decode cX1_grow 55 = .ok (.invokevirtual 69, 3) := by decide +kernel
theorem dX1_grow_58 : decode cX1_grow 58 = .ok (.astore 5, 2) := by decide +kernel
theorem dX1_grow_60 : decode cX1_grow 60 = .ok (.aload 4, 2) := by decide +kernel
theorem dX1_grow_62 : decode cX1_grow 62 = .ok (.dup, 1) := by decide +kernel
theorem dX1_grow_63 : decode cX1_grow 63 = .ok (.getfield 25, 3) := by decide +kernel
theorem dX1_grow_66 : decode cX1_grow 66 = .ok (.iconst 1, 1) := by decide +kernel
theorem dX1_grow_67 : decode cX1_grow 67 = .ok (.iadd, 1) := by decide +kernel
theorem dX1_grow_68 : decode cX1_grow 68 = .ok (.putfield 25, 3) := by decide +kernel
theorem dX1_grow_71 : decode cX1_grow 71 = .ok (.goto (-46), 3) := by decide +kernel
theorem dX1_grow_74 : decode cX1_grow 74 = .ok (.aload 4, 2) := by decide +kernel
theorem dX1_grow_76 : decode cX1_grow 76 = .ok (.getfield 53, 3) := by decide +kernel
theorem dX1_grow_79 : decode cX1_grow 79 = .ok (.iload_n 2, 1) := by decide +kernel
theorem dX1_grow_80 : decode cX1_grow 80 = .ok (.if_icmp .ne 12, 3) := by decide +kernel
theorem dX1_grow_83 : decode cX1_grow 83 = .ok (.aload 4, 2) := by decide +kernel
theorem dX1_grow_85 : decode cX1_grow 85 = .ok (.iload_n 3, 1) := by decide +kernel
theorem dX1_grow_86 : decode cX1_grow 86 = .ok (.putfield 22, 3) := by decide +kernel
theorem dX1_grow_89 : decode cX1_grow 89 = .ok (.goto 21, 3) := by decide +kernel
theorem dX1_grow_92 : decode cX1_grow 92 = .ok (.aload 4, 2) := by decide +kernel
theorem dX1_grow_94 : decode cX1_grow 94 = .ok (.aload_n 0, 1) := by decide +kernel
theorem dX1_grow_95 : decode cX1_grow 95 = .ok (.aload 5, 2) := by decide +kernel
theorem dX1_grow_97 : decode cX1_grow 97 = .ok (.aload_n 0, 1) := by decide +kernel
theorem dX1_grow_98 : decode cX1_grow 98 = .ok (.iload_n 1, 1) := by decide +kernel
theorem dX1_grow_99 : decode cX1_grow 99 = .ok (.iload_n 2, 1) := by decide +kernel
theorem dX1_grow_100 : decode cX1_grow 100 = .ok (.iload_n 3, 1) := by decide +kernel
theorem dX1_grow_101 : decode cX1_grow 101 = .ok (.invokevirtual 91, 3) := by decide +kernel
theorem dX1_grow_104 : decode cX1_grow 104 = .ok (.invokevirtual 95, 3) := by decide +kernel
theorem dX1_grow_107 : decode cX1_grow 107 = .ok (.invokevirtual 99, 3) := by decide +kernel
theorem dX1_grow_110 : decode cX1_grow 110 = .ok (.return_, 1) := by decide +kernel
set_option maxRecDepth 20000 in
theorem ggX1_joined_X1_commonLength : GoodIn wsX1_joined wsX1_commonLength := goodIn_r _ [4, 5, 6, 7, 8, 9, 10, 11, 12, 13, 43, 44, 45, 46, 47, 48] (by decide +kernel) (by decide +kernel)
set_option maxRecDepth 20000 in
theorem gX1_joined_X1_commonLength : GoodIn wsX1_joined (va_wsS RX1 102 yX1_commonLength wsX1_commonLength) := goodIn_app (goodIn_of _ (by decide +kernel)) ggX1_joined_X1_commonLength
set_option maxRecDepth 20000 in
theorem ggX1_joined_X1_firstBits : GoodIn wsX1_joined wsX1_firstBits := goodIn_r _ [16] (by decide +kernel) (by decide +kernel)
set_option maxRecDepth 20000 in
theorem gX1_joined_X1_firstBits : GoodIn wsX1_joined (va_wsS RX1 72 yX1_firstBits wsX1_firstBits) := goodIn_app (goodIn_of _ (by decide +kernel)) ggX1_joined_X1_firstBits
set_option maxRecDepth 20000 in
theorem ggX1_joined_X1_newNode : GoodIn wsX1_joined wsX1_newNode := goodIn_r _ [20, 21, 22, 23, 24, 25, 26, 27, 28, 29, 30, 31, 32, 33, 49, 50, 43, 44, 45, 46, 47, 48] (by decide +kernel) (by decide +kernel)
set_option maxRecDepth 20000 in
theorem gX1_joined_X1_newNode : GoodIn wsX1_joined (wsV RX1 91 RX1 yX1_newNode wsX1_newNode) := goodIn_app (goodIn_of _ (by decide +kernel)) ggX1_joined_X1_newNode
set_option maxRecDepth 20000 in
theorem ggX1_joined_X0_hang : GoodIn wsX1_joined wsX0_hang := goodIn_r _ [36, 30, 37, 38, 39, 40, 41, 24, 42, 31, 43, 44, 45, 46, 47, 48] (by decide +kernel) (by decide +kernel)
set_option maxRecDepth 20000 in
theorem gX1_joined_X0_hang_n99 : GoodIn wsX1_joined (wsX0_hang) := ggX1_joined_X0_hang
theorem dX1_joined_0 : decode cX1_joined 0 = .ok (.aload_n 1, 1) := by decide +kernel
theorem dX1_joined_1 : decode cX1_joined 1 = .ok (.ifnonnull 5, 3) := by decide +kernel
theorem dX1_joined_4 : decode cX1_joined 4 = .ok (.aload_n 2, 1) := by decide +kernel
theorem dX1_joined_5 : decode cX1_joined 5 = .ok (.areturn, 1) := by decide +kernel
theorem dX1_joined_6 : decode cX1_joined 6 = .ok (.aload_n 1, 1) := by decide +kernel
theorem dX1_joined_7 : decode cX1_joined 7 = .ok (.aload_n 2, 1) := by decide +kernel
theorem dX1_joined_8 : decode cX1_joined 8 = .ok (.invokestatic 102, 3) := by decide +kernel
theorem dX1_joined_11 : decode cX1_joined 11 = .ok (.istore_n 3, 1) := by decide +kernel
theorem dX1_joined_12 : decode cX1_joined 12 = .ok (.aload_n 2, 1) := by decide +kernel
theorem dX1_joined_13 : decode cX1_joined 13 = .ok (.astore 4, 2) := by decide +kernel
theorem dX1_joined_15 : decode cX1_joined 15 = .ok (.iload_n 3, 1) := by decide +kernel
theorem dX1_joined_16 : decode cX1_joined 16 = .ok (.aload_n 2, 1) := by decide +kernel
theorem dX1_joined_17 : decode cX1_joined 17 = .ok (.getfield 53, 3) := by decide +kernel
theorem dX1_joined_20 : decode cX1_joined 20 = .ok (.if_icmp .ge 25, 3) := by decide +kernel
theorem dX1_joined_23 : decode cX1_joined 23 = .ok (.aload_n 0, 1) := by decide +kernel
theorem dX1_joined_24 : decode cX1_joined 24 = .ok (.aload_n 2, 1) := by decide +kernel
theorem dX1_joined_25 : decode cX1_joined 25 = .ok (.getfield 62, 3) := by decide +kernel
theorem dX1_joined_28 : decode cX1_joined 28 = .ok (.iload_n 3, 1) := by decide +kernel
theorem dX1_joined_29 : decode cX1_joined 29 = .ok (.invokestatic 72, 3) := by decide +kernel
theorem dX1_joined_32 : decode cX1_joined 32 = .ok (.iload_n 3, 1) := by decide +kernel
theorem dX1_joined_33 : decode cX1_joined 33 = .ok (.iconst (-1), 1) := by decide +kernel
theorem dX1_joined_34 : decode cX1_joined 34 = .ok (.invokevirtual 91, 3) := by decide +kernel
theorem dX1_joined_37 : decode cX1_joined 37 = .ok (.astore 4, 2) := by decide +kernel
theorem dX1_joined_39 : decode cX1_joined 39 = .ok (.aload 4, 2) := by decide +kernel
theorem dX1_joined_41 : decode cX1_joined 41 = .ok (.aload_n 2, 1) := by decide +kernel
theorem dX1_joined_42 : decode cX1_joined 42 = .ok (.invokevirtual 99, 3) := by decide +kernel
theorem dX1_joined_45 : decode cX1_joined 45 = .ok (.aload 4, 2) := by decide +kernel
theorem dX1_joined_47 : decode cX1_joined 47 = .ok (.aload_n 1, 1) := by decide +kernel
theorem dX1_joined_48 : decode cX1_joined 48 = .ok (.invokevirtual 99, 3) := by decide +kernel
theorem dX1_joined_51 : decode cX1_joined 51 = .ok (.aload 4, 2) := by decide +kernel
theorem dX1_joined_53 : decode cX1_joined 53 = .ok (.aload_n 1, 1) := by decide +kernel
theorem dX1_joined_54 : decode cX1_joined 54 = .ok (.getfield 25, 3) := by decide +kernel
theorem dX1_joined_57 : decode cX1_joined 57 = .ok (.iconst 1, 1) := by decide +kernel
theorem dX1_joined_58 : decode cX1_joined 58 = .ok (.iadd, 1) := by decide +kernel
theorem dX1_joined_59 : decode cX1_joined 59 = .ok (.putfield 25, 3) := by decide +kernel
theorem dX1_joined_62 : decode cX1_joined 62 = .ok (.aload 4, 2) := by decide +kernel
theorem dX1_joined_64 : decode cX1_joined 64 = .ok (.areturn, 1) := by decide +kernel
set_option maxRecDepth 20000 in
theorem ggX1_newNode_X0_init : GoodIn wsX1_newNode wsX0_init := goodIn_r _ [6, 7, 8, 9, 10, 11, 12, 13, 16, 17, 18, 19, 20, 21] (by decide +kernel) (by decide +kernel)
set_option maxRecDepth 20000 in
theorem gX1_newNode_X0_init_n11 : GoodIn wsX1_newNode (wsX0_init) := ggX1_newNode_X0_init
theorem dX1_newNode_0 : decode cX1_newNode 0 = .ok (.aload_n 0, 1) := by decide +kernel
theorem dX1_newNode_1 : decode cX1_newNode 1 = .ok (.dup, 1) := by decide +kernel
theorem dX1_newNode_2 : decode cX1_newNode 2 = .ok (.getfield 18, 3) := by decide +kernel
theorem dX1_newNode_5 : decode cX1_newNode 5 = .ok (.iconst 1, 1) := by decide +kernel
theorem dX1_newNode_6 : decode cX1_newNode 6 = .ok (.iadd, 1) := by decide +kernel
theorem dX1_newNode_7 : decode cX1_newNode 7 = .ok (.putfield 18, 3) := by decide +kernel
theorem dX1_newNode_10 : decode cX1_newNode 10 = .ok (.new 7, 3) := by decide +kernel
theorem dX1_newNode_13 : decode cX1_newNode 13 = .ok (.dup, 1) := by decide +kernel
theorem dX1_newNode_14 : decode cX1_newNode 14 = .ok (.iload_n 1, 1) := by decide +kernel
theorem dX1_newNode_15 : decode cX1_newNode 15 = .ok (.iload_n 2, 1) := by decide +kernel
theorem dX1_newNode_16 : decode cX1_newNode 16 = .ok (.iload_n 3, 1) := by decide +kernel
theorem dX1_newNode_17 : decode cX1_newNode 17 = .ok (.invokespecial 11, 3) := by decide +kernel
theorem dX1_newNode_20 : decode cX1_newNode 20 = .ok (.areturn, 1) := by decide +kernel
set_option maxRecDepth 20000 in
theorem ggX1_cut_X0_toward : GoodIn wsX1_cut wsX0_toward := goodIn_r _ [5, 6, 7, 8, 9, 10, 3, 11, 12, 28, 29, 30, 31, 32, 33] (by decide +kernel) (by decide +kernel)
set_option maxRecDepth 20000 in
theorem gX1_cut_X0_toward_n69 : GoodIn wsX1_cut (wsX0_toward) := ggX1_cut_X0_toward
set_option maxRecDepth 20000 in
theorem ggX1_cut_X1_dropIfIdle : GoodIn wsX1_cut wsX1_dropIfIdle := goodIn_r _ [17, 18, 19, 3, 20, 21, 22, 23, 24, 25, 6, 7, 28, 29, 30, 31, 32, 33, 26, 27] (by decide +kernel) (by decide +kernel)
set_option maxRecDepth 20000 in
theorem gX1_cut_X1_dropIfIdle : GoodIn wsX1_cut (wsV RX1 106 RX1 yX1_dropIfIdle wsX1_dropIfIdle) := goodIn_app (goodIn_of _ (by decide +kernel)) ggX1_cut_X1_dropIfIdle
theorem dX1_cut_0 : decode cX1_cut 0 = .ok (.aconst_null, 1) := by decide +kernel
theorem dX1_cut_1 : decode cX1_cut 1 = .ok (.astore_n 2, 1) := by decide +kernel
theorem dX1_cut_2 : decode cX1_cut 2 = .ok (.aconst_null, 1) := by decide +kernel
theorem dX1_cut_3 : decode cX1_cut 3 = .ok (.astore_n 3, 1) := by decide +kernel
theorem dX1_cut_4 : decode cX1_cut 4 = .ok (.aload_n 0, 1) := by decide +kernel
theorem dX1_cut_5 : decode cX1_cut 5 = .ok (.getfield 14, 3) := by decide +kernel
theorem dX1_cut_8 : decode cX1_cut 8 = .ok (.astore 4, 2) := by decide +kernel
theorem dX1_cut_10 : decode cX1_cut 10 = .ok (.aload 4, 2) := by decide +kernel
theorem dX1_cut_12 : decode cX1_cut 12 = .ok (.ifnull 39, 3) := by decide +kernel
theorem dX1_cut_15 : decode cX1_cut 15 = .ok (.aload 4, 2) := by decide +kernel
theorem dX1_cut_17 : decode cX1_cut 17 = .ok (.aload_n 1, 1) := by decide +kernel
theorem dX1_cut_18 : decode cX1_cut 18 = .ok (.if_acmp .eq 33, 3) := by decide +kernel
theorem dX1_cut_21 : decode cX1_cut 21 = .ok (.aload 4, 2) := by decide +kernel
theorem dX1_cut_23 : decode cX1_cut 23 = .ok (.dup, 1) := by decide +kernel
theorem dX1_cut_24 : decode cX1_cut 24 = .ok (.getfield 25, 3) := by decide +kernel
theorem dX1_cut_27 : decode cX1_cut 27 = .ok (.iconst 1, 1) := by decide +kernel
theorem dX1_cut_28 : decode cX1_cut 28 = .ok (.isub, 1) := by decide +kernel
theorem dX1_cut_29 : decode cX1_cut 29 = .ok (.putfield 25, 3) := by decide +kernel
theorem dX1_cut_32 : decode cX1_cut 32 = .ok (.aload_n 3, 1) := by decide +kernel
theorem dX1_cut_33 : decode cX1_cut 33 = .ok (.astore_n 2, 1) := by decide +kernel
theorem dX1_cut_34 : decode cX1_cut 34 = .ok (.aload 4, 2) := by decide +kernel
theorem dX1_cut_36 : decode cX1_cut 36 = .ok (.astore_n 3, 1) := by decide +kernel
theorem dX1_cut_37 : decode cX1_cut 37 = .ok (.aload 4, 2) := by decide +kernel
theorem dX1_cut_39 : decode cX1_cut 39 = .ok (.aload_n 1, 1) := by decide +kernel
theorem dX1_cut_40 : decode cX1_cut 40 = .ok (.getfield 62, 3) := by decide +kernel
theorem dX1_cut_43 : decode cX1_cut 43 = .ok (.invokevirtual 69, 3) := by decide +kernel
theorem dX1_cut_46 : decode cX1_cut 46 = .ok (.astore 4, 2) := by decide +kernel
theorem dX1_cut_48 : decode cX1_cut 48 = .ok (.goto (-38), 3) := by decide +kernel
theorem dX1_cut_51 : decode cX1_cut 51 = .ok (.aload_n 1, 1) := by decide +kernel
theorem dX1_cut_52 : decode cX1_cut 52 = .ok (.dup, 1) := by decide +kernel
theorem dX1_cut_53 : decode cX1_cut 53 = .ok (.getfield 25, 3) := by decide +kernel
theorem dX1_cut_56 : decode cX1_cut 56 = .ok (.iconst 1, 1) := by decide +kernel
theorem dX1_cut_57 : decode cX1_cut 57 = .ok (.isub, 1) := by decide +kernel
theorem dX1_cut_58 : decode cX1_cut 58 = .ok (.putfield 25, 3) := by decide +kernel
theorem dX1_cut_61 : decode cX1_cut 61 = .ok (.aload_n 1, 1) := by decide +kernel
theorem dX1_cut_62 : decode cX1_cut 62 = .ok (.iconst (-1), 1) := by decide +kernel
theorem dX1_cut_63 : decode cX1_cut 63 = .ok (.putfield 22, 3) := by decide +kernel
theorem dX1_cut_66 : decode cX1_cut 66 = .ok (.aload_n 0, 1) := by decide +kernel
theorem dX1_cut_67 : decode cX1_cut 67 = .ok (.aload_n 3, 1) := by decide +kernel
theorem dX1_cut_68 : decode cX1_cut 68 = .ok (.aload_n 1, 1) := by decide +kernel
theorem dX1_cut_69 : decode cX1_cut 69 = .ok (.invokevirtual 106, 3) := by decide +kernel
theorem dX1_cut_72 : decode cX1_cut 72 = .ok (.aload_n 0, 1) := by decide +kernel
theorem dX1_cut_73 : decode cX1_cut 73 = .ok (.aload_n 2, 1) := by decide +kernel
theorem dX1_cut_74 : decode cX1_cut 74 = .ok (.aload_n 3, 1) := by decide +kernel
theorem dX1_cut_75 : decode cX1_cut 75 = .ok (.invokevirtual 106, 3) := by decide +kernel
theorem dX1_cut_78 : decode cX1_cut 78 = .ok (.return_, 1) := by decide +kernel
set_option maxRecDepth 20000 in
theorem ggX1_dropIfIdle_X0_isRoute : GoodIn wsX1_dropIfIdle wsX0_isRoute := goodIn_r _ [5, 6, 12, 13, 14, 15, 16, 17] (by decide +kernel) (by decide +kernel)
set_option maxRecDepth 20000 in
theorem gX1_dropIfIdle_X0_isRoute_n87 : GoodIn wsX1_dropIfIdle (wsX0_isRoute) := ggX1_dropIfIdle_X0_isRoute
set_option maxRecDepth 20000 in
theorem ggX1_dropIfIdle_X0_replace : GoodIn wsX1_dropIfIdle wsX0_replace := goodIn_r _ [9, 10, 11, 12, 13, 14, 15, 16, 17] (by decide +kernel) (by decide +kernel)
set_option maxRecDepth 20000 in
theorem gX1_dropIfIdle_X0_replace_n110 : GoodIn wsX1_dropIfIdle (wsX0_replace) := ggX1_dropIfIdle_X0_replace
theorem dX1_dropIfIdle_0 : decode cX1_dropIfIdle 0 = .ok (.aload_n 1, 1) := by decide +kernel
theorem dX1_dropIfIdle_1 : decode cX1_dropIfIdle 1 = .ok (.ifnull 14, 3) := by decide +kernel
theorem dX1_dropIfIdle_4 : decode cX1_dropIfIdle 4 = .ok (.aload_n 2, 1) := by decide +kernel
theorem dX1_dropIfIdle_5 : decode cX1_dropIfIdle 5 = .ok (.ifnull 10, 3) := by decide +kernel
theorem dX1_dropIfIdle_8 : decode cX1_dropIfIdle 8 = .ok (.aload_n 2, 1) := by decide +kernel
theorem dX1_dropIfIdle_9 : decode cX1_dropIfIdle 9 = .ok (.invokevirtual 87, 3) := by decide +kernel
theorem dX1_dropIfIdle_12 : decode cX1_dropIfIdle 12 = .ok (.ifCond .eq 4, 3) := by decide +kernel
theorem dX1_dropIfIdle_15 : decode cX1_dropIfIdle 15 = .ok (.return_, 1) := by decide +kernel
theorem dX1_dropIfIdle_16 : decode cX1_dropIfIdle 16 = .ok (.aload_n 2, 1) := by decide +kernel
theorem dX1_dropIfIdle_17 : decode cX1_dropIfIdle 17 = .ok (.getfield 28, 3) := by decide +kernel
theorem dX1_dropIfIdle_20 : decode cX1_dropIfIdle 20 = .ok (.ifnull 11, 3) := by decide +kernel
theorem dX1_dropIfIdle_23 : decode cX1_dropIfIdle 23 = .ok (.aload_n 2, 1) := by decide +kernel
theorem dX1_dropIfIdle_24 : decode cX1_dropIfIdle 24 = .ok (.getfield 31, 3) := by decide +kernel
theorem dX1_dropIfIdle_27 : decode cX1_dropIfIdle 27 = .ok (.ifnull 4, 3) := by decide +kernel
theorem dX1_dropIfIdle_30 : decode cX1_dropIfIdle 30 = .ok (.return_, 1) := by decide +kernel
theorem dX1_dropIfIdle_31 : decode cX1_dropIfIdle 31 = .ok (.aload_n 1, 1) := by decide +kernel
theorem dX1_dropIfIdle_32 : decode cX1_dropIfIdle 32 = .ok (.aload_n 2, 1) := by decide +kernel
theorem dX1_dropIfIdle_33 : decode cX1_dropIfIdle 33 = .ok (.aload_n 2, 1) := by decide +kernel
theorem dX1_dropIfIdle_34 : decode cX1_dropIfIdle 34 = .ok (.getfield 28, 3) := by decide +kernel
theorem dX1_dropIfIdle_37 : decode cX1_dropIfIdle 37 = .ok (.ifnull 10, 3) := by decide +kernel
theorem dX1_dropIfIdle_40 : decode cX1_dropIfIdle 40 = .ok (.aload_n 2, 1) := by decide +kernel
theorem dX1_dropIfIdle_41 : decode cX1_dropIfIdle 41 = .ok (.getfield 28, 3) := by decide +kernel
theorem dX1_dropIfIdle_44 : decode cX1_dropIfIdle 44 = .ok (.goto 7, 3) := by decide +kernel
theorem dX1_dropIfIdle_47 : decode cX1_dropIfIdle 47 = .ok (.aload_n 2, 1) := by decide +kernel
theorem dX1_dropIfIdle_48 : decode cX1_dropIfIdle 48 = .ok (.getfield 31, 3) := by decide +kernel
theorem dX1_dropIfIdle_51 : decode cX1_dropIfIdle 51 = .ok (.invokevirtual 110, 3) := by decide +kernel
theorem dX1_dropIfIdle_54 : decode cX1_dropIfIdle 54 = .ok (.aload_n 0, 1) := by decide +kernel
theorem dX1_dropIfIdle_55 : decode cX1_dropIfIdle 55 = .ok (.dup, 1) := by decide +kernel
theorem dX1_dropIfIdle_56 : decode cX1_dropIfIdle 56 = .ok (.getfield 18, 3) := by decide +kernel
theorem dX1_dropIfIdle_59 : decode cX1_dropIfIdle 59 = .ok (.iconst 1, 1) := by decide +kernel
theorem dX1_dropIfIdle_60 : decode cX1_dropIfIdle 60 = .ok (.isub, 1) := by decide +kernel
theorem dX1_dropIfIdle_61 : decode cX1_dropIfIdle 61 = .ok (.putfield 18, 3) := by decide +kernel
theorem dX1_dropIfIdle_64 : decode cX1_dropIfIdle 64 = .ok (.return_, 1) := by decide +kernel
