theorem dX2_init_0 : decode cX2_init 0 = .ok (.aload_n 0, 1) := by decide +kernel
theorem dX2_init_1 : decode cX2_init 1 = .ok (.invokespecial 1, 3) := by decide +kernel
theorem dX2_init_4 : decode cX2_init 4 = .ok (.aload_n 0, 1) := by decide +kernel
theorem dX2_init_5 : decode cX2_init 5 = .ok (.sipush 500, 3) := by decide +kernel
theorem dX2_init_8 : decode cX2_init 8 = .ok (.newarray .int, 2) := by decide +kernel
theorem dX2_init_10 : decode cX2_init 10 = .ok (.putfield 7, 3) := by decide +kernel
theorem dX2_init_13 : decode cX2_init 13 = .ok (.aload_n 0, 1) := by decide +kernel
theorem dX2_init_14 : decode cX2_init 14 = .ok (.sipush 500, 3) := by decide +kernel
theorem dX2_init_17 : decode cX2_init 17 = .ok (.newarray .int, 2) := by decide +kernel
theorem dX2_init_19 : decode cX2_init 19 = .ok (.putfield 13, 3) := by decide +kernel
theorem dX2_init_22 : decode cX2_init 22 = .ok (.aload_n 0, 1) := by decide +kernel
theorem dX2_init_23 : decode cX2_init 23 = .ok (.sipush 500, 3) := by decide +kernel
theorem dX2_init_26 : decode cX2_init 26 = .ok (.newarray .int, 2) := by decide +kernel
theorem dX2_init_28 : decode cX2_init 28 = .ok (.putfield 16, 3) := by decide +kernel
theorem dX2_init_31 : decode cX2_init 31 = .ok (.aload_n 0, 1) := by decide +kernel
theorem dX2_init_32 : decode cX2_init 32 = .ok (.sipush 1000, 3) := by decide +kernel
theorem dX2_init_35 : decode cX2_init 35 = .ok (.newarray .int, 2) := by decide +kernel
theorem dX2_init_37 : decode cX2_init 37 = .ok (.putfield 19, 3) := by decide +kernel
theorem dX2_init_40 : decode cX2_init 40 = .ok (.aload_n 0, 1) := by decide +kernel
theorem dX2_init_41 : decode cX2_init 41 = .ok (.sipush 1000, 3) := by decide +kernel
theorem dX2_init_44 : decode cX2_init 44 = .ok (.newarray .int, 2) := by decide +kernel
theorem dX2_init_46 : decode cX2_init 46 = .ok (.putfield 22, 3) := by decide +kernel
theorem dX2_init_49 : decode cX2_init 49 = .ok (.return_, 1) := by decide +kernel
theorem dX2_init__0 : decode cX2_init_ 0 = .ok (.aload_n 0, 1) := by decide +kernel
theorem dX2_init__1 : decode cX2_init_ 1 = .ok (.iconst 0, 1) := by decide +kernel
theorem dX2_init__2 : decode cX2_init_ 2 = .ok (.putfield 25, 3) := by decide +kernel
theorem dX2_init__5 : decode cX2_init_ 5 = .ok (.aload_n 0, 1) := by decide +kernel
theorem dX2_init__6 : decode cX2_init_ 6 = .ok (.iconst 0, 1) := by decide +kernel
theorem dX2_init__7 : decode cX2_init_ 7 = .ok (.putfield 29, 3) := by decide +kernel
theorem dX2_init__10 : decode cX2_init_ 10 = .ok (.return_, 1) := by decide +kernel
theorem dX2_mask_0 : decode cX2_mask 0 = .ok (.iload_n 0, 1) := by decide +kernel
theorem dX2_mask_1 : decode cX2_mask 1 = .ok (.ifCond .ne 7, 3) := by decide +kernel
theorem dX2_mask_4 : decode cX2_mask 4 = .ok (.iconst 0, 1) := by decide +kernel
theorem dX2_mask_5 : decode cX2_mask 5 = .ok (.goto 9, 3) := by decide +kernel
theorem dX2_mask_8 : decode cX2_mask 8 = .ok (.iconst (-1), 1) := by decide +kernel
theorem dX2_mask_9 : decode cX2_mask 9 = .ok (.bipush 32, 2) := by decide +kernel
theorem dX2_mask_11 : decode cX2_mask 11 = .ok (.iload_n 0, 1) := by decide +kernel
theorem dX2_mask_12 : decode cX2_mask 12 = .ok (.isub, 1) := by decide +kernel
theorem dX2_mask_13 : decode cX2_mask 13 = .ok (.ishl, 1) := by decide +kernel
theorem dX2_mask_14 : decode cX2_mask 14 = .ok (.ireturn, 1) := by decide +kernel
set_option maxRecDepth 20000 in
theorem ggX2_isPrefix_X2_mask : GoodIn wsX2_isPrefix wsX2_mask := goodIn_r _ [4] (by decide +kernel) (by decide +kernel)
set_option maxRecDepth 20000 in
theorem gX2_isPrefix_X2_mask : GoodIn wsX2_isPrefix (va_wsS RX2 32 yX2_mask wsX2_mask) := goodIn_app (goodIn_of _ (by decide +kernel)) ggX2_isPrefix_X2_mask
theorem dX2_isPrefix_0 : decode cX2_isPrefix 0 = .ok (.iload_n 1, 1) := by decide +kernel
theorem dX2_isPrefix_1 : decode cX2_isPrefix 1 = .ok (.ifCond .lt 38, 3) := by decide +kernel
theorem dX2_isPrefix_4 : decode cX2_isPrefix 4 = .ok (.iload_n 1, 1) := by decide +kernel
theorem dX2_isPrefix_5 : decode cX2_isPrefix 5 = .ok (.bipush 32, 2) := by decide +kernel
theorem dX2_isPrefix_7 : decode cX2_isPrefix 7 = .ok (.if_icmp .gt 32, 3) := by decide +kernel
theorem dX2_isPrefix_10 : decode cX2_isPrefix 10 = .ok (.iload_n 0, 1) := by decide +kernel
theorem dX2_isPrefix_11 : decode cX2_isPrefix 11 = .ok (.iload_n 1, 1) := by decide +kernel
theorem dX2_isPrefix_12 : decode cX2_isPrefix 12 = .ok (.ifCond .lt 9, 3) := by decide +kernel
theorem dX2_isPrefix_15 : decode cX2_isPrefix 15 = .ok (.iload_n 1, 1) := by decide +kernel
theorem dX2_isPrefix_16 : decode cX2_isPrefix 16 = .ok (.bipush 32, 2) := by decide +kernel
theorem dX2_isPrefix_18 : decode cX2_isPrefix 18 = .ok (.if_icmp .le 7, 3) := by decide +kernel
theorem dX2_isPrefix_21 : decode cX2_isPrefix 21 = .ok (.iconst 0, 1) := by decide +kernel
theorem dX2_isPrefix_22 : decode cX2_isPrefix 22 = .ok (.goto 4, 3) := by decide +kernel
theorem dX2_isPrefix_25 : decode cX2_isPrefix 25 = .ok (.iload_n 1, 1) := by decide +kernel
theorem dX2_isPrefix_26 : decode cX2_isPrefix 26 = .ok (.invokestatic 32, 3) := by decide +kernel
theorem dX2_isPrefix_29 : decode cX2_isPrefix 29 = .ok (.iconst (-1), 1) := by decide +kernel
theorem dX2_isPrefix_30 : decode cX2_isPrefix 30 = .ok (.ixor, 1) := by decide +kernel
theorem dX2_isPrefix_31 : decode cX2_isPrefix 31 = .ok (.iand, 1) := by decide +kernel
theorem dX2_isPrefix_32 : decode cX2_isPrefix 32 = .ok (.ifCond .ne 7, 3) := by decide +kernel
theorem dX2_isPrefix_35 : decode cX2_isPrefix 35 = .ok (.iconst 1, 1) := by decide +kernel
theorem dX2_isPrefix_36 : decode cX2_isPrefix 36 = .ok (.goto 4, 3) := by decide +kernel
theorem dX2_isPrefix_39 : decode cX2_isPrefix 39 = .ok (.iconst 0, 1) := by decide +kernel
theorem dX2_isPrefix_40 : decode cX2_isPrefix 40 = .ok (.ireturn, 1) := by decide +kernel
set_option maxRecDepth 20000 in
theorem ggX2_begins_X2_mask : GoodIn wsX2_begins wsX2_mask := goodIn_r _ [4] (by decide +kernel) (by decide +kernel)
set_option maxRecDepth 20000 in
theorem gX2_begins_X2_mask : GoodIn wsX2_begins (va_wsS RX2 32 yX2_mask wsX2_mask) := goodIn_app (goodIn_of _ (by decide +kernel)) ggX2_begins_X2_mask
theorem dX2_begins_0 : decode cX2_begins 0 = .ok (.iload_n 0, 1) := by decide +kernel
theorem dX2_begins_1 : decode cX2_begins 1 = .ok (.iload_n 2, 1) := by decide +kernel
theorem dX2_begins_2 : decode cX2_begins 2 = .ok (.invokestatic 32, 3) := by decide +kernel
theorem dX2_begins_5 : decode cX2_begins 5 = .ok (.iand, 1) := by decide +kernel
theorem dX2_begins_6 : decode cX2_begins 6 = .ok (.iload_n 1, 1) := by decide +kernel
theorem dX2_begins_7 : decode cX2_begins 7 = .ok (.if_icmp .ne 7, 3) := by decide +kernel
theorem dX2_begins_10 : decode cX2_begins 10 = .ok (.iconst 1, 1) := by decide +kernel
theorem dX2_begins_11 : decode cX2_begins 11 = .ok (.goto 4, 3) := by decide +kernel
theorem dX2_begins_14 : decode cX2_begins 14 = .ok (.iconst 0, 1) := by decide +kernel
theorem dX2_begins_15 : decode cX2_begins 15 = .ok (.ireturn, 1) := by decide +kernel
theorem dX2_isBefore_0 : decode cX2_isBefore 0 = .ok (.iload_n 1, 1) := by decide +kernel
theorem dX2_isBefore_1 : decode cX2_isBefore 1 = .ok (.ldc 36, 2) := by decide +kernel
theorem dX2_isBefore_3 : decode cX2_isBefore 3 = .ok (.ixor, 1) := by decide +kernel
theorem dX2_isBefore_4 : decode cX2_isBefore 4 = .ok (.istore 4, 2) := by decide +kernel
theorem dX2_isBefore_6 : decode cX2_isBefore 6 = .ok (.aload_n 0, 1) := by decide +kernel
theorem dX2_isBefore_7 : decode cX2_isBefore 7 = .ok (.getfield 7, 3) := by decide +kernel
theorem dX2_isBefore_10 : decode cX2_isBefore 10 = .ok (.iload_n 3, 1) := by decide +kernel
theorem dX2_isBefore_11 : decode cX2_isBefore 11 = .ok (.iaload, 1) := by decide +kernel
theorem dX2_isBefore_12 : decode cX2_isBefore 12 = .ok (.ldc 36, 2) := by decide +kernel
theorem dX2_isBefore_14 : decode cX2_isBefore 14 = .ok (.ixor, 1) := by decide +kernel
theorem dX2_isBefore_15 : decode cX2_isBefore 15 = .ok (.istore 5, 2) := by decide +kernel
theorem dX2_isBefore_17 : decode cX2_isBefore 17 = .ok (.iload 4, 2) := by decide +kernel
theorem dX2_isBefore_19 : decode cX2_isBefore 19 = .ok (.iload 5, 2) := by decide +kernel
theorem dX2_isBefore_21 : decode cX2_isBefore 21 = .ok (.if_icmp .eq 18, 3) := by decide +kernel
theorem dX2_isBefore_24 : decode cX2_isBefore 24 = .ok (.iload 4, 2) := by decide +kernel
theorem dX2_isBefore_26 : decode cX2_isBefore 26 = .ok (.iload 5, 2) := by decide +kernel
theorem dX2_isBefore_28 : decode cX2_isBefore 28 = .ok (.if_icmp .ge 7, 3) := by decide +kernel
theorem dX2_isBefore_31 : decode cX2_isBefore 31 = .ok (.iconst 1, 1) := by decide +kernel
theorem dX2_isBefore_32 : decode cX2_isBefore 32 = .ok (.goto 22, 3) := by decide +kernel
theorem dX2_isBefore_35 : decode cX2_isBefore 35 = .ok (.iconst 0, 1) := by decide +kernel
theorem dX2_isBefore_36 : decode cX2_isBefore 36 = .ok (.goto 18, 3) := by decide +kernel
theorem dX2_isBefore_39 : decode cX2_isBefore 39 = .ok (.iload_n 2, 1) := by decide +kernel
theorem dX2_isBefore_40 : decode cX2_isBefore 40 = .ok (.aload_n 0, 1) := by decide +kernel
theorem dX2_isBefore_41 : decode cX2_isBefore 41 = .ok (.getfield 13, 3) := by decide +kernel
theorem dX2_isBefore_44 : decode cX2_isBefore 44 = .ok (.iload_n 3, 1) := by decide +kernel
theorem dX2_isBefore_45 : decode cX2_isBefore 45 = .ok (.iaload, 1) := by decide +kernel
theorem dX2_isBefore_46 : decode cX2_isBefore 46 = .ok (.if_icmp .ge 7, 3) := by decide +kernel
theorem dX2_isBefore_49 : decode cX2_isBefore 49 = .ok (.iconst 1, 1) := by decide +kernel
theorem dX2_isBefore_50 : decode cX2_isBefore 50 = .ok (.goto 4, 3) := by decide +kernel
theorem dX2_isBefore_53 : decode cX2_isBefore 53 = .ok (.iconst 0, 1) := by decide +kernel
theorem dX2_isBefore_54 : decode cX2_isBefore 54 = .ok (.ireturn, 1) := by decide +kernel
theorem dX2_find_0 : decode cX2_find 0 = .ok (.iconst 0, 1) := by decide +kernel
theorem dX2_find_1 : decode cX2_find 1 = .ok (.istore_n 3, 1) := by decide +kernel
theorem dX2_find_2 : decode cX2_find 2 = .ok (.iload_n 3, 1) := by decide +kernel
theorem dX2_find_3 : decode cX2_find 3 = .ok (.aload_n 0, 1) := by decide +kernel
theorem dX2_find_4 : decode cX2_find 4 = .ok (.getfield 29, 3) := by decide +kernel
theorem dX2_find_7 : decode cX2_find 7 = .ok (.if_icmp .ge 31, 3) := by decide +kernel
theorem dX2_find_10 : decode cX2_find 10 = .ok (.aload_n 0, 1) := by decide +kernel
theorem dX2_find_11 : decode cX2_find 11 = .ok (.getfield 7, 3) := by decide +kernel
theorem dX2_find_14 : decode cX2_find 14 = .ok (.iload_n 3, 1) := by decide +kernel
theorem dX2_find_15 : decode cX2_find 15 = .ok (.iaload, 1) := by decide +kernel
theorem dX2_find_16 : decode cX2_find 16 = .ok (.iload_n 1, 1) := by decide +kernel
theorem dX2_find_17 : decode cX2_find 17 = .ok (.if_icmp .ne 15, 3) := by decide +kernel
theorem dX2_find_20 : decode cX2_find 20 = .ok (.aload_n 0, 1) := by decide +kernel
theorem dX2_find_21 : decode cX2_find 21 = .ok (.getfield 13, 3) := by decide +kernel
theorem dX2_find_24 : decode cX2_find 24 = .ok (.iload_n 3, 1) := by decide +kernel
theorem dX2_find_25 : decode cX2_find 25 = .ok (.iaload, 1) := by decide +kernel
theorem dX2_find_26 : decode cX2_find 26 = .ok (.iload_n 2, 1) := by decide +kernel
theorem dX2_find_27 : decode cX2_find 27 = .ok (.if_icmp .ne 5, 3) := by decide +kernel
theorem dX2_find_30 : decode cX2_find 30 = .ok (.iload_n 3, 1) := by decide +kernel
theorem dX2_find_31 : decode cX2_find 31 = .ok (.ireturn, 1) := by decide +kernel
theorem dX2_find_32 : decode cX2_find 32 = .ok (.iinc 3 1, 3) := by decide +kernel
theorem dX2_find_35 : decode cX2_find 35 = .ok (.goto (-33), 3) := by decide +kernel
theorem dX2_find_38 : decode cX2_find 38 = .ok (.iconst (-1), 1) := by decide +kernel
theorem dX2_find_39 : decode cX2_find 39 = .ok (.ireturn, 1) := by decide +kernel
set_option maxRecDepth 20000 in
theorem ggX2_insert_X2_isPrefix : GoodIn wsX2_insert wsX2_isPrefix := goodIn_r _ [9, 10, 11, 8, 12] (by decide +kernel) (by decide +kernel)
set_option maxRecDepth 20000 in
theorem gX2_insert_X2_isPrefix : GoodIn wsX2_insert (va_wsS RX2 37 yX2_isPrefix wsX2_isPrefix) := goodIn_app (goodIn_of _ (by decide +kernel)) ggX2_insert_X2_isPrefix
set_option maxRecDepth 20000 in
theorem ggX2_insert_X2_find : GoodIn wsX2_insert wsX2_find := goodIn_r _ [16, 3, 4, 5, 22, 23, 24, 25, 26, 27, 28, 29] (by decide +kernel) (by decide +kernel)
set_option maxRecDepth 20000 in
theorem gX2_insert_X2_find : GoodIn wsX2_insert (wsV RX2 41 RX2 yX2_find wsX2_find) := goodIn_app (goodIn_of _ (by decide +kernel)) ggX2_insert_X2_find
set_option maxRecDepth 20000 in
theorem ggX2_insert_X2_isBefore : GoodIn wsX2_insert wsX2_isBefore := goodIn_r _ [20, 21, 4, 5, 22, 23, 24, 25, 26, 27, 28, 29] (by decide +kernel) (by decide +kernel)
set_option maxRecDepth 20000 in
theorem gX2_insert_X2_isBefore : GoodIn wsX2_insert (wsV RX2 45 RX2 yX2_isBefore wsX2_isBefore) := goodIn_app (goodIn_of _ (by decide +kernel)) ggX2_insert_X2_isBefore
theorem dX2_insert_0 : decode cX2_insert 0 = .ok (.aload_n 0, 1) := by decide +kernel
theorem dX2_insert_1 : decode cX2_insert 1 = .ok (.iconst 0, 1) := by decide +kernel
theorem dX2_insert_2 : decode cX2_insert 2 = .ok (.putfield 25, 3) := by decide +kernel
theorem dX2_insert_5 : decode cX2_insert 5 = .ok (.iload_n 1, 1) := by decide +kernel
theorem dX2_insert_6 : decode cX2_insert 6 = .ok (.iload_n 2, 1) := by decide +kernel
theorem dX2_insert_7 : decode cX2_insert 7 = .ok (.invokestatic 37, 3) := by decide +kernel
theorem dX2_insert_10 : decode cX2_insert 10 = .ok (.ifCond .eq 7, 3) := by decide +kernel
theorem dX2_insert_13 : decode cX2_insert 13 = .ok (.iload_n 3, 1) := by decide +kernel
theorem dX2_insert_14 : decode cX2_insert 14 = .ok (.ifCond .ge 5, 3) := by decide +kernel
theorem dX2_insert_17 : decode cX2_insert 17 = .ok (.iconst (-1), 1) := by decide +kernel
theorem dX2_insert_18 : decode cX2_insert 18 = .ok (.ireturn, 1) := by decide +kernel
theorem dX2_insert_19 : decode cX2_insert 19 = .ok (.aload_n 0, 1) := by decide +kernel
theorem dX2_insert_20 : decode cX2_insert 20 = .ok (.iload_n 1, 1) := by decide +kernel
theorem dX2_insert_21 : decode cX2_insert 21 = .ok (.iload_n 2, 1) := by decide +kernel
theorem dX2_insert_22 : decode cX2_insert 22 = .ok (.invokevirtual 41, 3) := by decide +kernel
theorem dX2_insert_25 : decode cX2_insert 25 = .ok (.istore 4, 2) := by decide +kernel
theorem dX2_insert_27 : decode cX2_insert 27 = .ok (.iload 4, 2) := by decide +kernel
theorem dX2_insert_29 : decode cX2_insert 29 = .ok (.iconst (-1), 1) := by decide +kernel
theorem dX2_insert_30 : decode cX2_insert 30 = .ok (.if_icmp .eq 13, 3) := by decide +kernel
theorem dX2_insert_33 : decode cX2_insert 33 = .ok (.aload_n 0, 1) := by decide +kernel
theorem dX2_insert_34 : decode cX2_insert 34 = .ok (.getfield 16, 3) := by decide +kernel
theorem dX2_insert_37 : decode cX2_insert 37 = .ok (.iload 4, 2) := by decide +kernel
theorem dX2_insert_39 : decode cX2_insert 39 = .ok (.iload_n 3, 1) := by decide +kernel
theorem dX2_insert_40 : decode cX2_insert 40 = .ok (.iastore, 1) := by decide +kernel
theorem dX2_insert_41 : decode cX2_insert 41 = .ok (.iconst 0, 1) := by decide +kernel
theorem dX2_insert_42 : decode cX2_insert 42 = .ok (.ireturn, 1) := by decide +kernel
theorem dX2_insert_43 : decode cX2_insert 43 = .ok (.aload_n 0, 1) := by decide +kernel
theorem dX2_insert_44 : decode cX2_insert 44 = .ok (.getfield 29, 3) := by decide +kernel
theorem dX2_insert_47 : decode cX2_insert 47 = .ok (.sipush 500, 3) := by decide +kernel
theorem dX2_insert_50 : decode cX2_insert 50 = .ok (.if_icmp .ne 6, 3) := by decide +kernel
theorem dX2_insert_53 : decode cX2_insert 53 = .ok (.bipush (-2), 2) := by decide +kernel
theorem dX2_insert_55 : decode cX2_insert 55 = .ok (.ireturn, 1) := by decide +kernel
theorem dX2_insert_56 : decode cX2_insert 56 = .ok (.aload_n 0, 1) := by decide +kernel
theorem dX2_insert_57 : decode cX2_insert 57 = .ok (.getfield 29, 3) := by decide +kernel
theorem dX2_insert_60 : decode cX2_insert 60 = .ok (.istore 5, 2) := by decide +kernel
theorem dX2_insert_62 : decode cX2_insert 62 = .ok (.iload 5, 2) := by decide +kernel
theorem dX2_insert_64 : decode cX2_insert 64 = .ok (.ifCond .le 70, 3) := by decide +kernel
theorem dX2_insert_67 : decode cX2_insert 67 = .ok (.aload_n 0, 1) := by decide +kernel
theorem dX2_insert_68 : decode cX2_insert 68 = .ok (.iload_n 1, 1) := by decide +kernel
theorem dX2_insert_69 : decode cX2_insert 69 = .ok (.iload_n 2, 1) := by decide +kernel
theorem dX2_insert_70 : decode cX2_insert 70 = .ok (.iload 5, 2) := by decide +kernel
theorem dX2_insert_72 : decode cX2_insert 72 = .ok (.iconst 1, 1) := by decide +kernel
theorem dX2_insert_73 : decode cX2_insert 73 = .ok (.isub, 1) := by decide +kernel
theorem dX2_insert_74 : decode cX2_insert 74 = .ok (.invokevirtual 45, 3) := by decide +kernel
theorem dX2_insert_77 : decode cX2_insert 77 = .ok (.ifCond .eq 57, 3) := by decide +kernel
theorem dX2_insert_80 : decode cX2_insert 80 = .ok (.aload_n 0, 1) := by decide +kernel
theorem dX2_insert_81 : decode cX2_insert 81 = .ok (.getfield 7, 3) := by decide +kernel
theorem dX2_insert_84 : decode cX2_insert 84 = .ok (.iload 5, 2) := by decide +kernel
theorem dX2_insert_86 : decode cX2_insert 86 = .ok (.aload_n 0, 1) := by decide +kernel
theorem dX2_insert_87 : decode cX2_insert 87 = .ok (.getfield 7, 3) := by decide +kernel
theorem dX2_insert_90 : decode cX2_insert 90 = .ok (.iload 5, 2) := by decide +kernel
theorem dX2_insert_92 : decode cX2_insert 92 = .ok (.iconst 1, 1) := by decide +kernel
theorem dX2_insert_93 : decode cX2_insert 93 = .ok (.isub, 1) := by decide +kernel
theorem dX2_insert_94 : decode cX2_insert 94 = .ok (.iaload, 1) := by decide +kernel
theorem dX2_insert_95 : decode cX2_insert 95 = .ok (.iastore, 1) := by decide +kernel
theorem dX2_insert_96 : decode cX2_insert 96 = .ok (.aload_n 0, 1) := by decide +kernel
theorem dX2_insert_97 : decode cX2_insert 97 = .ok (.getfield 13, 3) := by decide +kernel
theorem dX2_insert_100 : decode cX2_insert 100 = .ok (.iload 5, 2) := by decide +kernel
theorem dX2_insert_102 : decode cX2_insert 102 = .ok (.aload_n 0, 1) := by decide +kernel
theorem dX2_insert_103 : decode cX2_insert 103 = .ok (.getfield 13, 3) := by decide +kernel
theorem dX2_insert_106 : decode cX2_insert 106 = .ok (.iload 5, 2) := by decide +kernel
theorem dX2_insert_108 : decode cX2_insert 108 = .ok (.iconst 1, 1) := by decide +kernel
theorem dX2_insert_109 : decode cX2_insert 109 = .ok (.isub, 1) := by decide +kernel
theorem dX2_insert_110 : decode cX2_insert 110 = .ok (.iaload, 1) := by decide +kernel
theorem dX2_insert_111 : decode cX2_insert 111 = .ok (.iastore, 1) := by decide +kernel
theorem dX2_insert_112 : decode cX2_insert 112 = .ok (.aload_n 0, 1) := by decide +kernel
theorem dX2_insert_113 : decode cX2_insert 113 = .ok (.getfield 16, 3) := by decide +kernel
theorem dX2_insert_116 : decode cX2_insert 116 = .ok (.iload 5, 2) := by decide +kernel
theorem dX2_insert_118 : decode cX2_insert 118 = .ok (.aload_n 0, 1) := by decide +kernel
theorem dX2_insert_119 : decode cX2_insert 119 = .ok (.getfield 16, 3) := by decide +kernel
theorem dX2_insert_122 : decode cX2_insert 122 = .ok (.iload 5, 2) := by decide +kernel
theorem dX2_insert_124 : decode cX2_insert 124 = .ok (.iconst 1, 1) := by decide +kernel
theorem dX2_insert_125 : decode cX2_insert 125 = .ok (.isub, 1) := by decide +kernel
theorem dX2_insert_126 : decode cX2_insert 126 = .ok (.iaload, 1) := by decide +kernel
theorem dX2_insert_127 : decode cX2_insert 127 = .ok (.iastore, 1) := by decide +kernel
theorem dX2_insert_128 : decode cX2_insert 128 = .ok (.iinc 5 (-1), 3) := by decide +kernel
theorem dX2_insert_131 : decode cX2_insert 131 = .ok (.goto (-69), 3) := by decide +kernel
theorem dX2_insert_134 : decode cX2_insert 134 = .ok (.aload_n 0, 1) := by decide +kernel
theorem dX2_insert_135 : decode cX2_insert 135 = .ok (.getfield 7, 3) := by decide +kernel
theorem dX2_insert_138 : decode cX2_insert 138 = .ok (.iload 5, 2) := by decide +kernel
theorem dX2_insert_140 : decode cX2_insert 140 = .ok (.iload_n 1, 1) := by decide +kernel
theorem dX2_insert_141 : decode cX2_insert 141 = .ok (.iastore, 1) := by decide +kernel
theorem dX2_insert_142 : decode cX2_insert 142 = .ok (.aload_n 0, 1) := by decide +kernel
theorem dX2_insert_143 : decode cX2_insert 143 = .ok (.getfield 13, 3) := by decide +kernel
theorem dX2_insert_146 : decode cX2_insert 146 = .ok (.iload 5, 2) := by decide +kernel
theorem dX2_insert_148 : decode cX2_insert 148 = .ok (.iload_n 2, 1) := by decide +kernel
theorem dX2_insert_149 : decode cX2_insert 149 = .ok (.iastore, 1) := by decide +kernel
theorem dX2_insert_150 : decode cX2_insert 150 = .ok (.aload_n 0, 1) := by decide +kernel
theorem dX2_insert_151 : decode cX2_insert 151 = .ok (.getfield 16, 3) := by decide +kernel
theorem dX2_insert_154 : decode cX2_insert 154 = .ok (.iload 5, 2) := by decide +kernel
theorem dX2_insert_156 : decode cX2_insert 156 = .ok (.iload_n 3, 1) := by decide +kernel
theorem dX2_insert_157 : decode cX2_insert 157 = .ok (.iastore, 1) := by decide +kernel
theorem dX2_insert_158 : decode cX2_insert 158 = .ok (.aload_n 0, 1) := by decide +kernel
theorem dX2_insert_159 : decode cX2_insert 159 = .ok (.dup, 1) := by decide +kernel
theorem dX2_insert_160 : decode cX2_insert 160 = .ok (.getfield 29, 3) := by decide +kernel
theorem dX2_insert_163 : decode cX2_insert 163 = .ok (.iconst 1, 1) := by decide +kernel
theorem dX2_insert_164 : decode cX2_insert 164 = .ok (.iadd, 1) := by decide +kernel
theorem dX2_insert_165 : decode cX2_insert 165 = .ok (.putfield 29, 3) := by decide +kernel
theorem dX2_insert_168 : decode cX2_insert 168 = .ok (.iconst 1, 1) := by decide +kernel
theorem dX2_insert_169 : decode cX2_insert 169 = .ok (.ireturn, 1) := by decide +kernel
set_option maxRecDepth 20000 in
theorem ggX2_remove_X2_find : GoodIn wsX2_remove wsX2_find := goodIn_r _ [10, 2, 3, 4, 11, 12, 13, 14, 15, 16, 17, 18] (by decide +kernel) (by decide +kernel)
set_option maxRecDepth 20000 in
theorem gX2_remove_X2_find : GoodIn wsX2_remove (wsV RX2 41 RX2 yX2_find wsX2_find) := goodIn_app (goodIn_of _ (by decide +kernel)) ggX2_remove_X2_find
theorem dX2_remove_0 : decode cX2_remove 0 = .ok (.aload_n 0, 1) := by decide +kernel
theorem dX2_remove_1 : decode cX2_remove 1 = .ok (.iconst 0, 1) := by decide +kernel
theorem dX2_remove_2 : decode cX2_remove 2 = .ok (.putfield 25, 3) := by decide +kernel
theorem dX2_remove_5 : decode cX2_remove 5 = .ok (.aload_n 0, 1) := by decide +kernel
theorem dX2_remove_6 : decode cX2_remove 6 = .ok (.iload_n 1, 1) := by decide +kernel
theorem dX2_remove_7 : decode cX2_remove 7 = .ok (.iload_n 2, 1) := by decide +kernel
theorem dX2_remove_8 : decode cX2_remove 8 = .ok (.invokevirtual 41, 3) := by decide +kernel
theorem dX2_remove_11 : decode cX2_remove 11 = .ok (.istore_n 3, 1) := by decide +kernel
theorem dX2_remove_12 : decode cX2_remove 12 = .ok (.iload_n 3, 1) := by decide +kernel
theorem dX2_remove_13 : decode cX2_remove 13 = .ok (.iconst (-1), 1) := by decide +kernel
theorem dX2_remove_14 : decode cX2_remove 14 = .ok (.if_icmp .ne 5, 3) := by decide +kernel
theorem dX2_remove_17 : decode cX2_remove 17 = .ok (.iconst 0, 1) := by decide +kernel
theorem dX2_remove_18 : decode cX2_remove 18 = .ok (.ireturn, 1) := by decide +kernel
theorem dX2_remove_19 : decode cX2_remove 19 = .ok (.iload_n 3, 1) := by decide +kernel
theorem dX2_remove_20 : decode cX2_remove 20 = .ok (.istore 4, 2) := by decide +kernel
theorem dX2_remove_22 : decode cX2_remove 22 = .ok (.iload 4, 2) := by decide +kernel
theorem dX2_remove_24 : decode cX2_remove 24 = .ok (.iconst 1, 1) := by decide +kernel
theorem dX2_remove_25 : decode cX2_remove 25 = .ok (.iadd, 1) := by decide +kernel
theorem dX2_remove_26 : decode cX2_remove 26 = .ok (.aload_n 0, 1) := by decide +kernel
theorem dX2_remove_27 : decode cX2_remove 27 = .ok (.getfield 29, 3) := by decide +kernel
theorem dX2_remove_30 : decode cX2_remove 30 = .ok (.if_icmp .ge 57, 3) := by decide +kernel
theorem dX2_remove_33 : decode cX2_remove 33 = .ok (.aload_n 0, 1) := by decide +kernel
theorem dX2_remove_34 : decode cX2_remove 34 = .ok (.getfield 7, 3) := by decide +kernel
theorem dX2_remove_37 : decode cX2_remove 37 = .ok (.iload 4, 2) := by decide +kernel
theorem dX2_remove_39 : decode cX2_remove 39 = .ok (.aload_n 0, 1) := by decide +kernel
theorem dX2_remove_40 : decode cX2_remove 40 = .ok (.getfield 7, 3) := by decide +kernel
theorem dX2_remove_43 : decode cX2_remove 43 = .ok (.iload 4, 2) := by decide +kernel
theorem dX2_remove_45 : decode cX2_remove 45 = .ok (.iconst 1, 1) := by decide +kernel
theorem dX2_remove_46 : decode cX2_remove 46 = .ok (.iadd, 1) := by decide +kernel
theorem dX2_remove_47 : decode cX2_remove 47 = .ok (.iaload, 1) := by decide +kernel
theorem dX2_remove_48 : decode cX2_remove 48 = .ok (.iastore, 1) := by decide +kernel
theorem dX2_remove_49 : decode cX2_remove 49 = .ok (.aload_n 0, 1) := by decide +kernel
theorem dX2_remove_50 : decode cX2_remove 50 = .ok (.getfield 13, 3) := by decide +kernel
theorem dX2_remove_53 : decode cX2_remove 53 = .ok (.iload 4, 2) := by decide +kernel
theorem dX2_remove_55 : decode cX2_remove 55 = .ok (.aload_n 0, 1) := by decide +kernel
theorem dX2_remove_56 : decode cX2_remove 56 = .ok (.getfield 13, 3) := by decide +kernel
theorem dX2_remove_59 : decode cX2_remove 59 = .ok (.iload 4, 2) := by decide +kernel
theorem dX2_remove_61 : decode cX2_remove 61 = .ok (.iconst 1, 1) := by decide +kernel
theorem dX2_remove_62 : decode cX2_remove 62 = .ok (.iadd, 1) := by decide +kernel
theorem dX2_remove_63 : decode cX2_remove 63 = .ok (.iaload, 1) := by decide +kernel
theorem dX2_remove_64 : decode cX2_remove 64 = .ok (.iastore, 1) := by decide +kernel
theorem dX2_remove_65 : decode cX2_remove 65 = .ok (.aload_n 0, 1) := by decide +kernel
theorem dX2_remove_66 : decode cX2_remove 66 = .ok (.getfield 16, 3) := by decide +kernel
theorem dX2_remove_69 : decode cX2_remove 69 = .ok (.iload 4, 2) := by decide +kernel
theorem dX2_remove_71 : decode cX2_remove 71 = .ok (.aload_n 0, 1) := by decide +kernel
theorem dX2_remove_72 : decode cX2_remove 72 = .ok (.getfield 16, 3) := by decide +kernel
theorem dX2_remove_75 : decode cX2_remove 75 = .ok (.iload 4, 2) := by decide +kernel
theorem dX2_remove_77 : decode cX2_remove 77 = .ok (.iconst 1, 1) := by decide +kernel
theorem dX2_remove_78 : decode cX2_remove 78 = .ok (.iadd, 1) := by decide +kernel
theorem dX2_remove_79 : decode cX2_remove 79 = .ok (.iaload, 1) := by decide +kernel
theorem dX2_remove_80 : decode cX2_remove 80 = .ok (.iastore, 1) := by decide +kernel
theorem dX2_remove_81 : decode cX2_remove 81 = .ok (.iinc 4 1, 3) := by decide +kernel
theorem dX2_remove_84 : decode cX2_remove 84 = .ok (.goto (-62), 3) := by decide +kernel
theorem dX2_remove_87 : decode cX2_remove 87 = .ok (.aload_n 0, 1) := by decide +kernel
theorem dX2_remove_88 : decode cX2_remove 88 = .ok (.dup, 1) := by decide +kernel
theorem dX2_remove_89 : decode cX2_remove 89 = .ok (.getfield 29, 3) := by decide +kernel
theorem dX2_remove_92 : decode cX2_remove 92 = .ok (.iconst 1, 1) := by decide +kernel
theorem dX2_remove_93 : decode cX2_remove 93 = .ok (.isub, 1) := by decide +kernel
theorem dX2_remove_94 : decode cX2_remove 94 = .ok (.putfield 29, 3) := by decide +kernel
theorem dX2_remove_97 : decode cX2_remove 97 = .ok (.iconst 1, 1) := by decide +kernel
theorem dX2_remove_98 : decode cX2_remove 98 = .ok (.ireturn, 1) := by decide +kernel
set_option maxRecDepth 20000 in
theorem ggX2_longest_X2_begins : GoodIn wsX2_longest wsX2_begins := goodIn_r _ [7, 8, 9, 6, 10] (by decide +kernel) (by decide +kernel)
set_option maxRecDepth 20000 in
theorem gX2_longest_X2_begins : GoodIn wsX2_longest (va_wsS RX2 49 yX2_begins wsX2_begins) := goodIn_app (goodIn_of _ (by decide +kernel)) ggX2_longest_X2_begins
theorem dX2_longest_0 : decode cX2_longest 0 = .ok (.iconst (-1), 1) := by decide +kernel
theorem dX2_longest_1 : decode cX2_longest 1 = .ok (.istore_n 2, 1) := by decide +kernel
theorem dX2_longest_2 : decode cX2_longest 2 = .ok (.iconst 0, 1) := by decide +kernel
theorem dX2_longest_3 : decode cX2_longest 3 = .ok (.istore_n 3, 1) := by decide +kernel
theorem dX2_longest_4 : decode cX2_longest 4 = .ok (.iload_n 3, 1) := by decide +kernel
theorem dX2_longest_5 : decode cX2_longest 5 = .ok (.aload_n 0, 1) := by decide +kernel
theorem dX2_longest_6 : decode cX2_longest 6 = .ok (.getfield 29, 3) := by decide +kernel
theorem dX2_longest_9 : decode cX2_longest 9 = .ok (.if_icmp .ge 50, 3) := by decide +kernel
theorem dX2_longest_12 : decode cX2_longest 12 = .ok (.iload_n 1, 1) := by decide +kernel
theorem dX2_longest_13 : decode cX2_longest 13 = .ok (.aload_n 0, 1) := by decide +kernel
theorem dX2_longest_14 : decode cX2_longest 14 = .ok (.getfield 7, 3) := by decide +kernel
theorem dX2_longest_17 : decode cX2_longest 17 = .ok (.iload_n 3, 1) := by decide +kernel
theorem dX2_longest_18 : decode cX2_longest 18 = .ok (.iaload, 1) := by decide +kernel
theorem dX2_longest_19 : decode cX2_longest 19 = .ok (.aload_n 0, 1) := by decide +kernel
theorem dX2_longest_20 : decode cX2_longest 20 = .ok (.getfield 13, 3) := by decide +kernel
theorem dX2_longest_23 : decode cX2_longest 23 = .ok (.iload_n 3, 1) := by decide +kernel
theorem dX2_longest_24 : decode cX2_longest 24 = .ok (.iaload, 1) := by decide +kernel
theorem dX2_longest_25 : decode cX2_longest 25 = .ok (.invokestatic 49, 3) := by decide +kernel
theorem dX2_longest_28 : decode cX2_longest 28 = .ok (.ifCond .eq 25, 3) := by decide +kernel
theorem dX2_longest_31 : decode cX2_longest 31 = .ok (.iload_n 2, 1) := by decide +kernel
theorem dX2_longest_32 : decode cX2_longest 32 = .ok (.iconst (-1), 1) := by decide +kernel
theorem dX2_longest_33 : decode cX2_longest 33 = .ok (.if_icmp .eq 18, 3) := by decide +kernel
theorem dX2_longest_36 : decode cX2_longest 36 = .ok (.aload_n 0, 1) := by decide +kernel
theorem dX2_longest_37 : decode cX2_longest 37 = .ok (.getfield 13, 3) := by decide +kernel
theorem dX2_longest_40 : decode cX2_longest 40 = .ok (.iload_n 3, 1) := by decide +kernel
theorem dX2_longest_41 : decode cX2_longest 41 = .ok (.iaload, 1) := by decide +kernel
theorem dX2_longest_42 : decode cX2_longest 42 = .ok (.aload_n 0, 1) := by decide +kernel
theorem dX2_longest_43 : decode cX2_longest 43 = .ok (.getfield 13, 3) := by decide +kernel
theorem dX2_longest_46 : decode cX2_longest 46 = .ok (.iload_n 2, 1) := by decide +kernel
theorem dX2_longest_47 : decode cX2_longest 47 = .ok (.iaload, 1) := by decide +kernel
theorem dX2_longest_48 : decode cX2_longest 48 = .ok (.if_icmp .le 5, 3) := by decide +kernel
theorem dX2_longest_51 : decode cX2_longest 51 = .ok (.iload_n 3, 1) := by decide +kernel
theorem dX2_longest_52 : decode cX2_longest 52 = .ok (.istore_n 2, 1) := by decide +kernel
theorem dX2_longest_53 : decode cX2_longest 53 = .ok (.iinc 3 1, 3) := by decide +kernel
theorem dX2_longest_56 : decode cX2_longest 56 = .ok (.goto (-52), 3) := by decide +kernel
theorem dX2_longest_59 : decode cX2_longest 59 = .ok (.iload_n 2, 1) := by decide +kernel
theorem dX2_longest_60 : decode cX2_longest 60 = .ok (.ireturn, 1) := by decide +kernel
set_option maxRecDepth 20000 in
theorem ggX2_lookup_X2_longest : GoodIn wsX2_lookup wsX2_longest := goodIn_r _ [7, 8, 9, 10, 11, 12, 6, 13, 14, 15, 16, 17, 18, 19, 20, 21, 22, 23, 24] (by decide +kernel) (by decide +kernel)
set_option maxRecDepth 20000 in
theorem gX2_lookup_X2_longest : GoodIn wsX2_lookup (wsV RX2 52 RX2 yX2_longest wsX2_longest) := goodIn_app (goodIn_of _ (by decide +kernel)) ggX2_lookup_X2_longest
theorem dX2_lookup_0 : decode cX2_lookup 0 = .ok (.aload_n 0, 1) := by decide +kernel
theorem dX2_lookup_1 : decode cX2_lookup 1 = .ok (.iconst 0, 1) := by decide +kernel
theorem dX2_lookup_2 : decode cX2_lookup 2 = .ok (.putfield 25, 3) := by decide +kernel
theorem dX2_lookup_5 : decode cX2_lookup 5 = .ok (.aload_n 0, 1) := by decide +kernel
theorem dX2_lookup_6 : decode cX2_lookup 6 = .ok (.iload_n 1, 1) := by decide +kernel
theorem dX2_lookup_7 : decode cX2_lookup 7 = .ok (.invokevirtual 52, 3) := by decide +kernel
theorem dX2_lookup_10 : decode cX2_lookup 10 = .ok (.istore_n 2, 1) := by decide +kernel
theorem dX2_lookup_11 : decode cX2_lookup 11 = .ok (.iload_n 2, 1) := by decide +kernel
theorem dX2_lookup_12 : decode cX2_lookup 12 = .ok (.iconst (-1), 1) := by decide +kernel
theorem dX2_lookup_13 : decode cX2_lookup 13 = .ok (.if_icmp .ne 7, 3) := by decide +kernel
theorem dX2_lookup_16 : decode cX2_lookup 16 = .ok (.iconst (-1), 1) := by decide +kernel
theorem dX2_lookup_17 : decode cX2_lookup 17 = .ok (.goto 9, 3) := by decide +kernel
theorem dX2_lookup_20 : decode cX2_lookup 20 = .ok (.aload_n 0, 1) := by decide +kernel
theorem dX2_lookup_21 : decode cX2_lookup 21 = .ok (.getfield 16, 3) := by decide +kernel
theorem dX2_lookup_24 : decode cX2_lookup 24 = .ok (.iload_n 2, 1) := by decide +kernel
theorem dX2_lookup_25 : decode cX2_lookup 25 = .ok (.iaload, 1) := by decide +kernel
theorem dX2_lookup_26 : decode cX2_lookup 26 = .ok (.ireturn, 1) := by decide +kernel
set_option maxRecDepth 20000 in
theorem ggX2_lookupLen_X2_longest : GoodIn wsX2_lookupLen wsX2_longest := goodIn_r _ [7, 8, 9, 2, 10, 11, 6, 12, 13, 14, 15, 16, 17, 18, 19, 20, 21, 22, 23] (by decide +kernel) (by decide +kernel)
set_option maxRecDepth 20000 in
theorem gX2_lookupLen_X2_longest : GoodIn wsX2_lookupLen (wsV RX2 52 RX2 yX2_longest wsX2_longest) := goodIn_app (goodIn_of _ (by decide +kernel)) ggX2_lookupLen_X2_longest
theorem dX2_lookupLen_0 : decode cX2_lookupLen 0 = .ok (.aload_n 0, 1) := by decide +kernel
theorem dX2_lookupLen_1 : decode cX2_lookupLen 1 = .ok (.iconst 0, 1) := by decide +kernel
theorem dX2_lookupLen_2 : decode cX2_lookupLen 2 = .ok (.putfield 25, 3) := by decide +kernel
theorem dX2_lookupLen_5 : decode cX2_lookupLen 5 = .ok (.aload_n 0, 1) := by decide +kernel
theorem dX2_lookupLen_6 : decode cX2_lookupLen 6 = .ok (.iload_n 1, 1) := by decide +kernel
theorem dX2_lookupLen_7 : decode cX2_lookupLen 7 = .ok (.invokevirtual 52, 3) := by decide +kernel
theorem dX2_lookupLen_10 : decode cX2_lookupLen 10 = .ok (.istore_n 2, 1) := by decide +kernel
theorem dX2_lookupLen_11 : decode cX2_lookupLen 11 = .ok (.iload_n 2, 1) := by decide +kernel
theorem dX2_lookupLen_12 : decode cX2_lookupLen 12 = .ok (.iconst (-1), 1) := by decide +kernel
theorem dX2_lookupLen_13 : decode cX2_lookupLen 13 = .ok (.if_icmp .ne 7, 3) := by decide +kernel
theorem dX2_lookupLen_16 : decode cX2_lookupLen 16 = .ok (.iconst (-1), 1) := by decide +kernel
theorem dX2_lookupLen_17 : decode cX2_lookupLen 17 = .ok (.goto 9, 3) := by decide +kernel
theorem dX2_lookupLen_20 : decode cX2_lookupLen 20 = .ok (.aload_n 0, 1) := by decide +kernel
theorem dX2_lookupLen_21 : decode cX2_lookupLen 21 = .ok (.getfield 13, 3) := by decide +kernel
theorem dX2_lookupLen_24 : decode cX2_lookupLen 24 = .ok (.iload_n 2, 1) := by decide +kernel
theorem dX2_lookupLen_25 : decode cX2_lookupLen 25 = .ok (.iaload, 1) := by decide +kernel
theorem dX2_lookupLen_26 : decode cX2_lookupLen 26 = .ok (.ireturn, 1) := by decide +kernel
set_option maxRecDepth 20000 in
theorem ggX2_exact_X2_find : GoodIn wsX2_exact wsX2_find := goodIn_r _ [7, 8, 9, 10, 11, 12, 13, 14, 15, 16, 17, 18] (by decide +kernel) (by decide +kernel)
set_option maxRecDepth 20000 in
theorem gX2_exact_X2_find : GoodIn wsX2_exact (wsV RX2 41 RX2 yX2_find wsX2_find) := goodIn_app (goodIn_of _ (by decide +kernel)) ggX2_exact_X2_find
theorem dX2_exact_0 : decode cX2_exact 0 = .ok (.aload_n 0, 1) := by decide +kernel
theorem dX2_exact_1 : decode cX2_exact 1 = .ok (.iconst 0, 1) := by decide +kernel
theorem dX2_exact_2 : decode cX2_exact 2 = .ok (.putfield 25, 3) := by decide +kernel
theorem dX2_exact_5 : decode cX2_exact 5 = .ok (.aload_n 0, 1) := by decide +kernel
theorem dX2_exact_6 : decode cX2_exact 6 = .ok (.iload_n 1, 1) := by decide +kernel
theorem dX2_exact_7 : decode cX2_exact 7 = .ok (.iload_n 2, 1) := by decide +kernel
theorem dX2_exact_8 : decode cX2_exact 8 = .ok (.invokevirtual 41, 3) := by decide +kernel
theorem dX2_exact_11 : decode cX2_exact 11 = .ok (.istore_n 3, 1) := by decide +kernel
theorem dX2_exact_12 : decode cX2_exact 12 = .ok (.iload_n 3, 1) := by decide +kernel
theorem dX2_exact_13 : decode cX2_exact 13 = .ok (.iconst (-1), 1) := by decide +kernel
theorem dX2_exact_14 : decode cX2_exact 14 = .ok (.if_icmp .ne 7, 3) := by decide +kernel
theorem dX2_exact_17 : decode cX2_exact 17 = .ok (.iconst (-1), 1) := by decide +kernel
theorem dX2_exact_18 : decode cX2_exact 18 = .ok (.goto 9, 3) := by decide +kernel
theorem dX2_exact_21 : decode cX2_exact 21 = .ok (.aload_n 0, 1) := by decide +kernel
theorem dX2_exact_22 : decode cX2_exact 22 = .ok (.getfield 16, 3) := by decide +kernel
theorem dX2_exact_25 : decode cX2_exact 25 = .ok (.iload_n 3, 1) := by decide +kernel
theorem dX2_exact_26 : decode cX2_exact 26 = .ok (.iaload, 1) := by decide +kernel
theorem dX2_exact_27 : decode cX2_exact 27 = .ok (.ireturn, 1) := by decide +kernel
set_option maxRecDepth 20000 in
theorem ggX2_under_X2_isPrefix : GoodIn wsX2_under wsX2_isPrefix := goodIn_r _ [8, 9, 10, 7, 11] (by decide +kernel) (by decide +kernel)
set_option maxRecDepth 20000 in
theorem gX2_under_X2_isPrefix : GoodIn wsX2_under (va_wsS RX2 37 yX2_isPrefix wsX2_isPrefix) := goodIn_app (goodIn_of _ (by decide +kernel)) ggX2_under_X2_isPrefix
set_option maxRecDepth 20000 in
theorem ggX2_under_X2_begins : GoodIn wsX2_under wsX2_begins := goodIn_r _ [14, 9, 10, 7, 11] (by decide +kernel) (by decide +kernel)
set_option maxRecDepth 20000 in
theorem gX2_under_X2_begins : GoodIn wsX2_under (va_wsS RX2 49 yX2_begins wsX2_begins) := goodIn_app (goodIn_of _ (by decide +kernel)) ggX2_under_X2_begins
theorem dX2_under_0 : decode cX2_under 0 = .ok (.aload_n 0, 1) := by decide +kernel
theorem dX2_under_1 : decode cX2_under 1 = .ok (.iconst 0, 1) := by decide +kernel
theorem dX2_under_2 : decode cX2_under 2 = .ok (.putfield 25, 3) := by decide +kernel
theorem dX2_under_5 : decode cX2_under 5 = .ok (.iload_n 1, 1) := by decide +kernel
theorem dX2_under_6 : decode cX2_under 6 = .ok (.iload_n 2, 1) := by decide +kernel
theorem dX2_under_7 : decode cX2_under 7 = .ok (.invokestatic 37, 3) := by decide +kernel
theorem dX2_under_10 : decode cX2_under 10 = .ok (.ifCond .ne 5, 3) := by decide +kernel
theorem dX2_under_13 : decode cX2_under 13 = .ok (.iconst (-1), 1) := by decide +kernel
theorem dX2_under_14 : decode cX2_under 14 = .ok (.ireturn, 1) := by decide +kernel
theorem dX2_under_15 : decode cX2_under 15 = .ok (.iconst 0, 1) := by decide +kernel
theorem dX2_under_16 : decode cX2_under 16 = .ok (.istore_n 3, 1) := by decide +kernel
theorem dX2_under_17 : decode cX2_under 17 = .ok (.iconst 0, 1) := by decide +kernel
theorem dX2_under_18 : decode cX2_under 18 = .ok (.istore 4, 2) := by decide +kernel
theorem dX2_under_20 : decode cX2_under 20 = .ok (.iload 4, 2) := by decide +kernel
theorem dX2_under_22 : decode cX2_under 22 = .ok (.aload_n 0, 1) := by decide +kernel
theorem dX2_under_23 : decode cX2_under 23 = .ok (.getfield 29, 3) := by decide +kernel
theorem dX2_under_26 : decode cX2_under 26 = .ok (.if_icmp .ge 43, 3) := by decide +kernel
theorem dX2_under_29 : decode cX2_under 29 = .ok (.iload_n 3, 1) := by decide +kernel
theorem dX2_under_30 : decode cX2_under 30 = .ok (.aload_n 0, 1) := by decide +kernel
theorem dX2_under_31 : decode cX2_under 31 = .ok (.getfield 13, 3) := by decide +kernel
theorem dX2_under_34 : decode cX2_under 34 = .ok (.iload 4, 2) := by decide +kernel
theorem dX2_under_36 : decode cX2_under 36 = .ok (.iaload, 1) := by decide +kernel
theorem dX2_under_37 : decode cX2_under 37 = .ok (.iload_n 2, 1) := by decide +kernel
theorem dX2_under_38 : decode cX2_under 38 = .ok (.if_icmp .lt 22, 3) := by decide +kernel
theorem dX2_under_41 : decode cX2_under 41 = .ok (.aload_n 0, 1) := by decide +kernel
theorem dX2_under_42 : decode cX2_under 42 = .ok (.getfield 7, 3) := by decide +kernel
theorem dX2_under_45 : decode cX2_under 45 = .ok (.iload 4, 2) := by decide +kernel
theorem dX2_under_47 : decode cX2_under 47 = .ok (.iaload, 1) := by decide +kernel
theorem dX2_under_48 : decode cX2_under 48 = .ok (.iload_n 1, 1) := by decide +kernel
theorem dX2_under_49 : decode cX2_under 49 = .ok (.iload_n 2, 1) := by decide +kernel
theorem dX2_under_50 : decode cX2_under 50 = .ok (.invokestatic 49, 3) := by decide +kernel
theorem dX2_under_53 : decode cX2_under 53 = .ok (.ifCond .eq 7, 3) := by decide +kernel
theorem dX2_under_56 : decode cX2_under 56 = .ok (.iconst 1, 1) := by decide +kernel
theorem dX2_under_57 : decode cX2_under 57 = .ok (.goto 4, 3) := by decide +kernel
theorem dX2_under_60 : decode cX2_under 60 = .ok (.iconst 0, 1) := by decide +kernel
theorem dX2_under_61 : decode cX2_under 61 = .ok (.iadd, 1) := by decide +kernel
theorem dX2_under_62 : decode cX2_under 62 = .ok (.istore_n 3, 1) := by decide +kernel
theorem dX2_under_63 : decode cX2_under 63 = .ok (.iinc 4 1, 3) := by decide +kernel
theorem dX2_under_66 : decode cX2_under 66 = .ok (.goto (-46), 3) := by decide +kernel
theorem dX2_under_69 : decode cX2_under 69 = .ok (.iload_n 3, 1) := by decide +kernel
theorem dX2_under_70 : decode cX2_under 70 = .ok (.ireturn, 1) := by decide +kernel
theorem dX2_route_0 : decode cX2_route 0 = .ok (.aload_n 0, 1) := by decide +kernel
theorem dX2_route_1 : decode cX2_route 1 = .ok (.iconst 0, 1) := by decide +kernel
theorem dX2_route_2 : decode cX2_route 2 = .ok (.putfield 25, 3) := by decide +kernel
theorem dX2_route_5 : decode cX2_route 5 = .ok (.iload_n 1, 1) := by decide +kernel
theorem dX2_route_6 : decode cX2_route 6 = .ok (.ifCond .lt 11, 3) := by decide +kernel
theorem dX2_route_9 : decode cX2_route 9 = .ok (.iload_n 1, 1) := by decide +kernel
theorem dX2_route_10 : decode cX2_route 10 = .ok (.aload_n 0, 1) := by decide +kernel
theorem dX2_route_11 : decode cX2_route 11 = .ok (.getfield 29, 3) := by decide +kernel
theorem dX2_route_14 : decode cX2_route 14 = .ok (.if_icmp .lt 5, 3) := by decide +kernel
theorem dX2_route_17 : decode cX2_route 17 = .ok (.iconst 0, 1) := by decide +kernel
theorem dX2_route_18 : decode cX2_route 18 = .ok (.ireturn, 1) := by decide +kernel
theorem dX2_route_19 : decode cX2_route 19 = .ok (.iload_n 2, 1) := by decide +kernel
theorem dX2_route_20 : decode cX2_route 20 = .ok (.ifCond .ne 12, 3) := by decide +kernel
theorem dX2_route_23 : decode cX2_route 23 = .ok (.aload_n 0, 1) := by decide +kernel
theorem dX2_route_24 : decode cX2_route 24 = .ok (.getfield 7, 3) := by decide +kernel
theorem dX2_route_27 : decode cX2_route 27 = .ok (.iload_n 1, 1) := by decide +kernel
theorem dX2_route_28 : decode cX2_route 28 = .ok (.iaload, 1) := by decide +kernel
theorem dX2_route_29 : decode cX2_route 29 = .ok (.goto 32, 3) := by decide +kernel
theorem dX2_route_32 : decode cX2_route 32 = .ok (.iload_n 2, 1) := by decide +kernel
theorem dX2_route_33 : decode cX2_route 33 = .ok (.iconst 1, 1) := by decide +kernel
theorem dX2_route_34 : decode cX2_route 34 = .ok (.if_icmp .ne 12, 3) := by decide +kernel
theorem dX2_route_37 : decode cX2_route 37 = .ok (.aload_n 0, 1) := by decide +kernel
theorem dX2_route_38 : decode cX2_route 38 = .ok (.getfield 13, 3) := by decide +kernel
theorem dX2_route_41 : decode cX2_route 41 = .ok (.iload_n 1, 1) := by decide +kernel
theorem dX2_route_42 : decode cX2_route 42 = .ok (.iaload, 1) := by decide +kernel
theorem dX2_route_43 : decode cX2_route 43 = .ok (.goto 18, 3) := by decide +kernel
theorem dX2_route_46 : decode cX2_route 46 = .ok (.iload_n 2, 1) := by decide +kernel
theorem dX2_route_47 : decode cX2_route 47 = .ok (.iconst 2, 1) := by decide +kernel
theorem dX2_route_48 : decode cX2_route 48 = .ok (.if_icmp .ne 12, 3) := by decide +kernel
theorem dX2_route_51 : decode cX2_route 51 = .ok (.aload_n 0, 1) := by decide +kernel
theorem dX2_route_52 : decode cX2_route 52 = .ok (.getfield 16, 3) := by decide +kernel
theorem dX2_route_55 : decode cX2_route 55 = .ok (.iload_n 1, 1) := by decide +kernel
theorem dX2_route_56 : decode cX2_route 56 = .ok (.iaload, 1) := by decide +kernel
theorem dX2_route_57 : decode cX2_route 57 = .ok (.goto 4, 3) := by decide +kernel
theorem dX2_route_60 : decode cX2_route 60 = .ok (.iconst 0, 1) := by decide +kernel
theorem dX2_route_61 : decode cX2_route 61 = .ok (.ireturn, 1) := by decide +kernel
theorem dX2_count_0 : decode cX2_count 0 = .ok (.aload_n 0, 1) := by decide +kernel
theorem dX2_count_1 : decode cX2_count 1 = .ok (.iconst 0, 1) := by decide +kernel
theorem dX2_count_2 : decode cX2_count 2 = .ok (.putfield 25, 3) := by decide +kernel
theorem dX2_count_5 : decode cX2_count 5 = .ok (.aload_n 0, 1) := by decide +kernel
theorem dX2_count_6 : decode cX2_count 6 = .ok (.getfield 29, 3) := by decide +kernel
theorem dX2_count_9 : decode cX2_count 9 = .ok (.ireturn, 1) := by decide +kernel
theorem dX2_add_0 : decode cX2_add 0 = .ok (.iload_n 2, 1) := by decide +kernel
theorem dX2_add_1 : decode cX2_add 1 = .ok (.ifCond .ne 4, 3) := by decide +kernel
theorem dX2_add_4 : decode cX2_add 4 = .ok (.return_, 1) := by decide +kernel
theorem dX2_add_5 : decode cX2_add 5 = .ok (.iconst 0, 1) := by decide +kernel
theorem dX2_add_6 : decode cX2_add 6 = .ok (.istore_n 3, 1) := by decide +kernel
theorem dX2_add_7 : decode cX2_add 7 = .ok (.iload_n 3, 1) := by decide +kernel
theorem dX2_add_8 : decode cX2_add 8 = .ok (.aload_n 0, 1) := by decide +kernel
theorem dX2_add_9 : decode cX2_add 9 = .ok (.getfield 55, 3) := by decide +kernel
theorem dX2_add_12 : decode cX2_add 12 = .ok (.if_icmp .ge 30, 3) := by decide +kernel
theorem dX2_add_15 : decode cX2_add 15 = .ok (.aload_n 0, 1) := by decide +kernel
theorem dX2_add_16 : decode cX2_add 16 = .ok (.getfield 19, 3) := by decide +kernel
theorem dX2_add_19 : decode cX2_add 19 = .ok (.iload_n 3, 1) := by decide +kernel
theorem dX2_add_20 : decode cX2_add 20 = .ok (.iaload, 1) := by decide +kernel
theorem dX2_add_21 : decode cX2_add 21 = .ok (.iload_n 1, 1) := by decide +kernel
theorem dX2_add_22 : decode cX2_add 22 = .ok (.if_icmp .ne 14, 3) := by decide +kernel
theorem dX2_add_25 : decode cX2_add 25 = .ok (.aload_n 0, 1) := by decide +kernel
theorem dX2_add_26 : decode cX2_add 26 = .ok (.getfield 22, 3) := by decide +kernel
theorem dX2_add_29 : decode cX2_add 29 = .ok (.iload_n 3, 1) := by decide +kernel
theorem dX2_add_30 : decode cX2_add 30 = .ok (.iaload, 1) := by decide +kernel
theorem dX2_add_31 : decode cX2_add 31 = .ok (.iload_n 2, 1) := by decide +kernel
theorem dX2_add_32 : decode cX2_add 32 = .ok (.if_icmp .ne 4, 3) := by decide +kernel
theorem dX2_add_35 : decode cX2_add 35 = .ok (.return_, 1) := by decide +kernel
theorem dX2_add_36 : decode cX2_add 36 = .ok (.iinc 3 1, 3) := by decide +kernel
theorem dX2_add_39 : decode cX2_add 39 = .ok (.goto (-32), 3) := by decide +kernel
theorem dX2_add_42 : decode cX2_add 42 = .ok (.aload_n 0, 1) := by decide +kernel
theorem dX2_add_43 : decode cX2_add 43 = .ok (.getfield 19, 3) := by decide +kernel
theorem dX2_add_46 : decode cX2_add 46 = .ok (.aload_n 0, 1) := by decide +kernel
theorem dX2_add_47 : decode cX2_add 47 = .ok (.getfield 55, 3) := by decide +kernel
theorem dX2_add_50 : decode cX2_add 50 = .ok (.iload_n 1, 1) := by decide +kernel
theorem dX2_add_51 : decode cX2_add 51 = .ok (.iastore, 1) := by decide +kernel
theorem dX2_add_52 : decode cX2_add 52 = .ok (.aload_n 0, 1) := by decide +kernel
theorem dX2_add_53 : decode cX2_add 53 = .ok (.getfield 22, 3) := by decide +kernel
theorem dX2_add_56 : decode cX2_add 56 = .ok (.aload_n 0, 1) := by decide +kernel
theorem dX2_add_57 : decode cX2_add 57 = .ok (.getfield 55, 3) := by decide +kernel
theorem dX2_add_60 : decode cX2_add 60 = .ok (.iload_n 2, 1) := by decide +kernel
theorem dX2_add_61 : decode cX2_add 61 = .ok (.iastore, 1) := by decide +kernel
theorem dX2_add_62 : decode cX2_add 62 = .ok (.aload_n 0, 1) := by decide +kernel
theorem dX2_add_63 : decode cX2_add 63 = .ok (.dup, 1) := by decide +kernel
theorem dX2_add_64 : decode cX2_add 64 = .ok (.getfield 55, 3) := by decide +kernel
theorem dX2_add_67 : decode cX2_add 67 = .ok (.iconst 1, 1) := by decide +kernel
theorem dX2_add_68 : decode cX2_add 68 = .ok (.iadd, 1) := by decide +kernel
theorem dX2_add_69 : decode cX2_add 69 = .ok (.putfield 55, 3) := by decide +kernel
theorem dX2_add_72 : decode cX2_add 72 = .ok (.return_, 1) := by decide +kernel
set_option maxRecDepth 20000 in
theorem ggX2_findNodes_X2_add : GoodIn wsX2_findNodes wsX2_add := goodIn_r _ [9, 1, 10, 11, 15, 16, 17, 18, 19, 20, 21, 22] (by decide +kernel) (by decide +kernel)
set_option maxRecDepth 20000 in
theorem gX2_findNodes_X2_add : GoodIn wsX2_findNodes (wsV RX2 58 RX2 yX2_add wsX2_add) := goodIn_app (goodIn_of _ (by decide +kernel)) ggX2_findNodes_X2_add
set_option maxRecDepth 20000 in
theorem ggX2_findNodes_X2_mask : GoodIn wsX2_findNodes wsX2_mask := goodIn_r _ [14] (by decide +kernel) (by decide +kernel)
set_option maxRecDepth 20000 in
theorem gX2_findNodes_X2_mask : GoodIn wsX2_findNodes (va_wsS RX2 32 yX2_mask wsX2_mask) := goodIn_app (goodIn_of _ (by decide +kernel)) ggX2_findNodes_X2_mask
theorem dX2_findNodes_0 : decode cX2_findNodes 0 = .ok (.aload_n 0, 1) := by decide +kernel
theorem dX2_findNodes_1 : decode cX2_findNodes 1 = .ok (.iconst 0, 1) := by decide +kernel
theorem dX2_findNodes_2 : decode cX2_findNodes 2 = .ok (.putfield 55, 3) := by decide +kernel
theorem dX2_findNodes_5 : decode cX2_findNodes 5 = .ok (.iconst 0, 1) := by decide +kernel
theorem dX2_findNodes_6 : decode cX2_findNodes 6 = .ok (.istore_n 1, 1) := by decide +kernel
theorem dX2_findNodes_7 : decode cX2_findNodes 7 = .ok (.iload_n 1, 1) := by decide +kernel
theorem dX2_findNodes_8 : decode cX2_findNodes 8 = .ok (.aload_n 0, 1) := by decide +kernel
theorem dX2_findNodes_9 : decode cX2_findNodes 9 = .ok (.getfield 29, 3) := by decide +kernel
theorem dX2_findNodes_12 : decode cX2_findNodes 12 = .ok (.if_icmp .ge 25, 3) := by decide +kernel
theorem dX2_findNodes_15 : decode cX2_findNodes 15 = .ok (.aload_n 0, 1) := by decide +kernel
theorem dX2_findNodes_16 : decode cX2_findNodes 16 = .ok (.aload_n 0, 1) := by decide +kernel
theorem dX2_findNodes_17 : decode cX2_findNodes 17 = .ok (.getfield 7, 3) := by decide +kernel
theorem dX2_findNodes_20 : decode cX2_findNodes 20 = .ok (.iload_n 1, 1) := by decide +kernel
theorem dX2_findNodes_21 : decode cX2_findNodes 21 = .ok (.iaload, 1) := by decide +kernel
theorem dX2_findNodes_22 : decode cX2_findNodes 22 = .ok (.aload_n 0, 1) := by decide +kernel
theorem dX2_findNodes_23 : decode cX2_findNodes 23 = .ok (.getfield 13, 3) := by decide +kernel
theorem dX2_findNodes_26 : decode cX2_findNodes 26 = .ok (.iload_n 1, 1) := by decide +kernel
theorem dX2_findNodes_27 : decode cX2_findNodes 27 = .ok (.iaload, 1) := by decide +kernel
theorem dX2_findNodes_28 : decode cX2_findNodes 28 = .ok (.invokevirtual 58, 3) := by decide +kernel
theorem dX2_findNodes_31 : decode cX2_findNodes 31 = .ok (.iinc 1 1, 3) := by decide +kernel
theorem dX2_findNodes_34 : decode cX2_findNodes 34 = .ok (.goto (-27), 3) := by decide +kernel
theorem dX2_findNodes_37 : decode cX2_findNodes 37 = .ok (.iconst 1, 1) := by decide +kernel
theorem dX2_findNodes_38 : decode cX2_findNodes 38 = .ok (.istore_n 1, 1) := by decide +kernel
theorem dX2_findNodes_39 : decode cX2_findNodes 39 = .ok (.iload_n 1, 1) := by decide +kernel
theorem dX2_findNodes_40 : decode cX2_findNodes 40 = .ok (.aload_n 0, 1) := by decide +kernel
theorem dX2_findNodes_41 : decode cX2_findNodes 41 = .ok (.getfield 29, 3) := by decide +kernel
theorem dX2_findNodes_44 : decode cX2_findNodes 44 = .ok (.if_icmp .ge 104, 3) := by decide +kernel
theorem dX2_findNodes_47 : decode cX2_findNodes 47 = .ok (.aload_n 0, 1) := by decide +kernel
theorem dX2_findNodes_48 : decode cX2_findNodes 48 = .ok (.getfield 13, 3) := by decide +kernel
theorem dX2_findNodes_51 : decode cX2_findNodes 51 = .ok (.iload_n 1, 1) := by decide +kernel
theorem dX2_findNodes_52 : decode cX2_findNodes 52 = .ok (.iaload, 1) := by decide +kernel
theorem dX2_findNodes_53 : decode cX2_findNodes 53 = .ok (.aload_n 0, 1) := by decide +kernel
theorem dX2_findNodes_54 : decode cX2_findNodes 54 = .ok (.getfield 13, 3) := by decide +kernel
theorem dX2_findNodes_57 : decode cX2_findNodes 57 = .ok (.iload_n 1, 1) := by decide +kernel
theorem dX2_findNodes_58 : decode cX2_findNodes 58 = .ok (.iconst 1, 1) := by decide +kernel
theorem dX2_findNodes_59 : decode cX2_findNodes 59 = .ok (.isub, 1) := by decide +kernel
theorem dX2_findNodes_60 : decode cX2_findNodes 60 = .ok (.iaload, 1) := by decide +kernel
theorem dX2_findNodes_61 : decode cX2_findNodes 61 = .ok (.if_icmp .ge 12, 3) := by decide +kernel
theorem dX2_findNodes_64 : decode cX2_findNodes 64 = .ok (.aload_n 0, 1) := by decide +kernel
theorem dX2_findNodes_65 : decode cX2_findNodes 65 = .ok (.getfield 13, 3) := by decide +kernel
theorem dX2_findNodes_68 : decode cX2_findNodes 68 = .ok (.iload_n 1, 1) := by decide +kernel
theorem dX2_findNodes_69 : decode cX2_findNodes 69 = .ok (.iaload, 1) := by decide +kernel
theorem dX2_findNodes_70 : decode cX2_findNodes 70 = .ok (.goto 11, 3) := by decide +kernel
theorem dX2_findNodes_73 : decode cX2_findNodes 73 = .ok (.aload_n 0, 1) := by decide +kernel
theorem dX2_findNodes_74 : decode cX2_findNodes 74 = .ok (.getfield 13, 3) := by decide +kernel
theorem dX2_findNodes_77 : decode cX2_findNodes 77 = .ok (.iload_n 1, 1) := by decide +kernel
theorem dX2_findNodes_78 : decode cX2_findNodes 78 = .ok (.iconst 1, 1) := by decide +kernel
theorem dX2_findNodes_79 : decode cX2_findNodes 79 = .ok (.isub, 1) := by decide +kernel
theorem dX2_findNodes_80 : decode cX2_findNodes 80 = .ok (.iaload, 1) := by decide +kernel
theorem dX2_findNodes_81 : decode cX2_findNodes 81 = .ok (.istore_n 2, 1) := by decide +kernel
theorem dX2_findNodes_82 : decode cX2_findNodes 82 = .ok (.iconst 0, 1) := by decide +kernel
theorem dX2_findNodes_83 : decode cX2_findNodes 83 = .ok (.istore_n 3, 1) := by decide +kernel
theorem dX2_findNodes_84 : decode cX2_findNodes 84 = .ok (.iload_n 3, 1) := by decide +kernel
theorem dX2_findNodes_85 : decode cX2_findNodes 85 = .ok (.iload_n 2, 1) := by decide +kernel
theorem dX2_findNodes_86 : decode cX2_findNodes 86 = .ok (.if_icmp .ge 40, 3) := by decide +kernel
theorem dX2_findNodes_89 : decode cX2_findNodes 89 = .ok (.aload_n 0, 1) := by decide +kernel
theorem dX2_findNodes_90 : decode cX2_findNodes 90 = .ok (.getfield 7, 3) := by decide +kernel
theorem dX2_findNodes_93 : decode cX2_findNodes 93 = .ok (.iload_n 1, 1) := by decide +kernel
theorem dX2_findNodes_94 : decode cX2_findNodes 94 = .ok (.iaload, 1) := by decide +kernel
theorem dX2_findNodes_95 : decode cX2_findNodes 95 = .ok (.bipush 31, 2) := by decide +kernel
theorem dX2_findNodes_97 : decode cX2_findNodes 97 = .ok (.iload_n 3, 1) := by decide +kernel
theorem dX2_findNodes_98 : decode cX2_findNodes 98 = .ok (.isub, 1) := by decide +kernel
theorem dX2_findNodes_99 : decode cX2_findNodes 99 = .ok (.iushr, 1) := by decide +kernel
theorem dX2_findNodes_100 : decode cX2_findNodes 100 = .ok (.iconst 1, 1) := by decide +kernel
theorem dX2_findNodes_101 : decode cX2_findNodes 101 = .ok (.iand, 1) := by decide +kernel
theorem dX2_findNodes_102 : decode cX2_findNodes 102 = .ok (.aload_n 0, 1) := by decide +kernel
theorem dX2_findNodes_103 : decode cX2_findNodes 103 = .ok (.getfield 7, 3) := by decide +kernel
theorem dX2_findNodes_106 : decode cX2_findNodes 106 = .ok (.iload_n 1, 1) := by decide +kernel
theorem dX2_findNodes_107 : decode cX2_findNodes 107 = .ok (.iconst 1, 1) := by decide +kernel
theorem dX2_findNodes_108 : decode cX2_findNodes 108 = .ok (.isub, 1) := by decide +kernel
theorem dX2_findNodes_109 : decode cX2_findNodes 109 = .ok (.iaload, 1) := by decide +kernel
theorem dX2_findNodes_110 : decode cX2_findNodes 110 = .ok (.bipush 31, 2) := by decide +kernel
theorem dX2_findNodes_112 : decode cX2_findNodes 112 = .ok (.iload_n 3, 1) := by decide +kernel
theorem dX2_findNodes_113 : decode cX2_findNodes 113 = .ok (.isub, 1) := by decide +kernel
theorem dX2_findNodes_114 : decode cX2_findNodes 114 = .ok (.iushr, 1) := by decide +kernel
theorem dX2_findNodes_115 : decode cX2_findNodes 115 = .ok (.iconst 1, 1) := by decide +kernel
theorem dX2_findNodes_116 : decode cX2_findNodes 116 = .ok (.iand, 1) := by decide +kernel
theorem dX2_findNodes_117 : decode cX2_findNodes 117 = .ok (.if_icmp .ne 9, 3) := by decide +kernel
theorem dX2_findNodes_120 : decode cX2_findNodes 120 = .ok (.iinc 3 1, 3) := by decide +kernel
theorem dX2_findNodes_123 : decode cX2_findNodes 123 = .ok (.goto (-39), 3) := by decide +kernel
theorem dX2_findNodes_126 : decode cX2_findNodes 126 = .ok (.aload_n 0, 1) := by decide +kernel
theorem dX2_findNodes_127 : decode cX2_findNodes 127 = .ok (.aload_n 0, 1) := by decide +kernel
theorem dX2_findNodes_128 : decode cX2_findNodes 128 = .ok (.getfield 7, 3) := by decide +kernel
theorem dX2_findNodes_131 : decode cX2_findNodes 131 = .ok (.iload_n 1, 1) := by decide +kernel
theorem dX2_findNodes_132 : decode cX2_findNodes 132 = .ok (.iaload, 1) := by decide +kernel
theorem dX2_findNodes_133 : decode cX2_findNodes 133 = .ok (.iload_n 3, 1) := by decide +kernel
theorem dX2_findNodes_134 : decode cX2_findNodes 134 = .ok (.invokestatic 32, 3) := by decide +kernel
theorem dX2_findNodes_137 : decode cX2_findNodes 137 = .ok (.iand, 1) := by decide +kernel
theorem dX2_findNodes_138 : decode cX2_findNodes 138 = .ok (.iload_n 3, 1) := by decide +kernel
theorem dX2_findNodes_139 : decode cX2_findNodes 139 = .ok (.invokevirtual 58, 3) := by decide +kernel
theorem dX2_findNodes_142 : decode cX2_findNodes 142 = .ok (.iinc 1 1, 3) := by decide +kernel
theorem dX2_findNodes_145 : decode cX2_findNodes 145 = .ok (.goto (-106), 3) := by decide +kernel
theorem dX2_findNodes_148 : decode cX2_findNodes 148 = .ok (.return_, 1) := by decide +kernel
set_option maxRecDepth 20000 in
theorem ggX2_nodes_X2_findNodes : GoodIn wsX2_nodes wsX2_findNodes := goodIn_r _ [7, 2, 8, 9, 10, 11, 12, 13, 6, 14, 15, 16, 17, 18, 19, 20, 21, 22, 23, 24, 25, 26, 27] (by decide +kernel) (by decide +kernel)
set_option maxRecDepth 20000 in
theorem gX2_nodes_X2_findNodes : GoodIn wsX2_nodes (wsV RX2 62 RX2 yX2_findNodes wsX2_findNodes) := goodIn_app (goodIn_of _ (by decide +kernel)) ggX2_nodes_X2_findNodes
theorem dX2_nodes_0 : decode cX2_nodes 0 = .ok (.aload_n 0, 1) := by decide +kernel
theorem dX2_nodes_1 : decode cX2_nodes 1 = .ok (.iconst 0, 1) := by decide +kernel
theorem dX2_nodes_2 : decode cX2_nodes 2 = .ok (.putfield 25, 3) := by decide +kernel
theorem dX2_nodes_5 : decode cX2_nodes 5 = .ok (.aload_n 0, 1) := by decide +kernel
theorem dX2_nodes_6 : decode cX2_nodes 6 = .ok (.invokevirtual 62, 3) := by decide +kernel
theorem dX2_nodes_9 : decode cX2_nodes 9 = .ok (.iconst 1, 1) := by decide +kernel
theorem dX2_nodes_10 : decode cX2_nodes 10 = .ok (.aload_n 0, 1) := by decide +kernel
theorem dX2_nodes_11 : decode cX2_nodes 11 = .ok (.getfield 55, 3) := by decide +kernel
theorem dX2_nodes_14 : decode cX2_nodes 14 = .ok (.iadd, 1) := by decide +kernel
theorem dX2_nodes_15 : decode cX2_nodes 15 = .ok (.ireturn, 1) := by decide +kernel
set_option maxRecDepth 20000 in
theorem ggX2_depth_X2_findNodes : GoodIn wsX2_depth wsX2_findNodes := goodIn_r _ [9, 2, 10, 11, 12, 13, 14, 15, 8, 16, 3, 4, 17, 18, 19, 23, 24, 25, 26, 27, 28, 29, 30] (by decide +kernel) (by decide +kernel)
set_option maxRecDepth 20000 in
theorem gX2_depth_X2_findNodes : GoodIn wsX2_depth (wsV RX2 62 RX2 yX2_findNodes wsX2_findNodes) := goodIn_app (goodIn_of _ (by decide +kernel)) ggX2_depth_X2_findNodes
set_option maxRecDepth 20000 in
theorem ggX2_depth_X2_begins : GoodIn wsX2_depth wsX2_begins := goodIn_r _ [22, 17, 18, 8, 19] (by decide +kernel) (by decide +kernel)
set_option maxRecDepth 20000 in
theorem gX2_depth_X2_begins : GoodIn wsX2_depth (va_wsS RX2 49 yX2_begins wsX2_begins) := goodIn_app (goodIn_of _ (by decide +kernel)) ggX2_depth_X2_begins
theorem dX2_depth_0 : decode cX2_depth 0 = .ok (.aload_n 0, 1) := by decide +kernel
theorem dX2_depth_1 : decode cX2_depth 1 = .ok (.iconst 0, 1) := by decide +kernel
theorem dX2_depth_2 : decode cX2_depth 2 = .ok (.putfield 25, 3) := by decide +kernel
theorem dX2_depth_5 : decode cX2_depth 5 = .ok (.aload_n 0, 1) := by decide +kernel
theorem dX2_depth_6 : decode cX2_depth 6 = .ok (.invokevirtual 62, 3) := by decide +kernel
theorem dX2_depth_9 : decode cX2_depth 9 = .ok (.iconst 1, 1) := by decide +kernel
theorem dX2_depth_10 : decode cX2_depth 10 = .ok (.istore_n 2, 1) := by decide +kernel
theorem dX2_depth_11 : decode cX2_depth 11 = .ok (.iconst 0, 1) := by decide +kernel
theorem dX2_depth_12 : decode cX2_depth 12 = .ok (.istore_n 3, 1) := by decide +kernel
theorem dX2_depth_13 : decode cX2_depth 13 = .ok (.iload_n 3, 1) := by decide +kernel
theorem dX2_depth_14 : decode cX2_depth 14 = .ok (.aload_n 0, 1) := by decide +kernel
theorem dX2_depth_15 : decode cX2_depth 15 = .ok (.getfield 55, 3) := by decide +kernel
theorem dX2_depth_18 : decode cX2_depth 18 = .ok (.if_icmp .ge 36, 3) := by decide +kernel
theorem dX2_depth_21 : decode cX2_depth 21 = .ok (.iload_n 2, 1) := by decide +kernel
theorem dX2_depth_22 : decode cX2_depth 22 = .ok (.iload_n 1, 1) := by decide +kernel
theorem dX2_depth_23 : decode cX2_depth 23 = .ok (.aload_n 0, 1) := by decide +kernel
theorem dX2_depth_24 : decode cX2_depth 24 = .ok (.getfield 19, 3) := by decide +kernel
theorem dX2_depth_27 : decode cX2_depth 27 = .ok (.iload_n 3, 1) := by decide +kernel
theorem dX2_depth_28 : decode cX2_depth 28 = .ok (.iaload, 1) := by decide +kernel
theorem dX2_depth_29 : decode cX2_depth 29 = .ok (.aload_n 0, 1) := by decide +kernel
theorem dX2_depth_30 : decode cX2_depth 30 = .ok (.getfield 22, 3) := by decide +kernel
theorem dX2_depth_33 : decode cX2_depth 33 = .ok (.iload_n 3, 1) := by decide +kernel
theorem dX2_depth_34 : decode cX2_depth 34 = .ok (.iaload, 1) := by decide +kernel
theorem dX2_depth_35 : decode cX2_depth 35 = .ok (.invokestatic 49, 3) := by decide +kernel
theorem dX2_depth_38 : decode cX2_depth 38 = .ok (.ifCond .eq 7, 3) := by decide +kernel
theorem dX2_depth_41 : decode cX2_depth 41 = .ok (.iconst 1, 1) := by decide +kernel
theorem dX2_depth_42 : decode cX2_depth 42 = .ok (.goto 4, 3) := by decide +kernel
theorem dX2_depth_45 : decode cX2_depth 45 = .ok (.iconst 0, 1) := by decide +kernel
theorem dX2_depth_46 : decode cX2_depth 46 = .ok (.iadd, 1) := by decide +kernel
theorem dX2_depth_47 : decode cX2_depth 47 = .ok (.istore_n 2, 1) := by decide +kernel
theorem dX2_depth_48 : decode cX2_depth 48 = .ok (.iinc 3 1, 3) := by decide +kernel
theorem dX2_depth_51 : decode cX2_depth 51 = .ok (.goto (-38), 3) := by decide +kernel
theorem dX2_depth_54 : decode cX2_depth 54 = .ok (.iload_n 2, 1) := by decide +kernel
theorem dX2_depth_55 : decode cX2_depth 55 = .ok (.ireturn, 1) := by decide +kernel
