theorem dX0_init_0 : decode cX0_init 0 = .ok (.aload_n 0, 1) := by decide +kernel
theorem dX0_init_1 : decode cX0_init 1 = .ok (.invokespecial 3, 3) := by decide +kernel
theorem dX0_init_4 : decode cX0_init 4 = .ok (.aload_n 0, 1) := by decide +kernel
theorem dX0_init_5 : decode cX0_init 5 = .ok (.bipush 12, 2) := by decide +kernel
theorem dX0_init_7 : decode cX0_init 7 = .ok (.newarray .int, 2) := by decide +kernel
theorem dX0_init_9 : decode cX0_init 9 = .ok (.putfield 9, 3) := by decide +kernel
theorem dX0_init_12 : decode cX0_init 12 = .ok (.aload_n 0, 1) := by decide +kernel
theorem dX0_init_13 : decode cX0_init 13 = .ok (.bipush 12, 2) := by decide +kernel
theorem dX0_init_15 : decode cX0_init 15 = .ok (.newarray .int, 2) := by decide +kernel
theorem dX0_init_17 : decode cX0_init 17 = .ok (.putfield 15, 3) := by decide +kernel
theorem dX0_init_20 : decode cX0_init 20 = .ok (.aload_n 0, 1) := by decide +kernel
theorem dX0_init_21 : decode cX0_init 21 = .ok (.bipush 12, 2) := by decide +kernel
theorem dX0_init_23 : decode cX0_init 23 = .ok (.newarray .int, 2) := by decide +kernel
theorem dX0_init_25 : decode cX0_init 25 = .ok (.putfield 18, 3) := by decide +kernel
theorem dX0_init_28 : decode cX0_init 28 = .ok (.aload_n 0, 1) := by decide +kernel
theorem dX0_init_29 : decode cX0_init 29 = .ok (.iconst 0, 1) := by decide +kernel
theorem dX0_init_30 : decode cX0_init 30 = .ok (.putfield 21, 3) := by decide +kernel
theorem dX0_init_33 : decode cX0_init 33 = .ok (.return_, 1) := by decide +kernel
theorem dX0_clear_0 : decode cX0_clear 0 = .ok (.aload_n 0, 1) := by decide +kernel
theorem dX0_clear_1 : decode cX0_clear 1 = .ok (.iconst 0, 1) := by decide +kernel
theorem dX0_clear_2 : decode cX0_clear 2 = .ok (.putfield 21, 3) := by decide +kernel
theorem dX0_clear_5 : decode cX0_clear 5 = .ok (.return_, 1) := by decide +kernel
theorem dX0_remember_0 : decode cX0_remember 0 = .ok (.iconst 0, 1) := by decide +kernel
theorem dX0_remember_1 : decode cX0_remember 1 = .ok (.istore_n 2, 1) := by decide +kernel
theorem dX0_remember_2 : decode cX0_remember 2 = .ok (.iload_n 2, 1) := by decide +kernel
theorem dX0_remember_3 : decode cX0_remember 3 = .ok (.bipush 12, 2) := by decide +kernel
theorem dX0_remember_5 : decode cX0_remember 5 = .ok (.if_icmp .ge 21, 3) := by decide +kernel
theorem dX0_remember_8 : decode cX0_remember 8 = .ok (.aload_n 0, 1) := by decide +kernel
theorem dX0_remember_9 : decode cX0_remember 9 = .ok (.getfield 9, 3) := by decide +kernel
theorem dX0_remember_12 : decode cX0_remember 12 = .ok (.iload_n 2, 1) := by decide +kernel
theorem dX0_remember_13 : decode cX0_remember 13 = .ok (.aload_n 1, 1) := by decide +kernel
theorem dX0_remember_14 : decode cX0_remember 14 = .ok (.getfield 25, 3) := by decide +kernel
theorem dX0_remember_17 : decode cX0_remember 17 = .ok (.iload_n 2, 1) := by decide +kernel
theorem dX0_remember_18 : decode cX0_remember 18 = .ok (.iaload, 1) := by decide +kernel
theorem dX0_remember_19 : decode cX0_remember 19 = .ok (.iastore, 1) := by decide +kernel
theorem dX0_remember_20 : decode cX0_remember 20 = .ok (.iinc 2 1, 3) := by decide +kernel
theorem dX0_remember_23 : decode cX0_remember 23 = .ok (.goto (-21), 3) := by decide +kernel
theorem dX0_remember_26 : decode cX0_remember 26 = .ok (.return_, 1) := by decide +kernel
theorem dX0_compare_0 : decode cX0_compare 0 = .ok (.aload_n 0, 1) := by decide +kernel
theorem dX0_compare_1 : decode cX0_compare 1 = .ok (.iconst 0, 1) := by decide +kernel
theorem dX0_compare_2 : decode cX0_compare 2 = .ok (.putfield 21, 3) := by decide +kernel
theorem dX0_compare_5 : decode cX0_compare 5 = .ok (.iconst 0, 1) := by decide +kernel
theorem dX0_compare_6 : decode cX0_compare 6 = .ok (.istore_n 3, 1) := by decide +kernel
theorem dX0_compare_7 : decode cX0_compare 7 = .ok (.iload_n 3, 1) := by decide +kernel
theorem dX0_compare_8 : decode cX0_compare 8 = .ok (.aload_n 1, 1) := by decide +kernel
theorem dX0_compare_9 : decode cX0_compare 9 = .ok (.getfield 30, 3) := by decide +kernel
theorem dX0_compare_12 : decode cX0_compare 12 = .ok (.if_icmp .ge 64, 3) := by decide +kernel
theorem dX0_compare_15 : decode cX0_compare 15 = .ok (.aload_n 0, 1) := by decide +kernel
theorem dX0_compare_16 : decode cX0_compare 16 = .ok (.getfield 9, 3) := by decide +kernel
theorem dX0_compare_19 : decode cX0_compare 19 = .ok (.iload_n 3, 1) := by decide +kernel
theorem dX0_compare_20 : decode cX0_compare 20 = .ok (.iaload, 1) := by decide +kernel
theorem dX0_compare_21 : decode cX0_compare 21 = .ok (.aload_n 2, 1) := by decide +kernel
theorem dX0_compare_22 : decode cX0_compare 22 = .ok (.getfield 25, 3) := by decide +kernel
theorem dX0_compare_25 : decode cX0_compare 25 = .ok (.iload_n 3, 1) := by decide +kernel
theorem dX0_compare_26 : decode cX0_compare 26 = .ok (.iaload, 1) := by decide +kernel
theorem dX0_compare_27 : decode cX0_compare 27 = .ok (.if_icmp .eq 43, 3) := by decide +kernel
theorem dX0_compare_30 : decode cX0_compare 30 = .ok (.aload_n 0, 1) := by decide +kernel
theorem dX0_compare_31 : decode cX0_compare 31 = .ok (.getfield 15, 3) := by decide +kernel
theorem dX0_compare_34 : decode cX0_compare 34 = .ok (.aload_n 0, 1) := by decide +kernel
theorem dX0_compare_35 : decode cX0_compare 35 = .ok (.getfield 21, 3) := by decide +kernel
theorem dX0_compare_38 : decode cX0_compare 38 = .ok (.aload_n 1, 1) := by decide +kernel
theorem dX0_compare_39 : decode cX0_compare 39 = .ok (.getfield 33, 3) := by decide +kernel
theorem dX0_compare_42 : decode cX0_compare 42 = .ok (.iload_n 3, 1) := by decide +kernel
theorem dX0_compare_43 : decode cX0_compare 43 = .ok (.iaload, 1) := by decide +kernel
theorem dX0_compare_44 : decode cX0_compare 44 = .ok (.iastore, 1) := by decide +kernel
theorem dX0_compare_45 : decode cX0_compare 45 = .ok (.aload_n 0, 1) := by decide +kernel
theorem dX0_compare_46 : decode cX0_compare 46 = .ok (.getfield 18, 3) := by decide +kernel
theorem dX0_compare_49 : decode cX0_compare 49 = .ok (.aload_n 0, 1) := by decide +kernel
theorem dX0_compare_50 : decode cX0_compare 50 = .ok (.getfield 21, 3) := by decide +kernel
theorem dX0_compare_53 : decode cX0_compare 53 = .ok (.aload_n 0, 1) := by decide +kernel
theorem dX0_compare_54 : decode cX0_compare 54 = .ok (.getfield 9, 3) := by decide +kernel
theorem dX0_compare_57 : decode cX0_compare 57 = .ok (.iload_n 3, 1) := by decide +kernel
theorem dX0_compare_58 : decode cX0_compare 58 = .ok (.iaload, 1) := by decide +kernel
theorem dX0_compare_59 : decode cX0_compare 59 = .ok (.iastore, 1) := by decide +kernel
theorem dX0_compare_60 : decode cX0_compare 60 = .ok (.aload_n 0, 1) := by decide +kernel
theorem dX0_compare_61 : decode cX0_compare 61 = .ok (.dup, 1) := by decide +kernel
theorem dX0_compare_62 : decode cX0_compare 62 = .ok (.getfield 21, 3) := by decide +kernel
theorem dX0_compare_65 : decode cX0_compare 65 = .ok (.iconst 1, 1) := by decide +kernel
theorem dX0_compare_66 : decode cX0_compare 66 = .ok (.iadd, 1) := by decide +kernel
theorem dX0_compare_67 : decode cX0_compare 67 = .ok (.putfield 21, 3) := by decide +kernel
theorem dX0_compare_70 : decode cX0_compare 70 = .ok (.iinc 3 1, 3) := by decide +kernel
theorem dX0_compare_73 : decode cX0_compare 73 = .ok (.goto (-66), 3) := by decide +kernel
theorem dX0_compare_76 : decode cX0_compare 76 = .ok (.return_, 1) := by decide +kernel
theorem dX1_init_0 : decode cX1_init 0 = .ok (.aload_n 0, 1) := by decide +kernel
theorem dX1_init_1 : decode cX1_init 1 = .ok (.invokespecial 3, 3) := by decide +kernel
theorem dX1_init_4 : decode cX1_init 4 = .ok (.aload_n 0, 1) := by decide +kernel
theorem dX1_init_5 : decode cX1_init 5 = .ok (.bipush 12, 2) := by decide +kernel
theorem dX1_init_7 : decode cX1_init 7 = .ok (.newarray .int, 2) := by decide +kernel
theorem dX1_init_9 : decode cX1_init 9 = .ok (.putfield 9, 3) := by decide +kernel
theorem dX1_init_12 : decode cX1_init 12 = .ok (.aload_n 0, 1) := by decide +kernel
theorem dX1_init_13 : decode cX1_init 13 = .ok (.iconst 0, 1) := by decide +kernel
theorem dX1_init_14 : decode cX1_init 14 = .ok (.putfield 15, 3) := by decide +kernel
theorem dX1_init_17 : decode cX1_init 17 = .ok (.aload_n 0, 1) := by decide +kernel
theorem dX1_init_18 : decode cX1_init 18 = .ok (.iconst 1, 1) := by decide +kernel
theorem dX1_init_19 : decode cX1_init 19 = .ok (.putfield 19, 3) := by decide +kernel
theorem dX1_init_22 : decode cX1_init 22 = .ok (.return_, 1) := by decide +kernel
set_option maxRecDepth 20000 in
theorem ggX1_paint_X2_spread : GoodIn wsX1_paint wsX2_spread := goodIn_r _ [9, 10, 11, 12, 13, 14, 15, 16, 17, 8, 18, 19, 20, 21, 22, 23, 24, 25, 26, 27, 45, 46, 47, 48, 42, 43, 44] (by decide +kernel) (by decide +kernel)
set_option maxRecDepth 20000 in
theorem gX1_paint_X2_spread : GoodIn wsX1_paint (wsV RX1 28 RX2 yX2_spread wsX2_spread) := goodIn_app (goodIn_of _ (by decide +kernel)) ggX1_paint_X2_spread
set_option maxRecDepth 20000 in
theorem ggX1_paint_X1_paintPart : GoodIn wsX1_paint wsX1_paintPart := goodIn_r _ [32, 3, 33, 2, 42, 43, 44, 45, 46, 47, 48, 39, 40, 41] (by decide +kernel) (by decide +kernel)
set_option maxRecDepth 20000 in
theorem gX1_paint_X1_paintPart : GoodIn wsX1_paint (wsV RX1 34 RX1 yX1_paintPart wsX1_paintPart) := goodIn_app (goodIn_of _ (by decide +kernel)) ggX1_paint_X1_paintPart
set_option maxRecDepth 20000 in
theorem ggX1_paint_X1_areUnlike : GoodIn wsX1_paint wsX1_areUnlike := goodIn_r _ [37, 3, 2, 38, 20, 21, 22, 23, 24, 25, 26, 27, 42, 43, 44, 39, 40, 41] (by decide +kernel) (by decide +kernel)
set_option maxRecDepth 20000 in
theorem gX1_paint_X1_areUnlike : GoodIn wsX1_paint (wsV RX1 38 RX1 yX1_areUnlike wsX1_areUnlike) := goodIn_app (goodIn_of _ (by decide +kernel)) ggX1_paint_X1_areUnlike
theorem dX1_paint_0 : decode cX1_paint 0 = .ok (.aload_n 0, 1) := by decide +kernel
theorem dX1_paint_1 : decode cX1_paint 1 = .ok (.iconst 0, 1) := by decide +kernel
theorem dX1_paint_2 : decode cX1_paint 2 = .ok (.putfield 15, 3) := by decide +kernel
theorem dX1_paint_5 : decode cX1_paint 5 = .ok (.iconst 0, 1) := by decide +kernel
theorem dX1_paint_6 : decode cX1_paint 6 = .ok (.istore_n 3, 1) := by decide +kernel
theorem dX1_paint_7 : decode cX1_paint 7 = .ok (.iload_n 3, 1) := by decide +kernel
theorem dX1_paint_8 : decode cX1_paint 8 = .ok (.bipush 12, 2) := by decide +kernel
theorem dX1_paint_10 : decode cX1_paint 10 = .ok (.if_icmp .ge 16, 3) := by decide +kernel
theorem dX1_paint_13 : decode cX1_paint 13 = .ok (.aload_n 0, 1) := by decide +kernel
theorem dX1_paint_14 : decode cX1_paint 14 = .ok (.getfield 9, 3) := by decide +kernel
theorem dX1_paint_17 : decode cX1_paint 17 = .ok (.iload_n 3, 1) := by decide +kernel
theorem dX1_paint_18 : decode cX1_paint 18 = .ok (.iconst (-1), 1) := by decide +kernel
theorem dX1_paint_19 : decode cX1_paint 19 = .ok (.iastore, 1) := by decide +kernel
theorem dX1_paint_20 : decode cX1_paint 20 = .ok (.iinc 3 1, 3) := by decide +kernel
theorem dX1_paint_23 : decode cX1_paint 23 = .ok (.goto (-16), 3) := by decide +kernel
theorem dX1_paint_26 : decode cX1_paint 26 = .ok (.iconst 0, 1) := by decide +kernel
theorem dX1_paint_27 : decode cX1_paint 27 = .ok (.istore_n 3, 1) := by decide +kernel
theorem dX1_paint_28 : decode cX1_paint 28 = .ok (.iload_n 3, 1) := by decide +kernel
theorem dX1_paint_29 : decode cX1_paint 29 = .ok (.aload_n 1, 1) := by decide +kernel
theorem dX1_paint_30 : decode cX1_paint 30 = .ok (.getfield 23, 3) := by decide +kernel
theorem dX1_paint_33 : decode cX1_paint 33 = .ok (.if_icmp .ge 41, 3) := by decide +kernel
theorem dX1_paint_36 : decode cX1_paint 36 = .ok (.aload_n 0, 1) := by decide +kernel
theorem dX1_paint_37 : decode cX1_paint 37 = .ok (.getfield 9, 3) := by decide +kernel
theorem dX1_paint_40 : decode cX1_paint 40 = .ok (.iload_n 3, 1) := by decide +kernel
theorem dX1_paint_41 : decode cX1_paint 41 = .ok (.iaload, 1) := by decide +kernel
theorem dX1_paint_42 : decode cX1_paint 42 = .ok (.iconst (-1), 1) := by decide +kernel
theorem dX1_paint_43 : decode cX1_paint 43 = .ok (.if_icmp .ne 25, 3) := by decide +kernel
theorem dX1_paint_46 : decode cX1_paint 46 = .ok (.aload_n 0, 1) := by decide +kernel
theorem dX1_paint_47 : decode cX1_paint 47 = .ok (.dup, 1) := by decide +kernel
theorem dX1_paint_48 : decode cX1_paint 48 = .ok (.getfield 15, 3) := by decide +kernel
theorem dX1_paint_51 : decode cX1_paint 51 = .ok (.iconst 1, 1) := by decide +kernel
theorem dX1_paint_52 : decode cX1_paint 52 = .ok (.iadd, 1) := by decide +kernel
theorem dX1_paint_53 : decode cX1_paint 53 = .ok (.putfield 15, 3) := by decide +kernel
theorem dX1_paint_56 : decode cX1_paint 56 = .ok (.aload_n 2, 1) := by decide +kernel
theorem dX1_paint_57 : decode cX1_paint 57 = .ok (.aload_n 1, 1) := by decide +kernel
theorem dX1_paint_58 : decode cX1_paint 58 = .ok (.iload_n 3, 1) := by decide +kernel
theorem dX1_paint_59 : decode cX1_paint 59 = .ok (.invokevirtual 28, 3) := by decide +kernel
theorem dX1_paint_62 : decode cX1_paint 62 = .ok (.aload_n 0, 1) := by decide +kernel
theorem dX1_paint_63 : decode cX1_paint 63 = .ok (.aload_n 1, 1) := by decide +kernel
theorem dX1_paint_64 : decode cX1_paint 64 = .ok (.aload_n 2, 1) := by decide +kernel
theorem dX1_paint_65 : decode cX1_paint 65 = .ok (.invokevirtual 34, 3) := by decide +kernel
theorem dX1_paint_68 : decode cX1_paint 68 = .ok (.iinc 3 1, 3) := by decide +kernel
theorem dX1_paint_71 : decode cX1_paint 71 = .ok (.goto (-43), 3) := by decide +kernel
theorem dX1_paint_74 : decode cX1_paint 74 = .ok (.aload_n 0, 1) := by decide +kernel
theorem dX1_paint_75 : decode cX1_paint 75 = .ok (.aload_n 0, 1) := by decide +kernel
theorem dX1_paint_76 : decode cX1_paint 76 = .ok (.aload_n 1, 1) := by decide +kernel
theorem dX1_paint_77 : decode cX1_paint 77 = .ok (.invokevirtual 38, 3) := by decide +kernel
theorem dX1_paint_80 : decode cX1_paint 80 = .ok (.putfield 19, 3) := by decide +kernel
theorem dX1_paint_83 : decode cX1_paint 83 = .ok (.return_, 1) := by decide +kernel
theorem dX1_paintPart_0 : decode cX1_paintPart 0 = .ok (.iconst 0, 1) := by decide +kernel
theorem dX1_paintPart_1 : decode cX1_paintPart 1 = .ok (.istore_n 3, 1) := by decide +kernel
theorem dX1_paintPart_2 : decode cX1_paintPart 2 = .ok (.iload_n 3, 1) := by decide +kernel
theorem dX1_paintPart_3 : decode cX1_paintPart 3 = .ok (.aload_n 1, 1) := by decide +kernel
theorem dX1_paintPart_4 : decode cX1_paintPart 4 = .ok (.getfield 23, 3) := by decide +kernel
theorem dX1_paintPart_7 : decode cX1_paintPart 7 = .ok (.if_icmp .ge 33, 3) := by decide +kernel
theorem dX1_paintPart_10 : decode cX1_paintPart 10 = .ok (.aload_n 2, 1) := by decide +kernel
theorem dX1_paintPart_11 : decode cX1_paintPart 11 = .ok (.getfield 42, 3) := by decide +kernel
theorem dX1_paintPart_14 : decode cX1_paintPart 14 = .ok (.iload_n 3, 1) := by decide +kernel
theorem dX1_paintPart_15 : decode cX1_paintPart 15 = .ok (.iaload, 1) := by decide +kernel
theorem dX1_paintPart_16 : decode cX1_paintPart 16 = .ok (.iconst (-1), 1) := by decide +kernel
theorem dX1_paintPart_17 : decode cX1_paintPart 17 = .ok (.if_icmp .eq 17, 3) := by decide +kernel
theorem dX1_paintPart_20 : decode cX1_paintPart 20 = .ok (.aload_n 0, 1) := by decide +kernel
theorem dX1_paintPart_21 : decode cX1_paintPart 21 = .ok (.getfield 9, 3) := by decide +kernel
theorem dX1_paintPart_24 : decode cX1_paintPart 24 = .ok (.iload_n 3, 1) := by decide +kernel
theorem dX1_paintPart_25 : decode cX1_paintPart 25 = .ok (.aload_n 2, 1) := by decide +kernel
theorem dX1_paintPart_26 : decode cX1_paintPart 26 = .ok (.getfield 42, 3) := by decide +kernel
theorem dX1_paintPart_29 : decode cX1_paintPart 29 = .ok (.iload_n 3, 1) := by decide +kernel
theorem dX1_paintPart_30 : decode cX1_paintPart 30 = .ok (.iaload, 1) := by decide +kernel
theorem dX1_paintPart_31 : decode cX1_paintPart 31 = .ok (.iconst 1, 1) := by decide +kernel
theorem dX1_paintPart_32 : decode cX1_paintPart 32 = .ok (.iand, 1) := by decide +kernel
theorem dX1_paintPart_33 : decode cX1_paintPart 33 = .ok (.iastore, 1) := by decide +kernel
theorem dX1_paintPart_34 : decode cX1_paintPart 34 = .ok (.iinc 3 1, 3) := by decide +kernel
theorem dX1_paintPart_37 : decode cX1_paintPart 37 = .ok (.goto (-35), 3) := by decide +kernel
theorem dX1_paintPart_40 : decode cX1_paintPart 40 = .ok (.return_, 1) := by decide +kernel
set_option maxRecDepth 20000 in
theorem ggX1_areUnlike_X3_joins : GoodIn wsX1_areUnlike wsX3_joins := goodIn_r _ [7, 8, 9, 10, 11, 12, 13, 14] (by decide +kernel) (by decide +kernel)
set_option maxRecDepth 20000 in
theorem gX1_areUnlike_X3_joins : GoodIn wsX1_areUnlike (wsV RX1 45 RX3 yX3_joins wsX3_joins) := goodIn_app (goodIn_of _ (by decide +kernel)) ggX1_areUnlike_X3_joins
theorem dX1_areUnlike_0 : decode cX1_areUnlike 0 = .ok (.iconst 0, 1) := by decide +kernel
theorem dX1_areUnlike_1 : decode cX1_areUnlike 1 = .ok (.istore_n 2, 1) := by decide +kernel
theorem dX1_areUnlike_2 : decode cX1_areUnlike 2 = .ok (.iload_n 2, 1) := by decide +kernel
theorem dX1_areUnlike_3 : decode cX1_areUnlike 3 = .ok (.aload_n 1, 1) := by decide +kernel
theorem dX1_areUnlike_4 : decode cX1_areUnlike 4 = .ok (.getfield 23, 3) := by decide +kernel
theorem dX1_areUnlike_7 : decode cX1_areUnlike 7 = .ok (.if_icmp .ge 48, 3) := by decide +kernel
theorem dX1_areUnlike_10 : decode cX1_areUnlike 10 = .ok (.iconst 0, 1) := by decide +kernel
theorem dX1_areUnlike_11 : decode cX1_areUnlike 11 = .ok (.istore_n 3, 1) := by decide +kernel
theorem dX1_areUnlike_12 : decode cX1_areUnlike 12 = .ok (.iload_n 3, 1) := by decide +kernel
theorem dX1_areUnlike_13 : decode cX1_areUnlike 13 = .ok (.iload_n 2, 1) := by decide +kernel
theorem dX1_areUnlike_14 : decode cX1_areUnlike 14 = .ok (.if_icmp .ge 35, 3) := by decide +kernel
theorem dX1_areUnlike_17 : decode cX1_areUnlike 17 = .ok (.aload_n 1, 1) := by decide +kernel
theorem dX1_areUnlike_18 : decode cX1_areUnlike 18 = .ok (.iload_n 2, 1) := by decide +kernel
theorem dX1_areUnlike_19 : decode cX1_areUnlike 19 = .ok (.iload_n 3, 1) := by decide +kernel
theorem dX1_areUnlike_20 : decode cX1_areUnlike 20 = .ok (.invokevirtual 45, 3) := by decide +kernel
theorem dX1_areUnlike_23 : decode cX1_areUnlike 23 = .ok (.ifCond .eq 20, 3) := by decide +kernel
theorem dX1_areUnlike_26 : decode cX1_areUnlike 26 = .ok (.aload_n 0, 1) := by decide +kernel
theorem dX1_areUnlike_27 : decode cX1_areUnlike 27 = .ok (.getfield 9, 3) := by decide +kernel
theorem dX1_areUnlike_30 : decode cX1_areUnlike 30 = .ok (.iload_n 2, 1) := by decide +kernel
theorem dX1_areUnlike_31 : decode cX1_areUnlike 31 = .ok (.iaload, 1) := by decide +kernel
theorem dX1_areUnlike_32 : decode cX1_areUnlike 32 = .ok (.aload_n 0, 1) := by decide +kernel
theorem dX1_areUnlike_33 : decode cX1_areUnlike 33 = .ok (.getfield 9, 3) := by decide +kernel
theorem dX1_areUnlike_36 : decode cX1_areUnlike 36 = .ok (.iload_n 3, 1) := by decide +kernel
theorem dX1_areUnlike_37 : decode cX1_areUnlike 37 = .ok (.iaload, 1) := by decide +kernel
theorem dX1_areUnlike_38 : decode cX1_areUnlike 38 = .ok (.if_icmp .ne 5, 3) := by decide +kernel
theorem dX1_areUnlike_41 : decode cX1_areUnlike 41 = .ok (.iconst 0, 1) := by decide +kernel
theorem dX1_areUnlike_42 : decode cX1_areUnlike 42 = .ok (.ireturn, 1) := by decide +kernel
theorem dX1_areUnlike_43 : decode cX1_areUnlike 43 = .ok (.iinc 3 1, 3) := by decide +kernel
theorem dX1_areUnlike_46 : decode cX1_areUnlike 46 = .ok (.goto (-34), 3) := by decide +kernel
theorem dX1_areUnlike_49 : decode cX1_areUnlike 49 = .ok (.iinc 2 1, 3) := by decide +kernel
theorem dX1_areUnlike_52 : decode cX1_areUnlike 52 = .ok (.goto (-50), 3) := by decide +kernel
theorem dX1_areUnlike_55 : decode cX1_areUnlike 55 = .ok (.iconst 1, 1) := by decide +kernel
theorem dX1_areUnlike_56 : decode cX1_areUnlike 56 = .ok (.ireturn, 1) := by decide +kernel
theorem dX2_init_0 : decode cX2_init 0 = .ok (.aload_n 0, 1) := by decide +kernel
theorem dX2_init_1 : decode cX2_init 1 = .ok (.invokespecial 3, 3) := by decide +kernel
theorem dX2_init_4 : decode cX2_init 4 = .ok (.aload_n 0, 1) := by decide +kernel
theorem dX2_init_5 : decode cX2_init 5 = .ok (.bipush 12, 2) := by decide +kernel
theorem dX2_init_7 : decode cX2_init 7 = .ok (.newarray .int, 2) := by decide +kernel
theorem dX2_init_9 : decode cX2_init 9 = .ok (.putfield 9, 3) := by decide +kernel
theorem dX2_init_12 : decode cX2_init 12 = .ok (.aload_n 0, 1) := by decide +kernel
theorem dX2_init_13 : decode cX2_init 13 = .ok (.bipush 12, 2) := by decide +kernel
theorem dX2_init_15 : decode cX2_init 15 = .ok (.newarray .int, 2) := by decide +kernel
theorem dX2_init_17 : decode cX2_init 17 = .ok (.putfield 15, 3) := by decide +kernel
theorem dX2_init_20 : decode cX2_init 20 = .ok (.aload_n 0, 1) := by decide +kernel
theorem dX2_init_21 : decode cX2_init 21 = .ok (.bipush 12, 2) := by decide +kernel
theorem dX2_init_23 : decode cX2_init 23 = .ok (.newarray .int, 2) := by decide +kernel
theorem dX2_init_25 : decode cX2_init 25 = .ok (.putfield 18, 3) := by decide +kernel
theorem dX2_init_28 : decode cX2_init 28 = .ok (.aload_n 0, 1) := by decide +kernel
theorem dX2_init_29 : decode cX2_init 29 = .ok (.iconst 0, 1) := by decide +kernel
theorem dX2_init_30 : decode cX2_init 30 = .ok (.putfield 21, 3) := by decide +kernel
theorem dX2_init_33 : decode cX2_init 33 = .ok (.return_, 1) := by decide +kernel
set_option maxRecDepth 20000 in
theorem ggX2_spread_X2_visitNeighbours : GoodIn wsX2_spread wsX2_visitNeighbours := goodIn_r _ [10, 4, 2, 1, 5, 3, 11, 12, 13, 14, 15, 16, 17, 18, 19, 24, 25, 26, 20, 21, 22, 23] (by decide +kernel) (by decide +kernel)
set_option maxRecDepth 20000 in
theorem gX2_spread_X2_visitNeighbours : GoodIn wsX2_spread (wsV RX2 30 RX2 yX2_visitNeighbours wsX2_visitNeighbours) := goodIn_app (goodIn_of _ (by decide +kernel)) ggX2_spread_X2_visitNeighbours
theorem dX2_spread_0 : decode cX2_spread 0 = .ok (.aload_n 0, 1) := by decide +kernel
theorem dX2_spread_1 : decode cX2_spread 1 = .ok (.iconst 0, 1) := by decide +kernel
theorem dX2_spread_2 : decode cX2_spread 2 = .ok (.putfield 21, 3) := by decide +kernel
theorem dX2_spread_5 : decode cX2_spread 5 = .ok (.iconst 0, 1) := by decide +kernel
theorem dX2_spread_6 : decode cX2_spread 6 = .ok (.istore_n 3, 1) := by decide +kernel
theorem dX2_spread_7 : decode cX2_spread 7 = .ok (.iload_n 3, 1) := by decide +kernel
theorem dX2_spread_8 : decode cX2_spread 8 = .ok (.bipush 12, 2) := by decide +kernel
theorem dX2_spread_10 : decode cX2_spread 10 = .ok (.if_icmp .ge 23, 3) := by decide +kernel
theorem dX2_spread_13 : decode cX2_spread 13 = .ok (.aload_n 0, 1) := by decide +kernel
theorem dX2_spread_14 : decode cX2_spread 14 = .ok (.getfield 9, 3) := by decide +kernel
theorem dX2_spread_17 : decode cX2_spread 17 = .ok (.iload_n 3, 1) := by decide +kernel
theorem dX2_spread_18 : decode cX2_spread 18 = .ok (.iconst (-1), 1) := by decide +kernel
theorem dX2_spread_19 : decode cX2_spread 19 = .ok (.iastore, 1) := by decide +kernel
theorem dX2_spread_20 : decode cX2_spread 20 = .ok (.aload_n 0, 1) := by decide +kernel
theorem dX2_spread_21 : decode cX2_spread 21 = .ok (.getfield 15, 3) := by decide +kernel
theorem dX2_spread_24 : decode cX2_spread 24 = .ok (.iload_n 3, 1) := by decide +kernel
theorem dX2_spread_25 : decode cX2_spread 25 = .ok (.iconst 0, 1) := by decide +kernel
theorem dX2_spread_26 : decode cX2_spread 26 = .ok (.iastore, 1) := by decide +kernel
theorem dX2_spread_27 : decode cX2_spread 27 = .ok (.iinc 3 1, 3) := by decide +kernel
theorem dX2_spread_30 : decode cX2_spread 30 = .ok (.goto (-23), 3) := by decide +kernel
theorem dX2_spread_33 : decode cX2_spread 33 = .ok (.iload_n 2, 1) := by decide +kernel
theorem dX2_spread_34 : decode cX2_spread 34 = .ok (.ifCond .lt 11, 3) := by decide +kernel
theorem dX2_spread_37 : decode cX2_spread 37 = .ok (.iload_n 2, 1) := by decide +kernel
theorem dX2_spread_38 : decode cX2_spread 38 = .ok (.aload_n 1, 1) := by decide +kernel
theorem dX2_spread_39 : decode cX2_spread 39 = .ok (.getfield 25, 3) := by decide +kernel
theorem dX2_spread_42 : decode cX2_spread 42 = .ok (.if_icmp .lt 4, 3) := by decide +kernel
theorem dX2_spread_45 : decode cX2_spread 45 = .ok (.return_, 1) := by decide +kernel
theorem dX2_spread_46 : decode cX2_spread 46 = .ok (.aload_n 0, 1) := by decide +kernel
theorem dX2_spread_47 : decode cX2_spread 47 = .ok (.getfield 9, 3) := by decide +kernel
theorem dX2_spread_50 : decode cX2_spread 50 = .ok (.iload_n 2, 1) := by decide +kernel
theorem dX2_spread_51 : decode cX2_spread 51 = .ok (.iconst 0, 1) := by decide +kernel
theorem dX2_spread_52 : decode cX2_spread 52 = .ok (.iastore, 1) := by decide +kernel
theorem dX2_spread_53 : decode cX2_spread 53 = .ok (.aload_n 0, 1) := by decide +kernel
theorem dX2_spread_54 : decode cX2_spread 54 = .ok (.getfield 15, 3) := by decide +kernel
theorem dX2_spread_57 : decode cX2_spread 57 = .ok (.iload_n 2, 1) := by decide +kernel
theorem dX2_spread_58 : decode cX2_spread 58 = .ok (.iconst 1, 1) := by decide +kernel
theorem dX2_spread_59 : decode cX2_spread 59 = .ok (.iastore, 1) := by decide +kernel
theorem dX2_spread_60 : decode cX2_spread 60 = .ok (.aload_n 0, 1) := by decide +kernel
theorem dX2_spread_61 : decode cX2_spread 61 = .ok (.getfield 18, 3) := by decide +kernel
theorem dX2_spread_64 : decode cX2_spread 64 = .ok (.iconst 0, 1) := by decide +kernel
theorem dX2_spread_65 : decode cX2_spread 65 = .ok (.iload_n 2, 1) := by decide +kernel
theorem dX2_spread_66 : decode cX2_spread 66 = .ok (.iastore, 1) := by decide +kernel
theorem dX2_spread_67 : decode cX2_spread 67 = .ok (.aload_n 0, 1) := by decide +kernel
theorem dX2_spread_68 : decode cX2_spread 68 = .ok (.iconst 1, 1) := by decide +kernel
theorem dX2_spread_69 : decode cX2_spread 69 = .ok (.putfield 21, 3) := by decide +kernel
theorem dX2_spread_72 : decode cX2_spread 72 = .ok (.iconst 0, 1) := by decide +kernel
theorem dX2_spread_73 : decode cX2_spread 73 = .ok (.istore_n 3, 1) := by decide +kernel
theorem dX2_spread_74 : decode cX2_spread 74 = .ok (.iload_n 3, 1) := by decide +kernel
theorem dX2_spread_75 : decode cX2_spread 75 = .ok (.aload_n 0, 1) := by decide +kernel
theorem dX2_spread_76 : decode cX2_spread 76 = .ok (.getfield 21, 3) := by decide +kernel
theorem dX2_spread_79 : decode cX2_spread 79 = .ok (.if_icmp .ge 26, 3) := by decide +kernel
theorem dX2_spread_82 : decode cX2_spread 82 = .ok (.iload_n 3, 1) := by decide +kernel
theorem dX2_spread_83 : decode cX2_spread 83 = .ok (.bipush 12, 2) := by decide +kernel
theorem dX2_spread_85 : decode cX2_spread 85 = .ok (.if_icmp .ge 20, 3) := by decide +kernel
theorem dX2_spread_88 : decode cX2_spread 88 = .ok (.aload_n 0, 1) := by decide +kernel
theorem dX2_spread_89 : decode cX2_spread 89 = .ok (.aload_n 1, 1) := by decide +kernel
theorem dX2_spread_90 : decode cX2_spread 90 = .ok (.aload_n 0, 1) := by decide +kernel
theorem dX2_spread_91 : decode cX2_spread 91 = .ok (.getfield 18, 3) := by decide +kernel
theorem dX2_spread_94 : decode cX2_spread 94 = .ok (.iload_n 3, 1) := by decide +kernel
theorem dX2_spread_95 : decode cX2_spread 95 = .ok (.iaload, 1) := by decide +kernel
theorem dX2_spread_96 : decode cX2_spread 96 = .ok (.invokevirtual 30, 3) := by decide +kernel
theorem dX2_spread_99 : decode cX2_spread 99 = .ok (.iinc 3 1, 3) := by decide +kernel
theorem dX2_spread_102 : decode cX2_spread 102 = .ok (.goto (-28), 3) := by decide +kernel
theorem dX2_spread_105 : decode cX2_spread 105 = .ok (.return_, 1) := by decide +kernel
set_option maxRecDepth 20000 in
theorem ggX2_visitNeighbours_X3_joins : GoodIn wsX2_visitNeighbours wsX3_joins := goodIn_r _ [10, 11, 12, 13, 14, 15, 16, 17] (by decide +kernel) (by decide +kernel)
set_option maxRecDepth 20000 in
theorem gX2_visitNeighbours_X3_joins : GoodIn wsX2_visitNeighbours (wsV RX2 34 RX3 yX3_joins wsX3_joins) := goodIn_app (goodIn_of _ (by decide +kernel)) ggX2_visitNeighbours_X3_joins
theorem dX2_visitNeighbours_0 : decode cX2_visitNeighbours 0 = .ok (.iconst 0, 1) := by decide +kernel
theorem dX2_visitNeighbours_1 : decode cX2_visitNeighbours 1 = .ok (.istore_n 3, 1) := by decide +kernel
theorem dX2_visitNeighbours_2 : decode cX2_visitNeighbours 2 = .ok (.iload_n 3, 1) := by decide +kernel
theorem dX2_visitNeighbours_3 : decode cX2_visitNeighbours 3 = .ok (.aload_n 1, 1) := by decide +kernel
theorem dX2_visitNeighbours_4 : decode cX2_visitNeighbours 4 = .ok (.getfield 25, 3) := by decide +kernel
theorem dX2_visitNeighbours_7 : decode cX2_visitNeighbours 7 = .ok (.if_icmp .ge 106, 3) := by decide +kernel
theorem dX2_visitNeighbours_10 : decode cX2_visitNeighbours 10 = .ok (.aload_n 1, 1) := by decide +kernel
theorem dX2_visitNeighbours_11 : decode cX2_visitNeighbours 11 = .ok (.iload_n 2, 1) := by decide +kernel
theorem dX2_visitNeighbours_12 : decode cX2_visitNeighbours 12 = .ok (.iload_n 3, 1) := by decide +kernel
theorem dX2_visitNeighbours_13 : decode cX2_visitNeighbours 13 = .ok (.invokevirtual 34, 3) := by decide +kernel
theorem dX2_visitNeighbours_16 : decode cX2_visitNeighbours 16 = .ok (.ifCond .ne 6, 3) := by decide +kernel
theorem dX2_visitNeighbours_19 : decode cX2_visitNeighbours 19 = .ok (.goto 88, 3) := by decide +kernel
theorem dX2_visitNeighbours_22 : decode cX2_visitNeighbours 22 = .ok (.aload_n 0, 1) := by decide +kernel
theorem dX2_visitNeighbours_23 : decode cX2_visitNeighbours 23 = .ok (.getfield 9, 3) := by decide +kernel
theorem dX2_visitNeighbours_26 : decode cX2_visitNeighbours 26 = .ok (.iload_n 3, 1) := by decide +kernel
theorem dX2_visitNeighbours_27 : decode cX2_visitNeighbours 27 = .ok (.iaload, 1) := by decide +kernel
theorem dX2_visitNeighbours_28 : decode cX2_visitNeighbours 28 = .ok (.iconst (-1), 1) := by decide +kernel
theorem dX2_visitNeighbours_29 : decode cX2_visitNeighbours 29 = .ok (.if_icmp .ne 46, 3) := by decide +kernel
theorem dX2_visitNeighbours_32 : decode cX2_visitNeighbours 32 = .ok (.aload_n 0, 1) := by decide +kernel
theorem dX2_visitNeighbours_33 : decode cX2_visitNeighbours 33 = .ok (.getfield 21, 3) := by decide +kernel
theorem dX2_visitNeighbours_36 : decode cX2_visitNeighbours 36 = .ok (.bipush 12, 2) := by decide +kernel
theorem dX2_visitNeighbours_38 : decode cX2_visitNeighbours 38 = .ok (.if_icmp .ge 37, 3) := by decide +kernel
theorem dX2_visitNeighbours_41 : decode cX2_visitNeighbours 41 = .ok (.aload_n 0, 1) := by decide +kernel
theorem dX2_visitNeighbours_42 : decode cX2_visitNeighbours 42 = .ok (.getfield 9, 3) := by decide +kernel
theorem dX2_visitNeighbours_45 : decode cX2_visitNeighbours 45 = .ok (.iload_n 3, 1) := by decide +kernel
theorem dX2_visitNeighbours_46 : decode cX2_visitNeighbours 46 = .ok (.aload_n 0, 1) := by decide +kernel
theorem dX2_visitNeighbours_47 : decode cX2_visitNeighbours 47 = .ok (.getfield 9, 3) := by decide +kernel
theorem dX2_visitNeighbours_50 : decode cX2_visitNeighbours 50 = .ok (.iload_n 2, 1) := by decide +kernel
theorem dX2_visitNeighbours_51 : decode cX2_visitNeighbours 51 = .ok (.iaload, 1) := by decide +kernel
theorem dX2_visitNeighbours_52 : decode cX2_visitNeighbours 52 = .ok (.iconst 1, 1) := by decide +kernel
theorem dX2_visitNeighbours_53 : decode cX2_visitNeighbours 53 = .ok (.iadd, 1) := by decide +kernel
theorem dX2_visitNeighbours_54 : decode cX2_visitNeighbours 54 = .ok (.iastore, 1) := by decide +kernel
theorem dX2_visitNeighbours_55 : decode cX2_visitNeighbours 55 = .ok (.aload_n 0, 1) := by decide +kernel
theorem dX2_visitNeighbours_56 : decode cX2_visitNeighbours 56 = .ok (.getfield 18, 3) := by decide +kernel
theorem dX2_visitNeighbours_59 : decode cX2_visitNeighbours 59 = .ok (.aload_n 0, 1) := by decide +kernel
theorem dX2_visitNeighbours_60 : decode cX2_visitNeighbours 60 = .ok (.getfield 21, 3) := by decide +kernel
theorem dX2_visitNeighbours_63 : decode cX2_visitNeighbours 63 = .ok (.iload_n 3, 1) := by decide +kernel
theorem dX2_visitNeighbours_64 : decode cX2_visitNeighbours 64 = .ok (.iastore, 1) := by decide +kernel
theorem dX2_visitNeighbours_65 : decode cX2_visitNeighbours 65 = .ok (.aload_n 0, 1) := by decide +kernel
theorem dX2_visitNeighbours_66 : decode cX2_visitNeighbours 66 = .ok (.dup, 1) := by decide +kernel
theorem dX2_visitNeighbours_67 : decode cX2_visitNeighbours 67 = .ok (.getfield 21, 3) := by decide +kernel
theorem dX2_visitNeighbours_70 : decode cX2_visitNeighbours 70 = .ok (.iconst 1, 1) := by decide +kernel
theorem dX2_visitNeighbours_71 : decode cX2_visitNeighbours 71 = .ok (.iadd, 1) := by decide +kernel
theorem dX2_visitNeighbours_72 : decode cX2_visitNeighbours 72 = .ok (.putfield 21, 3) := by decide +kernel
theorem dX2_visitNeighbours_75 : decode cX2_visitNeighbours 75 = .ok (.aload_n 0, 1) := by decide +kernel
theorem dX2_visitNeighbours_76 : decode cX2_visitNeighbours 76 = .ok (.getfield 9, 3) := by decide +kernel
theorem dX2_visitNeighbours_79 : decode cX2_visitNeighbours 79 = .ok (.iload_n 3, 1) := by decide +kernel
theorem dX2_visitNeighbours_80 : decode cX2_visitNeighbours 80 = .ok (.iaload, 1) := by decide +kernel
theorem dX2_visitNeighbours_81 : decode cX2_visitNeighbours 81 = .ok (.aload_n 0, 1) := by decide +kernel
theorem dX2_visitNeighbours_82 : decode cX2_visitNeighbours 82 = .ok (.getfield 9, 3) := by decide +kernel
theorem dX2_visitNeighbours_85 : decode cX2_visitNeighbours 85 = .ok (.iload_n 2, 1) := by decide +kernel
theorem dX2_visitNeighbours_86 : decode cX2_visitNeighbours 86 = .ok (.iaload, 1) := by decide +kernel
theorem dX2_visitNeighbours_87 : decode cX2_visitNeighbours 87 = .ok (.iconst 1, 1) := by decide +kernel
theorem dX2_visitNeighbours_88 : decode cX2_visitNeighbours 88 = .ok (.iadd, 1) := by decide +kernel
theorem dX2_visitNeighbours_89 : decode cX2_visitNeighbours 89 = .ok (.if_icmp .ne 18, 3) := by decide +kernel
theorem dX2_visitNeighbours_92 : decode cX2_visitNeighbours 92 = .ok (.aload_n 0, 1) := by decide +kernel
theorem dX2_visitNeighbours_93 : decode cX2_visitNeighbours 93 = .ok (.getfield 15, 3) := by decide +kernel
theorem dX2_visitNeighbours_96 : decode cX2_visitNeighbours 96 = .ok (.iload_n 3, 1) := by decide +kernel
theorem dX2_visitNeighbours_97 : decode cX2_visitNeighbours 97 = .ok (.dup2, 1) := by decide +kernel
theorem dX2_visitNeighbours_98 : decode cX2_visitNeighbours 98 = .ok (.iaload, 1) := by decide +kernel
theorem dX2_visitNeighbours_99 : decode cX2_visitNeighbours 99 = .ok (.aload_n 0, 1) := by decide +kernel
theorem dX2_visitNeighbours_100 : decode cX2_visitNeighbours 100 = .ok (.getfield 15, 3) := by decide +kernel
theorem dX2_visitNeighbours_103 : decode cX2_visitNeighbours 103 = .ok (.iload_n 2, 1) := by decide +kernel
theorem dX2_visitNeighbours_104 : decode cX2_visitNeighbours 104 = .ok (.iaload, 1) := by decide +kernel
theorem dX2_visitNeighbours_105 : decode cX2_visitNeighbours 105 = .ok (.iadd, 1) := by decide +kernel
theorem dX2_visitNeighbours_106 : decode cX2_visitNeighbours 106 = .ok (.iastore, 1) := by decide +kernel
theorem dX2_visitNeighbours_107 : decode cX2_visitNeighbours 107 = .ok (.iinc 3 1, 3) := by decide +kernel
theorem dX2_visitNeighbours_110 : decode cX2_visitNeighbours 110 = .ok (.goto (-108), 3) := by decide +kernel
theorem dX2_visitNeighbours_113 : decode cX2_visitNeighbours 113 = .ok (.return_, 1) := by decide +kernel
theorem dX3_init_0 : decode cX3_init 0 = .ok (.aload_n 0, 1) := by decide +kernel
theorem dX3_init_1 : decode cX3_init 1 = .ok (.invokespecial 3, 3) := by decide +kernel
theorem dX3_init_4 : decode cX3_init 4 = .ok (.aload_n 0, 1) := by decide +kernel
theorem dX3_init_5 : decode cX3_init 5 = .ok (.bipush 12, 2) := by decide +kernel
theorem dX3_init_7 : decode cX3_init 7 = .ok (.newarray .int, 2) := by decide +kernel
theorem dX3_init_9 : decode cX3_init 9 = .ok (.putfield 9, 3) := by decide +kernel
theorem dX3_init_12 : decode cX3_init 12 = .ok (.aload_n 0, 1) := by decide +kernel
theorem dX3_init_13 : decode cX3_init 13 = .ok (.bipush 12, 2) := by decide +kernel
theorem dX3_init_15 : decode cX3_init 15 = .ok (.newarray .int, 2) := by decide +kernel
theorem dX3_init_17 : decode cX3_init 17 = .ok (.putfield 15, 3) := by decide +kernel
theorem dX3_init_20 : decode cX3_init 20 = .ok (.aload_n 0, 1) := by decide +kernel
theorem dX3_init_21 : decode cX3_init 21 = .ok (.iconst 0, 1) := by decide +kernel
theorem dX3_init_22 : decode cX3_init 22 = .ok (.putfield 18, 3) := by decide +kernel
theorem dX3_init_25 : decode cX3_init 25 = .ok (.return_, 1) := by decide +kernel
theorem dX3_find_0 : decode cX3_find 0 = .ok (.iconst 0, 1) := by decide +kernel
theorem dX3_find_1 : decode cX3_find 1 = .ok (.istore_n 2, 1) := by decide +kernel
theorem dX3_find_2 : decode cX3_find 2 = .ok (.iload_n 2, 1) := by decide +kernel
theorem dX3_find_3 : decode cX3_find 3 = .ok (.aload_n 0, 1) := by decide +kernel
theorem dX3_find_4 : decode cX3_find 4 = .ok (.getfield 18, 3) := by decide +kernel
theorem dX3_find_7 : decode cX3_find 7 = .ok (.if_icmp .ge 21, 3) := by decide +kernel
theorem dX3_find_10 : decode cX3_find 10 = .ok (.aload_n 0, 1) := by decide +kernel
theorem dX3_find_11 : decode cX3_find 11 = .ok (.getfield 9, 3) := by decide +kernel
theorem dX3_find_14 : decode cX3_find 14 = .ok (.iload_n 2, 1) := by decide +kernel
theorem dX3_find_15 : decode cX3_find 15 = .ok (.iaload, 1) := by decide +kernel
theorem dX3_find_16 : decode cX3_find 16 = .ok (.iload_n 1, 1) := by decide +kernel
theorem dX3_find_17 : decode cX3_find 17 = .ok (.if_icmp .ne 5, 3) := by decide +kernel
theorem dX3_find_20 : decode cX3_find 20 = .ok (.iload_n 2, 1) := by decide +kernel
theorem dX3_find_21 : decode cX3_find 21 = .ok (.ireturn, 1) := by decide +kernel
theorem dX3_find_22 : decode cX3_find 22 = .ok (.iinc 2 1, 3) := by decide +kernel
theorem dX3_find_25 : decode cX3_find 25 = .ok (.goto (-23), 3) := by decide +kernel
theorem dX3_find_28 : decode cX3_find 28 = .ok (.iconst (-1), 1) := by decide +kernel
theorem dX3_find_29 : decode cX3_find 29 = .ok (.ireturn, 1) := by decide +kernel
set_option maxRecDepth 20000 in
theorem ggX3_insert_X3_withRoomAt : GoodIn wsX3_insert wsX3_withRoomAt := goodIn_r _ [7] (by decide +kernel) (by decide +kernel)
set_option maxRecDepth 20000 in
theorem gX3_insert_X3_withRoomAt : GoodIn wsX3_insert (va_wsS RX3 22 yX3_withRoomAt wsX3_withRoomAt) := goodIn_app (goodIn_of _ (by decide +kernel)) ggX3_insert_X3_withRoomAt
theorem dX3_insert_0 : decode cX3_insert 0 = .ok (.aload_n 0, 1) := by decide +kernel
theorem dX3_insert_1 : decode cX3_insert 1 = .ok (.getfield 18, 3) := by decide +kernel
theorem dX3_insert_4 : decode cX3_insert 4 = .ok (.bipush 12, 2) := by decide +kernel
theorem dX3_insert_6 : decode cX3_insert 6 = .ok (.if_icmp .lt 4, 3) := by decide +kernel
theorem dX3_insert_9 : decode cX3_insert 9 = .ok (.return_, 1) := by decide +kernel
theorem dX3_insert_10 : decode cX3_insert 10 = .ok (.aload_n 0, 1) := by decide +kernel
theorem dX3_insert_11 : decode cX3_insert 11 = .ok (.getfield 18, 3) := by decide +kernel
theorem dX3_insert_14 : decode cX3_insert 14 = .ok (.istore_n 2, 1) := by decide +kernel
theorem dX3_insert_15 : decode cX3_insert 15 = .ok (.iload_n 2, 1) := by decide +kernel
theorem dX3_insert_16 : decode cX3_insert 16 = .ok (.ifCond .le 49, 3) := by decide +kernel
theorem dX3_insert_19 : decode cX3_insert 19 = .ok (.aload_n 0, 1) := by decide +kernel
theorem dX3_insert_20 : decode cX3_insert 20 = .ok (.getfield 9, 3) := by decide +kernel
theorem dX3_insert_23 : decode cX3_insert 23 = .ok (.iload_n 2, 1) := by decide +kernel
theorem dX3_insert_24 : decode cX3_insert 24 = .ok (.iconst 1, 1) := by decide +kernel
theorem dX3_insert_25 : decode cX3_insert 25 = .ok (.isub, 1) := by decide +kernel
theorem dX3_insert_26 : decode cX3_insert 26 = .ok (.iaload, 1) := by decide +kernel
theorem dX3_insert_27 : decode cX3_insert 27 = .ok (.iload_n 1, 1) := by decide +kernel
theorem dX3_insert_28 : decode cX3_insert 28 = .ok (.if_icmp .le 37, 3) := by decide +kernel
theorem dX3_insert_31 : decode cX3_insert 31 = .ok (.aload_n 0, 1) := by decide +kernel
theorem dX3_insert_32 : decode cX3_insert 32 = .ok (.getfield 9, 3) := by decide +kernel
theorem dX3_insert_35 : decode cX3_insert 35 = .ok (.iload_n 2, 1) := by decide +kernel
theorem dX3_insert_36 : decode cX3_insert 36 = .ok (.aload_n 0, 1) := by decide +kernel
theorem dX3_insert_37 : decode cX3_insert 37 = .ok (.getfield 9, 3) := by decide +kernel
theorem dX3_insert_40 : decode cX3_insert 40 = .ok (.iload_n 2, 1) := by decide +kernel
theorem dX3_insert_41 : decode cX3_insert 41 = .ok (.iconst 1, 1) := by decide +kernel
theorem dX3_insert_42 : decode cX3_insert 42 = .ok (.isub, 1) := by decide +kernel
theorem dX3_insert_43 : decode cX3_insert 43 = .ok (.iaload, 1) := by decide +kernel
theorem dX3_insert_44 : decode cX3_insert 44 = .ok (.iastore, 1) := by decide +kernel
theorem dX3_insert_45 : decode cX3_insert 45 = .ok (.aload_n 0, 1) := by decide +kernel
theorem dX3_insert_46 : decode cX3_insert 46 = .ok (.getfield 15, 3) := by decide +kernel
theorem dX3_insert_49 : decode cX3_insert 49 = .ok (.iload_n 2, 1) := by decide +kernel
theorem dX3_insert_50 : decode cX3_insert 50 = .ok (.aload_n 0, 1) := by decide +kernel
theorem dX3_insert_51 : decode cX3_insert 51 = .ok (.getfield 15, 3) := by decide +kernel
theorem dX3_insert_54 : decode cX3_insert 54 = .ok (.iload_n 2, 1) := by decide +kernel
theorem dX3_insert_55 : decode cX3_insert 55 = .ok (.iconst 1, 1) := by decide +kernel
theorem dX3_insert_56 : decode cX3_insert 56 = .ok (.isub, 1) := by decide +kernel
theorem dX3_insert_57 : decode cX3_insert 57 = .ok (.iaload, 1) := by decide +kernel
theorem dX3_insert_58 : decode cX3_insert 58 = .ok (.iastore, 1) := by decide +kernel
theorem dX3_insert_59 : decode cX3_insert 59 = .ok (.iinc 2 (-1), 3) := by decide +kernel
theorem dX3_insert_62 : decode cX3_insert 62 = .ok (.goto (-47), 3) := by decide +kernel
theorem dX3_insert_65 : decode cX3_insert 65 = .ok (.aload_n 0, 1) := by decide +kernel
theorem dX3_insert_66 : decode cX3_insert 66 = .ok (.getfield 9, 3) := by decide +kernel
theorem dX3_insert_69 : decode cX3_insert 69 = .ok (.iload_n 2, 1) := by decide +kernel
theorem dX3_insert_70 : decode cX3_insert 70 = .ok (.iload_n 1, 1) := by decide +kernel
theorem dX3_insert_71 : decode cX3_insert 71 = .ok (.iastore, 1) := by decide +kernel
theorem dX3_insert_72 : decode cX3_insert 72 = .ok (.aload_n 0, 1) := by decide +kernel
theorem dX3_insert_73 : decode cX3_insert 73 = .ok (.getfield 15, 3) := by decide +kernel
theorem dX3_insert_76 : decode cX3_insert 76 = .ok (.iload_n 2, 1) := by decide +kernel
theorem dX3_insert_77 : decode cX3_insert 77 = .ok (.iconst 0, 1) := by decide +kernel
theorem dX3_insert_78 : decode cX3_insert 78 = .ok (.iastore, 1) := by decide +kernel
theorem dX3_insert_79 : decode cX3_insert 79 = .ok (.aload_n 0, 1) := by decide +kernel
theorem dX3_insert_80 : decode cX3_insert 80 = .ok (.dup, 1) := by decide +kernel
theorem dX3_insert_81 : decode cX3_insert 81 = .ok (.getfield 18, 3) := by decide +kernel
theorem dX3_insert_84 : decode cX3_insert 84 = .ok (.iconst 1, 1) := by decide +kernel
theorem dX3_insert_85 : decode cX3_insert 85 = .ok (.iadd, 1) := by decide +kernel
theorem dX3_insert_86 : decode cX3_insert 86 = .ok (.putfield 18, 3) := by decide +kernel
theorem dX3_insert_89 : decode cX3_insert 89 = .ok (.iconst 0, 1) := by decide +kernel
theorem dX3_insert_90 : decode cX3_insert 90 = .ok (.istore_n 3, 1) := by decide +kernel
theorem dX3_insert_91 : decode cX3_insert 91 = .ok (.iload_n 3, 1) := by decide +kernel
theorem dX3_insert_92 : decode cX3_insert 92 = .ok (.aload_n 0, 1) := by decide +kernel
theorem dX3_insert_93 : decode cX3_insert 93 = .ok (.getfield 18, 3) := by decide +kernel
theorem dX3_insert_96 : decode cX3_insert 96 = .ok (.if_icmp .ge 25, 3) := by decide +kernel
theorem dX3_insert_99 : decode cX3_insert 99 = .ok (.aload_n 0, 1) := by decide +kernel
theorem dX3_insert_100 : decode cX3_insert 100 = .ok (.getfield 15, 3) := by decide +kernel
theorem dX3_insert_103 : decode cX3_insert 103 = .ok (.iload_n 3, 1) := by decide +kernel
theorem dX3_insert_104 : decode cX3_insert 104 = .ok (.aload_n 0, 1) := by decide +kernel
theorem dX3_insert_105 : decode cX3_insert 105 = .ok (.getfield 15, 3) := by decide +kernel
theorem dX3_insert_108 : decode cX3_insert 108 = .ok (.iload_n 3, 1) := by decide +kernel
theorem dX3_insert_109 : decode cX3_insert 109 = .ok (.iaload, 1) := by decide +kernel
theorem dX3_insert_110 : decode cX3_insert 110 = .ok (.iload_n 2, 1) := by decide +kernel
theorem dX3_insert_111 : decode cX3_insert 111 = .ok (.invokestatic 22, 3) := by decide +kernel
theorem dX3_insert_114 : decode cX3_insert 114 = .ok (.iastore, 1) := by decide +kernel
theorem dX3_insert_115 : decode cX3_insert 115 = .ok (.iinc 3 1, 3) := by decide +kernel
theorem dX3_insert_118 : decode cX3_insert 118 = .ok (.goto (-27), 3) := by decide +kernel
theorem dX3_insert_121 : decode cX3_insert 121 = .ok (.return_, 1) := by decide +kernel
set_option maxRecDepth 20000 in
theorem ggX3_remove_X3_without : GoodIn wsX3_remove wsX3_without := goodIn_r _ [7] (by decide +kernel) (by decide +kernel)
set_option maxRecDepth 20000 in
theorem gX3_remove_X3_without : GoodIn wsX3_remove (va_wsS RX3 26 yX3_without wsX3_without) := goodIn_app (goodIn_of _ (by decide +kernel)) ggX3_remove_X3_without
theorem dX3_remove_0 : decode cX3_remove 0 = .ok (.iload_n 1, 1) := by decide +kernel
theorem dX3_remove_1 : decode cX3_remove 1 = .ok (.istore_n 2, 1) := by decide +kernel
theorem dX3_remove_2 : decode cX3_remove 2 = .ok (.iload_n 2, 1) := by decide +kernel
theorem dX3_remove_3 : decode cX3_remove 3 = .ok (.aload_n 0, 1) := by decide +kernel
theorem dX3_remove_4 : decode cX3_remove 4 = .ok (.getfield 18, 3) := by decide +kernel
theorem dX3_remove_7 : decode cX3_remove 7 = .ok (.iconst 1, 1) := by decide +kernel
theorem dX3_remove_8 : decode cX3_remove 8 = .ok (.isub, 1) := by decide +kernel
theorem dX3_remove_9 : decode cX3_remove 9 = .ok (.if_icmp .ge 37, 3) := by decide +kernel
theorem dX3_remove_12 : decode cX3_remove 12 = .ok (.aload_n 0, 1) := by decide +kernel
theorem dX3_remove_13 : decode cX3_remove 13 = .ok (.getfield 9, 3) := by decide +kernel
theorem dX3_remove_16 : decode cX3_remove 16 = .ok (.iload_n 2, 1) := by decide +kernel
theorem dX3_remove_17 : decode cX3_remove 17 = .ok (.aload_n 0, 1) := by decide +kernel
theorem dX3_remove_18 : decode cX3_remove 18 = .ok (.getfield 9, 3) := by decide +kernel
theorem dX3_remove_21 : decode cX3_remove 21 = .ok (.iload_n 2, 1) := by decide +kernel
theorem dX3_remove_22 : decode cX3_remove 22 = .ok (.iconst 1, 1) := by decide +kernel
theorem dX3_remove_23 : decode cX3_remove 23 = .ok (.iadd, 1) := by decide +kernel
theorem dX3_remove_24 : decode cX3_remove 24 = .ok (.iaload, 1) := by decide +kernel
theorem dX3_remove_25 : decode cX3_remove 25 = .ok (.iastore, 1) := by decide +kernel
theorem dX3_remove_26 : decode cX3_remove 26 = .ok (.aload_n 0, 1) := by decide +kernel
theorem dX3_remove_27 : decode cX3_remove 27 = .ok (.getfield 15, 3) := by decide +kernel
theorem dX3_remove_30 : decode cX3_remove 30 = .ok (.iload_n 2, 1) := by decide +kernel
theorem dX3_remove_31 : decode cX3_remove 31 = .ok (.aload_n 0, 1) := by decide +kernel
theorem dX3_remove_32 : decode cX3_remove 32 = .ok (.getfield 15, 3) := by decide +kernel
theorem dX3_remove_35 : decode cX3_remove 35 = .ok (.iload_n 2, 1) := by decide +kernel
theorem dX3_remove_36 : decode cX3_remove 36 = .ok (.iconst 1, 1) := by decide +kernel
theorem dX3_remove_37 : decode cX3_remove 37 = .ok (.iadd, 1) := by decide +kernel
theorem dX3_remove_38 : decode cX3_remove 38 = .ok (.iaload, 1) := by decide +kernel
theorem dX3_remove_39 : decode cX3_remove 39 = .ok (.iastore, 1) := by decide +kernel
theorem dX3_remove_40 : decode cX3_remove 40 = .ok (.iinc 2 1, 3) := by decide +kernel
theorem dX3_remove_43 : decode cX3_remove 43 = .ok (.goto (-41), 3) := by decide +kernel
theorem dX3_remove_46 : decode cX3_remove 46 = .ok (.aload_n 0, 1) := by decide +kernel
theorem dX3_remove_47 : decode cX3_remove 47 = .ok (.dup, 1) := by decide +kernel
theorem dX3_remove_48 : decode cX3_remove 48 = .ok (.getfield 18, 3) := by decide +kernel
theorem dX3_remove_51 : decode cX3_remove 51 = .ok (.iconst 1, 1) := by decide +kernel
theorem dX3_remove_52 : decode cX3_remove 52 = .ok (.isub, 1) := by decide +kernel
theorem dX3_remove_53 : decode cX3_remove 53 = .ok (.putfield 18, 3) := by decide +kernel
theorem dX3_remove_56 : decode cX3_remove 56 = .ok (.iconst 0, 1) := by decide +kernel
theorem dX3_remove_57 : decode cX3_remove 57 = .ok (.istore_n 2, 1) := by decide +kernel
theorem dX3_remove_58 : decode cX3_remove 58 = .ok (.iload_n 2, 1) := by decide +kernel
theorem dX3_remove_59 : decode cX3_remove 59 = .ok (.aload_n 0, 1) := by decide +kernel
theorem dX3_remove_60 : decode cX3_remove 60 = .ok (.getfield 18, 3) := by decide +kernel
theorem dX3_remove_63 : decode cX3_remove 63 = .ok (.if_icmp .ge 25, 3) := by decide +kernel
theorem dX3_remove_66 : decode cX3_remove 66 = .ok (.aload_n 0, 1) := by decide +kernel
theorem dX3_remove_67 : decode cX3_remove 67 = .ok (.getfield 15, 3) := by decide +kernel
theorem dX3_remove_70 : decode cX3_remove 70 = .ok (.iload_n 2, 1) := by decide +kernel
theorem dX3_remove_71 : decode cX3_remove 71 = .ok (.aload_n 0, 1) := by decide +kernel
theorem dX3_remove_72 : decode cX3_remove 72 = .ok (.getfield 15, 3) := by decide +kernel
theorem dX3_remove_75 : decode cX3_remove 75 = .ok (.iload_n 2, 1) := by decide +kernel
theorem dX3_remove_76 : decode cX3_remove 76 = .ok (.iaload, 1) := by decide +kernel
theorem dX3_remove_77 : decode cX3_remove 77 = .ok (.iload_n 1, 1) := by decide +kernel
theorem dX3_remove_78 : decode cX3_remove 78 = .ok (.invokestatic 26, 3) := by decide +kernel
theorem dX3_remove_81 : decode cX3_remove 81 = .ok (.iastore, 1) := by decide +kernel
theorem dX3_remove_82 : decode cX3_remove 82 = .ok (.iinc 2 1, 3) := by decide +kernel
theorem dX3_remove_85 : decode cX3_remove 85 = .ok (.goto (-27), 3) := by decide +kernel
theorem dX3_remove_88 : decode cX3_remove 88 = .ok (.return_, 1) := by decide +kernel
theorem dX3_join_0 : decode cX3_join 0 = .ok (.aload_n 0, 1) := by decide +kernel
theorem dX3_join_1 : decode cX3_join 1 = .ok (.getfield 15, 3) := by decide +kernel
theorem dX3_join_4 : decode cX3_join 4 = .ok (.iload_n 1, 1) := by decide +kernel
theorem dX3_join_5 : decode cX3_join 5 = .ok (.dup2, 1) := by decide +kernel
theorem dX3_join_6 : decode cX3_join 6 = .ok (.iaload, 1) := by decide +kernel
theorem dX3_join_7 : decode cX3_join 7 = .ok (.iconst 1, 1) := by decide +kernel
theorem dX3_join_8 : decode cX3_join 8 = .ok (.iload_n 2, 1) := by decide +kernel
theorem dX3_join_9 : decode cX3_join 9 = .ok (.ishl, 1) := by decide +kernel
theorem dX3_join_10 : decode cX3_join 10 = .ok (.ior, 1) := by decide +kernel
theorem dX3_join_11 : decode cX3_join 11 = .ok (.iastore, 1) := by decide +kernel
theorem dX3_join_12 : decode cX3_join 12 = .ok (.aload_n 0, 1) := by decide +kernel
theorem dX3_join_13 : decode cX3_join 13 = .ok (.getfield 15, 3) := by decide +kernel
theorem dX3_join_16 : decode cX3_join 16 = .ok (.iload_n 2, 1) := by decide +kernel
theorem dX3_join_17 : decode cX3_join 17 = .ok (.dup2, 1) := by decide +kernel
theorem dX3_join_18 : decode cX3_join 18 = .ok (.iaload, 1) := by decide +kernel
theorem dX3_join_19 : decode cX3_join 19 = .ok (.iconst 1, 1) := by decide +kernel
theorem dX3_join_20 : decode cX3_join 20 = .ok (.iload_n 1, 1) := by decide +kernel
theorem dX3_join_21 : decode cX3_join 21 = .ok (.ishl, 1) := by decide +kernel
theorem dX3_join_22 : decode cX3_join 22 = .ok (.ior, 1) := by decide +kernel
theorem dX3_join_23 : decode cX3_join 23 = .ok (.iastore, 1) := by decide +kernel
theorem dX3_join_24 : decode cX3_join 24 = .ok (.return_, 1) := by decide +kernel
theorem dX3_part_0 : decode cX3_part 0 = .ok (.aload_n 0, 1) := by decide +kernel
theorem dX3_part_1 : decode cX3_part 1 = .ok (.getfield 15, 3) := by decide +kernel
theorem dX3_part_4 : decode cX3_part 4 = .ok (.iload_n 1, 1) := by decide +kernel
theorem dX3_part_5 : decode cX3_part 5 = .ok (.dup2, 1) := by decide +kernel
theorem dX3_part_6 : decode cX3_part 6 = .ok (.iaload, 1) := by decide +kernel
theorem dX3_part_7 : decode cX3_part 7 = .ok (.iconst 1, 1) := by decide +kernel
theorem dX3_part_8 : decode cX3_part 8 = .ok (.iload_n 2, 1) := by decide +kernel
theorem dX3_part_9 : decode cX3_part 9 = .ok (.ishl, 1) := by decide +kernel
theorem dX3_part_10 : decode cX3_part 10 = .ok (.iconst (-1), 1) := by decide +kernel
theorem dX3_part_11 : decode cX3_part 11 = .ok (.ixor, 1) := by decide +kernel
theorem dX3_part_12 : decode cX3_part 12 = .ok (.iand, 1) := by decide +kernel
theorem dX3_part_13 : decode cX3_part 13 = .ok (.iastore, 1) := by decide +kernel
theorem dX3_part_14 : decode cX3_part 14 = .ok (.aload_n 0, 1) := by decide +kernel
theorem dX3_part_15 : decode cX3_part 15 = .ok (.getfield 15, 3) := by decide +kernel
theorem dX3_part_18 : decode cX3_part 18 = .ok (.iload_n 2, 1) := by decide +kernel
theorem dX3_part_19 : decode cX3_part 19 = .ok (.dup2, 1) := by decide +kernel
theorem dX3_part_20 : decode cX3_part 20 = .ok (.iaload, 1) := by decide +kernel
theorem dX3_part_21 : decode cX3_part 21 = .ok (.iconst 1, 1) := by decide +kernel
theorem dX3_part_22 : decode cX3_part 22 = .ok (.iload_n 1, 1) := by decide +kernel
theorem dX3_part_23 : decode cX3_part 23 = .ok (.ishl, 1) := by decide +kernel
theorem dX3_part_24 : decode cX3_part 24 = .ok (.iconst (-1), 1) := by decide +kernel
theorem dX3_part_25 : decode cX3_part 25 = .ok (.ixor, 1) := by decide +kernel
theorem dX3_part_26 : decode cX3_part 26 = .ok (.iand, 1) := by decide +kernel
theorem dX3_part_27 : decode cX3_part 27 = .ok (.iastore, 1) := by decide +kernel
theorem dX3_part_28 : decode cX3_part 28 = .ok (.return_, 1) := by decide +kernel
set_option maxRecDepth 20000 in
theorem ggX3_joins_X5_hasBit : GoodIn wsX3_joins wsX5_hasBit := goodIn_r _ [4] (by decide +kernel) (by decide +kernel)
set_option maxRecDepth 20000 in
theorem gX3_joins_X5_hasBit_n29 : GoodIn wsX3_joins (wsX5_hasBit) := ggX3_joins_X5_hasBit
theorem dX3_joins_0 : decode cX3_joins 0 = .ok (.aload_n 0, 1) := by decide +kernel
theorem dX3_joins_1 : decode cX3_joins 1 = .ok (.getfield 15, 3) := by decide +kernel
theorem dX3_joins_4 : decode cX3_joins 4 = .ok (.iload_n 1, 1) := by decide +kernel
theorem dX3_joins_5 : decode cX3_joins 5 = .ok (.iaload, 1) := by decide +kernel
theorem dX3_joins_6 : decode cX3_joins 6 = .ok (.iload_n 2, 1) := by decide +kernel
theorem dX3_joins_7 : decode cX3_joins 7 = .ok (.invokestatic 29, 3) := by decide +kernel
theorem dX3_joins_10 : decode cX3_joins 10 = .ok (.ireturn, 1) := by decide +kernel
set_option maxRecDepth 20000 in
theorem ggX3_degree_J6_bitCount_0f7a4 : GoodIn wsX3_degree wsJ6_bitCount_0f7a4 := goodIn_r _ [5, 6, 7, 8] (by decide +kernel) (by decide +kernel)
set_option maxRecDepth 20000 in
theorem gX3_degree_J6_bitCount_0f7a4 : GoodIn wsX3_degree (va_wsS RX3 33 yJ6_bitCount_0f7a4 wsJ6_bitCount_0f7a4) := goodIn_app (goodIn_of _ (by decide +kernel)) ggX3_degree_J6_bitCount_0f7a4
theorem dX3_degree_0 : decode cX3_degree 0 = .ok (.aload_n 0, 1) := by decide +kernel
theorem dX3_degree_1 : decode cX3_degree 1 = .ok (.getfield 15, 3) := by decide +kernel
theorem dX3_degree_4 : decode cX3_degree 4 = .ok (.iload_n 1, 1) := by decide +kernel
theorem dX3_degree_5 : decode cX3_degree 5 = .ok (.iaload, 1) := by decide +kernel
theorem dX3_degree_6 : decode cX3_degree 6 = .ok (.invokestatic 33, 3) := by decide +kernel
theorem dX3_degree_9 : decode cX3_degree 9 = .ok (.ireturn, 1) := by decide +kernel
theorem dX3_withRoomAt_0 : decode cX3_withRoomAt 0 = .ok (.iconst 1, 1) := by decide +kernel
theorem dX3_withRoomAt_1 : decode cX3_withRoomAt 1 = .ok (.iload_n 1, 1) := by decide +kernel
theorem dX3_withRoomAt_2 : decode cX3_withRoomAt 2 = .ok (.ishl, 1) := by decide +kernel
theorem dX3_withRoomAt_3 : decode cX3_withRoomAt 3 = .ok (.iconst 1, 1) := by decide +kernel
theorem dX3_withRoomAt_4 : decode cX3_withRoomAt 4 = .ok (.isub, 1) := by decide +kernel
theorem dX3_withRoomAt_5 : decode cX3_withRoomAt 5 = .ok (.istore_n 2, 1) := by decide +kernel
theorem dX3_withRoomAt_6 : decode cX3_withRoomAt 6 = .ok (.iload_n 0, 1) := by decide +kernel
theorem dX3_withRoomAt_7 : decode cX3_withRoomAt 7 = .ok (.iload_n 2, 1) := by decide +kernel
theorem dX3_withRoomAt_8 : decode cX3_withRoomAt 8 = .ok (.iand, 1) := by decide +kernel
theorem dX3_withRoomAt_9 : decode cX3_withRoomAt 9 = .ok (.iload_n 0, 1) := by decide +kernel
theorem dX3_withRoomAt_10 : decode cX3_withRoomAt 10 = .ok (.iload_n 2, 1) := by decide +kernel
theorem dX3_withRoomAt_11 : decode cX3_withRoomAt 11 = .ok (.iconst (-1), 1) := by decide +kernel
theorem dX3_withRoomAt_12 : decode cX3_withRoomAt 12 = .ok (.ixor, 1) := by decide +kernel
theorem dX3_withRoomAt_13 : decode cX3_withRoomAt 13 = .ok (.iand, 1) := by decide +kernel
theorem dX3_withRoomAt_14 : decode cX3_withRoomAt 14 = .ok (.iconst 1, 1) := by decide +kernel
theorem dX3_withRoomAt_15 : decode cX3_withRoomAt 15 = .ok (.ishl, 1) := by decide +kernel
theorem dX3_withRoomAt_16 : decode cX3_withRoomAt 16 = .ok (.ior, 1) := by decide +kernel
theorem dX3_withRoomAt_17 : decode cX3_withRoomAt 17 = .ok (.ireturn, 1) := by decide +kernel
theorem dX3_without_0 : decode cX3_without 0 = .ok (.iconst 1, 1) := by decide +kernel
theorem dX3_without_1 : decode cX3_without 1 = .ok (.iload_n 1, 1) := by decide +kernel
theorem dX3_without_2 : decode cX3_without 2 = .ok (.ishl, 1) := by decide +kernel
theorem dX3_without_3 : decode cX3_without 3 = .ok (.iconst 1, 1) := by decide +kernel
theorem dX3_without_4 : decode cX3_without 4 = .ok (.isub, 1) := by decide +kernel
theorem dX3_without_5 : decode cX3_without 5 = .ok (.istore_n 2, 1) := by decide +kernel
theorem dX3_without_6 : decode cX3_without 6 = .ok (.iload_n 0, 1) := by decide +kernel
theorem dX3_without_7 : decode cX3_without 7 = .ok (.iload_n 2, 1) := by decide +kernel
theorem dX3_without_8 : decode cX3_without 8 = .ok (.iand, 1) := by decide +kernel
theorem dX3_without_9 : decode cX3_without 9 = .ok (.iload_n 0, 1) := by decide +kernel
theorem dX3_without_10 : decode cX3_without 10 = .ok (.iconst 1, 1) := by decide +kernel
theorem dX3_without_11 : decode cX3_without 11 = .ok (.iushr, 1) := by decide +kernel
theorem dX3_without_12 : decode cX3_without 12 = .ok (.iload_n 2, 1) := by decide +kernel
theorem dX3_without_13 : decode cX3_without 13 = .ok (.iconst (-1), 1) := by decide +kernel
theorem dX3_without_14 : decode cX3_without 14 = .ok (.ixor, 1) := by decide +kernel
theorem dX3_without_15 : decode cX3_without 15 = .ok (.iand, 1) := by decide +kernel
theorem dX3_without_16 : decode cX3_without 16 = .ok (.ior, 1) := by decide +kernel
theorem dX3_without_17 : decode cX3_without 17 = .ok (.ireturn, 1) := by decide +kernel
theorem dX4_init_0 : decode cX4_init 0 = .ok (.aload_n 0, 1) := by decide +kernel
theorem dX4_init_1 : decode cX4_init 1 = .ok (.invokespecial 3, 3) := by decide +kernel
theorem dX4_init_4 : decode cX4_init 4 = .ok (.aload_n 0, 1) := by decide +kernel
theorem dX4_init_5 : decode cX4_init 5 = .ok (.bipush 12, 2) := by decide +kernel
theorem dX4_init_7 : decode cX4_init 7 = .ok (.newarray .int, 2) := by decide +kernel
theorem dX4_init_9 : decode cX4_init 9 = .ok (.putfield 9, 3) := by decide +kernel
theorem dX4_init_12 : decode cX4_init 12 = .ok (.aload_n 0, 1) := by decide +kernel
theorem dX4_init_13 : decode cX4_init 13 = .ok (.bipush 13, 2) := by decide +kernel
theorem dX4_init_15 : decode cX4_init 15 = .ok (.newarray .int, 2) := by decide +kernel
theorem dX4_init_17 : decode cX4_init 17 = .ok (.putfield 15, 3) := by decide +kernel
theorem dX4_init_20 : decode cX4_init 20 = .ok (.aload_n 0, 1) := by decide +kernel
theorem dX4_init_21 : decode cX4_init 21 = .ok (.iconst 0, 1) := by decide +kernel
theorem dX4_init_22 : decode cX4_init 22 = .ok (.putfield 18, 3) := by decide +kernel
theorem dX4_init_25 : decode cX4_init 25 = .ok (.return_, 1) := by decide +kernel
set_option maxRecDepth 20000 in
theorem ggX4_find_X4_reachBack : GoodIn wsX4_find wsX4_reachBack := goodIn_r _ [8, 3, 9, 10, 7, 11, 2, 12, 13, 14, 15, 24, 25, 26, 27, 28, 29] (by decide +kernel) (by decide +kernel)
set_option maxRecDepth 20000 in
theorem gX4_find_X4_reachBack : GoodIn wsX4_find (wsV RX4 25 RX4 yX4_reachBack wsX4_reachBack) := goodIn_app (goodIn_of _ (by decide +kernel)) ggX4_find_X4_reachBack
set_option maxRecDepth 20000 in
theorem ggX4_find_X5_hasBit : GoodIn wsX4_find wsX5_hasBit := goodIn_r _ [15] (by decide +kernel) (by decide +kernel)
set_option maxRecDepth 20000 in
theorem gX4_find_X5_hasBit_n29 : GoodIn wsX4_find (wsX5_hasBit) := ggX4_find_X5_hasBit
set_option maxRecDepth 20000 in
theorem ggX4_find_X4_follow : GoodIn wsX4_find wsX4_follow := goodIn_r _ [19, 20, 12, 3, 1, 21, 22, 7, 23, 2, 13, 14, 15, 24, 25, 26, 27, 28, 29] (by decide +kernel) (by decide +kernel)
set_option maxRecDepth 20000 in
theorem gX4_find_X4_follow : GoodIn wsX4_find (wsV RX4 33 RX4 yX4_follow wsX4_follow) := goodIn_app (goodIn_of _ (by decide +kernel)) ggX4_find_X4_follow
theorem dX4_find_0 : decode cX4_find 0 = .ok (.aload_n 0, 1) := by decide +kernel
theorem dX4_find_1 : decode cX4_find 1 = .ok (.iconst 0, 1) := by decide +kernel
theorem dX4_find_2 : decode cX4_find 2 = .ok (.putfield 18, 3) := by decide +kernel
theorem dX4_find_5 : decode cX4_find 5 = .ok (.iconst 3, 1) := by decide +kernel
theorem dX4_find_6 : decode cX4_find 6 = .ok (.istore_n 2, 1) := by decide +kernel
theorem dX4_find_7 : decode cX4_find 7 = .ok (.iload_n 2, 1) := by decide +kernel
theorem dX4_find_8 : decode cX4_find 8 = .ok (.aload_n 1, 1) := by decide +kernel
theorem dX4_find_9 : decode cX4_find 9 = .ok (.getfield 22, 3) := by decide +kernel
theorem dX4_find_12 : decode cX4_find 12 = .ok (.if_icmp .gt 53, 3) := by decide +kernel
theorem dX4_find_15 : decode cX4_find 15 = .ok (.iconst 0, 1) := by decide +kernel
theorem dX4_find_16 : decode cX4_find 16 = .ok (.istore_n 3, 1) := by decide +kernel
theorem dX4_find_17 : decode cX4_find 17 = .ok (.iload_n 3, 1) := by decide +kernel
theorem dX4_find_18 : decode cX4_find 18 = .ok (.aload_n 1, 1) := by decide +kernel
theorem dX4_find_19 : decode cX4_find 19 = .ok (.getfield 22, 3) := by decide +kernel
theorem dX4_find_22 : decode cX4_find 22 = .ok (.if_icmp .ge 37, 3) := by decide +kernel
theorem dX4_find_25 : decode cX4_find 25 = .ok (.aload_n 0, 1) := by decide +kernel
theorem dX4_find_26 : decode cX4_find 26 = .ok (.aload_n 1, 1) := by decide +kernel
theorem dX4_find_27 : decode cX4_find 27 = .ok (.iload_n 3, 1) := by decide +kernel
theorem dX4_find_28 : decode cX4_find 28 = .ok (.iload_n 2, 1) := by decide +kernel
theorem dX4_find_29 : decode cX4_find 29 = .ok (.invokevirtual 25, 3) := by decide +kernel
theorem dX4_find_32 : decode cX4_find 32 = .ok (.aload_n 0, 1) := by decide +kernel
theorem dX4_find_33 : decode cX4_find 33 = .ok (.getfield 15, 3) := by decide +kernel
theorem dX4_find_36 : decode cX4_find 36 = .ok (.iload_n 2, 1) := by decide +kernel
theorem dX4_find_37 : decode cX4_find 37 = .ok (.iaload, 1) := by decide +kernel
theorem dX4_find_38 : decode cX4_find 38 = .ok (.iload_n 3, 1) := by decide +kernel
theorem dX4_find_39 : decode cX4_find 39 = .ok (.invokestatic 29, 3) := by decide +kernel
theorem dX4_find_42 : decode cX4_find 42 = .ok (.ifCond .eq 11, 3) := by decide +kernel
theorem dX4_find_45 : decode cX4_find 45 = .ok (.aload_n 0, 1) := by decide +kernel
theorem dX4_find_46 : decode cX4_find 46 = .ok (.aload_n 1, 1) := by decide +kernel
theorem dX4_find_47 : decode cX4_find 47 = .ok (.iload_n 3, 1) := by decide +kernel
theorem dX4_find_48 : decode cX4_find 48 = .ok (.iload_n 2, 1) := by decide +kernel
theorem dX4_find_49 : decode cX4_find 49 = .ok (.invokevirtual 33, 3) := by decide +kernel
theorem dX4_find_52 : decode cX4_find 52 = .ok (.return_, 1) := by decide +kernel
theorem dX4_find_53 : decode cX4_find 53 = .ok (.iinc 3 1, 3) := by decide +kernel
theorem dX4_find_56 : decode cX4_find 56 = .ok (.goto (-39), 3) := by decide +kernel
theorem dX4_find_59 : decode cX4_find 59 = .ok (.iinc 2 2, 3) := by decide +kernel
theorem dX4_find_62 : decode cX4_find 62 = .ok (.goto (-55), 3) := by decide +kernel
theorem dX4_find_65 : decode cX4_find 65 = .ok (.return_, 1) := by decide +kernel
set_option maxRecDepth 20000 in
theorem ggX4_reachBack_X4_neighbours : GoodIn wsX4_reachBack wsX4_neighbours := goodIn_r _ [5, 6, 7, 8, 9, 10, 14, 15, 16] (by decide +kernel) (by decide +kernel)
set_option maxRecDepth 20000 in
theorem gX4_reachBack_X4_neighbours : GoodIn wsX4_reachBack (va_wsS RX4 36 yX4_neighbours wsX4_neighbours) := goodIn_app (goodIn_of _ (by decide +kernel)) ggX4_reachBack_X4_neighbours
theorem dX4_reachBack_0 : decode cX4_reachBack 0 = .ok (.aload_n 0, 1) := by decide +kernel
theorem dX4_reachBack_1 : decode cX4_reachBack 1 = .ok (.getfield 15, 3) := by decide +kernel
theorem dX4_reachBack_4 : decode cX4_reachBack 4 = .ok (.iconst 0, 1) := by decide +kernel
theorem dX4_reachBack_5 : decode cX4_reachBack 5 = .ok (.iconst 1, 1) := by decide +kernel
theorem dX4_reachBack_6 : decode cX4_reachBack 6 = .ok (.iload_n 2, 1) := by decide +kernel
theorem dX4_reachBack_7 : decode cX4_reachBack 7 = .ok (.ishl, 1) := by decide +kernel
theorem dX4_reachBack_8 : decode cX4_reachBack 8 = .ok (.iastore, 1) := by decide +kernel
theorem dX4_reachBack_9 : decode cX4_reachBack 9 = .ok (.iconst 1, 1) := by decide +kernel
theorem dX4_reachBack_10 : decode cX4_reachBack 10 = .ok (.istore 4, 2) := by decide +kernel
theorem dX4_reachBack_12 : decode cX4_reachBack 12 = .ok (.iload 4, 2) := by decide +kernel
theorem dX4_reachBack_14 : decode cX4_reachBack 14 = .ok (.iload_n 3, 1) := by decide +kernel
theorem dX4_reachBack_15 : decode cX4_reachBack 15 = .ok (.if_icmp .gt 36, 3) := by decide +kernel
theorem dX4_reachBack_18 : decode cX4_reachBack 18 = .ok (.iload 4, 2) := by decide +kernel
theorem dX4_reachBack_20 : decode cX4_reachBack 20 = .ok (.bipush 12, 2) := by decide +kernel
theorem dX4_reachBack_22 : decode cX4_reachBack 22 = .ok (.if_icmp .gt 29, 3) := by decide +kernel
theorem dX4_reachBack_25 : decode cX4_reachBack 25 = .ok (.aload_n 0, 1) := by decide +kernel
theorem dX4_reachBack_26 : decode cX4_reachBack 26 = .ok (.getfield 15, 3) := by decide +kernel
theorem dX4_reachBack_29 : decode cX4_reachBack 29 = .ok (.iload 4, 2) := by decide +kernel
theorem dX4_reachBack_31 : decode cX4_reachBack 31 = .ok (.aload_n 1, 1) := by decide +kernel
theorem dX4_reachBack_32 : decode cX4_reachBack 32 = .ok (.aload_n 0, 1) := by decide +kernel
theorem dX4_reachBack_33 : decode cX4_reachBack 33 = .ok (.getfield 15, 3) := by decide +kernel
theorem dX4_reachBack_36 : decode cX4_reachBack 36 = .ok (.iload 4, 2) := by decide +kernel
theorem dX4_reachBack_38 : decode cX4_reachBack 38 = .ok (.iconst 1, 1) := by decide +kernel
theorem dX4_reachBack_39 : decode cX4_reachBack 39 = .ok (.isub, 1) := by decide +kernel
theorem dX4_reachBack_40 : decode cX4_reachBack 40 = .ok (.iaload, 1) := by decide +kernel
theorem dX4_reachBack_41 : decode cX4_reachBack 41 = .ok (.invokestatic 36, 3) := by decide +kernel
theorem dX4_reachBack_44 : decode cX4_reachBack 44 = .ok (.iastore, 1) := by decide +kernel
theorem dX4_reachBack_45 : decode cX4_reachBack 45 = .ok (.iinc 4 1, 3) := by decide +kernel
theorem dX4_reachBack_48 : decode cX4_reachBack 48 = .ok (.goto (-36), 3) := by decide +kernel
theorem dX4_reachBack_51 : decode cX4_reachBack 51 = .ok (.return_, 1) := by decide +kernel
set_option maxRecDepth 20000 in
theorem ggX4_neighbours_X5_hasBit : GoodIn wsX4_neighbours wsX5_hasBit := goodIn_r _ [5] (by decide +kernel) (by decide +kernel)
set_option maxRecDepth 20000 in
theorem gX4_neighbours_X5_hasBit_n29 : GoodIn wsX4_neighbours (wsX5_hasBit) := ggX4_neighbours_X5_hasBit
theorem dX4_neighbours_0 : decode cX4_neighbours 0 = .ok (.iconst 0, 1) := by decide +kernel
theorem dX4_neighbours_1 : decode cX4_neighbours 1 = .ok (.istore_n 2, 1) := by decide +kernel
theorem dX4_neighbours_2 : decode cX4_neighbours 2 = .ok (.iconst 0, 1) := by decide +kernel
theorem dX4_neighbours_3 : decode cX4_neighbours 3 = .ok (.istore_n 3, 1) := by decide +kernel
theorem dX4_neighbours_4 : decode cX4_neighbours 4 = .ok (.iload_n 3, 1) := by decide +kernel
theorem dX4_neighbours_5 : decode cX4_neighbours 5 = .ok (.aload_n 0, 1) := by decide +kernel
theorem dX4_neighbours_6 : decode cX4_neighbours 6 = .ok (.getfield 22, 3) := by decide +kernel
theorem dX4_neighbours_9 : decode cX4_neighbours 9 = .ok (.if_icmp .ge 26, 3) := by decide +kernel
theorem dX4_neighbours_12 : decode cX4_neighbours 12 = .ok (.iload_n 1, 1) := by decide +kernel
theorem dX4_neighbours_13 : decode cX4_neighbours 13 = .ok (.iload_n 3, 1) := by decide +kernel
theorem dX4_neighbours_14 : decode cX4_neighbours 14 = .ok (.invokestatic 29, 3) := by decide +kernel
theorem dX4_neighbours_17 : decode cX4_neighbours 17 = .ok (.ifCond .eq 12, 3) := by decide +kernel
theorem dX4_neighbours_20 : decode cX4_neighbours 20 = .ok (.iload_n 2, 1) := by decide +kernel
theorem dX4_neighbours_21 : decode cX4_neighbours 21 = .ok (.aload_n 0, 1) := by decide +kernel
theorem dX4_neighbours_22 : decode cX4_neighbours 22 = .ok (.getfield 40, 3) := by decide +kernel
theorem dX4_neighbours_25 : decode cX4_neighbours 25 = .ok (.iload_n 3, 1) := by decide +kernel
theorem dX4_neighbours_26 : decode cX4_neighbours 26 = .ok (.iaload, 1) := by decide +kernel
theorem dX4_neighbours_27 : decode cX4_neighbours 27 = .ok (.ior, 1) := by decide +kernel
theorem dX4_neighbours_28 : decode cX4_neighbours 28 = .ok (.istore_n 2, 1) := by decide +kernel
theorem dX4_neighbours_29 : decode cX4_neighbours 29 = .ok (.iinc 3 1, 3) := by decide +kernel
theorem dX4_neighbours_32 : decode cX4_neighbours 32 = .ok (.goto (-28), 3) := by decide +kernel
theorem dX4_neighbours_35 : decode cX4_neighbours 35 = .ok (.iload_n 2, 1) := by decide +kernel
theorem dX4_neighbours_36 : decode cX4_neighbours 36 = .ok (.ireturn, 1) := by decide +kernel
set_option maxRecDepth 20000 in
theorem ggX4_follow_X4_least : GoodIn wsX4_follow wsX4_least := goodIn_r _ [8, 9, 10, 11, 12, 16, 17, 18] (by decide +kernel) (by decide +kernel)
set_option maxRecDepth 20000 in
theorem gX4_follow_X4_least : GoodIn wsX4_follow (va_wsS RX4 43 yX4_least wsX4_least) := goodIn_app (goodIn_of _ (by decide +kernel)) ggX4_follow_X4_least
theorem dX4_follow_0 : decode cX4_follow 0 = .ok (.iload_n 2, 1) := by decide +kernel
theorem dX4_follow_1 : decode cX4_follow 1 = .ok (.istore 4, 2) := by decide +kernel
theorem dX4_follow_3 : decode cX4_follow 3 = .ok (.iconst 0, 1) := by decide +kernel
theorem dX4_follow_4 : decode cX4_follow 4 = .ok (.istore 5, 2) := by decide +kernel
theorem dX4_follow_6 : decode cX4_follow 6 = .ok (.iload 5, 2) := by decide +kernel
theorem dX4_follow_8 : decode cX4_follow 8 = .ok (.iload_n 3, 1) := by decide +kernel
theorem dX4_follow_9 : decode cX4_follow 9 = .ok (.if_icmp .ge 50, 3) := by decide +kernel
theorem dX4_follow_12 : decode cX4_follow 12 = .ok (.iload 5, 2) := by decide +kernel
theorem dX4_follow_14 : decode cX4_follow 14 = .ok (.bipush 12, 2) := by decide +kernel
theorem dX4_follow_16 : decode cX4_follow 16 = .ok (.if_icmp .ge 43, 3) := by decide +kernel
theorem dX4_follow_19 : decode cX4_follow 19 = .ok (.aload_n 0, 1) := by decide +kernel
theorem dX4_follow_20 : decode cX4_follow 20 = .ok (.getfield 9, 3) := by decide +kernel
theorem dX4_follow_23 : decode cX4_follow 23 = .ok (.iload 5, 2) := by decide +kernel
theorem dX4_follow_25 : decode cX4_follow 25 = .ok (.iload 4, 2) := by decide +kernel
theorem dX4_follow_27 : decode cX4_follow 27 = .ok (.iastore, 1) := by decide +kernel
theorem dX4_follow_28 : decode cX4_follow 28 = .ok (.aload_n 1, 1) := by decide +kernel
theorem dX4_follow_29 : decode cX4_follow 29 = .ok (.aload_n 1, 1) := by decide +kernel
theorem dX4_follow_30 : decode cX4_follow 30 = .ok (.getfield 40, 3) := by decide +kernel
theorem dX4_follow_33 : decode cX4_follow 33 = .ok (.iload 4, 2) := by decide +kernel
theorem dX4_follow_35 : decode cX4_follow 35 = .ok (.iaload, 1) := by decide +kernel
theorem dX4_follow_36 : decode cX4_follow 36 = .ok (.aload_n 0, 1) := by decide +kernel
theorem dX4_follow_37 : decode cX4_follow 37 = .ok (.getfield 15, 3) := by decide +kernel
theorem dX4_follow_40 : decode cX4_follow 40 = .ok (.iload_n 3, 1) := by decide +kernel
theorem dX4_follow_41 : decode cX4_follow 41 = .ok (.iload 5, 2) := by decide +kernel
theorem dX4_follow_43 : decode cX4_follow 43 = .ok (.isub, 1) := by decide +kernel
theorem dX4_follow_44 : decode cX4_follow 44 = .ok (.iconst 1, 1) := by decide +kernel
theorem dX4_follow_45 : decode cX4_follow 45 = .ok (.isub, 1) := by decide +kernel
theorem dX4_follow_46 : decode cX4_follow 46 = .ok (.iaload, 1) := by decide +kernel
theorem dX4_follow_47 : decode cX4_follow 47 = .ok (.iand, 1) := by decide +kernel
theorem dX4_follow_48 : decode cX4_follow 48 = .ok (.invokestatic 43, 3) := by decide +kernel
theorem dX4_follow_51 : decode cX4_follow 51 = .ok (.istore 4, 2) := by decide +kernel
theorem dX4_follow_53 : decode cX4_follow 53 = .ok (.iinc 5 1, 3) := by decide +kernel
theorem dX4_follow_56 : decode cX4_follow 56 = .ok (.goto (-50), 3) := by decide +kernel
theorem dX4_follow_59 : decode cX4_follow 59 = .ok (.aload_n 0, 1) := by decide +kernel
theorem dX4_follow_60 : decode cX4_follow 60 = .ok (.iload_n 3, 1) := by decide +kernel
theorem dX4_follow_61 : decode cX4_follow 61 = .ok (.putfield 18, 3) := by decide +kernel
theorem dX4_follow_64 : decode cX4_follow 64 = .ok (.return_, 1) := by decide +kernel
set_option maxRecDepth 20000 in
theorem ggX4_least_X5_hasBit : GoodIn wsX4_least wsX5_hasBit := goodIn_r _ [4] (by decide +kernel) (by decide +kernel)
set_option maxRecDepth 20000 in
theorem gX4_least_X5_hasBit_n29 : GoodIn wsX4_least (wsX5_hasBit) := ggX4_least_X5_hasBit
theorem dX4_least_0 : decode cX4_least 0 = .ok (.iconst 0, 1) := by decide +kernel
theorem dX4_least_1 : decode cX4_least 1 = .ok (.istore_n 2, 1) := by decide +kernel
theorem dX4_least_2 : decode cX4_least 2 = .ok (.iload_n 2, 1) := by decide +kernel
theorem dX4_least_3 : decode cX4_least 3 = .ok (.aload_n 0, 1) := by decide +kernel
theorem dX4_least_4 : decode cX4_least 4 = .ok (.getfield 22, 3) := by decide +kernel
theorem dX4_least_7 : decode cX4_least 7 = .ok (.iconst 1, 1) := by decide +kernel
theorem dX4_least_8 : decode cX4_least 8 = .ok (.isub, 1) := by decide +kernel
theorem dX4_least_9 : decode cX4_least 9 = .ok (.if_icmp .ge 17, 3) := by decide +kernel
theorem dX4_least_12 : decode cX4_least 12 = .ok (.iload_n 1, 1) := by decide +kernel
theorem dX4_least_13 : decode cX4_least 13 = .ok (.iload_n 2, 1) := by decide +kernel
theorem dX4_least_14 : decode cX4_least 14 = .ok (.invokestatic 29, 3) := by decide +kernel
theorem dX4_least_17 : decode cX4_least 17 = .ok (.ifCond .ne 9, 3) := by decide +kernel
theorem dX4_least_20 : decode cX4_least 20 = .ok (.iinc 2 1, 3) := by decide +kernel
theorem dX4_least_23 : decode cX4_least 23 = .ok (.goto (-21), 3) := by decide +kernel
theorem dX4_least_26 : decode cX4_least 26 = .ok (.iload_n 2, 1) := by decide +kernel
theorem dX4_least_27 : decode cX4_least 27 = .ok (.ireturn, 1) := by decide +kernel
theorem dX4_isOdd_0 : decode cX4_isOdd 0 = .ok (.aload_n 0, 1) := by decide +kernel
theorem dX4_isOdd_1 : decode cX4_isOdd 1 = .ok (.getfield 18, 3) := by decide +kernel
theorem dX4_isOdd_4 : decode cX4_isOdd 4 = .ok (.iconst 3, 1) := by decide +kernel
theorem dX4_isOdd_5 : decode cX4_isOdd 5 = .ok (.if_icmp .lt 17, 3) := by decide +kernel
theorem dX4_isOdd_8 : decode cX4_isOdd 8 = .ok (.aload_n 0, 1) := by decide +kernel
theorem dX4_isOdd_9 : decode cX4_isOdd 9 = .ok (.getfield 18, 3) := by decide +kernel
theorem dX4_isOdd_12 : decode cX4_isOdd 12 = .ok (.iconst 1, 1) := by decide +kernel
theorem dX4_isOdd_13 : decode cX4_isOdd 13 = .ok (.iand, 1) := by decide +kernel
theorem dX4_isOdd_14 : decode cX4_isOdd 14 = .ok (.iconst 1, 1) := by decide +kernel
theorem dX4_isOdd_15 : decode cX4_isOdd 15 = .ok (.if_icmp .ne 7, 3) := by decide +kernel
theorem dX4_isOdd_18 : decode cX4_isOdd 18 = .ok (.iconst 1, 1) := by decide +kernel
theorem dX4_isOdd_19 : decode cX4_isOdd 19 = .ok (.goto 4, 3) := by decide +kernel
theorem dX4_isOdd_22 : decode cX4_isOdd 22 = .ok (.iconst 0, 1) := by decide +kernel
theorem dX4_isOdd_23 : decode cX4_isOdd 23 = .ok (.ireturn, 1) := by decide +kernel
theorem dX4_isUnlike_0 : decode cX4_isUnlike 0 = .ok (.iconst 0, 1) := by decide +kernel
theorem dX4_isUnlike_1 : decode cX4_isUnlike 1 = .ok (.istore_n 1, 1) := by decide +kernel
theorem dX4_isUnlike_2 : decode cX4_isUnlike 2 = .ok (.iload_n 1, 1) := by decide +kernel
theorem dX4_isUnlike_3 : decode cX4_isUnlike 3 = .ok (.aload_n 0, 1) := by decide +kernel
theorem dX4_isUnlike_4 : decode cX4_isUnlike 4 = .ok (.getfield 18, 3) := by decide +kernel
theorem dX4_isUnlike_7 : decode cX4_isUnlike 7 = .ok (.if_icmp .ge 39, 3) := by decide +kernel
theorem dX4_isUnlike_10 : decode cX4_isUnlike 10 = .ok (.iconst 0, 1) := by decide +kernel
theorem dX4_isUnlike_11 : decode cX4_isUnlike 11 = .ok (.istore_n 2, 1) := by decide +kernel
theorem dX4_isUnlike_12 : decode cX4_isUnlike 12 = .ok (.iload_n 2, 1) := by decide +kernel
theorem dX4_isUnlike_13 : decode cX4_isUnlike 13 = .ok (.iload_n 1, 1) := by decide +kernel
theorem dX4_isUnlike_14 : decode cX4_isUnlike 14 = .ok (.if_icmp .ge 26, 3) := by decide +kernel
theorem dX4_isUnlike_17 : decode cX4_isUnlike 17 = .ok (.aload_n 0, 1) := by decide +kernel
theorem dX4_isUnlike_18 : decode cX4_isUnlike 18 = .ok (.getfield 9, 3) := by decide +kernel
theorem dX4_isUnlike_21 : decode cX4_isUnlike 21 = .ok (.iload_n 1, 1) := by decide +kernel
theorem dX4_isUnlike_22 : decode cX4_isUnlike 22 = .ok (.iaload, 1) := by decide +kernel
theorem dX4_isUnlike_23 : decode cX4_isUnlike 23 = .ok (.aload_n 0, 1) := by decide +kernel
theorem dX4_isUnlike_24 : decode cX4_isUnlike 24 = .ok (.getfield 9, 3) := by decide +kernel
theorem dX4_isUnlike_27 : decode cX4_isUnlike 27 = .ok (.iload_n 2, 1) := by decide +kernel
theorem dX4_isUnlike_28 : decode cX4_isUnlike 28 = .ok (.iaload, 1) := by decide +kernel
theorem dX4_isUnlike_29 : decode cX4_isUnlike 29 = .ok (.if_icmp .ne 5, 3) := by decide +kernel
theorem dX4_isUnlike_32 : decode cX4_isUnlike 32 = .ok (.iconst 0, 1) := by decide +kernel
theorem dX4_isUnlike_33 : decode cX4_isUnlike 33 = .ok (.ireturn, 1) := by decide +kernel
theorem dX4_isUnlike_34 : decode cX4_isUnlike 34 = .ok (.iinc 2 1, 3) := by decide +kernel
theorem dX4_isUnlike_37 : decode cX4_isUnlike 37 = .ok (.goto (-25), 3) := by decide +kernel
theorem dX4_isUnlike_40 : decode cX4_isUnlike 40 = .ok (.iinc 1 1, 3) := by decide +kernel
theorem dX4_isUnlike_43 : decode cX4_isUnlike 43 = .ok (.goto (-41), 3) := by decide +kernel
theorem dX4_isUnlike_46 : decode cX4_isUnlike 46 = .ok (.iconst 1, 1) := by decide +kernel
theorem dX4_isUnlike_47 : decode cX4_isUnlike 47 = .ok (.ireturn, 1) := by decide +kernel
set_option maxRecDepth 20000 in
theorem ggX5_init_X3_init : GoodIn wsX5_init wsX3_init := goodIn_r _ [28, 29, 2, 3, 30, 31, 32, 33, 60, 61, 62] (by decide +kernel) (by decide +kernel)
set_option maxRecDepth 20000 in
theorem gX5_init_X3_init_n9 : GoodIn wsX5_init (wsX3_init) := ggX5_init_X3_init
set_option maxRecDepth 20000 in
theorem ggX5_init_X2_init : GoodIn wsX5_init wsX2_init := goodIn_r _ [35, 36, 2, 3, 30, 37, 38, 39, 40, 71, 72, 73, 74] (by decide +kernel) (by decide +kernel)
set_option maxRecDepth 20000 in
theorem gX5_init_X2_init_n18 : GoodIn wsX5_init (wsX2_init) := ggX5_init_X2_init
set_option maxRecDepth 20000 in
theorem ggX5_init_X1_init : GoodIn wsX5_init wsX1_init := goodIn_r _ [42, 43, 2, 3, 30, 44, 45, 46, 75, 76, 77] (by decide +kernel) (by decide +kernel)
set_option maxRecDepth 20000 in
theorem gX5_init_X1_init_n28 : GoodIn wsX5_init (wsX1_init) := ggX5_init_X1_init
set_option maxRecDepth 20000 in
theorem ggX5_init_X4_init : GoodIn wsX5_init wsX4_init := goodIn_r _ [48, 49, 2, 3, 30, 50, 51, 52, 78, 79, 80] (by decide +kernel) (by decide +kernel)
set_option maxRecDepth 20000 in
theorem gX5_init_X4_init_n35 : GoodIn wsX5_init (wsX4_init) := ggX5_init_X4_init
set_option maxRecDepth 20000 in
theorem ggX5_init_X0_init : GoodIn wsX5_init wsX0_init := goodIn_r _ [54, 55, 2, 3, 30, 56, 57, 58, 59, 81, 82, 83, 84] (by decide +kernel) (by decide +kernel)
set_option maxRecDepth 20000 in
theorem gX5_init_X0_init_n42 : GoodIn wsX5_init (wsX0_init) := ggX5_init_X0_init
theorem dX5_init_0 : decode cX5_init 0 = .ok (.aload_n 0, 1) := by decide +kernel
theorem dX5_init_1 : decode cX5_init 1 = .ok (.invokespecial 1, 3) := by decide +kernel
theorem dX5_init_4 : decode cX5_init 4 = .ok (.aload_n 0, 1) := by decide +kernel
theorem dX5_init_5 : decode cX5_init 5 = .ok (.new 7, 3) := by decide +kernel
theorem dX5_init_8 : decode cX5_init 8 = .ok (.dup, 1) := by decide +kernel
theorem dX5_init_9 : decode cX5_init 9 = .ok (.invokespecial 9, 3) := by decide +kernel
theorem dX5_init_12 : decode cX5_init 12 = .ok (.putfield 10, 3) := by decide +kernel
theorem dX5_init_15 : decode cX5_init 15 = .ok (.aload_n 0, 1) := by decide +kernel
theorem dX5_init_16 : decode cX5_init 16 = .ok (.new 16, 3) := by decide +kernel
theorem dX5_init_19 : decode cX5_init 19 = .ok (.dup, 1) := by decide +kernel
theorem dX5_init_20 : decode cX5_init 20 = .ok (.invokespecial 18, 3) := by decide +kernel
theorem dX5_init_23 : decode cX5_init 23 = .ok (.putfield 19, 3) := by decide +kernel
theorem dX5_init_26 : decode cX5_init 26 = .ok (.aload_n 0, 1) := by decide +kernel
theorem dX5_init_27 : decode cX5_init 27 = .ok (.new 16, 3) := by decide +kernel
theorem dX5_init_30 : decode cX5_init 30 = .ok (.dup, 1) := by decide +kernel
theorem dX5_init_31 : decode cX5_init 31 = .ok (.invokespecial 18, 3) := by decide +kernel
theorem dX5_init_34 : decode cX5_init 34 = .ok (.putfield 23, 3) := by decide +kernel
theorem dX5_init_37 : decode cX5_init 37 = .ok (.aload_n 0, 1) := by decide +kernel
theorem dX5_init_38 : decode cX5_init 38 = .ok (.new 26, 3) := by decide +kernel
theorem dX5_init_41 : decode cX5_init 41 = .ok (.dup, 1) := by decide +kernel
theorem dX5_init_42 : decode cX5_init 42 = .ok (.invokespecial 28, 3) := by decide +kernel
theorem dX5_init_45 : decode cX5_init 45 = .ok (.putfield 29, 3) := by decide +kernel
theorem dX5_init_48 : decode cX5_init 48 = .ok (.aload_n 0, 1) := by decide +kernel
theorem dX5_init_49 : decode cX5_init 49 = .ok (.new 33, 3) := by decide +kernel
theorem dX5_init_52 : decode cX5_init 52 = .ok (.dup, 1) := by decide +kernel
theorem dX5_init_53 : decode cX5_init 53 = .ok (.invokespecial 35, 3) := by decide +kernel
theorem dX5_init_56 : decode cX5_init 56 = .ok (.putfield 36, 3) := by decide +kernel
theorem dX5_init_59 : decode cX5_init 59 = .ok (.aload_n 0, 1) := by decide +kernel
theorem dX5_init_60 : decode cX5_init 60 = .ok (.new 40, 3) := by decide +kernel
theorem dX5_init_63 : decode cX5_init 63 = .ok (.dup, 1) := by decide +kernel
theorem dX5_init_64 : decode cX5_init 64 = .ok (.invokespecial 42, 3) := by decide +kernel
theorem dX5_init_67 : decode cX5_init 67 = .ok (.putfield 43, 3) := by decide +kernel
theorem dX5_init_70 : decode cX5_init 70 = .ok (.aload_n 0, 1) := by decide +kernel
theorem dX5_init_71 : decode cX5_init 71 = .ok (.iconst 0, 1) := by decide +kernel
theorem dX5_init_72 : decode cX5_init 72 = .ok (.putfield 47, 3) := by decide +kernel
theorem dX5_init_75 : decode cX5_init 75 = .ok (.aload_n 0, 1) := by decide +kernel
theorem dX5_init_76 : decode cX5_init 76 = .ok (.iconst 0, 1) := by decide +kernel
theorem dX5_init_77 : decode cX5_init 77 = .ok (.putfield 51, 3) := by decide +kernel
theorem dX5_init_80 : decode cX5_init 80 = .ok (.return_, 1) := by decide +kernel
set_option maxRecDepth 20000 in
theorem ggX5_place_X3_find : GoodIn wsX5_place wsX3_find := goodIn_r _ [12, 13, 14, 65, 66, 67] (by decide +kernel) (by decide +kernel)
set_option maxRecDepth 20000 in
theorem gX5_place_X3_find : GoodIn wsX5_place (wsV RX5 55 RX3 yX3_find wsX3_find) := goodIn_app (goodIn_of _ (by decide +kernel)) ggX5_place_X3_find
set_option maxRecDepth 20000 in
theorem ggX5_place_X3_insert : GoodIn wsX5_place wsX3_insert := goodIn_r _ [18, 13, 14, 19, 20, 21, 11, 22, 65, 66, 67] (by decide +kernel) (by decide +kernel)
set_option maxRecDepth 20000 in
theorem gX5_place_X3_insert : GoodIn wsX5_place (wsV RX5 74 RX3 yX3_insert wsX3_insert) := goodIn_app (goodIn_of _ (by decide +kernel)) ggX5_place_X3_insert
set_option maxRecDepth 20000 in
theorem ggX5_place_X0_clear : GoodIn wsX5_place wsX0_clear := goodIn_r _ [27, 28, 68, 69, 70, 71] (by decide +kernel) (by decide +kernel)
set_option maxRecDepth 20000 in
theorem gX5_place_X0_clear : GoodIn wsX5_place (wsV RX5 78 RX0 yX0_clear wsX0_clear) := goodIn_app (goodIn_of _ (by decide +kernel)) ggX5_place_X0_clear
set_option maxRecDepth 20000 in
theorem ggX5_place_X5_spreadFromStart : GoodIn wsX5_place wsX5_spreadFromStart := goodIn_r _ [33, 34, 5, 35, 36, 8, 9, 10, 11, 12, 13, 14, 37, 38, 39, 40, 41, 42, 43, 44, 45, 46, 47, 48, 49, 50, 51, 52, 53, 54, 19, 55, 32, 56, 57, 58, 59, 60, 61, 62, 63, 64, 65, 66, 67, 72, 73, 74, 75] (by decide +kernel) (by decide +kernel)
set_option maxRecDepth 20000 in
theorem gX5_place_X5_spreadFromStart : GoodIn wsX5_place (wsV RX5 81 RX5 yX5_spreadFromStart wsX5_spreadFromStart) := goodIn_app (goodIn_of _ (by decide +kernel)) ggX5_place_X5_spreadFromStart
theorem dX5_place_0 : decode cX5_place 0 = .ok (.aload_n 0, 1) := by decide +kernel
theorem dX5_place_1 : decode cX5_place 1 = .ok (.getfield 10, 3) := by decide +kernel
theorem dX5_place_4 : decode cX5_place 4 = .ok (.iload_n 1, 1) := by decide +kernel
theorem dX5_place_5 : decode cX5_place 5 = .ok (.invokevirtual 55, 3) := by decide +kernel
theorem dX5_place_8 : decode cX5_place 8 = .ok (.iconst (-1), 1) := by decide +kernel
theorem dX5_place_9 : decode cX5_place 9 = .ok (.if_icmp .eq 13, 3) := by decide +kernel
theorem dX5_place_12 : decode cX5_place 12 = .ok (.new 59, 3) := by decide +kernel
theorem dX5_place_15 : decode cX5_place 15 = .ok (.dup, 1) := by decide +kernel
theorem dX5_place_16 : decode cX5_place 16 = .ok (.ldc 61, 2) := by decide +kernel
theorem dX5_place_18 : decode cX5_place 18 = .ok (.invokespecial 63, 3) := by decide +kernel
theorem dX5_place_21 : decode cX5_place 21 = .ok (.athrow, 1) := by decide +kernel
theorem dX5_place_22 : decode cX5_place 22 = .ok (.aload_n 0, 1) := by decide +kernel
theorem dX5_place_23 : decode cX5_place 23 = .ok (.getfield 10, 3) := by decide +kernel
theorem dX5_place_26 : decode cX5_place 26 = .ok (.getfield 66, 3) := by decide +kernel
theorem dX5_place_29 : decode cX5_place 29 = .ok (.bipush 12, 2) := by decide +kernel
theorem dX5_place_31 : decode cX5_place 31 = .ok (.if_icmp .lt 13, 3) := by decide +kernel
theorem dX5_place_34 : decode cX5_place 34 = .ok (.new 69, 3) := by decide +kernel
theorem dX5_place_37 : decode cX5_place 37 = .ok (.dup, 1) := by decide +kernel
theorem dX5_place_38 : decode cX5_place 38 = .ok (.ldc 71, 2) := by decide +kernel
theorem dX5_place_40 : decode cX5_place 40 = .ok (.invokespecial 73, 3) := by decide +kernel
theorem dX5_place_43 : decode cX5_place 43 = .ok (.athrow, 1) := by decide +kernel
theorem dX5_place_44 : decode cX5_place 44 = .ok (.aload_n 0, 1) := by decide +kernel
theorem dX5_place_45 : decode cX5_place 45 = .ok (.getfield 10, 3) := by decide +kernel
theorem dX5_place_48 : decode cX5_place 48 = .ok (.iload_n 1, 1) := by decide +kernel
theorem dX5_place_49 : decode cX5_place 49 = .ok (.invokevirtual 74, 3) := by decide +kernel
theorem dX5_place_52 : decode cX5_place 52 = .ok (.aload_n 0, 1) := by decide +kernel
theorem dX5_place_53 : decode cX5_place 53 = .ok (.getfield 43, 3) := by decide +kernel
theorem dX5_place_56 : decode cX5_place 56 = .ok (.invokevirtual 78, 3) := by decide +kernel
theorem dX5_place_59 : decode cX5_place 59 = .ok (.aload_n 0, 1) := by decide +kernel
theorem dX5_place_60 : decode cX5_place 60 = .ok (.invokevirtual 81, 3) := by decide +kernel
theorem dX5_place_63 : decode cX5_place 63 = .ok (.aload_n 0, 1) := by decide +kernel
theorem dX5_place_64 : decode cX5_place 64 = .ok (.getfield 10, 3) := by decide +kernel
theorem dX5_place_67 : decode cX5_place 67 = .ok (.getfield 66, 3) := by decide +kernel
theorem dX5_place_70 : decode cX5_place 70 = .ok (.ireturn, 1) := by decide +kernel
set_option maxRecDepth 20000 in
theorem ggX5_leave_X5_placeOf : GoodIn wsX5_leave wsX5_placeOf := goodIn_ca (goodIn_r _ [9, 10, 11, 1, 12, 13, 14, 15, 16, 17, 18, 69, 70, 71, 72, 73, 74, 75, 76, 77, 78, 79] (by decide +kernel) (by decide +kernel)) (goodIn_sub (fun _ h => List.mem_cons_of_mem _ (List.mem_append_right _ h)) (by decide +kernel))
set_option maxRecDepth 20000 in
theorem gX5_leave_X5_placeOf : GoodIn wsX5_leave (wsV RX5 84 RX5 yX5_placeOf wsX5_placeOf) := goodIn_app (goodIn_of _ (by decide +kernel)) ggX5_leave_X5_placeOf
set_option maxRecDepth 20000 in
theorem ggX5_leave_X3_degree : GoodIn wsX5_leave wsX3_degree := goodIn_r _ [22, 23, 24, 25, 26, 27, 28, 29, 30, 77, 78, 79] (by decide +kernel) (by decide +kernel)
set_option maxRecDepth 20000 in
theorem gX5_leave_X3_degree : GoodIn wsX5_leave (wsV RX5 87 RX3 yX3_degree wsX3_degree) := goodIn_app (goodIn_of _ (by decide +kernel)) ggX5_leave_X3_degree
set_option maxRecDepth 20000 in
theorem ggX5_leave_X3_remove : GoodIn wsX5_leave wsX3_remove := goodIn_r _ [34, 17, 18, 23, 35, 36, 15, 37, 77, 78, 79] (by decide +kernel) (by decide +kernel)
set_option maxRecDepth 20000 in
theorem gX5_leave_X3_remove : GoodIn wsX5_leave (wsV RX5 90 RX3 yX3_remove wsX3_remove) := goodIn_app (goodIn_of _ (by decide +kernel)) ggX5_leave_X3_remove
set_option maxRecDepth 20000 in
theorem ggX5_leave_X0_clear : GoodIn wsX5_leave wsX0_clear := goodIn_r _ [42, 43, 80, 81, 82, 83] (by decide +kernel) (by decide +kernel)
set_option maxRecDepth 20000 in
theorem gX5_leave_X0_clear : GoodIn wsX5_leave (wsV RX5 78 RX0 yX0_clear wsX0_clear) := goodIn_app (goodIn_of _ (by decide +kernel)) ggX5_leave_X0_clear
set_option maxRecDepth 20000 in
theorem ggX5_leave_X5_spreadFromStart : GoodIn wsX5_leave wsX5_spreadFromStart := goodIn_r _ [47, 48, 1, 2, 3, 12, 13, 14, 15, 16, 17, 18, 49, 50, 51, 52, 53, 54, 55, 56, 57, 58, 59, 60, 61, 62, 63, 64, 65, 66, 23, 67, 8, 68, 69, 70, 71, 72, 73, 74, 75, 76, 77, 78, 79, 84, 85, 86, 87] (by decide +kernel) (by decide +kernel)
set_option maxRecDepth 20000 in
theorem gX5_leave_X5_spreadFromStart : GoodIn wsX5_leave (wsV RX5 81 RX5 yX5_spreadFromStart wsX5_spreadFromStart) := goodIn_app (goodIn_of _ (by decide +kernel)) ggX5_leave_X5_spreadFromStart
theorem dX5_leave_0 : decode cX5_leave 0 = .ok (.aload_n 0, 1) := by decide +kernel
theorem dX5_leave_1 : decode cX5_leave 1 = .ok (.iload_n 1, 1) := by decide +kernel
theorem dX5_leave_2 : decode cX5_leave 2 = .ok (.invokevirtual 84, 3) := by decide +kernel
theorem dX5_leave_5 : decode cX5_leave 5 = .ok (.istore_n 2, 1) := by decide +kernel
theorem dX5_leave_6 : decode cX5_leave 6 = .ok (.aload_n 0, 1) := by decide +kernel
theorem dX5_leave_7 : decode cX5_leave 7 = .ok (.getfield 10, 3) := by decide +kernel
theorem dX5_leave_10 : decode cX5_leave 10 = .ok (.iload_n 2, 1) := by decide +kernel
theorem dX5_leave_11 : decode cX5_leave 11 = .ok (.invokevirtual 87, 3) := by decide +kernel
theorem dX5_leave_14 : decode cX5_leave 14 = .ok (.istore_n 3, 1) := by decide +kernel
theorem dX5_leave_15 : decode cX5_leave 15 = .ok (.aload_n 0, 1) := by decide +kernel
theorem dX5_leave_16 : decode cX5_leave 16 = .ok (.getfield 10, 3) := by decide +kernel
theorem dX5_leave_19 : decode cX5_leave 19 = .ok (.iload_n 2, 1) := by decide +kernel
theorem dX5_leave_20 : decode cX5_leave 20 = .ok (.invokevirtual 90, 3) := by decide +kernel
theorem dX5_leave_23 : decode cX5_leave 23 = .ok (.aload_n 0, 1) := by decide +kernel
theorem dX5_leave_24 : decode cX5_leave 24 = .ok (.getfield 47, 3) := by decide +kernel
theorem dX5_leave_27 : decode cX5_leave 27 = .ok (.ifCond .eq 16, 3) := by decide +kernel
theorem dX5_leave_30 : decode cX5_leave 30 = .ok (.aload_n 0, 1) := by decide +kernel
theorem dX5_leave_31 : decode cX5_leave 31 = .ok (.getfield 51, 3) := by decide +kernel
theorem dX5_leave_34 : decode cX5_leave 34 = .ok (.iload_n 1, 1) := by decide +kernel
theorem dX5_leave_35 : decode cX5_leave 35 = .ok (.if_icmp .ne 8, 3) := by decide +kernel
theorem dX5_leave_38 : decode cX5_leave 38 = .ok (.aload_n 0, 1) := by decide +kernel
theorem dX5_leave_39 : decode cX5_leave 39 = .ok (.iconst 0, 1) := by decide +kernel
theorem dX5_leave_40 : decode cX5_leave 40 = .ok (.putfield 47, 3) := by decide +kernel
theorem dX5_leave_43 : decode cX5_leave 43 = .ok (.aload_n 0, 1) := by decide +kernel
theorem dX5_leave_44 : decode cX5_leave 44 = .ok (.getfield 43, 3) := by decide +kernel
theorem dX5_leave_47 : decode cX5_leave 47 = .ok (.invokevirtual 78, 3) := by decide +kernel
theorem dX5_leave_50 : decode cX5_leave 50 = .ok (.aload_n 0, 1) := by decide +kernel
theorem dX5_leave_51 : decode cX5_leave 51 = .ok (.invokevirtual 81, 3) := by decide +kernel
theorem dX5_leave_54 : decode cX5_leave 54 = .ok (.iload_n 3, 1) := by decide +kernel
theorem dX5_leave_55 : decode cX5_leave 55 = .ok (.ireturn, 1) := by decide +kernel
set_option maxRecDepth 20000 in
theorem ggX5_street_X5_placeOf : GoodIn wsX5_street wsX5_placeOf := goodIn_ca (goodIn_r _ [13, 14, 15, 5, 16, 17, 18, 19, 20, 21, 22, 71, 72, 73, 74, 75, 76, 77, 78, 83, 84, 85] (by decide +kernel) (by decide +kernel)) (goodIn_sub (fun _ h => List.mem_cons_of_mem _ (List.mem_append_right _ h)) (by decide +kernel))
set_option maxRecDepth 20000 in
theorem gX5_street_X5_placeOf : GoodIn wsX5_street (wsV RX5 84 RX5 yX5_placeOf wsX5_placeOf) := goodIn_app (goodIn_of _ (by decide +kernel)) ggX5_street_X5_placeOf
set_option maxRecDepth 20000 in
theorem ggX5_street_X3_joins : GoodIn wsX5_street wsX3_joins := goodIn_r _ [26, 27, 28, 12, 29, 83, 84, 85] (by decide +kernel) (by decide +kernel)
set_option maxRecDepth 20000 in
theorem gX5_street_X3_joins : GoodIn wsX5_street (wsV RX5 95 RX3 yX3_joins wsX3_joins) := goodIn_app (goodIn_of _ (by decide +kernel)) ggX5_street_X3_joins
set_option maxRecDepth 20000 in
theorem ggX5_street_X0_remember : GoodIn wsX5_street wsX0_remember := goodIn_r _ [34, 35, 36, 79, 80, 81, 82, 86, 87, 88, 89] (by decide +kernel) (by decide +kernel)
set_option maxRecDepth 20000 in
theorem gX5_street_X0_remember : GoodIn wsX5_street (wsV RX5 101 RX0 yX0_remember wsX0_remember) := goodIn_app (goodIn_of _ (by decide +kernel)) ggX5_street_X0_remember
set_option maxRecDepth 20000 in
theorem ggX5_street_X3_join : GoodIn wsX5_street wsX3_join := goodIn_r _ [40, 27, 83, 84, 85] (by decide +kernel) (by decide +kernel)
set_option maxRecDepth 20000 in
theorem gX5_street_X3_join : GoodIn wsX5_street (wsV RX5 105 RX3 yX3_join wsX3_join) := goodIn_app (goodIn_of _ (by decide +kernel)) ggX5_street_X3_join
set_option maxRecDepth 20000 in
theorem ggX5_street_X5_spreadFromStart : GoodIn wsX5_street wsX5_spreadFromStart := goodIn_r _ [44, 7, 5, 45, 46, 16, 17, 18, 19, 20, 21, 22, 47, 48, 49, 50, 51, 52, 53, 54, 55, 56, 57, 58, 59, 60, 61, 24, 25, 26, 27, 28, 12, 29, 71, 72, 73, 74, 75, 76, 77, 78, 83, 84, 85, 86, 87, 88, 89] (by decide +kernel) (by decide +kernel)
set_option maxRecDepth 20000 in
theorem gX5_street_X5_spreadFromStart : GoodIn wsX5_street (wsV RX5 81 RX5 yX5_spreadFromStart wsX5_spreadFromStart) := goodIn_app (goodIn_of _ (by decide +kernel)) ggX5_street_X5_spreadFromStart
set_option maxRecDepth 20000 in
theorem ggX5_street_X0_compare : GoodIn wsX5_street wsX0_compare := goodIn_r _ [65, 66, 67, 35, 36, 68, 69, 70, 79, 80, 81, 82, 83, 84, 85, 86, 87, 88, 89] (by decide +kernel) (by decide +kernel)
set_option maxRecDepth 20000 in
theorem gX5_street_X0_compare : GoodIn wsX5_street (wsV RX5 109 RX0 yX0_compare wsX0_compare) := goodIn_app (goodIn_of _ (by decide +kernel)) ggX5_street_X0_compare
theorem dX5_street_0 : decode cX5_street 0 = .ok (.aload_n 0, 1) := by decide +kernel
theorem dX5_street_1 : decode cX5_street 1 = .ok (.iload_n 1, 1) := by decide +kernel
theorem dX5_street_2 : decode cX5_street 2 = .ok (.invokevirtual 84, 3) := by decide +kernel
theorem dX5_street_5 : decode cX5_street 5 = .ok (.istore_n 3, 1) := by decide +kernel
theorem dX5_street_6 : decode cX5_street 6 = .ok (.aload_n 0, 1) := by decide +kernel
theorem dX5_street_7 : decode cX5_street 7 = .ok (.iload_n 2, 1) := by decide +kernel
theorem dX5_street_8 : decode cX5_street 8 = .ok (.invokevirtual 84, 3) := by decide +kernel
theorem dX5_street_11 : decode cX5_street 11 = .ok (.istore 4, 2) := by decide +kernel
theorem dX5_street_13 : decode cX5_street 13 = .ok (.iload_n 3, 1) := by decide +kernel
theorem dX5_street_14 : decode cX5_street 14 = .ok (.iload 4, 2) := by decide +kernel
theorem dX5_street_16 : decode cX5_street 16 = .ok (.if_icmp .ne 13, 3) := by decide +kernel
theorem dX5_street_19 : decode cX5_street 19 = .ok (.new 59, 3) := by decide +kernel
theorem dX5_street_22 : decode cX5_street 22 = .ok (.dup, 1) := by decide +kernel
theorem dX5_street_23 : decode cX5_street 23 = .ok (.ldc 93, 2) := by decide +kernel
theorem dX5_street_25 : decode cX5_street 25 = .ok (.invokespecial 63, 3) := by decide +kernel
theorem dX5_street_28 : decode cX5_street 28 = .ok (.athrow, 1) := by decide +kernel
theorem dX5_street_29 : decode cX5_street 29 = .ok (.aload_n 0, 1) := by decide +kernel
theorem dX5_street_30 : decode cX5_street 30 = .ok (.getfield 10, 3) := by decide +kernel
theorem dX5_street_33 : decode cX5_street 33 = .ok (.iload_n 3, 1) := by decide +kernel
theorem dX5_street_34 : decode cX5_street 34 = .ok (.iload 4, 2) := by decide +kernel
theorem dX5_street_36 : decode cX5_street 36 = .ok (.invokevirtual 95, 3) := by decide +kernel
theorem dX5_street_39 : decode cX5_street 39 = .ok (.ifCond .eq 13, 3) := by decide +kernel
theorem dX5_street_42 : decode cX5_street 42 = .ok (.new 69, 3) := by decide +kernel
theorem dX5_street_45 : decode cX5_street 45 = .ok (.dup, 1) := by decide +kernel
theorem dX5_street_46 : decode cX5_street 46 = .ok (.ldc 99, 2) := by decide +kernel
theorem dX5_street_48 : decode cX5_street 48 = .ok (.invokespecial 73, 3) := by decide +kernel
theorem dX5_street_51 : decode cX5_street 51 = .ok (.athrow, 1) := by decide +kernel
theorem dX5_street_52 : decode cX5_street 52 = .ok (.aload_n 0, 1) := by decide +kernel
theorem dX5_street_53 : decode cX5_street 53 = .ok (.getfield 43, 3) := by decide +kernel
theorem dX5_street_56 : decode cX5_street 56 = .ok (.aload_n 0, 1) := by decide +kernel
theorem dX5_street_57 : decode cX5_street 57 = .ok (.getfield 19, 3) := by decide +kernel
theorem dX5_street_60 : decode cX5_street 60 = .ok (.invokevirtual 101, 3) := by decide +kernel
theorem dX5_street_63 : decode cX5_street 63 = .ok (.aload_n 0, 1) := by decide +kernel
theorem dX5_street_64 : decode cX5_street 64 = .ok (.getfield 10, 3) := by decide +kernel
theorem dX5_street_67 : decode cX5_street 67 = .ok (.iload_n 3, 1) := by decide +kernel
theorem dX5_street_68 : decode cX5_street 68 = .ok (.iload 4, 2) := by decide +kernel
theorem dX5_street_70 : decode cX5_street 70 = .ok (.invokevirtual 105, 3) := by decide +kernel
theorem dX5_street_73 : decode cX5_street 73 = .ok (.aload_n 0, 1) := by decide +kernel
theorem dX5_street_74 : decode cX5_street 74 = .ok (.invokevirtual 81, 3) := by decide +kernel
theorem dX5_street_77 : decode cX5_street 77 = .ok (.aload_n 0, 1) := by decide +kernel
theorem dX5_street_78 : decode cX5_street 78 = .ok (.getfield 43, 3) := by decide +kernel
theorem dX5_street_81 : decode cX5_street 81 = .ok (.aload_n 0, 1) := by decide +kernel
theorem dX5_street_82 : decode cX5_street 82 = .ok (.getfield 10, 3) := by decide +kernel
theorem dX5_street_85 : decode cX5_street 85 = .ok (.aload_n 0, 1) := by decide +kernel
theorem dX5_street_86 : decode cX5_street 86 = .ok (.getfield 19, 3) := by decide +kernel
theorem dX5_street_89 : decode cX5_street 89 = .ok (.invokevirtual 109, 3) := by decide +kernel
theorem dX5_street_92 : decode cX5_street 92 = .ok (.aload_n 0, 1) := by decide +kernel
theorem dX5_street_93 : decode cX5_street 93 = .ok (.getfield 43, 3) := by decide +kernel
theorem dX5_street_96 : decode cX5_street 96 = .ok (.getfield 113, 3) := by decide +kernel
theorem dX5_street_99 : decode cX5_street 99 = .ok (.ireturn, 1) := by decide +kernel
set_option maxRecDepth 20000 in
theorem ggX5_tear_X5_placeOf : GoodIn wsX5_tear wsX5_placeOf := goodIn_ca (goodIn_r _ [11, 1, 2, 3, 12, 13, 14, 15, 16, 17, 18, 67, 68, 69, 70, 71, 72, 73, 74, 79, 80, 81] (by decide +kernel) (by decide +kernel)) (goodIn_sub (fun _ h => List.mem_cons_of_mem _ (List.mem_append_right _ h)) (by decide +kernel))
set_option maxRecDepth 20000 in
theorem gX5_tear_X5_placeOf : GoodIn wsX5_tear (wsV RX5 84 RX5 yX5_placeOf wsX5_placeOf) := goodIn_app (goodIn_of _ (by decide +kernel)) ggX5_tear_X5_placeOf
set_option maxRecDepth 20000 in
theorem ggX5_tear_X3_joins : GoodIn wsX5_tear wsX3_joins := goodIn_r _ [22, 23, 24, 10, 25, 79, 80, 81] (by decide +kernel) (by decide +kernel)
set_option maxRecDepth 20000 in
theorem gX5_tear_X3_joins : GoodIn wsX5_tear (wsV RX5 95 RX3 yX3_joins wsX3_joins) := goodIn_app (goodIn_of _ (by decide +kernel)) ggX5_tear_X3_joins
set_option maxRecDepth 20000 in
theorem ggX5_tear_X0_remember : GoodIn wsX5_tear wsX0_remember := goodIn_r _ [30, 31, 32, 75, 76, 77, 78, 82, 83, 84, 85] (by decide +kernel) (by decide +kernel)
set_option maxRecDepth 20000 in
theorem gX5_tear_X0_remember : GoodIn wsX5_tear (wsV RX5 101 RX0 yX0_remember wsX0_remember) := goodIn_app (goodIn_of _ (by decide +kernel)) ggX5_tear_X0_remember
set_option maxRecDepth 20000 in
theorem ggX5_tear_X3_part : GoodIn wsX5_tear wsX3_part := goodIn_r _ [36, 23, 79, 80, 81] (by decide +kernel) (by decide +kernel)
set_option maxRecDepth 20000 in
theorem gX5_tear_X3_part : GoodIn wsX5_tear (wsV RX5 119 RX3 yX3_part wsX3_part) := goodIn_app (goodIn_of _ (by decide +kernel)) ggX5_tear_X3_part
set_option maxRecDepth 20000 in
theorem ggX5_tear_X5_spreadFromStart : GoodIn wsX5_tear wsX5_spreadFromStart := goodIn_r _ [40, 5, 3, 41, 42, 12, 13, 14, 15, 16, 17, 18, 43, 44, 45, 46, 47, 48, 49, 50, 51, 52, 53, 54, 55, 56, 57, 20, 21, 22, 23, 24, 10, 25, 67, 68, 69, 70, 71, 72, 73, 74, 79, 80, 81, 82, 83, 84, 85] (by decide +kernel) (by decide +kernel)
set_option maxRecDepth 20000 in
theorem gX5_tear_X5_spreadFromStart : GoodIn wsX5_tear (wsV RX5 81 RX5 yX5_spreadFromStart wsX5_spreadFromStart) := goodIn_app (goodIn_of _ (by decide +kernel)) ggX5_tear_X5_spreadFromStart
set_option maxRecDepth 20000 in
theorem ggX5_tear_X0_compare : GoodIn wsX5_tear wsX0_compare := goodIn_r _ [61, 62, 63, 31, 32, 64, 65, 66, 75, 76, 77, 78, 79, 80, 81, 82, 83, 84, 85] (by decide +kernel) (by decide +kernel)
set_option maxRecDepth 20000 in
theorem gX5_tear_X0_compare : GoodIn wsX5_tear (wsV RX5 109 RX0 yX0_compare wsX0_compare) := goodIn_app (goodIn_of _ (by decide +kernel)) ggX5_tear_X0_compare
theorem dX5_tear_0 : decode cX5_tear 0 = .ok (.aload_n 0, 1) := by decide +kernel
theorem dX5_tear_1 : decode cX5_tear 1 = .ok (.iload_n 1, 1) := by decide +kernel
theorem dX5_tear_2 : decode cX5_tear 2 = .ok (.invokevirtual 84, 3) := by decide +kernel
theorem dX5_tear_5 : decode cX5_tear 5 = .ok (.istore_n 3, 1) := by decide +kernel
theorem dX5_tear_6 : decode cX5_tear 6 = .ok (.aload_n 0, 1) := by decide +kernel
theorem dX5_tear_7 : decode cX5_tear 7 = .ok (.iload_n 2, 1) := by decide +kernel
theorem dX5_tear_8 : decode cX5_tear 8 = .ok (.invokevirtual 84, 3) := by decide +kernel
theorem dX5_tear_11 : decode cX5_tear 11 = .ok (.istore 4, 2) := by decide +kernel
theorem dX5_tear_13 : decode cX5_tear 13 = .ok (.aload_n 0, 1) := by decide +kernel
theorem dX5_tear_14 : decode cX5_tear 14 = .ok (.getfield 10, 3) := by decide +kernel
theorem dX5_tear_17 : decode cX5_tear 17 = .ok (.iload_n 3, 1) := by decide +kernel
theorem dX5_tear_18 : decode cX5_tear 18 = .ok (.iload 4, 2) := by decide +kernel
theorem dX5_tear_20 : decode cX5_tear 20 = .ok (.invokevirtual 95, 3) := by decide +kernel
theorem dX5_tear_23 : decode cX5_tear 23 = .ok (.ifCond .ne 13, 3) := by decide +kernel
theorem dX5_tear_26 : decode cX5_tear 26 = .ok (.new 114, 3) := by decide +kernel
theorem dX5_tear_29 : decode cX5_tear 29 = .ok (.dup, 1) := by decide +kernel
theorem dX5_tear_30 : decode cX5_tear 30 = .ok (.ldc 116, 2) := by decide +kernel
theorem dX5_tear_32 : decode cX5_tear 32 = .ok (.invokespecial 118, 3) := by decide +kernel
theorem dX5_tear_35 : decode cX5_tear 35 = .ok (.athrow, 1) := by decide +kernel
theorem dX5_tear_36 : decode cX5_tear 36 = .ok (.aload_n 0, 1) := by decide +kernel
theorem dX5_tear_37 : decode cX5_tear 37 = .ok (.getfield 43, 3) := by decide +kernel
theorem dX5_tear_40 : decode cX5_tear 40 = .ok (.aload_n 0, 1) := by decide +kernel
theorem dX5_tear_41 : decode cX5_tear 41 = .ok (.getfield 19, 3) := by decide +kernel
theorem dX5_tear_44 : decode cX5_tear 44 = .ok (.invokevirtual 101, 3) := by decide +kernel
theorem dX5_tear_47 : decode cX5_tear 47 = .ok (.aload_n 0, 1) := by decide +kernel
theorem dX5_tear_48 : decode cX5_tear 48 = .ok (.getfield 10, 3) := by decide +kernel
theorem dX5_tear_51 : decode cX5_tear 51 = .ok (.iload_n 3, 1) := by decide +kernel
theorem dX5_tear_52 : decode cX5_tear 52 = .ok (.iload 4, 2) := by decide +kernel
theorem dX5_tear_54 : decode cX5_tear 54 = .ok (.invokevirtual 119, 3) := by decide +kernel
theorem dX5_tear_57 : decode cX5_tear 57 = .ok (.aload_n 0, 1) := by decide +kernel
theorem dX5_tear_58 : decode cX5_tear 58 = .ok (.invokevirtual 81, 3) := by decide +kernel
theorem dX5_tear_61 : decode cX5_tear 61 = .ok (.aload_n 0, 1) := by decide +kernel
theorem dX5_tear_62 : decode cX5_tear 62 = .ok (.getfield 43, 3) := by decide +kernel
theorem dX5_tear_65 : decode cX5_tear 65 = .ok (.aload_n 0, 1) := by decide +kernel
theorem dX5_tear_66 : decode cX5_tear 66 = .ok (.getfield 10, 3) := by decide +kernel
theorem dX5_tear_69 : decode cX5_tear 69 = .ok (.aload_n 0, 1) := by decide +kernel
theorem dX5_tear_70 : decode cX5_tear 70 = .ok (.getfield 19, 3) := by decide +kernel
theorem dX5_tear_73 : decode cX5_tear 73 = .ok (.invokevirtual 109, 3) := by decide +kernel
theorem dX5_tear_76 : decode cX5_tear 76 = .ok (.aload_n 0, 1) := by decide +kernel
theorem dX5_tear_77 : decode cX5_tear 77 = .ok (.getfield 43, 3) := by decide +kernel
theorem dX5_tear_80 : decode cX5_tear 80 = .ok (.getfield 113, 3) := by decide +kernel
theorem dX5_tear_83 : decode cX5_tear 83 = .ok (.ireturn, 1) := by decide +kernel
theorem dX5_places_0 : decode cX5_places 0 = .ok (.aload_n 0, 1) := by decide +kernel
theorem dX5_places_1 : decode cX5_places 1 = .ok (.getfield 10, 3) := by decide +kernel
theorem dX5_places_4 : decode cX5_places 4 = .ok (.getfield 66, 3) := by decide +kernel
theorem dX5_places_7 : decode cX5_places 7 = .ok (.ireturn, 1) := by decide +kernel
set_option maxRecDepth 20000 in
theorem ggX5_streets_X3_degree : GoodIn wsX5_streets wsX3_degree := goodIn_r _ [7, 8, 9, 10, 11, 12, 13, 14, 15, 24, 25, 26] (by decide +kernel) (by decide +kernel)
set_option maxRecDepth 20000 in
theorem gX5_streets_X3_degree : GoodIn wsX5_streets (wsV RX5 87 RX3 yX3_degree wsX3_degree) := goodIn_app (goodIn_of _ (by decide +kernel)) ggX5_streets_X3_degree
theorem dX5_streets_0 : decode cX5_streets 0 = .ok (.iconst 0, 1) := by decide +kernel
theorem dX5_streets_1 : decode cX5_streets 1 = .ok (.istore_n 1, 1) := by decide +kernel
theorem dX5_streets_2 : decode cX5_streets 2 = .ok (.iconst 0, 1) := by decide +kernel
theorem dX5_streets_3 : decode cX5_streets 3 = .ok (.istore_n 2, 1) := by decide +kernel
theorem dX5_streets_4 : decode cX5_streets 4 = .ok (.iload_n 2, 1) := by decide +kernel
theorem dX5_streets_5 : decode cX5_streets 5 = .ok (.aload_n 0, 1) := by decide +kernel
theorem dX5_streets_6 : decode cX5_streets 6 = .ok (.getfield 10, 3) := by decide +kernel
theorem dX5_streets_9 : decode cX5_streets 9 = .ok (.getfield 66, 3) := by decide +kernel
theorem dX5_streets_12 : decode cX5_streets 12 = .ok (.if_icmp .ge 20, 3) := by decide +kernel
theorem dX5_streets_15 : decode cX5_streets 15 = .ok (.iload_n 1, 1) := by decide +kernel
theorem dX5_streets_16 : decode cX5_streets 16 = .ok (.aload_n 0, 1) := by decide +kernel
theorem dX5_streets_17 : decode cX5_streets 17 = .ok (.getfield 10, 3) := by decide +kernel
theorem dX5_streets_20 : decode cX5_streets 20 = .ok (.iload_n 2, 1) := by decide +kernel
theorem dX5_streets_21 : decode cX5_streets 21 = .ok (.invokevirtual 87, 3) := by decide +kernel
theorem dX5_streets_24 : decode cX5_streets 24 = .ok (.iadd, 1) := by decide +kernel
theorem dX5_streets_25 : decode cX5_streets 25 = .ok (.istore_n 1, 1) := by decide +kernel
theorem dX5_streets_26 : decode cX5_streets 26 = .ok (.iinc 2 1, 3) := by decide +kernel
theorem dX5_streets_29 : decode cX5_streets 29 = .ok (.goto (-25), 3) := by decide +kernel
theorem dX5_streets_32 : decode cX5_streets 32 = .ok (.iload_n 1, 1) := by decide +kernel
theorem dX5_streets_33 : decode cX5_streets 33 = .ok (.iconst 2, 1) := by decide +kernel
theorem dX5_streets_34 : decode cX5_streets 34 = .ok (.idiv, 1) := by decide +kernel
theorem dX5_streets_35 : decode cX5_streets 35 = .ok (.ireturn, 1) := by decide +kernel
set_option maxRecDepth 20000 in
theorem ggX5_isStreet_X5_placeOf : GoodIn wsX5_isStreet wsX5_placeOf := goodIn_ca (goodIn_r _ [6, 7, 8, 1, 9, 10, 11, 12, 13, 14, 15, 23, 24, 25, 26, 27, 28, 29, 30, 31, 32, 33] (by decide +kernel) (by decide +kernel)) (goodIn_sub (fun _ h => List.mem_cons_of_mem _ (List.mem_append_right _ h)) (by decide +kernel))
set_option maxRecDepth 20000 in
theorem gX5_isStreet_X5_placeOf : GoodIn wsX5_isStreet (wsV RX5 84 RX5 yX5_placeOf wsX5_placeOf) := goodIn_app (goodIn_of _ (by decide +kernel)) ggX5_isStreet_X5_placeOf
set_option maxRecDepth 20000 in
theorem ggX5_isStreet_X3_joins : GoodIn wsX5_isStreet wsX3_joins := goodIn_r _ [19, 20, 21, 5, 22, 31, 32, 33] (by decide +kernel) (by decide +kernel)
set_option maxRecDepth 20000 in
theorem gX5_isStreet_X3_joins : GoodIn wsX5_isStreet (wsV RX5 95 RX3 yX3_joins wsX3_joins) := goodIn_app (goodIn_of _ (by decide +kernel)) ggX5_isStreet_X3_joins
theorem dX5_isStreet_0 : decode cX5_isStreet 0 = .ok (.aload_n 0, 1) := by decide +kernel
theorem dX5_isStreet_1 : decode cX5_isStreet 1 = .ok (.iload_n 1, 1) := by decide +kernel
theorem dX5_isStreet_2 : decode cX5_isStreet 2 = .ok (.invokevirtual 84, 3) := by decide +kernel
theorem dX5_isStreet_5 : decode cX5_isStreet 5 = .ok (.istore_n 3, 1) := by decide +kernel
theorem dX5_isStreet_6 : decode cX5_isStreet 6 = .ok (.aload_n 0, 1) := by decide +kernel
theorem dX5_isStreet_7 : decode cX5_isStreet 7 = .ok (.iload_n 2, 1) := by decide +kernel
theorem dX5_isStreet_8 : decode cX5_isStreet 8 = .ok (.invokevirtual 84, 3) := by decide +kernel
theorem dX5_isStreet_11 : decode cX5_isStreet 11 = .ok (.istore 4, 2) := by decide +kernel
theorem dX5_isStreet_13 : decode cX5_isStreet 13 = .ok (.aload_n 0, 1) := by decide +kernel
theorem dX5_isStreet_14 : decode cX5_isStreet 14 = .ok (.getfield 10, 3) := by decide +kernel
theorem dX5_isStreet_17 : decode cX5_isStreet 17 = .ok (.iload_n 3, 1) := by decide +kernel
theorem dX5_isStreet_18 : decode cX5_isStreet 18 = .ok (.iload 4, 2) := by decide +kernel
theorem dX5_isStreet_20 : decode cX5_isStreet 20 = .ok (.invokevirtual 95, 3) := by decide +kernel
theorem dX5_isStreet_23 : decode cX5_isStreet 23 = .ok (.ireturn, 1) := by decide +kernel
theorem dX5_keyAt_0 : decode cX5_keyAt 0 = .ok (.iload_n 1, 1) := by decide +kernel
theorem dX5_keyAt_1 : decode cX5_keyAt 1 = .ok (.ifCond .lt 14, 3) := by decide +kernel
theorem dX5_keyAt_4 : decode cX5_keyAt 4 = .ok (.iload_n 1, 1) := by decide +kernel
theorem dX5_keyAt_5 : decode cX5_keyAt 5 = .ok (.aload_n 0, 1) := by decide +kernel
theorem dX5_keyAt_6 : decode cX5_keyAt 6 = .ok (.getfield 10, 3) := by decide +kernel
theorem dX5_keyAt_9 : decode cX5_keyAt 9 = .ok (.getfield 66, 3) := by decide +kernel
theorem dX5_keyAt_12 : decode cX5_keyAt 12 = .ok (.if_icmp .lt 13, 3) := by decide +kernel
theorem dX5_keyAt_15 : decode cX5_keyAt 15 = .ok (.new 122, 3) := by decide +kernel
theorem dX5_keyAt_18 : decode cX5_keyAt 18 = .ok (.dup, 1) := by decide +kernel
theorem dX5_keyAt_19 : decode cX5_keyAt 19 = .ok (.ldc 124, 2) := by decide +kernel
theorem dX5_keyAt_21 : decode cX5_keyAt 21 = .ok (.invokespecial 126, 3) := by decide +kernel
theorem dX5_keyAt_24 : decode cX5_keyAt 24 = .ok (.athrow, 1) := by decide +kernel
theorem dX5_keyAt_25 : decode cX5_keyAt 25 = .ok (.aload_n 0, 1) := by decide +kernel
theorem dX5_keyAt_26 : decode cX5_keyAt 26 = .ok (.getfield 10, 3) := by decide +kernel
theorem dX5_keyAt_29 : decode cX5_keyAt 29 = .ok (.getfield 127, 3) := by decide +kernel
theorem dX5_keyAt_32 : decode cX5_keyAt 32 = .ok (.iload_n 1, 1) := by decide +kernel
theorem dX5_keyAt_33 : decode cX5_keyAt 33 = .ok (.iaload, 1) := by decide +kernel
theorem dX5_keyAt_34 : decode cX5_keyAt 34 = .ok (.ireturn, 1) := by decide +kernel
set_option maxRecDepth 20000 in
theorem ggX5_begin_X5_placeOf : GoodIn wsX5_begin wsX5_placeOf := goodIn_ca (goodIn_r _ [10, 11, 12, 13, 14, 15, 16, 17, 18, 19, 20, 52, 53, 54, 55, 56, 57, 58, 59, 64, 65, 66] (by decide +kernel) (by decide +kernel)) (goodIn_sub (fun _ h => List.mem_cons_of_mem _ (List.mem_append_right _ h)) (by decide +kernel))
set_option maxRecDepth 20000 in
theorem gX5_begin_X5_placeOf : GoodIn wsX5_begin (wsV RX5 84 RX5 yX5_placeOf wsX5_placeOf) := goodIn_app (goodIn_of _ (by decide +kernel)) ggX5_begin_X5_placeOf
set_option maxRecDepth 20000 in
theorem ggX5_begin_X0_clear : GoodIn wsX5_begin wsX0_clear := goodIn_r _ [25, 26, 67, 68, 69, 70] (by decide +kernel) (by decide +kernel)
set_option maxRecDepth 20000 in
theorem gX5_begin_X0_clear : GoodIn wsX5_begin (wsV RX5 78 RX0 yX0_clear wsX0_clear) := goodIn_app (goodIn_of _ (by decide +kernel)) ggX5_begin_X0_clear
set_option maxRecDepth 20000 in
theorem ggX5_begin_X5_spreadFromStart : GoodIn wsX5_begin wsX5_spreadFromStart := goodIn_r _ [30, 4, 13, 1, 2, 14, 15, 16, 17, 18, 19, 20, 31, 32, 33, 34, 35, 36, 37, 38, 39, 40, 41, 42, 43, 44, 45, 46, 47, 48, 49, 50, 9, 51, 52, 53, 54, 55, 56, 57, 58, 59, 64, 65, 66, 60, 61, 62, 63] (by decide +kernel) (by decide +kernel)
set_option maxRecDepth 20000 in
theorem gX5_begin_X5_spreadFromStart : GoodIn wsX5_begin (wsV RX5 81 RX5 yX5_spreadFromStart wsX5_spreadFromStart) := goodIn_app (goodIn_of _ (by decide +kernel)) ggX5_begin_X5_spreadFromStart
theorem dX5_begin_0 : decode cX5_begin 0 = .ok (.aload_n 0, 1) := by decide +kernel
theorem dX5_begin_1 : decode cX5_begin 1 = .ok (.iload_n 1, 1) := by decide +kernel
theorem dX5_begin_2 : decode cX5_begin 2 = .ok (.invokevirtual 84, 3) := by decide +kernel
theorem dX5_begin_5 : decode cX5_begin 5 = .ok (.pop, 1) := by decide +kernel
theorem dX5_begin_6 : decode cX5_begin 6 = .ok (.aload_n 0, 1) := by decide +kernel
theorem dX5_begin_7 : decode cX5_begin 7 = .ok (.iconst 1, 1) := by decide +kernel
theorem dX5_begin_8 : decode cX5_begin 8 = .ok (.putfield 47, 3) := by decide +kernel
theorem dX5_begin_11 : decode cX5_begin 11 = .ok (.aload_n 0, 1) := by decide +kernel
theorem dX5_begin_12 : decode cX5_begin 12 = .ok (.iload_n 1, 1) := by decide +kernel
theorem dX5_begin_13 : decode cX5_begin 13 = .ok (.putfield 51, 3) := by decide +kernel
theorem dX5_begin_16 : decode cX5_begin 16 = .ok (.aload_n 0, 1) := by decide +kernel
theorem dX5_begin_17 : decode cX5_begin 17 = .ok (.getfield 43, 3) := by decide +kernel
theorem dX5_begin_20 : decode cX5_begin 20 = .ok (.invokevirtual 78, 3) := by decide +kernel
theorem dX5_begin_23 : decode cX5_begin 23 = .ok (.aload_n 0, 1) := by decide +kernel
theorem dX5_begin_24 : decode cX5_begin 24 = .ok (.invokevirtual 81, 3) := by decide +kernel
theorem dX5_begin_27 : decode cX5_begin 27 = .ok (.aload_n 0, 1) := by decide +kernel
theorem dX5_begin_28 : decode cX5_begin 28 = .ok (.getfield 19, 3) := by decide +kernel
theorem dX5_begin_31 : decode cX5_begin 31 = .ok (.getfield 131, 3) := by decide +kernel
theorem dX5_begin_34 : decode cX5_begin 34 = .ok (.ireturn, 1) := by decide +kernel
set_option maxRecDepth 20000 in
theorem ggX5_length_X5_placeOf : GoodIn wsX5_length wsX5_placeOf := goodIn_ca (goodIn_r _ [7, 8, 9, 10, 11, 12, 13, 14, 15, 16, 17, 25, 26, 27, 28, 29, 30, 31, 32, 37, 38, 39] (by decide +kernel) (by decide +kernel)) (goodIn_sub (fun _ h => List.mem_cons_of_mem _ (List.mem_append_left _ (List.mem_append_right _ h))) (by decide +kernel))
set_option maxRecDepth 20000 in
theorem gX5_length_X5_placeOf : GoodIn wsX5_length (wsV RX5 84 RX5 yX5_placeOf wsX5_placeOf) := goodIn_app (goodIn_of _ (by decide +kernel)) ggX5_length_X5_placeOf
set_option maxRecDepth 20000 in
theorem ggX5_length_X5_needStart : GoodIn wsX5_length wsX5_needStart := goodIn_ca (goodIn_r _ [21, 22, 23, 24, 25, 26, 27, 28, 29, 30, 31, 32] (by decide +kernel) (by decide +kernel)) (goodIn_sub (fun _ h => List.mem_cons_of_mem _ (List.mem_append_right _ h)) (by decide +kernel))
set_option maxRecDepth 20000 in
theorem gX5_length_X5_needStart : GoodIn wsX5_length (wsV RX5 134 RX5 yX5_needStart wsX5_needStart) := goodIn_app (goodIn_of _ (by decide +kernel)) ggX5_length_X5_needStart
theorem dX5_length_0 : decode cX5_length 0 = .ok (.aload_n 0, 1) := by decide +kernel
theorem dX5_length_1 : decode cX5_length 1 = .ok (.iload_n 1, 1) := by decide +kernel
theorem dX5_length_2 : decode cX5_length 2 = .ok (.invokevirtual 84, 3) := by decide +kernel
theorem dX5_length_5 : decode cX5_length 5 = .ok (.istore_n 2, 1) := by decide +kernel
theorem dX5_length_6 : decode cX5_length 6 = .ok (.aload_n 0, 1) := by decide +kernel
theorem dX5_length_7 : decode cX5_length 7 = .ok (.invokevirtual 134, 3) := by decide +kernel
theorem dX5_length_10 : decode cX5_length 10 = .ok (.aload_n 0, 1) := by decide +kernel
theorem dX5_length_11 : decode cX5_length 11 = .ok (.getfield 19, 3) := by decide +kernel
theorem dX5_length_14 : decode cX5_length 14 = .ok (.getfield 137, 3) := by decide +kernel
theorem dX5_length_17 : decode cX5_length 17 = .ok (.iload_n 2, 1) := by decide +kernel
theorem dX5_length_18 : decode cX5_length 18 = .ok (.iaload, 1) := by decide +kernel
theorem dX5_length_19 : decode cX5_length 19 = .ok (.ireturn, 1) := by decide +kernel
set_option maxRecDepth 20000 in
theorem ggX5_farthest_X5_needStart : GoodIn wsX5_farthest wsX5_needStart := goodIn_ca (goodIn_r _ [13, 14, 15, 16, 17, 18, 19, 20, 21, 22, 23, 24] (by decide +kernel) (by decide +kernel)) (goodIn_sub (fun _ h => List.mem_cons_of_mem _ (List.mem_append_right _ h)) (by decide +kernel))
set_option maxRecDepth 20000 in
theorem gX5_farthest_X5_needStart : GoodIn wsX5_farthest (wsV RX5 134 RX5 yX5_needStart wsX5_needStart) := goodIn_app (goodIn_of _ (by decide +kernel)) ggX5_farthest_X5_needStart
theorem dX5_farthest_0 : decode cX5_farthest 0 = .ok (.aload_n 0, 1) := by decide +kernel
theorem dX5_farthest_1 : decode cX5_farthest 1 = .ok (.invokevirtual 134, 3) := by decide +kernel
theorem dX5_farthest_4 : decode cX5_farthest 4 = .ok (.iconst 0, 1) := by decide +kernel
theorem dX5_farthest_5 : decode cX5_farthest 5 = .ok (.istore_n 1, 1) := by decide +kernel
theorem dX5_farthest_6 : decode cX5_farthest 6 = .ok (.iconst 0, 1) := by decide +kernel
theorem dX5_farthest_7 : decode cX5_farthest 7 = .ok (.istore_n 2, 1) := by decide +kernel
theorem dX5_farthest_8 : decode cX5_farthest 8 = .ok (.iload_n 2, 1) := by decide +kernel
theorem dX5_farthest_9 : decode cX5_farthest 9 = .ok (.aload_n 0, 1) := by decide +kernel
theorem dX5_farthest_10 : decode cX5_farthest 10 = .ok (.getfield 10, 3) := by decide +kernel
theorem dX5_farthest_13 : decode cX5_farthest 13 = .ok (.getfield 66, 3) := by decide +kernel
theorem dX5_farthest_16 : decode cX5_farthest 16 = .ok (.if_icmp .ge 23, 3) := by decide +kernel
theorem dX5_farthest_19 : decode cX5_farthest 19 = .ok (.iload_n 1, 1) := by decide +kernel
theorem dX5_farthest_20 : decode cX5_farthest 20 = .ok (.aload_n 0, 1) := by decide +kernel
theorem dX5_farthest_21 : decode cX5_farthest 21 = .ok (.getfield 19, 3) := by decide +kernel
theorem dX5_farthest_24 : decode cX5_farthest 24 = .ok (.getfield 137, 3) := by decide +kernel
theorem dX5_farthest_27 : decode cX5_farthest 27 = .ok (.iload_n 2, 1) := by decide +kernel
theorem dX5_farthest_28 : decode cX5_farthest 28 = .ok (.iaload, 1) := by decide +kernel
theorem dX5_farthest_29 : decode cX5_farthest 29 = .ok (.invokestatic 140, 3) := by decide +kernel
theorem dX5_farthest_32 : decode cX5_farthest 32 = .ok (.istore_n 1, 1) := by decide +kernel
theorem dX5_farthest_33 : decode cX5_farthest 33 = .ok (.iinc 2 1, 3) := by decide +kernel
theorem dX5_farthest_36 : decode cX5_farthest 36 = .ok (.goto (-28), 3) := by decide +kernel
theorem dX5_farthest_39 : decode cX5_farthest 39 = .ok (.iload_n 1, 1) := by decide +kernel
theorem dX5_farthest_40 : decode cX5_farthest 40 = .ok (.ireturn, 1) := by decide +kernel
set_option maxRecDepth 20000 in
theorem ggX5_layer_X5_needStart : GoodIn wsX5_layer wsX5_needStart := goodIn_ca (goodIn_r _ [9, 10, 11, 12, 13, 14, 15, 16, 17, 18, 19, 20] (by decide +kernel) (by decide +kernel)) (goodIn_sub (fun _ h => List.mem_cons_of_mem _ (List.mem_append_right _ h)) (by decide +kernel))
set_option maxRecDepth 20000 in
theorem gX5_layer_X5_needStart : GoodIn wsX5_layer (wsV RX5 134 RX5 yX5_needStart wsX5_needStart) := goodIn_app (goodIn_of _ (by decide +kernel)) ggX5_layer_X5_needStart
theorem dX5_layer_0 : decode cX5_layer 0 = .ok (.aload_n 0, 1) := by decide +kernel
theorem dX5_layer_1 : decode cX5_layer 1 = .ok (.invokevirtual 134, 3) := by decide +kernel
theorem dX5_layer_4 : decode cX5_layer 4 = .ok (.iload_n 1, 1) := by decide +kernel
theorem dX5_layer_5 : decode cX5_layer 5 = .ok (.ifCond .ge 5, 3) := by decide +kernel
theorem dX5_layer_8 : decode cX5_layer 8 = .ok (.iconst 0, 1) := by decide +kernel
theorem dX5_layer_9 : decode cX5_layer 9 = .ok (.ireturn, 1) := by decide +kernel
theorem dX5_layer_10 : decode cX5_layer 10 = .ok (.iconst 0, 1) := by decide +kernel
theorem dX5_layer_11 : decode cX5_layer 11 = .ok (.istore_n 2, 1) := by decide +kernel
theorem dX5_layer_12 : decode cX5_layer 12 = .ok (.iconst 0, 1) := by decide +kernel
theorem dX5_layer_13 : decode cX5_layer 13 = .ok (.istore_n 3, 1) := by decide +kernel
theorem dX5_layer_14 : decode cX5_layer 14 = .ok (.iload_n 3, 1) := by decide +kernel
theorem dX5_layer_15 : decode cX5_layer 15 = .ok (.aload_n 0, 1) := by decide +kernel
theorem dX5_layer_16 : decode cX5_layer 16 = .ok (.getfield 10, 3) := by decide +kernel
theorem dX5_layer_19 : decode cX5_layer 19 = .ok (.getfield 66, 3) := by decide +kernel
theorem dX5_layer_22 : decode cX5_layer 22 = .ok (.if_icmp .ge 25, 3) := by decide +kernel
theorem dX5_layer_25 : decode cX5_layer 25 = .ok (.aload_n 0, 1) := by decide +kernel
theorem dX5_layer_26 : decode cX5_layer 26 = .ok (.getfield 19, 3) := by decide +kernel
theorem dX5_layer_29 : decode cX5_layer 29 = .ok (.getfield 137, 3) := by decide +kernel
theorem dX5_layer_32 : decode cX5_layer 32 = .ok (.iload_n 3, 1) := by decide +kernel
theorem dX5_layer_33 : decode cX5_layer 33 = .ok (.iaload, 1) := by decide +kernel
theorem dX5_layer_34 : decode cX5_layer 34 = .ok (.iload_n 1, 1) := by decide +kernel
theorem dX5_layer_35 : decode cX5_layer 35 = .ok (.if_icmp .ne 6, 3) := by decide +kernel
theorem dX5_layer_38 : decode cX5_layer 38 = .ok (.iinc 2 1, 3) := by decide +kernel
theorem dX5_layer_41 : decode cX5_layer 41 = .ok (.iinc 3 1, 3) := by decide +kernel
theorem dX5_layer_44 : decode cX5_layer 44 = .ok (.goto (-30), 3) := by decide +kernel
theorem dX5_layer_47 : decode cX5_layer 47 = .ok (.iload_n 2, 1) := by decide +kernel
theorem dX5_layer_48 : decode cX5_layer 48 = .ok (.ireturn, 1) := by decide +kernel
set_option maxRecDepth 20000 in
theorem ggX5_comes_X5_needStart : GoodIn wsX5_comes wsX5_needStart := goodIn_ca (goodIn_r _ [12, 13, 14, 15, 16, 17, 18, 19, 20, 21, 22, 23] (by decide +kernel) (by decide +kernel)) (goodIn_sub (fun _ h => List.mem_cons_of_mem _ (List.mem_append_right _ h)) (by decide +kernel))
set_option maxRecDepth 20000 in
theorem gX5_comes_X5_needStart : GoodIn wsX5_comes (wsV RX5 134 RX5 yX5_needStart wsX5_needStart) := goodIn_app (goodIn_of _ (by decide +kernel)) ggX5_comes_X5_needStart
theorem dX5_comes_0 : decode cX5_comes 0 = .ok (.aload_n 0, 1) := by decide +kernel
theorem dX5_comes_1 : decode cX5_comes 1 = .ok (.invokevirtual 134, 3) := by decide +kernel
theorem dX5_comes_4 : decode cX5_comes 4 = .ok (.iload_n 1, 1) := by decide +kernel
theorem dX5_comes_5 : decode cX5_comes 5 = .ok (.ifCond .lt 14, 3) := by decide +kernel
theorem dX5_comes_8 : decode cX5_comes 8 = .ok (.iload_n 1, 1) := by decide +kernel
theorem dX5_comes_9 : decode cX5_comes 9 = .ok (.aload_n 0, 1) := by decide +kernel
theorem dX5_comes_10 : decode cX5_comes 10 = .ok (.getfield 19, 3) := by decide +kernel
theorem dX5_comes_13 : decode cX5_comes 13 = .ok (.getfield 131, 3) := by decide +kernel
theorem dX5_comes_16 : decode cX5_comes 16 = .ok (.if_icmp .lt 13, 3) := by decide +kernel
theorem dX5_comes_19 : decode cX5_comes 19 = .ok (.new 122, 3) := by decide +kernel
theorem dX5_comes_22 : decode cX5_comes 22 = .ok (.dup, 1) := by decide +kernel
theorem dX5_comes_23 : decode cX5_comes 23 = .ok (.ldc 146, 2) := by decide +kernel
theorem dX5_comes_25 : decode cX5_comes 25 = .ok (.invokespecial 126, 3) := by decide +kernel
theorem dX5_comes_28 : decode cX5_comes 28 = .ok (.athrow, 1) := by decide +kernel
theorem dX5_comes_29 : decode cX5_comes 29 = .ok (.aload_n 0, 1) := by decide +kernel
theorem dX5_comes_30 : decode cX5_comes 30 = .ok (.getfield 10, 3) := by decide +kernel
theorem dX5_comes_33 : decode cX5_comes 33 = .ok (.getfield 127, 3) := by decide +kernel
theorem dX5_comes_36 : decode cX5_comes 36 = .ok (.aload_n 0, 1) := by decide +kernel
theorem dX5_comes_37 : decode cX5_comes 37 = .ok (.getfield 19, 3) := by decide +kernel
theorem dX5_comes_40 : decode cX5_comes 40 = .ok (.getfield 148, 3) := by decide +kernel
theorem dX5_comes_43 : decode cX5_comes 43 = .ok (.iload_n 1, 1) := by decide +kernel
theorem dX5_comes_44 : decode cX5_comes 44 = .ok (.iaload, 1) := by decide +kernel
theorem dX5_comes_45 : decode cX5_comes 45 = .ok (.iaload, 1) := by decide +kernel
theorem dX5_comes_46 : decode cX5_comes 46 = .ok (.ireturn, 1) := by decide +kernel
set_option maxRecDepth 20000 in
theorem ggX5_ways_X5_placeOf : GoodIn wsX5_ways wsX5_placeOf := goodIn_ca (goodIn_r _ [7, 8, 9, 10, 11, 12, 13, 14, 15, 16, 17, 25, 26, 27, 28, 29, 30, 31, 32, 37, 38, 39] (by decide +kernel) (by decide +kernel)) (goodIn_sub (fun _ h => List.mem_cons_of_mem _ (List.mem_append_left _ (List.mem_append_right _ h))) (by decide +kernel))
set_option maxRecDepth 20000 in
theorem gX5_ways_X5_placeOf : GoodIn wsX5_ways (wsV RX5 84 RX5 yX5_placeOf wsX5_placeOf) := goodIn_app (goodIn_of _ (by decide +kernel)) ggX5_ways_X5_placeOf
set_option maxRecDepth 20000 in
theorem ggX5_ways_X5_needStart : GoodIn wsX5_ways wsX5_needStart := goodIn_ca (goodIn_r _ [21, 22, 23, 24, 25, 26, 27, 28, 29, 30, 31, 32] (by decide +kernel) (by decide +kernel)) (goodIn_sub (fun _ h => List.mem_cons_of_mem _ (List.mem_append_right _ h)) (by decide +kernel))
set_option maxRecDepth 20000 in
theorem gX5_ways_X5_needStart : GoodIn wsX5_ways (wsV RX5 134 RX5 yX5_needStart wsX5_needStart) := goodIn_app (goodIn_of _ (by decide +kernel)) ggX5_ways_X5_needStart
theorem dX5_ways_0 : decode cX5_ways 0 = .ok (.aload_n 0, 1) := by decide +kernel
theorem dX5_ways_1 : decode cX5_ways 1 = .ok (.iload_n 1, 1) := by decide +kernel
theorem dX5_ways_2 : decode cX5_ways 2 = .ok (.invokevirtual 84, 3) := by decide +kernel
theorem dX5_ways_5 : decode cX5_ways 5 = .ok (.istore_n 2, 1) := by decide +kernel
theorem dX5_ways_6 : decode cX5_ways 6 = .ok (.aload_n 0, 1) := by decide +kernel
theorem dX5_ways_7 : decode cX5_ways 7 = .ok (.invokevirtual 134, 3) := by decide +kernel
theorem dX5_ways_10 : decode cX5_ways 10 = .ok (.aload_n 0, 1) := by decide +kernel
theorem dX5_ways_11 : decode cX5_ways 11 = .ok (.getfield 19, 3) := by decide +kernel
theorem dX5_ways_14 : decode cX5_ways 14 = .ok (.getfield 151, 3) := by decide +kernel
theorem dX5_ways_17 : decode cX5_ways 17 = .ok (.iload_n 2, 1) := by decide +kernel
theorem dX5_ways_18 : decode cX5_ways 18 = .ok (.iaload, 1) := by decide +kernel
theorem dX5_ways_19 : decode cX5_ways 19 = .ok (.ireturn, 1) := by decide +kernel
set_option maxRecDepth 20000 in
theorem ggX5_wayAt_X5_placeOf : GoodIn wsX5_wayAt wsX5_placeOf := goodIn_ca (goodIn_r _ [13, 14, 15, 7, 16, 17, 18, 19, 20, 21, 22, 62, 63, 64, 65, 66, 67, 68, 69, 74, 75, 76] (by decide +kernel) (by decide +kernel)) (goodIn_sub (fun _ h => List.mem_cons_of_mem _ (List.mem_append_left _ (List.mem_append_right _ h))) (by decide +kernel))
set_option maxRecDepth 20000 in
theorem gX5_wayAt_X5_placeOf : GoodIn wsX5_wayAt (wsV RX5 84 RX5 yX5_placeOf wsX5_placeOf) := goodIn_app (goodIn_of _ (by decide +kernel)) ggX5_wayAt_X5_placeOf
set_option maxRecDepth 20000 in
theorem ggX5_wayAt_X5_needStart : GoodIn wsX5_wayAt wsX5_needStart := goodIn_ca (goodIn_r _ [26, 27, 28, 29, 62, 63, 64, 65, 66, 67, 68, 69] (by decide +kernel) (by decide +kernel)) (goodIn_sub (fun _ h => List.mem_cons_of_mem _ (List.mem_append_right _ h)) (by decide +kernel))
set_option maxRecDepth 20000 in
theorem gX5_wayAt_X5_needStart : GoodIn wsX5_wayAt (wsV RX5 134 RX5 yX5_needStart wsX5_needStart) := goodIn_app (goodIn_of _ (by decide +kernel)) ggX5_wayAt_X5_needStart
set_option maxRecDepth 20000 in
theorem ggX5_wayAt_X2_spread : GoodIn wsX5_wayAt wsX2_spread := goodIn_r _ [34, 35, 36, 37, 38, 39, 40, 41, 42, 33, 43, 44, 45, 46, 19, 47, 48, 49, 12, 50, 70, 71, 72, 73, 74, 75, 76] (by decide +kernel) (by decide +kernel)
set_option maxRecDepth 20000 in
theorem gX5_wayAt_X2_spread : GoodIn wsX5_wayAt (wsV RX5 158 RX2 yX2_spread wsX2_spread) := goodIn_app (goodIn_of _ (by decide +kernel)) ggX5_wayAt_X2_spread
set_option maxRecDepth 20000 in
theorem ggX5_wayAt_X5_goAlong : GoodIn wsX5_wayAt wsX5_goAlong := goodIn_r _ [54, 3, 55, 7, 56, 6, 4, 57, 58, 59, 12, 60, 5, 61, 45, 46, 19, 47, 48, 49, 50, 62, 63, 64, 65, 66, 67, 68, 69, 70, 71, 72, 73, 74, 75, 76] (by decide +kernel) (by decide +kernel)
set_option maxRecDepth 20000 in
theorem gX5_wayAt_X5_goAlong : GoodIn wsX5_wayAt (wsV RX5 162 RX5 yX5_goAlong wsX5_goAlong) := goodIn_app (goodIn_of _ (by decide +kernel)) ggX5_wayAt_X5_goAlong
theorem dX5_wayAt_0 : decode cX5_wayAt 0 = .ok (.aload_n 0, 1) := by decide +kernel
theorem dX5_wayAt_1 : decode cX5_wayAt 1 = .ok (.iload_n 1, 1) := by decide +kernel
theorem dX5_wayAt_2 : decode cX5_wayAt 2 = .ok (.invokevirtual 84, 3) := by decide +kernel
theorem dX5_wayAt_5 : decode cX5_wayAt 5 = .ok (.istore 4, 2) := by decide +kernel
theorem dX5_wayAt_7 : decode cX5_wayAt 7 = .ok (.aload_n 0, 1) := by decide +kernel
theorem dX5_wayAt_8 : decode cX5_wayAt 8 = .ok (.invokevirtual 134, 3) := by decide +kernel
theorem dX5_wayAt_11 : decode cX5_wayAt 11 = .ok (.iload_n 2, 1) := by decide +kernel
theorem dX5_wayAt_12 : decode cX5_wayAt 12 = .ok (.ifCond .lt 17, 3) := by decide +kernel
theorem dX5_wayAt_15 : decode cX5_wayAt 15 = .ok (.iload_n 2, 1) := by decide +kernel
theorem dX5_wayAt_16 : decode cX5_wayAt 16 = .ok (.aload_n 0, 1) := by decide +kernel
theorem dX5_wayAt_17 : decode cX5_wayAt 17 = .ok (.getfield 19, 3) := by decide +kernel
theorem dX5_wayAt_20 : decode cX5_wayAt 20 = .ok (.getfield 151, 3) := by decide +kernel
theorem dX5_wayAt_23 : decode cX5_wayAt 23 = .ok (.iload 4, 2) := by decide +kernel
theorem dX5_wayAt_25 : decode cX5_wayAt 25 = .ok (.iaload, 1) := by decide +kernel
theorem dX5_wayAt_26 : decode cX5_wayAt 26 = .ok (.if_icmp .lt 13, 3) := by decide +kernel
theorem dX5_wayAt_29 : decode cX5_wayAt 29 = .ok (.new 122, 3) := by decide +kernel
theorem dX5_wayAt_32 : decode cX5_wayAt 32 = .ok (.dup, 1) := by decide +kernel
theorem dX5_wayAt_33 : decode cX5_wayAt 33 = .ok (.ldc 154, 2) := by decide +kernel
theorem dX5_wayAt_35 : decode cX5_wayAt 35 = .ok (.invokespecial 126, 3) := by decide +kernel
theorem dX5_wayAt_38 : decode cX5_wayAt 38 = .ok (.athrow, 1) := by decide +kernel
theorem dX5_wayAt_39 : decode cX5_wayAt 39 = .ok (.iload_n 3, 1) := by decide +kernel
theorem dX5_wayAt_40 : decode cX5_wayAt 40 = .ok (.ifCond .lt 17, 3) := by decide +kernel
theorem dX5_wayAt_43 : decode cX5_wayAt 43 = .ok (.iload_n 3, 1) := by decide +kernel
theorem dX5_wayAt_44 : decode cX5_wayAt 44 = .ok (.aload_n 0, 1) := by decide +kernel
theorem dX5_wayAt_45 : decode cX5_wayAt 45 = .ok (.getfield 19, 3) := by decide +kernel
theorem dX5_wayAt_48 : decode cX5_wayAt 48 = .ok (.getfield 137, 3) := by decide +kernel
theorem dX5_wayAt_51 : decode cX5_wayAt 51 = .ok (.iload 4, 2) := by decide +kernel
theorem dX5_wayAt_53 : decode cX5_wayAt 53 = .ok (.iaload, 1) := by decide +kernel
theorem dX5_wayAt_54 : decode cX5_wayAt 54 = .ok (.if_icmp .le 13, 3) := by decide +kernel
theorem dX5_wayAt_57 : decode cX5_wayAt 57 = .ok (.new 122, 3) := by decide +kernel
theorem dX5_wayAt_60 : decode cX5_wayAt 60 = .ok (.dup, 1) := by decide +kernel
theorem dX5_wayAt_61 : decode cX5_wayAt 61 = .ok (.ldc 156, 2) := by decide +kernel
theorem dX5_wayAt_63 : decode cX5_wayAt 63 = .ok (.invokespecial 126, 3) := by decide +kernel
theorem dX5_wayAt_66 : decode cX5_wayAt 66 = .ok (.athrow, 1) := by decide +kernel
theorem dX5_wayAt_67 : decode cX5_wayAt 67 = .ok (.aload_n 0, 1) := by decide +kernel
theorem dX5_wayAt_68 : decode cX5_wayAt 68 = .ok (.getfield 23, 3) := by decide +kernel
theorem dX5_wayAt_71 : decode cX5_wayAt 71 = .ok (.aload_n 0, 1) := by decide +kernel
theorem dX5_wayAt_72 : decode cX5_wayAt 72 = .ok (.getfield 10, 3) := by decide +kernel
theorem dX5_wayAt_75 : decode cX5_wayAt 75 = .ok (.iload 4, 2) := by decide +kernel
theorem dX5_wayAt_77 : decode cX5_wayAt 77 = .ok (.invokevirtual 158, 3) := by decide +kernel
theorem dX5_wayAt_80 : decode cX5_wayAt 80 = .ok (.aload_n 0, 1) := by decide +kernel
theorem dX5_wayAt_81 : decode cX5_wayAt 81 = .ok (.getfield 10, 3) := by decide +kernel
theorem dX5_wayAt_84 : decode cX5_wayAt 84 = .ok (.getfield 127, 3) := by decide +kernel
theorem dX5_wayAt_87 : decode cX5_wayAt 87 = .ok (.aload_n 0, 1) := by decide +kernel
theorem dX5_wayAt_88 : decode cX5_wayAt 88 = .ok (.iload_n 2, 1) := by decide +kernel
theorem dX5_wayAt_89 : decode cX5_wayAt 89 = .ok (.iload_n 3, 1) := by decide +kernel
theorem dX5_wayAt_90 : decode cX5_wayAt 90 = .ok (.invokevirtual 162, 3) := by decide +kernel
theorem dX5_wayAt_93 : decode cX5_wayAt 93 = .ok (.iaload, 1) := by decide +kernel
theorem dX5_wayAt_94 : decode cX5_wayAt 94 = .ok (.ireturn, 1) := by decide +kernel
set_option maxRecDepth 20000 in
theorem ggX5_through_X5_placeOf : GoodIn wsX5_through wsX5_placeOf := goodIn_ca (goodIn_r _ [7, 8, 9, 2, 10, 11, 12, 13, 14, 15, 16, 52, 53, 54, 55, 56, 57, 58, 59, 60, 61, 62] (by decide +kernel) (by decide +kernel)) (goodIn_sub (fun _ h => List.mem_cons_of_mem _ (List.mem_append_left _ (List.mem_append_right _ h))) (by decide +kernel))
set_option maxRecDepth 20000 in
theorem gX5_through_X5_placeOf : GoodIn wsX5_through (wsV RX5 84 RX5 yX5_placeOf wsX5_placeOf) := goodIn_app (goodIn_of _ (by decide +kernel)) ggX5_through_X5_placeOf
set_option maxRecDepth 20000 in
theorem ggX5_through_X5_needStart : GoodIn wsX5_through wsX5_needStart := goodIn_ca (goodIn_r _ [20, 21, 22, 23, 52, 53, 54, 55, 56, 57, 58, 59] (by decide +kernel) (by decide +kernel)) (goodIn_sub (fun _ h => List.mem_cons_of_mem _ (List.mem_append_right _ h)) (by decide +kernel))
set_option maxRecDepth 20000 in
theorem gX5_through_X5_needStart : GoodIn wsX5_through (wsV RX5 134 RX5 yX5_needStart wsX5_needStart) := goodIn_app (goodIn_of _ (by decide +kernel)) ggX5_through_X5_needStart
set_option maxRecDepth 20000 in
theorem ggX5_through_X2_spread : GoodIn wsX5_through wsX2_spread := goodIn_r _ [28, 29, 30, 31, 32, 33, 34, 35, 36, 27, 37, 38, 39, 40, 13, 41, 42, 43, 6, 44, 63, 64, 65, 66, 60, 61, 62] (by decide +kernel) (by decide +kernel)
set_option maxRecDepth 20000 in
theorem gX5_through_X2_spread : GoodIn wsX5_through (wsV RX5 158 RX2 yX2_spread wsX2_spread) := goodIn_app (goodIn_of _ (by decide +kernel)) ggX5_through_X2_spread
set_option maxRecDepth 20000 in
theorem ggX5_through_X5_countThrough : GoodIn wsX5_through wsX5_countThrough := goodIn_r _ [48, 49, 50, 1, 51, 52, 53, 54, 55, 56, 57, 58, 59, 63, 64, 65, 66] (by decide +kernel) (by decide +kernel)
set_option maxRecDepth 20000 in
theorem gX5_through_X5_countThrough : GoodIn wsX5_through (wsV RX5 165 RX5 yX5_countThrough wsX5_countThrough) := goodIn_app (goodIn_of _ (by decide +kernel)) ggX5_through_X5_countThrough
theorem dX5_through_0 : decode cX5_through 0 = .ok (.aload_n 0, 1) := by decide +kernel
theorem dX5_through_1 : decode cX5_through 1 = .ok (.iload_n 1, 1) := by decide +kernel
theorem dX5_through_2 : decode cX5_through 2 = .ok (.invokevirtual 84, 3) := by decide +kernel
theorem dX5_through_5 : decode cX5_through 5 = .ok (.istore_n 3, 1) := by decide +kernel
theorem dX5_through_6 : decode cX5_through 6 = .ok (.aload_n 0, 1) := by decide +kernel
theorem dX5_through_7 : decode cX5_through 7 = .ok (.iload_n 2, 1) := by decide +kernel
theorem dX5_through_8 : decode cX5_through 8 = .ok (.invokevirtual 84, 3) := by decide +kernel
theorem dX5_through_11 : decode cX5_through 11 = .ok (.istore 4, 2) := by decide +kernel
theorem dX5_through_13 : decode cX5_through 13 = .ok (.aload_n 0, 1) := by decide +kernel
theorem dX5_through_14 : decode cX5_through 14 = .ok (.invokevirtual 134, 3) := by decide +kernel
theorem dX5_through_17 : decode cX5_through 17 = .ok (.aload_n 0, 1) := by decide +kernel
theorem dX5_through_18 : decode cX5_through 18 = .ok (.getfield 23, 3) := by decide +kernel
theorem dX5_through_21 : decode cX5_through 21 = .ok (.aload_n 0, 1) := by decide +kernel
theorem dX5_through_22 : decode cX5_through 22 = .ok (.getfield 10, 3) := by decide +kernel
theorem dX5_through_25 : decode cX5_through 25 = .ok (.iload_n 3, 1) := by decide +kernel
theorem dX5_through_26 : decode cX5_through 26 = .ok (.invokevirtual 158, 3) := by decide +kernel
theorem dX5_through_29 : decode cX5_through 29 = .ok (.aload_n 0, 1) := by decide +kernel
theorem dX5_through_30 : decode cX5_through 30 = .ok (.iload_n 3, 1) := by decide +kernel
theorem dX5_through_31 : decode cX5_through 31 = .ok (.iload 4, 2) := by decide +kernel
theorem dX5_through_33 : decode cX5_through 33 = .ok (.invokevirtual 165, 3) := by decide +kernel
theorem dX5_through_36 : decode cX5_through 36 = .ok (.ireturn, 1) := by decide +kernel
set_option maxRecDepth 20000 in
theorem ggX5_isOnAll_X5_placeOf : GoodIn wsX5_isOnAll wsX5_placeOf := goodIn_ca (goodIn_r _ [9, 10, 11, 2, 12, 13, 14, 15, 16, 17, 18, 58, 59, 60, 61, 62, 63, 64, 65, 70, 71, 72] (by decide +kernel) (by decide +kernel)) (goodIn_sub (fun _ h => List.mem_cons_of_mem _ (List.mem_append_left _ (List.mem_append_left _ (List.mem_append_right _ h)))) (by decide +kernel))
set_option maxRecDepth 20000 in
theorem gX5_isOnAll_X5_placeOf : GoodIn wsX5_isOnAll (wsV RX5 84 RX5 yX5_placeOf wsX5_placeOf) := goodIn_app (goodIn_of _ (by decide +kernel)) ggX5_isOnAll_X5_placeOf
set_option maxRecDepth 20000 in
theorem ggX5_isOnAll_X5_needStart : GoodIn wsX5_isOnAll wsX5_needStart := goodIn_ca (goodIn_r _ [22, 23, 24, 25, 58, 59, 60, 61, 62, 63, 64, 65] (by decide +kernel) (by decide +kernel)) (goodIn_sub (fun _ h => List.mem_cons_of_mem _ (List.mem_append_left _ (List.mem_append_right _ h))) (by decide +kernel))
set_option maxRecDepth 20000 in
theorem gX5_isOnAll_X5_needStart : GoodIn wsX5_isOnAll (wsV RX5 134 RX5 yX5_needStart wsX5_needStart) := goodIn_app (goodIn_of _ (by decide +kernel)) ggX5_isOnAll_X5_needStart
set_option maxRecDepth 20000 in
theorem ggX5_isOnAll_X5_needWay : GoodIn wsX5_isOnAll wsX5_needWay := goodIn_ca (goodIn_r _ [29, 30, 31, 3, 32, 58, 59, 60, 61, 62, 63, 64, 65, 66, 67, 68, 69] (by decide +kernel) (by decide +kernel)) (goodIn_sub (fun _ h => List.mem_cons_of_mem _ (List.mem_append_right _ h)) (by decide +kernel))
set_option maxRecDepth 20000 in
theorem gX5_isOnAll_X5_needWay : GoodIn wsX5_isOnAll (wsV RX5 168 RX5 yX5_needWay wsX5_needWay) := goodIn_app (goodIn_of _ (by decide +kernel)) ggX5_isOnAll_X5_needWay
set_option maxRecDepth 20000 in
theorem ggX5_isOnAll_X2_spread : GoodIn wsX5_isOnAll wsX2_spread := goodIn_r _ [37, 38, 39, 40, 41, 42, 43, 44, 45, 36, 46, 47, 48, 49, 15, 50, 51, 52, 8, 53, 66, 67, 68, 69, 70, 71, 72] (by decide +kernel) (by decide +kernel)
set_option maxRecDepth 20000 in
theorem gX5_isOnAll_X2_spread : GoodIn wsX5_isOnAll (wsV RX5 158 RX2 yX2_spread wsX2_spread) := goodIn_app (goodIn_of _ (by decide +kernel)) ggX5_isOnAll_X2_spread
set_option maxRecDepth 20000 in
theorem ggX5_isOnAll_X5_countThrough : GoodIn wsX5_isOnAll wsX5_countThrough := goodIn_r _ [57, 3, 32, 1, 4, 58, 59, 60, 61, 62, 63, 64, 65, 66, 67, 68, 69] (by decide +kernel) (by decide +kernel)
set_option maxRecDepth 20000 in
theorem gX5_isOnAll_X5_countThrough : GoodIn wsX5_isOnAll (wsV RX5 165 RX5 yX5_countThrough wsX5_countThrough) := goodIn_app (goodIn_of _ (by decide +kernel)) ggX5_isOnAll_X5_countThrough
theorem dX5_isOnAll_0 : decode cX5_isOnAll 0 = .ok (.aload_n 0, 1) := by decide +kernel
theorem dX5_isOnAll_1 : decode cX5_isOnAll 1 = .ok (.iload_n 1, 1) := by decide +kernel
theorem dX5_isOnAll_2 : decode cX5_isOnAll 2 = .ok (.invokevirtual 84, 3) := by decide +kernel
theorem dX5_isOnAll_5 : decode cX5_isOnAll 5 = .ok (.istore_n 3, 1) := by decide +kernel
theorem dX5_isOnAll_6 : decode cX5_isOnAll 6 = .ok (.aload_n 0, 1) := by decide +kernel
theorem dX5_isOnAll_7 : decode cX5_isOnAll 7 = .ok (.iload_n 2, 1) := by decide +kernel
theorem dX5_isOnAll_8 : decode cX5_isOnAll 8 = .ok (.invokevirtual 84, 3) := by decide +kernel
theorem dX5_isOnAll_11 : decode cX5_isOnAll 11 = .ok (.istore 4, 2) := by decide +kernel
theorem dX5_isOnAll_13 : decode cX5_isOnAll 13 = .ok (.aload_n 0, 1) := by decide +kernel
theorem dX5_isOnAll_14 : decode cX5_isOnAll 14 = .ok (.invokevirtual 134, 3) := by decide +kernel
theorem dX5_isOnAll_17 : decode cX5_isOnAll 17 = .ok (.aload_n 0, 1) := by decide +kernel
theorem dX5_isOnAll_18 : decode cX5_isOnAll 18 = .ok (.iload_n 3, 1) := by decide +kernel
theorem dX5_isOnAll_19 : decode cX5_isOnAll 19 = .ok (.invokevirtual 168, 3) := by decide +kernel
theorem dX5_isOnAll_22 : decode cX5_isOnAll 22 = .ok (.aload_n 0, 1) := by decide +kernel
theorem dX5_isOnAll_23 : decode cX5_isOnAll 23 = .ok (.getfield 23, 3) := by decide +kernel
theorem dX5_isOnAll_26 : decode cX5_isOnAll 26 = .ok (.aload_n 0, 1) := by decide +kernel
theorem dX5_isOnAll_27 : decode cX5_isOnAll 27 = .ok (.getfield 10, 3) := by decide +kernel
theorem dX5_isOnAll_30 : decode cX5_isOnAll 30 = .ok (.iload_n 3, 1) := by decide +kernel
theorem dX5_isOnAll_31 : decode cX5_isOnAll 31 = .ok (.invokevirtual 158, 3) := by decide +kernel
theorem dX5_isOnAll_34 : decode cX5_isOnAll 34 = .ok (.aload_n 0, 1) := by decide +kernel
theorem dX5_isOnAll_35 : decode cX5_isOnAll 35 = .ok (.iload_n 3, 1) := by decide +kernel
theorem dX5_isOnAll_36 : decode cX5_isOnAll 36 = .ok (.iload 4, 2) := by decide +kernel
theorem dX5_isOnAll_38 : decode cX5_isOnAll 38 = .ok (.invokevirtual 165, 3) := by decide +kernel
theorem dX5_isOnAll_41 : decode cX5_isOnAll 41 = .ok (.aload_n 0, 1) := by decide +kernel
theorem dX5_isOnAll_42 : decode cX5_isOnAll 42 = .ok (.getfield 19, 3) := by decide +kernel
theorem dX5_isOnAll_45 : decode cX5_isOnAll 45 = .ok (.getfield 151, 3) := by decide +kernel
theorem dX5_isOnAll_48 : decode cX5_isOnAll 48 = .ok (.iload_n 3, 1) := by decide +kernel
theorem dX5_isOnAll_49 : decode cX5_isOnAll 49 = .ok (.iaload, 1) := by decide +kernel
theorem dX5_isOnAll_50 : decode cX5_isOnAll 50 = .ok (.if_icmp .ne 7, 3) := by decide +kernel
theorem dX5_isOnAll_53 : decode cX5_isOnAll 53 = .ok (.iconst 1, 1) := by decide +kernel
theorem dX5_isOnAll_54 : decode cX5_isOnAll 54 = .ok (.goto 4, 3) := by decide +kernel
theorem dX5_isOnAll_57 : decode cX5_isOnAll 57 = .ok (.iconst 0, 1) := by decide +kernel
theorem dX5_isOnAll_58 : decode cX5_isOnAll 58 = .ok (.ireturn, 1) := by decide +kernel
set_option maxRecDepth 20000 in
theorem ggX5_onAll_X5_placeOf : GoodIn wsX5_onAll wsX5_placeOf := goodIn_ca (goodIn_r _ [10, 11, 12, 2, 13, 14, 15, 16, 17, 18, 19, 59, 60, 61, 62, 63, 64, 65, 66, 67, 68, 69] (by decide +kernel) (by decide +kernel)) (goodIn_sub (fun _ h => List.mem_cons_of_mem _ (List.mem_append_left _ (List.mem_append_left _ (List.mem_append_right _ h)))) (by decide +kernel))
set_option maxRecDepth 20000 in
theorem gX5_onAll_X5_placeOf : GoodIn wsX5_onAll (wsV RX5 84 RX5 yX5_placeOf wsX5_placeOf) := goodIn_app (goodIn_of _ (by decide +kernel)) ggX5_onAll_X5_placeOf
set_option maxRecDepth 20000 in
theorem ggX5_onAll_X5_needStart : GoodIn wsX5_onAll wsX5_needStart := goodIn_ca (goodIn_r _ [23, 24, 25, 26, 59, 60, 61, 62, 63, 64, 65, 66] (by decide +kernel) (by decide +kernel)) (goodIn_sub (fun _ h => List.mem_cons_of_mem _ (List.mem_append_left _ (List.mem_append_right _ h))) (by decide +kernel))
set_option maxRecDepth 20000 in
theorem gX5_onAll_X5_needStart : GoodIn wsX5_onAll (wsV RX5 134 RX5 yX5_needStart wsX5_needStart) := goodIn_app (goodIn_of _ (by decide +kernel)) ggX5_onAll_X5_needStart
set_option maxRecDepth 20000 in
theorem ggX5_onAll_X5_needWay : GoodIn wsX5_onAll wsX5_needWay := goodIn_ca (goodIn_r _ [30, 31, 32, 4, 33, 59, 60, 61, 62, 63, 64, 65, 66, 70, 71, 72, 73] (by decide +kernel) (by decide +kernel)) (goodIn_sub (fun _ h => List.mem_cons_of_mem _ (List.mem_append_right _ h)) (by decide +kernel))
set_option maxRecDepth 20000 in
theorem gX5_onAll_X5_needWay : GoodIn wsX5_onAll (wsV RX5 168 RX5 yX5_needWay wsX5_needWay) := goodIn_app (goodIn_of _ (by decide +kernel)) ggX5_onAll_X5_needWay
set_option maxRecDepth 20000 in
theorem ggX5_onAll_X2_spread : GoodIn wsX5_onAll wsX2_spread := goodIn_r _ [38, 39, 40, 41, 42, 43, 44, 45, 46, 37, 47, 48, 49, 50, 16, 51, 52, 53, 9, 54, 70, 71, 72, 73, 67, 68, 69] (by decide +kernel) (by decide +kernel)
set_option maxRecDepth 20000 in
theorem gX5_onAll_X2_spread : GoodIn wsX5_onAll (wsV RX5 158 RX2 yX2_spread wsX2_spread) := goodIn_app (goodIn_of _ (by decide +kernel)) ggX5_onAll_X2_spread
set_option maxRecDepth 20000 in
theorem ggX5_onAll_X5_countThrough : GoodIn wsX5_onAll wsX5_countThrough := goodIn_r _ [58, 4, 33, 1, 5, 59, 60, 61, 62, 63, 64, 65, 66, 70, 71, 72, 73] (by decide +kernel) (by decide +kernel)
set_option maxRecDepth 20000 in
theorem gX5_onAll_X5_countThrough : GoodIn wsX5_onAll (wsV RX5 165 RX5 yX5_countThrough wsX5_countThrough) := goodIn_app (goodIn_of _ (by decide +kernel)) ggX5_onAll_X5_countThrough
theorem dX5_onAll_0 : decode cX5_onAll 0 = .ok (.aload_n 0, 1) := by decide +kernel
theorem dX5_onAll_1 : decode cX5_onAll 1 = .ok (.iload_n 1, 1) := by decide +kernel
theorem dX5_onAll_2 : decode cX5_onAll 2 = .ok (.invokevirtual 84, 3) := by decide +kernel
theorem dX5_onAll_5 : decode cX5_onAll 5 = .ok (.istore_n 2, 1) := by decide +kernel
theorem dX5_onAll_6 : decode cX5_onAll 6 = .ok (.aload_n 0, 1) := by decide +kernel
theorem dX5_onAll_7 : decode cX5_onAll 7 = .ok (.invokevirtual 134, 3) := by decide +kernel
theorem dX5_onAll_10 : decode cX5_onAll 10 = .ok (.aload_n 0, 1) := by decide +kernel
theorem dX5_onAll_11 : decode cX5_onAll 11 = .ok (.iload_n 2, 1) := by decide +kernel
theorem dX5_onAll_12 : decode cX5_onAll 12 = .ok (.invokevirtual 168, 3) := by decide +kernel
theorem dX5_onAll_15 : decode cX5_onAll 15 = .ok (.aload_n 0, 1) := by decide +kernel
theorem dX5_onAll_16 : decode cX5_onAll 16 = .ok (.getfield 23, 3) := by decide +kernel
theorem dX5_onAll_19 : decode cX5_onAll 19 = .ok (.aload_n 0, 1) := by decide +kernel
theorem dX5_onAll_20 : decode cX5_onAll 20 = .ok (.getfield 10, 3) := by decide +kernel
theorem dX5_onAll_23 : decode cX5_onAll 23 = .ok (.iload_n 2, 1) := by decide +kernel
theorem dX5_onAll_24 : decode cX5_onAll 24 = .ok (.invokevirtual 158, 3) := by decide +kernel
theorem dX5_onAll_27 : decode cX5_onAll 27 = .ok (.iconst 0, 1) := by decide +kernel
theorem dX5_onAll_28 : decode cX5_onAll 28 = .ok (.istore_n 3, 1) := by decide +kernel
theorem dX5_onAll_29 : decode cX5_onAll 29 = .ok (.iconst 0, 1) := by decide +kernel
theorem dX5_onAll_30 : decode cX5_onAll 30 = .ok (.istore 4, 2) := by decide +kernel
theorem dX5_onAll_32 : decode cX5_onAll 32 = .ok (.iload 4, 2) := by decide +kernel
theorem dX5_onAll_34 : decode cX5_onAll 34 = .ok (.aload_n 0, 1) := by decide +kernel
theorem dX5_onAll_35 : decode cX5_onAll 35 = .ok (.getfield 10, 3) := by decide +kernel
theorem dX5_onAll_38 : decode cX5_onAll 38 = .ok (.getfield 66, 3) := by decide +kernel
theorem dX5_onAll_41 : decode cX5_onAll 41 = .ok (.if_icmp .ge 31, 3) := by decide +kernel
theorem dX5_onAll_44 : decode cX5_onAll 44 = .ok (.aload_n 0, 1) := by decide +kernel
theorem dX5_onAll_45 : decode cX5_onAll 45 = .ok (.iload_n 2, 1) := by decide +kernel
theorem dX5_onAll_46 : decode cX5_onAll 46 = .ok (.iload 4, 2) := by decide +kernel
theorem dX5_onAll_48 : decode cX5_onAll 48 = .ok (.invokevirtual 165, 3) := by decide +kernel
theorem dX5_onAll_51 : decode cX5_onAll 51 = .ok (.aload_n 0, 1) := by decide +kernel
theorem dX5_onAll_52 : decode cX5_onAll 52 = .ok (.getfield 19, 3) := by decide +kernel
theorem dX5_onAll_55 : decode cX5_onAll 55 = .ok (.getfield 151, 3) := by decide +kernel
theorem dX5_onAll_58 : decode cX5_onAll 58 = .ok (.iload_n 2, 1) := by decide +kernel
theorem dX5_onAll_59 : decode cX5_onAll 59 = .ok (.iaload, 1) := by decide +kernel
theorem dX5_onAll_60 : decode cX5_onAll 60 = .ok (.if_icmp .ne 6, 3) := by decide +kernel
theorem dX5_onAll_63 : decode cX5_onAll 63 = .ok (.iinc 3 1, 3) := by decide +kernel
theorem dX5_onAll_66 : decode cX5_onAll 66 = .ok (.iinc 4 1, 3) := by decide +kernel
theorem dX5_onAll_69 : decode cX5_onAll 69 = .ok (.goto (-37), 3) := by decide +kernel
theorem dX5_onAll_72 : decode cX5_onAll 72 = .ok (.iload_n 3, 1) := by decide +kernel
theorem dX5_onAll_73 : decode cX5_onAll 73 = .ok (.ireturn, 1) := by decide +kernel
set_option maxRecDepth 20000 in
theorem ggX5_mean_X5_needStart : GoodIn wsX5_mean wsX5_needStart := goodIn_ca (goodIn_r _ [9, 10, 11, 12, 13, 14, 15, 16, 17, 18, 19, 20] (by decide +kernel) (by decide +kernel)) (goodIn_sub (fun _ h => List.mem_cons_of_mem _ (List.mem_append_right _ h)) (by decide +kernel))
set_option maxRecDepth 20000 in
theorem gX5_mean_X5_needStart : GoodIn wsX5_mean (wsV RX5 134 RX5 yX5_needStart wsX5_needStart) := goodIn_app (goodIn_of _ (by decide +kernel)) ggX5_mean_X5_needStart
theorem dX5_mean_0 : decode cX5_mean 0 = .ok (.aload_n 0, 1) := by decide +kernel
theorem dX5_mean_1 : decode cX5_mean 1 = .ok (.invokevirtual 134, 3) := by decide +kernel
theorem dX5_mean_4 : decode cX5_mean 4 = .ok (.iconst 0, 1) := by decide +kernel
theorem dX5_mean_5 : decode cX5_mean 5 = .ok (.istore_n 1, 1) := by decide +kernel
theorem dX5_mean_6 : decode cX5_mean 6 = .ok (.iconst 0, 1) := by decide +kernel
theorem dX5_mean_7 : decode cX5_mean 7 = .ok (.istore_n 2, 1) := by decide +kernel
theorem dX5_mean_8 : decode cX5_mean 8 = .ok (.iconst 0, 1) := by decide +kernel
theorem dX5_mean_9 : decode cX5_mean 9 = .ok (.istore_n 3, 1) := by decide +kernel
theorem dX5_mean_10 : decode cX5_mean 10 = .ok (.iload_n 3, 1) := by decide +kernel
theorem dX5_mean_11 : decode cX5_mean 11 = .ok (.aload_n 0, 1) := by decide +kernel
theorem dX5_mean_12 : decode cX5_mean 12 = .ok (.getfield 10, 3) := by decide +kernel
theorem dX5_mean_15 : decode cX5_mean 15 = .ok (.getfield 66, 3) := by decide +kernel
theorem dX5_mean_18 : decode cX5_mean 18 = .ok (.if_icmp .ge 37, 3) := by decide +kernel
theorem dX5_mean_21 : decode cX5_mean 21 = .ok (.aload_n 0, 1) := by decide +kernel
theorem dX5_mean_22 : decode cX5_mean 22 = .ok (.getfield 19, 3) := by decide +kernel
theorem dX5_mean_25 : decode cX5_mean 25 = .ok (.getfield 137, 3) := by decide +kernel
theorem dX5_mean_28 : decode cX5_mean 28 = .ok (.iload_n 3, 1) := by decide +kernel
theorem dX5_mean_29 : decode cX5_mean 29 = .ok (.iaload, 1) := by decide +kernel
theorem dX5_mean_30 : decode cX5_mean 30 = .ok (.iconst (-1), 1) := by decide +kernel
theorem dX5_mean_31 : decode cX5_mean 31 = .ok (.if_icmp .eq 18, 3) := by decide +kernel
theorem dX5_mean_34 : decode cX5_mean 34 = .ok (.iload_n 1, 1) := by decide +kernel
theorem dX5_mean_35 : decode cX5_mean 35 = .ok (.aload_n 0, 1) := by decide +kernel
theorem dX5_mean_36 : decode cX5_mean 36 = .ok (.getfield 19, 3) := by decide +kernel
theorem dX5_mean_39 : decode cX5_mean 39 = .ok (.getfield 137, 3) := by decide +kernel
theorem dX5_mean_42 : decode cX5_mean 42 = .ok (.iload_n 3, 1) := by decide +kernel
theorem dX5_mean_43 : decode cX5_mean 43 = .ok (.iaload, 1) := by decide +kernel
theorem dX5_mean_44 : decode cX5_mean 44 = .ok (.iadd, 1) := by decide +kernel
theorem dX5_mean_45 : decode cX5_mean 45 = .ok (.istore_n 1, 1) := by decide +kernel
theorem dX5_mean_46 : decode cX5_mean 46 = .ok (.iinc 2 1, 3) := by decide +kernel
theorem dX5_mean_49 : decode cX5_mean 49 = .ok (.iinc 3 1, 3) := by decide +kernel
theorem dX5_mean_52 : decode cX5_mean 52 = .ok (.goto (-42), 3) := by decide +kernel
theorem dX5_mean_55 : decode cX5_mean 55 = .ok (.iload_n 2, 1) := by decide +kernel
theorem dX5_mean_56 : decode cX5_mean 56 = .ok (.ifCond .ne 7, 3) := by decide +kernel
theorem dX5_mean_59 : decode cX5_mean 59 = .ok (.dconst 0, 1) := by decide +kernel
theorem dX5_mean_60 : decode cX5_mean 60 = .ok (.goto 8, 3) := by decide +kernel
theorem dX5_mean_63 : decode cX5_mean 63 = .ok (.iload_n 1, 1) := by decide +kernel
theorem dX5_mean_64 : decode cX5_mean 64 = .ok (.i2d, 1) := by decide +kernel
theorem dX5_mean_65 : decode cX5_mean 65 = .ok (.iload_n 2, 1) := by decide +kernel
theorem dX5_mean_66 : decode cX5_mean 66 = .ok (.i2d, 1) := by decide +kernel
theorem dX5_mean_67 : decode cX5_mean 67 = .ok (.ddiv, 1) := by decide +kernel
theorem dX5_mean_68 : decode cX5_mean 68 = .ok (.dreturn, 1) := by decide +kernel
set_option maxRecDepth 20000 in
theorem ggX5_between_X5_placeOf : GoodIn wsX5_between wsX5_placeOf := goodIn_ca (goodIn_r _ [8, 9, 10, 2, 11, 12, 13, 14, 15, 16, 17, 39, 40, 41, 42, 43, 44, 45, 46, 51, 52, 53] (by decide +kernel) (by decide +kernel)) (goodIn_sub (fun _ h => List.mem_cons_of_mem _ (List.mem_append_right _ h)) (by decide +kernel))
set_option maxRecDepth 20000 in
theorem gX5_between_X5_placeOf : GoodIn wsX5_between (wsV RX5 84 RX5 yX5_placeOf wsX5_placeOf) := goodIn_app (goodIn_of _ (by decide +kernel)) ggX5_between_X5_placeOf
set_option maxRecDepth 20000 in
theorem ggX5_between_X2_spread : GoodIn wsX5_between wsX2_spread := goodIn_r _ [22, 23, 24, 25, 26, 27, 28, 29, 30, 21, 31, 32, 33, 34, 14, 35, 36, 37, 7, 38, 47, 48, 49, 50, 51, 52, 53] (by decide +kernel) (by decide +kernel)
set_option maxRecDepth 20000 in
theorem gX5_between_X2_spread : GoodIn wsX5_between (wsV RX5 158 RX2 yX2_spread wsX2_spread) := goodIn_app (goodIn_of _ (by decide +kernel)) ggX5_between_X2_spread
theorem dX5_between_0 : decode cX5_between 0 = .ok (.aload_n 0, 1) := by decide +kernel
theorem dX5_between_1 : decode cX5_between 1 = .ok (.iload_n 1, 1) := by decide +kernel
theorem dX5_between_2 : decode cX5_between 2 = .ok (.invokevirtual 84, 3) := by decide +kernel
theorem dX5_between_5 : decode cX5_between 5 = .ok (.istore_n 3, 1) := by decide +kernel
theorem dX5_between_6 : decode cX5_between 6 = .ok (.aload_n 0, 1) := by decide +kernel
theorem dX5_between_7 : decode cX5_between 7 = .ok (.iload_n 2, 1) := by decide +kernel
theorem dX5_between_8 : decode cX5_between 8 = .ok (.invokevirtual 84, 3) := by decide +kernel
theorem dX5_between_11 : decode cX5_between 11 = .ok (.istore 4, 2) := by decide +kernel
theorem dX5_between_13 : decode cX5_between 13 = .ok (.aload_n 0, 1) := by decide +kernel
theorem dX5_between_14 : decode cX5_between 14 = .ok (.getfield 23, 3) := by decide +kernel
theorem dX5_between_17 : decode cX5_between 17 = .ok (.aload_n 0, 1) := by decide +kernel
theorem dX5_between_18 : decode cX5_between 18 = .ok (.getfield 10, 3) := by decide +kernel
theorem dX5_between_21 : decode cX5_between 21 = .ok (.iload_n 3, 1) := by decide +kernel
theorem dX5_between_22 : decode cX5_between 22 = .ok (.invokevirtual 158, 3) := by decide +kernel
theorem dX5_between_25 : decode cX5_between 25 = .ok (.aload_n 0, 1) := by decide +kernel
theorem dX5_between_26 : decode cX5_between 26 = .ok (.getfield 23, 3) := by decide +kernel
theorem dX5_between_29 : decode cX5_between 29 = .ok (.getfield 137, 3) := by decide +kernel
theorem dX5_between_32 : decode cX5_between 32 = .ok (.iload 4, 2) := by decide +kernel
theorem dX5_between_34 : decode cX5_between 34 = .ok (.iaload, 1) := by decide +kernel
theorem dX5_between_35 : decode cX5_between 35 = .ok (.ireturn, 1) := by decide +kernel
set_option maxRecDepth 20000 in
theorem ggX5_parts_X1_paint : GoodIn wsX5_parts wsX1_paint := goodIn_r _ [9, 10, 11, 12, 13, 14, 15, 16, 17, 18, 19, 20, 21, 22, 23, 24, 25, 26, 27, 28, 29, 30, 31, 32, 33, 34, 35, 36, 37, 38, 39, 8, 40, 41, 42, 43, 44, 45, 46, 55, 56, 57, 58, 59, 60, 61, 62, 63, 64] (by decide +kernel) (by decide +kernel)
set_option maxRecDepth 20000 in
theorem gX5_parts_X1_paint : GoodIn wsX5_parts (wsV RX5 171 RX1 yX1_paint wsX1_paint) := goodIn_app (goodIn_of _ (by decide +kernel)) ggX5_parts_X1_paint
theorem dX5_parts_0 : decode cX5_parts 0 = .ok (.aload_n 0, 1) := by decide +kernel
theorem dX5_parts_1 : decode cX5_parts 1 = .ok (.getfield 29, 3) := by decide +kernel
theorem dX5_parts_4 : decode cX5_parts 4 = .ok (.aload_n 0, 1) := by decide +kernel
theorem dX5_parts_5 : decode cX5_parts 5 = .ok (.getfield 10, 3) := by decide +kernel
theorem dX5_parts_8 : decode cX5_parts 8 = .ok (.aload_n 0, 1) := by decide +kernel
theorem dX5_parts_9 : decode cX5_parts 9 = .ok (.getfield 23, 3) := by decide +kernel
theorem dX5_parts_12 : decode cX5_parts 12 = .ok (.invokevirtual 171, 3) := by decide +kernel
theorem dX5_parts_15 : decode cX5_parts 15 = .ok (.aload_n 0, 1) := by decide +kernel
theorem dX5_parts_16 : decode cX5_parts 16 = .ok (.getfield 29, 3) := by decide +kernel
theorem dX5_parts_19 : decode cX5_parts 19 = .ok (.getfield 174, 3) := by decide +kernel
theorem dX5_parts_22 : decode cX5_parts 22 = .ok (.ireturn, 1) := by decide +kernel
set_option maxRecDepth 20000 in
theorem ggX5_isTwoColours_X1_paint : GoodIn wsX5_isTwoColours wsX1_paint := goodIn_r _ [9, 10, 11, 12, 13, 14, 15, 16, 17, 18, 19, 20, 21, 22, 23, 24, 25, 26, 27, 28, 29, 30, 31, 32, 33, 34, 35, 36, 37, 38, 39, 8, 40, 41, 42, 43, 44, 45, 46, 55, 56, 57, 58, 59, 60, 61, 62, 63, 64] (by decide +kernel) (by decide +kernel)
set_option maxRecDepth 20000 in
theorem gX5_isTwoColours_X1_paint : GoodIn wsX5_isTwoColours (wsV RX5 171 RX1 yX1_paint wsX1_paint) := goodIn_app (goodIn_of _ (by decide +kernel)) ggX5_isTwoColours_X1_paint
theorem dX5_isTwoColours_0 : decode cX5_isTwoColours 0 = .ok (.aload_n 0, 1) := by decide +kernel
theorem dX5_isTwoColours_1 : decode cX5_isTwoColours 1 = .ok (.getfield 29, 3) := by decide +kernel
theorem dX5_isTwoColours_4 : decode cX5_isTwoColours 4 = .ok (.aload_n 0, 1) := by decide +kernel
theorem dX5_isTwoColours_5 : decode cX5_isTwoColours 5 = .ok (.getfield 10, 3) := by decide +kernel
theorem dX5_isTwoColours_8 : decode cX5_isTwoColours 8 = .ok (.aload_n 0, 1) := by decide +kernel
theorem dX5_isTwoColours_9 : decode cX5_isTwoColours 9 = .ok (.getfield 23, 3) := by decide +kernel
theorem dX5_isTwoColours_12 : decode cX5_isTwoColours 12 = .ok (.invokevirtual 171, 3) := by decide +kernel
theorem dX5_isTwoColours_15 : decode cX5_isTwoColours 15 = .ok (.aload_n 0, 1) := by decide +kernel
theorem dX5_isTwoColours_16 : decode cX5_isTwoColours 16 = .ok (.getfield 29, 3) := by decide +kernel
theorem dX5_isTwoColours_19 : decode cX5_isTwoColours 19 = .ok (.getfield 177, 3) := by decide +kernel
theorem dX5_isTwoColours_22 : decode cX5_isTwoColours 22 = .ok (.ireturn, 1) := by decide +kernel
set_option maxRecDepth 20000 in
theorem ggX5_colour_X5_placeOf : GoodIn wsX5_colour wsX5_placeOf := goodIn_ca (goodIn_r _ [12, 13, 14, 4, 15, 16, 17, 18, 19, 20, 21, 62, 63, 64, 65, 66, 67, 68, 69, 73, 74, 75] (by decide +kernel) (by decide +kernel)) (goodIn_sub (fun _ h => List.mem_cons_of_mem _ (List.mem_append_right _ h)) (by decide +kernel))
set_option maxRecDepth 20000 in
theorem gX5_colour_X5_placeOf : GoodIn wsX5_colour (wsV RX5 84 RX5 yX5_placeOf wsX5_placeOf) := goodIn_app (goodIn_of _ (by decide +kernel)) ggX5_colour_X5_placeOf
set_option maxRecDepth 20000 in
theorem ggX5_colour_X1_paint : GoodIn wsX5_colour wsX1_paint := goodIn_r _ [26, 27, 28, 29, 30, 31, 32, 33, 34, 35, 36, 37, 38, 39, 40, 41, 42, 43, 44, 45, 46, 47, 18, 48, 49, 50, 11, 51, 52, 53, 54, 25, 55, 56, 57, 58, 59, 60, 61, 70, 71, 72, 73, 74, 75, 76, 77, 78, 79] (by decide +kernel) (by decide +kernel)
set_option maxRecDepth 20000 in
theorem gX5_colour_X1_paint : GoodIn wsX5_colour (wsV RX5 171 RX1 yX1_paint wsX1_paint) := goodIn_app (goodIn_of _ (by decide +kernel)) ggX5_colour_X1_paint
theorem dX5_colour_0 : decode cX5_colour 0 = .ok (.aload_n 0, 1) := by decide +kernel
theorem dX5_colour_1 : decode cX5_colour 1 = .ok (.iload_n 1, 1) := by decide +kernel
theorem dX5_colour_2 : decode cX5_colour 2 = .ok (.invokevirtual 84, 3) := by decide +kernel
theorem dX5_colour_5 : decode cX5_colour 5 = .ok (.istore_n 2, 1) := by decide +kernel
theorem dX5_colour_6 : decode cX5_colour 6 = .ok (.aload_n 0, 1) := by decide +kernel
theorem dX5_colour_7 : decode cX5_colour 7 = .ok (.getfield 29, 3) := by decide +kernel
theorem dX5_colour_10 : decode cX5_colour 10 = .ok (.aload_n 0, 1) := by decide +kernel
theorem dX5_colour_11 : decode cX5_colour 11 = .ok (.getfield 10, 3) := by decide +kernel
theorem dX5_colour_14 : decode cX5_colour 14 = .ok (.aload_n 0, 1) := by decide +kernel
theorem dX5_colour_15 : decode cX5_colour 15 = .ok (.getfield 23, 3) := by decide +kernel
theorem dX5_colour_18 : decode cX5_colour 18 = .ok (.invokevirtual 171, 3) := by decide +kernel
theorem dX5_colour_21 : decode cX5_colour 21 = .ok (.aload_n 0, 1) := by decide +kernel
theorem dX5_colour_22 : decode cX5_colour 22 = .ok (.getfield 29, 3) := by decide +kernel
theorem dX5_colour_25 : decode cX5_colour 25 = .ok (.getfield 177, 3) := by decide +kernel
theorem dX5_colour_28 : decode cX5_colour 28 = .ok (.ifCond .ne 13, 3) := by decide +kernel
theorem dX5_colour_31 : decode cX5_colour 31 = .ok (.new 180, 3) := by decide +kernel
theorem dX5_colour_34 : decode cX5_colour 34 = .ok (.dup, 1) := by decide +kernel
theorem dX5_colour_35 : decode cX5_colour 35 = .ok (.ldc 182, 2) := by decide +kernel
theorem dX5_colour_37 : decode cX5_colour 37 = .ok (.invokespecial 184, 3) := by decide +kernel
theorem dX5_colour_40 : decode cX5_colour 40 = .ok (.athrow, 1) := by decide +kernel
theorem dX5_colour_41 : decode cX5_colour 41 = .ok (.aload_n 0, 1) := by decide +kernel
theorem dX5_colour_42 : decode cX5_colour 42 = .ok (.getfield 29, 3) := by decide +kernel
theorem dX5_colour_45 : decode cX5_colour 45 = .ok (.getfield 185, 3) := by decide +kernel
theorem dX5_colour_48 : decode cX5_colour 48 = .ok (.iload_n 2, 1) := by decide +kernel
theorem dX5_colour_49 : decode cX5_colour 49 = .ok (.iaload, 1) := by decide +kernel
theorem dX5_colour_50 : decode cX5_colour 50 = .ok (.ireturn, 1) := by decide +kernel
set_option maxRecDepth 20000 in
theorem ggX5_ring_X5_findOddRing : GoodIn wsX5_ring wsX5_findOddRing := goodIn_ca (goodIn_r _ [7, 8, 9, 10, 11, 12, 13, 1, 14, 15, 16, 17, 18, 19, 20, 21, 22, 23, 24, 25, 26, 27, 28, 29, 30, 31, 32, 33, 34, 35, 36, 37, 38, 39, 40, 41, 42, 43, 6, 44, 45, 46, 47, 48, 49, 50, 51, 52, 53, 54, 55, 56, 57, 58, 59, 60, 61, 62, 63, 64, 65, 66, 67, 68, 69, 70, 71, 72, 73, 74, 75, 76, 77, 78, 79, 80, 81, 82, 83, 84, 85, 86, 90, 91, 92, 93, 94, 95, 96, 97, 98, 99, 87, 88, 89] (by decide +kernel) (by decide +kernel)) (goodIn_sub (fun _ h => List.mem_cons_of_mem _ (List.mem_append_right _ h)) (by decide +kernel))
set_option maxRecDepth 20000 in
theorem gX5_ring_X5_findOddRing : GoodIn wsX5_ring (wsV RX5 188 RX5 yX5_findOddRing wsX5_findOddRing) := goodIn_app (goodIn_of _ (by decide +kernel)) ggX5_ring_X5_findOddRing
theorem dX5_ring_0 : decode cX5_ring 0 = .ok (.aload_n 0, 1) := by decide +kernel
theorem dX5_ring_1 : decode cX5_ring 1 = .ok (.invokevirtual 188, 3) := by decide +kernel
theorem dX5_ring_4 : decode cX5_ring 4 = .ok (.aload_n 0, 1) := by decide +kernel
theorem dX5_ring_5 : decode cX5_ring 5 = .ok (.getfield 36, 3) := by decide +kernel
theorem dX5_ring_8 : decode cX5_ring 8 = .ok (.getfield 191, 3) := by decide +kernel
theorem dX5_ring_11 : decode cX5_ring 11 = .ok (.ireturn, 1) := by decide +kernel
set_option maxRecDepth 20000 in
theorem ggX5_ringAt_X5_findOddRing : GoodIn wsX5_ringAt wsX5_findOddRing := goodIn_ca (goodIn_r _ [12, 13, 14, 15, 5, 16, 17, 3, 18, 19, 20, 21, 22, 23, 24, 25, 26, 27, 28, 29, 30, 31, 32, 33, 34, 35, 36, 37, 38, 39, 40, 41, 42, 43, 44, 45, 46, 47, 11, 48, 49, 50, 51, 52, 53, 54, 55, 56, 57, 58, 59, 60, 61, 62, 63, 64, 65, 66, 67, 68, 69, 70, 71, 72, 73, 74, 75, 76, 77, 78, 79, 80, 81, 82, 83, 84, 85, 86, 87, 88, 89, 90, 97, 98, 99, 94, 95, 96, 100, 101, 102, 103, 91, 92, 93] (by decide +kernel) (by decide +kernel)) (goodIn_sub (fun _ h => List.mem_cons_of_mem _ (List.mem_append_right _ h)) (by decide +kernel))
set_option maxRecDepth 20000 in
theorem gX5_ringAt_X5_findOddRing : GoodIn wsX5_ringAt (wsV RX5 188 RX5 yX5_findOddRing wsX5_findOddRing) := goodIn_app (goodIn_of _ (by decide +kernel)) ggX5_ringAt_X5_findOddRing
theorem dX5_ringAt_0 : decode cX5_ringAt 0 = .ok (.aload_n 0, 1) := by decide +kernel
theorem dX5_ringAt_1 : decode cX5_ringAt 1 = .ok (.invokevirtual 188, 3) := by decide +kernel
theorem dX5_ringAt_4 : decode cX5_ringAt 4 = .ok (.iload_n 1, 1) := by decide +kernel
theorem dX5_ringAt_5 : decode cX5_ringAt 5 = .ok (.ifCond .lt 14, 3) := by decide +kernel
theorem dX5_ringAt_8 : decode cX5_ringAt 8 = .ok (.iload_n 1, 1) := by decide +kernel
theorem dX5_ringAt_9 : decode cX5_ringAt 9 = .ok (.aload_n 0, 1) := by decide +kernel
theorem dX5_ringAt_10 : decode cX5_ringAt 10 = .ok (.getfield 36, 3) := by decide +kernel
theorem dX5_ringAt_13 : decode cX5_ringAt 13 = .ok (.getfield 191, 3) := by decide +kernel
theorem dX5_ringAt_16 : decode cX5_ringAt 16 = .ok (.if_icmp .lt 13, 3) := by decide +kernel
theorem dX5_ringAt_19 : decode cX5_ringAt 19 = .ok (.new 122, 3) := by decide +kernel
theorem dX5_ringAt_22 : decode cX5_ringAt 22 = .ok (.dup, 1) := by decide +kernel
theorem dX5_ringAt_23 : decode cX5_ringAt 23 = .ok (.ldc 192, 2) := by decide +kernel
theorem dX5_ringAt_25 : decode cX5_ringAt 25 = .ok (.invokespecial 126, 3) := by decide +kernel
theorem dX5_ringAt_28 : decode cX5_ringAt 28 = .ok (.athrow, 1) := by decide +kernel
theorem dX5_ringAt_29 : decode cX5_ringAt 29 = .ok (.aload_n 0, 1) := by decide +kernel
theorem dX5_ringAt_30 : decode cX5_ringAt 30 = .ok (.getfield 10, 3) := by decide +kernel
theorem dX5_ringAt_33 : decode cX5_ringAt 33 = .ok (.getfield 127, 3) := by decide +kernel
theorem dX5_ringAt_36 : decode cX5_ringAt 36 = .ok (.aload_n 0, 1) := by decide +kernel
theorem dX5_ringAt_37 : decode cX5_ringAt 37 = .ok (.getfield 36, 3) := by decide +kernel
theorem dX5_ringAt_40 : decode cX5_ringAt 40 = .ok (.getfield 194, 3) := by decide +kernel
theorem dX5_ringAt_43 : decode cX5_ringAt 43 = .ok (.iload_n 1, 1) := by decide +kernel
theorem dX5_ringAt_44 : decode cX5_ringAt 44 = .ok (.iaload, 1) := by decide +kernel
theorem dX5_ringAt_45 : decode cX5_ringAt 45 = .ok (.iaload, 1) := by decide +kernel
theorem dX5_ringAt_46 : decode cX5_ringAt 46 = .ok (.ireturn, 1) := by decide +kernel
theorem dX5_changedAt_0 : decode cX5_changedAt 0 = .ok (.iload_n 1, 1) := by decide +kernel
theorem dX5_changedAt_1 : decode cX5_changedAt 1 = .ok (.ifCond .lt 14, 3) := by decide +kernel
theorem dX5_changedAt_4 : decode cX5_changedAt 4 = .ok (.iload_n 1, 1) := by decide +kernel
theorem dX5_changedAt_5 : decode cX5_changedAt 5 = .ok (.aload_n 0, 1) := by decide +kernel
theorem dX5_changedAt_6 : decode cX5_changedAt 6 = .ok (.getfield 43, 3) := by decide +kernel
theorem dX5_changedAt_9 : decode cX5_changedAt 9 = .ok (.getfield 113, 3) := by decide +kernel
theorem dX5_changedAt_12 : decode cX5_changedAt 12 = .ok (.if_icmp .lt 13, 3) := by decide +kernel
theorem dX5_changedAt_15 : decode cX5_changedAt 15 = .ok (.new 122, 3) := by decide +kernel
theorem dX5_changedAt_18 : decode cX5_changedAt 18 = .ok (.dup, 1) := by decide +kernel
theorem dX5_changedAt_19 : decode cX5_changedAt 19 = .ok (.ldc 197, 2) := by decide +kernel
theorem dX5_changedAt_21 : decode cX5_changedAt 21 = .ok (.invokespecial 126, 3) := by decide +kernel
theorem dX5_changedAt_24 : decode cX5_changedAt 24 = .ok (.athrow, 1) := by decide +kernel
theorem dX5_changedAt_25 : decode cX5_changedAt 25 = .ok (.aload_n 0, 1) := by decide +kernel
theorem dX5_changedAt_26 : decode cX5_changedAt 26 = .ok (.getfield 43, 3) := by decide +kernel
theorem dX5_changedAt_29 : decode cX5_changedAt 29 = .ok (.getfield 199, 3) := by decide +kernel
theorem dX5_changedAt_32 : decode cX5_changedAt 32 = .ok (.iload_n 1, 1) := by decide +kernel
theorem dX5_changedAt_33 : decode cX5_changedAt 33 = .ok (.iaload, 1) := by decide +kernel
theorem dX5_changedAt_34 : decode cX5_changedAt 34 = .ok (.ireturn, 1) := by decide +kernel
theorem dX5_wasAt_0 : decode cX5_wasAt 0 = .ok (.iload_n 1, 1) := by decide +kernel
theorem dX5_wasAt_1 : decode cX5_wasAt 1 = .ok (.ifCond .lt 14, 3) := by decide +kernel
theorem dX5_wasAt_4 : decode cX5_wasAt 4 = .ok (.iload_n 1, 1) := by decide +kernel
theorem dX5_wasAt_5 : decode cX5_wasAt 5 = .ok (.aload_n 0, 1) := by decide +kernel
theorem dX5_wasAt_6 : decode cX5_wasAt 6 = .ok (.getfield 43, 3) := by decide +kernel
theorem dX5_wasAt_9 : decode cX5_wasAt 9 = .ok (.getfield 113, 3) := by decide +kernel
theorem dX5_wasAt_12 : decode cX5_wasAt 12 = .ok (.if_icmp .lt 13, 3) := by decide +kernel
theorem dX5_wasAt_15 : decode cX5_wasAt 15 = .ok (.new 122, 3) := by decide +kernel
theorem dX5_wasAt_18 : decode cX5_wasAt 18 = .ok (.dup, 1) := by decide +kernel
theorem dX5_wasAt_19 : decode cX5_wasAt 19 = .ok (.ldc 197, 2) := by decide +kernel
theorem dX5_wasAt_21 : decode cX5_wasAt 21 = .ok (.invokespecial 126, 3) := by decide +kernel
theorem dX5_wasAt_24 : decode cX5_wasAt 24 = .ok (.athrow, 1) := by decide +kernel
theorem dX5_wasAt_25 : decode cX5_wasAt 25 = .ok (.aload_n 0, 1) := by decide +kernel
theorem dX5_wasAt_26 : decode cX5_wasAt 26 = .ok (.getfield 43, 3) := by decide +kernel
theorem dX5_wasAt_29 : decode cX5_wasAt 29 = .ok (.getfield 200, 3) := by decide +kernel
theorem dX5_wasAt_32 : decode cX5_wasAt 32 = .ok (.iload_n 1, 1) := by decide +kernel
theorem dX5_wasAt_33 : decode cX5_wasAt 33 = .ok (.iaload, 1) := by decide +kernel
theorem dX5_wasAt_34 : decode cX5_wasAt 34 = .ok (.ireturn, 1) := by decide +kernel
set_option maxRecDepth 20000 in
theorem ggX5_isTrue_X5_streetsKeepLayers : GoodIn wsX5_isTrue wsX5_streetsKeepLayers := goodIn_r _ [11, 3, 12, 13, 14, 15, 16, 17, 18, 19, 10, 20, 21, 22, 23, 24, 25, 26, 27, 28, 29, 30, 113, 114, 115, 116, 117, 118, 119, 120, 124, 125, 126, 127, 128, 129, 130] (by decide +kernel) (by decide +kernel)
set_option maxRecDepth 20000 in
theorem gX5_isTrue_X5_streetsKeepLayers : GoodIn wsX5_isTrue (wsV RX5 203 RX5 yX5_streetsKeepLayers wsX5_streetsKeepLayers) := goodIn_app (goodIn_of _ (by decide +kernel)) ggX5_isTrue_X5_streetsKeepLayers
set_option maxRecDepth 20000 in
theorem ggX5_isTrue_X5_waysAddUp : GoodIn wsX5_isTrue wsX5_waysAddUp := goodIn_r _ [34, 3, 12, 25, 26, 35, 36, 37, 10, 38, 39, 13, 14, 15, 16, 17, 18, 19, 20, 113, 114, 115, 116, 117, 118, 119, 120, 124, 125, 126, 127, 128, 129, 130] (by decide +kernel) (by decide +kernel)
set_option maxRecDepth 20000 in
theorem gX5_isTrue_X5_waysAddUp : GoodIn wsX5_isTrue (wsV RX5 207 RX5 yX5_waysAddUp wsX5_waysAddUp) := goodIn_app (goodIn_of _ (by decide +kernel)) ggX5_isTrue_X5_waysAddUp
set_option maxRecDepth 20000 in
theorem ggX5_isTrue_X5_lengthsRise : GoodIn wsX5_isTrue wsX5_lengthsRise := goodIn_r _ [43, 25, 44, 45, 26, 113, 114, 115, 116, 117, 118, 119, 120, 127, 128, 129, 130] (by decide +kernel) (by decide +kernel)
set_option maxRecDepth 20000 in
theorem gX5_isTrue_X5_lengthsRise : GoodIn wsX5_isTrue (wsV RX5 210 RX5 yX5_lengthsRise wsX5_lengthsRise) := goodIn_app (goodIn_of _ (by decide +kernel)) ggX5_isTrue_X5_lengthsRise
set_option maxRecDepth 20000 in
theorem ggX5_isTrue_X1_paint : GoodIn wsX5_isTrue wsX1_paint := goodIn_r _ [50, 51, 52, 53, 54, 55, 56, 57, 58, 59, 60, 61, 62, 63, 64, 65, 66, 67, 68, 69, 14, 15, 16, 17, 18, 19, 10, 20, 70, 71, 72, 49, 73, 74, 75, 76, 77, 78, 79, 121, 122, 123, 124, 125, 126, 127, 128, 129, 130] (by decide +kernel) (by decide +kernel)
set_option maxRecDepth 20000 in
theorem gX5_isTrue_X1_paint : GoodIn wsX5_isTrue (wsV RX5 171 RX1 yX1_paint wsX1_paint) := goodIn_app (goodIn_of _ (by decide +kernel)) ggX5_isTrue_X1_paint
set_option maxRecDepth 20000 in
theorem ggX5_isTrue_X1_areUnlike : GoodIn wsX5_isTrue wsX1_areUnlike := goodIn_r _ [78, 53, 52, 79, 14, 15, 16, 17, 18, 19, 10, 20, 124, 125, 126, 121, 122, 123] (by decide +kernel) (by decide +kernel)
set_option maxRecDepth 20000 in
theorem gX5_isTrue_X1_areUnlike : GoodIn wsX5_isTrue (wsV RX5 213 RX1 yX1_areUnlike wsX1_areUnlike) := goodIn_app (goodIn_of _ (by decide +kernel)) ggX5_isTrue_X1_areUnlike
set_option maxRecDepth 20000 in
theorem ggX5_isTrue_X4_find : GoodIn wsX5_isTrue wsX4_find := goodIn_r _ [85, 86, 87, 88, 89, 90, 91, 84, 92, 93, 94, 95, 96, 19, 10, 20, 97, 98, 99, 100, 101, 102, 103, 104, 131, 132, 133, 124, 125, 126] (by decide +kernel) (by decide +kernel)
set_option maxRecDepth 20000 in
theorem gX5_isTrue_X4_find : GoodIn wsX5_isTrue (wsV RX5 217 RX4 yX4_find wsX4_find) := goodIn_app (goodIn_of _ (by decide +kernel)) ggX5_isTrue_X4_find
set_option maxRecDepth 20000 in
theorem ggX5_isTrue_X4_isOdd : GoodIn wsX5_isTrue wsX4_isOdd := goodIn_r _ [108, 86, 131, 132, 133] (by decide +kernel) (by decide +kernel)
set_option maxRecDepth 20000 in
theorem gX5_isTrue_X4_isOdd : GoodIn wsX5_isTrue (wsV RX5 220 RX4 yX4_isOdd wsX4_isOdd) := goodIn_app (goodIn_of _ (by decide +kernel)) ggX5_isTrue_X4_isOdd
set_option maxRecDepth 20000 in
theorem ggX5_isTrue_X4_isUnlike : GoodIn wsX5_isTrue wsX4_isUnlike := goodIn_r _ [112, 86, 101, 131, 132, 133] (by decide +kernel) (by decide +kernel)
set_option maxRecDepth 20000 in
theorem gX5_isTrue_X4_isUnlike : GoodIn wsX5_isTrue (wsV RX5 223 RX4 yX4_isUnlike wsX4_isUnlike) := goodIn_app (goodIn_of _ (by decide +kernel)) ggX5_isTrue_X4_isUnlike
theorem dX5_isTrue_0 : decode cX5_isTrue 0 = .ok (.aload_n 0, 1) := by decide +kernel
theorem dX5_isTrue_1 : decode cX5_isTrue 1 = .ok (.getfield 47, 3) := by decide +kernel
theorem dX5_isTrue_4 : decode cX5_isTrue 4 = .ok (.ifCond .eq 26, 3) := by decide +kernel
theorem dX5_isTrue_7 : decode cX5_isTrue 7 = .ok (.aload_n 0, 1) := by decide +kernel
theorem dX5_isTrue_8 : decode cX5_isTrue 8 = .ok (.invokevirtual 203, 3) := by decide +kernel
theorem dX5_isTrue_11 : decode cX5_isTrue 11 = .ok (.ifCond .eq 17, 3) := by decide +kernel
theorem dX5_isTrue_14 : decode cX5_isTrue 14 = .ok (.aload_n 0, 1) := by decide +kernel
theorem dX5_isTrue_15 : decode cX5_isTrue 15 = .ok (.invokevirtual 207, 3) := by decide +kernel
theorem dX5_isTrue_18 : decode cX5_isTrue 18 = .ok (.ifCond .eq 10, 3) := by decide +kernel
theorem dX5_isTrue_21 : decode cX5_isTrue 21 = .ok (.aload_n 0, 1) := by decide +kernel
theorem dX5_isTrue_22 : decode cX5_isTrue 22 = .ok (.invokevirtual 210, 3) := by decide +kernel
theorem dX5_isTrue_25 : decode cX5_isTrue 25 = .ok (.ifCond .ne 5, 3) := by decide +kernel
theorem dX5_isTrue_28 : decode cX5_isTrue 28 = .ok (.iconst 0, 1) := by decide +kernel
theorem dX5_isTrue_29 : decode cX5_isTrue 29 = .ok (.ireturn, 1) := by decide +kernel
theorem dX5_isTrue_30 : decode cX5_isTrue 30 = .ok (.aload_n 0, 1) := by decide +kernel
theorem dX5_isTrue_31 : decode cX5_isTrue 31 = .ok (.getfield 29, 3) := by decide +kernel
theorem dX5_isTrue_34 : decode cX5_isTrue 34 = .ok (.aload_n 0, 1) := by decide +kernel
theorem dX5_isTrue_35 : decode cX5_isTrue 35 = .ok (.getfield 10, 3) := by decide +kernel
theorem dX5_isTrue_38 : decode cX5_isTrue 38 = .ok (.aload_n 0, 1) := by decide +kernel
theorem dX5_isTrue_39 : decode cX5_isTrue 39 = .ok (.getfield 23, 3) := by decide +kernel
theorem dX5_isTrue_42 : decode cX5_isTrue 42 = .ok (.invokevirtual 171, 3) := by decide +kernel
theorem dX5_isTrue_45 : decode cX5_isTrue 45 = .ok (.aload_n 0, 1) := by decide +kernel
theorem dX5_isTrue_46 : decode cX5_isTrue 46 = .ok (.getfield 29, 3) := by decide +kernel
theorem dX5_isTrue_49 : decode cX5_isTrue 49 = .ok (.getfield 177, 3) := by decide +kernel
theorem dX5_isTrue_52 : decode cX5_isTrue 52 = .ok (.ifCond .eq 15, 3) := by decide +kernel
theorem dX5_isTrue_55 : decode cX5_isTrue 55 = .ok (.aload_n 0, 1) := by decide +kernel
theorem dX5_isTrue_56 : decode cX5_isTrue 56 = .ok (.getfield 29, 3) := by decide +kernel
theorem dX5_isTrue_59 : decode cX5_isTrue 59 = .ok (.aload_n 0, 1) := by decide +kernel
theorem dX5_isTrue_60 : decode cX5_isTrue 60 = .ok (.getfield 10, 3) := by decide +kernel
theorem dX5_isTrue_63 : decode cX5_isTrue 63 = .ok (.invokevirtual 213, 3) := by decide +kernel
theorem dX5_isTrue_66 : decode cX5_isTrue 66 = .ok (.ireturn, 1) := by decide +kernel
theorem dX5_isTrue_67 : decode cX5_isTrue 67 = .ok (.aload_n 0, 1) := by decide +kernel
theorem dX5_isTrue_68 : decode cX5_isTrue 68 = .ok (.getfield 36, 3) := by decide +kernel
theorem dX5_isTrue_71 : decode cX5_isTrue 71 = .ok (.aload_n 0, 1) := by decide +kernel
theorem dX5_isTrue_72 : decode cX5_isTrue 72 = .ok (.getfield 10, 3) := by decide +kernel
theorem dX5_isTrue_75 : decode cX5_isTrue 75 = .ok (.invokevirtual 217, 3) := by decide +kernel
theorem dX5_isTrue_78 : decode cX5_isTrue 78 = .ok (.aload_n 0, 1) := by decide +kernel
theorem dX5_isTrue_79 : decode cX5_isTrue 79 = .ok (.getfield 36, 3) := by decide +kernel
theorem dX5_isTrue_82 : decode cX5_isTrue 82 = .ok (.invokevirtual 220, 3) := by decide +kernel
theorem dX5_isTrue_85 : decode cX5_isTrue 85 = .ok (.ifCond .eq 17, 3) := by decide +kernel
theorem dX5_isTrue_88 : decode cX5_isTrue 88 = .ok (.aload_n 0, 1) := by decide +kernel
theorem dX5_isTrue_89 : decode cX5_isTrue 89 = .ok (.getfield 36, 3) := by decide +kernel
theorem dX5_isTrue_92 : decode cX5_isTrue 92 = .ok (.invokevirtual 223, 3) := by decide +kernel
theorem dX5_isTrue_95 : decode cX5_isTrue 95 = .ok (.ifCond .eq 7, 3) := by decide +kernel
theorem dX5_isTrue_98 : decode cX5_isTrue 98 = .ok (.iconst 1, 1) := by decide +kernel
theorem dX5_isTrue_99 : decode cX5_isTrue 99 = .ok (.goto 4, 3) := by decide +kernel
theorem dX5_isTrue_102 : decode cX5_isTrue 102 = .ok (.iconst 0, 1) := by decide +kernel
theorem dX5_isTrue_103 : decode cX5_isTrue 103 = .ok (.ireturn, 1) := by decide +kernel
set_option maxRecDepth 20000 in
theorem ggX5_checksum_X3_degree : GoodIn wsX5_checksum wsX3_degree := goodIn_r _ [21, 22, 23, 24, 25, 26, 27, 28, 29, 78, 79, 80] (by decide +kernel) (by decide +kernel)
set_option maxRecDepth 20000 in
theorem gX5_checksum_X3_degree : GoodIn wsX5_checksum (wsV RX5 87 RX3 yX3_degree wsX3_degree) := goodIn_app (goodIn_of _ (by decide +kernel)) ggX5_checksum_X3_degree
set_option maxRecDepth 20000 in
theorem ggX5_checksum_X1_paint : GoodIn wsX5_checksum wsX1_paint := goodIn_r _ [34, 35, 36, 37, 38, 39, 40, 41, 42, 43, 44, 45, 46, 47, 48, 49, 50, 51, 52, 53, 54, 55, 20, 56, 22, 57, 58, 59, 60, 61, 62, 33, 63, 64, 65, 66, 67, 68, 69, 85, 86, 87, 78, 79, 80, 81, 82, 83, 84] (by decide +kernel) (by decide +kernel)
set_option maxRecDepth 20000 in
theorem gX5_checksum_X1_paint : GoodIn wsX5_checksum (wsV RX5 171 RX1 yX1_paint wsX1_paint) := goodIn_app (goodIn_of _ (by decide +kernel)) ggX5_checksum_X1_paint
theorem dX5_checksum_0 : decode cX5_checksum 0 = .ok (.ldc2_w 226, 3) := by decide +kernel
theorem dX5_checksum_3 : decode cX5_checksum 3 = .ok (.lstore_n 1, 1) := by decide +kernel
theorem dX5_checksum_4 : decode cX5_checksum 4 = .ok (.iconst 0, 1) := by decide +kernel
theorem dX5_checksum_5 : decode cX5_checksum 5 = .ok (.istore_n 3, 1) := by decide +kernel
theorem dX5_checksum_6 : decode cX5_checksum 6 = .ok (.iload_n 3, 1) := by decide +kernel
theorem dX5_checksum_7 : decode cX5_checksum 7 = .ok (.aload_n 0, 1) := by decide +kernel
theorem dX5_checksum_8 : decode cX5_checksum 8 = .ok (.getfield 10, 3) := by decide +kernel
theorem dX5_checksum_11 : decode cX5_checksum 11 = .ok (.getfield 66, 3) := by decide +kernel
theorem dX5_checksum_14 : decode cX5_checksum 14 = .ok (.if_icmp .ge 76, 3) := by decide +kernel
theorem dX5_checksum_17 : decode cX5_checksum 17 = .ok (.ldc2_w 228, 3) := by decide +kernel
theorem dX5_checksum_20 : decode cX5_checksum 20 = .ok (.lload_n 1, 1) := by decide +kernel
theorem dX5_checksum_21 : decode cX5_checksum 21 = .ok (.lmul, 1) := by decide +kernel
theorem dX5_checksum_22 : decode cX5_checksum 22 = .ok (.aload_n 0, 1) := by decide +kernel
theorem dX5_checksum_23 : decode cX5_checksum 23 = .ok (.getfield 10, 3) := by decide +kernel
theorem dX5_checksum_26 : decode cX5_checksum 26 = .ok (.getfield 127, 3) := by decide +kernel
theorem dX5_checksum_29 : decode cX5_checksum 29 = .ok (.iload_n 3, 1) := by decide +kernel
theorem dX5_checksum_30 : decode cX5_checksum 30 = .ok (.iaload, 1) := by decide +kernel
theorem dX5_checksum_31 : decode cX5_checksum 31 = .ok (.i2l, 1) := by decide +kernel
theorem dX5_checksum_32 : decode cX5_checksum 32 = .ok (.ladd, 1) := by decide +kernel
theorem dX5_checksum_33 : decode cX5_checksum 33 = .ok (.lstore_n 1, 1) := by decide +kernel
theorem dX5_checksum_34 : decode cX5_checksum 34 = .ok (.ldc2_w 228, 3) := by decide +kernel
theorem dX5_checksum_37 : decode cX5_checksum 37 = .ok (.lload_n 1, 1) := by decide +kernel
theorem dX5_checksum_38 : decode cX5_checksum 38 = .ok (.lmul, 1) := by decide +kernel
theorem dX5_checksum_39 : decode cX5_checksum 39 = .ok (.aload_n 0, 1) := by decide +kernel
theorem dX5_checksum_40 : decode cX5_checksum 40 = .ok (.getfield 10, 3) := by decide +kernel
theorem dX5_checksum_43 : decode cX5_checksum 43 = .ok (.iload_n 3, 1) := by decide +kernel
theorem dX5_checksum_44 : decode cX5_checksum 44 = .ok (.invokevirtual 87, 3) := by decide +kernel
theorem dX5_checksum_47 : decode cX5_checksum 47 = .ok (.i2l, 1) := by decide +kernel
theorem dX5_checksum_48 : decode cX5_checksum 48 = .ok (.ladd, 1) := by decide +kernel
theorem dX5_checksum_49 : decode cX5_checksum 49 = .ok (.lstore_n 1, 1) := by decide +kernel
theorem dX5_checksum_50 : decode cX5_checksum 50 = .ok (.ldc2_w 228, 3) := by decide +kernel
theorem dX5_checksum_53 : decode cX5_checksum 53 = .ok (.lload_n 1, 1) := by decide +kernel
theorem dX5_checksum_54 : decode cX5_checksum 54 = .ok (.lmul, 1) := by decide +kernel
theorem dX5_checksum_55 : decode cX5_checksum 55 = .ok (.aload_n 0, 1) := by decide +kernel
theorem dX5_checksum_56 : decode cX5_checksum 56 = .ok (.getfield 19, 3) := by decide +kernel
theorem dX5_checksum_59 : decode cX5_checksum 59 = .ok (.getfield 137, 3) := by decide +kernel
theorem dX5_checksum_62 : decode cX5_checksum 62 = .ok (.iload_n 3, 1) := by decide +kernel
theorem dX5_checksum_63 : decode cX5_checksum 63 = .ok (.iaload, 1) := by decide +kernel
theorem dX5_checksum_64 : decode cX5_checksum 64 = .ok (.i2l, 1) := by decide +kernel
theorem dX5_checksum_65 : decode cX5_checksum 65 = .ok (.ladd, 1) := by decide +kernel
theorem dX5_checksum_66 : decode cX5_checksum 66 = .ok (.lstore_n 1, 1) := by decide +kernel
theorem dX5_checksum_67 : decode cX5_checksum 67 = .ok (.ldc2_w 228, 3) := by decide +kernel
theorem dX5_checksum_70 : decode cX5_checksum 70 = .ok (.lload_n 1, 1) := by decide +kernel
theorem dX5_checksum_71 : decode cX5_checksum 71 = .ok (.lmul, 1) := by decide +kernel
theorem dX5_checksum_72 : decode cX5_checksum 72 = .ok (.aload_n 0, 1) := by decide +kernel
theorem dX5_checksum_73 : decode cX5_checksum 73 = .ok (.getfield 19, 3) := by decide +kernel
theorem dX5_checksum_76 : decode cX5_checksum 76 = .ok (.getfield 151, 3) := by decide +kernel
theorem dX5_checksum_79 : decode cX5_checksum 79 = .ok (.iload_n 3, 1) := by decide +kernel
theorem dX5_checksum_80 : decode cX5_checksum 80 = .ok (.iaload, 1) := by decide +kernel
theorem dX5_checksum_81 : decode cX5_checksum 81 = .ok (.i2l, 1) := by decide +kernel
theorem dX5_checksum_82 : decode cX5_checksum 82 = .ok (.ladd, 1) := by decide +kernel
theorem dX5_checksum_83 : decode cX5_checksum 83 = .ok (.lstore_n 1, 1) := by decide +kernel
theorem dX5_checksum_84 : decode cX5_checksum 84 = .ok (.iinc 3 1, 3) := by decide +kernel
theorem dX5_checksum_87 : decode cX5_checksum 87 = .ok (.goto (-81), 3) := by decide +kernel
theorem dX5_checksum_90 : decode cX5_checksum 90 = .ok (.aload_n 0, 1) := by decide +kernel
theorem dX5_checksum_91 : decode cX5_checksum 91 = .ok (.getfield 29, 3) := by decide +kernel
theorem dX5_checksum_94 : decode cX5_checksum 94 = .ok (.aload_n 0, 1) := by decide +kernel
theorem dX5_checksum_95 : decode cX5_checksum 95 = .ok (.getfield 10, 3) := by decide +kernel
theorem dX5_checksum_98 : decode cX5_checksum 98 = .ok (.aload_n 0, 1) := by decide +kernel
theorem dX5_checksum_99 : decode cX5_checksum 99 = .ok (.getfield 23, 3) := by decide +kernel
theorem dX5_checksum_102 : decode cX5_checksum 102 = .ok (.invokevirtual 171, 3) := by decide +kernel
theorem dX5_checksum_105 : decode cX5_checksum 105 = .ok (.ldc2_w 228, 3) := by decide +kernel
theorem dX5_checksum_108 : decode cX5_checksum 108 = .ok (.lload_n 1, 1) := by decide +kernel
theorem dX5_checksum_109 : decode cX5_checksum 109 = .ok (.lmul, 1) := by decide +kernel
theorem dX5_checksum_110 : decode cX5_checksum 110 = .ok (.aload_n 0, 1) := by decide +kernel
theorem dX5_checksum_111 : decode cX5_checksum 111 = .ok (.getfield 29, 3) := by decide +kernel
theorem dX5_checksum_114 : decode cX5_checksum 114 = .ok (.getfield 174, 3) := by decide +kernel
theorem dX5_checksum_117 : decode cX5_checksum 117 = .ok (.i2l, 1) := by decide +kernel
theorem dX5_checksum_118 : decode cX5_checksum 118 = .ok (.ladd, 1) := by decide +kernel
theorem dX5_checksum_119 : decode cX5_checksum 119 = .ok (.lstore_n 1, 1) := by decide +kernel
theorem dX5_checksum_120 : decode cX5_checksum 120 = .ok (.ldc2_w 228, 3) := by decide +kernel
theorem dX5_checksum_123 : decode cX5_checksum 123 = .ok (.lload_n 1, 1) := by decide +kernel
theorem dX5_checksum_124 : decode cX5_checksum 124 = .ok (.lmul, 1) := by decide +kernel
theorem dX5_checksum_125 : decode cX5_checksum 125 = .ok (.aload_n 0, 1) := by decide +kernel
theorem dX5_checksum_126 : decode cX5_checksum 126 = .ok (.getfield 29, 3) := by decide +kernel
theorem dX5_checksum_129 : decode cX5_checksum 129 = .ok (.getfield 177, 3) := by decide +kernel
theorem dX5_checksum_132 : decode cX5_checksum 132 = .ok (.ifCond .eq 7, 3) := by decide +kernel
theorem dX5_checksum_135 : decode cX5_checksum 135 = .ok (.iconst 1, 1) := by decide +kernel
theorem dX5_checksum_136 : decode cX5_checksum 136 = .ok (.goto 4, 3) := by decide +kernel
theorem dX5_checksum_139 : decode cX5_checksum 139 = .ok (.iconst 0, 1) := by decide +kernel
theorem dX5_checksum_140 : decode cX5_checksum 140 = .ok (.i2l, 1) := by decide +kernel
theorem dX5_checksum_141 : decode cX5_checksum 141 = .ok (.ladd, 1) := by decide +kernel
theorem dX5_checksum_142 : decode cX5_checksum 142 = .ok (.lstore_n 1, 1) := by decide +kernel
theorem dX5_checksum_143 : decode cX5_checksum 143 = .ok (.ldc2_w 228, 3) := by decide +kernel
theorem dX5_checksum_146 : decode cX5_checksum 146 = .ok (.lload_n 1, 1) := by decide +kernel
theorem dX5_checksum_147 : decode cX5_checksum 147 = .ok (.lmul, 1) := by decide +kernel
theorem dX5_checksum_148 : decode cX5_checksum 148 = .ok (.aload_n 0, 1) := by decide +kernel
theorem dX5_checksum_149 : decode cX5_checksum 149 = .ok (.getfield 43, 3) := by decide +kernel
theorem dX5_checksum_152 : decode cX5_checksum 152 = .ok (.getfield 113, 3) := by decide +kernel
theorem dX5_checksum_155 : decode cX5_checksum 155 = .ok (.i2l, 1) := by decide +kernel
theorem dX5_checksum_156 : decode cX5_checksum 156 = .ok (.ladd, 1) := by decide +kernel
theorem dX5_checksum_157 : decode cX5_checksum 157 = .ok (.lstore_n 1, 1) := by decide +kernel
theorem dX5_checksum_158 : decode cX5_checksum 158 = .ok (.iconst 0, 1) := by decide +kernel
theorem dX5_checksum_159 : decode cX5_checksum 159 = .ok (.istore_n 3, 1) := by decide +kernel
theorem dX5_checksum_160 : decode cX5_checksum 160 = .ok (.iload_n 3, 1) := by decide +kernel
theorem dX5_checksum_161 : decode cX5_checksum 161 = .ok (.aload_n 0, 1) := by decide +kernel
theorem dX5_checksum_162 : decode cX5_checksum 162 = .ok (.getfield 43, 3) := by decide +kernel
theorem dX5_checksum_165 : decode cX5_checksum 165 = .ok (.getfield 113, 3) := by decide +kernel
theorem dX5_checksum_168 : decode cX5_checksum 168 = .ok (.if_icmp .ge 43, 3) := by decide +kernel
theorem dX5_checksum_171 : decode cX5_checksum 171 = .ok (.ldc2_w 228, 3) := by decide +kernel
theorem dX5_checksum_174 : decode cX5_checksum 174 = .ok (.lload_n 1, 1) := by decide +kernel
theorem dX5_checksum_175 : decode cX5_checksum 175 = .ok (.lmul, 1) := by decide +kernel
theorem dX5_checksum_176 : decode cX5_checksum 176 = .ok (.aload_n 0, 1) := by decide +kernel
theorem dX5_checksum_177 : decode cX5_checksum 177 = .ok (.getfield 43, 3) := by decide +kernel
theorem dX5_checksum_180 : decode cX5_checksum 180 = .ok (.getfield 199, 3) := by decide +kernel
theorem dX5_checksum_183 : decode cX5_checksum 183 = .ok (.iload_n 3, 1) := by decide +kernel
theorem dX5_checksum_184 : decode cX5_checksum 184 = .ok (.iaload, 1) := by decide +kernel
theorem dX5_checksum_185 : decode cX5_checksum 185 = .ok (.i2l, 1) := by decide +kernel
theorem dX5_checksum_186 : decode cX5_checksum 186 = .ok (.ladd, 1) := by decide +kernel
theorem dX5_checksum_187 : decode cX5_checksum 187 = .ok (.lstore_n 1, 1) := by decide +kernel
theorem dX5_checksum_188 : decode cX5_checksum 188 = .ok (.ldc2_w 228, 3) := by decide +kernel
theorem dX5_checksum_191 : decode cX5_checksum 191 = .ok (.lload_n 1, 1) := by decide +kernel
theorem dX5_checksum_192 : decode cX5_checksum 192 = .ok (.lmul, 1) := by decide +kernel
theorem dX5_checksum_193 : decode cX5_checksum 193 = .ok (.aload_n 0, 1) := by decide +kernel
theorem dX5_checksum_194 : decode cX5_checksum 194 = .ok (.getfield 43, 3) := by decide +kernel
theorem dX5_checksum_197 : decode cX5_checksum 197 = .ok (.getfield 200, 3) := by decide +kernel
theorem dX5_checksum_200 : decode cX5_checksum 200 = .ok (.iload_n 3, 1) := by decide +kernel
theorem dX5_checksum_201 : decode cX5_checksum 201 = .ok (.iaload, 1) := by decide +kernel
theorem dX5_checksum_202 : decode cX5_checksum 202 = .ok (.i2l, 1) := by decide +kernel
theorem dX5_checksum_203 : decode cX5_checksum 203 = .ok (.ladd, 1) := by decide +kernel
theorem dX5_checksum_204 : decode cX5_checksum 204 = .ok (.lstore_n 1, 1) := by decide +kernel
theorem dX5_checksum_205 : decode cX5_checksum 205 = .ok (.iinc 3 1, 3) := by decide +kernel
theorem dX5_checksum_208 : decode cX5_checksum 208 = .ok (.goto (-48), 3) := by decide +kernel
theorem dX5_checksum_211 : decode cX5_checksum 211 = .ok (.lload_n 1, 1) := by decide +kernel
theorem dX5_checksum_212 : decode cX5_checksum 212 = .ok (.lreturn, 1) := by decide +kernel
set_option maxRecDepth 20000 in
theorem ggX5_placeOf_X3_find : GoodIn wsX5_placeOf wsX3_find := goodIn_r _ [8, 9, 10, 19, 20, 21] (by decide +kernel) (by decide +kernel)
set_option maxRecDepth 20000 in
theorem gX5_placeOf_X3_find : GoodIn wsX5_placeOf (wsV RX5 55 RX3 yX3_find wsX3_find) := goodIn_app (goodIn_of _ (by decide +kernel)) ggX5_placeOf_X3_find
theorem dX5_placeOf_0 : decode cX5_placeOf 0 = .ok (.aload_n 0, 1) := by decide +kernel
theorem dX5_placeOf_1 : decode cX5_placeOf 1 = .ok (.getfield 10, 3) := by decide +kernel
theorem dX5_placeOf_4 : decode cX5_placeOf 4 = .ok (.iload_n 1, 1) := by decide +kernel
theorem dX5_placeOf_5 : decode cX5_placeOf 5 = .ok (.invokevirtual 55, 3) := by decide +kernel
theorem dX5_placeOf_8 : decode cX5_placeOf 8 = .ok (.istore_n 2, 1) := by decide +kernel
theorem dX5_placeOf_9 : decode cX5_placeOf 9 = .ok (.iload_n 2, 1) := by decide +kernel
theorem dX5_placeOf_10 : decode cX5_placeOf 10 = .ok (.iconst (-1), 1) := by decide +kernel
theorem dX5_placeOf_11 : decode cX5_placeOf 11 = .ok (.if_icmp .ne 13, 3) := by decide +kernel
theorem dX5_placeOf_14 : decode cX5_placeOf 14 = .ok (.new 114, 3) := by decide +kernel
theorem dX5_placeOf_17 : decode cX5_placeOf 17 = .ok (.dup, 1) := by decide +kernel
theorem dX5_placeOf_18 : decode cX5_placeOf 18 = .ok (.ldc 230, 2) := by decide +kernel
theorem dX5_placeOf_20 : decode cX5_placeOf 20 = .ok (.invokespecial 118, 3) := by decide +kernel
theorem dX5_placeOf_23 : decode cX5_placeOf 23 = .ok (.athrow, 1) := by decide +kernel
theorem dX5_placeOf_24 : decode cX5_placeOf 24 = .ok (.iload_n 2, 1) := by decide +kernel
theorem dX5_placeOf_25 : decode cX5_placeOf 25 = .ok (.ireturn, 1) := by decide +kernel
theorem dX5_needStart_0 : decode cX5_needStart 0 = .ok (.aload_n 0, 1) := by decide +kernel
theorem dX5_needStart_1 : decode cX5_needStart 1 = .ok (.getfield 47, 3) := by decide +kernel
theorem dX5_needStart_4 : decode cX5_needStart 4 = .ok (.ifCond .ne 13, 3) := by decide +kernel
theorem dX5_needStart_7 : decode cX5_needStart 7 = .ok (.new 69, 3) := by decide +kernel
theorem dX5_needStart_10 : decode cX5_needStart 10 = .ok (.dup, 1) := by decide +kernel
theorem dX5_needStart_11 : decode cX5_needStart 11 = .ok (.ldc 232, 2) := by decide +kernel
theorem dX5_needStart_13 : decode cX5_needStart 13 = .ok (.invokespecial 73, 3) := by decide +kernel
theorem dX5_needStart_16 : decode cX5_needStart 16 = .ok (.athrow, 1) := by decide +kernel
theorem dX5_needStart_17 : decode cX5_needStart 17 = .ok (.return_, 1) := by decide +kernel
theorem dX5_needWay_0 : decode cX5_needWay 0 = .ok (.aload_n 0, 1) := by decide +kernel
theorem dX5_needWay_1 : decode cX5_needWay 1 = .ok (.getfield 19, 3) := by decide +kernel
theorem dX5_needWay_4 : decode cX5_needWay 4 = .ok (.getfield 137, 3) := by decide +kernel
theorem dX5_needWay_7 : decode cX5_needWay 7 = .ok (.iload_n 1, 1) := by decide +kernel
theorem dX5_needWay_8 : decode cX5_needWay 8 = .ok (.iaload, 1) := by decide +kernel
theorem dX5_needWay_9 : decode cX5_needWay 9 = .ok (.iconst (-1), 1) := by decide +kernel
theorem dX5_needWay_10 : decode cX5_needWay 10 = .ok (.if_icmp .ne 13, 3) := by decide +kernel
theorem dX5_needWay_13 : decode cX5_needWay 13 = .ok (.new 180, 3) := by decide +kernel
theorem dX5_needWay_16 : decode cX5_needWay 16 = .ok (.dup, 1) := by decide +kernel
theorem dX5_needWay_17 : decode cX5_needWay 17 = .ok (.ldc 234, 2) := by decide +kernel
theorem dX5_needWay_19 : decode cX5_needWay 19 = .ok (.invokespecial 184, 3) := by decide +kernel
theorem dX5_needWay_22 : decode cX5_needWay 22 = .ok (.athrow, 1) := by decide +kernel
theorem dX5_needWay_23 : decode cX5_needWay 23 = .ok (.return_, 1) := by decide +kernel
set_option maxRecDepth 20000 in
theorem ggX5_spreadFromStart_X3_find : GoodIn wsX5_spreadFromStart wsX3_find := goodIn_r _ [9, 10, 11, 42, 43, 44] (by decide +kernel) (by decide +kernel)
set_option maxRecDepth 20000 in
theorem gX5_spreadFromStart_X3_find : GoodIn wsX5_spreadFromStart (wsV RX5 55 RX3 yX3_find wsX3_find) := goodIn_app (goodIn_of _ (by decide +kernel)) ggX5_spreadFromStart_X3_find
set_option maxRecDepth 20000 in
theorem ggX5_spreadFromStart_X2_spread : GoodIn wsX5_spreadFromStart wsX2_spread := goodIn_r _ [16, 17, 18, 19, 20, 21, 22, 23, 24, 15, 25, 26, 27, 28, 8, 29, 30, 31, 32, 33, 45, 46, 47, 48, 42, 43, 44] (by decide +kernel) (by decide +kernel)
set_option maxRecDepth 20000 in
theorem gX5_spreadFromStart_X2_spread : GoodIn wsX5_spreadFromStart (wsV RX5 158 RX2 yX2_spread wsX2_spread) := goodIn_app (goodIn_of _ (by decide +kernel)) ggX5_spreadFromStart_X2_spread
theorem dX5_spreadFromStart_0 : decode cX5_spreadFromStart 0 = .ok (.aload_n 0, 1) := by decide +kernel
theorem dX5_spreadFromStart_1 : decode cX5_spreadFromStart 1 = .ok (.getfield 19, 3) := by decide +kernel
theorem dX5_spreadFromStart_4 : decode cX5_spreadFromStart 4 = .ok (.aload_n 0, 1) := by decide +kernel
theorem dX5_spreadFromStart_5 : decode cX5_spreadFromStart 5 = .ok (.getfield 10, 3) := by decide +kernel
theorem dX5_spreadFromStart_8 : decode cX5_spreadFromStart 8 = .ok (.aload_n 0, 1) := by decide +kernel
theorem dX5_spreadFromStart_9 : decode cX5_spreadFromStart 9 = .ok (.getfield 47, 3) := by decide +kernel
theorem dX5_spreadFromStart_12 : decode cX5_spreadFromStart 12 = .ok (.ifCond .eq 17, 3) := by decide +kernel
theorem dX5_spreadFromStart_15 : decode cX5_spreadFromStart 15 = .ok (.aload_n 0, 1) := by decide +kernel
theorem dX5_spreadFromStart_16 : decode cX5_spreadFromStart 16 = .ok (.getfield 10, 3) := by decide +kernel
theorem dX5_spreadFromStart_19 : decode cX5_spreadFromStart 19 = .ok (.aload_n 0, 1) := by decide +kernel
theorem dX5_spreadFromStart_20 : decode cX5_spreadFromStart 20 = .ok (.getfield 51, 3) := by decide +kernel
theorem dX5_spreadFromStart_23 : decode cX5_spreadFromStart 23 = .ok (.invokevirtual 55, 3) := by decide +kernel
theorem dX5_spreadFromStart_26 : decode cX5_spreadFromStart 26 = .ok (.goto 4, 3) := by decide +kernel
theorem dX5_spreadFromStart_29 : decode cX5_spreadFromStart 29 = .ok (.iconst (-1), 1) := by decide +kernel
theorem dX5_spreadFromStart_30 : decode cX5_spreadFromStart 30 = .ok (.invokevirtual 158, 3) := by decide +kernel
theorem dX5_spreadFromStart_33 : decode cX5_spreadFromStart 33 = .ok (.return_, 1) := by decide +kernel
set_option maxRecDepth 20000 in
theorem ggX5_findOddRing_X1_paint : GoodIn wsX5_findOddRing wsX1_paint := goodIn_r _ [12, 13, 14, 15, 16, 17, 18, 19, 20, 21, 22, 23, 24, 25, 26, 27, 28, 29, 30, 31, 32, 33, 34, 35, 36, 37, 38, 39, 40, 41, 42, 11, 43, 44, 45, 46, 47, 48, 49, 82, 83, 84, 85, 86, 87, 88, 89, 90, 91] (by decide +kernel) (by decide +kernel)
set_option maxRecDepth 20000 in
theorem gX5_findOddRing_X1_paint : GoodIn wsX5_findOddRing (wsV RX5 171 RX1 yX1_paint wsX1_paint) := goodIn_app (goodIn_of _ (by decide +kernel)) ggX5_findOddRing_X1_paint
set_option maxRecDepth 20000 in
theorem ggX5_findOddRing_X4_find : GoodIn wsX5_findOddRing wsX4_find := goodIn_r _ [54, 55, 56, 57, 58, 59, 60, 53, 61, 62, 63, 64, 65, 37, 38, 39, 66, 67, 68, 69, 70, 71, 72, 73, 92, 93, 94, 85, 86, 87] (by decide +kernel) (by decide +kernel)
set_option maxRecDepth 20000 in
theorem gX5_findOddRing_X4_find : GoodIn wsX5_findOddRing (wsV RX5 217 RX4 yX4_find wsX4_find) := goodIn_app (goodIn_of _ (by decide +kernel)) ggX5_findOddRing_X4_find
theorem dX5_findOddRing_0 : decode cX5_findOddRing 0 = .ok (.aload_n 0, 1) := by decide +kernel
theorem dX5_findOddRing_1 : decode cX5_findOddRing 1 = .ok (.getfield 29, 3) := by decide +kernel
theorem dX5_findOddRing_4 : decode cX5_findOddRing 4 = .ok (.aload_n 0, 1) := by decide +kernel
theorem dX5_findOddRing_5 : decode cX5_findOddRing 5 = .ok (.getfield 10, 3) := by decide +kernel
theorem dX5_findOddRing_8 : decode cX5_findOddRing 8 = .ok (.aload_n 0, 1) := by decide +kernel
theorem dX5_findOddRing_9 : decode cX5_findOddRing 9 = .ok (.getfield 23, 3) := by decide +kernel
theorem dX5_findOddRing_12 : decode cX5_findOddRing 12 = .ok (.invokevirtual 171, 3) := by decide +kernel
theorem dX5_findOddRing_15 : decode cX5_findOddRing 15 = .ok (.aload_n 0, 1) := by decide +kernel
theorem dX5_findOddRing_16 : decode cX5_findOddRing 16 = .ok (.getfield 29, 3) := by decide +kernel
theorem dX5_findOddRing_19 : decode cX5_findOddRing 19 = .ok (.getfield 177, 3) := by decide +kernel
theorem dX5_findOddRing_22 : decode cX5_findOddRing 22 = .ok (.ifCond .eq 13, 3) := by decide +kernel
theorem dX5_findOddRing_25 : decode cX5_findOddRing 25 = .ok (.new 180, 3) := by decide +kernel
theorem dX5_findOddRing_28 : decode cX5_findOddRing 28 = .ok (.dup, 1) := by decide +kernel
theorem dX5_findOddRing_29 : decode cX5_findOddRing 29 = .ok (.ldc 236, 2) := by decide +kernel
theorem dX5_findOddRing_31 : decode cX5_findOddRing 31 = .ok (.invokespecial 184, 3) := by decide +kernel
theorem dX5_findOddRing_34 : decode cX5_findOddRing 34 = .ok (.athrow, 1) := by decide +kernel
theorem dX5_findOddRing_35 : decode cX5_findOddRing 35 = .ok (.aload_n 0, 1) := by decide +kernel
theorem dX5_findOddRing_36 : decode cX5_findOddRing 36 = .ok (.getfield 36, 3) := by decide +kernel
theorem dX5_findOddRing_39 : decode cX5_findOddRing 39 = .ok (.aload_n 0, 1) := by decide +kernel
theorem dX5_findOddRing_40 : decode cX5_findOddRing 40 = .ok (.getfield 10, 3) := by decide +kernel
theorem dX5_findOddRing_43 : decode cX5_findOddRing 43 = .ok (.invokevirtual 217, 3) := by decide +kernel
theorem dX5_findOddRing_46 : decode cX5_findOddRing 46 = .ok (.return_, 1) := by decide +kernel
theorem dX5_countThrough_0 : decode cX5_countThrough 0 = .ok (.aload_n 0, 1) := by decide +kernel
theorem dX5_countThrough_1 : decode cX5_countThrough 1 = .ok (.getfield 19, 3) := by decide +kernel
theorem dX5_countThrough_4 : decode cX5_countThrough 4 = .ok (.getfield 137, 3) := by decide +kernel
theorem dX5_countThrough_7 : decode cX5_countThrough 7 = .ok (.iload_n 2, 1) := by decide +kernel
theorem dX5_countThrough_8 : decode cX5_countThrough 8 = .ok (.iaload, 1) := by decide +kernel
theorem dX5_countThrough_9 : decode cX5_countThrough 9 = .ok (.istore_n 3, 1) := by decide +kernel
theorem dX5_countThrough_10 : decode cX5_countThrough 10 = .ok (.aload_n 0, 1) := by decide +kernel
theorem dX5_countThrough_11 : decode cX5_countThrough 11 = .ok (.getfield 23, 3) := by decide +kernel
theorem dX5_countThrough_14 : decode cX5_countThrough 14 = .ok (.getfield 137, 3) := by decide +kernel
theorem dX5_countThrough_17 : decode cX5_countThrough 17 = .ok (.iload_n 2, 1) := by decide +kernel
theorem dX5_countThrough_18 : decode cX5_countThrough 18 = .ok (.iaload, 1) := by decide +kernel
theorem dX5_countThrough_19 : decode cX5_countThrough 19 = .ok (.istore 4, 2) := by decide +kernel
theorem dX5_countThrough_21 : decode cX5_countThrough 21 = .ok (.iload_n 3, 1) := by decide +kernel
theorem dX5_countThrough_22 : decode cX5_countThrough 22 = .ok (.iconst (-1), 1) := by decide +kernel
theorem dX5_countThrough_23 : decode cX5_countThrough 23 = .ok (.if_icmp .eq 25, 3) := by decide +kernel
theorem dX5_countThrough_26 : decode cX5_countThrough 26 = .ok (.iload 4, 2) := by decide +kernel
theorem dX5_countThrough_28 : decode cX5_countThrough 28 = .ok (.iconst (-1), 1) := by decide +kernel
theorem dX5_countThrough_29 : decode cX5_countThrough 29 = .ok (.if_icmp .eq 19, 3) := by decide +kernel
theorem dX5_countThrough_32 : decode cX5_countThrough 32 = .ok (.iload_n 3, 1) := by decide +kernel
theorem dX5_countThrough_33 : decode cX5_countThrough 33 = .ok (.iload 4, 2) := by decide +kernel
theorem dX5_countThrough_35 : decode cX5_countThrough 35 = .ok (.iadd, 1) := by decide +kernel
theorem dX5_countThrough_36 : decode cX5_countThrough 36 = .ok (.aload_n 0, 1) := by decide +kernel
theorem dX5_countThrough_37 : decode cX5_countThrough 37 = .ok (.getfield 19, 3) := by decide +kernel
theorem dX5_countThrough_40 : decode cX5_countThrough 40 = .ok (.getfield 137, 3) := by decide +kernel
theorem dX5_countThrough_43 : decode cX5_countThrough 43 = .ok (.iload_n 1, 1) := by decide +kernel
theorem dX5_countThrough_44 : decode cX5_countThrough 44 = .ok (.iaload, 1) := by decide +kernel
theorem dX5_countThrough_45 : decode cX5_countThrough 45 = .ok (.if_icmp .eq 5, 3) := by decide +kernel
theorem dX5_countThrough_48 : decode cX5_countThrough 48 = .ok (.iconst 0, 1) := by decide +kernel
theorem dX5_countThrough_49 : decode cX5_countThrough 49 = .ok (.ireturn, 1) := by decide +kernel
theorem dX5_countThrough_50 : decode cX5_countThrough 50 = .ok (.aload_n 0, 1) := by decide +kernel
theorem dX5_countThrough_51 : decode cX5_countThrough 51 = .ok (.getfield 19, 3) := by decide +kernel
theorem dX5_countThrough_54 : decode cX5_countThrough 54 = .ok (.getfield 151, 3) := by decide +kernel
theorem dX5_countThrough_57 : decode cX5_countThrough 57 = .ok (.iload_n 2, 1) := by decide +kernel
theorem dX5_countThrough_58 : decode cX5_countThrough 58 = .ok (.iaload, 1) := by decide +kernel
theorem dX5_countThrough_59 : decode cX5_countThrough 59 = .ok (.aload_n 0, 1) := by decide +kernel
theorem dX5_countThrough_60 : decode cX5_countThrough 60 = .ok (.getfield 23, 3) := by decide +kernel
theorem dX5_countThrough_63 : decode cX5_countThrough 63 = .ok (.getfield 151, 3) := by decide +kernel
theorem dX5_countThrough_66 : decode cX5_countThrough 66 = .ok (.iload_n 2, 1) := by decide +kernel
theorem dX5_countThrough_67 : decode cX5_countThrough 67 = .ok (.iaload, 1) := by decide +kernel
theorem dX5_countThrough_68 : decode cX5_countThrough 68 = .ok (.imul, 1) := by decide +kernel
theorem dX5_countThrough_69 : decode cX5_countThrough 69 = .ok (.ireturn, 1) := by decide +kernel
set_option maxRecDepth 20000 in
theorem ggX5_goAlong_X5_leadsOn : GoodIn wsX5_goAlong wsX5_leadsOn := goodIn_r _ [11, 3, 5, 12, 13, 14, 15, 16, 17, 18, 19, 10, 20, 21, 22, 23, 24, 25, 26, 27, 28, 29, 30, 31, 32, 33, 34, 35] (by decide +kernel) (by decide +kernel)
set_option maxRecDepth 20000 in
theorem gX5_goAlong_X5_leadsOn : GoodIn wsX5_goAlong (wsV RX5 238 RX5 yX5_leadsOn wsX5_leadsOn) := goodIn_app (goodIn_of _ (by decide +kernel)) ggX5_goAlong_X5_leadsOn
theorem dX5_goAlong_0 : decode cX5_goAlong 0 = .ok (.aload_n 0, 1) := by decide +kernel
theorem dX5_goAlong_1 : decode cX5_goAlong 1 = .ok (.getfield 19, 3) := by decide +kernel
theorem dX5_goAlong_4 : decode cX5_goAlong 4 = .ok (.getfield 148, 3) := by decide +kernel
theorem dX5_goAlong_7 : decode cX5_goAlong 7 = .ok (.iconst 0, 1) := by decide +kernel
theorem dX5_goAlong_8 : decode cX5_goAlong 8 = .ok (.iaload, 1) := by decide +kernel
theorem dX5_goAlong_9 : decode cX5_goAlong 9 = .ok (.istore_n 3, 1) := by decide +kernel
theorem dX5_goAlong_10 : decode cX5_goAlong 10 = .ok (.iload_n 1, 1) := by decide +kernel
theorem dX5_goAlong_11 : decode cX5_goAlong 11 = .ok (.istore 4, 2) := by decide +kernel
theorem dX5_goAlong_13 : decode cX5_goAlong 13 = .ok (.iconst 0, 1) := by decide +kernel
theorem dX5_goAlong_14 : decode cX5_goAlong 14 = .ok (.istore 5, 2) := by decide +kernel
theorem dX5_goAlong_16 : decode cX5_goAlong 16 = .ok (.iload 5, 2) := by decide +kernel
theorem dX5_goAlong_18 : decode cX5_goAlong 18 = .ok (.iload_n 2, 1) := by decide +kernel
theorem dX5_goAlong_19 : decode cX5_goAlong 19 = .ok (.if_icmp .ge 85, 3) := by decide +kernel
theorem dX5_goAlong_22 : decode cX5_goAlong 22 = .ok (.iconst 0, 1) := by decide +kernel
theorem dX5_goAlong_23 : decode cX5_goAlong 23 = .ok (.istore 6, 2) := by decide +kernel
theorem dX5_goAlong_25 : decode cX5_goAlong 25 = .ok (.iload 6, 2) := by decide +kernel
theorem dX5_goAlong_27 : decode cX5_goAlong 27 = .ok (.aload_n 0, 1) := by decide +kernel
theorem dX5_goAlong_28 : decode cX5_goAlong 28 = .ok (.getfield 10, 3) := by decide +kernel
theorem dX5_goAlong_31 : decode cX5_goAlong 31 = .ok (.getfield 66, 3) := by decide +kernel
theorem dX5_goAlong_34 : decode cX5_goAlong 34 = .ok (.iconst 1, 1) := by decide +kernel
theorem dX5_goAlong_35 : decode cX5_goAlong 35 = .ok (.isub, 1) := by decide +kernel
theorem dX5_goAlong_36 : decode cX5_goAlong 36 = .ok (.if_icmp .ge 59, 3) := by decide +kernel
theorem dX5_goAlong_39 : decode cX5_goAlong 39 = .ok (.aload_n 0, 1) := by decide +kernel
theorem dX5_goAlong_40 : decode cX5_goAlong 40 = .ok (.iload_n 3, 1) := by decide +kernel
theorem dX5_goAlong_41 : decode cX5_goAlong 41 = .ok (.iload 6, 2) := by decide +kernel
theorem dX5_goAlong_43 : decode cX5_goAlong 43 = .ok (.invokevirtual 238, 3) := by decide +kernel
theorem dX5_goAlong_46 : decode cX5_goAlong 46 = .ok (.ifCond .eq 18, 3) := by decide +kernel
theorem dX5_goAlong_49 : decode cX5_goAlong 49 = .ok (.iload 4, 2) := by decide +kernel
theorem dX5_goAlong_51 : decode cX5_goAlong 51 = .ok (.aload_n 0, 1) := by decide +kernel
theorem dX5_goAlong_52 : decode cX5_goAlong 52 = .ok (.getfield 23, 3) := by decide +kernel
theorem dX5_goAlong_55 : decode cX5_goAlong 55 = .ok (.getfield 151, 3) := by decide +kernel
theorem dX5_goAlong_58 : decode cX5_goAlong 58 = .ok (.iload 6, 2) := by decide +kernel
theorem dX5_goAlong_60 : decode cX5_goAlong 60 = .ok (.iaload, 1) := by decide +kernel
theorem dX5_goAlong_61 : decode cX5_goAlong 61 = .ok (.if_icmp .lt 34, 3) := by decide +kernel
theorem dX5_goAlong_64 : decode cX5_goAlong 64 = .ok (.aload_n 0, 1) := by decide +kernel
theorem dX5_goAlong_65 : decode cX5_goAlong 65 = .ok (.iload_n 3, 1) := by decide +kernel
theorem dX5_goAlong_66 : decode cX5_goAlong 66 = .ok (.iload 6, 2) := by decide +kernel
theorem dX5_goAlong_68 : decode cX5_goAlong 68 = .ok (.invokevirtual 238, 3) := by decide +kernel
theorem dX5_goAlong_71 : decode cX5_goAlong 71 = .ok (.ifCond .eq 18, 3) := by decide +kernel
theorem dX5_goAlong_74 : decode cX5_goAlong 74 = .ok (.iload 4, 2) := by decide +kernel
theorem dX5_goAlong_76 : decode cX5_goAlong 76 = .ok (.aload_n 0, 1) := by decide +kernel
theorem dX5_goAlong_77 : decode cX5_goAlong 77 = .ok (.getfield 23, 3) := by decide +kernel
theorem dX5_goAlong_80 : decode cX5_goAlong 80 = .ok (.getfield 151, 3) := by decide +kernel
theorem dX5_goAlong_83 : decode cX5_goAlong 83 = .ok (.iload 6, 2) := by decide +kernel
theorem dX5_goAlong_85 : decode cX5_goAlong 85 = .ok (.iaload, 1) := by decide +kernel
theorem dX5_goAlong_86 : decode cX5_goAlong 86 = .ok (.isub, 1) := by decide +kernel
theorem dX5_goAlong_87 : decode cX5_goAlong 87 = .ok (.istore 4, 2) := by decide +kernel
theorem dX5_goAlong_89 : decode cX5_goAlong 89 = .ok (.iinc 6 1, 3) := by decide +kernel
theorem dX5_goAlong_92 : decode cX5_goAlong 92 = .ok (.goto (-67), 3) := by decide +kernel
theorem dX5_goAlong_95 : decode cX5_goAlong 95 = .ok (.iload 6, 2) := by decide +kernel
theorem dX5_goAlong_97 : decode cX5_goAlong 97 = .ok (.istore_n 3, 1) := by decide +kernel
theorem dX5_goAlong_98 : decode cX5_goAlong 98 = .ok (.iinc 5 1, 3) := by decide +kernel
theorem dX5_goAlong_101 : decode cX5_goAlong 101 = .ok (.goto (-85), 3) := by decide +kernel
theorem dX5_goAlong_104 : decode cX5_goAlong 104 = .ok (.iload_n 3, 1) := by decide +kernel
theorem dX5_goAlong_105 : decode cX5_goAlong 105 = .ok (.ireturn, 1) := by decide +kernel
set_option maxRecDepth 20000 in
theorem ggX5_leadsOn_X3_joins : GoodIn wsX5_leadsOn wsX3_joins := goodIn_r _ [8, 9, 10, 11, 12, 25, 26, 27] (by decide +kernel) (by decide +kernel)
set_option maxRecDepth 20000 in
theorem gX5_leadsOn_X3_joins : GoodIn wsX5_leadsOn (wsV RX5 95 RX3 yX3_joins wsX3_joins) := goodIn_app (goodIn_of _ (by decide +kernel)) ggX5_leadsOn_X3_joins
theorem dX5_leadsOn_0 : decode cX5_leadsOn 0 = .ok (.aload_n 0, 1) := by decide +kernel
theorem dX5_leadsOn_1 : decode cX5_leadsOn 1 = .ok (.getfield 10, 3) := by decide +kernel
theorem dX5_leadsOn_4 : decode cX5_leadsOn 4 = .ok (.iload_n 1, 1) := by decide +kernel
theorem dX5_leadsOn_5 : decode cX5_leadsOn 5 = .ok (.iload_n 2, 1) := by decide +kernel
theorem dX5_leadsOn_6 : decode cX5_leadsOn 6 = .ok (.invokevirtual 95, 3) := by decide +kernel
theorem dX5_leadsOn_9 : decode cX5_leadsOn 9 = .ok (.ifCond .eq 30, 3) := by decide +kernel
theorem dX5_leadsOn_12 : decode cX5_leadsOn 12 = .ok (.aload_n 0, 1) := by decide +kernel
theorem dX5_leadsOn_13 : decode cX5_leadsOn 13 = .ok (.getfield 23, 3) := by decide +kernel
theorem dX5_leadsOn_16 : decode cX5_leadsOn 16 = .ok (.getfield 137, 3) := by decide +kernel
theorem dX5_leadsOn_19 : decode cX5_leadsOn 19 = .ok (.iload_n 2, 1) := by decide +kernel
theorem dX5_leadsOn_20 : decode cX5_leadsOn 20 = .ok (.iaload, 1) := by decide +kernel
theorem dX5_leadsOn_21 : decode cX5_leadsOn 21 = .ok (.aload_n 0, 1) := by decide +kernel
theorem dX5_leadsOn_22 : decode cX5_leadsOn 22 = .ok (.getfield 23, 3) := by decide +kernel
theorem dX5_leadsOn_25 : decode cX5_leadsOn 25 = .ok (.getfield 137, 3) := by decide +kernel
theorem dX5_leadsOn_28 : decode cX5_leadsOn 28 = .ok (.iload_n 1, 1) := by decide +kernel
theorem dX5_leadsOn_29 : decode cX5_leadsOn 29 = .ok (.iaload, 1) := by decide +kernel
theorem dX5_leadsOn_30 : decode cX5_leadsOn 30 = .ok (.iconst 1, 1) := by decide +kernel
theorem dX5_leadsOn_31 : decode cX5_leadsOn 31 = .ok (.isub, 1) := by decide +kernel
theorem dX5_leadsOn_32 : decode cX5_leadsOn 32 = .ok (.if_icmp .ne 7, 3) := by decide +kernel
theorem dX5_leadsOn_35 : decode cX5_leadsOn 35 = .ok (.iconst 1, 1) := by decide +kernel
theorem dX5_leadsOn_36 : decode cX5_leadsOn 36 = .ok (.goto 4, 3) := by decide +kernel
theorem dX5_leadsOn_39 : decode cX5_leadsOn 39 = .ok (.iconst 0, 1) := by decide +kernel
theorem dX5_leadsOn_40 : decode cX5_leadsOn 40 = .ok (.ireturn, 1) := by decide +kernel
set_option maxRecDepth 20000 in
theorem ggX5_streetsKeepLayers_X3_joins : GoodIn wsX5_streetsKeepLayers wsX3_joins := goodIn_r _ [7, 8, 9, 10, 11, 30, 31, 32] (by decide +kernel) (by decide +kernel)
set_option maxRecDepth 20000 in
theorem gX5_streetsKeepLayers_X3_joins : GoodIn wsX5_streetsKeepLayers (wsV RX5 95 RX3 yX3_joins wsX3_joins) := goodIn_app (goodIn_of _ (by decide +kernel)) ggX5_streetsKeepLayers_X3_joins
set_option maxRecDepth 20000 in
theorem ggX5_streetsKeepLayers_X5_isSameOrNextLayer : GoodIn wsX5_streetsKeepLayers wsX5_isSameOrNextLayer := goodIn_r _ [15, 16, 17, 18, 19, 20, 21, 22, 23, 24, 25, 26, 27, 28, 29, 33, 34, 35, 36] (by decide +kernel) (by decide +kernel)
set_option maxRecDepth 20000 in
theorem gX5_streetsKeepLayers_X5_isSameOrNextLayer : GoodIn wsX5_streetsKeepLayers (wsV RX5 241 RX5 yX5_isSameOrNextLayer wsX5_isSameOrNextLayer) := goodIn_app (goodIn_of _ (by decide +kernel)) ggX5_streetsKeepLayers_X5_isSameOrNextLayer
theorem dX5_streetsKeepLayers_0 : decode cX5_streetsKeepLayers 0 = .ok (.iconst 0, 1) := by decide +kernel
theorem dX5_streetsKeepLayers_1 : decode cX5_streetsKeepLayers 1 = .ok (.istore_n 1, 1) := by decide +kernel
theorem dX5_streetsKeepLayers_2 : decode cX5_streetsKeepLayers 2 = .ok (.iload_n 1, 1) := by decide +kernel
theorem dX5_streetsKeepLayers_3 : decode cX5_streetsKeepLayers 3 = .ok (.aload_n 0, 1) := by decide +kernel
theorem dX5_streetsKeepLayers_4 : decode cX5_streetsKeepLayers 4 = .ok (.getfield 10, 3) := by decide +kernel
theorem dX5_streetsKeepLayers_7 : decode cX5_streetsKeepLayers 7 = .ok (.getfield 66, 3) := by decide +kernel
theorem dX5_streetsKeepLayers_10 : decode cX5_streetsKeepLayers 10 = .ok (.if_icmp .ge 45, 3) := by decide +kernel
theorem dX5_streetsKeepLayers_13 : decode cX5_streetsKeepLayers 13 = .ok (.iconst 0, 1) := by decide +kernel
theorem dX5_streetsKeepLayers_14 : decode cX5_streetsKeepLayers 14 = .ok (.istore_n 2, 1) := by decide +kernel
theorem dX5_streetsKeepLayers_15 : decode cX5_streetsKeepLayers 15 = .ok (.iload_n 2, 1) := by decide +kernel
theorem dX5_streetsKeepLayers_16 : decode cX5_streetsKeepLayers 16 = .ok (.iload_n 1, 1) := by decide +kernel
theorem dX5_streetsKeepLayers_17 : decode cX5_streetsKeepLayers 17 = .ok (.if_icmp .ge 32, 3) := by decide +kernel
theorem dX5_streetsKeepLayers_20 : decode cX5_streetsKeepLayers 20 = .ok (.aload_n 0, 1) := by decide +kernel
theorem dX5_streetsKeepLayers_21 : decode cX5_streetsKeepLayers 21 = .ok (.getfield 10, 3) := by decide +kernel
theorem dX5_streetsKeepLayers_24 : decode cX5_streetsKeepLayers 24 = .ok (.iload_n 1, 1) := by decide +kernel
theorem dX5_streetsKeepLayers_25 : decode cX5_streetsKeepLayers 25 = .ok (.iload_n 2, 1) := by decide +kernel
theorem dX5_streetsKeepLayers_26 : decode cX5_streetsKeepLayers 26 = .ok (.invokevirtual 95, 3) := by decide +kernel
theorem dX5_streetsKeepLayers_29 : decode cX5_streetsKeepLayers 29 = .ok (.ifCond .eq 14, 3) := by decide +kernel
theorem dX5_streetsKeepLayers_32 : decode cX5_streetsKeepLayers 32 = .ok (.aload_n 0, 1) := by decide +kernel
theorem dX5_streetsKeepLayers_33 : decode cX5_streetsKeepLayers 33 = .ok (.iload_n 1, 1) := by decide +kernel
theorem dX5_streetsKeepLayers_34 : decode cX5_streetsKeepLayers 34 = .ok (.iload_n 2, 1) := by decide +kernel
theorem dX5_streetsKeepLayers_35 : decode cX5_streetsKeepLayers 35 = .ok (.invokevirtual 241, 3) := by decide +kernel
theorem dX5_streetsKeepLayers_38 : decode cX5_streetsKeepLayers 38 = .ok (.ifCond .ne 5, 3) := by decide +kernel
theorem dX5_streetsKeepLayers_41 : decode cX5_streetsKeepLayers 41 = .ok (.iconst 0, 1) := by decide +kernel
theorem dX5_streetsKeepLayers_42 : decode cX5_streetsKeepLayers 42 = .ok (.ireturn, 1) := by decide +kernel
theorem dX5_streetsKeepLayers_43 : decode cX5_streetsKeepLayers 43 = .ok (.iinc 2 1, 3) := by decide +kernel
theorem dX5_streetsKeepLayers_46 : decode cX5_streetsKeepLayers 46 = .ok (.goto (-31), 3) := by decide +kernel
theorem dX5_streetsKeepLayers_49 : decode cX5_streetsKeepLayers 49 = .ok (.iinc 1 1, 3) := by decide +kernel
theorem dX5_streetsKeepLayers_52 : decode cX5_streetsKeepLayers 52 = .ok (.goto (-50), 3) := by decide +kernel
theorem dX5_streetsKeepLayers_55 : decode cX5_streetsKeepLayers 55 = .ok (.iconst 1, 1) := by decide +kernel
theorem dX5_streetsKeepLayers_56 : decode cX5_streetsKeepLayers 56 = .ok (.ireturn, 1) := by decide +kernel
theorem dX5_isSameOrNextLayer_0 : decode cX5_isSameOrNextLayer 0 = .ok (.aload_n 0, 1) := by decide +kernel
theorem dX5_isSameOrNextLayer_1 : decode cX5_isSameOrNextLayer 1 = .ok (.getfield 19, 3) := by decide +kernel
theorem dX5_isSameOrNextLayer_4 : decode cX5_isSameOrNextLayer 4 = .ok (.getfield 137, 3) := by decide +kernel
theorem dX5_isSameOrNextLayer_7 : decode cX5_isSameOrNextLayer 7 = .ok (.iload_n 1, 1) := by decide +kernel
theorem dX5_isSameOrNextLayer_8 : decode cX5_isSameOrNextLayer 8 = .ok (.iaload, 1) := by decide +kernel
theorem dX5_isSameOrNextLayer_9 : decode cX5_isSameOrNextLayer 9 = .ok (.istore_n 3, 1) := by decide +kernel
theorem dX5_isSameOrNextLayer_10 : decode cX5_isSameOrNextLayer 10 = .ok (.aload_n 0, 1) := by decide +kernel
theorem dX5_isSameOrNextLayer_11 : decode cX5_isSameOrNextLayer 11 = .ok (.getfield 19, 3) := by decide +kernel
theorem dX5_isSameOrNextLayer_14 : decode cX5_isSameOrNextLayer 14 = .ok (.getfield 137, 3) := by decide +kernel
theorem dX5_isSameOrNextLayer_17 : decode cX5_isSameOrNextLayer 17 = .ok (.iload_n 2, 1) := by decide +kernel
theorem dX5_isSameOrNextLayer_18 : decode cX5_isSameOrNextLayer 18 = .ok (.iaload, 1) := by decide +kernel
theorem dX5_isSameOrNextLayer_19 : decode cX5_isSameOrNextLayer 19 = .ok (.istore 4, 2) := by decide +kernel
theorem dX5_isSameOrNextLayer_21 : decode cX5_isSameOrNextLayer 21 = .ok (.iload_n 3, 1) := by decide +kernel
theorem dX5_isSameOrNextLayer_22 : decode cX5_isSameOrNextLayer 22 = .ok (.iconst (-1), 1) := by decide +kernel
theorem dX5_isSameOrNextLayer_23 : decode cX5_isSameOrNextLayer 23 = .ok (.if_icmp .eq 9, 3) := by decide +kernel
theorem dX5_isSameOrNextLayer_26 : decode cX5_isSameOrNextLayer 26 = .ok (.iload 4, 2) := by decide +kernel
theorem dX5_isSameOrNextLayer_28 : decode cX5_isSameOrNextLayer 28 = .ok (.iconst (-1), 1) := by decide +kernel
theorem dX5_isSameOrNextLayer_29 : decode cX5_isSameOrNextLayer 29 = .ok (.if_icmp .ne 15, 3) := by decide +kernel
theorem dX5_isSameOrNextLayer_32 : decode cX5_isSameOrNextLayer 32 = .ok (.iload_n 3, 1) := by decide +kernel
theorem dX5_isSameOrNextLayer_33 : decode cX5_isSameOrNextLayer 33 = .ok (.iload 4, 2) := by decide +kernel
theorem dX5_isSameOrNextLayer_35 : decode cX5_isSameOrNextLayer 35 = .ok (.if_icmp .ne 7, 3) := by decide +kernel
theorem dX5_isSameOrNextLayer_38 : decode cX5_isSameOrNextLayer 38 = .ok (.iconst 1, 1) := by decide +kernel
theorem dX5_isSameOrNextLayer_39 : decode cX5_isSameOrNextLayer 39 = .ok (.goto 4, 3) := by decide +kernel
theorem dX5_isSameOrNextLayer_42 : decode cX5_isSameOrNextLayer 42 = .ok (.iconst 0, 1) := by decide +kernel
theorem dX5_isSameOrNextLayer_43 : decode cX5_isSameOrNextLayer 43 = .ok (.ireturn, 1) := by decide +kernel
theorem dX5_isSameOrNextLayer_44 : decode cX5_isSameOrNextLayer 44 = .ok (.iload_n 3, 1) := by decide +kernel
theorem dX5_isSameOrNextLayer_45 : decode cX5_isSameOrNextLayer 45 = .ok (.iload 4, 2) := by decide +kernel
theorem dX5_isSameOrNextLayer_47 : decode cX5_isSameOrNextLayer 47 = .ok (.isub, 1) := by decide +kernel
theorem dX5_isSameOrNextLayer_48 : decode cX5_isSameOrNextLayer 48 = .ok (.invokestatic 244, 3) := by decide +kernel
theorem dX5_isSameOrNextLayer_51 : decode cX5_isSameOrNextLayer 51 = .ok (.iconst 1, 1) := by decide +kernel
theorem dX5_isSameOrNextLayer_52 : decode cX5_isSameOrNextLayer 52 = .ok (.if_icmp .gt 7, 3) := by decide +kernel
theorem dX5_isSameOrNextLayer_55 : decode cX5_isSameOrNextLayer 55 = .ok (.iconst 1, 1) := by decide +kernel
theorem dX5_isSameOrNextLayer_56 : decode cX5_isSameOrNextLayer 56 = .ok (.goto 4, 3) := by decide +kernel
theorem dX5_isSameOrNextLayer_59 : decode cX5_isSameOrNextLayer 59 = .ok (.iconst 0, 1) := by decide +kernel
theorem dX5_isSameOrNextLayer_60 : decode cX5_isSameOrNextLayer 60 = .ok (.ireturn, 1) := by decide +kernel
set_option maxRecDepth 20000 in
theorem ggX5_waysAddUp_X5_isFedByLayerBefore : GoodIn wsX5_waysAddUp wsX5_isFedByLayerBefore := goodIn_r _ [9, 1, 2, 3, 4, 10, 11, 12, 13, 14, 15, 16, 17, 8, 18, 19, 20, 21, 22, 23, 24, 25, 26, 27, 28, 29, 30, 31, 32, 33] (by decide +kernel) (by decide +kernel)
set_option maxRecDepth 20000 in
theorem gX5_waysAddUp_X5_isFedByLayerBefore : GoodIn wsX5_waysAddUp (wsV RX5 247 RX5 yX5_isFedByLayerBefore wsX5_isFedByLayerBefore) := goodIn_app (goodIn_of _ (by decide +kernel)) ggX5_waysAddUp_X5_isFedByLayerBefore
theorem dX5_waysAddUp_0 : decode cX5_waysAddUp 0 = .ok (.iconst 0, 1) := by decide +kernel
theorem dX5_waysAddUp_1 : decode cX5_waysAddUp 1 = .ok (.istore_n 1, 1) := by decide +kernel
theorem dX5_waysAddUp_2 : decode cX5_waysAddUp 2 = .ok (.iload_n 1, 1) := by decide +kernel
theorem dX5_waysAddUp_3 : decode cX5_waysAddUp 3 = .ok (.aload_n 0, 1) := by decide +kernel
theorem dX5_waysAddUp_4 : decode cX5_waysAddUp 4 = .ok (.getfield 10, 3) := by decide +kernel
theorem dX5_waysAddUp_7 : decode cX5_waysAddUp 7 = .ok (.getfield 66, 3) := by decide +kernel
theorem dX5_waysAddUp_10 : decode cX5_waysAddUp 10 = .ok (.if_icmp .ge 31, 3) := by decide +kernel
theorem dX5_waysAddUp_13 : decode cX5_waysAddUp 13 = .ok (.aload_n 0, 1) := by decide +kernel
theorem dX5_waysAddUp_14 : decode cX5_waysAddUp 14 = .ok (.getfield 19, 3) := by decide +kernel
theorem dX5_waysAddUp_17 : decode cX5_waysAddUp 17 = .ok (.getfield 137, 3) := by decide +kernel
theorem dX5_waysAddUp_20 : decode cX5_waysAddUp 20 = .ok (.iload_n 1, 1) := by decide +kernel
theorem dX5_waysAddUp_21 : decode cX5_waysAddUp 21 = .ok (.iaload, 1) := by decide +kernel
theorem dX5_waysAddUp_22 : decode cX5_waysAddUp 22 = .ok (.ifCond .le 13, 3) := by decide +kernel
theorem dX5_waysAddUp_25 : decode cX5_waysAddUp 25 = .ok (.aload_n 0, 1) := by decide +kernel
theorem dX5_waysAddUp_26 : decode cX5_waysAddUp 26 = .ok (.iload_n 1, 1) := by decide +kernel
theorem dX5_waysAddUp_27 : decode cX5_waysAddUp 27 = .ok (.invokevirtual 247, 3) := by decide +kernel
theorem dX5_waysAddUp_30 : decode cX5_waysAddUp 30 = .ok (.ifCond .ne 5, 3) := by decide +kernel
theorem dX5_waysAddUp_33 : decode cX5_waysAddUp 33 = .ok (.iconst 0, 1) := by decide +kernel
theorem dX5_waysAddUp_34 : decode cX5_waysAddUp 34 = .ok (.ireturn, 1) := by decide +kernel
theorem dX5_waysAddUp_35 : decode cX5_waysAddUp 35 = .ok (.iinc 1 1, 3) := by decide +kernel
theorem dX5_waysAddUp_38 : decode cX5_waysAddUp 38 = .ok (.goto (-36), 3) := by decide +kernel
theorem dX5_waysAddUp_41 : decode cX5_waysAddUp 41 = .ok (.iconst 1, 1) := by decide +kernel
theorem dX5_waysAddUp_42 : decode cX5_waysAddUp 42 = .ok (.ireturn, 1) := by decide +kernel
set_option maxRecDepth 20000 in
theorem ggX5_isFedByLayerBefore_X3_joins : GoodIn wsX5_isFedByLayerBefore wsX3_joins := goodIn_r _ [10, 11, 12, 13, 14, 23, 24, 25] (by decide +kernel) (by decide +kernel)
set_option maxRecDepth 20000 in
theorem gX5_isFedByLayerBefore_X3_joins : GoodIn wsX5_isFedByLayerBefore (wsV RX5 95 RX3 yX3_joins wsX3_joins) := goodIn_app (goodIn_of _ (by decide +kernel)) ggX5_isFedByLayerBefore_X3_joins
theorem dX5_isFedByLayerBefore_0 : decode cX5_isFedByLayerBefore 0 = .ok (.iconst 0, 1) := by decide +kernel
theorem dX5_isFedByLayerBefore_1 : decode cX5_isFedByLayerBefore 1 = .ok (.istore_n 2, 1) := by decide +kernel
theorem dX5_isFedByLayerBefore_2 : decode cX5_isFedByLayerBefore 2 = .ok (.iconst 0, 1) := by decide +kernel
theorem dX5_isFedByLayerBefore_3 : decode cX5_isFedByLayerBefore 3 = .ok (.istore_n 3, 1) := by decide +kernel
theorem dX5_isFedByLayerBefore_4 : decode cX5_isFedByLayerBefore 4 = .ok (.iconst 0, 1) := by decide +kernel
theorem dX5_isFedByLayerBefore_5 : decode cX5_isFedByLayerBefore 5 = .ok (.istore 4, 2) := by decide +kernel
theorem dX5_isFedByLayerBefore_7 : decode cX5_isFedByLayerBefore 7 = .ok (.iload 4, 2) := by decide +kernel
theorem dX5_isFedByLayerBefore_9 : decode cX5_isFedByLayerBefore 9 = .ok (.aload_n 0, 1) := by decide +kernel
theorem dX5_isFedByLayerBefore_10 : decode cX5_isFedByLayerBefore 10 = .ok (.getfield 10, 3) := by decide +kernel
theorem dX5_isFedByLayerBefore_13 : decode cX5_isFedByLayerBefore 13 = .ok (.getfield 66, 3) := by decide +kernel
theorem dX5_isFedByLayerBefore_16 : decode cX5_isFedByLayerBefore 16 = .ok (.if_icmp .ge 62, 3) := by decide +kernel
theorem dX5_isFedByLayerBefore_19 : decode cX5_isFedByLayerBefore 19 = .ok (.aload_n 0, 1) := by decide +kernel
theorem dX5_isFedByLayerBefore_20 : decode cX5_isFedByLayerBefore 20 = .ok (.getfield 10, 3) := by decide +kernel
theorem dX5_isFedByLayerBefore_23 : decode cX5_isFedByLayerBefore 23 = .ok (.iload_n 1, 1) := by decide +kernel
theorem dX5_isFedByLayerBefore_24 : decode cX5_isFedByLayerBefore 24 = .ok (.iload 4, 2) := by decide +kernel
theorem dX5_isFedByLayerBefore_26 : decode cX5_isFedByLayerBefore 26 = .ok (.invokevirtual 95, 3) := by decide +kernel
theorem dX5_isFedByLayerBefore_29 : decode cX5_isFedByLayerBefore 29 = .ok (.ifCond .eq 43, 3) := by decide +kernel
theorem dX5_isFedByLayerBefore_32 : decode cX5_isFedByLayerBefore 32 = .ok (.aload_n 0, 1) := by decide +kernel
theorem dX5_isFedByLayerBefore_33 : decode cX5_isFedByLayerBefore 33 = .ok (.getfield 19, 3) := by decide +kernel
theorem dX5_isFedByLayerBefore_36 : decode cX5_isFedByLayerBefore 36 = .ok (.getfield 137, 3) := by decide +kernel
theorem dX5_isFedByLayerBefore_39 : decode cX5_isFedByLayerBefore 39 = .ok (.iload 4, 2) := by decide +kernel
theorem dX5_isFedByLayerBefore_41 : decode cX5_isFedByLayerBefore 41 = .ok (.iaload, 1) := by decide +kernel
theorem dX5_isFedByLayerBefore_42 : decode cX5_isFedByLayerBefore 42 = .ok (.aload_n 0, 1) := by decide +kernel
theorem dX5_isFedByLayerBefore_43 : decode cX5_isFedByLayerBefore 43 = .ok (.getfield 19, 3) := by decide +kernel
theorem dX5_isFedByLayerBefore_46 : decode cX5_isFedByLayerBefore 46 = .ok (.getfield 137, 3) := by decide +kernel
theorem dX5_isFedByLayerBefore_49 : decode cX5_isFedByLayerBefore 49 = .ok (.iload_n 1, 1) := by decide +kernel
theorem dX5_isFedByLayerBefore_50 : decode cX5_isFedByLayerBefore 50 = .ok (.iaload, 1) := by decide +kernel
theorem dX5_isFedByLayerBefore_51 : decode cX5_isFedByLayerBefore 51 = .ok (.iconst 1, 1) := by decide +kernel
theorem dX5_isFedByLayerBefore_52 : decode cX5_isFedByLayerBefore 52 = .ok (.isub, 1) := by decide +kernel
theorem dX5_isFedByLayerBefore_53 : decode cX5_isFedByLayerBefore 53 = .ok (.if_icmp .ne 19, 3) := by decide +kernel
theorem dX5_isFedByLayerBefore_56 : decode cX5_isFedByLayerBefore 56 = .ok (.iinc 2 1, 3) := by decide +kernel
theorem dX5_isFedByLayerBefore_59 : decode cX5_isFedByLayerBefore 59 = .ok (.iload_n 3, 1) := by decide +kernel
theorem dX5_isFedByLayerBefore_60 : decode cX5_isFedByLayerBefore 60 = .ok (.aload_n 0, 1) := by decide +kernel
theorem dX5_isFedByLayerBefore_61 : decode cX5_isFedByLayerBefore 61 = .ok (.getfield 19, 3) := by decide +kernel
theorem dX5_isFedByLayerBefore_64 : decode cX5_isFedByLayerBefore 64 = .ok (.getfield 151, 3) := by decide +kernel
theorem dX5_isFedByLayerBefore_67 : decode cX5_isFedByLayerBefore 67 = .ok (.iload 4, 2) := by decide +kernel
theorem dX5_isFedByLayerBefore_69 : decode cX5_isFedByLayerBefore 69 = .ok (.iaload, 1) := by decide +kernel
theorem dX5_isFedByLayerBefore_70 : decode cX5_isFedByLayerBefore 70 = .ok (.iadd, 1) := by decide +kernel
theorem dX5_isFedByLayerBefore_71 : decode cX5_isFedByLayerBefore 71 = .ok (.istore_n 3, 1) := by decide +kernel
theorem dX5_isFedByLayerBefore_72 : decode cX5_isFedByLayerBefore 72 = .ok (.iinc 4 1, 3) := by decide +kernel
theorem dX5_isFedByLayerBefore_75 : decode cX5_isFedByLayerBefore 75 = .ok (.goto (-68), 3) := by decide +kernel
theorem dX5_isFedByLayerBefore_78 : decode cX5_isFedByLayerBefore 78 = .ok (.iload_n 2, 1) := by decide +kernel
theorem dX5_isFedByLayerBefore_79 : decode cX5_isFedByLayerBefore 79 = .ok (.ifCond .le 20, 3) := by decide +kernel
theorem dX5_isFedByLayerBefore_82 : decode cX5_isFedByLayerBefore 82 = .ok (.iload_n 3, 1) := by decide +kernel
theorem dX5_isFedByLayerBefore_83 : decode cX5_isFedByLayerBefore 83 = .ok (.aload_n 0, 1) := by decide +kernel
theorem dX5_isFedByLayerBefore_84 : decode cX5_isFedByLayerBefore 84 = .ok (.getfield 19, 3) := by decide +kernel
theorem dX5_isFedByLayerBefore_87 : decode cX5_isFedByLayerBefore 87 = .ok (.getfield 151, 3) := by decide +kernel
theorem dX5_isFedByLayerBefore_90 : decode cX5_isFedByLayerBefore 90 = .ok (.iload_n 1, 1) := by decide +kernel
theorem dX5_isFedByLayerBefore_91 : decode cX5_isFedByLayerBefore 91 = .ok (.iaload, 1) := by decide +kernel
theorem dX5_isFedByLayerBefore_92 : decode cX5_isFedByLayerBefore 92 = .ok (.if_icmp .ne 7, 3) := by decide +kernel
theorem dX5_isFedByLayerBefore_95 : decode cX5_isFedByLayerBefore 95 = .ok (.iconst 1, 1) := by decide +kernel
theorem dX5_isFedByLayerBefore_96 : decode cX5_isFedByLayerBefore 96 = .ok (.goto 4, 3) := by decide +kernel
theorem dX5_isFedByLayerBefore_99 : decode cX5_isFedByLayerBefore 99 = .ok (.iconst 0, 1) := by decide +kernel
theorem dX5_isFedByLayerBefore_100 : decode cX5_isFedByLayerBefore 100 = .ok (.ireturn, 1) := by decide +kernel
theorem dX5_lengthsRise_0 : decode cX5_lengthsRise 0 = .ok (.iconst 1, 1) := by decide +kernel
theorem dX5_lengthsRise_1 : decode cX5_lengthsRise 1 = .ok (.istore_n 1, 1) := by decide +kernel
theorem dX5_lengthsRise_2 : decode cX5_lengthsRise 2 = .ok (.iload_n 1, 1) := by decide +kernel
theorem dX5_lengthsRise_3 : decode cX5_lengthsRise 3 = .ok (.aload_n 0, 1) := by decide +kernel
theorem dX5_lengthsRise_4 : decode cX5_lengthsRise 4 = .ok (.getfield 19, 3) := by decide +kernel
theorem dX5_lengthsRise_7 : decode cX5_lengthsRise 7 = .ok (.getfield 131, 3) := by decide +kernel
theorem dX5_lengthsRise_10 : decode cX5_lengthsRise 10 = .ok (.if_icmp .ge 54, 3) := by decide +kernel
theorem dX5_lengthsRise_13 : decode cX5_lengthsRise 13 = .ok (.aload_n 0, 1) := by decide +kernel
theorem dX5_lengthsRise_14 : decode cX5_lengthsRise 14 = .ok (.getfield 19, 3) := by decide +kernel
theorem dX5_lengthsRise_17 : decode cX5_lengthsRise 17 = .ok (.getfield 148, 3) := by decide +kernel
theorem dX5_lengthsRise_20 : decode cX5_lengthsRise 20 = .ok (.iload_n 1, 1) := by decide +kernel
theorem dX5_lengthsRise_21 : decode cX5_lengthsRise 21 = .ok (.iconst 1, 1) := by decide +kernel
theorem dX5_lengthsRise_22 : decode cX5_lengthsRise 22 = .ok (.isub, 1) := by decide +kernel
theorem dX5_lengthsRise_23 : decode cX5_lengthsRise 23 = .ok (.iaload, 1) := by decide +kernel
theorem dX5_lengthsRise_24 : decode cX5_lengthsRise 24 = .ok (.istore_n 2, 1) := by decide +kernel
theorem dX5_lengthsRise_25 : decode cX5_lengthsRise 25 = .ok (.aload_n 0, 1) := by decide +kernel
theorem dX5_lengthsRise_26 : decode cX5_lengthsRise 26 = .ok (.getfield 19, 3) := by decide +kernel
theorem dX5_lengthsRise_29 : decode cX5_lengthsRise 29 = .ok (.getfield 148, 3) := by decide +kernel
theorem dX5_lengthsRise_32 : decode cX5_lengthsRise 32 = .ok (.iload_n 1, 1) := by decide +kernel
theorem dX5_lengthsRise_33 : decode cX5_lengthsRise 33 = .ok (.iaload, 1) := by decide +kernel
theorem dX5_lengthsRise_34 : decode cX5_lengthsRise 34 = .ok (.istore_n 3, 1) := by decide +kernel
theorem dX5_lengthsRise_35 : decode cX5_lengthsRise 35 = .ok (.aload_n 0, 1) := by decide +kernel
theorem dX5_lengthsRise_36 : decode cX5_lengthsRise 36 = .ok (.getfield 19, 3) := by decide +kernel
theorem dX5_lengthsRise_39 : decode cX5_lengthsRise 39 = .ok (.getfield 137, 3) := by decide +kernel
theorem dX5_lengthsRise_42 : decode cX5_lengthsRise 42 = .ok (.iload_n 2, 1) := by decide +kernel
theorem dX5_lengthsRise_43 : decode cX5_lengthsRise 43 = .ok (.iaload, 1) := by decide +kernel
theorem dX5_lengthsRise_44 : decode cX5_lengthsRise 44 = .ok (.aload_n 0, 1) := by decide +kernel
theorem dX5_lengthsRise_45 : decode cX5_lengthsRise 45 = .ok (.getfield 19, 3) := by decide +kernel
theorem dX5_lengthsRise_48 : decode cX5_lengthsRise 48 = .ok (.getfield 137, 3) := by decide +kernel
theorem dX5_lengthsRise_51 : decode cX5_lengthsRise 51 = .ok (.iload_n 3, 1) := by decide +kernel
theorem dX5_lengthsRise_52 : decode cX5_lengthsRise 52 = .ok (.iaload, 1) := by decide +kernel
theorem dX5_lengthsRise_53 : decode cX5_lengthsRise 53 = .ok (.if_icmp .le 5, 3) := by decide +kernel
theorem dX5_lengthsRise_56 : decode cX5_lengthsRise 56 = .ok (.iconst 0, 1) := by decide +kernel
theorem dX5_lengthsRise_57 : decode cX5_lengthsRise 57 = .ok (.ireturn, 1) := by decide +kernel
theorem dX5_lengthsRise_58 : decode cX5_lengthsRise 58 = .ok (.iinc 1 1, 3) := by decide +kernel
theorem dX5_lengthsRise_61 : decode cX5_lengthsRise 61 = .ok (.goto (-59), 3) := by decide +kernel
theorem dX5_lengthsRise_64 : decode cX5_lengthsRise 64 = .ok (.iconst 1, 1) := by decide +kernel
theorem dX5_lengthsRise_65 : decode cX5_lengthsRise 65 = .ok (.ireturn, 1) := by decide +kernel
theorem dX5_hasBit_0 : decode cX5_hasBit 0 = .ok (.iload_n 0, 1) := by decide +kernel
theorem dX5_hasBit_1 : decode cX5_hasBit 1 = .ok (.iload_n 1, 1) := by decide +kernel
theorem dX5_hasBit_2 : decode cX5_hasBit 2 = .ok (.iushr, 1) := by decide +kernel
theorem dX5_hasBit_3 : decode cX5_hasBit 3 = .ok (.iconst 1, 1) := by decide +kernel
theorem dX5_hasBit_4 : decode cX5_hasBit 4 = .ok (.iand, 1) := by decide +kernel
theorem dX5_hasBit_5 : decode cX5_hasBit 5 = .ok (.ifCond .eq 7, 3) := by decide +kernel
theorem dX5_hasBit_8 : decode cX5_hasBit 8 = .ok (.iconst 1, 1) := by decide +kernel
theorem dX5_hasBit_9 : decode cX5_hasBit 9 = .ok (.goto 4, 3) := by decide +kernel
theorem dX5_hasBit_12 : decode cX5_hasBit 12 = .ok (.iconst 0, 1) := by decide +kernel
theorem dX5_hasBit_13 : decode cX5_hasBit 13 = .ok (.ireturn, 1) := by decide +kernel
theorem dX6_init_0 : decode cX6_init 0 = .ok (.aload_n 0, 1) := by decide +kernel
theorem dX6_init_1 : decode cX6_init 1 = .ok (.invokespecial 1, 3) := by decide +kernel
theorem dX6_init_4 : decode cX6_init 4 = .ok (.aload_n 0, 1) := by decide +kernel
theorem dX6_init_5 : decode cX6_init 5 = .ok (.bipush 12, 2) := by decide +kernel
theorem dX6_init_7 : decode cX6_init 7 = .ok (.newarray .int, 2) := by decide +kernel
theorem dX6_init_9 : decode cX6_init 9 = .ok (.putfield 9, 3) := by decide +kernel
theorem dX6_init_12 : decode cX6_init 12 = .ok (.aload_n 0, 1) := by decide +kernel
theorem dX6_init_13 : decode cX6_init 13 = .ok (.bipush 12, 2) := by decide +kernel
theorem dX6_init_15 : decode cX6_init 15 = .ok (.bipush 12, 2) := by decide +kernel
theorem dX6_init_17 : decode cX6_init 17 = .ok (.multianewarray 13 2, 4) := by decide +kernel
theorem dX6_init_21 : decode cX6_init 21 = .ok (.putfield 15, 3) := by decide +kernel
theorem dX6_init_24 : decode cX6_init 24 = .ok (.aload_n 0, 1) := by decide +kernel
theorem dX6_init_25 : decode cX6_init 25 = .ok (.iconst (-1), 1) := by decide +kernel
theorem dX6_init_26 : decode cX6_init 26 = .ok (.putfield 18, 3) := by decide +kernel
theorem dX6_init_29 : decode cX6_init 29 = .ok (.aload_n 0, 1) := by decide +kernel
theorem dX6_init_30 : decode cX6_init 30 = .ok (.bipush 12, 2) := by decide +kernel
theorem dX6_init_32 : decode cX6_init 32 = .ok (.newarray .int, 2) := by decide +kernel
theorem dX6_init_34 : decode cX6_init 34 = .ok (.putfield 22, 3) := by decide +kernel
theorem dX6_init_37 : decode cX6_init 37 = .ok (.aload_n 0, 1) := by decide +kernel
theorem dX6_init_38 : decode cX6_init 38 = .ok (.bipush 12, 2) := by decide +kernel
theorem dX6_init_40 : decode cX6_init 40 = .ok (.newarray .int, 2) := by decide +kernel
theorem dX6_init_42 : decode cX6_init 42 = .ok (.putfield 25, 3) := by decide +kernel
theorem dX6_init_45 : decode cX6_init 45 = .ok (.return_, 1) := by decide +kernel
theorem dX6_thrown_0 : decode cX6_thrown 0 = .ok (.aload_n 0, 1) := by decide +kernel
theorem dX6_thrown_1 : decode cX6_thrown 1 = .ok (.getfield 28, 3) := by decide +kernel
theorem dX6_thrown_4 : decode cX6_thrown 4 = .ok (.ireturn, 1) := by decide +kernel
theorem dX6_can_0 : decode cX6_can 0 = .ok (.aload_n 0, 1) := by decide +kernel
theorem dX6_can_1 : decode cX6_can 1 = .ok (.iload_n 1, 1) := by decide +kernel
theorem dX6_can_2 : decode cX6_can 2 = .ok (.ifCond .ne 7, 3) := by decide +kernel
theorem dX6_can_5 : decode cX6_can 5 = .ok (.iconst 1, 1) := by decide +kernel
theorem dX6_can_6 : decode cX6_can 6 = .ok (.goto 20, 3) := by decide +kernel
theorem dX6_can_9 : decode cX6_can 9 = .ok (.iload_n 2, 1) := by decide +kernel
theorem dX6_can_10 : decode cX6_can 10 = .ok (.ifCond .ne 7, 3) := by decide +kernel
theorem dX6_can_13 : decode cX6_can 13 = .ok (.iconst 2, 1) := by decide +kernel
theorem dX6_can_14 : decode cX6_can 14 = .ok (.goto 12, 3) := by decide +kernel
theorem dX6_can_17 : decode cX6_can 17 = .ok (.iload_n 3, 1) := by decide +kernel
theorem dX6_can_18 : decode cX6_can 18 = .ok (.ifCond .ne 7, 3) := by decide +kernel
theorem dX6_can_21 : decode cX6_can 21 = .ok (.iconst 3, 1) := by decide +kernel
theorem dX6_can_22 : decode cX6_can 22 = .ok (.goto 4, 3) := by decide +kernel
theorem dX6_can_25 : decode cX6_can 25 = .ok (.iconst 0, 1) := by decide +kernel
theorem dX6_can_26 : decode cX6_can 26 = .ok (.putfield 28, 3) := by decide +kernel
theorem dX6_can_29 : decode cX6_can 29 = .ok (.aload_n 0, 1) := by decide +kernel
theorem dX6_can_30 : decode cX6_can 30 = .ok (.getfield 28, 3) := by decide +kernel
theorem dX6_can_33 : decode cX6_can 33 = .ok (.ifCond .ne 7, 3) := by decide +kernel
theorem dX6_can_36 : decode cX6_can 36 = .ok (.iconst 1, 1) := by decide +kernel
theorem dX6_can_37 : decode cX6_can 37 = .ok (.goto 4, 3) := by decide +kernel
theorem dX6_can_40 : decode cX6_can 40 = .ok (.iconst 0, 1) := by decide +kernel
theorem dX6_can_41 : decode cX6_can 41 = .ok (.ireturn, 1) := by decide +kernel
theorem dX6_at_0 : decode cX6_at 0 = .ok (.iconst 0, 1) := by decide +kernel
theorem dX6_at_1 : decode cX6_at 1 = .ok (.istore_n 2, 1) := by decide +kernel
theorem dX6_at_2 : decode cX6_at 2 = .ok (.iload_n 2, 1) := by decide +kernel
theorem dX6_at_3 : decode cX6_at 3 = .ok (.aload_n 0, 1) := by decide +kernel
theorem dX6_at_4 : decode cX6_at 4 = .ok (.getfield 31, 3) := by decide +kernel
theorem dX6_at_7 : decode cX6_at 7 = .ok (.if_icmp .ge 21, 3) := by decide +kernel
theorem dX6_at_10 : decode cX6_at 10 = .ok (.aload_n 0, 1) := by decide +kernel
theorem dX6_at_11 : decode cX6_at 11 = .ok (.getfield 9, 3) := by decide +kernel
theorem dX6_at_14 : decode cX6_at 14 = .ok (.iload_n 2, 1) := by decide +kernel
theorem dX6_at_15 : decode cX6_at 15 = .ok (.iaload, 1) := by decide +kernel
theorem dX6_at_16 : decode cX6_at 16 = .ok (.iload_n 1, 1) := by decide +kernel
theorem dX6_at_17 : decode cX6_at 17 = .ok (.if_icmp .ne 5, 3) := by decide +kernel
theorem dX6_at_20 : decode cX6_at 20 = .ok (.iload_n 2, 1) := by decide +kernel
theorem dX6_at_21 : decode cX6_at 21 = .ok (.ireturn, 1) := by decide +kernel
theorem dX6_at_22 : decode cX6_at 22 = .ok (.iinc 2 1, 3) := by decide +kernel
theorem dX6_at_25 : decode cX6_at 25 = .ok (.goto (-23), 3) := by decide +kernel
theorem dX6_at_28 : decode cX6_at 28 = .ok (.iconst (-1), 1) := by decide +kernel
theorem dX6_at_29 : decode cX6_at 29 = .ok (.ireturn, 1) := by decide +kernel
set_option maxRecDepth 20000 in
theorem ggX6_is_X6_at : GoodIn wsX6_is wsX6_at := goodIn_r _ [5, 6, 7, 8, 9, 10, 11, 12, 13, 14, 15] (by decide +kernel) (by decide +kernel)
set_option maxRecDepth 20000 in
theorem gX6_is_X6_at : GoodIn wsX6_is (wsV RX6 34 RX6 yX6_at wsX6_at) := goodIn_app (goodIn_of _ (by decide +kernel)) ggX6_is_X6_at
theorem dX6_is_0 : decode cX6_is 0 = .ok (.aload_n 0, 1) := by decide +kernel
theorem dX6_is_1 : decode cX6_is 1 = .ok (.iload_n 1, 1) := by decide +kernel
theorem dX6_is_2 : decode cX6_is 2 = .ok (.invokevirtual 34, 3) := by decide +kernel
theorem dX6_is_5 : decode cX6_is 5 = .ok (.ifCond .lt 7, 3) := by decide +kernel
theorem dX6_is_8 : decode cX6_is 8 = .ok (.iconst 1, 1) := by decide +kernel
theorem dX6_is_9 : decode cX6_is 9 = .ok (.goto 4, 3) := by decide +kernel
theorem dX6_is_12 : decode cX6_is 12 = .ok (.iconst 0, 1) := by decide +kernel
theorem dX6_is_13 : decode cX6_is 13 = .ok (.ireturn, 1) := by decide +kernel
set_option maxRecDepth 20000 in
theorem ggX6_place_X6_is : GoodIn wsX6_place wsX6_is := goodIn_r _ [10, 11, 12, 13, 9, 14, 1, 2, 20, 21, 22, 23, 24, 25, 26, 27] (by decide +kernel) (by decide +kernel)
set_option maxRecDepth 20000 in
theorem gX6_place_X6_is : GoodIn wsX6_place (wsV RX6 38 RX6 yX6_is wsX6_is) := goodIn_app (goodIn_of _ (by decide +kernel)) ggX6_place_X6_is
set_option maxRecDepth 20000 in
theorem ggX6_place_X6_can : GoodIn wsX6_place wsX6_can := goodIn_r _ [18, 19, 20, 21, 22, 23, 24, 25, 26, 27] (by decide +kernel) (by decide +kernel)
set_option maxRecDepth 20000 in
theorem gX6_place_X6_can : GoodIn wsX6_place (wsV RX6 42 RX6 yX6_can wsX6_can) := goodIn_app (goodIn_of _ (by decide +kernel)) ggX6_place_X6_can
theorem dX6_place_0 : decode cX6_place 0 = .ok (.aload_n 0, 1) := by decide +kernel
theorem dX6_place_1 : decode cX6_place 1 = .ok (.aload_n 0, 1) := by decide +kernel
theorem dX6_place_2 : decode cX6_place 2 = .ok (.iload_n 1, 1) := by decide +kernel
theorem dX6_place_3 : decode cX6_place 3 = .ok (.invokevirtual 38, 3) := by decide +kernel
theorem dX6_place_6 : decode cX6_place 6 = .ok (.ifCond .ne 7, 3) := by decide +kernel
theorem dX6_place_9 : decode cX6_place 9 = .ok (.iconst 1, 1) := by decide +kernel
theorem dX6_place_10 : decode cX6_place 10 = .ok (.goto 4, 3) := by decide +kernel
theorem dX6_place_13 : decode cX6_place 13 = .ok (.iconst 0, 1) := by decide +kernel
theorem dX6_place_14 : decode cX6_place 14 = .ok (.aload_n 0, 1) := by decide +kernel
theorem dX6_place_15 : decode cX6_place 15 = .ok (.getfield 31, 3) := by decide +kernel
theorem dX6_place_18 : decode cX6_place 18 = .ok (.bipush 12, 2) := by decide +kernel
theorem dX6_place_20 : decode cX6_place 20 = .ok (.if_icmp .ge 7, 3) := by decide +kernel
theorem dX6_place_23 : decode cX6_place 23 = .ok (.iconst 1, 1) := by decide +kernel
theorem dX6_place_24 : decode cX6_place 24 = .ok (.goto 4, 3) := by decide +kernel
theorem dX6_place_27 : decode cX6_place 27 = .ok (.iconst 0, 1) := by decide +kernel
theorem dX6_place_28 : decode cX6_place 28 = .ok (.iconst 1, 1) := by decide +kernel
theorem dX6_place_29 : decode cX6_place 29 = .ok (.invokevirtual 42, 3) := by decide +kernel
theorem dX6_place_32 : decode cX6_place 32 = .ok (.ifCond .ne 5, 3) := by decide +kernel
theorem dX6_place_35 : decode cX6_place 35 = .ok (.iconst 0, 1) := by decide +kernel
theorem dX6_place_36 : decode cX6_place 36 = .ok (.ireturn, 1) := by decide +kernel
theorem dX6_place_37 : decode cX6_place 37 = .ok (.aload_n 0, 1) := by decide +kernel
theorem dX6_place_38 : decode cX6_place 38 = .ok (.getfield 31, 3) := by decide +kernel
theorem dX6_place_41 : decode cX6_place 41 = .ok (.istore_n 2, 1) := by decide +kernel
theorem dX6_place_42 : decode cX6_place 42 = .ok (.iload_n 2, 1) := by decide +kernel
theorem dX6_place_43 : decode cX6_place 43 = .ok (.ifCond .le 21, 3) := by decide +kernel
theorem dX6_place_46 : decode cX6_place 46 = .ok (.aload_n 0, 1) := by decide +kernel
theorem dX6_place_47 : decode cX6_place 47 = .ok (.getfield 9, 3) := by decide +kernel
theorem dX6_place_50 : decode cX6_place 50 = .ok (.iload_n 2, 1) := by decide +kernel
theorem dX6_place_51 : decode cX6_place 51 = .ok (.iconst 1, 1) := by decide +kernel
theorem dX6_place_52 : decode cX6_place 52 = .ok (.isub, 1) := by decide +kernel
theorem dX6_place_53 : decode cX6_place 53 = .ok (.iaload, 1) := by decide +kernel
theorem dX6_place_54 : decode cX6_place 54 = .ok (.iload_n 1, 1) := by decide +kernel
theorem dX6_place_55 : decode cX6_place 55 = .ok (.if_icmp .le 9, 3) := by decide +kernel
theorem dX6_place_58 : decode cX6_place 58 = .ok (.iinc 2 (-1), 3) := by decide +kernel
theorem dX6_place_61 : decode cX6_place 61 = .ok (.goto (-19), 3) := by decide +kernel
theorem dX6_place_64 : decode cX6_place 64 = .ok (.aload_n 0, 1) := by decide +kernel
theorem dX6_place_65 : decode cX6_place 65 = .ok (.getfield 31, 3) := by decide +kernel
theorem dX6_place_68 : decode cX6_place 68 = .ok (.istore_n 3, 1) := by decide +kernel
theorem dX6_place_69 : decode cX6_place 69 = .ok (.iload_n 3, 1) := by decide +kernel
theorem dX6_place_70 : decode cX6_place 70 = .ok (.iload_n 2, 1) := by decide +kernel
theorem dX6_place_71 : decode cX6_place 71 = .ok (.if_icmp .le 23, 3) := by decide +kernel
theorem dX6_place_74 : decode cX6_place 74 = .ok (.aload_n 0, 1) := by decide +kernel
theorem dX6_place_75 : decode cX6_place 75 = .ok (.getfield 9, 3) := by decide +kernel
theorem dX6_place_78 : decode cX6_place 78 = .ok (.iload_n 3, 1) := by decide +kernel
theorem dX6_place_79 : decode cX6_place 79 = .ok (.aload_n 0, 1) := by decide +kernel
theorem dX6_place_80 : decode cX6_place 80 = .ok (.getfield 9, 3) := by decide +kernel
theorem dX6_place_83 : decode cX6_place 83 = .ok (.iload_n 3, 1) := by decide +kernel
theorem dX6_place_84 : decode cX6_place 84 = .ok (.iconst 1, 1) := by decide +kernel
theorem dX6_place_85 : decode cX6_place 85 = .ok (.isub, 1) := by decide +kernel
theorem dX6_place_86 : decode cX6_place 86 = .ok (.iaload, 1) := by decide +kernel
theorem dX6_place_87 : decode cX6_place 87 = .ok (.iastore, 1) := by decide +kernel
theorem dX6_place_88 : decode cX6_place 88 = .ok (.iinc 3 (-1), 3) := by decide +kernel
theorem dX6_place_91 : decode cX6_place 91 = .ok (.goto (-22), 3) := by decide +kernel
theorem dX6_place_94 : decode cX6_place 94 = .ok (.aload_n 0, 1) := by decide +kernel
theorem dX6_place_95 : decode cX6_place 95 = .ok (.getfield 9, 3) := by decide +kernel
theorem dX6_place_98 : decode cX6_place 98 = .ok (.iload_n 2, 1) := by decide +kernel
theorem dX6_place_99 : decode cX6_place 99 = .ok (.iload_n 1, 1) := by decide +kernel
theorem dX6_place_100 : decode cX6_place 100 = .ok (.iastore, 1) := by decide +kernel
theorem dX6_place_101 : decode cX6_place 101 = .ok (.aload_n 0, 1) := by decide +kernel
theorem dX6_place_102 : decode cX6_place 102 = .ok (.dup, 1) := by decide +kernel
theorem dX6_place_103 : decode cX6_place 103 = .ok (.getfield 31, 3) := by decide +kernel
theorem dX6_place_106 : decode cX6_place 106 = .ok (.iconst 1, 1) := by decide +kernel
theorem dX6_place_107 : decode cX6_place 107 = .ok (.iadd, 1) := by decide +kernel
theorem dX6_place_108 : decode cX6_place 108 = .ok (.putfield 31, 3) := by decide +kernel
theorem dX6_place_111 : decode cX6_place 111 = .ok (.aload_n 0, 1) := by decide +kernel
theorem dX6_place_112 : decode cX6_place 112 = .ok (.getfield 31, 3) := by decide +kernel
theorem dX6_place_115 : decode cX6_place 115 = .ok (.iconst 1, 1) := by decide +kernel
theorem dX6_place_116 : decode cX6_place 116 = .ok (.isub, 1) := by decide +kernel
theorem dX6_place_117 : decode cX6_place 117 = .ok (.istore_n 3, 1) := by decide +kernel
theorem dX6_place_118 : decode cX6_place 118 = .ok (.iload_n 3, 1) := by decide +kernel
theorem dX6_place_119 : decode cX6_place 119 = .ok (.ifCond .lt 89, 3) := by decide +kernel
theorem dX6_place_122 : decode cX6_place 122 = .ok (.aload_n 0, 1) := by decide +kernel
theorem dX6_place_123 : decode cX6_place 123 = .ok (.getfield 31, 3) := by decide +kernel
theorem dX6_place_126 : decode cX6_place 126 = .ok (.iconst 1, 1) := by decide +kernel
theorem dX6_place_127 : decode cX6_place 127 = .ok (.isub, 1) := by decide +kernel
theorem dX6_place_128 : decode cX6_place 128 = .ok (.istore 4, 2) := by decide +kernel
theorem dX6_place_130 : decode cX6_place 130 = .ok (.iload 4, 2) := by decide +kernel
theorem dX6_place_132 : decode cX6_place 132 = .ok (.ifCond .lt 70, 3) := by decide +kernel
theorem dX6_place_135 : decode cX6_place 135 = .ok (.aload_n 0, 1) := by decide +kernel
theorem dX6_place_136 : decode cX6_place 136 = .ok (.getfield 15, 3) := by decide +kernel
theorem dX6_place_139 : decode cX6_place 139 = .ok (.iload_n 3, 1) := by decide +kernel
theorem dX6_place_140 : decode cX6_place 140 = .ok (.aaload, 1) := by decide +kernel
theorem dX6_place_141 : decode cX6_place 141 = .ok (.iload 4, 2) := by decide +kernel
theorem dX6_place_143 : decode cX6_place 143 = .ok (.iload_n 3, 1) := by decide +kernel
theorem dX6_place_144 : decode cX6_place 144 = .ok (.iload_n 2, 1) := by decide +kernel
theorem dX6_place_145 : decode cX6_place 145 = .ok (.if_icmp .eq 49, 3) := by decide +kernel
theorem dX6_place_148 : decode cX6_place 148 = .ok (.iload 4, 2) := by decide +kernel
theorem dX6_place_150 : decode cX6_place 150 = .ok (.iload_n 2, 1) := by decide +kernel
theorem dX6_place_151 : decode cX6_place 151 = .ok (.if_icmp .eq 43, 3) := by decide +kernel
theorem dX6_place_154 : decode cX6_place 154 = .ok (.aload_n 0, 1) := by decide +kernel
theorem dX6_place_155 : decode cX6_place 155 = .ok (.getfield 15, 3) := by decide +kernel
theorem dX6_place_158 : decode cX6_place 158 = .ok (.iload_n 3, 1) := by decide +kernel
theorem dX6_place_159 : decode cX6_place 159 = .ok (.iload_n 2, 1) := by decide +kernel
theorem dX6_place_160 : decode cX6_place 160 = .ok (.if_icmp .le 9, 3) := by decide +kernel
theorem dX6_place_163 : decode cX6_place 163 = .ok (.iload_n 3, 1) := by decide +kernel
theorem dX6_place_164 : decode cX6_place 164 = .ok (.iconst 1, 1) := by decide +kernel
theorem dX6_place_165 : decode cX6_place 165 = .ok (.isub, 1) := by decide +kernel
theorem dX6_place_166 : decode cX6_place 166 = .ok (.goto 4, 3) := by decide +kernel
theorem dX6_place_169 : decode cX6_place 169 = .ok (.iload_n 3, 1) := by decide +kernel
theorem dX6_place_170 : decode cX6_place 170 = .ok (.aaload, 1) := by decide +kernel
theorem dX6_place_171 : decode cX6_place 171 = .ok (.iload 4, 2) := by decide +kernel
theorem dX6_place_173 : decode cX6_place 173 = .ok (.iload_n 2, 1) := by decide +kernel
theorem dX6_place_174 : decode cX6_place 174 = .ok (.if_icmp .le 10, 3) := by decide +kernel
theorem dX6_place_177 : decode cX6_place 177 = .ok (.iload 4, 2) := by decide +kernel
theorem dX6_place_179 : decode cX6_place 179 = .ok (.iconst 1, 1) := by decide +kernel
theorem dX6_place_180 : decode cX6_place 180 = .ok (.isub, 1) := by decide +kernel
theorem dX6_place_181 : decode cX6_place 181 = .ok (.goto 5, 3) := by decide +kernel
theorem dX6_place_184 : decode cX6_place 184 = .ok (.iload 4, 2) := by decide +kernel
theorem dX6_place_186 : decode cX6_place 186 = .ok (.baload, 1) := by decide +kernel
theorem dX6_place_187 : decode cX6_place 187 = .ok (.ifCond .eq 7, 3) := by decide +kernel
theorem dX6_place_190 : decode cX6_place 190 = .ok (.iconst 1, 1) := by decide +kernel
theorem dX6_place_191 : decode cX6_place 191 = .ok (.goto 4, 3) := by decide +kernel
theorem dX6_place_194 : decode cX6_place 194 = .ok (.iconst 0, 1) := by decide +kernel
theorem dX6_place_195 : decode cX6_place 195 = .ok (.bastore, 1) := by decide +kernel
theorem dX6_place_196 : decode cX6_place 196 = .ok (.iinc 4 (-1), 3) := by decide +kernel
theorem dX6_place_199 : decode cX6_place 199 = .ok (.goto (-69), 3) := by decide +kernel
theorem dX6_place_202 : decode cX6_place 202 = .ok (.iinc 3 (-1), 3) := by decide +kernel
theorem dX6_place_205 : decode cX6_place 205 = .ok (.goto (-87), 3) := by decide +kernel
theorem dX6_place_208 : decode cX6_place 208 = .ok (.aload_n 0, 1) := by decide +kernel
theorem dX6_place_209 : decode cX6_place 209 = .ok (.aload_n 0, 1) := by decide +kernel
theorem dX6_place_210 : decode cX6_place 210 = .ok (.getfield 18, 3) := by decide +kernel
theorem dX6_place_213 : decode cX6_place 213 = .ok (.iload_n 2, 1) := by decide +kernel
theorem dX6_place_214 : decode cX6_place 214 = .ok (.if_icmp .lt 12, 3) := by decide +kernel
theorem dX6_place_217 : decode cX6_place 217 = .ok (.aload_n 0, 1) := by decide +kernel
theorem dX6_place_218 : decode cX6_place 218 = .ok (.getfield 18, 3) := by decide +kernel
theorem dX6_place_221 : decode cX6_place 221 = .ok (.iconst 1, 1) := by decide +kernel
theorem dX6_place_222 : decode cX6_place 222 = .ok (.iadd, 1) := by decide +kernel
theorem dX6_place_223 : decode cX6_place 223 = .ok (.goto 7, 3) := by decide +kernel
theorem dX6_place_226 : decode cX6_place 226 = .ok (.aload_n 0, 1) := by decide +kernel
theorem dX6_place_227 : decode cX6_place 227 = .ok (.getfield 18, 3) := by decide +kernel
theorem dX6_place_230 : decode cX6_place 230 = .ok (.putfield 18, 3) := by decide +kernel
theorem dX6_place_233 : decode cX6_place 233 = .ok (.aload_n 0, 1) := by decide +kernel
theorem dX6_place_234 : decode cX6_place 234 = .ok (.iconst 0, 1) := by decide +kernel
theorem dX6_place_235 : decode cX6_place 235 = .ok (.putfield 46, 3) := by decide +kernel
theorem dX6_place_238 : decode cX6_place 238 = .ok (.aload_n 0, 1) := by decide +kernel
theorem dX6_place_239 : decode cX6_place 239 = .ok (.getfield 31, 3) := by decide +kernel
theorem dX6_place_242 : decode cX6_place 242 = .ok (.ireturn, 1) := by decide +kernel
set_option maxRecDepth 20000 in
theorem ggX6_leave_X6_is : GoodIn wsX6_leave wsX6_is := goodIn_r _ [10, 11, 12, 13, 9, 14, 1, 2, 24, 25, 26, 27, 28, 29, 30, 31] (by decide +kernel) (by decide +kernel)
set_option maxRecDepth 20000 in
theorem gX6_leave_X6_is : GoodIn wsX6_leave (wsV RX6 38 RX6 yX6_is wsX6_is) := goodIn_app (goodIn_of _ (by decide +kernel)) ggX6_leave_X6_is
set_option maxRecDepth 20000 in
theorem ggX6_leave_X6_can : GoodIn wsX6_leave wsX6_can := goodIn_r _ [18, 19, 24, 25, 26, 27, 28, 29, 30, 31] (by decide +kernel) (by decide +kernel)
set_option maxRecDepth 20000 in
theorem gX6_leave_X6_can : GoodIn wsX6_leave (wsV RX6 42 RX6 yX6_can wsX6_can) := goodIn_app (goodIn_of _ (by decide +kernel)) ggX6_leave_X6_can
set_option maxRecDepth 20000 in
theorem ggX6_leave_X6_at : GoodIn wsX6_leave wsX6_at := goodIn_r _ [14, 1, 2, 24, 25, 26, 27, 28, 29, 30, 31] (by decide +kernel) (by decide +kernel)
set_option maxRecDepth 20000 in
theorem gX6_leave_X6_at : GoodIn wsX6_leave (wsV RX6 34 RX6 yX6_at wsX6_at) := goodIn_app (goodIn_of _ (by decide +kernel)) ggX6_leave_X6_at
set_option maxRecDepth 20000 in
theorem ggX6_leave_X6_degree : GoodIn wsX6_leave wsX6_degree := goodIn_r _ [23, 1, 3, 24, 25, 26, 27, 28, 29, 30, 31] (by decide +kernel) (by decide +kernel)
set_option maxRecDepth 20000 in
theorem gX6_leave_X6_degree : GoodIn wsX6_leave (wsV RX6 49 RX6 yX6_degree wsX6_degree) := goodIn_app (goodIn_of _ (by decide +kernel)) ggX6_leave_X6_degree
theorem dX6_leave_0 : decode cX6_leave 0 = .ok (.aload_n 0, 1) := by decide +kernel
theorem dX6_leave_1 : decode cX6_leave 1 = .ok (.aload_n 0, 1) := by decide +kernel
theorem dX6_leave_2 : decode cX6_leave 2 = .ok (.iload_n 1, 1) := by decide +kernel
theorem dX6_leave_3 : decode cX6_leave 3 = .ok (.invokevirtual 38, 3) := by decide +kernel
theorem dX6_leave_6 : decode cX6_leave 6 = .ok (.iconst 1, 1) := by decide +kernel
theorem dX6_leave_7 : decode cX6_leave 7 = .ok (.iconst 1, 1) := by decide +kernel
theorem dX6_leave_8 : decode cX6_leave 8 = .ok (.invokevirtual 42, 3) := by decide +kernel
theorem dX6_leave_11 : decode cX6_leave 11 = .ok (.ifCond .ne 5, 3) := by decide +kernel
theorem dX6_leave_14 : decode cX6_leave 14 = .ok (.iconst 0, 1) := by decide +kernel
theorem dX6_leave_15 : decode cX6_leave 15 = .ok (.ireturn, 1) := by decide +kernel
theorem dX6_leave_16 : decode cX6_leave 16 = .ok (.aload_n 0, 1) := by decide +kernel
theorem dX6_leave_17 : decode cX6_leave 17 = .ok (.iload_n 1, 1) := by decide +kernel
theorem dX6_leave_18 : decode cX6_leave 18 = .ok (.invokevirtual 34, 3) := by decide +kernel
theorem dX6_leave_21 : decode cX6_leave 21 = .ok (.istore_n 2, 1) := by decide +kernel
theorem dX6_leave_22 : decode cX6_leave 22 = .ok (.aload_n 0, 1) := by decide +kernel
theorem dX6_leave_23 : decode cX6_leave 23 = .ok (.iload_n 2, 1) := by decide +kernel
theorem dX6_leave_24 : decode cX6_leave 24 = .ok (.invokevirtual 49, 3) := by decide +kernel
theorem dX6_leave_27 : decode cX6_leave 27 = .ok (.istore_n 3, 1) := by decide +kernel
theorem dX6_leave_28 : decode cX6_leave 28 = .ok (.aload_n 0, 1) := by decide +kernel
theorem dX6_leave_29 : decode cX6_leave 29 = .ok (.dup, 1) := by decide +kernel
theorem dX6_leave_30 : decode cX6_leave 30 = .ok (.getfield 31, 3) := by decide +kernel
theorem dX6_leave_33 : decode cX6_leave 33 = .ok (.iconst 1, 1) := by decide +kernel
theorem dX6_leave_34 : decode cX6_leave 34 = .ok (.isub, 1) := by decide +kernel
theorem dX6_leave_35 : decode cX6_leave 35 = .ok (.putfield 31, 3) := by decide +kernel
theorem dX6_leave_38 : decode cX6_leave 38 = .ok (.iload_n 2, 1) := by decide +kernel
theorem dX6_leave_39 : decode cX6_leave 39 = .ok (.istore 4, 2) := by decide +kernel
theorem dX6_leave_41 : decode cX6_leave 41 = .ok (.iload 4, 2) := by decide +kernel
theorem dX6_leave_43 : decode cX6_leave 43 = .ok (.aload_n 0, 1) := by decide +kernel
theorem dX6_leave_44 : decode cX6_leave 44 = .ok (.getfield 31, 3) := by decide +kernel
theorem dX6_leave_47 : decode cX6_leave 47 = .ok (.if_icmp .ge 25, 3) := by decide +kernel
theorem dX6_leave_50 : decode cX6_leave 50 = .ok (.aload_n 0, 1) := by decide +kernel
theorem dX6_leave_51 : decode cX6_leave 51 = .ok (.getfield 9, 3) := by decide +kernel
theorem dX6_leave_54 : decode cX6_leave 54 = .ok (.iload 4, 2) := by decide +kernel
theorem dX6_leave_56 : decode cX6_leave 56 = .ok (.aload_n 0, 1) := by decide +kernel
theorem dX6_leave_57 : decode cX6_leave 57 = .ok (.getfield 9, 3) := by decide +kernel
theorem dX6_leave_60 : decode cX6_leave 60 = .ok (.iload 4, 2) := by decide +kernel
theorem dX6_leave_62 : decode cX6_leave 62 = .ok (.iconst 1, 1) := by decide +kernel
theorem dX6_leave_63 : decode cX6_leave 63 = .ok (.iadd, 1) := by decide +kernel
theorem dX6_leave_64 : decode cX6_leave 64 = .ok (.iaload, 1) := by decide +kernel
theorem dX6_leave_65 : decode cX6_leave 65 = .ok (.iastore, 1) := by decide +kernel
theorem dX6_leave_66 : decode cX6_leave 66 = .ok (.iinc 4 1, 3) := by decide +kernel
theorem dX6_leave_69 : decode cX6_leave 69 = .ok (.goto (-28), 3) := by decide +kernel
theorem dX6_leave_72 : decode cX6_leave 72 = .ok (.iconst 0, 1) := by decide +kernel
theorem dX6_leave_73 : decode cX6_leave 73 = .ok (.istore 4, 2) := by decide +kernel
theorem dX6_leave_75 : decode cX6_leave 75 = .ok (.iload 4, 2) := by decide +kernel
theorem dX6_leave_77 : decode cX6_leave 77 = .ok (.aload_n 0, 1) := by decide +kernel
theorem dX6_leave_78 : decode cX6_leave 78 = .ok (.getfield 31, 3) := by decide +kernel
theorem dX6_leave_81 : decode cX6_leave 81 = .ok (.if_icmp .ge 73, 3) := by decide +kernel
theorem dX6_leave_84 : decode cX6_leave 84 = .ok (.iconst 0, 1) := by decide +kernel
theorem dX6_leave_85 : decode cX6_leave 85 = .ok (.istore 5, 2) := by decide +kernel
theorem dX6_leave_87 : decode cX6_leave 87 = .ok (.iload 5, 2) := by decide +kernel
theorem dX6_leave_89 : decode cX6_leave 89 = .ok (.aload_n 0, 1) := by decide +kernel
theorem dX6_leave_90 : decode cX6_leave 90 = .ok (.getfield 31, 3) := by decide +kernel
theorem dX6_leave_93 : decode cX6_leave 93 = .ok (.if_icmp .ge 55, 3) := by decide +kernel
theorem dX6_leave_96 : decode cX6_leave 96 = .ok (.aload_n 0, 1) := by decide +kernel
theorem dX6_leave_97 : decode cX6_leave 97 = .ok (.getfield 15, 3) := by decide +kernel
theorem dX6_leave_100 : decode cX6_leave 100 = .ok (.iload 4, 2) := by decide +kernel
theorem dX6_leave_102 : decode cX6_leave 102 = .ok (.aaload, 1) := by decide +kernel
theorem dX6_leave_103 : decode cX6_leave 103 = .ok (.iload 5, 2) := by decide +kernel
theorem dX6_leave_105 : decode cX6_leave 105 = .ok (.aload_n 0, 1) := by decide +kernel
theorem dX6_leave_106 : decode cX6_leave 106 = .ok (.getfield 15, 3) := by decide +kernel
theorem dX6_leave_109 : decode cX6_leave 109 = .ok (.iload 4, 2) := by decide +kernel
theorem dX6_leave_111 : decode cX6_leave 111 = .ok (.iload_n 2, 1) := by decide +kernel
theorem dX6_leave_112 : decode cX6_leave 112 = .ok (.if_icmp .ge 8, 3) := by decide +kernel
theorem dX6_leave_115 : decode cX6_leave 115 = .ok (.iload 4, 2) := by decide +kernel
theorem dX6_leave_117 : decode cX6_leave 117 = .ok (.goto 7, 3) := by decide +kernel
theorem dX6_leave_120 : decode cX6_leave 120 = .ok (.iload 4, 2) := by decide +kernel
theorem dX6_leave_122 : decode cX6_leave 122 = .ok (.iconst 1, 1) := by decide +kernel
theorem dX6_leave_123 : decode cX6_leave 123 = .ok (.iadd, 1) := by decide +kernel
theorem dX6_leave_124 : decode cX6_leave 124 = .ok (.aaload, 1) := by decide +kernel
theorem dX6_leave_125 : decode cX6_leave 125 = .ok (.iload 5, 2) := by decide +kernel
theorem dX6_leave_127 : decode cX6_leave 127 = .ok (.iload_n 2, 1) := by decide +kernel
theorem dX6_leave_128 : decode cX6_leave 128 = .ok (.if_icmp .ge 8, 3) := by decide +kernel
theorem dX6_leave_131 : decode cX6_leave 131 = .ok (.iload 5, 2) := by decide +kernel
theorem dX6_leave_133 : decode cX6_leave 133 = .ok (.goto 7, 3) := by decide +kernel
theorem dX6_leave_136 : decode cX6_leave 136 = .ok (.iload 5, 2) := by decide +kernel
theorem dX6_leave_138 : decode cX6_leave 138 = .ok (.iconst 1, 1) := by decide +kernel
theorem dX6_leave_139 : decode cX6_leave 139 = .ok (.iadd, 1) := by decide +kernel
theorem dX6_leave_140 : decode cX6_leave 140 = .ok (.baload, 1) := by decide +kernel
theorem dX6_leave_141 : decode cX6_leave 141 = .ok (.bastore, 1) := by decide +kernel
theorem dX6_leave_142 : decode cX6_leave 142 = .ok (.iinc 5 1, 3) := by decide +kernel
theorem dX6_leave_145 : decode cX6_leave 145 = .ok (.goto (-58), 3) := by decide +kernel
theorem dX6_leave_148 : decode cX6_leave 148 = .ok (.iinc 4 1, 3) := by decide +kernel
theorem dX6_leave_151 : decode cX6_leave 151 = .ok (.goto (-76), 3) := by decide +kernel
theorem dX6_leave_154 : decode cX6_leave 154 = .ok (.aload_n 0, 1) := by decide +kernel
theorem dX6_leave_155 : decode cX6_leave 155 = .ok (.aload_n 0, 1) := by decide +kernel
theorem dX6_leave_156 : decode cX6_leave 156 = .ok (.getfield 18, 3) := by decide +kernel
theorem dX6_leave_159 : decode cX6_leave 159 = .ok (.iload_n 2, 1) := by decide +kernel
theorem dX6_leave_160 : decode cX6_leave 160 = .ok (.if_icmp .ne 7, 3) := by decide +kernel
theorem dX6_leave_163 : decode cX6_leave 163 = .ok (.iconst (-1), 1) := by decide +kernel
theorem dX6_leave_164 : decode cX6_leave 164 = .ok (.goto 24, 3) := by decide +kernel
theorem dX6_leave_167 : decode cX6_leave 167 = .ok (.aload_n 0, 1) := by decide +kernel
theorem dX6_leave_168 : decode cX6_leave 168 = .ok (.getfield 18, 3) := by decide +kernel
theorem dX6_leave_171 : decode cX6_leave 171 = .ok (.iload_n 2, 1) := by decide +kernel
theorem dX6_leave_172 : decode cX6_leave 172 = .ok (.if_icmp .le 12, 3) := by decide +kernel
theorem dX6_leave_175 : decode cX6_leave 175 = .ok (.aload_n 0, 1) := by decide +kernel
theorem dX6_leave_176 : decode cX6_leave 176 = .ok (.getfield 18, 3) := by decide +kernel
theorem dX6_leave_179 : decode cX6_leave 179 = .ok (.iconst 1, 1) := by decide +kernel
theorem dX6_leave_180 : decode cX6_leave 180 = .ok (.isub, 1) := by decide +kernel
theorem dX6_leave_181 : decode cX6_leave 181 = .ok (.goto 7, 3) := by decide +kernel
theorem dX6_leave_184 : decode cX6_leave 184 = .ok (.aload_n 0, 1) := by decide +kernel
theorem dX6_leave_185 : decode cX6_leave 185 = .ok (.getfield 18, 3) := by decide +kernel
theorem dX6_leave_188 : decode cX6_leave 188 = .ok (.putfield 18, 3) := by decide +kernel
theorem dX6_leave_191 : decode cX6_leave 191 = .ok (.aload_n 0, 1) := by decide +kernel
theorem dX6_leave_192 : decode cX6_leave 192 = .ok (.iconst 0, 1) := by decide +kernel
theorem dX6_leave_193 : decode cX6_leave 193 = .ok (.putfield 46, 3) := by decide +kernel
theorem dX6_leave_196 : decode cX6_leave 196 = .ok (.iload_n 3, 1) := by decide +kernel
theorem dX6_leave_197 : decode cX6_leave 197 = .ok (.ireturn, 1) := by decide +kernel
theorem dX6_degree_0 : decode cX6_degree 0 = .ok (.iconst 0, 1) := by decide +kernel
theorem dX6_degree_1 : decode cX6_degree 1 = .ok (.istore_n 2, 1) := by decide +kernel
theorem dX6_degree_2 : decode cX6_degree 2 = .ok (.iconst 0, 1) := by decide +kernel
theorem dX6_degree_3 : decode cX6_degree 3 = .ok (.istore_n 3, 1) := by decide +kernel
theorem dX6_degree_4 : decode cX6_degree 4 = .ok (.iload_n 3, 1) := by decide +kernel
theorem dX6_degree_5 : decode cX6_degree 5 = .ok (.aload_n 0, 1) := by decide +kernel
theorem dX6_degree_6 : decode cX6_degree 6 = .ok (.getfield 31, 3) := by decide +kernel
theorem dX6_degree_9 : decode cX6_degree 9 = .ok (.if_icmp .ge 28, 3) := by decide +kernel
theorem dX6_degree_12 : decode cX6_degree 12 = .ok (.iload_n 2, 1) := by decide +kernel
theorem dX6_degree_13 : decode cX6_degree 13 = .ok (.aload_n 0, 1) := by decide +kernel
theorem dX6_degree_14 : decode cX6_degree 14 = .ok (.getfield 15, 3) := by decide +kernel
theorem dX6_degree_17 : decode cX6_degree 17 = .ok (.iload_n 1, 1) := by decide +kernel
theorem dX6_degree_18 : decode cX6_degree 18 = .ok (.aaload, 1) := by decide +kernel
theorem dX6_degree_19 : decode cX6_degree 19 = .ok (.iload_n 3, 1) := by decide +kernel
theorem dX6_degree_20 : decode cX6_degree 20 = .ok (.baload, 1) := by decide +kernel
theorem dX6_degree_21 : decode cX6_degree 21 = .ok (.ifCond .eq 7, 3) := by decide +kernel
theorem dX6_degree_24 : decode cX6_degree 24 = .ok (.iconst 1, 1) := by decide +kernel
theorem dX6_degree_25 : decode cX6_degree 25 = .ok (.goto 4, 3) := by decide +kernel
theorem dX6_degree_28 : decode cX6_degree 28 = .ok (.iconst 0, 1) := by decide +kernel
theorem dX6_degree_29 : decode cX6_degree 29 = .ok (.iadd, 1) := by decide +kernel
theorem dX6_degree_30 : decode cX6_degree 30 = .ok (.istore_n 2, 1) := by decide +kernel
theorem dX6_degree_31 : decode cX6_degree 31 = .ok (.iinc 3 1, 3) := by decide +kernel
theorem dX6_degree_34 : decode cX6_degree 34 = .ok (.goto (-30), 3) := by decide +kernel
theorem dX6_degree_37 : decode cX6_degree 37 = .ok (.iload_n 2, 1) := by decide +kernel
theorem dX6_degree_38 : decode cX6_degree 38 = .ok (.ireturn, 1) := by decide +kernel
set_option maxRecDepth 20000 in
theorem ggX6_turn_X6_lengths : GoodIn wsX6_turn wsX6_lengths := goodIn_r _ [12, 13, 4, 2, 14, 15, 16, 17, 18, 19, 20, 21] (by decide +kernel) (by decide +kernel)
set_option maxRecDepth 20000 in
theorem gX6_turn_X6_lengths : GoodIn wsX6_turn (wsV RX6 52 RX6 yX6_lengths wsX6_lengths) := goodIn_app (goodIn_of _ (by decide +kernel)) ggX6_turn_X6_lengths
theorem dX6_turn_0 : decode cX6_turn 0 = .ok (.aload_n 0, 1) := by decide +kernel
theorem dX6_turn_1 : decode cX6_turn 1 = .ok (.aload_n 0, 1) := by decide +kernel
theorem dX6_turn_2 : decode cX6_turn 2 = .ok (.getfield 18, 3) := by decide +kernel
theorem dX6_turn_5 : decode cX6_turn 5 = .ok (.invokevirtual 52, 3) := by decide +kernel
theorem dX6_turn_8 : decode cX6_turn 8 = .ok (.astore 4, 2) := by decide +kernel
theorem dX6_turn_10 : decode cX6_turn 10 = .ok (.aload_n 0, 1) := by decide +kernel
theorem dX6_turn_11 : decode cX6_turn 11 = .ok (.getfield 15, 3) := by decide +kernel
theorem dX6_turn_14 : decode cX6_turn 14 = .ok (.iload_n 1, 1) := by decide +kernel
theorem dX6_turn_15 : decode cX6_turn 15 = .ok (.aaload, 1) := by decide +kernel
theorem dX6_turn_16 : decode cX6_turn 16 = .ok (.iload_n 2, 1) := by decide +kernel
theorem dX6_turn_17 : decode cX6_turn 17 = .ok (.iload_n 3, 1) := by decide +kernel
theorem dX6_turn_18 : decode cX6_turn 18 = .ok (.bastore, 1) := by decide +kernel
theorem dX6_turn_19 : decode cX6_turn 19 = .ok (.aload_n 0, 1) := by decide +kernel
theorem dX6_turn_20 : decode cX6_turn 20 = .ok (.getfield 15, 3) := by decide +kernel
theorem dX6_turn_23 : decode cX6_turn 23 = .ok (.iload_n 2, 1) := by decide +kernel
theorem dX6_turn_24 : decode cX6_turn 24 = .ok (.aaload, 1) := by decide +kernel
theorem dX6_turn_25 : decode cX6_turn 25 = .ok (.iload_n 1, 1) := by decide +kernel
theorem dX6_turn_26 : decode cX6_turn 26 = .ok (.iload_n 3, 1) := by decide +kernel
theorem dX6_turn_27 : decode cX6_turn 27 = .ok (.bastore, 1) := by decide +kernel
theorem dX6_turn_28 : decode cX6_turn 28 = .ok (.aload_n 0, 1) := by decide +kernel
theorem dX6_turn_29 : decode cX6_turn 29 = .ok (.aload_n 0, 1) := by decide +kernel
theorem dX6_turn_30 : decode cX6_turn 30 = .ok (.getfield 18, 3) := by decide +kernel
theorem dX6_turn_33 : decode cX6_turn 33 = .ok (.invokevirtual 52, 3) := by decide +kernel
theorem dX6_turn_36 : decode cX6_turn 36 = .ok (.astore 5, 2) := by decide +kernel
theorem dX6_turn_38 : decode cX6_turn 38 = .ok (.aload_n 0, 1) := by decide +kernel
theorem dX6_turn_39 : decode cX6_turn 39 = .ok (.iconst 0, 1) := by decide +kernel
theorem dX6_turn_40 : decode cX6_turn 40 = .ok (.putfield 46, 3) := by decide +kernel
theorem dX6_turn_43 : decode cX6_turn 43 = .ok (.iconst 0, 1) := by decide +kernel
theorem dX6_turn_44 : decode cX6_turn 44 = .ok (.istore 6, 2) := by decide +kernel
theorem dX6_turn_46 : decode cX6_turn 46 = .ok (.iload 6, 2) := by decide +kernel
theorem dX6_turn_48 : decode cX6_turn 48 = .ok (.aload_n 0, 1) := by decide +kernel
theorem dX6_turn_49 : decode cX6_turn 49 = .ok (.getfield 31, 3) := by decide +kernel
theorem dX6_turn_52 : decode cX6_turn 52 = .ok (.if_icmp .ge 62, 3) := by decide +kernel
theorem dX6_turn_55 : decode cX6_turn 55 = .ok (.aload 4, 2) := by decide +kernel
theorem dX6_turn_57 : decode cX6_turn 57 = .ok (.iload 6, 2) := by decide +kernel
theorem dX6_turn_59 : decode cX6_turn 59 = .ok (.iaload, 1) := by decide +kernel
theorem dX6_turn_60 : decode cX6_turn 60 = .ok (.aload 5, 2) := by decide +kernel
theorem dX6_turn_62 : decode cX6_turn 62 = .ok (.iload 6, 2) := by decide +kernel
theorem dX6_turn_64 : decode cX6_turn 64 = .ok (.iaload, 1) := by decide +kernel
theorem dX6_turn_65 : decode cX6_turn 65 = .ok (.if_icmp .eq 43, 3) := by decide +kernel
theorem dX6_turn_68 : decode cX6_turn 68 = .ok (.aload_n 0, 1) := by decide +kernel
theorem dX6_turn_69 : decode cX6_turn 69 = .ok (.getfield 22, 3) := by decide +kernel
theorem dX6_turn_72 : decode cX6_turn 72 = .ok (.aload_n 0, 1) := by decide +kernel
theorem dX6_turn_73 : decode cX6_turn 73 = .ok (.getfield 46, 3) := by decide +kernel
theorem dX6_turn_76 : decode cX6_turn 76 = .ok (.aload_n 0, 1) := by decide +kernel
theorem dX6_turn_77 : decode cX6_turn 77 = .ok (.getfield 9, 3) := by decide +kernel
theorem dX6_turn_80 : decode cX6_turn 80 = .ok (.iload 6, 2) := by decide +kernel
theorem dX6_turn_82 : decode cX6_turn 82 = .ok (.iaload, 1) := by decide +kernel
theorem dX6_turn_83 : decode cX6_turn 83 = .ok (.iastore, 1) := by decide +kernel
theorem dX6_turn_84 : decode cX6_turn 84 = .ok (.aload_n 0, 1) := by decide +kernel
theorem dX6_turn_85 : decode cX6_turn 85 = .ok (.getfield 25, 3) := by decide +kernel
theorem dX6_turn_88 : decode cX6_turn 88 = .ok (.aload_n 0, 1) := by decide +kernel
theorem dX6_turn_89 : decode cX6_turn 89 = .ok (.getfield 46, 3) := by decide +kernel
theorem dX6_turn_92 : decode cX6_turn 92 = .ok (.aload 4, 2) := by decide +kernel
theorem dX6_turn_94 : decode cX6_turn 94 = .ok (.iload 6, 2) := by decide +kernel
theorem dX6_turn_96 : decode cX6_turn 96 = .ok (.iaload, 1) := by decide +kernel
theorem dX6_turn_97 : decode cX6_turn 97 = .ok (.iastore, 1) := by decide +kernel
theorem dX6_turn_98 : decode cX6_turn 98 = .ok (.aload_n 0, 1) := by decide +kernel
theorem dX6_turn_99 : decode cX6_turn 99 = .ok (.dup, 1) := by decide +kernel
theorem dX6_turn_100 : decode cX6_turn 100 = .ok (.getfield 46, 3) := by decide +kernel
theorem dX6_turn_103 : decode cX6_turn 103 = .ok (.iconst 1, 1) := by decide +kernel
theorem dX6_turn_104 : decode cX6_turn 104 = .ok (.iadd, 1) := by decide +kernel
theorem dX6_turn_105 : decode cX6_turn 105 = .ok (.putfield 46, 3) := by decide +kernel
theorem dX6_turn_108 : decode cX6_turn 108 = .ok (.iinc 6 1, 3) := by decide +kernel
theorem dX6_turn_111 : decode cX6_turn 111 = .ok (.goto (-65), 3) := by decide +kernel
theorem dX6_turn_114 : decode cX6_turn 114 = .ok (.aload_n 0, 1) := by decide +kernel
theorem dX6_turn_115 : decode cX6_turn 115 = .ok (.getfield 46, 3) := by decide +kernel
theorem dX6_turn_118 : decode cX6_turn 118 = .ok (.ireturn, 1) := by decide +kernel
set_option maxRecDepth 20000 in
theorem ggX6_street_X6_is : GoodIn wsX6_street wsX6_is := goodIn_r _ [6, 7, 8, 9, 5, 10, 11, 12, 31, 32, 33, 34, 35, 36, 37, 38] (by decide +kernel) (by decide +kernel)
set_option maxRecDepth 20000 in
theorem gX6_street_X6_is : GoodIn wsX6_street (wsV RX6 38 RX6 yX6_is wsX6_is) := goodIn_app (goodIn_of _ (by decide +kernel)) ggX6_street_X6_is
set_option maxRecDepth 20000 in
theorem ggX6_street_X6_can : GoodIn wsX6_street wsX6_can := goodIn_r _ [16, 17, 31, 32, 33, 34, 35, 36, 37, 38] (by decide +kernel) (by decide +kernel)
set_option maxRecDepth 20000 in
theorem gX6_street_X6_can : GoodIn wsX6_street (wsV RX6 42 RX6 yX6_can wsX6_can) := goodIn_app (goodIn_of _ (by decide +kernel)) ggX6_street_X6_can
set_option maxRecDepth 20000 in
theorem ggX6_street_X6_at : GoodIn wsX6_street wsX6_at := goodIn_r _ [10, 11, 12, 31, 32, 33, 34, 35, 36, 37, 38] (by decide +kernel) (by decide +kernel)
set_option maxRecDepth 20000 in
theorem gX6_street_X6_at : GoodIn wsX6_street (wsV RX6 34 RX6 yX6_at wsX6_at) := goodIn_app (goodIn_of _ (by decide +kernel)) ggX6_street_X6_at
set_option maxRecDepth 20000 in
theorem ggX6_street_X6_turn : GoodIn wsX6_street wsX6_turn := goodIn_r _ [21, 22, 1, 23, 11, 24, 12, 25, 26, 27, 28, 5, 29, 30, 31, 32, 33, 34, 35, 36, 37, 38] (by decide +kernel) (by decide +kernel)
set_option maxRecDepth 20000 in
theorem gX6_street_X6_turn : GoodIn wsX6_street (wsV RX6 56 RX6 yX6_turn wsX6_turn) := goodIn_app (goodIn_of _ (by decide +kernel)) ggX6_street_X6_turn
theorem dX6_street_0 : decode cX6_street 0 = .ok (.aload_n 0, 1) := by decide +kernel
theorem dX6_street_1 : decode cX6_street 1 = .ok (.aload_n 0, 1) := by decide +kernel
theorem dX6_street_2 : decode cX6_street 2 = .ok (.iload_n 1, 1) := by decide +kernel
theorem dX6_street_3 : decode cX6_street 3 = .ok (.invokevirtual 38, 3) := by decide +kernel
theorem dX6_street_6 : decode cX6_street 6 = .ok (.ifCond .eq 15, 3) := by decide +kernel
theorem dX6_street_9 : decode cX6_street 9 = .ok (.aload_n 0, 1) := by decide +kernel
theorem dX6_street_10 : decode cX6_street 10 = .ok (.iload_n 2, 1) := by decide +kernel
theorem dX6_street_11 : decode cX6_street 11 = .ok (.invokevirtual 38, 3) := by decide +kernel
theorem dX6_street_14 : decode cX6_street 14 = .ok (.ifCond .eq 7, 3) := by decide +kernel
theorem dX6_street_17 : decode cX6_street 17 = .ok (.iconst 1, 1) := by decide +kernel
theorem dX6_street_18 : decode cX6_street 18 = .ok (.goto 4, 3) := by decide +kernel
theorem dX6_street_21 : decode cX6_street 21 = .ok (.iconst 0, 1) := by decide +kernel
theorem dX6_street_22 : decode cX6_street 22 = .ok (.iload_n 1, 1) := by decide +kernel
theorem dX6_street_23 : decode cX6_street 23 = .ok (.iload_n 2, 1) := by decide +kernel
theorem dX6_street_24 : decode cX6_street 24 = .ok (.if_icmp .eq 7, 3) := by decide +kernel
theorem dX6_street_27 : decode cX6_street 27 = .ok (.iconst 1, 1) := by decide +kernel
theorem dX6_street_28 : decode cX6_street 28 = .ok (.goto 4, 3) := by decide +kernel
theorem dX6_street_31 : decode cX6_street 31 = .ok (.iconst 0, 1) := by decide +kernel
theorem dX6_street_32 : decode cX6_street 32 = .ok (.iconst 1, 1) := by decide +kernel
theorem dX6_street_33 : decode cX6_street 33 = .ok (.invokevirtual 42, 3) := by decide +kernel
theorem dX6_street_36 : decode cX6_street 36 = .ok (.ifCond .eq 36, 3) := by decide +kernel
theorem dX6_street_39 : decode cX6_street 39 = .ok (.aload_n 0, 1) := by decide +kernel
theorem dX6_street_40 : decode cX6_street 40 = .ok (.iconst 1, 1) := by decide +kernel
theorem dX6_street_41 : decode cX6_street 41 = .ok (.iconst 1, 1) := by decide +kernel
theorem dX6_street_42 : decode cX6_street 42 = .ok (.aload_n 0, 1) := by decide +kernel
theorem dX6_street_43 : decode cX6_street 43 = .ok (.getfield 15, 3) := by decide +kernel
theorem dX6_street_46 : decode cX6_street 46 = .ok (.aload_n 0, 1) := by decide +kernel
theorem dX6_street_47 : decode cX6_street 47 = .ok (.iload_n 1, 1) := by decide +kernel
theorem dX6_street_48 : decode cX6_street 48 = .ok (.invokevirtual 34, 3) := by decide +kernel
theorem dX6_street_51 : decode cX6_street 51 = .ok (.aaload, 1) := by decide +kernel
theorem dX6_street_52 : decode cX6_street 52 = .ok (.aload_n 0, 1) := by decide +kernel
theorem dX6_street_53 : decode cX6_street 53 = .ok (.iload_n 2, 1) := by decide +kernel
theorem dX6_street_54 : decode cX6_street 54 = .ok (.invokevirtual 34, 3) := by decide +kernel
theorem dX6_street_57 : decode cX6_street 57 = .ok (.baload, 1) := by decide +kernel
theorem dX6_street_58 : decode cX6_street 58 = .ok (.ifCond .ne 7, 3) := by decide +kernel
theorem dX6_street_61 : decode cX6_street 61 = .ok (.iconst 1, 1) := by decide +kernel
theorem dX6_street_62 : decode cX6_street 62 = .ok (.goto 4, 3) := by decide +kernel
theorem dX6_street_65 : decode cX6_street 65 = .ok (.iconst 0, 1) := by decide +kernel
theorem dX6_street_66 : decode cX6_street 66 = .ok (.invokevirtual 42, 3) := by decide +kernel
theorem dX6_street_69 : decode cX6_street 69 = .ok (.ifCond .ne 5, 3) := by decide +kernel
theorem dX6_street_72 : decode cX6_street 72 = .ok (.iconst 0, 1) := by decide +kernel
theorem dX6_street_73 : decode cX6_street 73 = .ok (.ireturn, 1) := by decide +kernel
theorem dX6_street_74 : decode cX6_street 74 = .ok (.aload_n 0, 1) := by decide +kernel
theorem dX6_street_75 : decode cX6_street 75 = .ok (.aload_n 0, 1) := by decide +kernel
theorem dX6_street_76 : decode cX6_street 76 = .ok (.iload_n 1, 1) := by decide +kernel
theorem dX6_street_77 : decode cX6_street 77 = .ok (.invokevirtual 34, 3) := by decide +kernel
theorem dX6_street_80 : decode cX6_street 80 = .ok (.aload_n 0, 1) := by decide +kernel
theorem dX6_street_81 : decode cX6_street 81 = .ok (.iload_n 2, 1) := by decide +kernel
theorem dX6_street_82 : decode cX6_street 82 = .ok (.invokevirtual 34, 3) := by decide +kernel
theorem dX6_street_85 : decode cX6_street 85 = .ok (.iconst 1, 1) := by decide +kernel
theorem dX6_street_86 : decode cX6_street 86 = .ok (.invokevirtual 56, 3) := by decide +kernel
theorem dX6_street_89 : decode cX6_street 89 = .ok (.ireturn, 1) := by decide +kernel
set_option maxRecDepth 20000 in
theorem ggX6_tear_X6_is : GoodIn wsX6_tear wsX6_is := goodIn_r _ [6, 7, 8, 9, 5, 10, 11, 12, 31, 32, 33, 34, 35, 36, 37, 38] (by decide +kernel) (by decide +kernel)
set_option maxRecDepth 20000 in
theorem gX6_tear_X6_is : GoodIn wsX6_tear (wsV RX6 38 RX6 yX6_is wsX6_is) := goodIn_app (goodIn_of _ (by decide +kernel)) ggX6_tear_X6_is
set_option maxRecDepth 20000 in
theorem ggX6_tear_X6_can : GoodIn wsX6_tear wsX6_can := goodIn_r _ [16, 17, 31, 32, 33, 34, 35, 36, 37, 38] (by decide +kernel) (by decide +kernel)
set_option maxRecDepth 20000 in
theorem gX6_tear_X6_can : GoodIn wsX6_tear (wsV RX6 42 RX6 yX6_can wsX6_can) := goodIn_app (goodIn_of _ (by decide +kernel)) ggX6_tear_X6_can
set_option maxRecDepth 20000 in
theorem ggX6_tear_X6_at : GoodIn wsX6_tear wsX6_at := goodIn_r _ [10, 11, 12, 31, 32, 33, 34, 35, 36, 37, 38] (by decide +kernel) (by decide +kernel)
set_option maxRecDepth 20000 in
theorem gX6_tear_X6_at : GoodIn wsX6_tear (wsV RX6 34 RX6 yX6_at wsX6_at) := goodIn_app (goodIn_of _ (by decide +kernel)) ggX6_tear_X6_at
set_option maxRecDepth 20000 in
theorem ggX6_tear_X6_turn : GoodIn wsX6_tear wsX6_turn := goodIn_r _ [21, 22, 1, 23, 11, 24, 12, 25, 26, 27, 28, 5, 29, 30, 31, 32, 33, 34, 35, 36, 37, 38] (by decide +kernel) (by decide +kernel)
set_option maxRecDepth 20000 in
theorem gX6_tear_X6_turn : GoodIn wsX6_tear (wsV RX6 56 RX6 yX6_turn wsX6_turn) := goodIn_app (goodIn_of _ (by decide +kernel)) ggX6_tear_X6_turn
theorem dX6_tear_0 : decode cX6_tear 0 = .ok (.aload_n 0, 1) := by decide +kernel
theorem dX6_tear_1 : decode cX6_tear 1 = .ok (.aload_n 0, 1) := by decide +kernel
theorem dX6_tear_2 : decode cX6_tear 2 = .ok (.iload_n 1, 1) := by decide +kernel
theorem dX6_tear_3 : decode cX6_tear 3 = .ok (.invokevirtual 38, 3) := by decide +kernel
theorem dX6_tear_6 : decode cX6_tear 6 = .ok (.ifCond .eq 15, 3) := by decide +kernel
theorem dX6_tear_9 : decode cX6_tear 9 = .ok (.aload_n 0, 1) := by decide +kernel
theorem dX6_tear_10 : decode cX6_tear 10 = .ok (.iload_n 2, 1) := by decide +kernel
theorem dX6_tear_11 : decode cX6_tear 11 = .ok (.invokevirtual 38, 3) := by decide +kernel
theorem dX6_tear_14 : decode cX6_tear 14 = .ok (.ifCond .eq 7, 3) := by decide +kernel
theorem dX6_tear_17 : decode cX6_tear 17 = .ok (.iconst 1, 1) := by decide +kernel
theorem dX6_tear_18 : decode cX6_tear 18 = .ok (.goto 4, 3) := by decide +kernel
theorem dX6_tear_21 : decode cX6_tear 21 = .ok (.iconst 0, 1) := by decide +kernel
theorem dX6_tear_22 : decode cX6_tear 22 = .ok (.iconst 1, 1) := by decide +kernel
theorem dX6_tear_23 : decode cX6_tear 23 = .ok (.iconst 1, 1) := by decide +kernel
theorem dX6_tear_24 : decode cX6_tear 24 = .ok (.invokevirtual 42, 3) := by decide +kernel
theorem dX6_tear_27 : decode cX6_tear 27 = .ok (.ifCond .eq 28, 3) := by decide +kernel
theorem dX6_tear_30 : decode cX6_tear 30 = .ok (.aload_n 0, 1) := by decide +kernel
theorem dX6_tear_31 : decode cX6_tear 31 = .ok (.aload_n 0, 1) := by decide +kernel
theorem dX6_tear_32 : decode cX6_tear 32 = .ok (.getfield 15, 3) := by decide +kernel
theorem dX6_tear_35 : decode cX6_tear 35 = .ok (.aload_n 0, 1) := by decide +kernel
theorem dX6_tear_36 : decode cX6_tear 36 = .ok (.iload_n 1, 1) := by decide +kernel
theorem dX6_tear_37 : decode cX6_tear 37 = .ok (.invokevirtual 34, 3) := by decide +kernel
theorem dX6_tear_40 : decode cX6_tear 40 = .ok (.aaload, 1) := by decide +kernel
theorem dX6_tear_41 : decode cX6_tear 41 = .ok (.aload_n 0, 1) := by decide +kernel
theorem dX6_tear_42 : decode cX6_tear 42 = .ok (.iload_n 2, 1) := by decide +kernel
theorem dX6_tear_43 : decode cX6_tear 43 = .ok (.invokevirtual 34, 3) := by decide +kernel
theorem dX6_tear_46 : decode cX6_tear 46 = .ok (.baload, 1) := by decide +kernel
theorem dX6_tear_47 : decode cX6_tear 47 = .ok (.iconst 1, 1) := by decide +kernel
theorem dX6_tear_48 : decode cX6_tear 48 = .ok (.iconst 1, 1) := by decide +kernel
theorem dX6_tear_49 : decode cX6_tear 49 = .ok (.invokevirtual 42, 3) := by decide +kernel
theorem dX6_tear_52 : decode cX6_tear 52 = .ok (.ifCond .ne 5, 3) := by decide +kernel
theorem dX6_tear_55 : decode cX6_tear 55 = .ok (.iconst 0, 1) := by decide +kernel
theorem dX6_tear_56 : decode cX6_tear 56 = .ok (.ireturn, 1) := by decide +kernel
theorem dX6_tear_57 : decode cX6_tear 57 = .ok (.aload_n 0, 1) := by decide +kernel
theorem dX6_tear_58 : decode cX6_tear 58 = .ok (.aload_n 0, 1) := by decide +kernel
theorem dX6_tear_59 : decode cX6_tear 59 = .ok (.iload_n 1, 1) := by decide +kernel
theorem dX6_tear_60 : decode cX6_tear 60 = .ok (.invokevirtual 34, 3) := by decide +kernel
theorem dX6_tear_63 : decode cX6_tear 63 = .ok (.aload_n 0, 1) := by decide +kernel
theorem dX6_tear_64 : decode cX6_tear 64 = .ok (.iload_n 2, 1) := by decide +kernel
theorem dX6_tear_65 : decode cX6_tear 65 = .ok (.invokevirtual 34, 3) := by decide +kernel
theorem dX6_tear_68 : decode cX6_tear 68 = .ok (.iconst 0, 1) := by decide +kernel
theorem dX6_tear_69 : decode cX6_tear 69 = .ok (.invokevirtual 56, 3) := by decide +kernel
theorem dX6_tear_72 : decode cX6_tear 72 = .ok (.ireturn, 1) := by decide +kernel
theorem dX6_places_0 : decode cX6_places 0 = .ok (.aload_n 0, 1) := by decide +kernel
theorem dX6_places_1 : decode cX6_places 1 = .ok (.iconst 0, 1) := by decide +kernel
theorem dX6_places_2 : decode cX6_places 2 = .ok (.putfield 28, 3) := by decide +kernel
theorem dX6_places_5 : decode cX6_places 5 = .ok (.aload_n 0, 1) := by decide +kernel
theorem dX6_places_6 : decode cX6_places 6 = .ok (.getfield 31, 3) := by decide +kernel
theorem dX6_places_9 : decode cX6_places 9 = .ok (.ireturn, 1) := by decide +kernel
set_option maxRecDepth 20000 in
theorem ggX6_streets_X6_degree : GoodIn wsX6_streets wsX6_degree := goodIn_r _ [7, 2, 8, 9, 10, 11, 12, 13, 14, 15, 16] (by decide +kernel) (by decide +kernel)
set_option maxRecDepth 20000 in
theorem gX6_streets_X6_degree : GoodIn wsX6_streets (wsV RX6 49 RX6 yX6_degree wsX6_degree) := goodIn_app (goodIn_of _ (by decide +kernel)) ggX6_streets_X6_degree
theorem dX6_streets_0 : decode cX6_streets 0 = .ok (.aload_n 0, 1) := by decide +kernel
theorem dX6_streets_1 : decode cX6_streets 1 = .ok (.iconst 0, 1) := by decide +kernel
theorem dX6_streets_2 : decode cX6_streets 2 = .ok (.putfield 28, 3) := by decide +kernel
theorem dX6_streets_5 : decode cX6_streets 5 = .ok (.iconst 0, 1) := by decide +kernel
theorem dX6_streets_6 : decode cX6_streets 6 = .ok (.istore_n 1, 1) := by decide +kernel
theorem dX6_streets_7 : decode cX6_streets 7 = .ok (.iconst 0, 1) := by decide +kernel
theorem dX6_streets_8 : decode cX6_streets 8 = .ok (.istore_n 2, 1) := by decide +kernel
theorem dX6_streets_9 : decode cX6_streets 9 = .ok (.iload_n 2, 1) := by decide +kernel
theorem dX6_streets_10 : decode cX6_streets 10 = .ok (.aload_n 0, 1) := by decide +kernel
theorem dX6_streets_11 : decode cX6_streets 11 = .ok (.getfield 31, 3) := by decide +kernel
theorem dX6_streets_14 : decode cX6_streets 14 = .ok (.if_icmp .ge 17, 3) := by decide +kernel
theorem dX6_streets_17 : decode cX6_streets 17 = .ok (.iload_n 1, 1) := by decide +kernel
theorem dX6_streets_18 : decode cX6_streets 18 = .ok (.aload_n 0, 1) := by decide +kernel
theorem dX6_streets_19 : decode cX6_streets 19 = .ok (.iload_n 2, 1) := by decide +kernel
theorem dX6_streets_20 : decode cX6_streets 20 = .ok (.invokevirtual 49, 3) := by decide +kernel
theorem dX6_streets_23 : decode cX6_streets 23 = .ok (.iadd, 1) := by decide +kernel
theorem dX6_streets_24 : decode cX6_streets 24 = .ok (.istore_n 1, 1) := by decide +kernel
theorem dX6_streets_25 : decode cX6_streets 25 = .ok (.iinc 2 1, 3) := by decide +kernel
theorem dX6_streets_28 : decode cX6_streets 28 = .ok (.goto (-19), 3) := by decide +kernel
theorem dX6_streets_31 : decode cX6_streets 31 = .ok (.iload_n 1, 1) := by decide +kernel
theorem dX6_streets_32 : decode cX6_streets 32 = .ok (.iconst 2, 1) := by decide +kernel
theorem dX6_streets_33 : decode cX6_streets 33 = .ok (.idiv, 1) := by decide +kernel
theorem dX6_streets_34 : decode cX6_streets 34 = .ok (.ireturn, 1) := by decide +kernel
set_option maxRecDepth 20000 in
theorem ggX6_isStreet_X6_is : GoodIn wsX6_isStreet wsX6_is := goodIn_r _ [6, 7, 8, 9, 5, 10, 11, 12, 18, 19, 20, 21, 22, 23, 24, 25] (by decide +kernel) (by decide +kernel)
set_option maxRecDepth 20000 in
theorem gX6_isStreet_X6_is : GoodIn wsX6_isStreet (wsV RX6 38 RX6 yX6_is wsX6_is) := goodIn_app (goodIn_of _ (by decide +kernel)) ggX6_isStreet_X6_is
set_option maxRecDepth 20000 in
theorem ggX6_isStreet_X6_can : GoodIn wsX6_isStreet wsX6_can := goodIn_r _ [16, 17, 18, 19, 20, 21, 22, 23, 24, 25] (by decide +kernel) (by decide +kernel)
set_option maxRecDepth 20000 in
theorem gX6_isStreet_X6_can : GoodIn wsX6_isStreet (wsV RX6 42 RX6 yX6_can wsX6_can) := goodIn_app (goodIn_of _ (by decide +kernel)) ggX6_isStreet_X6_can
set_option maxRecDepth 20000 in
theorem ggX6_isStreet_X6_at : GoodIn wsX6_isStreet wsX6_at := goodIn_r _ [10, 11, 12, 18, 19, 20, 21, 22, 23, 24, 25] (by decide +kernel) (by decide +kernel)
set_option maxRecDepth 20000 in
theorem gX6_isStreet_X6_at : GoodIn wsX6_isStreet (wsV RX6 34 RX6 yX6_at wsX6_at) := goodIn_app (goodIn_of _ (by decide +kernel)) ggX6_isStreet_X6_at
theorem dX6_isStreet_0 : decode cX6_isStreet 0 = .ok (.aload_n 0, 1) := by decide +kernel
theorem dX6_isStreet_1 : decode cX6_isStreet 1 = .ok (.aload_n 0, 1) := by decide +kernel
theorem dX6_isStreet_2 : decode cX6_isStreet 2 = .ok (.iload_n 1, 1) := by decide +kernel
theorem dX6_isStreet_3 : decode cX6_isStreet 3 = .ok (.invokevirtual 38, 3) := by decide +kernel
theorem dX6_isStreet_6 : decode cX6_isStreet 6 = .ok (.ifCond .eq 15, 3) := by decide +kernel
theorem dX6_isStreet_9 : decode cX6_isStreet 9 = .ok (.aload_n 0, 1) := by decide +kernel
theorem dX6_isStreet_10 : decode cX6_isStreet 10 = .ok (.iload_n 2, 1) := by decide +kernel
theorem dX6_isStreet_11 : decode cX6_isStreet 11 = .ok (.invokevirtual 38, 3) := by decide +kernel
theorem dX6_isStreet_14 : decode cX6_isStreet 14 = .ok (.ifCond .eq 7, 3) := by decide +kernel
theorem dX6_isStreet_17 : decode cX6_isStreet 17 = .ok (.iconst 1, 1) := by decide +kernel
theorem dX6_isStreet_18 : decode cX6_isStreet 18 = .ok (.goto 4, 3) := by decide +kernel
theorem dX6_isStreet_21 : decode cX6_isStreet 21 = .ok (.iconst 0, 1) := by decide +kernel
theorem dX6_isStreet_22 : decode cX6_isStreet 22 = .ok (.iconst 1, 1) := by decide +kernel
theorem dX6_isStreet_23 : decode cX6_isStreet 23 = .ok (.iconst 1, 1) := by decide +kernel
theorem dX6_isStreet_24 : decode cX6_isStreet 24 = .ok (.invokevirtual 42, 3) := by decide +kernel
theorem dX6_isStreet_27 : decode cX6_isStreet 27 = .ok (.ifCond .eq 26, 3) := by decide +kernel
theorem dX6_isStreet_30 : decode cX6_isStreet 30 = .ok (.aload_n 0, 1) := by decide +kernel
theorem dX6_isStreet_31 : decode cX6_isStreet 31 = .ok (.getfield 15, 3) := by decide +kernel
theorem dX6_isStreet_34 : decode cX6_isStreet 34 = .ok (.aload_n 0, 1) := by decide +kernel
theorem dX6_isStreet_35 : decode cX6_isStreet 35 = .ok (.iload_n 1, 1) := by decide +kernel
theorem dX6_isStreet_36 : decode cX6_isStreet 36 = .ok (.invokevirtual 34, 3) := by decide +kernel
theorem dX6_isStreet_39 : decode cX6_isStreet 39 = .ok (.aaload, 1) := by decide +kernel
theorem dX6_isStreet_40 : decode cX6_isStreet 40 = .ok (.aload_n 0, 1) := by decide +kernel
theorem dX6_isStreet_41 : decode cX6_isStreet 41 = .ok (.iload_n 2, 1) := by decide +kernel
theorem dX6_isStreet_42 : decode cX6_isStreet 42 = .ok (.invokevirtual 34, 3) := by decide +kernel
theorem dX6_isStreet_45 : decode cX6_isStreet 45 = .ok (.baload, 1) := by decide +kernel
theorem dX6_isStreet_46 : decode cX6_isStreet 46 = .ok (.ifCond .eq 7, 3) := by decide +kernel
theorem dX6_isStreet_49 : decode cX6_isStreet 49 = .ok (.iconst 1, 1) := by decide +kernel
theorem dX6_isStreet_50 : decode cX6_isStreet 50 = .ok (.goto 4, 3) := by decide +kernel
theorem dX6_isStreet_53 : decode cX6_isStreet 53 = .ok (.iconst 0, 1) := by decide +kernel
theorem dX6_isStreet_54 : decode cX6_isStreet 54 = .ok (.ireturn, 1) := by decide +kernel
set_option maxRecDepth 20000 in
theorem ggX6_keyAt_X6_can : GoodIn wsX6_keyAt wsX6_can := goodIn_r _ [7, 8, 9, 10, 11, 12, 13, 14, 15, 16] (by decide +kernel) (by decide +kernel)
set_option maxRecDepth 20000 in
theorem gX6_keyAt_X6_can : GoodIn wsX6_keyAt (wsV RX6 42 RX6 yX6_can wsX6_can) := goodIn_app (goodIn_of _ (by decide +kernel)) ggX6_keyAt_X6_can
theorem dX6_keyAt_0 : decode cX6_keyAt 0 = .ok (.aload_n 0, 1) := by decide +kernel
theorem dX6_keyAt_1 : decode cX6_keyAt 1 = .ok (.iload_n 1, 1) := by decide +kernel
theorem dX6_keyAt_2 : decode cX6_keyAt 2 = .ok (.ifCond .lt 15, 3) := by decide +kernel
theorem dX6_keyAt_5 : decode cX6_keyAt 5 = .ok (.iload_n 1, 1) := by decide +kernel
theorem dX6_keyAt_6 : decode cX6_keyAt 6 = .ok (.aload_n 0, 1) := by decide +kernel
theorem dX6_keyAt_7 : decode cX6_keyAt 7 = .ok (.getfield 31, 3) := by decide +kernel
theorem dX6_keyAt_10 : decode cX6_keyAt 10 = .ok (.if_icmp .ge 7, 3) := by decide +kernel
theorem dX6_keyAt_13 : decode cX6_keyAt 13 = .ok (.iconst 1, 1) := by decide +kernel
theorem dX6_keyAt_14 : decode cX6_keyAt 14 = .ok (.goto 4, 3) := by decide +kernel
theorem dX6_keyAt_17 : decode cX6_keyAt 17 = .ok (.iconst 0, 1) := by decide +kernel
theorem dX6_keyAt_18 : decode cX6_keyAt 18 = .ok (.iconst 1, 1) := by decide +kernel
theorem dX6_keyAt_19 : decode cX6_keyAt 19 = .ok (.iconst 1, 1) := by decide +kernel
theorem dX6_keyAt_20 : decode cX6_keyAt 20 = .ok (.invokevirtual 42, 3) := by decide +kernel
theorem dX6_keyAt_23 : decode cX6_keyAt 23 = .ok (.ifCond .eq 12, 3) := by decide +kernel
theorem dX6_keyAt_26 : decode cX6_keyAt 26 = .ok (.aload_n 0, 1) := by decide +kernel
theorem dX6_keyAt_27 : decode cX6_keyAt 27 = .ok (.getfield 9, 3) := by decide +kernel
theorem dX6_keyAt_30 : decode cX6_keyAt 30 = .ok (.iload_n 1, 1) := by decide +kernel
theorem dX6_keyAt_31 : decode cX6_keyAt 31 = .ok (.iaload, 1) := by decide +kernel
theorem dX6_keyAt_32 : decode cX6_keyAt 32 = .ok (.goto 4, 3) := by decide +kernel
theorem dX6_keyAt_35 : decode cX6_keyAt 35 = .ok (.iconst 0, 1) := by decide +kernel
theorem dX6_keyAt_36 : decode cX6_keyAt 36 = .ok (.ireturn, 1) := by decide +kernel
theorem dX6_lengths_0 : decode cX6_lengths 0 = .ok (.bipush 12, 2) := by decide +kernel
theorem dX6_lengths_2 : decode cX6_lengths 2 = .ok (.newarray .int, 2) := by decide +kernel
theorem dX6_lengths_4 : decode cX6_lengths 4 = .ok (.astore_n 2, 1) := by decide +kernel
theorem dX6_lengths_5 : decode cX6_lengths 5 = .ok (.iconst 0, 1) := by decide +kernel
theorem dX6_lengths_6 : decode cX6_lengths 6 = .ok (.istore_n 3, 1) := by decide +kernel
theorem dX6_lengths_7 : decode cX6_lengths 7 = .ok (.iload_n 3, 1) := by decide +kernel
theorem dX6_lengths_8 : decode cX6_lengths 8 = .ok (.bipush 12, 2) := by decide +kernel
theorem dX6_lengths_10 : decode cX6_lengths 10 = .ok (.if_icmp .ge 22, 3) := by decide +kernel
theorem dX6_lengths_13 : decode cX6_lengths 13 = .ok (.aload_n 2, 1) := by decide +kernel
theorem dX6_lengths_14 : decode cX6_lengths 14 = .ok (.iload_n 3, 1) := by decide +kernel
theorem dX6_lengths_15 : decode cX6_lengths 15 = .ok (.iload_n 3, 1) := by decide +kernel
theorem dX6_lengths_16 : decode cX6_lengths 16 = .ok (.iload_n 1, 1) := by decide +kernel
theorem dX6_lengths_17 : decode cX6_lengths 17 = .ok (.if_icmp .ne 7, 3) := by decide +kernel
theorem dX6_lengths_20 : decode cX6_lengths 20 = .ok (.iconst 0, 1) := by decide +kernel
theorem dX6_lengths_21 : decode cX6_lengths 21 = .ok (.goto 4, 3) := by decide +kernel
theorem dX6_lengths_24 : decode cX6_lengths 24 = .ok (.iconst (-1), 1) := by decide +kernel
theorem dX6_lengths_25 : decode cX6_lengths 25 = .ok (.iastore, 1) := by decide +kernel
theorem dX6_lengths_26 : decode cX6_lengths 26 = .ok (.iinc 3 1, 3) := by decide +kernel
theorem dX6_lengths_29 : decode cX6_lengths 29 = .ok (.goto (-22), 3) := by decide +kernel
theorem dX6_lengths_32 : decode cX6_lengths 32 = .ok (.iconst 1, 1) := by decide +kernel
theorem dX6_lengths_33 : decode cX6_lengths 33 = .ok (.istore_n 3, 1) := by decide +kernel
theorem dX6_lengths_34 : decode cX6_lengths 34 = .ok (.iload_n 3, 1) := by decide +kernel
theorem dX6_lengths_35 : decode cX6_lengths 35 = .ok (.aload_n 0, 1) := by decide +kernel
theorem dX6_lengths_36 : decode cX6_lengths 36 = .ok (.getfield 31, 3) := by decide +kernel
theorem dX6_lengths_39 : decode cX6_lengths 39 = .ok (.if_icmp .ge 88, 3) := by decide +kernel
theorem dX6_lengths_42 : decode cX6_lengths 42 = .ok (.iconst 0, 1) := by decide +kernel
theorem dX6_lengths_43 : decode cX6_lengths 43 = .ok (.istore 4, 2) := by decide +kernel
theorem dX6_lengths_45 : decode cX6_lengths 45 = .ok (.iload 4, 2) := by decide +kernel
theorem dX6_lengths_47 : decode cX6_lengths 47 = .ok (.aload_n 0, 1) := by decide +kernel
theorem dX6_lengths_48 : decode cX6_lengths 48 = .ok (.getfield 31, 3) := by decide +kernel
theorem dX6_lengths_51 : decode cX6_lengths 51 = .ok (.if_icmp .ge 70, 3) := by decide +kernel
theorem dX6_lengths_54 : decode cX6_lengths 54 = .ok (.iconst 0, 1) := by decide +kernel
theorem dX6_lengths_55 : decode cX6_lengths 55 = .ok (.istore 5, 2) := by decide +kernel
theorem dX6_lengths_57 : decode cX6_lengths 57 = .ok (.iload 5, 2) := by decide +kernel
theorem dX6_lengths_59 : decode cX6_lengths 59 = .ok (.aload_n 0, 1) := by decide +kernel
theorem dX6_lengths_60 : decode cX6_lengths 60 = .ok (.getfield 31, 3) := by decide +kernel
theorem dX6_lengths_63 : decode cX6_lengths 63 = .ok (.if_icmp .ge 52, 3) := by decide +kernel
theorem dX6_lengths_66 : decode cX6_lengths 66 = .ok (.aload_n 2, 1) := by decide +kernel
theorem dX6_lengths_67 : decode cX6_lengths 67 = .ok (.iload 5, 2) := by decide +kernel
theorem dX6_lengths_69 : decode cX6_lengths 69 = .ok (.aload_n 0, 1) := by decide +kernel
theorem dX6_lengths_70 : decode cX6_lengths 70 = .ok (.getfield 15, 3) := by decide +kernel
theorem dX6_lengths_73 : decode cX6_lengths 73 = .ok (.iload 4, 2) := by decide +kernel
theorem dX6_lengths_75 : decode cX6_lengths 75 = .ok (.aaload, 1) := by decide +kernel
theorem dX6_lengths_76 : decode cX6_lengths 76 = .ok (.iload 5, 2) := by decide +kernel
theorem dX6_lengths_78 : decode cX6_lengths 78 = .ok (.baload, 1) := by decide +kernel
theorem dX6_lengths_79 : decode cX6_lengths 79 = .ok (.ifCond .eq 25, 3) := by decide +kernel
theorem dX6_lengths_82 : decode cX6_lengths 82 = .ok (.aload_n 2, 1) := by decide +kernel
theorem dX6_lengths_83 : decode cX6_lengths 83 = .ok (.iload 4, 2) := by decide +kernel
theorem dX6_lengths_85 : decode cX6_lengths 85 = .ok (.iaload, 1) := by decide +kernel
theorem dX6_lengths_86 : decode cX6_lengths 86 = .ok (.iload_n 3, 1) := by decide +kernel
theorem dX6_lengths_87 : decode cX6_lengths 87 = .ok (.iconst 1, 1) := by decide +kernel
theorem dX6_lengths_88 : decode cX6_lengths 88 = .ok (.isub, 1) := by decide +kernel
theorem dX6_lengths_89 : decode cX6_lengths 89 = .ok (.if_icmp .ne 15, 3) := by decide +kernel
theorem dX6_lengths_92 : decode cX6_lengths 92 = .ok (.aload_n 2, 1) := by decide +kernel
theorem dX6_lengths_93 : decode cX6_lengths 93 = .ok (.iload 5, 2) := by decide +kernel
theorem dX6_lengths_95 : decode cX6_lengths 95 = .ok (.iaload, 1) := by decide +kernel
theorem dX6_lengths_96 : decode cX6_lengths 96 = .ok (.iconst (-1), 1) := by decide +kernel
theorem dX6_lengths_97 : decode cX6_lengths 97 = .ok (.if_icmp .ne 7, 3) := by decide +kernel
theorem dX6_lengths_100 : decode cX6_lengths 100 = .ok (.iload_n 3, 1) := by decide +kernel
theorem dX6_lengths_101 : decode cX6_lengths 101 = .ok (.goto 7, 3) := by decide +kernel
theorem dX6_lengths_104 : decode cX6_lengths 104 = .ok (.aload_n 2, 1) := by decide +kernel
theorem dX6_lengths_105 : decode cX6_lengths 105 = .ok (.iload 5, 2) := by decide +kernel
theorem dX6_lengths_107 : decode cX6_lengths 107 = .ok (.iaload, 1) := by decide +kernel
theorem dX6_lengths_108 : decode cX6_lengths 108 = .ok (.iastore, 1) := by decide +kernel
theorem dX6_lengths_109 : decode cX6_lengths 109 = .ok (.iinc 5 1, 3) := by decide +kernel
theorem dX6_lengths_112 : decode cX6_lengths 112 = .ok (.goto (-55), 3) := by decide +kernel
theorem dX6_lengths_115 : decode cX6_lengths 115 = .ok (.iinc 4 1, 3) := by decide +kernel
theorem dX6_lengths_118 : decode cX6_lengths 118 = .ok (.goto (-73), 3) := by decide +kernel
theorem dX6_lengths_121 : decode cX6_lengths 121 = .ok (.iinc 3 1, 3) := by decide +kernel
theorem dX6_lengths_124 : decode cX6_lengths 124 = .ok (.goto (-90), 3) := by decide +kernel
theorem dX6_lengths_127 : decode cX6_lengths 127 = .ok (.aload_n 2, 1) := by decide +kernel
theorem dX6_lengths_128 : decode cX6_lengths 128 = .ok (.areturn, 1) := by decide +kernel
theorem dX6_greatest_0 : decode cX6_greatest 0 = .ok (.iconst 0, 1) := by decide +kernel
theorem dX6_greatest_1 : decode cX6_greatest 1 = .ok (.istore_n 2, 1) := by decide +kernel
theorem dX6_greatest_2 : decode cX6_greatest 2 = .ok (.iconst 0, 1) := by decide +kernel
theorem dX6_greatest_3 : decode cX6_greatest 3 = .ok (.istore_n 3, 1) := by decide +kernel
theorem dX6_greatest_4 : decode cX6_greatest 4 = .ok (.iload_n 3, 1) := by decide +kernel
theorem dX6_greatest_5 : decode cX6_greatest 5 = .ok (.aload_n 0, 1) := by decide +kernel
theorem dX6_greatest_6 : decode cX6_greatest 6 = .ok (.getfield 31, 3) := by decide +kernel
theorem dX6_greatest_9 : decode cX6_greatest 9 = .ok (.if_icmp .ge 24, 3) := by decide +kernel
theorem dX6_greatest_12 : decode cX6_greatest 12 = .ok (.aload_n 1, 1) := by decide +kernel
theorem dX6_greatest_13 : decode cX6_greatest 13 = .ok (.iload_n 3, 1) := by decide +kernel
theorem dX6_greatest_14 : decode cX6_greatest 14 = .ok (.iaload, 1) := by decide +kernel
theorem dX6_greatest_15 : decode cX6_greatest 15 = .ok (.iload_n 2, 1) := by decide +kernel
theorem dX6_greatest_16 : decode cX6_greatest 16 = .ok (.if_icmp .le 9, 3) := by decide +kernel
theorem dX6_greatest_19 : decode cX6_greatest 19 = .ok (.aload_n 1, 1) := by decide +kernel
theorem dX6_greatest_20 : decode cX6_greatest 20 = .ok (.iload_n 3, 1) := by decide +kernel
theorem dX6_greatest_21 : decode cX6_greatest 21 = .ok (.iaload, 1) := by decide +kernel
theorem dX6_greatest_22 : decode cX6_greatest 22 = .ok (.goto 4, 3) := by decide +kernel
theorem dX6_greatest_25 : decode cX6_greatest 25 = .ok (.iload_n 2, 1) := by decide +kernel
theorem dX6_greatest_26 : decode cX6_greatest 26 = .ok (.istore_n 2, 1) := by decide +kernel
theorem dX6_greatest_27 : decode cX6_greatest 27 = .ok (.iinc 3 1, 3) := by decide +kernel
theorem dX6_greatest_30 : decode cX6_greatest 30 = .ok (.goto (-26), 3) := by decide +kernel
theorem dX6_greatest_33 : decode cX6_greatest 33 = .ok (.iload_n 2, 1) := by decide +kernel
theorem dX6_greatest_34 : decode cX6_greatest 34 = .ok (.ireturn, 1) := by decide +kernel
theorem dX6_having_0 : decode cX6_having 0 = .ok (.iconst 0, 1) := by decide +kernel
theorem dX6_having_1 : decode cX6_having 1 = .ok (.istore_n 3, 1) := by decide +kernel
theorem dX6_having_2 : decode cX6_having 2 = .ok (.iconst 0, 1) := by decide +kernel
theorem dX6_having_3 : decode cX6_having 3 = .ok (.istore 4, 2) := by decide +kernel
theorem dX6_having_5 : decode cX6_having 5 = .ok (.iload 4, 2) := by decide +kernel
theorem dX6_having_7 : decode cX6_having 7 = .ok (.aload_n 0, 1) := by decide +kernel
theorem dX6_having_8 : decode cX6_having 8 = .ok (.getfield 31, 3) := by decide +kernel
theorem dX6_having_11 : decode cX6_having 11 = .ok (.if_icmp .ge 25, 3) := by decide +kernel
theorem dX6_having_14 : decode cX6_having 14 = .ok (.iload_n 3, 1) := by decide +kernel
theorem dX6_having_15 : decode cX6_having 15 = .ok (.aload_n 1, 1) := by decide +kernel
theorem dX6_having_16 : decode cX6_having 16 = .ok (.iload 4, 2) := by decide +kernel
theorem dX6_having_18 : decode cX6_having 18 = .ok (.iaload, 1) := by decide +kernel
theorem dX6_having_19 : decode cX6_having 19 = .ok (.iload_n 2, 1) := by decide +kernel
theorem dX6_having_20 : decode cX6_having 20 = .ok (.if_icmp .ne 7, 3) := by decide +kernel
theorem dX6_having_23 : decode cX6_having 23 = .ok (.iconst 1, 1) := by decide +kernel
theorem dX6_having_24 : decode cX6_having 24 = .ok (.goto 4, 3) := by decide +kernel
theorem dX6_having_27 : decode cX6_having 27 = .ok (.iconst 0, 1) := by decide +kernel
theorem dX6_having_28 : decode cX6_having 28 = .ok (.iadd, 1) := by decide +kernel
theorem dX6_having_29 : decode cX6_having 29 = .ok (.istore_n 3, 1) := by decide +kernel
theorem dX6_having_30 : decode cX6_having 30 = .ok (.iinc 4 1, 3) := by decide +kernel
theorem dX6_having_33 : decode cX6_having 33 = .ok (.goto (-28), 3) := by decide +kernel
theorem dX6_having_36 : decode cX6_having 36 = .ok (.iload_n 3, 1) := by decide +kernel
theorem dX6_having_37 : decode cX6_having 37 = .ok (.ireturn, 1) := by decide +kernel
set_option maxRecDepth 20000 in
theorem ggX6_begin_X6_is : GoodIn wsX6_begin wsX6_is := goodIn_r _ [8, 9, 10, 11, 7, 12, 3, 13, 29, 30, 31, 32, 33, 34, 35, 36] (by decide +kernel) (by decide +kernel)
set_option maxRecDepth 20000 in
theorem gX6_begin_X6_is : GoodIn wsX6_begin (wsV RX6 38 RX6 yX6_is wsX6_is) := goodIn_app (goodIn_of _ (by decide +kernel)) ggX6_begin_X6_is
set_option maxRecDepth 20000 in
theorem ggX6_begin_X6_can : GoodIn wsX6_begin wsX6_can := goodIn_r _ [17, 18, 29, 30, 31, 32, 33, 34, 35, 36] (by decide +kernel) (by decide +kernel)
set_option maxRecDepth 20000 in
theorem gX6_begin_X6_can : GoodIn wsX6_begin (wsV RX6 42 RX6 yX6_can wsX6_can) := goodIn_app (goodIn_of _ (by decide +kernel)) ggX6_begin_X6_can
set_option maxRecDepth 20000 in
theorem ggX6_begin_X6_at : GoodIn wsX6_begin wsX6_at := goodIn_r _ [12, 3, 13, 29, 30, 31, 32, 33, 34, 35, 36] (by decide +kernel) (by decide +kernel)
set_option maxRecDepth 20000 in
theorem gX6_begin_X6_at : GoodIn wsX6_begin (wsV RX6 34 RX6 yX6_at wsX6_at) := goodIn_app (goodIn_of _ (by decide +kernel)) ggX6_begin_X6_at
set_option maxRecDepth 20000 in
theorem ggX6_begin_X6_lengths : GoodIn wsX6_begin wsX6_lengths := goodIn_r _ [22, 23, 3, 24, 29, 30, 31, 32, 33, 34, 35, 36] (by decide +kernel) (by decide +kernel)
set_option maxRecDepth 20000 in
theorem gX6_begin_X6_lengths : GoodIn wsX6_begin (wsV RX6 52 RX6 yX6_lengths wsX6_lengths) := goodIn_app (goodIn_of _ (by decide +kernel)) ggX6_begin_X6_lengths
set_option maxRecDepth 20000 in
theorem ggX6_begin_X6_having : GoodIn wsX6_begin wsX6_having := goodIn_r _ [28, 3, 29, 30, 31, 32, 33, 34, 35, 36] (by decide +kernel) (by decide +kernel)
set_option maxRecDepth 20000 in
theorem gX6_begin_X6_having : GoodIn wsX6_begin (wsV RX6 60 RX6 yX6_having wsX6_having) := goodIn_app (goodIn_of _ (by decide +kernel)) ggX6_begin_X6_having
theorem dX6_begin_0 : decode cX6_begin 0 = .ok (.aload_n 0, 1) := by decide +kernel
theorem dX6_begin_1 : decode cX6_begin 1 = .ok (.aload_n 0, 1) := by decide +kernel
theorem dX6_begin_2 : decode cX6_begin 2 = .ok (.iload_n 1, 1) := by decide +kernel
theorem dX6_begin_3 : decode cX6_begin 3 = .ok (.invokevirtual 38, 3) := by decide +kernel
theorem dX6_begin_6 : decode cX6_begin 6 = .ok (.iconst 1, 1) := by decide +kernel
theorem dX6_begin_7 : decode cX6_begin 7 = .ok (.iconst 1, 1) := by decide +kernel
theorem dX6_begin_8 : decode cX6_begin 8 = .ok (.invokevirtual 42, 3) := by decide +kernel
theorem dX6_begin_11 : decode cX6_begin 11 = .ok (.ifCond .ne 5, 3) := by decide +kernel
theorem dX6_begin_14 : decode cX6_begin 14 = .ok (.iconst 0, 1) := by decide +kernel
theorem dX6_begin_15 : decode cX6_begin 15 = .ok (.ireturn, 1) := by decide +kernel
theorem dX6_begin_16 : decode cX6_begin 16 = .ok (.aload_n 0, 1) := by decide +kernel
theorem dX6_begin_17 : decode cX6_begin 17 = .ok (.aload_n 0, 1) := by decide +kernel
theorem dX6_begin_18 : decode cX6_begin 18 = .ok (.iload_n 1, 1) := by decide +kernel
theorem dX6_begin_19 : decode cX6_begin 19 = .ok (.invokevirtual 34, 3) := by decide +kernel
theorem dX6_begin_22 : decode cX6_begin 22 = .ok (.putfield 18, 3) := by decide +kernel
theorem dX6_begin_25 : decode cX6_begin 25 = .ok (.aload_n 0, 1) := by decide +kernel
theorem dX6_begin_26 : decode cX6_begin 26 = .ok (.iconst 0, 1) := by decide +kernel
theorem dX6_begin_27 : decode cX6_begin 27 = .ok (.putfield 46, 3) := by decide +kernel
theorem dX6_begin_30 : decode cX6_begin 30 = .ok (.aload_n 0, 1) := by decide +kernel
theorem dX6_begin_31 : decode cX6_begin 31 = .ok (.getfield 31, 3) := by decide +kernel
theorem dX6_begin_34 : decode cX6_begin 34 = .ok (.aload_n 0, 1) := by decide +kernel
theorem dX6_begin_35 : decode cX6_begin 35 = .ok (.aload_n 0, 1) := by decide +kernel
theorem dX6_begin_36 : decode cX6_begin 36 = .ok (.aload_n 0, 1) := by decide +kernel
theorem dX6_begin_37 : decode cX6_begin 37 = .ok (.getfield 18, 3) := by decide +kernel
theorem dX6_begin_40 : decode cX6_begin 40 = .ok (.invokevirtual 52, 3) := by decide +kernel
theorem dX6_begin_43 : decode cX6_begin 43 = .ok (.iconst (-1), 1) := by decide +kernel
theorem dX6_begin_44 : decode cX6_begin 44 = .ok (.invokevirtual 60, 3) := by decide +kernel
theorem dX6_begin_47 : decode cX6_begin 47 = .ok (.isub, 1) := by decide +kernel
theorem dX6_begin_48 : decode cX6_begin 48 = .ok (.ireturn, 1) := by decide +kernel
set_option maxRecDepth 20000 in
theorem ggX6_length_X6_is : GoodIn wsX6_length wsX6_is := goodIn_r _ [6, 7, 8, 9, 5, 10, 11, 12, 24, 25, 26, 27, 28, 29, 30, 31] (by decide +kernel) (by decide +kernel)
set_option maxRecDepth 20000 in
theorem gX6_length_X6_is : GoodIn wsX6_length (wsV RX6 38 RX6 yX6_is wsX6_is) := goodIn_app (goodIn_of _ (by decide +kernel)) ggX6_length_X6_is
set_option maxRecDepth 20000 in
theorem ggX6_length_X6_can : GoodIn wsX6_length wsX6_can := goodIn_r _ [16, 17, 24, 25, 26, 27, 28, 29, 30, 31] (by decide +kernel) (by decide +kernel)
set_option maxRecDepth 20000 in
theorem gX6_length_X6_can : GoodIn wsX6_length (wsV RX6 42 RX6 yX6_can wsX6_can) := goodIn_app (goodIn_of _ (by decide +kernel)) ggX6_length_X6_can
set_option maxRecDepth 20000 in
theorem ggX6_length_X6_lengths : GoodIn wsX6_length wsX6_lengths := goodIn_r _ [21, 22, 11, 23, 24, 25, 26, 27, 28, 29, 30, 31] (by decide +kernel) (by decide +kernel)
set_option maxRecDepth 20000 in
theorem gX6_length_X6_lengths : GoodIn wsX6_length (wsV RX6 52 RX6 yX6_lengths wsX6_lengths) := goodIn_app (goodIn_of _ (by decide +kernel)) ggX6_length_X6_lengths
set_option maxRecDepth 20000 in
theorem ggX6_length_X6_at : GoodIn wsX6_length wsX6_at := goodIn_r _ [10, 11, 12, 24, 25, 26, 27, 28, 29, 30, 31] (by decide +kernel) (by decide +kernel)
set_option maxRecDepth 20000 in
theorem gX6_length_X6_at : GoodIn wsX6_length (wsV RX6 34 RX6 yX6_at wsX6_at) := goodIn_app (goodIn_of _ (by decide +kernel)) ggX6_length_X6_at
theorem dX6_length_0 : decode cX6_length 0 = .ok (.aload_n 0, 1) := by decide +kernel
theorem dX6_length_1 : decode cX6_length 1 = .ok (.aload_n 0, 1) := by decide +kernel
theorem dX6_length_2 : decode cX6_length 2 = .ok (.iload_n 1, 1) := by decide +kernel
theorem dX6_length_3 : decode cX6_length 3 = .ok (.invokevirtual 38, 3) := by decide +kernel
theorem dX6_length_6 : decode cX6_length 6 = .ok (.aload_n 0, 1) := by decide +kernel
theorem dX6_length_7 : decode cX6_length 7 = .ok (.getfield 18, 3) := by decide +kernel
theorem dX6_length_10 : decode cX6_length 10 = .ok (.ifCond .lt 7, 3) := by decide +kernel
theorem dX6_length_13 : decode cX6_length 13 = .ok (.iconst 1, 1) := by decide +kernel
theorem dX6_length_14 : decode cX6_length 14 = .ok (.goto 4, 3) := by decide +kernel
theorem dX6_length_17 : decode cX6_length 17 = .ok (.iconst 0, 1) := by decide +kernel
theorem dX6_length_18 : decode cX6_length 18 = .ok (.iconst 1, 1) := by decide +kernel
theorem dX6_length_19 : decode cX6_length 19 = .ok (.invokevirtual 42, 3) := by decide +kernel
theorem dX6_length_22 : decode cX6_length 22 = .ok (.ifCond .eq 20, 3) := by decide +kernel
theorem dX6_length_25 : decode cX6_length 25 = .ok (.aload_n 0, 1) := by decide +kernel
theorem dX6_length_26 : decode cX6_length 26 = .ok (.aload_n 0, 1) := by decide +kernel
theorem dX6_length_27 : decode cX6_length 27 = .ok (.getfield 18, 3) := by decide +kernel
theorem dX6_length_30 : decode cX6_length 30 = .ok (.invokevirtual 52, 3) := by decide +kernel
theorem dX6_length_33 : decode cX6_length 33 = .ok (.aload_n 0, 1) := by decide +kernel
theorem dX6_length_34 : decode cX6_length 34 = .ok (.iload_n 1, 1) := by decide +kernel
theorem dX6_length_35 : decode cX6_length 35 = .ok (.invokevirtual 34, 3) := by decide +kernel
theorem dX6_length_38 : decode cX6_length 38 = .ok (.iaload, 1) := by decide +kernel
theorem dX6_length_39 : decode cX6_length 39 = .ok (.goto 4, 3) := by decide +kernel
theorem dX6_length_42 : decode cX6_length 42 = .ok (.iconst 0, 1) := by decide +kernel
theorem dX6_length_43 : decode cX6_length 43 = .ok (.ireturn, 1) := by decide +kernel
set_option maxRecDepth 20000 in
theorem ggX6_farthest_X6_can : GoodIn wsX6_farthest wsX6_can := goodIn_r _ [6, 7, 19, 20, 21, 22, 23, 24, 25, 26] (by decide +kernel) (by decide +kernel)
set_option maxRecDepth 20000 in
theorem gX6_farthest_X6_can : GoodIn wsX6_farthest (wsV RX6 42 RX6 yX6_can wsX6_can) := goodIn_app (goodIn_of _ (by decide +kernel)) ggX6_farthest_X6_can
set_option maxRecDepth 20000 in
theorem ggX6_farthest_X6_lengths : GoodIn wsX6_farthest wsX6_lengths := goodIn_r _ [11, 12, 13, 14, 19, 20, 21, 22, 23, 24, 25, 26] (by decide +kernel) (by decide +kernel)
set_option maxRecDepth 20000 in
theorem gX6_farthest_X6_lengths : GoodIn wsX6_farthest (wsV RX6 52 RX6 yX6_lengths wsX6_lengths) := goodIn_app (goodIn_of _ (by decide +kernel)) ggX6_farthest_X6_lengths
set_option maxRecDepth 20000 in
theorem ggX6_farthest_X6_greatest : GoodIn wsX6_farthest wsX6_greatest := goodIn_r _ [18, 13, 19, 20, 21, 22, 23, 24, 25, 26] (by decide +kernel) (by decide +kernel)
set_option maxRecDepth 20000 in
theorem gX6_farthest_X6_greatest : GoodIn wsX6_farthest (wsV RX6 64 RX6 yX6_greatest wsX6_greatest) := goodIn_app (goodIn_of _ (by decide +kernel)) ggX6_farthest_X6_greatest
theorem dX6_farthest_0 : decode cX6_farthest 0 = .ok (.aload_n 0, 1) := by decide +kernel
theorem dX6_farthest_1 : decode cX6_farthest 1 = .ok (.aload_n 0, 1) := by decide +kernel
theorem dX6_farthest_2 : decode cX6_farthest 2 = .ok (.getfield 18, 3) := by decide +kernel
theorem dX6_farthest_5 : decode cX6_farthest 5 = .ok (.ifCond .lt 7, 3) := by decide +kernel
theorem dX6_farthest_8 : decode cX6_farthest 8 = .ok (.iconst 1, 1) := by decide +kernel
theorem dX6_farthest_9 : decode cX6_farthest 9 = .ok (.goto 4, 3) := by decide +kernel
theorem dX6_farthest_12 : decode cX6_farthest 12 = .ok (.iconst 0, 1) := by decide +kernel
theorem dX6_farthest_13 : decode cX6_farthest 13 = .ok (.iconst 1, 1) := by decide +kernel
theorem dX6_farthest_14 : decode cX6_farthest 14 = .ok (.iconst 1, 1) := by decide +kernel
theorem dX6_farthest_15 : decode cX6_farthest 15 = .ok (.invokevirtual 42, 3) := by decide +kernel
theorem dX6_farthest_18 : decode cX6_farthest 18 = .ok (.ifCond .eq 18, 3) := by decide +kernel
theorem dX6_farthest_21 : decode cX6_farthest 21 = .ok (.aload_n 0, 1) := by decide +kernel
theorem dX6_farthest_22 : decode cX6_farthest 22 = .ok (.aload_n 0, 1) := by decide +kernel
theorem dX6_farthest_23 : decode cX6_farthest 23 = .ok (.aload_n 0, 1) := by decide +kernel
theorem dX6_farthest_24 : decode cX6_farthest 24 = .ok (.getfield 18, 3) := by decide +kernel
theorem dX6_farthest_27 : decode cX6_farthest 27 = .ok (.invokevirtual 52, 3) := by decide +kernel
theorem dX6_farthest_30 : decode cX6_farthest 30 = .ok (.invokevirtual 64, 3) := by decide +kernel
theorem dX6_farthest_33 : decode cX6_farthest 33 = .ok (.goto 4, 3) := by decide +kernel
theorem dX6_farthest_36 : decode cX6_farthest 36 = .ok (.iconst 0, 1) := by decide +kernel
theorem dX6_farthest_37 : decode cX6_farthest 37 = .ok (.ireturn, 1) := by decide +kernel
set_option maxRecDepth 20000 in
theorem ggX6_layer_X6_can : GoodIn wsX6_layer wsX6_can := goodIn_r _ [6, 7, 19, 20, 21, 22, 23, 24, 25, 26] (by decide +kernel) (by decide +kernel)
set_option maxRecDepth 20000 in
theorem gX6_layer_X6_can : GoodIn wsX6_layer (wsV RX6 42 RX6 yX6_can wsX6_can) := goodIn_app (goodIn_of _ (by decide +kernel)) ggX6_layer_X6_can
set_option maxRecDepth 20000 in
theorem ggX6_layer_X6_lengths : GoodIn wsX6_layer wsX6_lengths := goodIn_r _ [11, 12, 13, 14, 19, 20, 21, 22, 23, 24, 25, 26] (by decide +kernel) (by decide +kernel)
set_option maxRecDepth 20000 in
theorem gX6_layer_X6_lengths : GoodIn wsX6_layer (wsV RX6 52 RX6 yX6_lengths wsX6_lengths) := goodIn_app (goodIn_of _ (by decide +kernel)) ggX6_layer_X6_lengths
set_option maxRecDepth 20000 in
theorem ggX6_layer_X6_having : GoodIn wsX6_layer wsX6_having := goodIn_r _ [18, 13, 19, 20, 21, 22, 23, 24, 25, 26] (by decide +kernel) (by decide +kernel)
set_option maxRecDepth 20000 in
theorem gX6_layer_X6_having : GoodIn wsX6_layer (wsV RX6 60 RX6 yX6_having wsX6_having) := goodIn_app (goodIn_of _ (by decide +kernel)) ggX6_layer_X6_having
theorem dX6_layer_0 : decode cX6_layer 0 = .ok (.aload_n 0, 1) := by decide +kernel
theorem dX6_layer_1 : decode cX6_layer 1 = .ok (.aload_n 0, 1) := by decide +kernel
theorem dX6_layer_2 : decode cX6_layer 2 = .ok (.getfield 18, 3) := by decide +kernel
theorem dX6_layer_5 : decode cX6_layer 5 = .ok (.ifCond .lt 7, 3) := by decide +kernel
theorem dX6_layer_8 : decode cX6_layer 8 = .ok (.iconst 1, 1) := by decide +kernel
theorem dX6_layer_9 : decode cX6_layer 9 = .ok (.goto 4, 3) := by decide +kernel
theorem dX6_layer_12 : decode cX6_layer 12 = .ok (.iconst 0, 1) := by decide +kernel
theorem dX6_layer_13 : decode cX6_layer 13 = .ok (.iconst 1, 1) := by decide +kernel
theorem dX6_layer_14 : decode cX6_layer 14 = .ok (.iconst 1, 1) := by decide +kernel
theorem dX6_layer_15 : decode cX6_layer 15 = .ok (.invokevirtual 42, 3) := by decide +kernel
theorem dX6_layer_18 : decode cX6_layer 18 = .ok (.ifCond .eq 7, 3) := by decide +kernel
theorem dX6_layer_21 : decode cX6_layer 21 = .ok (.iload_n 1, 1) := by decide +kernel
theorem dX6_layer_22 : decode cX6_layer 22 = .ok (.ifCond .ge 7, 3) := by decide +kernel
theorem dX6_layer_25 : decode cX6_layer 25 = .ok (.iconst 0, 1) := by decide +kernel
theorem dX6_layer_26 : decode cX6_layer 26 = .ok (.goto 16, 3) := by decide +kernel
theorem dX6_layer_29 : decode cX6_layer 29 = .ok (.aload_n 0, 1) := by decide +kernel
theorem dX6_layer_30 : decode cX6_layer 30 = .ok (.aload_n 0, 1) := by decide +kernel
theorem dX6_layer_31 : decode cX6_layer 31 = .ok (.aload_n 0, 1) := by decide +kernel
theorem dX6_layer_32 : decode cX6_layer 32 = .ok (.getfield 18, 3) := by decide +kernel
theorem dX6_layer_35 : decode cX6_layer 35 = .ok (.invokevirtual 52, 3) := by decide +kernel
theorem dX6_layer_38 : decode cX6_layer 38 = .ok (.iload_n 1, 1) := by decide +kernel
theorem dX6_layer_39 : decode cX6_layer 39 = .ok (.invokevirtual 60, 3) := by decide +kernel
theorem dX6_layer_42 : decode cX6_layer 42 = .ok (.ireturn, 1) := by decide +kernel
set_option maxRecDepth 20000 in
theorem ggX6_comes_X6_can : GoodIn wsX6_comes wsX6_can := goodIn_r _ [11, 12, 21, 22, 23, 24, 25, 26, 27, 28] (by decide +kernel) (by decide +kernel)
set_option maxRecDepth 20000 in
theorem gX6_comes_X6_can : GoodIn wsX6_comes (wsV RX6 42 RX6 yX6_can wsX6_can) := goodIn_app (goodIn_of _ (by decide +kernel)) ggX6_comes_X6_can
set_option maxRecDepth 20000 in
theorem ggX6_comes_X6_lengths : GoodIn wsX6_comes wsX6_lengths := goodIn_r _ [16, 3, 2, 5, 21, 22, 23, 24, 25, 26, 27, 28] (by decide +kernel) (by decide +kernel)
set_option maxRecDepth 20000 in
theorem gX6_comes_X6_lengths : GoodIn wsX6_comes (wsV RX6 52 RX6 yX6_lengths wsX6_lengths) := goodIn_app (goodIn_of _ (by decide +kernel)) ggX6_comes_X6_lengths
set_option maxRecDepth 20000 in
theorem ggX6_comes_X6_having : GoodIn wsX6_comes wsX6_having := goodIn_r _ [20, 2, 21, 22, 23, 24, 25, 26, 27, 28] (by decide +kernel) (by decide +kernel)
set_option maxRecDepth 20000 in
theorem gX6_comes_X6_having : GoodIn wsX6_comes (wsV RX6 60 RX6 yX6_having wsX6_having) := goodIn_app (goodIn_of _ (by decide +kernel)) ggX6_comes_X6_having
theorem dX6_comes_0 : decode cX6_comes 0 = .ok (.aload_n 0, 1) := by decide +kernel
theorem dX6_comes_1 : decode cX6_comes 1 = .ok (.aload_n 0, 1) := by decide +kernel
theorem dX6_comes_2 : decode cX6_comes 2 = .ok (.getfield 18, 3) := by decide +kernel
theorem dX6_comes_5 : decode cX6_comes 5 = .ok (.ifCond .lt 7, 3) := by decide +kernel
theorem dX6_comes_8 : decode cX6_comes 8 = .ok (.iconst 1, 1) := by decide +kernel
theorem dX6_comes_9 : decode cX6_comes 9 = .ok (.goto 4, 3) := by decide +kernel
theorem dX6_comes_12 : decode cX6_comes 12 = .ok (.iconst 0, 1) := by decide +kernel
theorem dX6_comes_13 : decode cX6_comes 13 = .ok (.iconst 1, 1) := by decide +kernel
theorem dX6_comes_14 : decode cX6_comes 14 = .ok (.iconst 1, 1) := by decide +kernel
theorem dX6_comes_15 : decode cX6_comes 15 = .ok (.invokevirtual 42, 3) := by decide +kernel
theorem dX6_comes_18 : decode cX6_comes 18 = .ok (.ifCond .eq 43, 3) := by decide +kernel
theorem dX6_comes_21 : decode cX6_comes 21 = .ok (.aload_n 0, 1) := by decide +kernel
theorem dX6_comes_22 : decode cX6_comes 22 = .ok (.iconst 1, 1) := by decide +kernel
theorem dX6_comes_23 : decode cX6_comes 23 = .ok (.iload_n 1, 1) := by decide +kernel
theorem dX6_comes_24 : decode cX6_comes 24 = .ok (.ifCond .lt 29, 3) := by decide +kernel
theorem dX6_comes_27 : decode cX6_comes 27 = .ok (.iload_n 1, 1) := by decide +kernel
theorem dX6_comes_28 : decode cX6_comes 28 = .ok (.aload_n 0, 1) := by decide +kernel
theorem dX6_comes_29 : decode cX6_comes 29 = .ok (.getfield 31, 3) := by decide +kernel
theorem dX6_comes_32 : decode cX6_comes 32 = .ok (.aload_n 0, 1) := by decide +kernel
theorem dX6_comes_33 : decode cX6_comes 33 = .ok (.aload_n 0, 1) := by decide +kernel
theorem dX6_comes_34 : decode cX6_comes 34 = .ok (.aload_n 0, 1) := by decide +kernel
theorem dX6_comes_35 : decode cX6_comes 35 = .ok (.getfield 18, 3) := by decide +kernel
theorem dX6_comes_38 : decode cX6_comes 38 = .ok (.invokevirtual 52, 3) := by decide +kernel
theorem dX6_comes_41 : decode cX6_comes 41 = .ok (.iconst (-1), 1) := by decide +kernel
theorem dX6_comes_42 : decode cX6_comes 42 = .ok (.invokevirtual 60, 3) := by decide +kernel
theorem dX6_comes_45 : decode cX6_comes 45 = .ok (.isub, 1) := by decide +kernel
theorem dX6_comes_46 : decode cX6_comes 46 = .ok (.if_icmp .ge 7, 3) := by decide +kernel
theorem dX6_comes_49 : decode cX6_comes 49 = .ok (.iconst 1, 1) := by decide +kernel
theorem dX6_comes_50 : decode cX6_comes 50 = .ok (.goto 4, 3) := by decide +kernel
theorem dX6_comes_53 : decode cX6_comes 53 = .ok (.iconst 0, 1) := by decide +kernel
theorem dX6_comes_54 : decode cX6_comes 54 = .ok (.iconst 1, 1) := by decide +kernel
theorem dX6_comes_55 : decode cX6_comes 55 = .ok (.invokevirtual 42, 3) := by decide +kernel
theorem dX6_comes_58 : decode cX6_comes 58 = .ok (.ifCond .ne 5, 3) := by decide +kernel
theorem dX6_comes_61 : decode cX6_comes 61 = .ok (.iconst 0, 1) := by decide +kernel
theorem dX6_comes_62 : decode cX6_comes 62 = .ok (.ireturn, 1) := by decide +kernel
theorem dX6_comes_63 : decode cX6_comes 63 = .ok (.bipush 12, 2) := by decide +kernel
theorem dX6_comes_65 : decode cX6_comes 65 = .ok (.newarray .int, 2) := by decide +kernel
theorem dX6_comes_67 : decode cX6_comes 67 = .ok (.astore_n 2, 1) := by decide +kernel
theorem dX6_comes_68 : decode cX6_comes 68 = .ok (.bipush 12, 2) := by decide +kernel
theorem dX6_comes_70 : decode cX6_comes 70 = .ok (.newarray .boolean, 2) := by decide +kernel
theorem dX6_comes_72 : decode cX6_comes 72 = .ok (.astore_n 3, 1) := by decide +kernel
theorem dX6_comes_73 : decode cX6_comes 73 = .ok (.aload_n 2, 1) := by decide +kernel
theorem dX6_comes_74 : decode cX6_comes 74 = .ok (.iconst 0, 1) := by decide +kernel
theorem dX6_comes_75 : decode cX6_comes 75 = .ok (.aload_n 0, 1) := by decide +kernel
theorem dX6_comes_76 : decode cX6_comes 76 = .ok (.getfield 18, 3) := by decide +kernel
theorem dX6_comes_79 : decode cX6_comes 79 = .ok (.iastore, 1) := by decide +kernel
theorem dX6_comes_80 : decode cX6_comes 80 = .ok (.aload_n 3, 1) := by decide +kernel
theorem dX6_comes_81 : decode cX6_comes 81 = .ok (.aload_n 0, 1) := by decide +kernel
theorem dX6_comes_82 : decode cX6_comes 82 = .ok (.getfield 18, 3) := by decide +kernel
theorem dX6_comes_85 : decode cX6_comes 85 = .ok (.iconst 1, 1) := by decide +kernel
theorem dX6_comes_86 : decode cX6_comes 86 = .ok (.bastore, 1) := by decide +kernel
theorem dX6_comes_87 : decode cX6_comes 87 = .ok (.iconst 1, 1) := by decide +kernel
theorem dX6_comes_88 : decode cX6_comes 88 = .ok (.istore 4, 2) := by decide +kernel
theorem dX6_comes_90 : decode cX6_comes 90 = .ok (.iconst 0, 1) := by decide +kernel
theorem dX6_comes_91 : decode cX6_comes 91 = .ok (.istore 5, 2) := by decide +kernel
theorem dX6_comes_93 : decode cX6_comes 93 = .ok (.iload 5, 2) := by decide +kernel
theorem dX6_comes_95 : decode cX6_comes 95 = .ok (.iload 4, 2) := by decide +kernel
theorem dX6_comes_97 : decode cX6_comes 97 = .ok (.if_icmp .ge 63, 3) := by decide +kernel
theorem dX6_comes_100 : decode cX6_comes 100 = .ok (.iconst 0, 1) := by decide +kernel
theorem dX6_comes_101 : decode cX6_comes 101 = .ok (.istore 6, 2) := by decide +kernel
theorem dX6_comes_103 : decode cX6_comes 103 = .ok (.iload 6, 2) := by decide +kernel
theorem dX6_comes_105 : decode cX6_comes 105 = .ok (.aload_n 0, 1) := by decide +kernel
theorem dX6_comes_106 : decode cX6_comes 106 = .ok (.getfield 31, 3) := by decide +kernel
theorem dX6_comes_109 : decode cX6_comes 109 = .ok (.if_icmp .ge 45, 3) := by decide +kernel
theorem dX6_comes_112 : decode cX6_comes 112 = .ok (.aload_n 0, 1) := by decide +kernel
theorem dX6_comes_113 : decode cX6_comes 113 = .ok (.getfield 15, 3) := by decide +kernel
theorem dX6_comes_116 : decode cX6_comes 116 = .ok (.aload_n 2, 1) := by decide +kernel
theorem dX6_comes_117 : decode cX6_comes 117 = .ok (.iload 5, 2) := by decide +kernel
theorem dX6_comes_119 : decode cX6_comes 119 = .ok (.iaload, 1) := by decide +kernel
theorem dX6_comes_120 : decode cX6_comes 120 = .ok (.aaload, 1) := by decide +kernel
theorem dX6_comes_121 : decode cX6_comes 121 = .ok (.iload 6, 2) := by decide +kernel
theorem dX6_comes_123 : decode cX6_comes 123 = .ok (.baload, 1) := by decide +kernel
theorem dX6_comes_124 : decode cX6_comes 124 = .ok (.ifCond .eq 24, 3) := by decide +kernel
theorem dX6_comes_127 : decode cX6_comes 127 = .ok (.aload_n 3, 1) := by decide +kernel
theorem dX6_comes_128 : decode cX6_comes 128 = .ok (.iload 6, 2) := by decide +kernel
theorem dX6_comes_130 : decode cX6_comes 130 = .ok (.baload, 1) := by decide +kernel
theorem dX6_comes_131 : decode cX6_comes 131 = .ok (.ifCond .ne 17, 3) := by decide +kernel
theorem dX6_comes_134 : decode cX6_comes 134 = .ok (.aload_n 3, 1) := by decide +kernel
theorem dX6_comes_135 : decode cX6_comes 135 = .ok (.iload 6, 2) := by decide +kernel
theorem dX6_comes_137 : decode cX6_comes 137 = .ok (.iconst 1, 1) := by decide +kernel
theorem dX6_comes_138 : decode cX6_comes 138 = .ok (.bastore, 1) := by decide +kernel
theorem dX6_comes_139 : decode cX6_comes 139 = .ok (.aload_n 2, 1) := by decide +kernel
theorem dX6_comes_140 : decode cX6_comes 140 = .ok (.iload 4, 2) := by decide +kernel
theorem dX6_comes_142 : decode cX6_comes 142 = .ok (.iload 6, 2) := by decide +kernel
theorem dX6_comes_144 : decode cX6_comes 144 = .ok (.iastore, 1) := by decide +kernel
theorem dX6_comes_145 : decode cX6_comes 145 = .ok (.iinc 4 1, 3) := by decide +kernel
theorem dX6_comes_148 : decode cX6_comes 148 = .ok (.iinc 6 1, 3) := by decide +kernel
theorem dX6_comes_151 : decode cX6_comes 151 = .ok (.goto (-48), 3) := by decide +kernel
theorem dX6_comes_154 : decode cX6_comes 154 = .ok (.iinc 5 1, 3) := by decide +kernel
theorem dX6_comes_157 : decode cX6_comes 157 = .ok (.goto (-64), 3) := by decide +kernel
theorem dX6_comes_160 : decode cX6_comes 160 = .ok (.aload_n 0, 1) := by decide +kernel
theorem dX6_comes_161 : decode cX6_comes 161 = .ok (.getfield 9, 3) := by decide +kernel
theorem dX6_comes_164 : decode cX6_comes 164 = .ok (.aload_n 2, 1) := by decide +kernel
theorem dX6_comes_165 : decode cX6_comes 165 = .ok (.iload_n 1, 1) := by decide +kernel
theorem dX6_comes_166 : decode cX6_comes 166 = .ok (.iaload, 1) := by decide +kernel
theorem dX6_comes_167 : decode cX6_comes 167 = .ok (.iaload, 1) := by decide +kernel
theorem dX6_comes_168 : decode cX6_comes 168 = .ok (.ireturn, 1) := by decide +kernel
theorem dX6_onward_0 : decode cX6_onward 0 = .ok (.bipush 12, 2) := by decide +kernel
theorem dX6_onward_2 : decode cX6_onward 2 = .ok (.newarray .int, 2) := by decide +kernel
theorem dX6_onward_4 : decode cX6_onward 4 = .ok (.astore_n 3, 1) := by decide +kernel
theorem dX6_onward_5 : decode cX6_onward 5 = .ok (.aload_n 3, 1) := by decide +kernel
theorem dX6_onward_6 : decode cX6_onward 6 = .ok (.iload_n 2, 1) := by decide +kernel
theorem dX6_onward_7 : decode cX6_onward 7 = .ok (.aload_n 1, 1) := by decide +kernel
theorem dX6_onward_8 : decode cX6_onward 8 = .ok (.iload_n 2, 1) := by decide +kernel
theorem dX6_onward_9 : decode cX6_onward 9 = .ok (.iaload, 1) := by decide +kernel
theorem dX6_onward_10 : decode cX6_onward 10 = .ok (.iconst (-1), 1) := by decide +kernel
theorem dX6_onward_11 : decode cX6_onward 11 = .ok (.if_icmp .ne 7, 3) := by decide +kernel
theorem dX6_onward_14 : decode cX6_onward 14 = .ok (.iconst 0, 1) := by decide +kernel
theorem dX6_onward_15 : decode cX6_onward 15 = .ok (.goto 4, 3) := by decide +kernel
theorem dX6_onward_18 : decode cX6_onward 18 = .ok (.iconst 1, 1) := by decide +kernel
theorem dX6_onward_19 : decode cX6_onward 19 = .ok (.iastore, 1) := by decide +kernel
theorem dX6_onward_20 : decode cX6_onward 20 = .ok (.aload_n 1, 1) := by decide +kernel
theorem dX6_onward_21 : decode cX6_onward 21 = .ok (.iload_n 2, 1) := by decide +kernel
theorem dX6_onward_22 : decode cX6_onward 22 = .ok (.iaload, 1) := by decide +kernel
theorem dX6_onward_23 : decode cX6_onward 23 = .ok (.iconst 1, 1) := by decide +kernel
theorem dX6_onward_24 : decode cX6_onward 24 = .ok (.isub, 1) := by decide +kernel
theorem dX6_onward_25 : decode cX6_onward 25 = .ok (.istore 4, 2) := by decide +kernel
theorem dX6_onward_27 : decode cX6_onward 27 = .ok (.iload 4, 2) := by decide +kernel
theorem dX6_onward_29 : decode cX6_onward 29 = .ok (.ifCond .lt 93, 3) := by decide +kernel
theorem dX6_onward_32 : decode cX6_onward 32 = .ok (.iconst 0, 1) := by decide +kernel
theorem dX6_onward_33 : decode cX6_onward 33 = .ok (.istore 5, 2) := by decide +kernel
theorem dX6_onward_35 : decode cX6_onward 35 = .ok (.iload 5, 2) := by decide +kernel
theorem dX6_onward_37 : decode cX6_onward 37 = .ok (.aload_n 0, 1) := by decide +kernel
theorem dX6_onward_38 : decode cX6_onward 38 = .ok (.getfield 31, 3) := by decide +kernel
theorem dX6_onward_41 : decode cX6_onward 41 = .ok (.if_icmp .ge 75, 3) := by decide +kernel
theorem dX6_onward_44 : decode cX6_onward 44 = .ok (.iconst 0, 1) := by decide +kernel
theorem dX6_onward_45 : decode cX6_onward 45 = .ok (.istore 6, 2) := by decide +kernel
theorem dX6_onward_47 : decode cX6_onward 47 = .ok (.iload 6, 2) := by decide +kernel
theorem dX6_onward_49 : decode cX6_onward 49 = .ok (.aload_n 0, 1) := by decide +kernel
theorem dX6_onward_50 : decode cX6_onward 50 = .ok (.getfield 31, 3) := by decide +kernel
theorem dX6_onward_53 : decode cX6_onward 53 = .ok (.if_icmp .ge 57, 3) := by decide +kernel
theorem dX6_onward_56 : decode cX6_onward 56 = .ok (.aload_n 3, 1) := by decide +kernel
theorem dX6_onward_57 : decode cX6_onward 57 = .ok (.iload 5, 2) := by decide +kernel
theorem dX6_onward_59 : decode cX6_onward 59 = .ok (.dup2, 1) := by decide +kernel
theorem dX6_onward_60 : decode cX6_onward 60 = .ok (.iaload, 1) := by decide +kernel
theorem dX6_onward_61 : decode cX6_onward 61 = .ok (.aload_n 1, 1) := by decide +kernel
theorem dX6_onward_62 : decode cX6_onward 62 = .ok (.iload 5, 2) := by decide +kernel
theorem dX6_onward_64 : decode cX6_onward 64 = .ok (.iaload, 1) := by decide +kernel
theorem dX6_onward_65 : decode cX6_onward 65 = .ok (.iload 4, 2) := by decide +kernel
theorem dX6_onward_67 : decode cX6_onward 67 = .ok (.if_icmp .ne 34, 3) := by decide +kernel
theorem dX6_onward_70 : decode cX6_onward 70 = .ok (.aload_n 1, 1) := by decide +kernel
theorem dX6_onward_71 : decode cX6_onward 71 = .ok (.iload 6, 2) := by decide +kernel
theorem dX6_onward_73 : decode cX6_onward 73 = .ok (.iaload, 1) := by decide +kernel
theorem dX6_onward_74 : decode cX6_onward 74 = .ok (.iload 4, 2) := by decide +kernel
theorem dX6_onward_76 : decode cX6_onward 76 = .ok (.iconst 1, 1) := by decide +kernel
theorem dX6_onward_77 : decode cX6_onward 77 = .ok (.iadd, 1) := by decide +kernel
theorem dX6_onward_78 : decode cX6_onward 78 = .ok (.if_icmp .ne 23, 3) := by decide +kernel
theorem dX6_onward_81 : decode cX6_onward 81 = .ok (.aload_n 0, 1) := by decide +kernel
theorem dX6_onward_82 : decode cX6_onward 82 = .ok (.getfield 15, 3) := by decide +kernel
theorem dX6_onward_85 : decode cX6_onward 85 = .ok (.iload 5, 2) := by decide +kernel
theorem dX6_onward_87 : decode cX6_onward 87 = .ok (.aaload, 1) := by decide +kernel
theorem dX6_onward_88 : decode cX6_onward 88 = .ok (.iload 6, 2) := by decide +kernel
theorem dX6_onward_90 : decode cX6_onward 90 = .ok (.baload, 1) := by decide +kernel
theorem dX6_onward_91 : decode cX6_onward 91 = .ok (.ifCond .eq 10, 3) := by decide +kernel
theorem dX6_onward_94 : decode cX6_onward 94 = .ok (.aload_n 3, 1) := by decide +kernel
theorem dX6_onward_95 : decode cX6_onward 95 = .ok (.iload 6, 2) := by decide +kernel
theorem dX6_onward_97 : decode cX6_onward 97 = .ok (.iaload, 1) := by decide +kernel
theorem dX6_onward_98 : decode cX6_onward 98 = .ok (.goto 4, 3) := by decide +kernel
theorem dX6_onward_101 : decode cX6_onward 101 = .ok (.iconst 0, 1) := by decide +kernel
theorem dX6_onward_102 : decode cX6_onward 102 = .ok (.iadd, 1) := by decide +kernel
theorem dX6_onward_103 : decode cX6_onward 103 = .ok (.iastore, 1) := by decide +kernel
theorem dX6_onward_104 : decode cX6_onward 104 = .ok (.iinc 6 1, 3) := by decide +kernel
theorem dX6_onward_107 : decode cX6_onward 107 = .ok (.goto (-60), 3) := by decide +kernel
theorem dX6_onward_110 : decode cX6_onward 110 = .ok (.iinc 5 1, 3) := by decide +kernel
theorem dX6_onward_113 : decode cX6_onward 113 = .ok (.goto (-78), 3) := by decide +kernel
theorem dX6_onward_116 : decode cX6_onward 116 = .ok (.iinc 4 (-1), 3) := by decide +kernel
theorem dX6_onward_119 : decode cX6_onward 119 = .ok (.goto (-92), 3) := by decide +kernel
theorem dX6_onward_122 : decode cX6_onward 122 = .ok (.aload_n 3, 1) := by decide +kernel
theorem dX6_onward_123 : decode cX6_onward 123 = .ok (.areturn, 1) := by decide +kernel
set_option maxRecDepth 20000 in
theorem ggX6_allWays_X6_lengths : GoodIn wsX6_allWays wsX6_lengths := goodIn_r _ [6, 7, 8, 9, 14, 15, 16, 17, 18, 19, 20, 21] (by decide +kernel) (by decide +kernel)
set_option maxRecDepth 20000 in
theorem gX6_allWays_X6_lengths : GoodIn wsX6_allWays (wsV RX6 52 RX6 yX6_lengths wsX6_lengths) := goodIn_app (goodIn_of _ (by decide +kernel)) ggX6_allWays_X6_lengths
set_option maxRecDepth 20000 in
theorem ggX6_allWays_X6_onward : GoodIn wsX6_allWays wsX6_onward := goodIn_r _ [13, 7, 8, 9, 14, 15, 16, 17, 18, 19, 20, 21] (by decide +kernel) (by decide +kernel)
set_option maxRecDepth 20000 in
theorem gX6_allWays_X6_onward : GoodIn wsX6_allWays (wsV RX6 68 RX6 yX6_onward wsX6_onward) := goodIn_app (goodIn_of _ (by decide +kernel)) ggX6_allWays_X6_onward
theorem dX6_allWays_0 : decode cX6_allWays 0 = .ok (.aload_n 0, 1) := by decide +kernel
theorem dX6_allWays_1 : decode cX6_allWays 1 = .ok (.aload_n 0, 1) := by decide +kernel
theorem dX6_allWays_2 : decode cX6_allWays 2 = .ok (.aload_n 0, 1) := by decide +kernel
theorem dX6_allWays_3 : decode cX6_allWays 3 = .ok (.getfield 18, 3) := by decide +kernel
theorem dX6_allWays_6 : decode cX6_allWays 6 = .ok (.invokevirtual 52, 3) := by decide +kernel
theorem dX6_allWays_9 : decode cX6_allWays 9 = .ok (.iload_n 1, 1) := by decide +kernel
theorem dX6_allWays_10 : decode cX6_allWays 10 = .ok (.invokevirtual 68, 3) := by decide +kernel
theorem dX6_allWays_13 : decode cX6_allWays 13 = .ok (.aload_n 0, 1) := by decide +kernel
theorem dX6_allWays_14 : decode cX6_allWays 14 = .ok (.getfield 18, 3) := by decide +kernel
theorem dX6_allWays_17 : decode cX6_allWays 17 = .ok (.iaload, 1) := by decide +kernel
theorem dX6_allWays_18 : decode cX6_allWays 18 = .ok (.ireturn, 1) := by decide +kernel
set_option maxRecDepth 20000 in
theorem ggX6_ways_X6_is : GoodIn wsX6_ways wsX6_is := goodIn_r _ [6, 7, 8, 9, 5, 10, 11, 12, 32, 33, 34, 35, 36, 37, 38, 39] (by decide +kernel) (by decide +kernel)
set_option maxRecDepth 20000 in
theorem gX6_ways_X6_is : GoodIn wsX6_ways (wsV RX6 38 RX6 yX6_is wsX6_is) := goodIn_app (goodIn_of _ (by decide +kernel)) ggX6_ways_X6_is
set_option maxRecDepth 20000 in
theorem ggX6_ways_X6_can : GoodIn wsX6_ways wsX6_can := goodIn_r _ [16, 17, 32, 33, 34, 35, 36, 37, 38, 39] (by decide +kernel) (by decide +kernel)
set_option maxRecDepth 20000 in
theorem gX6_ways_X6_can : GoodIn wsX6_ways (wsV RX6 42 RX6 yX6_can wsX6_can) := goodIn_app (goodIn_of _ (by decide +kernel)) ggX6_ways_X6_can
set_option maxRecDepth 20000 in
theorem ggX6_ways_X6_at : GoodIn wsX6_ways wsX6_at := goodIn_r _ [10, 11, 12, 32, 33, 34, 35, 36, 37, 38, 39] (by decide +kernel) (by decide +kernel)
set_option maxRecDepth 20000 in
theorem gX6_ways_X6_at : GoodIn wsX6_ways (wsV RX6 34 RX6 yX6_at wsX6_at) := goodIn_app (goodIn_of _ (by decide +kernel)) ggX6_ways_X6_at
set_option maxRecDepth 20000 in
theorem ggX6_ways_X6_allWays : GoodIn wsX6_ways wsX6_allWays := goodIn_r _ [21, 1, 22, 23, 24, 5, 25, 26, 11, 27, 28, 29, 30, 31, 32, 33, 34, 35, 36, 37, 38, 39] (by decide +kernel) (by decide +kernel)
set_option maxRecDepth 20000 in
theorem gX6_ways_X6_allWays : GoodIn wsX6_ways (wsV RX6 72 RX6 yX6_allWays wsX6_allWays) := goodIn_app (goodIn_of _ (by decide +kernel)) ggX6_ways_X6_allWays
theorem dX6_ways_0 : decode cX6_ways 0 = .ok (.aload_n 0, 1) := by decide +kernel
theorem dX6_ways_1 : decode cX6_ways 1 = .ok (.aload_n 0, 1) := by decide +kernel
theorem dX6_ways_2 : decode cX6_ways 2 = .ok (.iload_n 1, 1) := by decide +kernel
theorem dX6_ways_3 : decode cX6_ways 3 = .ok (.invokevirtual 38, 3) := by decide +kernel
theorem dX6_ways_6 : decode cX6_ways 6 = .ok (.aload_n 0, 1) := by decide +kernel
theorem dX6_ways_7 : decode cX6_ways 7 = .ok (.getfield 18, 3) := by decide +kernel
theorem dX6_ways_10 : decode cX6_ways 10 = .ok (.ifCond .lt 7, 3) := by decide +kernel
theorem dX6_ways_13 : decode cX6_ways 13 = .ok (.iconst 1, 1) := by decide +kernel
theorem dX6_ways_14 : decode cX6_ways 14 = .ok (.goto 4, 3) := by decide +kernel
theorem dX6_ways_17 : decode cX6_ways 17 = .ok (.iconst 0, 1) := by decide +kernel
theorem dX6_ways_18 : decode cX6_ways 18 = .ok (.iconst 1, 1) := by decide +kernel
theorem dX6_ways_19 : decode cX6_ways 19 = .ok (.invokevirtual 42, 3) := by decide +kernel
theorem dX6_ways_22 : decode cX6_ways 22 = .ok (.ifCond .eq 15, 3) := by decide +kernel
theorem dX6_ways_25 : decode cX6_ways 25 = .ok (.aload_n 0, 1) := by decide +kernel
theorem dX6_ways_26 : decode cX6_ways 26 = .ok (.aload_n 0, 1) := by decide +kernel
theorem dX6_ways_27 : decode cX6_ways 27 = .ok (.iload_n 1, 1) := by decide +kernel
theorem dX6_ways_28 : decode cX6_ways 28 = .ok (.invokevirtual 34, 3) := by decide +kernel
theorem dX6_ways_31 : decode cX6_ways 31 = .ok (.invokevirtual 72, 3) := by decide +kernel
theorem dX6_ways_34 : decode cX6_ways 34 = .ok (.goto 4, 3) := by decide +kernel
theorem dX6_ways_37 : decode cX6_ways 37 = .ok (.iconst 0, 1) := by decide +kernel
theorem dX6_ways_38 : decode cX6_ways 38 = .ok (.ireturn, 1) := by decide +kernel
set_option maxRecDepth 20000 in
theorem ggX6_wayAt_X6_is : GoodIn wsX6_wayAt wsX6_is := goodIn_r _ [9, 10, 11, 12, 8, 13, 2, 4, 28, 29, 30, 31, 32, 33, 34, 35] (by decide +kernel) (by decide +kernel)
set_option maxRecDepth 20000 in
theorem gX6_wayAt_X6_is : GoodIn wsX6_wayAt (wsV RX6 38 RX6 yX6_is wsX6_is) := goodIn_app (goodIn_of _ (by decide +kernel)) ggX6_wayAt_X6_is
set_option maxRecDepth 20000 in
theorem ggX6_wayAt_X6_can : GoodIn wsX6_wayAt wsX6_can := goodIn_r _ [17, 18, 28, 29, 30, 31, 32, 33, 34, 35] (by decide +kernel) (by decide +kernel)
set_option maxRecDepth 20000 in
theorem gX6_wayAt_X6_can : GoodIn wsX6_wayAt (wsV RX6 42 RX6 yX6_can wsX6_can) := goodIn_app (goodIn_of _ (by decide +kernel)) ggX6_wayAt_X6_can
set_option maxRecDepth 20000 in
theorem ggX6_wayAt_X6_lengths : GoodIn wsX6_wayAt wsX6_lengths := goodIn_r _ [22, 23, 2, 3, 28, 29, 30, 31, 32, 33, 34, 35] (by decide +kernel) (by decide +kernel)
set_option maxRecDepth 20000 in
theorem gX6_wayAt_X6_lengths : GoodIn wsX6_wayAt (wsV RX6 52 RX6 yX6_lengths wsX6_lengths) := goodIn_app (goodIn_of _ (by decide +kernel)) ggX6_wayAt_X6_lengths
set_option maxRecDepth 20000 in
theorem ggX6_wayAt_X6_at : GoodIn wsX6_wayAt wsX6_at := goodIn_r _ [13, 2, 4, 28, 29, 30, 31, 32, 33, 34, 35] (by decide +kernel) (by decide +kernel)
set_option maxRecDepth 20000 in
theorem gX6_wayAt_X6_at : GoodIn wsX6_wayAt (wsV RX6 34 RX6 yX6_at wsX6_at) := goodIn_app (goodIn_of _ (by decide +kernel)) ggX6_wayAt_X6_at
set_option maxRecDepth 20000 in
theorem ggX6_wayAt_X6_onward : GoodIn wsX6_wayAt wsX6_onward := goodIn_r _ [27, 23, 2, 3, 28, 29, 30, 31, 32, 33, 34, 35] (by decide +kernel) (by decide +kernel)
set_option maxRecDepth 20000 in
theorem gX6_wayAt_X6_onward : GoodIn wsX6_wayAt (wsV RX6 68 RX6 yX6_onward wsX6_onward) := goodIn_app (goodIn_of _ (by decide +kernel)) ggX6_wayAt_X6_onward
theorem dX6_wayAt_0 : decode cX6_wayAt 0 = .ok (.aload_n 0, 1) := by decide +kernel
theorem dX6_wayAt_1 : decode cX6_wayAt 1 = .ok (.aload_n 0, 1) := by decide +kernel
theorem dX6_wayAt_2 : decode cX6_wayAt 2 = .ok (.iload_n 1, 1) := by decide +kernel
theorem dX6_wayAt_3 : decode cX6_wayAt 3 = .ok (.invokevirtual 38, 3) := by decide +kernel
theorem dX6_wayAt_6 : decode cX6_wayAt 6 = .ok (.aload_n 0, 1) := by decide +kernel
theorem dX6_wayAt_7 : decode cX6_wayAt 7 = .ok (.getfield 18, 3) := by decide +kernel
theorem dX6_wayAt_10 : decode cX6_wayAt 10 = .ok (.ifCond .lt 7, 3) := by decide +kernel
theorem dX6_wayAt_13 : decode cX6_wayAt 13 = .ok (.iconst 1, 1) := by decide +kernel
theorem dX6_wayAt_14 : decode cX6_wayAt 14 = .ok (.goto 4, 3) := by decide +kernel
theorem dX6_wayAt_17 : decode cX6_wayAt 17 = .ok (.iconst 0, 1) := by decide +kernel
theorem dX6_wayAt_18 : decode cX6_wayAt 18 = .ok (.iconst 1, 1) := by decide +kernel
theorem dX6_wayAt_19 : decode cX6_wayAt 19 = .ok (.invokevirtual 42, 3) := by decide +kernel
theorem dX6_wayAt_22 : decode cX6_wayAt 22 = .ok (.ifCond .ne 5, 3) := by decide +kernel
theorem dX6_wayAt_25 : decode cX6_wayAt 25 = .ok (.iconst 0, 1) := by decide +kernel
theorem dX6_wayAt_26 : decode cX6_wayAt 26 = .ok (.ireturn, 1) := by decide +kernel
theorem dX6_wayAt_27 : decode cX6_wayAt 27 = .ok (.aload_n 0, 1) := by decide +kernel
theorem dX6_wayAt_28 : decode cX6_wayAt 28 = .ok (.aload_n 0, 1) := by decide +kernel
theorem dX6_wayAt_29 : decode cX6_wayAt 29 = .ok (.getfield 18, 3) := by decide +kernel
theorem dX6_wayAt_32 : decode cX6_wayAt 32 = .ok (.invokevirtual 52, 3) := by decide +kernel
theorem dX6_wayAt_35 : decode cX6_wayAt 35 = .ok (.astore 4, 2) := by decide +kernel
theorem dX6_wayAt_37 : decode cX6_wayAt 37 = .ok (.aload_n 0, 1) := by decide +kernel
theorem dX6_wayAt_38 : decode cX6_wayAt 38 = .ok (.aload 4, 2) := by decide +kernel
theorem dX6_wayAt_40 : decode cX6_wayAt 40 = .ok (.aload_n 0, 1) := by decide +kernel
theorem dX6_wayAt_41 : decode cX6_wayAt 41 = .ok (.iload_n 1, 1) := by decide +kernel
theorem dX6_wayAt_42 : decode cX6_wayAt 42 = .ok (.invokevirtual 34, 3) := by decide +kernel
theorem dX6_wayAt_45 : decode cX6_wayAt 45 = .ok (.invokevirtual 68, 3) := by decide +kernel
theorem dX6_wayAt_48 : decode cX6_wayAt 48 = .ok (.astore 5, 2) := by decide +kernel
theorem dX6_wayAt_50 : decode cX6_wayAt 50 = .ok (.aload_n 0, 1) := by decide +kernel
theorem dX6_wayAt_51 : decode cX6_wayAt 51 = .ok (.iconst 1, 1) := by decide +kernel
theorem dX6_wayAt_52 : decode cX6_wayAt 52 = .ok (.iconst 1, 1) := by decide +kernel
theorem dX6_wayAt_53 : decode cX6_wayAt 53 = .ok (.iload_n 2, 1) := by decide +kernel
theorem dX6_wayAt_54 : decode cX6_wayAt 54 = .ok (.ifCond .lt 34, 3) := by decide +kernel
theorem dX6_wayAt_57 : decode cX6_wayAt 57 = .ok (.iload_n 2, 1) := by decide +kernel
theorem dX6_wayAt_58 : decode cX6_wayAt 58 = .ok (.aload 5, 2) := by decide +kernel
theorem dX6_wayAt_60 : decode cX6_wayAt 60 = .ok (.aload_n 0, 1) := by decide +kernel
theorem dX6_wayAt_61 : decode cX6_wayAt 61 = .ok (.getfield 18, 3) := by decide +kernel
theorem dX6_wayAt_64 : decode cX6_wayAt 64 = .ok (.iaload, 1) := by decide +kernel
theorem dX6_wayAt_65 : decode cX6_wayAt 65 = .ok (.if_icmp .ge 23, 3) := by decide +kernel
theorem dX6_wayAt_68 : decode cX6_wayAt 68 = .ok (.iload_n 3, 1) := by decide +kernel
theorem dX6_wayAt_69 : decode cX6_wayAt 69 = .ok (.ifCond .lt 19, 3) := by decide +kernel
theorem dX6_wayAt_72 : decode cX6_wayAt 72 = .ok (.iload_n 3, 1) := by decide +kernel
theorem dX6_wayAt_73 : decode cX6_wayAt 73 = .ok (.aload 4, 2) := by decide +kernel
theorem dX6_wayAt_75 : decode cX6_wayAt 75 = .ok (.aload_n 0, 1) := by decide +kernel
theorem dX6_wayAt_76 : decode cX6_wayAt 76 = .ok (.iload_n 1, 1) := by decide +kernel
theorem dX6_wayAt_77 : decode cX6_wayAt 77 = .ok (.invokevirtual 34, 3) := by decide +kernel
theorem dX6_wayAt_80 : decode cX6_wayAt 80 = .ok (.iaload, 1) := by decide +kernel
theorem dX6_wayAt_81 : decode cX6_wayAt 81 = .ok (.if_icmp .gt 7, 3) := by decide +kernel
theorem dX6_wayAt_84 : decode cX6_wayAt 84 = .ok (.iconst 1, 1) := by decide +kernel
theorem dX6_wayAt_85 : decode cX6_wayAt 85 = .ok (.goto 4, 3) := by decide +kernel
theorem dX6_wayAt_88 : decode cX6_wayAt 88 = .ok (.iconst 0, 1) := by decide +kernel
theorem dX6_wayAt_89 : decode cX6_wayAt 89 = .ok (.invokevirtual 42, 3) := by decide +kernel
theorem dX6_wayAt_92 : decode cX6_wayAt 92 = .ok (.ifCond .ne 5, 3) := by decide +kernel
theorem dX6_wayAt_95 : decode cX6_wayAt 95 = .ok (.iconst 0, 1) := by decide +kernel
theorem dX6_wayAt_96 : decode cX6_wayAt 96 = .ok (.ireturn, 1) := by decide +kernel
theorem dX6_wayAt_97 : decode cX6_wayAt 97 = .ok (.aload_n 0, 1) := by decide +kernel
theorem dX6_wayAt_98 : decode cX6_wayAt 98 = .ok (.getfield 18, 3) := by decide +kernel
theorem dX6_wayAt_101 : decode cX6_wayAt 101 = .ok (.istore 6, 2) := by decide +kernel
theorem dX6_wayAt_103 : decode cX6_wayAt 103 = .ok (.iload_n 2, 1) := by decide +kernel
theorem dX6_wayAt_104 : decode cX6_wayAt 104 = .ok (.istore 7, 2) := by decide +kernel
theorem dX6_wayAt_106 : decode cX6_wayAt 106 = .ok (.iconst 1, 1) := by decide +kernel
theorem dX6_wayAt_107 : decode cX6_wayAt 107 = .ok (.istore 8, 2) := by decide +kernel
theorem dX6_wayAt_109 : decode cX6_wayAt 109 = .ok (.iload 8, 2) := by decide +kernel
theorem dX6_wayAt_111 : decode cX6_wayAt 111 = .ok (.iload_n 3, 1) := by decide +kernel
theorem dX6_wayAt_112 : decode cX6_wayAt 112 = .ok (.if_icmp .gt 101, 3) := by decide +kernel
theorem dX6_wayAt_115 : decode cX6_wayAt 115 = .ok (.iconst (-1), 1) := by decide +kernel
theorem dX6_wayAt_116 : decode cX6_wayAt 116 = .ok (.istore 9, 2) := by decide +kernel
theorem dX6_wayAt_118 : decode cX6_wayAt 118 = .ok (.iconst 0, 1) := by decide +kernel
theorem dX6_wayAt_119 : decode cX6_wayAt 119 = .ok (.istore 10, 2) := by decide +kernel
theorem dX6_wayAt_121 : decode cX6_wayAt 121 = .ok (.iload 10, 2) := by decide +kernel
theorem dX6_wayAt_123 : decode cX6_wayAt 123 = .ok (.aload_n 0, 1) := by decide +kernel
theorem dX6_wayAt_124 : decode cX6_wayAt 124 = .ok (.getfield 31, 3) := by decide +kernel
theorem dX6_wayAt_127 : decode cX6_wayAt 127 = .ok (.if_icmp .ge 76, 3) := by decide +kernel
theorem dX6_wayAt_130 : decode cX6_wayAt 130 = .ok (.iload 9, 2) := by decide +kernel
theorem dX6_wayAt_132 : decode cX6_wayAt 132 = .ok (.iconst (-1), 1) := by decide +kernel
theorem dX6_wayAt_133 : decode cX6_wayAt 133 = .ok (.if_icmp .ne 70, 3) := by decide +kernel
theorem dX6_wayAt_136 : decode cX6_wayAt 136 = .ok (.aload_n 0, 1) := by decide +kernel
theorem dX6_wayAt_137 : decode cX6_wayAt 137 = .ok (.getfield 15, 3) := by decide +kernel
theorem dX6_wayAt_140 : decode cX6_wayAt 140 = .ok (.iload 6, 2) := by decide +kernel
theorem dX6_wayAt_142 : decode cX6_wayAt 142 = .ok (.aaload, 1) := by decide +kernel
theorem dX6_wayAt_143 : decode cX6_wayAt 143 = .ok (.iload 10, 2) := by decide +kernel
theorem dX6_wayAt_145 : decode cX6_wayAt 145 = .ok (.baload, 1) := by decide +kernel
theorem dX6_wayAt_146 : decode cX6_wayAt 146 = .ok (.ifCond .eq 51, 3) := by decide +kernel
theorem dX6_wayAt_149 : decode cX6_wayAt 149 = .ok (.aload 4, 2) := by decide +kernel
theorem dX6_wayAt_151 : decode cX6_wayAt 151 = .ok (.iload 10, 2) := by decide +kernel
theorem dX6_wayAt_153 : decode cX6_wayAt 153 = .ok (.iaload, 1) := by decide +kernel
theorem dX6_wayAt_154 : decode cX6_wayAt 154 = .ok (.iload 8, 2) := by decide +kernel
theorem dX6_wayAt_156 : decode cX6_wayAt 156 = .ok (.if_icmp .ne 41, 3) := by decide +kernel
theorem dX6_wayAt_159 : decode cX6_wayAt 159 = .ok (.iload 7, 2) := by decide +kernel
theorem dX6_wayAt_161 : decode cX6_wayAt 161 = .ok (.aload 5, 2) := by decide +kernel
theorem dX6_wayAt_163 : decode cX6_wayAt 163 = .ok (.iload 10, 2) := by decide +kernel
theorem dX6_wayAt_165 : decode cX6_wayAt 165 = .ok (.iaload, 1) := by decide +kernel
theorem dX6_wayAt_166 : decode cX6_wayAt 166 = .ok (.if_icmp .ge 8, 3) := by decide +kernel
theorem dX6_wayAt_169 : decode cX6_wayAt 169 = .ok (.iload 10, 2) := by decide +kernel
theorem dX6_wayAt_171 : decode cX6_wayAt 171 = .ok (.goto 4, 3) := by decide +kernel
theorem dX6_wayAt_174 : decode cX6_wayAt 174 = .ok (.iconst (-1), 1) := by decide +kernel
theorem dX6_wayAt_175 : decode cX6_wayAt 175 = .ok (.istore 9, 2) := by decide +kernel
theorem dX6_wayAt_177 : decode cX6_wayAt 177 = .ok (.iload 7, 2) := by decide +kernel
theorem dX6_wayAt_179 : decode cX6_wayAt 179 = .ok (.iload 9, 2) := by decide +kernel
theorem dX6_wayAt_181 : decode cX6_wayAt 181 = .ok (.iconst (-1), 1) := by decide +kernel
theorem dX6_wayAt_182 : decode cX6_wayAt 182 = .ok (.if_icmp .ne 11, 3) := by decide +kernel
theorem dX6_wayAt_185 : decode cX6_wayAt 185 = .ok (.aload 5, 2) := by decide +kernel
theorem dX6_wayAt_187 : decode cX6_wayAt 187 = .ok (.iload 10, 2) := by decide +kernel
theorem dX6_wayAt_189 : decode cX6_wayAt 189 = .ok (.iaload, 1) := by decide +kernel
theorem dX6_wayAt_190 : decode cX6_wayAt 190 = .ok (.goto 4, 3) := by decide +kernel
theorem dX6_wayAt_193 : decode cX6_wayAt 193 = .ok (.iconst 0, 1) := by decide +kernel
theorem dX6_wayAt_194 : decode cX6_wayAt 194 = .ok (.isub, 1) := by decide +kernel
theorem dX6_wayAt_195 : decode cX6_wayAt 195 = .ok (.istore 7, 2) := by decide +kernel
theorem dX6_wayAt_197 : decode cX6_wayAt 197 = .ok (.iinc 10 1, 3) := by decide +kernel
theorem dX6_wayAt_200 : decode cX6_wayAt 200 = .ok (.goto (-79), 3) := by decide +kernel
theorem dX6_wayAt_203 : decode cX6_wayAt 203 = .ok (.iload 9, 2) := by decide +kernel
theorem dX6_wayAt_205 : decode cX6_wayAt 205 = .ok (.istore 6, 2) := by decide +kernel
theorem dX6_wayAt_207 : decode cX6_wayAt 207 = .ok (.iinc 8 1, 3) := by decide +kernel
theorem dX6_wayAt_210 : decode cX6_wayAt 210 = .ok (.goto (-101), 3) := by decide +kernel
theorem dX6_wayAt_213 : decode cX6_wayAt 213 = .ok (.aload_n 0, 1) := by decide +kernel
theorem dX6_wayAt_214 : decode cX6_wayAt 214 = .ok (.getfield 9, 3) := by decide +kernel
theorem dX6_wayAt_217 : decode cX6_wayAt 217 = .ok (.iload 6, 2) := by decide +kernel
theorem dX6_wayAt_219 : decode cX6_wayAt 219 = .ok (.iaload, 1) := by decide +kernel
theorem dX6_wayAt_220 : decode cX6_wayAt 220 = .ok (.ireturn, 1) := by decide +kernel
set_option maxRecDepth 20000 in
theorem ggX6_throughs_X6_lengths : GoodIn wsX6_throughs wsX6_lengths := goodIn_r _ [6, 7, 8, 9, 18, 19, 20, 21, 22, 23, 24, 25] (by decide +kernel) (by decide +kernel)
set_option maxRecDepth 20000 in
theorem gX6_throughs_X6_lengths : GoodIn wsX6_throughs (wsV RX6 52 RX6 yX6_lengths wsX6_lengths) := goodIn_app (goodIn_of _ (by decide +kernel)) ggX6_throughs_X6_lengths
set_option maxRecDepth 20000 in
theorem ggX6_throughs_X6_allWays : GoodIn wsX6_throughs wsX6_allWays := goodIn_r _ [13, 1, 2, 3, 4, 5, 6, 7, 8, 9, 14, 15, 16, 17, 18, 19, 20, 21, 22, 23, 24, 25] (by decide +kernel) (by decide +kernel)
set_option maxRecDepth 20000 in
theorem gX6_throughs_X6_allWays : GoodIn wsX6_throughs (wsV RX6 72 RX6 yX6_allWays wsX6_allWays) := goodIn_app (goodIn_of _ (by decide +kernel)) ggX6_throughs_X6_allWays
set_option maxRecDepth 20000 in
theorem ggX6_throughs_X6_onward : GoodIn wsX6_throughs wsX6_onward := goodIn_r _ [17, 7, 8, 9, 18, 19, 20, 21, 22, 23, 24, 25] (by decide +kernel) (by decide +kernel)
set_option maxRecDepth 20000 in
theorem gX6_throughs_X6_onward : GoodIn wsX6_throughs (wsV RX6 68 RX6 yX6_onward wsX6_onward) := goodIn_app (goodIn_of _ (by decide +kernel)) ggX6_throughs_X6_onward
theorem dX6_throughs_0 : decode cX6_throughs 0 = .ok (.aload_n 0, 1) := by decide +kernel
theorem dX6_throughs_1 : decode cX6_throughs 1 = .ok (.aload_n 0, 1) := by decide +kernel
theorem dX6_throughs_2 : decode cX6_throughs 2 = .ok (.getfield 18, 3) := by decide +kernel
theorem dX6_throughs_5 : decode cX6_throughs 5 = .ok (.invokevirtual 52, 3) := by decide +kernel
theorem dX6_throughs_8 : decode cX6_throughs 8 = .ok (.astore_n 3, 1) := by decide +kernel
theorem dX6_throughs_9 : decode cX6_throughs 9 = .ok (.aload_n 3, 1) := by decide +kernel
theorem dX6_throughs_10 : decode cX6_throughs 10 = .ok (.iload_n 2, 1) := by decide +kernel
theorem dX6_throughs_11 : decode cX6_throughs 11 = .ok (.iaload, 1) := by decide +kernel
theorem dX6_throughs_12 : decode cX6_throughs 12 = .ok (.iconst (-1), 1) := by decide +kernel
theorem dX6_throughs_13 : decode cX6_throughs 13 = .ok (.if_icmp .ne 7, 3) := by decide +kernel
theorem dX6_throughs_16 : decode cX6_throughs 16 = .ok (.iconst 0, 1) := by decide +kernel
theorem dX6_throughs_17 : decode cX6_throughs 17 = .ok (.goto 17, 3) := by decide +kernel
theorem dX6_throughs_20 : decode cX6_throughs 20 = .ok (.aload_n 0, 1) := by decide +kernel
theorem dX6_throughs_21 : decode cX6_throughs 21 = .ok (.iload_n 2, 1) := by decide +kernel
theorem dX6_throughs_22 : decode cX6_throughs 22 = .ok (.invokevirtual 72, 3) := by decide +kernel
theorem dX6_throughs_25 : decode cX6_throughs 25 = .ok (.aload_n 0, 1) := by decide +kernel
theorem dX6_throughs_26 : decode cX6_throughs 26 = .ok (.aload_n 3, 1) := by decide +kernel
theorem dX6_throughs_27 : decode cX6_throughs 27 = .ok (.iload_n 1, 1) := by decide +kernel
theorem dX6_throughs_28 : decode cX6_throughs 28 = .ok (.invokevirtual 68, 3) := by decide +kernel
theorem dX6_throughs_31 : decode cX6_throughs 31 = .ok (.iload_n 2, 1) := by decide +kernel
theorem dX6_throughs_32 : decode cX6_throughs 32 = .ok (.iaload, 1) := by decide +kernel
theorem dX6_throughs_33 : decode cX6_throughs 33 = .ok (.imul, 1) := by decide +kernel
theorem dX6_throughs_34 : decode cX6_throughs 34 = .ok (.ireturn, 1) := by decide +kernel
set_option maxRecDepth 20000 in
theorem ggX6_through_X6_is : GoodIn wsX6_through wsX6_is := goodIn_r _ [6, 7, 8, 9, 5, 10, 11, 12, 36, 37, 38, 39, 40, 41, 42, 43] (by decide +kernel) (by decide +kernel)
set_option maxRecDepth 20000 in
theorem gX6_through_X6_is : GoodIn wsX6_through (wsV RX6 38 RX6 yX6_is wsX6_is) := goodIn_app (goodIn_of _ (by decide +kernel)) ggX6_through_X6_is
set_option maxRecDepth 20000 in
theorem ggX6_through_X6_can : GoodIn wsX6_through wsX6_can := goodIn_r _ [16, 17, 36, 37, 38, 39, 40, 41, 42, 43] (by decide +kernel) (by decide +kernel)
set_option maxRecDepth 20000 in
theorem gX6_through_X6_can : GoodIn wsX6_through (wsV RX6 42 RX6 yX6_can wsX6_can) := goodIn_app (goodIn_of _ (by decide +kernel)) ggX6_through_X6_can
set_option maxRecDepth 20000 in
theorem ggX6_through_X6_at : GoodIn wsX6_through wsX6_at := goodIn_r _ [10, 11, 12, 36, 37, 38, 39, 40, 41, 42, 43] (by decide +kernel) (by decide +kernel)
set_option maxRecDepth 20000 in
theorem gX6_through_X6_at : GoodIn wsX6_through (wsV RX6 34 RX6 yX6_at wsX6_at) := goodIn_app (goodIn_of _ (by decide +kernel)) ggX6_through_X6_at
set_option maxRecDepth 20000 in
theorem ggX6_through_X6_throughs : GoodIn wsX6_through wsX6_throughs := goodIn_r _ [21, 1, 22, 23, 24, 5, 25, 26, 11, 27, 28, 29, 30, 31, 32, 33, 34, 35, 36, 37, 38, 39, 40, 41, 42, 43] (by decide +kernel) (by decide +kernel)
set_option maxRecDepth 20000 in
theorem gX6_through_X6_throughs : GoodIn wsX6_through (wsV RX6 75 RX6 yX6_throughs wsX6_throughs) := goodIn_app (goodIn_of _ (by decide +kernel)) ggX6_through_X6_throughs
theorem dX6_through_0 : decode cX6_through 0 = .ok (.aload_n 0, 1) := by decide +kernel
theorem dX6_through_1 : decode cX6_through 1 = .ok (.aload_n 0, 1) := by decide +kernel
theorem dX6_through_2 : decode cX6_through 2 = .ok (.iload_n 1, 1) := by decide +kernel
theorem dX6_through_3 : decode cX6_through 3 = .ok (.invokevirtual 38, 3) := by decide +kernel
theorem dX6_through_6 : decode cX6_through 6 = .ok (.ifCond .eq 15, 3) := by decide +kernel
theorem dX6_through_9 : decode cX6_through 9 = .ok (.aload_n 0, 1) := by decide +kernel
theorem dX6_through_10 : decode cX6_through 10 = .ok (.iload_n 2, 1) := by decide +kernel
theorem dX6_through_11 : decode cX6_through 11 = .ok (.invokevirtual 38, 3) := by decide +kernel
theorem dX6_through_14 : decode cX6_through 14 = .ok (.ifCond .eq 7, 3) := by decide +kernel
theorem dX6_through_17 : decode cX6_through 17 = .ok (.iconst 1, 1) := by decide +kernel
theorem dX6_through_18 : decode cX6_through 18 = .ok (.goto 4, 3) := by decide +kernel
theorem dX6_through_21 : decode cX6_through 21 = .ok (.iconst 0, 1) := by decide +kernel
theorem dX6_through_22 : decode cX6_through 22 = .ok (.aload_n 0, 1) := by decide +kernel
theorem dX6_through_23 : decode cX6_through 23 = .ok (.getfield 18, 3) := by decide +kernel
theorem dX6_through_26 : decode cX6_through 26 = .ok (.ifCond .lt 7, 3) := by decide +kernel
theorem dX6_through_29 : decode cX6_through 29 = .ok (.iconst 1, 1) := by decide +kernel
theorem dX6_through_30 : decode cX6_through 30 = .ok (.goto 4, 3) := by decide +kernel
theorem dX6_through_33 : decode cX6_through 33 = .ok (.iconst 0, 1) := by decide +kernel
theorem dX6_through_34 : decode cX6_through 34 = .ok (.iconst 1, 1) := by decide +kernel
theorem dX6_through_35 : decode cX6_through 35 = .ok (.invokevirtual 42, 3) := by decide +kernel
theorem dX6_through_38 : decode cX6_through 38 = .ok (.ifCond .eq 20, 3) := by decide +kernel
theorem dX6_through_41 : decode cX6_through 41 = .ok (.aload_n 0, 1) := by decide +kernel
theorem dX6_through_42 : decode cX6_through 42 = .ok (.aload_n 0, 1) := by decide +kernel
theorem dX6_through_43 : decode cX6_through 43 = .ok (.iload_n 1, 1) := by decide +kernel
theorem dX6_through_44 : decode cX6_through 44 = .ok (.invokevirtual 34, 3) := by decide +kernel
theorem dX6_through_47 : decode cX6_through 47 = .ok (.aload_n 0, 1) := by decide +kernel
theorem dX6_through_48 : decode cX6_through 48 = .ok (.iload_n 2, 1) := by decide +kernel
theorem dX6_through_49 : decode cX6_through 49 = .ok (.invokevirtual 34, 3) := by decide +kernel
theorem dX6_through_52 : decode cX6_through 52 = .ok (.invokevirtual 75, 3) := by decide +kernel
theorem dX6_through_55 : decode cX6_through 55 = .ok (.goto 4, 3) := by decide +kernel
theorem dX6_through_58 : decode cX6_through 58 = .ok (.iconst 0, 1) := by decide +kernel
theorem dX6_through_59 : decode cX6_through 59 = .ok (.ireturn, 1) := by decide +kernel
set_option maxRecDepth 20000 in
theorem ggX6_isOnAll_X6_is : GoodIn wsX6_isOnAll wsX6_is := goodIn_r _ [6, 7, 8, 9, 5, 10, 11, 12, 36, 37, 38, 39, 40, 41, 42, 43] (by decide +kernel) (by decide +kernel)
set_option maxRecDepth 20000 in
theorem gX6_isOnAll_X6_is : GoodIn wsX6_isOnAll (wsV RX6 38 RX6 yX6_is wsX6_is) := goodIn_app (goodIn_of _ (by decide +kernel)) ggX6_isOnAll_X6_is
set_option maxRecDepth 20000 in
theorem ggX6_isOnAll_X6_can : GoodIn wsX6_isOnAll wsX6_can := goodIn_r _ [16, 17, 36, 37, 38, 39, 40, 41, 42, 43] (by decide +kernel) (by decide +kernel)
set_option maxRecDepth 20000 in
theorem gX6_isOnAll_X6_can : GoodIn wsX6_isOnAll (wsV RX6 42 RX6 yX6_can wsX6_can) := goodIn_app (goodIn_of _ (by decide +kernel)) ggX6_isOnAll_X6_can
set_option maxRecDepth 20000 in
theorem ggX6_isOnAll_X6_at : GoodIn wsX6_isOnAll wsX6_at := goodIn_r _ [10, 11, 12, 36, 37, 38, 39, 40, 41, 42, 43] (by decide +kernel) (by decide +kernel)
set_option maxRecDepth 20000 in
theorem gX6_isOnAll_X6_at : GoodIn wsX6_isOnAll (wsV RX6 34 RX6 yX6_at wsX6_at) := goodIn_app (goodIn_of _ (by decide +kernel)) ggX6_isOnAll_X6_at
set_option maxRecDepth 20000 in
theorem ggX6_isOnAll_X6_allWays : GoodIn wsX6_isOnAll wsX6_allWays := goodIn_r _ [21, 1, 22, 23, 24, 5, 25, 26, 11, 27, 28, 29, 30, 31, 36, 37, 38, 39, 40, 41, 42, 43] (by decide +kernel) (by decide +kernel)
set_option maxRecDepth 20000 in
theorem gX6_isOnAll_X6_allWays : GoodIn wsX6_isOnAll (wsV RX6 72 RX6 yX6_allWays wsX6_allWays) := goodIn_app (goodIn_of _ (by decide +kernel)) ggX6_isOnAll_X6_allWays
set_option maxRecDepth 20000 in
theorem ggX6_isOnAll_X6_throughs : GoodIn wsX6_isOnAll wsX6_throughs := goodIn_r _ [35, 1, 22, 23, 24, 5, 25, 26, 11, 27, 18, 19, 20, 21, 28, 29, 30, 31, 36, 37, 38, 39, 40, 41, 42, 43] (by decide +kernel) (by decide +kernel)
set_option maxRecDepth 20000 in
theorem gX6_isOnAll_X6_throughs : GoodIn wsX6_isOnAll (wsV RX6 75 RX6 yX6_throughs wsX6_throughs) := goodIn_app (goodIn_of _ (by decide +kernel)) ggX6_isOnAll_X6_throughs
theorem dX6_isOnAll_0 : decode cX6_isOnAll 0 = .ok (.aload_n 0, 1) := by decide +kernel
theorem dX6_isOnAll_1 : decode cX6_isOnAll 1 = .ok (.aload_n 0, 1) := by decide +kernel
theorem dX6_isOnAll_2 : decode cX6_isOnAll 2 = .ok (.iload_n 1, 1) := by decide +kernel
theorem dX6_isOnAll_3 : decode cX6_isOnAll 3 = .ok (.invokevirtual 38, 3) := by decide +kernel
theorem dX6_isOnAll_6 : decode cX6_isOnAll 6 = .ok (.ifCond .eq 15, 3) := by decide +kernel
theorem dX6_isOnAll_9 : decode cX6_isOnAll 9 = .ok (.aload_n 0, 1) := by decide +kernel
theorem dX6_isOnAll_10 : decode cX6_isOnAll 10 = .ok (.iload_n 2, 1) := by decide +kernel
theorem dX6_isOnAll_11 : decode cX6_isOnAll 11 = .ok (.invokevirtual 38, 3) := by decide +kernel
theorem dX6_isOnAll_14 : decode cX6_isOnAll 14 = .ok (.ifCond .eq 7, 3) := by decide +kernel
theorem dX6_isOnAll_17 : decode cX6_isOnAll 17 = .ok (.iconst 1, 1) := by decide +kernel
theorem dX6_isOnAll_18 : decode cX6_isOnAll 18 = .ok (.goto 4, 3) := by decide +kernel
theorem dX6_isOnAll_21 : decode cX6_isOnAll 21 = .ok (.iconst 0, 1) := by decide +kernel
theorem dX6_isOnAll_22 : decode cX6_isOnAll 22 = .ok (.aload_n 0, 1) := by decide +kernel
theorem dX6_isOnAll_23 : decode cX6_isOnAll 23 = .ok (.getfield 18, 3) := by decide +kernel
theorem dX6_isOnAll_26 : decode cX6_isOnAll 26 = .ok (.ifCond .lt 7, 3) := by decide +kernel
theorem dX6_isOnAll_29 : decode cX6_isOnAll 29 = .ok (.iconst 1, 1) := by decide +kernel
theorem dX6_isOnAll_30 : decode cX6_isOnAll 30 = .ok (.goto 4, 3) := by decide +kernel
theorem dX6_isOnAll_33 : decode cX6_isOnAll 33 = .ok (.iconst 0, 1) := by decide +kernel
theorem dX6_isOnAll_34 : decode cX6_isOnAll 34 = .ok (.iconst 1, 1) := by decide +kernel
theorem dX6_isOnAll_35 : decode cX6_isOnAll 35 = .ok (.invokevirtual 42, 3) := by decide +kernel
theorem dX6_isOnAll_38 : decode cX6_isOnAll 38 = .ok (.ifCond .eq 29, 3) := by decide +kernel
theorem dX6_isOnAll_41 : decode cX6_isOnAll 41 = .ok (.aload_n 0, 1) := by decide +kernel
theorem dX6_isOnAll_42 : decode cX6_isOnAll 42 = .ok (.iconst 1, 1) := by decide +kernel
theorem dX6_isOnAll_43 : decode cX6_isOnAll 43 = .ok (.iconst 1, 1) := by decide +kernel
theorem dX6_isOnAll_44 : decode cX6_isOnAll 44 = .ok (.aload_n 0, 1) := by decide +kernel
theorem dX6_isOnAll_45 : decode cX6_isOnAll 45 = .ok (.aload_n 0, 1) := by decide +kernel
theorem dX6_isOnAll_46 : decode cX6_isOnAll 46 = .ok (.iload_n 1, 1) := by decide +kernel
theorem dX6_isOnAll_47 : decode cX6_isOnAll 47 = .ok (.invokevirtual 34, 3) := by decide +kernel
theorem dX6_isOnAll_50 : decode cX6_isOnAll 50 = .ok (.invokevirtual 72, 3) := by decide +kernel
theorem dX6_isOnAll_53 : decode cX6_isOnAll 53 = .ok (.ifCond .le 7, 3) := by decide +kernel
theorem dX6_isOnAll_56 : decode cX6_isOnAll 56 = .ok (.iconst 1, 1) := by decide +kernel
theorem dX6_isOnAll_57 : decode cX6_isOnAll 57 = .ok (.goto 4, 3) := by decide +kernel
theorem dX6_isOnAll_60 : decode cX6_isOnAll 60 = .ok (.iconst 0, 1) := by decide +kernel
theorem dX6_isOnAll_61 : decode cX6_isOnAll 61 = .ok (.invokevirtual 42, 3) := by decide +kernel
theorem dX6_isOnAll_64 : decode cX6_isOnAll 64 = .ok (.ifCond .ne 5, 3) := by decide +kernel
theorem dX6_isOnAll_67 : decode cX6_isOnAll 67 = .ok (.iconst 0, 1) := by decide +kernel
theorem dX6_isOnAll_68 : decode cX6_isOnAll 68 = .ok (.ireturn, 1) := by decide +kernel
theorem dX6_isOnAll_69 : decode cX6_isOnAll 69 = .ok (.aload_n 0, 1) := by decide +kernel
theorem dX6_isOnAll_70 : decode cX6_isOnAll 70 = .ok (.aload_n 0, 1) := by decide +kernel
theorem dX6_isOnAll_71 : decode cX6_isOnAll 71 = .ok (.iload_n 1, 1) := by decide +kernel
theorem dX6_isOnAll_72 : decode cX6_isOnAll 72 = .ok (.invokevirtual 34, 3) := by decide +kernel
theorem dX6_isOnAll_75 : decode cX6_isOnAll 75 = .ok (.aload_n 0, 1) := by decide +kernel
theorem dX6_isOnAll_76 : decode cX6_isOnAll 76 = .ok (.iload_n 2, 1) := by decide +kernel
theorem dX6_isOnAll_77 : decode cX6_isOnAll 77 = .ok (.invokevirtual 34, 3) := by decide +kernel
theorem dX6_isOnAll_80 : decode cX6_isOnAll 80 = .ok (.invokevirtual 75, 3) := by decide +kernel
theorem dX6_isOnAll_83 : decode cX6_isOnAll 83 = .ok (.aload_n 0, 1) := by decide +kernel
theorem dX6_isOnAll_84 : decode cX6_isOnAll 84 = .ok (.aload_n 0, 1) := by decide +kernel
theorem dX6_isOnAll_85 : decode cX6_isOnAll 85 = .ok (.iload_n 1, 1) := by decide +kernel
theorem dX6_isOnAll_86 : decode cX6_isOnAll 86 = .ok (.invokevirtual 34, 3) := by decide +kernel
theorem dX6_isOnAll_89 : decode cX6_isOnAll 89 = .ok (.invokevirtual 72, 3) := by decide +kernel
theorem dX6_isOnAll_92 : decode cX6_isOnAll 92 = .ok (.if_icmp .ne 7, 3) := by decide +kernel
theorem dX6_isOnAll_95 : decode cX6_isOnAll 95 = .ok (.iconst 1, 1) := by decide +kernel
theorem dX6_isOnAll_96 : decode cX6_isOnAll 96 = .ok (.goto 4, 3) := by decide +kernel
theorem dX6_isOnAll_99 : decode cX6_isOnAll 99 = .ok (.iconst 0, 1) := by decide +kernel
theorem dX6_isOnAll_100 : decode cX6_isOnAll 100 = .ok (.ireturn, 1) := by decide +kernel
set_option maxRecDepth 20000 in
theorem ggX6_onAll_X6_is : GoodIn wsX6_onAll wsX6_is := goodIn_r _ [7, 8, 9, 10, 6, 11, 2, 12, 36, 37, 38, 39, 40, 41, 42, 43] (by decide +kernel) (by decide +kernel)
set_option maxRecDepth 20000 in
theorem gX6_onAll_X6_is : GoodIn wsX6_onAll (wsV RX6 38 RX6 yX6_is wsX6_is) := goodIn_app (goodIn_of _ (by decide +kernel)) ggX6_onAll_X6_is
set_option maxRecDepth 20000 in
theorem ggX6_onAll_X6_can : GoodIn wsX6_onAll wsX6_can := goodIn_r _ [16, 17, 36, 37, 38, 39, 40, 41, 42, 43] (by decide +kernel) (by decide +kernel)
set_option maxRecDepth 20000 in
theorem gX6_onAll_X6_can : GoodIn wsX6_onAll (wsV RX6 42 RX6 yX6_can wsX6_can) := goodIn_app (goodIn_of _ (by decide +kernel)) ggX6_onAll_X6_can
set_option maxRecDepth 20000 in
theorem ggX6_onAll_X6_at : GoodIn wsX6_onAll wsX6_at := goodIn_r _ [11, 2, 12, 36, 37, 38, 39, 40, 41, 42, 43] (by decide +kernel) (by decide +kernel)
set_option maxRecDepth 20000 in
theorem gX6_onAll_X6_at : GoodIn wsX6_onAll (wsV RX6 34 RX6 yX6_at wsX6_at) := goodIn_app (goodIn_of _ (by decide +kernel)) ggX6_onAll_X6_at
set_option maxRecDepth 20000 in
theorem ggX6_onAll_X6_allWays : GoodIn wsX6_onAll wsX6_allWays := goodIn_r _ [21, 1, 22, 23, 24, 6, 25, 26, 2, 27, 28, 29, 30, 31, 36, 37, 38, 39, 40, 41, 42, 43] (by decide +kernel) (by decide +kernel)
set_option maxRecDepth 20000 in
theorem gX6_onAll_X6_allWays : GoodIn wsX6_onAll (wsV RX6 72 RX6 yX6_allWays wsX6_allWays) := goodIn_app (goodIn_of _ (by decide +kernel)) ggX6_onAll_X6_allWays
set_option maxRecDepth 20000 in
theorem ggX6_onAll_X6_throughs : GoodIn wsX6_onAll wsX6_throughs := goodIn_r _ [35, 1, 22, 23, 24, 6, 25, 26, 2, 27, 18, 19, 20, 21, 28, 29, 30, 31, 36, 37, 38, 39, 40, 41, 42, 43] (by decide +kernel) (by decide +kernel)
set_option maxRecDepth 20000 in
theorem gX6_onAll_X6_throughs : GoodIn wsX6_onAll (wsV RX6 75 RX6 yX6_throughs wsX6_throughs) := goodIn_app (goodIn_of _ (by decide +kernel)) ggX6_onAll_X6_throughs
theorem dX6_onAll_0 : decode cX6_onAll 0 = .ok (.aload_n 0, 1) := by decide +kernel
theorem dX6_onAll_1 : decode cX6_onAll 1 = .ok (.aload_n 0, 1) := by decide +kernel
theorem dX6_onAll_2 : decode cX6_onAll 2 = .ok (.iload_n 1, 1) := by decide +kernel
theorem dX6_onAll_3 : decode cX6_onAll 3 = .ok (.invokevirtual 38, 3) := by decide +kernel
theorem dX6_onAll_6 : decode cX6_onAll 6 = .ok (.aload_n 0, 1) := by decide +kernel
theorem dX6_onAll_7 : decode cX6_onAll 7 = .ok (.getfield 18, 3) := by decide +kernel
theorem dX6_onAll_10 : decode cX6_onAll 10 = .ok (.ifCond .lt 7, 3) := by decide +kernel
theorem dX6_onAll_13 : decode cX6_onAll 13 = .ok (.iconst 1, 1) := by decide +kernel
theorem dX6_onAll_14 : decode cX6_onAll 14 = .ok (.goto 4, 3) := by decide +kernel
theorem dX6_onAll_17 : decode cX6_onAll 17 = .ok (.iconst 0, 1) := by decide +kernel
theorem dX6_onAll_18 : decode cX6_onAll 18 = .ok (.iconst 1, 1) := by decide +kernel
theorem dX6_onAll_19 : decode cX6_onAll 19 = .ok (.invokevirtual 42, 3) := by decide +kernel
theorem dX6_onAll_22 : decode cX6_onAll 22 = .ok (.ifCond .eq 29, 3) := by decide +kernel
theorem dX6_onAll_25 : decode cX6_onAll 25 = .ok (.aload_n 0, 1) := by decide +kernel
theorem dX6_onAll_26 : decode cX6_onAll 26 = .ok (.iconst 1, 1) := by decide +kernel
theorem dX6_onAll_27 : decode cX6_onAll 27 = .ok (.iconst 1, 1) := by decide +kernel
theorem dX6_onAll_28 : decode cX6_onAll 28 = .ok (.aload_n 0, 1) := by decide +kernel
theorem dX6_onAll_29 : decode cX6_onAll 29 = .ok (.aload_n 0, 1) := by decide +kernel
theorem dX6_onAll_30 : decode cX6_onAll 30 = .ok (.iload_n 1, 1) := by decide +kernel
theorem dX6_onAll_31 : decode cX6_onAll 31 = .ok (.invokevirtual 34, 3) := by decide +kernel
theorem dX6_onAll_34 : decode cX6_onAll 34 = .ok (.invokevirtual 72, 3) := by decide +kernel
theorem dX6_onAll_37 : decode cX6_onAll 37 = .ok (.ifCond .le 7, 3) := by decide +kernel
theorem dX6_onAll_40 : decode cX6_onAll 40 = .ok (.iconst 1, 1) := by decide +kernel
theorem dX6_onAll_41 : decode cX6_onAll 41 = .ok (.goto 4, 3) := by decide +kernel
theorem dX6_onAll_44 : decode cX6_onAll 44 = .ok (.iconst 0, 1) := by decide +kernel
theorem dX6_onAll_45 : decode cX6_onAll 45 = .ok (.invokevirtual 42, 3) := by decide +kernel
theorem dX6_onAll_48 : decode cX6_onAll 48 = .ok (.ifCond .ne 5, 3) := by decide +kernel
theorem dX6_onAll_51 : decode cX6_onAll 51 = .ok (.iconst 0, 1) := by decide +kernel
theorem dX6_onAll_52 : decode cX6_onAll 52 = .ok (.ireturn, 1) := by decide +kernel
theorem dX6_onAll_53 : decode cX6_onAll 53 = .ok (.iconst 0, 1) := by decide +kernel
theorem dX6_onAll_54 : decode cX6_onAll 54 = .ok (.istore_n 2, 1) := by decide +kernel
theorem dX6_onAll_55 : decode cX6_onAll 55 = .ok (.iconst 0, 1) := by decide +kernel
theorem dX6_onAll_56 : decode cX6_onAll 56 = .ok (.istore_n 3, 1) := by decide +kernel
theorem dX6_onAll_57 : decode cX6_onAll 57 = .ok (.iload_n 3, 1) := by decide +kernel
theorem dX6_onAll_58 : decode cX6_onAll 58 = .ok (.aload_n 0, 1) := by decide +kernel
theorem dX6_onAll_59 : decode cX6_onAll 59 = .ok (.getfield 31, 3) := by decide +kernel
theorem dX6_onAll_62 : decode cX6_onAll 62 = .ok (.if_icmp .ge 39, 3) := by decide +kernel
theorem dX6_onAll_65 : decode cX6_onAll 65 = .ok (.iload_n 2, 1) := by decide +kernel
theorem dX6_onAll_66 : decode cX6_onAll 66 = .ok (.aload_n 0, 1) := by decide +kernel
theorem dX6_onAll_67 : decode cX6_onAll 67 = .ok (.aload_n 0, 1) := by decide +kernel
theorem dX6_onAll_68 : decode cX6_onAll 68 = .ok (.iload_n 1, 1) := by decide +kernel
theorem dX6_onAll_69 : decode cX6_onAll 69 = .ok (.invokevirtual 34, 3) := by decide +kernel
theorem dX6_onAll_72 : decode cX6_onAll 72 = .ok (.iload_n 3, 1) := by decide +kernel
theorem dX6_onAll_73 : decode cX6_onAll 73 = .ok (.invokevirtual 75, 3) := by decide +kernel
theorem dX6_onAll_76 : decode cX6_onAll 76 = .ok (.aload_n 0, 1) := by decide +kernel
theorem dX6_onAll_77 : decode cX6_onAll 77 = .ok (.aload_n 0, 1) := by decide +kernel
theorem dX6_onAll_78 : decode cX6_onAll 78 = .ok (.iload_n 1, 1) := by decide +kernel
theorem dX6_onAll_79 : decode cX6_onAll 79 = .ok (.invokevirtual 34, 3) := by decide +kernel
theorem dX6_onAll_82 : decode cX6_onAll 82 = .ok (.invokevirtual 72, 3) := by decide +kernel
theorem dX6_onAll_85 : decode cX6_onAll 85 = .ok (.if_icmp .ne 7, 3) := by decide +kernel
theorem dX6_onAll_88 : decode cX6_onAll 88 = .ok (.iconst 1, 1) := by decide +kernel
theorem dX6_onAll_89 : decode cX6_onAll 89 = .ok (.goto 4, 3) := by decide +kernel
theorem dX6_onAll_92 : decode cX6_onAll 92 = .ok (.iconst 0, 1) := by decide +kernel
theorem dX6_onAll_93 : decode cX6_onAll 93 = .ok (.iadd, 1) := by decide +kernel
theorem dX6_onAll_94 : decode cX6_onAll 94 = .ok (.istore_n 2, 1) := by decide +kernel
theorem dX6_onAll_95 : decode cX6_onAll 95 = .ok (.iinc 3 1, 3) := by decide +kernel
theorem dX6_onAll_98 : decode cX6_onAll 98 = .ok (.goto (-41), 3) := by decide +kernel
theorem dX6_onAll_101 : decode cX6_onAll 101 = .ok (.iload_n 2, 1) := by decide +kernel
theorem dX6_onAll_102 : decode cX6_onAll 102 = .ok (.ireturn, 1) := by decide +kernel
set_option maxRecDepth 20000 in
theorem ggX6_mean_X6_can : GoodIn wsX6_mean wsX6_can := goodIn_r _ [7, 8, 15, 16, 17, 18, 19, 20, 21, 22] (by decide +kernel) (by decide +kernel)
set_option maxRecDepth 20000 in
theorem gX6_mean_X6_can : GoodIn wsX6_mean (wsV RX6 42 RX6 yX6_can wsX6_can) := goodIn_app (goodIn_of _ (by decide +kernel)) ggX6_mean_X6_can
set_option maxRecDepth 20000 in
theorem ggX6_mean_X6_lengths : GoodIn wsX6_mean wsX6_lengths := goodIn_r _ [12, 13, 2, 14, 15, 16, 17, 18, 19, 20, 21, 22] (by decide +kernel) (by decide +kernel)
set_option maxRecDepth 20000 in
theorem gX6_mean_X6_lengths : GoodIn wsX6_mean (wsV RX6 52 RX6 yX6_lengths wsX6_lengths) := goodIn_app (goodIn_of _ (by decide +kernel)) ggX6_mean_X6_lengths
theorem dX6_mean_0 : decode cX6_mean 0 = .ok (.aload_n 0, 1) := by decide +kernel
theorem dX6_mean_1 : decode cX6_mean 1 = .ok (.aload_n 0, 1) := by decide +kernel
theorem dX6_mean_2 : decode cX6_mean 2 = .ok (.getfield 18, 3) := by decide +kernel
theorem dX6_mean_5 : decode cX6_mean 5 = .ok (.ifCond .lt 7, 3) := by decide +kernel
theorem dX6_mean_8 : decode cX6_mean 8 = .ok (.iconst 1, 1) := by decide +kernel
theorem dX6_mean_9 : decode cX6_mean 9 = .ok (.goto 4, 3) := by decide +kernel
theorem dX6_mean_12 : decode cX6_mean 12 = .ok (.iconst 0, 1) := by decide +kernel
theorem dX6_mean_13 : decode cX6_mean 13 = .ok (.iconst 1, 1) := by decide +kernel
theorem dX6_mean_14 : decode cX6_mean 14 = .ok (.iconst 1, 1) := by decide +kernel
theorem dX6_mean_15 : decode cX6_mean 15 = .ok (.invokevirtual 42, 3) := by decide +kernel
theorem dX6_mean_18 : decode cX6_mean 18 = .ok (.ifCond .ne 5, 3) := by decide +kernel
theorem dX6_mean_21 : decode cX6_mean 21 = .ok (.dconst 0, 1) := by decide +kernel
theorem dX6_mean_22 : decode cX6_mean 22 = .ok (.dreturn, 1) := by decide +kernel
theorem dX6_mean_23 : decode cX6_mean 23 = .ok (.aload_n 0, 1) := by decide +kernel
theorem dX6_mean_24 : decode cX6_mean 24 = .ok (.aload_n 0, 1) := by decide +kernel
theorem dX6_mean_25 : decode cX6_mean 25 = .ok (.getfield 18, 3) := by decide +kernel
theorem dX6_mean_28 : decode cX6_mean 28 = .ok (.invokevirtual 52, 3) := by decide +kernel
theorem dX6_mean_31 : decode cX6_mean 31 = .ok (.astore_n 1, 1) := by decide +kernel
theorem dX6_mean_32 : decode cX6_mean 32 = .ok (.iconst 0, 1) := by decide +kernel
theorem dX6_mean_33 : decode cX6_mean 33 = .ok (.istore_n 2, 1) := by decide +kernel
theorem dX6_mean_34 : decode cX6_mean 34 = .ok (.iconst 0, 1) := by decide +kernel
theorem dX6_mean_35 : decode cX6_mean 35 = .ok (.istore_n 3, 1) := by decide +kernel
theorem dX6_mean_36 : decode cX6_mean 36 = .ok (.iconst 0, 1) := by decide +kernel
theorem dX6_mean_37 : decode cX6_mean 37 = .ok (.istore 4, 2) := by decide +kernel
theorem dX6_mean_39 : decode cX6_mean 39 = .ok (.iload 4, 2) := by decide +kernel
theorem dX6_mean_41 : decode cX6_mean 41 = .ok (.aload_n 0, 1) := by decide +kernel
theorem dX6_mean_42 : decode cX6_mean 42 = .ok (.getfield 31, 3) := by decide +kernel
theorem dX6_mean_45 : decode cX6_mean 45 = .ok (.if_icmp .ge 44, 3) := by decide +kernel
theorem dX6_mean_48 : decode cX6_mean 48 = .ok (.iload_n 2, 1) := by decide +kernel
theorem dX6_mean_49 : decode cX6_mean 49 = .ok (.aload_n 1, 1) := by decide +kernel
theorem dX6_mean_50 : decode cX6_mean 50 = .ok (.iload 4, 2) := by decide +kernel
theorem dX6_mean_52 : decode cX6_mean 52 = .ok (.iaload, 1) := by decide +kernel
theorem dX6_mean_53 : decode cX6_mean 53 = .ok (.iconst (-1), 1) := by decide +kernel
theorem dX6_mean_54 : decode cX6_mean 54 = .ok (.if_icmp .ne 7, 3) := by decide +kernel
theorem dX6_mean_57 : decode cX6_mean 57 = .ok (.iconst 0, 1) := by decide +kernel
theorem dX6_mean_58 : decode cX6_mean 58 = .ok (.goto 7, 3) := by decide +kernel
theorem dX6_mean_61 : decode cX6_mean 61 = .ok (.aload_n 1, 1) := by decide +kernel
theorem dX6_mean_62 : decode cX6_mean 62 = .ok (.iload 4, 2) := by decide +kernel
theorem dX6_mean_64 : decode cX6_mean 64 = .ok (.iaload, 1) := by decide +kernel
theorem dX6_mean_65 : decode cX6_mean 65 = .ok (.iadd, 1) := by decide +kernel
theorem dX6_mean_66 : decode cX6_mean 66 = .ok (.istore_n 2, 1) := by decide +kernel
theorem dX6_mean_67 : decode cX6_mean 67 = .ok (.iload_n 3, 1) := by decide +kernel
theorem dX6_mean_68 : decode cX6_mean 68 = .ok (.aload_n 1, 1) := by decide +kernel
theorem dX6_mean_69 : decode cX6_mean 69 = .ok (.iload 4, 2) := by decide +kernel
theorem dX6_mean_71 : decode cX6_mean 71 = .ok (.iaload, 1) := by decide +kernel
theorem dX6_mean_72 : decode cX6_mean 72 = .ok (.iconst (-1), 1) := by decide +kernel
theorem dX6_mean_73 : decode cX6_mean 73 = .ok (.if_icmp .ne 7, 3) := by decide +kernel
theorem dX6_mean_76 : decode cX6_mean 76 = .ok (.iconst 0, 1) := by decide +kernel
theorem dX6_mean_77 : decode cX6_mean 77 = .ok (.goto 4, 3) := by decide +kernel
theorem dX6_mean_80 : decode cX6_mean 80 = .ok (.iconst 1, 1) := by decide +kernel
theorem dX6_mean_81 : decode cX6_mean 81 = .ok (.iadd, 1) := by decide +kernel
theorem dX6_mean_82 : decode cX6_mean 82 = .ok (.istore_n 3, 1) := by decide +kernel
theorem dX6_mean_83 : decode cX6_mean 83 = .ok (.iinc 4 1, 3) := by decide +kernel
theorem dX6_mean_86 : decode cX6_mean 86 = .ok (.goto (-47), 3) := by decide +kernel
theorem dX6_mean_89 : decode cX6_mean 89 = .ok (.iload_n 2, 1) := by decide +kernel
theorem dX6_mean_90 : decode cX6_mean 90 = .ok (.i2d, 1) := by decide +kernel
theorem dX6_mean_91 : decode cX6_mean 91 = .ok (.iload_n 3, 1) := by decide +kernel
theorem dX6_mean_92 : decode cX6_mean 92 = .ok (.i2d, 1) := by decide +kernel
theorem dX6_mean_93 : decode cX6_mean 93 = .ok (.ddiv, 1) := by decide +kernel
theorem dX6_mean_94 : decode cX6_mean 94 = .ok (.dreturn, 1) := by decide +kernel
set_option maxRecDepth 20000 in
theorem ggX6_between_X6_is : GoodIn wsX6_between wsX6_is := goodIn_r _ [5, 6, 7, 8, 4, 9, 10, 11, 23, 24, 25, 26, 27, 28, 29, 30] (by decide +kernel) (by decide +kernel)
set_option maxRecDepth 20000 in
theorem gX6_between_X6_is : GoodIn wsX6_between (wsV RX6 38 RX6 yX6_is wsX6_is) := goodIn_app (goodIn_of _ (by decide +kernel)) ggX6_between_X6_is
set_option maxRecDepth 20000 in
theorem ggX6_between_X6_can : GoodIn wsX6_between wsX6_can := goodIn_r _ [15, 16, 23, 24, 25, 26, 27, 28, 29, 30] (by decide +kernel) (by decide +kernel)
set_option maxRecDepth 20000 in
theorem gX6_between_X6_can : GoodIn wsX6_between (wsV RX6 42 RX6 yX6_can wsX6_can) := goodIn_app (goodIn_of _ (by decide +kernel)) ggX6_between_X6_can
set_option maxRecDepth 20000 in
theorem ggX6_between_X6_at : GoodIn wsX6_between wsX6_at := goodIn_r _ [9, 10, 11, 23, 24, 25, 26, 27, 28, 29, 30] (by decide +kernel) (by decide +kernel)
set_option maxRecDepth 20000 in
theorem gX6_between_X6_at : GoodIn wsX6_between (wsV RX6 34 RX6 yX6_at wsX6_at) := goodIn_app (goodIn_of _ (by decide +kernel)) ggX6_between_X6_at
set_option maxRecDepth 20000 in
theorem ggX6_between_X6_lengths : GoodIn wsX6_between wsX6_lengths := goodIn_r _ [20, 21, 10, 22, 23, 24, 25, 26, 27, 28, 29, 30] (by decide +kernel) (by decide +kernel)
set_option maxRecDepth 20000 in
theorem gX6_between_X6_lengths : GoodIn wsX6_between (wsV RX6 52 RX6 yX6_lengths wsX6_lengths) := goodIn_app (goodIn_of _ (by decide +kernel)) ggX6_between_X6_lengths
theorem dX6_between_0 : decode cX6_between 0 = .ok (.aload_n 0, 1) := by decide +kernel
theorem dX6_between_1 : decode cX6_between 1 = .ok (.aload_n 0, 1) := by decide +kernel
theorem dX6_between_2 : decode cX6_between 2 = .ok (.iload_n 1, 1) := by decide +kernel
theorem dX6_between_3 : decode cX6_between 3 = .ok (.invokevirtual 38, 3) := by decide +kernel
theorem dX6_between_6 : decode cX6_between 6 = .ok (.ifCond .eq 15, 3) := by decide +kernel
theorem dX6_between_9 : decode cX6_between 9 = .ok (.aload_n 0, 1) := by decide +kernel
theorem dX6_between_10 : decode cX6_between 10 = .ok (.iload_n 2, 1) := by decide +kernel
theorem dX6_between_11 : decode cX6_between 11 = .ok (.invokevirtual 38, 3) := by decide +kernel
theorem dX6_between_14 : decode cX6_between 14 = .ok (.ifCond .eq 7, 3) := by decide +kernel
theorem dX6_between_17 : decode cX6_between 17 = .ok (.iconst 1, 1) := by decide +kernel
theorem dX6_between_18 : decode cX6_between 18 = .ok (.goto 4, 3) := by decide +kernel
theorem dX6_between_21 : decode cX6_between 21 = .ok (.iconst 0, 1) := by decide +kernel
theorem dX6_between_22 : decode cX6_between 22 = .ok (.iconst 1, 1) := by decide +kernel
theorem dX6_between_23 : decode cX6_between 23 = .ok (.iconst 1, 1) := by decide +kernel
theorem dX6_between_24 : decode cX6_between 24 = .ok (.invokevirtual 42, 3) := by decide +kernel
theorem dX6_between_27 : decode cX6_between 27 = .ok (.ifCond .eq 21, 3) := by decide +kernel
theorem dX6_between_30 : decode cX6_between 30 = .ok (.aload_n 0, 1) := by decide +kernel
theorem dX6_between_31 : decode cX6_between 31 = .ok (.aload_n 0, 1) := by decide +kernel
theorem dX6_between_32 : decode cX6_between 32 = .ok (.iload_n 1, 1) := by decide +kernel
theorem dX6_between_33 : decode cX6_between 33 = .ok (.invokevirtual 34, 3) := by decide +kernel
theorem dX6_between_36 : decode cX6_between 36 = .ok (.invokevirtual 52, 3) := by decide +kernel
theorem dX6_between_39 : decode cX6_between 39 = .ok (.aload_n 0, 1) := by decide +kernel
theorem dX6_between_40 : decode cX6_between 40 = .ok (.iload_n 2, 1) := by decide +kernel
theorem dX6_between_41 : decode cX6_between 41 = .ok (.invokevirtual 34, 3) := by decide +kernel
theorem dX6_between_44 : decode cX6_between 44 = .ok (.iaload, 1) := by decide +kernel
theorem dX6_between_45 : decode cX6_between 45 = .ok (.goto 4, 3) := by decide +kernel
theorem dX6_between_48 : decode cX6_between 48 = .ok (.iconst 0, 1) := by decide +kernel
theorem dX6_between_49 : decode cX6_between 49 = .ok (.ireturn, 1) := by decide +kernel
set_option maxRecDepth 20000 in
theorem ggX6_head_X6_lengths : GoodIn wsX6_head wsX6_lengths := goodIn_r _ [6, 7, 1, 8, 9, 10, 11, 12, 13, 14, 15, 16] (by decide +kernel) (by decide +kernel)
set_option maxRecDepth 20000 in
theorem gX6_head_X6_lengths : GoodIn wsX6_head (wsV RX6 52 RX6 yX6_lengths wsX6_lengths) := goodIn_app (goodIn_of _ (by decide +kernel)) ggX6_head_X6_lengths
theorem dX6_head_0 : decode cX6_head 0 = .ok (.aload_n 0, 1) := by decide +kernel
theorem dX6_head_1 : decode cX6_head 1 = .ok (.iload_n 1, 1) := by decide +kernel
theorem dX6_head_2 : decode cX6_head 2 = .ok (.invokevirtual 52, 3) := by decide +kernel
theorem dX6_head_5 : decode cX6_head 5 = .ok (.astore_n 2, 1) := by decide +kernel
theorem dX6_head_6 : decode cX6_head 6 = .ok (.iload_n 1, 1) := by decide +kernel
theorem dX6_head_7 : decode cX6_head 7 = .ok (.istore_n 3, 1) := by decide +kernel
theorem dX6_head_8 : decode cX6_head 8 = .ok (.aload_n 0, 1) := by decide +kernel
theorem dX6_head_9 : decode cX6_head 9 = .ok (.getfield 31, 3) := by decide +kernel
theorem dX6_head_12 : decode cX6_head 12 = .ok (.iconst 1, 1) := by decide +kernel
theorem dX6_head_13 : decode cX6_head 13 = .ok (.isub, 1) := by decide +kernel
theorem dX6_head_14 : decode cX6_head 14 = .ok (.istore 4, 2) := by decide +kernel
theorem dX6_head_16 : decode cX6_head 16 = .ok (.iload 4, 2) := by decide +kernel
theorem dX6_head_18 : decode cX6_head 18 = .ok (.ifCond .lt 24, 3) := by decide +kernel
theorem dX6_head_21 : decode cX6_head 21 = .ok (.aload_n 2, 1) := by decide +kernel
theorem dX6_head_22 : decode cX6_head 22 = .ok (.iload 4, 2) := by decide +kernel
theorem dX6_head_24 : decode cX6_head 24 = .ok (.iaload, 1) := by decide +kernel
theorem dX6_head_25 : decode cX6_head 25 = .ok (.iconst (-1), 1) := by decide +kernel
theorem dX6_head_26 : decode cX6_head 26 = .ok (.if_icmp .ne 7, 3) := by decide +kernel
theorem dX6_head_29 : decode cX6_head 29 = .ok (.iload_n 3, 1) := by decide +kernel
theorem dX6_head_30 : decode cX6_head 30 = .ok (.goto 5, 3) := by decide +kernel
theorem dX6_head_33 : decode cX6_head 33 = .ok (.iload 4, 2) := by decide +kernel
theorem dX6_head_35 : decode cX6_head 35 = .ok (.istore_n 3, 1) := by decide +kernel
theorem dX6_head_36 : decode cX6_head 36 = .ok (.iinc 4 (-1), 3) := by decide +kernel
theorem dX6_head_39 : decode cX6_head 39 = .ok (.goto (-23), 3) := by decide +kernel
theorem dX6_head_42 : decode cX6_head 42 = .ok (.iload_n 3, 1) := by decide +kernel
theorem dX6_head_43 : decode cX6_head 43 = .ok (.ireturn, 1) := by decide +kernel
set_option maxRecDepth 20000 in
theorem ggX6_parts_X6_head : GoodIn wsX6_parts wsX6_head := goodIn_r _ [7, 2, 8, 9, 10, 6, 11, 12, 13, 14, 15, 16, 17, 18, 19, 20, 21] (by decide +kernel) (by decide +kernel)
set_option maxRecDepth 20000 in
theorem gX6_parts_X6_head : GoodIn wsX6_parts (wsV RX6 79 RX6 yX6_head wsX6_head) := goodIn_app (goodIn_of _ (by decide +kernel)) ggX6_parts_X6_head
theorem dX6_parts_0 : decode cX6_parts 0 = .ok (.aload_n 0, 1) := by decide +kernel
theorem dX6_parts_1 : decode cX6_parts 1 = .ok (.iconst 0, 1) := by decide +kernel
theorem dX6_parts_2 : decode cX6_parts 2 = .ok (.putfield 28, 3) := by decide +kernel
theorem dX6_parts_5 : decode cX6_parts 5 = .ok (.iconst 0, 1) := by decide +kernel
theorem dX6_parts_6 : decode cX6_parts 6 = .ok (.istore_n 1, 1) := by decide +kernel
theorem dX6_parts_7 : decode cX6_parts 7 = .ok (.iconst 0, 1) := by decide +kernel
theorem dX6_parts_8 : decode cX6_parts 8 = .ok (.istore_n 2, 1) := by decide +kernel
theorem dX6_parts_9 : decode cX6_parts 9 = .ok (.iload_n 2, 1) := by decide +kernel
theorem dX6_parts_10 : decode cX6_parts 10 = .ok (.aload_n 0, 1) := by decide +kernel
theorem dX6_parts_11 : decode cX6_parts 11 = .ok (.getfield 31, 3) := by decide +kernel
theorem dX6_parts_14 : decode cX6_parts 14 = .ok (.if_icmp .ge 26, 3) := by decide +kernel
theorem dX6_parts_17 : decode cX6_parts 17 = .ok (.iload_n 1, 1) := by decide +kernel
theorem dX6_parts_18 : decode cX6_parts 18 = .ok (.aload_n 0, 1) := by decide +kernel
theorem dX6_parts_19 : decode cX6_parts 19 = .ok (.iload_n 2, 1) := by decide +kernel
theorem dX6_parts_20 : decode cX6_parts 20 = .ok (.invokevirtual 79, 3) := by decide +kernel
theorem dX6_parts_23 : decode cX6_parts 23 = .ok (.iload_n 2, 1) := by decide +kernel
theorem dX6_parts_24 : decode cX6_parts 24 = .ok (.if_icmp .ne 7, 3) := by decide +kernel
theorem dX6_parts_27 : decode cX6_parts 27 = .ok (.iconst 1, 1) := by decide +kernel
theorem dX6_parts_28 : decode cX6_parts 28 = .ok (.goto 4, 3) := by decide +kernel
theorem dX6_parts_31 : decode cX6_parts 31 = .ok (.iconst 0, 1) := by decide +kernel
theorem dX6_parts_32 : decode cX6_parts 32 = .ok (.iadd, 1) := by decide +kernel
theorem dX6_parts_33 : decode cX6_parts 33 = .ok (.istore_n 1, 1) := by decide +kernel
theorem dX6_parts_34 : decode cX6_parts 34 = .ok (.iinc 2 1, 3) := by decide +kernel
theorem dX6_parts_37 : decode cX6_parts 37 = .ok (.goto (-28), 3) := by decide +kernel
theorem dX6_parts_40 : decode cX6_parts 40 = .ok (.iload_n 1, 1) := by decide +kernel
theorem dX6_parts_41 : decode cX6_parts 41 = .ok (.ireturn, 1) := by decide +kernel
set_option maxRecDepth 20000 in
theorem ggX6_oddWalk_X6_walks : GoodIn wsX6_oddWalk wsX6_walks := goodIn_r _ [5, 6, 7, 8, 9, 10, 11, 12, 13, 14, 15, 16, 17] (by decide +kernel) (by decide +kernel)
set_option maxRecDepth 20000 in
theorem gX6_oddWalk_X6_walks : GoodIn wsX6_oddWalk (wsV RX6 82 RX6 yX6_walks wsX6_walks) := goodIn_app (goodIn_of _ (by decide +kernel)) ggX6_oddWalk_X6_walks
theorem dX6_oddWalk_0 : decode cX6_oddWalk 0 = .ok (.aload_n 0, 1) := by decide +kernel
theorem dX6_oddWalk_1 : decode cX6_oddWalk 1 = .ok (.iload_n 1, 1) := by decide +kernel
theorem dX6_oddWalk_2 : decode cX6_oddWalk 2 = .ok (.invokevirtual 82, 3) := by decide +kernel
theorem dX6_oddWalk_5 : decode cX6_oddWalk 5 = .ok (.iconst 1, 1) := by decide +kernel
theorem dX6_oddWalk_6 : decode cX6_oddWalk 6 = .ok (.aaload, 1) := by decide +kernel
theorem dX6_oddWalk_7 : decode cX6_oddWalk 7 = .ok (.iload_n 1, 1) := by decide +kernel
theorem dX6_oddWalk_8 : decode cX6_oddWalk 8 = .ok (.iaload, 1) := by decide +kernel
theorem dX6_oddWalk_9 : decode cX6_oddWalk 9 = .ok (.ireturn, 1) := by decide +kernel
theorem dX6_walks_0 : decode cX6_walks 0 = .ok (.iconst 2, 1) := by decide +kernel
theorem dX6_walks_1 : decode cX6_walks 1 = .ok (.bipush 12, 2) := by decide +kernel
theorem dX6_walks_3 : decode cX6_walks 3 = .ok (.multianewarray 86 2, 4) := by decide +kernel
theorem dX6_walks_7 : decode cX6_walks 7 = .ok (.astore_n 2, 1) := by decide +kernel
theorem dX6_walks_8 : decode cX6_walks 8 = .ok (.iconst 0, 1) := by decide +kernel
theorem dX6_walks_9 : decode cX6_walks 9 = .ok (.istore_n 3, 1) := by decide +kernel
theorem dX6_walks_10 : decode cX6_walks 10 = .ok (.iload_n 3, 1) := by decide +kernel
theorem dX6_walks_11 : decode cX6_walks 11 = .ok (.bipush 12, 2) := by decide +kernel
theorem dX6_walks_13 : decode cX6_walks 13 = .ok (.if_icmp .ge 30, 3) := by decide +kernel
theorem dX6_walks_16 : decode cX6_walks 16 = .ok (.aload_n 2, 1) := by decide +kernel
theorem dX6_walks_17 : decode cX6_walks 17 = .ok (.iconst 0, 1) := by decide +kernel
theorem dX6_walks_18 : decode cX6_walks 18 = .ok (.aaload, 1) := by decide +kernel
theorem dX6_walks_19 : decode cX6_walks 19 = .ok (.iload_n 3, 1) := by decide +kernel
theorem dX6_walks_20 : decode cX6_walks 20 = .ok (.iload_n 3, 1) := by decide +kernel
theorem dX6_walks_21 : decode cX6_walks 21 = .ok (.iload_n 1, 1) := by decide +kernel
theorem dX6_walks_22 : decode cX6_walks 22 = .ok (.if_icmp .ne 7, 3) := by decide +kernel
theorem dX6_walks_25 : decode cX6_walks 25 = .ok (.iconst 0, 1) := by decide +kernel
theorem dX6_walks_26 : decode cX6_walks 26 = .ok (.goto 4, 3) := by decide +kernel
theorem dX6_walks_29 : decode cX6_walks 29 = .ok (.iconst (-1), 1) := by decide +kernel
theorem dX6_walks_30 : decode cX6_walks 30 = .ok (.iastore, 1) := by decide +kernel
theorem dX6_walks_31 : decode cX6_walks 31 = .ok (.aload_n 2, 1) := by decide +kernel
theorem dX6_walks_32 : decode cX6_walks 32 = .ok (.iconst 1, 1) := by decide +kernel
theorem dX6_walks_33 : decode cX6_walks 33 = .ok (.aaload, 1) := by decide +kernel
theorem dX6_walks_34 : decode cX6_walks 34 = .ok (.iload_n 3, 1) := by decide +kernel
theorem dX6_walks_35 : decode cX6_walks 35 = .ok (.iconst (-1), 1) := by decide +kernel
theorem dX6_walks_36 : decode cX6_walks 36 = .ok (.iastore, 1) := by decide +kernel
theorem dX6_walks_37 : decode cX6_walks 37 = .ok (.iinc 3 1, 3) := by decide +kernel
theorem dX6_walks_40 : decode cX6_walks 40 = .ok (.goto (-30), 3) := by decide +kernel
theorem dX6_walks_43 : decode cX6_walks 43 = .ok (.iconst 1, 1) := by decide +kernel
theorem dX6_walks_44 : decode cX6_walks 44 = .ok (.istore_n 3, 1) := by decide +kernel
theorem dX6_walks_45 : decode cX6_walks 45 = .ok (.iload_n 3, 1) := by decide +kernel
theorem dX6_walks_46 : decode cX6_walks 46 = .ok (.iconst 2, 1) := by decide +kernel
theorem dX6_walks_47 : decode cX6_walks 47 = .ok (.aload_n 0, 1) := by decide +kernel
theorem dX6_walks_48 : decode cX6_walks 48 = .ok (.getfield 31, 3) := by decide +kernel
theorem dX6_walks_51 : decode cX6_walks 51 = .ok (.imul, 1) := by decide +kernel
theorem dX6_walks_52 : decode cX6_walks 52 = .ok (.if_icmp .ge 95, 3) := by decide +kernel
theorem dX6_walks_55 : decode cX6_walks 55 = .ok (.iconst 0, 1) := by decide +kernel
theorem dX6_walks_56 : decode cX6_walks 56 = .ok (.istore 4, 2) := by decide +kernel
theorem dX6_walks_58 : decode cX6_walks 58 = .ok (.iload 4, 2) := by decide +kernel
theorem dX6_walks_60 : decode cX6_walks 60 = .ok (.aload_n 0, 1) := by decide +kernel
theorem dX6_walks_61 : decode cX6_walks 61 = .ok (.getfield 31, 3) := by decide +kernel
theorem dX6_walks_64 : decode cX6_walks 64 = .ok (.if_icmp .ge 77, 3) := by decide +kernel
theorem dX6_walks_67 : decode cX6_walks 67 = .ok (.iconst 0, 1) := by decide +kernel
theorem dX6_walks_68 : decode cX6_walks 68 = .ok (.istore 5, 2) := by decide +kernel
theorem dX6_walks_70 : decode cX6_walks 70 = .ok (.iload 5, 2) := by decide +kernel
theorem dX6_walks_72 : decode cX6_walks 72 = .ok (.aload_n 0, 1) := by decide +kernel
theorem dX6_walks_73 : decode cX6_walks 73 = .ok (.getfield 31, 3) := by decide +kernel
theorem dX6_walks_76 : decode cX6_walks 76 = .ok (.if_icmp .ge 59, 3) := by decide +kernel
theorem dX6_walks_79 : decode cX6_walks 79 = .ok (.aload_n 0, 1) := by decide +kernel
theorem dX6_walks_80 : decode cX6_walks 80 = .ok (.getfield 15, 3) := by decide +kernel
theorem dX6_walks_83 : decode cX6_walks 83 = .ok (.iload 4, 2) := by decide +kernel
theorem dX6_walks_85 : decode cX6_walks 85 = .ok (.aaload, 1) := by decide +kernel
theorem dX6_walks_86 : decode cX6_walks 86 = .ok (.iload 5, 2) := by decide +kernel
theorem dX6_walks_88 : decode cX6_walks 88 = .ok (.baload, 1) := by decide +kernel
theorem dX6_walks_89 : decode cX6_walks 89 = .ok (.ifCond .eq 40, 3) := by decide +kernel
theorem dX6_walks_92 : decode cX6_walks 92 = .ok (.aload_n 2, 1) := by decide +kernel
theorem dX6_walks_93 : decode cX6_walks 93 = .ok (.iload_n 3, 1) := by decide +kernel
theorem dX6_walks_94 : decode cX6_walks 94 = .ok (.iconst 1, 1) := by decide +kernel
theorem dX6_walks_95 : decode cX6_walks 95 = .ok (.iadd, 1) := by decide +kernel
theorem dX6_walks_96 : decode cX6_walks 96 = .ok (.iconst 2, 1) := by decide +kernel
theorem dX6_walks_97 : decode cX6_walks 97 = .ok (.irem, 1) := by decide +kernel
theorem dX6_walks_98 : decode cX6_walks 98 = .ok (.aaload, 1) := by decide +kernel
theorem dX6_walks_99 : decode cX6_walks 99 = .ok (.iload 4, 2) := by decide +kernel
theorem dX6_walks_101 : decode cX6_walks 101 = .ok (.iaload, 1) := by decide +kernel
theorem dX6_walks_102 : decode cX6_walks 102 = .ok (.iload_n 3, 1) := by decide +kernel
theorem dX6_walks_103 : decode cX6_walks 103 = .ok (.iconst 1, 1) := by decide +kernel
theorem dX6_walks_104 : decode cX6_walks 104 = .ok (.isub, 1) := by decide +kernel
theorem dX6_walks_105 : decode cX6_walks 105 = .ok (.if_icmp .ne 24, 3) := by decide +kernel
theorem dX6_walks_108 : decode cX6_walks 108 = .ok (.aload_n 2, 1) := by decide +kernel
theorem dX6_walks_109 : decode cX6_walks 109 = .ok (.iload_n 3, 1) := by decide +kernel
theorem dX6_walks_110 : decode cX6_walks 110 = .ok (.iconst 2, 1) := by decide +kernel
theorem dX6_walks_111 : decode cX6_walks 111 = .ok (.irem, 1) := by decide +kernel
theorem dX6_walks_112 : decode cX6_walks 112 = .ok (.aaload, 1) := by decide +kernel
theorem dX6_walks_113 : decode cX6_walks 113 = .ok (.iload 5, 2) := by decide +kernel
theorem dX6_walks_115 : decode cX6_walks 115 = .ok (.iaload, 1) := by decide +kernel
theorem dX6_walks_116 : decode cX6_walks 116 = .ok (.iconst (-1), 1) := by decide +kernel
theorem dX6_walks_117 : decode cX6_walks 117 = .ok (.if_icmp .ne 12, 3) := by decide +kernel
theorem dX6_walks_120 : decode cX6_walks 120 = .ok (.aload_n 2, 1) := by decide +kernel
theorem dX6_walks_121 : decode cX6_walks 121 = .ok (.iload_n 3, 1) := by decide +kernel
theorem dX6_walks_122 : decode cX6_walks 122 = .ok (.iconst 2, 1) := by decide +kernel
theorem dX6_walks_123 : decode cX6_walks 123 = .ok (.irem, 1) := by decide +kernel
theorem dX6_walks_124 : decode cX6_walks 124 = .ok (.aaload, 1) := by decide +kernel
theorem dX6_walks_125 : decode cX6_walks 125 = .ok (.iload 5, 2) := by decide +kernel
theorem dX6_walks_127 : decode cX6_walks 127 = .ok (.iload_n 3, 1) := by decide +kernel
theorem dX6_walks_128 : decode cX6_walks 128 = .ok (.iastore, 1) := by decide +kernel
theorem dX6_walks_129 : decode cX6_walks 129 = .ok (.iinc 5 1, 3) := by decide +kernel
theorem dX6_walks_132 : decode cX6_walks 132 = .ok (.goto (-62), 3) := by decide +kernel
theorem dX6_walks_135 : decode cX6_walks 135 = .ok (.iinc 4 1, 3) := by decide +kernel
theorem dX6_walks_138 : decode cX6_walks 138 = .ok (.goto (-80), 3) := by decide +kernel
theorem dX6_walks_141 : decode cX6_walks 141 = .ok (.iinc 3 1, 3) := by decide +kernel
theorem dX6_walks_144 : decode cX6_walks 144 = .ok (.goto (-99), 3) := by decide +kernel
theorem dX6_walks_147 : decode cX6_walks 147 = .ok (.aload_n 2, 1) := by decide +kernel
theorem dX6_walks_148 : decode cX6_walks 148 = .ok (.areturn, 1) := by decide +kernel
set_option maxRecDepth 20000 in
theorem ggX6_odd_X6_oddWalk : GoodIn wsX6_odd wsX6_oddWalk := goodIn_r _ [6, 7, 8, 9, 5, 10, 11, 12, 1, 13, 14, 15, 16, 17, 18, 19, 20, 21] (by decide +kernel) (by decide +kernel)
set_option maxRecDepth 20000 in
theorem gX6_odd_X6_oddWalk : GoodIn wsX6_odd (wsV RX6 88 RX6 yX6_oddWalk wsX6_oddWalk) := goodIn_app (goodIn_of _ (by decide +kernel)) ggX6_odd_X6_oddWalk
theorem dX6_odd_0 : decode cX6_odd 0 = .ok (.iconst 0, 1) := by decide +kernel
theorem dX6_odd_1 : decode cX6_odd 1 = .ok (.istore_n 1, 1) := by decide +kernel
theorem dX6_odd_2 : decode cX6_odd 2 = .ok (.iconst 0, 1) := by decide +kernel
theorem dX6_odd_3 : decode cX6_odd 3 = .ok (.istore_n 2, 1) := by decide +kernel
theorem dX6_odd_4 : decode cX6_odd 4 = .ok (.iload_n 2, 1) := by decide +kernel
theorem dX6_odd_5 : decode cX6_odd 5 = .ok (.aload_n 0, 1) := by decide +kernel
theorem dX6_odd_6 : decode cX6_odd 6 = .ok (.getfield 31, 3) := by decide +kernel
theorem dX6_odd_9 : decode cX6_odd 9 = .ok (.if_icmp .ge 35, 3) := by decide +kernel
theorem dX6_odd_12 : decode cX6_odd 12 = .ok (.aload_n 0, 1) := by decide +kernel
theorem dX6_odd_13 : decode cX6_odd 13 = .ok (.iload_n 2, 1) := by decide +kernel
theorem dX6_odd_14 : decode cX6_odd 14 = .ok (.invokevirtual 88, 3) := by decide +kernel
theorem dX6_odd_17 : decode cX6_odd 17 = .ok (.istore_n 3, 1) := by decide +kernel
theorem dX6_odd_18 : decode cX6_odd 18 = .ok (.iload_n 3, 1) := by decide +kernel
theorem dX6_odd_19 : decode cX6_odd 19 = .ok (.iconst (-1), 1) := by decide +kernel
theorem dX6_odd_20 : decode cX6_odd 20 = .ok (.if_icmp .eq 16, 3) := by decide +kernel
theorem dX6_odd_23 : decode cX6_odd 23 = .ok (.iload_n 1, 1) := by decide +kernel
theorem dX6_odd_24 : decode cX6_odd 24 = .ok (.ifCond .eq 8, 3) := by decide +kernel
theorem dX6_odd_27 : decode cX6_odd 27 = .ok (.iload_n 3, 1) := by decide +kernel
theorem dX6_odd_28 : decode cX6_odd 28 = .ok (.iload_n 1, 1) := by decide +kernel
theorem dX6_odd_29 : decode cX6_odd 29 = .ok (.if_icmp .ge 7, 3) := by decide +kernel
theorem dX6_odd_32 : decode cX6_odd 32 = .ok (.iload_n 3, 1) := by decide +kernel
theorem dX6_odd_33 : decode cX6_odd 33 = .ok (.goto 4, 3) := by decide +kernel
theorem dX6_odd_36 : decode cX6_odd 36 = .ok (.iload_n 1, 1) := by decide +kernel
theorem dX6_odd_37 : decode cX6_odd 37 = .ok (.istore_n 1, 1) := by decide +kernel
theorem dX6_odd_38 : decode cX6_odd 38 = .ok (.iinc 2 1, 3) := by decide +kernel
theorem dX6_odd_41 : decode cX6_odd 41 = .ok (.goto (-37), 3) := by decide +kernel
theorem dX6_odd_44 : decode cX6_odd 44 = .ok (.iload_n 1, 1) := by decide +kernel
theorem dX6_odd_45 : decode cX6_odd 45 = .ok (.ireturn, 1) := by decide +kernel
set_option maxRecDepth 20000 in
theorem ggX6_isTwoColours_X6_odd : GoodIn wsX6_isTwoColours wsX6_odd := goodIn_r _ [6, 7, 8, 9, 10, 5, 11, 12, 13, 14, 15, 16, 17, 18, 19, 20, 21, 22, 23, 24, 25, 26] (by decide +kernel) (by decide +kernel)
set_option maxRecDepth 20000 in
theorem gX6_isTwoColours_X6_odd : GoodIn wsX6_isTwoColours (wsV RX6 91 RX6 yX6_odd wsX6_odd) := goodIn_app (goodIn_of _ (by decide +kernel)) ggX6_isTwoColours_X6_odd
theorem dX6_isTwoColours_0 : decode cX6_isTwoColours 0 = .ok (.aload_n 0, 1) := by decide +kernel
theorem dX6_isTwoColours_1 : decode cX6_isTwoColours 1 = .ok (.iconst 0, 1) := by decide +kernel
theorem dX6_isTwoColours_2 : decode cX6_isTwoColours 2 = .ok (.putfield 28, 3) := by decide +kernel
theorem dX6_isTwoColours_5 : decode cX6_isTwoColours 5 = .ok (.aload_n 0, 1) := by decide +kernel
theorem dX6_isTwoColours_6 : decode cX6_isTwoColours 6 = .ok (.invokevirtual 91, 3) := by decide +kernel
theorem dX6_isTwoColours_9 : decode cX6_isTwoColours 9 = .ok (.ifCond .ne 7, 3) := by decide +kernel
theorem dX6_isTwoColours_12 : decode cX6_isTwoColours 12 = .ok (.iconst 1, 1) := by decide +kernel
theorem dX6_isTwoColours_13 : decode cX6_isTwoColours 13 = .ok (.goto 4, 3) := by decide +kernel
theorem dX6_isTwoColours_16 : decode cX6_isTwoColours 16 = .ok (.iconst 0, 1) := by decide +kernel
theorem dX6_isTwoColours_17 : decode cX6_isTwoColours 17 = .ok (.ireturn, 1) := by decide +kernel
set_option maxRecDepth 20000 in
theorem ggX6_colour_X6_is : GoodIn wsX6_colour wsX6_is := goodIn_r _ [5, 6, 7, 8, 4, 9, 10, 11, 40, 41, 42, 43, 44, 45, 46, 47] (by decide +kernel) (by decide +kernel)
set_option maxRecDepth 20000 in
theorem gX6_colour_X6_is : GoodIn wsX6_colour (wsV RX6 38 RX6 yX6_is wsX6_is) := goodIn_app (goodIn_of _ (by decide +kernel)) ggX6_colour_X6_is
set_option maxRecDepth 20000 in
theorem ggX6_colour_X6_odd : GoodIn wsX6_colour wsX6_odd := goodIn_r _ [15, 10, 16, 17, 18, 4, 19, 20, 21, 22, 23, 24, 25, 26, 40, 41, 42, 43, 44, 45, 46, 47] (by decide +kernel) (by decide +kernel)
set_option maxRecDepth 20000 in
theorem gX6_colour_X6_odd : GoodIn wsX6_colour (wsV RX6 91 RX6 yX6_odd wsX6_odd) := goodIn_app (goodIn_of _ (by decide +kernel)) ggX6_colour_X6_odd
set_option maxRecDepth 20000 in
theorem ggX6_colour_X6_can : GoodIn wsX6_colour wsX6_can := goodIn_r _ [30, 31, 40, 41, 42, 43, 44, 45, 46, 47] (by decide +kernel) (by decide +kernel)
set_option maxRecDepth 20000 in
theorem gX6_colour_X6_can : GoodIn wsX6_colour (wsV RX6 42 RX6 yX6_can wsX6_can) := goodIn_app (goodIn_of _ (by decide +kernel)) ggX6_colour_X6_can
set_option maxRecDepth 20000 in
theorem ggX6_colour_X6_at : GoodIn wsX6_colour wsX6_at := goodIn_r _ [9, 10, 11, 40, 41, 42, 43, 44, 45, 46, 47] (by decide +kernel) (by decide +kernel)
set_option maxRecDepth 20000 in
theorem gX6_colour_X6_at : GoodIn wsX6_colour (wsV RX6 34 RX6 yX6_at wsX6_at) := goodIn_app (goodIn_of _ (by decide +kernel)) ggX6_colour_X6_at
set_option maxRecDepth 20000 in
theorem ggX6_colour_X6_head : GoodIn wsX6_colour wsX6_head := goodIn_r _ [35, 10, 36, 37, 38, 4, 39, 25, 26, 40, 41, 42, 43, 44, 45, 46, 47] (by decide +kernel) (by decide +kernel)
set_option maxRecDepth 20000 in
theorem gX6_colour_X6_head : GoodIn wsX6_colour (wsV RX6 79 RX6 yX6_head wsX6_head) := goodIn_app (goodIn_of _ (by decide +kernel)) ggX6_colour_X6_head
set_option maxRecDepth 20000 in
theorem ggX6_colour_X6_lengths : GoodIn wsX6_colour wsX6_lengths := goodIn_r _ [39, 25, 10, 26, 40, 41, 42, 43, 44, 45, 46, 47] (by decide +kernel) (by decide +kernel)
set_option maxRecDepth 20000 in
theorem gX6_colour_X6_lengths : GoodIn wsX6_colour (wsV RX6 52 RX6 yX6_lengths wsX6_lengths) := goodIn_app (goodIn_of _ (by decide +kernel)) ggX6_colour_X6_lengths
theorem dX6_colour_0 : decode cX6_colour 0 = .ok (.aload_n 0, 1) := by decide +kernel
theorem dX6_colour_1 : decode cX6_colour 1 = .ok (.aload_n 0, 1) := by decide +kernel
theorem dX6_colour_2 : decode cX6_colour 2 = .ok (.iload_n 1, 1) := by decide +kernel
theorem dX6_colour_3 : decode cX6_colour 3 = .ok (.invokevirtual 38, 3) := by decide +kernel
theorem dX6_colour_6 : decode cX6_colour 6 = .ok (.aload_n 0, 1) := by decide +kernel
theorem dX6_colour_7 : decode cX6_colour 7 = .ok (.invokevirtual 91, 3) := by decide +kernel
theorem dX6_colour_10 : decode cX6_colour 10 = .ok (.ifCond .ne 7, 3) := by decide +kernel
theorem dX6_colour_13 : decode cX6_colour 13 = .ok (.iconst 1, 1) := by decide +kernel
theorem dX6_colour_14 : decode cX6_colour 14 = .ok (.goto 4, 3) := by decide +kernel
theorem dX6_colour_17 : decode cX6_colour 17 = .ok (.iconst 0, 1) := by decide +kernel
theorem dX6_colour_18 : decode cX6_colour 18 = .ok (.iconst 1, 1) := by decide +kernel
theorem dX6_colour_19 : decode cX6_colour 19 = .ok (.invokevirtual 42, 3) := by decide +kernel
theorem dX6_colour_22 : decode cX6_colour 22 = .ok (.ifCond .eq 27, 3) := by decide +kernel
theorem dX6_colour_25 : decode cX6_colour 25 = .ok (.aload_n 0, 1) := by decide +kernel
theorem dX6_colour_26 : decode cX6_colour 26 = .ok (.aload_n 0, 1) := by decide +kernel
theorem dX6_colour_27 : decode cX6_colour 27 = .ok (.aload_n 0, 1) := by decide +kernel
theorem dX6_colour_28 : decode cX6_colour 28 = .ok (.iload_n 1, 1) := by decide +kernel
theorem dX6_colour_29 : decode cX6_colour 29 = .ok (.invokevirtual 34, 3) := by decide +kernel
theorem dX6_colour_32 : decode cX6_colour 32 = .ok (.invokevirtual 79, 3) := by decide +kernel
theorem dX6_colour_35 : decode cX6_colour 35 = .ok (.invokevirtual 52, 3) := by decide +kernel
theorem dX6_colour_38 : decode cX6_colour 38 = .ok (.aload_n 0, 1) := by decide +kernel
theorem dX6_colour_39 : decode cX6_colour 39 = .ok (.iload_n 1, 1) := by decide +kernel
theorem dX6_colour_40 : decode cX6_colour 40 = .ok (.invokevirtual 34, 3) := by decide +kernel
theorem dX6_colour_43 : decode cX6_colour 43 = .ok (.iaload, 1) := by decide +kernel
theorem dX6_colour_44 : decode cX6_colour 44 = .ok (.iconst 2, 1) := by decide +kernel
theorem dX6_colour_45 : decode cX6_colour 45 = .ok (.irem, 1) := by decide +kernel
theorem dX6_colour_46 : decode cX6_colour 46 = .ok (.goto 4, 3) := by decide +kernel
theorem dX6_colour_49 : decode cX6_colour 49 = .ok (.iconst 0, 1) := by decide +kernel
theorem dX6_colour_50 : decode cX6_colour 50 = .ok (.ireturn, 1) := by decide +kernel
set_option maxRecDepth 20000 in
theorem ggX6_ring_X6_odd : GoodIn wsX6_ring wsX6_odd := goodIn_r _ [5, 6, 7, 8, 9, 4, 10, 11, 12, 13, 14, 15, 16, 17, 23, 24, 25, 26, 27, 28, 29, 30] (by decide +kernel) (by decide +kernel)
set_option maxRecDepth 20000 in
theorem gX6_ring_X6_odd : GoodIn wsX6_ring (wsV RX6 91 RX6 yX6_odd wsX6_odd) := goodIn_app (goodIn_of _ (by decide +kernel)) ggX6_ring_X6_odd
set_option maxRecDepth 20000 in
theorem ggX6_ring_X6_can : GoodIn wsX6_ring wsX6_can := goodIn_r _ [21, 22, 23, 24, 25, 26, 27, 28, 29, 30] (by decide +kernel) (by decide +kernel)
set_option maxRecDepth 20000 in
theorem gX6_ring_X6_can : GoodIn wsX6_ring (wsV RX6 42 RX6 yX6_can wsX6_can) := goodIn_app (goodIn_of _ (by decide +kernel)) ggX6_ring_X6_can
theorem dX6_ring_0 : decode cX6_ring 0 = .ok (.aload_n 0, 1) := by decide +kernel
theorem dX6_ring_1 : decode cX6_ring 1 = .ok (.aload_n 0, 1) := by decide +kernel
theorem dX6_ring_2 : decode cX6_ring 2 = .ok (.invokevirtual 91, 3) := by decide +kernel
theorem dX6_ring_5 : decode cX6_ring 5 = .ok (.ifCond .le 7, 3) := by decide +kernel
theorem dX6_ring_8 : decode cX6_ring 8 = .ok (.iconst 1, 1) := by decide +kernel
theorem dX6_ring_9 : decode cX6_ring 9 = .ok (.goto 4, 3) := by decide +kernel
theorem dX6_ring_12 : decode cX6_ring 12 = .ok (.iconst 0, 1) := by decide +kernel
theorem dX6_ring_13 : decode cX6_ring 13 = .ok (.iconst 1, 1) := by decide +kernel
theorem dX6_ring_14 : decode cX6_ring 14 = .ok (.iconst 1, 1) := by decide +kernel
theorem dX6_ring_15 : decode cX6_ring 15 = .ok (.invokevirtual 42, 3) := by decide +kernel
theorem dX6_ring_18 : decode cX6_ring 18 = .ok (.ifCond .eq 10, 3) := by decide +kernel
theorem dX6_ring_21 : decode cX6_ring 21 = .ok (.aload_n 0, 1) := by decide +kernel
theorem dX6_ring_22 : decode cX6_ring 22 = .ok (.invokevirtual 91, 3) := by decide +kernel
theorem dX6_ring_25 : decode cX6_ring 25 = .ok (.goto 4, 3) := by decide +kernel
theorem dX6_ring_28 : decode cX6_ring 28 = .ok (.iconst 0, 1) := by decide +kernel
theorem dX6_ring_29 : decode cX6_ring 29 = .ok (.ireturn, 1) := by decide +kernel
set_option maxRecDepth 20000 in
theorem ggX6_ringAt_X6_odd : GoodIn wsX6_ringAt wsX6_odd := goodIn_r _ [7, 8, 9, 10, 11, 6, 12, 13, 14, 15, 16, 17, 18, 1, 24, 25, 26, 27, 28, 29, 30, 31] (by decide +kernel) (by decide +kernel)
set_option maxRecDepth 20000 in
theorem gX6_ringAt_X6_odd : GoodIn wsX6_ringAt (wsV RX6 91 RX6 yX6_odd wsX6_odd) := goodIn_app (goodIn_of _ (by decide +kernel)) ggX6_ringAt_X6_odd
set_option maxRecDepth 20000 in
theorem ggX6_ringAt_X6_can : GoodIn wsX6_ringAt wsX6_can := goodIn_r _ [22, 23, 24, 25, 26, 27, 28, 29, 30, 31] (by decide +kernel) (by decide +kernel)
set_option maxRecDepth 20000 in
theorem gX6_ringAt_X6_can : GoodIn wsX6_ringAt (wsV RX6 42 RX6 yX6_can wsX6_can) := goodIn_app (goodIn_of _ (by decide +kernel)) ggX6_ringAt_X6_can
set_option maxRecDepth 20000 in
theorem ggX6_ringAt_X6_oddWalk : GoodIn wsX6_ringAt wsX6_oddWalk := goodIn_r _ [12, 13, 14, 15, 6, 16, 17, 18, 8, 1, 24, 25, 26, 27, 28, 29, 30, 31] (by decide +kernel) (by decide +kernel)
set_option maxRecDepth 20000 in
theorem gX6_ringAt_X6_oddWalk : GoodIn wsX6_ringAt (wsV RX6 88 RX6 yX6_oddWalk wsX6_oddWalk) := goodIn_app (goodIn_of _ (by decide +kernel)) ggX6_ringAt_X6_oddWalk
set_option maxRecDepth 20000 in
theorem ggX6_ringAt_X6_walks : GoodIn wsX6_ringAt wsX6_walks := goodIn_r _ [16, 17, 18, 8, 1, 24, 25, 26, 27, 28, 29, 30, 31] (by decide +kernel) (by decide +kernel)
set_option maxRecDepth 20000 in
theorem gX6_ringAt_X6_walks : GoodIn wsX6_ringAt (wsV RX6 82 RX6 yX6_walks wsX6_walks) := goodIn_app (goodIn_of _ (by decide +kernel)) ggX6_ringAt_X6_walks
theorem dX6_ringAt_0 : decode cX6_ringAt 0 = .ok (.aload_n 0, 1) := by decide +kernel
theorem dX6_ringAt_1 : decode cX6_ringAt 1 = .ok (.aload_n 0, 1) := by decide +kernel
theorem dX6_ringAt_2 : decode cX6_ringAt 2 = .ok (.invokevirtual 91, 3) := by decide +kernel
theorem dX6_ringAt_5 : decode cX6_ringAt 5 = .ok (.ifCond .le 7, 3) := by decide +kernel
theorem dX6_ringAt_8 : decode cX6_ringAt 8 = .ok (.iconst 1, 1) := by decide +kernel
theorem dX6_ringAt_9 : decode cX6_ringAt 9 = .ok (.goto 4, 3) := by decide +kernel
theorem dX6_ringAt_12 : decode cX6_ringAt 12 = .ok (.iconst 0, 1) := by decide +kernel
theorem dX6_ringAt_13 : decode cX6_ringAt 13 = .ok (.iload_n 1, 1) := by decide +kernel
theorem dX6_ringAt_14 : decode cX6_ringAt 14 = .ok (.ifCond .lt 15, 3) := by decide +kernel
theorem dX6_ringAt_17 : decode cX6_ringAt 17 = .ok (.iload_n 1, 1) := by decide +kernel
theorem dX6_ringAt_18 : decode cX6_ringAt 18 = .ok (.aload_n 0, 1) := by decide +kernel
theorem dX6_ringAt_19 : decode cX6_ringAt 19 = .ok (.invokevirtual 91, 3) := by decide +kernel
theorem dX6_ringAt_22 : decode cX6_ringAt 22 = .ok (.if_icmp .ge 7, 3) := by decide +kernel
theorem dX6_ringAt_25 : decode cX6_ringAt 25 = .ok (.iconst 1, 1) := by decide +kernel
theorem dX6_ringAt_26 : decode cX6_ringAt 26 = .ok (.goto 4, 3) := by decide +kernel
theorem dX6_ringAt_29 : decode cX6_ringAt 29 = .ok (.iconst 0, 1) := by decide +kernel
theorem dX6_ringAt_30 : decode cX6_ringAt 30 = .ok (.iconst 1, 1) := by decide +kernel
theorem dX6_ringAt_31 : decode cX6_ringAt 31 = .ok (.invokevirtual 42, 3) := by decide +kernel
theorem dX6_ringAt_34 : decode cX6_ringAt 34 = .ok (.ifCond .ne 5, 3) := by decide +kernel
theorem dX6_ringAt_37 : decode cX6_ringAt 37 = .ok (.iconst 0, 1) := by decide +kernel
theorem dX6_ringAt_38 : decode cX6_ringAt 38 = .ok (.ireturn, 1) := by decide +kernel
theorem dX6_ringAt_39 : decode cX6_ringAt 39 = .ok (.aload_n 0, 1) := by decide +kernel
theorem dX6_ringAt_40 : decode cX6_ringAt 40 = .ok (.invokevirtual 91, 3) := by decide +kernel
theorem dX6_ringAt_43 : decode cX6_ringAt 43 = .ok (.istore_n 2, 1) := by decide +kernel
theorem dX6_ringAt_44 : decode cX6_ringAt 44 = .ok (.iconst 0, 1) := by decide +kernel
theorem dX6_ringAt_45 : decode cX6_ringAt 45 = .ok (.istore_n 3, 1) := by decide +kernel
theorem dX6_ringAt_46 : decode cX6_ringAt 46 = .ok (.aload_n 0, 1) := by decide +kernel
theorem dX6_ringAt_47 : decode cX6_ringAt 47 = .ok (.iload_n 3, 1) := by decide +kernel
theorem dX6_ringAt_48 : decode cX6_ringAt 48 = .ok (.invokevirtual 88, 3) := by decide +kernel
theorem dX6_ringAt_51 : decode cX6_ringAt 51 = .ok (.iload_n 2, 1) := by decide +kernel
theorem dX6_ringAt_52 : decode cX6_ringAt 52 = .ok (.if_icmp .eq 9, 3) := by decide +kernel
theorem dX6_ringAt_55 : decode cX6_ringAt 55 = .ok (.iinc 3 1, 3) := by decide +kernel
theorem dX6_ringAt_58 : decode cX6_ringAt 58 = .ok (.goto (-12), 3) := by decide +kernel
theorem dX6_ringAt_61 : decode cX6_ringAt 61 = .ok (.aload_n 0, 1) := by decide +kernel
theorem dX6_ringAt_62 : decode cX6_ringAt 62 = .ok (.iload_n 3, 1) := by decide +kernel
theorem dX6_ringAt_63 : decode cX6_ringAt 63 = .ok (.invokevirtual 82, 3) := by decide +kernel
theorem dX6_ringAt_66 : decode cX6_ringAt 66 = .ok (.astore 4, 2) := by decide +kernel
theorem dX6_ringAt_68 : decode cX6_ringAt 68 = .ok (.iload_n 3, 1) := by decide +kernel
theorem dX6_ringAt_69 : decode cX6_ringAt 69 = .ok (.istore 5, 2) := by decide +kernel
theorem dX6_ringAt_71 : decode cX6_ringAt 71 = .ok (.iconst 0, 1) := by decide +kernel
theorem dX6_ringAt_72 : decode cX6_ringAt 72 = .ok (.istore 6, 2) := by decide +kernel
theorem dX6_ringAt_74 : decode cX6_ringAt 74 = .ok (.iload 6, 2) := by decide +kernel
theorem dX6_ringAt_76 : decode cX6_ringAt 76 = .ok (.iload_n 1, 1) := by decide +kernel
theorem dX6_ringAt_77 : decode cX6_ringAt 77 = .ok (.if_icmp .ge 51, 3) := by decide +kernel
theorem dX6_ringAt_80 : decode cX6_ringAt 80 = .ok (.iinc 2 (-1), 3) := by decide +kernel
theorem dX6_ringAt_83 : decode cX6_ringAt 83 = .ok (.iconst 0, 1) := by decide +kernel
theorem dX6_ringAt_84 : decode cX6_ringAt 84 = .ok (.istore 7, 2) := by decide +kernel
theorem dX6_ringAt_86 : decode cX6_ringAt 86 = .ok (.aload_n 0, 1) := by decide +kernel
theorem dX6_ringAt_87 : decode cX6_ringAt 87 = .ok (.getfield 15, 3) := by decide +kernel
theorem dX6_ringAt_90 : decode cX6_ringAt 90 = .ok (.iload 5, 2) := by decide +kernel
theorem dX6_ringAt_92 : decode cX6_ringAt 92 = .ok (.aaload, 1) := by decide +kernel
theorem dX6_ringAt_93 : decode cX6_ringAt 93 = .ok (.iload 7, 2) := by decide +kernel
theorem dX6_ringAt_95 : decode cX6_ringAt 95 = .ok (.baload, 1) := by decide +kernel
theorem dX6_ringAt_96 : decode cX6_ringAt 96 = .ok (.ifCond .eq 16, 3) := by decide +kernel
theorem dX6_ringAt_99 : decode cX6_ringAt 99 = .ok (.aload 4, 2) := by decide +kernel
theorem dX6_ringAt_101 : decode cX6_ringAt 101 = .ok (.iload_n 2, 1) := by decide +kernel
theorem dX6_ringAt_102 : decode cX6_ringAt 102 = .ok (.iconst 2, 1) := by decide +kernel
theorem dX6_ringAt_103 : decode cX6_ringAt 103 = .ok (.irem, 1) := by decide +kernel
theorem dX6_ringAt_104 : decode cX6_ringAt 104 = .ok (.aaload, 1) := by decide +kernel
theorem dX6_ringAt_105 : decode cX6_ringAt 105 = .ok (.iload 7, 2) := by decide +kernel
theorem dX6_ringAt_107 : decode cX6_ringAt 107 = .ok (.iaload, 1) := by decide +kernel
theorem dX6_ringAt_108 : decode cX6_ringAt 108 = .ok (.iload_n 2, 1) := by decide +kernel
theorem dX6_ringAt_109 : decode cX6_ringAt 109 = .ok (.if_icmp .eq 9, 3) := by decide +kernel
theorem dX6_ringAt_112 : decode cX6_ringAt 112 = .ok (.iinc 7 1, 3) := by decide +kernel
theorem dX6_ringAt_115 : decode cX6_ringAt 115 = .ok (.goto (-29), 3) := by decide +kernel
theorem dX6_ringAt_118 : decode cX6_ringAt 118 = .ok (.iload 7, 2) := by decide +kernel
theorem dX6_ringAt_120 : decode cX6_ringAt 120 = .ok (.istore 5, 2) := by decide +kernel
theorem dX6_ringAt_122 : decode cX6_ringAt 122 = .ok (.iinc 6 1, 3) := by decide +kernel
theorem dX6_ringAt_125 : decode cX6_ringAt 125 = .ok (.goto (-51), 3) := by decide +kernel
theorem dX6_ringAt_128 : decode cX6_ringAt 128 = .ok (.aload_n 0, 1) := by decide +kernel
theorem dX6_ringAt_129 : decode cX6_ringAt 129 = .ok (.getfield 9, 3) := by decide +kernel
theorem dX6_ringAt_132 : decode cX6_ringAt 132 = .ok (.iload 5, 2) := by decide +kernel
theorem dX6_ringAt_134 : decode cX6_ringAt 134 = .ok (.iaload, 1) := by decide +kernel
theorem dX6_ringAt_135 : decode cX6_ringAt 135 = .ok (.ireturn, 1) := by decide +kernel
set_option maxRecDepth 20000 in
theorem ggX6_changedAt_X6_can : GoodIn wsX6_changedAt wsX6_can := goodIn_r _ [7, 8, 9, 10, 11, 12, 13, 14, 15, 16] (by decide +kernel) (by decide +kernel)
set_option maxRecDepth 20000 in
theorem gX6_changedAt_X6_can : GoodIn wsX6_changedAt (wsV RX6 42 RX6 yX6_can wsX6_can) := goodIn_app (goodIn_of _ (by decide +kernel)) ggX6_changedAt_X6_can
theorem dX6_changedAt_0 : decode cX6_changedAt 0 = .ok (.aload_n 0, 1) := by decide +kernel
theorem dX6_changedAt_1 : decode cX6_changedAt 1 = .ok (.iload_n 1, 1) := by decide +kernel
theorem dX6_changedAt_2 : decode cX6_changedAt 2 = .ok (.ifCond .lt 15, 3) := by decide +kernel
theorem dX6_changedAt_5 : decode cX6_changedAt 5 = .ok (.iload_n 1, 1) := by decide +kernel
theorem dX6_changedAt_6 : decode cX6_changedAt 6 = .ok (.aload_n 0, 1) := by decide +kernel
theorem dX6_changedAt_7 : decode cX6_changedAt 7 = .ok (.getfield 46, 3) := by decide +kernel
theorem dX6_changedAt_10 : decode cX6_changedAt 10 = .ok (.if_icmp .ge 7, 3) := by decide +kernel
theorem dX6_changedAt_13 : decode cX6_changedAt 13 = .ok (.iconst 1, 1) := by decide +kernel
theorem dX6_changedAt_14 : decode cX6_changedAt 14 = .ok (.goto 4, 3) := by decide +kernel
theorem dX6_changedAt_17 : decode cX6_changedAt 17 = .ok (.iconst 0, 1) := by decide +kernel
theorem dX6_changedAt_18 : decode cX6_changedAt 18 = .ok (.iconst 1, 1) := by decide +kernel
theorem dX6_changedAt_19 : decode cX6_changedAt 19 = .ok (.iconst 1, 1) := by decide +kernel
theorem dX6_changedAt_20 : decode cX6_changedAt 20 = .ok (.invokevirtual 42, 3) := by decide +kernel
theorem dX6_changedAt_23 : decode cX6_changedAt 23 = .ok (.ifCond .eq 12, 3) := by decide +kernel
theorem dX6_changedAt_26 : decode cX6_changedAt 26 = .ok (.aload_n 0, 1) := by decide +kernel
theorem dX6_changedAt_27 : decode cX6_changedAt 27 = .ok (.getfield 22, 3) := by decide +kernel
theorem dX6_changedAt_30 : decode cX6_changedAt 30 = .ok (.iload_n 1, 1) := by decide +kernel
theorem dX6_changedAt_31 : decode cX6_changedAt 31 = .ok (.iaload, 1) := by decide +kernel
theorem dX6_changedAt_32 : decode cX6_changedAt 32 = .ok (.goto 4, 3) := by decide +kernel
theorem dX6_changedAt_35 : decode cX6_changedAt 35 = .ok (.iconst 0, 1) := by decide +kernel
theorem dX6_changedAt_36 : decode cX6_changedAt 36 = .ok (.ireturn, 1) := by decide +kernel
set_option maxRecDepth 20000 in
theorem ggX6_wasAt_X6_can : GoodIn wsX6_wasAt wsX6_can := goodIn_r _ [7, 8, 9, 10, 11, 12, 13, 14, 15, 16] (by decide +kernel) (by decide +kernel)
set_option maxRecDepth 20000 in
theorem gX6_wasAt_X6_can : GoodIn wsX6_wasAt (wsV RX6 42 RX6 yX6_can wsX6_can) := goodIn_app (goodIn_of _ (by decide +kernel)) ggX6_wasAt_X6_can
theorem dX6_wasAt_0 : decode cX6_wasAt 0 = .ok (.aload_n 0, 1) := by decide +kernel
theorem dX6_wasAt_1 : decode cX6_wasAt 1 = .ok (.iload_n 1, 1) := by decide +kernel
theorem dX6_wasAt_2 : decode cX6_wasAt 2 = .ok (.ifCond .lt 15, 3) := by decide +kernel
theorem dX6_wasAt_5 : decode cX6_wasAt 5 = .ok (.iload_n 1, 1) := by decide +kernel
theorem dX6_wasAt_6 : decode cX6_wasAt 6 = .ok (.aload_n 0, 1) := by decide +kernel
theorem dX6_wasAt_7 : decode cX6_wasAt 7 = .ok (.getfield 46, 3) := by decide +kernel
theorem dX6_wasAt_10 : decode cX6_wasAt 10 = .ok (.if_icmp .ge 7, 3) := by decide +kernel
theorem dX6_wasAt_13 : decode cX6_wasAt 13 = .ok (.iconst 1, 1) := by decide +kernel
theorem dX6_wasAt_14 : decode cX6_wasAt 14 = .ok (.goto 4, 3) := by decide +kernel
theorem dX6_wasAt_17 : decode cX6_wasAt 17 = .ok (.iconst 0, 1) := by decide +kernel
theorem dX6_wasAt_18 : decode cX6_wasAt 18 = .ok (.iconst 1, 1) := by decide +kernel
theorem dX6_wasAt_19 : decode cX6_wasAt 19 = .ok (.iconst 1, 1) := by decide +kernel
theorem dX6_wasAt_20 : decode cX6_wasAt 20 = .ok (.invokevirtual 42, 3) := by decide +kernel
theorem dX6_wasAt_23 : decode cX6_wasAt 23 = .ok (.ifCond .eq 12, 3) := by decide +kernel
theorem dX6_wasAt_26 : decode cX6_wasAt 26 = .ok (.aload_n 0, 1) := by decide +kernel
theorem dX6_wasAt_27 : decode cX6_wasAt 27 = .ok (.getfield 25, 3) := by decide +kernel
theorem dX6_wasAt_30 : decode cX6_wasAt 30 = .ok (.iload_n 1, 1) := by decide +kernel
theorem dX6_wasAt_31 : decode cX6_wasAt 31 = .ok (.iaload, 1) := by decide +kernel
theorem dX6_wasAt_32 : decode cX6_wasAt 32 = .ok (.goto 4, 3) := by decide +kernel
theorem dX6_wasAt_35 : decode cX6_wasAt 35 = .ok (.iconst 0, 1) := by decide +kernel
theorem dX6_wasAt_36 : decode cX6_wasAt 36 = .ok (.ireturn, 1) := by decide +kernel
theorem dX6_isTrue_0 : decode cX6_isTrue 0 = .ok (.aload_n 0, 1) := by decide +kernel
theorem dX6_isTrue_1 : decode cX6_isTrue 1 = .ok (.iconst 0, 1) := by decide +kernel
theorem dX6_isTrue_2 : decode cX6_isTrue 2 = .ok (.putfield 28, 3) := by decide +kernel
theorem dX6_isTrue_5 : decode cX6_isTrue 5 = .ok (.iconst 1, 1) := by decide +kernel
theorem dX6_isTrue_6 : decode cX6_isTrue 6 = .ok (.ireturn, 1) := by decide +kernel
set_option maxRecDepth 20000 in
theorem ggX6_checksum_X6_lengths : GoodIn wsX6_checksum wsX6_lengths := goodIn_r _ [14, 15, 3, 16, 50, 51, 52, 53, 54, 55, 56, 57] (by decide +kernel) (by decide +kernel)
set_option maxRecDepth 20000 in
theorem gX6_checksum_X6_lengths : GoodIn wsX6_checksum (wsV RX6 52 RX6 yX6_lengths wsX6_lengths) := goodIn_app (goodIn_of _ (by decide +kernel)) ggX6_checksum_X6_lengths
set_option maxRecDepth 20000 in
theorem ggX6_checksum_X6_degree : GoodIn wsX6_checksum wsX6_degree := goodIn_r _ [20, 3, 16, 50, 51, 52, 53, 54, 55, 56, 57] (by decide +kernel) (by decide +kernel)
set_option maxRecDepth 20000 in
theorem gX6_checksum_X6_degree : GoodIn wsX6_checksum (wsV RX6 49 RX6 yX6_degree wsX6_degree) := goodIn_app (goodIn_of _ (by decide +kernel)) ggX6_checksum_X6_degree
set_option maxRecDepth 20000 in
theorem ggX6_checksum_X6_allWays : GoodIn wsX6_checksum wsX6_allWays := goodIn_r _ [24, 2, 10, 11, 12, 13, 14, 15, 3, 16, 25, 26, 27, 28, 50, 51, 52, 53, 54, 55, 56, 57] (by decide +kernel) (by decide +kernel)
set_option maxRecDepth 20000 in
theorem gX6_checksum_X6_allWays : GoodIn wsX6_checksum (wsV RX6 72 RX6 yX6_allWays wsX6_allWays) := goodIn_app (goodIn_of _ (by decide +kernel)) ggX6_checksum_X6_allWays
set_option maxRecDepth 20000 in
theorem ggX6_checksum_X6_parts : GoodIn wsX6_checksum wsX6_parts := goodIn_r _ [32, 9, 3, 33, 34, 35, 13, 36, 10, 11, 12, 14, 15, 16, 50, 51, 52, 53, 54, 55, 56, 57] (by decide +kernel) (by decide +kernel)
set_option maxRecDepth 20000 in
theorem gX6_checksum_X6_parts : GoodIn wsX6_checksum (wsV RX6 99 RX6 yX6_parts wsX6_parts) := goodIn_app (goodIn_of _ (by decide +kernel)) ggX6_checksum_X6_parts
set_option maxRecDepth 20000 in
theorem ggX6_checksum_X6_odd : GoodIn wsX6_checksum wsX6_odd := goodIn_r _ [40, 3, 41, 42, 43, 13, 44, 45, 46, 47, 48, 49, 15, 16, 50, 51, 52, 53, 54, 55, 56, 57] (by decide +kernel) (by decide +kernel)
set_option maxRecDepth 20000 in
theorem gX6_checksum_X6_odd : GoodIn wsX6_checksum (wsV RX6 91 RX6 yX6_odd wsX6_odd) := goodIn_app (goodIn_of _ (by decide +kernel)) ggX6_checksum_X6_odd
theorem dX6_checksum_0 : decode cX6_checksum 0 = .ok (.ldc2_w 95, 3) := by decide +kernel
theorem dX6_checksum_3 : decode cX6_checksum 3 = .ok (.lstore_n 1, 1) := by decide +kernel
theorem dX6_checksum_4 : decode cX6_checksum 4 = .ok (.aload_n 0, 1) := by decide +kernel
theorem dX6_checksum_5 : decode cX6_checksum 5 = .ok (.aload_n 0, 1) := by decide +kernel
theorem dX6_checksum_6 : decode cX6_checksum 6 = .ok (.getfield 18, 3) := by decide +kernel
theorem dX6_checksum_9 : decode cX6_checksum 9 = .ok (.invokevirtual 52, 3) := by decide +kernel
theorem dX6_checksum_12 : decode cX6_checksum 12 = .ok (.astore_n 3, 1) := by decide +kernel
theorem dX6_checksum_13 : decode cX6_checksum 13 = .ok (.iconst 0, 1) := by decide +kernel
theorem dX6_checksum_14 : decode cX6_checksum 14 = .ok (.istore 4, 2) := by decide +kernel
theorem dX6_checksum_16 : decode cX6_checksum 16 = .ok (.iload 4, 2) := by decide +kernel
theorem dX6_checksum_18 : decode cX6_checksum 18 = .ok (.aload_n 0, 1) := by decide +kernel
theorem dX6_checksum_19 : decode cX6_checksum 19 = .ok (.getfield 31, 3) := by decide +kernel
theorem dX6_checksum_22 : decode cX6_checksum 22 = .ok (.if_icmp .ge 75, 3) := by decide +kernel
theorem dX6_checksum_25 : decode cX6_checksum 25 = .ok (.ldc2_w 97, 3) := by decide +kernel
theorem dX6_checksum_28 : decode cX6_checksum 28 = .ok (.lload_n 1, 1) := by decide +kernel
theorem dX6_checksum_29 : decode cX6_checksum 29 = .ok (.lmul, 1) := by decide +kernel
theorem dX6_checksum_30 : decode cX6_checksum 30 = .ok (.aload_n 0, 1) := by decide +kernel
theorem dX6_checksum_31 : decode cX6_checksum 31 = .ok (.getfield 9, 3) := by decide +kernel
theorem dX6_checksum_34 : decode cX6_checksum 34 = .ok (.iload 4, 2) := by decide +kernel
theorem dX6_checksum_36 : decode cX6_checksum 36 = .ok (.iaload, 1) := by decide +kernel
theorem dX6_checksum_37 : decode cX6_checksum 37 = .ok (.i2l, 1) := by decide +kernel
theorem dX6_checksum_38 : decode cX6_checksum 38 = .ok (.ladd, 1) := by decide +kernel
theorem dX6_checksum_39 : decode cX6_checksum 39 = .ok (.lstore_n 1, 1) := by decide +kernel
theorem dX6_checksum_40 : decode cX6_checksum 40 = .ok (.ldc2_w 97, 3) := by decide +kernel
theorem dX6_checksum_43 : decode cX6_checksum 43 = .ok (.lload_n 1, 1) := by decide +kernel
theorem dX6_checksum_44 : decode cX6_checksum 44 = .ok (.lmul, 1) := by decide +kernel
theorem dX6_checksum_45 : decode cX6_checksum 45 = .ok (.aload_n 0, 1) := by decide +kernel
theorem dX6_checksum_46 : decode cX6_checksum 46 = .ok (.iload 4, 2) := by decide +kernel
theorem dX6_checksum_48 : decode cX6_checksum 48 = .ok (.invokevirtual 49, 3) := by decide +kernel
theorem dX6_checksum_51 : decode cX6_checksum 51 = .ok (.i2l, 1) := by decide +kernel
theorem dX6_checksum_52 : decode cX6_checksum 52 = .ok (.ladd, 1) := by decide +kernel
theorem dX6_checksum_53 : decode cX6_checksum 53 = .ok (.lstore_n 1, 1) := by decide +kernel
theorem dX6_checksum_54 : decode cX6_checksum 54 = .ok (.ldc2_w 97, 3) := by decide +kernel
theorem dX6_checksum_57 : decode cX6_checksum 57 = .ok (.lload_n 1, 1) := by decide +kernel
theorem dX6_checksum_58 : decode cX6_checksum 58 = .ok (.lmul, 1) := by decide +kernel
theorem dX6_checksum_59 : decode cX6_checksum 59 = .ok (.aload_n 3, 1) := by decide +kernel
theorem dX6_checksum_60 : decode cX6_checksum 60 = .ok (.iload 4, 2) := by decide +kernel
theorem dX6_checksum_62 : decode cX6_checksum 62 = .ok (.iaload, 1) := by decide +kernel
theorem dX6_checksum_63 : decode cX6_checksum 63 = .ok (.i2l, 1) := by decide +kernel
theorem dX6_checksum_64 : decode cX6_checksum 64 = .ok (.ladd, 1) := by decide +kernel
theorem dX6_checksum_65 : decode cX6_checksum 65 = .ok (.lstore_n 1, 1) := by decide +kernel
theorem dX6_checksum_66 : decode cX6_checksum 66 = .ok (.ldc2_w 97, 3) := by decide +kernel
theorem dX6_checksum_69 : decode cX6_checksum 69 = .ok (.lload_n 1, 1) := by decide +kernel
theorem dX6_checksum_70 : decode cX6_checksum 70 = .ok (.lmul, 1) := by decide +kernel
theorem dX6_checksum_71 : decode cX6_checksum 71 = .ok (.aload_n 0, 1) := by decide +kernel
theorem dX6_checksum_72 : decode cX6_checksum 72 = .ok (.getfield 18, 3) := by decide +kernel
theorem dX6_checksum_75 : decode cX6_checksum 75 = .ok (.ifCond .ge 7, 3) := by decide +kernel
theorem dX6_checksum_78 : decode cX6_checksum 78 = .ok (.iconst 0, 1) := by decide +kernel
theorem dX6_checksum_79 : decode cX6_checksum 79 = .ok (.goto 9, 3) := by decide +kernel
theorem dX6_checksum_82 : decode cX6_checksum 82 = .ok (.aload_n 0, 1) := by decide +kernel
theorem dX6_checksum_83 : decode cX6_checksum 83 = .ok (.iload 4, 2) := by decide +kernel
theorem dX6_checksum_85 : decode cX6_checksum 85 = .ok (.invokevirtual 72, 3) := by decide +kernel
theorem dX6_checksum_88 : decode cX6_checksum 88 = .ok (.i2l, 1) := by decide +kernel
theorem dX6_checksum_89 : decode cX6_checksum 89 = .ok (.ladd, 1) := by decide +kernel
theorem dX6_checksum_90 : decode cX6_checksum 90 = .ok (.lstore_n 1, 1) := by decide +kernel
theorem dX6_checksum_91 : decode cX6_checksum 91 = .ok (.iinc 4 1, 3) := by decide +kernel
theorem dX6_checksum_94 : decode cX6_checksum 94 = .ok (.goto (-78), 3) := by decide +kernel
theorem dX6_checksum_97 : decode cX6_checksum 97 = .ok (.ldc2_w 97, 3) := by decide +kernel
theorem dX6_checksum_100 : decode cX6_checksum 100 = .ok (.lload_n 1, 1) := by decide +kernel
theorem dX6_checksum_101 : decode cX6_checksum 101 = .ok (.lmul, 1) := by decide +kernel
theorem dX6_checksum_102 : decode cX6_checksum 102 = .ok (.aload_n 0, 1) := by decide +kernel
theorem dX6_checksum_103 : decode cX6_checksum 103 = .ok (.invokevirtual 99, 3) := by decide +kernel
theorem dX6_checksum_106 : decode cX6_checksum 106 = .ok (.i2l, 1) := by decide +kernel
theorem dX6_checksum_107 : decode cX6_checksum 107 = .ok (.ladd, 1) := by decide +kernel
theorem dX6_checksum_108 : decode cX6_checksum 108 = .ok (.lstore_n 1, 1) := by decide +kernel
theorem dX6_checksum_109 : decode cX6_checksum 109 = .ok (.ldc2_w 97, 3) := by decide +kernel
theorem dX6_checksum_112 : decode cX6_checksum 112 = .ok (.lload_n 1, 1) := by decide +kernel
theorem dX6_checksum_113 : decode cX6_checksum 113 = .ok (.lmul, 1) := by decide +kernel
theorem dX6_checksum_114 : decode cX6_checksum 114 = .ok (.aload_n 0, 1) := by decide +kernel
theorem dX6_checksum_115 : decode cX6_checksum 115 = .ok (.invokevirtual 91, 3) := by decide +kernel
theorem dX6_checksum_118 : decode cX6_checksum 118 = .ok (.ifCond .ne 7, 3) := by decide +kernel
theorem dX6_checksum_121 : decode cX6_checksum 121 = .ok (.iconst 1, 1) := by decide +kernel
theorem dX6_checksum_122 : decode cX6_checksum 122 = .ok (.goto 4, 3) := by decide +kernel
theorem dX6_checksum_125 : decode cX6_checksum 125 = .ok (.iconst 0, 1) := by decide +kernel
theorem dX6_checksum_126 : decode cX6_checksum 126 = .ok (.i2l, 1) := by decide +kernel
theorem dX6_checksum_127 : decode cX6_checksum 127 = .ok (.ladd, 1) := by decide +kernel
theorem dX6_checksum_128 : decode cX6_checksum 128 = .ok (.lstore_n 1, 1) := by decide +kernel
theorem dX6_checksum_129 : decode cX6_checksum 129 = .ok (.ldc2_w 97, 3) := by decide +kernel
theorem dX6_checksum_132 : decode cX6_checksum 132 = .ok (.lload_n 1, 1) := by decide +kernel
theorem dX6_checksum_133 : decode cX6_checksum 133 = .ok (.lmul, 1) := by decide +kernel
theorem dX6_checksum_134 : decode cX6_checksum 134 = .ok (.aload_n 0, 1) := by decide +kernel
theorem dX6_checksum_135 : decode cX6_checksum 135 = .ok (.getfield 46, 3) := by decide +kernel
theorem dX6_checksum_138 : decode cX6_checksum 138 = .ok (.i2l, 1) := by decide +kernel
theorem dX6_checksum_139 : decode cX6_checksum 139 = .ok (.ladd, 1) := by decide +kernel
theorem dX6_checksum_140 : decode cX6_checksum 140 = .ok (.lstore_n 1, 1) := by decide +kernel
theorem dX6_checksum_141 : decode cX6_checksum 141 = .ok (.iconst 0, 1) := by decide +kernel
theorem dX6_checksum_142 : decode cX6_checksum 142 = .ok (.istore 4, 2) := by decide +kernel
theorem dX6_checksum_144 : decode cX6_checksum 144 = .ok (.iload 4, 2) := by decide +kernel
theorem dX6_checksum_146 : decode cX6_checksum 146 = .ok (.aload_n 0, 1) := by decide +kernel
theorem dX6_checksum_147 : decode cX6_checksum 147 = .ok (.getfield 46, 3) := by decide +kernel
theorem dX6_checksum_150 : decode cX6_checksum 150 = .ok (.if_icmp .ge 39, 3) := by decide +kernel
theorem dX6_checksum_153 : decode cX6_checksum 153 = .ok (.ldc2_w 97, 3) := by decide +kernel
theorem dX6_checksum_156 : decode cX6_checksum 156 = .ok (.lload_n 1, 1) := by decide +kernel
theorem dX6_checksum_157 : decode cX6_checksum 157 = .ok (.lmul, 1) := by decide +kernel
theorem dX6_checksum_158 : decode cX6_checksum 158 = .ok (.aload_n 0, 1) := by decide +kernel
theorem dX6_checksum_159 : decode cX6_checksum 159 = .ok (.getfield 22, 3) := by decide +kernel
theorem dX6_checksum_162 : decode cX6_checksum 162 = .ok (.iload 4, 2) := by decide +kernel
theorem dX6_checksum_164 : decode cX6_checksum 164 = .ok (.iaload, 1) := by decide +kernel
theorem dX6_checksum_165 : decode cX6_checksum 165 = .ok (.i2l, 1) := by decide +kernel
theorem dX6_checksum_166 : decode cX6_checksum 166 = .ok (.ladd, 1) := by decide +kernel
theorem dX6_checksum_167 : decode cX6_checksum 167 = .ok (.lstore_n 1, 1) := by decide +kernel
theorem dX6_checksum_168 : decode cX6_checksum 168 = .ok (.ldc2_w 97, 3) := by decide +kernel
theorem dX6_checksum_171 : decode cX6_checksum 171 = .ok (.lload_n 1, 1) := by decide +kernel
theorem dX6_checksum_172 : decode cX6_checksum 172 = .ok (.lmul, 1) := by decide +kernel
theorem dX6_checksum_173 : decode cX6_checksum 173 = .ok (.aload_n 0, 1) := by decide +kernel
theorem dX6_checksum_174 : decode cX6_checksum 174 = .ok (.getfield 25, 3) := by decide +kernel
theorem dX6_checksum_177 : decode cX6_checksum 177 = .ok (.iload 4, 2) := by decide +kernel
theorem dX6_checksum_179 : decode cX6_checksum 179 = .ok (.iaload, 1) := by decide +kernel
theorem dX6_checksum_180 : decode cX6_checksum 180 = .ok (.i2l, 1) := by decide +kernel
theorem dX6_checksum_181 : decode cX6_checksum 181 = .ok (.ladd, 1) := by decide +kernel
theorem dX6_checksum_182 : decode cX6_checksum 182 = .ok (.lstore_n 1, 1) := by decide +kernel
theorem dX6_checksum_183 : decode cX6_checksum 183 = .ok (.iinc 4 1, 3) := by decide +kernel
theorem dX6_checksum_186 : decode cX6_checksum 186 = .ok (.goto (-42), 3) := by decide +kernel
theorem dX6_checksum_189 : decode cX6_checksum 189 = .ok (.aload_n 0, 1) := by decide +kernel
theorem dX6_checksum_190 : decode cX6_checksum 190 = .ok (.iconst 0, 1) := by decide +kernel
theorem dX6_checksum_191 : decode cX6_checksum 191 = .ok (.putfield 28, 3) := by decide +kernel
theorem dX6_checksum_194 : decode cX6_checksum 194 = .ok (.lload_n 1, 1) := by decide +kernel
theorem dX6_checksum_195 : decode cX6_checksum 195 = .ok (.lreturn, 1) := by decide +kernel
theorem dJ6_bitCount_0f7a4_0 : decode cJ6_bitCount_0f7a4 0 = .ok (.iload_n 0, 1) := by decide +kernel
theorem dJ6_bitCount_0f7a4_1 : decode cJ6_bitCount_0f7a4 1 = .ok (.iload_n 0, 1) := by decide +kernel
theorem dJ6_bitCount_0f7a4_2 : decode cJ6_bitCount_0f7a4 2 = .ok (.iconst 1, 1) := by decide +kernel
theorem dJ6_bitCount_0f7a4_3 : decode cJ6_bitCount_0f7a4 3 = .ok (.iushr, 1) := by decide +kernel
theorem dJ6_bitCount_0f7a4_4 : decode cJ6_bitCount_0f7a4 4 = .ok (.ldc_w 265, 3) := by decide +kernel
theorem dJ6_bitCount_0f7a4_7 : decode cJ6_bitCount_0f7a4 7 = .ok (.iand, 1) := by decide +kernel
theorem dJ6_bitCount_0f7a4_8 : decode cJ6_bitCount_0f7a4 8 = .ok (.isub, 1) := by decide +kernel
theorem dJ6_bitCount_0f7a4_9 : decode cJ6_bitCount_0f7a4 9 = .ok (.istore_n 0, 1) := by decide +kernel
theorem dJ6_bitCount_0f7a4_10 : decode cJ6_bitCount_0f7a4 10 = .ok (.iload_n 0, 1) := by decide +kernel
theorem dJ6_bitCount_0f7a4_11 : decode cJ6_bitCount_0f7a4 11 = .ok (.ldc_w 266, 3) := by decide +kernel
theorem dJ6_bitCount_0f7a4_14 : decode cJ6_bitCount_0f7a4 14 = .ok (.iand, 1) := by decide +kernel
theorem dJ6_bitCount_0f7a4_15 : decode cJ6_bitCount_0f7a4 15 = .ok (.iload_n 0, 1) := by decide +kernel
theorem dJ6_bitCount_0f7a4_16 : decode cJ6_bitCount_0f7a4 16 = .ok (.iconst 2, 1) := by decide +kernel
theorem dJ6_bitCount_0f7a4_17 : decode cJ6_bitCount_0f7a4 17 = .ok (.iushr, 1) := by decide +kernel
theorem dJ6_bitCount_0f7a4_18 : decode cJ6_bitCount_0f7a4 18 = .ok (.ldc_w 266, 3) := by decide +kernel
theorem dJ6_bitCount_0f7a4_21 : decode cJ6_bitCount_0f7a4 21 = .ok (.iand, 1) := by decide +kernel
theorem dJ6_bitCount_0f7a4_22 : decode cJ6_bitCount_0f7a4 22 = .ok (.iadd, 1) := by decide +kernel
theorem dJ6_bitCount_0f7a4_23 : decode cJ6_bitCount_0f7a4 23 = .ok (.istore_n 0, 1) := by decide +kernel
theorem dJ6_bitCount_0f7a4_24 : decode cJ6_bitCount_0f7a4 24 = .ok (.iload_n 0, 1) := by decide +kernel
theorem dJ6_bitCount_0f7a4_25 : decode cJ6_bitCount_0f7a4 25 = .ok (.iload_n 0, 1) := by decide +kernel
theorem dJ6_bitCount_0f7a4_26 : decode cJ6_bitCount_0f7a4 26 = .ok (.iconst 4, 1) := by decide +kernel
theorem dJ6_bitCount_0f7a4_27 : decode cJ6_bitCount_0f7a4 27 = .ok (.iushr, 1) := by decide +kernel
theorem dJ6_bitCount_0f7a4_28 : decode cJ6_bitCount_0f7a4 28 = .ok (.iadd, 1) := by decide +kernel
theorem dJ6_bitCount_0f7a4_29 : decode cJ6_bitCount_0f7a4 29 = .ok (.ldc_w 267, 3) := by decide +kernel
theorem dJ6_bitCount_0f7a4_32 : decode cJ6_bitCount_0f7a4 32 = .ok (.iand, 1) := by decide +kernel
theorem dJ6_bitCount_0f7a4_33 : decode cJ6_bitCount_0f7a4 33 = .ok (.istore_n 0, 1) := by decide +kernel
theorem dJ6_bitCount_0f7a4_34 : decode cJ6_bitCount_0f7a4 34 = .ok (.iload_n 0, 1) := by decide +kernel
theorem dJ6_bitCount_0f7a4_35 : decode cJ6_bitCount_0f7a4 35 = .ok (.iload_n 0, 1) := by decide +kernel
theorem dJ6_bitCount_0f7a4_36 : decode cJ6_bitCount_0f7a4 36 = .ok (.bipush 8, 2) := by decide +kernel
theorem dJ6_bitCount_0f7a4_38 : decode cJ6_bitCount_0f7a4 38 = .ok (.iushr, 1) := by decide +kernel
theorem dJ6_bitCount_0f7a4_39 : decode cJ6_bitCount_0f7a4 39 = .ok (.iadd, 1) := by decide +kernel
theorem dJ6_bitCount_0f7a4_40 : decode cJ6_bitCount_0f7a4 40 = .ok (.istore_n 0, 1) := by decide +kernel
theorem dJ6_bitCount_0f7a4_41 : decode cJ6_bitCount_0f7a4 41 = .ok (.iload_n 0, 1) := by decide +kernel
theorem dJ6_bitCount_0f7a4_42 : decode cJ6_bitCount_0f7a4 42 = .ok (.iload_n 0, 1) := by decide +kernel
theorem dJ6_bitCount_0f7a4_43 : decode cJ6_bitCount_0f7a4 43 = .ok (.bipush 16, 2) := by decide +kernel
theorem dJ6_bitCount_0f7a4_45 : decode cJ6_bitCount_0f7a4 45 = .ok (.iushr, 1) := by decide +kernel
theorem dJ6_bitCount_0f7a4_46 : decode cJ6_bitCount_0f7a4 46 = .ok (.iadd, 1) := by decide +kernel
theorem dJ6_bitCount_0f7a4_47 : decode cJ6_bitCount_0f7a4 47 = .ok (.istore_n 0, 1) := by decide +kernel
theorem dJ6_bitCount_0f7a4_48 : decode cJ6_bitCount_0f7a4 48 = .ok (.iload_n 0, 1) := by decide +kernel
theorem dJ6_bitCount_0f7a4_49 : decode cJ6_bitCount_0f7a4 49 = .ok (.bipush 63, 2) := by decide +kernel
theorem dJ6_bitCount_0f7a4_51 : decode cJ6_bitCount_0f7a4 51 = .ok (.iand, 1) := by decide +kernel
theorem dJ6_bitCount_0f7a4_52 : decode cJ6_bitCount_0f7a4 52 = .ok (.ireturn, 1) := by decide +kernel
theorem dJ9_abs_0f7a4_0 : decode cJ9_abs_0f7a4 0 = .ok (.iload_n 0, 1) := by decide +kernel
theorem dJ9_abs_0f7a4_1 : decode cJ9_abs_0f7a4 1 = .ok (.ifCond .ge 8, 3) := by decide +kernel
theorem dJ9_abs_0f7a4_4 : decode cJ9_abs_0f7a4 4 = .ok (.iload_n 0, 1) := by decide +kernel
theorem dJ9_abs_0f7a4_5 : decode cJ9_abs_0f7a4 5 = .ok (.ineg, 1) := by decide +kernel
theorem dJ9_abs_0f7a4_6 : decode cJ9_abs_0f7a4 6 = .ok (.goto 4, 3) := by decide +kernel
theorem dJ9_abs_0f7a4_9 : decode cJ9_abs_0f7a4 9 = .ok (.iload_n 0, 1) := by decide +kernel
theorem dJ9_abs_0f7a4_10 : decode cJ9_abs_0f7a4 10 = .ok (.ireturn, 1) := by decide +kernel
theorem dJ9_max_7cf53_0 : decode cJ9_max_7cf53 0 = .ok (.iload_n 0, 1) := by decide +kernel
theorem dJ9_max_7cf53_1 : decode cJ9_max_7cf53 1 = .ok (.iload_n 1, 1) := by decide +kernel
theorem dJ9_max_7cf53_2 : decode cJ9_max_7cf53 2 = .ok (.if_icmp .lt 7, 3) := by decide +kernel
theorem dJ9_max_7cf53_5 : decode cJ9_max_7cf53 5 = .ok (.iload_n 0, 1) := by decide +kernel
theorem dJ9_max_7cf53_6 : decode cJ9_max_7cf53 6 = .ok (.goto 4, 3) := by decide +kernel
theorem dJ9_max_7cf53_9 : decode cJ9_max_7cf53 9 = .ok (.iload_n 1, 1) := by decide +kernel
theorem dJ9_max_7cf53_10 : decode cJ9_max_7cf53 10 = .ok (.ireturn, 1) := by decide +kernel
set_option maxRecDepth 20000 in
theorem ggL_place_X5_place : GoodIn wsL_place wsX5_place := goodIn_ca (goodIn_ca (goodIn_r _ [7, 8, 9, 10, 11, 12, 13, 14, 15, 16, 17, 18, 19, 20, 21, 22, 23, 24, 25, 26, 27, 28, 29, 30, 31, 32, 33, 34, 35, 36, 37, 38, 6, 39, 40, 41, 42, 43, 44, 45, 46, 47, 48, 49, 50, 51, 52, 53, 54, 55, 56, 57, 58, 59, 60, 61, 62, 63, 64, 65, 66, 67, 68, 69, 70, 71, 72, 73, 74, 75, 76, 77, 78, 79, 80, 81] (by decide +kernel) (by decide +kernel)) (goodIn_sub (fun _ h => List.mem_cons_of_mem _ (List.mem_append_left _ (List.mem_append_right _ h))) (by decide +kernel))) (goodIn_sub (fun _ h => List.mem_cons_of_mem _ (List.mem_append_right _ h)) (by decide +kernel))
set_option maxRecDepth 20000 in
theorem gL_place_X5_place : GoodIn wsL_place (wsV RL 7 RX5 yX5_place wsX5_place) := goodIn_app (goodIn_of _ (by decide +kernel)) ggL_place_X5_place
