theorem dX0_packed_0 : decode cX0_packed 0 = .ok (.iload_n 1, 1) := by decide +kernel
theorem dX0_packed_1 : decode cX0_packed 1 = .ok (.iconst 5, 1) := by decide +kernel
theorem dX0_packed_2 : decode cX0_packed 2 = .ok (.iconst 5, 1) := by decide +kernel
theorem dX0_packed_3 : decode cX0_packed 3 = .ok (.iload_n 0, 1) := by decide +kernel
theorem dX0_packed_4 : decode cX0_packed 4 = .ok (.isub, 1) := by decide +kernel
theorem dX0_packed_5 : decode cX0_packed 5 = .ok (.imul, 1) := by decide +kernel
theorem dX0_packed_6 : decode cX0_packed 6 = .ok (.ishl, 1) := by decide +kernel
theorem dX0_packed_7 : decode cX0_packed 7 = .ok (.ireturn, 1) := by decide +kernel
theorem dX0_ofWidth_0 : decode cX0_ofWidth 0 = .ok (.iload_n 0, 1) := by decide +kernel
theorem dX0_ofWidth_1 : decode cX0_ofWidth 1 = .ok (.iconst 5, 1) := by decide +kernel
theorem dX0_ofWidth_2 : decode cX0_ofWidth 2 = .ok (.iconst 5, 1) := by decide +kernel
theorem dX0_ofWidth_3 : decode cX0_ofWidth 3 = .ok (.iload_n 1, 1) := by decide +kernel
theorem dX0_ofWidth_4 : decode cX0_ofWidth 4 = .ok (.isub, 1) := by decide +kernel
theorem dX0_ofWidth_5 : decode cX0_ofWidth 5 = .ok (.imul, 1) := by decide +kernel
theorem dX0_ofWidth_6 : decode cX0_ofWidth 6 = .ok (.iushr, 1) := by decide +kernel
theorem dX0_ofWidth_7 : decode cX0_ofWidth 7 = .ok (.bipush 31, 2) := by decide +kernel
theorem dX0_ofWidth_9 : decode cX0_ofWidth 9 = .ok (.iand, 1) := by decide +kernel
theorem dX0_ofWidth_10 : decode cX0_ofWidth 10 = .ok (.ireturn, 1) := by decide +kernel
set_option maxRecDepth 20000 in
theorem ggX0_pieces_X0_ofWidth : GoodIn wsX0_pieces wsX0_ofWidth := goodIn_r _ [4] (by decide +kernel) (by decide +kernel)
set_option maxRecDepth 20000 in
theorem gX0_pieces_X0_ofWidth : GoodIn wsX0_pieces (va_wsS RX0 11 yX0_ofWidth wsX0_ofWidth) := goodIn_app (goodIn_of _ (by decide +kernel)) ggX0_pieces_X0_ofWidth
theorem dX0_pieces_0 : decode cX0_pieces 0 = .ok (.iconst 0, 1) := by decide +kernel
theorem dX0_pieces_1 : decode cX0_pieces 1 = .ok (.istore_n 1, 1) := by decide +kernel
theorem dX0_pieces_2 : decode cX0_pieces 2 = .ok (.iconst 0, 1) := by decide +kernel
theorem dX0_pieces_3 : decode cX0_pieces 3 = .ok (.istore_n 2, 1) := by decide +kernel
theorem dX0_pieces_4 : decode cX0_pieces 4 = .ok (.iload_n 2, 1) := by decide +kernel
theorem dX0_pieces_5 : decode cX0_pieces 5 = .ok (.bipush 6, 2) := by decide +kernel
theorem dX0_pieces_7 : decode cX0_pieces 7 = .ok (.if_icmp .ge 17, 3) := by decide +kernel
theorem dX0_pieces_10 : decode cX0_pieces 10 = .ok (.iload_n 1, 1) := by decide +kernel
theorem dX0_pieces_11 : decode cX0_pieces 11 = .ok (.iload_n 0, 1) := by decide +kernel
theorem dX0_pieces_12 : decode cX0_pieces 12 = .ok (.iload_n 2, 1) := by decide +kernel
theorem dX0_pieces_13 : decode cX0_pieces 13 = .ok (.invokestatic 11, 3) := by decide +kernel
theorem dX0_pieces_16 : decode cX0_pieces 16 = .ok (.iadd, 1) := by decide +kernel
theorem dX0_pieces_17 : decode cX0_pieces 17 = .ok (.istore_n 1, 1) := by decide +kernel
theorem dX0_pieces_18 : decode cX0_pieces 18 = .ok (.iinc 2 1, 3) := by decide +kernel
theorem dX0_pieces_21 : decode cX0_pieces 21 = .ok (.goto (-17), 3) := by decide +kernel
theorem dX0_pieces_24 : decode cX0_pieces 24 = .ok (.iload_n 1, 1) := by decide +kernel
theorem dX0_pieces_25 : decode cX0_pieces 25 = .ok (.ireturn, 1) := by decide +kernel
theorem dX1_init_0 : decode cX1_init 0 = .ok (.aload_n 0, 1) := by decide +kernel
theorem dX1_init_1 : decode cX1_init 1 = .ok (.invokespecial 3, 3) := by decide +kernel
theorem dX1_init_4 : decode cX1_init 4 = .ok (.aload_n 0, 1) := by decide +kernel
theorem dX1_init_5 : decode cX1_init 5 = .ok (.iconst 0, 1) := by decide +kernel
theorem dX1_init_6 : decode cX1_init 6 = .ok (.putfield 9, 3) := by decide +kernel
theorem dX1_init_9 : decode cX1_init 9 = .ok (.aload_n 0, 1) := by decide +kernel
theorem dX1_init_10 : decode cX1_init 10 = .ok (.bipush 21, 2) := by decide +kernel
theorem dX1_init_12 : decode cX1_init 12 = .ok (.newarray .int, 2) := by decide +kernel
theorem dX1_init_14 : decode cX1_init 14 = .ok (.putfield 15, 3) := by decide +kernel
theorem dX1_init_17 : decode cX1_init 17 = .ok (.return_, 1) := by decide +kernel
set_option maxRecDepth 20000 in
theorem ggX1_lay_X1_add : GoodIn wsX1_lay wsX1_add := goodIn_r _ [9, 1, 10, 15, 16] (by decide +kernel) (by decide +kernel)
set_option maxRecDepth 20000 in
theorem gX1_lay_X1_add : GoodIn wsX1_lay (wsV RX1 24 RX1 yX1_add wsX1_add) := goodIn_app (goodIn_of _ (by decide +kernel)) ggX1_lay_X1_add
set_option maxRecDepth 20000 in
theorem ggX1_lay_X0_ofWidth : GoodIn wsX1_lay wsX0_ofWidth := goodIn_r _ [14] (by decide +kernel) (by decide +kernel)
set_option maxRecDepth 20000 in
theorem gX1_lay_X0_ofWidth : GoodIn wsX1_lay (va_wsS RX1 31 yX0_ofWidth wsX0_ofWidth) := goodIn_app (goodIn_of _ (by decide +kernel)) ggX1_lay_X0_ofWidth
theorem dX1_lay_0 : decode cX1_lay 0 = .ok (.aload_n 0, 1) := by decide +kernel
theorem dX1_lay_1 : decode cX1_lay 1 = .ok (.iconst 0, 1) := by decide +kernel
theorem dX1_lay_2 : decode cX1_lay 2 = .ok (.putfield 9, 3) := by decide +kernel
theorem dX1_lay_5 : decode cX1_lay 5 = .ok (.aload_n 1, 1) := by decide +kernel
theorem dX1_lay_6 : decode cX1_lay 6 = .ok (.getfield 19, 3) := by decide +kernel
theorem dX1_lay_9 : decode cX1_lay 9 = .ok (.istore_n 3, 1) := by decide +kernel
theorem dX1_lay_10 : decode cX1_lay 10 = .ok (.aload_n 0, 1) := by decide +kernel
theorem dX1_lay_11 : decode cX1_lay 11 = .ok (.iload_n 3, 1) := by decide +kernel
theorem dX1_lay_12 : decode cX1_lay 12 = .ok (.invokevirtual 24, 3) := by decide +kernel
theorem dX1_lay_15 : decode cX1_lay 15 = .ok (.iconst 0, 1) := by decide +kernel
theorem dX1_lay_16 : decode cX1_lay 16 = .ok (.istore 4, 2) := by decide +kernel
theorem dX1_lay_18 : decode cX1_lay 18 = .ok (.iload 4, 2) := by decide +kernel
theorem dX1_lay_20 : decode cX1_lay 20 = .ok (.aload_n 1, 1) := by decide +kernel
theorem dX1_lay_21 : decode cX1_lay 21 = .ok (.getfield 28, 3) := by decide +kernel
theorem dX1_lay_24 : decode cX1_lay 24 = .ok (.if_icmp .ge 48, 3) := by decide +kernel
theorem dX1_lay_27 : decode cX1_lay 27 = .ok (.iload_n 2, 1) := by decide +kernel
theorem dX1_lay_28 : decode cX1_lay 28 = .ok (.iload 4, 2) := by decide +kernel
theorem dX1_lay_30 : decode cX1_lay 30 = .ok (.invokestatic 31, 3) := by decide +kernel
theorem dX1_lay_33 : decode cX1_lay 33 = .ok (.istore 5, 2) := by decide +kernel
theorem dX1_lay_35 : decode cX1_lay 35 = .ok (.iconst 0, 1) := by decide +kernel
theorem dX1_lay_36 : decode cX1_lay 36 = .ok (.istore 6, 2) := by decide +kernel
theorem dX1_lay_38 : decode cX1_lay 38 = .ok (.iload 6, 2) := by decide +kernel
theorem dX1_lay_40 : decode cX1_lay 40 = .ok (.iload 5, 2) := by decide +kernel
theorem dX1_lay_42 : decode cX1_lay 42 = .ok (.if_icmp .ge 24, 3) := by decide +kernel
theorem dX1_lay_45 : decode cX1_lay 45 = .ok (.iload_n 3, 1) := by decide +kernel
theorem dX1_lay_46 : decode cX1_lay 46 = .ok (.aload_n 1, 1) := by decide +kernel
theorem dX1_lay_47 : decode cX1_lay 47 = .ok (.getfield 37, 3) := by decide +kernel
theorem dX1_lay_50 : decode cX1_lay 50 = .ok (.iload 4, 2) := by decide +kernel
theorem dX1_lay_52 : decode cX1_lay 52 = .ok (.iaload, 1) := by decide +kernel
theorem dX1_lay_53 : decode cX1_lay 53 = .ok (.iadd, 1) := by decide +kernel
theorem dX1_lay_54 : decode cX1_lay 54 = .ok (.istore_n 3, 1) := by decide +kernel
theorem dX1_lay_55 : decode cX1_lay 55 = .ok (.aload_n 0, 1) := by decide +kernel
theorem dX1_lay_56 : decode cX1_lay 56 = .ok (.iload_n 3, 1) := by decide +kernel
theorem dX1_lay_57 : decode cX1_lay 57 = .ok (.invokevirtual 24, 3) := by decide +kernel
theorem dX1_lay_60 : decode cX1_lay 60 = .ok (.iinc 6 1, 3) := by decide +kernel
theorem dX1_lay_63 : decode cX1_lay 63 = .ok (.goto (-25), 3) := by decide +kernel
theorem dX1_lay_66 : decode cX1_lay 66 = .ok (.iinc 4 1, 3) := by decide +kernel
theorem dX1_lay_69 : decode cX1_lay 69 = .ok (.goto (-51), 3) := by decide +kernel
theorem dX1_lay_72 : decode cX1_lay 72 = .ok (.return_, 1) := by decide +kernel
theorem dX1_add_0 : decode cX1_add 0 = .ok (.aload_n 0, 1) := by decide +kernel
theorem dX1_add_1 : decode cX1_add 1 = .ok (.getfield 9, 3) := by decide +kernel
theorem dX1_add_4 : decode cX1_add 4 = .ok (.aload_n 0, 1) := by decide +kernel
theorem dX1_add_5 : decode cX1_add 5 = .ok (.getfield 15, 3) := by decide +kernel
theorem dX1_add_8 : decode cX1_add 8 = .ok (.arraylength, 1) := by decide +kernel
theorem dX1_add_9 : decode cX1_add 9 = .ok (.if_icmp .ge 23, 3) := by decide +kernel
theorem dX1_add_12 : decode cX1_add 12 = .ok (.aload_n 0, 1) := by decide +kernel
theorem dX1_add_13 : decode cX1_add 13 = .ok (.getfield 15, 3) := by decide +kernel
theorem dX1_add_16 : decode cX1_add 16 = .ok (.aload_n 0, 1) := by decide +kernel
theorem dX1_add_17 : decode cX1_add 17 = .ok (.getfield 9, 3) := by decide +kernel
theorem dX1_add_20 : decode cX1_add 20 = .ok (.iload_n 1, 1) := by decide +kernel
theorem dX1_add_21 : decode cX1_add 21 = .ok (.iastore, 1) := by decide +kernel
theorem dX1_add_22 : decode cX1_add 22 = .ok (.aload_n 0, 1) := by decide +kernel
theorem dX1_add_23 : decode cX1_add 23 = .ok (.dup, 1) := by decide +kernel
theorem dX1_add_24 : decode cX1_add 24 = .ok (.getfield 9, 3) := by decide +kernel
theorem dX1_add_27 : decode cX1_add 27 = .ok (.iconst 1, 1) := by decide +kernel
theorem dX1_add_28 : decode cX1_add 28 = .ok (.iadd, 1) := by decide +kernel
theorem dX1_add_29 : decode cX1_add 29 = .ok (.putfield 9, 3) := by decide +kernel
theorem dX1_add_32 : decode cX1_add 32 = .ok (.return_, 1) := by decide +kernel
theorem dX1_copyFrom_0 : decode cX1_copyFrom 0 = .ok (.aload_n 0, 1) := by decide +kernel
theorem dX1_copyFrom_1 : decode cX1_copyFrom 1 = .ok (.aload_n 1, 1) := by decide +kernel
theorem dX1_copyFrom_2 : decode cX1_copyFrom 2 = .ok (.getfield 9, 3) := by decide +kernel
theorem dX1_copyFrom_5 : decode cX1_copyFrom 5 = .ok (.putfield 9, 3) := by decide +kernel
theorem dX1_copyFrom_8 : decode cX1_copyFrom 8 = .ok (.iconst 0, 1) := by decide +kernel
theorem dX1_copyFrom_9 : decode cX1_copyFrom 9 = .ok (.istore_n 2, 1) := by decide +kernel
theorem dX1_copyFrom_10 : decode cX1_copyFrom 10 = .ok (.iload_n 2, 1) := by decide +kernel
theorem dX1_copyFrom_11 : decode cX1_copyFrom 11 = .ok (.aload_n 0, 1) := by decide +kernel
theorem dX1_copyFrom_12 : decode cX1_copyFrom 12 = .ok (.getfield 9, 3) := by decide +kernel
theorem dX1_copyFrom_15 : decode cX1_copyFrom 15 = .ok (.if_icmp .ge 21, 3) := by decide +kernel
theorem dX1_copyFrom_18 : decode cX1_copyFrom 18 = .ok (.aload_n 0, 1) := by decide +kernel
theorem dX1_copyFrom_19 : decode cX1_copyFrom 19 = .ok (.getfield 15, 3) := by decide +kernel
theorem dX1_copyFrom_22 : decode cX1_copyFrom 22 = .ok (.iload_n 2, 1) := by decide +kernel
theorem dX1_copyFrom_23 : decode cX1_copyFrom 23 = .ok (.aload_n 1, 1) := by decide +kernel
theorem dX1_copyFrom_24 : decode cX1_copyFrom 24 = .ok (.getfield 15, 3) := by decide +kernel
theorem dX1_copyFrom_27 : decode cX1_copyFrom 27 = .ok (.iload_n 2, 1) := by decide +kernel
theorem dX1_copyFrom_28 : decode cX1_copyFrom 28 = .ok (.iaload, 1) := by decide +kernel
theorem dX1_copyFrom_29 : decode cX1_copyFrom 29 = .ok (.iastore, 1) := by decide +kernel
theorem dX1_copyFrom_30 : decode cX1_copyFrom 30 = .ok (.iinc 2 1, 3) := by decide +kernel
theorem dX1_copyFrom_33 : decode cX1_copyFrom 33 = .ok (.goto (-23), 3) := by decide +kernel
theorem dX1_copyFrom_36 : decode cX1_copyFrom 36 = .ok (.return_, 1) := by decide +kernel
theorem dX1_movesFrom_0 : decode cX1_movesFrom 0 = .ok (.iconst 0, 1) := by decide +kernel
theorem dX1_movesFrom_1 : decode cX1_movesFrom 1 = .ok (.istore_n 2, 1) := by decide +kernel
theorem dX1_movesFrom_2 : decode cX1_movesFrom 2 = .ok (.iconst 0, 1) := by decide +kernel
theorem dX1_movesFrom_3 : decode cX1_movesFrom 3 = .ok (.istore_n 3, 1) := by decide +kernel
theorem dX1_movesFrom_4 : decode cX1_movesFrom 4 = .ok (.iconst 0, 1) := by decide +kernel
theorem dX1_movesFrom_5 : decode cX1_movesFrom 5 = .ok (.istore 4, 2) := by decide +kernel
theorem dX1_movesFrom_7 : decode cX1_movesFrom 7 = .ok (.iload 4, 2) := by decide +kernel
theorem dX1_movesFrom_9 : decode cX1_movesFrom 9 = .ok (.aload_n 0, 1) := by decide +kernel
theorem dX1_movesFrom_10 : decode cX1_movesFrom 10 = .ok (.getfield 9, 3) := by decide +kernel
theorem dX1_movesFrom_13 : decode cX1_movesFrom 13 = .ok (.if_icmp .ge 66, 3) := by decide +kernel
theorem dX1_movesFrom_16 : decode cX1_movesFrom 16 = .ok (.iload_n 3, 1) := by decide +kernel
theorem dX1_movesFrom_17 : decode cX1_movesFrom 17 = .ok (.aload_n 1, 1) := by decide +kernel
theorem dX1_movesFrom_18 : decode cX1_movesFrom 18 = .ok (.getfield 9, 3) := by decide +kernel
theorem dX1_movesFrom_21 : decode cX1_movesFrom 21 = .ok (.if_icmp .ge 25, 3) := by decide +kernel
theorem dX1_movesFrom_24 : decode cX1_movesFrom 24 = .ok (.aload_n 1, 1) := by decide +kernel
theorem dX1_movesFrom_25 : decode cX1_movesFrom 25 = .ok (.getfield 15, 3) := by decide +kernel
theorem dX1_movesFrom_28 : decode cX1_movesFrom 28 = .ok (.iload_n 3, 1) := by decide +kernel
theorem dX1_movesFrom_29 : decode cX1_movesFrom 29 = .ok (.iaload, 1) := by decide +kernel
theorem dX1_movesFrom_30 : decode cX1_movesFrom 30 = .ok (.aload_n 0, 1) := by decide +kernel
theorem dX1_movesFrom_31 : decode cX1_movesFrom 31 = .ok (.getfield 15, 3) := by decide +kernel
theorem dX1_movesFrom_34 : decode cX1_movesFrom 34 = .ok (.iload 4, 2) := by decide +kernel
theorem dX1_movesFrom_36 : decode cX1_movesFrom 36 = .ok (.iaload, 1) := by decide +kernel
theorem dX1_movesFrom_37 : decode cX1_movesFrom 37 = .ok (.if_icmp .ge 9, 3) := by decide +kernel
theorem dX1_movesFrom_40 : decode cX1_movesFrom 40 = .ok (.iinc 3 1, 3) := by decide +kernel
theorem dX1_movesFrom_43 : decode cX1_movesFrom 43 = .ok (.goto (-27), 3) := by decide +kernel
theorem dX1_movesFrom_46 : decode cX1_movesFrom 46 = .ok (.iload_n 3, 1) := by decide +kernel
theorem dX1_movesFrom_47 : decode cX1_movesFrom 47 = .ok (.aload_n 1, 1) := by decide +kernel
theorem dX1_movesFrom_48 : decode cX1_movesFrom 48 = .ok (.getfield 9, 3) := by decide +kernel
theorem dX1_movesFrom_51 : decode cX1_movesFrom 51 = .ok (.if_icmp .ge 19, 3) := by decide +kernel
theorem dX1_movesFrom_54 : decode cX1_movesFrom 54 = .ok (.aload_n 1, 1) := by decide +kernel
theorem dX1_movesFrom_55 : decode cX1_movesFrom 55 = .ok (.getfield 15, 3) := by decide +kernel
theorem dX1_movesFrom_58 : decode cX1_movesFrom 58 = .ok (.iload_n 3, 1) := by decide +kernel
theorem dX1_movesFrom_59 : decode cX1_movesFrom 59 = .ok (.iaload, 1) := by decide +kernel
theorem dX1_movesFrom_60 : decode cX1_movesFrom 60 = .ok (.aload_n 0, 1) := by decide +kernel
theorem dX1_movesFrom_61 : decode cX1_movesFrom 61 = .ok (.getfield 15, 3) := by decide +kernel
theorem dX1_movesFrom_64 : decode cX1_movesFrom 64 = .ok (.iload 4, 2) := by decide +kernel
theorem dX1_movesFrom_66 : decode cX1_movesFrom 66 = .ok (.iaload, 1) := by decide +kernel
theorem dX1_movesFrom_67 : decode cX1_movesFrom 67 = .ok (.if_icmp .eq 6, 3) := by decide +kernel
theorem dX1_movesFrom_70 : decode cX1_movesFrom 70 = .ok (.iinc 2 1, 3) := by decide +kernel
theorem dX1_movesFrom_73 : decode cX1_movesFrom 73 = .ok (.iinc 4 1, 3) := by decide +kernel
theorem dX1_movesFrom_76 : decode cX1_movesFrom 76 = .ok (.goto (-69), 3) := by decide +kernel
theorem dX1_movesFrom_79 : decode cX1_movesFrom 79 = .ok (.iload_n 2, 1) := by decide +kernel
theorem dX1_movesFrom_80 : decode cX1_movesFrom 80 = .ok (.ireturn, 1) := by decide +kernel
theorem dX2_init_0 : decode cX2_init 0 = .ok (.aload_n 0, 1) := by decide +kernel
theorem dX2_init_1 : decode cX2_init 1 = .ok (.invokespecial 1, 3) := by decide +kernel
theorem dX2_init_4 : decode cX2_init 4 = .ok (.aload_n 0, 1) := by decide +kernel
theorem dX2_init_5 : decode cX2_init 5 = .ok (.lconst 0, 1) := by decide +kernel
theorem dX2_init_6 : decode cX2_init 6 = .ok (.putfield 7, 3) := by decide +kernel
theorem dX2_init_9 : decode cX2_init 9 = .ok (.aload_n 0, 1) := by decide +kernel
theorem dX2_init_10 : decode cX2_init 10 = .ok (.lconst 0, 1) := by decide +kernel
theorem dX2_init_11 : decode cX2_init 11 = .ok (.putfield 13, 3) := by decide +kernel
theorem dX2_init_14 : decode cX2_init 14 = .ok (.aload_n 0, 1) := by decide +kernel
theorem dX2_init_15 : decode cX2_init 15 = .ok (.lconst 0, 1) := by decide +kernel
theorem dX2_init_16 : decode cX2_init 16 = .ok (.putfield 16, 3) := by decide +kernel
theorem dX2_init_19 : decode cX2_init 19 = .ok (.aload_n 0, 1) := by decide +kernel
theorem dX2_init_20 : decode cX2_init 20 = .ok (.lconst 0, 1) := by decide +kernel
theorem dX2_init_21 : decode cX2_init 21 = .ok (.putfield 19, 3) := by decide +kernel
theorem dX2_init_24 : decode cX2_init 24 = .ok (.aload_n 0, 1) := by decide +kernel
theorem dX2_init_25 : decode cX2_init 25 = .ok (.lconst 0, 1) := by decide +kernel
theorem dX2_init_26 : decode cX2_init 26 = .ok (.putfield 22, 3) := by decide +kernel
theorem dX2_init_29 : decode cX2_init 29 = .ok (.aload_n 0, 1) := by decide +kernel
theorem dX2_init_30 : decode cX2_init 30 = .ok (.lconst 0, 1) := by decide +kernel
theorem dX2_init_31 : decode cX2_init 31 = .ok (.putfield 25, 3) := by decide +kernel
theorem dX2_init_34 : decode cX2_init 34 = .ok (.return_, 1) := by decide +kernel
theorem dX2_lost_0 : decode cX2_lost 0 = .ok (.aload_n 0, 1) := by decide +kernel
theorem dX2_lost_1 : decode cX2_lost 1 = .ok (.getfield 7, 3) := by decide +kernel
theorem dX2_lost_4 : decode cX2_lost 4 = .ok (.aload_n 0, 1) := by decide +kernel
theorem dX2_lost_5 : decode cX2_lost 5 = .ok (.getfield 13, 3) := by decide +kernel
theorem dX2_lost_8 : decode cX2_lost 8 = .ok (.lsub, 1) := by decide +kernel
theorem dX2_lost_9 : decode cX2_lost 9 = .ok (.aload_n 0, 1) := by decide +kernel
theorem dX2_lost_10 : decode cX2_lost 10 = .ok (.getfield 16, 3) := by decide +kernel
theorem dX2_lost_13 : decode cX2_lost 13 = .ok (.lsub, 1) := by decide +kernel
theorem dX2_lost_14 : decode cX2_lost 14 = .ok (.lreturn, 1) := by decide +kernel
theorem dX3_init_0 : decode cX3_init 0 = .ok (.aload_n 0, 1) := by decide +kernel
theorem dX3_init_1 : decode cX3_init 1 = .ok (.invokespecial 3, 3) := by decide +kernel
theorem dX3_init_4 : decode cX3_init 4 = .ok (.aload_n 0, 1) := by decide +kernel
theorem dX3_init_5 : decode cX3_init 5 = .ok (.iconst 0, 1) := by decide +kernel
theorem dX3_init_6 : decode cX3_init 6 = .ok (.putfield 9, 3) := by decide +kernel
theorem dX3_init_9 : decode cX3_init 9 = .ok (.aload_n 0, 1) := by decide +kernel
theorem dX3_init_10 : decode cX3_init 10 = .ok (.bipush 72, 2) := by decide +kernel
theorem dX3_init_12 : decode cX3_init 12 = .ok (.newarray .int, 2) := by decide +kernel
theorem dX3_init_14 : decode cX3_init 14 = .ok (.putfield 15, 3) := by decide +kernel
theorem dX3_init_17 : decode cX3_init 17 = .ok (.aload_n 0, 1) := by decide +kernel
theorem dX3_init_18 : decode cX3_init 18 = .ok (.sipush 2304, 3) := by decide +kernel
theorem dX3_init_21 : decode cX3_init 21 = .ok (.newarray .int, 2) := by decide +kernel
theorem dX3_init_23 : decode cX3_init 23 = .ok (.putfield 19, 3) := by decide +kernel
theorem dX3_init_26 : decode cX3_init 26 = .ok (.aload_n 0, 1) := by decide +kernel
theorem dX3_init_27 : decode cX3_init 27 = .ok (.bipush 8, 2) := by decide +kernel
theorem dX3_init_29 : decode cX3_init 29 = .ok (.newarray .int, 2) := by decide +kernel
theorem dX3_init_31 : decode cX3_init 31 = .ok (.putfield 22, 3) := by decide +kernel
theorem dX3_init_34 : decode cX3_init 34 = .ok (.return_, 1) := by decide +kernel
theorem dX3_start_0 : decode cX3_start 0 = .ok (.aload_n 0, 1) := by decide +kernel
theorem dX3_start_1 : decode cX3_start 1 = .ok (.iload_n 1, 1) := by decide +kernel
theorem dX3_start_2 : decode cX3_start 2 = .ok (.bipush 8, 2) := by decide +kernel
theorem dX3_start_4 : decode cX3_start 4 = .ok (.invokestatic 25, 3) := by decide +kernel
theorem dX3_start_7 : decode cX3_start 7 = .ok (.putfield 9, 3) := by decide +kernel
theorem dX3_start_10 : decode cX3_start 10 = .ok (.return_, 1) := by decide +kernel
theorem dX3_setFromLatest_0 : decode cX3_setFromLatest 0 = .ok (.aload_n 0, 1) := by decide +kernel
theorem dX3_setFromLatest_1 : decode cX3_setFromLatest 1 = .ok (.getfield 15, 3) := by decide +kernel
theorem dX3_setFromLatest_4 : decode cX3_setFromLatest 4 = .ok (.iload_n 1, 1) := by decide +kernel
theorem dX3_setFromLatest_5 : decode cX3_setFromLatest 5 = .ok (.iload_n 2, 1) := by decide +kernel
theorem dX3_setFromLatest_6 : decode cX3_setFromLatest 6 = .ok (.iastore, 1) := by decide +kernel
theorem dX3_setFromLatest_7 : decode cX3_setFromLatest 7 = .ok (.return_, 1) := by decide +kernel
theorem dX3_setStep_0 : decode cX3_setStep 0 = .ok (.aload_n 0, 1) := by decide +kernel
theorem dX3_setStep_1 : decode cX3_setStep 1 = .ok (.getfield 15, 3) := by decide +kernel
theorem dX3_setStep_4 : decode cX3_setStep 4 = .ok (.iload_n 1, 1) := by decide +kernel
theorem dX3_setStep_5 : decode cX3_setStep 5 = .ok (.iconst 1, 1) := by decide +kernel
theorem dX3_setStep_6 : decode cX3_setStep 6 = .ok (.iadd, 1) := by decide +kernel
theorem dX3_setStep_7 : decode cX3_setStep 7 = .ok (.bipush 8, 2) := by decide +kernel
theorem dX3_setStep_9 : decode cX3_setStep 9 = .ok (.imul, 1) := by decide +kernel
theorem dX3_setStep_10 : decode cX3_setStep 10 = .ok (.iload_n 2, 1) := by decide +kernel
theorem dX3_setStep_11 : decode cX3_setStep 11 = .ok (.iadd, 1) := by decide +kernel
theorem dX3_setStep_12 : decode cX3_setStep 12 = .ok (.iload_n 3, 1) := by decide +kernel
theorem dX3_setStep_13 : decode cX3_setStep 13 = .ok (.iastore, 1) := by decide +kernel
theorem dX3_setStep_14 : decode cX3_setStep 14 = .ok (.return_, 1) := by decide +kernel
theorem dX3_slotAt_0 : decode cX3_slotAt 0 = .ok (.aload_n 0, 1) := by decide +kernel
theorem dX3_slotAt_1 : decode cX3_slotAt 1 = .ok (.getfield 22, 3) := by decide +kernel
theorem dX3_slotAt_4 : decode cX3_slotAt 4 = .ok (.iload_n 1, 1) := by decide +kernel
theorem dX3_slotAt_5 : decode cX3_slotAt 5 = .ok (.iaload, 1) := by decide +kernel
theorem dX3_slotAt_6 : decode cX3_slotAt 6 = .ok (.ireturn, 1) := by decide +kernel
set_option maxRecDepth 20000 in
theorem ggX3_solve_X3_has : GoodIn wsX3_solve wsX3_has := goodIn_r _ [6] (by decide +kernel) (by decide +kernel)
set_option maxRecDepth 20000 in
theorem gX3_solve_X3_has : GoodIn wsX3_solve (va_wsS RX3 31 yX3_has wsX3_has) := goodIn_app (goodIn_of _ (by decide +kernel)) ggX3_solve_X3_has
set_option maxRecDepth 20000 in
theorem ggX3_solve_X3_leastBehind : GoodIn wsX3_solve wsX3_leastBehind := goodIn_r _ [10, 1, 11, 12, 13, 14, 3, 4, 5, 6, 15, 16, 17, 18, 19, 2, 29, 30, 31, 32] (by decide +kernel) (by decide +kernel)
set_option maxRecDepth 20000 in
theorem gX3_solve_X3_leastBehind : GoodIn wsX3_solve (wsV RX3 35 RX3 yX3_leastBehind wsX3_leastBehind) := goodIn_app (goodIn_of _ (by decide +kernel)) ggX3_solve_X3_leastBehind
set_option maxRecDepth 20000 in
theorem ggX3_solve_X3_walk : GoodIn wsX3_solve wsX3_walk := goodIn_r _ [23, 1, 24, 25, 26, 27, 5, 28, 2, 3, 4, 6, 15, 16, 17, 18, 19, 29, 30, 31, 32] (by decide +kernel) (by decide +kernel)
set_option maxRecDepth 20000 in
theorem gX3_solve_X3_walk : GoodIn wsX3_solve (wsV RX3 38 RX3 yX3_walk wsX3_walk) := goodIn_app (goodIn_of _ (by decide +kernel)) ggX3_solve_X3_walk
theorem dX3_solve_0 : decode cX3_solve 0 = .ok (.iconst 1, 1) := by decide +kernel
theorem dX3_solve_1 : decode cX3_solve 1 = .ok (.aload_n 0, 1) := by decide +kernel
theorem dX3_solve_2 : decode cX3_solve 2 = .ok (.getfield 9, 3) := by decide +kernel
theorem dX3_solve_5 : decode cX3_solve 5 = .ok (.ishl, 1) := by decide +kernel
theorem dX3_solve_6 : decode cX3_solve 6 = .ok (.iconst 1, 1) := by decide +kernel
theorem dX3_solve_7 : decode cX3_solve 7 = .ok (.isub, 1) := by decide +kernel
theorem dX3_solve_8 : decode cX3_solve 8 = .ok (.istore_n 1, 1) := by decide +kernel
theorem dX3_solve_9 : decode cX3_solve 9 = .ok (.iconst 0, 1) := by decide +kernel
theorem dX3_solve_10 : decode cX3_solve 10 = .ok (.istore_n 2, 1) := by decide +kernel
theorem dX3_solve_11 : decode cX3_solve 11 = .ok (.iload_n 2, 1) := by decide +kernel
theorem dX3_solve_12 : decode cX3_solve 12 = .ok (.aload_n 0, 1) := by decide +kernel
theorem dX3_solve_13 : decode cX3_solve 13 = .ok (.getfield 9, 3) := by decide +kernel
theorem dX3_solve_16 : decode cX3_solve 16 = .ok (.if_icmp .gt 21, 3) := by decide +kernel
theorem dX3_solve_19 : decode cX3_solve 19 = .ok (.aload_n 0, 1) := by decide +kernel
theorem dX3_solve_20 : decode cX3_solve 20 = .ok (.getfield 19, 3) := by decide +kernel
theorem dX3_solve_23 : decode cX3_solve 23 = .ok (.iload_n 1, 1) := by decide +kernel
theorem dX3_solve_24 : decode cX3_solve 24 = .ok (.bipush 9, 2) := by decide +kernel
theorem dX3_solve_26 : decode cX3_solve 26 = .ok (.imul, 1) := by decide +kernel
theorem dX3_solve_27 : decode cX3_solve 27 = .ok (.iload_n 2, 1) := by decide +kernel
theorem dX3_solve_28 : decode cX3_solve 28 = .ok (.iadd, 1) := by decide +kernel
theorem dX3_solve_29 : decode cX3_solve 29 = .ok (.iconst 0, 1) := by decide +kernel
theorem dX3_solve_30 : decode cX3_solve 30 = .ok (.iastore, 1) := by decide +kernel
theorem dX3_solve_31 : decode cX3_solve 31 = .ok (.iinc 2 1, 3) := by decide +kernel
theorem dX3_solve_34 : decode cX3_solve 34 = .ok (.goto (-23), 3) := by decide +kernel
theorem dX3_solve_37 : decode cX3_solve 37 = .ok (.iload_n 1, 1) := by decide +kernel
theorem dX3_solve_38 : decode cX3_solve 38 = .ok (.iconst 1, 1) := by decide +kernel
theorem dX3_solve_39 : decode cX3_solve 39 = .ok (.isub, 1) := by decide +kernel
theorem dX3_solve_40 : decode cX3_solve 40 = .ok (.istore_n 2, 1) := by decide +kernel
theorem dX3_solve_41 : decode cX3_solve 41 = .ok (.iload_n 2, 1) := by decide +kernel
theorem dX3_solve_42 : decode cX3_solve 42 = .ok (.ifCond .le 54, 3) := by decide +kernel
theorem dX3_solve_45 : decode cX3_solve 45 = .ok (.iconst 0, 1) := by decide +kernel
theorem dX3_solve_46 : decode cX3_solve 46 = .ok (.istore_n 3, 1) := by decide +kernel
theorem dX3_solve_47 : decode cX3_solve 47 = .ok (.iload_n 3, 1) := by decide +kernel
theorem dX3_solve_48 : decode cX3_solve 48 = .ok (.aload_n 0, 1) := by decide +kernel
theorem dX3_solve_49 : decode cX3_solve 49 = .ok (.getfield 9, 3) := by decide +kernel
theorem dX3_solve_52 : decode cX3_solve 52 = .ok (.if_icmp .ge 38, 3) := by decide +kernel
theorem dX3_solve_55 : decode cX3_solve 55 = .ok (.iload_n 2, 1) := by decide +kernel
theorem dX3_solve_56 : decode cX3_solve 56 = .ok (.iload_n 3, 1) := by decide +kernel
theorem dX3_solve_57 : decode cX3_solve 57 = .ok (.invokestatic 31, 3) := by decide +kernel
theorem dX3_solve_60 : decode cX3_solve 60 = .ok (.ifCond .eq 24, 3) := by decide +kernel
theorem dX3_solve_63 : decode cX3_solve 63 = .ok (.aload_n 0, 1) := by decide +kernel
theorem dX3_solve_64 : decode cX3_solve 64 = .ok (.getfield 19, 3) := by decide +kernel
theorem dX3_solve_67 : decode cX3_solve 67 = .ok (.iload_n 2, 1) := by decide +kernel
theorem dX3_solve_68 : decode cX3_solve 68 = .ok (.bipush 9, 2) := by decide +kernel
theorem dX3_solve_70 : decode cX3_solve 70 = .ok (.imul, 1) := by decide +kernel
theorem dX3_solve_71 : decode cX3_solve 71 = .ok (.iload_n 3, 1) := by decide +kernel
theorem dX3_solve_72 : decode cX3_solve 72 = .ok (.iadd, 1) := by decide +kernel
theorem dX3_solve_73 : decode cX3_solve 73 = .ok (.iconst 1, 1) := by decide +kernel
theorem dX3_solve_74 : decode cX3_solve 74 = .ok (.iadd, 1) := by decide +kernel
theorem dX3_solve_75 : decode cX3_solve 75 = .ok (.aload_n 0, 1) := by decide +kernel
theorem dX3_solve_76 : decode cX3_solve 76 = .ok (.iload_n 2, 1) := by decide +kernel
theorem dX3_solve_77 : decode cX3_solve 77 = .ok (.iload_n 3, 1) := by decide +kernel
theorem dX3_solve_78 : decode cX3_solve 78 = .ok (.iconst 1, 1) := by decide +kernel
theorem dX3_solve_79 : decode cX3_solve 79 = .ok (.iadd, 1) := by decide +kernel
theorem dX3_solve_80 : decode cX3_solve 80 = .ok (.invokevirtual 35, 3) := by decide +kernel
theorem dX3_solve_83 : decode cX3_solve 83 = .ok (.iastore, 1) := by decide +kernel
theorem dX3_solve_84 : decode cX3_solve 84 = .ok (.iinc 3 1, 3) := by decide +kernel
theorem dX3_solve_87 : decode cX3_solve 87 = .ok (.goto (-40), 3) := by decide +kernel
theorem dX3_solve_90 : decode cX3_solve 90 = .ok (.iinc 2 (-1), 3) := by decide +kernel
theorem dX3_solve_93 : decode cX3_solve 93 = .ok (.goto (-52), 3) := by decide +kernel
theorem dX3_solve_96 : decode cX3_solve 96 = .ok (.aload_n 0, 1) := by decide +kernel
theorem dX3_solve_97 : decode cX3_solve 97 = .ok (.getfield 9, 3) := by decide +kernel
theorem dX3_solve_100 : decode cX3_solve 100 = .ok (.ifCond .le 15, 3) := by decide +kernel
theorem dX3_solve_103 : decode cX3_solve 103 = .ok (.aload_n 0, 1) := by decide +kernel
theorem dX3_solve_104 : decode cX3_solve 104 = .ok (.getfield 19, 3) := by decide +kernel
theorem dX3_solve_107 : decode cX3_solve 107 = .ok (.iconst 0, 1) := by decide +kernel
theorem dX3_solve_108 : decode cX3_solve 108 = .ok (.aload_n 0, 1) := by decide +kernel
theorem dX3_solve_109 : decode cX3_solve 109 = .ok (.iconst 0, 1) := by decide +kernel
theorem dX3_solve_110 : decode cX3_solve 110 = .ok (.iconst 0, 1) := by decide +kernel
theorem dX3_solve_111 : decode cX3_solve 111 = .ok (.invokevirtual 35, 3) := by decide +kernel
theorem dX3_solve_114 : decode cX3_solve 114 = .ok (.iastore, 1) := by decide +kernel
theorem dX3_solve_115 : decode cX3_solve 115 = .ok (.aload_n 0, 1) := by decide +kernel
theorem dX3_solve_116 : decode cX3_solve 116 = .ok (.invokevirtual 38, 3) := by decide +kernel
theorem dX3_solve_119 : decode cX3_solve 119 = .ok (.aload_n 0, 1) := by decide +kernel
theorem dX3_solve_120 : decode cX3_solve 120 = .ok (.getfield 19, 3) := by decide +kernel
theorem dX3_solve_123 : decode cX3_solve 123 = .ok (.iconst 0, 1) := by decide +kernel
theorem dX3_solve_124 : decode cX3_solve 124 = .ok (.iaload, 1) := by decide +kernel
theorem dX3_solve_125 : decode cX3_solve 125 = .ok (.ireturn, 1) := by decide +kernel
theorem dX3_has_0 : decode cX3_has 0 = .ok (.iload_n 0, 1) := by decide +kernel
theorem dX3_has_1 : decode cX3_has 1 = .ok (.iload_n 1, 1) := by decide +kernel
theorem dX3_has_2 : decode cX3_has 2 = .ok (.ishr, 1) := by decide +kernel
theorem dX3_has_3 : decode cX3_has 3 = .ok (.iconst 1, 1) := by decide +kernel
theorem dX3_has_4 : decode cX3_has 4 = .ok (.iand, 1) := by decide +kernel
theorem dX3_has_5 : decode cX3_has 5 = .ok (.iconst 1, 1) := by decide +kernel
theorem dX3_has_6 : decode cX3_has 6 = .ok (.if_icmp .ne 7, 3) := by decide +kernel
theorem dX3_has_9 : decode cX3_has 9 = .ok (.iconst 1, 1) := by decide +kernel
theorem dX3_has_10 : decode cX3_has 10 = .ok (.goto 4, 3) := by decide +kernel
theorem dX3_has_13 : decode cX3_has 13 = .ok (.iconst 0, 1) := by decide +kernel
theorem dX3_has_14 : decode cX3_has 14 = .ok (.ireturn, 1) := by decide +kernel
theorem dX3_movesBy_0 : decode cX3_movesBy 0 = .ok (.aload_n 0, 1) := by decide +kernel
theorem dX3_movesBy_1 : decode cX3_movesBy 1 = .ok (.getfield 15, 3) := by decide +kernel
theorem dX3_movesBy_4 : decode cX3_movesBy 4 = .ok (.iload_n 2, 1) := by decide +kernel
theorem dX3_movesBy_5 : decode cX3_movesBy 5 = .ok (.bipush 8, 2) := by decide +kernel
theorem dX3_movesBy_7 : decode cX3_movesBy 7 = .ok (.imul, 1) := by decide +kernel
theorem dX3_movesBy_8 : decode cX3_movesBy 8 = .ok (.iload_n 3, 1) := by decide +kernel
theorem dX3_movesBy_9 : decode cX3_movesBy 9 = .ok (.iadd, 1) := by decide +kernel
theorem dX3_movesBy_10 : decode cX3_movesBy 10 = .ok (.iaload, 1) := by decide +kernel
theorem dX3_movesBy_11 : decode cX3_movesBy 11 = .ok (.aload_n 0, 1) := by decide +kernel
theorem dX3_movesBy_12 : decode cX3_movesBy 12 = .ok (.getfield 19, 3) := by decide +kernel
theorem dX3_movesBy_15 : decode cX3_movesBy 15 = .ok (.iload_n 1, 1) := by decide +kernel
theorem dX3_movesBy_16 : decode cX3_movesBy 16 = .ok (.iconst 1, 1) := by decide +kernel
theorem dX3_movesBy_17 : decode cX3_movesBy 17 = .ok (.iload_n 3, 1) := by decide +kernel
theorem dX3_movesBy_18 : decode cX3_movesBy 18 = .ok (.ishl, 1) := by decide +kernel
theorem dX3_movesBy_19 : decode cX3_movesBy 19 = .ok (.ior, 1) := by decide +kernel
theorem dX3_movesBy_20 : decode cX3_movesBy 20 = .ok (.bipush 9, 2) := by decide +kernel
theorem dX3_movesBy_22 : decode cX3_movesBy 22 = .ok (.imul, 1) := by decide +kernel
theorem dX3_movesBy_23 : decode cX3_movesBy 23 = .ok (.iload_n 3, 1) := by decide +kernel
theorem dX3_movesBy_24 : decode cX3_movesBy 24 = .ok (.iadd, 1) := by decide +kernel
theorem dX3_movesBy_25 : decode cX3_movesBy 25 = .ok (.iconst 1, 1) := by decide +kernel
theorem dX3_movesBy_26 : decode cX3_movesBy 26 = .ok (.iadd, 1) := by decide +kernel
theorem dX3_movesBy_27 : decode cX3_movesBy 27 = .ok (.iaload, 1) := by decide +kernel
theorem dX3_movesBy_28 : decode cX3_movesBy 28 = .ok (.iadd, 1) := by decide +kernel
theorem dX3_movesBy_29 : decode cX3_movesBy 29 = .ok (.ireturn, 1) := by decide +kernel
set_option maxRecDepth 20000 in
theorem ggX3_leastBehind_X3_has : GoodIn wsX3_leastBehind wsX3_has := goodIn_r _ [9] (by decide +kernel) (by decide +kernel)
set_option maxRecDepth 20000 in
theorem gX3_leastBehind_X3_has : GoodIn wsX3_leastBehind (va_wsS RX3 31 yX3_has wsX3_has) := goodIn_app (goodIn_of _ (by decide +kernel)) ggX3_leastBehind_X3_has
set_option maxRecDepth 20000 in
theorem ggX3_leastBehind_X3_movesBy : GoodIn wsX3_leastBehind wsX3_movesBy := goodIn_r _ [13, 14, 15, 16, 17, 18, 19] (by decide +kernel) (by decide +kernel)
set_option maxRecDepth 20000 in
theorem gX3_leastBehind_X3_movesBy : GoodIn wsX3_leastBehind (wsV RX3 41 RX3 yX3_movesBy wsX3_movesBy) := goodIn_app (goodIn_of _ (by decide +kernel)) ggX3_leastBehind_X3_movesBy
theorem dX3_leastBehind_0 : decode cX3_leastBehind 0 = .ok (.sipush 169, 3) := by decide +kernel
theorem dX3_leastBehind_3 : decode cX3_leastBehind 3 = .ok (.istore_n 3, 1) := by decide +kernel
theorem dX3_leastBehind_4 : decode cX3_leastBehind 4 = .ok (.iconst 0, 1) := by decide +kernel
theorem dX3_leastBehind_5 : decode cX3_leastBehind 5 = .ok (.istore 4, 2) := by decide +kernel
theorem dX3_leastBehind_7 : decode cX3_leastBehind 7 = .ok (.iload 4, 2) := by decide +kernel
theorem dX3_leastBehind_9 : decode cX3_leastBehind 9 = .ok (.aload_n 0, 1) := by decide +kernel
theorem dX3_leastBehind_10 : decode cX3_leastBehind 10 = .ok (.getfield 9, 3) := by decide +kernel
theorem dX3_leastBehind_13 : decode cX3_leastBehind 13 = .ok (.if_icmp .ge 31, 3) := by decide +kernel
theorem dX3_leastBehind_16 : decode cX3_leastBehind 16 = .ok (.iload_n 1, 1) := by decide +kernel
theorem dX3_leastBehind_17 : decode cX3_leastBehind 17 = .ok (.iload 4, 2) := by decide +kernel
theorem dX3_leastBehind_19 : decode cX3_leastBehind 19 = .ok (.invokestatic 31, 3) := by decide +kernel
theorem dX3_leastBehind_22 : decode cX3_leastBehind 22 = .ok (.ifCond .ne 16, 3) := by decide +kernel
theorem dX3_leastBehind_25 : decode cX3_leastBehind 25 = .ok (.iload_n 3, 1) := by decide +kernel
theorem dX3_leastBehind_26 : decode cX3_leastBehind 26 = .ok (.aload_n 0, 1) := by decide +kernel
theorem dX3_leastBehind_27 : decode cX3_leastBehind 27 = .ok (.iload_n 1, 1) := by decide +kernel
theorem dX3_leastBehind_28 : decode cX3_leastBehind 28 = .ok (.iload_n 2, 1) := by decide +kernel
theorem dX3_leastBehind_29 : decode cX3_leastBehind 29 = .ok (.iload 4, 2) := by decide +kernel
theorem dX3_leastBehind_31 : decode cX3_leastBehind 31 = .ok (.invokevirtual 41, 3) := by decide +kernel
theorem dX3_leastBehind_34 : decode cX3_leastBehind 34 = .ok (.invokestatic 25, 3) := by decide +kernel
theorem dX3_leastBehind_37 : decode cX3_leastBehind 37 = .ok (.istore_n 3, 1) := by decide +kernel
theorem dX3_leastBehind_38 : decode cX3_leastBehind 38 = .ok (.iinc 4 1, 3) := by decide +kernel
theorem dX3_leastBehind_41 : decode cX3_leastBehind 41 = .ok (.goto (-34), 3) := by decide +kernel
theorem dX3_leastBehind_44 : decode cX3_leastBehind 44 = .ok (.iload_n 3, 1) := by decide +kernel
theorem dX3_leastBehind_45 : decode cX3_leastBehind 45 = .ok (.ireturn, 1) := by decide +kernel
set_option maxRecDepth 20000 in
theorem ggX3_walk_X3_lowestOf : GoodIn wsX3_walk wsX3_lowestOf := goodIn_r _ [7, 1, 8, 9, 10, 6, 11, 12, 13, 14, 15, 16, 17, 18, 19, 20] (by decide +kernel) (by decide +kernel)
set_option maxRecDepth 20000 in
theorem gX3_walk_X3_lowestOf : GoodIn wsX3_walk (wsV RX3 45 RX3 yX3_lowestOf wsX3_lowestOf) := goodIn_app (goodIn_of _ (by decide +kernel)) ggX3_walk_X3_lowestOf
theorem dX3_walk_0 : decode cX3_walk 0 = .ok (.iconst 0, 1) := by decide +kernel
theorem dX3_walk_1 : decode cX3_walk 1 = .ok (.istore_n 1, 1) := by decide +kernel
theorem dX3_walk_2 : decode cX3_walk 2 = .ok (.iconst 0, 1) := by decide +kernel
theorem dX3_walk_3 : decode cX3_walk 3 = .ok (.istore_n 2, 1) := by decide +kernel
theorem dX3_walk_4 : decode cX3_walk 4 = .ok (.iconst 0, 1) := by decide +kernel
theorem dX3_walk_5 : decode cX3_walk 5 = .ok (.istore_n 3, 1) := by decide +kernel
theorem dX3_walk_6 : decode cX3_walk 6 = .ok (.iload_n 3, 1) := by decide +kernel
theorem dX3_walk_7 : decode cX3_walk 7 = .ok (.aload_n 0, 1) := by decide +kernel
theorem dX3_walk_8 : decode cX3_walk 8 = .ok (.getfield 9, 3) := by decide +kernel
theorem dX3_walk_11 : decode cX3_walk 11 = .ok (.if_icmp .ge 37, 3) := by decide +kernel
theorem dX3_walk_14 : decode cX3_walk 14 = .ok (.aload_n 0, 1) := by decide +kernel
theorem dX3_walk_15 : decode cX3_walk 15 = .ok (.iload_n 1, 1) := by decide +kernel
theorem dX3_walk_16 : decode cX3_walk 16 = .ok (.iload_n 2, 1) := by decide +kernel
theorem dX3_walk_17 : decode cX3_walk 17 = .ok (.invokevirtual 45, 3) := by decide +kernel
theorem dX3_walk_20 : decode cX3_walk 20 = .ok (.istore 4, 2) := by decide +kernel
theorem dX3_walk_22 : decode cX3_walk 22 = .ok (.aload_n 0, 1) := by decide +kernel
theorem dX3_walk_23 : decode cX3_walk 23 = .ok (.getfield 22, 3) := by decide +kernel
theorem dX3_walk_26 : decode cX3_walk 26 = .ok (.iload_n 3, 1) := by decide +kernel
theorem dX3_walk_27 : decode cX3_walk 27 = .ok (.iload 4, 2) := by decide +kernel
theorem dX3_walk_29 : decode cX3_walk 29 = .ok (.iastore, 1) := by decide +kernel
theorem dX3_walk_30 : decode cX3_walk 30 = .ok (.iload_n 1, 1) := by decide +kernel
theorem dX3_walk_31 : decode cX3_walk 31 = .ok (.iconst 1, 1) := by decide +kernel
theorem dX3_walk_32 : decode cX3_walk 32 = .ok (.iload 4, 2) := by decide +kernel
theorem dX3_walk_34 : decode cX3_walk 34 = .ok (.ishl, 1) := by decide +kernel
theorem dX3_walk_35 : decode cX3_walk 35 = .ok (.ior, 1) := by decide +kernel
theorem dX3_walk_36 : decode cX3_walk 36 = .ok (.istore_n 1, 1) := by decide +kernel
theorem dX3_walk_37 : decode cX3_walk 37 = .ok (.iload 4, 2) := by decide +kernel
theorem dX3_walk_39 : decode cX3_walk 39 = .ok (.iconst 1, 1) := by decide +kernel
theorem dX3_walk_40 : decode cX3_walk 40 = .ok (.iadd, 1) := by decide +kernel
theorem dX3_walk_41 : decode cX3_walk 41 = .ok (.istore_n 2, 1) := by decide +kernel
theorem dX3_walk_42 : decode cX3_walk 42 = .ok (.iinc 3 1, 3) := by decide +kernel
theorem dX3_walk_45 : decode cX3_walk 45 = .ok (.goto (-39), 3) := by decide +kernel
theorem dX3_walk_48 : decode cX3_walk 48 = .ok (.return_, 1) := by decide +kernel
set_option maxRecDepth 20000 in
theorem ggX3_lowestOf_X3_has : GoodIn wsX3_lowestOf wsX3_has := goodIn_r _ [6] (by decide +kernel) (by decide +kernel)
set_option maxRecDepth 20000 in
theorem gX3_lowestOf_X3_has : GoodIn wsX3_lowestOf (va_wsS RX3 31 yX3_has wsX3_has) := goodIn_app (goodIn_of _ (by decide +kernel)) ggX3_lowestOf_X3_has
set_option maxRecDepth 20000 in
theorem ggX3_lowestOf_X3_movesBy : GoodIn wsX3_lowestOf wsX3_movesBy := goodIn_r _ [10, 11, 2, 12, 13, 14, 15] (by decide +kernel) (by decide +kernel)
set_option maxRecDepth 20000 in
theorem gX3_lowestOf_X3_movesBy : GoodIn wsX3_lowestOf (wsV RX3 41 RX3 yX3_movesBy wsX3_movesBy) := goodIn_app (goodIn_of _ (by decide +kernel)) ggX3_lowestOf_X3_movesBy
theorem dX3_lowestOf_0 : decode cX3_lowestOf 0 = .ok (.iconst 0, 1) := by decide +kernel
theorem dX3_lowestOf_1 : decode cX3_lowestOf 1 = .ok (.istore_n 3, 1) := by decide +kernel
theorem dX3_lowestOf_2 : decode cX3_lowestOf 2 = .ok (.iload_n 3, 1) := by decide +kernel
theorem dX3_lowestOf_3 : decode cX3_lowestOf 3 = .ok (.aload_n 0, 1) := by decide +kernel
theorem dX3_lowestOf_4 : decode cX3_lowestOf 4 = .ok (.getfield 9, 3) := by decide +kernel
theorem dX3_lowestOf_7 : decode cX3_lowestOf 7 = .ok (.if_icmp .ge 40, 3) := by decide +kernel
theorem dX3_lowestOf_10 : decode cX3_lowestOf 10 = .ok (.iload_n 1, 1) := by decide +kernel
theorem dX3_lowestOf_11 : decode cX3_lowestOf 11 = .ok (.iload_n 3, 1) := by decide +kernel
theorem dX3_lowestOf_12 : decode cX3_lowestOf 12 = .ok (.invokestatic 31, 3) := by decide +kernel
theorem dX3_lowestOf_15 : decode cX3_lowestOf 15 = .ok (.ifCond .ne 26, 3) := by decide +kernel
theorem dX3_lowestOf_18 : decode cX3_lowestOf 18 = .ok (.aload_n 0, 1) := by decide +kernel
theorem dX3_lowestOf_19 : decode cX3_lowestOf 19 = .ok (.iload_n 1, 1) := by decide +kernel
theorem dX3_lowestOf_20 : decode cX3_lowestOf 20 = .ok (.iload_n 2, 1) := by decide +kernel
theorem dX3_lowestOf_21 : decode cX3_lowestOf 21 = .ok (.iload_n 3, 1) := by decide +kernel
theorem dX3_lowestOf_22 : decode cX3_lowestOf 22 = .ok (.invokevirtual 41, 3) := by decide +kernel
theorem dX3_lowestOf_25 : decode cX3_lowestOf 25 = .ok (.aload_n 0, 1) := by decide +kernel
theorem dX3_lowestOf_26 : decode cX3_lowestOf 26 = .ok (.getfield 19, 3) := by decide +kernel
theorem dX3_lowestOf_29 : decode cX3_lowestOf 29 = .ok (.iload_n 1, 1) := by decide +kernel
theorem dX3_lowestOf_30 : decode cX3_lowestOf 30 = .ok (.bipush 9, 2) := by decide +kernel
theorem dX3_lowestOf_32 : decode cX3_lowestOf 32 = .ok (.imul, 1) := by decide +kernel
theorem dX3_lowestOf_33 : decode cX3_lowestOf 33 = .ok (.iload_n 2, 1) := by decide +kernel
theorem dX3_lowestOf_34 : decode cX3_lowestOf 34 = .ok (.iadd, 1) := by decide +kernel
theorem dX3_lowestOf_35 : decode cX3_lowestOf 35 = .ok (.iaload, 1) := by decide +kernel
theorem dX3_lowestOf_36 : decode cX3_lowestOf 36 = .ok (.if_icmp .ne 5, 3) := by decide +kernel
theorem dX3_lowestOf_39 : decode cX3_lowestOf 39 = .ok (.iload_n 3, 1) := by decide +kernel
theorem dX3_lowestOf_40 : decode cX3_lowestOf 40 = .ok (.ireturn, 1) := by decide +kernel
theorem dX3_lowestOf_41 : decode cX3_lowestOf 41 = .ok (.iinc 3 1, 3) := by decide +kernel
theorem dX3_lowestOf_44 : decode cX3_lowestOf 44 = .ok (.goto (-42), 3) := by decide +kernel
theorem dX3_lowestOf_47 : decode cX3_lowestOf 47 = .ok (.iconst 0, 1) := by decide +kernel
theorem dX3_lowestOf_48 : decode cX3_lowestOf 48 = .ok (.ireturn, 1) := by decide +kernel
theorem dX4_init_0 : decode cX4_init 0 = .ok (.aload_n 0, 1) := by decide +kernel
theorem dX4_init_1 : decode cX4_init 1 = .ok (.invokespecial 3, 3) := by decide +kernel
theorem dX4_init_4 : decode cX4_init 4 = .ok (.aload_n 0, 1) := by decide +kernel
theorem dX4_init_5 : decode cX4_init 5 = .ok (.sipush 1000, 3) := by decide +kernel
theorem dX4_init_8 : decode cX4_init 8 = .ok (.putfield 9, 3) := by decide +kernel
theorem dX4_init_11 : decode cX4_init 11 = .ok (.aload_n 0, 1) := by decide +kernel
theorem dX4_init_12 : decode cX4_init 12 = .ok (.iconst 0, 1) := by decide +kernel
theorem dX4_init_13 : decode cX4_init 13 = .ok (.putfield 15, 3) := by decide +kernel
theorem dX4_init_16 : decode cX4_init 16 = .ok (.aload_n 0, 1) := by decide +kernel
theorem dX4_init_17 : decode cX4_init 17 = .ok (.bipush 10, 2) := by decide +kernel
theorem dX4_init_19 : decode cX4_init 19 = .ok (.putfield 18, 3) := by decide +kernel
theorem dX4_init_22 : decode cX4_init 22 = .ok (.aload_n 0, 1) := by decide +kernel
theorem dX4_init_23 : decode cX4_init 23 = .ok (.iconst 0, 1) := by decide +kernel
theorem dX4_init_24 : decode cX4_init 24 = .ok (.putfield 21, 3) := by decide +kernel
theorem dX4_init_27 : decode cX4_init 27 = .ok (.aload_n 0, 1) := by decide +kernel
theorem dX4_init_28 : decode cX4_init 28 = .ok (.iconst 0, 1) := by decide +kernel
theorem dX4_init_29 : decode cX4_init 29 = .ok (.putfield 24, 3) := by decide +kernel
theorem dX4_init_32 : decode cX4_init 32 = .ok (.aload_n 0, 1) := by decide +kernel
theorem dX4_init_33 : decode cX4_init 33 = .ok (.iconst 0, 1) := by decide +kernel
theorem dX4_init_34 : decode cX4_init 34 = .ok (.putfield 27, 3) := by decide +kernel
theorem dX4_init_37 : decode cX4_init 37 = .ok (.aload_n 0, 1) := by decide +kernel
theorem dX4_init_38 : decode cX4_init 38 = .ok (.bipush 6, 2) := by decide +kernel
theorem dX4_init_40 : decode cX4_init 40 = .ok (.newarray .int, 2) := by decide +kernel
theorem dX4_init_42 : decode cX4_init 42 = .ok (.putfield 30, 3) := by decide +kernel
theorem dX4_init_45 : decode cX4_init 45 = .ok (.aload_n 0, 1) := by decide +kernel
theorem dX4_init_46 : decode cX4_init 46 = .ok (.bipush 6, 2) := by decide +kernel
theorem dX4_init_48 : decode cX4_init 48 = .ok (.newarray .int, 2) := by decide +kernel
theorem dX4_init_50 : decode cX4_init 50 = .ok (.putfield 34, 3) := by decide +kernel
theorem dX4_init_53 : decode cX4_init 53 = .ok (.return_, 1) := by decide +kernel
theorem dX4_become_0 : decode cX4_become 0 = .ok (.aload_n 0, 1) := by decide +kernel
theorem dX4_become_1 : decode cX4_become 1 = .ok (.iload_n 1, 1) := by decide +kernel
theorem dX4_become_2 : decode cX4_become 2 = .ok (.putfield 9, 3) := by decide +kernel
theorem dX4_become_5 : decode cX4_become 5 = .ok (.aload_n 0, 1) := by decide +kernel
theorem dX4_become_6 : decode cX4_become 6 = .ok (.iload_n 2, 1) := by decide +kernel
theorem dX4_become_7 : decode cX4_become 7 = .ok (.putfield 15, 3) := by decide +kernel
theorem dX4_become_10 : decode cX4_become 10 = .ok (.aload_n 0, 1) := by decide +kernel
theorem dX4_become_11 : decode cX4_become 11 = .ok (.iload_n 3, 1) := by decide +kernel
theorem dX4_become_12 : decode cX4_become 12 = .ok (.putfield 18, 3) := by decide +kernel
theorem dX4_become_15 : decode cX4_become 15 = .ok (.aload_n 0, 1) := by decide +kernel
theorem dX4_become_16 : decode cX4_become 16 = .ok (.iconst 0, 1) := by decide +kernel
theorem dX4_become_17 : decode cX4_become 17 = .ok (.putfield 21, 3) := by decide +kernel
theorem dX4_become_20 : decode cX4_become 20 = .ok (.aload_n 0, 1) := by decide +kernel
theorem dX4_become_21 : decode cX4_become 21 = .ok (.iconst 0, 1) := by decide +kernel
theorem dX4_become_22 : decode cX4_become 22 = .ok (.putfield 24, 3) := by decide +kernel
theorem dX4_become_25 : decode cX4_become 25 = .ok (.return_, 1) := by decide +kernel
theorem dX4_isWidth_0 : decode cX4_isWidth 0 = .ok (.iload_n 1, 1) := by decide +kernel
theorem dX4_isWidth_1 : decode cX4_isWidth 1 = .ok (.ifCond .lt 15, 3) := by decide +kernel
theorem dX4_isWidth_4 : decode cX4_isWidth 4 = .ok (.iload_n 1, 1) := by decide +kernel
theorem dX4_isWidth_5 : decode cX4_isWidth 5 = .ok (.aload_n 0, 1) := by decide +kernel
theorem dX4_isWidth_6 : decode cX4_isWidth 6 = .ok (.getfield 27, 3) := by decide +kernel
theorem dX4_isWidth_9 : decode cX4_isWidth 9 = .ok (.if_icmp .ge 7, 3) := by decide +kernel
theorem dX4_isWidth_12 : decode cX4_isWidth 12 = .ok (.iconst 1, 1) := by decide +kernel
theorem dX4_isWidth_13 : decode cX4_isWidth 13 = .ok (.goto 4, 3) := by decide +kernel
theorem dX4_isWidth_16 : decode cX4_isWidth 16 = .ok (.iconst 0, 1) := by decide +kernel
theorem dX4_isWidth_17 : decode cX4_isWidth 17 = .ok (.ireturn, 1) := by decide +kernel
theorem dX4_hasWidthOf_0 : decode cX4_hasWidthOf 0 = .ok (.iconst 0, 1) := by decide +kernel
theorem dX4_hasWidthOf_1 : decode cX4_hasWidthOf 1 = .ok (.istore_n 2, 1) := by decide +kernel
theorem dX4_hasWidthOf_2 : decode cX4_hasWidthOf 2 = .ok (.iload_n 2, 1) := by decide +kernel
theorem dX4_hasWidthOf_3 : decode cX4_hasWidthOf 3 = .ok (.aload_n 0, 1) := by decide +kernel
theorem dX4_hasWidthOf_4 : decode cX4_hasWidthOf 4 = .ok (.getfield 27, 3) := by decide +kernel
theorem dX4_hasWidthOf_7 : decode cX4_hasWidthOf 7 = .ok (.if_icmp .ge 21, 3) := by decide +kernel
theorem dX4_hasWidthOf_10 : decode cX4_hasWidthOf 10 = .ok (.aload_n 0, 1) := by decide +kernel
theorem dX4_hasWidthOf_11 : decode cX4_hasWidthOf 11 = .ok (.getfield 30, 3) := by decide +kernel
theorem dX4_hasWidthOf_14 : decode cX4_hasWidthOf 14 = .ok (.iload_n 2, 1) := by decide +kernel
theorem dX4_hasWidthOf_15 : decode cX4_hasWidthOf 15 = .ok (.iaload, 1) := by decide +kernel
theorem dX4_hasWidthOf_16 : decode cX4_hasWidthOf 16 = .ok (.iload_n 1, 1) := by decide +kernel
theorem dX4_hasWidthOf_17 : decode cX4_hasWidthOf 17 = .ok (.if_icmp .ne 5, 3) := by decide +kernel
theorem dX4_hasWidthOf_20 : decode cX4_hasWidthOf 20 = .ok (.iconst 1, 1) := by decide +kernel
theorem dX4_hasWidthOf_21 : decode cX4_hasWidthOf 21 = .ok (.ireturn, 1) := by decide +kernel
theorem dX4_hasWidthOf_22 : decode cX4_hasWidthOf 22 = .ok (.iinc 2 1, 3) := by decide +kernel
theorem dX4_hasWidthOf_25 : decode cX4_hasWidthOf 25 = .ok (.goto (-23), 3) := by decide +kernel
theorem dX4_hasWidthOf_28 : decode cX4_hasWidthOf 28 = .ok (.iconst 0, 1) := by decide +kernel
theorem dX4_hasWidthOf_29 : decode cX4_hasWidthOf 29 = .ok (.ireturn, 1) := by decide +kernel
theorem dX4_widest_0 : decode cX4_widest 0 = .ok (.aload_n 0, 1) := by decide +kernel
theorem dX4_widest_1 : decode cX4_widest 1 = .ok (.getfield 27, 3) := by decide +kernel
theorem dX4_widest_4 : decode cX4_widest 4 = .ok (.ifCond .ne 7, 3) := by decide +kernel
theorem dX4_widest_7 : decode cX4_widest 7 = .ok (.iconst 0, 1) := by decide +kernel
theorem dX4_widest_8 : decode cX4_widest 8 = .ok (.goto 14, 3) := by decide +kernel
theorem dX4_widest_11 : decode cX4_widest 11 = .ok (.aload_n 0, 1) := by decide +kernel
theorem dX4_widest_12 : decode cX4_widest 12 = .ok (.getfield 30, 3) := by decide +kernel
theorem dX4_widest_15 : decode cX4_widest 15 = .ok (.aload_n 0, 1) := by decide +kernel
theorem dX4_widest_16 : decode cX4_widest 16 = .ok (.getfield 34, 3) := by decide +kernel
theorem dX4_widest_19 : decode cX4_widest 19 = .ok (.iconst 0, 1) := by decide +kernel
theorem dX4_widest_20 : decode cX4_widest 20 = .ok (.iaload, 1) := by decide +kernel
theorem dX4_widest_21 : decode cX4_widest 21 = .ok (.iaload, 1) := by decide +kernel
theorem dX4_widest_22 : decode cX4_widest 22 = .ok (.ireturn, 1) := by decide +kernel
theorem dX4_addWidth_0 : decode cX4_addWidth 0 = .ok (.aload_n 0, 1) := by decide +kernel
theorem dX4_addWidth_1 : decode cX4_addWidth 1 = .ok (.getfield 27, 3) := by decide +kernel
theorem dX4_addWidth_4 : decode cX4_addWidth 4 = .ok (.istore_n 2, 1) := by decide +kernel
theorem dX4_addWidth_5 : decode cX4_addWidth 5 = .ok (.iload_n 2, 1) := by decide +kernel
theorem dX4_addWidth_6 : decode cX4_addWidth 6 = .ok (.istore_n 3, 1) := by decide +kernel
theorem dX4_addWidth_7 : decode cX4_addWidth 7 = .ok (.iload_n 3, 1) := by decide +kernel
theorem dX4_addWidth_8 : decode cX4_addWidth 8 = .ok (.ifCond .le 40, 3) := by decide +kernel
theorem dX4_addWidth_11 : decode cX4_addWidth 11 = .ok (.aload_n 0, 1) := by decide +kernel
theorem dX4_addWidth_12 : decode cX4_addWidth 12 = .ok (.getfield 30, 3) := by decide +kernel
theorem dX4_addWidth_15 : decode cX4_addWidth 15 = .ok (.aload_n 0, 1) := by decide +kernel
theorem dX4_addWidth_16 : decode cX4_addWidth 16 = .ok (.getfield 34, 3) := by decide +kernel
theorem dX4_addWidth_19 : decode cX4_addWidth 19 = .ok (.iload_n 3, 1) := by decide +kernel
theorem dX4_addWidth_20 : decode cX4_addWidth 20 = .ok (.iconst 1, 1) := by decide +kernel
theorem dX4_addWidth_21 : decode cX4_addWidth 21 = .ok (.isub, 1) := by decide +kernel
theorem dX4_addWidth_22 : decode cX4_addWidth 22 = .ok (.iaload, 1) := by decide +kernel
theorem dX4_addWidth_23 : decode cX4_addWidth 23 = .ok (.iaload, 1) := by decide +kernel
theorem dX4_addWidth_24 : decode cX4_addWidth 24 = .ok (.iload_n 1, 1) := by decide +kernel
theorem dX4_addWidth_25 : decode cX4_addWidth 25 = .ok (.if_icmp .ge 23, 3) := by decide +kernel
theorem dX4_addWidth_28 : decode cX4_addWidth 28 = .ok (.aload_n 0, 1) := by decide +kernel
theorem dX4_addWidth_29 : decode cX4_addWidth 29 = .ok (.getfield 34, 3) := by decide +kernel
theorem dX4_addWidth_32 : decode cX4_addWidth 32 = .ok (.iload_n 3, 1) := by decide +kernel
theorem dX4_addWidth_33 : decode cX4_addWidth 33 = .ok (.aload_n 0, 1) := by decide +kernel
theorem dX4_addWidth_34 : decode cX4_addWidth 34 = .ok (.getfield 34, 3) := by decide +kernel
theorem dX4_addWidth_37 : decode cX4_addWidth 37 = .ok (.iload_n 3, 1) := by decide +kernel
theorem dX4_addWidth_38 : decode cX4_addWidth 38 = .ok (.iconst 1, 1) := by decide +kernel
theorem dX4_addWidth_39 : decode cX4_addWidth 39 = .ok (.isub, 1) := by decide +kernel
theorem dX4_addWidth_40 : decode cX4_addWidth 40 = .ok (.iaload, 1) := by decide +kernel
theorem dX4_addWidth_41 : decode cX4_addWidth 41 = .ok (.iastore, 1) := by decide +kernel
theorem dX4_addWidth_42 : decode cX4_addWidth 42 = .ok (.iinc 3 (-1), 3) := by decide +kernel
theorem dX4_addWidth_45 : decode cX4_addWidth 45 = .ok (.goto (-38), 3) := by decide +kernel
theorem dX4_addWidth_48 : decode cX4_addWidth 48 = .ok (.aload_n 0, 1) := by decide +kernel
theorem dX4_addWidth_49 : decode cX4_addWidth 49 = .ok (.getfield 34, 3) := by decide +kernel
theorem dX4_addWidth_52 : decode cX4_addWidth 52 = .ok (.iload_n 3, 1) := by decide +kernel
theorem dX4_addWidth_53 : decode cX4_addWidth 53 = .ok (.iload_n 2, 1) := by decide +kernel
theorem dX4_addWidth_54 : decode cX4_addWidth 54 = .ok (.iastore, 1) := by decide +kernel
theorem dX4_addWidth_55 : decode cX4_addWidth 55 = .ok (.aload_n 0, 1) := by decide +kernel
theorem dX4_addWidth_56 : decode cX4_addWidth 56 = .ok (.getfield 30, 3) := by decide +kernel
theorem dX4_addWidth_59 : decode cX4_addWidth 59 = .ok (.iload_n 2, 1) := by decide +kernel
theorem dX4_addWidth_60 : decode cX4_addWidth 60 = .ok (.iload_n 1, 1) := by decide +kernel
theorem dX4_addWidth_61 : decode cX4_addWidth 61 = .ok (.iastore, 1) := by decide +kernel
theorem dX4_addWidth_62 : decode cX4_addWidth 62 = .ok (.aload_n 0, 1) := by decide +kernel
theorem dX4_addWidth_63 : decode cX4_addWidth 63 = .ok (.dup, 1) := by decide +kernel
theorem dX4_addWidth_64 : decode cX4_addWidth 64 = .ok (.getfield 27, 3) := by decide +kernel
theorem dX4_addWidth_67 : decode cX4_addWidth 67 = .ok (.iconst 1, 1) := by decide +kernel
theorem dX4_addWidth_68 : decode cX4_addWidth 68 = .ok (.iadd, 1) := by decide +kernel
theorem dX4_addWidth_69 : decode cX4_addWidth 69 = .ok (.putfield 27, 3) := by decide +kernel
theorem dX4_addWidth_72 : decode cX4_addWidth 72 = .ok (.iload_n 2, 1) := by decide +kernel
theorem dX4_addWidth_73 : decode cX4_addWidth 73 = .ok (.ireturn, 1) := by decide +kernel
theorem dX4_room_0 : decode cX4_room 0 = .ok (.aload_n 0, 1) := by decide +kernel
theorem dX4_room_1 : decode cX4_room 1 = .ok (.getfield 9, 3) := by decide +kernel
theorem dX4_room_4 : decode cX4_room 4 = .ok (.iconst 2, 1) := by decide +kernel
theorem dX4_room_5 : decode cX4_room 5 = .ok (.aload_n 0, 1) := by decide +kernel
theorem dX4_room_6 : decode cX4_room 6 = .ok (.getfield 15, 3) := by decide +kernel
theorem dX4_room_9 : decode cX4_room 9 = .ok (.imul, 1) := by decide +kernel
theorem dX4_room_10 : decode cX4_room 10 = .ok (.isub, 1) := by decide +kernel
theorem dX4_room_11 : decode cX4_room 11 = .ok (.ireturn, 1) := by decide +kernel
set_option maxRecDepth 20000 in
theorem ggX4_spanOf_X0_ofWidth : GoodIn wsX4_spanOf wsX0_ofWidth := goodIn_r _ [6] (by decide +kernel) (by decide +kernel)
set_option maxRecDepth 20000 in
theorem gX4_spanOf_X0_ofWidth : GoodIn wsX4_spanOf (va_wsS RX4 37 yX0_ofWidth wsX0_ofWidth) := goodIn_app (goodIn_of _ (by decide +kernel)) ggX4_spanOf_X0_ofWidth
theorem dX4_spanOf_0 : decode cX4_spanOf 0 = .ok (.iconst 0, 1) := by decide +kernel
theorem dX4_spanOf_1 : decode cX4_spanOf 1 = .ok (.istore_n 2, 1) := by decide +kernel
theorem dX4_spanOf_2 : decode cX4_spanOf 2 = .ok (.iconst 0, 1) := by decide +kernel
theorem dX4_spanOf_3 : decode cX4_spanOf 3 = .ok (.istore_n 3, 1) := by decide +kernel
theorem dX4_spanOf_4 : decode cX4_spanOf 4 = .ok (.iload_n 3, 1) := by decide +kernel
theorem dX4_spanOf_5 : decode cX4_spanOf 5 = .ok (.aload_n 0, 1) := by decide +kernel
theorem dX4_spanOf_6 : decode cX4_spanOf 6 = .ok (.getfield 27, 3) := by decide +kernel
theorem dX4_spanOf_9 : decode cX4_spanOf 9 = .ok (.if_icmp .ge 24, 3) := by decide +kernel
theorem dX4_spanOf_12 : decode cX4_spanOf 12 = .ok (.iload_n 2, 1) := by decide +kernel
theorem dX4_spanOf_13 : decode cX4_spanOf 13 = .ok (.iload_n 1, 1) := by decide +kernel
theorem dX4_spanOf_14 : decode cX4_spanOf 14 = .ok (.iload_n 3, 1) := by decide +kernel
theorem dX4_spanOf_15 : decode cX4_spanOf 15 = .ok (.invokestatic 37, 3) := by decide +kernel
theorem dX4_spanOf_18 : decode cX4_spanOf 18 = .ok (.aload_n 0, 1) := by decide +kernel
theorem dX4_spanOf_19 : decode cX4_spanOf 19 = .ok (.getfield 30, 3) := by decide +kernel
theorem dX4_spanOf_22 : decode cX4_spanOf 22 = .ok (.iload_n 3, 1) := by decide +kernel
theorem dX4_spanOf_23 : decode cX4_spanOf 23 = .ok (.iaload, 1) := by decide +kernel
theorem dX4_spanOf_24 : decode cX4_spanOf 24 = .ok (.imul, 1) := by decide +kernel
theorem dX4_spanOf_25 : decode cX4_spanOf 25 = .ok (.iadd, 1) := by decide +kernel
theorem dX4_spanOf_26 : decode cX4_spanOf 26 = .ok (.istore_n 2, 1) := by decide +kernel
theorem dX4_spanOf_27 : decode cX4_spanOf 27 = .ok (.iinc 3 1, 3) := by decide +kernel
theorem dX4_spanOf_30 : decode cX4_spanOf 30 = .ok (.goto (-26), 3) := by decide +kernel
theorem dX4_spanOf_33 : decode cX4_spanOf 33 = .ok (.iload_n 2, 1) := by decide +kernel
theorem dX4_spanOf_34 : decode cX4_spanOf 34 = .ok (.ireturn, 1) := by decide +kernel
set_option maxRecDepth 20000 in
theorem ggX4_wasteOf_X4_spanOf : GoodIn wsX4_wasteOf wsX4_spanOf := goodIn_r _ [6, 7, 8, 9, 10, 11, 12, 13, 14, 15, 16, 17, 18, 19, 20] (by decide +kernel) (by decide +kernel)
set_option maxRecDepth 20000 in
theorem gX4_wasteOf_X4_spanOf : GoodIn wsX4_wasteOf (wsV RX4 43 RX4 yX4_spanOf wsX4_spanOf) := goodIn_app (goodIn_of _ (by decide +kernel)) ggX4_wasteOf_X4_spanOf
theorem dX4_wasteOf_0 : decode cX4_wasteOf 0 = .ok (.aload_n 0, 1) := by decide +kernel
theorem dX4_wasteOf_1 : decode cX4_wasteOf 1 = .ok (.getfield 9, 3) := by decide +kernel
theorem dX4_wasteOf_4 : decode cX4_wasteOf 4 = .ok (.aload_n 0, 1) := by decide +kernel
theorem dX4_wasteOf_5 : decode cX4_wasteOf 5 = .ok (.iload_n 1, 1) := by decide +kernel
theorem dX4_wasteOf_6 : decode cX4_wasteOf 6 = .ok (.invokevirtual 43, 3) := by decide +kernel
theorem dX4_wasteOf_9 : decode cX4_wasteOf 9 = .ok (.isub, 1) := by decide +kernel
theorem dX4_wasteOf_10 : decode cX4_wasteOf 10 = .ok (.ireturn, 1) := by decide +kernel
set_option maxRecDepth 20000 in
theorem ggX4_fitsFlawed_X4_canPart : GoodIn wsX4_fitsFlawed wsX4_canPart := goodIn_r _ [16, 17, 18, 19, 20, 21, 22, 12, 13, 14, 15, 23, 24, 25, 26, 27, 28, 29, 30] (by decide +kernel) (by decide +kernel)
set_option maxRecDepth 20000 in
theorem gX4_fitsFlawed_X4_canPart : GoodIn wsX4_fitsFlawed (wsV RX4 55 RX4 yX4_canPart wsX4_canPart) := goodIn_app (goodIn_of _ (by decide +kernel)) ggX4_fitsFlawed_X4_canPart
theorem dX4_fitsFlawed_0 : decode cX4_fitsFlawed 0 = .ok (.aload_n 0, 1) := by decide +kernel
theorem dX4_fitsFlawed_1 : decode cX4_fitsFlawed 1 = .ok (.getfield 21, 3) := by decide +kernel
theorem dX4_fitsFlawed_4 : decode cX4_fitsFlawed 4 = .ok (.aload_n 0, 1) := by decide +kernel
theorem dX4_fitsFlawed_5 : decode cX4_fitsFlawed 5 = .ok (.getfield 24, 3) := by decide +kernel
theorem dX4_fitsFlawed_8 : decode cX4_fitsFlawed 8 = .ok (.if_icmp .lt 5, 3) := by decide +kernel
theorem dX4_fitsFlawed_11 : decode cX4_fitsFlawed 11 = .ok (.iconst 1, 1) := by decide +kernel
theorem dX4_fitsFlawed_12 : decode cX4_fitsFlawed 12 = .ok (.ireturn, 1) := by decide +kernel
theorem dX4_fitsFlawed_13 : decode cX4_fitsFlawed 13 = .ok (.iconst 0, 1) := by decide +kernel
theorem dX4_fitsFlawed_14 : decode cX4_fitsFlawed 14 = .ok (.aload_n 0, 1) := by decide +kernel
theorem dX4_fitsFlawed_15 : decode cX4_fitsFlawed 15 = .ok (.getfield 21, 3) := by decide +kernel
theorem dX4_fitsFlawed_18 : decode cX4_fitsFlawed 18 = .ok (.aload_n 0, 1) := by decide +kernel
theorem dX4_fitsFlawed_19 : decode cX4_fitsFlawed 19 = .ok (.getfield 9, 3) := by decide +kernel
theorem dX4_fitsFlawed_22 : decode cX4_fitsFlawed 22 = .ok (.aload_n 0, 1) := by decide +kernel
theorem dX4_fitsFlawed_23 : decode cX4_fitsFlawed 23 = .ok (.getfield 15, 3) := by decide +kernel
theorem dX4_fitsFlawed_26 : decode cX4_fitsFlawed 26 = .ok (.isub, 1) := by decide +kernel
theorem dX4_fitsFlawed_27 : decode cX4_fitsFlawed 27 = .ok (.invokestatic 47, 3) := by decide +kernel
theorem dX4_fitsFlawed_30 : decode cX4_fitsFlawed 30 = .ok (.aload_n 0, 1) := by decide +kernel
theorem dX4_fitsFlawed_31 : decode cX4_fitsFlawed 31 = .ok (.getfield 15, 3) := by decide +kernel
theorem dX4_fitsFlawed_34 : decode cX4_fitsFlawed 34 = .ok (.isub, 1) := by decide +kernel
theorem dX4_fitsFlawed_35 : decode cX4_fitsFlawed 35 = .ok (.invokestatic 52, 3) := by decide +kernel
theorem dX4_fitsFlawed_38 : decode cX4_fitsFlawed 38 = .ok (.istore_n 2, 1) := by decide +kernel
theorem dX4_fitsFlawed_39 : decode cX4_fitsFlawed 39 = .ok (.iconst 0, 1) := by decide +kernel
theorem dX4_fitsFlawed_40 : decode cX4_fitsFlawed 40 = .ok (.aload_n 0, 1) := by decide +kernel
theorem dX4_fitsFlawed_41 : decode cX4_fitsFlawed 41 = .ok (.getfield 9, 3) := by decide +kernel
theorem dX4_fitsFlawed_44 : decode cX4_fitsFlawed 44 = .ok (.aload_n 0, 1) := by decide +kernel
theorem dX4_fitsFlawed_45 : decode cX4_fitsFlawed 45 = .ok (.getfield 15, 3) := by decide +kernel
theorem dX4_fitsFlawed_48 : decode cX4_fitsFlawed 48 = .ok (.isub, 1) := by decide +kernel
theorem dX4_fitsFlawed_49 : decode cX4_fitsFlawed 49 = .ok (.aload_n 0, 1) := by decide +kernel
theorem dX4_fitsFlawed_50 : decode cX4_fitsFlawed 50 = .ok (.getfield 24, 3) := by decide +kernel
theorem dX4_fitsFlawed_53 : decode cX4_fitsFlawed 53 = .ok (.aload_n 0, 1) := by decide +kernel
theorem dX4_fitsFlawed_54 : decode cX4_fitsFlawed 54 = .ok (.getfield 15, 3) := by decide +kernel
theorem dX4_fitsFlawed_57 : decode cX4_fitsFlawed 57 = .ok (.invokestatic 52, 3) := by decide +kernel
theorem dX4_fitsFlawed_60 : decode cX4_fitsFlawed 60 = .ok (.isub, 1) := by decide +kernel
theorem dX4_fitsFlawed_61 : decode cX4_fitsFlawed 61 = .ok (.invokestatic 52, 3) := by decide +kernel
theorem dX4_fitsFlawed_64 : decode cX4_fitsFlawed 64 = .ok (.istore_n 3, 1) := by decide +kernel
theorem dX4_fitsFlawed_65 : decode cX4_fitsFlawed 65 = .ok (.aload_n 0, 1) := by decide +kernel
theorem dX4_fitsFlawed_66 : decode cX4_fitsFlawed 66 = .ok (.iload_n 1, 1) := by decide +kernel
theorem dX4_fitsFlawed_67 : decode cX4_fitsFlawed 67 = .ok (.iconst 0, 1) := by decide +kernel
theorem dX4_fitsFlawed_68 : decode cX4_fitsFlawed 68 = .ok (.iload_n 2, 1) := by decide +kernel
theorem dX4_fitsFlawed_69 : decode cX4_fitsFlawed 69 = .ok (.iload_n 3, 1) := by decide +kernel
theorem dX4_fitsFlawed_70 : decode cX4_fitsFlawed 70 = .ok (.invokevirtual 55, 3) := by decide +kernel
theorem dX4_fitsFlawed_73 : decode cX4_fitsFlawed 73 = .ok (.ireturn, 1) := by decide +kernel
set_option maxRecDepth 20000 in
theorem ggX4_canPart_X0_ofWidth : GoodIn wsX4_canPart wsX0_ofWidth := goodIn_r _ [6] (by decide +kernel) (by decide +kernel)
set_option maxRecDepth 20000 in
theorem gX4_canPart_X0_ofWidth : GoodIn wsX4_canPart (va_wsS RX4 37 yX0_ofWidth wsX0_ofWidth) := goodIn_app (goodIn_of _ (by decide +kernel)) ggX4_canPart_X0_ofWidth
set_option maxRecDepth 20000 in
theorem ggX4_canPart_X4_canPart : GoodIn wsX4_canPart wsX4_canPart := goodIn_r _ [0, 1, 2, 3, 4, 5, 6, 7, 8, 9, 10, 11, 12, 13, 14, 15, 16, 17, 18] (by decide +kernel) (by decide +kernel)
set_option maxRecDepth 20000 in
theorem gX4_canPart_X4_canPart : GoodIn wsX4_canPart (wsV RX4 55 RX4 yX4_canPart wsX4_canPart) := goodIn_app (goodIn_of _ (by decide +kernel)) ggX4_canPart_X4_canPart
theorem dX4_canPart_0 : decode cX4_canPart 0 = .ok (.iload_n 2, 1) := by decide +kernel
theorem dX4_canPart_1 : decode cX4_canPart 1 = .ok (.aload_n 0, 1) := by decide +kernel
theorem dX4_canPart_2 : decode cX4_canPart 2 = .ok (.getfield 27, 3) := by decide +kernel
theorem dX4_canPart_5 : decode cX4_canPart 5 = .ok (.if_icmp .lt 5, 3) := by decide +kernel
theorem dX4_canPart_8 : decode cX4_canPart 8 = .ok (.iconst 1, 1) := by decide +kernel
theorem dX4_canPart_9 : decode cX4_canPart 9 = .ok (.ireturn, 1) := by decide +kernel
theorem dX4_canPart_10 : decode cX4_canPart 10 = .ok (.iload_n 1, 1) := by decide +kernel
theorem dX4_canPart_11 : decode cX4_canPart 11 = .ok (.iload_n 2, 1) := by decide +kernel
theorem dX4_canPart_12 : decode cX4_canPart 12 = .ok (.invokestatic 37, 3) := by decide +kernel
theorem dX4_canPart_15 : decode cX4_canPart 15 = .ok (.istore 5, 2) := by decide +kernel
theorem dX4_canPart_17 : decode cX4_canPart 17 = .ok (.iconst 0, 1) := by decide +kernel
theorem dX4_canPart_18 : decode cX4_canPart 18 = .ok (.istore 6, 2) := by decide +kernel
theorem dX4_canPart_20 : decode cX4_canPart 20 = .ok (.iload 6, 2) := by decide +kernel
theorem dX4_canPart_22 : decode cX4_canPart 22 = .ok (.iload 5, 2) := by decide +kernel
theorem dX4_canPart_24 : decode cX4_canPart 24 = .ok (.if_icmp .gt 66, 3) := by decide +kernel
theorem dX4_canPart_27 : decode cX4_canPart 27 = .ok (.iload_n 3, 1) := by decide +kernel
theorem dX4_canPart_28 : decode cX4_canPart 28 = .ok (.iload 6, 2) := by decide +kernel
theorem dX4_canPart_30 : decode cX4_canPart 30 = .ok (.aload_n 0, 1) := by decide +kernel
theorem dX4_canPart_31 : decode cX4_canPart 31 = .ok (.getfield 30, 3) := by decide +kernel
theorem dX4_canPart_34 : decode cX4_canPart 34 = .ok (.iload_n 2, 1) := by decide +kernel
theorem dX4_canPart_35 : decode cX4_canPart 35 = .ok (.iaload, 1) := by decide +kernel
theorem dX4_canPart_36 : decode cX4_canPart 36 = .ok (.imul, 1) := by decide +kernel
theorem dX4_canPart_37 : decode cX4_canPart 37 = .ok (.isub, 1) := by decide +kernel
theorem dX4_canPart_38 : decode cX4_canPart 38 = .ok (.istore 7, 2) := by decide +kernel
theorem dX4_canPart_40 : decode cX4_canPart 40 = .ok (.iload 4, 2) := by decide +kernel
theorem dX4_canPart_42 : decode cX4_canPart 42 = .ok (.iload 5, 2) := by decide +kernel
theorem dX4_canPart_44 : decode cX4_canPart 44 = .ok (.iload 6, 2) := by decide +kernel
theorem dX4_canPart_46 : decode cX4_canPart 46 = .ok (.isub, 1) := by decide +kernel
theorem dX4_canPart_47 : decode cX4_canPart 47 = .ok (.aload_n 0, 1) := by decide +kernel
theorem dX4_canPart_48 : decode cX4_canPart 48 = .ok (.getfield 30, 3) := by decide +kernel
theorem dX4_canPart_51 : decode cX4_canPart 51 = .ok (.iload_n 2, 1) := by decide +kernel
theorem dX4_canPart_52 : decode cX4_canPart 52 = .ok (.iaload, 1) := by decide +kernel
theorem dX4_canPart_53 : decode cX4_canPart 53 = .ok (.imul, 1) := by decide +kernel
theorem dX4_canPart_54 : decode cX4_canPart 54 = .ok (.isub, 1) := by decide +kernel
theorem dX4_canPart_55 : decode cX4_canPart 55 = .ok (.istore 8, 2) := by decide +kernel
theorem dX4_canPart_57 : decode cX4_canPart 57 = .ok (.iload 7, 2) := by decide +kernel
theorem dX4_canPart_59 : decode cX4_canPart 59 = .ok (.ifCond .lt 25, 3) := by decide +kernel
theorem dX4_canPart_62 : decode cX4_canPart 62 = .ok (.iload 8, 2) := by decide +kernel
theorem dX4_canPart_64 : decode cX4_canPart 64 = .ok (.ifCond .lt 20, 3) := by decide +kernel
theorem dX4_canPart_67 : decode cX4_canPart 67 = .ok (.aload_n 0, 1) := by decide +kernel
theorem dX4_canPart_68 : decode cX4_canPart 68 = .ok (.iload_n 1, 1) := by decide +kernel
theorem dX4_canPart_69 : decode cX4_canPart 69 = .ok (.iload_n 2, 1) := by decide +kernel
theorem dX4_canPart_70 : decode cX4_canPart 70 = .ok (.iconst 1, 1) := by decide +kernel
theorem dX4_canPart_71 : decode cX4_canPart 71 = .ok (.iadd, 1) := by decide +kernel
theorem dX4_canPart_72 : decode cX4_canPart 72 = .ok (.iload 7, 2) := by decide +kernel
theorem dX4_canPart_74 : decode cX4_canPart 74 = .ok (.iload 8, 2) := by decide +kernel
theorem dX4_canPart_76 : decode cX4_canPart 76 = .ok (.invokevirtual 55, 3) := by decide +kernel
theorem dX4_canPart_79 : decode cX4_canPart 79 = .ok (.ifCond .eq 5, 3) := by decide +kernel
theorem dX4_canPart_82 : decode cX4_canPart 82 = .ok (.iconst 1, 1) := by decide +kernel
theorem dX4_canPart_83 : decode cX4_canPart 83 = .ok (.ireturn, 1) := by decide +kernel
theorem dX4_canPart_84 : decode cX4_canPart 84 = .ok (.iinc 6 1, 3) := by decide +kernel
theorem dX4_canPart_87 : decode cX4_canPart 87 = .ok (.goto (-67), 3) := by decide +kernel
theorem dX4_canPart_90 : decode cX4_canPart 90 = .ok (.iconst 0, 1) := by decide +kernel
theorem dX4_canPart_91 : decode cX4_canPart 91 = .ok (.ireturn, 1) := by decide +kernel
theorem dX5_init_0 : decode cX5_init 0 = .ok (.aload_n 0, 1) := by decide +kernel
theorem dX5_init_1 : decode cX5_init 1 = .ok (.invokespecial 3, 3) := by decide +kernel
theorem dX5_init_4 : decode cX5_init 4 = .ok (.aload_n 0, 1) := by decide +kernel
theorem dX5_init_5 : decode cX5_init 5 = .ok (.sipush 3000, 3) := by decide +kernel
theorem dX5_init_8 : decode cX5_init 8 = .ok (.newarray .int, 2) := by decide +kernel
theorem dX5_init_10 : decode cX5_init 10 = .ok (.putfield 9, 3) := by decide +kernel
theorem dX5_init_13 : decode cX5_init 13 = .ok (.aload_n 0, 1) := by decide +kernel
theorem dX5_init_14 : decode cX5_init 14 = .ok (.iconst 0, 1) := by decide +kernel
theorem dX5_init_15 : decode cX5_init 15 = .ok (.putfield 15, 3) := by decide +kernel
theorem dX5_init_18 : decode cX5_init 18 = .ok (.aload_n 0, 1) := by decide +kernel
theorem dX5_init_19 : decode cX5_init 19 = .ok (.iconst 0, 1) := by decide +kernel
theorem dX5_init_20 : decode cX5_init 20 = .ok (.putfield 19, 3) := by decide +kernel
theorem dX5_init_23 : decode cX5_init 23 = .ok (.aload_n 0, 1) := by decide +kernel
theorem dX5_init_24 : decode cX5_init 24 = .ok (.iconst 1, 1) := by decide +kernel
theorem dX5_init_25 : decode cX5_init 25 = .ok (.putfield 23, 3) := by decide +kernel
theorem dX5_init_28 : decode cX5_init 28 = .ok (.aload_n 0, 1) := by decide +kernel
theorem dX5_init_29 : decode cX5_init 29 = .ok (.aload_n 1, 1) := by decide +kernel
theorem dX5_init_30 : decode cX5_init 30 = .ok (.putfield 26, 3) := by decide +kernel
theorem dX5_init_33 : decode cX5_init 33 = .ok (.return_, 1) := by decide +kernel
theorem dX5_forget_0 : decode cX5_forget 0 = .ok (.aload_n 0, 1) := by decide +kernel
theorem dX5_forget_1 : decode cX5_forget 1 = .ok (.iconst 1, 1) := by decide +kernel
theorem dX5_forget_2 : decode cX5_forget 2 = .ok (.putfield 23, 3) := by decide +kernel
theorem dX5_forget_5 : decode cX5_forget 5 = .ok (.return_, 1) := by decide +kernel
set_option maxRecDepth 20000 in
theorem ggX5_isOverfull_X5_refresh : GoodIn wsX5_isOverfull wsX5_refresh := goodIn_r _ [6, 7, 8, 1, 9, 10, 11, 12, 13, 14, 15, 16, 17, 18, 19, 20, 5, 21, 22, 23, 24, 25, 26, 27, 28, 29, 30, 31, 32, 33, 34, 35, 36, 37, 38, 39, 40, 41, 42, 43, 44, 45, 46, 47, 48, 49, 50, 51, 52] (by decide +kernel) (by decide +kernel)
set_option maxRecDepth 20000 in
theorem gX5_isOverfull_X5_refresh : GoodIn wsX5_isOverfull (wsV RX5 30 RX5 yX5_refresh wsX5_refresh) := goodIn_app (goodIn_of _ (by decide +kernel)) ggX5_isOverfull_X5_refresh
theorem dX5_isOverfull_0 : decode cX5_isOverfull 0 = .ok (.aload_n 0, 1) := by decide +kernel
theorem dX5_isOverfull_1 : decode cX5_isOverfull 1 = .ok (.invokevirtual 30, 3) := by decide +kernel
theorem dX5_isOverfull_4 : decode cX5_isOverfull 4 = .ok (.aload_n 0, 1) := by decide +kernel
theorem dX5_isOverfull_5 : decode cX5_isOverfull 5 = .ok (.getfield 19, 3) := by decide +kernel
theorem dX5_isOverfull_8 : decode cX5_isOverfull 8 = .ok (.ireturn, 1) := by decide +kernel
set_option maxRecDepth 20000 in
theorem ggX5_count_X5_refresh : GoodIn wsX5_count wsX5_refresh := goodIn_r _ [6, 7, 1, 8, 9, 10, 11, 12, 13, 14, 15, 16, 17, 18, 19, 20, 5, 21, 22, 23, 24, 25, 26, 27, 28, 29, 30, 31, 32, 33, 34, 35, 36, 37, 38, 39, 40, 41, 42, 43, 44, 45, 46, 47, 48, 49, 50, 51, 52] (by decide +kernel) (by decide +kernel)
set_option maxRecDepth 20000 in
theorem gX5_count_X5_refresh : GoodIn wsX5_count (wsV RX5 30 RX5 yX5_refresh wsX5_refresh) := goodIn_app (goodIn_of _ (by decide +kernel)) ggX5_count_X5_refresh
theorem dX5_count_0 : decode cX5_count 0 = .ok (.aload_n 0, 1) := by decide +kernel
theorem dX5_count_1 : decode cX5_count 1 = .ok (.invokevirtual 30, 3) := by decide +kernel
theorem dX5_count_4 : decode cX5_count 4 = .ok (.aload_n 0, 1) := by decide +kernel
theorem dX5_count_5 : decode cX5_count 5 = .ok (.getfield 15, 3) := by decide +kernel
theorem dX5_count_8 : decode cX5_count 8 = .ok (.ireturn, 1) := by decide +kernel
set_option maxRecDepth 20000 in
theorem ggX5_isNumber_X5_count : GoodIn wsX5_isNumber wsX5_count := goodIn_r _ [5, 6, 7, 8, 9, 4, 10, 11, 12, 13, 14, 15, 16, 17, 18, 19, 20, 21, 22, 23, 24, 25, 26, 27, 28, 29, 30, 31, 32, 33, 34, 35, 36, 37, 38, 39, 40, 41, 42, 43, 44, 45, 46, 47, 48, 49, 50, 51, 52, 53, 54, 55, 56] (by decide +kernel) (by decide +kernel)
set_option maxRecDepth 20000 in
theorem gX5_isNumber_X5_count : GoodIn wsX5_isNumber (wsV RX5 33 RX5 yX5_count wsX5_count) := goodIn_app (goodIn_of _ (by decide +kernel)) ggX5_isNumber_X5_count
theorem dX5_isNumber_0 : decode cX5_isNumber 0 = .ok (.iload_n 1, 1) := by decide +kernel
theorem dX5_isNumber_1 : decode cX5_isNumber 1 = .ok (.ifCond .lt 15, 3) := by decide +kernel
theorem dX5_isNumber_4 : decode cX5_isNumber 4 = .ok (.iload_n 1, 1) := by decide +kernel
theorem dX5_isNumber_5 : decode cX5_isNumber 5 = .ok (.aload_n 0, 1) := by decide +kernel
theorem dX5_isNumber_6 : decode cX5_isNumber 6 = .ok (.invokevirtual 33, 3) := by decide +kernel
theorem dX5_isNumber_9 : decode cX5_isNumber 9 = .ok (.if_icmp .ge 7, 3) := by decide +kernel
theorem dX5_isNumber_12 : decode cX5_isNumber 12 = .ok (.iconst 1, 1) := by decide +kernel
theorem dX5_isNumber_13 : decode cX5_isNumber 13 = .ok (.goto 4, 3) := by decide +kernel
theorem dX5_isNumber_16 : decode cX5_isNumber 16 = .ok (.iconst 0, 1) := by decide +kernel
theorem dX5_isNumber_17 : decode cX5_isNumber 17 = .ok (.ireturn, 1) := by decide +kernel
theorem dX5_codeAt_0 : decode cX5_codeAt 0 = .ok (.iload_n 1, 1) := by decide +kernel
theorem dX5_codeAt_1 : decode cX5_codeAt 1 = .ok (.ifCond .lt 20, 3) := by decide +kernel
theorem dX5_codeAt_4 : decode cX5_codeAt 4 = .ok (.iload_n 1, 1) := by decide +kernel
theorem dX5_codeAt_5 : decode cX5_codeAt 5 = .ok (.aload_n 0, 1) := by decide +kernel
theorem dX5_codeAt_6 : decode cX5_codeAt 6 = .ok (.getfield 15, 3) := by decide +kernel
theorem dX5_codeAt_9 : decode cX5_codeAt 9 = .ok (.if_icmp .ge 12, 3) := by decide +kernel
theorem dX5_codeAt_12 : decode cX5_codeAt 12 = .ok (.aload_n 0, 1) := by decide +kernel
theorem dX5_codeAt_13 : decode cX5_codeAt 13 = .ok (.getfield 9, 3) := by decide +kernel
theorem dX5_codeAt_16 : decode cX5_codeAt 16 = .ok (.iload_n 1, 1) := by decide +kernel
theorem dX5_codeAt_17 : decode cX5_codeAt 17 = .ok (.iaload, 1) := by decide +kernel
theorem dX5_codeAt_18 : decode cX5_codeAt 18 = .ok (.goto 4, 3) := by decide +kernel
theorem dX5_codeAt_21 : decode cX5_codeAt 21 = .ok (.iconst 0, 1) := by decide +kernel
theorem dX5_codeAt_22 : decode cX5_codeAt 22 = .ok (.ireturn, 1) := by decide +kernel
set_option maxRecDepth 20000 in
theorem ggX5_numberOf_X5_count : GoodIn wsX5_numberOf wsX5_count := goodIn_r _ [6, 7, 8, 9, 10, 5, 11, 12, 13, 14, 15, 16, 17, 18, 19, 20, 21, 22, 23, 24, 25, 26, 27, 28, 29, 30, 31, 32, 33, 34, 35, 36, 1, 37, 38, 39, 40, 41, 42, 43, 48, 49, 50, 51, 52, 53, 54, 55, 56, 57, 58, 59, 60] (by decide +kernel) (by decide +kernel)
set_option maxRecDepth 20000 in
theorem gX5_numberOf_X5_count : GoodIn wsX5_numberOf (wsV RX5 33 RX5 yX5_count wsX5_count) := goodIn_app (goodIn_of _ (by decide +kernel)) ggX5_numberOf_X5_count
set_option maxRecDepth 20000 in
theorem ggX5_numberOf_X5_isNumber : GoodIn wsX5_numberOf wsX5_isNumber := goodIn_r _ [47, 2, 3, 4, 5, 6, 7, 8, 9, 10, 11, 12, 13, 14, 15, 16, 17, 18, 19, 20, 21, 22, 23, 24, 25, 26, 27, 28, 29, 30, 31, 32, 33, 34, 35, 36, 1, 37, 38, 39, 40, 41, 42, 43, 48, 49, 50, 51, 52, 53, 54, 55, 56, 57, 58, 59, 60] (by decide +kernel) (by decide +kernel)
set_option maxRecDepth 20000 in
theorem gX5_numberOf_X5_isNumber : GoodIn wsX5_numberOf (wsV RX5 37 RX5 yX5_isNumber wsX5_isNumber) := goodIn_app (goodIn_of _ (by decide +kernel)) ggX5_numberOf_X5_isNumber
theorem dX5_numberOf_0 : decode cX5_numberOf 0 = .ok (.iconst 0, 1) := by decide +kernel
theorem dX5_numberOf_1 : decode cX5_numberOf 1 = .ok (.istore_n 2, 1) := by decide +kernel
theorem dX5_numberOf_2 : decode cX5_numberOf 2 = .ok (.aload_n 0, 1) := by decide +kernel
theorem dX5_numberOf_3 : decode cX5_numberOf 3 = .ok (.invokevirtual 33, 3) := by decide +kernel
theorem dX5_numberOf_6 : decode cX5_numberOf 6 = .ok (.istore_n 3, 1) := by decide +kernel
theorem dX5_numberOf_7 : decode cX5_numberOf 7 = .ok (.iconst 0, 1) := by decide +kernel
theorem dX5_numberOf_8 : decode cX5_numberOf 8 = .ok (.istore 4, 2) := by decide +kernel
theorem dX5_numberOf_10 : decode cX5_numberOf 10 = .ok (.iload 4, 2) := by decide +kernel
theorem dX5_numberOf_12 : decode cX5_numberOf 12 = .ok (.sipush 3000, 3) := by decide +kernel
theorem dX5_numberOf_15 : decode cX5_numberOf 15 = .ok (.if_icmp .ge 43, 3) := by decide +kernel
theorem dX5_numberOf_18 : decode cX5_numberOf 18 = .ok (.iload_n 2, 1) := by decide +kernel
theorem dX5_numberOf_19 : decode cX5_numberOf 19 = .ok (.iload_n 3, 1) := by decide +kernel
theorem dX5_numberOf_20 : decode cX5_numberOf 20 = .ok (.if_icmp .ge 38, 3) := by decide +kernel
theorem dX5_numberOf_23 : decode cX5_numberOf 23 = .ok (.iload_n 2, 1) := by decide +kernel
theorem dX5_numberOf_24 : decode cX5_numberOf 24 = .ok (.iload_n 3, 1) := by decide +kernel
theorem dX5_numberOf_25 : decode cX5_numberOf 25 = .ok (.iadd, 1) := by decide +kernel
theorem dX5_numberOf_26 : decode cX5_numberOf 26 = .ok (.iconst 1, 1) := by decide +kernel
theorem dX5_numberOf_27 : decode cX5_numberOf 27 = .ok (.iushr, 1) := by decide +kernel
theorem dX5_numberOf_28 : decode cX5_numberOf 28 = .ok (.istore 5, 2) := by decide +kernel
theorem dX5_numberOf_30 : decode cX5_numberOf 30 = .ok (.aload_n 0, 1) := by decide +kernel
theorem dX5_numberOf_31 : decode cX5_numberOf 31 = .ok (.getfield 9, 3) := by decide +kernel
theorem dX5_numberOf_34 : decode cX5_numberOf 34 = .ok (.iload 5, 2) := by decide +kernel
theorem dX5_numberOf_36 : decode cX5_numberOf 36 = .ok (.iaload, 1) := by decide +kernel
theorem dX5_numberOf_37 : decode cX5_numberOf 37 = .ok (.iload_n 1, 1) := by decide +kernel
theorem dX5_numberOf_38 : decode cX5_numberOf 38 = .ok (.if_icmp .le 11, 3) := by decide +kernel
theorem dX5_numberOf_41 : decode cX5_numberOf 41 = .ok (.iload 5, 2) := by decide +kernel
theorem dX5_numberOf_43 : decode cX5_numberOf 43 = .ok (.iconst 1, 1) := by decide +kernel
theorem dX5_numberOf_44 : decode cX5_numberOf 44 = .ok (.iadd, 1) := by decide +kernel
theorem dX5_numberOf_45 : decode cX5_numberOf 45 = .ok (.istore_n 2, 1) := by decide +kernel
theorem dX5_numberOf_46 : decode cX5_numberOf 46 = .ok (.goto 6, 3) := by decide +kernel
theorem dX5_numberOf_49 : decode cX5_numberOf 49 = .ok (.iload 5, 2) := by decide +kernel
theorem dX5_numberOf_51 : decode cX5_numberOf 51 = .ok (.istore_n 3, 1) := by decide +kernel
theorem dX5_numberOf_52 : decode cX5_numberOf 52 = .ok (.iinc 4 1, 3) := by decide +kernel
theorem dX5_numberOf_55 : decode cX5_numberOf 55 = .ok (.goto (-45), 3) := by decide +kernel
theorem dX5_numberOf_58 : decode cX5_numberOf 58 = .ok (.aload_n 0, 1) := by decide +kernel
theorem dX5_numberOf_59 : decode cX5_numberOf 59 = .ok (.iload_n 2, 1) := by decide +kernel
theorem dX5_numberOf_60 : decode cX5_numberOf 60 = .ok (.invokevirtual 37, 3) := by decide +kernel
theorem dX5_numberOf_63 : decode cX5_numberOf 63 = .ok (.ifCond .eq 17, 3) := by decide +kernel
theorem dX5_numberOf_66 : decode cX5_numberOf 66 = .ok (.aload_n 0, 1) := by decide +kernel
theorem dX5_numberOf_67 : decode cX5_numberOf 67 = .ok (.getfield 9, 3) := by decide +kernel
theorem dX5_numberOf_70 : decode cX5_numberOf 70 = .ok (.iload_n 2, 1) := by decide +kernel
theorem dX5_numberOf_71 : decode cX5_numberOf 71 = .ok (.iaload, 1) := by decide +kernel
theorem dX5_numberOf_72 : decode cX5_numberOf 72 = .ok (.iload_n 1, 1) := by decide +kernel
theorem dX5_numberOf_73 : decode cX5_numberOf 73 = .ok (.if_icmp .ne 7, 3) := by decide +kernel
theorem dX5_numberOf_76 : decode cX5_numberOf 76 = .ok (.iload_n 2, 1) := by decide +kernel
theorem dX5_numberOf_77 : decode cX5_numberOf 77 = .ok (.goto 4, 3) := by decide +kernel
theorem dX5_numberOf_80 : decode cX5_numberOf 80 = .ok (.iconst (-1), 1) := by decide +kernel
theorem dX5_numberOf_81 : decode cX5_numberOf 81 = .ok (.ireturn, 1) := by decide +kernel
set_option maxRecDepth 20000 in
theorem ggX5_refresh_X4_room : GoodIn wsX5_refresh wsX4_room := goodIn_r _ [10, 11, 12, 41, 42, 43, 44, 45, 46, 47, 48] (by decide +kernel) (by decide +kernel)
set_option maxRecDepth 20000 in
theorem gX5_refresh_X4_room : GoodIn wsX5_refresh (wsV RX5 41 RX4 yX4_room wsX4_room) := goodIn_app (goodIn_of _ (by decide +kernel)) ggX5_refresh_X4_room
set_option maxRecDepth 20000 in
theorem ggX5_refresh_X5_spread : GoodIn wsX5_refresh wsX5_spread := goodIn_r _ [17, 4, 18, 19, 20, 21, 22, 23, 3, 24, 25, 26, 16, 27, 2, 28, 29, 30, 31, 32, 33, 34, 35, 13, 14, 15, 36, 37, 38, 39, 40, 41, 42, 43, 44, 45, 46, 47, 48] (by decide +kernel) (by decide +kernel)
set_option maxRecDepth 20000 in
theorem gX5_refresh_X5_spread : GoodIn wsX5_refresh (wsV RX5 49 RX5 yX5_spread wsX5_spread) := goodIn_app (goodIn_of _ (by decide +kernel)) ggX5_refresh_X5_spread
theorem dX5_refresh_0 : decode cX5_refresh 0 = .ok (.aload_n 0, 1) := by decide +kernel
theorem dX5_refresh_1 : decode cX5_refresh 1 = .ok (.getfield 23, 3) := by decide +kernel
theorem dX5_refresh_4 : decode cX5_refresh 4 = .ok (.ifCond .ne 4, 3) := by decide +kernel
theorem dX5_refresh_7 : decode cX5_refresh 7 = .ok (.return_, 1) := by decide +kernel
theorem dX5_refresh_8 : decode cX5_refresh 8 = .ok (.aload_n 0, 1) := by decide +kernel
theorem dX5_refresh_9 : decode cX5_refresh 9 = .ok (.iconst 0, 1) := by decide +kernel
theorem dX5_refresh_10 : decode cX5_refresh 10 = .ok (.putfield 23, 3) := by decide +kernel
theorem dX5_refresh_13 : decode cX5_refresh 13 = .ok (.aload_n 0, 1) := by decide +kernel
theorem dX5_refresh_14 : decode cX5_refresh 14 = .ok (.iconst 0, 1) := by decide +kernel
theorem dX5_refresh_15 : decode cX5_refresh 15 = .ok (.putfield 15, 3) := by decide +kernel
theorem dX5_refresh_18 : decode cX5_refresh 18 = .ok (.aload_n 0, 1) := by decide +kernel
theorem dX5_refresh_19 : decode cX5_refresh 19 = .ok (.iconst 0, 1) := by decide +kernel
theorem dX5_refresh_20 : decode cX5_refresh 20 = .ok (.putfield 19, 3) := by decide +kernel
theorem dX5_refresh_23 : decode cX5_refresh 23 = .ok (.aload_n 0, 1) := by decide +kernel
theorem dX5_refresh_24 : decode cX5_refresh 24 = .ok (.iconst 0, 1) := by decide +kernel
theorem dX5_refresh_25 : decode cX5_refresh 25 = .ok (.iconst 0, 1) := by decide +kernel
theorem dX5_refresh_26 : decode cX5_refresh 26 = .ok (.aload_n 0, 1) := by decide +kernel
theorem dX5_refresh_27 : decode cX5_refresh 27 = .ok (.getfield 26, 3) := by decide +kernel
theorem dX5_refresh_30 : decode cX5_refresh 30 = .ok (.invokevirtual 41, 3) := by decide +kernel
theorem dX5_refresh_33 : decode cX5_refresh 33 = .ok (.aload_n 0, 1) := by decide +kernel
theorem dX5_refresh_34 : decode cX5_refresh 34 = .ok (.getfield 26, 3) := by decide +kernel
theorem dX5_refresh_37 : decode cX5_refresh 37 = .ok (.getfield 46, 3) := by decide +kernel
theorem dX5_refresh_40 : decode cX5_refresh 40 = .ok (.invokevirtual 49, 3) := by decide +kernel
theorem dX5_refresh_43 : decode cX5_refresh 43 = .ok (.aload_n 0, 1) := by decide +kernel
theorem dX5_refresh_44 : decode cX5_refresh 44 = .ok (.getfield 19, 3) := by decide +kernel
theorem dX5_refresh_47 : decode cX5_refresh 47 = .ok (.ifCond .eq 8, 3) := by decide +kernel
theorem dX5_refresh_50 : decode cX5_refresh 50 = .ok (.aload_n 0, 1) := by decide +kernel
theorem dX5_refresh_51 : decode cX5_refresh 51 = .ok (.iconst 0, 1) := by decide +kernel
theorem dX5_refresh_52 : decode cX5_refresh 52 = .ok (.putfield 15, 3) := by decide +kernel
theorem dX5_refresh_55 : decode cX5_refresh 55 = .ok (.return_, 1) := by decide +kernel
set_option maxRecDepth 20000 in
theorem ggX5_spread_X5_add : GoodIn wsX5_spread wsX5_add := goodIn_r _ [13, 14, 15, 8, 26, 27, 28, 29, 30] (by decide +kernel) (by decide +kernel)
set_option maxRecDepth 20000 in
theorem gX5_spread_X5_add : GoodIn wsX5_spread (wsV RX5 56 RX5 yX5_add wsX5_add) := goodIn_app (goodIn_of _ (by decide +kernel)) ggX5_spread_X5_add
set_option maxRecDepth 20000 in
theorem ggX5_spread_X10_quotient : GoodIn wsX5_spread wsX10_quotient := goodIn_r _ [18] (by decide +kernel) (by decide +kernel)
set_option maxRecDepth 20000 in
theorem gX5_spread_X10_quotient_n63 : GoodIn wsX5_spread (wsX10_quotient) := ggX5_spread_X10_quotient
set_option maxRecDepth 20000 in
theorem ggX5_spread_X0_packed : GoodIn wsX5_spread wsX0_packed := goodIn_r _ [22] (by decide +kernel) (by decide +kernel)
set_option maxRecDepth 20000 in
theorem gX5_spread_X0_packed : GoodIn wsX5_spread (va_wsS RX5 72 yX0_packed wsX0_packed) := goodIn_app (goodIn_of _ (by decide +kernel)) ggX5_spread_X0_packed
set_option maxRecDepth 20000 in
theorem ggX5_spread_X5_spread : GoodIn wsX5_spread wsX5_spread := goodIn_r _ [0, 1, 2, 3, 4, 5, 6, 7, 8, 9, 10, 11, 12, 13, 14, 15, 16, 17, 18, 19, 20, 21, 22, 23, 24, 25, 26, 27, 28, 29, 30, 31, 32, 33, 34, 35, 36, 37, 38] (by decide +kernel) (by decide +kernel)
set_option maxRecDepth 20000 in
theorem gX5_spread_X5_spread : GoodIn wsX5_spread (wsV RX5 49 RX5 yX5_spread wsX5_spread) := goodIn_app (goodIn_of _ (by decide +kernel)) ggX5_spread_X5_spread
theorem dX5_spread_0 : decode cX5_spread 0 = .ok (.iload_n 1, 1) := by decide +kernel
theorem dX5_spread_1 : decode cX5_spread 1 = .ok (.aload_n 0, 1) := by decide +kernel
theorem dX5_spread_2 : decode cX5_spread 2 = .ok (.getfield 26, 3) := by decide +kernel
theorem dX5_spread_5 : decode cX5_spread 5 = .ok (.getfield 53, 3) := by decide +kernel
theorem dX5_spread_8 : decode cX5_spread 8 = .ok (.if_icmp .lt 9, 3) := by decide +kernel
theorem dX5_spread_11 : decode cX5_spread 11 = .ok (.aload_n 0, 1) := by decide +kernel
theorem dX5_spread_12 : decode cX5_spread 12 = .ok (.iload_n 2, 1) := by decide +kernel
theorem dX5_spread_13 : decode cX5_spread 13 = .ok (.invokevirtual 56, 3) := by decide +kernel
theorem dX5_spread_16 : decode cX5_spread 16 = .ok (.return_, 1) := by decide +kernel
theorem dX5_spread_17 : decode cX5_spread 17 = .ok (.iload 4, 2) := by decide +kernel
theorem dX5_spread_19 : decode cX5_spread 19 = .ok (.iload_n 3, 1) := by decide +kernel
theorem dX5_spread_20 : decode cX5_spread 20 = .ok (.aload_n 0, 1) := by decide +kernel
theorem dX5_spread_21 : decode cX5_spread 21 = .ok (.getfield 26, 3) := by decide +kernel
theorem dX5_spread_24 : decode cX5_spread 24 = .ok (.getfield 60, 3) := by decide +kernel
theorem dX5_spread_27 : decode cX5_spread 27 = .ok (.iload_n 1, 1) := by decide +kernel
theorem dX5_spread_28 : decode cX5_spread 28 = .ok (.iaload, 1) := by decide +kernel
theorem dX5_spread_29 : decode cX5_spread 29 = .ok (.invokestatic 63, 3) := by decide +kernel
theorem dX5_spread_32 : decode cX5_spread 32 = .ok (.invokestatic 67, 3) := by decide +kernel
theorem dX5_spread_35 : decode cX5_spread 35 = .ok (.istore 5, 2) := by decide +kernel
theorem dX5_spread_37 : decode cX5_spread 37 = .ok (.iload 5, 2) := by decide +kernel
theorem dX5_spread_39 : decode cX5_spread 39 = .ok (.istore 6, 2) := by decide +kernel
theorem dX5_spread_41 : decode cX5_spread 41 = .ok (.iload 6, 2) := by decide +kernel
theorem dX5_spread_43 : decode cX5_spread 43 = .ok (.ifCond .lt 50, 3) := by decide +kernel
theorem dX5_spread_46 : decode cX5_spread 46 = .ok (.aload_n 0, 1) := by decide +kernel
theorem dX5_spread_47 : decode cX5_spread 47 = .ok (.getfield 19, 3) := by decide +kernel
theorem dX5_spread_50 : decode cX5_spread 50 = .ok (.ifCond .ne 43, 3) := by decide +kernel
theorem dX5_spread_53 : decode cX5_spread 53 = .ok (.aload_n 0, 1) := by decide +kernel
theorem dX5_spread_54 : decode cX5_spread 54 = .ok (.iload_n 1, 1) := by decide +kernel
theorem dX5_spread_55 : decode cX5_spread 55 = .ok (.iconst 1, 1) := by decide +kernel
theorem dX5_spread_56 : decode cX5_spread 56 = .ok (.iadd, 1) := by decide +kernel
theorem dX5_spread_57 : decode cX5_spread 57 = .ok (.iload_n 2, 1) := by decide +kernel
theorem dX5_spread_58 : decode cX5_spread 58 = .ok (.iload_n 1, 1) := by decide +kernel
theorem dX5_spread_59 : decode cX5_spread 59 = .ok (.iload 6, 2) := by decide +kernel
theorem dX5_spread_61 : decode cX5_spread 61 = .ok (.invokestatic 72, 3) := by decide +kernel
theorem dX5_spread_64 : decode cX5_spread 64 = .ok (.ior, 1) := by decide +kernel
theorem dX5_spread_65 : decode cX5_spread 65 = .ok (.iload_n 3, 1) := by decide +kernel
theorem dX5_spread_66 : decode cX5_spread 66 = .ok (.iload 6, 2) := by decide +kernel
theorem dX5_spread_68 : decode cX5_spread 68 = .ok (.aload_n 0, 1) := by decide +kernel
theorem dX5_spread_69 : decode cX5_spread 69 = .ok (.getfield 26, 3) := by decide +kernel
theorem dX5_spread_72 : decode cX5_spread 72 = .ok (.getfield 60, 3) := by decide +kernel
theorem dX5_spread_75 : decode cX5_spread 75 = .ok (.iload_n 1, 1) := by decide +kernel
theorem dX5_spread_76 : decode cX5_spread 76 = .ok (.iaload, 1) := by decide +kernel
theorem dX5_spread_77 : decode cX5_spread 77 = .ok (.imul, 1) := by decide +kernel
theorem dX5_spread_78 : decode cX5_spread 78 = .ok (.isub, 1) := by decide +kernel
theorem dX5_spread_79 : decode cX5_spread 79 = .ok (.iload 4, 2) := by decide +kernel
theorem dX5_spread_81 : decode cX5_spread 81 = .ok (.iload 6, 2) := by decide +kernel
theorem dX5_spread_83 : decode cX5_spread 83 = .ok (.isub, 1) := by decide +kernel
theorem dX5_spread_84 : decode cX5_spread 84 = .ok (.invokevirtual 49, 3) := by decide +kernel
theorem dX5_spread_87 : decode cX5_spread 87 = .ok (.iinc 6 (-1), 3) := by decide +kernel
theorem dX5_spread_90 : decode cX5_spread 90 = .ok (.goto (-49), 3) := by decide +kernel
theorem dX5_spread_93 : decode cX5_spread 93 = .ok (.return_, 1) := by decide +kernel
theorem dX5_add_0 : decode cX5_add 0 = .ok (.iload_n 1, 1) := by decide +kernel
theorem dX5_add_1 : decode cX5_add 1 = .ok (.ifCond .ne 4, 3) := by decide +kernel
theorem dX5_add_4 : decode cX5_add 4 = .ok (.return_, 1) := by decide +kernel
theorem dX5_add_5 : decode cX5_add 5 = .ok (.aload_n 0, 1) := by decide +kernel
theorem dX5_add_6 : decode cX5_add 6 = .ok (.getfield 15, 3) := by decide +kernel
theorem dX5_add_9 : decode cX5_add 9 = .ok (.aload_n 0, 1) := by decide +kernel
theorem dX5_add_10 : decode cX5_add 10 = .ok (.getfield 9, 3) := by decide +kernel
theorem dX5_add_13 : decode cX5_add 13 = .ok (.arraylength, 1) := by decide +kernel
theorem dX5_add_14 : decode cX5_add 14 = .ok (.if_icmp .lt 11, 3) := by decide +kernel
theorem dX5_add_17 : decode cX5_add 17 = .ok (.aload_n 0, 1) := by decide +kernel
theorem dX5_add_18 : decode cX5_add 18 = .ok (.iconst 1, 1) := by decide +kernel
theorem dX5_add_19 : decode cX5_add 19 = .ok (.putfield 19, 3) := by decide +kernel
theorem dX5_add_22 : decode cX5_add 22 = .ok (.goto 23, 3) := by decide +kernel
theorem dX5_add_25 : decode cX5_add 25 = .ok (.aload_n 0, 1) := by decide +kernel
theorem dX5_add_26 : decode cX5_add 26 = .ok (.getfield 9, 3) := by decide +kernel
theorem dX5_add_29 : decode cX5_add 29 = .ok (.aload_n 0, 1) := by decide +kernel
theorem dX5_add_30 : decode cX5_add 30 = .ok (.getfield 15, 3) := by decide +kernel
theorem dX5_add_33 : decode cX5_add 33 = .ok (.iload_n 1, 1) := by decide +kernel
theorem dX5_add_34 : decode cX5_add 34 = .ok (.iastore, 1) := by decide +kernel
theorem dX5_add_35 : decode cX5_add 35 = .ok (.aload_n 0, 1) := by decide +kernel
theorem dX5_add_36 : decode cX5_add 36 = .ok (.dup, 1) := by decide +kernel
theorem dX5_add_37 : decode cX5_add 37 = .ok (.getfield 15, 3) := by decide +kernel
theorem dX5_add_40 : decode cX5_add 40 = .ok (.iconst 1, 1) := by decide +kernel
theorem dX5_add_41 : decode cX5_add 41 = .ok (.iadd, 1) := by decide +kernel
theorem dX5_add_42 : decode cX5_add 42 = .ok (.putfield 15, 3) := by decide +kernel
theorem dX5_add_45 : decode cX5_add 45 = .ok (.return_, 1) := by decide +kernel
theorem dX6_init_0 : decode cX6_init 0 = .ok (.aload_n 0, 1) := by decide +kernel
theorem dX6_init_1 : decode cX6_init 1 = .ok (.invokespecial 3, 3) := by decide +kernel
theorem dX6_init_4 : decode cX6_init 4 = .ok (.aload_n 0, 1) := by decide +kernel
theorem dX6_init_5 : decode cX6_init 5 = .ok (.bipush 6, 2) := by decide +kernel
theorem dX6_init_7 : decode cX6_init 7 = .ok (.newarray .int, 2) := by decide +kernel
theorem dX6_init_9 : decode cX6_init 9 = .ok (.putfield 9, 3) := by decide +kernel
theorem dX6_init_12 : decode cX6_init 12 = .ok (.aload_n 0, 1) := by decide +kernel
theorem dX6_init_13 : decode cX6_init 13 = .ok (.bipush 6, 2) := by decide +kernel
theorem dX6_init_15 : decode cX6_init 15 = .ok (.newarray .int, 2) := by decide +kernel
theorem dX6_init_17 : decode cX6_init 17 = .ok (.putfield 15, 3) := by decide +kernel
theorem dX6_init_20 : decode cX6_init 20 = .ok (.aload_n 0, 1) := by decide +kernel
theorem dX6_init_21 : decode cX6_init 21 = .ok (.bipush 6, 2) := by decide +kernel
theorem dX6_init_23 : decode cX6_init 23 = .ok (.newarray .int, 2) := by decide +kernel
theorem dX6_init_25 : decode cX6_init 25 = .ok (.putfield 18, 3) := by decide +kernel
theorem dX6_init_28 : decode cX6_init 28 = .ok (.aload_n 0, 1) := by decide +kernel
theorem dX6_init_29 : decode cX6_init 29 = .ok (.bipush 6, 2) := by decide +kernel
theorem dX6_init_31 : decode cX6_init 31 = .ok (.newarray .int, 2) := by decide +kernel
theorem dX6_init_33 : decode cX6_init 33 = .ok (.putfield 21, 3) := by decide +kernel
theorem dX6_init_36 : decode cX6_init 36 = .ok (.aload_n 0, 1) := by decide +kernel
theorem dX6_init_37 : decode cX6_init 37 = .ok (.iconst 1, 1) := by decide +kernel
theorem dX6_init_38 : decode cX6_init 38 = .ok (.putfield 24, 3) := by decide +kernel
theorem dX6_init_41 : decode cX6_init 41 = .ok (.aload_n 0, 1) := by decide +kernel
theorem dX6_init_42 : decode cX6_init 42 = .ok (.aload_n 1, 1) := by decide +kernel
theorem dX6_init_43 : decode cX6_init 43 = .ok (.putfield 28, 3) := by decide +kernel
theorem dX6_init_46 : decode cX6_init 46 = .ok (.return_, 1) := by decide +kernel
theorem dX6_wanted_0 : decode cX6_wanted 0 = .ok (.iconst 0, 1) := by decide +kernel
theorem dX6_wanted_1 : decode cX6_wanted 1 = .ok (.aload_n 0, 1) := by decide +kernel
theorem dX6_wanted_2 : decode cX6_wanted 2 = .ok (.getfield 15, 3) := by decide +kernel
theorem dX6_wanted_5 : decode cX6_wanted 5 = .ok (.iload_n 1, 1) := by decide +kernel
theorem dX6_wanted_6 : decode cX6_wanted 6 = .ok (.iaload, 1) := by decide +kernel
theorem dX6_wanted_7 : decode cX6_wanted 7 = .ok (.aload_n 0, 1) := by decide +kernel
theorem dX6_wanted_8 : decode cX6_wanted 8 = .ok (.getfield 18, 3) := by decide +kernel
theorem dX6_wanted_11 : decode cX6_wanted 11 = .ok (.iload_n 1, 1) := by decide +kernel
theorem dX6_wanted_12 : decode cX6_wanted 12 = .ok (.iaload, 1) := by decide +kernel
theorem dX6_wanted_13 : decode cX6_wanted 13 = .ok (.isub, 1) := by decide +kernel
theorem dX6_wanted_14 : decode cX6_wanted 14 = .ok (.invokestatic 32, 3) := by decide +kernel
theorem dX6_wanted_17 : decode cX6_wanted 17 = .ok (.ireturn, 1) := by decide +kernel
theorem dX6_isAnyDone_0 : decode cX6_isAnyDone 0 = .ok (.iconst 0, 1) := by decide +kernel
theorem dX6_isAnyDone_1 : decode cX6_isAnyDone 1 = .ok (.istore_n 1, 1) := by decide +kernel
theorem dX6_isAnyDone_2 : decode cX6_isAnyDone 2 = .ok (.iload_n 1, 1) := by decide +kernel
theorem dX6_isAnyDone_3 : decode cX6_isAnyDone 3 = .ok (.aload_n 0, 1) := by decide +kernel
theorem dX6_isAnyDone_4 : decode cX6_isAnyDone 4 = .ok (.getfield 28, 3) := by decide +kernel
theorem dX6_isAnyDone_7 : decode cX6_isAnyDone 7 = .ok (.getfield 38, 3) := by decide +kernel
theorem dX6_isAnyDone_10 : decode cX6_isAnyDone 10 = .ok (.if_icmp .ge 20, 3) := by decide +kernel
theorem dX6_isAnyDone_13 : decode cX6_isAnyDone 13 = .ok (.aload_n 0, 1) := by decide +kernel
theorem dX6_isAnyDone_14 : decode cX6_isAnyDone 14 = .ok (.getfield 18, 3) := by decide +kernel
theorem dX6_isAnyDone_17 : decode cX6_isAnyDone 17 = .ok (.iload_n 1, 1) := by decide +kernel
theorem dX6_isAnyDone_18 : decode cX6_isAnyDone 18 = .ok (.iaload, 1) := by decide +kernel
theorem dX6_isAnyDone_19 : decode cX6_isAnyDone 19 = .ok (.ifCond .le 5, 3) := by decide +kernel
theorem dX6_isAnyDone_22 : decode cX6_isAnyDone 22 = .ok (.iconst 1, 1) := by decide +kernel
theorem dX6_isAnyDone_23 : decode cX6_isAnyDone 23 = .ok (.ireturn, 1) := by decide +kernel
theorem dX6_isAnyDone_24 : decode cX6_isAnyDone 24 = .ok (.iinc 1 1, 3) := by decide +kernel
theorem dX6_isAnyDone_27 : decode cX6_isAnyDone 27 = .ok (.goto (-25), 3) := by decide +kernel
theorem dX6_isAnyDone_30 : decode cX6_isAnyDone 30 = .ok (.iconst 0, 1) := by decide +kernel
theorem dX6_isAnyDone_31 : decode cX6_isAnyDone 31 = .ok (.ireturn, 1) := by decide +kernel
set_option maxRecDepth 20000 in
theorem ggX6_addDone_X0_ofWidth : GoodIn wsX6_addDone wsX0_ofWidth := goodIn_r _ [7] (by decide +kernel) (by decide +kernel)
set_option maxRecDepth 20000 in
theorem gX6_addDone_X0_ofWidth : GoodIn wsX6_addDone (va_wsS RX6 43 yX0_ofWidth wsX0_ofWidth) := goodIn_app (goodIn_of _ (by decide +kernel)) ggX6_addDone_X0_ofWidth
theorem dX6_addDone_0 : decode cX6_addDone 0 = .ok (.iconst 0, 1) := by decide +kernel
theorem dX6_addDone_1 : decode cX6_addDone 1 = .ok (.istore_n 3, 1) := by decide +kernel
theorem dX6_addDone_2 : decode cX6_addDone 2 = .ok (.iload_n 3, 1) := by decide +kernel
theorem dX6_addDone_3 : decode cX6_addDone 3 = .ok (.aload_n 0, 1) := by decide +kernel
theorem dX6_addDone_4 : decode cX6_addDone 4 = .ok (.getfield 28, 3) := by decide +kernel
theorem dX6_addDone_7 : decode cX6_addDone 7 = .ok (.getfield 38, 3) := by decide +kernel
theorem dX6_addDone_10 : decode cX6_addDone 10 = .ok (.if_icmp .ge 25, 3) := by decide +kernel
theorem dX6_addDone_13 : decode cX6_addDone 13 = .ok (.aload_n 0, 1) := by decide +kernel
theorem dX6_addDone_14 : decode cX6_addDone 14 = .ok (.getfield 18, 3) := by decide +kernel
theorem dX6_addDone_17 : decode cX6_addDone 17 = .ok (.iload_n 3, 1) := by decide +kernel
theorem dX6_addDone_18 : decode cX6_addDone 18 = .ok (.dup2, 1) := by decide +kernel
theorem dX6_addDone_19 : decode cX6_addDone 19 = .ok (.iaload, 1) := by decide +kernel
theorem dX6_addDone_20 : decode cX6_addDone 20 = .ok (.iload_n 1, 1) := by decide +kernel
theorem dX6_addDone_21 : decode cX6_addDone 21 = .ok (.iload_n 3, 1) := by decide +kernel
theorem dX6_addDone_22 : decode cX6_addDone 22 = .ok (.invokestatic 43, 3) := by decide +kernel
theorem dX6_addDone_25 : decode cX6_addDone 25 = .ok (.iload_n 2, 1) := by decide +kernel
theorem dX6_addDone_26 : decode cX6_addDone 26 = .ok (.imul, 1) := by decide +kernel
theorem dX6_addDone_27 : decode cX6_addDone 27 = .ok (.iadd, 1) := by decide +kernel
theorem dX6_addDone_28 : decode cX6_addDone 28 = .ok (.iastore, 1) := by decide +kernel
theorem dX6_addDone_29 : decode cX6_addDone 29 = .ok (.iinc 3 1, 3) := by decide +kernel
theorem dX6_addDone_32 : decode cX6_addDone 32 = .ok (.goto (-30), 3) := by decide +kernel
theorem dX6_addDone_35 : decode cX6_addDone 35 = .ok (.return_, 1) := by decide +kernel
set_option maxRecDepth 20000 in
theorem ggX6_worthOf_X0_ofWidth : GoodIn wsX6_worthOf wsX0_ofWidth := goodIn_r _ [7] (by decide +kernel) (by decide +kernel)
set_option maxRecDepth 20000 in
theorem gX6_worthOf_X0_ofWidth : GoodIn wsX6_worthOf (va_wsS RX6 43 yX0_ofWidth wsX0_ofWidth) := goodIn_app (goodIn_of _ (by decide +kernel)) ggX6_worthOf_X0_ofWidth
theorem dX6_worthOf_0 : decode cX6_worthOf 0 = .ok (.iconst 0, 1) := by decide +kernel
theorem dX6_worthOf_1 : decode cX6_worthOf 1 = .ok (.istore_n 2, 1) := by decide +kernel
theorem dX6_worthOf_2 : decode cX6_worthOf 2 = .ok (.iconst 0, 1) := by decide +kernel
theorem dX6_worthOf_3 : decode cX6_worthOf 3 = .ok (.istore_n 3, 1) := by decide +kernel
theorem dX6_worthOf_4 : decode cX6_worthOf 4 = .ok (.iload_n 3, 1) := by decide +kernel
theorem dX6_worthOf_5 : decode cX6_worthOf 5 = .ok (.aload_n 0, 1) := by decide +kernel
theorem dX6_worthOf_6 : decode cX6_worthOf 6 = .ok (.getfield 28, 3) := by decide +kernel
theorem dX6_worthOf_9 : decode cX6_worthOf 9 = .ok (.getfield 38, 3) := by decide +kernel
theorem dX6_worthOf_12 : decode cX6_worthOf 12 = .ok (.if_icmp .ge 24, 3) := by decide +kernel
theorem dX6_worthOf_15 : decode cX6_worthOf 15 = .ok (.iload_n 2, 1) := by decide +kernel
theorem dX6_worthOf_16 : decode cX6_worthOf 16 = .ok (.iload_n 1, 1) := by decide +kernel
theorem dX6_worthOf_17 : decode cX6_worthOf 17 = .ok (.iload_n 3, 1) := by decide +kernel
theorem dX6_worthOf_18 : decode cX6_worthOf 18 = .ok (.invokestatic 43, 3) := by decide +kernel
theorem dX6_worthOf_21 : decode cX6_worthOf 21 = .ok (.aload_n 0, 1) := by decide +kernel
theorem dX6_worthOf_22 : decode cX6_worthOf 22 = .ok (.getfield 21, 3) := by decide +kernel
theorem dX6_worthOf_25 : decode cX6_worthOf 25 = .ok (.iload_n 3, 1) := by decide +kernel
theorem dX6_worthOf_26 : decode cX6_worthOf 26 = .ok (.iaload, 1) := by decide +kernel
theorem dX6_worthOf_27 : decode cX6_worthOf 27 = .ok (.imul, 1) := by decide +kernel
theorem dX6_worthOf_28 : decode cX6_worthOf 28 = .ok (.iadd, 1) := by decide +kernel
theorem dX6_worthOf_29 : decode cX6_worthOf 29 = .ok (.istore_n 2, 1) := by decide +kernel
theorem dX6_worthOf_30 : decode cX6_worthOf 30 = .ok (.iinc 3 1, 3) := by decide +kernel
theorem dX6_worthOf_33 : decode cX6_worthOf 33 = .ok (.goto (-29), 3) := by decide +kernel
theorem dX6_worthOf_36 : decode cX6_worthOf 36 = .ok (.iload_n 2, 1) := by decide +kernel
theorem dX6_worthOf_37 : decode cX6_worthOf 37 = .ok (.ireturn, 1) := by decide +kernel
set_option maxRecDepth 20000 in
theorem ggX6_worthOfWanted_X6_wanted : GoodIn wsX6_worthOfWanted wsX6_wanted := goodIn_r _ [8, 9, 10, 11, 12, 13, 14, 15, 16, 17, 18, 19, 20] (by decide +kernel) (by decide +kernel)
set_option maxRecDepth 20000 in
theorem gX6_worthOfWanted_X6_wanted : GoodIn wsX6_worthOfWanted (wsV RX6 48 RX6 yX6_wanted wsX6_wanted) := goodIn_app (goodIn_of _ (by decide +kernel)) ggX6_worthOfWanted_X6_wanted
theorem dX6_worthOfWanted_0 : decode cX6_worthOfWanted 0 = .ok (.iconst 0, 1) := by decide +kernel
theorem dX6_worthOfWanted_1 : decode cX6_worthOfWanted 1 = .ok (.istore_n 1, 1) := by decide +kernel
theorem dX6_worthOfWanted_2 : decode cX6_worthOfWanted 2 = .ok (.iconst 0, 1) := by decide +kernel
theorem dX6_worthOfWanted_3 : decode cX6_worthOfWanted 3 = .ok (.istore_n 2, 1) := by decide +kernel
theorem dX6_worthOfWanted_4 : decode cX6_worthOfWanted 4 = .ok (.iload_n 2, 1) := by decide +kernel
theorem dX6_worthOfWanted_5 : decode cX6_worthOfWanted 5 = .ok (.aload_n 0, 1) := by decide +kernel
theorem dX6_worthOfWanted_6 : decode cX6_worthOfWanted 6 = .ok (.getfield 28, 3) := by decide +kernel
theorem dX6_worthOfWanted_9 : decode cX6_worthOfWanted 9 = .ok (.getfield 38, 3) := by decide +kernel
theorem dX6_worthOfWanted_12 : decode cX6_worthOfWanted 12 = .ok (.if_icmp .ge 24, 3) := by decide +kernel
theorem dX6_worthOfWanted_15 : decode cX6_worthOfWanted 15 = .ok (.iload_n 1, 1) := by decide +kernel
theorem dX6_worthOfWanted_16 : decode cX6_worthOfWanted 16 = .ok (.aload_n 0, 1) := by decide +kernel
theorem dX6_worthOfWanted_17 : decode cX6_worthOfWanted 17 = .ok (.iload_n 2, 1) := by decide +kernel
theorem dX6_worthOfWanted_18 : decode cX6_worthOfWanted 18 = .ok (.invokevirtual 48, 3) := by decide +kernel
theorem dX6_worthOfWanted_21 : decode cX6_worthOfWanted 21 = .ok (.aload_n 0, 1) := by decide +kernel
theorem dX6_worthOfWanted_22 : decode cX6_worthOfWanted 22 = .ok (.getfield 21, 3) := by decide +kernel
theorem dX6_worthOfWanted_25 : decode cX6_worthOfWanted 25 = .ok (.iload_n 2, 1) := by decide +kernel
theorem dX6_worthOfWanted_26 : decode cX6_worthOfWanted 26 = .ok (.iaload, 1) := by decide +kernel
theorem dX6_worthOfWanted_27 : decode cX6_worthOfWanted 27 = .ok (.imul, 1) := by decide +kernel
theorem dX6_worthOfWanted_28 : decode cX6_worthOfWanted 28 = .ok (.iadd, 1) := by decide +kernel
theorem dX6_worthOfWanted_29 : decode cX6_worthOfWanted 29 = .ok (.istore_n 1, 1) := by decide +kernel
theorem dX6_worthOfWanted_30 : decode cX6_worthOfWanted 30 = .ok (.iinc 2 1, 3) := by decide +kernel
theorem dX6_worthOfWanted_33 : decode cX6_worthOfWanted 33 = .ok (.goto (-29), 3) := by decide +kernel
theorem dX6_worthOfWanted_36 : decode cX6_worthOfWanted 36 = .ok (.iload_n 1, 1) := by decide +kernel
theorem dX6_worthOfWanted_37 : decode cX6_worthOfWanted 37 = .ok (.ireturn, 1) := by decide +kernel
set_option maxRecDepth 20000 in
theorem ggX6_startOpen_X6_wanted : GoodIn wsX6_startOpen wsX6_wanted := goodIn_r _ [8, 9, 10, 11, 12, 13, 14, 15, 16, 17, 18, 19, 20] (by decide +kernel) (by decide +kernel)
set_option maxRecDepth 20000 in
theorem gX6_startOpen_X6_wanted : GoodIn wsX6_startOpen (wsV RX6 48 RX6 yX6_wanted wsX6_wanted) := goodIn_app (goodIn_of _ (by decide +kernel)) ggX6_startOpen_X6_wanted
theorem dX6_startOpen_0 : decode cX6_startOpen 0 = .ok (.iconst 0, 1) := by decide +kernel
theorem dX6_startOpen_1 : decode cX6_startOpen 1 = .ok (.istore_n 1, 1) := by decide +kernel
theorem dX6_startOpen_2 : decode cX6_startOpen 2 = .ok (.iload_n 1, 1) := by decide +kernel
theorem dX6_startOpen_3 : decode cX6_startOpen 3 = .ok (.aload_n 0, 1) := by decide +kernel
theorem dX6_startOpen_4 : decode cX6_startOpen 4 = .ok (.getfield 28, 3) := by decide +kernel
theorem dX6_startOpen_7 : decode cX6_startOpen 7 = .ok (.getfield 38, 3) := by decide +kernel
theorem dX6_startOpen_10 : decode cX6_startOpen 10 = .ok (.if_icmp .ge 20, 3) := by decide +kernel
theorem dX6_startOpen_13 : decode cX6_startOpen 13 = .ok (.aload_n 0, 1) := by decide +kernel
theorem dX6_startOpen_14 : decode cX6_startOpen 14 = .ok (.getfield 9, 3) := by decide +kernel
theorem dX6_startOpen_17 : decode cX6_startOpen 17 = .ok (.iload_n 1, 1) := by decide +kernel
theorem dX6_startOpen_18 : decode cX6_startOpen 18 = .ok (.aload_n 0, 1) := by decide +kernel
theorem dX6_startOpen_19 : decode cX6_startOpen 19 = .ok (.iload_n 1, 1) := by decide +kernel
theorem dX6_startOpen_20 : decode cX6_startOpen 20 = .ok (.invokevirtual 48, 3) := by decide +kernel
theorem dX6_startOpen_23 : decode cX6_startOpen 23 = .ok (.iastore, 1) := by decide +kernel
theorem dX6_startOpen_24 : decode cX6_startOpen 24 = .ok (.iinc 1 1, 3) := by decide +kernel
theorem dX6_startOpen_27 : decode cX6_startOpen 27 = .ok (.goto (-25), 3) := by decide +kernel
theorem dX6_startOpen_30 : decode cX6_startOpen 30 = .ok (.return_, 1) := by decide +kernel
theorem dX6_isAnyOpen_0 : decode cX6_isAnyOpen 0 = .ok (.iconst 0, 1) := by decide +kernel
theorem dX6_isAnyOpen_1 : decode cX6_isAnyOpen 1 = .ok (.istore_n 1, 1) := by decide +kernel
theorem dX6_isAnyOpen_2 : decode cX6_isAnyOpen 2 = .ok (.iload_n 1, 1) := by decide +kernel
theorem dX6_isAnyOpen_3 : decode cX6_isAnyOpen 3 = .ok (.aload_n 0, 1) := by decide +kernel
theorem dX6_isAnyOpen_4 : decode cX6_isAnyOpen 4 = .ok (.getfield 28, 3) := by decide +kernel
theorem dX6_isAnyOpen_7 : decode cX6_isAnyOpen 7 = .ok (.getfield 38, 3) := by decide +kernel
theorem dX6_isAnyOpen_10 : decode cX6_isAnyOpen 10 = .ok (.if_icmp .ge 20, 3) := by decide +kernel
theorem dX6_isAnyOpen_13 : decode cX6_isAnyOpen 13 = .ok (.aload_n 0, 1) := by decide +kernel
theorem dX6_isAnyOpen_14 : decode cX6_isAnyOpen 14 = .ok (.getfield 9, 3) := by decide +kernel
theorem dX6_isAnyOpen_17 : decode cX6_isAnyOpen 17 = .ok (.iload_n 1, 1) := by decide +kernel
theorem dX6_isAnyOpen_18 : decode cX6_isAnyOpen 18 = .ok (.iaload, 1) := by decide +kernel
theorem dX6_isAnyOpen_19 : decode cX6_isAnyOpen 19 = .ok (.ifCond .le 5, 3) := by decide +kernel
theorem dX6_isAnyOpen_22 : decode cX6_isAnyOpen 22 = .ok (.iconst 1, 1) := by decide +kernel
theorem dX6_isAnyOpen_23 : decode cX6_isAnyOpen 23 = .ok (.ireturn, 1) := by decide +kernel
theorem dX6_isAnyOpen_24 : decode cX6_isAnyOpen 24 = .ok (.iinc 1 1, 3) := by decide +kernel
theorem dX6_isAnyOpen_27 : decode cX6_isAnyOpen 27 = .ok (.goto (-25), 3) := by decide +kernel
theorem dX6_isAnyOpen_30 : decode cX6_isAnyOpen 30 = .ok (.iconst 0, 1) := by decide +kernel
theorem dX6_isAnyOpen_31 : decode cX6_isAnyOpen 31 = .ok (.ireturn, 1) := by decide +kernel
set_option maxRecDepth 20000 in
theorem ggX6_takeGreedily_X4_room : GoodIn wsX6_takeGreedily wsX4_room := goodIn_r _ [15, 16, 17, 31, 32, 33, 34, 35, 36, 37, 38] (by decide +kernel) (by decide +kernel)
set_option maxRecDepth 20000 in
theorem gX6_takeGreedily_X4_room : GoodIn wsX6_takeGreedily (wsV RX6 52 RX4 yX4_room wsX4_room) := goodIn_app (goodIn_of _ (by decide +kernel)) ggX6_takeGreedily_X4_room
set_option maxRecDepth 20000 in
theorem ggX6_takeGreedily_X10_quotient : GoodIn wsX6_takeGreedily wsX10_quotient := goodIn_r _ [20] (by decide +kernel) (by decide +kernel)
set_option maxRecDepth 20000 in
theorem gX6_takeGreedily_X10_quotient_n65 : GoodIn wsX6_takeGreedily (wsX10_quotient) := ggX6_takeGreedily_X10_quotient
set_option maxRecDepth 20000 in
theorem ggX6_takeGreedily_X0_packed : GoodIn wsX6_takeGreedily wsX0_packed := goodIn_r _ [24] (by decide +kernel) (by decide +kernel)
set_option maxRecDepth 20000 in
theorem gX6_takeGreedily_X0_packed : GoodIn wsX6_takeGreedily (va_wsS RX6 71 yX0_packed wsX0_packed) := goodIn_app (goodIn_of _ (by decide +kernel)) ggX6_takeGreedily_X0_packed
theorem dX6_takeGreedily_0 : decode cX6_takeGreedily 0 = .ok (.iconst 0, 1) := by decide +kernel
theorem dX6_takeGreedily_1 : decode cX6_takeGreedily 1 = .ok (.istore_n 1, 1) := by decide +kernel
theorem dX6_takeGreedily_2 : decode cX6_takeGreedily 2 = .ok (.aload_n 0, 1) := by decide +kernel
theorem dX6_takeGreedily_3 : decode cX6_takeGreedily 3 = .ok (.getfield 28, 3) := by decide +kernel
theorem dX6_takeGreedily_6 : decode cX6_takeGreedily 6 = .ok (.invokevirtual 52, 3) := by decide +kernel
theorem dX6_takeGreedily_9 : decode cX6_takeGreedily 9 = .ok (.istore_n 2, 1) := by decide +kernel
theorem dX6_takeGreedily_10 : decode cX6_takeGreedily 10 = .ok (.aload_n 0, 1) := by decide +kernel
theorem dX6_takeGreedily_11 : decode cX6_takeGreedily 11 = .ok (.getfield 28, 3) := by decide +kernel
theorem dX6_takeGreedily_14 : decode cX6_takeGreedily 14 = .ok (.getfield 56, 3) := by decide +kernel
theorem dX6_takeGreedily_17 : decode cX6_takeGreedily 17 = .ok (.istore_n 3, 1) := by decide +kernel
theorem dX6_takeGreedily_18 : decode cX6_takeGreedily 18 = .ok (.iconst 0, 1) := by decide +kernel
theorem dX6_takeGreedily_19 : decode cX6_takeGreedily 19 = .ok (.istore 4, 2) := by decide +kernel
theorem dX6_takeGreedily_21 : decode cX6_takeGreedily 21 = .ok (.iload 4, 2) := by decide +kernel
theorem dX6_takeGreedily_23 : decode cX6_takeGreedily 23 = .ok (.aload_n 0, 1) := by decide +kernel
theorem dX6_takeGreedily_24 : decode cX6_takeGreedily 24 = .ok (.getfield 28, 3) := by decide +kernel
theorem dX6_takeGreedily_27 : decode cX6_takeGreedily 27 = .ok (.getfield 38, 3) := by decide +kernel
theorem dX6_takeGreedily_30 : decode cX6_takeGreedily 30 = .ok (.if_icmp .ge 94, 3) := by decide +kernel
theorem dX6_takeGreedily_33 : decode cX6_takeGreedily 33 = .ok (.aload_n 0, 1) := by decide +kernel
theorem dX6_takeGreedily_34 : decode cX6_takeGreedily 34 = .ok (.getfield 28, 3) := by decide +kernel
theorem dX6_takeGreedily_37 : decode cX6_takeGreedily 37 = .ok (.getfield 59, 3) := by decide +kernel
theorem dX6_takeGreedily_40 : decode cX6_takeGreedily 40 = .ok (.iload 4, 2) := by decide +kernel
theorem dX6_takeGreedily_42 : decode cX6_takeGreedily 42 = .ok (.iaload, 1) := by decide +kernel
theorem dX6_takeGreedily_43 : decode cX6_takeGreedily 43 = .ok (.istore 5, 2) := by decide +kernel
theorem dX6_takeGreedily_45 : decode cX6_takeGreedily 45 = .ok (.aload_n 0, 1) := by decide +kernel
theorem dX6_takeGreedily_46 : decode cX6_takeGreedily 46 = .ok (.getfield 9, 3) := by decide +kernel
theorem dX6_takeGreedily_49 : decode cX6_takeGreedily 49 = .ok (.iload 5, 2) := by decide +kernel
theorem dX6_takeGreedily_51 : decode cX6_takeGreedily 51 = .ok (.iaload, 1) := by decide +kernel
theorem dX6_takeGreedily_52 : decode cX6_takeGreedily 52 = .ok (.iload_n 3, 1) := by decide +kernel
theorem dX6_takeGreedily_53 : decode cX6_takeGreedily 53 = .ok (.iload_n 2, 1) := by decide +kernel
theorem dX6_takeGreedily_54 : decode cX6_takeGreedily 54 = .ok (.aload_n 0, 1) := by decide +kernel
theorem dX6_takeGreedily_55 : decode cX6_takeGreedily 55 = .ok (.getfield 28, 3) := by decide +kernel
theorem dX6_takeGreedily_58 : decode cX6_takeGreedily 58 = .ok (.getfield 62, 3) := by decide +kernel
theorem dX6_takeGreedily_61 : decode cX6_takeGreedily 61 = .ok (.iload 5, 2) := by decide +kernel
theorem dX6_takeGreedily_63 : decode cX6_takeGreedily 63 = .ok (.iaload, 1) := by decide +kernel
theorem dX6_takeGreedily_64 : decode cX6_takeGreedily 64 = .ok (.invokestatic 65, 3) := by decide +kernel
theorem dX6_takeGreedily_67 : decode cX6_takeGreedily 67 = .ok (.invokestatic 68, 3) := by decide +kernel
theorem dX6_takeGreedily_70 : decode cX6_takeGreedily 70 = .ok (.invokestatic 68, 3) := by decide +kernel
theorem dX6_takeGreedily_73 : decode cX6_takeGreedily 73 = .ok (.istore 6, 2) := by decide +kernel
theorem dX6_takeGreedily_75 : decode cX6_takeGreedily 75 = .ok (.aload_n 0, 1) := by decide +kernel
theorem dX6_takeGreedily_76 : decode cX6_takeGreedily 76 = .ok (.getfield 9, 3) := by decide +kernel
theorem dX6_takeGreedily_79 : decode cX6_takeGreedily 79 = .ok (.iload 5, 2) := by decide +kernel
theorem dX6_takeGreedily_81 : decode cX6_takeGreedily 81 = .ok (.dup2, 1) := by decide +kernel
theorem dX6_takeGreedily_82 : decode cX6_takeGreedily 82 = .ok (.iaload, 1) := by decide +kernel
theorem dX6_takeGreedily_83 : decode cX6_takeGreedily 83 = .ok (.iload 6, 2) := by decide +kernel
theorem dX6_takeGreedily_85 : decode cX6_takeGreedily 85 = .ok (.isub, 1) := by decide +kernel
theorem dX6_takeGreedily_86 : decode cX6_takeGreedily 86 = .ok (.iastore, 1) := by decide +kernel
theorem dX6_takeGreedily_87 : decode cX6_takeGreedily 87 = .ok (.iload_n 2, 1) := by decide +kernel
theorem dX6_takeGreedily_88 : decode cX6_takeGreedily 88 = .ok (.iload 6, 2) := by decide +kernel
theorem dX6_takeGreedily_90 : decode cX6_takeGreedily 90 = .ok (.aload_n 0, 1) := by decide +kernel
theorem dX6_takeGreedily_91 : decode cX6_takeGreedily 91 = .ok (.getfield 28, 3) := by decide +kernel
theorem dX6_takeGreedily_94 : decode cX6_takeGreedily 94 = .ok (.getfield 62, 3) := by decide +kernel
theorem dX6_takeGreedily_97 : decode cX6_takeGreedily 97 = .ok (.iload 5, 2) := by decide +kernel
theorem dX6_takeGreedily_99 : decode cX6_takeGreedily 99 = .ok (.iaload, 1) := by decide +kernel
theorem dX6_takeGreedily_100 : decode cX6_takeGreedily 100 = .ok (.imul, 1) := by decide +kernel
theorem dX6_takeGreedily_101 : decode cX6_takeGreedily 101 = .ok (.isub, 1) := by decide +kernel
theorem dX6_takeGreedily_102 : decode cX6_takeGreedily 102 = .ok (.istore_n 2, 1) := by decide +kernel
theorem dX6_takeGreedily_103 : decode cX6_takeGreedily 103 = .ok (.iload_n 3, 1) := by decide +kernel
theorem dX6_takeGreedily_104 : decode cX6_takeGreedily 104 = .ok (.iload 6, 2) := by decide +kernel
theorem dX6_takeGreedily_106 : decode cX6_takeGreedily 106 = .ok (.isub, 1) := by decide +kernel
theorem dX6_takeGreedily_107 : decode cX6_takeGreedily 107 = .ok (.istore_n 3, 1) := by decide +kernel
theorem dX6_takeGreedily_108 : decode cX6_takeGreedily 108 = .ok (.iload_n 1, 1) := by decide +kernel
theorem dX6_takeGreedily_109 : decode cX6_takeGreedily 109 = .ok (.iload 5, 2) := by decide +kernel
theorem dX6_takeGreedily_111 : decode cX6_takeGreedily 111 = .ok (.iload 6, 2) := by decide +kernel
theorem dX6_takeGreedily_113 : decode cX6_takeGreedily 113 = .ok (.invokestatic 71, 3) := by decide +kernel
theorem dX6_takeGreedily_116 : decode cX6_takeGreedily 116 = .ok (.ior, 1) := by decide +kernel
theorem dX6_takeGreedily_117 : decode cX6_takeGreedily 117 = .ok (.istore_n 1, 1) := by decide +kernel
theorem dX6_takeGreedily_118 : decode cX6_takeGreedily 118 = .ok (.iinc 4 1, 3) := by decide +kernel
theorem dX6_takeGreedily_121 : decode cX6_takeGreedily 121 = .ok (.goto (-100), 3) := by decide +kernel
theorem dX6_takeGreedily_124 : decode cX6_takeGreedily 124 = .ok (.iload_n 1, 1) := by decide +kernel
theorem dX6_takeGreedily_125 : decode cX6_takeGreedily 125 = .ok (.ireturn, 1) := by decide +kernel
theorem dX7_init_0 : decode cX7_init 0 = .ok (.aload_n 0, 1) := by decide +kernel
theorem dX7_init_1 : decode cX7_init 1 = .ok (.invokespecial 3, 3) := by decide +kernel
theorem dX7_init_4 : decode cX7_init 4 = .ok (.aload_n 0, 1) := by decide +kernel
theorem dX7_init_5 : decode cX7_init 5 = .ok (.bipush 6, 2) := by decide +kernel
theorem dX7_init_7 : decode cX7_init 7 = .ok (.newarray .int, 2) := by decide +kernel
theorem dX7_init_9 : decode cX7_init 9 = .ok (.putfield 9, 3) := by decide +kernel
theorem dX7_init_12 : decode cX7_init 12 = .ok (.aload_n 0, 1) := by decide +kernel
theorem dX7_init_13 : decode cX7_init 13 = .ok (.bipush 6, 2) := by decide +kernel
theorem dX7_init_15 : decode cX7_init 15 = .ok (.newarray .int, 2) := by decide +kernel
theorem dX7_init_17 : decode cX7_init 17 = .ok (.putfield 15, 3) := by decide +kernel
theorem dX7_init_20 : decode cX7_init 20 = .ok (.aload_n 0, 1) := by decide +kernel
theorem dX7_init_21 : decode cX7_init 21 = .ok (.bipush 6, 2) := by decide +kernel
theorem dX7_init_23 : decode cX7_init 23 = .ok (.newarray .int, 2) := by decide +kernel
theorem dX7_init_25 : decode cX7_init 25 = .ok (.putfield 18, 3) := by decide +kernel
theorem dX7_init_28 : decode cX7_init 28 = .ok (.aload_n 0, 1) := by decide +kernel
theorem dX7_init_29 : decode cX7_init 29 = .ok (.sipush 5000, 3) := by decide +kernel
theorem dX7_init_32 : decode cX7_init 32 = .ok (.newarray .int, 2) := by decide +kernel
theorem dX7_init_34 : decode cX7_init 34 = .ok (.putfield 21, 3) := by decide +kernel
theorem dX7_init_37 : decode cX7_init 37 = .ok (.aload_n 0, 1) := by decide +kernel
theorem dX7_init_38 : decode cX7_init 38 = .ok (.sipush 3000, 3) := by decide +kernel
theorem dX7_init_41 : decode cX7_init 41 = .ok (.newarray .int, 2) := by decide +kernel
theorem dX7_init_43 : decode cX7_init 43 = .ok (.putfield 24, 3) := by decide +kernel
theorem dX7_init_46 : decode cX7_init 46 = .ok (.aload_n 0, 1) := by decide +kernel
theorem dX7_init_47 : decode cX7_init 47 = .ok (.iconst 1, 1) := by decide +kernel
theorem dX7_init_48 : decode cX7_init 48 = .ok (.putfield 27, 3) := by decide +kernel
theorem dX7_init_51 : decode cX7_init 51 = .ok (.aload_n 0, 1) := by decide +kernel
theorem dX7_init_52 : decode cX7_init 52 = .ok (.iconst 0, 1) := by decide +kernel
theorem dX7_init_53 : decode cX7_init 53 = .ok (.putfield 31, 3) := by decide +kernel
theorem dX7_init_56 : decode cX7_init 56 = .ok (.aload_n 0, 1) := by decide +kernel
theorem dX7_init_57 : decode cX7_init 57 = .ok (.iconst 0, 1) := by decide +kernel
theorem dX7_init_58 : decode cX7_init 58 = .ok (.putfield 34, 3) := by decide +kernel
theorem dX7_init_61 : decode cX7_init 61 = .ok (.aload_n 0, 1) := by decide +kernel
theorem dX7_init_62 : decode cX7_init 62 = .ok (.aload_n 1, 1) := by decide +kernel
theorem dX7_init_63 : decode cX7_init 63 = .ok (.putfield 37, 3) := by decide +kernel
theorem dX7_init_66 : decode cX7_init 66 = .ok (.return_, 1) := by decide +kernel
set_option maxRecDepth 20000 in
theorem ggX7_start_X6_wanted : GoodIn wsX7_start wsX6_wanted := goodIn_r _ [11, 12, 13, 14, 15, 16, 17, 35, 36, 37, 38, 39, 40] (by decide +kernel) (by decide +kernel)
set_option maxRecDepth 20000 in
theorem gX7_start_X6_wanted : GoodIn wsX7_start (wsV RX7 46 RX6 yX6_wanted wsX6_wanted) := goodIn_app (goodIn_of _ (by decide +kernel)) ggX7_start_X6_wanted
theorem dX7_start_0 : decode cX7_start 0 = .ok (.aload_n 0, 1) := by decide +kernel
theorem dX7_start_1 : decode cX7_start 1 = .ok (.iconst 1, 1) := by decide +kernel
theorem dX7_start_2 : decode cX7_start 2 = .ok (.putfield 27, 3) := by decide +kernel
theorem dX7_start_5 : decode cX7_start 5 = .ok (.iconst 0, 1) := by decide +kernel
theorem dX7_start_6 : decode cX7_start 6 = .ok (.istore_n 3, 1) := by decide +kernel
theorem dX7_start_7 : decode cX7_start 7 = .ok (.iload_n 3, 1) := by decide +kernel
theorem dX7_start_8 : decode cX7_start 8 = .ok (.aload_n 0, 1) := by decide +kernel
theorem dX7_start_9 : decode cX7_start 9 = .ok (.getfield 37, 3) := by decide +kernel
theorem dX7_start_12 : decode cX7_start 12 = .ok (.getfield 41, 3) := by decide +kernel
theorem dX7_start_15 : decode cX7_start 15 = .ok (.if_icmp .ge 59, 3) := by decide +kernel
theorem dX7_start_18 : decode cX7_start 18 = .ok (.aload_n 0, 1) := by decide +kernel
theorem dX7_start_19 : decode cX7_start 19 = .ok (.getfield 9, 3) := by decide +kernel
theorem dX7_start_22 : decode cX7_start 22 = .ok (.iload_n 3, 1) := by decide +kernel
theorem dX7_start_23 : decode cX7_start 23 = .ok (.aload_n 1, 1) := by decide +kernel
theorem dX7_start_24 : decode cX7_start 24 = .ok (.iload_n 3, 1) := by decide +kernel
theorem dX7_start_25 : decode cX7_start 25 = .ok (.invokevirtual 46, 3) := by decide +kernel
theorem dX7_start_28 : decode cX7_start 28 = .ok (.iastore, 1) := by decide +kernel
theorem dX7_start_29 : decode cX7_start 29 = .ok (.aload_n 0, 1) := by decide +kernel
theorem dX7_start_30 : decode cX7_start 30 = .ok (.getfield 15, 3) := by decide +kernel
theorem dX7_start_33 : decode cX7_start 33 = .ok (.iload_n 3, 1) := by decide +kernel
theorem dX7_start_34 : decode cX7_start 34 = .ok (.aload_n 0, 1) := by decide +kernel
theorem dX7_start_35 : decode cX7_start 35 = .ok (.getfield 27, 3) := by decide +kernel
theorem dX7_start_38 : decode cX7_start 38 = .ok (.iastore, 1) := by decide +kernel
theorem dX7_start_39 : decode cX7_start 39 = .ok (.aload_n 0, 1) := by decide +kernel
theorem dX7_start_40 : decode cX7_start 40 = .ok (.dup, 1) := by decide +kernel
theorem dX7_start_41 : decode cX7_start 41 = .ok (.getfield 27, 3) := by decide +kernel
theorem dX7_start_44 : decode cX7_start 44 = .ok (.aload_n 0, 1) := by decide +kernel
theorem dX7_start_45 : decode cX7_start 45 = .ok (.getfield 9, 3) := by decide +kernel
theorem dX7_start_48 : decode cX7_start 48 = .ok (.iload_n 3, 1) := by decide +kernel
theorem dX7_start_49 : decode cX7_start 49 = .ok (.iaload, 1) := by decide +kernel
theorem dX7_start_50 : decode cX7_start 50 = .ok (.iconst 1, 1) := by decide +kernel
theorem dX7_start_51 : decode cX7_start 51 = .ok (.iadd, 1) := by decide +kernel
theorem dX7_start_52 : decode cX7_start 52 = .ok (.imul, 1) := by decide +kernel
theorem dX7_start_53 : decode cX7_start 53 = .ok (.putfield 27, 3) := by decide +kernel
theorem dX7_start_56 : decode cX7_start 56 = .ok (.aload_n 0, 1) := by decide +kernel
theorem dX7_start_57 : decode cX7_start 57 = .ok (.getfield 27, 3) := by decide +kernel
theorem dX7_start_60 : decode cX7_start 60 = .ok (.sipush 5000, 3) := by decide +kernel
theorem dX7_start_63 : decode cX7_start 63 = .ok (.if_icmp .le 5, 3) := by decide +kernel
theorem dX7_start_66 : decode cX7_start 66 = .ok (.iconst 0, 1) := by decide +kernel
theorem dX7_start_67 : decode cX7_start 67 = .ok (.ireturn, 1) := by decide +kernel
theorem dX7_start_68 : decode cX7_start 68 = .ok (.iinc 3 1, 3) := by decide +kernel
theorem dX7_start_71 : decode cX7_start 71 = .ok (.goto (-64), 3) := by decide +kernel
theorem dX7_start_74 : decode cX7_start 74 = .ok (.aload_n 0, 1) := by decide +kernel
theorem dX7_start_75 : decode cX7_start 75 = .ok (.getfield 27, 3) := by decide +kernel
theorem dX7_start_78 : decode cX7_start 78 = .ok (.i2l, 1) := by decide +kernel
theorem dX7_start_79 : decode cX7_start 79 = .ok (.iload_n 2, 1) := by decide +kernel
theorem dX7_start_80 : decode cX7_start 80 = .ok (.i2l, 1) := by decide +kernel
theorem dX7_start_81 : decode cX7_start 81 = .ok (.lmul, 1) := by decide +kernel
theorem dX7_start_82 : decode cX7_start 82 = .ok (.ldc2_w 52, 3) := by decide +kernel
theorem dX7_start_85 : decode cX7_start 85 = .ok (.lcmp, 1) := by decide +kernel
theorem dX7_start_86 : decode cX7_start 86 = .ok (.ifCond .gt 7, 3) := by decide +kernel
theorem dX7_start_89 : decode cX7_start 89 = .ok (.iconst 1, 1) := by decide +kernel
theorem dX7_start_90 : decode cX7_start 90 = .ok (.goto 4, 3) := by decide +kernel
theorem dX7_start_93 : decode cX7_start 93 = .ok (.iconst 0, 1) := by decide +kernel
theorem dX7_start_94 : decode cX7_start 94 = .ok (.ireturn, 1) := by decide +kernel
set_option maxRecDepth 20000 in
theorem ggX7_solve_X7_gatherFullest : GoodIn wsX7_solve wsX7_gatherFullest := goodIn_r _ [11, 12, 13, 14, 15, 16, 17, 18, 19, 20, 21, 22, 23, 24, 25, 26, 27, 28, 29, 30, 31, 32, 33, 34, 35, 36, 37, 38, 39, 40, 41, 42, 43, 44, 45, 46, 47, 48, 49, 50, 51, 52, 53, 54, 55, 56, 57, 58, 59, 60, 61, 62, 63, 10, 64, 1, 65, 2, 66, 67, 68, 69, 70, 71, 72, 73, 74, 75, 76, 77, 78, 79, 80, 81, 82, 100, 101, 102, 103, 104, 105, 106, 107, 108, 117, 118, 119, 120, 121, 109, 110, 111, 112, 113, 114, 115, 116] (by decide +kernel) (by decide +kernel)
set_option maxRecDepth 20000 in
theorem gX7_solve_X7_gatherFullest : GoodIn wsX7_solve (wsV RX7 54 RX7 yX7_gatherFullest wsX7_gatherFullest) := goodIn_app (goodIn_of _ (by decide +kernel)) ggX7_solve_X7_gatherFullest
set_option maxRecDepth 20000 in
theorem ggX7_solve_X7_openOneMore : GoodIn wsX7_solve wsX7_openOneMore := goodIn_r _ [86, 1, 2, 3, 66, 100, 101, 102, 103, 104, 105, 106, 107, 108, 109, 110, 111, 112, 113, 114, 115, 116] (by decide +kernel) (by decide +kernel)
set_option maxRecDepth 20000 in
theorem gX7_solve_X7_openOneMore : GoodIn wsX7_solve (wsV RX7 58 RX7 yX7_openOneMore wsX7_openOneMore) := goodIn_app (goodIn_of _ (by decide +kernel)) ggX7_solve_X7_openOneMore
set_option maxRecDepth 20000 in
theorem ggX7_solve_X7_setLeastHere : GoodIn wsX7_solve wsX7_setLeastHere := goodIn_r _ [90, 1, 2, 3, 4, 6, 91, 92, 93, 43, 94, 12, 13, 95, 96, 97, 10, 98, 99, 42, 44, 82, 76, 55, 77, 100, 101, 102, 103, 104, 105, 106, 107, 108, 109, 110, 111, 112, 113, 114, 115, 116] (by decide +kernel) (by decide +kernel)
set_option maxRecDepth 20000 in
theorem gX7_solve_X7_setLeastHere : GoodIn wsX7_solve (wsV RX7 61 RX7 yX7_setLeastHere wsX7_setLeastHere) := goodIn_app (goodIn_of _ (by decide +kernel)) ggX7_solve_X7_setLeastHere
theorem dX7_solve_0 : decode cX7_solve 0 = .ok (.aload_n 0, 1) := by decide +kernel
theorem dX7_solve_1 : decode cX7_solve 1 = .ok (.aload_n 1, 1) := by decide +kernel
theorem dX7_solve_2 : decode cX7_solve 2 = .ok (.invokevirtual 54, 3) := by decide +kernel
theorem dX7_solve_5 : decode cX7_solve 5 = .ok (.iconst 0, 1) := by decide +kernel
theorem dX7_solve_6 : decode cX7_solve 6 = .ok (.istore_n 2, 1) := by decide +kernel
theorem dX7_solve_7 : decode cX7_solve 7 = .ok (.iload_n 2, 1) := by decide +kernel
theorem dX7_solve_8 : decode cX7_solve 8 = .ok (.aload_n 0, 1) := by decide +kernel
theorem dX7_solve_9 : decode cX7_solve 9 = .ok (.getfield 37, 3) := by decide +kernel
theorem dX7_solve_12 : decode cX7_solve 12 = .ok (.getfield 41, 3) := by decide +kernel
theorem dX7_solve_15 : decode cX7_solve 15 = .ok (.if_icmp .ge 16, 3) := by decide +kernel
theorem dX7_solve_18 : decode cX7_solve 18 = .ok (.aload_n 0, 1) := by decide +kernel
theorem dX7_solve_19 : decode cX7_solve 19 = .ok (.getfield 18, 3) := by decide +kernel
theorem dX7_solve_22 : decode cX7_solve 22 = .ok (.iload_n 2, 1) := by decide +kernel
theorem dX7_solve_23 : decode cX7_solve 23 = .ok (.iconst 0, 1) := by decide +kernel
theorem dX7_solve_24 : decode cX7_solve 24 = .ok (.iastore, 1) := by decide +kernel
theorem dX7_solve_25 : decode cX7_solve 25 = .ok (.iinc 2 1, 3) := by decide +kernel
theorem dX7_solve_28 : decode cX7_solve 28 = .ok (.goto (-21), 3) := by decide +kernel
theorem dX7_solve_31 : decode cX7_solve 31 = .ok (.aload_n 0, 1) := by decide +kernel
theorem dX7_solve_32 : decode cX7_solve 32 = .ok (.getfield 21, 3) := by decide +kernel
theorem dX7_solve_35 : decode cX7_solve 35 = .ok (.iconst 0, 1) := by decide +kernel
theorem dX7_solve_36 : decode cX7_solve 36 = .ok (.iconst 0, 1) := by decide +kernel
theorem dX7_solve_37 : decode cX7_solve 37 = .ok (.iastore, 1) := by decide +kernel
theorem dX7_solve_38 : decode cX7_solve 38 = .ok (.iconst 1, 1) := by decide +kernel
theorem dX7_solve_39 : decode cX7_solve 39 = .ok (.istore_n 2, 1) := by decide +kernel
theorem dX7_solve_40 : decode cX7_solve 40 = .ok (.iload_n 2, 1) := by decide +kernel
theorem dX7_solve_41 : decode cX7_solve 41 = .ok (.aload_n 0, 1) := by decide +kernel
theorem dX7_solve_42 : decode cX7_solve 42 = .ok (.getfield 27, 3) := by decide +kernel
theorem dX7_solve_45 : decode cX7_solve 45 = .ok (.if_icmp .ge 22, 3) := by decide +kernel
theorem dX7_solve_48 : decode cX7_solve 48 = .ok (.aload_n 0, 1) := by decide +kernel
theorem dX7_solve_49 : decode cX7_solve 49 = .ok (.iload_n 2, 1) := by decide +kernel
theorem dX7_solve_50 : decode cX7_solve 50 = .ok (.putfield 31, 3) := by decide +kernel
theorem dX7_solve_53 : decode cX7_solve 53 = .ok (.aload_n 0, 1) := by decide +kernel
theorem dX7_solve_54 : decode cX7_solve 54 = .ok (.invokevirtual 58, 3) := by decide +kernel
theorem dX7_solve_57 : decode cX7_solve 57 = .ok (.aload_n 0, 1) := by decide +kernel
theorem dX7_solve_58 : decode cX7_solve 58 = .ok (.invokevirtual 61, 3) := by decide +kernel
theorem dX7_solve_61 : decode cX7_solve 61 = .ok (.iinc 2 1, 3) := by decide +kernel
theorem dX7_solve_64 : decode cX7_solve 64 = .ok (.goto (-24), 3) := by decide +kernel
theorem dX7_solve_67 : decode cX7_solve 67 = .ok (.aload_n 0, 1) := by decide +kernel
theorem dX7_solve_68 : decode cX7_solve 68 = .ok (.aload_n 0, 1) := by decide +kernel
theorem dX7_solve_69 : decode cX7_solve 69 = .ok (.getfield 27, 3) := by decide +kernel
theorem dX7_solve_72 : decode cX7_solve 72 = .ok (.iconst 1, 1) := by decide +kernel
theorem dX7_solve_73 : decode cX7_solve 73 = .ok (.isub, 1) := by decide +kernel
theorem dX7_solve_74 : decode cX7_solve 74 = .ok (.putfield 31, 3) := by decide +kernel
theorem dX7_solve_77 : decode cX7_solve 77 = .ok (.return_, 1) := by decide +kernel
theorem dX7_rollsLeft_0 : decode cX7_rollsLeft 0 = .ok (.aload_n 0, 1) := by decide +kernel
theorem dX7_rollsLeft_1 : decode cX7_rollsLeft 1 = .ok (.getfield 21, 3) := by decide +kernel
theorem dX7_rollsLeft_4 : decode cX7_rollsLeft 4 = .ok (.aload_n 0, 1) := by decide +kernel
theorem dX7_rollsLeft_5 : decode cX7_rollsLeft 5 = .ok (.getfield 31, 3) := by decide +kernel
theorem dX7_rollsLeft_8 : decode cX7_rollsLeft 8 = .ok (.iaload, 1) := by decide +kernel
theorem dX7_rollsLeft_9 : decode cX7_rollsLeft 9 = .ok (.ireturn, 1) := by decide +kernel
set_option maxRecDepth 20000 in
theorem ggX7_take_X7_indexBehind : GoodIn wsX7_take wsX7_indexBehind := goodIn_r _ [13, 1, 2, 3, 4, 14, 15, 7, 16, 17, 18, 19, 20, 21, 22, 23, 24, 25, 26, 27, 28, 29, 30, 31, 32, 33, 34, 35, 36, 37, 38] (by decide +kernel) (by decide +kernel)
set_option maxRecDepth 20000 in
theorem gX7_take_X7_indexBehind : GoodIn wsX7_take (wsV RX7 64 RX7 yX7_indexBehind wsX7_indexBehind) := goodIn_app (goodIn_of _ (by decide +kernel)) ggX7_take_X7_indexBehind
set_option maxRecDepth 20000 in
theorem ggX7_take_X0_ofWidth : GoodIn wsX7_take wsX0_ofWidth := goodIn_r _ [21] (by decide +kernel) (by decide +kernel)
set_option maxRecDepth 20000 in
theorem gX7_take_X0_ofWidth : GoodIn wsX7_take (va_wsS RX7 67 yX0_ofWidth wsX0_ofWidth) := goodIn_app (goodIn_of _ (by decide +kernel)) ggX7_take_X0_ofWidth
theorem dX7_take_0 : decode cX7_take 0 = .ok (.aload_n 0, 1) := by decide +kernel
theorem dX7_take_1 : decode cX7_take 1 = .ok (.aload_n 0, 1) := by decide +kernel
theorem dX7_take_2 : decode cX7_take 2 = .ok (.iload_n 1, 1) := by decide +kernel
theorem dX7_take_3 : decode cX7_take 3 = .ok (.invokevirtual 64, 3) := by decide +kernel
theorem dX7_take_6 : decode cX7_take 6 = .ok (.putfield 31, 3) := by decide +kernel
theorem dX7_take_9 : decode cX7_take 9 = .ok (.iconst 0, 1) := by decide +kernel
theorem dX7_take_10 : decode cX7_take 10 = .ok (.istore_n 2, 1) := by decide +kernel
theorem dX7_take_11 : decode cX7_take 11 = .ok (.iload_n 2, 1) := by decide +kernel
theorem dX7_take_12 : decode cX7_take 12 = .ok (.aload_n 0, 1) := by decide +kernel
theorem dX7_take_13 : decode cX7_take 13 = .ok (.getfield 37, 3) := by decide +kernel
theorem dX7_take_16 : decode cX7_take 16 = .ok (.getfield 41, 3) := by decide +kernel
theorem dX7_take_19 : decode cX7_take 19 = .ok (.if_icmp .ge 31, 3) := by decide +kernel
theorem dX7_take_22 : decode cX7_take 22 = .ok (.aload_n 0, 1) := by decide +kernel
theorem dX7_take_23 : decode cX7_take 23 = .ok (.getfield 18, 3) := by decide +kernel
theorem dX7_take_26 : decode cX7_take 26 = .ok (.iload_n 2, 1) := by decide +kernel
theorem dX7_take_27 : decode cX7_take 27 = .ok (.iconst 0, 1) := by decide +kernel
theorem dX7_take_28 : decode cX7_take 28 = .ok (.aload_n 0, 1) := by decide +kernel
theorem dX7_take_29 : decode cX7_take 29 = .ok (.getfield 18, 3) := by decide +kernel
theorem dX7_take_32 : decode cX7_take 32 = .ok (.iload_n 2, 1) := by decide +kernel
theorem dX7_take_33 : decode cX7_take 33 = .ok (.iaload, 1) := by decide +kernel
theorem dX7_take_34 : decode cX7_take 34 = .ok (.iload_n 1, 1) := by decide +kernel
theorem dX7_take_35 : decode cX7_take 35 = .ok (.iload_n 2, 1) := by decide +kernel
theorem dX7_take_36 : decode cX7_take 36 = .ok (.invokestatic 67, 3) := by decide +kernel
theorem dX7_take_39 : decode cX7_take 39 = .ok (.isub, 1) := by decide +kernel
theorem dX7_take_40 : decode cX7_take 40 = .ok (.invokestatic 73, 3) := by decide +kernel
theorem dX7_take_43 : decode cX7_take 43 = .ok (.iastore, 1) := by decide +kernel
theorem dX7_take_44 : decode cX7_take 44 = .ok (.iinc 2 1, 3) := by decide +kernel
theorem dX7_take_47 : decode cX7_take 47 = .ok (.goto (-36), 3) := by decide +kernel
theorem dX7_take_50 : decode cX7_take 50 = .ok (.return_, 1) := by decide +kernel
set_option maxRecDepth 20000 in
theorem ggX7_firstFrom_X5_count : GoodIn wsX7_firstFrom wsX5_count := goodIn_r _ [7, 8, 9, 10, 11, 6, 12, 13, 14, 15, 16, 17, 18, 19, 20, 21, 22, 23, 24, 25, 26, 27, 28, 29, 30, 31, 32, 33, 34, 35, 36, 37, 38, 39, 40, 41, 42, 43, 44, 45, 72, 73, 74, 75, 76, 77, 78, 79, 80, 81, 82, 83, 84] (by decide +kernel) (by decide +kernel)
set_option maxRecDepth 20000 in
theorem gX7_firstFrom_X5_count : GoodIn wsX7_firstFrom (wsV RX7 78 RX5 yX5_count wsX5_count) := goodIn_app (goodIn_of _ (by decide +kernel)) ggX7_firstFrom_X5_count
set_option maxRecDepth 20000 in
theorem ggX7_firstFrom_X5_codeAt : GoodIn wsX7_firstFrom wsX5_codeAt := goodIn_r _ [49, 8, 38, 72, 73, 74, 75, 76] (by decide +kernel) (by decide +kernel)
set_option maxRecDepth 20000 in
theorem gX7_firstFrom_X5_codeAt : GoodIn wsX7_firstFrom (wsV RX7 84 RX5 yX5_codeAt wsX5_codeAt) := goodIn_app (goodIn_of _ (by decide +kernel)) ggX7_firstFrom_X5_codeAt
set_option maxRecDepth 20000 in
theorem ggX7_firstFrom_X7_indexBehind : GoodIn wsX7_firstFrom wsX7_indexBehind := goodIn_r _ [54, 2, 55, 56, 57, 58, 31, 32, 33, 59, 60, 61, 44, 62, 63, 64, 65, 66, 67, 68, 69, 70, 71, 77, 78, 79, 80, 81, 82, 83, 84] (by decide +kernel) (by decide +kernel)
set_option maxRecDepth 20000 in
theorem gX7_firstFrom_X7_indexBehind : GoodIn wsX7_firstFrom (wsV RX7 64 RX7 yX7_indexBehind wsX7_indexBehind) := goodIn_app (goodIn_of _ (by decide +kernel)) ggX7_firstFrom_X7_indexBehind
theorem dX7_firstFrom_0 : decode cX7_firstFrom 0 = .ok (.aload_n 2, 1) := by decide +kernel
theorem dX7_firstFrom_1 : decode cX7_firstFrom 1 = .ok (.invokevirtual 78, 3) := by decide +kernel
theorem dX7_firstFrom_4 : decode cX7_firstFrom 4 = .ok (.istore_n 3, 1) := by decide +kernel
theorem dX7_firstFrom_5 : decode cX7_firstFrom 5 = .ok (.iload_n 1, 1) := by decide +kernel
theorem dX7_firstFrom_6 : decode cX7_firstFrom 6 = .ok (.istore 4, 2) := by decide +kernel
theorem dX7_firstFrom_8 : decode cX7_firstFrom 8 = .ok (.iload 4, 2) := by decide +kernel
theorem dX7_firstFrom_10 : decode cX7_firstFrom 10 = .ok (.iload_n 3, 1) := by decide +kernel
theorem dX7_firstFrom_11 : decode cX7_firstFrom 11 = .ok (.if_icmp .ge 39, 3) := by decide +kernel
theorem dX7_firstFrom_14 : decode cX7_firstFrom 14 = .ok (.aload_n 0, 1) := by decide +kernel
theorem dX7_firstFrom_15 : decode cX7_firstFrom 15 = .ok (.getfield 21, 3) := by decide +kernel
theorem dX7_firstFrom_18 : decode cX7_firstFrom 18 = .ok (.aload_n 0, 1) := by decide +kernel
theorem dX7_firstFrom_19 : decode cX7_firstFrom 19 = .ok (.aload_n 2, 1) := by decide +kernel
theorem dX7_firstFrom_20 : decode cX7_firstFrom 20 = .ok (.iload 4, 2) := by decide +kernel
theorem dX7_firstFrom_22 : decode cX7_firstFrom 22 = .ok (.invokevirtual 84, 3) := by decide +kernel
theorem dX7_firstFrom_25 : decode cX7_firstFrom 25 = .ok (.invokevirtual 64, 3) := by decide +kernel
theorem dX7_firstFrom_28 : decode cX7_firstFrom 28 = .ok (.iaload, 1) := by decide +kernel
theorem dX7_firstFrom_29 : decode cX7_firstFrom 29 = .ok (.aload_n 0, 1) := by decide +kernel
theorem dX7_firstFrom_30 : decode cX7_firstFrom 30 = .ok (.getfield 21, 3) := by decide +kernel
theorem dX7_firstFrom_33 : decode cX7_firstFrom 33 = .ok (.aload_n 0, 1) := by decide +kernel
theorem dX7_firstFrom_34 : decode cX7_firstFrom 34 = .ok (.getfield 31, 3) := by decide +kernel
theorem dX7_firstFrom_37 : decode cX7_firstFrom 37 = .ok (.iaload, 1) := by decide +kernel
theorem dX7_firstFrom_38 : decode cX7_firstFrom 38 = .ok (.if_icmp .ge 6, 3) := by decide +kernel
theorem dX7_firstFrom_41 : decode cX7_firstFrom 41 = .ok (.iload 4, 2) := by decide +kernel
theorem dX7_firstFrom_43 : decode cX7_firstFrom 43 = .ok (.ireturn, 1) := by decide +kernel
theorem dX7_firstFrom_44 : decode cX7_firstFrom 44 = .ok (.iinc 4 1, 3) := by decide +kernel
theorem dX7_firstFrom_47 : decode cX7_firstFrom 47 = .ok (.goto (-39), 3) := by decide +kernel
theorem dX7_firstFrom_50 : decode cX7_firstFrom 50 = .ok (.iload_n 1, 1) := by decide +kernel
theorem dX7_firstFrom_51 : decode cX7_firstFrom 51 = .ok (.ireturn, 1) := by decide +kernel
set_option maxRecDepth 20000 in
theorem ggX7_gatherFullest_X5_count : GoodIn wsX7_gatherFullest wsX5_count := goodIn_r _ [7, 8, 9, 10, 11, 6, 12, 13, 14, 15, 16, 17, 18, 19, 20, 21, 22, 23, 24, 25, 26, 27, 28, 29, 30, 31, 32, 33, 34, 35, 36, 37, 38, 39, 40, 41, 42, 43, 44, 45, 84, 85, 86, 87, 88, 89, 90, 91, 92, 93, 94, 95, 96] (by decide +kernel) (by decide +kernel)
set_option maxRecDepth 20000 in
theorem gX7_gatherFullest_X5_count : GoodIn wsX7_gatherFullest (wsV RX7 78 RX5 yX5_count wsX5_count) := goodIn_app (goodIn_of _ (by decide +kernel)) ggX7_gatherFullest_X5_count
set_option maxRecDepth 20000 in
theorem ggX7_gatherFullest_X5_codeAt : GoodIn wsX7_gatherFullest wsX5_codeAt := goodIn_r _ [49, 8, 38, 84, 85, 86, 87, 88] (by decide +kernel) (by decide +kernel)
set_option maxRecDepth 20000 in
theorem gX7_gatherFullest_X5_codeAt : GoodIn wsX7_gatherFullest (wsV RX7 84 RX5 yX5_codeAt wsX5_codeAt) := goodIn_app (goodIn_of _ (by decide +kernel)) ggX7_gatherFullest_X5_codeAt
set_option maxRecDepth 20000 in
theorem ggX7_gatherFullest_X7_isFullest : GoodIn wsX7_gatherFullest wsX7_isFullest := goodIn_r _ [54, 55, 56, 57, 58, 59, 60, 18, 19, 20, 21, 22, 23, 61, 62, 63, 64, 65, 66, 67, 68, 44, 69, 70, 71, 72, 73, 74, 75, 76, 77, 78, 79, 80, 81, 82, 83, 89, 90, 91, 92, 93, 94, 95, 96] (by decide +kernel) (by decide +kernel)
set_option maxRecDepth 20000 in
theorem gX7_gatherFullest_X7_isFullest : GoodIn wsX7_gatherFullest (wsV RX7 87 RX7 yX7_isFullest wsX7_isFullest) := goodIn_app (goodIn_of _ (by decide +kernel)) ggX7_gatherFullest_X7_isFullest
theorem dX7_gatherFullest_0 : decode cX7_gatherFullest 0 = .ok (.aload_n 0, 1) := by decide +kernel
theorem dX7_gatherFullest_1 : decode cX7_gatherFullest 1 = .ok (.iconst 0, 1) := by decide +kernel
theorem dX7_gatherFullest_2 : decode cX7_gatherFullest 2 = .ok (.putfield 34, 3) := by decide +kernel
theorem dX7_gatherFullest_5 : decode cX7_gatherFullest 5 = .ok (.aload_n 1, 1) := by decide +kernel
theorem dX7_gatherFullest_6 : decode cX7_gatherFullest 6 = .ok (.invokevirtual 78, 3) := by decide +kernel
theorem dX7_gatherFullest_9 : decode cX7_gatherFullest 9 = .ok (.istore_n 2, 1) := by decide +kernel
theorem dX7_gatherFullest_10 : decode cX7_gatherFullest 10 = .ok (.iconst 0, 1) := by decide +kernel
theorem dX7_gatherFullest_11 : decode cX7_gatherFullest 11 = .ok (.istore_n 3, 1) := by decide +kernel
theorem dX7_gatherFullest_12 : decode cX7_gatherFullest 12 = .ok (.iload_n 3, 1) := by decide +kernel
theorem dX7_gatherFullest_13 : decode cX7_gatherFullest 13 = .ok (.iload_n 2, 1) := by decide +kernel
theorem dX7_gatherFullest_14 : decode cX7_gatherFullest 14 = .ok (.if_icmp .ge 57, 3) := by decide +kernel
theorem dX7_gatherFullest_17 : decode cX7_gatherFullest 17 = .ok (.aload_n 0, 1) := by decide +kernel
theorem dX7_gatherFullest_18 : decode cX7_gatherFullest 18 = .ok (.aload_n 1, 1) := by decide +kernel
theorem dX7_gatherFullest_19 : decode cX7_gatherFullest 19 = .ok (.iload_n 3, 1) := by decide +kernel
theorem dX7_gatherFullest_20 : decode cX7_gatherFullest 20 = .ok (.invokevirtual 84, 3) := by decide +kernel
theorem dX7_gatherFullest_23 : decode cX7_gatherFullest 23 = .ok (.invokevirtual 87, 3) := by decide +kernel
theorem dX7_gatherFullest_26 : decode cX7_gatherFullest 26 = .ok (.ifCond .eq 39, 3) := by decide +kernel
theorem dX7_gatherFullest_29 : decode cX7_gatherFullest 29 = .ok (.aload_n 0, 1) := by decide +kernel
theorem dX7_gatherFullest_30 : decode cX7_gatherFullest 30 = .ok (.getfield 34, 3) := by decide +kernel
theorem dX7_gatherFullest_33 : decode cX7_gatherFullest 33 = .ok (.aload_n 0, 1) := by decide +kernel
theorem dX7_gatherFullest_34 : decode cX7_gatherFullest 34 = .ok (.getfield 24, 3) := by decide +kernel
theorem dX7_gatherFullest_37 : decode cX7_gatherFullest 37 = .ok (.arraylength, 1) := by decide +kernel
theorem dX7_gatherFullest_38 : decode cX7_gatherFullest 38 = .ok (.if_icmp .ge 27, 3) := by decide +kernel
theorem dX7_gatherFullest_41 : decode cX7_gatherFullest 41 = .ok (.aload_n 0, 1) := by decide +kernel
theorem dX7_gatherFullest_42 : decode cX7_gatherFullest 42 = .ok (.getfield 24, 3) := by decide +kernel
theorem dX7_gatherFullest_45 : decode cX7_gatherFullest 45 = .ok (.aload_n 0, 1) := by decide +kernel
theorem dX7_gatherFullest_46 : decode cX7_gatherFullest 46 = .ok (.getfield 34, 3) := by decide +kernel
theorem dX7_gatherFullest_49 : decode cX7_gatherFullest 49 = .ok (.aload_n 1, 1) := by decide +kernel
theorem dX7_gatherFullest_50 : decode cX7_gatherFullest 50 = .ok (.iload_n 3, 1) := by decide +kernel
theorem dX7_gatherFullest_51 : decode cX7_gatherFullest 51 = .ok (.invokevirtual 84, 3) := by decide +kernel
theorem dX7_gatherFullest_54 : decode cX7_gatherFullest 54 = .ok (.iastore, 1) := by decide +kernel
theorem dX7_gatherFullest_55 : decode cX7_gatherFullest 55 = .ok (.aload_n 0, 1) := by decide +kernel
theorem dX7_gatherFullest_56 : decode cX7_gatherFullest 56 = .ok (.dup, 1) := by decide +kernel
theorem dX7_gatherFullest_57 : decode cX7_gatherFullest 57 = .ok (.getfield 34, 3) := by decide +kernel
theorem dX7_gatherFullest_60 : decode cX7_gatherFullest 60 = .ok (.iconst 1, 1) := by decide +kernel
theorem dX7_gatherFullest_61 : decode cX7_gatherFullest 61 = .ok (.iadd, 1) := by decide +kernel
theorem dX7_gatherFullest_62 : decode cX7_gatherFullest 62 = .ok (.putfield 34, 3) := by decide +kernel
theorem dX7_gatherFullest_65 : decode cX7_gatherFullest 65 = .ok (.iinc 3 1, 3) := by decide +kernel
theorem dX7_gatherFullest_68 : decode cX7_gatherFullest 68 = .ok (.goto (-56), 3) := by decide +kernel
theorem dX7_gatherFullest_71 : decode cX7_gatherFullest 71 = .ok (.return_, 1) := by decide +kernel
set_option maxRecDepth 20000 in
theorem ggX7_isFullest_X4_room : GoodIn wsX7_isFullest wsX4_room := goodIn_r _ [10, 11, 12, 37, 38, 39, 40, 41, 42, 43, 44] (by decide +kernel) (by decide +kernel)
set_option maxRecDepth 20000 in
theorem gX7_isFullest_X4_room : GoodIn wsX7_isFullest (wsV RX7 91 RX4 yX4_room wsX4_room) := goodIn_app (goodIn_of _ (by decide +kernel)) ggX7_isFullest_X4_room
set_option maxRecDepth 20000 in
theorem ggX7_isFullest_X4_spanOf : GoodIn wsX7_isFullest wsX4_spanOf := goodIn_r _ [16, 17, 18, 19, 20, 21, 22, 37, 38, 39, 40, 41, 42, 43, 44] (by decide +kernel) (by decide +kernel)
set_option maxRecDepth 20000 in
theorem gX7_isFullest_X4_spanOf : GoodIn wsX7_isFullest (wsV RX7 94 RX4 yX4_spanOf wsX4_spanOf) := goodIn_app (goodIn_of _ (by decide +kernel)) ggX7_isFullest_X4_spanOf
set_option maxRecDepth 20000 in
theorem ggX7_isFullest_X0_pieces : GoodIn wsX7_isFullest wsX0_pieces := goodIn_r _ [25, 26, 20, 21, 22] (by decide +kernel) (by decide +kernel)
set_option maxRecDepth 20000 in
theorem gX7_isFullest_X0_pieces : GoodIn wsX7_isFullest (va_wsS RX7 97 yX0_pieces wsX0_pieces) := goodIn_app (goodIn_of _ (by decide +kernel)) ggX7_isFullest_X0_pieces
set_option maxRecDepth 20000 in
theorem ggX7_isFullest_X0_ofWidth : GoodIn wsX7_isFullest wsX0_ofWidth := goodIn_r _ [22] (by decide +kernel) (by decide +kernel)
set_option maxRecDepth 20000 in
theorem gX7_isFullest_X0_ofWidth : GoodIn wsX7_isFullest (va_wsS RX7 67 yX0_ofWidth wsX0_ofWidth) := goodIn_app (goodIn_of _ (by decide +kernel)) ggX7_isFullest_X0_ofWidth
theorem dX7_isFullest_0 : decode cX7_isFullest 0 = .ok (.aload_n 0, 1) := by decide +kernel
theorem dX7_isFullest_1 : decode cX7_isFullest 1 = .ok (.getfield 37, 3) := by decide +kernel
theorem dX7_isFullest_4 : decode cX7_isFullest 4 = .ok (.invokevirtual 91, 3) := by decide +kernel
theorem dX7_isFullest_7 : decode cX7_isFullest 7 = .ok (.aload_n 0, 1) := by decide +kernel
theorem dX7_isFullest_8 : decode cX7_isFullest 8 = .ok (.getfield 37, 3) := by decide +kernel
theorem dX7_isFullest_11 : decode cX7_isFullest 11 = .ok (.iload_n 1, 1) := by decide +kernel
theorem dX7_isFullest_12 : decode cX7_isFullest 12 = .ok (.invokevirtual 94, 3) := by decide +kernel
theorem dX7_isFullest_15 : decode cX7_isFullest 15 = .ok (.isub, 1) := by decide +kernel
theorem dX7_isFullest_16 : decode cX7_isFullest 16 = .ok (.istore_n 2, 1) := by decide +kernel
theorem dX7_isFullest_17 : decode cX7_isFullest 17 = .ok (.iload_n 1, 1) := by decide +kernel
theorem dX7_isFullest_18 : decode cX7_isFullest 18 = .ok (.invokestatic 97, 3) := by decide +kernel
theorem dX7_isFullest_21 : decode cX7_isFullest 21 = .ok (.aload_n 0, 1) := by decide +kernel
theorem dX7_isFullest_22 : decode cX7_isFullest 22 = .ok (.getfield 37, 3) := by decide +kernel
theorem dX7_isFullest_25 : decode cX7_isFullest 25 = .ok (.getfield 100, 3) := by decide +kernel
theorem dX7_isFullest_28 : decode cX7_isFullest 28 = .ok (.if_icmp .ge 7, 3) := by decide +kernel
theorem dX7_isFullest_31 : decode cX7_isFullest 31 = .ok (.iconst 1, 1) := by decide +kernel
theorem dX7_isFullest_32 : decode cX7_isFullest 32 = .ok (.goto 4, 3) := by decide +kernel
theorem dX7_isFullest_35 : decode cX7_isFullest 35 = .ok (.iconst 0, 1) := by decide +kernel
theorem dX7_isFullest_36 : decode cX7_isFullest 36 = .ok (.istore_n 3, 1) := by decide +kernel
theorem dX7_isFullest_37 : decode cX7_isFullest 37 = .ok (.iconst 0, 1) := by decide +kernel
theorem dX7_isFullest_38 : decode cX7_isFullest 38 = .ok (.istore 4, 2) := by decide +kernel
theorem dX7_isFullest_40 : decode cX7_isFullest 40 = .ok (.iload 4, 2) := by decide +kernel
theorem dX7_isFullest_42 : decode cX7_isFullest 42 = .ok (.aload_n 0, 1) := by decide +kernel
theorem dX7_isFullest_43 : decode cX7_isFullest 43 = .ok (.getfield 37, 3) := by decide +kernel
theorem dX7_isFullest_46 : decode cX7_isFullest 46 = .ok (.getfield 41, 3) := by decide +kernel
theorem dX7_isFullest_49 : decode cX7_isFullest 49 = .ok (.if_icmp .ge 61, 3) := by decide +kernel
theorem dX7_isFullest_52 : decode cX7_isFullest 52 = .ok (.iload_n 1, 1) := by decide +kernel
theorem dX7_isFullest_53 : decode cX7_isFullest 53 = .ok (.iload 4, 2) := by decide +kernel
theorem dX7_isFullest_55 : decode cX7_isFullest 55 = .ok (.invokestatic 67, 3) := by decide +kernel
theorem dX7_isFullest_58 : decode cX7_isFullest 58 = .ok (.istore 5, 2) := by decide +kernel
theorem dX7_isFullest_60 : decode cX7_isFullest 60 = .ok (.iload 5, 2) := by decide +kernel
theorem dX7_isFullest_62 : decode cX7_isFullest 62 = .ok (.aload_n 0, 1) := by decide +kernel
theorem dX7_isFullest_63 : decode cX7_isFullest 63 = .ok (.getfield 9, 3) := by decide +kernel
theorem dX7_isFullest_66 : decode cX7_isFullest 66 = .ok (.iload 4, 2) := by decide +kernel
theorem dX7_isFullest_68 : decode cX7_isFullest 68 = .ok (.iaload, 1) := by decide +kernel
theorem dX7_isFullest_69 : decode cX7_isFullest 69 = .ok (.if_icmp .gt 33, 3) := by decide +kernel
theorem dX7_isFullest_72 : decode cX7_isFullest 72 = .ok (.iload 5, 2) := by decide +kernel
theorem dX7_isFullest_74 : decode cX7_isFullest 74 = .ok (.aload_n 0, 1) := by decide +kernel
theorem dX7_isFullest_75 : decode cX7_isFullest 75 = .ok (.getfield 9, 3) := by decide +kernel
theorem dX7_isFullest_78 : decode cX7_isFullest 78 = .ok (.iload 4, 2) := by decide +kernel
theorem dX7_isFullest_80 : decode cX7_isFullest 80 = .ok (.iaload, 1) := by decide +kernel
theorem dX7_isFullest_81 : decode cX7_isFullest 81 = .ok (.if_icmp .ge 23, 3) := by decide +kernel
theorem dX7_isFullest_84 : decode cX7_isFullest 84 = .ok (.iload_n 3, 1) := by decide +kernel
theorem dX7_isFullest_85 : decode cX7_isFullest 85 = .ok (.ifCond .eq 19, 3) := by decide +kernel
theorem dX7_isFullest_88 : decode cX7_isFullest 88 = .ok (.aload_n 0, 1) := by decide +kernel
theorem dX7_isFullest_89 : decode cX7_isFullest 89 = .ok (.getfield 37, 3) := by decide +kernel
theorem dX7_isFullest_92 : decode cX7_isFullest 92 = .ok (.getfield 103, 3) := by decide +kernel
theorem dX7_isFullest_95 : decode cX7_isFullest 95 = .ok (.iload 4, 2) := by decide +kernel
theorem dX7_isFullest_97 : decode cX7_isFullest 97 = .ok (.iaload, 1) := by decide +kernel
theorem dX7_isFullest_98 : decode cX7_isFullest 98 = .ok (.iload_n 2, 1) := by decide +kernel
theorem dX7_isFullest_99 : decode cX7_isFullest 99 = .ok (.if_icmp .gt 5, 3) := by decide +kernel
theorem dX7_isFullest_102 : decode cX7_isFullest 102 = .ok (.iconst 0, 1) := by decide +kernel
theorem dX7_isFullest_103 : decode cX7_isFullest 103 = .ok (.ireturn, 1) := by decide +kernel
theorem dX7_isFullest_104 : decode cX7_isFullest 104 = .ok (.iinc 4 1, 3) := by decide +kernel
theorem dX7_isFullest_107 : decode cX7_isFullest 107 = .ok (.goto (-67), 3) := by decide +kernel
theorem dX7_isFullest_110 : decode cX7_isFullest 110 = .ok (.iconst 1, 1) := by decide +kernel
theorem dX7_isFullest_111 : decode cX7_isFullest 111 = .ok (.ireturn, 1) := by decide +kernel
theorem dX7_openOneMore_0 : decode cX7_openOneMore 0 = .ok (.iconst 0, 1) := by decide +kernel
theorem dX7_openOneMore_1 : decode cX7_openOneMore 1 = .ok (.istore_n 1, 1) := by decide +kernel
theorem dX7_openOneMore_2 : decode cX7_openOneMore 2 = .ok (.iload_n 1, 1) := by decide +kernel
theorem dX7_openOneMore_3 : decode cX7_openOneMore 3 = .ok (.aload_n 0, 1) := by decide +kernel
theorem dX7_openOneMore_4 : decode cX7_openOneMore 4 = .ok (.getfield 37, 3) := by decide +kernel
theorem dX7_openOneMore_7 : decode cX7_openOneMore 7 = .ok (.getfield 41, 3) := by decide +kernel
theorem dX7_openOneMore_10 : decode cX7_openOneMore 10 = .ok (.if_icmp .ge 42, 3) := by decide +kernel
theorem dX7_openOneMore_13 : decode cX7_openOneMore 13 = .ok (.aload_n 0, 1) := by decide +kernel
theorem dX7_openOneMore_14 : decode cX7_openOneMore 14 = .ok (.getfield 18, 3) := by decide +kernel
theorem dX7_openOneMore_17 : decode cX7_openOneMore 17 = .ok (.iload_n 1, 1) := by decide +kernel
theorem dX7_openOneMore_18 : decode cX7_openOneMore 18 = .ok (.iaload, 1) := by decide +kernel
theorem dX7_openOneMore_19 : decode cX7_openOneMore 19 = .ok (.aload_n 0, 1) := by decide +kernel
theorem dX7_openOneMore_20 : decode cX7_openOneMore 20 = .ok (.getfield 9, 3) := by decide +kernel
theorem dX7_openOneMore_23 : decode cX7_openOneMore 23 = .ok (.iload_n 1, 1) := by decide +kernel
theorem dX7_openOneMore_24 : decode cX7_openOneMore 24 = .ok (.iaload, 1) := by decide +kernel
theorem dX7_openOneMore_25 : decode cX7_openOneMore 25 = .ok (.if_icmp .ge 14, 3) := by decide +kernel
theorem dX7_openOneMore_28 : decode cX7_openOneMore 28 = .ok (.aload_n 0, 1) := by decide +kernel
theorem dX7_openOneMore_29 : decode cX7_openOneMore 29 = .ok (.getfield 18, 3) := by decide +kernel
theorem dX7_openOneMore_32 : decode cX7_openOneMore 32 = .ok (.iload_n 1, 1) := by decide +kernel
theorem dX7_openOneMore_33 : decode cX7_openOneMore 33 = .ok (.dup2, 1) := by decide +kernel
theorem dX7_openOneMore_34 : decode cX7_openOneMore 34 = .ok (.iaload, 1) := by decide +kernel
theorem dX7_openOneMore_35 : decode cX7_openOneMore 35 = .ok (.iconst 1, 1) := by decide +kernel
theorem dX7_openOneMore_36 : decode cX7_openOneMore 36 = .ok (.iadd, 1) := by decide +kernel
theorem dX7_openOneMore_37 : decode cX7_openOneMore 37 = .ok (.iastore, 1) := by decide +kernel
theorem dX7_openOneMore_38 : decode cX7_openOneMore 38 = .ok (.return_, 1) := by decide +kernel
theorem dX7_openOneMore_39 : decode cX7_openOneMore 39 = .ok (.aload_n 0, 1) := by decide +kernel
theorem dX7_openOneMore_40 : decode cX7_openOneMore 40 = .ok (.getfield 18, 3) := by decide +kernel
theorem dX7_openOneMore_43 : decode cX7_openOneMore 43 = .ok (.iload_n 1, 1) := by decide +kernel
theorem dX7_openOneMore_44 : decode cX7_openOneMore 44 = .ok (.iconst 0, 1) := by decide +kernel
theorem dX7_openOneMore_45 : decode cX7_openOneMore 45 = .ok (.iastore, 1) := by decide +kernel
theorem dX7_openOneMore_46 : decode cX7_openOneMore 46 = .ok (.iinc 1 1, 3) := by decide +kernel
theorem dX7_openOneMore_49 : decode cX7_openOneMore 49 = .ok (.goto (-47), 3) := by decide +kernel
theorem dX7_openOneMore_52 : decode cX7_openOneMore 52 = .ok (.return_, 1) := by decide +kernel
set_option maxRecDepth 20000 in
theorem ggX7_setLeastHere_X7_indexBehind : GoodIn wsX7_setLeastHere wsX7_indexBehind := goodIn_r _ [17, 5, 1, 2, 3, 18, 19, 9, 20, 6, 21, 22, 23, 24, 25, 26, 27, 28, 29, 30, 31, 32, 33, 34, 35, 36, 37, 38, 39, 40, 41] (by decide +kernel) (by decide +kernel)
set_option maxRecDepth 20000 in
theorem gX7_setLeastHere_X7_indexBehind : GoodIn wsX7_setLeastHere (wsV RX7 64 RX7 yX7_indexBehind wsX7_indexBehind) := goodIn_app (goodIn_of _ (by decide +kernel)) ggX7_setLeastHere_X7_indexBehind
theorem dX7_setLeastHere_0 : decode cX7_setLeastHere 0 = .ok (.iconst 0, 1) := by decide +kernel
theorem dX7_setLeastHere_1 : decode cX7_setLeastHere 1 = .ok (.istore_n 1, 1) := by decide +kernel
theorem dX7_setLeastHere_2 : decode cX7_setLeastHere 2 = .ok (.iconst 0, 1) := by decide +kernel
theorem dX7_setLeastHere_3 : decode cX7_setLeastHere 3 = .ok (.istore_n 2, 1) := by decide +kernel
theorem dX7_setLeastHere_4 : decode cX7_setLeastHere 4 = .ok (.iload_n 2, 1) := by decide +kernel
theorem dX7_setLeastHere_5 : decode cX7_setLeastHere 5 = .ok (.aload_n 0, 1) := by decide +kernel
theorem dX7_setLeastHere_6 : decode cX7_setLeastHere 6 = .ok (.getfield 37, 3) := by decide +kernel
theorem dX7_setLeastHere_9 : decode cX7_setLeastHere 9 = .ok (.getfield 41, 3) := by decide +kernel
theorem dX7_setLeastHere_12 : decode cX7_setLeastHere 12 = .ok (.if_icmp .ge 39, 3) := by decide +kernel
theorem dX7_setLeastHere_15 : decode cX7_setLeastHere 15 = .ok (.aload_n 0, 1) := by decide +kernel
theorem dX7_setLeastHere_16 : decode cX7_setLeastHere 16 = .ok (.getfield 18, 3) := by decide +kernel
theorem dX7_setLeastHere_19 : decode cX7_setLeastHere 19 = .ok (.iload_n 2, 1) := by decide +kernel
theorem dX7_setLeastHere_20 : decode cX7_setLeastHere 20 = .ok (.iaload, 1) := by decide +kernel
theorem dX7_setLeastHere_21 : decode cX7_setLeastHere 21 = .ok (.ifCond .le 24, 3) := by decide +kernel
theorem dX7_setLeastHere_24 : decode cX7_setLeastHere 24 = .ok (.iload_n 1, 1) := by decide +kernel
theorem dX7_setLeastHere_25 : decode cX7_setLeastHere 25 = .ok (.aload_n 0, 1) := by decide +kernel
theorem dX7_setLeastHere_26 : decode cX7_setLeastHere 26 = .ok (.getfield 21, 3) := by decide +kernel
theorem dX7_setLeastHere_29 : decode cX7_setLeastHere 29 = .ok (.aload_n 0, 1) := by decide +kernel
theorem dX7_setLeastHere_30 : decode cX7_setLeastHere 30 = .ok (.getfield 31, 3) := by decide +kernel
theorem dX7_setLeastHere_33 : decode cX7_setLeastHere 33 = .ok (.aload_n 0, 1) := by decide +kernel
theorem dX7_setLeastHere_34 : decode cX7_setLeastHere 34 = .ok (.getfield 15, 3) := by decide +kernel
theorem dX7_setLeastHere_37 : decode cX7_setLeastHere 37 = .ok (.iload_n 2, 1) := by decide +kernel
theorem dX7_setLeastHere_38 : decode cX7_setLeastHere 38 = .ok (.iaload, 1) := by decide +kernel
theorem dX7_setLeastHere_39 : decode cX7_setLeastHere 39 = .ok (.isub, 1) := by decide +kernel
theorem dX7_setLeastHere_40 : decode cX7_setLeastHere 40 = .ok (.iaload, 1) := by decide +kernel
theorem dX7_setLeastHere_41 : decode cX7_setLeastHere 41 = .ok (.invokestatic 73, 3) := by decide +kernel
theorem dX7_setLeastHere_44 : decode cX7_setLeastHere 44 = .ok (.istore_n 1, 1) := by decide +kernel
theorem dX7_setLeastHere_45 : decode cX7_setLeastHere 45 = .ok (.iinc 2 1, 3) := by decide +kernel
theorem dX7_setLeastHere_48 : decode cX7_setLeastHere 48 = .ok (.goto (-44), 3) := by decide +kernel
theorem dX7_setLeastHere_51 : decode cX7_setLeastHere 51 = .ok (.aload_n 0, 1) := by decide +kernel
theorem dX7_setLeastHere_52 : decode cX7_setLeastHere 52 = .ok (.getfield 21, 3) := by decide +kernel
theorem dX7_setLeastHere_55 : decode cX7_setLeastHere 55 = .ok (.aload_n 0, 1) := by decide +kernel
theorem dX7_setLeastHere_56 : decode cX7_setLeastHere 56 = .ok (.getfield 31, 3) := by decide +kernel
theorem dX7_setLeastHere_59 : decode cX7_setLeastHere 59 = .ok (.iload_n 1, 1) := by decide +kernel
theorem dX7_setLeastHere_60 : decode cX7_setLeastHere 60 = .ok (.iconst 1, 1) := by decide +kernel
theorem dX7_setLeastHere_61 : decode cX7_setLeastHere 61 = .ok (.iadd, 1) := by decide +kernel
theorem dX7_setLeastHere_62 : decode cX7_setLeastHere 62 = .ok (.iastore, 1) := by decide +kernel
theorem dX7_setLeastHere_63 : decode cX7_setLeastHere 63 = .ok (.iconst 0, 1) := by decide +kernel
theorem dX7_setLeastHere_64 : decode cX7_setLeastHere 64 = .ok (.istore_n 2, 1) := by decide +kernel
theorem dX7_setLeastHere_65 : decode cX7_setLeastHere 65 = .ok (.iload_n 2, 1) := by decide +kernel
theorem dX7_setLeastHere_66 : decode cX7_setLeastHere 66 = .ok (.aload_n 0, 1) := by decide +kernel
theorem dX7_setLeastHere_67 : decode cX7_setLeastHere 67 = .ok (.getfield 34, 3) := by decide +kernel
theorem dX7_setLeastHere_70 : decode cX7_setLeastHere 70 = .ok (.if_icmp .ge 39, 3) := by decide +kernel
theorem dX7_setLeastHere_73 : decode cX7_setLeastHere 73 = .ok (.aload_n 0, 1) := by decide +kernel
theorem dX7_setLeastHere_74 : decode cX7_setLeastHere 74 = .ok (.getfield 21, 3) := by decide +kernel
theorem dX7_setLeastHere_77 : decode cX7_setLeastHere 77 = .ok (.aload_n 0, 1) := by decide +kernel
theorem dX7_setLeastHere_78 : decode cX7_setLeastHere 78 = .ok (.aload_n 0, 1) := by decide +kernel
theorem dX7_setLeastHere_79 : decode cX7_setLeastHere 79 = .ok (.getfield 24, 3) := by decide +kernel
theorem dX7_setLeastHere_82 : decode cX7_setLeastHere 82 = .ok (.iload_n 2, 1) := by decide +kernel
theorem dX7_setLeastHere_83 : decode cX7_setLeastHere 83 = .ok (.iaload, 1) := by decide +kernel
theorem dX7_setLeastHere_84 : decode cX7_setLeastHere 84 = .ok (.invokevirtual 64, 3) := by decide +kernel
theorem dX7_setLeastHere_87 : decode cX7_setLeastHere 87 = .ok (.iaload, 1) := by decide +kernel
theorem dX7_setLeastHere_88 : decode cX7_setLeastHere 88 = .ok (.iload_n 1, 1) := by decide +kernel
theorem dX7_setLeastHere_89 : decode cX7_setLeastHere 89 = .ok (.if_icmp .ge 14, 3) := by decide +kernel
theorem dX7_setLeastHere_92 : decode cX7_setLeastHere 92 = .ok (.aload_n 0, 1) := by decide +kernel
theorem dX7_setLeastHere_93 : decode cX7_setLeastHere 93 = .ok (.getfield 21, 3) := by decide +kernel
theorem dX7_setLeastHere_96 : decode cX7_setLeastHere 96 = .ok (.aload_n 0, 1) := by decide +kernel
theorem dX7_setLeastHere_97 : decode cX7_setLeastHere 97 = .ok (.getfield 31, 3) := by decide +kernel
theorem dX7_setLeastHere_100 : decode cX7_setLeastHere 100 = .ok (.iload_n 1, 1) := by decide +kernel
theorem dX7_setLeastHere_101 : decode cX7_setLeastHere 101 = .ok (.iastore, 1) := by decide +kernel
theorem dX7_setLeastHere_102 : decode cX7_setLeastHere 102 = .ok (.return_, 1) := by decide +kernel
theorem dX7_setLeastHere_103 : decode cX7_setLeastHere 103 = .ok (.iinc 2 1, 3) := by decide +kernel
theorem dX7_setLeastHere_106 : decode cX7_setLeastHere 106 = .ok (.goto (-41), 3) := by decide +kernel
theorem dX7_setLeastHere_109 : decode cX7_setLeastHere 109 = .ok (.return_, 1) := by decide +kernel
set_option maxRecDepth 20000 in
theorem ggX7_indexBehind_X0_ofWidth : GoodIn wsX7_indexBehind wsX0_ofWidth := goodIn_r _ [13] (by decide +kernel) (by decide +kernel)
set_option maxRecDepth 20000 in
theorem gX7_indexBehind_X0_ofWidth : GoodIn wsX7_indexBehind (va_wsS RX7 67 yX0_ofWidth wsX0_ofWidth) := goodIn_app (goodIn_of _ (by decide +kernel)) ggX7_indexBehind_X0_ofWidth
theorem dX7_indexBehind_0 : decode cX7_indexBehind 0 = .ok (.aload_n 0, 1) := by decide +kernel
theorem dX7_indexBehind_1 : decode cX7_indexBehind 1 = .ok (.getfield 31, 3) := by decide +kernel
theorem dX7_indexBehind_4 : decode cX7_indexBehind 4 = .ok (.istore_n 2, 1) := by decide +kernel
theorem dX7_indexBehind_5 : decode cX7_indexBehind 5 = .ok (.iconst 0, 1) := by decide +kernel
theorem dX7_indexBehind_6 : decode cX7_indexBehind 6 = .ok (.istore_n 3, 1) := by decide +kernel
theorem dX7_indexBehind_7 : decode cX7_indexBehind 7 = .ok (.iload_n 3, 1) := by decide +kernel
theorem dX7_indexBehind_8 : decode cX7_indexBehind 8 = .ok (.aload_n 0, 1) := by decide +kernel
theorem dX7_indexBehind_9 : decode cX7_indexBehind 9 = .ok (.getfield 37, 3) := by decide +kernel
theorem dX7_indexBehind_12 : decode cX7_indexBehind 12 = .ok (.getfield 41, 3) := by decide +kernel
theorem dX7_indexBehind_15 : decode cX7_indexBehind 15 = .ok (.if_icmp .ge 33, 3) := by decide +kernel
theorem dX7_indexBehind_18 : decode cX7_indexBehind 18 = .ok (.iload_n 2, 1) := by decide +kernel
theorem dX7_indexBehind_19 : decode cX7_indexBehind 19 = .ok (.aload_n 0, 1) := by decide +kernel
theorem dX7_indexBehind_20 : decode cX7_indexBehind 20 = .ok (.getfield 18, 3) := by decide +kernel
theorem dX7_indexBehind_23 : decode cX7_indexBehind 23 = .ok (.iload_n 3, 1) := by decide +kernel
theorem dX7_indexBehind_24 : decode cX7_indexBehind 24 = .ok (.iaload, 1) := by decide +kernel
theorem dX7_indexBehind_25 : decode cX7_indexBehind 25 = .ok (.iload_n 1, 1) := by decide +kernel
theorem dX7_indexBehind_26 : decode cX7_indexBehind 26 = .ok (.iload_n 3, 1) := by decide +kernel
theorem dX7_indexBehind_27 : decode cX7_indexBehind 27 = .ok (.invokestatic 67, 3) := by decide +kernel
theorem dX7_indexBehind_30 : decode cX7_indexBehind 30 = .ok (.invokestatic 106, 3) := by decide +kernel
theorem dX7_indexBehind_33 : decode cX7_indexBehind 33 = .ok (.aload_n 0, 1) := by decide +kernel
theorem dX7_indexBehind_34 : decode cX7_indexBehind 34 = .ok (.getfield 15, 3) := by decide +kernel
theorem dX7_indexBehind_37 : decode cX7_indexBehind 37 = .ok (.iload_n 3, 1) := by decide +kernel
theorem dX7_indexBehind_38 : decode cX7_indexBehind 38 = .ok (.iaload, 1) := by decide +kernel
theorem dX7_indexBehind_39 : decode cX7_indexBehind 39 = .ok (.imul, 1) := by decide +kernel
theorem dX7_indexBehind_40 : decode cX7_indexBehind 40 = .ok (.isub, 1) := by decide +kernel
theorem dX7_indexBehind_41 : decode cX7_indexBehind 41 = .ok (.istore_n 2, 1) := by decide +kernel
theorem dX7_indexBehind_42 : decode cX7_indexBehind 42 = .ok (.iinc 3 1, 3) := by decide +kernel
theorem dX7_indexBehind_45 : decode cX7_indexBehind 45 = .ok (.goto (-38), 3) := by decide +kernel
theorem dX7_indexBehind_48 : decode cX7_indexBehind 48 = .ok (.iload_n 2, 1) := by decide +kernel
theorem dX7_indexBehind_49 : decode cX7_indexBehind 49 = .ok (.ireturn, 1) := by decide +kernel
theorem dX8_init_0 : decode cX8_init 0 = .ok (.aload_n 0, 1) := by decide +kernel
theorem dX8_init_1 : decode cX8_init 1 = .ok (.invokespecial 3, 3) := by decide +kernel
theorem dX8_init_4 : decode cX8_init 4 = .ok (.aload_n 0, 1) := by decide +kernel
theorem dX8_init_5 : decode cX8_init 5 = .ok (.iconst 0, 1) := by decide +kernel
theorem dX8_init_6 : decode cX8_init 6 = .ok (.putfield 9, 3) := by decide +kernel
theorem dX8_init_9 : decode cX8_init 9 = .ok (.aload_n 0, 1) := by decide +kernel
theorem dX8_init_10 : decode cX8_init 10 = .ok (.bipush 60, 2) := by decide +kernel
theorem dX8_init_12 : decode cX8_init 12 = .ok (.newarray .int, 2) := by decide +kernel
theorem dX8_init_14 : decode cX8_init 14 = .ok (.putfield 15, 3) := by decide +kernel
theorem dX8_init_17 : decode cX8_init 17 = .ok (.aload_n 0, 1) := by decide +kernel
theorem dX8_init_18 : decode cX8_init 18 = .ok (.bipush 60, 2) := by decide +kernel
theorem dX8_init_20 : decode cX8_init 20 = .ok (.newarray .int, 2) := by decide +kernel
theorem dX8_init_22 : decode cX8_init 22 = .ok (.putfield 19, 3) := by decide +kernel
theorem dX8_init_25 : decode cX8_init 25 = .ok (.return_, 1) := by decide +kernel
theorem dX8_isSlot_0 : decode cX8_isSlot 0 = .ok (.iload_n 1, 1) := by decide +kernel
theorem dX8_isSlot_1 : decode cX8_isSlot 1 = .ok (.ifCond .lt 15, 3) := by decide +kernel
theorem dX8_isSlot_4 : decode cX8_isSlot 4 = .ok (.iload_n 1, 1) := by decide +kernel
theorem dX8_isSlot_5 : decode cX8_isSlot 5 = .ok (.aload_n 0, 1) := by decide +kernel
theorem dX8_isSlot_6 : decode cX8_isSlot 6 = .ok (.getfield 9, 3) := by decide +kernel
theorem dX8_isSlot_9 : decode cX8_isSlot 9 = .ok (.if_icmp .ge 7, 3) := by decide +kernel
theorem dX8_isSlot_12 : decode cX8_isSlot 12 = .ok (.iconst 1, 1) := by decide +kernel
theorem dX8_isSlot_13 : decode cX8_isSlot 13 = .ok (.goto 4, 3) := by decide +kernel
theorem dX8_isSlot_16 : decode cX8_isSlot 16 = .ok (.iconst 0, 1) := by decide +kernel
theorem dX8_isSlot_17 : decode cX8_isSlot 17 = .ok (.ireturn, 1) := by decide +kernel
theorem dX8_isFull_0 : decode cX8_isFull 0 = .ok (.aload_n 0, 1) := by decide +kernel
theorem dX8_isFull_1 : decode cX8_isFull 1 = .ok (.getfield 9, 3) := by decide +kernel
theorem dX8_isFull_4 : decode cX8_isFull 4 = .ok (.bipush 60, 2) := by decide +kernel
theorem dX8_isFull_6 : decode cX8_isFull 6 = .ok (.if_icmp .lt 7, 3) := by decide +kernel
theorem dX8_isFull_9 : decode cX8_isFull 9 = .ok (.iconst 1, 1) := by decide +kernel
theorem dX8_isFull_10 : decode cX8_isFull 10 = .ok (.goto 4, 3) := by decide +kernel
theorem dX8_isFull_13 : decode cX8_isFull 13 = .ok (.iconst 0, 1) := by decide +kernel
theorem dX8_isFull_14 : decode cX8_isFull 14 = .ok (.ireturn, 1) := by decide +kernel
theorem dX8_clear_0 : decode cX8_clear 0 = .ok (.aload_n 0, 1) := by decide +kernel
theorem dX8_clear_1 : decode cX8_clear 1 = .ok (.iconst 0, 1) := by decide +kernel
theorem dX8_clear_2 : decode cX8_clear 2 = .ok (.putfield 9, 3) := by decide +kernel
theorem dX8_clear_5 : decode cX8_clear 5 = .ok (.return_, 1) := by decide +kernel
set_option maxRecDepth 20000 in
theorem ggX8_add_X8_isFull : GoodIn wsX8_add wsX8_isFull := goodIn_r _ [8, 2, 9, 10, 11] (by decide +kernel) (by decide +kernel)
set_option maxRecDepth 20000 in
theorem gX8_add_X8_isFull : GoodIn wsX8_add (wsV RX8 22 RX8 yX8_isFull wsX8_isFull) := goodIn_app (goodIn_of _ (by decide +kernel)) ggX8_add_X8_isFull
theorem dX8_add_0 : decode cX8_add 0 = .ok (.aload_n 0, 1) := by decide +kernel
theorem dX8_add_1 : decode cX8_add 1 = .ok (.invokevirtual 22, 3) := by decide +kernel
theorem dX8_add_4 : decode cX8_add 4 = .ok (.ifCond .ne 33, 3) := by decide +kernel
theorem dX8_add_7 : decode cX8_add 7 = .ok (.aload_n 0, 1) := by decide +kernel
theorem dX8_add_8 : decode cX8_add 8 = .ok (.getfield 15, 3) := by decide +kernel
theorem dX8_add_11 : decode cX8_add 11 = .ok (.aload_n 0, 1) := by decide +kernel
theorem dX8_add_12 : decode cX8_add 12 = .ok (.getfield 9, 3) := by decide +kernel
theorem dX8_add_15 : decode cX8_add 15 = .ok (.iload_n 1, 1) := by decide +kernel
theorem dX8_add_16 : decode cX8_add 16 = .ok (.iastore, 1) := by decide +kernel
theorem dX8_add_17 : decode cX8_add 17 = .ok (.aload_n 0, 1) := by decide +kernel
theorem dX8_add_18 : decode cX8_add 18 = .ok (.getfield 19, 3) := by decide +kernel
theorem dX8_add_21 : decode cX8_add 21 = .ok (.aload_n 0, 1) := by decide +kernel
theorem dX8_add_22 : decode cX8_add 22 = .ok (.getfield 9, 3) := by decide +kernel
theorem dX8_add_25 : decode cX8_add 25 = .ok (.iload_n 2, 1) := by decide +kernel
theorem dX8_add_26 : decode cX8_add 26 = .ok (.iastore, 1) := by decide +kernel
theorem dX8_add_27 : decode cX8_add 27 = .ok (.aload_n 0, 1) := by decide +kernel
theorem dX8_add_28 : decode cX8_add 28 = .ok (.dup, 1) := by decide +kernel
theorem dX8_add_29 : decode cX8_add 29 = .ok (.getfield 9, 3) := by decide +kernel
theorem dX8_add_32 : decode cX8_add 32 = .ok (.iconst 1, 1) := by decide +kernel
theorem dX8_add_33 : decode cX8_add 33 = .ok (.iadd, 1) := by decide +kernel
theorem dX8_add_34 : decode cX8_add 34 = .ok (.putfield 9, 3) := by decide +kernel
theorem dX8_add_37 : decode cX8_add 37 = .ok (.return_, 1) := by decide +kernel
set_option maxRecDepth 20000 in
theorem ggX8_addRoll_X8_isFull : GoodIn wsX8_addRoll wsX8_isFull := goodIn_r _ [8, 1, 13, 14, 15] (by decide +kernel) (by decide +kernel)
set_option maxRecDepth 20000 in
theorem gX8_addRoll_X8_isFull : GoodIn wsX8_addRoll (wsV RX8 22 RX8 yX8_isFull wsX8_isFull) := goodIn_app (goodIn_of _ (by decide +kernel)) ggX8_addRoll_X8_isFull
set_option maxRecDepth 20000 in
theorem ggX8_addRoll_X8_add : GoodIn wsX8_addRoll wsX8_add := goodIn_r _ [12, 2, 1, 3, 4, 5, 6, 7, 8, 13, 14, 15] (by decide +kernel) (by decide +kernel)
set_option maxRecDepth 20000 in
theorem gX8_addRoll_X8_add : GoodIn wsX8_addRoll (wsV RX8 26 RX8 yX8_add wsX8_add) := goodIn_app (goodIn_of _ (by decide +kernel)) ggX8_addRoll_X8_add
theorem dX8_addRoll_0 : decode cX8_addRoll 0 = .ok (.aload_n 0, 1) := by decide +kernel
theorem dX8_addRoll_1 : decode cX8_addRoll 1 = .ok (.getfield 9, 3) := by decide +kernel
theorem dX8_addRoll_4 : decode cX8_addRoll 4 = .ok (.ifCond .le 35, 3) := by decide +kernel
theorem dX8_addRoll_7 : decode cX8_addRoll 7 = .ok (.aload_n 0, 1) := by decide +kernel
theorem dX8_addRoll_8 : decode cX8_addRoll 8 = .ok (.getfield 15, 3) := by decide +kernel
theorem dX8_addRoll_11 : decode cX8_addRoll 11 = .ok (.aload_n 0, 1) := by decide +kernel
theorem dX8_addRoll_12 : decode cX8_addRoll 12 = .ok (.getfield 9, 3) := by decide +kernel
theorem dX8_addRoll_15 : decode cX8_addRoll 15 = .ok (.iconst 1, 1) := by decide +kernel
theorem dX8_addRoll_16 : decode cX8_addRoll 16 = .ok (.isub, 1) := by decide +kernel
theorem dX8_addRoll_17 : decode cX8_addRoll 17 = .ok (.iaload, 1) := by decide +kernel
theorem dX8_addRoll_18 : decode cX8_addRoll 18 = .ok (.iload_n 1, 1) := by decide +kernel
theorem dX8_addRoll_19 : decode cX8_addRoll 19 = .ok (.if_icmp .ne 20, 3) := by decide +kernel
theorem dX8_addRoll_22 : decode cX8_addRoll 22 = .ok (.aload_n 0, 1) := by decide +kernel
theorem dX8_addRoll_23 : decode cX8_addRoll 23 = .ok (.getfield 19, 3) := by decide +kernel
theorem dX8_addRoll_26 : decode cX8_addRoll 26 = .ok (.aload_n 0, 1) := by decide +kernel
theorem dX8_addRoll_27 : decode cX8_addRoll 27 = .ok (.getfield 9, 3) := by decide +kernel
theorem dX8_addRoll_30 : decode cX8_addRoll 30 = .ok (.iconst 1, 1) := by decide +kernel
theorem dX8_addRoll_31 : decode cX8_addRoll 31 = .ok (.isub, 1) := by decide +kernel
theorem dX8_addRoll_32 : decode cX8_addRoll 32 = .ok (.dup2, 1) := by decide +kernel
theorem dX8_addRoll_33 : decode cX8_addRoll 33 = .ok (.iaload, 1) := by decide +kernel
theorem dX8_addRoll_34 : decode cX8_addRoll 34 = .ok (.iconst 1, 1) := by decide +kernel
theorem dX8_addRoll_35 : decode cX8_addRoll 35 = .ok (.iadd, 1) := by decide +kernel
theorem dX8_addRoll_36 : decode cX8_addRoll 36 = .ok (.iastore, 1) := by decide +kernel
theorem dX8_addRoll_37 : decode cX8_addRoll 37 = .ok (.iconst 1, 1) := by decide +kernel
theorem dX8_addRoll_38 : decode cX8_addRoll 38 = .ok (.ireturn, 1) := by decide +kernel
theorem dX8_addRoll_39 : decode cX8_addRoll 39 = .ok (.aload_n 0, 1) := by decide +kernel
theorem dX8_addRoll_40 : decode cX8_addRoll 40 = .ok (.invokevirtual 22, 3) := by decide +kernel
theorem dX8_addRoll_43 : decode cX8_addRoll 43 = .ok (.ifCond .eq 5, 3) := by decide +kernel
theorem dX8_addRoll_46 : decode cX8_addRoll 46 = .ok (.iconst 0, 1) := by decide +kernel
theorem dX8_addRoll_47 : decode cX8_addRoll 47 = .ok (.ireturn, 1) := by decide +kernel
theorem dX8_addRoll_48 : decode cX8_addRoll 48 = .ok (.aload_n 0, 1) := by decide +kernel
theorem dX8_addRoll_49 : decode cX8_addRoll 49 = .ok (.iload_n 1, 1) := by decide +kernel
theorem dX8_addRoll_50 : decode cX8_addRoll 50 = .ok (.iconst 1, 1) := by decide +kernel
theorem dX8_addRoll_51 : decode cX8_addRoll 51 = .ok (.invokevirtual 26, 3) := by decide +kernel
theorem dX8_addRoll_54 : decode cX8_addRoll 54 = .ok (.iconst 1, 1) := by decide +kernel
theorem dX8_addRoll_55 : decode cX8_addRoll 55 = .ok (.ireturn, 1) := by decide +kernel
set_option maxRecDepth 20000 in
theorem ggX8_takeRoll_X8_remove : GoodIn wsX8_takeRoll wsX8_remove := goodIn_r _ [6, 7, 8, 1, 9, 10, 11] (by decide +kernel) (by decide +kernel)
set_option maxRecDepth 20000 in
theorem gX8_takeRoll_X8_remove : GoodIn wsX8_takeRoll (wsV RX8 30 RX8 yX8_remove wsX8_remove) := goodIn_app (goodIn_of _ (by decide +kernel)) ggX8_takeRoll_X8_remove
theorem dX8_takeRoll_0 : decode cX8_takeRoll 0 = .ok (.aload_n 0, 1) := by decide +kernel
theorem dX8_takeRoll_1 : decode cX8_takeRoll 1 = .ok (.getfield 19, 3) := by decide +kernel
theorem dX8_takeRoll_4 : decode cX8_takeRoll 4 = .ok (.iload_n 1, 1) := by decide +kernel
theorem dX8_takeRoll_5 : decode cX8_takeRoll 5 = .ok (.dup2, 1) := by decide +kernel
theorem dX8_takeRoll_6 : decode cX8_takeRoll 6 = .ok (.iaload, 1) := by decide +kernel
theorem dX8_takeRoll_7 : decode cX8_takeRoll 7 = .ok (.iconst 1, 1) := by decide +kernel
theorem dX8_takeRoll_8 : decode cX8_takeRoll 8 = .ok (.isub, 1) := by decide +kernel
theorem dX8_takeRoll_9 : decode cX8_takeRoll 9 = .ok (.iastore, 1) := by decide +kernel
theorem dX8_takeRoll_10 : decode cX8_takeRoll 10 = .ok (.aload_n 0, 1) := by decide +kernel
theorem dX8_takeRoll_11 : decode cX8_takeRoll 11 = .ok (.getfield 19, 3) := by decide +kernel
theorem dX8_takeRoll_14 : decode cX8_takeRoll 14 = .ok (.iload_n 1, 1) := by decide +kernel
theorem dX8_takeRoll_15 : decode cX8_takeRoll 15 = .ok (.iaload, 1) := by decide +kernel
theorem dX8_takeRoll_16 : decode cX8_takeRoll 16 = .ok (.iconst 1, 1) := by decide +kernel
theorem dX8_takeRoll_17 : decode cX8_takeRoll 17 = .ok (.if_icmp .ge 8, 3) := by decide +kernel
theorem dX8_takeRoll_20 : decode cX8_takeRoll 20 = .ok (.aload_n 0, 1) := by decide +kernel
theorem dX8_takeRoll_21 : decode cX8_takeRoll 21 = .ok (.iload_n 1, 1) := by decide +kernel
theorem dX8_takeRoll_22 : decode cX8_takeRoll 22 = .ok (.invokevirtual 30, 3) := by decide +kernel
theorem dX8_takeRoll_25 : decode cX8_takeRoll 25 = .ok (.return_, 1) := by decide +kernel
theorem dX8_remove_0 : decode cX8_remove 0 = .ok (.iload_n 1, 1) := by decide +kernel
theorem dX8_remove_1 : decode cX8_remove 1 = .ok (.iconst 1, 1) := by decide +kernel
theorem dX8_remove_2 : decode cX8_remove 2 = .ok (.iadd, 1) := by decide +kernel
theorem dX8_remove_3 : decode cX8_remove 3 = .ok (.istore_n 2, 1) := by decide +kernel
theorem dX8_remove_4 : decode cX8_remove 4 = .ok (.iload_n 2, 1) := by decide +kernel
theorem dX8_remove_5 : decode cX8_remove 5 = .ok (.aload_n 0, 1) := by decide +kernel
theorem dX8_remove_6 : decode cX8_remove 6 = .ok (.getfield 9, 3) := by decide +kernel
theorem dX8_remove_9 : decode cX8_remove 9 = .ok (.if_icmp .ge 37, 3) := by decide +kernel
theorem dX8_remove_12 : decode cX8_remove 12 = .ok (.aload_n 0, 1) := by decide +kernel
theorem dX8_remove_13 : decode cX8_remove 13 = .ok (.getfield 15, 3) := by decide +kernel
theorem dX8_remove_16 : decode cX8_remove 16 = .ok (.iload_n 2, 1) := by decide +kernel
theorem dX8_remove_17 : decode cX8_remove 17 = .ok (.iconst 1, 1) := by decide +kernel
theorem dX8_remove_18 : decode cX8_remove 18 = .ok (.isub, 1) := by decide +kernel
theorem dX8_remove_19 : decode cX8_remove 19 = .ok (.aload_n 0, 1) := by decide +kernel
theorem dX8_remove_20 : decode cX8_remove 20 = .ok (.getfield 15, 3) := by decide +kernel
theorem dX8_remove_23 : decode cX8_remove 23 = .ok (.iload_n 2, 1) := by decide +kernel
theorem dX8_remove_24 : decode cX8_remove 24 = .ok (.iaload, 1) := by decide +kernel
theorem dX8_remove_25 : decode cX8_remove 25 = .ok (.iastore, 1) := by decide +kernel
theorem dX8_remove_26 : decode cX8_remove 26 = .ok (.aload_n 0, 1) := by decide +kernel
theorem dX8_remove_27 : decode cX8_remove 27 = .ok (.getfield 19, 3) := by decide +kernel
theorem dX8_remove_30 : decode cX8_remove 30 = .ok (.iload_n 2, 1) := by decide +kernel
theorem dX8_remove_31 : decode cX8_remove 31 = .ok (.iconst 1, 1) := by decide +kernel
theorem dX8_remove_32 : decode cX8_remove 32 = .ok (.isub, 1) := by decide +kernel
theorem dX8_remove_33 : decode cX8_remove 33 = .ok (.aload_n 0, 1) := by decide +kernel
theorem dX8_remove_34 : decode cX8_remove 34 = .ok (.getfield 19, 3) := by decide +kernel
theorem dX8_remove_37 : decode cX8_remove 37 = .ok (.iload_n 2, 1) := by decide +kernel
theorem dX8_remove_38 : decode cX8_remove 38 = .ok (.iaload, 1) := by decide +kernel
theorem dX8_remove_39 : decode cX8_remove 39 = .ok (.iastore, 1) := by decide +kernel
theorem dX8_remove_40 : decode cX8_remove 40 = .ok (.iinc 2 1, 3) := by decide +kernel
theorem dX8_remove_43 : decode cX8_remove 43 = .ok (.goto (-39), 3) := by decide +kernel
theorem dX8_remove_46 : decode cX8_remove 46 = .ok (.aload_n 0, 1) := by decide +kernel
theorem dX8_remove_47 : decode cX8_remove 47 = .ok (.dup, 1) := by decide +kernel
theorem dX8_remove_48 : decode cX8_remove 48 = .ok (.getfield 9, 3) := by decide +kernel
theorem dX8_remove_51 : decode cX8_remove 51 = .ok (.iconst 1, 1) := by decide +kernel
theorem dX8_remove_52 : decode cX8_remove 52 = .ok (.isub, 1) := by decide +kernel
theorem dX8_remove_53 : decode cX8_remove 53 = .ok (.putfield 9, 3) := by decide +kernel
theorem dX8_remove_56 : decode cX8_remove 56 = .ok (.return_, 1) := by decide +kernel
theorem dX8_copyFrom_0 : decode cX8_copyFrom 0 = .ok (.aload_n 0, 1) := by decide +kernel
theorem dX8_copyFrom_1 : decode cX8_copyFrom 1 = .ok (.aload_n 1, 1) := by decide +kernel
theorem dX8_copyFrom_2 : decode cX8_copyFrom 2 = .ok (.getfield 9, 3) := by decide +kernel
theorem dX8_copyFrom_5 : decode cX8_copyFrom 5 = .ok (.putfield 9, 3) := by decide +kernel
theorem dX8_copyFrom_8 : decode cX8_copyFrom 8 = .ok (.iconst 0, 1) := by decide +kernel
theorem dX8_copyFrom_9 : decode cX8_copyFrom 9 = .ok (.istore_n 2, 1) := by decide +kernel
theorem dX8_copyFrom_10 : decode cX8_copyFrom 10 = .ok (.iload_n 2, 1) := by decide +kernel
theorem dX8_copyFrom_11 : decode cX8_copyFrom 11 = .ok (.aload_n 0, 1) := by decide +kernel
theorem dX8_copyFrom_12 : decode cX8_copyFrom 12 = .ok (.getfield 9, 3) := by decide +kernel
theorem dX8_copyFrom_15 : decode cX8_copyFrom 15 = .ok (.if_icmp .ge 33, 3) := by decide +kernel
theorem dX8_copyFrom_18 : decode cX8_copyFrom 18 = .ok (.aload_n 0, 1) := by decide +kernel
theorem dX8_copyFrom_19 : decode cX8_copyFrom 19 = .ok (.getfield 15, 3) := by decide +kernel
theorem dX8_copyFrom_22 : decode cX8_copyFrom 22 = .ok (.iload_n 2, 1) := by decide +kernel
theorem dX8_copyFrom_23 : decode cX8_copyFrom 23 = .ok (.aload_n 1, 1) := by decide +kernel
theorem dX8_copyFrom_24 : decode cX8_copyFrom 24 = .ok (.getfield 15, 3) := by decide +kernel
theorem dX8_copyFrom_27 : decode cX8_copyFrom 27 = .ok (.iload_n 2, 1) := by decide +kernel
theorem dX8_copyFrom_28 : decode cX8_copyFrom 28 = .ok (.iaload, 1) := by decide +kernel
theorem dX8_copyFrom_29 : decode cX8_copyFrom 29 = .ok (.iastore, 1) := by decide +kernel
theorem dX8_copyFrom_30 : decode cX8_copyFrom 30 = .ok (.aload_n 0, 1) := by decide +kernel
theorem dX8_copyFrom_31 : decode cX8_copyFrom 31 = .ok (.getfield 19, 3) := by decide +kernel
theorem dX8_copyFrom_34 : decode cX8_copyFrom 34 = .ok (.iload_n 2, 1) := by decide +kernel
theorem dX8_copyFrom_35 : decode cX8_copyFrom 35 = .ok (.aload_n 1, 1) := by decide +kernel
theorem dX8_copyFrom_36 : decode cX8_copyFrom 36 = .ok (.getfield 19, 3) := by decide +kernel
theorem dX8_copyFrom_39 : decode cX8_copyFrom 39 = .ok (.iload_n 2, 1) := by decide +kernel
theorem dX8_copyFrom_40 : decode cX8_copyFrom 40 = .ok (.iaload, 1) := by decide +kernel
theorem dX8_copyFrom_41 : decode cX8_copyFrom 41 = .ok (.iastore, 1) := by decide +kernel
theorem dX8_copyFrom_42 : decode cX8_copyFrom 42 = .ok (.iinc 2 1, 3) := by decide +kernel
theorem dX8_copyFrom_45 : decode cX8_copyFrom 45 = .ok (.goto (-35), 3) := by decide +kernel
theorem dX8_copyFrom_48 : decode cX8_copyFrom 48 = .ok (.return_, 1) := by decide +kernel
theorem dX8_allRolls_0 : decode cX8_allRolls 0 = .ok (.iconst 0, 1) := by decide +kernel
theorem dX8_allRolls_1 : decode cX8_allRolls 1 = .ok (.istore_n 1, 1) := by decide +kernel
theorem dX8_allRolls_2 : decode cX8_allRolls 2 = .ok (.iconst 0, 1) := by decide +kernel
theorem dX8_allRolls_3 : decode cX8_allRolls 3 = .ok (.istore_n 2, 1) := by decide +kernel
theorem dX8_allRolls_4 : decode cX8_allRolls 4 = .ok (.iload_n 2, 1) := by decide +kernel
theorem dX8_allRolls_5 : decode cX8_allRolls 5 = .ok (.aload_n 0, 1) := by decide +kernel
theorem dX8_allRolls_6 : decode cX8_allRolls 6 = .ok (.getfield 9, 3) := by decide +kernel
theorem dX8_allRolls_9 : decode cX8_allRolls 9 = .ok (.if_icmp .ge 18, 3) := by decide +kernel
theorem dX8_allRolls_12 : decode cX8_allRolls 12 = .ok (.iload_n 1, 1) := by decide +kernel
theorem dX8_allRolls_13 : decode cX8_allRolls 13 = .ok (.aload_n 0, 1) := by decide +kernel
theorem dX8_allRolls_14 : decode cX8_allRolls 14 = .ok (.getfield 19, 3) := by decide +kernel
theorem dX8_allRolls_17 : decode cX8_allRolls 17 = .ok (.iload_n 2, 1) := by decide +kernel
theorem dX8_allRolls_18 : decode cX8_allRolls 18 = .ok (.iaload, 1) := by decide +kernel
theorem dX8_allRolls_19 : decode cX8_allRolls 19 = .ok (.iadd, 1) := by decide +kernel
theorem dX8_allRolls_20 : decode cX8_allRolls 20 = .ok (.istore_n 1, 1) := by decide +kernel
theorem dX8_allRolls_21 : decode cX8_allRolls 21 = .ok (.iinc 2 1, 3) := by decide +kernel
theorem dX8_allRolls_24 : decode cX8_allRolls 24 = .ok (.goto (-20), 3) := by decide +kernel
theorem dX8_allRolls_27 : decode cX8_allRolls 27 = .ok (.iload_n 1, 1) := by decide +kernel
theorem dX8_allRolls_28 : decode cX8_allRolls 28 = .ok (.ireturn, 1) := by decide +kernel
set_option maxRecDepth 20000 in
theorem ggX8_piecesOf_X0_ofWidth : GoodIn wsX8_piecesOf wsX0_ofWidth := goodIn_r _ [7] (by decide +kernel) (by decide +kernel)
set_option maxRecDepth 20000 in
theorem gX8_piecesOf_X0_ofWidth : GoodIn wsX8_piecesOf (va_wsS RX8 34 yX0_ofWidth wsX0_ofWidth) := goodIn_app (goodIn_of _ (by decide +kernel)) ggX8_piecesOf_X0_ofWidth
theorem dX8_piecesOf_0 : decode cX8_piecesOf 0 = .ok (.iconst 0, 1) := by decide +kernel
theorem dX8_piecesOf_1 : decode cX8_piecesOf 1 = .ok (.istore_n 2, 1) := by decide +kernel
theorem dX8_piecesOf_2 : decode cX8_piecesOf 2 = .ok (.iconst 0, 1) := by decide +kernel
theorem dX8_piecesOf_3 : decode cX8_piecesOf 3 = .ok (.istore_n 3, 1) := by decide +kernel
theorem dX8_piecesOf_4 : decode cX8_piecesOf 4 = .ok (.iload_n 3, 1) := by decide +kernel
theorem dX8_piecesOf_5 : decode cX8_piecesOf 5 = .ok (.aload_n 0, 1) := by decide +kernel
theorem dX8_piecesOf_6 : decode cX8_piecesOf 6 = .ok (.getfield 9, 3) := by decide +kernel
theorem dX8_piecesOf_9 : decode cX8_piecesOf 9 = .ok (.if_icmp .ge 29, 3) := by decide +kernel
theorem dX8_piecesOf_12 : decode cX8_piecesOf 12 = .ok (.iload_n 2, 1) := by decide +kernel
theorem dX8_piecesOf_13 : decode cX8_piecesOf 13 = .ok (.aload_n 0, 1) := by decide +kernel
theorem dX8_piecesOf_14 : decode cX8_piecesOf 14 = .ok (.getfield 19, 3) := by decide +kernel
theorem dX8_piecesOf_17 : decode cX8_piecesOf 17 = .ok (.iload_n 3, 1) := by decide +kernel
theorem dX8_piecesOf_18 : decode cX8_piecesOf 18 = .ok (.iaload, 1) := by decide +kernel
theorem dX8_piecesOf_19 : decode cX8_piecesOf 19 = .ok (.aload_n 0, 1) := by decide +kernel
theorem dX8_piecesOf_20 : decode cX8_piecesOf 20 = .ok (.getfield 15, 3) := by decide +kernel
theorem dX8_piecesOf_23 : decode cX8_piecesOf 23 = .ok (.iload_n 3, 1) := by decide +kernel
theorem dX8_piecesOf_24 : decode cX8_piecesOf 24 = .ok (.iaload, 1) := by decide +kernel
theorem dX8_piecesOf_25 : decode cX8_piecesOf 25 = .ok (.iload_n 1, 1) := by decide +kernel
theorem dX8_piecesOf_26 : decode cX8_piecesOf 26 = .ok (.invokestatic 34, 3) := by decide +kernel
theorem dX8_piecesOf_29 : decode cX8_piecesOf 29 = .ok (.imul, 1) := by decide +kernel
theorem dX8_piecesOf_30 : decode cX8_piecesOf 30 = .ok (.iadd, 1) := by decide +kernel
theorem dX8_piecesOf_31 : decode cX8_piecesOf 31 = .ok (.istore_n 2, 1) := by decide +kernel
theorem dX8_piecesOf_32 : decode cX8_piecesOf 32 = .ok (.iinc 3 1, 3) := by decide +kernel
theorem dX8_piecesOf_35 : decode cX8_piecesOf 35 = .ok (.goto (-31), 3) := by decide +kernel
theorem dX8_piecesOf_38 : decode cX8_piecesOf 38 = .ok (.iload_n 2, 1) := by decide +kernel
theorem dX8_piecesOf_39 : decode cX8_piecesOf 39 = .ok (.ireturn, 1) := by decide +kernel
theorem dX9_init_0 : decode cX9_init 0 = .ok (.aload_n 0, 1) := by decide +kernel
theorem dX9_init_1 : decode cX9_init 1 = .ok (.invokespecial 3, 3) := by decide +kernel
theorem dX9_init_4 : decode cX9_init 4 = .ok (.aload_n 0, 1) := by decide +kernel
theorem dX9_init_5 : decode cX9_init 5 = .ok (.iconst 0, 1) := by decide +kernel
theorem dX9_init_6 : decode cX9_init 6 = .ok (.putfield 9, 3) := by decide +kernel
theorem dX9_init_9 : decode cX9_init 9 = .ok (.aload_n 0, 1) := by decide +kernel
theorem dX9_init_10 : decode cX9_init 10 = .ok (.bipush 8, 2) := by decide +kernel
theorem dX9_init_12 : decode cX9_init 12 = .ok (.newarray .int, 2) := by decide +kernel
theorem dX9_init_14 : decode cX9_init 14 = .ok (.putfield 15, 3) := by decide +kernel
theorem dX9_init_17 : decode cX9_init 17 = .ok (.aload_n 0, 1) := by decide +kernel
theorem dX9_init_18 : decode cX9_init 18 = .ok (.bipush 8, 2) := by decide +kernel
theorem dX9_init_20 : decode cX9_init 20 = .ok (.newarray .int, 2) := by decide +kernel
theorem dX9_init_22 : decode cX9_init 22 = .ok (.putfield 19, 3) := by decide +kernel
theorem dX9_init_25 : decode cX9_init 25 = .ok (.aload_n 0, 1) := by decide +kernel
theorem dX9_init_26 : decode cX9_init 26 = .ok (.bipush 8, 2) := by decide +kernel
theorem dX9_init_28 : decode cX9_init 28 = .ok (.newarray .boolean, 2) := by decide +kernel
theorem dX9_init_30 : decode cX9_init 30 = .ok (.putfield 22, 3) := by decide +kernel
theorem dX9_init_33 : decode cX9_init 33 = .ok (.return_, 1) := by decide +kernel
theorem dX9_isLot_0 : decode cX9_isLot 0 = .ok (.iload_n 1, 1) := by decide +kernel
theorem dX9_isLot_1 : decode cX9_isLot 1 = .ok (.ifCond .lt 15, 3) := by decide +kernel
theorem dX9_isLot_4 : decode cX9_isLot 4 = .ok (.iload_n 1, 1) := by decide +kernel
theorem dX9_isLot_5 : decode cX9_isLot 5 = .ok (.aload_n 0, 1) := by decide +kernel
theorem dX9_isLot_6 : decode cX9_isLot 6 = .ok (.getfield 9, 3) := by decide +kernel
theorem dX9_isLot_9 : decode cX9_isLot 9 = .ok (.if_icmp .ge 7, 3) := by decide +kernel
theorem dX9_isLot_12 : decode cX9_isLot 12 = .ok (.iconst 1, 1) := by decide +kernel
theorem dX9_isLot_13 : decode cX9_isLot 13 = .ok (.goto 4, 3) := by decide +kernel
theorem dX9_isLot_16 : decode cX9_isLot 16 = .ok (.iconst 0, 1) := by decide +kernel
theorem dX9_isLot_17 : decode cX9_isLot 17 = .ok (.ireturn, 1) := by decide +kernel
theorem dX9_isFull_0 : decode cX9_isFull 0 = .ok (.aload_n 0, 1) := by decide +kernel
theorem dX9_isFull_1 : decode cX9_isFull 1 = .ok (.getfield 9, 3) := by decide +kernel
theorem dX9_isFull_4 : decode cX9_isFull 4 = .ok (.bipush 8, 2) := by decide +kernel
theorem dX9_isFull_6 : decode cX9_isFull 6 = .ok (.if_icmp .lt 7, 3) := by decide +kernel
theorem dX9_isFull_9 : decode cX9_isFull 9 = .ok (.iconst 1, 1) := by decide +kernel
theorem dX9_isFull_10 : decode cX9_isFull 10 = .ok (.goto 4, 3) := by decide +kernel
theorem dX9_isFull_13 : decode cX9_isFull 13 = .ok (.iconst 0, 1) := by decide +kernel
theorem dX9_isFull_14 : decode cX9_isFull 14 = .ok (.ireturn, 1) := by decide +kernel
set_option maxRecDepth 20000 in
theorem ggX9_add_X9_isFull : GoodIn wsX9_add wsX9_isFull := goodIn_r _ [9, 2, 10, 11, 12, 13] (by decide +kernel) (by decide +kernel)
set_option maxRecDepth 20000 in
theorem gX9_add_X9_isFull : GoodIn wsX9_add (wsV RX9 26 RX9 yX9_isFull wsX9_isFull) := goodIn_app (goodIn_of _ (by decide +kernel)) ggX9_add_X9_isFull
theorem dX9_add_0 : decode cX9_add 0 = .ok (.aload_n 0, 1) := by decide +kernel
theorem dX9_add_1 : decode cX9_add 1 = .ok (.invokevirtual 26, 3) := by decide +kernel
theorem dX9_add_4 : decode cX9_add 4 = .ok (.ifCond .ne 43, 3) := by decide +kernel
theorem dX9_add_7 : decode cX9_add 7 = .ok (.aload_n 0, 1) := by decide +kernel
theorem dX9_add_8 : decode cX9_add 8 = .ok (.getfield 15, 3) := by decide +kernel
theorem dX9_add_11 : decode cX9_add 11 = .ok (.aload_n 0, 1) := by decide +kernel
theorem dX9_add_12 : decode cX9_add 12 = .ok (.getfield 9, 3) := by decide +kernel
theorem dX9_add_15 : decode cX9_add 15 = .ok (.iload_n 1, 1) := by decide +kernel
theorem dX9_add_16 : decode cX9_add 16 = .ok (.iastore, 1) := by decide +kernel
theorem dX9_add_17 : decode cX9_add 17 = .ok (.aload_n 0, 1) := by decide +kernel
theorem dX9_add_18 : decode cX9_add 18 = .ok (.getfield 19, 3) := by decide +kernel
theorem dX9_add_21 : decode cX9_add 21 = .ok (.aload_n 0, 1) := by decide +kernel
theorem dX9_add_22 : decode cX9_add 22 = .ok (.getfield 9, 3) := by decide +kernel
theorem dX9_add_25 : decode cX9_add 25 = .ok (.iload_n 2, 1) := by decide +kernel
theorem dX9_add_26 : decode cX9_add 26 = .ok (.iastore, 1) := by decide +kernel
theorem dX9_add_27 : decode cX9_add 27 = .ok (.aload_n 0, 1) := by decide +kernel
theorem dX9_add_28 : decode cX9_add 28 = .ok (.getfield 22, 3) := by decide +kernel
theorem dX9_add_31 : decode cX9_add 31 = .ok (.aload_n 0, 1) := by decide +kernel
theorem dX9_add_32 : decode cX9_add 32 = .ok (.getfield 9, 3) := by decide +kernel
theorem dX9_add_35 : decode cX9_add 35 = .ok (.iload_n 3, 1) := by decide +kernel
theorem dX9_add_36 : decode cX9_add 36 = .ok (.bastore, 1) := by decide +kernel
theorem dX9_add_37 : decode cX9_add 37 = .ok (.aload_n 0, 1) := by decide +kernel
theorem dX9_add_38 : decode cX9_add 38 = .ok (.dup, 1) := by decide +kernel
theorem dX9_add_39 : decode cX9_add 39 = .ok (.getfield 9, 3) := by decide +kernel
theorem dX9_add_42 : decode cX9_add 42 = .ok (.iconst 1, 1) := by decide +kernel
theorem dX9_add_43 : decode cX9_add 43 = .ok (.iadd, 1) := by decide +kernel
theorem dX9_add_44 : decode cX9_add 44 = .ok (.putfield 9, 3) := by decide +kernel
theorem dX9_add_47 : decode cX9_add 47 = .ok (.return_, 1) := by decide +kernel
set_option maxRecDepth 20000 in
theorem ggX9_takeRoll_X9_isFull : GoodIn wsX9_takeRoll wsX9_isFull := goodIn_r _ [8, 9, 14, 15, 16, 17] (by decide +kernel) (by decide +kernel)
set_option maxRecDepth 20000 in
theorem gX9_takeRoll_X9_isFull : GoodIn wsX9_takeRoll (wsV RX9 26 RX9 yX9_isFull wsX9_isFull) := goodIn_app (goodIn_of _ (by decide +kernel)) ggX9_takeRoll_X9_isFull
set_option maxRecDepth 20000 in
theorem ggX9_takeRoll_X9_add : GoodIn wsX9_takeRoll wsX9_add := goodIn_r _ [13, 2, 9, 1, 3, 4, 5, 6, 7, 8, 14, 15, 16, 17] (by decide +kernel) (by decide +kernel)
set_option maxRecDepth 20000 in
theorem gX9_takeRoll_X9_add : GoodIn wsX9_takeRoll (wsV RX9 30 RX9 yX9_add wsX9_add) := goodIn_app (goodIn_of _ (by decide +kernel)) ggX9_takeRoll_X9_add
theorem dX9_takeRoll_0 : decode cX9_takeRoll 0 = .ok (.aload_n 0, 1) := by decide +kernel
theorem dX9_takeRoll_1 : decode cX9_takeRoll 1 = .ok (.getfield 19, 3) := by decide +kernel
theorem dX9_takeRoll_4 : decode cX9_takeRoll 4 = .ok (.iload_n 1, 1) := by decide +kernel
theorem dX9_takeRoll_5 : decode cX9_takeRoll 5 = .ok (.dup2, 1) := by decide +kernel
theorem dX9_takeRoll_6 : decode cX9_takeRoll 6 = .ok (.iaload, 1) := by decide +kernel
theorem dX9_takeRoll_7 : decode cX9_takeRoll 7 = .ok (.iconst 1, 1) := by decide +kernel
theorem dX9_takeRoll_8 : decode cX9_takeRoll 8 = .ok (.isub, 1) := by decide +kernel
theorem dX9_takeRoll_9 : decode cX9_takeRoll 9 = .ok (.iastore, 1) := by decide +kernel
theorem dX9_takeRoll_10 : decode cX9_takeRoll 10 = .ok (.aload_n 0, 1) := by decide +kernel
theorem dX9_takeRoll_11 : decode cX9_takeRoll 11 = .ok (.getfield 15, 3) := by decide +kernel
theorem dX9_takeRoll_14 : decode cX9_takeRoll 14 = .ok (.iload_n 1, 1) := by decide +kernel
theorem dX9_takeRoll_15 : decode cX9_takeRoll 15 = .ok (.iaload, 1) := by decide +kernel
theorem dX9_takeRoll_16 : decode cX9_takeRoll 16 = .ok (.iload_n 2, 1) := by decide +kernel
theorem dX9_takeRoll_17 : decode cX9_takeRoll 17 = .ok (.isub, 1) := by decide +kernel
theorem dX9_takeRoll_18 : decode cX9_takeRoll 18 = .ok (.istore 4, 2) := by decide +kernel
theorem dX9_takeRoll_20 : decode cX9_takeRoll 20 = .ok (.iload 4, 2) := by decide +kernel
theorem dX9_takeRoll_22 : decode cX9_takeRoll 22 = .ok (.iload_n 3, 1) := by decide +kernel
theorem dX9_takeRoll_23 : decode cX9_takeRoll 23 = .ok (.if_icmp .lt 10, 3) := by decide +kernel
theorem dX9_takeRoll_26 : decode cX9_takeRoll 26 = .ok (.aload_n 0, 1) := by decide +kernel
theorem dX9_takeRoll_27 : decode cX9_takeRoll 27 = .ok (.invokevirtual 26, 3) := by decide +kernel
theorem dX9_takeRoll_30 : decode cX9_takeRoll 30 = .ok (.ifCond .eq 5, 3) := by decide +kernel
theorem dX9_takeRoll_33 : decode cX9_takeRoll 33 = .ok (.iconst 0, 1) := by decide +kernel
theorem dX9_takeRoll_34 : decode cX9_takeRoll 34 = .ok (.ireturn, 1) := by decide +kernel
theorem dX9_takeRoll_35 : decode cX9_takeRoll 35 = .ok (.aload_n 0, 1) := by decide +kernel
theorem dX9_takeRoll_36 : decode cX9_takeRoll 36 = .ok (.iload 4, 2) := by decide +kernel
theorem dX9_takeRoll_38 : decode cX9_takeRoll 38 = .ok (.iconst 1, 1) := by decide +kernel
theorem dX9_takeRoll_39 : decode cX9_takeRoll 39 = .ok (.aload_n 0, 1) := by decide +kernel
theorem dX9_takeRoll_40 : decode cX9_takeRoll 40 = .ok (.getfield 22, 3) := by decide +kernel
theorem dX9_takeRoll_43 : decode cX9_takeRoll 43 = .ok (.iload_n 1, 1) := by decide +kernel
theorem dX9_takeRoll_44 : decode cX9_takeRoll 44 = .ok (.baload, 1) := by decide +kernel
theorem dX9_takeRoll_45 : decode cX9_takeRoll 45 = .ok (.invokevirtual 30, 3) := by decide +kernel
theorem dX9_takeRoll_48 : decode cX9_takeRoll 48 = .ok (.iload 4, 2) := by decide +kernel
theorem dX9_takeRoll_50 : decode cX9_takeRoll 50 = .ok (.ireturn, 1) := by decide +kernel
set_option maxRecDepth 20000 in
theorem ggX10_init_X4_init : GoodIn wsX10_init wsX4_init := goodIn_r _ [47, 48, 2, 3, 49, 50, 51, 52, 53, 54, 55, 56, 57, 125, 126, 127, 128, 129, 130, 131, 132] (by decide +kernel) (by decide +kernel)
set_option maxRecDepth 20000 in
theorem gX10_init_X4_init_n9 : GoodIn wsX10_init (wsX4_init) := ggX10_init_X4_init
set_option maxRecDepth 20000 in
theorem ggX10_init_X5_init : GoodIn wsX10_init wsX5_init := goodIn_r _ [60, 61, 2, 3, 55, 62, 63, 64, 65, 66, 148, 149, 150, 151, 152] (by decide +kernel) (by decide +kernel)
set_option maxRecDepth 20000 in
theorem gX10_init_X5_init : GoodIn wsX10_init (wsX5_init) := ggX10_init_X5_init
set_option maxRecDepth 20000 in
theorem ggX10_init_X6_init : GoodIn wsX10_init wsX6_init := goodIn_r _ [69, 70, 2, 3, 55, 71, 72, 73, 74, 75, 76, 153, 154, 155, 156, 157, 158] (by decide +kernel) (by decide +kernel)
set_option maxRecDepth 20000 in
theorem gX10_init_X6_init : GoodIn wsX10_init (wsX6_init) := ggX10_init_X6_init
set_option maxRecDepth 20000 in
theorem ggX10_init_X8_init : GoodIn wsX10_init wsX8_init := goodIn_r _ [78, 79, 2, 3, 80, 55, 81, 82, 159, 160, 161] (by decide +kernel) (by decide +kernel)
set_option maxRecDepth 20000 in
theorem gX10_init_X8_init_n34 : GoodIn wsX10_init (wsX8_init) := ggX10_init_X8_init
set_option maxRecDepth 20000 in
theorem ggX10_init_X1_init : GoodIn wsX10_init wsX1_init := goodIn_r _ [84, 85, 2, 3, 86, 55, 87, 162, 163] (by decide +kernel) (by decide +kernel)
set_option maxRecDepth 20000 in
theorem gX10_init_X1_init_n47 : GoodIn wsX10_init (wsX1_init) := ggX10_init_X1_init
set_option maxRecDepth 20000 in
theorem ggX10_init_X3_init : GoodIn wsX10_init wsX3_init := goodIn_r _ [89, 90, 2, 3, 91, 55, 92, 93, 94, 164, 165, 166, 167] (by decide +kernel) (by decide +kernel)
set_option maxRecDepth 20000 in
theorem gX10_init_X3_init_n60 : GoodIn wsX10_init (wsX3_init) := ggX10_init_X3_init
set_option maxRecDepth 20000 in
theorem ggX10_init_X7_init : GoodIn wsX10_init wsX7_init := goodIn_r _ [97, 98, 2, 3, 55, 99, 100, 101, 102, 103, 104, 105, 106, 107, 168, 169, 170, 171, 172, 173, 174, 175, 176] (by decide +kernel) (by decide +kernel)
set_option maxRecDepth 20000 in
theorem gX10_init_X7_init : GoodIn wsX10_init (wsX7_init) := ggX10_init_X7_init
set_option maxRecDepth 20000 in
theorem ggX10_init_X9_init : GoodIn wsX10_init wsX9_init := goodIn_r _ [109, 110, 2, 3, 111, 55, 112, 113, 114, 115, 177, 178, 179, 180] (by decide +kernel) (by decide +kernel)
set_option maxRecDepth 20000 in
theorem gX10_init_X9_init_n74 : GoodIn wsX10_init (wsX9_init) := ggX10_init_X9_init
set_option maxRecDepth 20000 in
theorem ggX10_init_X2_init : GoodIn wsX10_init wsX2_init := goodIn_r _ [117, 118, 2, 3, 119, 120, 121, 122, 123, 124, 181, 182, 183, 184, 185, 186] (by decide +kernel) (by decide +kernel)
set_option maxRecDepth 20000 in
theorem gX10_init_X2_init_n81 : GoodIn wsX10_init (wsX2_init) := ggX10_init_X2_init
